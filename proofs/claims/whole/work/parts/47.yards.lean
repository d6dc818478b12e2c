/-! how far points are: yards, nearest, moves, torn -/
def ab (x : Int) : Int := if 0 ≤ x then x else 0 - x
def mx (a b : Int) : Int := if a < b then b else a
def tX (t a x y : Int) : Int := if t = 0 then a + x else if t = 1 then a - y else if t = 2 then a - x else a + y
def tY (t a x y : Int) : Int := if t = 0 then a + y else if t = 1 then a + x else if t = 2 then a - y else a - x
def FAR (T X Y : Nat → Int) (k x y l u v : Int) : Int := mx (ab (tX (T k.toNat) (X k.toNat) x y - tX (T l.toNat) (X l.toNat) u v)) (ab (tY (T k.toNat) (Y k.toNat) x y - tY (T l.toNat) (Y l.toNat) u v))
def DBT (E : Nat → Int) (k l : Int) : Int := if k = l then E k.toNat else E k.toNat + E l.toNat
def LEA (E T X Y : Nat → Int) (k x y l u v : Int) : Int := if DBT E k l < FAR T X Y k x y l u v then FAR T X Y k x y l u v - DBT E k l else 0
def NRF (E T X Y : Nat → Int) (n : Nat) (P Q R : Nat → Int) (k x y : Int) : Int :=
  if n = 0 then 99999 else itr (fun v b => if b = -1 ∨ LEA E T X Y k x y (P v) (Q v) (R v) < b then LEA E T X Y k x y (P v) (Q v) (R v) else b) n (-1)
def NPT (N F : Nat → Int) (n : Nat) (p : Int) : Int :=
  if itr (fun f b => if F f = p ∧ (b = -1 ∨ N f < b) then N f else b) n (-1) = -1 then 99999 else itr (fun f b => if F f = p ∧ (b = -1 ∨ N f < b) then N f else b) n (-1)
def NST (N : Nat → Int) (n : Nat) (u : Int) : Int := itr (fun f b => if N f < u then io32 b (shl32 1 f) else b) n 0
theorem ab_i {x : Int} (h1 : -100000000 ≤ x) (h2 : x ≤ 100000000) : (if 0 ≤ w32 x then w32 x else w32 (0 - (w32 x))) = ab x := by
  rw [w32_of (x := x) (by omega) (by omega), w32_of (x := 0 - x) (by omega) (by omega)]; rfl
theorem ab_j {x : Int} (h1 : -100000000 ≤ x) (h2 : x ≤ 100000000) : (if w32 x < 0 then w32 (-(w32 x)) else w32 x) = ab x := by
  rw [w32_of (x := x) (by omega) (by omega), w32_of (x := -x) (by omega) (by omega)]; unfold ab; split <;> split <;> omega
theorem tX_b {t a x y : Int} (h1 : -100000 ≤ a ∧ a ≤ 100000) (h2 : -100000 ≤ x ∧ x ≤ 100000) (h3 : -100000 ≤ y ∧ y ≤ 100000) : -200000 ≤ tX t a x y ∧ tX t a x y ≤ 200000 := by
  unfold tX; split
  · omega
  · split
    · omega
    · split <;> omega
theorem tY_b {t a x y : Int} (h1 : -100000 ≤ a ∧ a ≤ 100000) (h2 : -100000 ≤ x ∧ x ≤ 100000) (h3 : -100000 ≤ y ∧ y ≤ 100000) : -200000 ≤ tY t a x y ∧ tY t a x y ≤ 200000 := by
  unfold tY; split
  · omega
  · split
    · omega
    · split <;> omega
theorem ab_b {x n : Int} (h : -n ≤ x ∧ x ≤ n) : 0 ≤ ab x ∧ ab x ≤ n := by unfold ab; split <;> omega
theorem mx_b {x y n : Int} (h : 0 ≤ x ∧ x ≤ n) (h2 : 0 ≤ y ∧ y ≤ n) : 0 ≤ mx x y ∧ mx x y ≤ n := by unfold mx; split <;> omega
def BB (E T X Y : Nat → Int) : Prop := ∀ j : Nat, (0 ≤ E j ∧ E j ≤ 1000) ∧ (0 ≤ T j ∧ T j ≤ 3) ∧ (-100000 ≤ X j ∧ X j ≤ 100000) ∧ (-100000 ≤ Y j ∧ Y j ≤ 100000)
def BX (x y : Int) : Prop := (-100000 ≤ x ∧ x ≤ 100000) ∧ (-100000 ≤ y ∧ y ≤ 100000)
theorem FAR_b {E T X Y : Nat → Int} {k x y l u v : Int} (hb : BB E T X Y) (h1 : BX x y) (h2 : BX u v) : 0 ≤ FAR T X Y k x y l u v ∧ FAR T X Y k x y l u v ≤ 400000 := by
  have b1 := hb k.toNat
  have b2 := hb l.toNat
  refine mx_b (ab_b ?_) (ab_b ?_)
  · have := tX_b (t := T k.toNat) b1.2.2.1 h1.1 h1.2
    have := tX_b (t := T l.toNat) b2.2.2.1 h2.1 h2.2
    omega
  · have := tY_b (t := T k.toNat) b1.2.2.2 h1.1 h1.2
    have := tY_b (t := T l.toNat) b2.2.2.2 h2.1 h2.2
    omega
theorem DBT_b {E T X Y : Nat → Int} {k l : Int} (hb : BB E T X Y) : 0 ≤ DBT E k l ∧ DBT E k l ≤ 2000 := by
  have b1 := hb k.toNat
  have b2 := hb l.toNat
  unfold DBT; split <;> omega
theorem LEA_b {E T X Y : Nat → Int} {k x y l u v : Int} (hb : BB E T X Y) (h1 : BX x y) (h2 : BX u v) : 0 ≤ LEA E T X Y k x y l u v ∧ LEA E T X Y k x y l u v ≤ 400000 := by
  have := FAR_b (k := k) (l := l) hb h1 h2
  have := DBT_b (k := k) (l := l) hb
  unfold LEA; split <;> omega
/-- the least of g 0 .. g n -/
theorem least_1 {g : Nat → Int} : ∀ {n : Nat}, (∀ i, i ≤ n → 0 ≤ g i) → itr (fun v b => if b = -1 ∨ g v < b then g v else b) (n + 1) (-1) = itr (fun v b => if g (v + 1) < b then g (v + 1) else b) n (g 0) ∧ 0 ≤ itr (fun v b => if g (v + 1) < b then g (v + 1) else b) n (g 0)
  | 0, h => ⟨rfl, h 0 (Nat.le_refl _)⟩
  | n + 1, h => by
    obtain ⟨e, p⟩ := least_1 (n := n) (fun i hi => h i (Nat.le_succ_of_le hi))
    have h1 := h (n + 1) (Nat.le_refl _)
    constructor
    · show (if itr _ (n + 1) (-1) = -1 ∨ g (n + 1) < itr _ (n + 1) (-1) then g (n + 1) else itr _ (n + 1) (-1)) = (if g (n + 1) < itr _ n (g 0) then g (n + 1) else itr _ n (g 0))
      rw [e]
      split <;> split <;> omega
    · show 0 ≤ (if g (n + 1) < itr _ n (g 0) then g (n + 1) else itr _ n (g 0))
      split <;> omega
section Y1
variable {d : Nat} {I : Nat → Nat → Int} {sp rt : Nat} {tt : Nat → Nat} {z : Zs}
theorem S_76 {j : Int} (hb : BB (I 46) (I 47) (I 48) (I 49)) (h : 0 ≤ j ∧ j < 120) (h2 : 0 ≤ I 50 j.toNat ∧ I 50 j.toNat < 15) (hx : BX (I 51 j.toNat) (I 52 j.toNat)) : Call PG (d + 1) 76 [(2, 45), (0, j)] (I, RF sp rt tt z.1, z) = some (some (0, tX (I 47 (I 50 j.toNat).toNat) (I 48 (I 50 j.toNat).toNat) (I 51 j.toNat) (I 52 j.toNat)), (I, RF sp rt tt z.1, z)) := by
  have b2 := hb (I 50 j.toNat).toNat
  have b3 := hx.1
  have b4 := hx.2
  unfold tX
  refine (K_76 ..).trans ?_
  repeat' (first | simp (disch := omega) only [w32_of, up2_ne] | refine ci_bt (by omega) ?_ | refine ci_bf (by omega) ?_ | refine ite_b01 ?_ | refine ci_b (fun _ => ?_) (fun _ => ?_) | refine ci_t (by omega) ?_ | refine ci_f (by omega) ?_ | refine ite_t (by omega) ?_ | refine ite_f (by omega) ?_ | refine (T_76_0 ..).trans ?_ | refine (T_76_13 ..).trans ?_ | refine (T_76_40 ..).trans ?_ | refine (T_76_54 ..).trans ?_ | refine (T_76_68 ..).trans ?_ | refine (T_76_82 ..).trans ?_ | refine (sw_y (by omega)).trans ?_ | refine (sw_n (by omega)).trans ?_ | refine sw_e.trans ?_ | refine sw_c (fun _ => ?_) (fun _ => ?_) | refine ci_c (fun _ => ?_) (fun _ => ?_))
  all_goals (simp only [*]; simp)
theorem S_77 {j : Int} (hb : BB (I 46) (I 47) (I 48) (I 49)) (h : 0 ≤ j ∧ j < 120) (h2 : 0 ≤ I 50 j.toNat ∧ I 50 j.toNat < 15) (hx : BX (I 51 j.toNat) (I 52 j.toNat)) : Call PG (d + 1) 77 [(2, 45), (0, j)] (I, RF sp rt tt z.1, z) = some (some (0, tY (I 47 (I 50 j.toNat).toNat) (I 49 (I 50 j.toNat).toNat) (I 51 j.toNat) (I 52 j.toNat)), (I, RF sp rt tt z.1, z)) := by
  have b2 := hb (I 50 j.toNat).toNat
  have b3 := hx.1
  have b4 := hx.2
  unfold tY
  refine (K_77 ..).trans ?_
  repeat' (first | simp (disch := omega) only [w32_of, up2_ne] | refine ci_bt (by omega) ?_ | refine ci_bf (by omega) ?_ | refine ite_b01 ?_ | refine ci_b (fun _ => ?_) (fun _ => ?_) | refine ci_t (by omega) ?_ | refine ci_f (by omega) ?_ | refine ite_t (by omega) ?_ | refine ite_f (by omega) ?_ | refine (T_77_0 ..).trans ?_ | refine (T_77_13 ..).trans ?_ | refine (T_77_40 ..).trans ?_ | refine (T_77_54 ..).trans ?_ | refine (T_77_68 ..).trans ?_ | refine (T_77_82 ..).trans ?_ | refine (sw_y (by omega)).trans ?_ | refine (sw_n (by omega)).trans ?_ | refine sw_e.trans ?_ | refine sw_c (fun _ => ?_) (fun _ => ?_) | refine ci_c (fun _ => ?_) (fun _ => ?_))
  all_goals (simp only [*]; simp)
theorem S_75 {i j : Int} (hb : BB (I 46) (I 47) (I 48) (I 49)) (h : 0 ≤ i ∧ i < 120) (h2 : 0 ≤ I 50 i.toNat ∧ I 50 i.toNat < 15) (hx : BX (I 51 i.toNat) (I 52 i.toNat)) (h' : 0 ≤ j ∧ j < 120) (h2' : 0 ≤ I 50 j.toNat ∧ I 50 j.toNat < 15) (hx' : BX (I 51 j.toNat) (I 52 j.toNat)) : Call PG (d + 2) 75 [(2, 45), (0, i), (0, j)] (I, RF sp rt tt z.1, z) = some (some (0, FAR (I 47) (I 48) (I 49) (I 50 i.toNat) (I 51 i.toNat) (I 52 i.toNat) (I 50 j.toNat) (I 51 j.toNat) (I 52 j.toNat)), (I, RF sp rt tt z.1, z)) := by
  have b1 := hb (I 50 i.toNat).toNat
  have b2 := hb (I 50 j.toNat).toNat
  have a1 := tX_b (t := I 47 (I 50 i.toNat).toNat) b1.2.2.1 hx.1 hx.2
  have a2 := tX_b (t := I 47 (I 50 j.toNat).toNat) b2.2.2.1 hx'.1 hx'.2
  have a3 := tY_b (t := I 47 (I 50 i.toNat).toNat) b1.2.2.2 hx.1 hx.2
  have a4 := tY_b (t := I 47 (I 50 j.toNat).toNat) b2.2.2.2 hx'.1 hx'.2
  refine (K_75 ..).trans ?_
  repeat' (first | rw [ab_i (by omega) (by omega)] | refine ci_bt (by omega) ?_ | refine ci_bf (by omega) ?_ | refine ite_b01 ?_ | refine ci_b (fun _ => ?_) (fun _ => ?_) | refine ci_t (by omega) ?_ | refine ci_f (by omega) ?_ | refine ite_t (by omega) ?_ | refine ite_f (by omega) ?_ | refine bd_t (S_76 (by assumption) (by omega) (by omega) (by assumption)) ?_ | refine bd_t (S_77 (by assumption) (by omega) (by omega) (by assumption)) ?_ | refine (T_75_0 ..).trans ?_ | refine (T_75_5 ..).trans ?_ | refine (T_75_10 ..).trans ?_ | refine (T_75_19 ..).trans ?_ | refine (T_75_24 ..).trans ?_ | refine ci_c (fun _ => ?_) (fun _ => ?_))
  all_goals first | rfl | (rw [ab_i (by omega) (by omega), ab_i (by omega) (by omega)]; rfl)
theorem S_78 {i j : Int} (hb : BB (I 46) (I 47) (I 48) (I 49)) (h : 0 ≤ i ∧ i < 120) (h2 : 0 ≤ I 50 i.toNat ∧ I 50 i.toNat < 15) (h' : 0 ≤ j ∧ j < 120) (h2' : 0 ≤ I 50 j.toNat ∧ I 50 j.toNat < 15) : Call PG (d + 1) 78 [(2, 45), (0, i), (0, j)] (I, RF sp rt tt z.1, z) = some (some (0, DBT (I 46) (I 50 i.toNat) (I 50 j.toNat)), (I, RF sp rt tt z.1, z)) := by
  have b1 := hb (I 50 i.toNat).toNat
  have b2 := hb (I 50 j.toNat).toNat
  unfold DBT
  refine (K_78 ..).trans ?_
  repeat' (first | simp (disch := omega) only [w32_of, up2_ne] | refine ci_bt (by omega) ?_ | refine ci_bf (by omega) ?_ | refine ite_b01 ?_ | refine ci_b (fun _ => ?_) (fun _ => ?_) | refine ci_t (by omega) ?_ | refine ci_f (by omega) ?_ | refine ite_t (by omega) ?_ | refine ite_f (by omega) ?_ | refine (T_78_0 ..).trans ?_ | refine ci_c (fun _ => ?_) (fun _ => ?_))
  all_goals (simp only [*]; try simp)
def FC (I : Nat → Nat → Int) (j : Int) : Prop := (0 ≤ I 50 j.toNat ∧ I 50 j.toNat < 15) ∧ BX (I 51 j.toNat) (I 52 j.toNat)
def LEc (I : Nat → Nat → Int) (f v : Int) : Int := LEA (I 46) (I 47) (I 48) (I 49) (I 50 (30 + f).toNat) (I 51 (30 + f).toNat) (I 52 (30 + f).toNat) (I 50 v.toNat) (I 51 v.toNat) (I 52 v.toNat)
theorem S_74 {f v : Int} (hb : BB (I 46) (I 47) (I 48) (I 49)) (h : 0 ≤ f ∧ f < 30) (hf : FC I (30 + f)) (h' : 0 ≤ v ∧ v < 30) (hv : FC I v) : Call PG (d + 3) 74 [(2, 45), (0, f), (0, v)] (I, RF sp rt tt z.1, z) = some (some (0, LEc I f v), (I, RF sp rt tt z.1, z)) := by
  obtain ⟨g1, g2⟩ := hf
  obtain ⟨g3, g4⟩ := hv
  have a1 := FAR_b (k := I 50 (30 + f).toNat) (l := I 50 v.toNat) hb g2 g4
  have a2 := DBT_b (k := I 50 (30 + f).toNat) (l := I 50 v.toNat) hb
  refine (K_74 ..).trans ?_
  repeat' (first | simp (disch := omega) only [w32_of, up2_ne] | refine ci_bt (by omega) ?_ | refine ci_bf (by omega) ?_ | refine ite_b01 ?_ | refine ci_b (fun _ => ?_) (fun _ => ?_) | refine ci_t (by omega) ?_ | refine ci_f (by omega) ?_ | refine ite_t (by omega) ?_ | refine ite_f (by omega) ?_ | refine bd_t (S_75 (by assumption) (by omega) (by assumption) (by assumption) (by omega) (by assumption) (by assumption)) ?_ | refine bd_t (S_78 (by assumption) (by omega) (by assumption) (by omega) (by assumption)) ?_ | refine (T_74_0 ..).trans ?_ | refine (T_74_10 ..).trans ?_ | refine (T_74_19 ..).trans ?_ | refine ci_c (fun _ => ?_) (fun _ => ?_))
  refine eqv ?_
  unfold LEc LEA
  split <;> split <;> omega
theorem S_135 {f v : Int} (hb : BB (I 46) (I 47) (I 48) (I 49)) (h : 0 ≤ f ∧ f < 30) (hf : FC I (30 + f)) (h' : 0 ≤ v ∧ v < 30) (hv : FC I v) : Call PG (d + 3) 135 [(2, 45), (0, f), (0, v)] (I, RF sp rt tt z.1, z) = some (some (0, FAR (I 47) (I 48) (I 49) (I 50 (30 + f).toNat) (I 51 (30 + f).toNat) (I 52 (30 + f).toNat) (I 50 v.toNat) (I 51 v.toNat) (I 52 v.toNat) + DBT (I 46) (I 50 (30 + f).toNat) (I 50 v.toNat)), (I, RF sp rt tt z.1, z)) := by
  obtain ⟨g1, g2⟩ := hf
  obtain ⟨g3, g4⟩ := hv
  have a1 := FAR_b (k := I 50 (30 + f).toNat) (l := I 50 v.toNat) hb g2 g4
  have a2 := DBT_b (k := I 50 (30 + f).toNat) (l := I 50 v.toNat) hb
  refine (K_135 ..).trans ?_
  repeat' (first | simp (disch := omega) only [w32_of, up2_ne] | refine ci_bt (by omega) ?_ | refine ci_bf (by omega) ?_ | refine ite_b01 ?_ | refine ci_b (fun _ => ?_) (fun _ => ?_) | refine ci_t (by omega) ?_ | refine ci_f (by omega) ?_ | refine ite_t (by omega) ?_ | refine ite_f (by omega) ?_ | refine bd_t (S_75 (by assumption) (by omega) (by assumption) (by assumption) (by omega) (by assumption) (by assumption)) ?_ | refine bd_t (S_78 (by assumption) (by omega) (by assumption) (by omega) (by assumption)) ?_ | refine (T_135_0 ..).trans ?_ | refine (T_135_9 ..).trans ?_ | refine (T_135_18 ..).trans ?_ | refine ci_c (fun _ => ?_) (fun _ => ?_))
  all_goals rfl
def NFc (I : Nat → Nat → Int) (f : Int) : Int := NRF (I 46) (I 47) (I 48) (I 49) (I 45 1).toNat (I 50) (I 51) (I 52) (I 50 (30 + f).toNat) (I 51 (30 + f).toNat) (I 52 (30 + f).toNat)
theorem S_73 {f : Int} (hb : BB (I 46) (I 47) (I 48) (I 49)) (h : 0 ≤ f ∧ f < 30) (hf : FC I (30 + f)) (hn : 0 ≤ I 45 1 ∧ I 45 1 ≤ 30) (hw : ∀ v : Nat, v < (I 45 1).toNat → FC I (v : Int)) : Call PG (d + 4) 73 [(2, 45), (0, f)] (I, RF sp rt tt z.1, z) = some (some (0, NFc I f), (I, RF sp rt tt z.1, z)) := by
  refine (K_73 ..).trans ?_
  refine (T_73_0 ..).trans ?_
  by_cases c : I 45 1 = 0
  · refine ci_t c ?_
    unfold NFc NRF
    rw [if_pos (by omega)]
  · refine ci_f c ?_
    have hw0 := hw 0 (by omega)
    obtain ⟨n, hn2⟩ : ∃ n, (I 45 1).toNat = n + 1 := ⟨(I 45 1).toNat - 1, by omega⟩
    have hz : NFc I f = itr (fun (i : Nat) (a : Int) => if LEc I f ((i : Int) + 1) < a then LEc I f ((i : Int) + 1) else a) n (LEc I f 0) := by
      unfold NFc NRF
      rw [if_neg (by omega), hn2]
      exact (least_1 (g := fun v => LEA (I 46) (I 47) (I 48) (I 49) (I 50 (30 + f).toNat) (I 51 (30 + f).toNat) (I 52 (30 + f).toNat) (I 50 v) (I 51 v) (I 52 v)) (fun i hi => (LEA_b hb hf.2 (hw i (by omega)).2).1)).1
    refine bd_t (S_74 hb h hf (by omega) hw0) ?_
    refine (T_73_16 ..).trans ?_
    rw [hz]
    refine loop_p (fun (i : Nat) a => if LEc I f ((i : Int) + 1) < a then LEc I f ((i : Int) + 1) else a) (fun (i : Nat) a => Run PG (Call PG (d + 3)) 73 19 [(2, 45), (0, f), (0, a), (0, ((i : Int) + 1))] [] (I, RF sp rt tt z.1, z) (0, 0) = some (some (0, itr (fun (i : Nat) (a : Int) => if LEc I f ((i : Int) + 1) < a then LEc I f ((i : Int) + 1) else a) n (LEc I f 0)), (I, RF sp rt tt z.1, z))) (n) (LEc I f 0) ?_ ?_
    · intro i a hi ha hr
      have hr : Run PG (Call PG (d + 3)) 73 19 [(2, 45), (0, f), (0, (if LEc I f ((i : Int) + 1) < a then LEc I f ((i : Int) + 1) else a)), (0, (i : Int) + 2)] [] (I, RF sp rt tt z.1, z) (0, 0) = some (some (0, itr (fun (i : Nat) (a : Int) => if LEc I f ((i : Int) + 1) < a then LEc I f ((i : Int) + 1) else a) n (LEc I f 0)), (I, RF sp rt tt z.1, z)) := hr
      have hi2 := hw (i + 1) (by omega)
      have hi2 : FC I ((i : Int) + 1) := hi2
      refine (T_73_19 ..).trans ?_
      try simp only [Int.toNat_natCast]
      by_cases c0 : LEc I f ((i : Int) + 1) < a
      · simp only [if_pos c0] at hr
        repeat' (first | simp (disch := omega) only [w32_of, up2_ne] | rw [if_pos (by assumption)] | rw [if_neg (by assumption)] | refine ci_bt (by omega) ?_ | refine ci_bf (by omega) ?_ | refine ite_b01 ?_ | refine ci_b (fun _ => ?_) (fun _ => ?_) | refine ci_t (by omega) ?_ | refine ci_f (by omega) ?_ | refine ite_t (by omega) ?_ | refine ite_f (by omega) ?_ | refine bd_t (S_74 (by assumption) (by omega) (by assumption) (by omega) (by assumption)) ?_ | refine (T_73_0 ..).trans ?_ | refine (T_73_16 ..).trans ?_ | refine (T_73_34 ..).trans ?_ | refine ci_c (fun _ => ?_) (fun _ => ?_))
        all_goals first | omega | ((try simp (disch := omega) only [w32_of, Int.add_assoc]); (try simp (disch := omega) only [w32_of, Int.add_assoc] at hr); exact hr)
      simp only [if_neg c0] at hr
      repeat' (first | simp (disch := omega) only [w32_of, up2_ne] | rw [if_pos (by assumption)] | rw [if_neg (by assumption)] | refine ci_bt (by omega) ?_ | refine ci_bf (by omega) ?_ | refine ite_b01 ?_ | refine ci_b (fun _ => ?_) (fun _ => ?_) | refine ci_t (by omega) ?_ | refine ci_f (by omega) ?_ | refine ite_t (by omega) ?_ | refine ite_f (by omega) ?_ | refine bd_t (S_74 (by assumption) (by omega) (by assumption) (by omega) (by assumption)) ?_ | refine (T_73_0 ..).trans ?_ | refine (T_73_16 ..).trans ?_ | refine (T_73_34 ..).trans ?_ | refine ci_c (fun _ => ?_) (fun _ => ?_))
      all_goals first | omega | ((try simp (disch := omega) only [w32_of, Int.add_assoc]); (try simp (disch := omega) only [w32_of, Int.add_assoc] at hr); exact hr)
    · skip
      refine (T_73_19 ..).trans ?_
      repeat' (first | simp (disch := omega) only [w32_of, up2_ne] | rw [if_pos (by assumption)] | rw [if_neg (by assumption)] | refine ci_bt (by omega) ?_ | refine ci_bf (by omega) ?_ | refine ite_b01 ?_ | refine ci_b (fun _ => ?_) (fun _ => ?_) | refine ci_t (by omega) ?_ | refine ci_f (by omega) ?_ | refine ite_t (by omega) ?_ | refine ite_f (by omega) ?_ | refine bd_t (S_74 (by assumption) (by omega) (by assumption) (by omega) (by assumption)) ?_ | refine (T_73_0 ..).trans ?_ | refine (T_73_16 ..).trans ?_ | refine (T_73_34 ..).trans ?_ | refine ci_c (fun _ => ?_) (fun _ => ?_))
      all_goals rfl
theorem S_72 {p : Int} (hb : BB (I 46) (I 47) (I 48) (I 49)) (hn : 0 ≤ I 45 1 ∧ I 45 1 ≤ 30) (hw : ∀ v : Nat, v < (I 45 1).toNat → FC I (v : Int)) (hm : 0 ≤ I 45 2 ∧ I 45 2 ≤ 30) (hf : ∀ v : Nat, v < (I 45 2).toNat → FC I (30 + (v : Int))) : Call PG (d + 5) 72 [(2, 45), (0, p)] (I, RF sp rt tt z.1, z) = some (some (0, NPT (fun f => NFc I f) (I 53) (I 45 2).toNat p), (I, RF sp rt tt z.1, z)) := by
  unfold NPT
  refine (K_72 ..).trans ?_
  refine (T_72_0 ..).trans ?_
  refine loop_p (fun (i : Nat) a => if I 53 i = p ∧ (a = -1 ∨ NFc I i < a) then NFc I i else a) (fun (i : Nat) a => ∀ d4, dl d4 → Run PG (Call PG (d + 4)) 72 4 [(2, 45), (0, p), (0, a), (0, (i : Int)), d4] [] (I, RF sp rt tt z.1, z) (0, 0) = some (some (0, if itr (fun (f : Nat) (b : Int) => if I 53 f = p ∧ (b = -1 ∨ NFc I f < b) then NFc I f else b) (I 45 2).toNat (-1) = -1 then 99999 else itr (fun (f : Nat) (b : Int) => if I 53 f = p ∧ (b = -1 ∨ NFc I f < b) then NFc I f else b) (I 45 2).toNat (-1)), (I, RF sp rt tt z.1, z))) ((I 45 2).toNat) (-1) ?_ ?_ _ dl9
  · intro i a hi ha hr d4 hd4
    have hr : ∀ d4, dl d4 → Run PG (Call PG (d + 4)) 72 4 [(2, 45), (0, p), (0, (if I 53 i = p ∧ (a = -1 ∨ NFc I i < a) then NFc I i else a)), (0, (i : Int) + 1), d4] [] (I, RF sp rt tt z.1, z) (0, 0) = some (some (0, if itr (fun (f : Nat) (b : Int) => if I 53 f = p ∧ (b = -1 ∨ NFc I f < b) then NFc I f else b) (I 45 2).toNat (-1) = -1 then 99999 else itr (fun (f : Nat) (b : Int) => if I 53 f = p ∧ (b = -1 ∨ NFc I f < b) then NFc I f else b) (I 45 2).toNat (-1)), (I, RF sp rt tt z.1, z)) := hr
    have hi2 := hf i (by omega)
    refine (T_72_4 _ _ _ _ _ _ _ _ _ _ (by assumption)).trans ?_
    try simp only [Int.toNat_natCast]
    by_cases c0 : I 53 i = p ∧ (a = -1 ∨ NFc I i < a)
    · simp only [if_pos c0] at hr
      repeat' (first | simp (disch := omega) only [w32_of, up2_ne] | rw [if_pos (by omega)] | rw [if_neg (by omega)] | refine ci_bt (by omega) ?_ | refine ci_bf (by omega) ?_ | refine ite_b01 ?_ | refine ci_b (fun _ => ?_) (fun _ => ?_) | refine ci_t (by omega) ?_ | refine ci_f (by omega) ?_ | refine ite_t (by omega) ?_ | refine ite_f (by omega) ?_ | refine bd_t (S_73 (by assumption) (by omega) (by assumption) (by omega) (by assumption)) ?_ | refine (T_72_0 ..).trans ?_ | refine (T_72_27 _ _ _ _ _ _ _ _ _ _ _ (by first | exact dl9 | exact dl0 _ | exact dl2 _ | assumption)).trans ?_ | refine ci_c (fun _ => ?_) (fun _ => ?_))
      all_goals first | omega | ((try simp (disch := omega) only [w32_of, Int.add_assoc]); (try simp (disch := omega) only [w32_of, Int.add_assoc] at hr); exact hr _ (by first | assumption | exact dl0 _))
    simp only [if_neg c0] at hr
    repeat' (first | simp (disch := omega) only [w32_of, up2_ne] | rw [if_pos (by omega)] | rw [if_neg (by omega)] | refine ci_bt (by omega) ?_ | refine ci_bf (by omega) ?_ | refine ite_b01 ?_ | refine ci_b (fun _ => ?_) (fun _ => ?_) | refine ci_t (by omega) ?_ | refine ci_f (by omega) ?_ | refine ite_t (by omega) ?_ | refine ite_f (by omega) ?_ | refine bd_t (S_73 (by assumption) (by omega) (by assumption) (by omega) (by assumption)) ?_ | refine (T_72_0 ..).trans ?_ | refine (T_72_27 _ _ _ _ _ _ _ _ _ _ _ (by first | exact dl9 | exact dl0 _ | exact dl2 _ | assumption)).trans ?_ | refine ci_c (fun _ => ?_) (fun _ => ?_))
    all_goals first | omega | ((try simp (disch := omega) only [w32_of, Int.add_assoc]); (try simp (disch := omega) only [w32_of, Int.add_assoc] at hr); exact hr _ (by first | assumption | exact dl0 _))
  · intro d4 hd4
    refine (T_72_4 _ _ _ _ _ _ _ _ _ _ (by assumption)).trans ?_
    refine ci_f (by omega) ?_
    refine ci_c (fun e => ?_) (fun e => ?_)
    · rw [if_pos e]
    · rw [if_neg e]
theorem S_139 {u : Int} (hb : BB (I 46) (I 47) (I 48) (I 49)) (hn : 0 ≤ I 45 1 ∧ I 45 1 ≤ 30) (hw : ∀ v : Nat, v < (I 45 1).toNat → FC I (v : Int)) (hm : 0 ≤ I 45 2 ∧ I 45 2 ≤ 30) (hf : ∀ v : Nat, v < (I 45 2).toNat → FC I (30 + (v : Int))) : Call PG (d + 5) 139 [(2, 45), (0, u)] (I, RF sp rt tt z.1, z) = some (some (0, NST (fun f => NFc I f) (I 45 2).toNat u), (I, RF sp rt tt z.1, z)) := by
  unfold NST
  refine (K_139 ..).trans ?_
  refine (T_139_0 ..).trans ?_
  refine loop_p (fun (i : Nat) a => if NFc I i < u then io32 a (shl32 1 i) else a) (fun (i : Nat) a => Run PG (Call PG (d + 4)) 139 4 [(2, 45), (0, u), (0, a), (0, (i : Int))] [] (I, RF sp rt tt z.1, z) (0, 0) = some (some (0, itr (fun (f : Nat) (b : Int) => if NFc I f < u then io32 b (shl32 1 f) else b) (I 45 2).toNat 0), (I, RF sp rt tt z.1, z))) ((I 45 2).toNat) (0) ?_ ?_
  · intro i a hi ha hr
    have hr : Run PG (Call PG (d + 4)) 139 4 [(2, 45), (0, u), (0, (if NFc I i < u then io32 a (shl32 1 i) else a)), (0, (i : Int) + 1)] [] (I, RF sp rt tt z.1, z) (0, 0) = some (some (0, itr (fun (f : Nat) (b : Int) => if NFc I f < u then io32 b (shl32 1 f) else b) (I 45 2).toNat 0), (I, RF sp rt tt z.1, z)) := hr
    have hi2 := hf i (by omega)
    refine (T_139_4 ..).trans ?_
    try simp only [Int.toNat_natCast]
    by_cases c0 : NFc I i < u
    · simp only [if_pos c0] at hr
      repeat' (first | simp (disch := omega) only [w32_of, up2_ne] | refine ci_bt (by omega) ?_ | refine ci_bf (by omega) ?_ | refine ite_b01 ?_ | refine ci_b (fun _ => ?_) (fun _ => ?_) | refine ci_t (by omega) ?_ | refine ci_f (by omega) ?_ | refine ite_t (by omega) ?_ | refine ite_f (by omega) ?_ | refine bd_t (S_73 (by assumption) (by omega) (by assumption) (by omega) (by assumption)) ?_ | refine (T_139_0 ..).trans ?_ | refine (T_139_17 ..).trans ?_ | refine ci_c (fun _ => ?_) (fun _ => ?_))
      all_goals first | omega | ((try simp (disch := omega) only [w32_of, Int.add_assoc]); (try simp (disch := omega) only [w32_of, Int.add_assoc] at hr); exact hr)
    simp only [if_neg c0] at hr
    repeat' (first | simp (disch := omega) only [w32_of, up2_ne] | refine ci_bt (by omega) ?_ | refine ci_bf (by omega) ?_ | refine ite_b01 ?_ | refine ci_b (fun _ => ?_) (fun _ => ?_) | refine ci_t (by omega) ?_ | refine ci_f (by omega) ?_ | refine ite_t (by omega) ?_ | refine ite_f (by omega) ?_ | refine bd_t (S_73 (by assumption) (by omega) (by assumption) (by omega) (by assumption)) ?_ | refine (T_139_0 ..).trans ?_ | refine (T_139_17 ..).trans ?_ | refine ci_c (fun _ => ?_) (fun _ => ?_))
    all_goals first | omega | ((try simp (disch := omega) only [w32_of, Int.add_assoc]); (try simp (disch := omega) only [w32_of, Int.add_assoc] at hr); exact hr)
  · skip
    refine (T_139_4 ..).trans ?_
    repeat' (first | simp (disch := omega) only [w32_of, up2_ne] | refine ci_bt (by omega) ?_ | refine ci_bf (by omega) ?_ | refine ite_b01 ?_ | refine ci_b (fun _ => ?_) (fun _ => ?_) | refine ci_t (by omega) ?_ | refine ci_f (by omega) ?_ | refine ite_t (by omega) ?_ | refine ite_f (by omega) ?_ | refine bd_t (S_73 (by assumption) (by omega) (by assumption) (by omega) (by assumption)) ?_ | refine (T_139_0 ..).trans ?_ | refine (T_139_17 ..).trans ?_ | refine ci_c (fun _ => ?_) (fun _ => ?_))
    all_goals rfl
end Y1

