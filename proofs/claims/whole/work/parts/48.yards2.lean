/-! the reference's yards; yards, nearest -/
theorem itr_cg {α : Type} {F F' : Nat → α → α} {n n' : Nat} {s s' : α} (hn : n = n') (hs : s = s') (h : ∀ i a, i < n' → F i a = F' i a) : itr F n s = itr F' n' s' := by subst hn; subst hs; exact itr_congr h
theorem NRF_cg {E T X Y : Nat → Int} {n : Nat} {P Q R P' Q' R' : Nat → Int} {k x y : Int} (h : ∀ v, v < n → P v = P' v ∧ Q v = Q' v ∧ R v = R' v) : NRF E T X Y n P Q R k x y = NRF E T X Y n P' Q' R' k x y := by
  unfold NRF
  split
  · rfl
  · exact itr_congr (fun i a hi => by rw [(h i hi).1, (h i hi).2.1, (h i hi).2.2])
theorem NPT_cg {N N' F : Nat → Int} {n : Nat} {p : Int} (h : ∀ f, f < n → N f = N' f) : NPT N F n p = NPT N' F n p := by
  unfold NPT
  rw [itr_congr (F := fun f b => if F f = p ∧ (b = -1 ∨ N f < b) then N f else b) (F' := fun f b => if F f = p ∧ (b = -1 ∨ N' f < b) then N' f else b) (fun i a hi => by rw [h i hi])]
theorem NST_cg {N N' : Nat → Int} {n : Nat} {u : Int} (h : ∀ f, f < n → N f = N' f) : NST N n u = NST N' n u := itr_congr (fun i a hi => by rw [h i hi])
section Y2
variable {d : Nat} {I : Nat → Nat → Int} {sp rt : Nat} {tt : Nat → Nat} {z : Zs}
theorem S_271b {v : Int} (h1 : -100000000 ≤ v) (h2 : v ≤ 100000000) : Call PG (d + 1) 271 [(0, w32 v)] (I, RF sp rt tt z.1, z) = some (some (0, ab v), (I, RF sp rt tt z.1, z)) := S_271.trans (eqv (ab_j h1 h2))
theorem S_270 {k x y : Int} (hb : BB (I 130) (I 131) (I 132) (I 133)) (h : 0 ≤ k ∧ k < 15) (hx : BX x y) : Call PG (d + 1) 270 [(2, 82), (0, k), (0, x), (0, y)] (I, RF sp rt tt z.1, z) = some (some (0, tX (I 131 k.toNat) (I 132 k.toNat) x y), (I, RF sp rt tt z.1, z)) := by
  have b2 := hb k.toNat
  have b3 := hx.1
  have b4 := hx.2
  refine (K_270 ..).trans ?_
  repeat' (first | simp (disch := omega) only [w32_of, up2_ne] | refine ci_bt (by omega) ?_ | refine ci_bf (by omega) ?_ | refine ite_b01 ?_ | refine ci_b (fun _ => ?_) (fun _ => ?_) | refine ci_t (by omega) ?_ | refine ci_f (by omega) ?_ | refine ite_t (by omega) ?_ | refine ite_f (by omega) ?_ | refine (T_270_0 ..).trans ?_ | refine ci_c (fun _ => ?_) (fun _ => ?_))
  all_goals (refine eqv ?_; unfold tX; (repeat' split) <;> omega)
theorem S_272 {k x y : Int} (hb : BB (I 130) (I 131) (I 132) (I 133)) (h : 0 ≤ k ∧ k < 15) (hx : BX x y) : Call PG (d + 1) 272 [(2, 82), (0, k), (0, x), (0, y)] (I, RF sp rt tt z.1, z) = some (some (0, tY (I 131 k.toNat) (I 133 k.toNat) x y), (I, RF sp rt tt z.1, z)) := by
  have b2 := hb k.toNat
  have b3 := hx.1
  have b4 := hx.2
  refine (K_272 ..).trans ?_
  repeat' (first | simp (disch := omega) only [w32_of, up2_ne] | refine ci_bt (by omega) ?_ | refine ci_bf (by omega) ?_ | refine ite_b01 ?_ | refine ci_b (fun _ => ?_) (fun _ => ?_) | refine ci_t (by omega) ?_ | refine ci_f (by omega) ?_ | refine ite_t (by omega) ?_ | refine ite_f (by omega) ?_ | refine (T_272_0 ..).trans ?_ | refine ci_c (fun _ => ?_) (fun _ => ?_))
  all_goals (refine eqv ?_; unfold tY; (repeat' split) <;> omega)
theorem S_269 {k x y l u v : Int} (hb : BB (I 130) (I 131) (I 132) (I 133)) (h : 0 ≤ k ∧ k < 15) (hx : BX x y) (h' : 0 ≤ l ∧ l < 15) (hx' : BX u v) : Call PG (d + 2) 269 [(2, 82), (0, k), (0, x), (0, y), (0, l), (0, u), (0, v)] (I, RF sp rt tt z.1, z) = some (some (0, FAR (I 131) (I 132) (I 133) k x y l u v), (I, RF sp rt tt z.1, z)) := by
  have b1 := hb k.toNat
  have b2 := hb l.toNat
  have a1 := tX_b (t := I 131 k.toNat) b1.2.2.1 hx.1 hx.2
  have a2 := tX_b (t := I 131 l.toNat) b2.2.2.1 hx'.1 hx'.2
  have a3 := tY_b (t := I 131 k.toNat) b1.2.2.2 hx.1 hx.2
  have a4 := tY_b (t := I 131 l.toNat) b2.2.2.2 hx'.1 hx'.2
  refine (K_269 ..).trans ?_
  repeat' (first | refine ci_bt (by omega) ?_ | refine ci_bf (by omega) ?_ | refine ite_b01 ?_ | refine ci_b (fun _ => ?_) (fun _ => ?_) | refine ci_t (by omega) ?_ | refine ci_f (by omega) ?_ | refine ite_t (by omega) ?_ | refine ite_f (by omega) ?_ | refine bd_t (S_270 (by assumption) (by omega) (by assumption)) ?_ | refine bd_t (S_271b (by omega) (by omega)) ?_ | refine bd_t (S_272 (by assumption) (by omega) (by assumption)) ?_ | refine (T_269_0 ..).trans ?_ | refine (T_269_7 ..).trans ?_ | refine (T_269_17 ..).trans ?_ | refine (T_269_21 ..).trans ?_ | refine (T_269_30 ..).trans ?_ | refine (T_269_40 ..).trans ?_ | refine (T_269_44 ..).trans ?_ | refine ci_c (fun _ => ?_) (fun _ => ?_))
  all_goals (refine eqv ?_; unfold FAR mx; split <;> omega)
theorem S_273 {k l : Int} (hb : BB (I 130) (I 131) (I 132) (I 133)) (h : 0 ≤ k ∧ k < 15) (h' : 0 ≤ l ∧ l < 15) : Call PG (d + 1) 273 [(2, 82), (0, k), (0, l)] (I, RF sp rt tt z.1, z) = some (some (0, DBT (I 130) k l), (I, RF sp rt tt z.1, z)) := by
  have b1 := hb k.toNat
  have b2 := hb l.toNat
  unfold DBT
  refine (K_273 ..).trans ?_
  repeat' (first | simp (disch := omega) only [w32_of, up2_ne] | refine ci_bt (by omega) ?_ | refine ci_bf (by omega) ?_ | refine ite_b01 ?_ | refine ci_b (fun _ => ?_) (fun _ => ?_) | refine ci_t (by omega) ?_ | refine ci_f (by omega) ?_ | refine ite_t (by omega) ?_ | refine ite_f (by omega) ?_ | refine (T_273_0 ..).trans ?_ | refine ci_c (fun _ => ?_) (fun _ => ?_))
  all_goals first | (rw [if_pos (by assumption)]) | (rw [if_neg (by assumption)])
def LEr (I : Nat → Nat → Int) (f v : Int) : Int := LEA (I 130) (I 131) (I 132) (I 133) (I 138 f.toNat) (I 139 f.toNat) (I 140 f.toNat) (I 134 v.toNat) (I 135 v.toNat) (I 136 v.toNat)
def FD (I : Nat → Nat → Int) (f : Int) : Prop := (0 ≤ I 138 f.toNat ∧ I 138 f.toNat < 15) ∧ BX (I 139 f.toNat) (I 140 f.toNat)
def WD (I : Nat → Nat → Int) (f : Int) : Prop := (0 ≤ I 134 f.toNat ∧ I 134 f.toNat < 15) ∧ BX (I 135 f.toNat) (I 136 f.toNat)
theorem S_268 {f v w : Int} (hb : BB (I 130) (I 131) (I 132) (I 133)) (h : 0 ≤ f ∧ f < 30) (hf : FD I f) (h' : 0 ≤ v ∧ v < 30) (hv : WD I v) : Call PG (d + 3) 268 [(2, 82), (0, f), (0, v), (0, w)] (I, RF sp rt tt z.1, z) = some (some (0, if w = 1 then FAR (I 131) (I 132) (I 133) (I 138 f.toNat) (I 139 f.toNat) (I 140 f.toNat) (I 134 v.toNat) (I 135 v.toNat) (I 136 v.toNat) + DBT (I 130) (I 138 f.toNat) (I 134 v.toNat) else LEr I f v), (I, RF sp rt tt z.1, z)) := by
  obtain ⟨g1, g2⟩ := hf
  obtain ⟨g3, g4⟩ := hv
  have a1 := FAR_b (k := I 138 f.toNat) (l := I 134 v.toNat) hb g2 g4
  have a2 := DBT_b (k := I 138 f.toNat) (l := I 134 v.toNat) hb
  refine (K_268 ..).trans ?_
  repeat' (first | simp (disch := omega) only [w32_of, up2_ne] | refine ci_bt (by omega) ?_ | refine ci_bf (by omega) ?_ | refine ite_b01 ?_ | refine ci_b (fun _ => ?_) (fun _ => ?_) | refine ci_t (by omega) ?_ | refine ci_f (by omega) ?_ | refine ite_t (by omega) ?_ | refine ite_f (by omega) ?_ | refine bd_t (S_269 (by assumption) (by omega) (by assumption) (by omega) (by assumption)) ?_ | refine bd_t (S_273 (by assumption) (by omega) (by omega)) ?_ | refine (T_268_0 ..).trans ?_ | refine (T_268_40 ..).trans ?_ | refine (T_268_58 ..).trans ?_ | refine ci_c (fun _ => ?_) (fun _ => ?_))
  all_goals (refine eqv ?_; unfold LEr LEA; (repeat' split) <;> omega)
theorem S_268z {f v : Int} (hb : BB (I 130) (I 131) (I 132) (I 133)) (h : 0 ≤ f ∧ f < 30) (hf : FD I f) (h' : 0 ≤ v ∧ v < 30) (hv : WD I v) : Call PG (d + 3) 268 [(2, 82), (0, f), (0, v), (0, 0)] (I, RF sp rt tt z.1, z) = some (some (0, LEr I f v), (I, RF sp rt tt z.1, z)) := (S_268 hb h hf h' hv).trans (eqv (if_neg (by decide)))
def NFr (I : Nat → Nat → Int) (f : Int) : Int := NRF (I 130) (I 131) (I 132) (I 133) (I 82 9).toNat (I 134) (I 135) (I 136) (I 138 f.toNat) (I 139 f.toNat) (I 140 f.toNat)
theorem least_2 {g : Nat → Int} {n : Nat} (h : ∀ i, i < n → 0 ≤ g i) (hn : ¬ n = 0) : ¬ itr (fun v b => if b = -1 ∨ g v < b then g v else b) n (-1) = -1 := by
  obtain ⟨m, rfl⟩ : ∃ m, n = m + 1 := ⟨n - 1, by omega⟩
  obtain ⟨e, p⟩ := least_1 (g := g) (n := m) (fun i hi => h i (by omega))
  omega
theorem S_267 {f : Int} (hb : BB (I 130) (I 131) (I 132) (I 133)) (h : 0 ≤ f ∧ f < 30) (hf : FD I f) (hn : 0 ≤ I 82 9 ∧ I 82 9 ≤ 30) (hw : ∀ v : Nat, v < (I 82 9).toNat → WD I (v : Int)) : Call PG (d + 4) 267 [(2, 82), (0, f)] (I, RF sp rt tt z.1, z) = some (some (0, NFr I f), (I, RF sp rt tt z.1, z)) := by
  have hz : NFr I f = if itr (fun (i : Nat) (a : Int) => if a = -1 ∨ LEr I f i < a then LEr I f i else a) (I 82 9).toNat (-1) = -1 then 99999 else itr (fun (i : Nat) (a : Int) => if a = -1 ∨ LEr I f i < a then LEr I f i else a) (I 82 9).toNat (-1) := by
    unfold NFr NRF
    by_cases c : (I 82 9).toNat = 0
    · rw [if_pos c, c]; rfl
    · rw [if_neg c, if_neg (least_2 (g := fun i => LEr I f i) (fun i hi => (LEA_b hb hf.2 (hw i hi).2).1) c)]; rfl
  rw [hz]
  refine (K_267 ..).trans ?_
  refine (T_267_0 ..).trans ?_
  refine loop_p (fun (i : Nat) a => if a = -1 ∨ LEr I f i < a then LEr I f i else a) (fun (i : Nat) a => ∀ d4, dl d4 → Run PG (Call PG (d + 3)) 267 4 [(2, 82), (0, f), (0, a), (0, (i : Int)), d4] [] (I, RF sp rt tt z.1, z) (0, 0) = some (some (0, if itr (fun (i : Nat) (a : Int) => if a = -1 ∨ LEr I f i < a then LEr I f i else a) (I 82 9).toNat (-1) = -1 then 99999 else itr (fun (i : Nat) (a : Int) => if a = -1 ∨ LEr I f i < a then LEr I f i else a) (I 82 9).toNat (-1)), (I, RF sp rt tt z.1, z))) ((I 82 9).toNat) (-1) ?_ ?_ _ dl9
  · intro i a hi ha hr d4 hd4
    have hr : ∀ d4, dl d4 → Run PG (Call PG (d + 3)) 267 4 [(2, 82), (0, f), (0, (if a = -1 ∨ LEr I f i < a then LEr I f i else a)), (0, (i : Int) + 1), d4] [] (I, RF sp rt tt z.1, z) (0, 0) = some (some (0, if itr (fun (i : Nat) (a : Int) => if a = -1 ∨ LEr I f i < a then LEr I f i else a) (I 82 9).toNat (-1) = -1 then 99999 else itr (fun (i : Nat) (a : Int) => if a = -1 ∨ LEr I f i < a then LEr I f i else a) (I 82 9).toNat (-1)), (I, RF sp rt tt z.1, z)) := hr
    have hi2 := hw i (by omega)
    refine (T_267_4 _ _ _ _ _ _ _ _ _ _ (by assumption)).trans ?_
    try simp only [Int.toNat_natCast]
    by_cases c0 : a = -1 ∨ LEr I f i < a
    · simp only [if_pos c0] at hr
      repeat' (first | simp (disch := omega) only [w32_of, up2_ne] | refine ci_bt (by omega) ?_ | refine ci_bf (by omega) ?_ | refine ite_b01 ?_ | refine ci_b (fun _ => ?_) (fun _ => ?_) | refine ci_t (by omega) ?_ | refine ci_f (by omega) ?_ | refine ite_t (by omega) ?_ | refine ite_f (by omega) ?_ | refine bd_t (S_268z (by assumption) (by omega) (by assumption) (by omega) (by assumption)) ?_ | refine (T_267_0 ..).trans ?_ | refine (T_267_19 _ _ _ _ _ _ _ _ _ _ _ (by first | exact dl9 | exact dl0 _ | exact dl2 _ | assumption)).trans ?_ | refine ci_c (fun _ => ?_) (fun _ => ?_))
      all_goals first | omega | ((try simp (disch := omega) only [w32_of, Int.add_assoc]); (try simp (disch := omega) only [w32_of, Int.add_assoc] at hr); exact hr _ (by first | assumption | exact dl0 _))
    simp only [if_neg c0] at hr
    repeat' (first | simp (disch := omega) only [w32_of, up2_ne] | refine ci_bt (by omega) ?_ | refine ci_bf (by omega) ?_ | refine ite_b01 ?_ | refine ci_b (fun _ => ?_) (fun _ => ?_) | refine ci_t (by omega) ?_ | refine ci_f (by omega) ?_ | refine ite_t (by omega) ?_ | refine ite_f (by omega) ?_ | refine bd_t (S_268z (by assumption) (by omega) (by assumption) (by omega) (by assumption)) ?_ | refine (T_267_0 ..).trans ?_ | refine (T_267_19 _ _ _ _ _ _ _ _ _ _ _ (by first | exact dl9 | exact dl0 _ | exact dl2 _ | assumption)).trans ?_ | refine ci_c (fun _ => ?_) (fun _ => ?_))
    all_goals first | omega | ((try simp (disch := omega) only [w32_of, Int.add_assoc]); (try simp (disch := omega) only [w32_of, Int.add_assoc] at hr); exact hr _ (by first | assumption | exact dl0 _))
  · intro d4 hd4
    refine (T_267_4 _ _ _ _ _ _ _ _ _ _ (by assumption)).trans ?_
    refine ci_f (by omega) ?_
    refine ci_c (fun e => ?_) (fun e => ?_)
    · rw [if_pos e]
    · rw [if_neg e]
theorem S_266 {p : Int} (hb : BB (I 130) (I 131) (I 132) (I 133)) (hn : 0 ≤ I 82 9 ∧ I 82 9 ≤ 30) (hw : ∀ v : Nat, v < (I 82 9).toNat → WD I (v : Int)) (hm : 0 ≤ I 82 10 ∧ I 82 10 ≤ 30) (hf : ∀ v : Nat, v < (I 82 10).toNat → FD I (v : Int)) : Call PG (d + 5) 266 [(2, 82), (0, p)] (I, RF sp rt tt z.1, z) = some (some (0, NPT (fun f => NFr I f) (I 137) (I 82 10).toNat p), (I, RF sp rt tt z.1, z)) := by
  unfold NPT
  refine (K_266 ..).trans ?_
  refine (T_266_0 ..).trans ?_
  refine loop_p (fun (i : Nat) a => if I 137 i = p ∧ (a = -1 ∨ NFr I i < a) then NFr I i else a) (fun (i : Nat) a => ∀ d4, dl d4 → Run PG (Call PG (d + 4)) 266 4 [(2, 82), (0, p), (0, a), (0, (i : Int)), d4] [] (I, RF sp rt tt z.1, z) (0, 0) = some (some (0, if itr (fun (f : Nat) (b : Int) => if I 137 f = p ∧ (b = -1 ∨ NFr I f < b) then NFr I f else b) (I 82 10).toNat (-1) = -1 then 99999 else itr (fun (f : Nat) (b : Int) => if I 137 f = p ∧ (b = -1 ∨ NFr I f < b) then NFr I f else b) (I 82 10).toNat (-1)), (I, RF sp rt tt z.1, z))) ((I 82 10).toNat) (-1) ?_ ?_ _ dl9
  · intro i a hi ha hr d4 hd4
    have hr : ∀ d4, dl d4 → Run PG (Call PG (d + 4)) 266 4 [(2, 82), (0, p), (0, (if I 137 i = p ∧ (a = -1 ∨ NFr I i < a) then NFr I i else a)), (0, (i : Int) + 1), d4] [] (I, RF sp rt tt z.1, z) (0, 0) = some (some (0, if itr (fun (f : Nat) (b : Int) => if I 137 f = p ∧ (b = -1 ∨ NFr I f < b) then NFr I f else b) (I 82 10).toNat (-1) = -1 then 99999 else itr (fun (f : Nat) (b : Int) => if I 137 f = p ∧ (b = -1 ∨ NFr I f < b) then NFr I f else b) (I 82 10).toNat (-1)), (I, RF sp rt tt z.1, z)) := hr
    have hi2 := hf i (by omega)
    refine (T_266_4 _ _ _ _ _ _ _ _ _ _ (by assumption)).trans ?_
    try simp only [Int.toNat_natCast]
    by_cases c0 : I 137 i = p ∧ (a = -1 ∨ NFr I i < a)
    · simp only [if_pos c0] at hr
      repeat' (first | simp (disch := omega) only [w32_of, up2_ne] | refine ci_bt (by omega) ?_ | refine ci_bf (by omega) ?_ | refine ite_b01 ?_ | refine ci_b (fun _ => ?_) (fun _ => ?_) | refine ci_t (by omega) ?_ | refine ci_f (by omega) ?_ | refine ite_t (by omega) ?_ | refine ite_f (by omega) ?_ | refine bd_t (S_267 (by assumption) (by omega) (by assumption) (by omega) (by assumption)) ?_ | refine (T_266_0 ..).trans ?_ | refine (T_266_30 _ _ _ _ _ _ _ _ _ _ _ (by first | exact dl9 | exact dl0 _ | exact dl2 _ | assumption)).trans ?_ | refine ci_c (fun _ => ?_) (fun _ => ?_))
      all_goals first | omega | ((try simp (disch := omega) only [w32_of, Int.add_assoc]); (try simp (disch := omega) only [w32_of, Int.add_assoc] at hr); exact hr _ (by first | assumption | exact dl0 _))
    simp only [if_neg c0] at hr
    repeat' (first | simp (disch := omega) only [w32_of, up2_ne] | refine ci_bt (by omega) ?_ | refine ci_bf (by omega) ?_ | refine ite_b01 ?_ | refine ci_b (fun _ => ?_) (fun _ => ?_) | refine ci_t (by omega) ?_ | refine ci_f (by omega) ?_ | refine ite_t (by omega) ?_ | refine ite_f (by omega) ?_ | refine bd_t (S_267 (by assumption) (by omega) (by assumption) (by omega) (by assumption)) ?_ | refine (T_266_0 ..).trans ?_ | refine (T_266_30 _ _ _ _ _ _ _ _ _ _ _ (by first | exact dl9 | exact dl0 _ | exact dl2 _ | assumption)).trans ?_ | refine ci_c (fun _ => ?_) (fun _ => ?_))
    all_goals first | omega | ((try simp (disch := omega) only [w32_of, Int.add_assoc]); (try simp (disch := omega) only [w32_of, Int.add_assoc] at hr); exact hr _ (by first | assumption | exact dl0 _))
  · intro d4 hd4
    refine (T_266_4 _ _ _ _ _ _ _ _ _ _ (by assumption)).trans ?_
    refine ci_f (by omega) ?_
    refine ci_c (fun e => ?_) (fun e => ?_)
    · rw [if_pos e]
    · rw [if_neg e]
theorem NST_in {N : Nat → Int} {n : Nat} {u : Int} : itr (fun (f : Nat) (b : Int) => if N f < u then io32 b (shl32 1 f) else io32 b 0) n 0 = NST N n u := by
  refine (itr_in (fun a => in32 a) (by unfold in32; omega) (fun i a hi ha => ?_) (fun i a hi ha => ?_)).1
  · split <;> exact io32_in _ _
  · by_cases c : N i < u
    · rw [if_pos c, if_pos c]
    · rw [if_neg c, if_neg c, io32_0 ha]
theorem S_305 {u : Int} (hb : BB (I 130) (I 131) (I 132) (I 133)) (hn : 0 ≤ I 82 9 ∧ I 82 9 ≤ 30) (hw : ∀ v : Nat, v < (I 82 9).toNat → WD I (v : Int)) (hm : 0 ≤ I 82 10 ∧ I 82 10 ≤ 30) (hf : ∀ v : Nat, v < (I 82 10).toNat → FD I (v : Int)) : Call PG (d + 5) 305 [(2, 82), (0, u)] (I, RF sp rt tt z.1, z) = some (some (0, NST (fun f => NFr I f) (I 82 10).toNat u), (I, RF sp rt tt z.1, z)) := by
  rw [← NST_in]
  refine (K_305 ..).trans ?_
  refine (T_305_0 ..).trans ?_
  refine loop_p (fun (i : Nat) a => if NFr I i < u then io32 a (shl32 1 i) else io32 a 0) (fun (i : Nat) a => Run PG (Call PG (d + 4)) 305 4 [(2, 82), (0, u), (0, a), (0, (i : Int))] [] (I, RF sp rt tt z.1, z) (0, 0) = some (some (0, itr (fun (f : Nat) (b : Int) => if NFr I f < u then io32 b (shl32 1 f) else io32 b 0) (I 82 10).toNat 0), (I, RF sp rt tt z.1, z))) ((I 82 10).toNat) (0) ?_ ?_
  · intro i a hi ha hr
    have hr : Run PG (Call PG (d + 4)) 305 4 [(2, 82), (0, u), (0, (if NFr I i < u then io32 a (shl32 1 i) else io32 a 0)), (0, (i : Int) + 1)] [] (I, RF sp rt tt z.1, z) (0, 0) = some (some (0, itr (fun (f : Nat) (b : Int) => if NFr I f < u then io32 b (shl32 1 f) else io32 b 0) (I 82 10).toNat 0), (I, RF sp rt tt z.1, z)) := hr
    have hi2 := hf i (by omega)
    refine (T_305_4 ..).trans ?_
    try simp only [Int.toNat_natCast]
    by_cases c0 : NFr I i < u
    · simp only [if_pos c0] at hr
      repeat' (first | simp (disch := omega) only [w32_of, up2_ne] | refine ci_bt (by omega) ?_ | refine ci_bf (by omega) ?_ | refine ite_b01 ?_ | refine ci_b (fun _ => ?_) (fun _ => ?_) | refine ci_t (by omega) ?_ | refine ci_f (by omega) ?_ | refine ite_t (by omega) ?_ | refine ite_f (by omega) ?_ | refine bd_t (S_267 (by assumption) (by omega) (by assumption) (by omega) (by assumption)) ?_ | refine (T_305_0 ..).trans ?_ | refine (T_305_18 ..).trans ?_ | refine ci_c (fun _ => ?_) (fun _ => ?_))
      all_goals first | omega | ((try simp (disch := omega) only [w32_of, Int.add_assoc]); (try simp (disch := omega) only [w32_of, Int.add_assoc] at hr); exact hr)
    simp only [if_neg c0] at hr
    repeat' (first | simp (disch := omega) only [w32_of, up2_ne] | refine ci_bt (by omega) ?_ | refine ci_bf (by omega) ?_ | refine ite_b01 ?_ | refine ci_b (fun _ => ?_) (fun _ => ?_) | refine ci_t (by omega) ?_ | refine ci_f (by omega) ?_ | refine ite_t (by omega) ?_ | refine ite_f (by omega) ?_ | refine bd_t (S_267 (by assumption) (by omega) (by assumption) (by omega) (by assumption)) ?_ | refine (T_305_0 ..).trans ?_ | refine (T_305_18 ..).trans ?_ | refine ci_c (fun _ => ?_) (fun _ => ?_))
    all_goals first | omega | ((try simp (disch := omega) only [w32_of, Int.add_assoc]); (try simp (disch := omega) only [w32_of, Int.add_assoc] at hr); exact hr)
  · skip
    refine (T_305_4 ..).trans ?_
    repeat' (first | simp (disch := omega) only [w32_of, up2_ne] | refine ci_bt (by omega) ?_ | refine ci_bf (by omega) ?_ | refine ite_b01 ?_ | refine ci_b (fun _ => ?_) (fun _ => ?_) | refine ci_t (by omega) ?_ | refine ci_f (by omega) ?_ | refine ite_t (by omega) ?_ | refine ite_f (by omega) ?_ | refine bd_t (S_267 (by assumption) (by omega) (by assumption) (by omega) (by assumption)) ?_ | refine (T_305_0 ..).trans ?_ | refine (T_305_18 ..).trans ?_ | refine ci_c (fun _ => ?_) (fun _ => ?_))
    all_goals rfl
end Y2
section Y3
variable {I : Nat → Nat → Int} {sp rt : Nat} {tt : Nat → Nat} {z : Zs}
theorem gs_BB (h : GS I) : BB (I 46) (I 47) (I 48) (I 49) := fun j => ⟨(h.2.2.1 j).1, (h.2.2.1 j).2.1, (h.2.2.1 j).2.2.1, (h.2.2.1 j).2.2.2.1⟩
theorem gs_eq (h : GS I) : I 130 = I 46 ∧ I 131 = I 47 ∧ I 132 = I 48 ∧ I 133 = I 49 ∧ I 137 = I 53 ∧ I 144 = I 54 := ⟨funext h.2.1.1, funext h.2.1.2.1, funext h.2.1.2.2.1, funext h.2.1.2.2.2.1, funext h.2.1.2.2.2.2.1, funext h.2.1.2.2.2.2.2⟩
theorem gs_BBr (h : GS I) : BB (I 130) (I 131) (I 132) (I 133) := by
  obtain ⟨a, b, c, e, -, -⟩ := gs_eq h
  rw [a, b, c, e]; exact gs_BB h
theorem gs_BX (h : GS I) (j : Nat) : BX (I 51 j) (I 52 j) := ⟨(h.2.2.1 j).2.2.2.2.1, (h.2.2.1 j).2.2.2.2.2.1⟩
theorem gs_W (h : GS I) {v : Nat} (hv : v < (I 45 1).toNat) : FC I (v : Int) := by
  have a := h.2.2.2.1 v hv
  have b := h.1.1
  exact ⟨⟨a.2.1, Int.lt_of_lt_of_le a.2.2 b.2.2⟩, gs_BX h v⟩
theorem gs_F (h : GS I) {v : Nat} (hv : v < (I 45 2).toNat) : FC I (30 + (v : Int)) := by
  have a := h.2.2.2.2.1 v hv
  have b := h.1.1
  exact ⟨⟨a.2.1.1, Int.lt_of_lt_of_le a.2.1.2 b.2.2⟩, gs_BX h (30 + v)⟩
theorem gs_Wr (h : GS I) {v : Nat} (hv : v < (I 82 9).toNat) : WD I (v : Int) := by
  have b := h.1.2.1
  have hv : v < (I 45 1).toNat := by omega
  have a := h.2.2.2.1 v hv
  have w := gs_W h hv
  unfold WD
  unfold FC at w
  simp only [Int.toNat_natCast] at w ⊢
  rw [a.1.1, a.1.2.1, a.1.2.2]
  exact w
theorem gs_Fr (h : GS I) {v : Nat} (hv : v < (I 82 10).toNat) : FD I (v : Int) := by
  have b := h.1.2.2.1
  have hv : v < (I 45 2).toNat := by omega
  have a := h.2.2.2.2.1 v hv
  have w := gs_F h hv
  unfold FD
  unfold FC at w
  simp only [Int.toNat_natCast] at w ⊢
  rw [a.1.1, a.1.2.1, a.1.2.2]
  exact w
theorem gs_cnt (h : GS I) : (0 ≤ I 45 1 ∧ I 45 1 ≤ 30) ∧ (0 ≤ I 45 2 ∧ I 45 2 ≤ 30) ∧ (0 ≤ I 82 9 ∧ I 82 9 ≤ 30) ∧ (0 ≤ I 82 10 ∧ I 82 10 ≤ 30) ∧ I 82 9 = I 45 1 ∧ I 82 10 = I 45 2 := by
  have a := h.1.2.1
  have b := h.1.2.2.1
  omega
theorem nf_eq (h : GS I) (X Y : Nat → Int) {f : Nat} (hf : f < (I 45 2).toNat) : NRF (I 130) (I 131) X Y (I 82 9).toNat (I 134) (I 135) (I 136) (I 138 f) (I 139 f) (I 140 f) = NRF (I 46) (I 47) X Y (I 45 1).toNat (I 50) (I 51) (I 52) (I 50 (30 + f)) (I 51 (30 + f)) (I 52 (30 + f)) := by
  obtain ⟨a, b, -, -, -, -⟩ := gs_eq h
  have e := h.1.2.1.1
  have q := (h.2.2.2.2.1 f hf).1
  rw [a, b, e, q.1, q.2.1, q.2.2]
  exact NRF_cg (fun v hv => (h.2.2.2.1 v hv).1)
theorem o_yards (f v w : Int) (hh : InvS I) : OpR 132 302 [(0, f), (0, v), (0, w)] I sp rt tt z := by
  have hS := hh.2.2.2.2.2.2
  obtain ⟨n1, n2, n3, n4, n5, n6⟩ := gs_cnt hS
  have hb := gs_BB hS
  have hbr := gs_BBr hS
  by_cases c : (0 ≤ f ∧ f < I 45 2) ∧ (0 ≤ v ∧ v < I 45 1) ∧ 0 ≤ w ∧ w ≤ 1
  · obtain ⟨f, rfl⟩ := Int.eq_ofNat_of_zero_le c.1.1
    obtain ⟨v, rfl⟩ := Int.eq_ofNat_of_zero_le c.2.1.1
    have hf := gs_F hS (v := f) (by omega)
    have hv := gs_W hS (v := v) (by omega)
    have hf' := gs_Fr hS (v := f) (by omega)
    have hv' := gs_Wr hS (v := v) (by omega)
    have q := (hS.2.2.2.2.1 f (by omega)).1
    have q' := (hS.2.2.2.1 v (by omega)).1
    obtain ⟨a1, a2, a3, a4, -, -⟩ := gs_eq hS
    refine ⟨if w = 1 then FAR (I 47) (I 48) (I 49) (I 50 (30 + (f : Int)).toNat) (I 51 (30 + (f : Int)).toNat) (I 52 (30 + (f : Int)).toNat) (I 50 (v : Int).toNat) (I 51 (v : Int).toNat) (I 52 (v : Int).toNat) + DBT (I 46) (I 50 (30 + (f : Int)).toNat) (I 50 (v : Int).toNat) else LEc I f v, I, I, ?_, ?_, hh, rfl⟩
    · refine (K_132 ..).trans ?_
      repeat' (first | refine ci_bt (by omega) ?_ | refine ci_bf (by omega) ?_ | refine ite_b01 ?_ | refine ci_b (fun _ => ?_) (fun _ => ?_) | refine ci_t (by omega) ?_ | refine ci_f (by omega) ?_ | refine ite_t (by omega) ?_ | refine ite_f (by omega) ?_ | refine bd_t (S_13) ?_ | refine bd_t (S_74 (by assumption) (by omega) (by assumption) (by omega) (by assumption)) ?_ | refine bd_t (S_133) ?_ | refine bd_t (S_134) ?_ | refine bd_t (S_135 (by assumption) (by omega) (by assumption) (by omega) (by assumption)) ?_ | refine (T_132_0 ..).trans ?_ | refine (T_132_8 ..).trans ?_ | refine (T_132_19 ..).trans ?_ | refine (T_132_28 ..).trans ?_ | refine (T_132_46 ..).trans ?_ | refine (T_132_58 ..).trans ?_ | refine ci_c (fun _ => ?_) (fun _ => ?_))
      · rw [if_neg (by omega)]
      · rw [if_pos (by omega)]
    · refine (K_302 ..).trans ?_
      repeat' (first | rw [w32_of (by omega) (by omega)] | refine ci_bt (by omega) ?_ | refine ci_bf (by omega) ?_ | refine ite_b01 ?_ | refine ci_b (fun _ => ?_) (fun _ => ?_) | refine ci_t (by omega) ?_ | refine ci_f (by omega) ?_ | refine ite_t (by omega) ?_ | refine ite_f (by omega) ?_ | refine bd_t (S_209) ?_ | refine bd_t (S_268 (by assumption) (by omega) (by assumption) (by omega) (by assumption)) ?_ | refine (T_302_0 ..).trans ?_ | refine (T_302_13 ..).trans ?_ | refine (T_302_29 ..).trans ?_ | refine (T_302_39 ..).trans ?_ | refine (T_302_49 ..).trans ?_ | refine ci_c (fun _ => ?_) (fun _ => ?_))
      refine eqv ?_
      unfold LEr LEc
      simp only [Int.toNat_natCast]
      rw [a1, a2, a3, a4, q.1, q.2.1, q.2.2, q'.1, q'.2.1, q'.2.2]
      rfl
  · refine ⟨-1, I, I, ?_, ?_, hh, rfl⟩
    · refine (K_132 ..).trans ?_
      repeat' (first | refine ci_bt (by omega) ?_ | refine ci_bf (by omega) ?_ | refine ite_b01 ?_ | refine ci_b (fun _ => ?_) (fun _ => ?_) | refine ci_t (by omega) ?_ | refine ci_f (by omega) ?_ | refine ite_t (by omega) ?_ | refine ite_f (by omega) ?_ | refine bd_t (S_13) ?_ | refine bd_t (S_74 (by assumption) (by omega) (by assumption) (by omega) (by assumption)) ?_ | refine bd_t (S_133) ?_ | refine bd_t (S_134) ?_ | refine bd_t (S_135 (by assumption) (by omega) (by assumption) (by omega) (by assumption)) ?_ | refine (T_132_0 ..).trans ?_ | refine (T_132_8 ..).trans ?_ | refine (T_132_19 ..).trans ?_ | refine (T_132_28 ..).trans ?_ | refine (T_132_46 ..).trans ?_ | refine (T_132_58 ..).trans ?_ | refine ci_c (fun _ => ?_) (fun _ => ?_))
      all_goals first | rfl | (exfalso; omega)
    · refine (K_302 ..).trans ?_
      repeat' (first | rw [w32_of (by omega) (by omega)] | refine ci_bt (by omega) ?_ | refine ci_bf (by omega) ?_ | refine ite_b01 ?_ | refine ci_b (fun _ => ?_) (fun _ => ?_) | refine ci_t (by omega) ?_ | refine ci_f (by omega) ?_ | refine ite_t (by omega) ?_ | refine ite_f (by omega) ?_ | refine bd_t (S_209) ?_ | refine bd_t (S_268z (by assumption) (by omega) (by assumption) (by omega) (by assumption)) ?_ | refine (T_302_0 ..).trans ?_ | refine (T_302_13 ..).trans ?_ | refine (T_302_29 ..).trans ?_ | refine (T_302_39 ..).trans ?_ | refine (T_302_49 ..).trans ?_ | refine ci_c (fun _ => ?_) (fun _ => ?_))
      all_goals first | rfl | (exfalso; omega)
theorem o_nearest (f : Int) (w : Int) (hw : w = 0 ∨ w = 1) (hh : InvS I) : OpR 136 303 [(0, f), (0, w)] I sp rt tt z := by
  have hS := hh.2.2.2.2.2.2
  have p1 := hh.2.1.1
  obtain ⟨n1, n2, n3, n4, n5, n6⟩ := gs_cnt hS
  have hb := gs_BB hS
  have hbr := gs_BBr hS
  have h1 : ∀ v : Nat, v < (I 45 1).toNat → FC I (v : Int) := fun v hv => gs_W hS hv
  have h2 : ∀ v : Nat, v < (I 45 2).toNat → FC I (30 + (v : Int)) := fun v hv => gs_F hS hv
  have h3 : ∀ v : Nat, v < (I 82 9).toNat → WD I (v : Int) := fun v hv => gs_Wr hS hv
  have h4 : ∀ v : Nat, v < (I 82 10).toNat → FD I (v : Int) := fun v hv => gs_Fr hS hv
  obtain ⟨a1, a2, a3, a4, a5, -⟩ := gs_eq hS
  by_cases c : w = 1
  · by_cases c2 : 0 ≤ f ∧ f < I 2 6
    · refine ⟨NPT (fun f => NFc I f) (I 53) (I 45 2).toNat f, I, I, ?_, ?_, hh, rfl⟩
      · refine (K_136 ..).trans ?_
        repeat' (first | refine ci_bt (by omega) ?_ | refine ci_bf (by omega) ?_ | refine ite_b01 ?_ | refine ci_b (fun _ => ?_) (fun _ => ?_) | refine ci_t (by omega) ?_ | refine ci_f (by omega) ?_ | refine ite_t (by omega) ?_ | refine ite_f (by omega) ?_ | refine bd_t (S_18) ?_ | refine bd_t (S_72 (by assumption) (by omega) (by assumption) (by omega) (by assumption)) ?_ | refine bd_t (S_73 (by assumption) (by omega) (by assumption) (by omega) (by assumption)) ?_ | refine bd_t (S_133) ?_ | refine (T_136_0 ..).trans ?_ | refine (T_136_12 ..).trans ?_ | refine (T_136_23 ..).trans ?_ | refine (T_136_36 ..).trans ?_ | refine (T_136_47 ..).trans ?_ | refine ci_c (fun _ => ?_) (fun _ => ?_))
        all_goals rfl
      · refine (K_303 ..).trans ?_
        repeat' (first | refine ci_bt (by omega) ?_ | refine ci_bf (by omega) ?_ | refine ite_b01 ?_ | refine ci_b (fun _ => ?_) (fun _ => ?_) | refine ci_t (by omega) ?_ | refine ci_f (by omega) ?_ | refine ite_t (by omega) ?_ | refine ite_f (by omega) ?_ | refine bd_t (S_209) ?_ | refine bd_t (S_212 (by omega)) ?_ | refine bd_t (S_266 (by assumption) (by omega) (by assumption) (by omega) (by assumption)) ?_ | refine bd_t (S_267 (by assumption) (by omega) (by assumption) (by omega) (by assumption)) ?_ | refine (T_303_0 ..).trans ?_ | refine (T_303_9 ..).trans ?_ | refine (T_303_17 ..).trans ?_ | refine (T_303_35 ..).trans ?_ | refine (T_303_43 ..).trans ?_ | refine ci_c (fun _ => ?_) (fun _ => ?_))
        refine eqv ?_
        rw [n6, a5]
        refine NPT_cg (fun g hg => ?_)
        have e := nf_eq hS (I 132) (I 133) hg
        unfold NFr NFc
        rw [a3, a4] at e
        simp only [Int.toNat_natCast]
        rw [a3, a4]
        exact e
    · refine ⟨-1, I, I, ?_, ?_, hh, rfl⟩
      · refine (K_136 ..).trans ?_
        repeat' (first | refine ci_bt (by omega) ?_ | refine ci_bf (by omega) ?_ | refine ite_b01 ?_ | refine ci_b (fun _ => ?_) (fun _ => ?_) | refine ci_t (by omega) ?_ | refine ci_f (by omega) ?_ | refine ite_t (by omega) ?_ | refine ite_f (by omega) ?_ | refine bd_t (S_18) ?_ | refine bd_t (S_73 (by assumption) (by omega) (by assumption) (by omega) (by assumption)) ?_ | refine bd_t (S_133) ?_ | refine (T_136_0 ..).trans ?_ | refine (T_136_12 ..).trans ?_ | refine (T_136_23 ..).trans ?_ | refine (T_136_36 ..).trans ?_ | refine (T_136_47 ..).trans ?_ | refine ci_c (fun _ => ?_) (fun _ => ?_))
        all_goals first | rfl | (exfalso; omega)
      · refine (K_303 ..).trans ?_
        repeat' (first | refine ci_bt (by omega) ?_ | refine ci_bf (by omega) ?_ | refine ite_b01 ?_ | refine ci_b (fun _ => ?_) (fun _ => ?_) | refine ci_t (by omega) ?_ | refine ci_f (by omega) ?_ | refine ite_t (by omega) ?_ | refine ite_f (by omega) ?_ | refine bd_t (S_209) ?_ | refine bd_t (S_212 (by omega)) ?_ | refine bd_t (S_267 (by assumption) (by omega) (by assumption) (by omega) (by assumption)) ?_ | refine (T_303_0 ..).trans ?_ | refine (T_303_9 ..).trans ?_ | refine (T_303_17 ..).trans ?_ | refine (T_303_35 ..).trans ?_ | refine (T_303_43 ..).trans ?_ | refine ci_c (fun _ => ?_) (fun _ => ?_))
        all_goals first | rfl | (exfalso; omega)
  · by_cases c2 : 0 ≤ f ∧ f < I 45 2
    · obtain ⟨f, rfl⟩ := Int.eq_ofNat_of_zero_le c2.1
      have hf := gs_F hS (v := f) (by omega)
      have hf' := gs_Fr hS (v := f) (by omega)
      refine ⟨NFc I f, I, I, ?_, ?_, hh, rfl⟩
      · refine (K_136 ..).trans ?_
        repeat' (first | refine ci_bt (by omega) ?_ | refine ci_bf (by omega) ?_ | refine ite_b01 ?_ | refine ci_b (fun _ => ?_) (fun _ => ?_) | refine ci_t (by omega) ?_ | refine ci_f (by omega) ?_ | refine ite_t (by omega) ?_ | refine ite_f (by omega) ?_ | refine bd_t (S_18) ?_ | refine bd_t (S_73 (by assumption) (by omega) (by assumption) (by omega) (by assumption)) ?_ | refine bd_t (S_133) ?_ | refine (T_136_0 ..).trans ?_ | refine (T_136_12 ..).trans ?_ | refine (T_136_23 ..).trans ?_ | refine (T_136_36 ..).trans ?_ | refine (T_136_47 ..).trans ?_ | refine ci_c (fun _ => ?_) (fun _ => ?_))
        all_goals rfl
      · refine (K_303 ..).trans ?_
        repeat' (first | rw [w32_of (by omega) (by omega)] | refine ci_bt (by omega) ?_ | refine ci_bf (by omega) ?_ | refine ite_b01 ?_ | refine ci_b (fun _ => ?_) (fun _ => ?_) | refine ci_t (by omega) ?_ | refine ci_f (by omega) ?_ | refine ite_t (by omega) ?_ | refine ite_f (by omega) ?_ | refine bd_t (S_209) ?_ | refine bd_t (S_212 (by omega)) ?_ | refine bd_t (S_267 (by assumption) (by omega) (by assumption) (by omega) (by assumption)) ?_ | refine (T_303_0 ..).trans ?_ | refine (T_303_9 ..).trans ?_ | refine (T_303_17 ..).trans ?_ | refine (T_303_35 ..).trans ?_ | refine (T_303_43 ..).trans ?_ | refine ci_c (fun _ => ?_) (fun _ => ?_))
        refine eqv ?_
        have e := nf_eq hS (I 132) (I 133) (f := f) (by omega)
        unfold NFr NFc
        rw [a3, a4] at e
        simp only [Int.toNat_natCast]
        rw [a3, a4]
        exact e
    · refine ⟨-1, I, I, ?_, ?_, hh, rfl⟩
      · refine (K_136 ..).trans ?_
        repeat' (first | refine ci_bt (by omega) ?_ | refine ci_bf (by omega) ?_ | refine ite_b01 ?_ | refine ci_b (fun _ => ?_) (fun _ => ?_) | refine ci_t (by omega) ?_ | refine ci_f (by omega) ?_ | refine ite_t (by omega) ?_ | refine ite_f (by omega) ?_ | refine bd_t (S_18) ?_ | refine bd_t (S_73 (by assumption) (by omega) (by assumption) (by omega) (by assumption)) ?_ | refine bd_t (S_133) ?_ | refine (T_136_0 ..).trans ?_ | refine (T_136_12 ..).trans ?_ | refine (T_136_23 ..).trans ?_ | refine (T_136_36 ..).trans ?_ | refine (T_136_47 ..).trans ?_ | refine ci_c (fun _ => ?_) (fun _ => ?_))
        all_goals first | rfl | (exfalso; omega)
      · refine (K_303 ..).trans ?_
        repeat' (first | rw [w32_of (by omega) (by omega)] | refine ci_bt (by omega) ?_ | refine ci_bf (by omega) ?_ | refine ite_b01 ?_ | refine ci_b (fun _ => ?_) (fun _ => ?_) | refine ci_t (by omega) ?_ | refine ci_f (by omega) ?_ | refine ite_t (by omega) ?_ | refine ite_f (by omega) ?_ | refine bd_t (S_209) ?_ | refine bd_t (S_212 (by omega)) ?_ | refine bd_t (S_267 (by assumption) (by omega) (by assumption) (by omega) (by assumption)) ?_ | refine (T_303_0 ..).trans ?_ | refine (T_303_9 ..).trans ?_ | refine (T_303_17 ..).trans ?_ | refine (T_303_35 ..).trans ?_ | refine (T_303_43 ..).trans ?_ | refine ci_c (fun _ => ?_) (fun _ => ?_))
        all_goals first | rfl | (exfalso; omega)
end Y3

