/-! moves, torn -/
theorem up2_back {I : Nat → Nat → Int} {a b k : Nat} {x y : Int} : up2 (up2 (up2 (up2 I a k x) b k y) a k (I a k)) b k (I b k) = I := by
  funext c j
  unfold up2
  by_cases h1 : c = b ∧ j = k
  · rw [if_pos h1, h1.1, h1.2]
  · rw [if_neg h1]
    by_cases h2 : c = a ∧ j = k
    · rw [if_pos h2, h2.1, h2.2]
    · rw [if_neg h2, if_neg h1, if_neg h2]
def frst (c : Nat → Prop) [DecidablePred c] : Nat → Nat → Int
  | 0, _ => -1
  | f + 1, j => if c j then (j : Int) else frst c f (j + 1)
theorem loop_f (c : Nat → Prop) [DecidablePred c] (G : Nat → Int → Prop) (n : Nat) (h1 : ∀ j, j < n → c j → G j j) (h2 : ∀ j r, j < n → ¬ c j → G (j + 1) r → G j r) (h3 : G n (-1)) : G 0 (frst c n 0) := by
  have h : ∀ f j, j + f = n → G j (frst c f j) := by
    intro f
    induction f with
    | zero => intro j hj; have : j = n := by omega
              subst this; exact h3
    | succ f ih =>
      intro j hj
      unfold frst
      by_cases e : c j
      · rw [if_pos e]; exact h1 j (by omega) e
      · rw [if_neg e]; exact h2 j _ (by omega) e (ih (j + 1) (by omega))
  exact h n 0 (by omega)
theorem frst_cg {c c' : Nat → Prop} [DecidablePred c] [DecidablePred c'] : ∀ {f j : Nat}, (∀ i, j ≤ i → i < j + f → (c i ↔ c' i)) → frst c f j = frst c' f j
  | 0, _, _ => rfl
  | f + 1, j, h => by
    unfold frst
    rw [frst_cg (f := f) (j := j + 1) (fun i h1 h2 => h i (by omega) (by omega))]
    have e := h j (Nat.le_refl _) (by omega)
    by_cases q : c j
    · rw [if_pos q, if_pos (e.mp q)]
    · rw [if_neg q, if_neg (fun w => q (e.mpr w))]
section M1
variable {I : Nat → Nat → Int} {sp rt : Nat} {tt : Nat → Nat} {z : Zs}
theorem BB_up {E T X Y : Nat → Int} {X' Y' : Nat → Int} (h : BB E T X Y) (hx : ∀ j, -100000 ≤ X' j ∧ X' j ≤ 100000) (hy : ∀ j, -100000 ≤ Y' j ∧ Y' j ≤ 100000) : BB E T X' Y' := fun j => ⟨(h j).1, (h j).2.1, hx j, hy j⟩
theorem up_in {I : Nat → Nat → Int} {a k : Nat} {x : Int} (h : ∀ j, -100000 ≤ I a j ∧ I a j ≤ 100000) (hx : -100000 ≤ x ∧ x ≤ 100000) : ∀ j, -100000 ≤ up2 I a k x a j ∧ up2 I a k x a j ≤ 100000 := fun j => by
  rw [up2_at]; split
  · exact hx
  · exact h j
theorem o_moves (k x y u : Int) (hh : InvS I) : OpR 137 304 [(0, k), (0, x), (0, y), (0, u)] I sp rt tt z := by
  have hS := hh.2.2.2.2.2.2
  obtain ⟨n1, n2, n3, n4, n5, n6⟩ := gs_cnt hS
  have n0 := hS.1.1
  have hb := gs_BB hS
  have hbr := gs_BBr hS
  have h1 : ∀ v : Nat, v < (I 45 1).toNat → FC I (v : Int) := fun v hv => gs_W hS hv
  have h2 : ∀ v : Nat, v < (I 45 2).toNat → FC I (30 + (v : Int)) := fun v hv => gs_F hS hv
  have h3 : ∀ v : Nat, v < (I 82 9).toNat → WD I (v : Int) := fun v hv => gs_Wr hS hv
  have h4 : ∀ v : Nat, v < (I 82 10).toNat → FD I (v : Int) := fun v hv => gs_Fr hS hv
  obtain ⟨a1, a2, a3, a4, a5, -⟩ := gs_eq hS
  by_cases c : (0 ≤ k ∧ k < I 45 0) ∧ (-100000 ≤ x ∧ x ≤ 100000 ∧ -100000 ≤ y ∧ y ≤ 100000) ∧ 1 ≤ u ∧ u ≤ 99999
  · have q := hb k.toNat
    have q' := hbr k.toNat
    have hb2 : BB (up2 (up2 I 48 k.toNat x) 49 k.toNat y 46) (up2 (up2 I 48 k.toNat x) 49 k.toNat y 47) (up2 (up2 I 48 k.toNat x) 49 k.toNat y 48) (up2 (up2 I 48 k.toNat x) 49 k.toNat y 49) := BB_up (X := I 48) (Y := I 49) hb (up_in (a := 48) (fun j => (hb j).2.2.1) (by omega)) (up_in (I := up2 I 48 k.toNat x) (a := 49) (fun j => (hb j).2.2.2) (by omega))
    have hb3 : BB (up2 (up2 I 132 k.toNat x) 133 k.toNat y 130) (up2 (up2 I 132 k.toNat x) 133 k.toNat y 131) (up2 (up2 I 132 k.toNat x) 133 k.toNat y 132) (up2 (up2 I 132 k.toNat x) 133 k.toNat y 133) := BB_up (X := I 132) (Y := I 133) hbr (up_in (a := 132) (fun j => (hbr j).2.2.1) (by omega)) (up_in (I := up2 I 132 k.toNat x) (a := 133) (fun j => (hbr j).2.2.2) (by omega))
    refine ⟨ia32 (NST (fun f => NFc (up2 (up2 I 48 k.toNat x) 49 k.toNat y) f) (I 45 2).toNat u) (ix32 (NST (fun f => NFc I f) (I 45 2).toNat u) (-1)), I, I, ?_, ?_, hh, rfl⟩
    · refine (K_137 ..).trans ?_
      refine (T_137_0 ..).trans ?_
      refine bd_t (v := some (0, ia32 (NST (fun f => NFc (up2 (up2 I 48 k.toNat x) 49 k.toNat y) f) (I 45 2).toNat u) (ix32 (NST (fun f => NFc I f) (I 45 2).toNat u) (-1)))) (h := (I, RF sp rt tt z.1, z)) ((K_138 ..).trans ?_) (T_137_12 ..)
      repeat' (first | refine ci_bt (by omega) ?_ | refine ci_bf (by omega) ?_ | refine ite_b01 ?_ | refine ci_b (fun _ => ?_) (fun _ => ?_) | refine ci_t (by omega) ?_ | refine ci_f (by omega) ?_ | refine ite_t (by omega) ?_ | refine ite_f (by omega) ?_ | refine bd_t (S_13) ?_ | refine bd_t ((S_125 (d := 294) (by omega)).trans (if_pos (by omega))) ?_ | refine bd_t ((S_125 (d := 294) (I := up2 (up2 I 48 k.toNat x) 49 k.toNat y) (by show 0 ≤ I 45 0 ∧ I 45 0 ≤ 15; omega)).trans (if_pos (by show (0 ≤ k ∧ k < I 45 0) ∧ -100000 ≤ I 48 k.toNat ∧ I 48 k.toNat ≤ 100000 ∧ -100000 ≤ I 49 k.toNat ∧ I 49 k.toNat ≤ 100000; omega))) ?_ | refine bd_t (S_126) ?_ | refine bd_t (S_139 (d := 293) (I := I) hb n1 h1 n2 h2) ?_ | refine bd_t (S_139 (d := 293) (I := up2 (up2 I 48 k.toNat x) 49 k.toNat y) hb2 n1 h1 n2 h2) ?_ | refine (T_138_0 ..).trans ?_ | refine (T_138_7 ..).trans ?_ | refine (T_138_18 ..).trans ?_ | refine (T_138_29 ..).trans ?_ | refine (T_138_54 ..).trans ?_ | refine (T_138_61 ..).trans ?_ | refine (T_138_72 ..).trans ?_ | refine ci_c (fun _ => ?_) (fun _ => ?_))
      rw [up2_back]
      rfl
    · refine (K_304 ..).trans ?_
      repeat' (first | refine ci_bt (by omega) ?_ | refine ci_bf (by omega) ?_ | refine ite_b01 ?_ | refine ci_b (fun _ => ?_) (fun _ => ?_) | refine ci_t (by omega) ?_ | refine ci_f (by omega) ?_ | refine ite_t (by omega) ?_ | refine ite_f (by omega) ?_ | refine bd_t (S_209) ?_ | refine bd_t (S_297) ?_ | refine bd_t (S_299 (by omega)) ?_ | refine bd_t (S_305 (d := 294) (I := I) hbr n3 h3 n4 h4) ?_ | refine bd_t (S_305 (d := 294) (I := up2 (up2 I 132 k.toNat x) 133 k.toNat y) hb3 n3 h3 n4 h4) ?_ | refine (T_304_0 ..).trans ?_ | refine (T_304_5 ..).trans ?_ | refine (T_304_13 ..).trans ?_ | refine (T_304_26 ..).trans ?_ | refine (T_304_37 ..).trans ?_ | refine (T_304_75 ..).trans ?_ | refine ci_c (fun _ => ?_) (fun _ => ?_))
      rw [up2_back]
      refine eqv ?_
      have e1 : NST (fun f => NFr I f) (I 82 10).toNat u = NST (fun f => NFc I f) (I 45 2).toNat u := by
        rw [n6]
        refine NST_cg (fun g hg => ?_)
        have e := nf_eq hS (I 132) (I 133) hg
        unfold NFr NFc
        rw [a3, a4] at e
        simp only [Int.toNat_natCast]
        rw [a3, a4]
        exact e
      have x1 : up2 (up2 I 132 k.toNat x) 133 k.toNat y 132 = up2 (up2 I 48 k.toNat x) 49 k.toNat y 48 := by
        funext j
        simp only [up2_def]
        simp [a3]
      have x2 : up2 (up2 I 132 k.toNat x) 133 k.toNat y 133 = up2 (up2 I 48 k.toNat x) 49 k.toNat y 49 := by
        funext j
        simp only [up2_def]
        simp [a4]
      have e2 : NST (fun f => NFr (up2 (up2 I 132 k.toNat x) 133 k.toNat y) f) (I 82 10).toNat u = NST (fun f => NFc (up2 (up2 I 48 k.toNat x) 49 k.toNat y) f) (I 45 2).toNat u := by
        rw [n6]
        refine NST_cg (fun g hg => ?_)
        have e := nf_eq hS (up2 (up2 I 48 k.toNat x) 49 k.toNat y 48) (up2 (up2 I 48 k.toNat x) 49 k.toNat y 49) hg
        unfold NFr NFc
        rw [x1, x2]
        exact e
      rw [← e1, ← e2]
      rfl
  · refine ⟨-1, I, I, ?_, ?_, hh, rfl⟩
    · refine (K_137 ..).trans ?_
      refine (T_137_0 ..).trans ?_
      refine bd_t (v := some (0, -1)) (h := (I, RF sp rt tt z.1, z)) ((K_138 ..).trans ?_) (T_137_12 ..)
      repeat' (first | refine ci_bt (by omega) ?_ | refine ci_bf (by omega) ?_ | refine ite_b01 ?_ | refine ci_b (fun _ => ?_) (fun _ => ?_) | refine ci_t (by omega) ?_ | refine ci_f (by omega) ?_ | refine ite_t (by omega) ?_ | refine ite_f (by omega) ?_ | refine bd_t (S_13) ?_ | refine bd_t (S_125 (by omega)) ?_ | refine bd_t (S_126) ?_ | refine (T_138_0 ..).trans ?_ | refine (T_138_7 ..).trans ?_ | refine (T_138_18 ..).trans ?_ | refine (T_138_29 ..).trans ?_ | refine (T_138_54 ..).trans ?_ | refine (T_138_61 ..).trans ?_ | refine (T_138_72 ..).trans ?_ | refine ci_c (fun _ => ?_) (fun _ => ?_))
      all_goals first | rfl | (exfalso; omega)
    · refine (K_304 ..).trans ?_
      repeat' (first | refine ci_bt (by omega) ?_ | refine ci_bf (by omega) ?_ | refine ite_b01 ?_ | refine ci_b (fun _ => ?_) (fun _ => ?_) | refine ci_t (by omega) ?_ | refine ci_f (by omega) ?_ | refine ite_t (by omega) ?_ | refine ite_f (by omega) ?_ | refine bd_t (S_209) ?_ | refine bd_t (S_297) ?_ | refine bd_t (S_299 (by omega)) ?_ | refine (T_304_0 ..).trans ?_ | refine (T_304_5 ..).trans ?_ | refine (T_304_13 ..).trans ?_ | refine (T_304_26 ..).trans ?_ | refine (T_304_37 ..).trans ?_ | refine (T_304_75 ..).trans ?_ | refine ci_c (fun _ => ?_) (fun _ => ?_))
      all_goals first | rfl | (exfalso; omega)
end M1
abbrev TORc (I : Nat → Nat → Int) (j : Nat) : Prop := DBT (I 46) (I 50 (60 + 2 * j)) (I 50 (60 + 2 * j + 1)) + I 54 j < FAR (I 47) (I 48) (I 49) (I 50 (60 + 2 * j)) (I 51 (60 + 2 * j)) (I 52 (60 + 2 * j)) (I 50 (60 + 2 * j + 1)) (I 51 (60 + 2 * j + 1)) (I 52 (60 + 2 * j + 1))
section M2
variable {d : Nat} {I : Nat → Nat → Int} {sp rt : Nat} {tt : Nat → Nat} {z : Zs}
theorem S_75n {i j : Nat} (hb : BB (I 46) (I 47) (I 48) (I 49)) (h : i < 120) (h2 : 0 ≤ I 50 i ∧ I 50 i < 15) (hx : BX (I 51 i) (I 52 i)) (h' : j < 120) (h2' : 0 ≤ I 50 j ∧ I 50 j < 15) (hx' : BX (I 51 j) (I 52 j)) : Call PG (d + 2) 75 [(2, 45), (0, (i : Int)), (0, (j : Int))] (I, RF sp rt tt z.1, z) = some (some (0, FAR (I 47) (I 48) (I 49) (I 50 i) (I 51 i) (I 52 i) (I 50 j) (I 51 j) (I 52 j)), (I, RF sp rt tt z.1, z)) := S_75 hb (by omega) h2 hx (by omega) h2' hx'
theorem S_78n {i j : Nat} (hb : BB (I 46) (I 47) (I 48) (I 49)) (h : i < 120) (h2 : 0 ≤ I 50 i ∧ I 50 i < 15) (h' : j < 120) (h2' : 0 ≤ I 50 j ∧ I 50 j < 15) : Call PG (d + 1) 78 [(2, 45), (0, (i : Int)), (0, (j : Int))] (I, RF sp rt tt z.1, z) = some (some (0, DBT (I 46) (I 50 i) (I 50 j)), (I, RF sp rt tt z.1, z)) := S_78 hb (by omega) h2 (by omega) h2'
theorem S_144s {j : Nat} {d0 : AV} (h0 : dl d0) (hn : 0 ≤ I 45 3 ∧ I 45 3 ≤ 30) (hi : j < (I 45 3).toNat) (hb : BB (I 46) (I 47) (I 48) (I 49)) (hJ : 0 ≤ I 54 j ∧ I 54 j ≤ 1000) (g1 : (0 ≤ I 50 (60 + 2 * j) ∧ I 50 (60 + 2 * j) < 15) ∧ BX (I 51 (60 + 2 * j)) (I 52 (60 + 2 * j))) (g2 : (0 ≤ I 50 (60 + 2 * j + 1) ∧ I 50 (60 + 2 * j + 1) < 15) ∧ BX (I 51 (60 + 2 * j + 1)) (I 52 (60 + 2 * j + 1))) : Run PG (Call PG (d + 2)) 144 2 [(2, 45), (0, (j : Int)), d0] [] (I, RF sp rt tt z.1, z) (0, 0) = ci (TORc I j) (some (some (0, (j : Int)), (I, RF sp rt tt z.1, z))) (Run PG (Call PG (d + 2)) 144 2 [(2, 45), (0, (j : Int) + 1), (0, ((60 + 2 * j : Nat) : Int))] [] (I, RF sp rt tt z.1, z) (0, 0)) := by
  have e1 : w32 (60 + w32 (2 * (j : Int))) = ((60 + 2 * j : Nat) : Int) := by rw [w32_of (x := 2 * (j : Int)) (by omega) (by omega), w32_of (by omega) (by omega)]; omega
  have e2 : w32 (((60 + 2 * j : Nat) : Int) + 1) = ((60 + 2 * j + 1 : Nat) : Int) := by rw [w32_of (by omega) (by omega)]; omega
  have e3 : w32 ((j : Int) + 1) = (j : Int) + 1 := w32_of (by omega) (by omega)
  have b1 := DBT_b (k := I 50 (60 + 2 * j)) (l := I 50 (60 + 2 * j + 1)) hb
  have e4 : w32 (DBT (I 46) (I 50 (60 + 2 * j)) (I 50 (60 + 2 * j + 1)) + I 54 j) = DBT (I 46) (I 50 (60 + 2 * j)) (I 50 (60 + 2 * j + 1)) + I 54 j := w32_of (by omega) (by omega)
  refine (T_144_2 _ _ _ _ _ _ _ _ h0).trans ?_
  rw [e1, e2]
  refine ci_t (by omega) ?_
  refine bd_t (S_75n hb (by omega) g1.1 g1.2 (by omega) g2.1 g2.2) ?_
  refine (T_144_25 ..).trans ?_
  rw [e2]
  refine bd_t (S_78n hb (by omega) g1.1 (by omega) g2.1) ?_
  refine (T_144_33 ..).trans ?_
  refine ci_t (by omega) ?_
  rw [Int.toNat_natCast, e4, e3]
  by_cases c : TORc I j
  · refine ci_f (Int.not_le.mpr c) ?_
    exact (ci_t c rfl).symm
  · refine ci_t (Int.not_lt.mp c) ?_
    exact (ci_f c rfl).symm
abbrev TORr (I : Nat → Nat → Int) (j : Nat) : Prop := DBT (I 130) (I 141 (2 * j)) (I 141 (2 * j + 1)) + I 144 j < FAR (I 131) (I 132) (I 133) (I 141 (2 * j)) (I 142 (2 * j)) (I 143 (2 * j)) (I 141 (2 * j + 1)) (I 142 (2 * j + 1)) (I 143 (2 * j + 1))
theorem S_307s {j : Nat} {d0 d1 : AV} (h0 : dl d0) (h1 : dl d1) (hn : 0 ≤ I 82 11 ∧ I 82 11 ≤ 30) (hi : j < (I 82 11).toNat) (hb : BB (I 130) (I 131) (I 132) (I 133)) (hJ : 0 ≤ I 144 j ∧ I 144 j ≤ 1000) (g1 : (0 ≤ I 141 (2 * j) ∧ I 141 (2 * j) < 15) ∧ BX (I 142 (2 * j)) (I 143 (2 * j))) (g2 : (0 ≤ I 141 (2 * j + 1) ∧ I 141 (2 * j + 1) < 15) ∧ BX (I 142 (2 * j + 1)) (I 143 (2 * j + 1))) : Run PG (Call PG (d + 2)) 307 2 [(2, 82), (0, (j : Int)), d0, d1] [] (I, RF sp rt tt z.1, z) (0, 0) = ci (TORr I j) (some (some (0, (j : Int)), (I, RF sp rt tt z.1, z))) (Run PG (Call PG (d + 2)) 307 2 [(2, 82), (0, (j : Int) + 1), (0, ((2 * j : Nat) : Int)), (0, ((2 * j + 1 : Nat) : Int))] [] (I, RF sp rt tt z.1, z) (0, 0)) := by
  have e1 : w32 (2 * (j : Int)) = ((2 * j : Nat) : Int) := by rw [w32_of (by omega) (by omega)]; omega
  have e2 : w32 (((2 * j : Nat) : Int) + 1) = ((2 * j + 1 : Nat) : Int) := by rw [w32_of (by omega) (by omega)]; omega
  have e3 : w32 ((j : Int) + 1) = (j : Int) + 1 := w32_of (by omega) (by omega)
  have b1 := DBT_b (k := I 141 (2 * j)) (l := I 141 (2 * j + 1)) hb
  have e4 : w32 (DBT (I 130) (I 141 (2 * j)) (I 141 (2 * j + 1)) + I 144 j) = DBT (I 130) (I 141 (2 * j)) (I 141 (2 * j + 1)) + I 144 j := w32_of (by omega) (by omega)
  refine (T_307_2 _ _ _ _ _ _ _ _ _ h0 h1).trans ?_
  rw [e1, e2]
  refine ci_t (by omega) ?_
  repeat refine ci_t (by omega) ?_
  simp only [Int.toNat_natCast]
  refine bd_t (S_269 hb (by omega) g1.2 (by omega) g2.2) ?_
  refine (T_307_58 ..).trans ?_
  repeat refine ci_t (by omega) ?_
  simp only [Int.toNat_natCast]
  refine bd_t (S_273 hb (by omega) (by omega)) ?_
  refine (T_307_74 ..).trans ?_
  refine ci_t (by omega) ?_
  rw [Int.toNat_natCast, e4, e3]
  by_cases c : TORr I j
  · refine ci_f (Int.not_le.mpr c) ?_
    exact (ci_t c rfl).symm
  · refine ci_t (Int.not_lt.mp c) ?_
    exact (ci_f c rfl).symm
theorem o_torn (hh : InvS I) : OpR 143 307 [] I sp rt tt z := by
  have hS := hh.2.2.2.2.2.2
  have n0 := hS.1.1
  have n3 := hS.1.2.2.2
  have hb := gs_BB hS
  have hbr := gs_BBr hS
  obtain ⟨a1, a2, a3, a4, a5, a6⟩ := gs_eq hS
  have hj : ∀ j : Nat, j < 2 * (I 45 3).toNat → (0 ≤ I 50 (60 + j) ∧ I 50 (60 + j) < 15) ∧ BX (I 51 (60 + j)) (I 52 (60 + j)) := fun j h => by
    have a := hS.2.2.2.2.2 j h
    exact ⟨⟨a.2.1, Int.lt_of_lt_of_le a.2.2 n0.2.2⟩, gs_BX hS _⟩
  have hr : ∀ j : Nat, j < 2 * (I 45 3).toNat → (0 ≤ I 141 j ∧ I 141 j < 15) ∧ BX (I 142 j) (I 143 j) := fun j h => by
    have a := (hS.2.2.2.2.2 j h).1
    rw [a.1, a.2.1, a.2.2]
    exact hj j h
  have ee : frst (TORc I) (I 45 3).toNat 0 = frst (TORr I) (I 82 11).toNat 0 := by
    rw [n3.1]
    refine frst_cg (fun i _ hi => ?_)
    have b1 := (hS.2.2.2.2.2 (2 * i) (by omega)).1
    have b2 := (hS.2.2.2.2.2 (2 * i + 1) (by omega)).1
    unfold TORc TORr
    rw [a1, a2, a3, a4, a6, b1.1, b1.2.1, b1.2.2, b2.1, b2.2.1, b2.2.2]
    exact Iff.rfl
  refine ⟨frst (TORc I) (I 45 3).toNat 0, I, I, ?_, ?_, hh, rfl⟩
  · refine (K_143 ..).trans ?_
    refine (T_143_0 ..).trans ?_
    refine bd_t (v := some (0, frst (TORc I) (I 45 3).toNat 0)) (h := (I, RF sp rt tt z.1, z)) ((K_144 ..).trans ((T_144_0 ..).trans ?_)) (T_143_7 ..)
    refine loop_f (TORc I) (fun (j : Nat) (r : Int) => ∀ d0, dl d0 → Run PG (Call PG 298) 144 2 [(2, 45), (0, (j : Int)), d0] [] (I, RF sp rt tt z.1, z) (0, 0) = some (some (0, r), (I, RF sp rt tt z.1, z))) (I 45 3).toNat ?_ ?_ ?_ _ dl9
    · intro j h c d0 h0
      exact (S_144s h0 n3.2 h hb (hS.2.2.1 j).2.2.2.2.2.2 (hj (2 * j) (by omega)) (hj (2 * j + 1) (by omega))).trans (ci_t c rfl)
    · intro j r h c hr d0 h0
      exact (S_144s h0 n3.2 h hb (hS.2.2.1 j).2.2.2.2.2.2 (hj (2 * j) (by omega)) (hj (2 * j + 1) (by omega))).trans (ci_f c (hr _ (dl0 _)))
    · intro d0 h0
      refine (T_144_2 _ _ _ _ _ _ _ _ h0).trans ?_
      exact ci_f (by omega) rfl
  · rw [ee]
    refine (K_307 ..).trans ((T_307_0 ..).trans ?_)
    refine loop_f (TORr I) (fun (j : Nat) (r : Int) => ∀ d0, dl d0 → ∀ d1, dl d1 → Run PG (Call PG 299) 307 2 [(2, 82), (0, (j : Int)), d0, d1] [] (I, RF sp rt tt z.1, z) (0, 0) = some (some (0, r), (I, RF sp rt tt z.1, z))) (I 82 11).toNat ?_ ?_ ?_ _ dl9 _ dl9
    · intro j h c d0 h0 d1 h1
      exact (S_307s h0 h1 (by omega) h hbr (by rw [a6]; exact (hS.2.2.1 j).2.2.2.2.2.2) (hr (2 * j) (by omega)) (hr (2 * j + 1) (by omega))).trans (ci_t c rfl)
    · intro j r h c hr2 d0 h0 d1 h1
      exact (S_307s h0 h1 (by omega) h hbr (by rw [a6]; exact (hS.2.2.1 j).2.2.2.2.2.2) (hr (2 * j) (by omega)) (hr (2 * j + 1) (by omega))).trans (ci_f c (hr2 _ (dl0 _) _ (dl0 _)))
    · intro d0 h0 d1 h1
      refine (T_307_2 _ _ _ _ _ _ _ _ _ h0 h1).trans ?_
      exact ci_f (by omega) rfl
end M2

