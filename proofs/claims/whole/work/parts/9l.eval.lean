/-! texts: what the codes come to -/
theorem lcm_0 {x : Int} : lcm x 0 = 0 ↔ x = 0 := by
  unfold lcm
  by_cases h : x < 0
  · rw [if_pos h]; constructor <;> intro q <;> omega
  · rw [if_neg h]
    by_cases h2 : x = 0
    · rw [if_pos h2]; exact ⟨fun _ => h2, fun _ => rfl⟩
    · rw [if_neg h2]; constructor <;> intro q <;> omega
theorem lcm_1 {x : Int} : lcm x 1 = 0 ↔ x = 1 := by
  unfold lcm
  by_cases h : x < 1
  · rw [if_pos h]; constructor <;> intro q <;> omega
  · rw [if_neg h]
    by_cases h2 : x = 1
    · rw [if_pos h2]; exact ⟨fun _ => h2, fun _ => rfl⟩
    · rw [if_neg h2]; constructor <;> intro q <;> omega
/-- what is asked of the letters alone matters -/
theorem Cd_ag {P : Nat → Prop} {co : Nat → Int} {a b d : Nat} {f : FM} {e e' : FE} (h : Cd P co a b d f) (hP : ∀ k, k < 12 → P k → e k = e' k) : f e = f e' := by
  refine Cd_ind (Q := fun _ _ _ f => f e = f e') h ?_ ?_ ?_ ?_ ?_ ?_
  · exact fun _ _ _ => rfl
  · intro a d k h1 h2 h3
    show some (e k) = some (e' k)
    rw [hP k h2 h3]
  · intro a m b d c f g _ _ _ _ i1 i2
    unfold binF
    rw [i1, i2]
  · intro a b d f _ _ _ i1
    unfold notF
    rw [i1]
  · intro a m b d f g _ _ _ _ _ _ i1 i2
    unfold andF
    rw [i1, i2]
  · intro a m b d f g _ _ _ _ _ _ i1 i2
    unfold orF
    rw [i1, i2]
section EV0
variable {d : Nat} {I : Nat → Nat → Int} {sp rt : Nat} {tt : Nat → Nat} {z : Zs} {T : Nat}
theorem S_82 {c a b : Int} (hc : isO c) : Call PG (d + 1) 82 [(0, c), (1, a), (1, b)] (I, RF sp rt tt z.1, z) = some (some (1, ap c a b), (I, RF sp rt tt z.1, z)) := by
  refine (K_82 ..).trans ((T_82_0 ..).trans ((T_82_1 ..).trans ?_))
  unfold ap
  by_cases h43 : c = 43
  · subst h43; exact T_82_68 ..
  · rw [if_neg h43]
    by_cases h45 : c = 45
    · subst h45; exact T_82_72 ..
    · rw [if_neg h45]
      by_cases h42 : c = 42
      · subst h42; exact T_82_76 ..
      · rw [if_neg h42]
        by_cases h47 : c = 47
        · subst h47
          refine (T_82_80 ..).trans ?_
          by_cases q : b = 0
          · rw [if_pos rfl]; refine ci_t (lcm_0.2 q) ?_; rw [if_pos q]
          · rw [if_pos rfl]; refine ci_f (fun r => q (lcm_0.1 r)) ((if_neg q).trans ?_); rw [if_neg q]
        · rw [if_neg h47]
          by_cases h37 : c = 37
          · subst h37
            refine (T_82_94 ..).trans ?_
            by_cases q : b = 0
            · rw [if_pos rfl]; refine ci_t (lcm_0.2 q) ?_; rw [if_pos q]
            · rw [if_pos rfl]; refine ci_f (fun r => q (lcm_0.1 r)) ((if_neg q).trans ?_); rw [if_neg q]
          · rw [if_neg h37]
            by_cases h60 : c = 60
            · subst h60
              refine (T_82_108 ..).trans ?_
              rw [if_pos rfl, lcm_lt]
              by_cases q : a < b
              · rw [if_pos q]; exact ci_t q rfl
              · rw [if_neg q]; exact ci_f q rfl
            · rw [if_neg h60]
              by_cases h62 : c = 62
              · subst h62
                refine (T_82_120 ..).trans ?_
                rw [if_pos rfl, lcm_le]
                by_cases q : b < a
                · rw [if_pos q]; exact ci_f (by omega) rfl
                · rw [if_neg q]; exact ci_t (by omega) rfl
              · rw [if_neg h62]
                have h61 : c = 61 := by omega
                subst h61
                refine (T_82_132 ..).trans ?_
                rw [lcm_eq]
                by_cases q : a = b
                · rw [if_pos q]; exact ci_t q rfl
                · rw [if_neg q]; exact ci_f q rfl
theorem S_250 {c a b : Int} (hc : isO c) : Call PG (d + 1) 250 [(0, c), (1, a), (1, b)] (I, RF sp rt tt z.1, z) = some (some (1, ap c a b), (I, RF sp rt tt z.1, z)) := by
  refine (K_250 ..).trans ((T_250_0 ..).trans ((T_250_1 ..).trans ?_))
  unfold ap
  by_cases h43 : c = 43
  · subst h43; exact T_250_68 ..
  · rw [if_neg h43]
    by_cases h45 : c = 45
    · subst h45; exact T_250_72 ..
    · rw [if_neg h45]
      by_cases h42 : c = 42
      · subst h42; exact T_250_76 ..
      · rw [if_neg h42]
        by_cases h47 : c = 47
        · subst h47
          refine (T_250_80 ..).trans ?_
          by_cases q : b = 0
          · rw [if_pos rfl]; refine ci_t (lcm_0.2 q) ?_; rw [if_pos q]
          · rw [if_pos rfl]; refine ci_f (fun r => q (lcm_0.1 r)) ((if_neg q).trans ?_); rw [if_neg q]
        · rw [if_neg h47]
          by_cases h37 : c = 37
          · subst h37
            refine (T_250_94 ..).trans ?_
            by_cases q : b = 0
            · rw [if_pos rfl]; refine ci_t (lcm_0.2 q) ?_; rw [if_pos q]
            · rw [if_pos rfl]; refine ci_f (fun r => q (lcm_0.1 r)) ((if_neg q).trans ?_); rw [if_neg q]
          · rw [if_neg h37]
            by_cases h60 : c = 60
            · subst h60
              refine (T_250_108 ..).trans ?_
              rw [if_pos rfl, lcm_lt]
              by_cases q : a < b
              · rw [if_pos q]; exact ci_t q rfl
              · rw [if_neg q]; exact ci_f q rfl
            · rw [if_neg h60]
              by_cases h62 : c = 62
              · subst h62
                refine (T_250_120 ..).trans ?_
                rw [if_pos rfl, lcm_le]
                by_cases q : b < a
                · rw [if_pos q]; exact ci_f (by omega) rfl
                · rw [if_neg q]; exact ci_t (by omega) rfl
              · rw [if_neg h62]
                have h61 : c = 61 := by omega
                subst h61
                refine (T_250_132 ..).trans ?_
                rw [lcm_eq]
                by_cases q : a = b
                · rw [if_pos q]; exact ci_t q rfl
                · rw [if_neg q]; exact ci_f q rfl
/-- the first reckons its code: from a to b it says f of the facts -/
def EVC (I : Nat → Nat → Int) (sp rt : Nat) (tt : Nat → Nat) (z : Zs) (d T j a b dd : Nat) (f : FM) : Prop :=
  ∀ (top : Nat) (s : Nat → Int) (x5 x6 x7 : AV), dl x5 → dl x6 → dl x7 → top + dd ≤ 32 → match f (I 10) with
    | none => ∃ s' : Nat → Int, Run PG (Call PG (d + 1)) 81 10 [(2, 9), (2, ((T : Nat) : Int)), (0, (j : Int)), (0, (top : Int)), (0, (a : Int)), x5, x6, x7] [] (pc I 23 s, RF sp rt tt z.1, z) (0, 0) = some (some (0, 2), (pc I 23 s', RF sp rt tt z.1, z))
    | some v => ∃ (s' : Nat → Int) (y5 y6 y7 : AV), (dl y5 ∧ dl y6 ∧ dl y7) ∧ Run PG (Call PG (d + 1)) 81 10 [(2, 9), (2, ((T : Nat) : Int)), (0, (j : Int)), (0, (top : Int)), (0, (a : Int)), x5, x6, x7] [] (pc I 23 s, RF sp rt tt z.1, z) (0, 0) = Run PG (Call PG (d + 1)) 81 10 [(2, 9), (2, ((T : Nat) : Int)), (0, (j : Int)), (0, ((top + 1 : Nat) : Int)), (0, (b : Int)), y5, y6, y7] [] (pc I 23 s', RF sp rt tt z.1, z) (0, 0) ∧ (∀ x, x < top → s' x = s x) ∧ s' top = v
theorem E_81h (hx : TX T (RF sp rt tt z.1)) (hT : T = 12 ∨ 163 ≤ T) {j a bend top : Nat} {s : Nat → Int} {x5 x6 x7 : AV} (h5 : dl x5) (h6 : dl x6) (h7 : dl x7) (hj : j < 12) (hb : I (T + 8) j = (bend : Int)) (ha : a < bend) (hbe : bend ≤ 160) : Run PG (Call PG (d + 1)) 81 10 [(2, 9), (2, ((T : Nat) : Int)), (0, (j : Int)), (0, (top : Int)), (0, (a : Int)), x5, x6, x7] [] (pc I 23 s, RF sp rt tt z.1, z) (0, 0) = Run PG (Call PG (d + 1)) 81 46 [(2, 9), (2, ((T : Nat) : Int)), (0, (j : Int)), (0, (top : Int)), (0, (a : Int)), (0, ia32 (I (T + 9) a) 255), (0, shr32 (I (T + 9) a) 8), x7] [] (pc I 23 s, RF sp rt tt z.1, z) (0, 0) := by
  have l1 : (LAY T).1 = 3 := by rw [hx.2.1]
  have t8 := hx.2.2.2.2.2.2.2.2.2.1
  have t9 := hx.2.2.2.2.2.2.2.2.2.2
  have l9 : (LAY (T + 9)).2 = 160 := by rw [t9.2]
  have e8 : pc I 23 s (T + 8) j = (bend : Int) := (pc_ne (by omega)).trans hb
  have e9 : pc I 23 s (T + 9) a = I (T + 9) a := pc_ne (by omega)
  refine (T_81_10 _ _ _ _ _ _ _ _ _ _ _ _ _ h5 h6 h7).trans (ite_t l1 (nn_t (tx_a (R := I) t8).1 (ite_t (tx_a (R := I) t8).2.1 (ci_t (tx_m (tx_a (R := I) t8).2.2 hj) ?_))))
  rw [show ((j : Int)).toNat = j by omega, show ((a : Int)).toNat = a by omega, e8]
  refine ci_t (by omega) (ite_t l1 (nn_t (tx_a (R := I) t9).1 (ite_t (tx_a (R := I) t9).2.1 (ci_t ⟨by omega, by rw [l9]; omega⟩ (ite_t l1 (nn_t (tx_a (R := I) t9).1 (ite_t (tx_a (R := I) t9).2.1 (ci_t ⟨by omega, by rw [l9]; omega⟩ ?_))))))))
  rw [e9]
theorem E_81 (hx : TX T (RF sp rt tt z.1)) (hT : T = 12 ∨ 163 ≤ T) {P : Nat → Prop} {j bend : Nat} (hj : j < 12) (hb : I (T + 8) j = (bend : Int)) (hbe : bend ≤ 160) {a b dd : Nat} {f : FM} (h : Cd P (I (T + 9)) a b dd f) : b ≤ bend → EVC I sp rt tt z d T j a b dd f := by
  refine Cd_ind (Q := fun a b dd f => b ≤ bend → EVC I sp rt tt z d T j a b dd f) h ?_ ?_ ?_ ?_ ?_ ?_
  · intro a dd v h1 h2 h3 hle top s x5 x6 x7 h5 h6 h7 ht
    refine ⟨ud s top v, (0, 110), (0, v), x7, ⟨dl0 _, dl0 _, h7⟩, ?_, fun x hx => if_neg (by omega), if_pos rfl⟩
    refine (E_81h hx hT h5 h6 h7 hj hb (by omega) hbe).trans ?_
    rw [h1, op_of (by omega) (by decide), ar_of (by omega) (by decide)]
    refine (T_81_46 _ _ _ _ _ _ _ _ _ _ _ _ _ h7).trans (ci_t rfl (ci_t (by omega) (ci_t rfl (ci_t (by omega) ?_))))
    rw [show ((top : Int)).toNat = top by omega, up2_pc, w_n (by omega), w_n (by omega)]
  · intro a dd k h1 h2 h3 hle top s x5 x6 x7 h5 h6 h7 ht
    refine ⟨ud s top (I 10 k), (0, 108), (0, (k : Int)), x7, ⟨dl0 _, dl0 _, h7⟩, ?_, fun x hx => if_neg (by omega), if_pos rfl⟩
    refine (E_81h hx hT h5 h6 h7 hj hb (by omega) hbe).trans ?_
    rw [h1, op_of (by omega) (by decide), ar_of (by omega) (by decide)]
    have e10 : pc I 23 s 10 ((k : Int)).toNat = I 10 k := by rw [show ((k : Int)).toNat = k by omega]; exact pc_ne (by decide)
    refine (T_81_46 _ _ _ _ _ _ _ _ _ _ _ _ _ h7).trans (ci_f (by decide) (ci_t rfl (ci_t (by omega) (ci_f (by decide) (ci_t (by omega) (ci_t (by omega) ?_))))))
    rw [e10, show ((top : Int)).toNat = top by omega, up2_pc, w_n (by omega), w_n (by omega)]
  · intro a m b dd c f g k1 k2 h3 h4 i1 i2 hle top s x5 x6 x7 h5 h6 h7 ht
    have q1 := Cd_lt k1
    have q2 := Cd_lt k2
    have r1 := i1 (by omega) top s x5 x6 x7 h5 h6 h7 (by omega)
    unfold binF
    cases hf : f (I 10) with
    | none =>
      rw [hf] at r1
      exact r1
    | some v =>
      rw [hf] at r1
      obtain ⟨s1, y5, y6, y7, hy, e1, u1, u2⟩ := r1
      have r2 := i2 (by omega) (top + 1) s1 y5 y6 y7 hy.1 hy.2.1 hy.2.2 (by omega)
      cases hg : g (I 10) with
      | none =>
        rw [hg] at r2
        obtain ⟨s2, e2⟩ := r2
        exact ⟨s2, e1.trans e2⟩
      | some w =>
        rw [hg] at r2
        obtain ⟨s2, z5, z6, z7, hz, e2, u3, u4⟩ := r2
        have ec : I (T + 9) b = 0 * 256 + c := by omega
        have hop : 0 ≤ c ∧ c < 256 := by omega
        have k3 : Run PG (Call PG (d + 1)) 81 10 [(2, 9), (2, ((T : Nat) : Int)), (0, (j : Int)), (0, (top : Int)), (0, (a : Int)), x5, x6, x7] [] (pc I 23 s, RF sp rt tt z.1, z) (0, 0) = Run PG (Call PG (d + 1)) 81 224 [(2, 9), (2, ((T : Nat) : Int)), (0, (j : Int)), (0, ((top + 1 + 1 : Nat) : Int)), (0, (b : Int)), (0, c), (0, 0), z7] [(0, bz (c = 47 ∨ c = 37))] (pc I 23 s2, RF sp rt tt z.1, z) (0, 0) := by
          refine (e1.trans e2).trans ((E_81h hx hT hz.1 hz.2.1 hz.2.2 hj hb (by omega) hbe).trans ?_)
          rw [ec, op_of (by decide) hop, ar_of (by decide) hop]
          refine (T_81_46 _ _ _ _ _ _ _ _ _ _ _ _ _ hz.2.2).trans (ci_f (by omega) (ci_f (by omega) ?_))
          refine (T_81_103 _ _ _ _ _ _ _ _ _ _ _ _ _ hz.2.2).trans (ci_f (by omega) (ci_f (by omega) (ci_f (by omega) (ci_f (by omega) ?_))))
          by_cases c47 : c = 47
          · rw [bz_t (Or.inl c47)]; exact ci_t c47 rfl
          · by_cases c37 : c = 37
            · rw [bz_t (Or.inr c37)]; exact ci_f c47 (ci_t c37 rfl)
            · rw [bz_f (fun r => r.elim c47 c37)]; exact ci_f c47 (ci_f c37 rfl)
        have v0 : pc I 23 s2 23 top = v := by rw [pc_at, u3 top (by omega)]; exact u2
        have w0 : pc I 23 s2 23 (top + 1) = w := by rw [pc_at]; exact u4
        dsimp only
        have fin : Run PG (Call PG (d + 1)) 81 280 [(2, 9), (2, ((T : Nat) : Int)), (0, (j : Int)), (0, ((top + 1 : Nat) : Int)), (0, (b : Int)), (0, c), (0, 0), (0, bz (c = 47 ∨ c = 37))] [(1, ap c v w), (0, (top : Int)), (2, 23)] (pc I 23 s2, RF sp rt tt z.1, z) (0, 0) = Run PG (Call PG (d + 1)) 81 10 [(2, 9), (2, ((T : Nat) : Int)), (0, (j : Int)), (0, ((top + 1 : Nat) : Int)), (0, ((b + 1 : Nat) : Int)), (0, c), (0, 0), (0, bz (c = 47 ∨ c = 37))] [] (pc I 23 (ud s2 top (ap c v w)), RF sp rt tt z.1, z) (0, 0) := by
          refine (T_81_280 ..).trans (ci_t (by omega) ?_)
          rw [show ((top : Int)).toNat = top by omega, up2_pc, w_n (by omega)]
        have wa : w32 (((top + 1 + 1 : Nat) : Int) + -1) = ((top + 1 : Nat) : Int) ∧ w32 (((top + 1 : Nat) : Int) - 1) = (top : Int) ∧ w32 (((top + 1 + 1 : Nat) : Int) - 1) = ((top + 1 : Nat) : Int) := by
          refine ⟨?_, ?_, ?_⟩
          · rw [w32_of (by omega) (by omega)]; omega
          · rw [w32_of (by omega) (by omega)]; omega
          · rw [w32_of (by omega) (by omega)]; omega
        have wa' : ∀ _ : Unit, w32 (((top + 1 + 1 : Nat) : Int) + -1) = ((top + 1 : Nat) : Int) ∧ w32 (((top + 1 : Nat) : Int) - 1) = (top : Int) ∧ w32 (((top + 1 + 1 : Nat) : Int) - 1) = ((top + 1 : Nat) : Int) := fun _ => wa
        clear wa
        have t224 := T_81_224 (Call PG (d + 1)) (pc I 23 s2) sp rt tt z T (j : Int) ((top + 1 + 1 : Nat) : Int) (b : Int) c 0 z7 (bz (c = 47 ∨ c = 37)) hz.2.2
        rw [(wa' ()).1, (wa' ()).2.1, (wa' ()).2.2, show ((top : Int)).toNat = top by omega, show (((top + 1 : Nat) : Int)).toNat = top + 1 by omega, v0, w0] at t224
        by_cases cd : c = 47 ∨ c = 37
        · rw [bz_t cd] at t224 k3 fin
          by_cases w00 : w = 0
          · rw [if_pos ⟨cd, w00⟩]
            refine ⟨s2, k3.trans (t224.trans ?_)⟩
            exact ci_f (by omega) (ci_f (by decide) (ci_t (by omega) (ci_t (lcm_0.2 w00) rfl)))
          · rw [if_neg (fun r => w00 r.2)]
            refine ⟨ud s2 top (ap c v w), (0, c), (0, 0), (0, 1), ⟨dl0 _, dl0 _, dl0 _⟩, k3.trans (t224.trans ?_), fun x hx => ?_, if_pos rfl⟩
            · exact ci_f (by omega) (ci_f (by decide) (ci_t (by omega) (ci_f (fun r => w00 (lcm_0.1 r)) (ci_t (by omega) (ci_t (by omega) (bd_t (S_82 h4) fin))))))
            · show (if x = top then _ else s2 x) = s x
              rw [if_neg (by omega), u3 x (by omega), u1 x hx]
        · rw [bz_f cd] at t224 k3 fin
          rw [if_neg (fun r => cd r.1)]
          refine ⟨ud s2 top (ap c v w), (0, c), (0, 0), (0, 0), ⟨dl0 _, dl0 _, dl0 _⟩, k3.trans (t224.trans ?_), fun x hx => ?_, if_pos rfl⟩
          · exact ci_f (by omega) (ci_t rfl (ci_t (by omega) (ci_t (by omega) (bd_t (S_82 h4) fin))))
          · show (if x = top then _ else s2 x) = s x
            rw [if_neg (by omega), u3 x (by omega), u1 x hx]
  · intro a b dd f k1 h2 h3 i1 hle top s x5 x6 x7 h5 h6 h7 ht
    have q1 := Cd_lt k1
    have r1 := i1 (by omega) top s x5 x6 x7 h5 h6 h7 ht
    unfold notF
    cases hf : f (I 10) with
    | none =>
      rw [hf] at r1
      exact r1
    | some v =>
      have hv := h3 _ _ hf
      rw [hf] at r1
      obtain ⟨s1, y5, y6, y7, hy, e1, u1, u2⟩ := r1
      have ec : I (T + 9) b = 0 * 256 + 33 := by omega
      refine ⟨ud s1 top (1 - v), (0, 33), (0, 0), y7, ⟨dl0 _, dl0 _, hy.2.2⟩, e1.trans ?_, fun x hx => ?_, if_pos rfl⟩
      · refine (E_81h hx hT hy.1 hy.2.1 hy.2.2 hj hb (by omega) hbe).trans ?_
        rw [ec, op_of (by decide) (by decide), ar_of (by decide) (by decide)]
        refine (T_81_46 _ _ _ _ _ _ _ _ _ _ _ _ _ hy.2.2).trans (ci_f (by decide) (ci_f (by decide) ?_))
        refine (T_81_103 _ _ _ _ _ _ _ _ _ _ _ _ _ hy.2.2).trans (ci_f (by omega) (ci_t rfl ?_))
        have ew : w32 (((top + 1 : Nat) : Int) - 1) = (top : Int) := by rw [w32_of (by omega) (by omega)]; omega
        rw [ew, show ((top : Int)).toNat = top by omega, pc_at, u2, w64_of (by omega) (by omega), up2_pc]
        clear ew
        rw [w_n (by omega)]
        exact ci_t (by omega) (ci_t (by omega) rfl)
      · show (if x = top then _ else s1 x) = s x
        rw [if_neg (by omega), u1 x hx]
  · intro a m b dd f g k1 h2 k3 hb160 bf bg i1 i3 hle top s x5 x6 x7 h5 h6 h7 ht
    have q1 := Cd_lt k1
    have q3 := Cd_lt k3
    have r1 := i1 (by omega) top s x5 x6 x7 h5 h6 h7 ht
    unfold andF
    cases hf : f (I 10) with
    | none =>
      rw [hf] at r1
      exact r1
    | some v =>
      have hv := bf _ _ hf
      rw [hf] at r1
      obtain ⟨s1, y5, y6, y7, hy, e1, u1, u2⟩ := r1
      have k4 : Run PG (Call PG (d + 1)) 81 10 [(2, 9), (2, ((T : Nat) : Int)), (0, (j : Int)), (0, (top : Int)), (0, (a : Int)), x5, x6, x7] [] (pc I 23 s, RF sp rt tt z.1, z) (0, 0) = Run PG (Call PG (d + 1)) 81 152 [(2, 9), (2, ((T : Nat) : Int)), (0, (j : Int)), (0, ((top + 1 : Nat) : Int)), (0, (m : Int)), (0, 38), (0, (b : Int)), y7] [] (pc I 23 s1, RF sp rt tt z.1, z) (0, 0) := by
        refine e1.trans ((E_81h hx hT hy.1 hy.2.1 hy.2.2 hj hb (by omega) hbe).trans ?_)
        rw [h2, op_of (by omega) (by decide), ar_of (by omega) (by decide)]
        refine (T_81_46 _ _ _ _ _ _ _ _ _ _ _ _ _ hy.2.2).trans (ci_f (by decide) (ci_f (by decide) ?_))
        exact (T_81_103 _ _ _ _ _ _ _ _ _ _ _ _ _ hy.2.2).trans (ci_f (by omega) (ci_f (by decide) (ci_t rfl rfl)))
      have t152 := T_81_152 (Call PG (d + 1)) (pc I 23 s1) sp rt tt z T (j : Int) ((top + 1 : Nat) : Int) (m : Int) 38 (b : Int) y7 hy.2.2
      have ew : ∀ _ : Unit, w32 (((top + 1 : Nat) : Int) - 1) = (top : Int) := fun _ => by rw [w32_of (by omega) (by omega)]; omega
      have ew2 : ∀ _ : Unit, w32 (((top + 1 : Nat) : Int) + -1) = (top : Int) := fun _ => by rw [w32_of (by omega) (by omega)]; omega
      have ej : ∀ _ : Unit, w32 ((if (m : Int) < w32 ((b : Int) - 1) then w32 ((b : Int) - 1) else (m : Int)) + 1) = (b : Int) := fun _ => by
        rw [w32_of (x := (b : Int) - 1) (by omega) (by omega)]
        by_cases q : (m : Int) < (b : Int) - 1
        · rw [if_pos q, w32_of (by omega) (by omega)]; omega
        · rw [if_neg q, w32_of (by omega) (by omega)]; omega
      rw [ew (), ew2 (), ej (), show ((top : Int)).toNat = top by omega, pc_at, u2, w_n (by omega)] at t152
      dsimp only
      by_cases v0 : v = 0
      · rw [if_pos v0]
        refine ⟨s1, (0, 38), (0, (b : Int)), y7, ⟨dl0 _, dl0 _, hy.2.2⟩, k4.trans (t152.trans ?_), u1, u2.trans v0⟩
        exact ci_t (by omega) (ci_t (lcm_0.2 v0) (ci_f (by decide) (ci_t rfl rfl)))
      · rw [if_neg v0]
        have r2 := i3 hle top s1 (0, 38) (0, (b : Int)) y7 (dl0 _) (dl0 _) hy.2.2 ht
        have k5 := k4.trans (t152.trans (ci_t (by omega) (ci_f (fun r => v0 (lcm_0.1 r)) (ci_f (by decide) (ci_f (by decide) rfl)))))
        cases hg : g (I 10) with
        | none =>
          rw [hg] at r2
          obtain ⟨s2, e2⟩ := r2
          exact ⟨s2, k5.trans e2⟩
        | some w =>
          rw [hg] at r2
          obtain ⟨s2, z5, z6, z7, hz, e2, u3, u4⟩ := r2
          exact ⟨s2, z5, z6, z7, hz, k5.trans e2, fun x hx => (u3 x hx).trans (u1 x hx), u4⟩
  · intro a m b dd f g k1 h2 k3 hb160 bf bg i1 i3 hle top s x5 x6 x7 h5 h6 h7 ht
    have q1 := Cd_lt k1
    have q3 := Cd_lt k3
    have r1 := i1 (by omega) top s x5 x6 x7 h5 h6 h7 ht
    unfold orF
    cases hf : f (I 10) with
    | none =>
      rw [hf] at r1
      exact r1
    | some v =>
      have hv := bf _ _ hf
      rw [hf] at r1
      obtain ⟨s1, y5, y6, y7, hy, e1, u1, u2⟩ := r1
      have k4 : Run PG (Call PG (d + 1)) 81 10 [(2, 9), (2, ((T : Nat) : Int)), (0, (j : Int)), (0, (top : Int)), (0, (a : Int)), x5, x6, x7] [] (pc I 23 s, RF sp rt tt z.1, z) (0, 0) = Run PG (Call PG (d + 1)) 81 152 [(2, 9), (2, ((T : Nat) : Int)), (0, (j : Int)), (0, ((top + 1 : Nat) : Int)), (0, (m : Int)), (0, 124), (0, (b : Int)), y7] [] (pc I 23 s1, RF sp rt tt z.1, z) (0, 0) := by
        refine e1.trans ((E_81h hx hT hy.1 hy.2.1 hy.2.2 hj hb (by omega) hbe).trans ?_)
        rw [h2, op_of (by omega) (by decide), ar_of (by omega) (by decide)]
        refine (T_81_46 _ _ _ _ _ _ _ _ _ _ _ _ _ hy.2.2).trans (ci_f (by decide) (ci_f (by decide) ?_))
        exact (T_81_103 _ _ _ _ _ _ _ _ _ _ _ _ _ hy.2.2).trans (ci_f (by omega) (ci_f (by decide) (ci_f (by decide) (ci_t rfl rfl))))
      have t152 := T_81_152 (Call PG (d + 1)) (pc I 23 s1) sp rt tt z T (j : Int) ((top + 1 : Nat) : Int) (m : Int) 124 (b : Int) y7 hy.2.2
      have ew : ∀ _ : Unit, w32 (((top + 1 : Nat) : Int) - 1) = (top : Int) := fun _ => by rw [w32_of (by omega) (by omega)]; omega
      have ew2 : ∀ _ : Unit, w32 (((top + 1 : Nat) : Int) + -1) = (top : Int) := fun _ => by rw [w32_of (by omega) (by omega)]; omega
      have ej : ∀ _ : Unit, w32 ((if (m : Int) < w32 ((b : Int) - 1) then w32 ((b : Int) - 1) else (m : Int)) + 1) = (b : Int) := fun _ => by
        rw [w32_of (x := (b : Int) - 1) (by omega) (by omega)]
        by_cases q : (m : Int) < (b : Int) - 1
        · rw [if_pos q, w32_of (by omega) (by omega)]; omega
        · rw [if_neg q, w32_of (by omega) (by omega)]; omega
      rw [ew (), ew2 (), ej (), show ((top : Int)).toNat = top by omega, pc_at, u2, w_n (by omega)] at t152
      dsimp only
      by_cases v0 : v = 0
      · rw [if_pos v0]
        have r2 := i3 hle top s1 (0, 124) (0, (b : Int)) y7 (dl0 _) (dl0 _) hy.2.2 ht
        have k5 := k4.trans (t152.trans (ci_t (by omega) (ci_t (lcm_0.2 v0) (ci_t rfl (ci_f (by decide) rfl)))))
        cases hg : g (I 10) with
        | none =>
          rw [hg] at r2
          obtain ⟨s2, e2⟩ := r2
          exact ⟨s2, k5.trans e2⟩
        | some w =>
          rw [hg] at r2
          obtain ⟨s2, z5, z6, z7, hz, e2, u3, u4⟩ := r2
          exact ⟨s2, z5, z6, z7, hz, k5.trans e2, fun x hx => (u3 x hx).trans (u1 x hx), u4⟩
      · rw [if_neg v0]
        refine ⟨s1, (0, 124), (0, (b : Int)), y7, ⟨dl0 _, dl0 _, hy.2.2⟩, k4.trans (t152.trans ?_), u1, u2.trans (by omega)⟩
        exact ci_t (by omega) (ci_f (fun r => v0 (lcm_0.1 r)) (ci_t rfl (ci_t rfl rfl)))
/-- what a clause comes to: 1, 0, 2 refused -/
def rs3 (o : Option Int) : Int := match o with
  | none => 2
  | some v => v
theorem S_81 (hx : TX T (RF sp rt tt z.1)) (hT : T = 12 ∨ 163 ≤ T) {P : Nat → Prop} {j a b : Nat} (hj : j < 12) (ha : I (T + 7) j = (a : Int)) (hb : I (T + 8) j = (b : Int)) (hbe : b ≤ 160) {f : FM} (h : Cd P (I (T + 9)) a b 14 f) (hf : BoolF f) : ∃ s : Nat → Int, Call PG (d + 2) 81 [(2, 9), (2, ((T : Nat) : Int)), (0, (j : Int))] (I, RF sp rt tt z.1, z) = some (some (0, rs3 (f (I 10))), (pc I 23 s, RF sp rt tt z.1, z)) := by
  have l1 : (LAY T).1 = 3 := by rw [hx.2.1]
  have t7 := hx.2.2.2.2.2.2.2.2.1
  have t8 := hx.2.2.2.2.2.2.2.2.2.1
  have r := E_81 (d := d) hx hT hj hb hbe h (Nat.le_refl _) 0 (I 23) (9, 0) (9, 0) (9, 0) dl9 dl9 dl9 (by decide)
  rw [pc_self] at r
  have k0 : Call PG (d + 2) 81 [(2, 9), (2, ((T : Nat) : Int)), (0, (j : Int))] (I, RF sp rt tt z.1, z) = Run PG (Call PG (d + 1)) 81 10 [(2, 9), (2, ((T : Nat) : Int)), (0, (j : Int)), (0, ((0 : Nat) : Int)), (0, (a : Int)), (9, 0), (9, 0), (9, 0)] [] (I, RF sp rt tt z.1, z) (0, 0) := by
    refine (K_81 ..).trans ((T_81_0 ..).trans (ite_t l1 (nn_t (tx_a (R := I) t7).1 (ite_t (tx_a (R := I) t7).2.1 (ci_t (tx_m (tx_a (R := I) t7).2.2 hj) ?_)))))
    rw [show ((j : Int)).toNat = j by omega, ha]
    rfl
  cases hv : f (I 10) with
  | none =>
    rw [hv] at r
    obtain ⟨s, e⟩ := r
    exact ⟨s, k0.trans e⟩
  | some v =>
    have hv2 := hf _ _ hv
    rw [hv] at r
    obtain ⟨s, y5, y6, y7, hy, e, _, u⟩ := r
    refine ⟨s, k0.trans (e.trans ?_)⟩
    have e8 : pc I 23 s (T + 8) j = (b : Int) := (pc_ne (by omega)).trans hb
    refine (T_81_10 _ _ _ _ _ _ _ _ _ _ _ _ _ hy.1 hy.2.1 hy.2.2).trans (ite_t l1 (nn_t (tx_a (R := I) t8).1 (ite_t (tx_a (R := I) t8).2.1 (ci_t (tx_m (tx_a (R := I) t8).2.2 hj) ?_))))
    rw [show ((j : Int)).toNat = j by omega, e8, pc_at, u]
    refine ci_f (by omega) (ci_t rfl (ci_t (by decide) ?_))
    show _ = some (some (0, v), _)
    rcases hv2 with q | q
    · rw [q]; exact ci_t (lcm_0.2 rfl) rfl
    · rw [q]; exact ci_f (fun r => absurd (lcm_0.1 r) (by decide)) rfl
end EV0

