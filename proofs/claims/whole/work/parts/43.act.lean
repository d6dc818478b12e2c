/-! act -/
theorem bit_or {x w : Int} {k : Nat} (hk : k < 40) : (io64 x w / 2 ^ k) % 2 = 0 ↔ (x / 2 ^ k) % 2 = 0 ∧ (w / 2 ^ k) % 2 = 0 := by
  obtain ⟨q, hq⟩ := Z_of (BitVec.ofInt 64 x ||| BitVec.ofInt 64 w)
  have e : io64 x w = (BitVec.ofInt 64 x ||| BitVec.ofInt 64 w).toInt := rfl
  have e1 := bitm hk (e.trans hq)
  have e2 := bitm (Z := x) (q := x / 18446744073709551616) (N := (BitVec.ofInt 64 x).toNat) hk (by rw [B1]; omega)
  have e3 := bitm (Z := w) (q := w / 18446744073709551616) (N := (BitVec.ofInt 64 w).toNat) hk (by rw [B1]; omega)
  rw [e1, e2, e3]
  have t : ((BitVec.ofInt 64 x ||| BitVec.ofInt 64 w).toNat).testBit k = ((BitVec.ofInt 64 x).toNat.testBit k || (BitVec.ofInt 64 w).toNat.testBit k) := by rw [BitVec.toNat_or, Nat.testBit_or]
  rw [Nat.testBit_eq_decide_div_mod_eq, Nat.testBit_eq_decide_div_mod_eq, Nat.testBit_eq_decide_div_mod_eq] at t
  generalize (BitVec.ofInt 64 x ||| BitVec.ofInt 64 w).toNat / 2 ^ k = a at t ⊢
  generalize (BitVec.ofInt 64 x).toNat / 2 ^ k = b at t ⊢
  generalize (BitVec.ofInt 64 w).toNat / 2 ^ k = c at t ⊢
  by_cases hb : b % 2 = 1
  · rw [decide_eq_true hb, Bool.true_or] at t
    have := of_decide_eq_true t
    omega
  · rw [decide_eq_false hb, Bool.false_or] at t
    by_cases hc : c % 2 = 1
    · rw [decide_eq_true hc] at t
      have := of_decide_eq_true t
      omega
    · rw [decide_eq_false hc] at t
      have := of_decide_eq_false t
      omega
theorem bit_sh : ∀ h : Nat, h < 40 → ∀ k : Nat, k < 40 → ((shl64 1 (h : Int) / 2 ^ k) % 2 = 0 ↔ ¬ k = h) := by decide +kernel
theorem act_bit {x : Int} {h k : Nat} (hh : h < 40) (hk : k < 40) : ia64 (shr64 (io64 x (shl64 1 (h : Int))) (k : Int)) 1 = 0 ↔ ia64 (shr64 x (k : Int)) 1 = 0 ∧ ¬ k = h := by
  have e : ((k : Int) % 64).toNat = k := by omega
  unfold shr64
  rw [e, bit1, bit1, bit_or hk, bit_sh h hh k hk]
section ACT
variable {d : Nat} {I : Nat → Nat → Int} {sp rt : Nat} {tt : Nat → Nat} {z : Zs}
theorem S_169 {w h : Int} (h0 : 0 ≤ I 55 0 ∧ I 55 0 ≤ 40) (h1 : 0 ≤ I 68 0 ∧ I 68 0 ≤ 60) : Call PG (d + 3) 169 [(2, 0), (0, w), (0, h)] (I, RF sp rt tt z.1, z) = if ((0 ≤ w ∧ w < I 68 0) ∧ 0 ≤ h ∧ h < I 55 0) ∧ ¬ I 70 (40 * w + h).toNat = -1 ∧ ia64 (shr64 (I 71 w.toNat) h) 1 = 0 then some (some (0, 1), (up2 I 71 (w).toNat (io64 (I 71 w.toNat) (shl64 1 h)), RF sp rt tt z.1, z)) else some (some (0, 0), (I, RF sp rt tt z.1, z)) := by
  refine (K_169 ..).trans ?_
  by_cases gd : (0 ≤ w ∧ w < I 68 0) ∧ 0 ≤ h ∧ h < I 55 0
  · have ee := S_170 (d := d + 0) (I := I) (sp := sp) (rt := rt) (tt := tt) (z := z) (w := w) (h := h) (by omega) (by omega)
    by_cases c0 : ¬ I 70 (40 * w + h).toNat = -1 ∧ ia64 (shr64 (I 71 w.toNat) h) 1 = 0
    · rw [if_pos c0] at ee
      repeat' (first | refine bd_t ee ?_ | refine ci_bt (by omega) ?_ | refine ci_bf (by omega) ?_ | refine ite_b01 ?_ | refine ci_b (fun _ => ?_) (fun _ => ?_) | refine ci_t (by omega) ?_ | refine ci_f (by omega) ?_ | refine ite_t (by omega) ?_ | refine ite_f (by omega) ?_ | refine bd_t (S_149) ?_ | refine bd_t (S_166) ?_ | refine bd_t (S_170 (by omega) (by omega)) ?_ | refine (T_169_0 ..).trans ?_ | refine (T_169_8 ..).trans ?_ | refine (T_169_19 ..).trans ?_ | refine (T_169_33 ..).trans ?_ | refine ci_c (fun _ => ?_) (fun _ => ?_))
      all_goals first | exact spec_f (by omega) rfl | (refine spec_t (by omega) ?_; first | rfl | (simp (disch := omega) only [w32_of, Int.add_sub_cancel, up2_ne]; done)) | (refine spec_f (by omega) ?_; first | exact spec_f (by omega) rfl | (refine spec_t (by omega) ?_; first | rfl | (simp (disch := omega) only [w32_of, Int.add_sub_cancel, up2_ne]; done)))
    rw [if_neg c0] at ee
    repeat' (first | refine bd_t ee ?_ | refine ci_bt (by omega) ?_ | refine ci_bf (by omega) ?_ | refine ite_b01 ?_ | refine ci_b (fun _ => ?_) (fun _ => ?_) | refine ci_t (by omega) ?_ | refine ci_f (by omega) ?_ | refine ite_t (by omega) ?_ | refine ite_f (by omega) ?_ | refine bd_t (S_149) ?_ | refine bd_t (S_166) ?_ | refine bd_t (S_170 (by omega) (by omega)) ?_ | refine (T_169_0 ..).trans ?_ | refine (T_169_8 ..).trans ?_ | refine (T_169_19 ..).trans ?_ | refine (T_169_33 ..).trans ?_ | refine ci_c (fun _ => ?_) (fun _ => ?_))
    all_goals first | exact spec_f (by omega) rfl | (refine spec_t (by omega) ?_; first | rfl | (simp (disch := omega) only [w32_of, Int.add_sub_cancel, up2_ne]; done)) | (refine spec_f (by omega) ?_; first | exact spec_f (by omega) rfl | (refine spec_t (by omega) ?_; first | rfl | (simp (disch := omega) only [w32_of, Int.add_sub_cancel, up2_ne]; done)))
  · repeat' (first | refine ci_bt (by omega) ?_ | refine ci_bf (by omega) ?_ | refine ite_b01 ?_ | refine ci_b (fun _ => ?_) (fun _ => ?_) | refine ci_t (by omega) ?_ | refine ci_f (by omega) ?_ | refine ite_t (by omega) ?_ | refine ite_f (by omega) ?_ | refine bd_t (S_149) ?_ | refine bd_t (S_166) ?_ | refine bd_t (S_170 (by omega) (by omega)) ?_ | refine (T_169_0 ..).trans ?_ | refine (T_169_8 ..).trans ?_ | refine (T_169_19 ..).trans ?_ | refine (T_169_33 ..).trans ?_ | refine ci_c (fun _ => ?_) (fun _ => ?_))
    all_goals first | exact spec_f (by omega) rfl | (refine spec_t (by omega) ?_; first | rfl | (simp (disch := omega) only [w32_of, Int.add_sub_cancel, up2_ne]; done)) | (refine spec_f (by omega) ?_; first | exact spec_f (by omega) rfl | (refine spec_t (by omega) ?_; first | rfl | (simp (disch := omega) only [w32_of, Int.add_sub_cancel, up2_ne]; done)))
end ACT
section ACTb
variable {I : Nat → Nat → Int} {sp rt : Nat} {tt : Nat → Nat} {z : Zs}
theorem o_act (w h : Int) (hh : InvS I) : OpR 169 321 [(0, w), (0, h)] I sp rt tt z := by
  obtain ⟨hT, hP, hC, hW, hL, hI, hS⟩ := hh
  have c1 := hC.1
  have w1 := hW.1
  have a1 : (0 ≤ w ∧ w < I 68 0) ∧ (0 ≤ h ∧ h < I 55 0) → I 153 (40 * w + h).toNat = I 70 (40 * w + h).toNat := fun q => by
    have q2 := hW.2.2.2.1 w.toNat h.toNat (by omega) (by omega)
    rw [show (40 * w + h).toNat = 40 * w.toNat + h.toNat by omega]
    exact q2
  have a2 : (0 ≤ w ∧ w < I 68 0) ∧ (0 ≤ h ∧ h < I 55 0) → (ia64 (shr64 (I 71 w.toNat) h) 1 = 0 ↔ I 154 (40 * w + h).toNat = 0) := fun q => by
    have q2 := (hW.2.2.2.2.2.2 w.toNat h.toNat (by omega) (by omega)).1
    rw [Int.toNat_of_nonneg q.2.1] at q2
    rw [show (40 * w + h).toNat = 40 * w.toNat + h.toNat by omega]
    exact q2
  by_cases c0 : ((0 ≤ w ∧ w < I 68 0) ∧ 0 ≤ h ∧ h < I 55 0) ∧ ¬ I 70 (40 * w + h).toNat = -1 ∧ ia64 (shr64 (I 71 w.toNat) h) 1 = 0
  · refine ⟨1, _, _, (S_169 (by show 0 ≤ I 55 0 ∧ I 55 0 ≤ 40; first | omega | assumption) (by show 0 ≤ I 68 0 ∧ I 68 0 ≤ 60; first | omega | assumption)).trans (if_pos c0), (S_321 (by show 0 ≤ I 82 4 ∧ I 82 4 ≤ 40; first | omega | assumption) (by show 0 ≤ I 82 15 ∧ I 82 15 ≤ 60; first | omega | assumption)).trans ((if_pos (by show (0 ≤ w ∧ w < I 82 15) ∧ (0 ≤ h ∧ h < I 82 4) ∧ ¬ I 153 (40 * w + h).toNat = -1 ∧ I 154 (40 * w + h).toNat = 0; omega)).trans (eqv (by show 1 = 1; omega))), ⟨hT, hP, hC, ?_, hL, hI, hS⟩, ?_⟩
    · unfold GW
      repeat' apply And.intro
      · first | exact hW.1.1 | (have q := hW.1.1; have q0 := hW.1; simp only [up2_def]; grind)
      · first | exact hW.1.2.1 | (have q := hW.1.2.1; have q0 := hW.1; simp only [up2_def]; grind)
      · first | exact hW.1.2.2 | (have q := hW.1.2.2; have q0 := hW.1; simp only [up2_def]; grind)
      · first | exact hW.2.1 | (have q := hW.2.1; have q0 := hW.1; simp only [up2_def]; grind)
      · first | exact hW.2.2.1 | (have q := hW.2.2.1; have q0 := hW.1; simp only [up2_def]; grind)
      · first | exact hW.2.2.2.1 | (have q := hW.2.2.2.1; have q0 := hW.1; simp only [up2_def]; grind)
      · first | exact hW.2.2.2.2.1 | (have q := hW.2.2.2.2.1; have q0 := hW.1; simp only [up2_def]; grind)
      · first | exact hW.2.2.2.2.2.1 | (have q := hW.2.2.2.2.2.1; have q0 := hW.1; simp only [up2_def]; grind)
      · exact fun u k hu hk => by
            have q := hW.2.2.2.2.2.2 u k hu hk
            have b := act_bit (x := I 71 u) (h := h.toNat) (k := k) (by omega) hk
            rw [Int.toNat_of_nonneg (by omega)] at b
            have p : 40 * u + k = (40 * w + h).toNat ↔ u = w.toNat ∧ k = h.toNat := by omega
            simp only [up2_def]
            grind
    · repeat (first | rfl | refine (rs_up (by rfl)).trans ?_)
  refine ⟨0, _, _, (S_169 (by show 0 ≤ I 55 0 ∧ I 55 0 ≤ 40; first | omega | assumption) (by show 0 ≤ I 68 0 ∧ I 68 0 ≤ 60; first | omega | assumption)).trans (if_neg c0), (S_321 (by show 0 ≤ I 82 4 ∧ I 82 4 ≤ 40; first | omega | assumption) (by show 0 ≤ I 82 15 ∧ I 82 15 ≤ 60; first | omega | assumption)).trans (if_neg (by show ¬ ((0 ≤ w ∧ w < I 82 15) ∧ (0 ≤ h ∧ h < I 82 4) ∧ ¬ I 153 (40 * w + h).toNat = -1 ∧ I 154 (40 * w + h).toNat = 0); omega)), ⟨hT, hP, hC, hW, hL, hI, hS⟩, rfl⟩
end ACTb

