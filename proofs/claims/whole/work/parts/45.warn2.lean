/-! warn -/
def cl40 (n : Nat) (J : Nat → Nat → Int) : Nat → Nat → Int := fun a j => if a = 153 ∧ n ≤ j ∧ j < n + 40 then -1 else J a j
theorem clr_40 (n : Nat) (J : Nat → Nat → Int) : itr (clr n) 40 J = cl40 n J := by funext a j; exact clr_at n J a j 40
theorem rs_cl (n : Nat) (J : Nat → Nat → Int) : rs (cl40 n J) = rs J := by
  funext a j
  unfold rs
  by_cases e : RS a j = true
  · rw [if_pos e, if_pos e]
    unfold cl40
    rw [if_neg (fun q => by rw [q.1] at e; exact absurd e (by unfold RS; simp))]
  · rw [if_neg e, if_neg e]
section WARN
variable {d : Nat} {I : Nat → Nat → Int} {sp rt : Nat} {tt : Nat → Nat} {z : Zs}
theorem S_163 {h : Int} (h0 : 0 ≤ I 55 0 ∧ I 55 0 ≤ 40) (h1 : 0 ≤ I 68 0 ∧ I 68 0 ≤ 60) : Call PG (d + 3) 163 [(2, 0), (0, h)] (I, RF sp rt tt z.1, z) = if (0 ≤ h ∧ h < I 55 0) ∧ I 68 0 < 60 then some (some (0, I 68 0), (up2 (up2 (up2 I 69 (I 68 0).toNat ((I 56 h.toNat))) 70 (I 68 0 * 40 + h).toNat ((I 0 0))) 68 0 (I 68 0 + 1), RF sp rt tt z.1, z)) else some (some (0, -1), (I, RF sp rt tt z.1, z)) := by
  refine (K_163 ..).trans ?_
  by_cases gd : 0 ≤ h ∧ h < I 55 0
  · have ee := S_164 (d := d + 1) (I := I) (sp := sp) (rt := rt) (tt := tt) (z := z) (h := h) (p := (I 56 h.toNat)) (w := (I 0 0)) (by omega) (by omega)
    by_cases c0 : I 68 0 < 60
    · rw [if_pos c0] at ee
      repeat' (first | refine bd_t ee ?_ | refine ci_bt (by omega) ?_ | refine ci_bf (by omega) ?_ | refine ite_b01 ?_ | refine ci_b (fun _ => ?_) (fun _ => ?_) | refine ci_t (by omega) ?_ | refine ci_f (by omega) ?_ | refine ite_t (by omega) ?_ | refine ite_f (by omega) ?_ | refine bd_t (S_149) ?_ | refine bd_t (S_164 (by omega) (by omega)) ?_ | refine (T_163_0 ..).trans ?_ | refine (T_163_8 ..).trans ?_ | refine (T_163_32 ..).trans ?_ | refine ci_c (fun _ => ?_) (fun _ => ?_))
      all_goals first | exact spec_f (by omega) rfl | (refine spec_t (by omega) ?_; first | rfl | (simp (disch := omega) only [w32_of, Int.add_sub_cancel, up2_ne]; done)) | (refine spec_f (by omega) ?_; first | exact spec_f (by omega) rfl | (refine spec_t (by omega) ?_; first | rfl | (simp (disch := omega) only [w32_of, Int.add_sub_cancel, up2_ne]; done)))
    rw [if_neg c0] at ee
    repeat' (first | refine bd_t ee ?_ | refine ci_bt (by omega) ?_ | refine ci_bf (by omega) ?_ | refine ite_b01 ?_ | refine ci_b (fun _ => ?_) (fun _ => ?_) | refine ci_t (by omega) ?_ | refine ci_f (by omega) ?_ | refine ite_t (by omega) ?_ | refine ite_f (by omega) ?_ | refine bd_t (S_149) ?_ | refine bd_t (S_164 (by omega) (by omega)) ?_ | refine (T_163_0 ..).trans ?_ | refine (T_163_8 ..).trans ?_ | refine (T_163_32 ..).trans ?_ | refine ci_c (fun _ => ?_) (fun _ => ?_))
    all_goals first | exact spec_f (by omega) rfl | (refine spec_t (by omega) ?_; first | rfl | (simp (disch := omega) only [w32_of, Int.add_sub_cancel, up2_ne]; done)) | (refine spec_f (by omega) ?_; first | exact spec_f (by omega) rfl | (refine spec_t (by omega) ?_; first | rfl | (simp (disch := omega) only [w32_of, Int.add_sub_cancel, up2_ne]; done)))
  · repeat' (first | refine ci_bt (by omega) ?_ | refine ci_bf (by omega) ?_ | refine ite_b01 ?_ | refine ci_b (fun _ => ?_) (fun _ => ?_) | refine ci_t (by omega) ?_ | refine ci_f (by omega) ?_ | refine ite_t (by omega) ?_ | refine ite_f (by omega) ?_ | refine bd_t (S_149) ?_ | refine bd_t (S_164 (by omega) (by omega)) ?_ | refine (T_163_0 ..).trans ?_ | refine (T_163_8 ..).trans ?_ | refine (T_163_32 ..).trans ?_ | refine ci_c (fun _ => ?_) (fun _ => ?_))
    all_goals first | exact spec_f (by omega) rfl | (refine spec_t (by omega) ?_; first | rfl | (simp (disch := omega) only [w32_of, Int.add_sub_cancel, up2_ne]; done)) | (refine spec_f (by omega) ?_; first | exact spec_f (by omega) rfl | (refine spec_t (by omega) ?_; first | rfl | (simp (disch := omega) only [w32_of, Int.add_sub_cancel, up2_ne]; done)))
theorem S_318 {h : Int} (h0 : 0 ≤ I 82 4 ∧ I 82 4 ≤ 40) (h1 : 0 ≤ I 82 15 ∧ I 82 15 ≤ 60) : Call PG (d + 3) 318 [(2, 82), (0, h)] (I, RF sp rt tt z.1, z) = if (0 ≤ h ∧ h < I 82 4) ∧ I 82 15 < 60 then some (some (0, I 82 15), (up2 (up2 (cl40 (40 * I 82 15).toNat (up2 I 152 (I 82 15).toNat (I 91 h.toNat))) 153 (40 * I 82 15 + h).toNat (I 82 2)) 82 15 (I 82 15 + 1), RF sp rt tt z.1, z)) else some (some (0, -1), (I, RF sp rt tt z.1, z)) := by
  refine (K_318 ..).trans ?_
  rw [← clr_40]
  repeat' (first | refine ci_bt (by omega) ?_ | refine ci_bf (by omega) ?_ | refine ite_b01 ?_ | refine ci_b (fun _ => ?_) (fun _ => ?_) | refine ci_t (by omega) ?_ | refine ci_f (by omega) ?_ | refine ite_t (by omega) ?_ | refine ite_f (by omega) ?_ | refine bd_t (S_310 (by omega)) ?_ | refine (T_318_0 ..).trans ?_ | refine (T_318_14 ..).trans ?_ | refine ci_c (fun _ => ?_) (fun _ => ?_))
  all_goals first | exact spec_f (by omega) rfl | exact spec_t (by omega) (L_318 (n := I 82 15) (by omega) (by omega) rfl)
end WARN

