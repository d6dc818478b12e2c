/-! send: the reference's worths -/
section WG0
variable {d : Nat} {I : Nat → Nat → Int} {sp rt : Nat} {tt : Nat → Nat} {z : Zs}
theorem L_330 (hh : InvW I ∧ GN0 I ∧ GK I) (hx : GX I sp tt z.1) {c L : Nat} (h : TV I tt z c L) (h95 : I 9 5 = (L : Int)) {P : Nat} (hP : I 2 6 = (P : Int)) {x1 x2 x3 : Int} : ∀ (u x : Nat) (H : Nat → Nat → Int), x + u = P → FZw I H → GK H → (∀ k, k < x → H 157 k = wth I c L (k : Int) ∧ H 158 k = 0) → ∃ K, Run PG (Call PG 299) 330 43 [(2, 82), (0, x1), (0, x2), (0, x3), (0, (x : Int)), (9, 0), (9, 0), (9, 0), (9, 0)] [] (H, RF sp rt tt z.1, z) (0, 0) = Run PG (Call PG 299) 330 43 [(2, 82), (0, x1), (0, x2), (0, x3), (0, (P : Int)), (9, 0), (9, 0), (9, 0), (9, 0)] [] (K, RF sp rt tt z.1, z) (0, 0) ∧ FZw I K ∧ GK K ∧ ∀ k, k < P → K 157 k = wth I c L (k : Int) ∧ K 158 k = 0 := by
  have p1 := hh.1.2.1.1
  intro u
  induction u with
  | zero =>
    intro x H hu hZ gH hk
    rw [show x = P by omega] at hk ⊢
    exact ⟨H, rfl, hZ, gH, hk⟩
  | succ u ih =>
    intro x H hu hZ gH hk
    obtain ⟨ok1, ok2⟩ := FZw_okW hh hx hZ gH
    obtain ⟨c', L', hV', h95', hL'⟩ := GX_TV ok2
    have e26 : H 2 6 = (P : Int) := (hZ 2 6 (by decide)).trans hP
    have e83 : H 82 3 = (P : Int) := (hZ 82 3 (by decide)).trans (p1.1.trans hP)
    have ec : c' = c := by
      have a := hV'.2.1.1
      have b := h.2.1.1
      rw [hZ 9 1 (by decide)] at a
      omega
    have eL : L' = L := by
      rw [hZ 9 5 (by decide)] at h95'
      omega
    subst ec
    subst eL
    obtain ⟨K, e329, zK, gK⟩ := S_329 (d := 288) (sp := sp) (rt := rt) hV' ok1 ok2 (p := (x : Int)) (by omega) FZ_r gH
    obtain ⟨K2, e2, r⟩ := ih (x + 1) (up2 (up2 K 157 x (wth I c' L' (x : Int))) 158 x 0) (by omega) (FZw_t hZ (FZw_t (FZw_Z zK) (fun a j q => by rw [up2_def, if_neg (by omega), up2_def, if_neg (by omega)]))) (GK_Z (fun a j q => by rw [up2_def, if_neg (by omega), up2_def, if_neg (by omega)]) gK) (fun k hk' => by
      by_cases q : k = x
      · rw [q]
        exact ⟨by rw [up2_def, if_neg (by omega)]; exact up2_eq, up2_eq⟩
      · rw [up2_def, if_neg (by omega), up2_def, if_neg (fun w => q w.2), up2_def, if_neg (fun w => q w.2), up2_def, if_neg (by omega), zK 157 k (by omega), zK 158 k (by omega)]
        exact hk k (by omega))
    refine ⟨K2, Eq.trans ?_ e2, r⟩
    refine (T_330_43 ..).trans ?_
    rw [e83]
    refine ci_t (by omega) (bd_t e329 ?_)
    refine (T_330_64 ..).trans ?_
    rw [show ((x : Int)).toNat = x by omega, w_n (by omega)]
    have ew := wth_w (FZs_w hZ) (c := c') (L := L') (p := (x : Int))
    unfold wth at ew ⊢
    rw [← ew]
    exact ci_t (by omega) (ci_t (by omega) rfl)
end WG0

