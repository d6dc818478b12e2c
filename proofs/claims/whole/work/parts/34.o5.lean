/-! down, up -/
theorem be_dn {a p x v s : Int} (hx : x = -1) (hv : ¬ v = -1) : s - bz (a = p ∧ ¬ x = -1) + bz (a = p ∧ ¬ v = -1) = if a = p then s + 1 else s := by
  unfold bz
  by_cases e : a = p
  · rw [if_neg (fun w => w.2 hx), if_pos ⟨e, hv⟩, if_pos e]; omega
  · rw [if_neg (fun w => e w.1), if_neg (fun w => e w.1), if_neg e]; omega
theorem be_up {a p x s : Int} (hx : ¬ x = -1) : s - bz (a = p ∧ ¬ x = -1) + bz (a = p ∧ ¬ (-1 : Int) = -1) = if a = p then s - 1 else s := by
  unfold bz
  by_cases e : a = p
  · rw [if_pos ⟨e, hx⟩, if_neg (fun w => w.2 rfl), if_pos e]; omega
  · rw [if_neg (fun w => e w.1), if_neg (fun w => e w.1), if_neg e]; omega
theorem la_dn {a p x v y w s : Int} (hx : x = -1) (hv : ¬ v = -1) : s - bz (a = p ∧ ¬ x = -1 ∧ ¬ y = -1) + bz (a = p ∧ ¬ v = -1 ∧ ¬ w = -1) = if a = p ∧ ¬ w = -1 then s + 1 else s := by
  unfold bz
  rw [if_neg (fun q => q.2.1 hx)]
  by_cases e : a = p ∧ ¬ w = -1
  · rw [if_pos ⟨e.1, hv, e.2⟩, if_pos e]; omega
  · rw [if_neg (fun q => e ⟨q.1, q.2.2⟩), if_neg e]; omega
theorem la_up {a p x y w s : Int} (hx : ¬ x = -1) : s - bz (a = p ∧ ¬ x = -1 ∧ ¬ y = -1) + bz (a = p ∧ ¬ (-1 : Int) = -1 ∧ ¬ w = -1) = if a = p ∧ ¬ y = -1 then s - 1 else s := by
  unfold bz
  rw [if_neg (c := a = p ∧ ¬ (-1 : Int) = -1 ∧ ¬ w = -1) (fun q => q.2.1 rfl)]
  by_cases e : a = p ∧ ¬ y = -1
  · rw [if_pos ⟨e.1, hx, e.2⟩, if_pos e]; omega
  · rw [if_neg (fun q => e ⟨q.1, q.2.2⟩), if_neg e]; omega
section O5
variable {I : Nat → Nat → Int} {sp rt : Nat} {tt : Nat → Nat} {z : Zs}
theorem o_down (h l : Int) (hh : InvS I) : OpR 147 309 [(0, h), (0, l)] I sp rt tt z := by
  obtain ⟨hT, hP, hC, hW, hL, hI, hS⟩ := hh
  have hh2 : InvS I := ⟨hT, hP, hC, hW, hL, hI, hS⟩
  have c1 := hC.1
  have p1 := hP.1
  have b1 : 0 ≤ h ∧ h < I 55 0 → 0 ≤ I 56 h.toNat ∧ I 56 h.toNat < 12 := fun w => by have := hC.2.2.1 h.toNat (by omega); have := hP.1; omega
  have b2 : 0 ≤ h ∧ h < I 55 0 → 0 ≤ I 64 (I 56 h.toNat).toNat ∧ I 64 (I 56 h.toNat).toNat ≤ 300 := fun w => by have := b1 w; have := be_in hh2 (I 56 h.toNat).toNat (by omega); omega
  have b3 : 0 ≤ h ∧ h < I 55 0 → 0 ≤ I 65 (I 56 h.toNat).toNat ∧ I 65 (I 56 h.toNat).toNat ≤ 300 := fun w => by have := b1 w; have := la_in hh2 (I 56 h.toNat).toNat (by omega); omega
  have e93 := hC.2.1.2.2.1 h.toNat
  have e146 := hC.2.1.2.2.2.2.1 l.toNat
  by_cases c0 : (0 ≤ h ∧ h < I 55 0) ∧ I 58 h.toNat = -1 ∧ I 55 7 < 300 ∧ l = -1
  · refine ⟨1, _, _, (S_147 (by show 0 ≤ I 55 0 ∧ I 55 0 ≤ 40; first | omega | assumption) (by show 0 ≤ I 55 4 ∧ I 55 4 ≤ 60; first | omega | assumption) (by show 0 ≤ I 55 7 ∧ I 55 7 ≤ 300; first | omega | assumption) (by show 0 ≤ h ∧ h < I 55 0 → 0 ≤ I 56 h.toNat ∧ I 56 h.toNat < 12; first | omega | assumption) (by show 0 ≤ h ∧ h < I 55 0 → 0 ≤ I 64 (I 56 h.toNat).toNat ∧ I 64 (I 56 h.toNat).toNat ≤ 300; first | omega | assumption) (by show 0 ≤ h ∧ h < I 55 0 → 0 ≤ I 65 (I 56 h.toNat).toNat ∧ I 65 (I 56 h.toNat).toNat ≤ 300; first | omega | assumption)).trans (if_pos c0), (S_309 (by show 0 ≤ I 82 4 ∧ I 82 4 ≤ 40; first | omega | assumption) (by show 0 ≤ I 82 12 ∧ I 82 12 ≤ 60; first | omega | assumption) (by show 0 ≤ I 82 13 ∧ I 82 13 ≤ 300; first | omega | assumption)).trans ((if_pos (by show (0 ≤ h ∧ h < I 82 4) ∧ I 93 h.toNat = -1 ∧ I 82 13 < 300 ∧ l = -1; omega)).trans (eqv (by show 1 = 1; omega))), ⟨hT, hP, ?_, hW, hL, hI, hS⟩, ?_⟩
    · unfold GC
      repeat' apply And.intro
      · first | exact hC.1.1.1 | (have q := hC.1.1.1; have q0 := hC.1; simp only [up2_def]; grind)
      · first | exact hC.1.1.2.1 | (have q := hC.1.1.2.1; have q0 := hC.1; simp only [up2_def]; grind)
      · first | exact hC.1.1.2.2 | (have q := hC.1.1.2.2; have q0 := hC.1; simp only [up2_def]; grind)
      · first | exact hC.1.2.1.1 | (have q := hC.1.2.1.1; have q0 := hC.1; simp only [up2_def]; grind)
      · first | exact hC.1.2.1.2.1 | (have q := hC.1.2.1.2.1; have q0 := hC.1; simp only [up2_def]; grind)
      · first | exact hC.1.2.1.2.2 | (have q := hC.1.2.1.2.2; have q0 := hC.1; simp only [up2_def]; grind)
      · first | exact hC.1.2.2.1.1 | (have q := hC.1.2.2.1.1; have q0 := hC.1; simp only [up2_def]; grind)
      · first | exact hC.1.2.2.1.2.1 | (have q := hC.1.2.2.1.2.1; have q0 := hC.1; simp only [up2_def]; grind)
      · first | exact hC.1.2.2.1.2.2 | (have q := hC.1.2.2.1.2.2; have q0 := hC.1; simp only [up2_def]; grind)
      · first | exact hC.1.2.2.2.1 | (have q := hC.1.2.2.2.1; have q0 := hC.1; simp only [up2_def]; grind)
      · first | exact hC.1.2.2.2.2.1 | (have q := hC.1.2.2.2.2.1; have q0 := hC.1; simp only [up2_def]; grind)
      · first | exact hC.1.2.2.2.2.2 | (have q := hC.1.2.2.2.2.2; have q0 := hC.1; simp only [up2_def]; grind)
      · first | exact hC.2.1.1 | (have q := hC.2.1.1; have q0 := hC.1; simp only [up2_def]; grind)
      · first | exact hC.2.1.2.1 | (have q := hC.2.1.2.1; have q0 := hC.1; simp only [up2_def]; grind)
      · first | exact hC.2.1.2.2.1 | (have q := hC.2.1.2.2.1; have q0 := hC.1; simp only [up2_def]; grind)
      · first | exact hC.2.1.2.2.2.1 | (have q := hC.2.1.2.2.2.1; have q0 := hC.1; simp only [up2_def]; grind)
      · first | exact hC.2.1.2.2.2.2.1 | (have q := hC.2.1.2.2.2.2.1; have q0 := hC.1; simp only [up2_def]; grind)
      · first | exact hC.2.1.2.2.2.2.2.1 | (have q := hC.2.1.2.2.2.2.2.1; have q0 := hC.1; simp only [up2_def]; grind)
      · first | exact hC.2.1.2.2.2.2.2.2.1 | (have q := hC.2.1.2.2.2.2.2.2.1; have q0 := hC.1; simp only [up2_def]; grind)
      · first | exact hC.2.1.2.2.2.2.2.2.2.1 | (have q := hC.2.1.2.2.2.2.2.2.2.1; have q0 := hC.1; simp only [up2_def]; grind)
      · first | exact hC.2.1.2.2.2.2.2.2.2.2 | (have q := hC.2.1.2.2.2.2.2.2.2.2; have q0 := hC.1; simp only [up2_def]; grind)
      · first | exact hC.2.2.1 | (have q := hC.2.2.1; have q0 := hC.1; simp only [up2_def]; grind)
      · first | exact hC.2.2.2.1 | (have q := hC.2.2.2.1; have q0 := hC.1; simp only [up2_def]; grind)
      · first | exact hC.2.2.2.2.1 | (have q := hC.2.2.2.2.1; have q0 := hC.1; simp only [up2_def]; grind)
      · exact fun p hp => by
            have z := hC.2.2.2.2.2.1 p hp
            refine Eq.trans ?_ (be_set (I := I) (n := (I 55 0).toNat) (k := h.toNat) (v := I 55 7) (p := (p : Int)) (by omega) (fun i => by simp only [up2_def]; simp) (fun i => by simp only [up2_def]; simp)).symm
            rw [← z, be_dn (by omega) (by omega)]
            have y := b1 (by omega)
            simp only [up2_def]
            grind
      · exact fun p hp => by
            have z := hC.2.2.2.2.2.2.1 p hp
            refine Eq.trans ?_ (la_set (I := I) (n := (I 55 0).toNat) (k := h.toNat) (v := I 55 7) (p := (p : Int)) (by omega) (fun i => by simp only [up2_def]; simp) (fun i => by simp only [up2_def]; simp) (fun i hi hn hx => by
              have y := hC.2.2.1 i hi
              have e : ¬ (I 58 i).toNat = (I 55 7).toNat := by omega
              simp only [up2_def]
              simp [e])).symm
            rw [← z, la_dn (by omega) (by omega)]
            have y := b1 (by omega)
            simp only [up2_def]
            grind
      · first | exact hC.2.2.2.2.2.2.2.1 | (have q := hC.2.2.2.2.2.2.2.1; have q0 := hC.1; simp only [up2_def]; grind)
      · first | exact hC.2.2.2.2.2.2.2.2 | (have q := hC.2.2.2.2.2.2.2.2; have q0 := hC.1; simp only [up2_def]; grind)
    · repeat (first | rfl | refine (rs_up (by rfl)).trans ?_)
  by_cases c1 : (0 ≤ h ∧ h < I 55 0) ∧ I 58 h.toNat = -1 ∧ I 55 7 < 300 ∧ (0 ≤ l ∧ l < I 55 4) ∧ I 60 l.toNat = 0
  · refine ⟨1, _, _, (S_147 (by show 0 ≤ I 55 0 ∧ I 55 0 ≤ 40; first | omega | assumption) (by show 0 ≤ I 55 4 ∧ I 55 4 ≤ 60; first | omega | assumption) (by show 0 ≤ I 55 7 ∧ I 55 7 ≤ 300; first | omega | assumption) (by show 0 ≤ h ∧ h < I 55 0 → 0 ≤ I 56 h.toNat ∧ I 56 h.toNat < 12; first | omega | assumption) (by show 0 ≤ h ∧ h < I 55 0 → 0 ≤ I 64 (I 56 h.toNat).toNat ∧ I 64 (I 56 h.toNat).toNat ≤ 300; first | omega | assumption) (by show 0 ≤ h ∧ h < I 55 0 → 0 ≤ I 65 (I 56 h.toNat).toNat ∧ I 65 (I 56 h.toNat).toNat ≤ 300; first | omega | assumption)).trans ((if_neg c0).trans (if_pos c1)), (S_309 (by show 0 ≤ I 82 4 ∧ I 82 4 ≤ 40; first | omega | assumption) (by show 0 ≤ I 82 12 ∧ I 82 12 ≤ 60; first | omega | assumption) (by show 0 ≤ I 82 13 ∧ I 82 13 ≤ 300; first | omega | assumption)).trans ((if_neg (by show ¬ ((0 ≤ h ∧ h < I 82 4) ∧ I 93 h.toNat = -1 ∧ I 82 13 < 300 ∧ l = -1); omega)).trans ((if_pos (by show (0 ≤ h ∧ h < I 82 4) ∧ I 93 h.toNat = -1 ∧ I 82 13 < 300 ∧ (0 ≤ l ∧ l < I 82 12) ∧ I 146 l.toNat = 0; omega)).trans (eqv (by show 1 = 1; omega)))), ⟨hT, hP, ?_, hW, hL, hI, hS⟩, ?_⟩
    · unfold GC
      repeat' apply And.intro
      · first | exact hC.1.1.1 | (have q := hC.1.1.1; have q0 := hC.1; simp only [up2_def]; grind)
      · first | exact hC.1.1.2.1 | (have q := hC.1.1.2.1; have q0 := hC.1; simp only [up2_def]; grind)
      · first | exact hC.1.1.2.2 | (have q := hC.1.1.2.2; have q0 := hC.1; simp only [up2_def]; grind)
      · first | exact hC.1.2.1.1 | (have q := hC.1.2.1.1; have q0 := hC.1; simp only [up2_def]; grind)
      · first | exact hC.1.2.1.2.1 | (have q := hC.1.2.1.2.1; have q0 := hC.1; simp only [up2_def]; grind)
      · first | exact hC.1.2.1.2.2 | (have q := hC.1.2.1.2.2; have q0 := hC.1; simp only [up2_def]; grind)
      · first | exact hC.1.2.2.1.1 | (have q := hC.1.2.2.1.1; have q0 := hC.1; simp only [up2_def]; grind)
      · first | exact hC.1.2.2.1.2.1 | (have q := hC.1.2.2.1.2.1; have q0 := hC.1; simp only [up2_def]; grind)
      · first | exact hC.1.2.2.1.2.2 | (have q := hC.1.2.2.1.2.2; have q0 := hC.1; simp only [up2_def]; grind)
      · first | exact hC.1.2.2.2.1 | (have q := hC.1.2.2.2.1; have q0 := hC.1; simp only [up2_def]; grind)
      · first | exact hC.1.2.2.2.2.1 | (have q := hC.1.2.2.2.2.1; have q0 := hC.1; simp only [up2_def]; grind)
      · first | exact hC.1.2.2.2.2.2 | (have q := hC.1.2.2.2.2.2; have q0 := hC.1; simp only [up2_def]; grind)
      · first | exact hC.2.1.1 | (have q := hC.2.1.1; have q0 := hC.1; simp only [up2_def]; grind)
      · first | exact hC.2.1.2.1 | (have q := hC.2.1.2.1; have q0 := hC.1; simp only [up2_def]; grind)
      · first | exact hC.2.1.2.2.1 | (have q := hC.2.1.2.2.1; have q0 := hC.1; simp only [up2_def]; grind)
      · first | exact hC.2.1.2.2.2.1 | (have q := hC.2.1.2.2.2.1; have q0 := hC.1; simp only [up2_def]; grind)
      · first | exact hC.2.1.2.2.2.2.1 | (have q := hC.2.1.2.2.2.2.1; have q0 := hC.1; simp only [up2_def]; grind)
      · first | exact hC.2.1.2.2.2.2.2.1 | (have q := hC.2.1.2.2.2.2.2.1; have q0 := hC.1; simp only [up2_def]; grind)
      · first | exact hC.2.1.2.2.2.2.2.2.1 | (have q := hC.2.1.2.2.2.2.2.2.1; have q0 := hC.1; simp only [up2_def]; grind)
      · first | exact hC.2.1.2.2.2.2.2.2.2.1 | (have q := hC.2.1.2.2.2.2.2.2.2.1; have q0 := hC.1; simp only [up2_def]; grind)
      · first | exact hC.2.1.2.2.2.2.2.2.2.2 | (have q := hC.2.1.2.2.2.2.2.2.2.2; have q0 := hC.1; simp only [up2_def]; grind)
      · first | exact hC.2.2.1 | (have q := hC.2.2.1; have q0 := hC.1; simp only [up2_def]; grind)
      · first | exact hC.2.2.2.1 | (have q := hC.2.2.2.1; have q0 := hC.1; simp only [up2_def]; grind)
      · first | exact hC.2.2.2.2.1 | (have q := hC.2.2.2.2.1; have q0 := hC.1; simp only [up2_def]; grind)
      · exact fun p hp => by
            have z := hC.2.2.2.2.2.1 p hp
            refine Eq.trans ?_ (be_set (I := I) (n := (I 55 0).toNat) (k := h.toNat) (v := I 55 7) (p := (p : Int)) (by omega) (fun i => by simp only [up2_def]; simp) (fun i => by simp only [up2_def]; simp)).symm
            rw [← z, be_dn (by omega) (by omega)]
            have y := b1 (by omega)
            simp only [up2_def]
            grind
      · exact fun p hp => by
            have z := hC.2.2.2.2.2.2.1 p hp
            refine Eq.trans ?_ (la_set (I := I) (n := (I 55 0).toNat) (k := h.toNat) (v := I 55 7) (p := (p : Int)) (by omega) (fun i => by simp only [up2_def]; simp) (fun i => by simp only [up2_def]; simp) (fun i hi hn hx => by
              have y := hC.2.2.1 i hi
              have e : ¬ (I 58 i).toNat = (I 55 7).toNat := by omega
              simp only [up2_def]
              simp [e])).symm
            rw [← z, la_dn (by omega) (by omega)]
            have y := b1 (by omega)
            simp only [up2_def]
            grind
      · first | exact hC.2.2.2.2.2.2.2.1 | (have q := hC.2.2.2.2.2.2.2.1; have q0 := hC.1; simp only [up2_def]; grind)
      · first | exact hC.2.2.2.2.2.2.2.2 | (have q := hC.2.2.2.2.2.2.2.2; have q0 := hC.1; simp only [up2_def]; grind)
    · repeat (first | rfl | refine (rs_up (by rfl)).trans ?_)
  refine ⟨0, _, _, (S_147 (by show 0 ≤ I 55 0 ∧ I 55 0 ≤ 40; first | omega | assumption) (by show 0 ≤ I 55 4 ∧ I 55 4 ≤ 60; first | omega | assumption) (by show 0 ≤ I 55 7 ∧ I 55 7 ≤ 300; first | omega | assumption) (by show 0 ≤ h ∧ h < I 55 0 → 0 ≤ I 56 h.toNat ∧ I 56 h.toNat < 12; first | omega | assumption) (by show 0 ≤ h ∧ h < I 55 0 → 0 ≤ I 64 (I 56 h.toNat).toNat ∧ I 64 (I 56 h.toNat).toNat ≤ 300; first | omega | assumption) (by show 0 ≤ h ∧ h < I 55 0 → 0 ≤ I 65 (I 56 h.toNat).toNat ∧ I 65 (I 56 h.toNat).toNat ≤ 300; first | omega | assumption)).trans ((if_neg c0).trans (if_neg c1)), (S_309 (by show 0 ≤ I 82 4 ∧ I 82 4 ≤ 40; first | omega | assumption) (by show 0 ≤ I 82 12 ∧ I 82 12 ≤ 60; first | omega | assumption) (by show 0 ≤ I 82 13 ∧ I 82 13 ≤ 300; first | omega | assumption)).trans ((if_neg (by show ¬ ((0 ≤ h ∧ h < I 82 4) ∧ I 93 h.toNat = -1 ∧ I 82 13 < 300 ∧ l = -1); omega)).trans (if_neg (by show ¬ ((0 ≤ h ∧ h < I 82 4) ∧ I 93 h.toNat = -1 ∧ I 82 13 < 300 ∧ (0 ≤ l ∧ l < I 82 12) ∧ I 146 l.toNat = 0); omega))), ⟨hT, hP, hC, hW, hL, hI, hS⟩, rfl⟩
theorem o_up (h : Int) (hh : InvS I) : OpR 151 311 [(0, h)] I sp rt tt z := by
  obtain ⟨hT, hP, hC, hW, hL, hI, hS⟩ := hh
  have hh2 : InvS I := ⟨hT, hP, hC, hW, hL, hI, hS⟩
  have c1 := hC.1
  have p1 := hP.1
  have t1 := hT.1
  have b1 : 0 ≤ h ∧ h < I 55 0 → 0 ≤ I 56 h.toNat ∧ I 56 h.toNat < 12 := fun w => by have := hC.2.2.1 h.toNat (by omega); have := hP.1; omega
  have b2 : 0 ≤ h ∧ h < I 55 0 → 0 ≤ I 64 (I 56 h.toNat).toNat ∧ I 64 (I 56 h.toNat).toNat ≤ 300 := fun w => by have := b1 w; have := be_in hh2 (I 56 h.toNat).toNat (by omega); omega
  have b3 : 0 ≤ h ∧ h < I 55 0 → 0 ≤ I 65 (I 56 h.toNat).toNat ∧ I 65 (I 56 h.toNat).toNat ≤ 300 := fun w => by have := b1 w; have := la_in hh2 (I 56 h.toNat).toNat (by omega); omega
  have b4 : 0 ≤ h ∧ h < I 55 0 → -1 ≤ I 58 h.toNat ∧ I 58 h.toNat < I 55 7 := fun w => (hC.2.2.1 h.toNat (by omega)).2.1
  have b5 : 0 ≤ h ∧ h < I 55 0 ∧ ¬ I 58 h.toNat = -1 → -1 ≤ I 62 (I 58 h.toNat).toNat ∧ I 62 (I 58 h.toNat).toNat < 60 := fun w => by
    have u := b4 ⟨w.1, w.2.1⟩
    have v := hC.2.2.2.1 (I 58 h.toNat).toNat (by omega)
    omega
  have e93 := hC.2.1.2.2.1 h.toNat
  have e148 : I 148 (I 93 h.toNat).toNat = I 62 (I 58 h.toNat).toNat := by rw [hC.2.1.2.2.2.2.2.2.1, e93]
  by_cases c0 : (0 ≤ h ∧ h < I 55 0) ∧ ¬ I 58 h.toNat = -1 ∧ I 62 (I 58 h.toNat).toNat = -1
  · refine ⟨1, _, _, (S_151 (by show 0 ≤ I 55 0 ∧ I 55 0 ≤ 40; first | omega | assumption) (by show 0 ≤ I 55 7 ∧ I 55 7 ≤ 300; first | omega | assumption) (by show 0 ≤ h ∧ h < I 55 0 → 0 ≤ I 56 h.toNat ∧ I 56 h.toNat < 12; first | omega | assumption) (by show 0 ≤ h ∧ h < I 55 0 → -1 ≤ I 58 h.toNat ∧ I 58 h.toNat < I 55 7; first | omega | assumption) (by show 0 ≤ h ∧ h < I 55 0 ∧ ¬ I 58 h.toNat = -1 → -1 ≤ I 62 (I 58 h.toNat).toNat ∧ I 62 (I 58 h.toNat).toNat < 60; first | omega | assumption) (by show 0 ≤ h ∧ h < I 55 0 → 0 ≤ I 64 (I 56 h.toNat).toNat ∧ I 64 (I 56 h.toNat).toNat ≤ 300; first | omega | assumption) (by show 0 ≤ h ∧ h < I 55 0 → 0 ≤ I 65 (I 56 h.toNat).toNat ∧ I 65 (I 56 h.toNat).toNat ≤ 300; first | omega | assumption)).trans (if_pos c0), (S_311 (by show 0 ≤ I 82 4 ∧ I 82 4 ≤ 40; first | omega | assumption) (by show 0 ≤ h ∧ h < I 82 4 → -1 ≤ I 93 h.toNat ∧ I 93 h.toNat < 300; first | omega | assumption) (by show 0 ≤ h ∧ h < I 82 4 ∧ ¬ I 93 h.toNat = -1 → -1 ≤ I 148 (I 93 h.toNat).toNat ∧ I 148 (I 93 h.toNat).toNat < 60; first | omega | assumption)).trans ((if_pos (by show (0 ≤ h ∧ h < I 82 4) ∧ ¬ I 93 h.toNat = -1 ∧ I 148 (I 93 h.toNat).toNat = -1; omega)).trans (eqv (by show 1 = 1; omega))), ⟨hT, hP, ?_, hW, hL, hI, hS⟩, ?_⟩
    · unfold GC
      repeat' apply And.intro
      · first | exact hC.1.1.1 | (have q := hC.1.1.1; have q0 := hC.1; have t1 := hT.1; simp only [up2_def]; grind)
      · first | exact hC.1.1.2.1 | (have q := hC.1.1.2.1; have q0 := hC.1; have t1 := hT.1; simp only [up2_def]; grind)
      · first | exact hC.1.1.2.2 | (have q := hC.1.1.2.2; have q0 := hC.1; have t1 := hT.1; simp only [up2_def]; grind)
      · first | exact hC.1.2.1.1 | (have q := hC.1.2.1.1; have q0 := hC.1; have t1 := hT.1; simp only [up2_def]; grind)
      · first | exact hC.1.2.1.2.1 | (have q := hC.1.2.1.2.1; have q0 := hC.1; have t1 := hT.1; simp only [up2_def]; grind)
      · first | exact hC.1.2.1.2.2 | (have q := hC.1.2.1.2.2; have q0 := hC.1; have t1 := hT.1; simp only [up2_def]; grind)
      · first | exact hC.1.2.2.1.1 | (have q := hC.1.2.2.1.1; have q0 := hC.1; have t1 := hT.1; simp only [up2_def]; grind)
      · first | exact hC.1.2.2.1.2.1 | (have q := hC.1.2.2.1.2.1; have q0 := hC.1; have t1 := hT.1; simp only [up2_def]; grind)
      · first | exact hC.1.2.2.1.2.2 | (have q := hC.1.2.2.1.2.2; have q0 := hC.1; have t1 := hT.1; simp only [up2_def]; grind)
      · first | exact hC.1.2.2.2.1 | (have q := hC.1.2.2.2.1; have q0 := hC.1; have t1 := hT.1; simp only [up2_def]; grind)
      · first | exact hC.1.2.2.2.2.1 | (have q := hC.1.2.2.2.2.1; have q0 := hC.1; have t1 := hT.1; simp only [up2_def]; grind)
      · first | exact hC.1.2.2.2.2.2 | (have q := hC.1.2.2.2.2.2; have q0 := hC.1; have t1 := hT.1; simp only [up2_def]; grind)
      · first | exact hC.2.1.1 | (have q := hC.2.1.1; have q0 := hC.1; have t1 := hT.1; simp only [up2_def]; grind)
      · first | exact hC.2.1.2.1 | (have q := hC.2.1.2.1; have q0 := hC.1; have t1 := hT.1; simp only [up2_def]; grind)
      · first | exact hC.2.1.2.2.1 | (have q := hC.2.1.2.2.1; have q0 := hC.1; have t1 := hT.1; simp only [up2_def]; grind)
      · first | exact hC.2.1.2.2.2.1 | (have q := hC.2.1.2.2.2.1; have q0 := hC.1; have t1 := hT.1; simp only [up2_def]; grind)
      · first | exact hC.2.1.2.2.2.2.1 | (have q := hC.2.1.2.2.2.2.1; have q0 := hC.1; have t1 := hT.1; simp only [up2_def]; grind)
      · first | exact hC.2.1.2.2.2.2.2.1 | (have q := hC.2.1.2.2.2.2.2.1; have q0 := hC.1; have t1 := hT.1; simp only [up2_def]; grind)
      · first | exact hC.2.1.2.2.2.2.2.2.1 | (have q := hC.2.1.2.2.2.2.2.2.1; have q0 := hC.1; have t1 := hT.1; simp only [up2_def]; grind)
      · first | exact hC.2.1.2.2.2.2.2.2.2.1 | (have q := hC.2.1.2.2.2.2.2.2.2.1; have q0 := hC.1; have t1 := hT.1; simp only [up2_def]; grind)
      · first | exact hC.2.1.2.2.2.2.2.2.2.2 | (have q := hC.2.1.2.2.2.2.2.2.2.2; have q0 := hC.1; have t1 := hT.1; simp only [up2_def]; grind)
      · first | exact hC.2.2.1 | (have q := hC.2.2.1; have q0 := hC.1; have t1 := hT.1; simp only [up2_def]; grind)
      · first | exact hC.2.2.2.1 | (have q := hC.2.2.2.1; have q0 := hC.1; have t1 := hT.1; simp only [up2_def]; grind)
      · first | exact hC.2.2.2.2.1 | (have q := hC.2.2.2.2.1; have q0 := hC.1; have t1 := hT.1; simp only [up2_def]; grind)
      · exact fun p hp => by
            have z := hC.2.2.2.2.2.1 p hp
            refine Eq.trans ?_ (be_set (I := I) (n := (I 55 0).toNat) (k := h.toNat) (v := -1) (p := (p : Int)) (by omega) (fun i => by simp only [up2_def]; simp) (fun i => by simp only [up2_def]; simp)).symm
            rw [← z, be_up (by omega)]
            have y := b1 (by omega)
            simp only [up2_def]
            grind
      · exact fun p hp => by
            have z := hC.2.2.2.2.2.2.1 p hp
            refine Eq.trans ?_ (la_set (I := I) (n := (I 55 0).toNat) (k := h.toNat) (v := -1) (p := (p : Int)) (by omega) (fun i => by simp only [up2_def]; simp) (fun i => by simp only [up2_def]; simp) (fun i hi hn hx => by
              have y := hC.2.2.1 i hi
              have e : ¬ (I 58 i).toNat = (I 55 7).toNat := by omega
              simp only [up2_def]
              simp [e])).symm
            rw [← z, la_up (by omega)]
            have y := b1 (by omega)
            simp only [up2_def]
            grind
      · first | exact hC.2.2.2.2.2.2.2.1 | (have q := hC.2.2.2.2.2.2.2.1; have q0 := hC.1; have t1 := hT.1; simp only [up2_def]; grind)
      · first | exact hC.2.2.2.2.2.2.2.2 | (have q := hC.2.2.2.2.2.2.2.2; have q0 := hC.1; have t1 := hT.1; simp only [up2_def]; grind)
    · repeat (first | rfl | refine (rs_up (by rfl)).trans ?_)
  by_cases c1 : (0 ≤ h ∧ h < I 55 0) ∧ ¬ I 58 h.toNat = -1
  · refine ⟨1, _, _, (S_151 (by show 0 ≤ I 55 0 ∧ I 55 0 ≤ 40; first | omega | assumption) (by show 0 ≤ I 55 7 ∧ I 55 7 ≤ 300; first | omega | assumption) (by show 0 ≤ h ∧ h < I 55 0 → 0 ≤ I 56 h.toNat ∧ I 56 h.toNat < 12; first | omega | assumption) (by show 0 ≤ h ∧ h < I 55 0 → -1 ≤ I 58 h.toNat ∧ I 58 h.toNat < I 55 7; first | omega | assumption) (by show 0 ≤ h ∧ h < I 55 0 ∧ ¬ I 58 h.toNat = -1 → -1 ≤ I 62 (I 58 h.toNat).toNat ∧ I 62 (I 58 h.toNat).toNat < 60; first | omega | assumption) (by show 0 ≤ h ∧ h < I 55 0 → 0 ≤ I 64 (I 56 h.toNat).toNat ∧ I 64 (I 56 h.toNat).toNat ≤ 300; first | omega | assumption) (by show 0 ≤ h ∧ h < I 55 0 → 0 ≤ I 65 (I 56 h.toNat).toNat ∧ I 65 (I 56 h.toNat).toNat ≤ 300; first | omega | assumption)).trans ((if_neg c0).trans (if_pos c1)), (S_311 (by show 0 ≤ I 82 4 ∧ I 82 4 ≤ 40; first | omega | assumption) (by show 0 ≤ h ∧ h < I 82 4 → -1 ≤ I 93 h.toNat ∧ I 93 h.toNat < 300; first | omega | assumption) (by show 0 ≤ h ∧ h < I 82 4 ∧ ¬ I 93 h.toNat = -1 → -1 ≤ I 148 (I 93 h.toNat).toNat ∧ I 148 (I 93 h.toNat).toNat < 60; first | omega | assumption)).trans ((if_neg (by show ¬ ((0 ≤ h ∧ h < I 82 4) ∧ ¬ I 93 h.toNat = -1 ∧ I 148 (I 93 h.toNat).toNat = -1); omega)).trans ((if_pos (by show (0 ≤ h ∧ h < I 82 4) ∧ ¬ I 93 h.toNat = -1; omega)).trans (eqv (by show 1 = 1; omega)))), ⟨hT, hP, ?_, hW, hL, hI, hS⟩, ?_⟩
    · unfold GC
      repeat' apply And.intro
      · first | exact hC.1.1.1 | (have q := hC.1.1.1; have q0 := hC.1; have t1 := hT.1; simp only [up2_def]; grind)
      · first | exact hC.1.1.2.1 | (have q := hC.1.1.2.1; have q0 := hC.1; have t1 := hT.1; simp only [up2_def]; grind)
      · first | exact hC.1.1.2.2 | (have q := hC.1.1.2.2; have q0 := hC.1; have t1 := hT.1; simp only [up2_def]; grind)
      · first | exact hC.1.2.1.1 | (have q := hC.1.2.1.1; have q0 := hC.1; have t1 := hT.1; simp only [up2_def]; grind)
      · first | exact hC.1.2.1.2.1 | (have q := hC.1.2.1.2.1; have q0 := hC.1; have t1 := hT.1; simp only [up2_def]; grind)
      · first | exact hC.1.2.1.2.2 | (have q := hC.1.2.1.2.2; have q0 := hC.1; have t1 := hT.1; simp only [up2_def]; grind)
      · first | exact hC.1.2.2.1.1 | (have q := hC.1.2.2.1.1; have q0 := hC.1; have t1 := hT.1; simp only [up2_def]; grind)
      · first | exact hC.1.2.2.1.2.1 | (have q := hC.1.2.2.1.2.1; have q0 := hC.1; have t1 := hT.1; simp only [up2_def]; grind)
      · first | exact hC.1.2.2.1.2.2 | (have q := hC.1.2.2.1.2.2; have q0 := hC.1; have t1 := hT.1; simp only [up2_def]; grind)
      · first | exact hC.1.2.2.2.1 | (have q := hC.1.2.2.2.1; have q0 := hC.1; have t1 := hT.1; simp only [up2_def]; grind)
      · first | exact hC.1.2.2.2.2.1 | (have q := hC.1.2.2.2.2.1; have q0 := hC.1; have t1 := hT.1; simp only [up2_def]; grind)
      · first | exact hC.1.2.2.2.2.2 | (have q := hC.1.2.2.2.2.2; have q0 := hC.1; have t1 := hT.1; simp only [up2_def]; grind)
      · first | exact hC.2.1.1 | (have q := hC.2.1.1; have q0 := hC.1; have t1 := hT.1; simp only [up2_def]; grind)
      · first | exact hC.2.1.2.1 | (have q := hC.2.1.2.1; have q0 := hC.1; have t1 := hT.1; simp only [up2_def]; grind)
      · first | exact hC.2.1.2.2.1 | (have q := hC.2.1.2.2.1; have q0 := hC.1; have t1 := hT.1; simp only [up2_def]; grind)
      · first | exact hC.2.1.2.2.2.1 | (have q := hC.2.1.2.2.2.1; have q0 := hC.1; have t1 := hT.1; simp only [up2_def]; grind)
      · first | exact hC.2.1.2.2.2.2.1 | (have q := hC.2.1.2.2.2.2.1; have q0 := hC.1; have t1 := hT.1; simp only [up2_def]; grind)
      · first | exact hC.2.1.2.2.2.2.2.1 | (have q := hC.2.1.2.2.2.2.2.1; have q0 := hC.1; have t1 := hT.1; simp only [up2_def]; grind)
      · first | exact hC.2.1.2.2.2.2.2.2.1 | (have q := hC.2.1.2.2.2.2.2.2.1; have q0 := hC.1; have t1 := hT.1; simp only [up2_def]; grind)
      · first | exact hC.2.1.2.2.2.2.2.2.2.1 | (have q := hC.2.1.2.2.2.2.2.2.2.1; have q0 := hC.1; have t1 := hT.1; simp only [up2_def]; grind)
      · first | exact hC.2.1.2.2.2.2.2.2.2.2 | (have q := hC.2.1.2.2.2.2.2.2.2.2; have q0 := hC.1; have t1 := hT.1; simp only [up2_def]; grind)
      · first | exact hC.2.2.1 | (have q := hC.2.2.1; have q0 := hC.1; have t1 := hT.1; simp only [up2_def]; grind)
      · first | exact hC.2.2.2.1 | (have q := hC.2.2.2.1; have q0 := hC.1; have t1 := hT.1; simp only [up2_def]; grind)
      · first | exact hC.2.2.2.2.1 | (have q := hC.2.2.2.2.1; have q0 := hC.1; have t1 := hT.1; simp only [up2_def]; grind)
      · exact fun p hp => by
            have z := hC.2.2.2.2.2.1 p hp
            refine Eq.trans ?_ (be_set (I := I) (n := (I 55 0).toNat) (k := h.toNat) (v := -1) (p := (p : Int)) (by omega) (fun i => by simp only [up2_def]; simp) (fun i => by simp only [up2_def]; simp)).symm
            rw [← z, be_up (by omega)]
            have y := b1 (by omega)
            simp only [up2_def]
            grind
      · exact fun p hp => by
            have z := hC.2.2.2.2.2.2.1 p hp
            refine Eq.trans ?_ (la_set (I := I) (n := (I 55 0).toNat) (k := h.toNat) (v := -1) (p := (p : Int)) (by omega) (fun i => by simp only [up2_def]; simp) (fun i => by simp only [up2_def]; simp) (fun i hi hn hx => by
              have y := hC.2.2.1 i hi
              have e : ¬ (I 58 i).toNat = (I 55 7).toNat := by omega
              simp only [up2_def]
              simp [e])).symm
            rw [← z, la_up (by omega)]
            have y := b1 (by omega)
            simp only [up2_def]
            grind
      · first | exact hC.2.2.2.2.2.2.2.1 | (have q := hC.2.2.2.2.2.2.2.1; have q0 := hC.1; have t1 := hT.1; simp only [up2_def]; grind)
      · first | exact hC.2.2.2.2.2.2.2.2 | (have q := hC.2.2.2.2.2.2.2.2; have q0 := hC.1; have t1 := hT.1; simp only [up2_def]; grind)
    · repeat (first | rfl | refine (rs_up (by rfl)).trans ?_)
  refine ⟨0, _, _, (S_151 (by show 0 ≤ I 55 0 ∧ I 55 0 ≤ 40; first | omega | assumption) (by show 0 ≤ I 55 7 ∧ I 55 7 ≤ 300; first | omega | assumption) (by show 0 ≤ h ∧ h < I 55 0 → 0 ≤ I 56 h.toNat ∧ I 56 h.toNat < 12; first | omega | assumption) (by show 0 ≤ h ∧ h < I 55 0 → -1 ≤ I 58 h.toNat ∧ I 58 h.toNat < I 55 7; first | omega | assumption) (by show 0 ≤ h ∧ h < I 55 0 ∧ ¬ I 58 h.toNat = -1 → -1 ≤ I 62 (I 58 h.toNat).toNat ∧ I 62 (I 58 h.toNat).toNat < 60; first | omega | assumption) (by show 0 ≤ h ∧ h < I 55 0 → 0 ≤ I 64 (I 56 h.toNat).toNat ∧ I 64 (I 56 h.toNat).toNat ≤ 300; first | omega | assumption) (by show 0 ≤ h ∧ h < I 55 0 → 0 ≤ I 65 (I 56 h.toNat).toNat ∧ I 65 (I 56 h.toNat).toNat ≤ 300; first | omega | assumption)).trans ((if_neg c0).trans (if_neg c1)), (S_311 (by show 0 ≤ I 82 4 ∧ I 82 4 ≤ 40; first | omega | assumption) (by show 0 ≤ h ∧ h < I 82 4 → -1 ≤ I 93 h.toNat ∧ I 93 h.toNat < 300; first | omega | assumption) (by show 0 ≤ h ∧ h < I 82 4 ∧ ¬ I 93 h.toNat = -1 → -1 ≤ I 148 (I 93 h.toNat).toNat ∧ I 148 (I 93 h.toNat).toNat < 60; first | omega | assumption)).trans ((if_neg (by show ¬ ((0 ≤ h ∧ h < I 82 4) ∧ ¬ I 93 h.toNat = -1 ∧ I 148 (I 93 h.toNat).toNat = -1); omega)).trans (if_neg (by show ¬ ((0 ≤ h ∧ h < I 82 4) ∧ ¬ I 93 h.toNat = -1); omega))), ⟨hT, hP, hC, hW, hL, hI, hS⟩, rfl⟩
end O5

