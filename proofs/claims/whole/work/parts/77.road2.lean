/-! what holds behind a road -/
theorem cnt_ud {A B : Nat → Int} {m : Nat} {a b x : Int} : ∀ {r : Nat}, r ≤ m → cnt (ud A m a) (ud B m b) x r = cnt A B x r
  | 0, _ => rfl
  | r + 1, h => by
    show cnt (ud A m a) (ud B m b) x r + (if ud A m a r = x ∨ ud B m b r = x then 1 else 0) = cnt A B x r + (if A r = x ∨ B r = x then 1 else 0)
    rw [cnt_ud (by omega), ud_ne (by omega), ud_ne (by omega)]
theorem CN_road {A B L F E : Nat → Int} {n m : Nat} {a b : Nat} {fa fn fb : Nat} (hC : CN A B n m E L F) (h0 : F 0 = 0) (hm : m < 150) (hab : ¬ a = b) (ha : a < n) (hb : b < n) (hfa : F (a + 1) = fa) (hfn : F n = fn) (hfb : incF F a n (b + 1) = fb) (h2m : fn = 2 * m) :
    CN (ud A m a) (ud B m b) n (m + 1) (ud (ud E (2 * m) a) (2 * m + 1) b) (insL (insL L fa (fn - fa) (2 * (m : Int))) fb (fn + 1 - fb) (2 * (m : Int) + 1)) (incF (incF F a n) b n) ∧ incF (incF F a n) b n 0 = 0 ∧ incF (incF F a n) b n n = 2 * ((m : Int) + 1) := by
  obtain ⟨⟨hv, hP, hm0⟩, hE, hF, hL⟩ := hC
  have hS : SEG L F n (fun x => cnt A B x m) (fun x i => L (F x + (i : Int)).toNat) := ⟨h0, fun x hx => ⟨(hF x hx).1, fun i hi => rfl⟩⟩
  have hS1 := SEG_ins (e := 2 * (m : Int)) hS ha hfa hfn
  have hfn1 : incF F a n n = ((fn + 1 : Nat) : Int) := by
    unfold incF
    rw [if_pos ⟨ha, Nat.le_refl n⟩, hfn]; rfl
  have hS2 := SEG_ins (e := 2 * (m : Int) + 1) hS1 hb hfb hfn1
  have hend : incF (incF F a n) b n n = 2 * ((m : Int) + 1) := by
    show (if b < n ∧ n ≤ n then incF F a n n + 1 else incF F a n n) = _
    rw [if_pos ⟨hb, Nat.le_refl n⟩, hfn1]
    omega
  have hc : ∀ x : Nat, cnt (ud A m a) (ud B m b) x (m + 1) = (if x = b then (if x = a then cnt A B x m + 1 else cnt A B x m) + 1 else (if x = a then cnt A B x m + 1 else cnt A B x m)) := fun x => by
    show cnt (ud A m a) (ud B m b) x m + (if ud A m a m = (x : Int) ∨ ud B m b m = (x : Int) then 1 else 0) = _
    rw [cnt_ud (Nat.le_refl m), ud_eq, ud_eq]
    by_cases c1 : x = a
    · have c2 : ¬ x = b := fun w => hab (c1.symm.trans w)
      rw [if_pos (by omega), if_neg c2, if_pos c1]
    · by_cases c2 : x = b
      · rw [if_pos (by omega), if_pos c2, if_neg c1]
      · rw [if_neg (by omega), if_neg c2, if_neg c1]; rfl
  refine ⟨⟨⟨fun r hr => ?_, hP, by omega⟩, fun r hr => ?_, fun x hx => ?_, fun x r hx hr => ?_⟩, hS2.1, hend⟩
  · by_cases c : r = m
    · subst c
      rw [ud_eq, ud_eq]
      omega
    · rw [ud_ne c, ud_ne c]
      exact hv r (by omega)
  · by_cases c : r = m
    · subst c
      rw [ud_ne (by omega), ud_eq, ud_eq, ud_eq, ud_eq]
      exact ⟨rfl, rfl⟩
    · rw [show ud (ud E (2 * m) a) (2 * m + 1) b (2 * r) = E (2 * r) from (ud_ne (by omega)).trans (ud_ne (by omega)), show ud (ud E (2 * m) a) (2 * m + 1) b (2 * r + 1) = E (2 * r + 1) from (ud_ne (by omega)).trans (ud_ne (by omega)), ud_ne c, ud_ne c]
      exact hE r (by omega)
  · have h1 := (hS2.2 x hx).1
    have m1 := SEG_mono hS2 (b := n) (a := x + 1) (by omega) (Nat.le_refl n)
    have m2 := SEG_mono hS2 (b := x) (a := x) (Nat.le_refl x) (by omega)
    rw [hend] at m1
    refine ⟨?_, m2.1, by omega⟩
    rw [h1, hc x]
  · have h2 := (hS2.2 x hx).2
    dsimp only at h2
    by_cases c : r = m
    · subst c
      rw [cnt_ud (Nat.le_refl r), ud_eq, ud_eq]
      constructor
      · intro w
        have w : a = x := by omega
        subst w
        have h3 := h2 (cnt A B (a : Int) r) (by rw [if_neg hab, if_pos rfl]; omega)
        rw [if_neg (fun w => hab w.1), if_pos ⟨rfl, rfl⟩] at h3
        exact h3
      · intro w
        have w : b = x := by omega
        subst w
        have hba : ¬ b = a := fun w => hab w.symm
        have h3 := h2 (cnt A B (b : Int) r) (by rw [if_pos rfl, if_neg hba]; omega)
        rw [if_pos ⟨rfl, by rw [if_neg hba]⟩] at h3
        exact h3
    · have hr' : r < m := by omega
      rw [cnt_ud (by omega), ud_ne c, ud_ne c]
      have hlt : (A r = x ∨ B r = x) → cnt A B (x : Int) r < cnt A B (x : Int) m := fun w => by
        have q1 : cnt A B (x : Int) (r + 1) = cnt A B x r + 1 := by
          show cnt A B x r + (if A r = x ∨ B r = x then 1 else 0) = _
          rw [if_pos w]
        have q2 := cnt_mono (A := A) (B := B) (a := (x : Int)) (r := r + 1) (q := m) (by omega)
        omega
      have hit : (A r = x ∨ B r = x) → insL (insL L fa (fn - fa) (2 * (m : Int))) fb (fn + 1 - fb) (2 * (m : Int) + 1) (incF (incF F a n) b n x + ((cnt A B (x : Int) r : Nat) : Int)).toNat = L (F x + ((cnt A B (x : Int) r : Nat) : Int)).toNat := fun w => by
        have l := hlt w
        have h3 := h2 (cnt A B (x : Int) r) (by
          by_cases c2 : x = b
          · rw [if_pos c2]
            split <;> omega
          · rw [if_neg c2]
            split <;> omega)
        rw [h3]
        by_cases c2 : x = b
        · subst c2
          rw [if_neg (fun w => by
            have q := w.2
            split at q <;> omega)]
          by_cases c1 : x = a
          · subst c1
            rw [if_neg (fun w => by omega)]
          · rw [if_neg (fun w => c1 w.1)]
        · rw [if_neg (fun w => c2 w.1)]
          by_cases c1 : x = a
          · subst c1
            rw [if_neg (fun w => by omega)]
          · rw [if_neg (fun w => c1 w.1)]
      exact ⟨fun w => (hit (Or.inl w)).trans ((hL x r hx hr').1 w), fun w => (hit (Or.inr w)).trans ((hL x r hx hr').2 w)⟩
theorem GN0_road {I J : Nat → Nat → Int} {n m a b fa fn fb : Nat} {p w o dc : Int} (hn : GN0 I) (hk : GK I) (hN : I 25 0 = n) (hM : I 25 1 = m) (hm : m < 150) (hab : ¬ a = b) (ha : a < n) (hb : b < n) (hpa : I 33 a = p) (hpb : I 33 b = p) (hp12 : I 2 6 ≤ 12) (hw : 1 ≤ w ∧ w ≤ 100) (ho : (o = 0 ∧ dc = 0) ∨ (o = 1 ∧ dc = 1)) (hfa : I 29 (a + 1) = fa) (hfn : I 29 n = fn) (hfb : incF (I 29) a n (b + 1) = fb)
    (j25 : J 25 0 = I 25 0) (j826 : J 82 6 = I 82 6) (j251 : J 25 1 = m + 1) (j827 : J 82 7 = m + 1) (j26 : J 2 6 = I 2 6)
    (e119 : J 119 = ud (I 119) m a) (e120 : J 120 = ud (I 120) m b) (e26 : J 26 = ud (I 26) m w) (e121 : J 121 = ud (I 121) m w) (e32 : J 32 = ud (I 32) m dc) (e122 : J 122 = ud (I 122) m o) (e123 : J 123 = ud (I 123) m (1 - o)) (e27 : J 27 = ud (ud (I 27) (2 * m) a) (2 * m + 1) b)
    (e28 : J 28 = insL (insL (I 28) fa (fn - fa) (2 * (m : Int))) fb (fn + 1 - fb) (2 * (m : Int) + 1)) (e29 : J 29 = incF (incF (I 29) a n) b n) (e37 : J 37 = ud (I 37) p.toNat (-2)) (e44 : J 44 = ud (I 44) p.toNat (-2))
    (e33 : J 33 = I 33) (e34 : J 34 = I 34) (e114 : J 114 = I 114) (e115 : J 115 = I 115) (e39 : J 39 = I 39) (e40 : J 40 = I 40) (e41 : J 41 = I 41) (e116 : J 116 = I 116) (e117 : J 117 = I 117) (e118 : J 118 = I 118) (e42 : J 42 = I 42) : GN0 J ∧ GK J := by
  have hn0 := hn
  obtain ⟨⟨g1, g2⟩, g3, g4, g5, g6, g7, g8, g9, g10⟩ := hn
  have eN : (I 25 0).toNat = n := by omega
  have eM : (I 25 1).toNat = m := by omega
  have eM' : (J 25 1).toNat = m + 1 := by omega
  have hpp := g6 a (by omega)
  rw [hpa] at hpp
  have hR := CN_road (A := I 119) (B := I 120) (E := I 27) (L := I 28) (F := I 29) (n := n) (m := m) (a := a) (b := b) (fa := fa) (fn := fn) (fb := fb) (by rw [eN, eM] at g7; exact g7) g8.1 hm hab ha hb hfa hfn hfb (by have := g8.2.1; rw [eN] at this; omega)
  have hL : ∀ q : Nat, ¬ (q : Int) = p → LOC (I 119) (I 120) (J 119) (J 120) (I 25 1).toNat (J 25 1).toNat (fun b => I 33 b = (q : Int)) := fun q hq => by
    rw [e119, e120, eM, eM']
    refine ⟨by omega, fun r hr => ⟨⟨ud_ne (by omega), ud_ne (by omega)⟩, ?_⟩, fun r h1 h2 => ?_⟩
    · show I 33 (I 119 r).toNat = (q : Int) ↔ I 33 (I 120 r).toNat = (q : Int)
      rw [(g9 r (by omega)).1]
    · have : r = m := by omega
      subst this
      rw [ud_eq, ud_eq]
      show ¬ I 33 ((a : Nat) : Int).toNat = (q : Int) ∧ ¬ I 33 ((b : Nat) : Int).toNat = (q : Int)
      rw [Int.toNat_natCast, Int.toNat_natCast, hpa, hpb]
      exact ⟨fun w => hq w.symm, fun w => hq w.symm⟩
  refine ⟨⟨⟨by rw [j826, j25]; exact g1, by rw [j827, j251]; omega⟩, ⟨fun j => by rw [e114, e33]; exact g3.1 j, fun j => ?_⟩, ?_, ?_, ?_, ?_, ?_, fun r hr => ?_, ?_⟩, fun q hq => ?_, fun q hq => ?_⟩
  · rw [e121, e26]
    unfold ud
    split
    · rfl
    · exact g3.2 j
  · rw [j26, e115, e34, e116, e39, e117, e40, e118, e41]; exact g4
  · rw [j26, e34, e39]; exact g5
  · rw [j25, j26, e33, e34]; exact g6
  · rw [e119, e120, e27, e28, e29, j25, eN, eM']
    exact hR.1
  · rw [e29, j25, eN, j251, j26, e34]
    refine ⟨hR.2.1, hR.2.2, ?_⟩
    exact g8.2.2
  · rw [eM'] at hr
    rw [e119, e120, e26, e32, e122, e123, e33]
    by_cases c : r = m
    · subst c
      rw [ud_eq, ud_eq, ud_eq, ud_eq, ud_eq, ud_eq, Int.toNat_natCast, Int.toNat_natCast, hpa, hpb]
      refine ⟨rfl, hw, ?_⟩
      omega
    · rw [ud_ne c, ud_ne c, ud_ne c, ud_ne c, ud_ne c, ud_ne c]
      exact g9 r (by omega)
  · intro q hq
    rw [j26] at hq
    have h10 := g10 q hq
    unfold FN at h10 ⊢
    rw [e39, e40, e41, e33, j25]
    exact h10
  · rw [e37]
    by_cases c : q = p.toNat
    · rw [c, ud_eq]; exact Or.inl rfl
    · rw [ud_ne c]
      have hl := FWc_loc (I := I) (J := J) (q := (q : Int)) hn0 (by omega) (hL q (by omega)) (by rw [j25]; exact Nat.le_refl _) (fun x hx => by rw [e33]) (by rw [e34]) (fun x h1 h2 => by rw [j25] at h2; omega)
      rw [hl]
      exact hk.1 q hq
  · rw [e44]
    by_cases c : q = p.toNat
    · rw [c, ud_eq]; exact Or.inl rfl
    · rw [ud_ne c]
      have hl := LVc_loc (I := I) (J := J) (q := (q : Int)) hn0 (by omega) (hL q (by omega)) (by rw [j25]; exact Nat.le_refl _) (fun x hx e => by rw [e32, ud_ne (by omega)]) (fun x hx => by rw [e26, ud_ne (by omega)]) (fun x hx => by rw [e33]) (fun x h1 h2 => by
        have : x = m := by omega
        rw [e33, e119, this, ud_eq, Int.toNat_natCast, hpa]
        omega) (by rw [e39, e40, e41]; exact ⟨rfl, rfl, rfl⟩)
      rcases hk.2 q hq with u | ⟨u1, u2⟩
      · exact Or.inl u
      · refine Or.inr ⟨by rw [hl.1]; exact u1, fun r hr e => ?_⟩
        rw [eM'] at hr
        rw [e33, e119] at e
        by_cases c2 : r = m
        · rw [c2, ud_eq, Int.toNat_natCast, hpa] at e
          omega
        · rw [ud_ne c2] at e
          rw [e42, hl.2 r (by omega) e]
          exact u2 r (by omega) e

