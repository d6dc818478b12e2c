/-! texts: what holds of them; text -/
/-- text i's cell -/
def tc (i : Nat) : Nat := if i = 0 then 12 else 153 + 10 * i
theorem tc_s {i : Nat} : tc (i + 1) = 163 + 10 * i := by unfold tc; rw [if_neg (by omega)]; omega
theorem tc_d (i : Nat) : (i = 0 ∧ tc i = 12) ∨ (1 ≤ i ∧ tc i = 153 + 10 * i) := by
  unfold tc
  by_cases h : i = 0
  · rw [if_pos h]; exact Or.inl ⟨h, rfl⟩
  · rw [if_neg h]; exact Or.inr ⟨by omega, rfl⟩
theorem TX_tc {sp rt : Nat} {tt : Nat → Nat} {n i : Nat} (h : 153 + 10 * i + 10 ≤ n) (h0 : 163 ≤ n) : TX (tc i) (RF sp rt tt n) := by
  cases i with
  | zero => exact TX_12
  | succ i =>
    rw [tc_s]
    exact TX_k (by omega)
theorem by_q {b : Int} (h : -128 ≤ b ∧ b ≤ 127) : ia32 b 255 = (if b < 0 then b + 256 else b) := by
  have h0 : ia32 b 255 = (BitVec.ofInt 32 b &&& 255#32).toInt := rfl
  have t : (BitVec.ofInt 32 b &&& 255#32).toNat = (b % 256).toNat := by
    rw [BitVec.toNat_and, BitVec.toNat_ofInt]
    have e : (255#32).toNat = 2 ^ 8 - 1 := rfl
    rw [e, Nat.and_two_pow_sub_one_eq_mod]
    omega
  rw [h0, BitVec.toInt_eq_toNat_of_lt (by omega), t]
  split <;> omega
theorem by_c {b x : Int} (h : -128 ≤ b ∧ b ≤ 127) (hx : 0 ≤ x ∧ x ≤ 127) (e : ia32 b 255 = x) : b = x := by
  rw [by_q h] at e
  split at e <;> omega
/-- text i, in both -/
def TXT (I : Nat → Nat → Int) (L i : Nat) : Prop := ∃ (n : Nat) (l : List CLM), (1 ≤ l.length ∧ l.length ≤ 12) ∧ n ≤ 160 ∧ (I (tc i) 5 = (l.length : Int) ∧ I 97 i = (l.length : Int)) ∧ (I 94 i = I (tc i) 0 ∧ I 95 i = I (tc i) 1 ∧ I 96 i = I (tc i) 2) ∧ (∀ c, c ∈ l → GOOD n c) ∧ (∀ k, k < n → I 98 (160 * i + k) = I (tc i + 1) k) ∧ KCL (tc i) I (I (tc i + 9)) L 160 0 l ∧ KRL i I (I 106) (I 107) 160 0 l ∧ ∀ c, c ∈ l → isC c.1 → I (tc i + 1) (c.2.2.2.1 - 1) = 40 ∧ I (tc i + 1) c.2.2.2.2.1 = 41
def GX (I : Nat → Nat → Int) (sp : Nat) (tt : Nat → Nat) (n : Nat) : Prop := ∃ c : Nat, c ≤ 30 ∧ (I 9 1 = (c : Int) ∧ I 82 5 = (c : Int)) ∧ n = 163 + 10 * c ∧ sp = tc c + 1 ∧ (∀ i, i < c → tt i = tc i + 1) ∧ (∃ s : Nat, I 82 51 = (s : Int)) ∧ ∃ L : Nat, I 9 5 = (L : Int) ∧ L < 4096 ∧ ∀ i, i < c → TXT I L i
theorem KCL_m {T : Nat} {I J : Nat → Nat → Int} {co co' : Nat → Int} {le le' u : Nat} (hI : ∀ a j, T + 2 ≤ a → a ≤ T + 8 → J a j = I a j) (hc : ∀ x, x < u → co' x = co x) (hl : ∀ k, le.testBit k = true → le'.testBit k = true) : ∀ (l : List CLM) (m : Nat), KCL T I co le u m l → KCL T J co' le' u m l := by
  intro l
  induction l with
  | nil => exact fun _ _ => trivial
  | cons c l ih =>
    intro m h
    refine ⟨?_, ih (m + 1) h.2⟩
    obtain ⟨h1, h2, h3, h4⟩ := h.1
    refine ⟨(hI _ _ (by omega) (by omega)).trans h1, fun q => (hI _ _ (by omega) (by omega)).trans (h2 q), fun q => ⟨(hI _ _ (by omega) (by omega)).trans (h3 q).1, (hI _ _ (by omega) (by omega)).trans (h3 q).2⟩, fun q => ?_⟩
    obtain ⟨g1, g2, a, b, g3, g4, g5, g6⟩ := h4 q
    exact ⟨(hI _ _ (by omega) (by omega)).trans g1, (hI _ _ (by omega) (by omega)).trans g2, a, b, (hI _ _ (by omega) (by omega)).trans g3, (hI _ _ (by omega) (by omega)).trans g4, g5, Cd_m g6 hl 14 (Nat.le_refl _) (fun x _ hx => hc x (by omega))⟩
theorem KRL_m {t : Nat} {I J : Nat → Nat → Int} {co ar co' ar' : Nat → Int} (hI : ∀ a j, 99 ≤ a → a ≤ 105 → j < 12 * t + 12 → J a j = I a j) (hc : ∀ x, x < 160 * t + 160 → co' x = co x ∧ ar' x = ar x) : ∀ (l : List CLM) (m : Nat), m + l.length ≤ 12 → KRL t I co ar 160 m l → KRL t J co' ar' 160 m l := by
  intro l
  induction l with
  | nil => exact fun _ _ _ => trivial
  | cons c l ih =>
    intro m hm h
    have hm' : m + (l.length + 1) ≤ 12 := hm
    refine ⟨?_, ih (m + 1) (by omega) h.2⟩
    obtain ⟨h1, h2, h3, h4, h5⟩ := h.1
    have e : ∀ a, 99 ≤ a → a ≤ 105 → J a (12 * t + m) = I a (12 * t + m) := fun a q1 q2 => hI a _ q1 q2 (by omega)
    refine ⟨(e _ (by decide) (by decide)).trans h1, fun q => (e _ (by decide) (by decide)).trans (h2 q), fun q => ⟨(e _ (by decide) (by decide)).trans (h3 q).1, (e _ (by decide) (by decide)).trans (h3 q).2⟩, fun q => ?_, fun q => by rw [e _ (by decide) (by decide), e _ (by decide) (by decide)]; exact h5 q⟩
    obtain ⟨g1, g2, a, b, g3, g4, g5, g6⟩ := h4 q
    exact ⟨(e _ (by decide) (by decide)).trans g1, (e _ (by decide) (by decide)).trans g2, a, b, (e _ (by decide) (by decide)).trans g3, (e _ (by decide) (by decide)).trans g4, g5, Cr_m g6 (fun x _ hx => hc (160 * t + x) (by omega))⟩
theorem TXT_m {I J : Nat → Nat → Int} {L L' i : Nat} (h : TXT I L i) (h1 : ∀ a j, tc i ≤ a → a ≤ tc i + 9 → ¬ (a = tc i ∧ j = 13) → J a j = I a j) (h2 : ∀ a, 94 ≤ a → a ≤ 97 → J a i = I a i) (h3 : ∀ j, j < 160 * i + 160 → J 98 j = I 98 j ∧ J 106 j = I 106 j ∧ J 107 j = I 107 j) (h4 : ∀ a j, 99 ≤ a → a ≤ 105 → j < 12 * i + 12 → J a j = I a j) (hl : ∀ k, L.testBit k = true → L'.testBit k = true) : TXT J L' i := by
  obtain ⟨n, l, a1, a2, a3, a4, a5, a6, a7, a8, a9⟩ := h
  refine ⟨n, l, a1, a2, ⟨(h1 _ _ (by omega) (by omega) (by omega)).trans a3.1, (h2 97 (by decide) (by decide)).trans a3.2⟩, ⟨?_, ?_, ?_⟩, a5, fun k hk => ?_, KCL_m (fun a j q1 q2 => h1 a j (by omega) (by omega) (by omega)) (fun x _ => h1 _ _ (by omega) (by omega) (by omega)) hl l 0 a7, KRL_m h4 (fun x hx => (h3 x hx).2) l 0 (by omega) a8, fun c hc q => by rw [h1 (tc i + 1) _ (by omega) (by omega) (by omega), h1 (tc i + 1) _ (by omega) (by omega) (by omega)]; exact a9 c hc q⟩
  · rw [h2 94 (by decide) (by decide), h1 (tc i) 0 (by omega) (by omega) (by omega)]; exact a4.1
  · rw [h2 95 (by decide) (by decide), h1 (tc i) 1 (by omega) (by omega) (by omega)]; exact a4.2.1
  · rw [h2 96 (by decide) (by decide), h1 (tc i) 2 (by omega) (by omega) (by omega)]; exact a4.2.2
  · rw [(h3 _ (by omega)).1, h1 (tc i + 1) k (by omega) (by omega) (by omega)]; exact a6 k hk
/-- what rests on texts' cells alone, but what is struck -/
def MXs (a j : Nat) : Bool := decide ((a = 9 ∧ (j = 1 ∨ j = 5)) ∨ ((12 ≤ a ∧ a ≤ 21) ∧ ¬ (a = 12 ∧ j = 13)) ∨ (163 ≤ a ∧ ¬ ((a - 163) % 10 = 0 ∧ j = 13)) ∨ (94 ≤ a ∧ a ≤ 107) ∨ (a = 82 ∧ (j = 5 ∨ j = 51)))
theorem mk_at {M : Nat → Nat → Bool} {I J : Nat → Nat → Int} (h : mkI M J = mkI M I) {a j : Nat} (hm : M a j = true) : J a j = I a j := by
  have e := congrFun (congrFun h a) j
  unfold mkI at e
  rwa [if_pos hm, if_pos hm] at e
theorem GX_s {I J : Nat → Nat → Int} {sp : Nat} {tt : Nat → Nat} {n : Nat} (h : mkI MXs J = mkI MXs I) (H : GX I sp tt n) : GX J sp tt n := by
  have e : ∀ a j, ((a = 9 ∧ (j = 1 ∨ j = 5)) ∨ ((12 ≤ a ∧ a ≤ 21) ∧ ¬ (a = 12 ∧ j = 13)) ∨ (163 ≤ a ∧ ¬ ((a - 163) % 10 = 0 ∧ j = 13)) ∨ (94 ≤ a ∧ a ≤ 107) ∨ (a = 82 ∧ (j = 5 ∨ j = 51))) → J a j = I a j := fun a j q => mk_at h (decide_eq_true q)
  obtain ⟨c, h1, h2, h3, h4, h5, ⟨s, h6⟩, L, h7, h8, h9⟩ := H
  refine ⟨c, h1, ⟨(e _ _ (by omega)).trans h2.1, (e _ _ (by omega)).trans h2.2⟩, h3, h4, h5, ⟨s, (e _ _ (by omega)).trans h6⟩, L, (e _ _ (by omega)).trans h7, h8, fun i hi => TXT_m (h9 i hi) (fun a j q1 q2 q3 => e a j ?_) (fun a q1 q2 => e a _ (by omega)) (fun j _ => ⟨e 98 j (by omega), e 106 j (by omega), e 107 j (by omega)⟩) (fun a j q1 q2 _ => e a j (by omega)) (fun _ q => q)⟩
  have := tc_d i
  omega
theorem GX_ok : XOK GX := by
  refine ⟨fun {I J sp tt n} h H => GX_s (mkI_eq (fun a j hm => mk_at h ?_)) H, fun {I sp tt n} H => ?_⟩
  · have := of_decide_eq_true hm
    exact decide_eq_true (by omega)
  · obtain ⟨c, h1, h2, _⟩ := H
    rw [h2.1, h2.2]
theorem GX_0 : GX IC1 13 (fun _ => 0) 163 := ⟨0, by decide, ⟨rfl, rfl⟩, rfl, rfl, fun i hi => absurd hi (Nat.not_lt_zero i), ⟨0, rfl⟩, 0, rfl, by decide, fun i hi => absurd hi (Nat.not_lt_zero i)⟩
section TT0
variable {d : Nat} {I : Nat → Nat → Int} {sp rt : Nat} {tt : Nat → Nat} {z : Zs} {T n c : Nat}
/-- the class takes a text in -/
theorem S_25 (hsp : sp = T + 1) (hX : ∀ sp rt tt, TX T (RF sp rt tt z.1)) (hz : z.1 = 163 + 10 * c) (hn : n ≤ 160) (h9 : I 9 1 = (c : Int)) (hc : c < 30) (hT : T = 12 ∨ 163 ≤ T) {x3 x4 x5 : Int} : ∃ K : Nat → Nat → Int, match RDL (qc (I 1) n) n 12 0 with
    | .inl e => Call PG (d + 39) 25 [(2, 9), (2, 1), (0, (n : Int)), (0, x3), (0, x4), (0, x5)] (I, RF sp rt tt z.1, z) = some (some (0, e), (K, RF sp (T + 1) tt z.1, z)) ∧ ∀ a j, ¬ a = 22 → ¬ (T ≤ a ∧ a ≤ T + 9) → K a j = I a j
    | .inr l => Call PG (d + 39) 25 [(2, 9), (2, 1), (0, (n : Int)), (0, x3), (0, x4), (0, x5)] (I, RF sp rt tt z.1, z) = some (some (0, (c : Int)), (K, RF (z.1 + 1) (T + 1) (fun j => if j = c then T + 1 else tt j) (z.1 + 10), (z.1 + 10, z.2))) ∧ (∀ a j, ¬ a = 22 → ¬ (T ≤ a ∧ a ≤ T + 9) → ¬ (a = 9 ∧ (j = 1 ∨ j = 5)) → K a j = I a j) ∧ K 9 1 = ((c + 1 : Nat) : Int) ∧ (K T 0 = x3 ∧ K T 1 = x4 ∧ K T 2 = x5) ∧ K T 5 = (l.length : Int) ∧ (∀ k, k < n → K (T + 1) k = I 1 k) ∧ ∃ le : Nat, le < 4096 ∧ K 9 5 = io32 (I 9 5) (le : Int) ∧ KCL T K (K (T + 9)) le 160 0 l := by
  have hs : ((sp : Nat) : Int).toNat = T + 1 := by omega
  have hx0 := hX sp rt tt
  have hx1 := hX sp (T + 1) tt
  have l1 : (LAY T).1 = 3 := by rw [hx0.2.1]
  have s26 := S_26 (d := d + 37) (I := I) (z := z) (sp := sp) (rt := rt) (tt := tt) (T := T) (n := n) hx0 hn
  have g : ∀ a j, ¬ a = T → ¬ a = T + 1 → up2 (up2 (up2 (cp2 (up2 I T 3 (n : Int)) 1 0 (T + 1) 0 n) T 5 0) T 15 0) T 16 0 a j = I a j := by
    intro a j q1 q2
    rw [up2_ne q1, up2_ne q1, up2_ne q1]
    unfold cp2
    rw [if_neg (fun q => q2 q.1), up2_ne q1]
  have gT : ∀ j, ¬ j = 5 → ¬ j = 15 → ¬ j = 16 → ¬ j = 3 → up2 (up2 (up2 (cp2 (up2 I T 3 (n : Int)) 1 0 (T + 1) 0 n) T 5 0) T 15 0) T 16 0 T j = I T j := by
    intro j q1 q2 q3 q4
    rw [up2_nj q3, up2_nj q2, up2_nj q1]
    unfold cp2
    rw [if_neg (fun q => by omega), up2_nj q4]
  have g3 : up2 (up2 (up2 (cp2 (up2 I T 3 (n : Int)) 1 0 (T + 1) 0 n) T 5 0) T 15 0) T 16 0 T 3 = (n : Int) := by
    rw [up2_nj (by decide), up2_nj (by decide), up2_nj (by decide)]
    unfold cp2
    rw [if_neg (fun q => by omega), up2_eq]
  have g15 : up2 (up2 (up2 (cp2 (up2 I T 3 (n : Int)) 1 0 (T + 1) 0 n) T 5 0) T 15 0) T 16 0 T 15 = 0 := (up2_nj (by decide)).trans up2_eq
  have g16 : up2 (up2 (up2 (cp2 (up2 I T 3 (n : Int)) 1 0 (T + 1) 0 n) T 5 0) T 15 0) T 16 0 T 16 = 0 := up2_eq
  have gB : ∀ k, k < n → up2 (up2 (up2 (cp2 (up2 I T 3 (n : Int)) 1 0 (T + 1) 0 n) T 5 0) T 15 0) T 16 0 (T + 1) k = I 1 k := by
    intro k hk
    rw [up2_ne (by omega), up2_ne (by omega), up2_ne (by omega)]
    unfold cp2
    rw [if_pos (by omega), up2_ne (by omega), show 0 + (k - 0) = k by omega]
  generalize hJ : up2 (up2 (up2 (cp2 (up2 I T 3 (n : Int)) 1 0 (T + 1) 0 n) T 5 0) T 15 0) T 16 0 = J at *
  have hCX : CX J sp (T + 1) tt z T n := ⟨by omega, hx1, g3, hn⟩
  have hqc : qc (J (T + 1)) n = qc (I 1) n := by
    funext p
    unfold qc
    by_cases q : p < n
    · rw [if_pos q, if_pos q, gB p q]
    · rw [if_neg q, if_neg q]
  obtain ⟨K, p', va', fc', cl', le', co', e27, f, oc⟩ := S_27 (E := d + 36) (rt := rt) (by omega) hCX g15 g16
  rw [hqc] at oc
  have k1 : Call PG (d + 39) 25 [(2, 9), (2, 1), (0, (n : Int)), (0, x3), (0, x4), (0, x5)] (I, RF sp rt tt z.1, z) = Run PG (Call PG (d + 38)) 25 29 [(2, 9), (2, 1), (0, (n : Int)), (0, x3), (0, x4), (0, x5), (9, 0)] [(0, fc')] (HC T K p' va' fc' cl' le' co', RF sp (T + 1) tt z.1, z) (0, 0) := by
    refine (Call_s ..).trans ?_
    refine (T_25_0 ..).trans (bd_t S_24 ?_)
    refine (T_25_4 ..).trans ?_
    rw [bz_f (by omega)]
    refine ci_t rfl (nn_t hs (ite_t (decide_eq_true l1) (bd_t s26 ?_)))
    refine (T_25_18 ..).trans (nn_t hs (bd_t e27 rfl))
  have fK : ∀ a j, ¬ a = 22 → ¬ (T ≤ a ∧ a ≤ T + 9) → HC T K p' va' fc' cl' le' co' a j = I a j := by
    intro a j q1 q2
    rw [hc_o q1 (Or.inl (by omega)) (by omega), f a j (by omega) (by omega), g a j (by omega) (by omega)]
  cases hr : RDL (qc (I 1) n) n 12 0 with
  | inl e0 =>
    rw [hr] at oc
    have hneg := (RDL_ok (qc_OQ (I 1) n) 12 0).1 _ hr
    subst oc
    refine ⟨_, k1.trans ?_, fK⟩
    exact (T_25_29 ..).trans (ci_f (by omega) rfl)
  | inr l =>
    rw [hr] at oc
    obtain ⟨rfl, o2, o3, o4, o5, o6⟩ := oc
    have e9 : ∀ j, HC T K p' va' 0 cl' le' co' 9 j = I 9 j := fun j => fK 9 j (by decide) (by omega)
    have hdT : ¬ T = 22 ∧ ¬ T + 9 = 22 ∧ ¬ T = 9 ∧ ¬ T + 9 = 9 := by omega
    have k2 : Call PG (d + 39) 25 [(2, 9), (2, 1), (0, (n : Int)), (0, x3), (0, x4), (0, x5)] (I, RF sp rt tt z.1, z) = Run PG (Call PG (d + 38)) 25 94 [(2, 9), (2, 1), (0, (n : Int)), (0, x3), (0, x4), (0, x5), (0, 0)] [] (up2 (up2 (up2 (up2 (HC T K p' va' 0 cl' le' co') T 0 x3) T 1 x4) T 2 x5) 9 5 (io32 (I 9 5) (le' : Int)), RF sp (T + 1) (fun j => if j = c then T + 1 else tt j) z.1, z) (0, 0) := by
      refine k1.trans ((T_25_29 ..).trans (ci_t rfl (nn_t hs (ite_t l1 (nn_t hs (ite_t l1 (nn_t hs (ite_t l1 (nn_t hs (ite_t l1 (nn_t hs (ite_t l1 ?_))))))))))))
      have q9 : ∀ j, up2 (up2 (up2 (HC T K p' va' 0 cl' le' co') T 0 x3) T 1 x4) T 2 x5 9 j = I 9 j := fun j => by
        rw [up2_ne (by omega), up2_ne (by omega), up2_ne (by omega)]
        exact e9 j
      have q16 : up2 (up2 (up2 (HC T K p' va' 0 cl' le' co') T 0 x3) T 1 x4) T 2 x5 T 16 = (le' : Int) := by
        rw [up2_nj (by decide), up2_nj (by decide), up2_nj (by decide), hc_16 hdT.1]
      rw [q9 1, q9 5, q16, h9, show ((c : Int)).toNat = c by omega, RF_tt hc]
      exact ci_t (by omega) rfl
    have hl : ∀ x, x < 10 → LAY (z.1 + x) = TL.getD x (0, 0) := by
      intro x hx
      unfold LAY
      rw [if_neg (by omega), show (z.1 + x - 163) % 10 = x by omega]
    have n3 := N_3g (d + 37) z.1 (up2 (up2 (up2 (up2 (HC T K p' va' 0 cl' le' co') T 0 x3) T 1 x4) T 2 x5) 9 5 (io32 (I 9 5) (le' : Int))) (RF sp (T + 1) (fun j => if j = c then T + 1 else tt j) z.1) z.2 hl
    have lz : LAY z.1 = (3, 17) := hl 0 (by decide)
    have k3 : Call PG (d + 39) 25 [(2, 9), (2, 1), (0, (n : Int)), (0, x3), (0, x4), (0, x5)] (I, RF sp rt tt z.1, z) = some (some (0, (c : Int)), (up2 (up2 (up2 (up2 (up2 (HC T K p' va' 0 cl' le' co') T 0 x3) T 1 x4) T 2 x5) 9 5 (io32 (I 9 5) (le' : Int))) 9 1 ((c + 1 : Nat) : Int), RF (z.1 + 1) (T + 1) (fun j => if j = c then T + 1 else tt j) (z.1 + 10), (z.1 + 10, z.2))) := by
      refine k2.trans ((T_25_94 ..).trans (ite_t ⟨by rw [lz], by decide, by rw [lz]; decide⟩ (ite_t ⟨by decide, by rw [lz]; decide⟩ (bd_t n3 ?_))))
      refine (T_25_102 ..).trans (ite_t rfl ?_)
      rw [RF_new hz]
      refine (T_25_105 ..).trans ?_
      have q9 : up2 (up2 (up2 (up2 (HC T K p' va' 0 cl' le' co') T 0 x3) T 1 x4) T 2 x5) 9 5 (io32 (I 9 5) (le' : Int)) 9 1 = (c : Int) := by
        rw [up2_nj (by decide), up2_ne (by omega), up2_ne (by omega), up2_ne (by omega), e9 1]
        exact h9
      rw [up2_eq, q9, w_n (by omega), w32_of (by omega) (by omega), show ((c + 1 : Nat) : Int) - 1 = (c : Int) by omega]
    refine ⟨_, k3, fun a j q1 q2 q3 => ?_, up2_eq, ⟨?_, ?_, ?_⟩, ?_, fun k hk => ?_, le', o3, ?_, ?_⟩
    · rw [up2_def, if_neg (by omega), up2_def, if_neg (by omega), up2_ne (by omega), up2_ne (by omega), up2_ne (by omega)]
      exact fK a j q1 q2
    · rw [up2_ne (by omega), up2_ne (by omega), up2_nj (by decide), up2_nj (by decide), up2_eq]
    · rw [up2_ne (by omega), up2_ne (by omega), up2_nj (by decide), up2_eq]
    · rw [up2_ne (by omega), up2_ne (by omega), up2_eq]
    · rw [up2_ne (by omega), up2_ne (by omega), up2_nj (by decide), up2_nj (by decide), up2_nj (by decide), hc_o (by omega) (Or.inr ⟨by decide, by decide⟩) (by omega), o6]
      omega
    · rw [up2_ne (by omega), up2_ne (by omega), up2_ne (by omega), up2_ne (by omega), up2_ne (by omega), hc_o (by omega) (Or.inl (by omega)) (by omega), f _ _ (by omega) (by omega)]
      exact gB k hk
    · rw [up2_nj (by decide), up2_eq]
    · refine KCL_m (fun a j q1 q2 => ?_) (fun x hx => ?_) (fun _ q => q) l 0 o5
      · rw [up2_ne (by omega), up2_ne (by omega), up2_ne (by omega), up2_ne (by omega), up2_ne (by omega), hc_o (by omega) (Or.inl (by omega)) (by omega)]
      · rw [up2_ne (by omega), up2_ne (by omega), up2_ne (by omega), up2_ne (by omega), up2_ne (by omega), hc_c hdT.2.1]
end TT0

