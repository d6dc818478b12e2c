/-! texts: what is struck -/
theorem KCL_at {T : Nat} {I : Nat → Nat → Int} {co : Nat → Int} {le u : Nat} : ∀ {l : List CLM} {m : Nat}, KCL T I co le u m l → ∀ j, j < l.length → ∃ c, c ∈ l ∧ l[j]? = some c ∧ KC T I co le u (m + j) c
  | [], _, _, j, hj => absurd hj (Nat.not_lt_zero j)
  | c :: l, m, h, 0, _ => ⟨c, List.mem_cons.2 (Or.inl rfl), rfl, h.1⟩
  | c :: l, m, h, j + 1, hj => by
    obtain ⟨c', h1, h2, h3⟩ := KCL_at h.2 j (Nat.lt_of_succ_lt_succ hj)
    exact ⟨c', List.mem_cons.2 (Or.inr h1), h2, by rw [show m + (j + 1) = m + 1 + j by omega]; exact h3⟩
theorem KRL_at {t : Nat} {I : Nat → Nat → Int} {co ar : Nat → Int} {u : Nat} : ∀ {l : List CLM} {m : Nat}, KRL t I co ar u m l → ∀ j, j < l.length → ∃ c, l[j]? = some c ∧ KR t (m + j) I co ar u c
  | [], _, _, j, hj => absurd hj (Nat.not_lt_zero j)
  | c :: l, m, h, 0, _ => ⟨c, rfl, h.1⟩
  | c :: l, m, h, j + 1, hj => by
    obtain ⟨c', h2, h3⟩ := KRL_at h.2 j (Nat.lt_of_succ_lt_succ hj)
    exact ⟨c', h2, by rw [show m + (j + 1) = m + 1 + j by omega]; exact h3⟩
/-- clause j of text i, in both -/
def CLf (I : Nat → Nat → Int) (L i j : Nat) : Prop :=
  isL (I 99 (12 * i + j)) ∧ I (tc i + 2) j = I 99 (12 * i + j) ∧
  (I 99 (12 * i + j) = 102 ∨ I 99 (12 * i + j) = 119 → I (tc i + 3) j = I 100 (12 * i + j) ∧ 0 ≤ I 100 (12 * i + j) ∧ I 100 (12 * i + j) ≤ 99999) ∧
  (I 99 (12 * i + j) = 120 → I (tc i + 3) j = I 100 (12 * i + j) ∧ (0 ≤ I 100 (12 * i + j) ∧ I 100 (12 * i + j) ≤ 29) ∧ I (tc i + 4) j = I 101 (12 * i + j) ∧ 0 ≤ I 101 (12 * i + j) ∧ I 101 (12 * i + j) ≤ 11) ∧
  (isC (I 99 (12 * i + j)) → ∃ (n bf bt a b a' b' : Nat) (f : FM), (n ≤ 160 ∧ 2 ≤ bf ∧ bf ≤ bt ∧ bt + 1 ≤ n ∧ (∀ k, k < n → I 98 (160 * i + k) = I (tc i + 1) k) ∧ I (tc i + 1) (bf - 1) = 40 ∧ I (tc i + 1) bt = 41) ∧ (I (tc i + 5) j = (bf : Int) ∧ I (tc i + 6) j = (bt : Int) ∧ I 102 (12 * i + j) = (bf : Int) - 1 ∧ I 103 (12 * i + j) = (bt : Int) + 1) ∧ (I (tc i + 7) j = (a : Int) ∧ I (tc i + 8) j = (b : Int) ∧ b ≤ 160 ∧ Cd (fun k => L.testBit k = true) (I (tc i + 9)) a b 14 f) ∧ (I 104 (12 * i + j) = (a' : Int) ∧ I 105 (12 * i + j) = (b' : Int) ∧ b' ≤ 160 ∧ Cr (fun x => I 106 (160 * i + x)) (fun x => I 107 (160 * i + x)) a' b' f) ∧ BoolF f) ∧
  (¬ isC (I 99 (12 * i + j)) → I 104 (12 * i + j) = I 105 (12 * i + j))
/-- text i, in both -/
def TXf (I : Nat → Nat → Int) (L i m : Nat) : Prop := (1 ≤ m ∧ m ≤ 12) ∧ (I (tc i) 5 = (m : Int) ∧ I 97 i = (m : Int)) ∧ (I 94 i = I (tc i) 0 ∧ I 95 i = I (tc i) 1 ∧ I 96 i = I (tc i) 2) ∧ ∀ j, j < m → CLf I L i j
theorem TXT_f {I : Nat → Nat → Int} {L i : Nat} (h : TXT I L i) : ∃ m, TXf I L i m := by
  obtain ⟨n, l, a1, a2, a3, a4, a5, a6, a7, a8, a9⟩ := h
  refine ⟨l.length, a1, a3, a4, fun j hj => ?_⟩
  obtain ⟨c, h1, h2, k1, k2, k3, k4⟩ := KCL_at a7 j hj
  obtain ⟨c', h3, r1, r2, r3, r4, r5⟩ := KRL_at a8 j hj
  rw [h2] at h3
  cases h3
  rw [Nat.zero_add] at k1 k2 k3 k4 r1 r2 r3 r4 r5
  obtain ⟨g1, g2, g3, g4⟩ := a5 c h1
  unfold CLf
  rw [r1]
  refine ⟨g1, k1, fun q => ⟨(k2 q).trans (r2 q).symm, ?_⟩, fun q => ⟨(k3 q).1.trans (r3 q).1.symm, ?_, (k3 q).2.trans (r3 q).2.symm, ?_⟩, fun q => ?_, r5⟩
  · rw [r2 q]; exact g2 q
  · rw [(r3 q).1]; exact (g3 q).1
  · rw [(r3 q).2]; exact (g3 q).2
  · obtain ⟨u1, u2, a, b, u3, u4, u5, u6⟩ := k4 q
    obtain ⟨v1, v2, a', b', v3, v4, v5, v6⟩ := r4 q
    exact ⟨n, c.2.2.2.1, c.2.2.2.2.1, a, b, a', b', c.2.2.2.2.2, ⟨a2, (g4 q).1.1, (g4 q).1.2.1, (g4 q).1.2.2, a6, a9 c h1 q⟩, ⟨u1, u2, v1, v2⟩, ⟨u3, u4, u5, u6⟩, ⟨v3, v4, v5, v6⟩, (g4 q).2⟩
/-- what holds of all texts -/
def TV (I : Nat → Nat → Int) (tt : Nat → Nat) (z : Zs) (c L : Nat) : Prop := c ≤ 30 ∧ (I 9 1 = (c : Int) ∧ I 82 5 = (c : Int)) ∧ z.1 = 163 + 10 * c ∧ (∀ i, i < c → tt i = tc i + 1) ∧ ∀ i, i < c → ∃ m, TXf I L i m
theorem GX_TV {I : Nat → Nat → Int} {sp : Nat} {tt : Nat → Nat} {z : Zs} (h : GX I sp tt z.1) : ∃ c L, TV I tt z c L ∧ I 9 5 = (L : Int) ∧ L < 4096 := by
  obtain ⟨c, h1, h2, h3, h4, h5, h6, L, h7, h8, h9⟩ := h
  exact ⟨c, L, ⟨h1, h2, h3, h5, fun i hi => TXT_f (h9 i hi)⟩, h7, h8⟩
abbrev SB : Type := Nat → Nat → Bool
def sj (I : Nat → Nat → Int) (i j : Nat) (S : SB) : SB := if I 99 (12 * i + j) = 120 ∧ S i j = false ∧ I 100 (12 * i + j) < i ∧ (I 94 i = -1 ∨ I 94 (I 100 (12 * i + j)).toNat = I 94 i) then (fun a k => if a = (I 100 (12 * i + j)).toNat ∧ k = (I 101 (12 * i + j)).toNat then true else S a k) else S
def sjs (I : Nat → Nat → Int) (i : Nat) : Nat → Nat → SB → SB
  | 0, _, S => S
  | u + 1, j, S => sjs I i u (j + 1) (sj I i j S)
/-- the text counts for the pit on the day -/
abbrev forP (I : Nat → Nat → Int) (p day : Int) (i : Nat) : Prop := (I 94 i = -1 ∨ I 94 i = p) ∧ I 95 i ≤ day ∧ day ≤ I 96 i
def STK (I : Nat → Nat → Int) (p day : Int) : Nat → SB → SB
  | 0, S => S
  | i + 1, S => STK I p day i (if forP I p day i then sjs I i (I 97 i).toNat 0 S else S)
/-- the first heap with S struck -/
def SCl (I : Nat → Nat → Int) (c : Nat) (S : SB) (J : Nat → Nat → Int) : Prop := (∀ a j, ¬ (j = 13 ∧ ∃ i, i < c ∧ a = tc i) → J a j = I a j) ∧ ∀ i, i < c → ∃ v : Nat, v < 4096 ∧ J (tc i) 13 = (v : Int) ∧ ∀ k, k < 12 → v.testBit k = S i k
theorem tc_i {i k : Nat} (h : tc i = tc k) : i = k := by
  have := tc_d i
  have := tc_d k
  omega
section SK0
variable {d : Nat} {I : Nat → Nat → Int} {sp rt : Nat} {tt : Nat → Nat} {z : Zs} {c L : Nat}
theorem rf11 (h : TV I tt z c L) {i : Nat} (hi : i < c) : (RF sp rt tt z.1 11 i).toNat = tc i + 1 := by
  have e : RF sp rt tt z.1 11 i = ((tt i : Nat) : Int) := by
    unfold RF
    have := h.1
    rw [if_pos (by decide), if_neg (by omega), if_neg (by omega), if_pos rfl, if_pos (by omega)]
  rw [e, h.2.2.2.1 i hi]
  omega
theorem tcL (h : TV I tt z c L) {i : Nat} (hi : i < c) : TX (tc i) (RF sp rt tt z.1) := TX_tc (by have := h.2.2.1; omega) (by have := h.2.2.1; omega)
theorem bit32 {v k : Nat} (hv : v < 4096) (hk : k < 12) : ia32 (shr32 (v : Int) (k : Int)) 1 = 0 ↔ v.testBit k = false := by
  rw [shr_n (by omega), show (1 : Int) = ((1 : Nat) : Int) from rfl, ia_n (by have := Nat.div_le_self v (2 ^ k); omega) (by decide)]
  have e : v / 2 ^ k &&& 1 = (v.testBit k).toNat := by
    rw [Nat.and_one_is_mod, Nat.toNat_testBit]
  rw [e]
  cases v.testBit k <;> simp
theorem SCl_fr {S : SB} {J : Nat → Nat → Int} (h : SCl I c S J) {a j : Nat} (hq : ¬ j = 13 ∨ (∀ i, i < c → ¬ a = tc i)) : J a j = I a j := h.1 a j (fun q => by
  obtain ⟨q1, i, q2, q3⟩ := q
  exact hq.elim (fun r => r q1) (fun r => r i q2 q3))
theorem tc_ne {i a : Nat} (h : ¬ a = 12 ∧ (a < 163 ∨ ¬ (a - 163) % 10 = 0)) : ¬ a = tc i := by
  have := tc_d i
  omega
/-- a text's array isn't a text's object -/
theorem tc_k {i k x : Nat} (hx : 1 ≤ x ∧ x ≤ 9) : ¬ tc i + x = tc k := by
  have := tc_d i
  have := tc_d k
  omega
theorem S_53 (h : TV I tt z c L) {S : SB} {J : Nat → Nat → Int} (hJ : SCl I c S J) {i j m : Nat} (hi : i < c) (hm : TXf I L i m) (hj : j < m) (h120 : I 99 (12 * i + j) = 120) (hS : S i j = false) : ∃ K, Call PG (d + 1) 53 [(2, 9), (0, (i : Int)), (0, (j : Int))] (J, RF sp rt tt z.1, z) = some (none, (K, RF sp rt tt z.1, z)) ∧ SCl I c (sj I i j S) K := by
  have hx := tcL (sp := sp) (rt := rt) h hi
  have hc := h.1
  have l1 : (LAY (tc i)).1 = 3 := by rw [hx.2.1]
  obtain ⟨_, _, _, _, t3, t4, _⟩ := hx
  have r11 := rf11 (sp := sp) (rt := rt) h hi
  obtain ⟨m1, m2, m3, m4⟩ := hm
  obtain ⟨w1, w2, w3, w4, w5, w6⟩ := m4 j hj
  obtain ⟨y1, y2, y3, y4⟩ := w4 h120
  have e3 : J (tc i + 3) j = I 100 (12 * i + j) := (SCl_fr hJ (Or.inr (fun k _ => tc_k (by omega)))).trans y1
  have e4 : J (tc i + 4) j = I 101 (12 * i + j) := (SCl_fr hJ (Or.inr (fun k _ => tc_k (by omega)))).trans y3
  have e0 : J (tc i) 0 = I 94 i := (SCl_fr hJ (Or.inl (by decide))).trans m3.1.symm
  obtain ⟨lo, hlo⟩ := Int.eq_ofNat_of_zero_le y2.1
  obtain ⟨cl, hcl⟩ := Int.eq_ofNat_of_zero_le y4.1
  by_cases c1 : lo < i
  · have hlc : lo < c := by omega
    have hxl := tcL (sp := sp) (rt := rt) h hlc
    have l2 : (LAY (tc lo)).1 = 3 := by rw [hxl.2.1]
    have r12 := rf11 (sp := sp) (rt := rt) h hlc
    obtain ⟨ml, n1, n2, n3, n4⟩ := h.2.2.2.2 lo hlc
    have f0 : J (tc lo) 0 = I 94 lo := (SCl_fr hJ (Or.inl (by decide))).trans n3.1.symm
    obtain ⟨v, hv, ev, bv⟩ := hJ.2 lo hlc
    have lo2 := le_or (k := cl) hv (by omega)
    have fin : SCl I c (fun a k => if a = lo ∧ k = cl then true else S a k) (up2 J (tc lo) 13 (io32 (v : Int) (shl32 1 (cl : Int)))) := by
      refine ⟨fun a b q => ?_, fun i' hi' => ?_⟩
      · rw [up2_def, if_neg (fun r => q ⟨r.2, lo, hlc, r.1⟩)]
        exact hJ.1 a b q
      · by_cases q : i' = lo
        · subst q
          refine ⟨_, lo2.2, up2_eq.trans lo2.1, fun k hk => ?_⟩
          dsimp only
          by_cases q2 : k = cl
          · subst q2
            rw [if_pos ⟨rfl, rfl⟩]
            exact le_k
          · rw [if_neg (fun r => q2 r.2), Nat.testBit_or, Nat.testBit_two_pow_of_ne (by omega), Bool.or_false]
            exact bv k hk
        · obtain ⟨v', hv', ev', bv'⟩ := hJ.2 i' hi'
          refine ⟨v', hv', (up2_ne (fun r => q (tc_i r))).trans ev', fun k hk => ?_⟩
          dsimp only
          rw [if_neg (fun r => q r.1)]
          exact bv' k hk
    have tl : ∀ (n49 : Nat), n49 = tc lo → (ci (0 ≤ (i : Int) ∧ (i : Int) < 30) (nn (RF sp rt tt z.1 11 ((i : Int)).toNat) none (fun n72 => (if (LAY n72).1 = 3 then nn (RF sp rt tt z.1 n72 8) none (fun n73 => (if (LAY n73).1 = 20 then (ci (0 ≤ (j : Int) ∧ (j : Int) < ((LAY n73).2 : Int)) (if (LAY n49).1 = 3 then some (none, (up2 J n49 13 (io32 (J n49 13) (shl32 1 (J n73 ((j : Int)).toNat))), RF sp rt tt z.1, z)) else none) none) else none)) else none))) none) = some (none, (up2 J (tc lo) 13 (io32 (v : Int) (shl32 1 (cl : Int))), RF sp rt tt z.1, z)) := by
      intro n49 hn
      subst hn
      rw [show ((i : Int)).toNat = i by omega, show ((j : Int)).toNat = j by omega]
      refine ci_t (by omega) (nn_t r11 (ite_t l1 (nn_t (tx_a (R := I) t4).1 (ite_t (tx_a (R := I) t4).2.1 (ci_t (tx_m (tx_a (R := I) t4).2.2 (by omega)) (ite_t l2 ?_))))))
      rw [ev, e4, hcl]
    have hsj : sj I i j S = if (I 94 i = -1 ∨ I 94 lo = I 94 i) then (fun a k => if a = lo ∧ k = cl then true else S a k) else S := by
      unfold sj
      rw [hlo, hcl]
      by_cases q : I 94 i = -1 ∨ I 94 lo = I 94 i
      · rw [if_pos q, if_pos ⟨h120, hS, by show (lo : Int) < i; omega, q⟩]
        rfl
      · rw [if_neg q, if_neg (fun r => q r.2.2.2)]
    rw [hsj]
    by_cases q1 : I 94 i = -1
    · rw [if_pos (Or.inl q1)]
      refine ⟨_, ?_, fin⟩
      refine (K_53 ..).trans ((T_53_0 ..).trans ?_)
      rw [show ((i : Int)).toNat = i by omega, show ((j : Int)).toNat = j by omega]
      refine ci_t (by omega) (nn_t r11 (ite_t l1 (nn_t (tx_a (R := I) t3).1 (ite_t (tx_a (R := I) t3).2.1 (ci_t (tx_m (tx_a (R := I) t3).2.2 (by omega)) ?_)))))
      rw [e3, hlo]
      refine ci_f (by omega) (ci_t (show ((lo : Nat) : Int) < (i : Int) by omega) (ci_t (by omega) (nn_t r11 (ite_t l1 ?_))))
      rw [e0]
      refine ci_t q1 (ci_t (show 0 ≤ ((lo : Nat) : Int) ∧ ((lo : Nat) : Int) < 30 by omega) (nn_t (n := tc lo) ?_ (ite_t l2 ?_)))
      · exact r12
      · exact tl (tc lo) rfl
    · by_cases q2 : I 94 lo = I 94 i
      · rw [if_pos (Or.inr q2)]
        refine ⟨_, ?_, fin⟩
        refine (K_53 ..).trans ((T_53_0 ..).trans ?_)
        rw [show ((i : Int)).toNat = i by omega, show ((j : Int)).toNat = j by omega]
        refine ci_t (by omega) (nn_t r11 (ite_t l1 (nn_t (tx_a (R := I) t3).1 (ite_t (tx_a (R := I) t3).2.1 (ci_t (tx_m (tx_a (R := I) t3).2.2 (by omega)) ?_)))))
        rw [e3, hlo]
        refine ci_f (by omega) (ci_t (show ((lo : Nat) : Int) < (i : Int) by omega) (ci_t (by omega) (nn_t r11 (ite_t l1 ?_))))
        rw [e0]
        refine ci_f q1 (ci_t (by omega) (nn_t r11 (ite_t l1 (ci_t (show 0 ≤ ((lo : Nat) : Int) ∧ ((lo : Nat) : Int) < 30 by omega) (nn_t (n := tc lo) r12 (ite_t l2 ?_))))))
        rw [e0, f0]
        refine ci_t q2.symm (ci_t (show 0 ≤ ((lo : Nat) : Int) ∧ ((lo : Nat) : Int) < 30 by omega) (nn_t (n := tc lo) r12 (ite_t l2 ?_)))
        exact tl (tc lo) rfl
      · rw [if_neg (fun q => q.elim q1 q2)]
        refine ⟨J, ?_, hJ⟩
        refine (K_53 ..).trans ((T_53_0 ..).trans ?_)
        rw [show ((i : Int)).toNat = i by omega, show ((j : Int)).toNat = j by omega]
        refine ci_t (by omega) (nn_t r11 (ite_t l1 (nn_t (tx_a (R := I) t3).1 (ite_t (tx_a (R := I) t3).2.1 (ci_t (tx_m (tx_a (R := I) t3).2.2 (by omega)) ?_)))))
        rw [e3, hlo]
        refine ci_f (by omega) (ci_t (show ((lo : Nat) : Int) < (i : Int) by omega) (ci_t (by omega) (nn_t r11 (ite_t l1 ?_))))
        rw [e0]
        refine ci_f q1 (ci_t (by omega) (nn_t r11 (ite_t l1 (ci_t (show 0 ≤ ((lo : Nat) : Int) ∧ ((lo : Nat) : Int) < 30 by omega) (nn_t (n := tc lo) r12 (ite_t l2 ?_))))))
        rw [e0, f0]
        exact ci_f (fun q => q2 q.symm) rfl
  · have hsj : sj I i j S = S := by
      unfold sj
      rw [if_neg (fun r => by have := r.2.2.1; rw [hlo] at this; omega)]
    rw [hsj]
    refine ⟨J, ?_, hJ⟩
    refine (K_53 ..).trans ((T_53_0 ..).trans ?_)
    rw [show ((i : Int)).toNat = i by omega, show ((j : Int)).toNat = j by omega]
    refine ci_t (by omega) (nn_t r11 (ite_t l1 (nn_t (tx_a (R := I) t3).1 (ite_t (tx_a (R := I) t3).2.1 (ci_t (tx_m (tx_a (R := I) t3).2.2 (by omega)) ?_)))))
    rw [e3, hlo]
    exact ci_f (by omega) (ci_f (show ¬ ((lo : Nat) : Int) < (i : Int) by omega) rfl)
/-- the day -/
def DAYv (I : Nat → Nat → Int) : Int := Int.tdiv (I 0 0) 1440
theorem L_51a (h : TV I tt z c L) {p day : Int} : ∀ (u i : Nat) (J : Nat → Nat → Int), i + u = c → (∀ a j, ¬ (j = 13 ∧ ∃ i, i < c ∧ a = tc i) → J a j = I a j) → (∀ k, k < i → J (tc k) 13 = 0) → ∃ K, Run PG (Call PG (d + 2)) 51 2 [(2, 9), (0, p), (0, day), (0, (i : Int)), (9, 0), (9, 0)] [] (J, RF sp rt tt z.1, z) (0, 0) = Run PG (Call PG (d + 2)) 51 33 [(2, 9), (0, p), (0, day), (0, (c : Int) - 1), (9, 0), (9, 0)] [] (K, RF sp rt tt z.1, z) (0, 0) ∧ SCl I c (fun _ _ => false) K := by
  have hc := h.1
  intro u
  induction u with
  | zero =>
    intro i J hi hf hz
    have e9 : J 9 1 = (c : Int) := (hf 9 1 (by omega)).trans h.2.1.1
    refine ⟨J, ?_, hf, fun k hk => ⟨0, by decide, hz k (by omega), fun b _ => Nat.zero_testBit b⟩⟩
    refine (T_51_2 ..).trans ?_
    rw [e9, w32_of (x := (c : Int) - 1) (by omega) (by omega)]
    exact ci_f (by omega) rfl
  | succ u ih =>
    intro i J hi hf hz
    have e9 : J 9 1 = (c : Int) := (hf 9 1 (by omega)).trans h.2.1.1
    have hx := tcL (sp := sp) (rt := rt) h (show i < c by omega)
    have l1 : (LAY (tc i)).1 = 3 := by rw [hx.2.1]
    have r11 := rf11 (sp := sp) (rt := rt) h (show i < c by omega)
    obtain ⟨K, e, hK⟩ := ih (i + 1) (up2 J (tc i) 13 0) (by omega) (fun a j q => by rw [up2_def, if_neg (fun r => q ⟨r.2, i, by omega, r.1⟩)]; exact hf a j q) (fun k hk => by
      by_cases q : k = i
      · rw [q]; exact up2_eq
      · rw [up2_ne (fun r => q (tc_i r))]; exact hz k (by omega))
    refine ⟨K, Eq.trans ?_ e, hK⟩
    refine (T_51_2 ..).trans ?_
    rw [e9, show ((i : Int)).toNat = i by omega, w_n (by omega)]
    exact ci_t (by omega) (ci_t (by omega) (nn_t r11 (ite_t l1 rfl)))
theorem L_51c (h : TV I tt z c L) {p day : Int} {i m : Nat} (hi : i < c) (hm : TXf I L i m) (hf : forP I p day i) : ∀ (u j : Nat) (S : SB) (J : Nat → Nat → Int), j + u = m → SCl I c S J → ∃ (K : Nat → Nat → Int) (j' : Int), Run PG (Call PG (d + 2)) 51 48 [(2, 9), (0, p), (0, day), (0, (i : Int)), (2, ((tc i : Nat) : Int)), (0, (j : Int))] [] (J, RF sp rt tt z.1, z) (0, 0) = Run PG (Call PG (d + 2)) 51 33 [(2, 9), (0, p), (0, day), (0, (i : Int) - 1), (2, ((tc i : Nat) : Int)), (0, j')] [] (K, RF sp rt tt z.1, z) (0, 0) ∧ SCl I c (sjs I i u j S) K := by
  have hc := h.1
  have hx := tcL (sp := sp) (rt := rt) h hi
  have l1 : (LAY (tc i)).1 = 3 := by rw [hx.2.1]
  have t2 := hx.2.2.2.1
  have hm0 := hm
  obtain ⟨m1, m2, m3, m4⟩ := hm
  intro u
  induction u with
  | zero =>
    intro j S J hj hJ
    have e5 : J (tc i) 5 = (m : Int) := (SCl_fr hJ (Or.inl (by decide))).trans m2.1
    refine ⟨J, (j : Int), ?_, hJ⟩
    refine (T_51_48 ..).trans (ite_t l1 ?_)
    rw [e5, w32_of (by omega) (by omega)]
    exact ci_f (by omega) rfl
  | succ u ih =>
    intro j S J hj hJ
    have e5 : J (tc i) 5 = (m : Int) := (SCl_fr hJ (Or.inl (by decide))).trans m2.1
    have e0 : J (tc i) 0 = I 94 i := (SCl_fr hJ (Or.inl (by decide))).trans m3.1.symm
    have e1 : J (tc i) 1 = I 95 i := (SCl_fr hJ (Or.inl (by decide))).trans m3.2.1.symm
    have e2 : J (tc i) 2 = I 96 i := (SCl_fr hJ (Or.inl (by decide))).trans m3.2.2.symm
    have w := (m4 j (by omega)).2.1
    have ek : J (tc i + 2) j = I 99 (12 * i + j) := (SCl_fr hJ (Or.inr (fun k _ => tc_k (by omega)))).trans w
    obtain ⟨v, hv, ev, bv⟩ := hJ.2 i hi
    have k1 : Run PG (Call PG (d + 2)) 51 48 [(2, 9), (0, p), (0, day), (0, (i : Int)), (2, ((tc i : Nat) : Int)), (0, (j : Int))] [] (J, RF sp rt tt z.1, z) (0, 0) = ci (I 99 (12 * i + j) = 120) (bd (Call PG (d + 2) 52 [(2, ((tc i : Nat) : Int)), (0, (j : Int))] (J, RF sp rt tt z.1, z)) (fun v h => Run PG (Call PG (d + 2)) 51 88 [(2, 9), (0, p), (0, day), (0, (i : Int)), (2, ((tc i : Nat) : Int)), (0, (j : Int))] (v.toList ++ []) h (0, 0))) (Run PG (Call PG (d + 2)) 51 98 [(2, 9), (0, p), (0, day), (0, (i : Int)), (2, ((tc i : Nat) : Int)), (0, (j : Int))] [] (J, RF sp rt tt z.1, z) (0, 0)) := by
      refine (T_51_48 ..).trans (ite_t l1 ?_)
      rw [e5]
      refine ci_t (by omega) (ite_t (decide_eq_true l1) (bd_t (S_49 l1) ?_))
      rw [e0, e1, e2]
      refine (T_51_65 ..).trans ?_
      rw [bz_t hf, show ((j : Int)).toNat = j by omega]
      refine ci_f (by decide) (ite_t l1 (nn_t (tx_a (R := I) t2).1 (ite_t (tx_a (R := I) t2).2.1 (ci_t (tx_m (tx_a (R := I) t2).2.2 (by omega)) ?_))))
      rw [ek]
      by_cases q : I 99 (12 * i + j) = 120
      · exact ci_t q ((ite_t (decide_eq_true l1) rfl).trans (ci_t q rfl).symm)
      · exact ci_f q (ci_f q rfl).symm
    have k98 : ∀ K : Nat → Nat → Int, Run PG (Call PG (d + 2)) 51 98 [(2, 9), (0, p), (0, day), (0, (i : Int)), (2, ((tc i : Nat) : Int)), (0, (j : Int))] [] (K, RF sp rt tt z.1, z) (0, 0) = Run PG (Call PG (d + 2)) 51 48 [(2, 9), (0, p), (0, day), (0, (i : Int)), (2, ((tc i : Nat) : Int)), (0, ((j + 1 : Nat) : Int))] [] (K, RF sp rt tt z.1, z) (0, 0) := fun K => by
      refine (T_51_98 ..).trans ?_
      rw [w_n (by omega)]
    have nx : sj I i j S = S → ∃ (K : Nat → Nat → Int) (j' : Int), Run PG (Call PG (d + 2)) 51 98 [(2, 9), (0, p), (0, day), (0, (i : Int)), (2, ((tc i : Nat) : Int)), (0, (j : Int))] [] (J, RF sp rt tt z.1, z) (0, 0) = Run PG (Call PG (d + 2)) 51 33 [(2, 9), (0, p), (0, day), (0, (i : Int) - 1), (2, ((tc i : Nat) : Int)), (0, j')] [] (K, RF sp rt tt z.1, z) (0, 0) ∧ SCl I c (sjs I i (u + 1) j S) K := by
      intro hs
      obtain ⟨K, j', e, hK⟩ := ih (j + 1) S J (by omega) hJ
      refine ⟨K, j', (k98 J).trans e, ?_⟩
      show SCl I c (sjs I i u (j + 1) (sj I i j S)) K
      rw [hs]
      exact hK
    by_cases q : I 99 (12 * i + j) = 120
    · have hb := bit32 hv (show j < 12 by omega)
      have s52 := S_52 (d := d + 1) (I := J) (sp := sp) (rt := rt) (tt := tt) (z := z) (t := tc i) (j := (j : Int)) l1
      rw [ev] at s52
      by_cases q2 : S i j = false
      · obtain ⟨K1, e53, hK1⟩ := S_53 (d := d + 1) (sp := sp) (rt := rt) h hJ hi hm0 (by omega) q q2
        obtain ⟨K, j', e, hK⟩ := ih (j + 1) (sj I i j S) K1 (by omega) hK1
        refine ⟨K, j', k1.trans (ci_t q (bd_t s52 ?_)), hK⟩
        rw [bz_f (fun r => r (hb.2 ((bv j (by omega)).trans q2)))]
        refine (T_51_88 ..).trans (ci_t rfl (bd_t e53 ?_))
        exact (k98 K1).trans e
      · have hs : sj I i j S = S := by
          unfold sj
          exact if_neg (fun r => q2 r.2.1)
        obtain ⟨K, j', e, hK⟩ := nx hs
        refine ⟨K, j', k1.trans (ci_t q (bd_t s52 ?_)), hK⟩
        rw [bz_t (show ¬ ia32 (shr32 (v : Int) (j : Int)) 1 = 0 from fun r => q2 ((bv j (by omega)).symm.trans (hb.1 r)))]
        exact (T_51_88 ..).trans (ci_f (by decide) e)
    · have hs : sj I i j S = S := by
        unfold sj
        exact if_neg (fun r => q r.1)
      obtain ⟨K, j', e, hK⟩ := nx hs
      exact ⟨K, j', k1.trans (ci_f q e), hK⟩
theorem L_51b (h : TV I tt z c L) {p day : Int} : ∀ (i : Nat) (S : SB) (J : Nat → Nat → Int) (x4 x5 : AV), dl x4 → dl x5 → i ≤ c → SCl I c S J → ∃ K, Run PG (Call PG (d + 2)) 51 33 [(2, 9), (0, p), (0, day), (0, (i : Int) - 1), x4, x5] [] (J, RF sp rt tt z.1, z) (0, 0) = some (none, (K, RF sp rt tt z.1, z)) ∧ SCl I c (STK I p day i S) K := by
  have hc := h.1
  intro i
  induction i with
  | zero =>
    intro S J x4 x5 h4 h5 hi hJ
    refine ⟨J, ?_, hJ⟩
    exact (T_51_33 _ _ _ _ _ _ _ _ _ _ _ h4 h5).trans (ci_t (by omega) rfl)
  | succ i ih =>
    intro S J x4 x5 h4 h5 hi hJ
    have r11 := rf11 (sp := sp) (rt := rt) h (show i < c by omega)
    have hx := tcL (sp := sp) (rt := rt) h (show i < c by omega)
    have l1 : (LAY (tc i)).1 = 3 := by rw [hx.2.1]
    obtain ⟨m, hm⟩ := h.2.2.2.2 i (by omega)
    have k1 : Run PG (Call PG (d + 2)) 51 33 [(2, 9), (0, p), (0, day), (0, ((i + 1 : Nat) : Int) - 1), x4, x5] [] (J, RF sp rt tt z.1, z) (0, 0) = Run PG (Call PG (d + 2)) 51 48 [(2, 9), (0, p), (0, day), (0, (i : Int)), (2, ((tc i : Nat) : Int)), (0, ((0 : Nat) : Int))] [] (J, RF sp rt tt z.1, z) (0, 0) := by
      refine (T_51_33 _ _ _ _ _ _ _ _ _ _ _ h4 h5).trans ?_
      rw [show ((i + 1 : Nat) : Int) - 1 = (i : Int) by omega, show ((i : Int)).toNat = i by omega]
      exact ci_f (by omega) (ci_t (by omega) (nn_t r11 rfl))
    by_cases hf : forP I p day i
    · obtain ⟨K1, j', e1, hK1⟩ := L_51c (d := d) (sp := sp) (rt := rt) h (show i < c by omega) hm hf m 0 S J (by omega) hJ
      obtain ⟨K, e, hK⟩ := ih (sjs I i m 0 S) K1 (2, ((tc i : Nat) : Int)) (0, j') (dl2 _) (dl0 _) (by omega) hK1
      refine ⟨K, k1.trans (e1.trans e), ?_⟩
      unfold STK
      rw [if_pos hf, show (I 97 i).toNat = m by have := hm.2.1.2; omega]
      exact hK
    · obtain ⟨K, e, hK⟩ := ih S J (2, ((tc i : Nat) : Int)) (0, ((0 : Nat) : Int)) (dl2 _) (dl0 _) (by omega) hJ
      refine ⟨K, k1.trans (Eq.trans ?_ e), ?_⟩
      · obtain ⟨m1, m2, m3, m4⟩ := hm
        have e5 : J (tc i) 5 = (m : Int) := (SCl_fr hJ (Or.inl (by decide))).trans m2.1
        have e0 : J (tc i) 0 = I 94 i := (SCl_fr hJ (Or.inl (by decide))).trans m3.1.symm
        have e1 : J (tc i) 1 = I 95 i := (SCl_fr hJ (Or.inl (by decide))).trans m3.2.1.symm
        have e2 : J (tc i) 2 = I 96 i := (SCl_fr hJ (Or.inl (by decide))).trans m3.2.2.symm
        refine (T_51_48 ..).trans (ite_t l1 ?_)
        rw [e5]
        refine ci_t (by omega) (ite_t (decide_eq_true l1) (bd_t (S_49 l1) ?_))
        rw [e0, e1, e2]
        refine (T_51_65 ..).trans ?_
        rw [bz_f hf, w32_of (by omega) (by omega)]
        exact ci_t rfl rfl
      · unfold STK
        rw [if_neg hf]
        exact hK
theorem S_51 (h : TV I tt z c L) {p day : Int} : ∃ K, Call PG (d + 3) 51 [(2, 9), (0, p), (0, day)] (I, RF sp rt tt z.1, z) = some (none, (K, RF sp rt tt z.1, z)) ∧ SCl I c (STK I p day c (fun _ _ => false)) K := by
  obtain ⟨K1, e1, hK1⟩ := L_51a (d := d) (sp := sp) (rt := rt) h (p := p) (day := day) c 0 I (by omega) (fun _ _ _ => rfl) (fun k hk => absurd hk (Nat.not_lt_zero k))
  obtain ⟨K, e, hK⟩ := L_51b (d := d) (sp := sp) (rt := rt) h (p := p) (day := day) c _ K1 (9, 0) (9, 0) dl9 dl9 (Nat.le_refl _) hK1
  exact ⟨K, (K_51 ..).trans ((T_51_0 ..).trans (e1.trans e)), hK⟩
/-- the second heap with S struck -/
def SRl (I : Nat → Nat → Int) (S : SB) (J : Nat → Nat → Int) : Prop := (∀ a j, ¬ a = 109 → J a j = I a j) ∧ ∀ k, k < 360 → J 109 k = if S (k / 12) (k % 12) = true then 1 else 0
theorem S_244 {i : Nat} (hi : i < 30) (h2 : 0 ≤ I 82 2 ∧ I 82 2 ≤ 5000000) : Call PG (d + 2) 244 [(2, 82), (0, (i : Int))] (I, RF sp rt tt z.1, z) = some (some (0, bz (I 95 i ≤ Int.tdiv (I 82 2) 1440 ∧ Int.tdiv (I 82 2) 1440 ≤ I 96 i)), (I, RF sp rt tt z.1, z)) := by
  have hd : 0 ≤ Int.tdiv (I 82 2) 1440 ∧ Int.tdiv (I 82 2) 1440 ≤ 5000000 := by
    rw [Int.tdiv_eq_ediv_of_nonneg h2.1]
    omega
  refine (K_244 ..).trans ((T_244_0 ..).trans ?_)
  rw [show ((i : Int)).toNat = i by omega, w32_of (by omega) (by omega)]
  refine ci_t (by omega) (ci_t (by omega) (bd_t S_209 ?_))
  refine (T_244_26 ..).trans ?_
  by_cases q : I 95 i ≤ Int.tdiv (I 82 2) 1440 ∧ Int.tdiv (I 82 2) 1440 ≤ I 96 i
  · rw [bz_t q]; exact if_pos (Or.inr rfl)
  · rw [bz_f q]; exact if_pos (Or.inl rfl)
theorem S_243 {i : Nat} (hi : i < 30) (h2 : 0 ≤ I 82 2 ∧ I 82 2 ≤ 5000000) {p : Int} : Call PG (d + 3) 243 [(2, 82), (0, (i : Int)), (0, p)] (I, RF sp rt tt z.1, z) = some (some (0, bz (forP I p (Int.tdiv (I 82 2) 1440) i)), (I, RF sp rt tt z.1, z)) := by
  refine (K_243 ..).trans ((T_243_0 ..).trans (bd_t (S_244 hi h2) ?_))
  refine (T_243_5 ..).trans ?_
  rw [show ((i : Int)).toNat = i by omega]
  by_cases q : I 95 i ≤ Int.tdiv (I 82 2) 1440 ∧ Int.tdiv (I 82 2) 1440 ≤ I 96 i
  · rw [bz_t q]
    refine ci_f (by decide) (ci_t (by omega) ?_)
    by_cases q1 : I 94 i = -1
    · rw [bz_t ⟨Or.inl q1, q⟩]
      exact ci_t q1 rfl
    · refine ci_f q1 (ci_t (by omega) ?_)
      by_cases q2 : I 94 i = p
      · rw [bz_t ⟨Or.inr q2, q⟩]
        exact ci_t q2 rfl
      · rw [bz_f (fun r => r.1.elim q1 q2)]
        exact ci_f q2 rfl
  · rw [bz_f q, bz_f (fun r => q r.2)]
    exact ci_t rfl rfl
theorem forP_e {J : Nat → Nat → Int} {S : SB} (hJ : SRl I S J) {p day : Int} {i : Nat} : forP J p day i ↔ forP I p day i := by
  have e := fun a (q : ¬ a = 109) => hJ.1 a i q
  unfold forP
  rw [e 94 (by decide), e 95 (by decide), e 96 (by decide)]
theorem L_242a {p : Int} : ∀ (u k : Nat) (f : Nat → Int), k + u = 360 → (∀ x, x < k → f x = 0) → ∃ g : Nat → Int, Run PG (Call PG (d + 3)) 242 2 [(2, 82), (0, p), (0, (k : Int)), (9, 0)] [] (pc I 109 f, RF sp rt tt z.1, z) (0, 0) = Run PG (Call PG (d + 3)) 242 29 [(2, 82), (0, p), (0, w32 (I 82 5 - 1)), (9, 0)] [] (pc I 109 g, RF sp rt tt z.1, z) (0, 0) ∧ ∀ x, x < 360 → g x = 0 := by
  intro u
  induction u with
  | zero =>
    intro k f hk hf
    exact ⟨f, (T_242_2 ..).trans (ci_f (by omega) rfl), fun x hx => hf x (by omega)⟩
  | succ u ih =>
    intro k f hk hf
    obtain ⟨g, e, hg⟩ := ih (k + 1) (ud f k 0) (by omega) (fun x hx => by
      unfold ud
      by_cases q : x = k
      · rw [if_pos q]
      · rw [if_neg q]; exact hf x (by omega))
    refine ⟨g, Eq.trans ?_ e, hg⟩
    refine (T_242_2 ..).trans (ci_t (by omega) (ci_t (by omega) ?_))
    rw [show ((k : Int)).toNat = k by omega, up2_pc, w_n (by omega)]
theorem L_242c (h : TV I tt z c L) (h2 : 0 ≤ I 82 2 ∧ I 82 2 ≤ 5000000) {p : Int} {i m : Nat} (hi : i < c) (hm : TXf I L i m) (hf : forP I p (Int.tdiv (I 82 2) 1440) i) : ∀ (u j : Nat) (S : SB) (J : Nat → Nat → Int), j + u = m → SRl I S J → ∃ (K : Nat → Nat → Int) (x : Int), Run PG (Call PG (d + 3)) 242 38 [(2, 82), (0, p), (0, (i : Int)), (0, ((12 * i + j : Nat) : Int))] [] (J, RF sp rt tt z.1, z) (0, 0) = Run PG (Call PG (d + 3)) 242 29 [(2, 82), (0, p), (0, (i : Int) - 1), (0, x)] [] (K, RF sp rt tt z.1, z) (0, 0) ∧ SRl I (sjs I i u j S) K := by
  have hc := h.1
  obtain ⟨m1, m2, m3, m4⟩ := hm
  intro u
  induction u with
  | zero =>
    intro j S J hj hJ
    have e97 : J 97 i = (m : Int) := (hJ.1 97 i (by decide)).trans m2.2
    refine ⟨J, ((12 * i + j : Nat) : Int), ?_, hJ⟩
    refine (T_242_38 ..).trans (ci_t (by omega) ?_)
    rw [show ((i : Int)).toNat = i by omega, e97, w32_of (x := 12 * (i : Int)) (by omega) (by omega), w32_of (x := 12 * (i : Int) + m) (by omega) (by omega), w32_of (x := (i : Int) + -1) (by omega) (by omega)]
    exact ci_f (by omega) rfl
  | succ u ih =>
    intro j S J hj hJ
    have e97 : J 97 i = (m : Int) := (hJ.1 97 i (by decide)).trans m2.2
    have e2 : J 82 2 = I 82 2 := hJ.1 82 2 (by decide)
    obtain ⟨w1, w2, w3, w4, w5, w6⟩ := m4 j (by omega)
    have hS : J 109 (12 * i + j) = if S i j = true then 1 else 0 := by
      have := hJ.2 (12 * i + j) (by omega)
      rwa [show (12 * i + j) / 12 = i by omega, show (12 * i + j) % 12 = j by omega] at this
    have nx : ∀ (S' : SB) (J' : Nat → Nat → Int), sj I i j S = S' → SRl I S' J' → ∃ (K : Nat → Nat → Int) (x : Int), Run PG (Call PG (d + 3)) 242 38 [(2, 82), (0, p), (0, (i : Int)), (0, w32 (((12 * i + j : Nat) : Int) + 1))] [] (J', RF sp rt tt z.1, z) (0, 0) = Run PG (Call PG (d + 3)) 242 29 [(2, 82), (0, p), (0, (i : Int) - 1), (0, x)] [] (K, RF sp rt tt z.1, z) (0, 0) ∧ SRl I (sjs I i (u + 1) j S) K := by
      intro S' J' hs hJ'
      obtain ⟨K, x, e, hK⟩ := ih (j + 1) S' J' (by omega) hJ'
      refine ⟨K, x, ?_, ?_⟩
      · rw [w_n (by omega)]
        exact e
      · show SRl I (sjs I i u (j + 1) (sj I i j S)) K
        rw [hs]
        exact hK
    have k1 : Run PG (Call PG (d + 3)) 242 38 [(2, 82), (0, p), (0, (i : Int)), (0, ((12 * i + j : Nat) : Int))] [] (J, RF sp rt tt z.1, z) (0, 0) = Run PG (Call PG (d + 3)) 242 59 [(2, 82), (0, p), (0, (i : Int)), (0, ((12 * i + j : Nat) : Int))] [(0, 1)] (J, RF sp rt tt z.1, z) (0, 0) := by
      refine (T_242_38 ..).trans (ci_t (by omega) ?_)
      rw [show ((i : Int)).toNat = i by omega, e97, w32_of (x := 12 * (i : Int)) (by omega) (by omega), w32_of (x := 12 * (i : Int) + m) (by omega) (by omega)]
      refine ci_t (by omega) (bd_t (S_243 (by omega) (by rw [e2]; exact h2)) ?_)
      rw [e2, bz_t ((forP_e hJ).2 hf)]
      rfl
    have ea : ∀ a, ¬ a = 109 → J a (12 * i + j) = I a (12 * i + j) := fun a q => hJ.1 a _ q
    have e94 : J 94 i = I 94 i := hJ.1 94 i (by decide)
    by_cases q1 : S i j = false
    · have h0 : J 109 (12 * i + j) = 0 := by rw [hS, q1]; rfl
      by_cases q2 : I 99 (12 * i + j) = 120
      · obtain ⟨y1, y2, y3, y4⟩ := w4 q2
        obtain ⟨lo, hlo⟩ := Int.eq_ofNat_of_zero_le y2.1
        obtain ⟨cl, hcl⟩ := Int.eq_ofNat_of_zero_le y4.1
        by_cases q3 : lo < i
        · have fin : ∀ (S' : SB), S' = (fun a k => if a = lo ∧ k = cl then true else S a k) → SRl I S' (up2 J 109 (12 * lo + cl) 1) := by
            intro S' hs'
            subst hs'
            refine ⟨fun a b q => (up2_ne q).trans (hJ.1 a b q), fun k hk => ?_⟩
            by_cases q : k = 12 * lo + cl
            · subst q
              rw [up2_eq, show (12 * lo + cl) / 12 = lo by omega, show (12 * lo + cl) % 12 = cl by omega]
              exact (if_pos (if_pos ⟨rfl, rfl⟩)).symm
            · rw [up2_nj q, hJ.2 k hk]
              have e : (if k / 12 = lo ∧ k % 12 = cl then true else S (k / 12) (k % 12)) = S (k / 12) (k % 12) := if_neg (by omega)
              by_cases b : S (k / 12) (k % 12) = true
              · rw [if_pos b]
                exact (if_pos (e.trans b)).symm
              · rw [if_neg b]
                exact (if_neg (fun r => b (e.symm.trans r))).symm
          have hsj : sj I i j S = if (I 94 i = -1 ∨ I 94 lo = I 94 i) then (fun a k => if a = lo ∧ k = cl then true else S a k) else S := by
            unfold sj
            rw [hlo, hcl]
            by_cases q : I 94 i = -1 ∨ I 94 lo = I 94 i
            · rw [if_pos q, if_pos ⟨q2, q1, by show (lo : Int) < i; omega, q⟩]
              rfl
            · rw [if_neg q, if_neg (fun r => q r.2.2.2)]
          have ew : ∀ _ : Unit, w32 (w32 (12 * (lo : Int)) + (cl : Int)) = ((12 * lo + cl : Nat) : Int) := fun _ => by
            rw [w32_of (x := 12 * (lo : Int)) (by omega) (by omega), w32_of (by omega) (by omega)]
            omega
          have start : ∀ X, Run PG (Call PG (d + 3)) 242 59 [(2, 82), (0, p), (0, (i : Int)), (0, ((12 * i + j : Nat) : Int))] [(0, 1)] (J, RF sp rt tt z.1, z) (0, 0) = X → Run PG (Call PG (d + 3)) 242 38 [(2, 82), (0, p), (0, (i : Int)), (0, ((12 * i + j : Nat) : Int))] [] (J, RF sp rt tt z.1, z) (0, 0) = X := fun X e => k1.trans e
          by_cases q4 : I 94 i = -1
          · obtain ⟨K, x, e, hK⟩ := nx _ _ (hsj.trans (if_pos (Or.inl q4))) (fin _ rfl)
            refine ⟨K, x, start _ (Eq.trans ?_ e), hK⟩
            refine (T_242_59 ..).trans ?_
            rw [show (((12 * i + j : Nat) : Int)).toNat = 12 * i + j by omega, show ((i : Int)).toNat = i by omega, ea 99 (by decide), ea 100 (by decide), ea 101 (by decide), h0, e94, hlo, hcl, ew (), show (((12 * lo + cl : Nat) : Int)).toNat = 12 * lo + cl by omega]
            exact ci_f (by decide) (ci_t (by omega) (ci_t rfl (ci_t (by omega) (ci_t q2 (ci_t (by omega) (ci_t (by omega) (ci_t (by omega) (ci_t q4 (ci_t (by omega) (ci_t (by omega) (ci_t (by omega) rfl)))))))))))
          · have e94l : J 94 (((lo : Nat) : Int)).toNat = I 94 lo := hJ.1 94 lo (by decide)
            by_cases q5 : I 94 lo = I 94 i
            · obtain ⟨K, x, e, hK⟩ := nx _ _ (hsj.trans (if_pos (Or.inr q5))) (fin _ rfl)
              refine ⟨K, x, start _ (Eq.trans ?_ e), hK⟩
              refine (T_242_59 ..).trans ?_
              rw [show (((12 * i + j : Nat) : Int)).toNat = 12 * i + j by omega, show ((i : Int)).toNat = i by omega, ea 99 (by decide), ea 100 (by decide), ea 101 (by decide), h0, e94, hlo, hcl, ew (), show (((12 * lo + cl : Nat) : Int)).toNat = 12 * lo + cl by omega]
              refine ci_f (by decide) (ci_t (by omega) (ci_t rfl (ci_t (by omega) (ci_t q2 (ci_t (by omega) (ci_t (show ((lo : Nat) : Int) < (i : Int) by omega) (ci_t (by omega) (ci_f q4 (ci_t (by omega) (ci_t (show 0 ≤ ((lo : Nat) : Int) ∧ ((lo : Nat) : Int) < 30 by omega) (ci_t (by omega) (ci_t (e94l.trans q5) ?_))))))))))))
              exact ci_t (by omega) (ci_t (by omega) (ci_t (by omega) rfl))
            · obtain ⟨K, x, e, hK⟩ := nx _ _ (hsj.trans (if_neg (fun r => r.elim q4 q5))) hJ
              refine ⟨K, x, start _ (Eq.trans ?_ e), hK⟩
              refine (T_242_59 ..).trans ?_
              rw [show (((12 * i + j : Nat) : Int)).toNat = 12 * i + j by omega, show ((i : Int)).toNat = i by omega, ea 99 (by decide), ea 100 (by decide), ea 101 (by decide), h0, e94, hlo, hcl, ew (), show (((12 * lo + cl : Nat) : Int)).toNat = 12 * lo + cl by omega]
              exact ci_f (by decide) (ci_t (by omega) (ci_t rfl (ci_t (by omega) (ci_t q2 (ci_t (by omega) (ci_t (show ((lo : Nat) : Int) < (i : Int) by omega) (ci_t (by omega) (ci_f q4 (ci_t (by omega) (ci_t (show 0 ≤ ((lo : Nat) : Int) ∧ ((lo : Nat) : Int) < 30 by omega) (ci_t (by omega) (ci_f (fun r => q5 (e94l.symm.trans r)) rfl))))))))))))
        · have hs : sj I i j S = S := by
            unfold sj
            exact if_neg (fun r => by have := r.2.2.1; rw [hlo] at this; omega)
          obtain ⟨K, x, e, hK⟩ := nx _ _ hs hJ
          refine ⟨K, x, k1.trans (Eq.trans ?_ e), hK⟩
          refine (T_242_59 ..).trans ?_
          rw [show (((12 * i + j : Nat) : Int)).toNat = 12 * i + j by omega, ea 99 (by decide), ea 100 (by decide), h0, hlo]
          exact ci_f (by decide) (ci_t (by omega) (ci_t rfl (ci_t (by omega) (ci_t q2 (ci_t (by omega) (ci_f (show ¬ ((lo : Nat) : Int) < (i : Int) by omega) rfl))))))
      · have hs : sj I i j S = S := by
          unfold sj
          exact if_neg (fun r => q2 r.1)
        obtain ⟨K, x, e, hK⟩ := nx _ _ hs hJ
        refine ⟨K, x, k1.trans (Eq.trans ?_ e), hK⟩
        refine (T_242_59 ..).trans ?_
        rw [show (((12 * i + j : Nat) : Int)).toNat = 12 * i + j by omega, ea 99 (by decide), h0]
        exact ci_f (by decide) (ci_t (by omega) (ci_t rfl (ci_t (by omega) (ci_f q2 rfl))))
    · have h0 : J 109 (12 * i + j) = 1 := by rw [hS, if_pos (by simpa using q1)]
      have hs : sj I i j S = S := by
        unfold sj
        exact if_neg (fun r => q1 r.2.1)
      obtain ⟨K, x, e, hK⟩ := nx _ _ hs hJ
      refine ⟨K, x, k1.trans (Eq.trans ?_ e), hK⟩
      refine (T_242_59 ..).trans ?_
      rw [show (((12 * i + j : Nat) : Int)).toNat = 12 * i + j by omega, h0]
      exact ci_f (by decide) (ci_t (by omega) (ci_f (by decide) rfl))
theorem L_242b (h : TV I tt z c L) (h2 : 0 ≤ I 82 2 ∧ I 82 2 ≤ 5000000) {p : Int} : ∀ (i : Nat) (S : SB) (J : Nat → Nat → Int) (x3 : AV), dl x3 → i ≤ c → SRl I S J → ∃ K, Run PG (Call PG (d + 3)) 242 29 [(2, 82), (0, p), (0, (i : Int) - 1), x3] [] (J, RF sp rt tt z.1, z) (0, 0) = some (none, (K, RF sp rt tt z.1, z)) ∧ SRl I (STK I p (Int.tdiv (I 82 2) 1440) i S) K := by
  have hc := h.1
  intro i
  induction i with
  | zero =>
    intro S J x3 h3 hi hJ
    exact ⟨J, (T_242_29 _ _ _ _ _ _ _ _ _ h3).trans (ci_t (by omega) rfl), hJ⟩
  | succ i ih =>
    intro S J x3 h3 hi hJ
    obtain ⟨m, hm⟩ := h.2.2.2.2 i (by omega)
    have k1 : Run PG (Call PG (d + 3)) 242 29 [(2, 82), (0, p), (0, ((i + 1 : Nat) : Int) - 1), x3] [] (J, RF sp rt tt z.1, z) (0, 0) = Run PG (Call PG (d + 3)) 242 38 [(2, 82), (0, p), (0, (i : Int)), (0, ((12 * i + 0 : Nat) : Int))] [] (J, RF sp rt tt z.1, z) (0, 0) := by
      refine (T_242_29 _ _ _ _ _ _ _ _ _ h3).trans ?_
      rw [show ((i + 1 : Nat) : Int) - 1 = (i : Int) by omega, w32_of (x := 12 * (i : Int)) (by omega) (by omega), show 12 * (i : Int) = ((12 * i + 0 : Nat) : Int) by omega]
      exact ci_f (by omega) rfl
    by_cases hf : forP I p (Int.tdiv (I 82 2) 1440) i
    · obtain ⟨K1, x, e1, hK1⟩ := L_242c (d := d) (sp := sp) (rt := rt) h h2 (show i < c by omega) hm hf m 0 S J (by omega) hJ
      obtain ⟨K, e, hK⟩ := ih (sjs I i m 0 S) K1 (0, x) (dl0 _) (by omega) hK1
      refine ⟨K, k1.trans (e1.trans e), ?_⟩
      unfold STK
      rw [if_pos hf, show (I 97 i).toNat = m by have := hm.2.1.2; omega]
      exact hK
    · obtain ⟨K, e, hK⟩ := ih S J (0, ((12 * i + 0 : Nat) : Int)) (dl0 _) (by omega) hJ
      refine ⟨K, k1.trans (Eq.trans ?_ e), ?_⟩
      · obtain ⟨m1, m2, m3, m4⟩ := hm
        have e97 : J 97 i = (m : Int) := (hJ.1 97 i (by decide)).trans m2.2
        have e2 : J 82 2 = I 82 2 := hJ.1 82 2 (by decide)
        refine (T_242_38 ..).trans (ci_t (by omega) ?_)
        rw [show ((i : Int)).toNat = i by omega, e97, w32_of (x := 12 * (i : Int)) (by omega) (by omega), w32_of (x := 12 * (i : Int) + m) (by omega) (by omega)]
        refine ci_t (by omega) (bd_t (S_243 (by omega) (by rw [e2]; exact h2)) ?_)
        rw [e2, bz_f (fun r => hf ((forP_e hJ).1 r))]
        refine (T_242_59 ..).trans ?_
        rw [w32_of (by omega) (by omega)]
        exact ci_t rfl rfl
      · unfold STK
        rw [if_neg hf]
        exact hK
theorem S_242 (h : TV I tt z c L) (h2 : 0 ≤ I 82 2 ∧ I 82 2 ≤ 5000000) {p : Int} : ∃ K, Call PG (d + 4) 242 [(2, 82), (0, p)] (I, RF sp rt tt z.1, z) = some (none, (K, RF sp rt tt z.1, z)) ∧ SRl I (STK I p (Int.tdiv (I 82 2) 1440) c (fun _ _ => false)) K := by
  have hc := h.1
  obtain ⟨g, e1, hg⟩ := L_242a (d := d) (I := I) (sp := sp) (rt := rt) (tt := tt) (z := z) (p := p) 360 0 (I 109) (by omega) (fun x hx => absurd hx (Nat.not_lt_zero x))
  rw [pc_self, h.2.1.2, w32_of (by omega) (by omega)] at e1
  have hJ : SRl I (fun _ _ => false) (pc I 109 g) := ⟨fun a j q => pc_ne q, fun k hk => by rw [pc_at, hg k hk]; rfl⟩
  obtain ⟨K, e, hK⟩ := L_242b (d := d) (sp := sp) (rt := rt) h h2 (p := p) c _ _ (9, 0) dl9 (Nat.le_refl _) hJ
  exact ⟨K, (K_242 ..).trans ((T_242_0 ..).trans (e1.trans e)), hK⟩
end SK0

