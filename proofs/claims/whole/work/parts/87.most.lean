/-! most: the class's search and the reference's -/
theorem ian_n {x y : Nat} (hx : x < 2147483648) (hy : y < 2147483648) : ia32 (x : Int) (ix32 (y : Int) (-1)) = ((x ^^^ (x &&& y) : Nat) : Int) := by
  have e : ia32 (x : Int) (ix32 (y : Int) (-1)) = (BitVec.ofInt 32 (x : Int) &&& BitVec.ofInt 32 (BitVec.ofInt 32 (y : Int) ^^^ BitVec.ofInt 32 (-1)).toInt).toInt := rfl
  rw [e, BitVec.ofInt_toInt, BitVec.ofInt_natCast, BitVec.ofInt_natCast]
  have h : (BitVec.ofNat 32 x &&& (BitVec.ofNat 32 y ^^^ BitVec.ofInt 32 (-1))).toNat = x ^^^ (x &&& y) := by
    rw [BitVec.toNat_and, BitVec.toNat_xor, BitVec.toNat_ofNat, BitVec.toNat_ofNat, Nat.mod_eq_of_lt (by omega), Nat.mod_eq_of_lt (by omega), show (BitVec.ofInt 32 (-1)).toNat = 2 ^ 32 - 1 from rfl]
    refine Nat.eq_of_testBit_eq fun i => ?_
    rw [Nat.testBit_and, Nat.testBit_xor, Nat.testBit_xor, Nat.testBit_and, Nat.testBit_two_pow_sub_one]
    by_cases c : i < 32
    · rw [decide_eq_true c]
      cases x.testBit i <;> cases y.testBit i <;> rfl
    · rw [Nat.testBit_lt_two_pow (x := x) (i := i) (Nat.lt_of_lt_of_le (show x < 2 ^ 32 by omega) (Nat.pow_le_pow_right (by omega) (by omega)))]
      rfl
  have h2 : x ^^^ (x &&& y) < 2 ^ 31 := Nat.xor_lt_two_pow (by omega) (Nat.lt_of_le_of_lt Nat.and_le_left (by omega))
  rw [BitVec.toInt_eq_toNat_of_lt (by omega), h]
theorem itr_keep {α : Type} {F : Nat → α → α} {s : α} : ∀ {m : Nat}, (∀ i, i < m → F i s = s) → itr F m s = s
  | 0, _ => rfl
  | m + 1, h => by
    show F m (itr F m s) = s
    rw [itr_keep (fun i hi => h i (by omega)), h m (by omega)]
theorem itr_inv {α : Type} {P : α → Prop} {F : Nat → α → α} {s : α} (h0 : P s) : ∀ {m : Nat}, (∀ i a, i < m → P a → P (F i a)) → P (itr F m s)
  | 0, _ => h0
  | m + 1, h => h m _ (by omega) (itr_inv h0 (fun i a hi ha => h i a (by omega) ha))
def GRD (r : Nat → Int) (n k C b : Nat) : Nat := itr (fun (t : Nat) (b : Nat) => if popN b < popN (C + t) ∧ frst (bad r ((C + t : Nat) : Int)) n 0 = -1 then C + t else b) (2 ^ k) b
theorem GRD_s {r : Nat → Int} {n k C b : Nat} : GRD r n (k + 1) C b = GRD r n k (C + 2 ^ k) (GRD r n k C b) := by
  unfold GRD
  rw [Nat.pow_succ, Nat.mul_two, itr_add]
  exact itr_congr (fun t b _ => by rw [Nat.add_assoc])
theorem GRD_keep {r : Nat → Int} {n k C b : Nat} (h : ∀ t, t < 2 ^ k → popN b < popN (C + t) → ¬ frst (bad r ((C + t : Nat) : Int)) n 0 = -1) : GRD r n k C b = b :=
  itr_keep (fun t ht => if_neg (fun q => h t ht q.1 q.2))
theorem GRD_lt {r : Nat → Int} {n k C b : Nat} (hb : b < 65536) (hC : C + 2 ^ k ≤ 65536) : GRD r n k C b < 65536 :=
  itr_inv (P := fun (x : Nat) => x < 65536) hb (fun t a ht ha => by
    have e1 : C + t < 65536 := by omega
    show (if _ then C + t else a) < 65536
    split
    · exact e1
    · exact ha)
theorem bit_C {k e j : Nat} : (2 ^ k * e).testBit j = true ↔ k ≤ j ∧ e.testBit (j - k) = true := by
  rw [Nat.testBit_two_pow_mul, Bool.and_eq_true, decide_eq_true_iff]
theorem bit_Ct {k e t j : Nat} (ht : t < 2 ^ k) : (2 ^ k * e + t).testBit j = true ↔ (j < k ∧ t.testBit j = true) ∨ (2 ^ k * e).testBit j = true := by
  rw [Nat.testBit_two_pow_mul_add e ht, bit_C]
  by_cases c : j < k
  · rw [if_pos c]
    constructor
    · intro h; exact Or.inl ⟨c, h⟩
    · rintro (h | h)
      · exact h.2
      · omega
  · rw [if_neg c]
    constructor
    · intro h; exact Or.inr ⟨by omega, h⟩
    · rintro (h | h)
      · omega
      · exact h.2
section MO
variable {d : Nat} {I : Nat → Nat → Int} {sp rt : Nat} {tt : Nat → Nat} {z : Zs}
theorem S_204 {c : Nat → Nat → Prop} [∀ i, DecidablePred (c i)] {n : Nat} {r : Nat → Int} (hn : n ≤ 16) (hR : ∀ i, i < n → I 81 i = r i) (hr : ∀ i, i < n → r i = ((rowN (c i) n : Nat) : Int)) (hs : ∀ i j, i < n → j < n → c i j → c j i) (h0 : ∀ i, i < n → ¬ c i i) :
    ∀ (k d C e F b : Nat), k ≤ n → C = 2 ^ k * e → C + 2 ^ k ≤ 2 ^ n → (∀ i, F.testBit i = true ↔ i < k ∧ ∀ j, j < n → C.testBit j = true → ¬ c j i) → IND c n C → b < 65536 →
      Call PG (k + d + 2) 204 [(0, (k : Int)), (0, (C : Int)), (0, (F : Int)), (0, (b : Int)), (2, 81)] (I, RF sp rt tt z.1, z) = some (some (0, (GRD r n k C b : Int)), (I, RF sp rt tt z.1, z)) := by
  have l2 := p16 hn
  intro k
  induction k with
  | zero =>
    intro d C e F b hk hC hlt hF hI hb
    have hF0 : F = 0 := Nat.eq_of_testBit_eq fun i => by
      rw [Nat.zero_testBit, ← Bool.not_eq_true, hF]; omega
    have pF : popN F = 0 := by rw [hF0]; rfl
    have p1 : (2 : Nat) ^ 0 = 1 := rfl
    refine (K_204 ..).trans ((T_204_0 ..).trans (bd_t (S_343 (by omega)) ((T_204_4 ..).trans (bd_t (S_343 (by omega)) ((T_204_8 ..).trans (bd_t (S_343 hb) ?_))))))
    have pC : popN C ≤ 16 := by unfold popN; omega
    refine (T_204_13 ..).trans ?_
    rw [pF, w32_of (by omega) (by omega)]
    have eF : GRD r n 0 C b = if popN b < popN C ∧ frst (bad r (C : Int)) n 0 = -1 then C else b := rfl
    rw [eF]
    by_cases c1 : popN C ≤ popN b
    · refine ci_t (by omega) ?_
      rw [if_neg (fun q => by omega)]
    · refine ci_f (by omega) ?_
      refine ci_t (by omega) ?_
      rw [if_pos ⟨by omega, (ind_n hn hr (by omega)).mpr hI⟩]
  | succ k ih =>
    intro d C e F b hk hC hlt hF hI hb
    have hp2 : (2 : Nat) ^ (k + 1) = 2 ^ k + 2 ^ k := by rw [Nat.pow_succ, Nat.mul_two]
    have hpos : 0 < (2 : Nat) ^ k := Nat.two_pow_pos k
    have hlt2 : C + 2 ^ k + 2 ^ k ≤ 2 ^ n := by omega
    have hCl : C < 65536 := by omega
    have hCp : C + 2 ^ k < 65536 := by omega
    have hCq : C + 2 ^ k + 2 ^ k ≤ 65536 := by omega
    have hC2 : C = 2 ^ k * (2 * e) := by rw [hC, Nat.pow_succ, Nat.mul_assoc]
    have hC3 : C + 2 ^ k = 2 ^ k * (2 * e + 1) := by rw [Nat.mul_add, Nat.mul_one, ← hC2]
    have hFl : F < 65536 := by
      refine Nat.lt_of_lt_of_le (Nat.lt_pow_two_of_testBit (n := k + 1) F (fun i hi => ?_)) (p16 (by omega))
      rw [← Bool.not_eq_true, hF]; omega
    have pC : popN C ≤ 16 := by unfold popN; omega
    have pF : popN F ≤ 16 := by unfold popN; omega
    have hk16 : 0 ≤ (k : Int) ∧ (k : Int) < 16 := by omega
    have pk : (2 : Nat) ^ k ≤ 65536 := p16 (by omega)
    refine (K_204 ..).trans ((T_204_0 ..).trans (bd_t (S_343 hCl) ((T_204_4 ..).trans (bd_t (S_343 hFl) ((T_204_8 ..).trans (bd_t (S_343 hb) ?_))))))
    refine (T_204_13 ..).trans ?_
    rw [show w32 (((k + 1 : Nat) : Int) - 1) = (k : Int) by rw [w32_of (by omega) (by omega)]; omega, shl_n (by omega), w32_of (x := (popN C : Int) + popN F) (by omega) (by omega)]
    by_cases c1 : (popN C : Int) + popN F ≤ popN b
    · refine ci_t c1 ?_
      rw [GRD_keep (fun t ht q1 q2 => ?_)]
      have q3 := (ind_n hn hr (by omega)).mp q2
      have q4 : popN (C + t) ≤ popN C + popN F := pop_le (fun i hi q => by
        rw [hC, bit_Ct ht] at q
        rcases q with ⟨u1, u2⟩ | u
        · refine Or.inr ((hF i).mpr ⟨u1, fun j hj hjC => ?_⟩)
          refine q3 j i hj (by omega) ?_ ?_
          · rw [hC, bit_Ct ht, ← hC]; exact Or.inr hjC
          · rw [hC, bit_Ct ht]; exact Or.inl ⟨u1, u2⟩
        · rw [← hC] at u; exact Or.inl u)
      omega
    · refine ci_f c1 ?_
      refine ci_f (by omega) ?_
      refine ci_t (by omega) ?_
      have hand : ia32 (F : Int) ((2 ^ k : Nat) : Int) = ((F &&& 2 ^ k : Nat) : Int) := ia_n (by omega) (by omega)
      have hor : C ||| 2 ^ k = C + 2 ^ k := by rw [hC]; exact (Nat.two_pow_add_eq_or_of_lt (by omega) e).symm
      have bC : ∀ j, (C + 2 ^ k).testBit j = true ↔ C.testBit j = true ∨ k = j := fun j => by
        rw [← hor, Nat.testBit_or, Bool.or_eq_true, Nat.testBit_two_pow, decide_eq_true_iff]
      rw [GRD_s]
      by_cases c2 : F.testBit k = true
      · have hand2 : ¬ F &&& 2 ^ k = 0 := and_n.mpr ⟨k, c2, by rw [Nat.testBit_two_pow]; exact decide_eq_true rfl⟩
        refine ci_f (by rw [hand]; omega) ?_
        rw [ian_n (by omega) (by omega)]
        have bF1 : ∀ i, (F ^^^ (F &&& 2 ^ k)).testBit i = true ↔ i < k ∧ ∀ j, j < n → C.testBit j = true → ¬ c j i := fun i => by
          rw [Nat.testBit_xor, Nat.testBit_and, Nat.testBit_two_pow]
          by_cases e : k = i
          · rw [decide_eq_true e]
            constructor
            · intro h
              exfalso
              revert h
              cases F.testBit i <;> decide
            · intro h; omega
          · rw [decide_eq_false e, Bool.and_false, Bool.xor_false, hF]
            constructor
            · intro h; exact ⟨by omega, h.2⟩
            · intro h; exact ⟨by omega, h.2⟩
        have hF1 : F ^^^ (F &&& 2 ^ k) < 65536 := by
          refine Nat.lt_of_lt_of_le (Nat.lt_pow_two_of_testBit (n := k) _ (fun i hi => ?_)) pk
          rw [← Bool.not_eq_true, bF1]; omega
        have r1 := ih (d := d) C (2 * e) (F ^^^ (F &&& 2 ^ k)) b (by omega) hC2 (by omega) bF1 hI hb
        rw [show k + d + 2 = k + 1 + d + 1 by omega] at r1
        refine bd_t r1 ((T_204_73 ..).trans ?_)
        rw [show w32 (((k + 1 : Nat) : Int) - 1) = (k : Int) by rw [w32_of (by omega) (by omega)]; omega]
        refine ci_t hk16 ?_
        have hrow := rowN_lt (c := c k) n
        rw [Int.toNat_natCast, hR k (by omega), hr k (by omega), ian_n (by omega) (by omega), ian_n (by omega) (by omega), io_n (by omega) (by omega)]
        have ck := ((hF k).mp c2).2
        rw [hor]
        have r2 := ih (d := d) (C + 2 ^ k) (2 * e + 1) ((F ^^^ (F &&& 2 ^ k)) ^^^ ((F ^^^ (F &&& 2 ^ k)) &&& rowN (c k) n)) (GRD r n k C b) (by omega) hC3 (by omega) (fun i => by
          rw [Nat.testBit_xor, Nat.testBit_and]
          have e1 := bF1 i
          have e2 := rowN_bit (c := c k) (j := i) n
          constructor
          · intro h
            cases u1 : (F ^^^ (F &&& 2 ^ k)).testBit i with
            | false => rw [u1] at h; exact absurd h (by cases (rowN (c k) n).testBit i <;> decide)
            | true =>
              cases u2 : (rowN (c k) n).testBit i with
              | true => rw [u1, u2] at h; exact absurd h (by decide)
              | false =>
                have w := e1.mp u1
                refine ⟨w.1, fun j hj hj2 => ?_⟩
                rcases (bC j).mp hj2 with q | q
                · exact w.2 j hj q
                · subst q
                  intro q
                  rw [e2.mpr ⟨by omega, q⟩] at u2
                  exact absurd u2 (by decide)
          · rintro ⟨w1, w2⟩
            rw [e1.mpr ⟨w1, fun j hj q => w2 j hj ((bC j).mpr (Or.inl q))⟩]
            cases u2 : (rowN (c k) n).testBit i with
            | true => exact absurd (e2.mp u2).2 (w2 k (by omega) ((bC k).mpr (Or.inr rfl)))
            | false => rfl) (fun i j hi hj q1 q2 => by
          rcases (bC i).mp q1 with u1 | u1
          · rcases (bC j).mp q2 with u2 | u2
            · exact hI i j hi hj u1 u2
            · subst u2; exact ck i hi u1
          · subst u1
            rcases (bC j).mp q2 with u2 | u2
            · exact fun q => ck j hj u2 (hs _ _ hi hj q)
            · subst u2; exact h0 _ hi) (GRD_lt hb (by omega))
        rw [show k + d + 2 = k + 1 + d + 1 by omega] at r2
        exact bd_t r2 (T_204_104 ..)
      · have hand2 : F &&& 2 ^ k = 0 := Classical.byContradiction fun q => by
          obtain ⟨j, q1, q2⟩ := and_n.mp q
          rw [Nat.testBit_two_pow, decide_eq_true_iff] at q2
          exact c2 (by rw [q2]; exact q1)
        refine ci_t (by rw [hand, hand2]; rfl) ?_
        have r1 := ih (d := d) C (2 * e) F b (by omega) hC2 (by omega) (fun i => by
          rw [hF]
          constructor
          · intro h
            refine ⟨?_, h.2⟩
            have : ¬ i = k := fun q => c2 (by rw [← q]; exact (hF i).mpr h)
            omega
          · intro h; exact ⟨by omega, h.2⟩) hI hb
        rw [show k + d + 2 = k + 1 + d + 1 by omega] at r1
        refine bd_t r1 ((T_204_56 ..).trans (eqv ?_))
        have hex : ∃ j, j < n ∧ C.testBit j = true ∧ c j k := by
          refine Classical.byContradiction fun q => c2 ((hF k).mpr ⟨by omega, fun j hj hjC w => q ⟨j, hj, hjC, w⟩⟩)
        obtain ⟨j, hj, hjC, hjk⟩ := hex
        rw [GRD_keep (b := GRD r n k C b) (fun t ht _ q => ?_)]
        have q3 := (ind_n hn hr (by omega)).mp q
        refine q3 j k hj (by omega) ?_ ?_ hjk
        · rw [hC3, bit_Ct ht, ← hC3, bC]
          exact Or.inr (Or.inl hjC)
        · rw [hC3, bit_Ct ht, ← hC3, bC]
          exact Or.inr (Or.inr rfl)
end MO

