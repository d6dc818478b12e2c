/-! texts: the reader's small methods -/
/-- the heap while it reads: T the text's cell; where, value, fault, how long the code is, letters, code -/
def HC (T : Nat) (I : Nat → Nat → Int) (p : Nat) (va fc : Int) (cl : Nat) (le : Int) (co : Nat → Int) : Nat → Nat → Int := fun a j =>
  if a = 22 ∧ j = 1 then (p : Int) else if a = 22 ∧ j = 2 then va else if a = 22 ∧ j = 3 then fc else if a = T ∧ j = 15 then (cl : Int) else if a = T ∧ j = 16 then le else if a = T + 9 then co j else I a j
/-- where a text's parts lie -/
def TX (T : Nat) (R : Nat → Nat → Int) : Prop :=
  (¬ T = 22 ∧ ¬ T + 1 = 22 ∧ ¬ T + 2 = 22 ∧ ¬ T + 3 = 22 ∧ ¬ T + 4 = 22 ∧ ¬ T + 5 = 22 ∧ ¬ T + 6 = 22 ∧ ¬ T + 7 = 22 ∧ ¬ T + 8 = 22 ∧ ¬ T + 9 = 22) ∧
  LAY T = (3, 17) ∧
  (R T 4 = ((T + 1 + 1 : Nat) : Int) ∧ LAY (T + 1) = (21, 160)) ∧ (R T 6 = ((T + 2 + 1 : Nat) : Int) ∧ LAY (T + 2) = (20, 12)) ∧ (R T 7 = ((T + 3 + 1 : Nat) : Int) ∧ LAY (T + 3) = (20, 12)) ∧ (R T 8 = ((T + 4 + 1 : Nat) : Int) ∧ LAY (T + 4) = (20, 12)) ∧
  (R T 9 = ((T + 5 + 1 : Nat) : Int) ∧ LAY (T + 5) = (20, 12)) ∧ (R T 10 = ((T + 6 + 1 : Nat) : Int) ∧ LAY (T + 6) = (20, 12)) ∧ (R T 11 = ((T + 7 + 1 : Nat) : Int) ∧ LAY (T + 7) = (20, 12)) ∧ (R T 12 = ((T + 8 + 1 : Nat) : Int) ∧ LAY (T + 8) = (20, 12)) ∧ (R T 14 = ((T + 9 + 1 : Nat) : Int) ∧ LAY (T + 9) = (20, 160))
theorem TX_12 {sp rt : Nat} {tt : Nat → Nat} {n : Nat} : TX 12 (RF sp rt tt n) := by
  unfold TX
  repeat' apply And.intro
  all_goals first | rfl | decide
theorem TX_k {sp rt : Nat} {tt : Nat → Nat} {n k : Nat} (h : 163 + 10 * k + 9 < n) : TX (163 + 10 * k) (RF sp rt tt n) := by
  have hl : ∀ x, x < 10 → LAY (163 + 10 * k + x) = TL.getD x (0, 0) := by
    intro x hx
    unfold LAY
    rw [if_neg (by omega), show (163 + 10 * k + x - 163) % 10 = x by omega]
  have hr : ∀ j, RF sp rt tt n (163 + 10 * k) j = if RTX.getD j 0 = 0 then 0 else ((163 + 10 * k + RTX.getD j 0 : Nat) : Int) := by
    intro j
    unfold RF
    rw [if_neg (by omega), if_pos (by omega), if_pos (by omega)]
  unfold TX
  refine ⟨by omega, hl 0 (by decide), ⟨(hr 4).trans ?_, hl 1 (by decide)⟩, ⟨(hr 6).trans ?_, hl 2 (by decide)⟩, ⟨(hr 7).trans ?_, hl 3 (by decide)⟩, ⟨(hr 8).trans ?_, hl 4 (by decide)⟩, ⟨(hr 9).trans ?_, hl 5 (by decide)⟩, ⟨(hr 10).trans ?_, hl 6 (by decide)⟩, ⟨(hr 11).trans ?_, hl 7 (by decide)⟩, ⟨(hr 12).trans ?_, hl 8 (by decide)⟩, ⟨(hr 14).trans ?_, hl 9 (by decide)⟩⟩
  all_goals rfl
section RD0
variable {T : Nat} {I : Nat → Nat → Int} {p cl : Nat} {va fc le : Int} {co : Nat → Int} {x : Int}
theorem hc_1 : HC T I p va fc cl le co 22 1 = (p : Int) := by unfold HC; rw [if_pos ⟨rfl, rfl⟩]
theorem hc_2 : HC T I p va fc cl le co 22 2 = va := by unfold HC; rw [if_neg (fun h => absurd h.2 (by decide)), if_pos ⟨rfl, rfl⟩]
theorem hc_3 : HC T I p va fc cl le co 22 3 = fc := by unfold HC; rw [if_neg (fun h => absurd h.2 (by decide)), if_neg (fun h => absurd h.2 (by decide)), if_pos ⟨rfl, rfl⟩]
theorem hc_15 (hT : ¬ T = 22) : HC T I p va fc cl le co T 15 = (cl : Int) := by unfold HC; rw [if_neg (fun h => hT h.1), if_neg (fun h => hT h.1), if_neg (fun h => hT h.1), if_pos ⟨rfl, rfl⟩]
theorem hc_16 (hT : ¬ T = 22) : HC T I p va fc cl le co T 16 = le := by unfold HC; rw [if_neg (fun h => hT h.1), if_neg (fun h => hT h.1), if_neg (fun h => hT h.1), if_neg (fun h => absurd h.2 (by decide)), if_pos ⟨rfl, rfl⟩]
theorem hc_c (hT : ¬ T + 9 = 22) {j : Nat} : HC T I p va fc cl le co (T + 9) j = co j := by unfold HC; rw [if_neg (fun h => hT h.1), if_neg (fun h => hT h.1), if_neg (fun h => hT h.1), if_neg (fun h => by omega), if_neg (fun h => by omega), if_pos rfl]
theorem hc_o {a j : Nat} (h1 : ¬ a = 22) (h2 : ¬ a = T ∨ (¬ j = 15 ∧ ¬ j = 16)) (h3 : ¬ a = T + 9) : HC T I p va fc cl le co a j = I a j := by unfold HC; rw [if_neg (fun h => h1 h.1), if_neg (fun h => h1 h.1), if_neg (fun h => h1 h.1), if_neg (fun h => by omega), if_neg (fun h => by omega), if_neg h3]
theorem hu_1 {y : Nat} : up2 (HC T I p va fc cl le co) 22 1 (y : Int) = HC T I y va fc cl le co := by
  funext a j
  unfold up2 HC
  by_cases h : a = 22 ∧ j = 1
  · rw [if_pos h, if_pos h]
  · rw [if_neg h, if_neg h, if_neg h]
theorem hu_2 : up2 (HC T I p va fc cl le co) 22 2 x = HC T I p x fc cl le co := by
  funext a j
  unfold up2 HC
  by_cases h : a = 22 ∧ j = 2
  · rw [if_pos h, if_neg (by omega), if_pos h]
  · rw [if_neg h, if_neg h, if_neg h]
theorem hu_3 : up2 (HC T I p va fc cl le co) 22 3 x = HC T I p va x cl le co := by
  funext a j
  unfold up2 HC
  by_cases h : a = 22 ∧ j = 3
  · rw [if_pos h, if_neg (by omega), if_neg (by omega), if_pos h]
  · rw [if_neg h, if_neg h, if_neg h]
theorem hu_15 (hT : ¬ T = 22) {y : Nat} : up2 (HC T I p va fc cl le co) T 15 (y : Int) = HC T I p va fc y le co := by
  funext a j
  unfold up2 HC
  by_cases h : a = T ∧ j = 15
  · rw [if_pos h, if_neg (by omega), if_neg (by omega), if_neg (by omega), if_pos h]
  · rw [if_neg h, if_neg h, if_neg h]
theorem hu_16 (hT : ¬ T = 22) : up2 (HC T I p va fc cl le co) T 16 x = HC T I p va fc cl x co := by
  funext a j
  unfold up2 HC
  by_cases h : a = T ∧ j = 16
  · rw [if_pos h, if_neg (by omega), if_neg (by omega), if_neg (by omega), if_neg (by omega), if_pos h]
  · rw [if_neg h, if_neg h, if_neg h]
/-- a place of the code anew -/
def uc (co : Nat → Int) (i : Nat) (x : Int) : Nat → Int := fun k => if k = i then x else co k
theorem hu_c (hT : ¬ T + 9 = 22) {i : Nat} : up2 (HC T I p va fc cl le co) (T + 9) i x = HC T I p va fc cl le (uc co i x) := by
  funext a j
  unfold up2 HC uc
  by_cases h : a = T + 9
  · by_cases h2 : j = i
    · rw [if_pos ⟨h, h2⟩, if_neg (by omega), if_neg (by omega), if_neg (by omega), if_neg (by omega), if_neg (by omega), if_pos h, if_pos h2]
    · rw [if_neg (fun q => h2 q.2), if_pos h, if_pos h, if_neg h2]
  · rw [if_neg (fun q => h q.1), if_neg h, if_neg h]
end RD0
theorem emit_x {x op : Int} (hx : 0 ≤ x ∧ x < 1000000) (ho : 0 ≤ op ∧ op < 256) : io32 (shl32 x 8) op = x * 256 + op := by
  obtain ⟨a, rfl⟩ := Int.eq_ofNat_of_zero_le hx.1
  obtain ⟨b, rfl⟩ := Int.eq_ofNat_of_zero_le ho.1
  have e1 : shl32 (a : Int) 8 = ((a * 256 : Nat) : Int) := by
    show w32 ((a : Int) * 2 ^ 8) = _
    rw [w32_of (by omega) (by omega)]
    omega
  rw [e1, io_n (by omega) (by omega)]
  have e2 : a * 256 ||| b = a * 256 + b := by
    have := Nat.shiftLeft_add_eq_or_of_lt (i := 8) (b := b) (by omega) a
    rw [Nat.shiftLeft_eq] at this
    exact this.symm
  rw [e2]
  omega
theorem op_of {x op : Int} (hx : 0 ≤ x ∧ x < 1000000) (ho : 0 ≤ op ∧ op < 256) : ia32 (x * 256 + op) 255 = op := by
  obtain ⟨a, rfl⟩ := Int.eq_ofNat_of_zero_le hx.1
  obtain ⟨b, rfl⟩ := Int.eq_ofNat_of_zero_le ho.1
  have e1 : (a : Int) * 256 + b = ((a * 256 + b : Nat) : Int) := by omega
  have e3 : (255 : Int) = ((255 : Nat) : Int) := rfl
  rw [e1, e3, ia_n (by omega) (by decide)]
  have e2 := Nat.and_two_pow_sub_one_eq_mod (a * 256 + b) 8
  rw [show (255 : Nat) = 2 ^ 8 - 1 from rfl, e2]
  omega
theorem ar_of {x op : Int} (hx : 0 ≤ x ∧ x < 1000000) (ho : 0 ≤ op ∧ op < 256) : shr32 (x * 256 + op) 8 = x := by
  show (x * 256 + op) / 2 ^ 8 = x
  omega
/-- the byte at p, -1 behind the end -/
def qc (B : Nat → Int) (n : Nat) : Nat → Int := fun p => if p < n then ia32 (B p) 255 else -1
theorem byte_in (x : Int) : 0 ≤ ia32 x 255 ∧ ia32 x 255 < 256 := by
  have h : ia32 x 255 = (BitVec.ofInt 32 x &&& 255#32).toInt := rfl
  have t : (BitVec.ofInt 32 x &&& 255#32).toNat < 256 := by
    rw [BitVec.toNat_and]
    have : (BitVec.ofInt 32 x).toNat &&& (255#32).toNat ≤ (255#32).toNat := Nat.and_le_right
    have e : (255#32).toNat = 255 := rfl
    omega
  rw [h, BitVec.toInt_eq_toNat_of_lt (by omega)]
  omega
theorem qc_OQ (B : Nat → Int) (n : Nat) : OQ (qc B n) n := by
  refine ⟨fun p h => ?_, fun p h => ?_⟩
  · unfold qc
    rw [if_neg (by omega)]
  · unfold qc
    rw [if_pos h]
    exact byte_in _
theorem qc_rng (B : Nat → Int) (n p : Nat) : -1 ≤ qc B n p ∧ qc B n p < 256 := by
  unfold qc
  have := byte_in (B p)
  split <;> omega
/-- what the reader has -/
def CX (I : Nat → Nat → Int) (sp rt : Nat) (tt : Nat → Nat) (z : Zs) (T n : Nat) : Prop := (rt : Int).toNat = T + 1 ∧ TX T (RF sp rt tt z.1) ∧ I T 3 = (n : Int) ∧ n ≤ 160
section RD1
variable {d : Nat} {I : Nat → Nat → Int} {sp rt : Nat} {tt : Nat → Nat} {z : Zs} {T n : Nat} {p cl : Nat} {va fc le : Int} {co : Nat → Int}
theorem rv_n {T k : Nat} {r : Int} (h : r = ((T + k + 1 : Nat) : Int)) : r.toNat = (T + k) + 1 := by omega
theorem S_29 (h : CX I sp rt tt z T n) : Call PG (d + 1) 29 [(2, 22)] (HC T I p va fc cl le co, RF sp rt tt z.1, z) = some (some (0, qc (I (T + 1)) n p), (HC T I p va fc cl le co, RF sp rt tt z.1, z)) := by
  obtain ⟨hr, ⟨hT, hL, hB, hx⟩, hn, hm⟩ := h
  have e3 : HC T I p va fc cl le co T 3 = (n : Int) := (hc_o hT.1 (Or.inr ⟨by decide, by decide⟩) (by omega)).trans hn
  have e4 : HC T I p va fc cl le co (T + 1) p = I (T + 1) p := hc_o hT.2.1 (Or.inl (by omega)) (by omega)
  have l1 : (LAY T).1 = 3 := by rw [hL]
  have l2 : (LAY (T + 1)).1 = 21 ∧ (LAY (T + 1)).2 = 160 := by rw [hB.2]; exact ⟨rfl, rfl⟩
  have r4 := rv_n hB.1
  refine (K_29 ..).trans ?_
  refine (T_29_0 ..).trans ?_
  refine nn_t hr (nn_t hr (ite_t l1 ?_))
  rw [hc_1, e3]
  unfold qc
  by_cases c : p < n
  · refine ci_t (by omega) (nn_t hr (ite_t l1 (nn_t r4 (ite_t (by omega) (ci_t (by omega) (nn_t hr (ite_t l1 (nn_t r4 (ite_t (Or.inl l2.1) (ci_t (by omega) ?_))))))))))
    rw [if_pos c, show ((p : Int)).toNat = p by omega, e4]
  · refine ci_f (by omega) ?_
    rw [if_neg c]
theorem S_30 {f : Int} {i : Nat} (hf : 1 ≤ f ∧ f ≤ 5) (hi : i ≤ 1000) : Call PG (d + 1) 30 [(2, 22), (0, f), (0, (i : Int))] (HC T I p va fc cl le co, RF sp rt tt z.1, z) = some (some (0, 0), (HC T I p va (fau f i) cl le co, RF sp rt tt z.1, z)) := by
  refine (K_30 ..).trans ?_
  refine (T_30_0 ..).trans ?_
  have e : w32 (w32 ((-1000) * f) - (i : Int)) = fau f i := by
    rw [w32_of (x := (-1000) * f) (by omega) (by omega), w32_of (by omega) (by omega)]
    rfl
  rw [e, hu_3]
theorem w_n {p : Nat} (h : p ≤ 1000) : w32 ((p : Int) + 1) = ((p + 1 : Nat) : Int) := by rw [w32_of (by omega) (by omega)]; omega
theorem S_35 (h : CX I sp rt tt z T n) (hp : p ≤ 160) {c : Int} : Call PG (d + 2) 35 [(2, 22), (0, c)] (HC T I p va fc cl le co, RF sp rt tt z.1, z) = if qc (I (T + 1)) n p = c then some (some (0, 1), (HC T I (p + 1) va fc cl le co, RF sp rt tt z.1, z)) else some (some (0, 0), (HC T I p va (fau 1 p) cl le co, RF sp rt tt z.1, z)) := by
  refine (K_35 ..).trans ?_
  refine (T_35_0 ..).trans ?_
  refine bd_t (S_29 h) ?_
  refine (T_35_4 ..).trans ?_
  rw [hc_1, w_n (by omega), hu_1]
  by_cases e : qc (I (T + 1)) n p = c
  · rw [if_pos e]
    exact ci_t e rfl
  · rw [if_neg e]
    refine ci_f e (bd_t (S_30 (by decide) (by omega)) ?_)
    refine (T_35_17 ..).trans ?_
    exact if_pos (Or.inl rfl)
theorem S_39 (h : CX I sp rt tt z T n) (hc : cl < 160) {op x : Int} (ho : 0 ≤ op ∧ op < 256) (hx : 0 ≤ x ∧ x < 1000000) : Call PG (d + 1) 39 [(2, 22), (0, op), (0, x)] (HC T I p va fc cl le co, RF sp rt tt z.1, z) = some (some (0, 1), (HC T I p va fc (cl + 1) le (uc co cl (x * 256 + op)), RF sp rt tt z.1, z)) := by
  obtain ⟨hr, ⟨hT, hL, hx0⟩, hn, hm⟩ := h
  have l1 : (LAY T).1 = 3 := by rw [hL]
  have l2 : (LAY (T + 9)).1 = 20 ∧ (LAY (T + 9)).2 = 160 := by rw [hx0.2.2.2.2.2.2.2.2.2]; exact ⟨rfl, rfl⟩
  have r4 := rv_n hx0.2.2.2.2.2.2.2.2.1
  refine (K_39 ..).trans ?_
  refine (T_39_0 ..).trans ?_
  refine nn_t hr (ite_t l1 (nn_t hr (ite_t l1 (nn_t r4 (ite_t (by omega) ?_)))))
  rw [hc_15 hT.1]
  refine ci_t (by omega) (nn_t hr (ite_t l1 (nn_t r4 (nn_t hr (ite_t l1 (ite_t l2.1 ?_))))))
  rw [hc_15 hT.1]
  refine ci_t (by omega) (nn_t hr (ite_t l1 (ite_t l1 ?_)))
  rw [show ((cl : Int)).toNat = cl by omega, emit_x hx ho, hu_c hT.2.2.2.2.2.2.2.2.2, hc_15 hT.1, w_n (by omega), hu_15 hT.1]
theorem S_34d {c : Int} : Call PG (d + 1) 34 [(0, c)] (I, RF sp rt tt z.1, z) = some (some (0, bz (dig c)), (I, RF sp rt tt z.1, z)) := by
  refine (K_34 ..).trans ?_
  refine (T_34_0 ..).trans ?_
  by_cases c1 : c < 48
  · rw [bz_f (by omega)]
    exact ci_t c1 rfl
  · by_cases c2 : c ≤ 57
    · rw [bz_t (by omega)]
      exact ci_f c1 (ci_t c2 rfl)
    · rw [bz_f (by omega)]
      exact ci_f c1 (ci_f c2 rfl)
theorem N_33 (h : CX I sp rt tt z T n) : ∀ (k : Nat) (p : Nat) (t v : Int) (x : AV), dl x → t + k = 5 → 1 ≤ t → p ≤ n → 0 ≤ v → (v + 1) * 10 ^ k ≤ 100000 → ∃ (p' : Nat) (va' : Int), Run PG (Call PG (d + 2)) 33 7 [(2, 22), (0, t), x] [] (HC T I p v fc cl le co, RF sp rt tt z.1, z) (0, 0) = (match numL (qc (I (T + 1)) n) k p v with
    | .inl e => some (some (0, 0), (HC T I p' va' e cl le co, RF sp rt tt z.1, z))
    | .inr (j, w) => some (some (0, 1), (HC T I j w fc cl le co, RF sp rt tt z.1, z))) := by
  intro k
  induction k with
  | zero =>
    intro p t v x hx ht h1 hp h0 hb
    have hq := qc_OQ (I (T + 1)) n
    have hm := h.2.2.2
    refine ⟨p, v, ?_⟩
    refine (T_33_7 _ _ _ _ _ _ _ _ hx).trans ?_
    refine ci_t (by omega) (bd_t (S_29 h) ?_)
    refine (T_33_16 _ _ _ _ _ _ _ _ _ hx).trans ?_
    refine bd_t S_34d ?_
    refine (T_33_21 ..).trans ?_
    unfold numL
    by_cases c : dig (qc (I (T + 1)) n p)
    · rw [if_pos c, bz_t c, hc_1]
      refine ci_f (by decide) (ci_t (by omega) (bd_t (S_30 (by decide) (by omega)) ?_))
      refine (T_33_60 ..).trans ?_
      exact if_pos (Or.inl rfl)
    · rw [if_neg c, bz_f c]
      exact ci_t rfl (ci_f (by omega) rfl)
  | succ k ih =>
    intro p t v x hx ht h1 hp h0 hb
    have hq := qc_OQ (I (T + 1)) n
    have hm := h.2.2.2
    unfold numL
    by_cases c : dig (qc (I (T + 1)) n p)
    · have hl : p < n := OQ_lt hq (c := qc (I (T + 1)) n p) (by omega) rfl
      have hb1 : (v * 10 + qc (I (T + 1)) n p - 48 + 1) * 10 ^ k ≤ 100000 := by
        refine Int.le_trans (Int.mul_le_mul_of_nonneg_right (b := (v + 1) * 10) (by omega) (Int.le_of_lt (Int.pow_pos (by decide)))) ?_
        rw [Int.mul_assoc, Int.mul_comm 10, ← Int.pow_succ]
        exact hb
      have hv : v + 1 ≤ 100000 := by
        refine Int.le_trans ?_ hb
        have : (v + 1) * 1 ≤ (v + 1) * 10 ^ (k + 1) := Int.mul_le_mul_of_nonneg_left (Int.pow_pos (by decide)) (by omega)
        omega
      obtain ⟨p', va', e⟩ := ih (p + 1) (t + 1) (v * 10 + qc (I (T + 1)) n p - 48) (0, qc (I (T + 1)) n p) (dl0 _) (by omega) (by omega) (by omega) (by omega) hb1
      refine ⟨p', va', Eq.trans ?_ (e.trans (by rw [if_pos c]))⟩
      refine (T_33_7 _ _ _ _ _ _ _ _ hx).trans ?_
      refine ci_t (by omega) (bd_t (S_29 h) ?_)
      refine (T_33_16 _ _ _ _ _ _ _ _ _ hx).trans ?_
      refine bd_t S_34d ?_
      refine (T_33_21 ..).trans ?_
      rw [bz_t c]
      refine ci_f (by decide) (ci_f (by omega) ?_)
      rw [hc_2, hc_1, w_n (by omega), w32_of (x := v * 10) (by omega) (by omega), w32_of (x := v * 10 + qc (I (T + 1)) n p) (by omega) (by omega), w32_of (by omega) (by omega), w32_of (by omega) (by omega), hu_2, hu_1]
    · refine ⟨p, v, ?_⟩
      rw [if_neg c]
      refine (T_33_7 _ _ _ _ _ _ _ _ hx).trans ?_
      refine ci_t (by omega) (bd_t (S_29 h) ?_)
      refine (T_33_16 _ _ _ _ _ _ _ _ _ hx).trans ?_
      refine bd_t S_34d ?_
      refine (T_33_21 ..).trans ?_
      rw [bz_f c]
      exact ci_t rfl (ci_f (by omega) rfl)
theorem S_33 (h : CX I sp rt tt z T n) (hp : p ≤ n) : ∃ (p' : Nat) (va' : Int), Call PG (d + 3) 33 [(2, 22)] (HC T I p va fc cl le co, RF sp rt tt z.1, z) = (match NUM (qc (I (T + 1)) n) p with
    | .inl e => some (some (0, 0), (HC T I p' va' e cl le co, RF sp rt tt z.1, z))
    | .inr (j, w) => some (some (0, 1), (HC T I j w fc cl le co, RF sp rt tt z.1, z))) := by
  have hq := qc_OQ (I (T + 1)) n
  have hm := h.2.2.2
  have k0 : Call PG (d + 3) 33 [(2, 22)] (HC T I p va fc cl le co, RF sp rt tt z.1, z) = Run PG (Call PG (d + 2)) 33 7 [(2, 22), (0, 0), (9, 0)] [] (HC T I p 0 fc cl le co, RF sp rt tt z.1, z) (0, 0) := by
    refine (K_33 ..).trans ?_
    refine (T_33_0 ..).trans ?_
    rw [hu_2]
  have k1 : Run PG (Call PG (d + 2)) 33 7 [(2, 22), (0, 0), (9, 0)] [] (HC T I p 0 fc cl le co, RF sp rt tt z.1, z) (0, 0) = Run PG (Call PG (d + 2)) 33 21 [(2, 22), (0, 0), (0, qc (I (T + 1)) n p)] [(0, bz (dig (qc (I (T + 1)) n p)))] (HC T I p 0 fc cl le co, RF sp rt tt z.1, z) (0, 0) := by
    refine (T_33_7 _ _ _ _ _ _ _ _ dl9).trans ?_
    refine ci_t (by decide) (bd_t (S_29 h) ?_)
    refine (T_33_16 _ _ _ _ _ _ _ _ _ dl9).trans ?_
    exact bd_t S_34d rfl
  unfold NUM
  by_cases c : dig (qc (I (T + 1)) n p)
  · have hl : p < n := OQ_lt hq (c := qc (I (T + 1)) n p) (by omega) rfl
    obtain ⟨p', va', e⟩ := N_33 (d := d) (fc := fc) (cl := cl) (le := le) (co := co) h 4 (p + 1) 1 (0 * 10 + qc (I (T + 1)) n p - 48) (0, qc (I (T + 1)) n p) (dl0 _) (by omega) (by omega) (by omega) (by omega) (by rw [show (10 : Int) ^ 4 = 10000 from by decide]; omega)
    have e0 : numL (qc (I (T + 1)) n) 5 p 0 = numL (qc (I (T + 1)) n) 4 (p + 1) (0 * 10 + qc (I (T + 1)) n p - 48) := by
      show (if dig (qc (I (T + 1)) n p) then _ else _) = _
      rw [if_pos c]
    rw [if_pos c, e0]
    refine ⟨p', va', (k0.trans k1).trans (Eq.trans ?_ e)⟩
    refine (T_33_21 ..).trans ?_
    rw [bz_t c]
    refine ci_f (by decide) (ci_f (by decide) ?_)
    rw [hc_2, hc_1, w_n (by omega), w32_of (x := 0 * 10) (by omega) (by omega), w32_of (x := 0 * 10 + qc (I (T + 1)) n p) (by omega) (by omega), w32_of (by omega) (by omega), w32_of (by omega) (by omega), hu_2, hu_1]
    rfl
  · rw [if_neg c]
    refine ⟨p, 0, (k0.trans k1).trans ?_⟩
    refine (T_33_21 ..).trans ?_
    rw [bz_f c, hc_1]
    refine ci_t rfl (ci_t (by decide) (bd_t (S_30 (by decide) (by omega)) ?_))
    refine (T_33_37 ..).trans ?_
    exact ci_t rfl rfl
end RD1

