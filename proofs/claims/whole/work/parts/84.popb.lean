/-! both programs' counts of bits; bits of small sets -/
def swk (x : Nat) : Bool := Bool.or (Nat.beq x 0) (Nat.beq (popN (Nat.land x (x - 1)) + 1) (popN x))
def swb : Nat → Nat → Bool
  | 0, _ => true
  | n + 1, s => Bool.and (swk (s + n)) (swb n s)
theorem swb_0 : swb 4096 0 = true := by decide +kernel
theorem swb_1 : swb 4096 4096 = true := by decide +kernel
theorem swb_2 : swb 4096 8192 = true := by decide +kernel
theorem swb_3 : swb 4096 12288 = true := by decide +kernel
theorem swb_4 : swb 4096 16384 = true := by decide +kernel
theorem swb_5 : swb 4096 20480 = true := by decide +kernel
theorem swb_6 : swb 4096 24576 = true := by decide +kernel
theorem swb_7 : swb 4096 28672 = true := by decide +kernel
theorem swb_8 : swb 4096 32768 = true := by decide +kernel
theorem swb_9 : swb 4096 36864 = true := by decide +kernel
theorem swb_10 : swb 4096 40960 = true := by decide +kernel
theorem swb_11 : swb 4096 45056 = true := by decide +kernel
theorem swb_12 : swb 4096 49152 = true := by decide +kernel
theorem swb_13 : swb 4096 53248 = true := by decide +kernel
theorem swb_14 : swb 4096 57344 = true := by decide +kernel
theorem swb_15 : swb 4096 61440 = true := by decide +kernel
theorem swb_at : ∀ {n s x : Nat}, swb n s = true → s ≤ x → x < s + n → swk x = true
  | 0, _, _, _, h1, h2 => absurd h2 (by omega)
  | n + 1, s, x, h, h1, h2 => by
    unfold swb at h
    rw [Bool.and_eq_true] at h
    by_cases c : x = s + n
    · rw [c]; exact h.1
    · exact swb_at h.2 h1 (by omega)
theorem swk_at {x : Nat} (h : x < 65536) : swk x = true := by
  by_cases c0 : x < 4096
  · exact swb_at swb_0 (by omega) (by omega)
  by_cases c1 : x < 8192
  · exact swb_at swb_1 (by omega) (by omega)
  by_cases c2 : x < 12288
  · exact swb_at swb_2 (by omega) (by omega)
  by_cases c3 : x < 16384
  · exact swb_at swb_3 (by omega) (by omega)
  by_cases c4 : x < 20480
  · exact swb_at swb_4 (by omega) (by omega)
  by_cases c5 : x < 24576
  · exact swb_at swb_5 (by omega) (by omega)
  by_cases c6 : x < 28672
  · exact swb_at swb_6 (by omega) (by omega)
  by_cases c7 : x < 32768
  · exact swb_at swb_7 (by omega) (by omega)
  by_cases c8 : x < 36864
  · exact swb_at swb_8 (by omega) (by omega)
  by_cases c9 : x < 40960
  · exact swb_at swb_9 (by omega) (by omega)
  by_cases c10 : x < 45056
  · exact swb_at swb_10 (by omega) (by omega)
  by_cases c11 : x < 49152
  · exact swb_at swb_11 (by omega) (by omega)
  by_cases c12 : x < 53248
  · exact swb_at swb_12 (by omega) (by omega)
  by_cases c13 : x < 57344
  · exact swb_at swb_13 (by omega) (by omega)
  by_cases c14 : x < 61440
  · exact swb_at swb_14 (by omega) (by omega)
  exact swb_at swb_15 (by omega) (by omega)
theorem pop_k {x : Nat} (h : x < 65536) (h0 : ¬ x = 0) : popN (Nat.land x (x - 1)) + 1 = popN x := by
  have q := swk_at h
  unfold swk at q
  rw [Bool.or_eq_true] at q
  rcases q with q | q
  · exact absurd (Nat.eq_of_beq_eq_true q) h0
  · exact Nat.eq_of_beq_eq_true q

