/-! how many bits a small number has: reckoned in three ways -/
def popN (v : Nat) : Nat := v % 2 + v / 2 % 2 + v / 4 % 2 + v / 8 % 2 + v / 16 % 2 + v / 32 % 2 + v / 64 % 2 + v / 128 % 2 + v / 256 % 2 + v / 512 % 2 + v / 1024 % 2 + v / 2048 % 2 + v / 4096 % 2 + v / 8192 % 2 + v / 16384 % 2 + v / 32768 % 2
def sw1 (x : Nat) : Nat := x - Nat.land (x / 2) 1431655765
def sw2 (y : Nat) : Nat := Nat.land y 858993459 + Nat.land (y / 4) 858993459
def sw3 (y : Nat) : Nat := Nat.land (y + y / 16) 252645135
def sw4 (y : Nat) : Nat := y + y / 256
def sw5 (y : Nat) : Nat := Nat.land (y + y / 65536) 63
def swc (x : Nat) : Bool := Nat.beq (sw5 (sw4 (sw3 (sw2 (sw1 x))))) (popN x)
def swa : Nat → Nat → Bool
  | 0, _ => true
  | n + 1, s => Bool.and (swc (s + n)) (swa n s)
theorem swa_0 : swa 4096 0 = true := by decide +kernel
theorem swa_1 : swa 4096 4096 = true := by decide +kernel
theorem swa_2 : swa 4096 8192 = true := by decide +kernel
theorem swa_3 : swa 4096 12288 = true := by decide +kernel
theorem swa_4 : swa 4096 16384 = true := by decide +kernel
theorem swa_5 : swa 4096 20480 = true := by decide +kernel
theorem swa_6 : swa 4096 24576 = true := by decide +kernel
theorem swa_7 : swa 4096 28672 = true := by decide +kernel
theorem swa_8 : swa 4096 32768 = true := by decide +kernel
theorem swa_9 : swa 4096 36864 = true := by decide +kernel
theorem swa_10 : swa 4096 40960 = true := by decide +kernel
theorem swa_11 : swa 4096 45056 = true := by decide +kernel
theorem swa_12 : swa 4096 49152 = true := by decide +kernel
theorem swa_13 : swa 4096 53248 = true := by decide +kernel
theorem swa_14 : swa 4096 57344 = true := by decide +kernel
theorem swa_15 : swa 4096 61440 = true := by decide +kernel
theorem swa_at : ∀ {n s x : Nat}, swa n s = true → s ≤ x → x < s + n → swc x = true
  | 0, _, _, _, h1, h2 => absurd h2 (by omega)
  | n + 1, s, x, h, h1, h2 => by
    unfold swa at h
    rw [Bool.and_eq_true] at h
    by_cases c : x = s + n
    · rw [c]; exact h.1
    · exact swa_at h.2 h1 (by omega)
theorem swc_at {x : Nat} (h : x < 65536) : sw5 (sw4 (sw3 (sw2 (sw1 x)))) = popN x := by
  refine Nat.eq_of_beq_eq_true ?_
  show swc x = true
  by_cases c0 : x < 4096
  · exact swa_at swa_0 (by omega) (by omega)
  by_cases c1 : x < 8192
  · exact swa_at swa_1 (by omega) (by omega)
  by_cases c2 : x < 12288
  · exact swa_at swa_2 (by omega) (by omega)
  by_cases c3 : x < 16384
  · exact swa_at swa_3 (by omega) (by omega)
  by_cases c4 : x < 20480
  · exact swa_at swa_4 (by omega) (by omega)
  by_cases c5 : x < 24576
  · exact swa_at swa_5 (by omega) (by omega)
  by_cases c6 : x < 28672
  · exact swa_at swa_6 (by omega) (by omega)
  by_cases c7 : x < 32768
  · exact swa_at swa_7 (by omega) (by omega)
  by_cases c8 : x < 36864
  · exact swa_at swa_8 (by omega) (by omega)
  by_cases c9 : x < 40960
  · exact swa_at swa_9 (by omega) (by omega)
  by_cases c10 : x < 45056
  · exact swa_at swa_10 (by omega) (by omega)
  by_cases c11 : x < 49152
  · exact swa_at swa_11 (by omega) (by omega)
  by_cases c12 : x < 53248
  · exact swa_at swa_12 (by omega) (by omega)
  by_cases c13 : x < 57344
  · exact swa_at swa_13 (by omega) (by omega)
  by_cases c14 : x < 61440
  · exact swa_at swa_14 (by omega) (by omega)
  exact swa_at swa_15 (by omega) (by omega)

