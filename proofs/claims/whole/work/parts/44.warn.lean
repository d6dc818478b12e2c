/-! warn: the reference clears a row first -/
def clr (n : Nat) (i : Nat) (J : Nat → Nat → Int) : Nat → Nat → Int := up2 J 153 (n + i) (-1)
theorem clr_at (n : Nat) (J : Nat → Nat → Int) (a j : Nat) : ∀ k : Nat, itr (clr n) k J a j = if a = 153 ∧ n ≤ j ∧ j < n + k then -1 else J a j
  | 0 => by rw [if_neg (fun w => by omega)]; rfl
  | k + 1 => by
    show (if a = 153 ∧ j = n + k then (-1 : Int) else itr (clr n) k J a j) = _
    rw [clr_at n J a j k]
    by_cases e : a = 153 ∧ j = n + k
    · rw [if_pos e, if_pos ⟨e.1, by omega, by omega⟩]
    · rw [if_neg e]
      by_cases g : a = 153 ∧ n ≤ j ∧ j < n + k
      · rw [if_pos g, if_pos ⟨g.1, g.2.1, by omega⟩]
      · rw [if_neg g, if_neg (fun w => g ⟨w.1, w.2.1, by
          by_cases q : j = n + k
          · exact absurd ⟨w.1, q⟩ e
          · omega⟩)]
theorem L_318 {C : Cal} {J : Nat → Nat → Int} {sp rt : Nat} {tt : Nat → Nat} {z : Zs} {h n : Int} (h0 : 0 ≤ h ∧ h < 40) (hn : 0 ≤ n ∧ n < 60) (e : J 82 15 = n) : Run PG C 318 36 [(2, 82), (0, h), (0, 0)] [] (J, RF sp rt tt z.1, z) (0, 0) = some (some (0, n), (up2 (up2 (itr (clr (40 * n).toNat) 40 J) 153 (40 * n + h).toNat (J 82 2)) 82 15 (n + 1), RF sp rt tt z.1, z)) := by
  refine loop_p (clr (40 * n).toNat) (fun (i : Nat) (K : Nat → Nat → Int) => Run PG C 318 36 [(2, 82), (0, h), (0, (i : Int))] [] (K, RF sp rt tt z.1, z) (0, 0) = some (some (0, n), (up2 (up2 (itr (clr (40 * n).toNat) 40 J) 153 (40 * n + h).toNat (J 82 2)) 82 15 (n + 1), RF sp rt tt z.1, z))) 40 J ?_ ?_
  · intro i K hi hK hr
    have k15 : K 82 15 = n := by rw [hK, clr_at, if_neg (fun w => by have := w.1; omega)]; exact e
    have j1 : w32 (w32 (40 * n) + (i : Int)) = 40 * n + i := by rw [w32_of (x := 40 * n) (by omega) (by omega), w32_of (by omega) (by omega)]
    have j2 : w32 ((i : Int) + 1) = ((i + 1 : Nat) : Int) := by rw [w32_of (by omega) (by omega)]; omega
    have j3 : (40 * n + (i : Int)).toNat = (40 * n).toNat + i := by omega
    refine (T_318_36 ..).trans ?_
    rw [k15, j1, j2, j3]
    refine ci_t (by omega) ?_
    refine ci_t (by omega) ?_
    exact hr
  · have k15 : itr (clr (40 * n).toNat) 40 J 82 15 = n := by rw [clr_at, if_neg (fun w => by have := w.1; omega)]; exact e
    have k2 : itr (clr (40 * n).toNat) 40 J 82 2 = J 82 2 := by rw [clr_at, if_neg (fun w => by have := w.1; omega)]
    have j1 : w32 (w32 (40 * n) + h) = 40 * n + h := by rw [w32_of (x := 40 * n) (by omega) (by omega), w32_of (by omega) (by omega)]
    have j2 : w32 (n + 1) = n + 1 := w32_of (by omega) (by omega)
    have j3 : w32 (n + 1 - 1) = n := by rw [w32_of (by omega) (by omega)]; omega
    refine (T_318_36 ..).trans ?_
    rw [k15, k2, j1, j2, j3]
    refine ci_f (by omega) ?_
    refine ci_t (by omega) ?_
    rfl

