/-! send: one more for a pit -/
/-- the spot -/
def spt (n M l : Int) : Int := if l = Int.tmod n M then Int.tmod (w32 (Int.tmod n M + 1)) M else Int.tmod n M
section AD0
variable {d : Nat} {I : Nat → Nat → Int} {sp rt : Nat} {tt : Nat → Nat} {z : Zs}
theorem S_189 {p n : Nat} (hp : p < 12) (hn : I 72 0 = (n : Int)) (hn12 : n < 12) (hM : 1 ≤ I 72 2) : Call PG (d + 1) 189 [(2, 72), (0, (p : Int))] (I, RF sp rt tt z.1, z) = some (none, (up2 (up2 (up2 (up2 (up2 I 72 6 (io32 (I 72 6) (shl32 1 (p : Int)))) 76 p (spt (n : Int) (I 72 2) (I 76 p))) 74 n (p : Int)) 75 n (spt (n : Int) (I 72 2) (I 76 p))) 72 0 ((n + 1 : Nat) : Int), RF sp rt tt z.1, z)) := by
  refine (K_189 ..).trans ((T_189_0 ..).trans ?_)
  rw [hn, show ((n : Int)).toNat = n by omega, show ((p : Int)).toNat = p by omega, w_n (by omega)]
  refine ci_f (by omega) (ci_t (by omega) (ci_f (by omega) ((if_neg (by omega)).trans (ci_t (by omega) ?_))))
  unfold spt
  by_cases q : I 76 p = Int.tmod (n : Int) (I 72 2)
  · rw [if_pos q]
    exact ci_t q ((if_neg (by omega)).trans (ci_t (by omega) (ci_t (by omega) (ci_t (by omega) rfl))))
  · rw [if_neg q]
    exact ci_f q (ci_t (by omega) (ci_t (by omega) (ci_t (by omega) rfl)))
theorem S_331 {p n : Nat} (hp : p < 12) (hn : I 82 17 = (n : Int)) (hn12 : n < 12) (hM : 1 ≤ I 82 19) : Call PG (d + 1) 331 [(2, 82), (0, (p : Int))] (I, RF sp rt tt z.1, z) = some (none, (up2 (up2 (up2 (up2 (up2 I 155 n (p : Int)) 156 n (spt (n : Int) (I 82 19) (I 90 p))) 90 p (spt (n : Int) (I 82 19) (I 90 p))) 158 p 1) 82 17 ((n + 1 : Nat) : Int), RF sp rt tt z.1, z)) := by
  refine (K_331 ..).trans ((T_331_0 ..).trans ?_)
  rw [hn, show ((n : Int)).toNat = n by omega, show ((p : Int)).toNat = p by omega, w_n (by omega)]
  refine (if_neg (by omega)).trans (ci_t (by omega) ?_)
  unfold spt
  by_cases q : I 90 p = Int.tmod (n : Int) (I 82 19)
  · rw [if_pos q]
    exact ci_t q.symm ((if_neg (by omega)).trans (ci_t (by omega) (ci_t (by omega) (ci_t (by omega) (ci_t (by omega) rfl)))))
  · rw [if_neg q]
    exact ci_f (fun w => q w.symm) (ci_t (by omega) (ci_t (by omega) (ci_t (by omega) (ci_t (by omega) rfl))))
end AD0

