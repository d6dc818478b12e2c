/-! send: what both know of who is sent -/
abbrev SND : Type := (Nat → Bool) × Nat × (Nat → Int) × (Nat → Int) × (Nat → Int)
/-- given, how many, last of a pit, pit of a look, spot of a look -/
def sad (M : Int) (p : Nat) (s : SND) : SND := (fun k => if k = p then true else s.1 k, s.2.1 + 1, ud s.2.2.1 p (spt (s.2.1 : Int) M (s.2.2.1 p)), ud s.2.2.2.1 s.2.1 (p : Int), ud s.2.2.2.2 s.2.1 (spt (s.2.1 : Int) M (s.2.2.1 p)))
def SNa (I : Nat → Nat → Int) (s : SND) (J : Nat → Nat → Int) : Prop := (∀ a j, ¬ (a = 72 ∧ (j = 0 ∨ j = 6)) → ¬ (74 ≤ a ∧ a ≤ 76) → J a j = I a j) ∧ J 72 0 = (s.2.1 : Int) ∧ (∃ v : Nat, v < 4096 ∧ J 72 6 = (v : Int) ∧ ∀ k, k < 12 → v.testBit k = s.1 k) ∧ (∀ k, k < 12 → J 76 k = s.2.2.1 k) ∧ ∀ k, k < s.2.1 → J 74 k = s.2.2.2.1 k ∧ J 75 k = s.2.2.2.2 k
def SNb (I : Nat → Nat → Int) (P : Nat) (s : SND) (J : Nat → Nat → Int) : Prop := (∀ a j, ¬ (a = 82 ∧ j = 17) → ¬ a = 155 → ¬ a = 156 → ¬ a = 90 → ¬ a = 158 → J a j = I a j) ∧ J 82 17 = (s.2.1 : Int) ∧ (∀ k, k < P → J 158 k = if s.1 k = true then 1 else 0) ∧ (∀ k, k < P → J 90 k = s.2.2.1 k) ∧ ∀ k, k < s.2.1 → J 155 k = s.2.2.2.1 k ∧ J 156 k = s.2.2.2.2 k
section ST0
variable {d : Nat} {I : Nat → Nat → Int} {sp rt : Nat} {tt : Nat → Nat} {z : Zs}
theorem SNb_add {P : Nat} {s : SND} {J : Nat → Nat → Int} (h : SNb I P s J) {p : Nat} (hp : p < P) (hP : P ≤ 12) (hn : s.2.1 < 12) {M : Int} (hM : 1 ≤ M) (eM : I 82 19 = M) : ∃ K, Call PG (d + 1) 331 [(2, 82), (0, (p : Int))] (J, RF sp rt tt z.1, z) = some (none, (K, RF sp rt tt z.1, z)) ∧ SNb I P (sad M p s) K := by
  obtain ⟨h1, h2, h3, h4, h5⟩ := h
  have jM : J 82 19 = M := (h1 _ _ (by omega) (by omega) (by omega) (by omega) (by omega)).trans eM
  have e := S_331 (d := d) (I := J) (sp := sp) (rt := rt) (tt := tt) (z := z) (p := p) (n := s.2.1) (by omega) h2 hn (by omega)
  rw [jM, h4 p hp] at e
  refine ⟨_, e, fun a j q1 q2 q3 q4 q5 => ?_, up2_eq, fun k hk => ?_, fun k hk => ?_, fun k hk => ?_⟩
  · rw [up2_def, if_neg (by omega), up2_def, if_neg (by omega), up2_def, if_neg (by omega), up2_def, if_neg (by omega), up2_def, if_neg (by omega)]
    exact h1 a j q1 q2 q3 q4 q5
  · show _ = if (if k = p then true else s.1 k) = true then (1 : Int) else 0
    by_cases q : k = p
    · rw [q, up2_def, if_neg (by omega), up2_eq, if_pos rfl, if_pos rfl]
    · rw [if_neg q, up2_def, if_neg (by omega), up2_def, if_neg (by omega), up2_def, if_neg (by omega), up2_def, if_neg (by omega), up2_def, if_neg (by omega)]
      exact h3 k hk
  · show _ = ud s.2.2.1 p (spt (s.2.1 : Int) M (s.2.2.1 p)) k
    by_cases q : k = p
    · rw [q, ud_eq, up2_def, if_neg (by omega), up2_def, if_neg (by omega), up2_eq]
    · rw [ud_ne q, up2_def, if_neg (by omega), up2_def, if_neg (by omega), up2_def, if_neg (by omega), up2_def, if_neg (by omega), up2_def, if_neg (by omega)]
      exact h4 k hk
  · show _ = ud s.2.2.2.1 s.2.1 (p : Int) k ∧ _ = ud s.2.2.2.2 s.2.1 (spt (s.2.1 : Int) M (s.2.2.1 p)) k
    have hk' : k < s.2.1 + 1 := hk
    by_cases q : k = s.2.1
    · rw [q, ud_eq, ud_eq]
      exact ⟨by rw [up2_def, if_neg (by omega), up2_def, if_neg (by omega), up2_def, if_neg (by omega), up2_def, if_neg (by omega), up2_eq], by rw [up2_def, if_neg (by omega), up2_def, if_neg (by omega), up2_def, if_neg (by omega), up2_eq]⟩
    · rw [ud_ne q, ud_ne q]
      refine ⟨?_, ?_⟩
      · rw [up2_def, if_neg (by omega), up2_def, if_neg (by omega), up2_def, if_neg (by omega), up2_def, if_neg (by omega), up2_def, if_neg (by omega)]
        exact (h5 k (by omega)).1
      · rw [up2_def, if_neg (by omega), up2_def, if_neg (by omega), up2_def, if_neg (by omega), up2_def, if_neg (by omega), up2_def, if_neg (by omega)]
        exact (h5 k (by omega)).2
theorem SNa_add {s : SND} {J : Nat → Nat → Int} (h : SNa I s J) {p : Nat} (hp : p < 12) (hn : s.2.1 < 12) {M : Int} (hM : 1 ≤ M) (eM : I 72 2 = M) : ∃ K, Call PG (d + 1) 189 [(2, 72), (0, (p : Int))] (J, RF sp rt tt z.1, z) = some (none, (K, RF sp rt tt z.1, z)) ∧ SNa I (sad M p s) K := by
  obtain ⟨h1, h2, ⟨v, hv, ev, bv⟩, h4, h5⟩ := h
  have jM : J 72 2 = M := (h1 _ _ (by omega) (by omega)).trans eM
  have e := S_189 (d := d) (I := J) (sp := sp) (rt := rt) (tt := tt) (z := z) (p := p) (n := s.2.1) (by omega) h2 hn (by omega)
  have lo2 := le_or (k := p) hv (by omega)
  rw [jM, h4 p hp, ev, lo2.1] at e
  refine ⟨_, e, fun a j q1 q2 => ?_, up2_eq, ⟨_, lo2.2, ?_, fun k hk => ?_⟩, fun k hk => ?_, fun k hk => ?_⟩
  · rw [up2_def, if_neg (by omega), up2_def, if_neg (by omega), up2_def, if_neg (by omega), up2_def, if_neg (by omega), up2_def, if_neg (by omega)]
    exact h1 a j q1 q2
  · rw [up2_def, if_neg (by omega), up2_def, if_neg (by omega), up2_def, if_neg (by omega), up2_def, if_neg (by omega), up2_eq]
  · show _ = if k = p then true else s.1 k
    by_cases q : k = p
    · rw [if_pos q, q]
      exact le_k
    · rw [if_neg q, Nat.testBit_or, Nat.testBit_two_pow_of_ne (by omega), Bool.or_false]
      exact bv k hk
  · show _ = ud s.2.2.1 p (spt (s.2.1 : Int) M (s.2.2.1 p)) k
    by_cases q : k = p
    · rw [q, ud_eq, up2_def, if_neg (by omega), up2_def, if_neg (by omega), up2_def, if_neg (by omega), up2_eq]
    · rw [ud_ne q, up2_def, if_neg (by omega), up2_def, if_neg (by omega), up2_def, if_neg (by omega), up2_def, if_neg (by omega), up2_def, if_neg (by omega)]
      exact h4 k hk
  · show _ = ud s.2.2.2.1 s.2.1 (p : Int) k ∧ _ = ud s.2.2.2.2 s.2.1 (spt (s.2.1 : Int) M (s.2.2.1 p)) k
    have hk' : k < s.2.1 + 1 := hk
    by_cases q : k = s.2.1
    · rw [q, ud_eq, ud_eq]
      exact ⟨by rw [up2_def, if_neg (by omega), up2_def, if_neg (by omega), up2_eq], by rw [up2_def, if_neg (by omega), up2_eq]⟩
    · rw [ud_ne q, ud_ne q]
      refine ⟨?_, ?_⟩
      · rw [up2_def, if_neg (by omega), up2_def, if_neg (by omega), up2_def, if_neg (by omega), up2_def, if_neg (by omega), up2_def, if_neg (by omega)]
        exact (h5 k (by omega)).1
      · rw [up2_def, if_neg (by omega), up2_def, if_neg (by omega), up2_def, if_neg (by omega), up2_def, if_neg (by omega), up2_def, if_neg (by omega)]
        exact (h5 k (by omega)).2
end ST0

