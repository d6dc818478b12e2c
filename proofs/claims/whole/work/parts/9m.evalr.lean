/-! texts: what the second's codes come to -/
/-- its heap while it reckons by the facts e -/
def RWo (I : Nat → Nat → Int) (e : FE) (J : Nat → Nat → Int) : Prop := (∀ a j, ¬ (110 ≤ a ∧ a ≤ 113) → ¬ (124 ≤ a ∧ a ≤ 129) → J a j = I a j) ∧ ∀ c : Nat, c < 128 → 0 ≤ lix (c : Int) → ¬ J 110 c = 0 → J 111 c = e (lix (c : Int)).toNat
/-- it finds each fact -/
def FINDS (I : Nat → Nat → Int) (sp rt : Nat) (tt : Nat → Nat) (z : Zs) (D : Nat) (e : FE) : Prop := ∀ (J : Nat → Nat → Int) (c : Nat), RWo I e J → c < 128 → 0 ≤ lix (c : Int) → ∃ J', Call PG D 252 [(2, 82), (0, (c : Int))] (J, RF sp rt tt z.1, z) = some (some (1, e (lix (c : Int)).toNat), (J', RF sp rt tt z.1, z)) ∧ FRr J J'
section ER0
variable {d : Nat} {I : Nat → Nat → Int} {sp rt : Nat} {tt : Nat → Nat} {z : Zs} {e : FE}
theorem RW_u {J : Nat → Nat → Int} (h : RWo I e J) {a j : Nat} {x : Int} (ha : a = 112 ∨ a = 113) : RWo I e (up2 J a j x) := by
  refine ⟨fun b k q1 q2 => (up2_ne (by omega)).trans (h.1 b k q1 q2), fun c hc hl hq => ?_⟩
  rw [up2_ne (by omega)] at hq ⊢
  exact h.2 c hc hl hq
theorem S_251 (hF : FINDS I sp rt tt z (d + 1) e) {J : Nat → Nat → Int} (h : RWo I e J) {c : Nat} (hc : c < 128) (hl : 0 ≤ lix (c : Int)) : ∃ J', Call PG (d + 2) 251 [(2, 82), (0, (c : Int))] (J, RF sp rt tt z.1, z) = some (some (1, e (lix (c : Int)).toNat), (J', RF sp rt tt z.1, z)) ∧ RWo I e J' ∧ J' 112 = J 112 ∧ J' 113 = J 113 := by
  have ec : ((c : Int)).toNat = c := by omega
  by_cases q : J 110 c = 0
  · obtain ⟨K, e1, fK⟩ := hF J c h hc hl
    refine ⟨up2 (up2 K 111 c (e (lix (c : Int)).toNat)) 110 c 1, ?_, ⟨fun a j q1 q2 => ?_, fun c' hc' hl' hq => ?_⟩, ?_, ?_⟩
    · refine (K_251 ..).trans ((T_251_0 ..).trans ?_)
      rw [ec]
      refine ci_t (by omega) (ci_t q (bd_t e1 ?_))
      refine (T_251_19 ..).trans ?_
      rw [ec, up2_eq]
      exact ci_t (by omega) (ci_t (by omega) (ci_t (by omega) rfl))
    · rw [up2_ne (by omega), up2_ne (by omega), fK a j q2]
      exact h.1 a j q1 q2
    · by_cases w : c' = c
      · subst w
        rw [up2_ne (by decide), up2_eq]
      · rw [up2_nj w, up2_ne (by decide), fK 110 c' (by omega)] at hq
        rw [up2_ne (by decide), up2_nj w, fK 111 c' (by omega)]
        exact h.2 c' hc' hl' hq
    · funext j
      rw [up2_ne (by decide), up2_ne (by decide), fK 112 j (by omega)]
    · funext j
      rw [up2_ne (by decide), up2_ne (by decide), fK 113 j (by omega)]
  · refine ⟨J, ?_, h, rfl, rfl⟩
    refine (K_251 ..).trans ((T_251_0 ..).trans ?_)
    rw [ec, h.2 c hc hl q]
    exact ci_t (by omega) (ci_f q (ci_t (by omega) rfl))
/-- a step of two numbers -/
theorem S_249b {J : Nat → Nat → Int} {n : Nat} (hn : n + 1 < 200) {c : Int} (hc : isO c) (h1 : J 113 n = 0 ∨ J 113 n = 1) (h2 : J 113 (n + 1) = 0 ∨ J 113 (n + 1) = 1) : Call PG (d + 2) 249 [(2, 82), (0, c), (0, (n : Int))] (J, RF sp rt tt z.1, z) = some (none, (up2 (up2 J 113 n (if J 113 n = 0 ∧ J 113 (n + 1) = 0 ∧ ¬ ((c = 47 ∨ c = 37) ∧ J 112 (n + 1) = 0) then 0 else 1)) 112 n (ap c (J 112 n) (J 112 (n + 1))), RF sp rt tt z.1, z)) := by
  have en : ((n : Int)).toNat = n := by omega
  have en1 : (((n + 1 : Nat) : Int)).toNat = n + 1 := by omega
  have f145 : ∀ r : Int, Run PG (Call PG (d + 1)) 249 145 [(2, 82), (0, c), (0, (n : Int)), (0, ((n + 1 : Nat) : Int))] [(1, ap c (J 112 n) (J 112 (n + 1))), (0, (n : Int)), (2, 112)] (up2 J 113 n r, RF sp rt tt z.1, z) (0, 0) = some (none, (up2 (up2 J 113 n r) 112 n (ap c (J 112 n) (J 112 (n + 1))), RF sp rt tt z.1, z)) := fun r => by
    refine (T_249_145 ..).trans (ci_t (by omega) ?_)
    rw [en]
  have t0 := T_249_0 (Call PG (d + 1)) J sp rt tt z c (n : Int)
  rw [en, w_n (by omega), en1] at t0
  have t107 := T_249_107 (Call PG (d + 1)) J sp rt tt z c (n : Int) ((n + 1 : Nat) : Int) (n : Int)
  rw [en, en1] at t107
  refine (K_249 ..).trans (t0.trans (ci_f (by omega) (ci_f (by omega) (ci_t (by omega) ?_))))
  rcases h1 with h1 | h1
  · refine ci_t h1 (ci_t (by omega) ?_)
    rcases h2 with h2 | h2
    · refine ci_t h2 ?_
      by_cases cd : c = 47 ∨ c = 37
      · have k : Run PG (Call PG (d + 1)) 249 107 [(2, 82), (0, c), (0, (n : Int)), (0, ((n + 1 : Nat) : Int))] [(0, (n : Int)), (2, 113)] (J, RF sp rt tt z.1, z) (0, 0) = some (none, (up2 (up2 J 113 n (if J 113 n = 0 ∧ J 113 (n + 1) = 0 ∧ ¬ ((c = 47 ∨ c = 37) ∧ J 112 (n + 1) = 0) then 0 else 1)) 112 n (ap c (J 112 n) (J 112 (n + 1))), RF sp rt tt z.1, z)) := by
          refine t107.trans (ci_t (by omega) ?_)
          by_cases w : J 112 (n + 1) = 0
          · rw [if_neg (fun r => r.2.2 ⟨cd, w⟩)]
            exact ci_t (lcm_0.2 w) (ci_t (by omega) (ci_t (by omega) (ci_t (by omega) (bd_t (S_250 hc) (f145 1)))))
          · rw [if_pos ⟨h1, h2, fun r => w r.2⟩]
            exact ci_f (fun r => w (lcm_0.1 r)) (ci_t (by omega) (ci_t (by omega) (ci_t (by omega) (bd_t (S_250 hc) (f145 0)))))
        by_cases c47 : c = 47
        · exact ci_t c47 k
        · exact ci_f c47 (ci_t (cd.resolve_left c47) k)
      · rw [if_pos ⟨h1, h2, fun r => cd r.1⟩]
        exact ci_f (fun r => cd (Or.inl r)) (ci_f (fun r => cd (Or.inr r)) (ci_t (by omega) (ci_t (by omega) (ci_t (by omega) (bd_t (S_250 hc) (f145 0))))))
    · rw [if_neg (fun r => by omega)]
      exact ci_f (by omega) (ci_t (by omega) (ci_t (by omega) (ci_t (by omega) (bd_t (S_250 hc) (f145 1)))))
  · rw [if_neg (fun r => by omega)]
    exact ci_f (by omega) (ci_t (by omega) (ci_t (by omega) (ci_t (by omega) (bd_t (S_250 hc) (f145 1)))))
/-- and, or: w is what lets the second one matter -/
theorem S_249a {J : Nat → Nat → Int} {n : Nat} (hn : n + 1 < 200) {c w : Int} (hc : (c = 38 ∧ w = 1) ∨ (c = 124 ∧ w = 0)) (h2 : J 113 (n + 1) = 0 ∨ J 113 (n + 1) = 1) : Call PG (d + 2) 249 [(2, 82), (0, c), (0, (n : Int))] (J, RF sp rt tt z.1, z) = some (none, (if J 113 n = 0 ∧ J 112 n = w then up2 (up2 J 112 n (J 112 (n + 1))) 113 n (J 113 (n + 1)) else J, RF sp rt tt z.1, z)) := by
  have en : ((n : Int)).toNat = n := by omega
  have en1 : (((n + 1 : Nat) : Int)).toNat = n + 1 := by omega
  have t0 := T_249_0 (Call PG (d + 1)) J sp rt tt z c (n : Int)
  rw [w_n (by omega)] at t0
  have t16 := T_249_16 (Call PG (d + 1)) J sp rt tt z c (n : Int) ((n + 1 : Nat) : Int)
  rw [en, en1] at t16
  have k : Run PG (Call PG (d + 1)) 249 16 [(2, 82), (0, c), (0, (n : Int)), (0, ((n + 1 : Nat) : Int))] [] (J, RF sp rt tt z.1, z) (0, 0) = some (none, (if J 113 n = 0 ∧ J 112 n = w then up2 (up2 J 112 n (J 112 (n + 1))) 113 n (J 113 (n + 1)) else J, RF sp rt tt z.1, z)) := by
    refine t16.trans (ci_t (by omega) ?_)
    by_cases q : J 113 n = 0
    · refine ci_t q (ci_t (by omega) ?_)
      rcases hc with ⟨rfl, rfl⟩ | ⟨rfl, rfl⟩
      · refine ci_t rfl ?_
        by_cases v : J 112 n = 1
        · rw [if_pos (show J 113 n = 0 ∧ J 112 n = 1 from ⟨q, v⟩)]
          exact ci_t (lcm_1.2 v) (ci_t (by omega) (ci_t (by omega) (ci_t (by omega) (ci_t (by omega) (if_pos h2)))))
        · rw [if_neg (show ¬ (J 113 n = 0 ∧ J 112 n = 1) from fun r => v r.2)]
          exact ci_f (fun r => v (lcm_1.1 r)) rfl
      · refine ci_f (by decide) ?_
        by_cases v : J 112 n = 0
        · rw [if_pos (show J 113 n = 0 ∧ J 112 n = 0 from ⟨q, v⟩)]
          exact ci_t (lcm_0.2 v) (ci_t (by omega) (ci_t (by omega) (ci_t (by omega) (ci_t (by omega) (if_pos h2)))))
        · rw [if_neg (show ¬ (J 113 n = 0 ∧ J 112 n = 0) from fun r => v r.2)]
          exact ci_f (fun r => v (lcm_0.1 r)) rfl
    · rw [if_neg (show ¬ (J 113 n = 0 ∧ J 112 n = w) from fun r => q r.1)]
      exact ci_f q rfl
  refine (K_249 ..).trans (t0.trans ?_)
  rcases hc with ⟨c1, _⟩ | ⟨c1, _⟩
  · exact ci_t c1 k
  · exact ci_f (by omega) (ci_t c1 k)
/-- what lies on its stack at n -/
def VAL (J : Nat → Nat → Int) (n : Nat) (o : Option Int) : Prop := match o with
  | none => J 113 n = 1
  | some v => J 113 n = 0 ∧ J 112 n = v
theorem VAL_01 {J : Nat → Nat → Int} {n : Nat} {o : Option Int} (h : VAL J n o) : J 113 n = 0 ∨ J 113 n = 1 := by
  cases o with
  | none => exact Or.inr h
  | some v => exact Or.inl h.1
def EVR (I : Nat → Nat → Int) (sp rt : Nat) (tt : Nat → Nat) (z : Zs) (d i k a b : Nat) (e : FE) (f : FM) : Prop :=
  ∀ (n : Nat) (J : Nat → Nat → Int), n + b ≤ 199 + a → RWo I e J → ∃ J', Run PG (Call PG (d + 2)) 248 38 [(2, 82), (0, (k : Int)), (0, (n : Int)), (0, ((160 * i : Nat) : Int)), (0, ((160 * i + a : Nat) : Int))] [] (J, RF sp rt tt z.1, z) (0, 0) = Run PG (Call PG (d + 2)) 248 38 [(2, 82), (0, (k : Int)), (0, ((n + 1 : Nat) : Int)), (0, ((160 * i : Nat) : Int)), (0, ((160 * i + b : Nat) : Int))] [] (J', RF sp rt tt z.1, z) (0, 0) ∧ RWo I e J' ∧ (∀ x, x < n → J' 112 x = J 112 x ∧ J' 113 x = J 113 x) ∧ VAL J' n (f e)
theorem E_248 (hF : FINDS I sp rt tt z (d + 1) e) {i k bend : Nat} (hi : i < 30) (hk : k < 360) (hb : I 105 k = (bend : Int)) (hbe : bend ≤ 160) {a b : Nat} {f : FM} (h : Cr (fun x => I 106 (160 * i + x)) (fun x => I 107 (160 * i + x)) a b f) : b ≤ bend → EVR I sp rt tt z d i k a b e f := by
  -- the loop's head
  have hd : ∀ (n a : Nat) (J : Nat → Nat → Int) (X Y : Option Res), RWo I e J → a < bend → n < 200 → (I 106 (160 * i + a) ≤ 2 → (ci (0 ≤ ((160 * i + a : Nat) : Int) ∧ ((160 * i + a : Nat) : Int) < 4800) (ci (I 106 (160 * i + a) = 2) (ci (0 ≤ w32 ((n : Int) - 1) ∧ w32 ((n : Int) - 1) < 200) (ci (0 ≤ w32 ((n : Int) - 1) ∧ w32 ((n : Int) - 1) < 200) (Run PG (Call PG (d + 2)) 248 38 [(2, 82), (0, (k : Int)), (0, (n : Int)), (0, ((160 * i : Nat) : Int)), (0, ((160 * i + a + 1 : Nat) : Int))] [] (up2 J 112 (w32 ((n : Int) - 1)).toNat (w64 (1 - J 112 (w32 ((n : Int) - 1)).toNat)), RF sp rt tt z.1, z) (0, 0)) none) none) (ci (0 ≤ (n : Int) ∧ (n : Int) < 200) (ci (0 ≤ ((160 * i + a : Nat) : Int) ∧ ((160 * i + a : Nat) : Int) < 4800) (ci (I 106 (160 * i + a) = 0) (ci (0 ≤ ((160 * i + a : Nat) : Int) ∧ ((160 * i + a : Nat) : Int) < 4800) (Run PG (Call PG (d + 2)) 248 158 [(2, 82), (0, (k : Int)), (0, (n : Int)), (0, ((160 * i : Nat) : Int)), (0, ((160 * i + a : Nat) : Int))] [(1, I 107 (160 * i + a)), (0, (n : Int)), (2, 112)] (up2 J 113 n 0, RF sp rt tt z.1, z) (0, 0)) none) (ci (0 ≤ ((160 * i + a : Nat) : Int) ∧ ((160 * i + a : Nat) : Int) < 4800) (bd (Call PG (d + 2) 251 [(2, 82), (0, I 107 (160 * i + a))] (up2 J 113 n 0, RF sp rt tt z.1, z)) (fun v h => Run PG (Call PG (d + 2)) 248 158 [(2, 82), (0, (k : Int)), (0, (n : Int)), (0, ((160 * i : Nat) : Int)), (0, ((160 * i + a : Nat) : Int))] (v.toList ++ [(0, (n : Int)), (2, 112)]) h (0, 0))) none)) none) none)) none) = X) → (2 < I 106 (160 * i + a) → bd (Call PG (d + 2) 249 [(2, 82), (0, I 106 (160 * i + a)), (0, w32 (w32 ((n : Int) + -1) - 1))] (J, RF sp rt tt z.1, z)) (fun v h => Run PG (Call PG (d + 2)) 248 79 [(2, 82), (0, (k : Int)), (0, w32 ((n : Int) + -1)), (0, ((160 * i : Nat) : Int)), (0, ((160 * i + a : Nat) : Int))] (v.toList ++ []) h (0, 0)) = Y) → Run PG (Call PG (d + 2)) 248 38 [(2, 82), (0, (k : Int)), (0, (n : Int)), (0, ((160 * i : Nat) : Int)), (0, ((160 * i + a : Nat) : Int))] [] (J, RF sp rt tt z.1, z) (0, 0) = (if I 106 (160 * i + a) ≤ 2 then X else Y) := by
    intro n a J X Y hJ ha hn hX hY
    have e105 : J 105 k = (bend : Int) := (hJ.1 105 k (by omega) (by omega)).trans hb
    have e106 : J 106 (160 * i + a) = I 106 (160 * i + a) := hJ.1 106 _ (by omega) (by omega)
    have e107 : J 107 (160 * i + a) = I 107 (160 * i + a) := hJ.1 107 _ (by omega) (by omega)
    have t := T_248_38 (Call PG (d + 2)) J sp rt tt z (k : Int) (n : Int) ((160 * i : Nat) : Int) ((160 * i + a : Nat) : Int)
    rw [show ((k : Int)).toNat = k by omega, show (((160 * i + a : Nat) : Int)).toNat = 160 * i + a by omega, show ((n : Int)).toNat = n by omega, e105, e106, e107, w32_of (x := ((160 * i + a : Nat) : Int) + 1) (by omega) (by omega), show ((160 * i + a : Nat) : Int) + 1 = ((160 * i + a + 1 : Nat) : Int) by omega] at t
    refine t.trans (ci_t (by omega) ?_)
    have ew : w32 (((160 * i : Nat) : Int) + (bend : Int)) = ((160 * i + bend : Nat) : Int) := by
      rw [w32_of (by omega) (by omega)]; omega
    rw [ew]
    clear ew
    refine ci_t (by omega) (ci_t (by omega) ?_)
    by_cases q : I 106 (160 * i + a) ≤ 2
    · rw [if_pos q]
      exact ci_t q (hX q)
    · rw [if_neg q]
      exact ci_f q (ci_t (by omega) (hY (by omega)))
  have h158 : ∀ (n a : Nat) (J : Nat → Nat → Int) (v : Int), n < 200 → a < 160 → Run PG (Call PG (d + 2)) 248 158 [(2, 82), (0, (k : Int)), (0, (n : Int)), (0, ((160 * i : Nat) : Int)), (0, ((160 * i + a : Nat) : Int))] [(1, v), (0, (n : Int)), (2, 112)] (J, RF sp rt tt z.1, z) (0, 0) = Run PG (Call PG (d + 2)) 248 38 [(2, 82), (0, (k : Int)), (0, ((n + 1 : Nat) : Int)), (0, ((160 * i : Nat) : Int)), (0, ((160 * i + (a + 1) : Nat) : Int))] [] (up2 J 112 n v, RF sp rt tt z.1, z) (0, 0) := by
    intro n a J v hn ha
    refine (T_248_158 ..).trans (ci_t (by omega) ?_)
    rw [show ((n : Int)).toNat = n by omega, w_n (by omega), w32_of (x := ((160 * i + a : Nat) : Int) + 1) (by omega) (by omega), show ((160 * i + a : Nat) : Int) + 1 = ((160 * i + (a + 1) : Nat) : Int) by omega]
  have step2 : ∀ (n a : Nat) (J J' : Nat → Nat → Int) (c : Int), RWo I e J → a < bend → n + 2 < 200 → I 106 (160 * i + a) = c → 2 < c → Call PG (d + 2) 249 [(2, 82), (0, c), (0, (n : Int))] (J, RF sp rt tt z.1, z) = some (none, (J', RF sp rt tt z.1, z)) → Run PG (Call PG (d + 2)) 248 38 [(2, 82), (0, (k : Int)), (0, ((n + 1 + 1 : Nat) : Int)), (0, ((160 * i : Nat) : Int)), (0, ((160 * i + a : Nat) : Int))] [] (J, RF sp rt tt z.1, z) (0, 0) = Run PG (Call PG (d + 2)) 248 38 [(2, 82), (0, (k : Int)), (0, ((n + 1 : Nat) : Int)), (0, ((160 * i : Nat) : Int)), (0, ((160 * i + (a + 1) : Nat) : Int))] [] (J', RF sp rt tt z.1, z) (0, 0) := by
    intro n a J J' c hJ ha hn hc h2 e249
    have r := hd (n + 1 + 1) a J none (Run PG (Call PG (d + 2)) 248 38 [(2, 82), (0, (k : Int)), (0, ((n + 1 : Nat) : Int)), (0, ((160 * i : Nat) : Int)), (0, ((160 * i + (a + 1) : Nat) : Int))] [] (J', RF sp rt tt z.1, z) (0, 0)) hJ ha (by omega) (fun q => absurd q (by omega)) (fun _ => by
      have ew : ∀ _ : Unit, w32 (((n + 1 + 1 : Nat) : Int) + -1) = ((n + 1 : Nat) : Int) := fun _ => by rw [w32_of (by omega) (by omega)]; omega
      have ew2 : ∀ _ : Unit, w32 (((n + 1 : Nat) : Int) - 1) = (n : Int) := fun _ => by rw [w32_of (by omega) (by omega)]; omega
      rw [ew (), ew2 (), hc]
      refine bd_t e249 ?_
      refine (T_248_79 ..).trans ?_
      rw [w32_of (x := ((160 * i + a : Nat) : Int) + 1) (by omega) (by omega), show ((160 * i + a : Nat) : Int) + 1 = ((160 * i + (a + 1) : Nat) : Int) by omega])
    rw [if_neg (by omega)] at r
    exact r
  refine Cr_ind (Q := fun a b f => b ≤ bend → EVR I sp rt tt z d i k a b e f) h ?_ ?_ ?_ ?_ ?_ ?_
  · intro a v h1 h2 h3 h4 hle n J hn hJ
    have r := hd n a J (Run PG (Call PG (d + 2)) 248 38 [(2, 82), (0, (k : Int)), (0, ((n + 1 : Nat) : Int)), (0, ((160 * i : Nat) : Int)), (0, ((160 * i + (a + 1) : Nat) : Int))] [] (up2 (up2 J 113 n 0) 112 n v, RF sp rt tt z.1, z) (0, 0)) none hJ (by omega) (by omega) (fun _ => by
      rw [h2]
      exact ci_t (by omega) (ci_f (by omega) (ci_t (by omega) (ci_t (by omega) (ci_t h1 (ci_t (by omega) (h158 n a _ v (by omega) (by omega))))))))  (fun q => absurd q (by omega))
    rw [if_pos (by omega)] at r
    refine ⟨_, r, RW_u (RW_u hJ (Or.inr rfl)) (Or.inl rfl), fun x hx => ⟨?_, ?_⟩, ?_, up2_eq⟩
    · rw [up2_nj (by omega), up2_ne (by decide)]
    · rw [up2_ne (by decide), up2_nj (by omega)]
    · rw [up2_ne (by decide), up2_eq]
  · intro a kk h1 h2 h3 h4 hle n J hn hJ
    have h2' : 0 ≤ I 107 (160 * i + a) := h2
    have h3' : I 107 (160 * i + a) < 128 := h3
    obtain ⟨c, hc⟩ := Int.eq_ofNat_of_zero_le h2'
    have h4' : lix (c : Int) = (kk : Int) := by
      have : lix (I 107 (160 * i + a)) = (kk : Int) := h4
      rwa [hc] at this
    obtain ⟨K, e1, hK, k1, k2⟩ := S_251 hF (RW_u (a := 113) (j := n) (x := 0) hJ (Or.inr rfl)) (c := c) (by omega) (by omega)
    rw [h4'] at e1
    have r := hd n a J (Run PG (Call PG (d + 2)) 248 38 [(2, 82), (0, (k : Int)), (0, ((n + 1 : Nat) : Int)), (0, ((160 * i : Nat) : Int)), (0, ((160 * i + (a + 1) : Nat) : Int))] [] (up2 K 112 n (e kk), RF sp rt tt z.1, z) (0, 0)) none hJ (by omega) (by omega) (fun _ => by
      have h1' : I 106 (160 * i + a) = 1 := h1
      rw [hc]
      exact ci_t (by omega) (ci_f (by omega) (ci_t (by omega) (ci_t (by omega) (ci_f (by omega) (ci_t (by omega) (bd_t e1 (h158 n a _ _ (by omega) (by omega)))))))))  (fun q => absurd q (by have h1' : I 106 (160 * i + a) = 1 := h1; omega))
    rw [if_pos (by have h1' : I 106 (160 * i + a) = 1 := h1; omega)] at r
    refine ⟨_, r, RW_u hK (Or.inl rfl), fun x hx => ⟨?_, ?_⟩, ?_, up2_eq⟩
    · rw [up2_nj (by omega), k1, up2_ne (by decide)]
    · rw [up2_ne (by decide), k2, up2_nj (by omega)]
    · rw [up2_ne (by decide), k2, up2_eq]
  · intro a m b c f g q1 q2 h3 h4 i1 i2 hle n J hn hJ
    have l1 := Cr_lt q1
    have l2 := Cr_lt q2
    obtain ⟨J1, e1, hJ1, u1, v1⟩ := i1 (by omega) n J (by omega) hJ
    obtain ⟨J2, e2, hJ2, u2, v2⟩ := i2 (by omega) (n + 1) J1 (by omega) hJ1
    have z0 : J2 113 n = 0 ∨ J2 113 n = 1 := by rw [(u2 n (by omega)).2]; exact VAL_01 v1
    have z1 := VAL_01 v2
    have e3 := step2 n b J2 _ c hJ2 (by omega) (by omega) h3 (by omega) (S_249b (d := d) (by omega) h4 z0 z1)
    refine ⟨_, e1.trans (e2.trans e3), RW_u (RW_u hJ2 (Or.inr rfl)) (Or.inl rfl), fun x hx => ⟨?_, ?_⟩, ?_⟩
    · rw [up2_nj (by omega), up2_ne (by decide), (u2 x (by omega)).1, (u1 x hx).1]
    · rw [up2_ne (by decide), up2_nj (by omega), (u2 x (by omega)).2, (u1 x hx).2]
    · have a1 : VAL J2 n (f e) := by
        have := u2 n (by omega)
        unfold VAL at v1 ⊢
        rw [this.1, this.2]
        exact v1
      unfold binF
      cases hf : f e with
      | none =>
        rw [hf] at a1
        have a1' : J2 113 n = 1 := a1
        show up2 _ 112 n _ 113 n = 1
        rw [up2_ne (by decide), up2_eq, if_neg (fun r => by omega)]
      | some v =>
        rw [hf] at a1
        cases hg : g e with
        | none =>
          rw [hg] at v2
          have v2' : J2 113 (n + 1) = 1 := v2
          show up2 _ 112 n _ 113 n = 1
          rw [up2_ne (by decide), up2_eq, if_neg (fun r => by omega)]
        | some w =>
          rw [hg] at v2
          dsimp only
          rw [a1.2, v2.2]
          by_cases cd : (c = 47 ∨ c = 37) ∧ w = 0
          · rw [if_pos cd]
            show up2 _ 112 n _ 113 n = 1
            rw [up2_ne (by decide), up2_eq, if_neg (fun r => r.2.2 cd)]
          · rw [if_neg cd]
            refine ⟨?_, up2_eq⟩
            rw [up2_ne (by decide), up2_eq, if_pos ⟨a1.1, v2.1, cd⟩]
  · intro a b f q1 h2 h3 i1 hle n J hn hJ
    have l1 := Cr_lt q1
    obtain ⟨J1, e1, hJ1, u1, v1⟩ := i1 (by omega) n J (by omega) hJ
    have h2' : I 106 (160 * i + b) = 2 := h2
    have ew : ∀ _ : Unit, w32 (((n + 1 : Nat) : Int) - 1) = (n : Int) := fun _ => by rw [w32_of (by omega) (by omega)]; omega
    have r := hd (n + 1) b J1 (Run PG (Call PG (d + 2)) 248 38 [(2, 82), (0, (k : Int)), (0, ((n + 1 : Nat) : Int)), (0, ((160 * i : Nat) : Int)), (0, ((160 * i + (b + 1) : Nat) : Int))] [] (up2 J1 112 n (w64 (1 - J1 112 n)), RF sp rt tt z.1, z) (0, 0)) none hJ1 (by omega) (by omega) (fun _ => by
      rw [ew (), show ((n : Int)).toNat = n by omega]
      exact ci_t (by omega) (ci_t h2' (ci_t (by omega) (ci_t (by omega) rfl)))) (fun q => absurd q (by omega))
    rw [if_pos (by omega)] at r
    refine ⟨_, e1.trans r, RW_u hJ1 (Or.inl rfl), fun x hx => ⟨?_, ?_⟩, ?_⟩
    · rw [up2_nj (by omega), (u1 x hx).1]
    · rw [up2_ne (by decide), (u1 x hx).2]
    · unfold notF
      cases hf : f e with
      | none =>
        rw [hf] at v1
        show up2 _ 112 n _ 113 n = 1
        rw [up2_ne (by decide)]
        exact v1
      | some v =>
        have hv := h3 _ _ hf
        rw [hf] at v1
        refine ⟨?_, ?_⟩
        · rw [up2_ne (by decide)]
          exact v1.1
        · rw [up2_eq, v1.2, w64_of (by omega) (by omega)]
  · intro a m b f g q1 q2 h3 bf bg i1 i2 hle n J hn hJ
    have l1 := Cr_lt q1
    have l2 := Cr_lt q2
    obtain ⟨J1, e1, hJ1, u1, v1⟩ := i1 (by omega) n J (by omega) hJ
    obtain ⟨J2, e2, hJ2, u2, v2⟩ := i2 (by omega) (n + 1) J1 (by omega) hJ1
    have z1 := VAL_01 v2
    have e3 := step2 n b J2 _ 38 hJ2 (by omega) (by omega) h3 (by decide) (S_249a (d := d) (w := 1) (by omega) (Or.inl ⟨rfl, rfl⟩) z1)
    have a1 : VAL J2 n (f e) := by
      have := u2 n (by omega)
      unfold VAL at v1 ⊢
      rw [this.1, this.2]
      exact v1
    refine ⟨_, e1.trans (e2.trans e3), ?_, fun x hx => ?_, ?_⟩
    · split
      · exact RW_u (RW_u hJ2 (Or.inl rfl)) (Or.inr rfl)
      · exact hJ2
    · have w := u2 x (by omega)
      have y := u1 x hx
      split
      · rw [up2_ne (by decide), up2_nj (by omega), up2_nj (by omega), up2_ne (by decide), w.1, w.2]
        exact y
      · rw [w.1, w.2]
        exact y
    · unfold andF
      cases hf : f e with
      | none =>
        rw [hf] at a1
        have a1' : J2 113 n = 1 := a1
        rw [if_neg (fun r => by omega)]
        exact a1'
      | some v =>
        have hv := bf _ _ hf
        rw [hf] at a1
        dsimp only
        by_cases v0 : v = 0
        · rw [if_pos v0, if_neg (fun r => by have := a1.2; omega)]
          exact ⟨a1.1, a1.2.trans v0⟩
        · rw [if_neg v0, if_pos ⟨a1.1, by rw [a1.2]; omega⟩]
          cases hg : g e with
          | none =>
            rw [hg] at v2
            show up2 _ 113 n _ 113 n = 1
            rw [up2_eq]
            exact v2
          | some w =>
            rw [hg] at v2
            refine ⟨?_, ?_⟩
            · rw [up2_eq]; exact v2.1
            · rw [up2_ne (by decide), up2_eq]; exact v2.2
  · intro a m b f g q1 q2 h3 bf bg i1 i2 hle n J hn hJ
    have l1 := Cr_lt q1
    have l2 := Cr_lt q2
    obtain ⟨J1, e1, hJ1, u1, v1⟩ := i1 (by omega) n J (by omega) hJ
    obtain ⟨J2, e2, hJ2, u2, v2⟩ := i2 (by omega) (n + 1) J1 (by omega) hJ1
    have z1 := VAL_01 v2
    have e3 := step2 n b J2 _ 124 hJ2 (by omega) (by omega) h3 (by decide) (S_249a (d := d) (w := 0) (by omega) (Or.inr ⟨rfl, rfl⟩) z1)
    have a1 : VAL J2 n (f e) := by
      have := u2 n (by omega)
      unfold VAL at v1 ⊢
      rw [this.1, this.2]
      exact v1
    refine ⟨_, e1.trans (e2.trans e3), ?_, fun x hx => ?_, ?_⟩
    · split
      · exact RW_u (RW_u hJ2 (Or.inl rfl)) (Or.inr rfl)
      · exact hJ2
    · have w := u2 x (by omega)
      have y := u1 x hx
      split
      · rw [up2_ne (by decide), up2_nj (by omega), up2_nj (by omega), up2_ne (by decide), w.1, w.2]
        exact y
      · rw [w.1, w.2]
        exact y
    · unfold orF
      cases hf : f e with
      | none =>
        rw [hf] at a1
        have a1' : J2 113 n = 1 := a1
        rw [if_neg (fun r => by omega)]
        exact a1'
      | some v =>
        have hv := bf _ _ hf
        rw [hf] at a1
        dsimp only
        by_cases v0 : v = 0
        · rw [if_pos v0, if_pos ⟨a1.1, by rw [a1.2]; omega⟩]
          cases hg : g e with
          | none =>
            rw [hg] at v2
            show up2 _ 113 n _ 113 n = 1
            rw [up2_eq]
            exact v2
          | some w =>
            rw [hg] at v2
            refine ⟨?_, ?_⟩
            · rw [up2_eq]; exact v2.1
            · rw [up2_ne (by decide), up2_eq]; exact v2.2
        · rw [if_neg v0, if_neg (fun r => by have := a1.2; omega)]
          exact ⟨a1.1, a1.2.trans (by omega)⟩
theorem S_248 (hF : FINDS I sp rt tt z (d + 1) e) {i j a b : Nat} (hi : i < 30) (hj : j < 12) (ha : I 104 (12 * i + j) = (a : Int)) (hb : I 105 (12 * i + j) = (b : Int)) (hbe : b ≤ 160) {f : FM} (h : Cr (fun x => I 106 (160 * i + x)) (fun x => I 107 (160 * i + x)) a b f) (hf : BoolF f) {J : Nat → Nat → Int} (hJ : RWo I e J) : ∃ J', Call PG (d + 3) 248 [(2, 82), (0, ((12 * i + j : Nat) : Int))] (J, RF sp rt tt z.1, z) = some (some (0, rs3 (f e)), (J', RF sp rt tt z.1, z)) ∧ RWo I e J' := by
  have l := Cr_lt h
  have e104 : J 104 (12 * i + j) = (a : Int) := (hJ.1 104 _ (by omega) (by omega)).trans ha
  have e105 : J 105 (12 * i + j) = (b : Int) := (hJ.1 105 _ (by omega) (by omega)).trans hb
  obtain ⟨J', e1, hJ', _, v⟩ := E_248 (k := 12 * i + j) hF hi (by omega) hb hbe h (Nat.le_refl _) 0 J (by omega) hJ
  have e105' : J' 105 (12 * i + j) = (b : Int) := (hJ'.1 105 _ (by omega) (by omega)).trans hb
  have k1 : Call PG (d + 3) 248 [(2, 82), (0, ((12 * i + j : Nat) : Int))] (J, RF sp rt tt z.1, z) = Run PG (Call PG (d + 2)) 248 38 [(2, 82), (0, ((12 * i + j : Nat) : Int)), (0, ((0 : Nat) : Int)), (0, ((160 * i : Nat) : Int)), (0, ((160 * i + a : Nat) : Int))] [] (J, RF sp rt tt z.1, z) (0, 0) := by
    refine (K_248 ..).trans ((T_248_0 ..).trans ?_)
    rw [show (((12 * i + j : Nat) : Int)).toNat = 12 * i + j by omega, e104, e105]
    have ed : Int.tdiv ((12 * i + j : Nat) : Int) 12 = (i : Int) := by
      rw [Int.tdiv_eq_ediv_of_nonneg (by omega)]
      omega
    rw [ed, w32_of (x := (i : Int)) (by omega) (by omega), w32_of (x := (i : Int) * 160) (by omega) (by omega), w32_of (x := (i : Int) * 160 + a) (by omega) (by omega), show (i : Int) * 160 = ((160 * i : Nat) : Int) by omega, show ((160 * i : Nat) : Int) + (a : Int) = ((160 * i + a : Nat) : Int) by omega]
    exact ci_t (by omega) (ci_t (by omega) (ci_f (by omega) (ci_t (by omega) rfl)))
  refine ⟨J', k1.trans (e1.trans ?_), hJ'⟩
  refine (T_248_38 ..).trans (ci_t (by omega) ?_)
  rw [show (((12 * i + j : Nat) : Int)).toNat = 12 * i + j by omega, e105', w32_of (x := ((160 * i : Nat) : Int) + (b : Int)) (by omega) (by omega)]
  refine ci_f (by omega) (ci_t (by decide) ?_)
  cases hv : f e with
  | none =>
    rw [hv] at v
    have v' : J' 113 0 = 1 := v
    exact ci_f (by omega) rfl
  | some w =>
    have hw := hf _ _ hv
    rw [hv] at v
    refine ci_t v.1 (ci_t (by decide) ?_)
    rw [v.2, w32_of (by omega) (by omega)]
    rfl
/-- a clause without a condition -/
theorem S_248n {i j : Nat} (hi : i < 30) (hj : j < 12) {J : Nat → Nat → Int} (h : J 104 (12 * i + j) = J 105 (12 * i + j)) : Call PG (d + 1) 248 [(2, 82), (0, ((12 * i + j : Nat) : Int))] (J, RF sp rt tt z.1, z) = some (some (0, 1), (J, RF sp rt tt z.1, z)) := by
  refine (K_248 ..).trans ((T_248_0 ..).trans ?_)
  rw [show (((12 * i + j : Nat) : Int)).toNat = 12 * i + j by omega]
  exact ci_t (by omega) (ci_t (by omega) (ci_t h rfl))
end ER0

