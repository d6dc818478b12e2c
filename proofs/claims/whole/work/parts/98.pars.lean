/-! texts: the reader's numbers, factors, products and sums -/
theorem q_tr {Q : Option Res → Prop} {x y : Option Res} (e : x = y) (g : Q y) : Q x := by rw [e]; exact g
theorem q_ct {Q : Option Res → Prop} {c : Prop} {a b : Option Res} (h : c) (g : Q a) : Q (ci c a b) := by rw [ci_t h rfl]; exact g
theorem q_cf {Q : Option Res → Prop} {c : Prop} {a b : Option Res} (h : ¬ c) (g : Q b) : Q (ci c a b) := by rw [ci_f h rfl]; exact g
theorem q_bd {Q : Option Res → Prop} {x : Option Res} {v : Option AV} {h : Hp} {f : Option AV → Hp → Option Res} (e : x = some (v, h)) (g : Q (f v h)) : Q (bd x f) := by rw [bd_some e]; exact g
theorem q_it {Q : Option Res → Prop} {c : Prop} [Decidable c] {a b : Option Res} (h : c) (g : Q a) : Q (if c then a else b) := by rw [if_pos h]; exact g
theorem q_if {Q : Option Res → Prop} {c : Prop} [Decidable c] {a b : Option Res} (h : ¬ c) (g : Q b) : Q (if c then a else b) := by rw [if_neg h]; exact g
theorem q_nn {Q : Option Res → Prop} {r0 : Int} {n : Nat} {t0 : Option Res} {f : Nat → Option Res} (e : r0.toNat = n + 1) (g : Q (f n)) : Q (nn r0 t0 f) := by rw [nn_some e]; exact g
/-- what a reading comes to -/
def OCo (n a p0 : Nat) (fc : Int) (le : Nat) (co : Nat → Int) (dd : Nat) (r : PR) (v : Int) (p' : Nat) (fc' : Int) (cl' le' : Nat) (co' : Nat → Int) : Prop := match r with
  | .inl e => v = 0 ∧ fc' = e
  | .inr (j, f) => v = 1 ∧ p' = j ∧ fc' = fc ∧ (a < cl' ∧ cl' + p0 ≤ a + j ∧ p0 < j ∧ j ≤ n) ∧ (∀ x, x < a → co' x = co x) ∧ le' < 4096 ∧ (∀ k, le.testBit k = true → le'.testBit k = true) ∧ Cd (fun k => le'.testBit k = true) co' a cl' dd f
def RES (T : Nat) (I : Nat → Nat → Int) (sp rt : Nat) (tt : Nat → Nat) (z : Zs) (n a p0 : Nat) (fc : Int) (le : Nat) (co : Nat → Int) (dd : Nat) (r : PR) (res : Option Res) : Prop :=
  ∃ (v : Int) (p' : Nat) (va' fc' : Int) (cl' le' : Nat) (co' : Nat → Int), res = some (some (0, v), (HC T I p' va' fc' cl' le' co', RF sp rt tt z.1, z)) ∧ OCo n a p0 fc le co dd r v p' fc' cl' le' co'
/-- method m reads what sub says -/
def CS (T : Nat) (I : Nat → Nat → Int) (sp rt : Nat) (tt : Nat → Nat) (z : Zs) (n m : Nat) (o : Int) (D dd : Nat) (sub : Nat → PR) : Prop :=
  ∀ (p cl : Nat) (va fc : Int) (le : Nat) (co : Nat → Int), cl ≤ p → p ≤ n → le < 4096 → RES T I sp rt tt z n cl p fc le co dd (sub p) (Call PG D m [(2, 22), (0, o)] (HC T I p va fc cl le co, RF sp rt tt z.1, z))
section PA0
variable {I : Nat → Nat → Int} {sp rt : Nat} {tt : Nat → Nat} {z : Zs} {T n : Nat}
theorem le_or {le k : Nat} (hl : le < 4096) (hk : k < 12) : io32 (le : Int) (shl32 1 (k : Int)) = ((le ||| 2 ^ k : Nat) : Int) ∧ (le ||| 2 ^ k) < 4096 := by
  have e : (2 : Nat) ^ k < 2 ^ 12 := Nat.pow_lt_pow_right (by omega) hk
  rw [shl_n (by omega), io_n (by omega) (by omega)]
  exact ⟨rfl, Nat.or_lt_two_pow (n := 12) hl e⟩
theorem le_k {le k : Nat} : (le ||| 2 ^ k).testBit k = true := by rw [Nat.testBit_or, Nat.testBit_two_pow_self, Bool.or_true]
theorem le_u {le k j : Nat} (h : le.testBit j = true) : (le ||| 2 ^ k).testBit j = true := by rw [Nat.testBit_or, h, Bool.true_or]
theorem uc_s {co : Nat → Int} {i : Nat} {x : Int} : uc co i x i = x := by unfold uc; rw [if_pos rfl]
theorem uc_o {co : Nat → Int} {i j : Nat} {x : Int} (h : ¬ j = i) : uc co i x j = co j := by unfold uc; rw [if_neg h]
theorem C_42 (h : CX I sp rt tt z T n) {l E : Nat} {o : Int} {sub : Nat → PR} (ho : o = 6 - (l : Int) ∧ l ≤ 5) (hE : 3 ≤ E) (hs : l = 0 ∨ CS T I sp rt tt z n 40 (o + 1) E (2 * l + 1) sub) : CS T I sp rt tt z n 42 o (E + 1) (2 * l + 1) (FACT (qc (I (T + 1)) n) l sub) := by
  intro p cl va fc le co hcl hp hle
  obtain ⟨d, rfl⟩ : ∃ d, E = d + 3 := ⟨E - 3, by omega⟩
  have hq := qc_OQ (I (T + 1)) n
  have hm := h.2.2.2
  refine q_tr (K_42 ..) (q_tr (T_42_0 ..) (q_bd (S_29 h) (q_tr (T_42_4 ..) ?_)))
  unfold FACT
  by_cases c : qc (I (T + 1)) n p = 91
  · rw [if_pos c]
    refine q_ct c ?_
    by_cases c2 : l = 0
    · rw [if_pos c2, hc_1]
      refine q_cf (by omega) (q_bd (S_30 (by decide) (by omega)) (q_tr (T_42_26 ..) (q_it (Or.inl rfl) ?_)))
      exact ⟨0, p, va, fau 5 p, cl, le, co, rfl, rfl, rfl⟩
    · rw [if_neg c2, hc_1, w_n (by omega), hu_1, w32_of (x := o + 1) (by omega) (by omega)]
      have hl := OQ_lt hq (by decide) c
      obtain ⟨v, p', va', fc', cl', le', co', e, oc⟩ := (hs.resolve_left c2) (p + 1) cl va fc le co (by omega) (by omega) hle
      refine q_ct (by omega) (q_bd e (q_tr (T_42_44 ..) ?_))
      cases hsub : sub (p + 1) with
      | inl e0 =>
        rw [hsub] at oc
        obtain ⟨rfl, rfl⟩ := oc
        exact q_ct rfl ⟨0, p', va', _, cl', le', co', rfl, rfl, rfl⟩
      | inr w =>
        obtain ⟨j, f⟩ := w
        rw [hsub] at oc
        obtain ⟨rfl, rfl, rfl, o1, o2, o3, o4, o5⟩ := oc
        refine q_cf (by decide) ?_
        dsimp only
        by_cases c3 : qc (I (T + 1)) n p' = 93
        · have hl2 := OQ_lt hq (by decide) c3
          rw [if_pos c3]
          refine q_bd ((S_35 h (by omega)).trans (if_pos c3)) (q_tr (T_42_53 ..) (q_cf (by decide) ?_))
          exact ⟨1, p' + 1, va', _, cl', le', co', rfl, rfl, rfl, rfl, by omega, o2, o3, o4, o5⟩
        · rw [if_neg c3]
          refine q_bd ((S_35 h (by omega)).trans (if_neg c3)) (q_tr (T_42_53 ..) (q_ct rfl ?_))
          exact ⟨0, p', va', _, cl', le', co', rfl, rfl, rfl⟩
  · rw [if_neg c]
    refine q_cf c (q_bd S_34d (q_tr (T_42_66 ..) ?_))
    by_cases c2 : dig (qc (I (T + 1)) n p)
    · rw [if_pos c2, bz_t c2]
      obtain ⟨p', va', e⟩ := S_33 (d := d) (va := va) (fc := fc) (cl := cl) (le := le) (co := co) h hp
      refine q_cf (by decide) ?_
      cases hn : NUM (qc (I (T + 1)) n) p with
      | inl e0 =>
        rw [hn] at e
        refine q_bd e (q_tr (T_42_73 ..) (q_ct rfl ?_))
        exact ⟨0, p', va', _, cl, le, co, rfl, rfl, rfl⟩
      | inr w =>
        obtain ⟨j, v⟩ := w
        rw [hn] at e
        have hk := (NUM_ok hq p).2 j v hn
        have hv := NUM_v hn
        refine q_bd e (q_tr (T_42_73 ..) (q_cf (by decide) ?_))
        rw [hc_2]
        refine q_bd (S_39 h (by omega) (by decide) (by omega)) (q_tr (T_42_86 ..) (q_cf (by decide) ?_))
        refine ⟨1, j, v, _, cl + 1, le, _, rfl, rfl, rfl, rfl, by omega, fun x hx => uc_o (by omega), hle, fun k hk => hk, Cd_cl.1 uc_s hv.1 hv.2⟩
    · rw [if_neg c2, bz_f c2]
      refine q_ct rfl ?_
      have hr := qc_rng (I (T + 1)) n p
      by_cases c3 : qc (I (T + 1)) n p = -1
      · have e : ¬ 0 ≤ lix (qc (I (T + 1)) n p) := by rw [c3]; decide
        rw [if_neg e, hc_1]
        refine q_ct c3 (q_ct (by decide) (q_bd (S_30 (by decide) (by omega)) (q_tr (T_42_125 ..) (q_it (Or.inl rfl) ?_))))
        exact ⟨0, p, va, _, cl, le, co, rfl, rfl, rfl⟩
      · have em : qc (I (T + 1)) n p % 65536 = qc (I (T + 1)) n p := by omega
        rw [em]
        refine q_cf c3 (q_it (by omega) ?_)
        have ex : idxOf [115, 100, 103, 109, 98, 97, 111, 119, 108, 104, 121, 113] 0 (qc (I (T + 1)) n p) = lix (qc (I (T + 1)) n p) := rfl
        rw [ex]
        have hx := lix_in (qc (I (T + 1)) n p)
        have hl : p < n := by
          by_cases k : n ≤ p
          · exact absurd (hq.1 p k) c3
          · omega
        by_cases c4 : 0 ≤ lix (qc (I (T + 1)) n p)
        · rw [if_pos c4]
          obtain ⟨k, hk⟩ := Int.eq_ofNat_of_zero_le c4
          rw [hk] at hx ⊢
          have hk2 : k < 12 := by omega
          have lo := le_or hle hk2
          refine q_cf (by omega) (q_nn h.1 (q_it (by rw [h.2.1.2.1]) (q_it (by rw [h.2.1.2.1]) ?_)))
          rw [hc_1, w_n (by omega), hu_1, hc_16 h.2.1.1.1, hu_16 h.2.1.1.1, lo.1]
          refine q_bd (S_39 h (by omega) (by decide) (by omega)) (q_tr (T_42_158 ..) (q_it (Or.inr rfl) ?_))
          exact ⟨1, p + 1, va, fc, cl + 1, le ||| 2 ^ k, _, rfl, rfl, rfl, rfl, by omega, fun x hx => uc_o (by omega), lo.2, fun j hj => le_u hj, Cd_cl.2.1 uc_s hk2 le_k⟩
        · rw [if_neg c4, hc_1]
          refine q_ct (by omega) (q_bd (S_30 (by decide) (by omega)) (q_tr (T_42_125 ..) (q_it (Or.inl rfl) ?_)))
          exact ⟨0, p, va, _, cl, le, co, rfl, rfl, rfl⟩
theorem L_41 (h : CX I sp rt tt z T n) {E dd : Nat} {o : Int} {sub : Nat → PR} (hs : CS T I sp rt tt z n 42 o (E + 1) dd sub) {a p0 : Nat} {co0 : Nat → Int} {le0 : Nat} {fc : Int} (ha : a ≤ p0) : ∀ (k t p cl : Nat) (va : Int) (le : Nat) (co : Nat → Int) (f : FM) (x : AV), dl x → n ≤ k + p → 2 * t ≤ p + 1 → p ≤ n → (a < cl ∧ cl + p0 ≤ a + p ∧ p0 < p) → (∀ x, x < a → co x = co0 x) → le < 4096 → (∀ k, le0.testBit k = true → le.testBit k = true) → Cd (fun k => le.testBit k = true) co a cl (dd + 1) f → RES T I sp rt tt z n a p0 fc le0 co0 (dd + 1) (chL (qc (I (T + 1)) n) tT sub k p f) (Run PG (Call PG (E + 1)) 41 12 [(2, 22), (0, o), (0, (t : Int)), x] [] (HC T I p va fc cl le co, RF sp rt tt z.1, z) (0, 0)) := by
  have hq := qc_OQ (I (T + 1)) n
  have hm := h.2.2.2
  intro k
  induction k with
  | zero =>
    intro t p cl va le co f x hx hk ht hp hcl hco hle hmo hcd
    have e := hq.1 p (by omega)
    refine q_tr (T_41_12 _ _ _ _ _ _ _ _ _ hx) (q_ct (by omega) (q_bd (S_29 h) (q_tr (T_41_23 _ _ _ _ _ _ _ _ _ _ hx) ?_)))
    rw [e]
    refine q_cf (by decide) (q_cf (by decide) (q_cf (by decide) (?_)))
    exact ⟨1, p, va, fc, cl, le, co, rfl, rfl, rfl, rfl, by omega, hco, hle, hmo, hcd⟩
  | succ k ih =>
    intro t p cl va le co f x hx hk ht hp hcl hco hle hmo hcd
    refine q_tr (T_41_12 _ _ _ _ _ _ _ _ _ hx) (q_ct (by omega) (q_bd (S_29 h) ?_))
    unfold chL
    by_cases ht0 : tT (qc (I (T + 1)) n p) = true
    · have c := of_decide_eq_true ht0
      have hl := OQ_lt hq (c := qc (I (T + 1)) n p) (by omega) rfl
      have k23 : Run PG (Call PG (E + 1)) 41 23 [(2, 22), (0, o), (0, (t : Int)), x] [(0, qc (I (T + 1)) n p)] (HC T I p va fc cl le co, RF sp rt tt z.1, z) (0, 0) = bd (Call PG (E + 1) 42 [(2, 22), (0, o)] (HC T I (p + 1) va fc cl le co, RF sp rt tt z.1, z)) (fun v h => Run PG (Call PG (E + 1)) 41 59 [(2, 22), (0, o), (0, (t : Int)), (0, qc (I (T + 1)) n p)] (v.toList ++ []) h (0, 0)) := by
        refine (T_41_23 _ _ _ _ _ _ _ _ _ _ hx).trans ?_
        rw [hc_1, w_n (by omega), hu_1]
        rcases c with c | c | c
        · exact ci_t c rfl
        · exact ci_f (by omega) (ci_t c rfl)
        · exact ci_f (by omega) (ci_f (by omega) (ci_t c rfl))
      rw [if_pos ht0]
      obtain ⟨v, p', va', fc', cl', le', co', e, oc⟩ := hs (p + 1) cl va fc le co (by omega) (by omega) hle
      refine q_tr k23 (q_bd e (q_tr (T_41_59 ..) ?_))
      cases hsub : sub (p + 1) with
      | inl e0 =>
        rw [hsub] at oc
        obtain ⟨rfl, rfl⟩ := oc
        exact q_ct rfl ⟨0, p', va', _, cl', le', co', rfl, rfl, rfl⟩
      | inr w =>
        obtain ⟨j, g⟩ := w
        rw [hsub] at oc
        obtain ⟨rfl, rfl, rfl, o1, o2, o3, o4, o5⟩ := oc
        refine q_cf (by decide) (q_bd (S_39 h (by omega) (by omega) (by decide)) (q_tr (T_41_68 ..) (q_cf (by decide) ?_)))
        rw [w_n (by omega)]
        refine ih (t + 1) p' (cl' + 1) va' le' _ (binF (qc (I (T + 1)) n p) f g) (0, qc (I (T + 1)) n p) (dl0 _) (by omega) (by omega) (by omega) (by omega) (fun x hx => ?_) o3 (fun k hk => o4 k (hmo k hk)) ?_
        · rw [uc_o (by omega), o2 x (by omega), hco x hx]
        · refine Cd_cl.2.2.1 (Cd_m hcd o4 (dd + 1) (Nat.le_refl _) (fun x h1 h2 => ?_)) (Cd_m o5 (fun _ q => q) dd (Nat.le_refl _) (fun x h1 h2 => uc_o (by omega))) (uc_s.trans (by omega)) (Or.inl c)
          rw [uc_o (by omega), o2 x (by omega)]
    · rw [if_neg ht0]
      have c := of_decide_eq_false (Bool.eq_false_iff.2 ht0)
      refine q_tr (T_41_23 _ _ _ _ _ _ _ _ _ _ hx) (q_cf (by omega) (q_cf (by omega) (q_cf (by omega) ?_)))
      exact ⟨1, p, va, fc, cl, le, co, rfl, rfl, rfl, rfl, by omega, hco, hle, hmo, hcd⟩
theorem C_41 (h : CX I sp rt tt z T n) {E dd : Nat} {o : Int} {sub : Nat → PR} (hs : CS T I sp rt tt z n 42 o (E + 1) dd sub) : CS T I sp rt tt z n 41 o (E + 2) (dd + 1) (CHN (qc (I (T + 1)) n) tT sub) := by
  intro p cl va fc le co hcl hp hle
  refine q_tr (K_41 ..) (q_tr (T_41_0 ..) ?_)
  obtain ⟨v, p', va', fc', cl', le', co', e, oc⟩ := hs p cl va fc le co hcl hp hle
  refine q_bd e (q_tr (T_41_5 ..) ?_)
  unfold CHN
  cases hsub : sub p with
  | inl e0 =>
    rw [hsub] at oc
    obtain ⟨rfl, rfl⟩ := oc
    exact q_ct rfl ⟨0, p', va', _, cl', le', co', rfl, rfl, rfl⟩
  | inr w =>
    obtain ⟨j, g⟩ := w
    rw [hsub] at oc
    obtain ⟨rfl, rfl, rfl, o1, o2, o3, o4, o5⟩ := oc
    refine q_cf (by decide) ?_
    have hm := h.2.2.2
    exact L_41 h hs hcl 160 1 p' cl' va' le' co' g (9, 0) dl9 (by omega) (by omega) (by omega) (by omega) o2 o3 o4 (Cd_m o5 (fun _ q => q) (dd + 1) (by omega) (fun _ _ _ => rfl))
theorem L_40 (h : CX I sp rt tt z T n) {E dd : Nat} {o : Int} {sub : Nat → PR} (hs : CS T I sp rt tt z n 41 o (E + 1) dd sub) {a p0 : Nat} {co0 : Nat → Int} {le0 : Nat} {fc : Int} (ha : a ≤ p0) : ∀ (k t p cl : Nat) (va : Int) (le : Nat) (co : Nat → Int) (f : FM) (x : AV), dl x → n ≤ k + p → 2 * t ≤ p + 1 → p ≤ n → (a < cl ∧ cl + p0 ≤ a + p ∧ p0 < p) → (∀ x, x < a → co x = co0 x) → le < 4096 → (∀ k, le0.testBit k = true → le.testBit k = true) → Cd (fun k => le.testBit k = true) co a cl (dd + 1) f → RES T I sp rt tt z n a p0 fc le0 co0 (dd + 1) (chL (qc (I (T + 1)) n) tP sub k p f) (Run PG (Call PG (E + 1)) 40 12 [(2, 22), (0, o), (0, (t : Int)), x] [] (HC T I p va fc cl le co, RF sp rt tt z.1, z) (0, 0)) := by
  have hq := qc_OQ (I (T + 1)) n
  have hm := h.2.2.2
  intro k
  induction k with
  | zero =>
    intro t p cl va le co f x hx hk ht hp hcl hco hle hmo hcd
    have e := hq.1 p (by omega)
    refine q_tr (T_40_12 _ _ _ _ _ _ _ _ _ hx) (q_ct (by omega) (q_bd (S_29 h) (q_tr (T_40_23 _ _ _ _ _ _ _ _ _ _ hx) ?_)))
    rw [e]
    refine q_cf (by decide) (q_cf (by decide) (?_))
    exact ⟨1, p, va, fc, cl, le, co, rfl, rfl, rfl, rfl, by omega, hco, hle, hmo, hcd⟩
  | succ k ih =>
    intro t p cl va le co f x hx hk ht hp hcl hco hle hmo hcd
    refine q_tr (T_40_12 _ _ _ _ _ _ _ _ _ hx) (q_ct (by omega) (q_bd (S_29 h) ?_))
    unfold chL
    by_cases ht0 : tP (qc (I (T + 1)) n p) = true
    · have c := of_decide_eq_true ht0
      have hl := OQ_lt hq (c := qc (I (T + 1)) n p) (by omega) rfl
      have k23 : Run PG (Call PG (E + 1)) 40 23 [(2, 22), (0, o), (0, (t : Int)), x] [(0, qc (I (T + 1)) n p)] (HC T I p va fc cl le co, RF sp rt tt z.1, z) (0, 0) = bd (Call PG (E + 1) 41 [(2, 22), (0, o)] (HC T I (p + 1) va fc cl le co, RF sp rt tt z.1, z)) (fun v h => Run PG (Call PG (E + 1)) 40 53 [(2, 22), (0, o), (0, (t : Int)), (0, qc (I (T + 1)) n p)] (v.toList ++ []) h (0, 0)) := by
        refine (T_40_23 _ _ _ _ _ _ _ _ _ _ hx).trans ?_
        rw [hc_1, w_n (by omega), hu_1]
        rcases c with c | c
        · exact ci_t c rfl
        · exact ci_f (by omega) (ci_t c rfl)
      rw [if_pos ht0]
      obtain ⟨v, p', va', fc', cl', le', co', e, oc⟩ := hs (p + 1) cl va fc le co (by omega) (by omega) hle
      refine q_tr k23 (q_bd e (q_tr (T_40_53 ..) ?_))
      cases hsub : sub (p + 1) with
      | inl e0 =>
        rw [hsub] at oc
        obtain ⟨rfl, rfl⟩ := oc
        exact q_ct rfl ⟨0, p', va', _, cl', le', co', rfl, rfl, rfl⟩
      | inr w =>
        obtain ⟨j, g⟩ := w
        rw [hsub] at oc
        obtain ⟨rfl, rfl, rfl, o1, o2, o3, o4, o5⟩ := oc
        refine q_cf (by decide) (q_bd (S_39 h (by omega) (by omega) (by decide)) (q_tr (T_40_62 ..) (q_cf (by decide) ?_)))
        rw [w_n (by omega)]
        refine ih (t + 1) p' (cl' + 1) va' le' _ (binF (qc (I (T + 1)) n p) f g) (0, qc (I (T + 1)) n p) (dl0 _) (by omega) (by omega) (by omega) (by omega) (fun x hx => ?_) o3 (fun k hk => o4 k (hmo k hk)) ?_
        · rw [uc_o (by omega), o2 x (by omega), hco x hx]
        · refine Cd_cl.2.2.1 (Cd_m hcd o4 (dd + 1) (Nat.le_refl _) (fun x h1 h2 => ?_)) (Cd_m o5 (fun _ q => q) dd (Nat.le_refl _) (fun x h1 h2 => uc_o (by omega))) (uc_s.trans (by omega)) (Or.inr (Or.inl c))
          rw [uc_o (by omega), o2 x (by omega)]
    · rw [if_neg ht0]
      have c := of_decide_eq_false (Bool.eq_false_iff.2 ht0)
      refine q_tr (T_40_23 _ _ _ _ _ _ _ _ _ _ hx) (q_cf (by omega) (q_cf (by omega) ?_))
      exact ⟨1, p, va, fc, cl, le, co, rfl, rfl, rfl, rfl, by omega, hco, hle, hmo, hcd⟩
theorem C_40 (h : CX I sp rt tt z T n) {E dd : Nat} {o : Int} {sub : Nat → PR} (hs : CS T I sp rt tt z n 41 o (E + 1) dd sub) : CS T I sp rt tt z n 40 o (E + 2) (dd + 1) (CHN (qc (I (T + 1)) n) tP sub) := by
  intro p cl va fc le co hcl hp hle
  refine q_tr (K_40 ..) (q_tr (T_40_0 ..) ?_)
  obtain ⟨v, p', va', fc', cl', le', co', e, oc⟩ := hs p cl va fc le co hcl hp hle
  refine q_bd e (q_tr (T_40_5 ..) ?_)
  unfold CHN
  cases hsub : sub p with
  | inl e0 =>
    rw [hsub] at oc
    obtain ⟨rfl, rfl⟩ := oc
    exact q_ct rfl ⟨0, p', va', _, cl', le', co', rfl, rfl, rfl⟩
  | inr w =>
    obtain ⟨j, g⟩ := w
    rw [hsub] at oc
    obtain ⟨rfl, rfl, rfl, o1, o2, o3, o4, o5⟩ := oc
    refine q_cf (by decide) ?_
    have hm := h.2.2.2
    exact L_40 h hs hcl 160 1 p' cl' va' le' co' g (9, 0) dl9 (by omega) (by omega) (by omega) (by omega) o2 o3 o4 (Cd_m o5 (fun _ q => q) (dd + 1) (by omega) (fun _ _ _ => rfl))
theorem C_SUM (h : CX I sp rt tt z T n) : ∀ (l : Nat) (o : Int) (E : Nat), o = 6 - (l : Int) ∧ l ≤ 5 → 3 * l + 6 ≤ E → CS T I sp rt tt z n 40 o E (2 * l + 3) (SUM (qc (I (T + 1)) n) l) := by
  intro l
  induction l with
  | zero =>
    intro o E ho hE
    obtain ⟨e, rfl⟩ : ∃ e, E = e + 3 + 1 + 2 := ⟨E - 6, by omega⟩
    exact C_40 h (C_41 h (C_42 h (E := e + 3) ho (by omega) (Or.inl rfl)))
  | succ l ih =>
    intro o E ho hE
    obtain ⟨e, rfl⟩ : ∃ e, E = e + 3 + 1 + 2 := ⟨E - 6, by omega⟩
    exact C_40 h (C_41 h (C_42 h (E := e + 3) ho (by omega) (Or.inr (ih (o + 1) (e + 3) (by omega) (by omega)))))
end PA0

