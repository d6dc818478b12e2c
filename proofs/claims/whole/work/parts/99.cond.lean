/-! texts: jumps, parts, conditions, pieces -/
/-- jumps whose end is not known yet: each holds the one before it -/
def Chn (op : Int) (co : Nat → Int) : List Nat → Int → Prop
  | [], i => i = -1
  | j :: js, i => i = (j : Int) ∧ j < 160 ∧ (∃ b : Int, (-1 ≤ b ∧ b < 160) ∧ co j = (b + 1) * 256 + op ∧ Chn op co js b) ∧ ∀ x, x ∈ js → x < j
def lnd (co : Nat → Int) (js : List Nat) (v : Int) : Nat → Int := fun x => if x ∈ js then v else co x
theorem Chn_in {op : Int} {co : Nat → Int} : ∀ {js : List Nat} {i : Int}, Chn op co js i → -1 ≤ i ∧ i < 160
  | [], i, h => by
    have : i = -1 := h
    omega
  | j :: js, i, h => by
    have := h.1
    have := h.2.1
    omega
theorem Chn_c {op : Int} {co co' : Nat → Int} : ∀ {js : List Nat} {i : Int}, (∀ x, x ∈ js → co' x = co x) → Chn op co js i → Chn op co' js i
  | [], _, _, h => h
  | j :: js, i, hc, h => by
    obtain ⟨h1, h2, ⟨b, h3, h4, h5⟩, h6⟩ := h
    exact ⟨h1, h2, ⟨b, h3, (hc j (List.mem_cons.2 (Or.inl rfl))).trans h4, Chn_c (fun x hx => hc x (List.mem_cons.2 (Or.inr hx))) h5⟩, h6⟩
def OJ (n a p0 : Nat) (fc : Int) (le : Nat) (co : Nat → Int) (dd : Nat) (op : Int) (js : List Nat) (r : PR) (v : Int) (p' : Nat) (fc' : Int) (cl' le' : Nat) (co' : Nat → Int) : Prop := match r with
  | .inl e => v = 0 ∧ fc' = e
  | .inr (j, f) => v = 1 ∧ p' = j ∧ fc' = fc ∧ (a < cl' ∧ cl' + p0 ≤ a + j ∧ p0 < j ∧ j ≤ n) ∧ (∀ x, x < a → co' x = lnd co js ((cl' : Int) * 256 + op) x) ∧ le' < 4096 ∧ (∀ k, le.testBit k = true → le'.testBit k = true) ∧ Cd (fun k => le'.testBit k = true) co' a cl' dd f
def RJ (T : Nat) (I : Nat → Nat → Int) (sp rt : Nat) (tt : Nat → Nat) (z : Zs) (n a p0 : Nat) (fc : Int) (le : Nat) (co : Nat → Int) (dd : Nat) (op : Int) (js : List Nat) (r : PR) (res : Option Res) : Prop :=
  ∃ (v : Int) (p' : Nat) (va' fc' : Int) (cl' le' : Nat) (co' : Nat → Int), res = some (some (0, v), (HC T I p' va' fc' cl' le' co', RF sp rt tt z.1, z)) ∧ OJ n a p0 fc le co dd op js r v p' fc' cl' le' co'
section PB0
variable {I : Nat → Nat → Int} {sp rt : Nat} {tt : Nat → Nat} {z : Zs} {T n : Nat}
theorem S_44 (h : CX I sp rt tt z T n) {d p cl : Nat} {va fc le : Int} {co : Nat → Int} (hc : cl < 160) {op i : Int} (ho : 0 ≤ op ∧ op < 256) (hi : -1 ≤ i ∧ i < 160) : Call PG (d + 2) 44 [(2, 22), (0, op), (0, i)] (HC T I p va fc cl le co, RF sp rt tt z.1, z) = some (some (0, (cl : Int)), (HC T I p va fc (cl + 1) le (uc co cl ((i + 1) * 256 + op)), RF sp rt tt z.1, z)) := by
  refine (K_44 ..).trans ?_
  refine (T_44_0 ..).trans ?_
  rw [w32_of (by omega) (by omega)]
  refine bd_t (S_39 h hc ho (by omega)) ?_
  refine (T_44_8 ..).trans ?_
  refine nn_t h.1 (ite_t (by rw [h.2.1.2.1]) ?_)
  rw [hc_15 h.2.1.1.1, w32_of (by omega) (by omega)]
  have e : ((cl + 1 : Nat) : Int) - 1 = (cl : Int) := by omega
  rw [e]
theorem L_43 (h : CX I sp rt tt z T n) {d p cl : Nat} {va fc le : Int} {op i0 : Int} (ho : 0 ≤ op ∧ op < 256) (hcl : cl ≤ 160) : ∀ (js : List Nat) (i : Int) (t : Nat) (co : Nat → Int) (x : AV), dl x → Chn op co js i → (js = [] ∨ (t : Int) + i < 160) → Run PG (Call PG d) 43 4 [(2, 22), (0, i0), (0, i), (0, (t : Int)), x] [] (HC T I p va fc cl le co, RF sp rt tt z.1, z) (0, 0) = some (none, (HC T I p va fc cl le (lnd co js ((cl : Int) * 256 + op)), RF sp rt tt z.1, z)) := by
  intro js
  induction js with
  | nil =>
    intro i t co x hx hch _
    have e : i = -1 := hch
    have e2 : lnd co [] ((cl : Int) * 256 + op) = co := funext (fun y => if_neg (fun q => by cases q))
    rw [e2]
    refine (T_43_4 _ _ _ _ _ _ _ _ _ _ hx).trans ?_
    by_cases c : (t : Int) < 160
    · exact ci_t c (ci_t (by omega) rfl)
    · exact ci_f c rfl
  | cons j js ih =>
    intro i t co x hx hch ht
    obtain ⟨h1, h2, ⟨b, h3, h4, h5⟩, h6⟩ := hch
    have ht' := ht.resolve_left (fun q => by cases q)
    have h : CX I sp rt tt z T n := h
    obtain ⟨hr, ⟨hT, hL, hx0⟩, hn, hm⟩ := h
    have l1 : (LAY T).1 = 3 := by rw [hL]
    have l2 : (LAY (T + 9)).1 = 20 ∧ (LAY (T + 9)).2 = 160 := by rw [hx0.2.2.2.2.2.2.2.2.2]; exact ⟨rfl, rfl⟩
    have r4 := rv_n hx0.2.2.2.2.2.2.2.2.1
    refine (T_43_4 _ _ _ _ _ _ _ _ _ _ hx).trans ?_
    refine ci_t (by omega) (ci_f (by omega) (nn_t hr (ite_t l1 (nn_t r4 (ite_t (by omega) (ci_t (by omega) (nn_t hr (ite_t l1 (nn_t r4 (ite_t l2.1 (ci_t (by omega) (nn_t hr (ite_t l1 (nn_t r4 (nn_t hr (ite_t l1 (nn_t hr (ite_t l1 (nn_t r4 (ite_t l2.1 (ci_t (by omega) (ite_t l2.1 (ci_t (by omega) ?_)))))))))))))))))))))))
    have ej : i.toNat = j := by omega
    rw [ej, hc_c hT.2.2.2.2.2.2.2.2.2, hc_15 hT.1, h4, op_of (by omega) ho, ar_of (by omega) ho, emit_x (by omega) ho, hu_c hT.2.2.2.2.2.2.2.2.2, w32_of (x := b + 1 - 1) (by omega) (by omega), w_n (by omega), show b + 1 - 1 = b by omega]
    have hc1 : Chn op (uc co j ((cl : Int) * 256 + op)) js b := Chn_c (fun x hx => by have := h6 x hx; exact uc_o (by omega)) h5
    have hl : lnd co (j :: js) ((cl : Int) * 256 + op) = lnd (uc co j ((cl : Int) * 256 + op)) js ((cl : Int) * 256 + op) := by
      funext y
      unfold lnd
      by_cases c1 : y ∈ js
      · rw [if_pos (List.mem_cons.2 (Or.inr c1)), if_pos c1]
      · by_cases c2 : y = j
        · rw [if_pos (List.mem_cons.2 (Or.inl c2)), if_neg c1, c2, uc_s]
        · rw [if_neg (fun q => by rcases List.mem_cons.1 q with q | q; exact c2 q; exact c1 q), if_neg c1, uc_o c2]
    rw [hl]
    refine ih b (t + 1) _ (0, b) (dl0 _) hc1 ?_
    cases js with
    | nil => exact Or.inl rfl
    | cons j2 js2 =>
      have := h5.1
      have := h6 j2 (List.mem_cons.2 (Or.inl rfl))
      exact Or.inr (by omega)
theorem S_43 (h : CX I sp rt tt z T n) {d p cl : Nat} {va fc le : Int} {co : Nat → Int} {op i : Int} {js : List Nat} (ho : 0 ≤ op ∧ op < 256) (hcl : cl ≤ 160) (hch : Chn op co js i) : Call PG (d + 1) 43 [(2, 22), (0, i)] (HC T I p va fc cl le co, RF sp rt tt z.1, z) = some (none, (HC T I p va fc cl le (lnd co js ((cl : Int) * 256 + op)), RF sp rt tt z.1, z)) := by
  refine (K_43 ..).trans ?_
  refine (T_43_0 ..).trans ?_
  exact L_43 h ho hcl js i 0 co (9, 0) dl9 hch (Or.inr (by have := Chn_in hch; omega))
theorem L_37 (h : CX I sp rt tt z T n) {E dd : Nat} {o : Int} {sub : Nat → PR} (hs : CS T I sp rt tt z n 38 o (E + 2) dd sub) (hb : PSB sub) {fc : Int} : ∀ (k t p cl : Nat) (va : Int) (le : Nat) (co : Nat → Int) (js : List Nat) (i : Int), n ≤ k + p → 2 * t ≤ p → p ≤ n → cl ≤ p → le < 4096 → Chn 38 co js i → (∀ x, x ∈ js → x < cl) → RJ T I sp rt tt z n cl p fc le co dd 38 js (rch (qc (I (T + 1)) n) 38 andF sub k p) (Run PG (Call PG (E + 2)) 37 4 [(2, 22), (0, o), (0, i), (0, (t : Int))] [] (HC T I p va fc cl le co, RF sp rt tt z.1, z) (0, 0)) := by
  have hq := qc_OQ (I (T + 1)) n
  have hm := h.2.2.2
  intro k
  induction k with
  | zero =>
    intro t p cl va le co js i hk ht hp hcl hle hch hjs
    obtain ⟨v, p', va', fc', cl', le', co', e, oc⟩ := hs p cl va fc le co hcl hp hle
    refine q_tr (T_37_4 ..) (q_ct (by omega) (q_bd e (q_tr (T_37_16 ..) ?_)))
    unfold rch
    cases hsub : sub p with
    | inl e0 =>
      rw [hsub] at oc
      obtain ⟨rfl, rfl⟩ := oc
      exact q_ct rfl ⟨0, p', va', _, cl', le', co', rfl, rfl, rfl⟩
    | inr w =>
      obtain ⟨j, g⟩ := w
      rw [hsub] at oc
      obtain ⟨_, _, _, o1, _⟩ := oc
      exact absurd o1 (by omega)
  | succ k ih =>
    intro t p cl va le co js i hk ht hp hcl hle hch hjs
    obtain ⟨v, p', va', fc', cl', le', co', e, oc⟩ := hs p cl va fc le co hcl hp hle
    refine q_tr (T_37_4 ..) (q_ct (by omega) (q_bd e (q_tr (T_37_16 ..) ?_)))
    unfold rch
    cases hsub : sub p with
    | inl e0 =>
      rw [hsub] at oc
      obtain ⟨rfl, rfl⟩ := oc
      exact q_ct rfl ⟨0, p', va', _, cl', le', co', rfl, rfl, rfl⟩
    | inr w =>
      obtain ⟨j, f⟩ := w
      have bf := hb _ _ _ hsub
      rw [hsub] at oc
      obtain ⟨rfl, rfl, rfl, o1, o2, o3, o4, o5⟩ := oc
      refine q_cf (by decide) (q_bd (S_29 h) (q_tr (T_37_25 ..) ?_))
      dsimp only
      by_cases c : qc (I (T + 1)) n p' = 38
      · have hl := OQ_lt hq (by decide) c
        rw [if_pos c]
        refine q_ct c ?_
        rw [hc_1, w_n (by omega), hu_1]
        have hi := Chn_in hch
        refine q_bd (S_44 h (cl := cl') (by omega) (by decide) (by omega)) (q_tr (T_37_54 ..) ?_)
        rw [w_n (by omega)]
        have hc2 : Chn 38 (uc co' cl' ((i + 1) * 256 + 38)) (cl' :: js) (cl' : Int) := ⟨rfl, by omega, ⟨i, by omega, uc_s, Chn_c (fun x hx => by have := hjs x hx; rw [uc_o (by omega), o2 x (by omega)]) hch⟩, fun x hx => by have := hjs x hx; omega⟩
        obtain ⟨v2, p2, va2, fc2, cl2, le2, co2, e2, oc2⟩ := ih (t + 1) (p' + 1) (cl' + 1) va' le' (uc co' cl' ((i + 1) * 256 + 38)) (cl' :: js) (cl' : Int) (by omega) (by omega) (by omega) (by omega) o3 hc2 (fun x hx => by rcases List.mem_cons.1 hx with rfl | hx; exact Nat.lt_succ_self _; have := hjs x hx; omega)
        refine q_tr e2 ?_
        have hb2 := rch_b (q := qc (I (T + 1)) n) (c := 38) (jn := andF) (fun _ _ => BoolF_and) hb k (p' + 1)
        cases hr : rch (qc (I (T + 1)) n) 38 andF sub k (p' + 1) with
        | inl e0 =>
          rw [hr] at oc2
          obtain ⟨rfl, rfl⟩ := oc2
          exact ⟨0, p2, va2, _, cl2, le2, co2, rfl, rfl, rfl⟩
        | inr w2 =>
          obtain ⟨j2, g⟩ := w2
          have bg := hb2 _ _ hr
          rw [hr] at oc2
          obtain ⟨rfl, rfl, rfl, u1, u2, u3, u4, u5⟩ := oc2
          refine ⟨1, p2, va2, _, cl2, le2, co2, rfl, rfl, rfl, rfl, by omega, fun x hx => ?_, u3, fun k hk => u4 k (o4 k hk), ?_⟩
          · rw [u2 x (by omega)]
            unfold lnd
            by_cases c2 : x ∈ js
            · rw [if_pos (List.mem_cons.2 (Or.inr c2)), if_pos c2]
            · rw [if_neg (fun q => by rcases List.mem_cons.1 q with q | q; omega; exact c2 q), if_neg c2, uc_o (by omega), o2 x hx]
          · have ag : ∀ x, cl ≤ x → x < cl' → co2 x = co' x := fun x h1 h2 => by
              rw [u2 x (by omega)]
              unfold lnd
              rw [if_neg (fun q => by rcases List.mem_cons.1 q with q | q; omega; have := hjs x q; omega), uc_o (by omega)]
            have at_ : co2 cl' = (cl2 : Int) * 256 + 38 := by
              rw [u2 cl' (by omega)]
              unfold lnd
              rw [if_pos (List.mem_cons.2 (Or.inl rfl))]
            exact Cd_cl.2.2.2.2.1 (Cd_m o5 u4 dd (Nat.le_refl _) ag) at_ u5 (by omega) bf bg
      · rw [if_neg c]
        refine q_cf c (q_bd (S_43 h (cl := cl') (by decide) (by omega) (Chn_c (fun x hx => o2 x (hjs x hx)) hch)) (q_tr (T_37_35 ..) ?_))
        refine ⟨1, p', va', _, cl', le', _, rfl, rfl, rfl, rfl, by omega, fun x hx => ?_, o3, o4, ?_⟩
        · unfold lnd
          rw [o2 x hx]
        · refine Cd_m o5 (fun _ q => q) dd (Nat.le_refl _) (fun x h1 h2 => ?_)
          unfold lnd
          rw [if_neg (fun q => by have := hjs x q; omega)]
theorem C_37 (h : CX I sp rt tt z T n) {E dd : Nat} {o : Int} {sub : Nat → PR} (hs : CS T I sp rt tt z n 38 o (E + 2) dd sub) (hb : PSB sub) : CS T I sp rt tt z n 37 o (E + 3) dd (rch (qc (I (T + 1)) n) 38 andF sub 160) := by
  intro p cl va fc le co hcl hp hle
  have hm := h.2.2.2
  refine q_tr (K_37 ..) (q_tr (T_37_0 ..) ?_)
  obtain ⟨v2, p2, va2, fc2, cl2, le2, co2, e2, oc2⟩ := L_37 h hs hb (fc := fc) 160 0 p cl va le co [] (-1) (by omega) (by omega) hp hcl hle rfl (fun x hx => by cases hx)
  refine q_tr e2 ⟨v2, p2, va2, fc2, cl2, le2, co2, rfl, ?_⟩
  cases hr : rch (qc (I (T + 1)) n) 38 andF sub 160 p with
  | inl e0 =>
    rw [hr] at oc2
    exact oc2
  | inr w2 =>
    rw [hr] at oc2
    exact ⟨oc2.1, oc2.2.1, oc2.2.2.1, oc2.2.2.2.1, fun x hx => (oc2.2.2.2.2.1 x hx).trans (if_neg (fun q => by cases q)), oc2.2.2.2.2.2⟩
theorem L_36 (h : CX I sp rt tt z T n) {E dd : Nat} {o : Int} {sub : Nat → PR} (hs : CS T I sp rt tt z n 37 o (E + 2) dd sub) (hb : PSB sub) {fc : Int} : ∀ (k t p cl : Nat) (va : Int) (le : Nat) (co : Nat → Int) (js : List Nat) (i : Int), n ≤ k + p → 2 * t ≤ p → p ≤ n → cl ≤ p → le < 4096 → Chn 124 co js i → (∀ x, x ∈ js → x < cl) → RJ T I sp rt tt z n cl p fc le co dd 124 js (rch (qc (I (T + 1)) n) 124 orF sub k p) (Run PG (Call PG (E + 2)) 36 4 [(2, 22), (0, o), (0, i), (0, (t : Int))] [] (HC T I p va fc cl le co, RF sp rt tt z.1, z) (0, 0)) := by
  have hq := qc_OQ (I (T + 1)) n
  have hm := h.2.2.2
  intro k
  induction k with
  | zero =>
    intro t p cl va le co js i hk ht hp hcl hle hch hjs
    obtain ⟨v, p', va', fc', cl', le', co', e, oc⟩ := hs p cl va fc le co hcl hp hle
    refine q_tr (T_36_4 ..) (q_ct (by omega) (q_bd e (q_tr (T_36_16 ..) ?_)))
    unfold rch
    cases hsub : sub p with
    | inl e0 =>
      rw [hsub] at oc
      obtain ⟨rfl, rfl⟩ := oc
      exact q_ct rfl ⟨0, p', va', _, cl', le', co', rfl, rfl, rfl⟩
    | inr w =>
      obtain ⟨j, g⟩ := w
      rw [hsub] at oc
      obtain ⟨_, _, _, o1, _⟩ := oc
      exact absurd o1 (by omega)
  | succ k ih =>
    intro t p cl va le co js i hk ht hp hcl hle hch hjs
    obtain ⟨v, p', va', fc', cl', le', co', e, oc⟩ := hs p cl va fc le co hcl hp hle
    refine q_tr (T_36_4 ..) (q_ct (by omega) (q_bd e (q_tr (T_36_16 ..) ?_)))
    unfold rch
    cases hsub : sub p with
    | inl e0 =>
      rw [hsub] at oc
      obtain ⟨rfl, rfl⟩ := oc
      exact q_ct rfl ⟨0, p', va', _, cl', le', co', rfl, rfl, rfl⟩
    | inr w =>
      obtain ⟨j, f⟩ := w
      have bf := hb _ _ _ hsub
      rw [hsub] at oc
      obtain ⟨rfl, rfl, rfl, o1, o2, o3, o4, o5⟩ := oc
      refine q_cf (by decide) (q_bd (S_29 h) (q_tr (T_36_25 ..) ?_))
      dsimp only
      by_cases c : qc (I (T + 1)) n p' = 124
      · have hl := OQ_lt hq (by decide) c
        rw [if_pos c]
        refine q_ct c ?_
        rw [hc_1, w_n (by omega), hu_1]
        have hi := Chn_in hch
        refine q_bd (S_44 h (cl := cl') (by omega) (by decide) (by omega)) (q_tr (T_36_54 ..) ?_)
        rw [w_n (by omega)]
        have hc2 : Chn 124 (uc co' cl' ((i + 1) * 256 + 124)) (cl' :: js) (cl' : Int) := ⟨rfl, by omega, ⟨i, by omega, uc_s, Chn_c (fun x hx => by have := hjs x hx; rw [uc_o (by omega), o2 x (by omega)]) hch⟩, fun x hx => by have := hjs x hx; omega⟩
        obtain ⟨v2, p2, va2, fc2, cl2, le2, co2, e2, oc2⟩ := ih (t + 1) (p' + 1) (cl' + 1) va' le' (uc co' cl' ((i + 1) * 256 + 124)) (cl' :: js) (cl' : Int) (by omega) (by omega) (by omega) (by omega) o3 hc2 (fun x hx => by rcases List.mem_cons.1 hx with rfl | hx; exact Nat.lt_succ_self _; have := hjs x hx; omega)
        refine q_tr e2 ?_
        have hb2 := rch_b (q := qc (I (T + 1)) n) (c := 124) (jn := orF) (fun _ _ => BoolF_or) hb k (p' + 1)
        cases hr : rch (qc (I (T + 1)) n) 124 orF sub k (p' + 1) with
        | inl e0 =>
          rw [hr] at oc2
          obtain ⟨rfl, rfl⟩ := oc2
          exact ⟨0, p2, va2, _, cl2, le2, co2, rfl, rfl, rfl⟩
        | inr w2 =>
          obtain ⟨j2, g⟩ := w2
          have bg := hb2 _ _ hr
          rw [hr] at oc2
          obtain ⟨rfl, rfl, rfl, u1, u2, u3, u4, u5⟩ := oc2
          refine ⟨1, p2, va2, _, cl2, le2, co2, rfl, rfl, rfl, rfl, by omega, fun x hx => ?_, u3, fun k hk => u4 k (o4 k hk), ?_⟩
          · rw [u2 x (by omega)]
            unfold lnd
            by_cases c2 : x ∈ js
            · rw [if_pos (List.mem_cons.2 (Or.inr c2)), if_pos c2]
            · rw [if_neg (fun q => by rcases List.mem_cons.1 q with q | q; omega; exact c2 q), if_neg c2, uc_o (by omega), o2 x hx]
          · have ag : ∀ x, cl ≤ x → x < cl' → co2 x = co' x := fun x h1 h2 => by
              rw [u2 x (by omega)]
              unfold lnd
              rw [if_neg (fun q => by rcases List.mem_cons.1 q with q | q; omega; have := hjs x q; omega), uc_o (by omega)]
            have at_ : co2 cl' = (cl2 : Int) * 256 + 124 := by
              rw [u2 cl' (by omega)]
              unfold lnd
              rw [if_pos (List.mem_cons.2 (Or.inl rfl))]
            exact Cd_cl.2.2.2.2.2 (Cd_m o5 u4 dd (Nat.le_refl _) ag) at_ u5 (by omega) bf bg
      · rw [if_neg c]
        refine q_cf c (q_bd (S_43 h (cl := cl') (by decide) (by omega) (Chn_c (fun x hx => o2 x (hjs x hx)) hch)) (q_tr (T_36_35 ..) ?_))
        refine ⟨1, p', va', _, cl', le', _, rfl, rfl, rfl, rfl, by omega, fun x hx => ?_, o3, o4, ?_⟩
        · unfold lnd
          rw [o2 x hx]
        · refine Cd_m o5 (fun _ q => q) dd (Nat.le_refl _) (fun x h1 h2 => ?_)
          unfold lnd
          rw [if_neg (fun q => by have := hjs x q; omega)]
theorem C_36 (h : CX I sp rt tt z T n) {E dd : Nat} {o : Int} {sub : Nat → PR} (hs : CS T I sp rt tt z n 37 o (E + 2) dd sub) (hb : PSB sub) : CS T I sp rt tt z n 36 o (E + 3) dd (rch (qc (I (T + 1)) n) 124 orF sub 160) := by
  intro p cl va fc le co hcl hp hle
  have hm := h.2.2.2
  refine q_tr (K_36 ..) (q_tr (T_36_0 ..) ?_)
  obtain ⟨v2, p2, va2, fc2, cl2, le2, co2, e2, oc2⟩ := L_36 h hs hb (fc := fc) 160 0 p cl va le co [] (-1) (by omega) (by omega) hp hcl hle rfl (fun x hx => by cases hx)
  refine q_tr e2 ⟨v2, p2, va2, fc2, cl2, le2, co2, rfl, ?_⟩
  cases hr : rch (qc (I (T + 1)) n) 124 orF sub 160 p with
  | inl e0 =>
    rw [hr] at oc2
    exact oc2
  | inr w2 =>
    rw [hr] at oc2
    exact ⟨oc2.1, oc2.2.1, oc2.2.2.1, oc2.2.2.2.1, fun x hx => (oc2.2.2.2.2.1 x hx).trans (if_neg (fun q => by cases q)), oc2.2.2.2.2.2⟩
theorem C_CMP (h : CX I sp rt tt z T n) {E l : Nat} {o : Int} {sub : Nat → PR} (hs : CS T I sp rt tt z n 40 o (E + 1) (2 * l + 3) sub) {p cl : Nat} {va fc : Int} {le : Nat} {co : Nat → Int} (hcl : cl ≤ p) (hp : p ≤ n) (hle : le < 4096) (h1 : ¬ qc (I (T + 1)) n p = 33) (h2 : ¬ qc (I (T + 1)) n p = 40) : RES T I sp rt tt z n cl p fc le co (2 * l + 4) (CMP (qc (I (T + 1)) n) sub p) (Run PG (Call PG (E + 1)) 38 4 [(2, 22), (0, o), (9, 0), (9, 0)] [(0, qc (I (T + 1)) n p)] (HC T I p va fc cl le co, RF sp rt tt z.1, z) (0, 0)) := by
  have hq := qc_OQ (I (T + 1)) n
  have hm := h.2.2.2
  obtain ⟨v, p', va', fc', cl', le', co', e, oc⟩ := hs p cl va fc le co hcl hp hle
  refine q_tr (T_38_4 ..) (q_cf h1 (q_cf h2 (q_bd e (q_tr (T_38_49 ..) ?_))))
  unfold CMP
  cases hsub : sub p with
  | inl e0 =>
    rw [hsub] at oc
    obtain ⟨rfl, rfl⟩ := oc
    exact q_ct rfl ⟨0, p', va', _, cl', le', co', rfl, rfl, rfl⟩
  | inr w =>
    obtain ⟨j, f⟩ := w
    rw [hsub] at oc
    obtain ⟨rfl, rfl, rfl, o1, o2, o3, o4, o5⟩ := oc
    refine q_cf (by decide) (q_bd (S_29 h) ?_)
    dsimp only
    by_cases c : isS (qc (I (T + 1)) n p')
    · have hl := OQ_lt hq (c := qc (I (T + 1)) n p') (by omega) rfl
      rw [if_pos c]
      have k1 : Run PG (Call PG (E + 1)) 38 58 [(2, 22), (0, o), (0, qc (I (T + 1)) n p), (9, 0)] [(0, qc (I (T + 1)) n p')] (HC T I p' va' fc' cl' le' co', RF sp rt tt z.1, z) (0, 0) = bd (Call PG (E + 1) 40 [(2, 22), (0, o)] (HC T I (p' + 1) va' fc' cl' le' co', RF sp rt tt z.1, z)) (fun v h => Run PG (Call PG (E + 1)) 38 102 [(2, 22), (0, o), (0, qc (I (T + 1)) n p), (0, qc (I (T + 1)) n p')] (v.toList ++ []) h (0, 0)) := by
        refine (T_38_58 ..).trans ?_
        rw [hc_1, w_n (by omega), hu_1]
        rcases c with c | c | c
        · exact ci_t c rfl
        · exact ci_f (by omega) (ci_t c rfl)
        · exact ci_f (by omega) (ci_f (by omega) (ci_t c rfl))
      obtain ⟨v2, p2, va2, fc2, cl2, le2, co2, e2, oc2⟩ := hs (p' + 1) cl' va' fc' le' co' (by omega) (by omega) o3
      refine q_tr k1 (q_bd e2 (q_tr (T_38_102 ..) ?_))
      cases hsub2 : sub (p' + 1) with
      | inl e0 =>
        rw [hsub2] at oc2
        obtain ⟨rfl, rfl⟩ := oc2
        exact q_ct rfl ⟨0, p2, va2, _, cl2, le2, co2, rfl, rfl, rfl⟩
      | inr w2 =>
        obtain ⟨j2, g⟩ := w2
        rw [hsub2] at oc2
        obtain ⟨rfl, rfl, rfl, u1, u2, u3, u4, u5⟩ := oc2
        refine q_cf (by decide) (q_bd (S_39 h (by omega) (by omega) (by decide)) (q_tr (T_38_111 ..) (q_cf (by decide) ?_)))
        refine ⟨1, p2, va2, _, cl2 + 1, le2, _, rfl, rfl, rfl, rfl, by omega, fun x hx => ?_, u3, fun k hk => u4 k (o4 k hk), ?_⟩
        · rw [uc_o (by omega), u2 x (by omega), o2 x hx]
        · refine Cd_cl.2.2.1 (Cd_m o5 u4 (2 * l + 3 + 1) (by omega) (fun x h1 h2 => ?_)) (Cd_m u5 (fun _ q => q) (2 * l + 3) (Nat.le_refl _) (fun x h1 h2 => uc_o (by omega))) (uc_s.trans (by omega)) (Or.inr (Or.inr c))
          rw [uc_o (by omega), u2 x (by omega)]
    · rw [if_neg c]
      refine q_tr (T_38_58 ..) (q_cf (by omega) (q_cf (by omega) (q_cf (by omega) ?_)))
      rw [hc_1]
      refine q_bd (S_30 (by decide) (by omega)) (q_tr (T_38_86 ..) (q_it (Or.inl rfl) ?_))
      exact ⟨0, p', va', _, cl', le', co', rfl, rfl, rfl⟩
/-- what is opened answers 0 or 1, and the piece with it -/
theorem C_OP {d n a p dd : Nat} {o s fc : Int} {le : Nat} {co : Nat → Int} {r : PR} {as : List AV} {H : Hp} (hr : RES T I sp rt tt z n a p fc le co dd r (Call PG d 346 as H)) : RES T I sp rt tt z n a p fc le co dd r (bd (Call PG d 346 as H) (fun v h => Run PG (Call PG d) 38 31 [(2, 22), (0, o), (0, s), (9, 0)] (v.toList ++ []) h (0, 0))) := by
  obtain ⟨v, p', va', fc', cl', le', co', e, oc⟩ := hr
  have hv : v = 0 ∨ v = 1 := by
    cases r with
    | inl e0 => exact Or.inl oc.1
    | inr w => exact Or.inr oc.1
  exact q_bd e (q_tr (T_38_31 ..) (q_tr (T_38_43 ..) (q_it hv ⟨v, p', va', fc', cl', le', co', rfl, oc⟩)))
theorem C_38 (h : CX I sp rt tt z T n) : ∀ (l : Nat) (o : Int) (E : Nat), o = 6 - (l : Int) ∧ l ≤ 5 → 4 * l + 7 ≤ E → CS T I sp rt tt z n 38 o E (2 * l + 4) (PIECE (qc (I (T + 1)) n) l) := by
  have hq := qc_OQ (I (T + 1)) n
  have hm := h.2.2.2
  intro l
  induction l with
  | zero =>
    intro o E ho hE p cl va fc le co hcl hp hle
    obtain ⟨e, rfl⟩ : ∃ e, E = e + 1 + 1 := ⟨E - 2, by omega⟩
    refine q_tr (K_38 ..) (q_tr (T_38_0 ..) (q_bd (S_29 h) ?_))
    unfold PIECE
    by_cases c : qc (I (T + 1)) n p = 33 ∨ qc (I (T + 1)) n p = 40
    · rw [if_pos c]
      have k1 : Run PG (Call PG (e + 1)) 38 4 [(2, 22), (0, o), (9, 0), (9, 0)] [(0, qc (I (T + 1)) n p)] (HC T I p va fc cl le co, RF sp rt tt z.1, z) (0, 0) = bd (Call PG (e + 1) 30 [(2, 22), (0, 5), (0, HC T I p va fc cl le co 22 1)] (HC T I p va fc cl le co, RF sp rt tt z.1, z)) (fun v h => Run PG (Call PG (e + 1)) 38 43 [(2, 22), (0, o), (0, qc (I (T + 1)) n p), (9, 0)] (v.toList ++ []) h (0, 0)) := by
        refine (T_38_4 ..).trans ?_
        rcases c with c | c
        · exact ci_t c (ci_f (by omega) rfl)
        · exact ci_f (by omega) (ci_t c (ci_f (by omega) rfl))
      refine q_tr k1 ?_
      rw [hc_1]
      refine q_bd (S_30 (by decide) (by omega)) (q_tr (T_38_43 ..) (q_it (Or.inl rfl) ?_))
      exact ⟨0, p, va, _, cl, le, co, rfl, rfl, rfl⟩
    · rw [if_neg c]
      exact C_CMP h (l := 0) (C_SUM h 0 o (e + 1) ho (by omega)) hcl hp hle (fun q => c (Or.inl q)) (fun q => c (Or.inr q))
  | succ l ih =>
    intro o E ho hE p cl va fc le co hcl hp hle
    obtain ⟨e, rfl⟩ : ∃ e, E = e + 3 + 1 + 1 := ⟨E - 5, by omega⟩
    refine q_tr (K_38 ..) (q_tr (T_38_0 ..) (q_bd (S_29 h) ?_))
    unfold PIECE
    by_cases c : qc (I (T + 1)) n p = 33
    · have hl := OQ_lt hq (by decide) c
      rw [if_pos c]
      refine q_tr (T_38_4 ..) (q_ct c (q_ct (by omega) (C_OP ?_)))
      rw [w32_of (x := o + 1) (by omega) (by omega)]
      refine q_tr (K_346 ..) (q_tr (T_346_0 ..) (q_ct c ?_))
      rw [hc_1, w_n (by omega), hu_1]
      obtain ⟨v, p', va', fc', cl', le', co', e1, oc⟩ := ih (o + 1) (e + 3) (by omega) (by omega) (p + 1) cl va fc le co (by omega) (by omega) hle
      refine q_bd e1 (q_tr (T_346_21 ..) ?_)
      have hb := PIECE_b (q := qc (I (T + 1)) n) l (p + 1)
      cases hsub : PIECE (qc (I (T + 1)) n) l (p + 1) with
      | inl e0 =>
        rw [hsub] at oc
        obtain ⟨rfl, rfl⟩ := oc
        exact q_ct rfl ⟨0, p', va', _, cl', le', co', rfl, rfl, rfl⟩
      | inr w =>
        obtain ⟨j, f⟩ := w
        have bf := hb _ _ hsub
        rw [hsub] at oc
        obtain ⟨rfl, rfl, rfl, o1, o2, o3, o4, o5⟩ := oc
        refine q_cf (by decide) (q_bd (S_39 h (by omega) (by decide) (by decide)) (q_tr (T_346_31 ..) (q_cf (by decide) ?_)))
        refine ⟨1, p', va', _, cl' + 1, le', _, rfl, rfl, rfl, rfl, by omega, fun x hx => ?_, o3, o4, ?_⟩
        · rw [uc_o (by omega), o2 x hx]
        · exact Cd_cl.2.2.2.1 (Cd_m o5 (fun _ q => q) _ (by omega) (fun x h1 h2 => uc_o (by omega))) uc_s bf
    · rw [if_neg c]
      by_cases c2 : qc (I (T + 1)) n p = 40
      · have hl := OQ_lt hq (by decide) c2
        rw [if_pos c2]
        refine q_tr (T_38_4 ..) (q_cf c (q_ct c2 (q_ct (by omega) (C_OP ?_))))
        rw [w32_of (x := o + 1) (by omega) (by omega)]
        refine q_tr (K_346 ..) (q_tr (T_346_0 ..) (q_cf c ?_))
        rw [hc_1, w_n (by omega), hu_1]
        obtain ⟨e2, rfl⟩ : ∃ e2, e = e2 + 1 := ⟨e - 1, by omega⟩
        have hcd := C_36 h (C_37 h (ih (o + 1) (e2 + 2) (by omega) (by omega)) (PIECE_b l)) (rch_b (fun _ _ => BoolF_and) (PIECE_b l) 160)
        obtain ⟨v, p', va', fc', cl', le', co', e1, oc⟩ := hcd (p + 1) cl va fc le co (by omega) (by omega) hle
        refine q_bd e1 (q_tr (T_346_45 ..) ?_)
        unfold COND
        cases hsub : rch (qc (I (T + 1)) n) 124 orF (rch (qc (I (T + 1)) n) 38 andF (PIECE (qc (I (T + 1)) n) l) 160) 160 (p + 1) with
        | inl e0 =>
          rw [hsub] at oc
          obtain ⟨rfl, rfl⟩ := oc
          exact q_ct rfl ⟨0, p', va', _, cl', le', co', rfl, rfl, rfl⟩
        | inr w =>
          obtain ⟨j, f⟩ := w
          rw [hsub] at oc
          obtain ⟨rfl, rfl, rfl, o1, o2, o3, o4, o5⟩ := oc
          refine q_cf (by decide) ?_
          dsimp only
          by_cases c3 : qc (I (T + 1)) n p' = 41
          · have hl2 := OQ_lt hq (by decide) c3
            rw [if_pos c3]
            refine q_bd ((S_35 h (by omega)).trans (if_pos c3)) (q_tr (T_346_54 ..) (q_cf (by decide) ?_))
            exact ⟨1, p' + 1, va', _, cl', le', co', rfl, rfl, rfl, rfl, by omega, o2, o3, o4, Cd_m o5 (fun _ q => q) _ (by omega) (fun _ _ _ => rfl)⟩
          · rw [if_neg c3]
            refine q_bd ((S_35 h (by omega)).trans (if_neg c3)) (q_tr (T_346_54 ..) (q_ct rfl ?_))
            exact ⟨0, p', va', _, cl', le', co', rfl, rfl, rfl⟩
      · rw [if_neg c2]
        exact C_CMP h (l := l + 1) (C_SUM h (l + 1) o (e + 3 + 1) ho (by omega)) hcl hp hle c c2
/-- a clause's condition -/
theorem C_COND (h : CX I sp rt tt z T n) {E : Nat} (hE : 29 ≤ E) : CS T I sp rt tt z n 36 1 E 14 (COND (qc (I (T + 1)) n) (PIECE (qc (I (T + 1)) n) 5)) := by
  obtain ⟨e, rfl⟩ : ∃ e, E = e + 1 + 3 := ⟨E - 4, by omega⟩
  exact C_36 h (C_37 h (C_38 h 5 1 (e + 2) (by decide) (by omega)) (PIECE_b 5)) (rch_b (fun _ _ => BoolF_and) (PIECE_b 5) 160)
end PB0

