/-! the class splits what comes to a place -/
theorem loop_c (G : Nat → Prop) (n : Nat) (step : ∀ i, i < n → G (i + 1) → G i) (fin : G n) : G 0 := by
  have h : ∀ k, k ≤ n → G (n - k) := by
    intro k
    induction k with
    | zero => intro _; exact fin
    | succ k ih =>
      intro hk
      have := step (n - (k + 1)) (by omega)
      rw [show n - (k + 1) + 1 = n - k by omega] at this
      exact this (ih (by omega))
  have := h n (Nat.le_refl n)
  rw [Nat.sub_self] at this
  exact this
def ov2 (o : Nat → Int) (on : Nat → Bool) (v : Nat → Int) (r : Nat) : Nat → Int := fun q => if q < r ∧ on q = true then v q else o q
theorem ov2_0 {o : Nat → Int} {on : Nat → Bool} {v : Nat → Int} : ov2 o on v 0 = o := funext fun q => if_neg (fun w => Nat.not_lt_zero _ w.1)
theorem ov2_on {o : Nat → Int} {on : Nat → Bool} {v : Nat → Int} {r : Nat} (h : on r = true) : ud (ov2 o on v r) r (v r) = ov2 o on v (r + 1) := by
  funext q
  by_cases c : q = r
  · subst c
    rw [ud_eq]
    exact (if_pos ⟨by omega, h⟩).symm
  · rw [ud_ne c]
    unfold ov2
    by_cases c2 : q < r ∧ on q = true
    · rw [if_pos c2, if_pos ⟨by omega, c2.2⟩]
    · rw [if_neg c2, if_neg (fun w => c2 ⟨by omega, w.2⟩)]
theorem ov2_off {o : Nat → Int} {on : Nat → Bool} {v : Nat → Int} {r : Nat} (h : ¬ on r = true) : ov2 o on v (r + 1) = ov2 o on v r := by
  funext q
  unfold ov2
  by_cases c2 : q < r ∧ on q = true
  · rw [if_pos c2, if_pos ⟨by omega, c2.2⟩]
  · rw [if_neg c2, if_neg (fun w => c2 ⟨by
      have := w.1
      by_cases c : q = r
      · subst c; exact absurd w.2 h
      · omega, w.2⟩)]
theorem ov2_eq {o : Nat → Int} {on : Nat → Bool} {v : Nat → Int} {r : Nat} (h : on r = true) (e : o r = v r) : ov2 o on v (r + 1) = ov2 o on v r := by
  rw [← ov2_on h]
  funext q
  by_cases c : q = r
  · subst c
    rw [ud_eq, ← e]
    exact (if_neg (fun w => Nat.lt_irrefl _ w.1)).symm
  · rw [ud_ne c]
theorem ov2_at {o : Nat → Int} {on : Nat → Bool} {v : Nat → Int} {r : Nat} : ov2 o on v r r = o r := if_neg (fun w => Nat.lt_irrefl _ w.1)
theorem ov2_in {o : Nat → Int} {on : Nat → Bool} {v : Nat → Int} {r m : Nat} (hr : r < m) (h : on r = true) : ov2 o on v m r = v r := if_pos ⟨hr, h⟩
def vfl (on : Nat → Bool) (w : Nat → Int) (m : Nat) (x : Int) (r : Nat) : Int := Int.tdiv (x * w r) (SW on w m)
def cm2 (A B c : Nat → Int) (on : Nat → Bool) (h : Nat) (v : Nat → Int) (r : Nat) : Nat → Int := fun b => c b + sm (fun q => if on q = true ∧ oe A B q h = b then v q else 0) r
theorem cm2_0 {A B c : Nat → Int} {on : Nat → Bool} {h : Nat} {v : Nat → Int} : cm2 A B c on h v 0 = c := funext fun b => Int.add_zero _
theorem cm2_off {A B c : Nat → Int} {on : Nat → Bool} {h : Nat} {v : Nat → Int} {r : Nat} (hn : ¬ on r = true) : cm2 A B c on h v (r + 1) = cm2 A B c on h v r := by
  funext b
  show c b + (sm _ r + (if on r = true ∧ oe A B r h = b then v r else 0)) = c b + sm _ r
  rw [if_neg (fun q => hn q.1), Int.add_zero]
theorem cm2_on {A B c : Nat → Int} {on : Nat → Bool} {h b0 : Nat} {v : Nat → Int} {r : Nat} (hn : on r = true) (hb : oe A B r h = b0) : ud (cm2 A B c on h v r) b0 (cm2 A B c on h v r b0 + v r) = cm2 A B c on h v (r + 1) := by
  funext b
  show _ = c b + (sm (fun q => if on q = true ∧ oe A B q h = b then v q else 0) r + (if on r = true ∧ oe A B r h = b then v r else 0))
  by_cases g : b = b0
  · subst g
    rw [ud_eq, if_pos ⟨hn, hb⟩]
    show c b + sm _ r + v r = _
    omega
  · rw [ud_ne g, if_neg (fun q => g (by omega)), Int.add_zero]
    rfl
theorem PRO_ov {A B st w : Nat → Int} {ok : Nat → Bool} {m h : Nat} {o c : Nat → Int} (hx : 0 < c h) : PRO A B st w ok m h (o, c) = (ov2 (ov2 o (onb A B st ok h) (vfl (onb A B st ok h) w m (c h)) m) (onb A B st ok h) (SHV (onb A B st ok h) w m (c h)) m, cm2 A B c (onb A B st ok h) h (SHV (onb A B st ok h) w m (c h)) m) := by
  unfold PRO
  refine Prod.ext ?_ ?_
  · funext q
    show (if 0 < c h ∧ q < m ∧ onb A B st ok h q = true then _ else o q) = if q < m ∧ onb A B st ok h q = true then _ else if q < m ∧ onb A B st ok h q = true then _ else o q
    by_cases g : q < m ∧ onb A B st ok h q = true
    · rw [if_pos ⟨hx, g⟩, if_pos g]
    · rw [if_neg (fun u => g u.2), if_neg g, if_neg g]
  · funext b
    show c b + CTA A B st w ok m h (c h) b = c b + _
    unfold CTA
    rw [if_pos hx]
theorem PRO_no {A B st w : Nat → Int} {ok : Nat → Bool} {m h : Nat} {s : OC} (hn : ∀ r, r < m → ¬ onb A B st ok h r = true) : PRO A B st w ok m h s = s := by
  unfold PRO CTA
  refine Prod.ext ?_ ?_
  · funext r
    exact if_neg (fun q => hn r q.2.1 q.2.2)
  · funext b
    show s.2 b + (if 0 < s.2 h then _ else 0) = s.2 b
    rw [sm_zero (fun r hr => if_neg (fun q => hn r hr q.1))]
    split <;> exact Int.add_zero _
theorem SW_le {on : Nat → Bool} {w : Nat → Int} {m : Nat} (hw : ∀ r, r < m → 1 ≤ w r ∧ w r ≤ 100) : ∀ k, k ≤ m → 0 ≤ sm (fun r => if on r = true then w r else 0) k ∧ sm (fun r => if on r = true then w r else 0) k ≤ 100 * k
  | 0, _ => ⟨Int.le_refl _, Int.le_refl _⟩
  | k + 1, hk => by
    have h1 := SW_le (on := on) hw k (by omega)
    have h2 := hw k (by omega)
    show 0 ≤ sm _ k + (if on k = true then w k else 0) ∧ sm _ k + (if on k = true then w k else 0) ≤ 100 * ((k + 1 : Nat) : Int)
    split <;> omega
theorem prod_b {x w : Int} (hx : 0 ≤ x ∧ x ≤ 1000000) (hw : 1 ≤ w ∧ w ≤ 100) : 0 ≤ x * w ∧ x * w ≤ 100000000 := by
  have h1 := Int.mul_nonneg hx.1 (show 0 ≤ w by omega)
  have h2 : x * w ≤ 1000000 * w := Int.mul_le_mul_of_nonneg_right hx.2 (by omega)
  omega
theorem vfl_b {on : Nat → Bool} {w : Nat → Int} {m : Nat} {x : Int} {r : Nat} (hx : 0 ≤ x ∧ x ≤ 1000000) (hw : 1 ≤ w r ∧ w r ≤ 100) (hW : 0 < SW on w m) : 0 ≤ vfl on w m x r ∧ vfl on w m x r ≤ 100000000 := by
  have h1 := prod_b hx hw
  have h2 := tdiv_b (x := x) (w := w r) (W := SW on w m) hx.1 (by omega) hW
  unfold vfl
  have h3 : 1 * Int.tdiv (x * w r) (SW on w m) ≤ SW on w m * Int.tdiv (x * w r) (SW on w m) := Int.mul_le_mul_of_nonneg_right (by omega) h2.1
  omega
theorem LF_in {on : Nat → Bool} {w : Nat → Int} {m : Nat} {x : Int} {k : Nat} (hx : 0 ≤ x) (hw : ∀ r, r < m → 0 ≤ w r) (hW : 0 < SW on w m) (hk : k ≤ m) : 0 ≤ LF on w m x k ∧ LF on w m x k ≤ x := by
  have h0 := LF_b hx hw hW
  have h1 : ∀ i, i < m → 0 ≤ (if on i = true then Int.tdiv (x * w i) (SW on w m) else 0) := fun i hi => by
    have := (tdiv_b hx (hw i hi) hW).1
    split <;> omega
  have h2 := sm_mono (f := fun r => if on r = true then Int.tdiv (x * w r) (SW on w m) else 0) (k := k) (n := m) h1 hk
  have h3 := sm_pos (f := fun r => if on r = true then Int.tdiv (x * w r) (SW on w m) else 0) (n := k) (fun i hi => h1 i (by omega))
  unfold LF at h0 ⊢
  omega
theorem L2_in {on : Nat → Bool} {L : Int} (h : 0 ≤ L) : ∀ k, 0 ≤ L2 on L k ∧ L2 on L k ≤ L
  | 0 => ⟨h, Int.le_refl _⟩
  | k + 1 => by
    have h1 := L2_in (on := on) h k
    show 0 ≤ (if on k = true ∧ 0 < L2 on L k then L2 on L k - 1 else L2 on L k) ∧ (if on k = true ∧ 0 < L2 on L k then L2 on L k - 1 else L2 on L k) ≤ L
    split <;> omega
theorem cm2_b {A B c w : Nat → Int} {on : Nat → Bool} {h m b r : Nat} {x : Int} (hx : 0 ≤ x) (hw : ∀ r, r < m → 0 ≤ w r) (hW : 0 < SW on w m) (hr : r ≤ m) : c b ≤ cm2 A B c on h (SHV on w m x) r b ∧ cm2 A B c on h (SHV on w m x) r b ≤ c b + x := by
  obtain ⟨s1, s2⟩ := SHV_b (on := on) hx hw hW
  have h1 := sm_pos (f := fun q => if on q = true ∧ oe A B q h = b then SHV on w m x q else 0) (n := r) (fun i hi => by
    have := s1 i (by omega)
    split <;> omega)
  have h2 := sm_mono (f := fun q => if on q = true then SHV on w m x q else 0) (k := r) (n := m) (fun i hi => by
    have := s1 i hi
    split <;> omega) hr
  have h3 : sm (fun q => if on q = true ∧ oe A B q h = b then SHV on w m x q else 0) r ≤ sm (fun q => if on q = true then SHV on w m x q else 0) r := sm_le (fun i hi => by
    have := s1 i (by omega)
    by_cases g : on i = true
    · rw [if_pos g]; split <;> omega
    · rw [if_neg g, if_neg (fun q => g q.1)]; exact Int.le_refl _)
  have e : cm2 A B c on h (SHV on w m x) r b = c b + sm (fun q => if on q = true ∧ oe A B q h = b then SHV on w m x q else 0) r := rfl
  rw [e]
  omega
def ok1 (I : Nat → Nat → Int) : Nat → Bool := fun r => decide (¬ I 32 r = 1)
section A1
variable {d : Nat} {I : Nat → Nat → Int} {sp rt : Nat} {tt : Nat → Nat} {z : Zs}
theorem S_64 {h e b : Int} {r : Nat} (hd : w32 (Int.tdiv e 2) = r) (hr : r < 150) (hi : 0 ≤ ix32 e 1 ∧ ix32 e 1 < 300) (hE : I 27 (ix32 e 1).toNat = b) (hb : 0 ≤ b ∧ b < 80) (hh : 0 ≤ h ∧ h < 80) (hs : w32 (I 30 h.toNat - 1) = I 30 h.toNat - 1) : Call PG (d + 2) 64 [(2, 25), (0, h), (0, e)] (I, RF sp rt tt z.1, z) = some (some (0, bz (¬ I 32 r = 1 ∧ I 30 b.toNat = I 30 h.toNat - 1)), (I, RF sp rt tt z.1, z)) := by
  refine (K_64 ..).trans ?_
  refine (T_64_0 ..).trans ?_
  rw [hd]
  refine bd_t (S_62 (by omega)) ?_
  refine (T_64_7 ..).trans ?_
  rw [Int.toNat_natCast]
  by_cases c : I 32 r = 1
  · refine ci_bt (fun w => w c) ?_
    exact rb0 (fun w => w.1 c)
  · refine ci_bf c ?_
    refine ci_t hi ?_
    rw [hE]
    refine ci_t hb ?_
    refine ci_t hh ?_
    rw [hs]
    by_cases c2 : I 30 b.toNat = I 30 h.toNat - 1
    · exact ci_t c2 (rb1 ⟨c, c2⟩)
    · exact ci_f c2 (rb0 (fun w => c2 w.2))
/-- whether a road leads on from h: as the class asks it -/
theorem S_64c {A B : Nat → Int} {P m : Nat} {X : Nat → Nat → Int} {h r : Nat} (hC : CN A B P m (X 27) (X 28) (X 29)) (hh : h < P) (hr : r < m) (inc : ¬ oe A B r h = -1) (hst : -1 ≤ X 30 h ∧ X 30 h ≤ 80) : Call PG (d + 2) 64 [(2, 25), (0, (h : Int)), (0, X 28 (X 29 h + (cnt A B h r : Int)).toNat)] (X, RF sp rt tt z.1, z) = some (some (0, bz (onb A B (X 30) (ok1 X) h r = true)), (X, RF sp rt tt z.1, z)) := by
  obtain ⟨hv, hP, hm⟩ := hC.1
  obtain ⟨x0, x1, x2, x3, x4, x5⟩ := CN_at hC (h := (h : Int)) (by omega) hr inc
  have hb := oe_in hv hr (Int.natCast_nonneg h) inc
  refine (S_64 (r := r) (b := oe A B r h) x4 (by omega) x2 x3 (by omega) (by omega) (w32_of (by simp only [Int.toNat_natCast]; omega) (by simp only [Int.toNat_natCast]; omega))).trans (eqv (bz_iff ?_))
  unfold onb ok1
  rw [decide_eq_true_iff, decide_eq_true_iff, Int.toNat_natCast]
  exact ⟨fun w => ⟨inc, w⟩, fun w => w.2⟩
def AC (I : Nat → Nat → Int) (o c : Nat → Int) : Nat → Nat → Int := pc (pc I 42 o) 43 c
theorem AC_42 {o c : Nat → Int} {r : Nat} {v : Int} : up2 (AC I o c) 42 r v = AC I (ud o r v) c := by unfold AC; rw [up2_pcn (by decide), up2_pc]
theorem AC_43 {o c : Nat → Int} {r : Nat} {v : Int} : up2 (AC I o c) 43 r v = AC I o (ud c r v) := up2_pc
theorem AC_self : AC I (I 42) (I 43) = I := by
  unfold AC
  rw [pc_self]
  exact pc_self
theorem CN_ac {A B : Nat → Int} {P m : Nat} {o c : Nat → Int} (hC : CN A B P m (I 27) (I 28) (I 29)) : CN A B P m (AC I o c 27) (AC I o c 28) (AC I o c 29) := hC
end A1

