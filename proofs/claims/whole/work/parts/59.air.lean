/-! air: how what comes to a place is split, and that the order among places of one level is of no matter -/
theorem sm_add {f g : Nat → Int} : ∀ {n : Nat}, sm (fun i => f i + g i) n = sm f n + sm g n
  | 0 => rfl
  | n + 1 => by
    show sm _ n + (f n + g n) = sm f n + f n + (sm g n + g n)
    rw [sm_add]; omega
theorem sm_sub {f g : Nat → Int} : ∀ {n : Nat}, sm (fun i => f i - g i) n = sm f n - sm g n
  | 0 => rfl
  | n + 1 => by
    show sm _ n + (f n - g n) = sm f n + f n - (sm g n + g n)
    rw [sm_sub]; omega
theorem sm_le {f g : Nat → Int} : ∀ {n : Nat}, (∀ i, i < n → f i ≤ g i) → sm f n ≤ sm g n
  | 0, _ => Int.le_refl _
  | n + 1, h => by
    have := sm_le (f := f) (g := g) (n := n) (fun i hi => h i (by omega))
    have := h n (by omega)
    show sm f n + f n ≤ sm g n + g n
    omega
theorem sm_mulc {f : Nat → Int} {c : Int} : ∀ {n : Nat}, sm (fun i => c * f i) n = c * sm f n
  | 0 => (Int.mul_zero c).symm
  | n + 1 => by
    show sm _ n + c * f n = c * (sm f n + f n)
    rw [sm_mulc, Int.mul_add]
theorem sm_swap {f : Nat → Nat → Int} {m : Nat} : ∀ {n : Nat}, sm (fun i => sm (fun j => f i j) m) n = sm (fun j => sm (fun i => f i j) n) m
  | 0 => (sm_zero (fun _ _ => rfl)).symm
  | n + 1 => by
    show sm (fun i => sm (fun j => f i j) m) n + sm (fun j => f n j) m = sm (fun j => sm (fun i => f i j) n + f n j) m
    rw [sm_swap, sm_add]
theorem sm_pos {f : Nat → Int} : ∀ {n : Nat}, (∀ i, i < n → 0 ≤ f i) → 0 ≤ sm f n
  | 0, _ => Int.le_refl _
  | n + 1, h => by
    have := sm_pos (f := f) (n := n) (fun i hi => h i (by omega))
    have := h n (by omega)
    show 0 ≤ sm f n + f n
    omega
theorem sm_mono {f : Nat → Int} {k n : Nat} (h : ∀ i, i < n → 0 ≤ f i) (hk : k ≤ n) : sm f k ≤ sm f n := by
  induction n with
  | zero => have : k = 0 := by omega
            subst this; exact Int.le_refl _
  | succ n ih =>
    by_cases c : k = n + 1
    · subst c; exact Int.le_refl _
    · have := ih (fun i hi => h i (by omega)) (by omega)
      have := h n (by omega)
      show sm f k ≤ sm f n + f n
      omega
theorem sm_one {f : Nat → Int} {k n : Nat} (h : ∀ i, i < n → 0 ≤ f i) (hk : k < n) : f k ≤ sm f n := by
  have h1 := sm_mono (f := f) (k := k + 1) (n := n) h (by omega)
  have h2 : sm f (k + 1) = sm f k + f k := rfl
  have h3 := sm_pos (f := f) (n := k) (fun i hi => h i (by omega))
  omega
/-- a sum with one part at most -/
theorem sm_sgl {f : Nat → Int} {k n : Nat} (hk : k < n) (h : ∀ i, i < n → i ≠ k → f i = 0) : sm f n = f k := by
  have e := sm_set (f := fun _ => (0 : Int)) (g := f) (k := k) (n := n) hk h
  rw [sm_zero (f := fun _ => (0 : Int)) (fun _ _ => rfl)] at e
  omega
def SW (on : Nat → Bool) (w : Nat → Int) (m : Nat) : Int := sm (fun r => if on r = true then w r else 0) m
def LF (on : Nat → Bool) (w : Nat → Int) (m : Nat) (x : Int) (k : Nat) : Int := x - sm (fun r => if on r = true then Int.tdiv (x * w r) (SW on w m) else 0) k
def L2 (on : Nat → Bool) (L : Int) : Nat → Int
  | 0 => L
  | r + 1 => if on r = true ∧ 0 < L2 on L r then L2 on L r - 1 else L2 on L r
def SHV (on : Nat → Bool) (w : Nat → Int) (m : Nat) (x : Int) (r : Nat) : Int := Int.tdiv (x * w r) (SW on w m) + (if 0 < L2 on (LF on w m x m) r then 1 else 0)
theorem tdiv_b {x w W : Int} (hx : 0 ≤ x) (hw : 0 ≤ w) (hW : 0 < W) : 0 ≤ Int.tdiv (x * w) W ∧ W * Int.tdiv (x * w) W ≤ x * w := by
  have h := Int.mul_nonneg hx hw
  rw [Int.tdiv_eq_ediv_of_nonneg h]
  refine ⟨Int.ediv_nonneg h (by omega), Int.mul_ediv_self_le (by omega)⟩
theorem LF_b {on : Nat → Bool} {w : Nat → Int} {m : Nat} {x : Int} (hx : 0 ≤ x) (hw : ∀ r, r < m → 0 ≤ w r) (hW : 0 < SW on w m) : 0 ≤ LF on w m x m := by
  have h1 : SW on w m * sm (fun r => if on r = true then Int.tdiv (x * w r) (SW on w m) else 0) m ≤ x * SW on w m := by
    rw [← sm_mulc]
    show sm _ m ≤ x * sm (fun r => if on r = true then w r else 0) m
    rw [← sm_mulc]
    refine sm_le (fun r hr => ?_)
    by_cases c : on r = true
    · rw [if_pos c, if_pos c]; exact (tdiv_b hx (hw r hr) hW).2
    · rw [if_neg c, if_neg c]; omega
  rw [Int.mul_comm x] at h1
  have h2 := Int.le_of_mul_le_mul_left h1 hW
  unfold LF
  omega
theorem L2_b {on : Nat → Bool} {L : Int} (h : 0 ≤ L) : ∀ k, 0 ≤ L2 on L k ∧ sm (fun r => if on r = true ∧ 0 < L2 on L r then 1 else 0) k = L - L2 on L k
  | 0 => ⟨h, (Int.sub_self L).symm⟩
  | k + 1 => by
    obtain ⟨h1, h2⟩ := L2_b (on := on) h k
    have e : L2 on L (k + 1) = if on k = true ∧ 0 < L2 on L k then L2 on L k - 1 else L2 on L k := rfl
    have e2 : sm (fun r => if on r = true ∧ 0 < L2 on L r then (1 : Int) else 0) (k + 1) = sm (fun r => if on r = true ∧ 0 < L2 on L r then (1 : Int) else 0) k + (if on k = true ∧ 0 < L2 on L k then 1 else 0) := rfl
    rw [e2, h2, e]
    by_cases c : on k = true ∧ 0 < L2 on L k
    · rw [if_pos c, if_pos c]; omega
    · rw [if_neg c, if_neg c]; omega
theorem SHV_b {on : Nat → Bool} {w : Nat → Int} {m : Nat} {x : Int} (hx : 0 ≤ x) (hw : ∀ r, r < m → 0 ≤ w r) (hW : 0 < SW on w m) : (∀ r, r < m → 0 ≤ SHV on w m x r) ∧ sm (fun r => if on r = true then SHV on w m x r else 0) m ≤ x := by
  constructor
  · intro r hr
    have := (tdiv_b (w := w r) hx (hw r hr) hW).1
    unfold SHV
    split <;> omega
  · have hL := LF_b hx hw hW
    obtain ⟨l1, l2⟩ := L2_b (on := on) hL m
    have e : sm (fun r => if on r = true then SHV on w m x r else 0) m = sm (fun r => (if on r = true then Int.tdiv (x * w r) (SW on w m) else 0) + (if on r = true ∧ 0 < L2 on (LF on w m x m) r then 1 else 0)) m := by
      refine sm_congr (fun r hr => ?_)
      unfold SHV
      by_cases c : on r = true
      · rw [if_pos c, if_pos c]
        by_cases c2 : 0 < L2 on (LF on w m x m) r
        · rw [if_pos c2, if_pos ⟨c, c2⟩]
        · rw [if_neg c2, if_neg (fun q => c2 q.2)]
      · rw [if_neg c, if_neg c, if_neg (fun q => c q.1)]; rfl
    rw [e, sm_add, l2]
    have : LF on w m x m = x - sm (fun r => if on r = true then Int.tdiv (x * w r) (SW on w m) else 0) m := rfl
    omega
abbrev OC : Type := (Nat → Int) × (Nat → Int)
def onb (A B st : Nat → Int) (ok : Nat → Bool) (h r : Nat) : Bool := decide (¬ oe A B r h = -1 ∧ ok r = true ∧ st (oe A B r h).toNat = st h - 1)
/-- what place h with x coming gives to place b -/
def CTA (A B st w : Nat → Int) (ok : Nat → Bool) (m h : Nat) (x : Int) (b : Nat) : Int := if 0 < x then sm (fun r => if onb A B st ok h r = true ∧ oe A B r h = b then SHV (onb A B st ok h) w m x r else 0) m else 0
def PRO (A B st w : Nat → Int) (ok : Nat → Bool) (m h : Nat) (s : OC) : OC := (fun r => if 0 < s.2 h ∧ r < m ∧ onb A B st ok h r = true then SHV (onb A B st ok h) w m (s.2 h) r else s.1 r, fun b => s.2 b + CTA A B st w ok m h (s.2 h) b)
theorem PRO_0 {A B st w : Nat → Int} {ok : Nat → Bool} {m h : Nat} {s : OC} (h0 : ¬ 0 < s.2 h) : PRO A B st w ok m h s = s := by
  unfold PRO CTA
  simp only [if_neg h0]
  refine Prod.ext ?_ ?_
  · funext r
    exact if_neg (fun q => h0 q.1)
  · funext b
    exact Int.add_zero _
def upr (A B st : Nat → Int) (r : Nat) : Int := if st (A r).toNat = st (B r).toNat + 1 then A r else B r
theorem upr_on {A B st : Nat → Int} {ok : Nat → Bool} {m P h r : Nat} (hv : NV A B m P) (hr : r < m) (ho : onb A B st ok h r = true) : upr A B st r = h := by
  obtain ⟨h1, h2, h3⟩ := of_decide_eq_true ho
  have nv := hv r hr
  unfold upr
  unfold oe at h1 h3
  by_cases c : A r = h
  · rw [if_pos c] at h3
    rw [c]
    simp only [Int.toNat_natCast]
    rw [if_pos (by omega)]
  · rw [if_neg c] at h1 h3
    by_cases c2 : B r = h
    · rw [if_pos c2] at h3
      rw [c2]
      simp only [Int.toNat_natCast]
      rw [if_neg (by omega)]
    · rw [if_neg c2] at h1; exact absurd rfl h1
/-- a set Y of places of one level, all at once -/
def PS (A B st w : Nat → Int) (ok : Nat → Bool) (m P : Nat) (Y : Nat → Bool) (s : OC) : OC :=
  (fun r => if Y (upr A B st r).toNat = true ∧ 0 < s.2 (upr A B st r).toNat ∧ r < m ∧ onb A B st ok (upr A B st r).toNat r = true then SHV (onb A B st ok (upr A B st r).toNat) w m (s.2 (upr A B st r).toNat) r else s.1 r,
   fun b => s.2 b + sm (fun h => if Y h = true then CTA A B st w ok m h (s.2 h) b else 0) P)
theorem CTA_lv {A B st w : Nat → Int} {ok : Nat → Bool} {m h b : Nat} {x : Int} (hb : ¬ st b = st h - 1) : CTA A B st w ok m h x b = 0 := by
  unfold CTA
  split
  · refine sm_zero (fun r hr => ?_)
    refine if_neg (fun q => ?_)
    obtain ⟨h1, h2, h3⟩ := of_decide_eq_true q.1
    rw [q.2] at h3
    exact hb h3
  · rfl
theorem PS_none {A B st w : Nat → Int} {ok : Nat → Bool} {m P : Nat} {Y : Nat → Bool} {s : OC} (h : ∀ h, Y h = true → ¬ 0 < s.2 h) : PS A B st w ok m P Y s = s := by
  unfold PS
  refine Prod.ext ?_ ?_
  · funext r
    exact if_neg (fun q => h _ q.1 q.2.1)
  · funext b
    show s.2 b + sm _ P = s.2 b
    rw [sm_zero (fun i hi => ?_)]
    · exact Int.add_zero _
    · by_cases c : Y i = true
      · rw [if_pos c]; exact if_neg (h i c)
      · rw [if_neg c]
theorem PS_cg {A B st w : Nat → Int} {ok : Nat → Bool} {m P : Nat} {Y Y' : Nat → Bool} {s : OC} (hv : NV A B m P) (h : ∀ h, h < P → Y h = Y' h) : PS A B st w ok m P Y s = PS A B st w ok m P Y' s := by
  unfold PS
  refine Prod.ext ?_ ?_
  · funext r
    show (if _ then _ else _) = (if _ then _ else _)
    by_cases hr : r < m
    · have nv := hv r hr
      have hu : (upr A B st r).toNat < P := by unfold upr; split <;> omega
      rw [h _ hu]
    · rw [if_neg (fun q => hr q.2.2.1), if_neg (fun q => hr q.2.2.1)]
  · funext b
    show s.2 b + sm _ P = s.2 b + sm _ P
    rw [sm_congr (fun i hi => by rw [h i hi])]
/-- one place more -/
theorem PS_add {A B st w : Nat → Int} {ok : Nat → Bool} {m P h : Nat} {d : Int} {Y : Nat → Bool} {s : OC} (hv : NV A B m P) (hh : h < P) (hd : st h = d) (hY : ∀ k, Y k = true → st k = d) (hn : Y h = false) :
    PRO A B st w ok m h (PS A B st w ok m P Y s) = PS A B st w ok m P (fun k => Y k || decide (k = h)) s := by
  have e : (PS A B st w ok m P Y s).2 h = s.2 h := by
    show s.2 h + sm _ P = s.2 h
    rw [sm_zero (fun i hi => ?_)]
    · exact Int.add_zero _
    · by_cases c : Y i = true
      · rw [if_pos c]; exact CTA_lv (by rw [hY i c, hd]; omega)
      · rw [if_neg c]
  unfold PRO
  rw [e]
  refine Prod.ext ?_ ?_
  · funext r
    show (if 0 < s.2 h ∧ r < m ∧ onb A B st ok h r = true then SHV (onb A B st ok h) w m (s.2 h) r else if Y (upr A B st r).toNat = true ∧ 0 < s.2 (upr A B st r).toNat ∧ r < m ∧ onb A B st ok (upr A B st r).toNat r = true then SHV (onb A B st ok (upr A B st r).toNat) w m (s.2 (upr A B st r).toNat) r else s.1 r) = if (Y (upr A B st r).toNat || decide ((upr A B st r).toNat = h)) = true ∧ 0 < s.2 (upr A B st r).toNat ∧ r < m ∧ onb A B st ok (upr A B st r).toNat r = true then SHV (onb A B st ok (upr A B st r).toNat) w m (s.2 (upr A B st r).toNat) r else s.1 r
    by_cases hr : r < m
    · by_cases c : onb A B st ok h r = true
      · have u := upr_on hv hr c
        rw [u]
        simp only [Int.toNat_natCast]
        by_cases c2 : 0 < s.2 h
        · rw [if_pos ⟨c2, hr, c⟩, if_pos ⟨by simp, c2, hr, c⟩]
        · rw [if_neg (fun q => c2 q.1), if_neg (fun q => c2 q.2.1), if_neg (fun q => c2 q.2.1)]
      · rw [if_neg (fun q => c q.2.2)]
        by_cases u : (upr A B st r).toNat = h
        · rw [u, if_neg (fun q => c q.2.2.2), if_neg (fun q => c q.2.2.2)]
        · simp [u]
    · rw [if_neg (fun q => hr q.2.1), if_neg (fun q => hr q.2.2.1), if_neg (fun q => hr q.2.2.1)]
  · funext b
    show s.2 b + sm (fun k => if Y k = true then CTA A B st w ok m k (s.2 k) b else 0) P + CTA A B st w ok m h (s.2 h) b = s.2 b + sm (fun k => if (Y k || decide (k = h)) = true then CTA A B st w ok m k (s.2 k) b else 0) P
    rw [sm_set (f := fun k => if Y k = true then CTA A B st w ok m k (s.2 k) b else 0) (g := fun k => if (Y k || decide (k = h)) = true then CTA A B st w ok m k (s.2 k) b else 0) hh (fun i _ hi => by simp [hi])]
    simp [hn]
    omega
def FUL (A B st w : Nat → Int) (ok : Nat → Bool) (m P : Nat) (d : Int) (s : OC) : OC := PS A B st w ok m P (fun h => decide (st h = d)) s
/-- all levels above d, from D on -/
def ZZ (A B st w : Nat → Int) (ok : Nat → Bool) (m P : Nat) : Nat → Int → OC → OC
  | 0, _, s => s
  | k + 1, d, s => ZZ A B st w ok m P k (d - 1) (FUL A B st w ok m P d s)
/-- what is on its way: nothing is lost -/
def CI (P : Nat) (X : Int) (c : Nat → Int) (Q : Nat → Bool) : Prop := (∀ b, b < P → 0 ≤ c b) ∧ sm (fun b => if Q b = true then 0 else c b) P ≤ X
theorem CI_le {P h : Nat} {X : Int} {c : Nat → Int} {Q : Nat → Bool} (H : CI P X c Q) (hh : h < P) (hq : Q h = false) : 0 ≤ c h ∧ c h ≤ X := by
  have h1 := H.1 h hh
  have h2 := sm_one (f := fun b => if Q b = true then 0 else c b) (k := h) (n := P) (fun i hi => by
    have := H.1 i hi
    split <;> omega) hh
  rw [if_neg (by simp [hq])] at h2
  have := H.2
  omega
theorem SW_pos {A B st w : Nat → Int} {ok : Nat → Bool} {m P h : Nat} (hw : ∀ r, r < m → 1 ≤ w r) {r : Nat} (hr : r < m) (ho : onb A B st ok h r = true) : 0 < SW (onb A B st ok h) w m := by
  have := sm_one (f := fun r => if onb A B st ok h r = true then w r else 0) (k := r) (n := m) (fun i hi => by
    have := hw i hi
    split <;> omega) hr
  rw [if_pos ho] at this
  have := hw r hr
  unfold SW
  omega
theorem CTA_b {A B st w : Nat → Int} {ok : Nat → Bool} {m P h : Nat} {x : Int} (hv : NV A B m P) (hw : ∀ r, r < m → 1 ≤ w r) (hx : 0 ≤ x) : (∀ b, 0 ≤ CTA A B st w ok m h x b) ∧ sm (CTA A B st w ok m h x) P ≤ x := by
  by_cases c : 0 < x
  · by_cases hW : 0 < SW (onb A B st ok h) w m
    · obtain ⟨s1, s2⟩ := SHV_b (on := onb A B st ok h) (x := x) (w := w) (m := m) hx (fun r hr => by have := hw r hr; omega) hW
      constructor
      · intro b
        unfold CTA
        rw [if_pos c]
        refine sm_pos (fun r hr => ?_)
        have := s1 r hr
        split <;> omega
      · have e : sm (CTA A B st w ok m h x) P = sm (fun b => sm (fun r => if onb A B st ok h r = true ∧ oe A B r h = b then SHV (onb A B st ok h) w m x r else 0) m) P := sm_congr (fun b _ => if_pos c)
        rw [e, sm_swap]
        refine Int.le_trans (sm_le (fun r hr => ?_)) s2
        have := s1 r hr
        by_cases ho : onb A B st ok h r = true
        · rw [if_pos ho]
          obtain ⟨h1, h2, h3⟩ := of_decide_eq_true ho
          have hb := oe_in hv hr (Int.natCast_nonneg h) h1
          rw [sm_sgl (k := (oe A B r h).toNat) (by omega) (fun i hi hn => if_neg (fun q => hn (by omega)))]
          split <;> omega
        · rw [if_neg ho, sm_zero (fun i hi => if_neg (fun q => ho q.1))]; exact Int.le_refl _
    · have z : ∀ b, CTA A B st w ok m h x b = 0 := fun b => by
        unfold CTA
        rw [if_pos c]
        refine sm_zero (fun r hr => if_neg (fun q => hW (SW_pos (P := P) hw hr q.1)))
      refine ⟨fun b => by rw [z]; exact Int.le_refl _, ?_⟩
      rw [sm_zero (fun b _ => z b)]; exact hx
  · have z : ∀ b, CTA A B st w ok m h x b = 0 := fun b => if_neg c
    refine ⟨fun b => by rw [z]; exact Int.le_refl _, ?_⟩
    rw [sm_zero (fun b _ => z b)]; exact hx
theorem CI_pro {A B st w : Nat → Int} {ok : Nat → Bool} {m P h : Nat} {X : Int} {s : OC} {Q : Nat → Bool} (hv : NV A B m P) (hw : ∀ r, r < m → 1 ≤ w r) (hh : h < P) (hq : Q h = false) (hl : ∀ k, k < P → Q k = true → st h ≤ st k) (H : CI P X s.2 Q) :
    CI P X (PRO A B st w ok m h s).2 (fun k => Q k || decide (k = h)) := by
  have hx := H.1 h hh
  obtain ⟨c1, c2⟩ := CTA_b (A := A) (B := B) (st := st) (ok := ok) (h := h) (x := s.2 h) hv hw hx
  constructor
  · intro b hb
    show 0 ≤ s.2 b + CTA A B st w ok m h (s.2 h) b
    have := H.1 b hb
    have := c1 b
    omega
  · show sm (fun b => if (Q b || decide (b = h)) = true then 0 else s.2 b + CTA A B st w ok m h (s.2 h) b) P ≤ X
    have e1 : sm (fun b => if (Q b || decide (b = h)) = true then 0 else s.2 b) P = sm (fun b => if Q b = true then 0 else s.2 b) P - s.2 h := by
      rw [sm_set (f := fun b => if Q b = true then 0 else s.2 b) (g := fun b => if (Q b || decide (b = h)) = true then 0 else s.2 b) hh (fun i _ hi => by simp [hi])]
      simp [hq]
    have e2 : sm (fun b => if (Q b || decide (b = h)) = true then 0 else s.2 b + CTA A B st w ok m h (s.2 h) b) P ≤ sm (fun b => (if (Q b || decide (b = h)) = true then 0 else s.2 b) + CTA A B st w ok m h (s.2 h) b) P := by
      refine sm_le (fun i hi => ?_)
      have := c1 i
      split <;> omega
    rw [sm_add, e1] at e2
    have := H.2
    have e3 : sm (fun i => CTA A B st w ok m h (s.2 h) i) P = sm (CTA A B st w ok m h (s.2 h)) P := rfl
    omega

