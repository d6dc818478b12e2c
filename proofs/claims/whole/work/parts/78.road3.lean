/-! the call: a road -/
section R2
variable {I : Nat → Nat → Int} {sp rt : Nat} {tt : Nat → Nat} {z : Zs}
/-- the class's cells behind a road -/
def RDc (I : Nat → Nat → Int) (n m a b fa fn fb : Nat) (p w dc : Int) : Nat → Nat → Int :=
  up2 (up2 (up2 (pc (pc (up2 (pc (pc (up2 (up2 (up2 I 26 m w) 32 m dc) 27 (2 * m) a) 28 (insL (I 28) fa (fn - fa) (2 * (m : Int)))) 29 (incF (I 29) a n)) 27 (2 * m + 1) b) 28 (insL (insL (I 28) fa (fn - fa) (2 * (m : Int))) fb (fn + 1 - fb) (2 * (m : Int) + 1))) 29 (incF (incF (I 29) a n) b n)) 37 p.toNat (-2)) 25 1 ((m : Int) + 1)) 44 p.toNat (-2)
def RDr (J : Nat → Nat → Int) (m a b : Nat) (w o : Int) : Nat → Nat → Int := up2 (up2 (up2 (up2 (up2 (up2 J 119 m a) 120 m b) 121 m w) 122 m o) 123 m (1 - o)) 82 7 ((m : Int) + 1)
theorem RDc_o {n m a b fa fn fb : Nat} {p w dc : Int} {c j : Nat} (h1 : ¬ c = 26) (h2 : ¬ c = 32) (h3 : ¬ c = 27) (h4 : ¬ c = 28) (h5 : ¬ c = 29) (h6 : ¬ c = 37) (h7 : ¬ (c = 25 ∧ j = 1)) (h8 : ¬ c = 44) : RDc I n m a b fa fn fb p w dc c j = I c j := by
  unfold RDc
  rw [up2_ne h8, up2_def, if_neg h7, up2_ne h6, pc_ne h5, pc_ne h4, up2_ne h3, pc_ne h5, pc_ne h4, up2_ne h3, up2_ne h2, up2_ne h1]
theorem RDr_o {J : Nat → Nat → Int} {m a b : Nat} {w o : Int} {c j : Nat} (h1 : ¬ (119 ≤ c ∧ c ≤ 123)) (h2 : ¬ (c = 82 ∧ j = 7)) : RDr J m a b w o c j = J c j := by
  unfold RDr
  rw [up2_def, if_neg h2, up2_ne (by omega), up2_ne (by omega), up2_ne (by omega), up2_ne (by omega), up2_ne (by omega)]
theorem S_100y {n m a b fa fn fb : Nat} {p w o dc : Int} (hn : GN0 I) (hN : I 25 0 = n) (hM : I 25 1 = m) (hm : m < 150) (hab : ¬ a = b) (ha : a < n) (hb : b < n) (hpa : I 33 a = p) (hpb : I 33 b = p) (hp : 0 ≤ p ∧ p < 12) (hw : 1 ≤ w ∧ w ≤ 100) (ho : (o = 0 ∧ dc = 0) ∨ (o = 1 ∧ dc = 1)) (hfa : I 29 (a + 1) = fa) (hfn : I 29 n = fn) (hfb : incF (I 29) a n (b + 1) = fb) :
    Call PG 300 100 [(2, 0), (0, (a : Int)), (0, (b : Int)), (0, w), (0, o)] (I, RF sp rt tt z.1, z) = some (some (0, (m : Int)), (RDc I n m a b fa fn fb p w dc, RF sp rt tt z.1, z)) := by
  obtain ⟨⟨g1, g2⟩, g3, g4, g5, g6, g7, g8, g9, g10⟩ := hn
  have eN : (I 25 0).toNat = n := by omega
  have eM : (I 25 1).toNat = m := by omega
  rw [eN] at g7 g8
  rw [eM] at g7
  have hP := g7.1.2.1
  have hS : SEG (I 28) (I 29) n (fun x => cnt (I 119) (I 120) x m) (fun x i => I 28 (I 29 x + (i : Int)).toNat) := ⟨g8.1, fun x hx => ⟨(g7.2.2.1 x hx).1, fun i hi => rfl⟩⟩
  have hfn2 : fn = 2 * m := by have := g8.2.1; omega
  have hS1 := SEG_ins (e := 2 * (m : Int)) hS ha hfa hfn
  have hfn1 : incF (I 29) a n n = ((fn + 1 : Nat) : Int) := by
    unfold incF
    rw [if_pos ⟨ha, Nat.le_refl n⟩, hfn]; rfl
  have mA := SEG_mono hS (b := n) (a := a + 1) (by omega) (Nat.le_refl n)
  have mB := SEG_mono hS1 (b := n) (a := b + 1) (by omega) (Nat.le_refl n)
  rw [hfn1, hfb] at mB
  rw [hfa, hfn] at mA
  have m150 : 0 ≤ (m : Int) ∧ (m : Int) < 150 := by omega
  have e2m : ∀ _ : Unit, w32 (2 * (m : Int)) = 2 * (m : Int) := fun _ => w32_of (by omega) (by omega)
  have e2m1 : ∀ _ : Unit, w32 (2 * (m : Int) + 1) = 2 * (m : Int) + 1 := fun _ => w32_of (by omega) (by omega)
  have em1 : ∀ _ : Unit, w32 ((m : Int) + 1) = (m : Int) + 1 := fun _ => w32_of (by omega) (by omega)
  have h1 := S_104 (d := 297) (I := up2 (up2 I 26 m w) 32 m dc) (sp := sp) (rt := rt) (tt := tt) (z := z) (n := n) (a := a) (e := 2 * (m : Int)) (fa := fa) (fn := fn) hP ha hN hfa hfn (by omega) (by omega) (by omega) (fun q hq => by
    have q1 := SEG_mono hS (b := n) (a := q) hq (Nat.le_refl n)
    rw [hfn] at q1
    show 0 ≤ I 29 q ∧ I 29 q ≤ 300
    omega)
  rw [show (2 * (m : Int)).toNat = 2 * m by omega, show up2 (up2 I 26 m w) 32 m dc 28 = I 28 from rfl, show up2 (up2 I 26 m w) 32 m dc 29 = I 29 from rfl] at h1
  have h2 := S_104 (d := 297) (I := pc (pc (up2 (up2 (up2 I 26 m w) 32 m dc) 27 (2 * m) a) 28 (insL (I 28) fa (fn - fa) (2 * (m : Int)))) 29 (incF (I 29) a n)) (sp := sp) (rt := rt) (tt := tt) (z := z) (n := n) (a := b) (e := 2 * (m : Int) + 1) (fa := fb) (fn := fn + 1) hP hb hN hfb hfn1 (by omega) (by omega) (by omega) (fun q hq => by
    have q1 := SEG_mono hS1 (b := n) (a := q) hq (Nat.le_refl n)
    rw [hfn1] at q1
    show 0 ≤ incF (I 29) a n q ∧ incF (I 29) a n q ≤ 300
    omega)
  rw [show (2 * (m : Int) + 1).toNat = 2 * m + 1 by omega, show pc (pc (up2 (up2 (up2 I 26 m w) 32 m dc) 27 (2 * m) a) 28 (insL (I 28) fa (fn - fa) (2 * (m : Int)))) 29 (incF (I 29) a n) 28 = insL (I 28) fa (fn - fa) (2 * (m : Int)) from rfl, show pc (pc (up2 (up2 (up2 I 26 m w) 32 m dc) 27 (2 * m) a) 28 (insL (I 28) fa (fn - fa) (2 * (m : Int)))) 29 (incF (I 29) a n) 29 = incF (I 29) a n from rfl] at h2
  have a80 : 0 ≤ (a : Int) ∧ (a : Int) < 80 := by omega
  have h101 : Call PG 299 101 [(2, 25), (0, (a : Int)), (0, (b : Int)), (0, w), (0, o)] (I, RF sp rt tt z.1, z) = some (some (0, (m : Int)), (up2 (up2 (pc (pc (up2 (pc (pc (up2 (up2 (up2 I 26 m w) 32 m dc) 27 (2 * m) a) 28 (insL (I 28) fa (fn - fa) (2 * (m : Int)))) 29 (incF (I 29) a n)) 27 (2 * m + 1) b) 28 (insL (insL (I 28) fa (fn - fa) (2 * (m : Int))) fb (fn + 1 - fb) (2 * (m : Int) + 1))) 29 (incF (incF (I 29) a n) b n)) 37 p.toNat (-2)) 25 1 ((m : Int) + 1), RF sp rt tt z.1, z)) := by
    refine (K_101 ..).trans ?_
    refine (T_101_0 ..).trans ?_
    refine ci_t (by omega) ?_
    refine ci_f (by omega) ?_
    refine bd_t S_102 ?_
    refine (T_101_20 ..).trans ?_
    refine ci_bf (by omega) ?_
    refine ci_t a80 ?_
    refine bd_t (S_103 (by omega)) ?_
    refine (T_101_34 ..).trans ?_
    refine ci_bf ?_ ?_
    · rw [Int.toNat_natCast, Int.toNat_natCast, hpa, hpb]
      omega
    refine bd_t S_13 ?_
    refine (T_101_46 ..).trans ?_
    refine ci_bf hw ?_
    · rw [hM, e2m (), Int.toNat_natCast]
      have tail : Run PG (Call PG 298) 101 91 [(2, 25), (0, (a : Int)), (0, (b : Int)), (0, w), (0, o), (0, (m : Int))] [] (pc (pc (up2 (up2 (up2 I 26 m w) 32 m dc) 27 (2 * m) a) 28 (insL (I 28) fa (fn - fa) (2 * (m : Int)))) 29 (incF (I 29) a n), RF sp rt tt z.1, z) (0, 0) = some (some (0, (m : Int)), (up2 (up2 (pc (pc (up2 (pc (pc (up2 (up2 (up2 I 26 m w) 32 m dc) 27 (2 * m) a) 28 (insL (I 28) fa (fn - fa) (2 * (m : Int)))) 29 (incF (I 29) a n)) 27 (2 * m + 1) b) 28 (insL (insL (I 28) fa (fn - fa) (2 * (m : Int))) fb (fn + 1 - fb) (2 * (m : Int) + 1))) 29 (incF (incF (I 29) a n) b n)) 37 p.toNat (-2)) 25 1 ((m : Int) + 1), RF sp rt tt z.1, z)) := by
        refine (T_101_91 ..).trans ?_
        rw [e2m (), e2m1 ()]
        refine bd_t h2 ?_
        refine (T_101_102 ..).trans ?_
        refine ci_t a80 ?_
        rw [show pc (pc (up2 (pc (pc (up2 (up2 (up2 I 26 m w) 32 m dc) 27 (2 * m) a) 28 (insL (I 28) fa (fn - fa) (2 * (m : Int)))) 29 (incF (I 29) a n)) 27 (2 * m + 1) b) 28 (insL (insL (I 28) fa (fn - fa) (2 * (m : Int))) fb (fn + 1 - fb) (2 * (m : Int) + 1))) 29 (incF (incF (I 29) a n) b n) 33 (a : Int).toNat = p from hpa, show pc (pc (up2 (pc (pc (up2 (up2 (up2 I 26 m w) 32 m dc) 27 (2 * m) a) 28 (insL (I 28) fa (fn - fa) (2 * (m : Int)))) 29 (incF (I 29) a n)) 27 (2 * m + 1) b) 28 (insL (insL (I 28) fa (fn - fa) (2 * (m : Int))) fb (fn + 1 - fb) (2 * (m : Int) + 1))) 29 (incF (incF (I 29) a n) b n) 25 1 = m from hM, em1 ()]
        exact ci_t hp rfl
      refine ci_t m150 ?_
      rcases ho with ⟨rfl, rfl⟩ | ⟨rfl, rfl⟩
      · refine ci_t rfl ?_
        refine ci_t m150 ?_
        exact bd_t h1 tail
      · refine ci_f (by decide) ?_
        refine ci_t m150 ?_
        exact bd_t h1 tail
  refine (K_100 ..).trans ((T_100_0 ..).trans (bd_t h101 ((T_100_12 ..).trans (ci_f (by omega) ?_))))
  have hfin := (CN_road (A := I 119) (B := I 120) (E := I 27) (L := I 28) (F := I 29) (n := n) (m := m) (a := a) (b := b) (fa := fa) (fn := fn) (fb := fb) g7 g8.1 hm hab ha hb hfa hfn hfb hfn2).1
  have e27 : up2 (up2 (pc (pc (up2 (pc (pc (up2 (up2 (up2 I 26 m w) 32 m dc) 27 (2 * m) a) 28 (insL (I 28) fa (fn - fa) (2 * (m : Int)))) 29 (incF (I 29) a n)) 27 (2 * m + 1) b) 28 (insL (insL (I 28) fa (fn - fa) (2 * (m : Int))) fb (fn + 1 - fb) (2 * (m : Int) + 1))) 29 (incF (incF (I 29) a n) b n)) 37 p.toNat (-2)) 25 1 ((m : Int) + 1) 27 = ud (ud (I 27) (2 * m) a) (2 * m + 1) b := by
    funext j
    show up2 (pc (pc (up2 (up2 (up2 I 26 m w) 32 m dc) 27 (2 * m) a) 28 (insL (I 28) fa (fn - fa) (2 * (m : Int)))) 29 (incF (I 29) a n)) 27 (2 * m + 1) b 27 j = _
    rw [up2_at]
    show (if j = 2 * m + 1 then (b : Int) else up2 (up2 (up2 I 26 m w) 32 m dc) 27 (2 * m) a 27 j) = _
    rw [up2_at]
    rfl
  have s60 := S_60 (d := 298) (I := up2 (up2 (pc (pc (up2 (pc (pc (up2 (up2 (up2 I 26 m w) 32 m dc) 27 (2 * m) a) 28 (insL (I 28) fa (fn - fa) (2 * (m : Int)))) 29 (incF (I 29) a n)) 27 (2 * m + 1) b) 28 (insL (insL (I 28) fa (fn - fa) (2 * (m : Int))) fb (fn + 1 - fb) (2 * (m : Int) + 1))) 29 (incF (incF (I 29) a n) b n)) 37 p.toNat (-2)) 25 1 ((m : Int) + 1)) (sp := sp) (rt := rt) (tt := tt) (z := z) (A := ud (I 119) m a) (B := ud (I 120) m b) (P := n) (m := m + 1) (r := m) (by rw [e27]; exact hfin) (by omega)
  rw [ud_eq, Int.toNat_natCast, show up2 (up2 (pc (pc (up2 (pc (pc (up2 (up2 (up2 I 26 m w) 32 m dc) 27 (2 * m) a) 28 (insL (I 28) fa (fn - fa) (2 * (m : Int)))) 29 (incF (I 29) a n)) 27 (2 * m + 1) b) 28 (insL (insL (I 28) fa (fn - fa) (2 * (m : Int))) fb (fn + 1 - fb) (2 * (m : Int) + 1))) 29 (incF (incF (I 29) a n) b n)) 37 p.toNat (-2)) 25 1 ((m : Int) + 1) 33 a = p from hpa] at s60
  exact bd_t s60 ((T_100_33 ..).trans (bd_t (S_105 hp) (T_100_36 ..)))
theorem o_road (a b w o : Int) (ho : o = 0 ∨ o = 1) (hh : InvS I) (hn : GN0 I) (hk : GK I) : OpN 100 285 [(0, a), (0, b), (0, w), (0, o)] I sp rt tt z := by
  have p1 := hh.2.1.1
  have hn0 := hn
  obtain ⟨⟨g1, g2⟩, g3, g4, g5, g6, g7, g8, g9, g10⟩ := hn
  have ea := g3.1 a.toNat
  have eb := g3.1 b.toNat
  by_cases c : I 25 1 < 150 ∧ (0 ≤ a ∧ a < I 25 0) ∧ (0 ≤ b ∧ b < I 25 0) ∧ ¬ a = b ∧ I 33 a.toNat = I 33 b.toNat ∧ 1 ≤ w ∧ w ≤ 100
  · obtain ⟨c1, c2, c3, c4, c5, c6⟩ := c
    obtain ⟨n, hN⟩ := Int.eq_ofNat_of_zero_le g1.2.1
    obtain ⟨m, hM⟩ := Int.eq_ofNat_of_zero_le g2.2.1
    obtain ⟨a, rfl⟩ := Int.eq_ofNat_of_zero_le c2.1
    obtain ⟨b, rfl⟩ := Int.eq_ofNat_of_zero_le c3.1
    have e5 : I 33 a = I 33 b := c5
    have hpp := (g6 a (by omega)).1
    obtain ⟨p, hp⟩ : ∃ p, p = I 33 a := ⟨_, rfl⟩
    rw [← hp] at hpp
    have eN : (I 25 0).toNat = n := by omega
    have eM : (I 25 1).toNat = m := by omega
    rw [eN] at g7 g8
    have hF := g7.2.2.1
    have ha : a < n := by omega
    have hb : b < n := by omega
    obtain ⟨fa, hfa⟩ := Int.eq_ofNat_of_zero_le (show 0 ≤ I 29 (a + 1) by have := hF a ha; omega)
    obtain ⟨fn, hfn⟩ := Int.eq_ofNat_of_zero_le (show 0 ≤ I 29 n by have := g8.2.1; omega)
    obtain ⟨fb, hfb⟩ := Int.eq_ofNat_of_zero_le (show 0 ≤ incF (I 29) a n (b + 1) by
      have := hF b hb
      unfold incF
      split <;> omega)
    obtain ⟨dc, hdc⟩ : ∃ dc : Int, (o = 0 ∧ dc = 0) ∨ (o = 1 ∧ dc = 1) := ⟨o, by omega⟩
    have hab : ¬ a = b := by omega
    have h100 := S_100y (sp := sp) (rt := rt) (tt := tt) (z := z) hn0 hN hM (by omega) hab ha hb hp.symm (e5.symm.trans hp.symm) (by omega) c6 hdc hfa hfn hfb
    have h285 : Call PG 300 285 [(2, 82), (0, (a : Int)), (0, (b : Int)), (0, w), (0, o)] (RDc I n m a b fa fn fb p w dc, RF sp rt tt z.1, z) = some (some (0, (m : Int)), (RDr (RDc I n m a b fa fn fb p w dc) m a b w o, RF sp rt tt z.1, z)) := by
      have q6 : RDc I n m a b fa fn fb p w dc 82 6 = I 82 6 := RDc_o (by decide) (by decide) (by decide) (by decide) (by decide) (by decide) (by decide) (by decide)
      have q7 : RDc I n m a b fa fn fb p w dc 82 7 = I 82 7 := RDc_o (by decide) (by decide) (by decide) (by decide) (by decide) (by decide) (by decide) (by decide)
      have qa : RDc I n m a b fa fn fb p w dc 114 a = I 114 a := RDc_o (by decide) (by decide) (by decide) (by decide) (by decide) (by decide) (by omega) (by decide)
      have qb : RDc I n m a b fa fn fb p w dc 114 b = I 114 b := RDc_o (by decide) (by decide) (by decide) (by decide) (by decide) (by decide) (by omega) (by decide)
      have ea : I 114 a = I 33 a := ea
      have eb : I 114 b = I 33 b := eb
      have e7 : RDc I n m a b fa fn fb p w dc 82 7 = m := by omega
      have cc : RDc I n m a b fa fn fb p w dc 82 7 < 150 ∧ (0 ≤ (a : Int) ∧ (a : Int) < RDc I n m a b fa fn fb p w dc 82 6) ∧ (0 ≤ (b : Int) ∧ (b : Int) < RDc I n m a b fa fn fb p w dc 82 6) ∧ ¬ (a : Int) = b ∧ RDc I n m a b fa fn fb p w dc 114 (a : Int).toNat = RDc I n m a b fa fn fb p w dc 114 (b : Int).toNat ∧ 1 ≤ w ∧ w ≤ 100 := by
        rw [Int.toNat_natCast, Int.toNat_natCast, qa, qb]
        omega
      have s := S_285 (d := 297) (I := RDc I n m a b fa fn fb p w dc) (sp := sp) (rt := rt) (tt := tt) (z := z) (a := (a : Int)) (b := (b : Int)) (w := w) (o := o) (by omega) (by omega) ho
      refine s.trans ?_
      by_cases co : o = 0
      · rw [if_pos ⟨cc, co⟩, e7, Int.toNat_natCast, co]
        rfl
      · have co1 : o = 1 := by omega
        rw [if_neg (fun q => co q.2), if_pos cc, e7, Int.toNat_natCast, co1]
        rfl
    have hO : ∀ c, ¬ c = 26 → ¬ c = 32 → ¬ c = 27 → ¬ c = 28 → ¬ c = 29 → ¬ c = 37 → ¬ c = 25 → ¬ c = 44 → ¬ (119 ≤ c ∧ c ≤ 123) → ¬ c = 82 → RDr (RDc I n m a b fa fn fb p w dc) m a b w o c = I c := fun c h1 h2 h3 h4 h5 h6 h7 h8 h9 h10 => funext fun j => (RDr_o h9 (fun q => h10 q.1)).trans (RDc_o h1 h2 h3 h4 h5 h6 (fun q => h7 q.1) h8)
    have hU : ∀ (X : Nat → Nat → Int) (c k : Nat) (v : Int), up2 X c k v c = ud (X c) k v := fun X c k v => funext fun j => up2_at
    have hG := GN0_road (I := I) (J := RDr (RDc I n m a b fa fn fb p w dc) m a b w o) (o := o) (dc := dc) (w := w) (p := p) hn0 hk hN hM (by omega) hab ha hb hp.symm (e5.symm.trans hp.symm) (by omega) c6 hdc hfa hfn hfb rfl rfl rfl rfl rfl (hU _ 119 m a) (hU _ 120 m b) (hU _ 26 m w) (hU _ 121 m w) (hU _ 32 m dc) (hU _ 122 m o) (hU _ 123 m (1 - o)) (by
      funext j
      show up2 (pc (pc (up2 (up2 (up2 I 26 m w) 32 m dc) 27 (2 * m) a) 28 (insL (I 28) fa (fn - fa) (2 * (m : Int)))) 29 (incF (I 29) a n)) 27 (2 * m + 1) b 27 j = _
      rw [up2_at]
      show (if j = 2 * m + 1 then (b : Int) else up2 (up2 (up2 I 26 m w) 32 m dc) 27 (2 * m) a 27 j) = _
      rw [up2_at]
      rfl) rfl rfl (hU _ 37 p.toNat (-2)) (hU _ 44 p.toNat (-2)) (hO 33 ?_ ?_ ?_ ?_ ?_ ?_ ?_ ?_ ?_ ?_) (hO 34 ?_ ?_ ?_ ?_ ?_ ?_ ?_ ?_ ?_ ?_) (hO 114 ?_ ?_ ?_ ?_ ?_ ?_ ?_ ?_ ?_ ?_) (hO 115 ?_ ?_ ?_ ?_ ?_ ?_ ?_ ?_ ?_ ?_) (hO 39 ?_ ?_ ?_ ?_ ?_ ?_ ?_ ?_ ?_ ?_) (hO 40 ?_ ?_ ?_ ?_ ?_ ?_ ?_ ?_ ?_ ?_) (hO 41 ?_ ?_ ?_ ?_ ?_ ?_ ?_ ?_ ?_ ?_) (hO 116 ?_ ?_ ?_ ?_ ?_ ?_ ?_ ?_ ?_ ?_) (hO 117 ?_ ?_ ?_ ?_ ?_ ?_ ?_ ?_ ?_ ?_) (hO 118 ?_ ?_ ?_ ?_ ?_ ?_ ?_ ?_ ?_ ?_) (hO 42 ?_ ?_ ?_ ?_ ?_ ?_ ?_ ?_ ?_ ?_)
    refine ⟨(m : Int), _, _, h100, h285, InvS_m (mkI_eq (fun x j hm => ?_)) hh, hG, mkI_eq (fun x j hm => ?_)⟩
    · have := of_decide_eq_true hm
      exact (RDr_o (by omega) (by omega)).trans (RDc_o (by omega) (by omega) (by omega) (by omega) (by omega) (by omega) (by omega) (by omega))
    · have := of_decide_eq_true hm
      exact (RDr_o (by omega) (by omega)).trans (RDc_o (by omega) (by omega) (by omega) (by omega) (by omega) (by omega) (by omega) (by omega))
    all_goals decide
  · have h101 : Call PG 299 101 [(2, 25), (0, a), (0, b), (0, w), (0, o)] (I, RF sp rt tt z.1, z) = some (some (0, -1), (I, RF sp rt tt z.1, z)) := by
      refine (K_101 ..).trans ((T_101_0 ..).trans ?_)
      by_cases c1 : I 25 1 < 150
      · refine ci_t c1 ?_
        by_cases c4 : a = b
        · exact ci_t c4 rfl
        · refine ci_f c4 (bd_t S_102 ((T_101_20 ..).trans ?_))
          by_cases c2 : 0 ≤ a ∧ a < I 25 0
          · refine ci_bf c2 (ci_t (by omega) (bd_t (S_103 (by omega)) ((T_101_34 ..).trans ?_)))
            by_cases c3 : 0 ≤ b ∧ b < I 25 0 ∧ I 33 b.toNat = I 33 a.toNat
            · refine ci_bf c3 (bd_t S_13 ((T_101_46 ..).trans (ci_bt (fun q => c ⟨c1, c2, ⟨c3.1, c3.2.1⟩, c4, c3.2.2.symm, q⟩) rfl)))
            · exact ci_bt c3 rfl
          · exact ci_bt c2 rfl
      · exact ci_f c1 rfl
    refine ⟨-1, I, I, ?_, ?_, hh, ⟨hn0, hk⟩, rfl⟩
    · exact (K_100 ..).trans ((T_100_0 ..).trans (bd_t h101 ((T_100_12 ..).trans (ci_t rfl (T_100_36 ..)))))
    · have cc : ¬ (I 82 7 < 150 ∧ (0 ≤ a ∧ a < I 82 6) ∧ (0 ≤ b ∧ b < I 82 6) ∧ ¬ a = b ∧ I 114 a.toNat = I 114 b.toNat ∧ 1 ≤ w ∧ w ≤ 100) := by
        rw [ea, eb]
        intro q
        exact c (by omega)
      exact (S_285 (by omega) (by omega) ho).trans ((if_neg (fun q => cc q.1)).trans (if_neg cc))
end R2

