/-! texts: what the letters stand for -/
def fct (I : Nat → Nat → Int) (p : Int) : FE := fun k => match k with
  | 0 => I 3 p.toNat
  | 1 => I 4 p.toNat
  | 2 => I 5 p.toNat
  | 3 => I 6 p.toNat
  | 4 => I 64 p.toNat
  | 5 => LVc I p
  | 6 => FWc I p
  | 7 => NPT (fun f => NFc I f) (I 53) (I 45 2).toNat p
  | 8 => I 65 p.toNat
  | 9 => Int.tmod (Int.tdiv (I 0 0) 60) 24
  | 10 => Int.tdiv (I 0 0) 1440
  | _ => sm (fun (i : Nat) => bz (I 66 i = p ∧ I 0 0 - 1440 < I 67 i)) (I 55 13).toNat
/-- places of the simple things but for looks -/
def MIw (a j : Nat) : Bool := decide (¬ (a = 25 ∧ ¬ j = 0) ∧ ¬ (26 ≤ a ∧ a ≤ 44) ∧ ¬ (115 ≤ a ∧ a ≤ 129) ∧ ¬ a = 114 ∧ ¬ (9 ≤ a ∧ a ≤ 24) ∧ ¬ (94 ≤ a ∧ a ≤ 113) ∧ ¬ 163 ≤ a ∧ ¬ (a = 82 ∧ (j = 5 ∨ j = 6 ∨ j = 7)) ∧ ¬ (a = 82 ∧ 45 ≤ j) ∧ ¬ (72 ≤ a ∧ a ≤ 76) ∧ ¬ a = 157 ∧ ¬ a = 158 ∧ ¬ a = 90 ∧ ¬ a = 155 ∧ ¬ a = 156 ∧ ¬ (a = 82 ∧ j = 17))
/-- what must hold, but for looks -/
def InvW (I : Nat → Nat → Int) : Prop := GT I ∧ GP I ∧ GC I ∧ GW I ∧ True ∧ GI I ∧ GS I
theorem InvW_m {I J : Nat → Nat → Int} (h : mkI MIw J = mkI MIw I) (H : InvW I) : InvW J := by
  have h1 : InvW (mkI MIw I) := H
  rw [← h] at h1
  exact h1
theorem IW1 {I : Nat → Nat → Int} (h : InvS I) : InvW I := ⟨h.1, h.2.1, h.2.2.1, h.2.2.2.1, trivial, h.2.2.2.2.2⟩
theorem IW {I : Nat → Nat → Int} (h : InvS I ∧ GN0 I ∧ GK I) : InvW I ∧ GN0 I ∧ GK I := ⟨IW1 h.1, h.2⟩
section FA0
variable {d : Nat} {I : Nat → Nat → Int} {sp rt : Nat} {tt : Nat → Nat} {z : Zs} {p : Int}
theorem near_e (hS : GS I) : NPT (fun f => NFr I f) (I 137) (I 82 10).toNat p = NPT (fun f => NFc I f) (I 53) (I 45 2).toNat p := by
  obtain ⟨n1, n2, n3, n4, n5, n6⟩ := gs_cnt hS
  obtain ⟨a1, a2, a3, a4, a5, -⟩ := gs_eq hS
  rw [n6, a5]
  refine NPT_cg (fun g hg => ?_)
  have e := nf_eq hS (I 132) (I 133) hg
  unfold NFr NFc
  rw [a3, a4] at e
  simp only [Int.toNat_natCast]
  rw [a3, a4]
  exact e
theorem S_252 (hh : InvW I) (hn : GN0 I) (hp : 0 ≤ p ∧ p < I 2 6) (h56 : I 82 56 = p) {c : Int} (hc : 0 ≤ lix c) : ∃ J, Call PG (d + 7) 252 [(2, 82), (0, c)] (I, RF sp rt tt z.1, z) = some (some (1, fct I p (lix c).toNat), (J, RF sp rt tt z.1, z)) ∧ FRr I J := by
  have hT := hh.1
  have hP := hh.2.1
  have hC := hh.2.2.1
  have hS := hh.2.2.2.2.2.2
  have t0 := hT.1
  have p1 := hP.1
  have c1 := hC.1
  obtain ⟨n1, n2, n3, n4, n5, n6⟩ := gs_cnt hS
  have hp12 : 0 ≤ p ∧ p < 12 := by omega
  have epp : ((p.toNat : Nat) : Int) = p := by omega
  have k0 : ∀ c' : Int, c' = c → Call PG (d + 7) 252 [(2, 82), (0, c)] (I, RF sp rt tt z.1, z) = Run PG (Call PG (d + 6)) 252 (swt [97, 98, 99, 100, 101, 102, 103, 104, 105, 106, 107, 108, 109, 110, 111, 112, 113, 114, 115, 116, 117, 118, 119, 120, 121] [159, 152, 210, 128, 210, 210, 136, 188, 210, 210, 210, 181, 144, 210, 167, 210, 210, 210, 120, 210, 210, 210, 174, 210, 200] 210 c') [(2, 82), (0, c'), (0, p)] [] (I, RF sp rt tt z.1, z) (0, 0) := by
    intro c' e
    subst e
    refine (K_252 ..).trans ((T_252_0 ..).trans ?_)
    rw [h56]
    exact T_252_6 ..
  rcases (lix_y c).1 hc with q | q | q | q | q | q | q | q | q | q | q | q
  · subst q
    exact ⟨I, (k0 115 rfl).trans ((T_252_120 ..).trans (ci_t hp12 (by rw [hP.2.2.1.1]; rfl))), fun _ _ _ => rfl⟩
  · subst q
    exact ⟨I, (k0 100 rfl).trans ((T_252_128 ..).trans (ci_t hp12 (by rw [hP.2.2.1.2.1]; rfl))), fun _ _ _ => rfl⟩
  · subst q
    exact ⟨I, (k0 103 rfl).trans ((T_252_136 ..).trans (ci_t hp12 (by rw [hP.2.2.1.2.2.1]; rfl))), fun _ _ _ => rfl⟩
  · subst q
    exact ⟨I, (k0 109 rfl).trans ((T_252_144 ..).trans (ci_t hp12 (by rw [hP.2.2.1.2.2.2.1]; rfl))), fun _ _ _ => rfl⟩
  · subst q
    have e : sm (fun (i : Nat) => bz (I 91 i = p ∧ ¬ I 93 i = -1)) (I 82 4).toNat = I 64 p.toNat := by
      rw [hC.2.2.2.2.2.1 p.toNat (by omega), c1.1.1]
      refine sm_congr (fun i hi => ?_)
      rw [hC.2.1.1 i, hC.2.1.2.2.1 i, epp]
    exact ⟨I, (k0 98 rfl).trans ((T_252_152 ..).trans (bd_t (S_253e (by omega) e) (T_252_157 ..))), fun _ _ _ => rfl⟩
  · subst q
    obtain ⟨K, k1, k2⟩ := S_254n (d := d + 1) (sp := sp) (rt := rt) (tt := tt) (z := z) (p := p) (t := -1) hn hp p1.2.2
    refine ⟨K, (k0 97 rfl).trans ((T_252_159 ..).trans (bd_t k1 ((T_252_165 ..).trans ?_))), k2⟩
    have e : LVo I (ok2 I (-1)) p = LVc I p := by
      rw [LVo_c]
      exact LVo_cg hn.2.2.2.2.2.1.1.1 (ok_none hn)
    rw [e]
    rfl
  · subst q
    obtain ⟨K, k1, k2⟩ := S_261n (d := d + 2) (sp := sp) (rt := rt) (tt := tt) (z := z) (p := p) hn hp p1.2.2
    exact ⟨K, (k0 111 rfl).trans ((T_252_167 ..).trans (bd_t k1 (T_252_172 ..))), k2⟩
  · subst q
    have s := S_266 (d := d + 1) (I := I) (sp := sp) (rt := rt) (tt := tt) (z := z) (p := p) (gs_BBr hS) (by omega) (fun v hv => gs_Wr hS hv) (by omega) (fun v hv => gs_Fr hS hv)
    rw [near_e hS] at s
    exact ⟨I, (k0 119 rfl).trans ((T_252_174 ..).trans (bd_t s (T_252_179 ..))), fun _ _ _ => rfl⟩
  · subst q
    have h93 : ∀ h : Nat, h < (I 82 4).toNat → -1 ≤ I 93 h ∧ I 93 h < 300 := fun h hl => by
      have w := (hC.2.2.1 h (by omega)).2.1
      rw [hC.2.1.2.2.1 h]
      omega
    have s := S_274 (d := d + 5) (I := I) (sp := sp) (rt := rt) (tt := tt) (z := z) (p := p) (by omega) h93
    have e : itr (fun (i : Nat) (a : Int) => if I 91 i = p ∧ ¬ I 93 i = -1 ∧ ¬ I 148 (I 93 i).toNat = -1 then w32 (a + 1) else w32 (a + 0)) (I 82 4).toNat 0 = I 65 p.toNat := by
      rw [itr_cnt (by omega), hC.2.2.2.2.2.2.1 p.toNat (by omega), c1.1.1]
      refine sm_congr (fun i hi => ?_)
      rw [hC.2.1.1 i, hC.2.1.2.2.1 i, hC.2.1.2.2.2.2.2.2.1, epp]
    rw [e] at s
    exact ⟨I, (k0 108 rfl).trans ((T_252_181 ..).trans (bd_t s (T_252_186 ..))), fun _ _ _ => rfl⟩
  · subst q
    refine ⟨I, (k0 104 rfl).trans ((T_252_188 ..).trans ?_), fun _ _ _ => rfl⟩
    rw [t0.1, w32_of (x := Int.tdiv (I 0 0) 60) (by rw [Int.tdiv_eq_ediv_of_nonneg t0.2.1]; omega) (by rw [Int.tdiv_eq_ediv_of_nonneg t0.2.1]; omega)]
    rfl
  · subst q
    refine ⟨I, (k0 121 rfl).trans ((T_252_200 ..).trans ?_), fun _ _ _ => rfl⟩
    rw [t0.1, w32_of (x := Int.tdiv (I 0 0) 1440) (by rw [Int.tdiv_eq_ediv_of_nonneg t0.2.1]; omega) (by rw [Int.tdiv_eq_ediv_of_nonneg t0.2.1]; omega)]
    rfl
  · subst q
    have h150 : ∀ k : Nat, k < (I 82 14).toNat → 0 ≤ I 150 k ∧ I 150 k < 40 := fun k hk => by
      have w := (hC.2.2.2.2.1 k (by omega)).1
      omega
    have s := S_275 (d := d + 5) (I := I) (sp := sp) (rt := rt) (tt := tt) (z := z) (p := p) (by omega) h150
    have e : itr (fun (i : Nat) (a : Int) => if I 91 (I 150 i).toNat = p ∧ w32 (I 82 2 - 1440) < I 151 i then w32 (a + 1) else w32 (a + 0)) (I 82 14).toNat 0 = sm (fun (i : Nat) => bz (I 66 i = p ∧ I 0 0 - 1440 < I 67 i)) (I 55 13).toNat := by
      rw [itr_cnt (by omega), c1.2.2.2.1]
      refine sm_congr (fun i hi => ?_)
      have w := hC.2.2.2.2.1 i hi
      rw [hC.2.1.1 (I 150 i).toNat, ← w.2.1, t0.1, w32_of (x := I 0 0 - 1440) (by omega) (by omega), hC.2.1.2.2.2.2.2.2.2.2 i]
    rw [e] at s
    exact ⟨I, (k0 113 rfl).trans ((T_252_210 ..).trans (bd_t s (T_252_215 ..))), fun _ _ _ => rfl⟩
/-- but for the facts and what nets reckon anew all is as it was -/
def FL (I K : Nat → Nat → Int) : Prop := ∀ a j : Nat, ¬ a = 10 → ¬ a = 30 → ¬ a = 31 → ¬ a = 35 → ¬ a = 36 → ¬ a = 43 → ¬ (a = 25 ∧ j = 8) → ¬ a = 37 → ¬ a = 42 → ¬ a = 44 → ¬ (124 ≤ a ∧ a ≤ 129) → K a j = I a j
theorem FL_I {K : Nat → Nat → Int} (h : FL I K) : mkI MI K = mkI MI I := mkI_eq (fun a j hm => by
  have hm' := of_decide_eq_true hm
  exact h a j (by omega) (by omega) (by omega) (by omega) (by omega) (by omega) (by omega) (by omega) (by omega) (by omega) (by omega))
theorem FL_W {K : Nat → Nat → Int} (h : FL I K) : mkI MIw K = mkI MIw I := mkI_eq (fun a j hm => by
  have hm' := of_decide_eq_true hm
  exact h a j (by omega) (by omega) (by omega) (by omega) (by omega) (by omega) (by omega) (by omega) (by omega) (by omega) (by omega))
theorem FL_N {K : Nat → Nat → Int} (h : FL I K) : mkI MN K = mkI MN I := mkI_eq (fun a j hm => by
  have hm' := of_decide_eq_true hm
  exact h a j (by omega) (by omega) (by omega) (by omega) (by omega) (by omega) (by omega) (by omega) (by omega) (by omega) (by omega))
theorem FL_X {K : Nat → Nat → Int} (h : FL I K) : mkI MXs K = mkI MXs I := mkI_eq (fun a j hm => by
  have hm' := of_decide_eq_true hm
  exact h a j (by omega) (by omega) (by omega) (by omega) (by omega) (by omega) (by omega) (by omega) (by omega) (by omega) (by omega))
theorem FL_t {J K : Nat → Nat → Int} (h : FL I J) (h2 : FRn J K) : FL I K := fun a j q0 q1 q2 q3 q4 q5 q6 q7 q8 q9 q10 => (h2 a j q1 q2 q3 q4 q5 q6 q7 q8 q9 q10).trans (h a j q0 q1 q2 q3 q4 q5 q6 q7 q8 q9 q10)
theorem FL_u {J : Nat → Nat → Int} {j : Nat} {x : Int} (h : FL I J) : FL I (up2 J 10 j x) := fun a k q0 q1 q2 q3 q4 q5 q6 q7 q8 q9 q10 => (up2_ne q0).trans (h a k q0 q1 q2 q3 q4 q5 q6 q7 q8 q9 q10)
theorem GK_10 {K : Nat → Nat → Int} {j : Nat} {x : Int} (h : GK K) : GK (up2 K 10 j x) := GK_mm (mkI_eq (fun a b hm => by
  have hm' := of_decide_eq_true hm
  exact up2_ne (by omega))) (fun a b q => up2_ne (by omega)) h
theorem near_m {K : Nat → Nat → Int} (h : mkI MIw K = mkI MIw I) : NPT (fun f => NFc K f) (K 53) (K 45 2).toNat p = NPT (fun f => NFc I f) (I 53) (I 45 2).toNat p := by
  have h1 : NPT (fun f => NFc (mkI MIw K) f) ((mkI MIw K) 53) ((mkI MIw K) 45 2).toNat p = NPT (fun f => NFc K f) (K 53) (K 45 2).toNat p := rfl
  have h2 : NPT (fun f => NFc (mkI MIw I) f) ((mkI MIw I) 53) ((mkI MIw I) 45 2).toNat p = NPT (fun f => NFc I f) (I 53) (I 45 2).toNat p := rfl
  rw [← h1, ← h2, h]
theorem fct_m {K : Nat → Nat → Int} (h : mkI MIw K = mkI MIw I) (h2 : mkI MN K = mkI MN I) : fct K p = fct I p := by
  have e : ∀ a j, MIw a j = true → K a j = I a j := fun a j q => mk_at h q
  funext k
  match k with
  | 0 => exact e 3 _ rfl
  | 1 => exact e 4 _ rfl
  | 2 => exact e 5 _ rfl
  | 3 => exact e 6 _ rfl
  | 4 => exact e 64 _ rfl
  | 5 => exact LVc_m h2 p
  | 6 => exact FWc_m h2 p
  | 7 => exact near_m h
  | 8 => exact e 65 _ rfl
  | 9 => show Int.tmod (Int.tdiv (K 0 0) 60) 24 = _; rw [e 0 0 rfl]; rfl
  | 10 => show Int.tdiv (K 0 0) 1440 = _; rw [e 0 0 rfl]; rfl
  | k + 11 =>
    show sm (fun (i : Nat) => bz (K 66 i = p ∧ K 0 0 - 1440 < K 67 i)) (K 55 13).toNat = sm (fun (i : Nat) => bz (I 66 i = p ∧ I 0 0 - 1440 < I 67 i)) (I 55 13).toNat
    rw [e 55 13 rfl, e 0 0 rfl]
    refine sm_congr (fun i _ => ?_)
    rw [e 66 i rfl, e 67 i rfl]
/-- the facts of D are learnt -/
def LRN (I : Nat → Nat → Int) (p : Int) (D : Nat → Prop) (K : Nat → Nat → Int) : Prop := FL I K ∧ GK K ∧ ∀ k, D k → K 10 k = fct I p k
theorem LRN_s {K J : Nat → Nat → Int} {D : Nat → Prop} {k : Nat} (h : LRN I p D K) (f : FRn K J) (g : GK J) : LRN I p (fun x => x = k ∨ D x) (up2 J 10 k (fct I p k)) := by
  refine ⟨FL_u (FL_t h.1 f), GK_10 g, fun x hx => ?_⟩
  by_cases q : x = k
  · rw [q]; exact up2_eq
  · rw [up2_nj q, f 10 x (by decide) (by decide) (by decide) (by decide) (by decide) (by omega) (by decide) (by decide) (by decide) (by decide)]
    exact h.2.2 x (hx.resolve_left q)
theorem S_56 (hh : InvS I) (hn : GN0 I) (hk : GK I) (hp : 0 ≤ p ∧ p < I 2 6) {L : Nat} (h95 : I 9 5 = (L : Int)) (hL : L < 4096) : ∃ K, Call PG (d + 7) 56 [(2, 0), (0, p)] (I, RF sp rt tt z.1, z) = some (none, (K, RF sp rt tt z.1, z)) ∧ LRN I p (fun k => k < 12 ∧ L.testBit k = true) K := by
  have t0 := hh.1.1
  have p1 := hh.2.1.1
  have c1 := hh.2.2.1.1
  have hS := hh.2.2.2.2.2.2
  obtain ⟨n1, n2, n3, n4, n5, n6⟩ := gs_cnt hS
  have bit : ∀ k : Nat, k < 12 → ∀ K, FL I K → Call PG (d + 6) 57 [(2, 9), (0, (k : Int))] (K, RF sp rt tt z.1, z) = some (some (0, bz (L.testBit k = true)), (K, RF sp rt tt z.1, z)) := by
    intro k hk K hK
    have s := S_57 (d := d + 5) (I := K) (sp := sp) (rt := rt) (tt := tt) (z := z) (j := (k : Int))
    have e : K 9 5 = (L : Int) := (hK 9 5 (by decide) (by decide) (by decide) (by decide) (by decide) (by decide) (by decide) (by decide) (by decide) (by decide) (by decide)).trans h95
    rw [e] at s
    have b := bit32 hL hk
    have e2 : bz (¬ ia32 (shr32 (L : Int) (k : Int)) 1 = 0) = bz (L.testBit k = true) := bz_iff (by rw [b]; cases L.testBit k <;> simp)
    rw [e2] at s
    exact s
  have inv : ∀ K D, LRN I p D K → InvS K ∧ GN0 K ∧ GK K ∧ K 2 6 = I 2 6 := fun K D hK => ⟨InvS_m (FL_I hK.1) hh, GN0_m (FL_N hK.1) hn, hK.2.1, hK.1 2 6 (by decide) (by decide) (by decide) (by decide) (by decide) (by decide) (by decide) (by decide) (by decide) (by decide) (by decide)⟩
  have fm : ∀ K D, LRN I p D K → fct K p = fct I p := fun K D hK => fct_m (FL_W hK.1) (FL_N hK.1)
  -- first
  have hd : w32 (Int.tdiv (I 0 0) 60) = Int.tdiv (I 0 0) 60 ∧ w32 (Int.tdiv (I 0 0) 1440) = Int.tdiv (I 0 0) 1440 := by
    rw [Int.tdiv_eq_ediv_of_nonneg t0.2.1, Int.tdiv_eq_ediv_of_nonneg t0.2.1, w32_of (by omega) (by omega), w32_of (by omega) (by omega)]
    exact ⟨rfl, rfl⟩
  have hd' : ∀ _ : Unit, w32 (Int.tdiv (I 0 0) 60) = Int.tdiv (I 0 0) 60 ∧ w32 (Int.tdiv (I 0 0) 1440) = Int.tdiv (I 0 0) 1440 := fun _ => hd
  clear hd
  have k0 : ∃ K, Call PG (d + 7) 56 [(2, 0), (0, p)] (I, RF sp rt tt z.1, z) = Run PG (Call PG (d + 6)) 56 119 [(2, 0), (0, p), (2, 10)] [(0, bz (L.testBit 5 = true))] (K, RF sp rt tt z.1, z) (0, 0) ∧ LRN I p (fun k => k = 0 ∨ k = 1 ∨ k = 2 ∨ k = 3 ∨ k = 4 ∨ k = 8 ∨ k = 9 ∨ k = 10) K := by
    refine ⟨up2 (up2 (up2 (up2 (up2 (up2 (up2 (up2 I 10 0 (I 3 p.toNat)) 10 1 (I 4 p.toNat)) 10 2 (I 5 p.toNat)) 10 3 (I 6 p.toNat)) 10 4 (I 64 p.toNat)) 10 8 (I 65 p.toNat)) 10 9 (Int.tmod (Int.tdiv (I 0 0) 60) 24)) 10 10 (Int.tdiv (I 0 0) 1440), ?_, ?_, ?_, ?_⟩
    · refine (K_56 ..).trans ((T_56_0 ..).trans ?_)
      rw [(hd' ()).1]
      have e00 : ∀ x, (up2 (up2 (up2 (up2 (up2 (up2 (up2 I 10 0 (I 3 p.toNat)) 10 1 (I 4 p.toNat)) 10 2 (I 5 p.toNat)) 10 3 (I 6 p.toNat)) 10 4 (I 64 p.toNat)) 10 8 (I 65 p.toNat)) 10 9 x) 0 0 = I 0 0 := fun x => by
        simp (disch := decide) only [up2_ne]
      have s47 := S_47 (d := d + 5) (I := up2 (up2 (up2 (up2 (up2 (up2 (up2 I 10 0 (I 3 p.toNat)) 10 1 (I 4 p.toNat)) 10 2 (I 5 p.toNat)) 10 3 (I 6 p.toNat)) 10 4 (I 64 p.toNat)) 10 8 (I 65 p.toNat)) 10 9 (Int.tmod (Int.tdiv (I 0 0) 60) 24)) (sp := sp) (rt := rt) (tt := tt) (z := z)
      rw [e00, (hd' ()).2] at s47
      refine ci_t (by omega) (ci_t (by decide) (ci_t (by omega) (ci_t (by decide) (ci_t (by omega) (ci_t (by decide) (ci_t (by omega) (ci_t (by decide) (ci_t (by omega) (ci_t (by decide) (ci_t (by omega) (ci_t (by decide) (ci_t (by decide) (bd_t s47 ?_)))))))))))))
      refine (T_56_109 ..).trans (ci_t (by decide) (bd_t (bit 5 (by decide) _ ?_) rfl))
      exact FL_u (FL_u (FL_u (FL_u (FL_u (FL_u (FL_u (FL_u (fun _ _ _ _ _ _ _ _ _ _ _ _ _ => rfl))))))))
    · exact FL_u (FL_u (FL_u (FL_u (FL_u (FL_u (FL_u (FL_u (fun _ _ _ _ _ _ _ _ _ _ _ _ _ => rfl))))))))
    · exact GK_10 (GK_10 (GK_10 (GK_10 (GK_10 (GK_10 (GK_10 (GK_10 hk)))))))
    · intro k hk
      rcases hk with rfl | rfl | rfl | rfl | rfl | rfl | rfl | rfl
      all_goals (simp (disch := decide) only [up2_nj, up2_eq]; rfl)
  obtain ⟨K0, e0, h0⟩ := k0
  -- the least air
  have k1 : ∃ K, Run PG (Call PG (d + 6)) 56 119 [(2, 0), (0, p), (2, 10)] [(0, bz (L.testBit 5 = true))] (K0, RF sp rt tt z.1, z) (0, 0) = Run PG (Call PG (d + 6)) 56 147 [(2, 0), (0, p), (2, 10)] [(0, bz (L.testBit 6 = true))] (K, RF sp rt tt z.1, z) (0, 0) ∧ LRN I p (fun k => (k = 5 ∧ L.testBit 5 = true) ∨ k = 0 ∨ k = 1 ∨ k = 2 ∨ k = 3 ∨ k = 4 ∨ k = 8 ∨ k = 9 ∨ k = 10) K := by
    by_cases b : L.testBit 5 = true
    · obtain ⟨i1, i2, i3, i4⟩ := inv K0 _ h0
      obtain ⟨J, j1, j2, j3, j4, j5⟩ := S_58 (d := d + 1) (sp := sp) (rt := rt) (tt := tt) (z := z) (p := p) i2 i3 (by omega) (by omega)
      have ef : LVc K0 p = fct I p 5 := congrFun (fm K0 _ h0) 5
      rw [ef] at j1
      have hs := LRN_s (k := 5) h0 j2 j4
      refine ⟨_, ?_, hs.1, hs.2.1, fun k hk => hs.2.2 k (hk.elim (fun r => Or.inl r.1) Or.inr)⟩
      rw [bz_t b]
      refine (T_56_119 ..).trans (ci_f (by decide) (bd_t j1 ?_))
      exact (T_56_136 ..).trans (ci_t (by decide) (bd_t (bit 6 (by decide) _ hs.1) rfl))
    · refine ⟨K0, ?_, h0.1, h0.2.1, fun k hk => h0.2.2 k (hk.resolve_left (fun r => b r.2))⟩
      rw [bz_f b]
      exact (T_56_119 ..).trans (ci_t rfl (bd_t (bit 6 (by decide) _ h0.1) rfl))
  obtain ⟨K1, e1, h1⟩ := k1
  -- the fewest ways
  have k2 : ∃ K, Run PG (Call PG (d + 6)) 56 147 [(2, 0), (0, p), (2, 10)] [(0, bz (L.testBit 6 = true))] (K1, RF sp rt tt z.1, z) (0, 0) = Run PG (Call PG (d + 6)) 56 172 [(2, 0), (0, p), (2, 10)] [(0, bz (L.testBit 7 = true))] (K, RF sp rt tt z.1, z) (0, 0) ∧ LRN I p (fun k => (k = 6 ∧ L.testBit 6 = true) ∨ (k = 5 ∧ L.testBit 5 = true) ∨ k = 0 ∨ k = 1 ∨ k = 2 ∨ k = 3 ∨ k = 4 ∨ k = 8 ∨ k = 9 ∨ k = 10) K := by
    by_cases b : L.testBit 6 = true
    · obtain ⟨i1, i2, i3, i4⟩ := inv K1 _ h1
      obtain ⟨J, j1, j2, j3, j4, j5⟩ := S_66n (d := d + 1) (sp := sp) (rt := rt) (tt := tt) (z := z) (p := p) i2 i3 (by omega) (by omega)
      have ef : FWc K1 p = fct I p 6 := congrFun (fm K1 _ h1) 6
      rw [ef] at j1
      have hs := LRN_s (k := 6) h1 j2 j5
      refine ⟨_, ?_, hs.1, hs.2.1, fun k hk => hs.2.2 k (hk.elim (fun r => Or.inl r.1) Or.inr)⟩
      rw [bz_t b]
      refine (T_56_147 ..).trans (ci_f (by decide) (bd_t j1 ?_))
      exact (T_56_161 ..).trans (ci_t (by decide) (bd_t (bit 7 (by decide) _ hs.1) rfl))
    · refine ⟨K1, ?_, h1.1, h1.2.1, fun k hk => h1.2.2 k (hk.resolve_left (fun r => b r.2))⟩
      rw [bz_f b]
      exact (T_56_147 ..).trans (ci_t rfl (bd_t (bit 7 (by decide) _ h1.1) rfl))
  obtain ⟨K2, e2, h2⟩ := k2
  -- nearest
  have k3 : ∃ K, Run PG (Call PG (d + 6)) 56 172 [(2, 0), (0, p), (2, 10)] [(0, bz (L.testBit 7 = true))] (K2, RF sp rt tt z.1, z) (0, 0) = Run PG (Call PG (d + 6)) 56 197 [(2, 0), (0, p), (2, 10)] [(0, bz (L.testBit 11 = true))] (K, RF sp rt tt z.1, z) (0, 0) ∧ LRN I p (fun k => (k = 7 ∧ L.testBit 7 = true) ∨ (k = 6 ∧ L.testBit 6 = true) ∨ (k = 5 ∧ L.testBit 5 = true) ∨ k = 0 ∨ k = 1 ∨ k = 2 ∨ k = 3 ∨ k = 4 ∨ k = 8 ∨ k = 9 ∨ k = 10) K := by
    by_cases b : L.testBit 7 = true
    · obtain ⟨i1, i2, i3, i4⟩ := inv K2 _ h2
      have gS := i1.2.2.2.2.2.2
      obtain ⟨m1, m2, m3, m4, m5, m6⟩ := gs_cnt gS
      have s := S_72 (d := d + 1) (I := K2) (sp := sp) (rt := rt) (tt := tt) (z := z) (p := p) (gs_BB gS) (by omega) (fun v hv => gs_W gS hv) (by omega) (fun v hv => gs_F gS hv)
      have ef : NPT (fun f => NFc K2 f) (K2 53) (K2 45 2).toNat p = fct I p 7 := congrFun (fm K2 _ h2) 7
      rw [ef] at s
      have hs := LRN_s (k := 7) h2 FRn_r h2.2.1
      refine ⟨_, ?_, hs.1, hs.2.1, fun k hk => hs.2.2 k (hk.elim (fun r => Or.inl r.1) Or.inr)⟩
      rw [bz_t b]
      refine (T_56_172 ..).trans (ci_f (by decide) (bd_t s ?_))
      exact (T_56_186 ..).trans (ci_t (by decide) (bd_t (bit 11 (by decide) _ hs.1) rfl))
    · refine ⟨K2, ?_, h2.1, h2.2.1, fun k hk => h2.2.2 k (hk.resolve_left (fun r => b r.2))⟩
      rw [bz_f b]
      exact (T_56_172 ..).trans (ci_t rfl (bd_t (bit 11 (by decide) _ h2.1) rfl))
  obtain ⟨K3, e3, h3⟩ := k3
  -- shots
  by_cases b : L.testBit 11 = true
  · obtain ⟨i1, i2, i3, i4⟩ := inv K3 _ h3
    have u0 := i1.1.1
    have w1 := i1.2.2.1.1
    have s := S_79 (d := d + 5) (I := K3) (sp := sp) (rt := rt) (tt := tt) (z := z) (p := p) (m := K3 0 0 - 1440) (by omega)
    have ef : itr (fun (i : Nat) (a : Int) => if K3 66 i = p ∧ K3 0 0 - 1440 < K3 67 i then w32 (a + 1) else a) (K3 55 13).toNat 0 = fct I p 11 := by
      rw [itr_cnt2 (by omega)]
      exact congrFun (fm K3 _ h3) 11
    rw [ef] at s
    have hs := LRN_s (k := 11) h3 FRn_r h3.2.1
    refine ⟨_, e0.trans (e1.trans (e2.trans (e3.trans ?_))), hs.1, hs.2.1, fun k hk => hs.2.2 k ?_⟩
    · rw [bz_t b]
      refine (T_56_197 ..).trans (ci_f (by decide) ?_)
      rw [w32_of (by omega) (by omega)]
      refine bd_t s ?_
      exact (T_56_219 ..).trans (ci_t (by decide) rfl)
    · obtain ⟨hk1, hk2⟩ := hk
      have : k = 0 ∨ k = 1 ∨ k = 2 ∨ k = 3 ∨ k = 4 ∨ k = 5 ∨ k = 6 ∨ k = 7 ∨ k = 8 ∨ k = 9 ∨ k = 10 ∨ k = 11 := by omega
      rcases this with rfl | rfl | rfl | rfl | rfl | rfl | rfl | rfl | rfl | rfl | rfl | rfl <;> simp [hk2]
  · refine ⟨K3, e0.trans (e1.trans (e2.trans (e3.trans ?_))), h3.1, h3.2.1, fun k hk => h3.2.2 k ?_⟩
    · rw [bz_f b]
      exact (T_56_197 ..).trans (ci_t rfl rfl)
    · obtain ⟨hk1, hk2⟩ := hk
      have : k = 0 ∨ k = 1 ∨ k = 2 ∨ k = 3 ∨ k = 4 ∨ k = 5 ∨ k = 6 ∨ k = 7 ∨ k = 8 ∨ k = 9 ∨ k = 10 ∨ k = 11 := by omega
      rcases this with rfl | rfl | rfl | rfl | rfl | rfl | rfl | rfl | rfl | rfl | rfl | rfl <;> first | exact absurd hk2 b | simp [hk2]
end FA0

