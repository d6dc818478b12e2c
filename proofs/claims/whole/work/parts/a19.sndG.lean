/-! runs and calls -/
theorem eff_99 {LY : Lay} {al : GG} {i : Ins} {ls stk : List AV} {h : Hp} {gg : GG} (hi : i.1 = 99) : eff LY al i ls stk h gg = none := by
  unfold eff
  rw [if_neg (by omega), if_neg (by omega), if_neg (by omega)]
  unfold effD
  dsimp only
  simp only [hi]
  rfl
def Pd (al : GG) (r : Option (Nat × List AV × List AV × Hp × GG)) : Prop := ∀ x, r = some x → x.2.2.2.2.1 ≤ al.1 ∧ x.2.2.2.2.2 ≤ al.2
theorem pd_none {al : GG} : Pd al none := fun _ h => by cases h
theorem pd_some {al : GG} {x : Nat × List AV × List AV × Hp × GG} (h : x.2.2.2.2.1 ≤ al.1 ∧ x.2.2.2.2.2 ≤ al.2) : Pd al (some x) := fun y e => by cases e; exact h
theorem pd_ite {al : GG} {c : Prop} [Decidable c] {a b : Option (Nat × List AV × List AV × Hp × GG)} (h1 : c → Pd al a) (h2 : ¬ c → Pd al b) : Pd al (if c then a else b) := by
  by_cases h : c
  · rw [if_pos h]; exact h1 h
  · rw [if_neg h]; exact h2 h
theorem pd_A {al : GG} {i : Ins} {ls stk : List AV} {h : Hp} {gg : GG} (hg : gg.1 ≤ al.1 ∧ gg.2 ≤ al.2) : Pd al (effA i ls stk h gg) := by
  unfold effA
  dsimp only
  repeat' (first | exact pd_none | exact pd_some hg | refine pd_ite (fun _ => ?_) (fun _ => ?_) | split)
theorem pd_B {al : GG} {i : Ins} {ls stk : List AV} {h : Hp} {gg : GG} (hg : gg.1 ≤ al.1 ∧ gg.2 ≤ al.2) : Pd al (effB i ls stk h gg) := by
  unfold effB b1 b2 b2z l2 l2z ls2
  dsimp only
  repeat' (first | exact pd_none | exact pd_some hg | refine pd_ite (fun _ => ?_) (fun _ => ?_) | split)
theorem pd_C {al : GG} {i : Ins} {ls stk : List AV} {h : Hp} {gg : GG} (hg : gg.1 ≤ al.1 ∧ gg.2 ≤ al.2) : Pd al (effC i ls stk h gg) := by
  unfold effC c1 c2
  dsimp only
  repeat' (first | exact pd_none | exact pd_some hg | refine pd_ite (fun _ => ?_) (fun _ => ?_) | split)
theorem pd_D {LY : Lay} {al : GG} {i : Ins} {ls stk : List AV} {h : Hp} {gg : GG} (hg : gg.1 ≤ al.1 ∧ gg.2 ≤ al.2) : Pd al (effD LY al i ls stk h gg) := by
  unfold effD
  dsimp only
  repeat' (first | exact pd_none | exact pd_some hg | exact pd_some ⟨hc.2.2.1, hc.2.2.2⟩ | exact pd_some ⟨hc.2.1, hc.2.2⟩ | refine pd_ite (fun hc => ?_) (fun _ => ?_) | split)
theorem eff_gg {LY : Lay} {al : GG} {i : Ins} {ls stk ls' stk' : List AV} {h h' : Hp} {gg gg' : GG} {pc' : Nat} (he : eff LY al i ls stk h gg = some (pc', ls', stk', h', gg')) (hg : gg.1 ≤ al.1 ∧ gg.2 ≤ al.2) : gg'.1 ≤ al.1 ∧ gg'.2 ≤ al.2 := by
  have key : Pd al (eff LY al i ls stk h gg) := by
    unfold eff
    exact pd_ite (fun _ => pd_A hg) (fun _ => pd_ite (fun _ => pd_B hg) (fun _ => pd_ite (fun _ => pd_C hg) (fun _ => pd_D hg)))
  exact key _ he
theorem okK_at {M pc : Nat} (h99 : (lk (mK M) pc).1 ≠ 99) : okI ML mN mC (mT M) (mO M) (mC M == 60) (mB M) pc (lk (mK M) pc) = true ∧ okS (mL M) (lk (mK M) pc) = true := by
  have h1 := OKK M
  have h2 := List.all_eq_true.mp h1 _ (lk_mem h99)
  exact Bool.and_eq_true_iff.mp h2
section SNDG
variable {p : Program} {l : Launch} {e : Env} {R : Room} {s : State} {m : MethodId} {args : Array Value} {below : List Frame} {meth : Method} {c : Code} {H0 : Heap} {Q : State → Prop} {sb b0 base : Nat} {D : va_G} {sc : Nat × (Nat → Int)} {xs : Nat → Int32} {av : Nat → Nat} {H00 : Heap}
/-- a method's stretch, to its end -/
theorem sG_run {d M : Nat} {n0 : Nat} {ad0 : Nat → Nat} {rr : Option AV} {hh : Hp}
    (IH : ∀ k as h r h', k ≠ 345 → Call PG d k as h = some (r, h') → wh h → h.2.2.2 = sc → Con l D base H00 sb b0 av sc xs d k as h r h')
    (hx : p.tables.exec = Jvm.exec) (hb : c.code = mB M) (hml : c.maxLocals = mL M) (hown : s.vm.findClass (oN (mO M)) = some m.cls) (hts : ∀ w ∈ wT, w.before args s = true) (hbase : base ≤ H0.size) (hold : ∀ q, q < base → H0[q]? = H00[q]?) (hKy : Ky base b0 sb av H00 sc xs s)
    (hxs : ∀ j, sc.2 j = (xs j).toInt) (hb0 : b0 < base) (hL4 : sc.1 ≤ 4096) (hin : (mC M == 60) = true → meth.name = "<init>")
    (hfr : d + 9 ≤ R.frames) (hlo : 64 * d + 1088 ≤ R.locals) (hgR : (mA M).1 ≤ R.cells ∧ (mA M).2 ≤ R.slots)
    (RET : ∀ (i : Ins) (pc : Nat) (ls stk : List AV) (h : Hp) (gg : GG) (ad : Nat → Nat) (ca : Nat → ClassId) (tys : List (ClassId × FieldType)) (H : Heap) (locs : List Loc) (L : Array Slot), okF (mT M) (mB M) pc i = true → goRet PG M i stk h = some (rr, hh) → ((∀ a, a < n0 → ad a = ad0 a) ∧ n0 ≤ h.2.2.1) → Rl D base H0 s sc ad ca tys h H locs → wvs h.2.2.1 stk → gg.1 ≤ (mA M).1 ∧ gg.2 ≤ (mA M).2 → W p l e R s m args below meth c H locs gg.1 gg.2 Q (F0 m pc L (stk.map (tr sb b0 ad)))) :
    ∀ (n pc : Nat) (ls stk : List AV) (h : Hp) (gg : GG), run PG (Call PG d) n M pc ls stk h gg = some (rr, hh) → ∀ (ad : Nat → Nat) (ca : Nat → ClassId) (tys : List (ClassId × FieldType)) (H : Heap) (locs : List Loc) (L : Array Slot), ((∀ a, a < n0 → ad a = ad0 a) ∧ n0 ≤ h.2.2.1) → Rl D base H0 s sc ad ca tys h H locs → lr sb b0 ad (mL M) ls L → wvs h.2.2.1 stk → wvs h.2.2.1 ls → gg.1 ≤ (mA M).1 ∧ gg.2 ≤ (mA M).2 → W p l e R s m args below meth c H locs gg.1 gg.2 Q (F0 m pc L (stk.map (tr sb b0 ad))) := by
  intro n
  induction n with
  | zero => intro pc ls stk h gg hr; cases hr
  | succ n ihn =>
    intro pc ls stk h gg hr ad ca tys H locs L hag hRl hl hws hwl hgg
    have hgo : go PG (Call PG d) (run PG (Call PG d) n M) M (lk (mK M) pc) ls stk h gg = some (rr, hh) := hr
    by_cases h99 : (lk (mK M) pc).1 = 99
    · exfalso
      unfold go at hgo
      rw [if_pos (by omega), eff_99 h99] at hgo
      cases hgo
    obtain ⟨hok, hS⟩ := okK_at h99
    have h97 := op97_at h99
    generalize lk (mK M) pc = i at hgo hok hS h97
    unfold go at hgo
    by_cases h100 : i.1 < 100
    · rw [if_pos h100] at hgo
      cases he : eff PG.1 (PG.2.2.1 M) i ls stk h gg with
      | none => rw [he] at hgo; cases hgo
      | some r =>
        obtain ⟨pc', ls', stk', h', gg'⟩ := r
        rw [he] at hgo
        have hgo : run PG (Call PG d) n M pc' ls' stk' h' gg' = some (rr, hh) := hgo
        have hok' : (if i.1 < 30 then okA (mO M) (mB M) pc i else if i.1 < 60 then okB (mB M) pc i else if i.1 < 76 then okC (mB M) pc i else okD (mO M) (mC M == 60) (mB M) pc i) = true := by
          unfold okI at hok
          rw [if_pos h100] at hok
          exact hok
        have hgg' : gg'.1 ≤ (mA M).1 ∧ gg'.2 ≤ (mA M).2 := eff_gg he hgg
        refine sF_eff hx hb hml hown rfl hts hbase hold hKy hxs hb0 hL4 hin (by omega) (by omega) hgR hgg hRl hl hws hwl h97 h100 hok' hS he (fun ad' ca' tys' H' locs' L' h1 h2 h3 h4 h5 => ?_)
        exact ihn pc' ls' stk' h' gg' hgo ad' ca' tys' H' locs' L' ⟨fun a ha => (h1.1 a (by omega)).trans (hag.1 a ha), by omega⟩ h2 h5 h3 h4 hgg'
    · rw [if_neg h100] at hgo
      by_cases h110 : i.1 < 110
      · rw [if_pos h110] at hgo
        have hokE : okE ML mN mC (mO M) (mB M) pc i = true := by
          unfold okI at hok
          rw [if_neg (by omega), if_neg (by omega), if_neg (by omega), if_neg h100, if_pos h110] at hok
          exact hok
        unfold goCall at hgo
        dsimp only at hgo
        cases htk : tk (i.2.2.1.tail.headD 0) [] stk with
        | none => rw [htk] at hgo; cases hgo
        | some q =>
          obtain ⟨as, r⟩ := q
          rw [htk] at hgo
          dsimp only at hgo
          by_cases hcnd : rcv PG.1 (PG.2.2.2.2.1 (i.2.2.1.headD 0)) as = true ∧ argw as ≤ PG.2.2.2.1 (i.2.2.1.headD 0) ∧ r.length ≤ 4 ∧ gg.1 + (PG.2.2.1 (i.2.2.1.headD 0)).1 ≤ (PG.2.2.1 M).1 ∧ gg.2 + (PG.2.2.1 (i.2.2.1.headD 0)).2 ≤ (PG.2.2.1 M).2
          · rw [if_pos hcnd] at hgo
            obtain ⟨hrc, haw, hr4, hg1, hg2⟩ := hcnd
            cases hC : Call PG d (i.2.2.1.headD 0) as h with
            | none => rw [hC] at hgo; cases hgo
            | some w =>
              obtain ⟨v, h1⟩ := w
              rw [hC] at hgo
              have hgo : run PG (Call PG d) n M i.2.1 ls (v.toList ++ r) h1 (gg.1 + (mA (i.2.2.1.headD 0)).1, gg.2 + (mA (i.2.2.1.headD 0)).2) = some (rr, hh) := hgo
              have hg1 : gg.1 + (mA (i.2.2.1.headD 0)).1 ≤ (mA M).1 := hg1
              have hg2 : gg.2 + (mA (i.2.2.1.headD 0)).2 ≤ (mA M).2 := hg2
              have hk345 : i.2.2.1.headD 0 ≠ 345 := by
                obtain ⟨hk, -⟩ := Bool.and_eq_true_iff.mp hokE
                obtain ⟨-, hlt, -, f2⟩ := of_decide_eq_true hk
                have := (ML_ok _ (getD_mem (d := (0, 0, 0, 0, 0)) hlt)).2
                rw [f2] at this
                omega
              refine sE hx hb hml hown rfl hts hbase hold hKy hfr hlo (by omega) (by omega) hRl hl hws hwl hokE htk hrc hr4 haw (IH _ _ _ _ _ hk345 hC hRl.2.2.2.2.2.1 hRl.2.2.2.2.2.2) (fun ad' ca' tys' H' locs' q1 q2 q3 q4 q5 => ?_)
              exact ihn i.2.1 ls (v.toList ++ r) h1 _ hgo ad' ca' tys' H' locs' L ⟨fun a ha => (q1.1 a (by omega)).trans (hag.1 a ha), by omega⟩ q2 q5 q3 q4 ⟨hg1, hg2⟩
          · rw [if_neg hcnd] at hgo; cases hgo
      · rw [if_neg h110] at hgo
        have hokF : okF (mT M) (mB M) pc i = true := by
          unfold okI at hok
          rw [if_neg (by omega), if_neg (by omega), if_neg (by omega), if_neg h100, if_neg h110] at hok
          exact hok
        exact RET i pc ls stk h gg ad ca tys H locs L hokF hgo hag hRl hws hgg
end SNDG
