/-! calls, returns, and whole methods -/
theorem tk_spec : ∀ {n : Nat} {acc stk as r : List AV}, tk n acc stk = some (as, r) → as.reverse ++ r = acc.reverse ++ stk ∧ as.length = n + acc.length
  | 0, acc, stk, as, r, h => by
    have h : some (acc, stk) = some (as, r) := by rw [← h]; unfold tk; rfl
    cases h
    exact ⟨rfl, by omega⟩
  | n + 1, acc, [], as, r, h => by unfold tk at h; cases h
  | n + 1, acc, v :: s, as, r, h => by
    unfold tk at h
    obtain ⟨h1, h2⟩ := tk_spec h
    refine ⟨by rw [h1, List.reverse_cons, List.append_assoc]; rfl, by rw [h2, List.length_cons]; omega⟩
def LETB : List Int32 := [115, 100, 103, 109, 98, 97, 111, 119, 108, 104, 121, 113]
/-- what the tables and the old cells say, at any state -/
def Ky (base b0 sb : Nat) (av : Nat → Nat) (H00 : Heap) (sc : Nat × (Nat → Int)) (xs : Nat → Int32) (U : State) : Prop :=
  (∀ q ∈ ML, q.2.2.2.1 = 1 → va_Nw (MLp q) U) ∧ va_AO (oN 3) U ∧ va_X b0 sc.1 xs U H00 ∧ vk_R (oN 4) 121 "sdgmbaowlhyq" sb U ∧ vk_S 1 [12] [LETB] (fun _ => sb) av (fun q => base ≤ q) U H00 ∧ va_Z "java/lang/String" "COMPACT_STRINGS" "Z" (.int 1) (fun q => base ≤ q) U H00
theorem Ky_warm {base b0 sb : Nat} {av : Nat → Nat} {H00 : Heap} {sc : Nat × (Nat → Int)} {xs : Nat → Int32} {s U : State} (hW : s.WarmedH U.vm) (h : Ky base b0 sb av H00 sc xs s) : Ky base b0 sb av H00 sc xs U := by
  obtain ⟨h1, h2, h3, h4, h5, h6⟩ := h
  refine ⟨fun q hq hn => ?_, va_AO.moved hW.alike h2, va_X.moved hW.alike h3, vk_R.warm hW h4, vk_S.moved hW.alike h5, va_Z.moved hW.alike h6⟩
  have := h1 q hq hn
  unfold MLp at this ⊢
  rw [if_pos hn] at this ⊢
  exact va_Nw.warmM hW this
/-- the world at a state -/
def Wd (D : va_G) (base : Nat) (H00 : Heap) (sc : Nat × (Nat → Int)) (ad : Nat → Nat) (ca : Nat → ClassId) (tys : List (ClassId × FieldType)) (h : Hp) (U : State) : Prop :=
  va_P D classes (enW ad ca h) U.heap ∧ va_D (fun q => base ≤ q) (enW ad ca h) ∧ va_K D classes tys U ∧ (∀ a, a < h.2.2.1 → 20 ≤ (LAY a).1 → ∃ t0 : Nat, tys[t0]? = some (ca a, ety (LAY a).1)) ∧ wh h ∧ h.2.2.2 = sc ∧ base ≤ U.heap.size ∧ (∀ q, q < base → U.heap[q]? = H00[q]?)
noncomputable def rmD (d m : Nat) : Room := { frames := d + 8, cells := (mA m).1, slots := (mA m).2, locals := 64 * d + 1024 }
noncomputable def wsM (m : Nat) : List Cond := .code (mY m) (mB m) (mL m) (mR m) :: wT
def QcM (D : va_G) (base : Nat) (H00 : Heap) (sb b0 : Nat) (sc : Nat × (Nat → Int)) (ad : Nat → Nat) (h : Hp) (r : Option AV) (h' : Hp) : Array Value → State → Outcome → State → Prop := fun _ st oc t =>
  ∃ (ad' : Nat → Nat) (ca' : Nat → ClassId) (tys' : List (ClassId × FieldType)), ((∀ a, a < h.2.2.1 → ad' a = ad a) ∧ h.2.2.1 ≤ h'.2.2.1) ∧ oc = .returned (r.map (tr sb b0 ad')) ∧ Wd D base H00 sc ad' ca' tys' h' t ∧ st.heap.size ≤ t.heap.size ∧ (∀ v, r = some v → wv h'.2.2.1 v)
def Con (l : Launch) (D : va_G) (base : Nat) (H00 : Heap) (sb b0 : Nat) (av : Nat → Nat) (sc : Nat × (Nat → Int)) (xs : Nat → Int32) (d m : Nat) (as : List AV) (h : Hp) (r : Option AV) (h' : Hp) : Prop :=
  ∀ (ad : Nat → Nat) (ca : Nat → ClassId) (tys : List (ClassId × FieldType)), wvs h.2.2.1 as → argw as ≤ mL m →
    Met l (mY m) (wsM m) (rmD d m) (va_Pc (as.map (tr sb b0 ad)) (fun U => Wd D base H00 sc ad ca tys h U ∧ Ky base b0 sb av H00 sc xs U)) (QcM D base H00 sb b0 sc ad h r h') (mA m).1 (mA m).2 (fun q => base ≤ q)
theorem wT_good {w : Cond} (h : w ∈ wT) : (w.onTables && w.keeps) = true ∨ ∃ ty, w = .arrayClass ty := good_of_word (List.mem_filter.mp h).2
theorem code_good (y : MethodName) (b : ByteArray) (n : Nat) (r : Option FieldType) : goodWord (.code y b n r) = true := rfl
theorem wsM_in {m : Nat} (hm : m ≠ 345) : GoodIn wT (wsM m) := by
  intro w hw
  have hc : Cond.code (mY m) (mB m) (mL m) (mR m) ∈ wT := wT_t (OKW _ (mt_mem hm)).2 (code_good _ _ _ _)
  rcases List.mem_cons.mp hw with rfl | h
  · exact ⟨hc, wT_good hc⟩
  · exact ⟨h, wT_good h⟩
theorem z3 : ∀ a b c : Nat, a ≤ 40 → 64 * b + 1088 ≤ c → 8 + (a + 11) + (64 * b + 1024) ≤ c := fun a b c h1 h2 => by
  have h3 : 8 + (a + 11) ≤ 64 := Nat.le_trans (Nat.add_le_add_left (Nat.add_le_add_right h1 11) 8) (by decide)
  have h4 : 64 + (64 * b + 1024) = 64 * b + 1088 := by rw [Nat.add_comm, Nat.add_assoc]
  refine Nat.le_trans (Nat.add_le_add_right h3 _) ?_
  rw [h4]
  exact h2
section CALLS
variable {p : Program} {l : Launch} {e : Env} {R : Room} {s : State} {m : MethodId} {args : Array Value} {below : List Frame} {meth : Method} {c : Code} {H H0 : Heap} {locs : List Loc} {Q : State → Prop} {cc : ByteArray} {own : String} {nL : Nat} {sb b0 base : Nat} {ad : Nat → Nat} {ca : Nat → ClassId} {tys : List (ClassId × FieldType)} {D : va_G} {sc : Nat × (Nat → Int)} {xs : Nat → Int32} {av : Nat → Nat} {H00 : Heap} {o : Nat} {cells slots : Nat}
theorem call_on {mc ms pc : Nat} {ls : Array Slot} {st0 rest : List Value} {Qa : State → Outcome → State → Prop} {free : Addr → Prop} (hr : va_Run p l e R s m args below meth c H locs cells slots mc ms (F0 m pc ls st0) rest Qa free)
    (kk : ∀ (v : Option Value) (st₀ t : State) (lo : List Loc), st₀.heap = H → s.WarmedH t.vm → (∀ q ∈ lo, free q.base) → Qa st₀ (.returned v) t → W p l e R s m args below meth c t.heap (locs ++ lo) (cells + mc) (slots + ms) Q (F0 m (pc + 3) ls (v.toList ++ rest))) : W p l e R s m args below meth c H locs cells slots Q (F0 m pc ls st0) := by
  intro T hT X
  obtain ⟨v, st₀, t, T', lo, h1, X', hf, h2, h3, hq, goes⟩ := hr T hT X
  obtain ⟨t2, a1, b1⟩ := kk v st₀ t lo h1 (by rw [← h3]; exact X'.warmed) hf hq T' h2 X'
  exact ⟨t2, goes _ a1, b1⟩
/-- behind a call -/
theorem sE_on {gg : GG} {ls r : List AV} {pc k : Nat} {L : Array Slot} {h h' : Hp} {v : Option AV} {st0 : List Value} {a : Array Value}
    (hold : ∀ q, q < base → H0[q]? = H00[q]?) (hRl : Rl D base H0 s sc ad ca tys h H locs) (hl : lr sb b0 ad nL ls L) (hwr : wvs h.2.2.1 r) (hwl : wvs h.2.2.1 ls)
    (hr : va_Run p l e R s m args below meth c H locs gg.1 gg.2 (mA k).1 (mA k).2 (F0 m pc L st0) (r.map (tr sb b0 ad)) (QcM D base H00 sb b0 sc ad h v h' a) (fun q => base ≤ q))
    (K : ∀ (ad' : Nat → Nat) (ca' : Nat → ClassId) (tys' : List (ClassId × FieldType)) (H' : Heap) (locs' : List Loc), ((∀ a, a < h.2.2.1 → ad' a = ad a) ∧ h.2.2.1 ≤ h'.2.2.1) → Rl D base H0 s sc ad' ca' tys' h' H' locs' → wvs h'.2.2.1 (v.toList ++ r) → wvs h'.2.2.1 ls → lr sb b0 ad' nL ls L → W p l e R s m args below meth c H' locs' (gg.1 + (mA k).1) (gg.2 + (mA k).2) Q (F0 m (pc + 3) L ((v.toList ++ r).map (tr sb b0 ad')))) :
    W p l e R s m args below meth c H locs gg.1 gg.2 Q (F0 m pc L st0) := by
  refine call_on hr (fun v' st₀ t lo hst hW hf hq => ?_)
  obtain ⟨ad', ca', tys', hag, hoc, ⟨w1, w2, w3, w4, w5, w6, w7, w8⟩, hsz, hwv⟩ := hq
  have hv : v' = v.map (tr sb b0 ad') := by cases hoc; rfl
  subst hv
  obtain ⟨hP, hD, hK, hT, hS, hwh, hsc⟩ := hRl
  have K' := K ad' ca' tys' t.heap (locs ++ lo) hag ⟨w1, w2, va_K.moved hW.alike.symm w3, w4, ⟨Nat.le_trans hS.1 (by rw [← hst]; exact hsz), fun q h1 h2 => ?_, fun q hq => ?_⟩, w5, w6⟩ ?_ (wvs_up hwl hag.2) (lr_ad hag.1 hwl hl)
  · rw [List.map_append, trs_ad hag.1 hwr] at K'
    have : (v.map (tr sb b0 ad')).toList = v.toList.map (tr sb b0 ad') := by cases v <;> rfl
    rw [this]
    exact K'
  · have h3 : q < base := Nat.not_le.mp h2
    rw [w8 q h3, hold q h3]
  · rcases List.mem_append.mp hq with z | z
    · exact hS.2.2 q z
    · exact hf q z
  · intro z hz
    rcases List.mem_append.mp hz with z1 | z1
    · cases v with
      | none => cases z1
      | some y => rw [List.mem_singleton.mp z1]; exact hwv y rfl
    · exact (hwr z z1).up hag.2
theorem Pc_blind {as : List AV} {h : Hp} : FrameBlind (va_Pc (as.map (tr sb b0 ad)) (fun U => Wd D base H00 sc ad ca tys h U ∧ Ky base b0 sb av H00 sc xs U)) := by
  intro a U g mk hq
  obtain ⟨q1, ⟨w1, w2, w3, w4, w5, w6, w7, w8⟩, q2⟩ := hq
  exact ⟨q1, ⟨w1, w2, va_K.moved (u := U) (U := U.calling g mk a) (Vm.Alike.refl U.vm) w3, w4, w5, w6, w7, w8⟩, Ky_warm (s := U) (U := U.calling g mk a) (State.WarmedH.refl U) q2⟩
theorem Pc_at {as : List AV} {h : Hp} (hbase : base ≤ H0.size) (hold : ∀ q, q < base → H0[q]? = H00[q]?) (hRl : Rl D base H0 s sc ad ca tys h H locs) (hKy : Ky base b0 sb av H00 sc xs s) : ∀ U : State, U.heap = H → s.WarmedH U.vm → va_Pc (as.map (tr sb b0 ad)) (fun U => Wd D base H00 sc ad ca tys h U ∧ Ky base b0 sb av H00 sc xs U) (as.map (tr sb b0 ad)).toArray U := by
  intro U hU hW
  obtain ⟨hP, hD, hK, hT, hS, hwh, hsc⟩ := hRl
  refine ⟨rfl, ⟨by rw [hU]; exact hP, hD, va_K.moved hW.alike hK, hT, hwh, hsc, by rw [hU]; exact Nat.le_trans hbase hS.1, fun q hq => ?_⟩, Ky_warm hW hKy⟩
  rw [hU, hS.2.1 q (Nat.lt_of_lt_of_le hq hbase) (Nat.not_le.mpr hq)]
  exact hold q hq
/-- a call -/
theorem sE {d : Nat} {i : Ins} {gg : GG} {ls stk : List AV} {pc : Nat} {L : Array Slot} {h h' : Hp} {as r : List AV} {v : Option AV}
    (hx : p.tables.exec = Jvm.exec) (hb : c.code = cc) (hml : c.maxLocals = nL) (hown : s.vm.findClass own = some m.cls) (ho : oN o = own) (hts : ∀ w ∈ wT, w.before args s = true) (hbase : base ≤ H0.size) (hold : ∀ q, q < base → H0[q]? = H00[q]?) (hKy : Ky base b0 sb av H00 sc xs s)
    (hfr : d + 9 ≤ R.frames) (hlo : 64 * d + 1088 ≤ R.locals) (hg1 : gg.1 + (mA (i.2.2.1.headD 0)).1 ≤ R.cells) (hg2 : gg.2 + (mA (i.2.2.1.headD 0)).2 ≤ R.slots)
    (hRl : Rl D base H0 s sc ad ca tys h H locs) (hl : lr sb b0 ad nL ls L) (hws : wvs h.2.2.1 stk) (hwl : wvs h.2.2.1 ls)
    (hok : okE ML mN mC o cc pc i = true) (htk : tk (i.2.2.1.tail.headD 0) [] stk = some (as, r)) (hrc : rcv LAY (mC (i.2.2.1.headD 0)) as = true) (hr4 : r.length ≤ 4) (haw : argw as ≤ mL (i.2.2.1.headD 0))
    (IH : Con l D base H00 sb b0 av sc xs d (i.2.2.1.headD 0) as h v h')
    (K : ∀ (ad' : Nat → Nat) (ca' : Nat → ClassId) (tys' : List (ClassId × FieldType)) (H' : Heap) (locs' : List Loc), ((∀ a, a < h.2.2.1 → ad' a = ad a) ∧ h.2.2.1 ≤ h'.2.2.1) → Rl D base H0 s sc ad' ca' tys' h' H' locs' → wvs h'.2.2.1 (v.toList ++ r) → wvs h'.2.2.1 ls → lr sb b0 ad' nL ls L → W p l e R s m args below meth c H' locs' (gg.1 + (mA (i.2.2.1.headD 0)).1) (gg.2 + (mA (i.2.2.1.headD 0)).2) Q (F0 m i.2.1 L ((v.toList ++ r).map (tr sb b0 ad')))) :
    W p l e R s m args below meth c H locs gg.1 gg.2 Q (F0 m pc L (stk.map (tr sb b0 ad))) := by
  obtain ⟨hk, hok⟩ := Bool.and_eq_true_iff.mp hok
  obtain ⟨hnx, hlt, f1, f2⟩ := of_decide_eq_true hk
  have hq := ML_ok _ (getD_mem (d := (0, 0, 0, 0, 0)) hlt)
  obtain ⟨⟨hq1, hq2⟩, hq3⟩ := hq
  rw [hnx] at K
  generalize hki : i.2.2.1.headD 0 = k at *
  generalize hqi : ML.getD (i.2.2.1.tail.tail.headD 0) (0, 0, 0, 0, 0) = q at *
  have hqm : q ∈ ML := by rw [← hqi]; exact getD_mem hlt
  have hk345 : k ≠ 345 := by rw [← f2]; omega
  obtain ⟨⟨⟨u1, u2, u3⟩, ⟨g1, g2, g3⟩, ⟨y1, y2, y3⟩, y4, y5, y6, y7, y8, y9, y10, y11, y12⟩, u0⟩ := OKW _ (mt_mem hk345)
  have hmL : mL k ≤ 40 := y6
  obtain ⟨hst, hlen⟩ := tk_spec htk
  have hstk : stk = as.reverse ++ r := by rw [hst]; rfl
  have hlen : as.length = i.2.2.1.tail.headD 0 := by rw [hlen]; rfl
  have hwas : wvs h.2.2.1 as := fun z hz => hws z (by rw [hstk]; exact List.mem_append_left _ (List.mem_reverse.mpr hz))
  have hwr : wvs h.2.2.1 r := fun z hz => hws z (by rw [hstk]; exact List.mem_append_right _ hz)
  have hcs := cat_sum sb b0 ad r
  have hW8 : 2 * (F0 m pc L (stk.map (tr sb b0 ad))).monitorRoom + ((r.map (tr sb b0 ad)).map fun v => v.category).sum ≤ 8 := lv_room (by omega)
  have hM := IH ad ca tys hwas haw
  have hR : (rmD d k).frames + 1 ≤ R.frames ∧ 8 + (mL k + 11) + (rmD d k).locals ≤ R.locals := by
    have z1 : (rmD d k).frames = d + 8 := rfl
    have z2 : (rmD d k).locals = 64 * d + 1024 := rfl
    rw [z1, z2]
    exact ⟨hfr, z3 _ _ _ hmL hlo⟩
  have hF : CallFix p m c cc nL s args wT own := ⟨hx, hb, hml, hown, hts⟩
  have hLs : L.size = nL := hl.1.1
  have hinit : Cond.initialized (mY k).cls ∈ wT := wT_t u1 g1
  have hkind : (if mC k = 50 then Cond.static (mY k) else Cond.instanceMethod (mY k)) ∈ wT := wT_t u2 g2
  by_cases h100 : i.1 = 100
  · have hok : decide (decode cc pc = .ok (.invokevirtual q.2.1, 3) ∧ q.2.2.2.1 = 0 ∧ mC k < 13 ∧ i.2.2.1.tail.headD 0 = mN k + 1) = true := by rw [if_pos h100] at hok; exact hok
    obtain ⟨hd, hn0, hc13, hna⟩ := of_decide_eq_true hok
    have hlk : Cond.methodLink own q.2.1 (mY k) ∈ wT := by
      have h1 : MLp q = .methodLink own q.2.1 (mY k) := by unfold MLp; rw [if_neg (by rw [hn0]; decide), f1, ho, f2]
      rw [h1] at hq1 hq2
      exact wT_t hq1 (hq2.resolve_right (by rw [hn0]; decide))
    have hsel : Cond.selects (mY k).cls (mY k) (mY k) ∈ wT := List.mem_filter.mpr ⟨List.mem_of_getElem? (u3 hc13), g3⟩
    rw [if_neg (by omega)] at hkind
    cases as with
    | nil => rw [List.length_nil] at hlen; omega
    | cons a0 As =>
      unfold rcv at hrc
      rw [if_neg (by omega)] at hrc
      obtain ⟨t0, x0⟩ := a0
      have ht0 : t0 = 2 ∧ (LAY x0.toNat).1 = mC k := by
        split at hrc
        · next q r hz => cases hz; rw [if_neg (by omega)] at hrc; exact ⟨rfl, of_decide_eq_true hrc⟩
        · cases hrc
      obtain ⟨rfl, hcl⟩ := ht0
      have hxn := (wvs_c.mp hwas).1.2.2 rfl
      have hxl : x0.toNat < h.2.2.1 := by have h1 : 0 ≤ x0 ∧ x0 < (h.2.2.1 : Int) := hxn; omega
      have hat : (enW ad ca h)[x0.toNat]? = some (ad x0.toNat, .inr (mC k, enO ad (mC k) h x0.toNat)) := by rw [enW_at hxl, enC_obj hcl (by omega)]
      have hcw : CallW R s args own (mY k).cls q.2.1 (mY k) (mB k) (mL k) (mR k) (wsM k) (rmD d k) (mA k).1 (mA k).2 (mN k) := by
        refine cwV (mN k) hts (fun w hw => ?_) rfl rfl rfl ⟨rfl, y1, y2, y3⟩ hR
        rcases List.mem_append.mp hw with z | z
        · have hwt : w ∈ wT := by
            simp only [List.mem_cons, List.not_mem_nil, or_false] at z
            rcases z with rfl | rfl | rfl | rfl
            · exact hlk
            · exact hkind
            · exact hsel
            · exact hinit
          exact ⟨hwt, wT_good hwt⟩
        · exact wsM_in hk345 w z
      have hrcv : ∃ cell : Cell, H[ad x0.toNat]? = some cell ∧ cell.vm.isStatics = false ∧ s.vm.findClass (mY k).cls = some cell.cls := by
        have := va_recv hRl.2.2.1 hRl.1 (classes_at hc13) hat
        rw [show oN (mC k) = (mY k).cls from y7 hc13] at this
        exact this
      refine sE_on hold hRl hl hwr hwl (va_runV (As := As.map (tr sb b0 ad)) hF hM hcw ⟨Pc_blind, hrcv, Pc_at hbase hold hRl hKy⟩ rfl (by rw [List.length_map]; rw [List.length_cons] at hlen; omega) hLs ?_ hW8 hd ⟨hg1, hg2⟩) K
      show stk.map (tr sb b0 ad) = _
      rw [hstk, List.map_append, List.map_reverse, List.map_cons, List.reverse_cons, List.append_assoc]
      rfl
  · rw [if_neg h100] at hok
    by_cases h102 : i.1 = 102
    · have hok : decide (decode cc pc = .ok (.invokestatic q.2.1, 3) ∧ q.2.2.2.1 = 0 ∧ mC k = 50 ∧ i.2.2.1.tail.headD 0 = mN k) = true := by rw [if_pos h102] at hok; exact hok
      obtain ⟨hd, hn0, hc50, hna⟩ := of_decide_eq_true hok
      have hlk : Cond.methodLink own q.2.1 (mY k) ∈ wT := by
        have h1 : MLp q = .methodLink own q.2.1 (mY k) := by unfold MLp; rw [if_neg (by rw [hn0]; decide), f1, ho, f2]
        rw [h1] at hq1 hq2
        exact wT_t hq1 (hq2.resolve_right (by rw [hn0]; decide))
      rw [if_pos hc50] at hkind
      have hcw := va_cwS (R := R) (own := own) (index := q.2.1) (y := mY k) (bytes := mB k) (maxL := mL k) (mc := (mA k).1) (ms := (mA k).2) (ret := mR k) (ws := wsM k) (rm := rmD d k) (mN k) hts (fun w hw => by
        rcases List.mem_append.mp hw with z | z
        · have hwt : w ∈ wT := by
            simp only [List.mem_cons, List.not_mem_nil, or_false] at z
            rcases z with rfl | rfl | rfl
            · exact hlk
            · exact hkind
            · exact hinit
          exact ⟨hwt, wT_good hwt⟩
        · exact wsM_in hk345 w z) rfl rfl rfl ⟨y1, y2, y3⟩ hR
      refine sE_on hold hRl hl hwr hwl (va_runS (As := as.map (tr sb b0 ad)) hF hM hcw ⟨Pc_blind, Pc_at hbase hold hRl hKy⟩ rfl (by rw [List.length_map]; omega) hLs ?_ hW8 hd ⟨hg1, hg2⟩) K
      show stk.map (tr sb b0 ad) = _
      rw [hstk, List.map_append, List.map_reverse]
    · rw [if_neg h102] at hok
      by_cases h103 : i.1 = 103
      · have hok : decide (decode cc pc = .ok (.invokestatic q.2.1, 3) ∧ q.2.2.2.1 = 1 ∧ mC k = 50 ∧ i.2.2.1.tail.headD 0 = mN k) = true := by rw [if_pos h103] at hok; exact hok
        obtain ⟨hd, hn1, hc50, hna⟩ := of_decide_eq_true hok
        have hnw : va_Nw (.methodLinkNest own q.2.1 (mY k) "PitInspector") s := by
          have := hKy.1 q hqm hn1
          unfold MLp at this
          rw [if_pos hn1, f1, ho, f2] at this
          exact this
        rw [if_pos hc50] at hkind
        have hcw := va_cnB (R := R) (args := args) (own := own) (index := q.2.1) (y := mY k) (bytes := mB k) (maxL := mL k) (mc := (mA k).1) (ms := (mA k).2) (ret := mR k) (ws := wsM k) (rm := rmD d k) (mN k) hts (wsM_in hk345) rfl rfl rfl hnw (hts _ hinit) ⟨y1, y2, y3⟩ hR
        refine sE_on hold hRl hl hwr hwl (va_runSN (As := as.map (tr sb b0 ad)) hF hM ⟨hcw, hts _ hkind, trivial⟩ ⟨Pc_blind, Pc_at hbase hold hRl hKy⟩ rfl (by rw [List.length_map]; omega) hLs ?_ hW8 hd ⟨hg1, hg2⟩) K
        show stk.map (tr sb b0 ad) = _
        rw [hstk, List.map_append, List.map_reverse]
      · rw [if_neg h103] at hok
        have hspec : (decode cc pc = .ok (.invokespecial q.2.1, 3) ∧ mC k = 60 ∧ i.2.2.1.tail.headD 0 = mN k + 1) ∧ (q.2.2.2.1 = 0 ∨ q.2.2.2.1 = 1) := by
          by_cases h104 : i.1 = 104
          · rw [if_pos h104] at hok
            obtain ⟨a1, a2, a3, a4⟩ := of_decide_eq_true hok
            exact ⟨⟨a1, a3, a4⟩, Or.inl a2⟩
          · rw [if_neg h104] at hok
            by_cases h105 : i.1 = 105
            · rw [if_pos h105] at hok
              obtain ⟨a1, a2, a3, a4⟩ := of_decide_eq_true hok
              exact ⟨⟨a1, a3, a4⟩, Or.inr a2⟩
            · rw [if_neg h105] at hok; cases hok
        obtain ⟨⟨hd, hc60, hna⟩, hn01⟩ := hspec
        rw [if_neg (by omega)] at hkind
        have hret : mR k = none := y12 hc60
        have hws' : wsM k = Cond.code (mY k) (mB k) (mL k) none :: wT := by unfold wsM; rw [hret]
        cases as with
        | nil => rw [List.length_nil] at hlen; omega
        | cons a0 As =>
          unfold rcv at hrc
          rw [if_neg (by omega)] at hrc
          obtain ⟨t0, x0⟩ := a0
          have ht0 : t0 = 2 := by
            split at hrc
            · next q r hz => cases hz; rfl
            · cases hrc
          subst ht0
          have hstk' : stk.map (tr sb b0 ad) = (As.map (tr sb b0 ad)).reverse ++ .ref (ad x0.toNat) :: r.map (tr sb b0 ad) := by
            rw [hstk, List.map_append, List.map_reverse, List.map_cons, List.reverse_cons, List.append_assoc]
            rfl
          have hlenA : (As.map (tr sb b0 ad)).length = mN k := by rw [List.length_map]; rw [List.length_cons] at hlen; omega
          rcases hn01 with hn0 | hn1
          · have hlk : Cond.methodLink own q.2.1 (mY k) ∈ wT := by
              have h1 : MLp q = .methodLink own q.2.1 (mY k) := by unfold MLp; rw [if_neg (by rw [hn0]; decide), f1, ho, f2]
              rw [h1] at hq1 hq2
              exact wT_t hq1 (hq2.resolve_right (by rw [hn0]; decide))
            have hcw := cwI (R := R) (own := own) (index := q.2.1) (y := mY k) (bytes := mB k) (maxL := mL k) (mc := (mA k).1) (ms := (mA k).2) (ws := wsM k) (rm := rmD d k) (mN k) hts (wsM_in hk345) hws' rfl rfl (hts _ hinit) (hts _ hlk) (hts _ hkind) (y8 hc60) ⟨y1, y2, y3⟩ hR
            exact sE_on hold hRl hl hwr hwl (va_runI (As := As.map (tr sb b0 ad)) (b := ad x0.toNat) hF hM hcw ⟨Pc_blind, Pc_at hbase hold hRl hKy⟩ rfl hlenA hLs hstk' hW8 hd ⟨hg1, hg2⟩) K
          · have hnw : va_Nw (.methodLinkNest own q.2.1 (mY k) "PitInspector") s := by
              have := hKy.1 q hqm hn1
              unfold MLp at this
              rw [if_pos hn1, f1, ho, f2] at this
              exact this
            have hcw := va_cnB (R := R) (args := args) (own := own) (index := q.2.1) (y := mY k) (bytes := mB k) (maxL := mL k) (mc := (mA k).1) (ms := (mA k).2) (ret := none) (ws := wsM k) (rm := rmD d k) (mN k) hts (wsM_in hk345) hws' rfl rfl hnw (hts _ hinit) ⟨y1, y2, y3⟩ hR
            exact sE_on hold hRl hl hwr hwl (va_runIN (As := As.map (tr sb b0 ad)) (b := ad x0.toNat) hF hM ⟨hcw, y8 hc60, hts _ hkind⟩ ⟨Pc_blind, Pc_at hbase hold hRl hKy⟩ rfl hlenA hLs hstk' hW8 hd ⟨hg1, hg2⟩) K
end CALLS
