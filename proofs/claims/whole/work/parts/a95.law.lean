/-! THE CLAIM OUT OF ONE WALK OF THE LAW'S BODY. Your part is whole_start (and what it stands on); all else here is the same for every law, but numbers. -/
def R_law : String := "PitInspectorLaw"
def lw_P (b : Addr) (xs : List Int32) (args : Array Value) (s : State) : Prop := args = #[.ref b] ∧ s.IntsAt b xs ∧ xs.length ≤ 4096 ∧ (Jvm.Cond.and given_1 narrow_1).before args s = true
def lw_Q (_ : Array Value) (s : State) (o : Outcome) (t : State) : Prop := o = .returned (some (.int 1)) ∧ Framed s o t [] 600000 7302249
def lw_Z (below : List Frame) (a : Array Value) (s : State) : State → Prop := fun t => ∃ o, t.status = .running ∧ Ended t below o ∧ lw_Q a s o t
/-- the law's own end, with 1 on the stack, nothing written that was there before, its room as the claim has it -/
theorem lw_ret {p : Program} {l : Launch} {e : Env} {s : State} {m : MethodId} {below : List Frame} {meth : Method} {c : Code} {b : Nat} (hx : p.tables.exec = Jvm.exec) (hb : c.code = code) (hr : meth.sig.returnType = ret) (hlocks : meth.locks = false) {pc : Nat} {H : Heap} {ls : Array Slot} (hdg : decode code pc = .ok (.ireturn, 1)) : W p l e room_1 s m #[Value.ref b] below meth c H [] 600000 7302249 (lw_Z below #[Value.ref b] s) (F0 m pc ls [.int 1]) := by
  intro T hT X
  obtain ⟨fs, hret, hrun, hended, hW, hframe⟩ := X.leave (v := some (.int 1)) (hlocks := hlocks) (fun h => by rw [hr] at h; cases h)
  have hmeth' : T.vm.method? m = some meth := X.method'
  refine ⟨T.setFrames fs, ?_, .returned (some (.int 1)), hrun, hended, rfl, ⟨_, rfl⟩, hW, hframe⟩
  jvm_step X.here [X.here.top, hx, hb, hdg, hmeth', hr, ret, narrow_b1]
  (try refine ⟨rfl, ?_⟩); (try refine ⟨rfl, ?_⟩)
  first | (intro acts; rw [hret _ acts rfl rfl rfl]) | rw [hret _ _ rfl rfl rfl]
  exact Steps.refl _
/-- what holds at the law's entry: the machine, the code, the tables' words (any of lw_tbl by 'hts w (by decide +kernel)'), the script of L ints xs at the cell b, what the Statement gives of the start (any of its parts by flat_of_before) -/
def lw_At (p : Program) (s : State) (m : MethodId) (meth : Method) (c : Code) (b L : Nat) (xs : Nat → Int32) : Prop :=
  p.tables.exec = Jvm.exec ∧ c.code = code ∧ meth.sig.returnType = ret ∧ c.maxLocals = 4 ∧ s.vm.findClass R_law = some m.cls ∧ (∀ w ∈ lw_tbl, w.before #[Value.ref b] s = true) ∧ va_X b L xs s s.heap ∧ b < s.heap.size ∧ meth.locks = false ∧ (Jvm.Cond.and given_1 narrow_1).before #[Value.ref b] s = true

theorem wh_0 (L : Nat) (f : Nat → Int) : wh ((fun _ _ => 0, fun _ _ => 0, 0, L, f) : Hp) := by
  refine ⟨fun a j => ?_, fun a j => ⟨Int.le_refl _, Int.le_refl _⟩, fun a j _ => ⟨rfl, rfl⟩⟩
  show wx (LAY a).1 0
  unfold wx
  split
  · unfold in64; omega
  · split
    · omega
    · split
      · exact Or.inl rfl
      · unfold in32; omega
set_option maxHeartbeats 4000000 in
set_option maxRecDepth 100000 in
theorem whole_start {p : Program} {e : Env} {s : State} {m : MethodId} {below : List Frame} {meth : Method} {c : Code} (l : Launch) (hflags : l.flags = flags0) {b L : Nat} {xs : Nat → Int32} (hL : L ≤ 4096) (C0 : lw_At p s m meth c b L xs) : W p l e room_1 s m #[Value.ref b] below meth c s.heap [] 0 0 (lw_Z below #[Value.ref b] s) (entryFrame m ([Value.ref b] : List Value).toArray 4) := by
  obtain ⟨hx, hb, hr, hml, hown, hts, hX, hbl, hlocks, hgv⟩ := id C0
  have htw : ∀ w ∈ wT, w.before #[Value.ref b] s = true := fun w hw => hts w (List.mem_filter.mp hw).1
  have hgf := flat_of_before _ hgv
  have htt : ∀ {i : Nat} {w : Cond}, tables_1[i]? = some w → w.before #[Value.ref b] s = true := fun h => hts _ (List.mem_append_right _ (List.mem_of_getElem? h))
  have hA : ∀ a : Nat, a < s.heap.size → ¬ s.heap.size ≤ a := fun a h => Nat.not_le.mpr h
  obtain ⟨adK, adV, hSS, hTM⟩ := vk_Sof (args := #[Value.ref b]) (s := s) (N := 1) (tm := fun _ => .string "PitInspector$Reader" 121) (len := [12]) (byt := [LETB]) (A := fun q => s.heap.size ≤ q)
    (by intro i hi; have h0 : i = 0 := by omega
        subst h0; decide)
    (fun i hi => hgf (.exactly (.string "PitInspector$Reader" 121) "java/lang/String") (by decide +kernel))
    (fun i hi => hgf (.eq (.field (.string "PitInspector$Reader" 121) "java/lang/String" "coder" "B") (.int 0)) (by decide +kernel))
    (fun i hi => hgf (.arrayOf (.field (.string "PitInspector$Reader" 121) "java/lang/String" "value" "[B") .byte) (by decide +kernel))
    (by intro i hi; have h0 : i = 0 := by omega
        subst h0; exact hgf (.eq (.length (.field (.string "PitInspector$Reader" 121) "java/lang/String" "value" "[B")) (.int 12)) (by decide +kernel))
    (by intro i hi j hj; have h0 : i = 0 := by omega
        subst h0
        have hj : j < 12 := hj
        rcases (show j = 0 ∨ j = 1 ∨ j = 2 ∨ j = 3 ∨ j = 4 ∨ j = 5 ∨ j = 6 ∨ j = 7 ∨ j = 8 ∨ j = 9 ∨ j = 10 ∨ j = 11 by omega) with rfl | rfl | rfl | rfl | rfl | rfl | rfl | rfl | rfl | rfl | rfl | rfl
        · exact hgf (.eq (.elem (.field (.string "PitInspector$Reader" 121) "java/lang/String" "value" "[B") (.int 0)) (.int 115)) (by decide +kernel)
        · exact hgf (.eq (.elem (.field (.string "PitInspector$Reader" 121) "java/lang/String" "value" "[B") (.int 1)) (.int 100)) (by decide +kernel)
        · exact hgf (.eq (.elem (.field (.string "PitInspector$Reader" 121) "java/lang/String" "value" "[B") (.int 2)) (.int 103)) (by decide +kernel)
        · exact hgf (.eq (.elem (.field (.string "PitInspector$Reader" 121) "java/lang/String" "value" "[B") (.int 3)) (.int 109)) (by decide +kernel)
        · exact hgf (.eq (.elem (.field (.string "PitInspector$Reader" 121) "java/lang/String" "value" "[B") (.int 4)) (.int 98)) (by decide +kernel)
        · exact hgf (.eq (.elem (.field (.string "PitInspector$Reader" 121) "java/lang/String" "value" "[B") (.int 5)) (.int 97)) (by decide +kernel)
        · exact hgf (.eq (.elem (.field (.string "PitInspector$Reader" 121) "java/lang/String" "value" "[B") (.int 6)) (.int 111)) (by decide +kernel)
        · exact hgf (.eq (.elem (.field (.string "PitInspector$Reader" 121) "java/lang/String" "value" "[B") (.int 7)) (.int 119)) (by decide +kernel)
        · exact hgf (.eq (.elem (.field (.string "PitInspector$Reader" 121) "java/lang/String" "value" "[B") (.int 8)) (.int 108)) (by decide +kernel)
        · exact hgf (.eq (.elem (.field (.string "PitInspector$Reader" 121) "java/lang/String" "value" "[B") (.int 9)) (.int 104)) (by decide +kernel)
        · exact hgf (.eq (.elem (.field (.string "PitInspector$Reader" 121) "java/lang/String" "value" "[B") (.int 10)) (.int 121)) (by decide +kernel)
        · exact hgf (.eq (.elem (.field (.string "PitInspector$Reader" 121) "java/lang/String" "value" "[B") (.int 11)) (.int 113)) (by decide +kernel)
    )
    (by intro i j hi hj hn; omega) hA
  have hKn : ∀ ci : Nat, ∃ q : ClassId × (Nat → Nat), ci < 13 → u_Kn s (oN ci) (cF ci) (cN ci) q.1 q.2 := by
    intro ci
    by_cases h : ci < 13
    · obtain ⟨c0, iS, hk⟩ := u_known htw (cW_all h) (htw _ (cI_all h).1)
      exact ⟨(c0, iS), fun _ => hk⟩
    · exact ⟨(0, fun _ => 0), fun h' => absurd h' h⟩
  obtain ⟨f, hf⟩ := Classical.axiomOfChoice hKn
  have hK : va_K (fun k => (f k).1, fun k => (f k).2) classes [] s := by
    refine ⟨fun k q hq => ?_, fun k q h => by simp at h⟩
    have hk : k < 13 := (List.getElem?_eq_some_iff.mp hq).1
    rw [classes_at hk] at hq
    cases hq
    exact hf k hk
  have hKy : Ky s.heap.size b (adK 0) adV s.heap (L, fun j => (xs j).toInt) xs s := by
    refine ⟨fun q hq hn => ?_, va_AO.of (htt AO_at), hX, vk_R.of (htt (i := 671) (by decide +kernel)) (hTM 0 (by decide)), ⟨fun i hi => ?_, fun i j hi hj _ => by omega⟩, va_Zof (htt (i := 685) (by decide +kernel)) (htt (i := 17) (by decide +kernel)) (va_eqt (hgf (.eq (.static "java/lang/String" "COMPACT_STRINGS" "Z") (.int 1)) (by decide +kernel))) hA⟩
    · have h1 := htt (ML_ok q hq).1.1
      refine va_Nw.of ?_ h1
      unfold MLp
      rw [if_pos hn]
      rfl
    · have h0 : i = 0 := by omega
      subst h0
      exact hSS.1 0 (by decide)
  obtain ⟨hh, hc⟩ := law_runs L xs hL
  have hc : Run PG (Call PG 300) 345 0 (ent 4 [(4, 0)]) [] ((fun _ _ => 0, fun _ _ => 0, 0, L, fun j => (xs j).toInt) : Hp) (0, 0) = some (some (0, 1), hh) := hc
  obtain ⟨n, hn⟩ := Run_to hc
  have he : ([Value.ref b] : List Value) = ([(4, 0)] : List AV).map (tr (adK 0) b (fun _ => 0)) := rfl
  rw [he, lg_entry_eq]
  have hE : enW (fun _ => 0) (fun _ => 0) ((fun _ _ => 0, fun _ _ => 0, 0, L, fun j => (xs j).toInt) : Hp) = [] := rfl
  have hRl0 : Rl (fun k => (f k).1, fun k => (f k).2) s.heap.size s.heap s (L, fun j => (xs j).toInt) (fun _ => 0) (fun _ => 0) [] ((fun _ _ => 0, fun _ _ => 0, 0, L, fun j => (xs j).toInt) : Hp) s.heap [] := by
    refine ⟨?_, ⟨?_, ?_⟩, hK, fun a ha => absurd ha (Nat.not_lt_zero _), va_S.rf, wh_0 L _, rfl⟩
    · rw [hE]; intro k q h; simp at h
    · rw [hE]; intro i j p q h; simp at h
    · rw [hE]; intro k q h; simp at h
  refine sG_run (D := (fun k => (f k).1, fun k => (f k).2)) (H0 := s.heap) (R := room_1) (d := 300) (M := 345) (n0 := 0) (ad0 := fun _ => 0) (rr := some (0, 1)) (hh := hh) (base := s.heap.size) (sc := (L, fun j => (xs j).toInt)) (xs := xs) (Con_all (fun j => rfl) hbl hL 300) hx hb hml hown htw (Nat.le_refl _) (fun q _ => rfl) hKy (fun j => rfl) hbl hL (fun z => absurd z (by decide)) (by decide) (by decide) ⟨Nat.le_of_ble_eq_true rfl, Nat.le_of_ble_eq_true rfl⟩ ?_ n 0 (ent 4 [(4, 0)]) [] _ (0, 0) hn (fun _ => 0) (fun _ => 0) [] s.heap [] _ ⟨fun _ _ => rfl, Nat.le_refl _⟩ hRl0 (lr_ent (adK 0) b (fun _ => 0) (n := 4) (as := [(4, 0)]) (by decide)) wvs_n (ent_wvs 4 [(4, 0)] (wvs_c.mpr ⟨wvk (by decide), wvs_n⟩)) ⟨Nat.zero_le _, Nat.zero_le _⟩
  intro i pc ls stk h2 gg ad2 ca2 tys2 H locs L2 hok hret hag hRl hws hgg
  obtain ⟨rfl, hcase⟩ := ret_lem (rt := mT 345) rfl hok hret
  have hT : mT 345 = 2 := rfl
  rw [hT] at hcase
  refine va_forget hRl.2.2.2.2.1.2.2 ?_
  refine W.widen (k := 600000) (n := 7302249) hgg.1 hgg.2 ?_
  rcases hcase with ⟨f1, -⟩ | ⟨x, -, e1, e2, hd⟩ | ⟨x, f1, -⟩
  · omega
  · cases e2
    subst e1
    exact lw_ret hx hb hr hlocks hd
  · omega
set_option maxHeartbeats 4000000 in
theorem lw_walk (l : Launch) (hflags : l.flags = flags0) (b : Addr) (xs : List Int32) : MetFree l x (headSpec (Jvm.Cond.code x code maxLocals ret :: tables_1) room_1) (lw_P b xs) (fun _ _ _ _ _ => True) lw_Q := by
  refine MetFree.of_bodyS (code := code) (maxLocals := maxLocals) (ret := ret) (by decide) ?_ ?_
  · intro args s m h hn
    obtain ⟨meth, c, h1, h2, h3, h4, h5, h6, -, -⟩ := Cond.code_spec hn (atoms_spec (ws := Jvm.Cond.code x code maxLocals ret :: tables_1) h _ List.mem_cons_self)
    exact ⟨meth, c, h1, h2, h3, h4, h5, h6⟩
  · intro p e s m args below meth c s₁ B hml0 hP _
    obtain ⟨rfl, hx, hbd, hgv⟩ := hP
    obtain ⟨scr, harrAt, hlist, hof, hsmall⟩ := hx
    obtain ⟨hcb, hkn, -, -⟩ := State.arrayAt?_spec harrAt
    have hown : s.vm.findClass R_law = some m.cls := findClass_of_methodNamed B.named
    have hts0 : ∀ c ∈ (Jvm.Cond.code x code maxLocals ret :: tables_1), c.before #[Value.ref b] s = true := atoms_spec (ws := Jvm.Cond.code x code maxLocals ret :: tables_1) B.pre
    have hts : ∀ w ∈ lw_tbl, w.before #[Value.ref b] s = true := k2_hts_sels lw_privs (fun w hw => hts0 w (List.mem_cons_of_mem _ hw)) lw_privs_ok
    have hml : c.maxLocals = 4 := B.maxLocals_eq (hts0 _ List.mem_cons_self)
    have X₀ : Stand p l e room_1 s m #[Value.ref b] below meth c s₁ [] 0 0 := Stand.of_body B
    have hh0 : s₁.heap = s.heap := by rw [B.state]; rfl
    have hsz : scr.slots.size = xs.length := by rw [← Array.length_toList, hlist, List.length_map]
    have hval : ∀ j : Nat, j < xs.length → scr.slots[j]? = some (.int (xs.getD j 0)) := fun j hj => by
      rw [← Array.getElem?_toList, hlist]
      simp [hj]
    have hbl : b < s.heap.size := (Array.getElem?_eq_some_iff.mp hcb).1
    have hX : va_X b xs.length (fun j => xs.getD j 0) s s.heap := ⟨scr, hcb, hof, hkn, hsz, hval⟩
    have K : W p l e room_1 s m #[Value.ref b] below meth c s₁.heap [] 0 0 (lw_Z below #[Value.ref b] s) (entryFrame m ([Value.ref b] : List Value).toArray 4) := by
      rw [hh0]
      exact whole_start l hflags hbd ⟨B.exec, B.bytes, B.returns, hml, hown, hts, hX, hbl, B.notSynchronized, hgv⟩
    obtain ⟨t, a1, o, b1, b2, b3⟩ := K s₁ rfl X₀
    exact ⟨t, o, a1, b1, b2, b3⟩
theorem lw_pre_spec {args : Array Value} {s : State} (h : (Jvm.Cond.and given_1 narrow_1).before args s = true) (hr : rest_1_c.before args s = true) : ∃ (b : Addr) (xs : List Int32), lw_P b xs args s := by
  have hs := flat_of_before _ h
  have hq := flat_of_before _ hr
  have hc : (Cond.count 1).before args s = true := hs _ (by decide +kernel)
  have harr : (Cond.arrayOf (.arg 0) .int).before args s = true := hs _ (by decide +kernel)
  have hle : (Cond.le (.length (.arg 0)) (.int 4096)).before args s = true := hs _ (by decide +kernel)
  have hlen : (Cond.isInt (.length (.arg 0))).before args s = true := hq _ (by decide +kernel)
  have hall : (Cond.all (.arg 0) (.isInt (.elem (.arg 0) (.index 0)))).before args s = true := hq _ (by decide +kernel)
  obtain ⟨b, xs, hb, hx⟩ := State.ints_of_pre rfl harr hlen hall
  have hsm : xs.length < 2 ^ 31 := hx.choose_spec.2.2.2
  have hev : (Term.length (.arg 0)).eval args s none [] s = some (.int xs.length.toInt32) := hx.length_eval hb
  have hv := Cond.le_ints hev (show (Term.int 4096).eval args s none [] s = some (.int 4096) from rfl)
  have hd : xs.length.toInt32 ≤ 4096 := by
    simpa [Cond.before, Cond.holds, hv] using hle
  have hN : xs.length ≤ 4096 := (Int32.ofNat_le_ofNat hsm (by decide)).mp (show Int32.ofNat xs.length ≤ Int32.ofNat 4096 from hd)
  exact ⟨b, xs, Cond.one_arg hc (show args[0]? = some (.ref b) from hb), hx, hN, h⟩
theorem lw_comes (l : Launch) (hflags : l.flags = flags0) : Comes l x (Jvm.Cond.code x code maxLocals ret :: tables_1) room_1 (fun tb e args s => Calls_1 tb e args s ∧ rest_1 tb e args s ∧ Pre_1 tb e args s)
    (fun _ _ args s o t => lw_Q args s o t) := by
  intro p e ha hc hk s m args below hf hfit hheap happ hpre
  obtain ⟨b, xs, hP⟩ := lw_pre_spec hpre.2.2 hpre.2.1
  obtain ⟨k, o, h1, h2, h3, hQ⟩ := lw_walk l hflags b xs p e ha hc hk s m args below hf ((Spec.applies_iff_loose hf).mp happ).1 hP trivial
  exact ⟨k, o, h1, h2, h3, hQ⟩
theorem lw_frame {s t : State} {o : Outcome} {args : Array Value} (h : Framed s o t [] 600000 7302249) :
    Framed s o t (fieldLocs frame_1_writes args s ++ arrayLocs frame_1_arrays args s ++ staticLocs frame_1_statics s) 600000 7302249 := h
theorem lw_limb (L : Cond) (hL : ∀ (args : Array Value) (s t : State), L.after args s (.returned (some (.int 1))) t = true) :
    ArmFor flags0 classFile x code maxLocals ret World_1 tables_1 room_1 Calls_1 rest_1 Pre_1
      (fun tb e a s o t => postC L tb e a s o t ∧ Framed s o t (fieldLocs frame_1_writes a s ++ arrayLocs frame_1_arrays a s ++ staticLocs frame_1_statics s) 600000 7302249) := by
  intro l hflags _ _ p e ha hc hk s m args below hf hfit hheap happ hpre
  obtain ⟨k, o, h1, h2, h3, rfl, hF⟩ := lw_comes l hflags p e ha hc hk s m args below hf hfit hheap happ hpre
  exact ⟨k, _, h1, h2, h3, hL args s _, lw_frame hF⟩
theorem i_vc : Claimed_1_1 ∧ Claimed_1_2 := ⟨lw_limb limb_1_1 (fun args s t => by simp [limb_1_1, Cond.after, Cond.holds, Cond.value]), lw_limb limb_1_2 (fun args s t => Cond.after_iff.mpr (by
  first | (rw [show limb_1_2 = Cond.eq .result (.int 1) from rfl, Cond.eq_ints (x := 1) (y := 1) rfl rfl]; simp; done) | (simp [limb_1_2, Cond.value, Term.eval]; done)))⟩
