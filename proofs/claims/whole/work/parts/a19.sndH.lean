/-! contracts of all calls; the law from its start -/
theorem argw_len (sb b0 : Nat) (ad : Nat → Nat) : ∀ as : List AV, (lg_sl (as.map (tr sb b0 ad))).length = argw as
  | [] => rfl
  | v :: l => by
    have ih := argw_len sb b0 ad l
    unfold argw
    rw [List.map_cons]
    show (List.flatMap _ (tr sb b0 ad v :: l.map (tr sb b0 ad))).length = _
    rw [List.flatMap_cons, List.length_append]
    have e : (List.flatMap (fun v : Value => if v.category = 2 then [Slot.val v, .second] else [.val v]) (l.map (tr sb b0 ad))).length = argw l := ih
    rw [e, tr_cat]
    by_cases h : v.1 = 1
    · rw [if_pos h, if_pos rfl]; rfl
    · rw [if_neg h, if_neg (by decide)]; rfl
theorem ent_len : ∀ (n : Nat) (as : List AV), (ent n as).length = n
  | 0, _ => by unfold ent; rfl
  | n + 1, [] => by unfold ent; rw [List.length_cons, ent_len n []]
  | 1, (t, x) :: l => by
    unfold ent
    split
    · rfl
    · rw [List.length_cons, ent_len 0 l]
  | n + 2, (t, x) :: l => by
    unfold ent
    split
    · show (((t, x) : AV) :: (9, 0) :: ent n l).length = _
      rw [List.length_cons, List.length_cons, ent_len n l]
    · rw [List.length_cons, ent_len (n + 1) l]
theorem ent_wvs {k : Nat} : ∀ (n : Nat) (as : List AV), wvs k as → wvs k (ent n as)
  | 0, _, _ => by unfold ent; exact wvs_n
  | n + 1, [], h => by unfold ent; exact wvs_c.mpr ⟨wvk (by decide), ent_wvs n [] h⟩
  | 1, (t, x) :: l, h => by
    have hc := wvs_c.mp h
    unfold ent
    split
    · exact wvs_c.mpr ⟨hc.1, wvs_n⟩
    · exact wvs_c.mpr ⟨hc.1, ent_wvs 0 l hc.2⟩
  | n + 2, (t, x) :: l, h => by
    have hc := wvs_c.mp h
    unfold ent
    split
    · exact wvs_c.mpr ⟨hc.1, wvs_c.mpr ⟨wvk (by decide), ent_wvs n l hc.2⟩⟩
    · exact wvs_c.mpr ⟨hc.1, ent_wvs (n + 1) l hc.2⟩
theorem prs_ent (sb b0 : Nat) (ad : Nat → Nat) : ∀ (n k : Nat) (as : List AV) (q : Nat × Value), q ∈ prs sb b0 ad k (ent n as) → q ∈ lv_args k (as.map (tr sb b0 ad))
  | 0, _, _, q, h => by unfold ent at h; exact absurd h List.not_mem_nil
  | n + 1, k, [], q, h => by
    unfold ent prs at h
    rw [if_pos rfl] at h
    exact absurd (prs_ent sb b0 ad n (k + 1) [] q h) List.not_mem_nil
  | 1, k, (t, x) :: l, q, h => by
    have h1 : lv_args k (((t, x) :: l).map (tr sb b0 ad)) = (k, tr sb b0 ad (t, x)) :: lv_args (if (tr sb b0 ad (t, x)).category = 2 then k + 2 else k + 1) (l.map (tr sb b0 ad)) := rfl
    rw [h1]
    unfold ent prs at h
    by_cases h9 : t = 9
    · have h9' : ((t, x) : AV).1 = 9 := h9
      rw [if_pos h9', if_neg (by omega)] at h
      unfold ent at h
      exact absurd h List.not_mem_nil
    · have h9' : ¬ ((t, x) : AV).1 = 9 := h9
      rw [if_neg h9'] at h
      rcases List.mem_cons.mp h with e | h
      · rw [e]; exact List.mem_cons_self
      · exfalso
        split at h
        · exact absurd h List.not_mem_nil
        · unfold ent at h; exact absurd h List.not_mem_nil
  | n + 2, k, (t, x) :: l, q, h => by
    have h1 : lv_args k (((t, x) :: l).map (tr sb b0 ad)) = (k, tr sb b0 ad (t, x)) :: lv_args (if (tr sb b0 ad (t, x)).category = 2 then k + 2 else k + 1) (l.map (tr sb b0 ad)) := rfl
    rw [h1, tr_cat]
    unfold ent prs at h
    by_cases ht : t = 1
    · subst ht
      have e1 : (if ((1, x) : AV).1 = 1 then 2 else 1) = 2 := rfl
      rw [e1, if_pos rfl]
      have h9' : ¬ ((1, x) : AV).1 = 9 := fun e => absurd (show (1 : Nat) = 9 from e) (by decide)
      rw [if_neg h9', if_pos rfl] at h
      rcases List.mem_cons.mp h with e | h
      · rw [e]; exact List.mem_cons_self
      · have h : q ∈ prs sb b0 ad (k + 1) ((9, 0) :: ent n l) := h
        unfold prs at h
        rw [if_pos rfl] at h
        exact List.mem_cons_of_mem _ (prs_ent sb b0 ad n (k + 2) l q h)
    · have ht' : ¬ ((t, x) : AV).1 = 1 := ht
      rw [if_neg ht', if_neg (by decide)]
      rw [if_neg ht] at h
      by_cases h9 : t = 9
      · have h9' : ((t, x) : AV).1 = 9 := h9
        rw [if_pos h9'] at h
        exact List.mem_cons_of_mem _ (prs_ent sb b0 ad (n + 1) (k + 1) l q h)
      · have h9' : ¬ ((t, x) : AV).1 = 9 := h9
        rw [if_neg h9'] at h
        rcases List.mem_cons.mp h with e | h
        · rw [e]; exact List.mem_cons_self
        · exact List.mem_cons_of_mem _ (prs_ent sb b0 ad (n + 1) (k + 1) l q h)
theorem lr_ent (sb b0 : Nat) (ad : Nat → Nat) {n : Nat} {as : List AV} (h : argw as ≤ n) : lr sb b0 ad n (ent n as) ((lg_sl (as.map (tr sb b0 ad)) ++ List.replicate (n - (lg_sl (as.map (tr sb b0 ad))).length) Slot.unset).toArray) := by
  have h1 := lv_entry (as.map (tr sb b0 ad)) (n := n) (by rw [argw_len]; exact h)
  exact ⟨⟨h1.1, h1.2.1, fun q hq => h1.2.2 q (prs_ent sb b0 ad n 0 as q hq)⟩, ent_len n as⟩
/-- what a method returns, at its return -/
theorem ret_lem {rt M : Nat} {cc : ByteArray} {pc : Nat} {i : Ins} {stk : List AV} {h hh : Hp} {rr : Option AV} (hM : mT M = rt) (hok : okF rt cc pc i = true) (hr : goRet PG M i stk h = some (rr, hh)) :
    hh = h ∧ ((rt = 0 ∧ stk = [] ∧ rr = none ∧ decode cc pc = .ok (.return_, 1)) ∨ (∃ x, (rt = 1 ∨ (rt = 2 ∧ (x = 0 ∨ x = 1))) ∧ stk = [(0, x)] ∧ rr = some (0, x) ∧ decode cc pc = .ok (.ireturn, 1)) ∨ (∃ x, rt = 3 ∧ stk = [(1, x)] ∧ rr = some (1, x) ∧ decode cc pc = .ok (.lreturn, 1))) := by
  unfold okF at hok
  unfold goRet at hr
  by_cases h1 : i.1 = 110
  · rw [if_pos h1] at hok hr
    obtain ⟨hd, hrt⟩ := of_decide_eq_true hok
    split at hr
    · next x =>
      have hr : (if mT M = 2 then (if x = 0 ∨ x = 1 then some (some ((0 : Nat), x), h) else none) else some (some (0, x), h)) = some (rr, hh) := hr
      rw [hM] at hr
      by_cases h2 : rt = 2
      · rw [if_pos h2] at hr
        by_cases hx : x = 0 ∨ x = 1
        · rw [if_pos hx] at hr
          cases hr
          exact ⟨rfl, Or.inr (Or.inl ⟨x, Or.inr ⟨h2, hx⟩, rfl, rfl, hd⟩)⟩
        · rw [if_neg hx] at hr; cases hr
      · rw [if_neg h2] at hr
        cases hr
        exact ⟨rfl, Or.inr (Or.inl ⟨x, Or.inl (by omega), rfl, rfl, hd⟩)⟩
    · cases hr
  · rw [if_neg h1] at hok hr
    by_cases h2 : i.1 = 111
    · rw [if_pos h2] at hok hr
      obtain ⟨hd, hrt⟩ := of_decide_eq_true hok
      split at hr
      · next x => cases hr; exact ⟨rfl, Or.inr (Or.inr ⟨x, hrt, rfl, rfl, hd⟩)⟩
      · cases hr
    · rw [if_neg h2] at hok hr
      by_cases h3 : i.1 = 112
      · rw [if_pos h3] at hok
        obtain ⟨hd, hrt⟩ := of_decide_eq_true hok
        split at hr
        · cases hr; exact ⟨rfl, Or.inl ⟨hrt, rfl, rfl, hd⟩⟩
        · cases hr
      · rw [if_neg h3] at hok; cases hok
theorem Con_all {l : Launch} {D : va_G} {base : Nat} {H00 : Heap} {sb b0 : Nat} {av : Nat → Nat} {sc : Nat × (Nat → Int)} {xs : Nat → Int32} (hxs : ∀ j, sc.2 j = (xs j).toInt) (hb0 : b0 < base) (hL4 : sc.1 ≤ 4096) :
    ∀ (d k : Nat) (as : List AV) (h : Hp) (r : Option AV) (h' : Hp), k ≠ 345 → Call PG d k as h = some (r, h') → wh h → h.2.2.2 = sc → Con l D base H00 sb b0 av sc xs d k as h r h' := by
  intro d
  induction d with
  | zero => intro k as h r h' _ hc; cases hc
  | succ d ih =>
    intro k as h rr hh hk hc hwh hsc ad ca tys hwas haw
    have hc : Run PG (Call PG d) k 0 (ent (mL k) as) [] h (0, 0) = some (rr, hh) := hc
    obtain ⟨n, hn⟩ := Run_to hc
    obtain ⟨⟨⟨u1, u2, u3⟩, ⟨g1, g2, g3⟩, ⟨y1, y2, y3⟩, y4, y5, y6, y7, y8, y9, y10, y11, y12⟩, u0⟩ := OKW _ (mt_mem hk)
    refine Met.ofW (cc := mB k) (maxL := mL k) (ret := mR k) y4 rfl ?_
    intro p e s m args below meth c s₁ B hml hv
    obtain ⟨hargs, hWd, hKy⟩ := hv
    obtain ⟨w1, w2, w3, w4, w5, w6, w7, w8⟩ := hWd
    have hts0 := atoms_spec (ws := wsM k) B.pre
    have hts : ∀ w ∈ wT, w.before args s = true := fun w hw => hts0 w (List.mem_cons_of_mem _ hw)
    have hown : s.vm.findClass (oN (mO k)) = some m.cls := by
      have y5' : oN (mO k) = (mY k).cls := y5
      rw [y5']
      exact findClass_of_methodNamed B.named
    have hnm : meth.name = (mY k).name := (name_of_methodNamed B.named B.method).1
    have hlocks := B.notSynchronized
    have hx := B.exec
    have hb := B.bytes
    have hrt := B.returns
    rw [hargs]
    rw [hargs] at hts
    rw [lg_entry_eq]
    refine sG_run (H0 := s.heap) (R := (headSpec (wsM k) (rmD (d + 1) k)).room) (d := d) (M := k) (n0 := h.2.2.1) (ad0 := ad) (rr := rr) (hh := hh) ih hx hb hml hown hts w7 w8 hKy hxs hb0 hL4 (fun z => by rw [hnm]; exact y8 (eq_of_beq z)) (Nat.le_refl _) (by show 64 * d + 1088 ≤ 64 * (d + 1) + 1024; omega) ⟨Nat.le_refl _, Nat.le_refl _⟩ ?_ n 0 _ [] h (0, 0) hn ad ca tys s.heap [] _ ⟨fun _ _ => rfl, Nat.le_refl _⟩ ⟨w1, w2, w3, w4, va_S.rf, w5, w6⟩ (lr_ent sb b0 ad haw) wvs_n (ent_wvs _ _ hwas) ⟨Nat.zero_le _, Nat.zero_le _⟩
    intro i pc ls stk h2 gg ad2 ca2 tys2 H locs L hok hret hag hRl hws hgg
    obtain ⟨rfl, hcase⟩ := ret_lem rfl hok hret
    obtain ⟨r1, r2, r3, r4, r5, r6, r7⟩ := hRl
    have hq : ∀ (t : State), t.heap = H → s.WarmedH t.vm → QcM D base H00 sb b0 sc ad h rr hh (as.map (tr sb b0 ad)).toArray s (.returned (rr.map (tr sb b0 ad2))) t := by
      intro t ht hW
      refine ⟨ad2, ca2, tys2, hag, rfl, ⟨by rw [ht]; exact r1, r2, va_K.moved hW.alike r3, r4, r6, r7, by rw [ht]; exact Nat.le_trans w7 r5.1, fun q hq => ?_⟩, by rw [ht]; exact r5.1, fun v hv => ?_⟩
      · rw [ht, r5.2.1 q (Nat.lt_of_lt_of_le hq w7) (Nat.not_le.mpr hq)]
        exact w8 q hq
      · rcases hcase with ⟨_, e1, e2, _⟩ | ⟨x, _, e1, e2, _⟩ | ⟨x, _, e1, e2, _⟩
        · rw [e2] at hv; cases hv
        · rw [e2] at hv; cases hv
          rw [e1] at hws
          exact (wvs_c.mp hws).1
        · rw [e2] at hv; cases hv
          rw [e1] at hws
          exact (wvs_c.mp hws).1
    refine W.widen hgg.1 hgg.2 ?_
    have y11' : (mT k = 0 ∧ mR k = none) ∨ (mT k = 1 ∧ mR k = some .int) ∨ (mT k = 2 ∧ mR k = some .boolean) ∨ (mT k = 3 ∧ mR k = some .long) := y11
    rcases hcase with ⟨f1, e1, e2, hd⟩ | ⟨x, f1, e1, e2, hd⟩ | ⟨x, f1, e1, e2, hd⟩
    · subst e1; subst e2
      have hR : mR k = none := by rcases y11' with z | z | z | z <;> first | exact z.2 | omega
      exact W.vret hx hb (by rw [hrt, hR]) hq (fun q hq => r5.2.2 q hq) hd hlocks
    · subst e1; subst e2
      rcases f1 with f1 | ⟨f1, h01⟩
      · have hR : mR k = some .int := by rcases y11' with z | z | z | z <;> first | exact z.2 | omega
        exact W.iret hx hb (by rw [hrt, hR]) hq (fun q hq => r5.2.2 q hq) hd hlocks
      · have hR : mR k = some .boolean := by rcases y11' with z | z | z | z <;> first | exact z.2 | omega
        exact W.zret hx hb (by rw [hrt, hR]) (by rcases h01 with rfl | rfl <;> decide) hq (fun q hq => r5.2.2 q hq) hd hlocks
    · subst e1; subst e2
      have hR : mR k = some .long := by rcases y11' with z | z | z | z <;> first | exact z.2 | omega
      exact W.lret hx hb (by rw [hrt, hR]) hq (fun q hq => r5.2.2 q hq) hd hlocks
