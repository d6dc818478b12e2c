section SNDD
variable {p : Program} {l : Launch} {e : Env} {R : Room} {s : State} {m : MethodId} {args : Array Value} {below : List Frame} {meth : Method} {c : Code} {H H0 : Heap} {locs : List Loc} {Q : State → Prop} {cc : ByteArray} {own : String} {nL : Nat} {sb b0 base : Nat} {ad : Nat → Nat} {ca : Nat → ClassId} {tys : List (ClassId × FieldType)} {D : va_G} {sc : Nat × (Nat → Int)} {o : Nat} {ini : Bool} {al : GG}
variable {op nx : Nat} {ns : List Nat} {vs : List Int} {ls stk ls' stk' : List AV} {h h' : Hp} {gg gg' : GG} {pc pc' : Nat} {L : Array Slot}

theorem LAY_len (a : Nat) : (LAY a).2 ≤ 5000 := by
  have h1 : ∀ q ∈ L0, q.2 ≤ 5000 := by decide +kernel
  have h2 : ∀ q ∈ TL, q.2 ≤ 5000 := by decide +kernel
  unfold LAY
  by_cases h : a < 163
  · rw [if_pos h]; exact h1 _ (getD_mem (by show a < 163; exact h))
  · rw [if_neg h]; exact h2 _ (getD_mem (by show _ < 10; omega))
theorem nI_I3 (n : Nat) : nI n = I3 n := by
  show Int32.ofNat n = Int32.ofInt (n : Int)
  exact (Int32.ofInt_eq_ofNat).symm
theorem wh_up {h : Hp} {a j : Nat} {x : Int} (hw : wh h) (ha : a < h.2.2.1) (hx : wx (LAY a).1 x) : wh (up2 h.1 a j x, h.2) := by
  refine ⟨fun b k => ?_, hw.2.1, fun b k hb => ⟨?_, (hw.2.2 b k hb).2⟩⟩
  · show wx _ (up2 h.1 a j x b k)
    unfold up2
    split
    · next q => rw [q.1]; exact hx
    · exact hw.1 b k
  · have hb : h.2.2.1 ≤ b := hb
    show up2 h.1 a j x b k = 0
    unfold up2
    rw [if_neg (fun q => by omega)]
    exact (hw.2.2 b k hb).1
theorem wh_upR {h : Hp} {a j : Nat} {x : Int} (hw : wh h) (ha : a < h.2.2.1) (h0 : 0 ≤ x) (hx : x ≤ h.2.2.1) : wh (h.1, up2 h.2.1 a j x, h.2.2) := by
  refine ⟨hw.1, fun b k => ?_, fun b k hb => ⟨(hw.2.2 b k hb).1, ?_⟩⟩
  · show 0 ≤ up2 h.2.1 a j x b k ∧ up2 h.2.1 a j x b k ≤ _
    unfold up2
    split
    · exact ⟨h0, hx⟩
    · exact hw.2.1 b k
  · have hb : h.2.2.1 ≤ b := hb
    show up2 h.2.1 a j x b k = 0
    unfold up2
    rw [if_neg (fun q => by omega)]
    exact (hw.2.2 b k hb).2
theorem wh_new {h : Hp} (hw : wh h) : wh (h.1, h.2.1, h.2.2.1 + 1, h.2.2.2) := by
  refine ⟨hw.1, fun b k => ?_, fun b k hb => hw.2.2 b k ?_⟩
  · have := hw.2.1 b k
    show 0 ≤ h.2.1 b k ∧ h.2.1 b k ≤ ((h.2.2.1 + 1 : Nat) : Int)
    omega
  · have hb : h.2.2.1 + 1 ≤ b := hb
    omega
theorem sD_90 (hx : p.tables.exec = Jvm.exec) (hb : c.code = cc) (hown : s.vm.findClass own = some m.cls) (ho : oN o = own) (hts : ∀ w ∈ wT, w.before args s = true) (hbase : base ≤ H0.size) (hRl : Rl D base H0 s sc ad ca tys h H locs) (hl : lr sb b0 ad nL ls L) (hws : wvs h.2.2.1 stk) (hwl : wvs h.2.2.1 ls)  (hok : okD o ini cc pc (90, nx, ns, vs) = true) (he : effD LAY al (90, nx, ns, vs) ls stk h gg = some (pc', ls', stk', h', gg')) (K : ∀ (ad' : Nat → Nat) (ca' : Nat → ClassId) (tys' : List (ClassId × FieldType)) (H' : Heap) (locs' : List Loc), ((∀ a, a < h.2.2.1 → ad' a = ad a) ∧ h.2.2.1 ≤ h'.2.2.1) → Rl D base H0 s sc ad' ca' tys' h' H' locs' → wvs h'.2.2.1 stk' → wvs h'.2.2.1 ls' → lr sb b0 ad' nL ls' L → W p l e R s m args below meth c H' locs' gg'.1 gg'.2 Q (F0 m pc' L (stk'.map (tr sb b0 ad')))) : W p l e R s m args below meth c H locs gg.1 gg.2 Q (F0 m pc L (stk.map (tr sb b0 ad))) := by
  obtain ⟨hP, hD, hK, hT, hS, hwh, hsc⟩ := hRl
  replace he : (match (generalizing := false) stk with | (2, q) :: r => if (LAY q.toNat).1 = ns.headD 0 then some (nx, ls, (0, h.1 q.toNat (ns.tail.headD 0)) :: r, h, gg) else none | _ => none) = some (pc', ls', stk', h', gg') := he
  obtain ⟨rfl, hlt, hd, f1, f2, f3, hft⟩ := of_decide_eq_true (p := nx = pc + 3 ∧ ns.tail.tail.headD 0 < FT.length ∧ decode cc pc = .ok (.getfield (FT.getD (ns.tail.tail.headD 0) (0, 0, 0, 0, 0)).2.1, 3) ∧ (FT.getD (ns.tail.tail.headD 0) (0, 0, 0, 0, 0)).1 = o ∧ (FT.getD (ns.tail.tail.headD 0) (0, 0, 0, 0, 0)).2.2.1 = ns.headD 0 ∧ (FT.getD (ns.tail.tail.headD 0) (0, 0, 0, 0, 0)).2.2.2.1 = ns.tail.headD 0 ∧ FTY (ns.headD 0) (ns.tail.headD 0) ≠ 1) hok
  have hq := FT_ok _ (getD_mem (d := (0, 0, 0, 0, 0)) hlt)
  obtain ⟨⟨hq1, hq2⟩, hq3, hq4⟩ := hq
  have hlk := hts _ (wT_t hq1 hq2)
  unfold FTp at hlk
  rw [f1, ho, f2, f3] at hlk
  rw [f2] at hq3 hq4
  rw [f3] at hq4
  generalize ns.headD 0 = ci at *
  generalize ns.tail.headD 0 = k at *
  have hci : ci < 13 := hq3
  have hcY := cY_all hci k hq4
  have hsame : ∀ x, s.fieldFound? (cF ci k).1 (cF ci k).2.1 (cF ci k).2.2.1 = some x → s.fieldFound? (oN ci) (cF ci k).2.1 (cF ci k).2.2.1 = some x := fun x hx => by rw [hcY.2] at hx; exact hx
  split at he
  · next q r =>
    by_cases hc : (LAY q.toNat).1 = ci
    · rw [if_pos hc] at he
      simp only [Option.some.injEq, Prod.mk.injEq] at he; obtain ⟨rfl, rfl, rfl, rfl, rfl⟩ := he
      have hw := wvs_c.mp hws
      have hqn := hw.1.2.2 rfl
      have hql : q.toNat < h.2.2.1 := by omega
      have hat : (enW ad ca h)[q.toNat]? = some (ad q.toNat, .inr (ci, enO ad ci h q.toNat)) := by rw [enW_at hql, enC_obj hc (by omega)]
      have hv : (enO ad ci h q.toNat)[k]? = some (.int (I3 (h.1 q.toNat k))) := by rw [enO_at hq4]; unfold fv; rw [if_neg hft]
      exact va_get hx hb hts (cW_all hci) hown hK hP q.toNat hat (classes_at hci) k hq4 hlk hsame hv hd (K ad ca tys H locs ⟨fun _ _ => rfl, Nat.le_refl _⟩ ⟨hP, hD, hK, hT, hS, hwh, hsc⟩ (wvs_c.mpr ⟨wv0 (wx_32 (hwh.1 _ _) (by omega)), hw.2⟩) hwl hl)
    · rw [if_neg hc] at he; cases he
  · cases he
theorem sD_91 (hx : p.tables.exec = Jvm.exec) (hb : c.code = cc) (hown : s.vm.findClass own = some m.cls) (ho : oN o = own) (hts : ∀ w ∈ wT, w.before args s = true) (hbase : base ≤ H0.size) (hRl : Rl D base H0 s sc ad ca tys h H locs) (hl : lr sb b0 ad nL ls L) (hws : wvs h.2.2.1 stk) (hwl : wvs h.2.2.1 ls)  (hok : okD o ini cc pc (91, nx, ns, vs) = true) (he : effD LAY al (91, nx, ns, vs) ls stk h gg = some (pc', ls', stk', h', gg')) (K : ∀ (ad' : Nat → Nat) (ca' : Nat → ClassId) (tys' : List (ClassId × FieldType)) (H' : Heap) (locs' : List Loc), ((∀ a, a < h.2.2.1 → ad' a = ad a) ∧ h.2.2.1 ≤ h'.2.2.1) → Rl D base H0 s sc ad' ca' tys' h' H' locs' → wvs h'.2.2.1 stk' → wvs h'.2.2.1 ls' → lr sb b0 ad' nL ls' L → W p l e R s m args below meth c H' locs' gg'.1 gg'.2 Q (F0 m pc' L (stk'.map (tr sb b0 ad')))) : W p l e R s m args below meth c H locs gg.1 gg.2 Q (F0 m pc L (stk.map (tr sb b0 ad))) := by
  obtain ⟨hP, hD, hK, hT, hS, hwh, hsc⟩ := hRl
  replace he : (match (generalizing := false) stk with | (2, q) :: r => if (LAY q.toNat).1 = ns.headD 0 then some (nx, ls, rv (h.2.1 q.toNat (ns.tail.headD 0)) :: r, h, gg) else none | _ => none) = some (pc', ls', stk', h', gg') := he
  obtain ⟨rfl, hlt, hd, f1, f2, f3, hft⟩ := of_decide_eq_true (p := nx = pc + 3 ∧ ns.tail.tail.headD 0 < FT.length ∧ decode cc pc = .ok (.getfield (FT.getD (ns.tail.tail.headD 0) (0, 0, 0, 0, 0)).2.1, 3) ∧ (FT.getD (ns.tail.tail.headD 0) (0, 0, 0, 0, 0)).1 = o ∧ (FT.getD (ns.tail.tail.headD 0) (0, 0, 0, 0, 0)).2.2.1 = ns.headD 0 ∧ (FT.getD (ns.tail.tail.headD 0) (0, 0, 0, 0, 0)).2.2.2.1 = ns.tail.headD 0 ∧ FTY (ns.headD 0) (ns.tail.headD 0) = 1) hok
  have hq := FT_ok _ (getD_mem (d := (0, 0, 0, 0, 0)) hlt)
  obtain ⟨⟨hq1, hq2⟩, hq3, hq4⟩ := hq
  have hlk := hts _ (wT_t hq1 hq2)
  unfold FTp at hlk
  rw [f1, ho, f2, f3] at hlk
  rw [f2] at hq3 hq4
  rw [f3] at hq4
  generalize ns.headD 0 = ci at *
  generalize ns.tail.headD 0 = k at *
  have hci : ci < 13 := hq3
  have hcY := cY_all hci k hq4
  have hsame : ∀ x, s.fieldFound? (cF ci k).1 (cF ci k).2.1 (cF ci k).2.2.1 = some x → s.fieldFound? (oN ci) (cF ci k).2.1 (cF ci k).2.2.1 = some x := fun x hx => by rw [hcY.2] at hx; exact hx
  split at he
  · next q r =>
    by_cases hc : (LAY q.toNat).1 = ci
    · rw [if_pos hc] at he
      simp only [Option.some.injEq, Prod.mk.injEq] at he; obtain ⟨rfl, rfl, rfl, rfl, rfl⟩ := he
      have hw := wvs_c.mp hws
      have hqn := hw.1.2.2 rfl
      have hql : q.toNat < h.2.2.1 := by omega
      have hat : (enW ad ca h)[q.toNat]? = some (ad q.toNat, .inr (ci, enO ad ci h q.toNat)) := by rw [enW_at hql, enC_obj hc (by omega)]
      have hr := hwh.2.1 q.toNat k
      rw [rv_eq hr.1] at K
      have hv : (enO ad ci h q.toNat)[k]? = some (tr sb b0 ad (if h.2.1 q.toNat k = 0 then (3, 0) else (2, h.2.1 q.toNat k - 1))) := by
        rw [enO_at hq4]; unfold fv; rw [if_pos hft]
        by_cases hz : h.2.1 q.toNat k = 0
        · rw [if_pos hz, if_pos hz]; rfl
        · rw [if_neg hz, if_neg hz]; rfl
      exact va_get hx hb hts (cW_all hci) hown hK hP q.toNat hat (classes_at hci) k hq4 hlk hsame hv hd (K ad ca tys H locs ⟨fun _ _ => rfl, Nat.le_refl _⟩ ⟨hP, hD, hK, hT, hS, hwh, hsc⟩ (wvs_c.mpr ⟨by
        by_cases hz : h.2.1 q.toNat k = 0
        · rw [if_pos hz]; exact wvk (by decide)
        · rw [if_neg hz]; exact wv2 (by omega) (by omega), hw.2⟩) hwl hl)
    · rw [if_neg hc] at he; cases he
  · cases he
theorem sD_92 (hx : p.tables.exec = Jvm.exec) (hb : c.code = cc) (hown : s.vm.findClass own = some m.cls) (ho : oN o = own) (hts : ∀ w ∈ wT, w.before args s = true) (hbase : base ≤ H0.size) (hRl : Rl D base H0 s sc ad ca tys h H locs) (hl : lr sb b0 ad nL ls L) (hws : wvs h.2.2.1 stk) (hwl : wvs h.2.2.1 ls)  (hok : okD o ini cc pc (92, nx, ns, vs) = true) (he : effD LAY al (92, nx, ns, vs) ls stk h gg = some (pc', ls', stk', h', gg')) (K : ∀ (ad' : Nat → Nat) (ca' : Nat → ClassId) (tys' : List (ClassId × FieldType)) (H' : Heap) (locs' : List Loc), ((∀ a, a < h.2.2.1 → ad' a = ad a) ∧ h.2.2.1 ≤ h'.2.2.1) → Rl D base H0 s sc ad' ca' tys' h' H' locs' → wvs h'.2.2.1 stk' → wvs h'.2.2.1 ls' → lr sb b0 ad' nL ls' L → W p l e R s m args below meth c H' locs' gg'.1 gg'.2 Q (F0 m pc' L (stk'.map (tr sb b0 ad')))) : W p l e R s m args below meth c H locs gg.1 gg.2 Q (F0 m pc L (stk.map (tr sb b0 ad))) := by
  obtain ⟨hP, hD, hK, hT, hS, hwh, hsc⟩ := hRl
  replace he : (match (generalizing := false) stk with | (0, v) :: (2, q) :: r => if (LAY q.toNat).1 = ns.headD 0 then some (nx, ls, r, (up2 h.1 q.toNat (ns.tail.headD 0) v, h.2), gg) else none | _ => none) = some (pc', ls', stk', h', gg') := he
  obtain ⟨rfl, hlt, hd, f1, f2, f3, hft, hfin⟩ := of_decide_eq_true (p := nx = pc + 3 ∧ ns.tail.tail.headD 0 < FT.length ∧ decode cc pc = .ok (.putfield (FT.getD (ns.tail.tail.headD 0) (0, 0, 0, 0, 0)).2.1, 3) ∧ (FT.getD (ns.tail.tail.headD 0) (0, 0, 0, 0, 0)).1 = o ∧ (FT.getD (ns.tail.tail.headD 0) (0, 0, 0, 0, 0)).2.2.1 = ns.headD 0 ∧ (FT.getD (ns.tail.tail.headD 0) (0, 0, 0, 0, 0)).2.2.2.1 = ns.tail.headD 0 ∧ FTY (ns.headD 0) (ns.tail.headD 0) = 0 ∧ (cF (ns.headD 0) (ns.tail.headD 0)).2.2.2 = false) hok
  have hq := FT_ok _ (getD_mem (d := (0, 0, 0, 0, 0)) hlt)
  obtain ⟨⟨hq1, hq2⟩, hq3, hq4⟩ := hq
  have hlk := hts _ (wT_t hq1 hq2)
  unfold FTp at hlk
  rw [f1, ho, f2, f3] at hlk
  rw [f2] at hq3 hq4
  rw [f3] at hq4
  generalize ns.headD 0 = ci at *
  generalize ns.tail.headD 0 = k at *
  have hci : ci < 13 := hq3
  have hcY := cY_all hci k hq4
  have hsame : ∀ x, s.fieldFound? (cF ci k).1 (cF ci k).2.1 (cF ci k).2.2.1 = some x → s.fieldFound? (oN ci) (cF ci k).2.1 (cF ci k).2.2.1 = some x := fun x hx => by rw [hcY.2] at hx; exact hx
  split at he
  · next v q r =>
    by_cases hc : (LAY q.toNat).1 = ci
    · rw [if_pos hc] at he
      simp only [Option.some.injEq, Prod.mk.injEq] at he; obtain ⟨rfl, rfl, rfl, rfl, rfl⟩ := he
      have hw := wvs_c.mp hws
      have hw2 := wvs_c.mp hw.2
      have hv := hw.1.1 rfl
      have hqn := hw2.1.2.2 rfl
      have hql : q.toNat < h.2.2.1 := by omega
      have hat : (enW ad ca h)[q.toNat]? = some (ad q.toNat, .inr (ci, enO ad ci h q.toNat)) := by rw [enW_at hql, enC_obj hc (by omega)]
      have hset : (enW ad ca h).set q.toNat (ad q.toNat, .inr (ci, (enO ad ci h q.toNat).set k (.int (I3 v)))) = enW ad ca (up2 h.1 q.toNat k v, h.2) := by
        refine enW_set rfl ?_ (fun b hb => ⟨up2_row hb, rfl⟩)
        rw [enC_obj hc (by omega), enO_set (h' := (up2 h.1 q.toNat k v, h.2)) hq4 (v := .int (I3 v)) (by unfold fv; rw [if_neg (by omega)]; show Value.int (I3 (up2 h.1 q.toNat k v q.toNat k)) = _; rw [up2_same]) (fun j hj => ⟨up2_place hj, rfl⟩)]
      have hty := (cQ hci k hq4).1 hft
      have hnr : narrow (cT ci k) (.int (I3 v)) = .int (I3 v) := by rw [hty]; rfl
      have hfi : fits (cT ci k) (.int (I3 v)) = true := by rw [hty]; rfl
      refine va_put hx hb hts (cW_all hci) (cT ci) (fun k hk => (cY_all hci k hk).1) (cM_all hci) hown hK hP hD hS q.toNat hat (classes_at hci) k hq4 hlk hsame hfin hcY.1 hnr hfi (by rw [enO_len]; exact hq4) hd (fun H1 locs1 hP1 hD1 hS1 => ?_)
      rw [show tr sb b0 ad (0, v) = Value.int (I3 v) from rfl, hset] at hP1 hD1
      exact K ad ca tys H1 locs1 ⟨fun _ _ => rfl, Nat.le_refl _⟩ ⟨hP1, hD1, hK, hT, hS1, wh_up hwh hql (wx_of32 hv (by omega) (by omega) (by omega)), hsc⟩ hw2.2 hwl hl
    · rw [if_neg hc] at he; cases he
  · cases he
theorem sD_94 (hx : p.tables.exec = Jvm.exec) (hb : c.code = cc) (hown : s.vm.findClass own = some m.cls) (ho : oN o = own) (hts : ∀ w ∈ wT, w.before args s = true) (hbase : base ≤ H0.size) (hRl : Rl D base H0 s sc ad ca tys h H locs) (hl : lr sb b0 ad nL ls L) (hws : wvs h.2.2.1 stk) (hwl : wvs h.2.2.1 ls)  (hok : okD o ini cc pc (94, nx, ns, vs) = true) (he : effD LAY al (94, nx, ns, vs) ls stk h gg = some (pc', ls', stk', h', gg')) (K : ∀ (ad' : Nat → Nat) (ca' : Nat → ClassId) (tys' : List (ClassId × FieldType)) (H' : Heap) (locs' : List Loc), ((∀ a, a < h.2.2.1 → ad' a = ad a) ∧ h.2.2.1 ≤ h'.2.2.1) → Rl D base H0 s sc ad' ca' tys' h' H' locs' → wvs h'.2.2.1 stk' → wvs h'.2.2.1 ls' → lr sb b0 ad' nL ls' L → W p l e R s m args below meth c H' locs' gg'.1 gg'.2 Q (F0 m pc' L (stk'.map (tr sb b0 ad')))) : W p l e R s m args below meth c H locs gg.1 gg.2 Q (F0 m pc L (stk.map (tr sb b0 ad))) := by
  obtain ⟨hP, hD, hK, hT, hS, hwh, hsc⟩ := hRl
  replace he : (match (generalizing := false) stk with | (0, v) :: (2, q) :: r => if (LAY q.toNat).1 = ns.headD 0 ∧ (v = 0 ∨ v = 1) then some (nx, ls, r, (up2 h.1 q.toNat (ns.tail.headD 0) v, h.2), gg) else none | _ => none) = some (pc', ls', stk', h', gg') := he
  obtain ⟨rfl, hlt, hd, f1, f2, f3, hft, hfin⟩ := of_decide_eq_true (p := nx = pc + 3 ∧ ns.tail.tail.headD 0 < FT.length ∧ decode cc pc = .ok (.putfield (FT.getD (ns.tail.tail.headD 0) (0, 0, 0, 0, 0)).2.1, 3) ∧ (FT.getD (ns.tail.tail.headD 0) (0, 0, 0, 0, 0)).1 = o ∧ (FT.getD (ns.tail.tail.headD 0) (0, 0, 0, 0, 0)).2.2.1 = ns.headD 0 ∧ (FT.getD (ns.tail.tail.headD 0) (0, 0, 0, 0, 0)).2.2.2.1 = ns.tail.headD 0 ∧ FTY (ns.headD 0) (ns.tail.headD 0) = 2 ∧ (cF (ns.headD 0) (ns.tail.headD 0)).2.2.2 = false) hok
  have hq := FT_ok _ (getD_mem (d := (0, 0, 0, 0, 0)) hlt)
  obtain ⟨⟨hq1, hq2⟩, hq3, hq4⟩ := hq
  have hlk := hts _ (wT_t hq1 hq2)
  unfold FTp at hlk
  rw [f1, ho, f2, f3] at hlk
  rw [f2] at hq3 hq4
  rw [f3] at hq4
  generalize ns.headD 0 = ci at *
  generalize ns.tail.headD 0 = k at *
  have hci : ci < 13 := hq3
  have hcY := cY_all hci k hq4
  have hsame : ∀ x, s.fieldFound? (cF ci k).1 (cF ci k).2.1 (cF ci k).2.2.1 = some x → s.fieldFound? (oN ci) (cF ci k).2.1 (cF ci k).2.2.1 = some x := fun x hx => by rw [hcY.2] at hx; exact hx
  split at he
  · next v q r =>
    by_cases hc : (LAY q.toNat).1 = ci ∧ (v = 0 ∨ v = 1)
    · rw [if_pos hc] at he
      simp only [Option.some.injEq, Prod.mk.injEq] at he; obtain ⟨rfl, rfl, rfl, rfl, rfl⟩ := he
      have hw := wvs_c.mp hws
      have hw2 := wvs_c.mp hw.2
      have hv := hw.1.1 rfl
      obtain ⟨hc, hv01⟩ := hc
      have hqn := hw2.1.2.2 rfl
      have hql : q.toNat < h.2.2.1 := by omega
      have hat : (enW ad ca h)[q.toNat]? = some (ad q.toNat, .inr (ci, enO ad ci h q.toNat)) := by rw [enW_at hql, enC_obj hc (by omega)]
      have hset : (enW ad ca h).set q.toNat (ad q.toNat, .inr (ci, (enO ad ci h q.toNat).set k (.int (I3 v)))) = enW ad ca (up2 h.1 q.toNat k v, h.2) := by
        refine enW_set rfl ?_ (fun b hb => ⟨up2_row hb, rfl⟩)
        rw [enC_obj hc (by omega), enO_set (h' := (up2 h.1 q.toNat k v, h.2)) hq4 (v := .int (I3 v)) (by unfold fv; rw [if_neg (by omega)]; show Value.int (I3 (up2 h.1 q.toNat k v q.toNat k)) = _; rw [up2_same]) (fun j hj => ⟨up2_place hj, rfl⟩)]
      have hty := (cQ hci k hq4).2.1 hft
      have hnr : narrow (cT ci k) (.int (I3 v)) = .int (I3 v) := by rw [hty]; rcases hv01 with rfl | rfl <;> decide
      have hfi : fits (cT ci k) (.int (I3 v)) = true := by rw [hty]; rcases hv01 with rfl | rfl <;> decide
      refine va_put hx hb hts (cW_all hci) (cT ci) (fun k hk => (cY_all hci k hk).1) (cM_all hci) hown hK hP hD hS q.toNat hat (classes_at hci) k hq4 hlk hsame hfin hcY.1 hnr hfi (by rw [enO_len]; exact hq4) hd (fun H1 locs1 hP1 hD1 hS1 => ?_)
      rw [show tr sb b0 ad (0, v) = Value.int (I3 v) from rfl, hset] at hP1 hD1
      exact K ad ca tys H1 locs1 ⟨fun _ _ => rfl, Nat.le_refl _⟩ ⟨hP1, hD1, hK, hT, hS1, wh_up hwh hql (wx_of32 hv (by omega) (by omega) (by omega)), hsc⟩ hw2.2 hwl hl
    · rw [if_neg hc] at he; cases he
  · cases he
theorem sD_93 (hx : p.tables.exec = Jvm.exec) (hb : c.code = cc) (hown : s.vm.findClass own = some m.cls) (ho : oN o = own) (hts : ∀ w ∈ wT, w.before args s = true) (hbase : base ≤ H0.size) (hRl : Rl D base H0 s sc ad ca tys h H locs) (hl : lr sb b0 ad nL ls L) (hws : wvs h.2.2.1 stk) (hwl : wvs h.2.2.1 ls) (hin : ini = true → meth.name = "<init>") (hok : okD o ini cc pc (93, nx, ns, vs) = true) (he : effD LAY al (93, nx, ns, vs) ls stk h gg = some (pc', ls', stk', h', gg')) (K : ∀ (ad' : Nat → Nat) (ca' : Nat → ClassId) (tys' : List (ClassId × FieldType)) (H' : Heap) (locs' : List Loc), ((∀ a, a < h.2.2.1 → ad' a = ad a) ∧ h.2.2.1 ≤ h'.2.2.1) → Rl D base H0 s sc ad' ca' tys' h' H' locs' → wvs h'.2.2.1 stk' → wvs h'.2.2.1 ls' → lr sb b0 ad' nL ls' L → W p l e R s m args below meth c H' locs' gg'.1 gg'.2 Q (F0 m pc' L (stk'.map (tr sb b0 ad')))) : W p l e R s m args below meth c H locs gg.1 gg.2 Q (F0 m pc L (stk.map (tr sb b0 ad))) := by
  obtain ⟨hP, hD, hK, hT, hS, hwh, hsc⟩ := hRl
  replace he : (match (generalizing := false) stk with | (2, v) :: (2, q) :: r => if (LAY q.toNat).1 = ns.headD 0 then some (nx, ls, r, (h.1, up2 h.2.1 q.toNat (ns.tail.headD 0) (v + 1), h.2.2), gg) else none | _ => none) = some (pc', ls', stk', h', gg') := he
  obtain ⟨rfl, hlt, hd, f1, f2, f3, hft, hfin⟩ := of_decide_eq_true (p := nx = pc + 3 ∧ ns.tail.tail.headD 0 < FT.length ∧ decode cc pc = .ok (.putfield (FT.getD (ns.tail.tail.headD 0) (0, 0, 0, 0, 0)).2.1, 3) ∧ (FT.getD (ns.tail.tail.headD 0) (0, 0, 0, 0, 0)).1 = o ∧ (FT.getD (ns.tail.tail.headD 0) (0, 0, 0, 0, 0)).2.2.1 = ns.headD 0 ∧ (FT.getD (ns.tail.tail.headD 0) (0, 0, 0, 0, 0)).2.2.2.1 = ns.tail.headD 0 ∧ FTY (ns.headD 0) (ns.tail.headD 0) = 1 ∧ ((cF (ns.headD 0) (ns.tail.headD 0)).2.2.2 = false ∨ (ini = true ∧ ns.headD 0 = o))) hok
  have hq := FT_ok _ (getD_mem (d := (0, 0, 0, 0, 0)) hlt)
  obtain ⟨⟨hq1, hq2⟩, hq3, hq4⟩ := hq
  have hlk := hts _ (wT_t hq1 hq2)
  unfold FTp at hlk
  rw [f1, ho, f2, f3] at hlk
  rw [f2] at hq3 hq4
  rw [f3] at hq4
  generalize ns.headD 0 = ci at *
  generalize ns.tail.headD 0 = k at *
  have hci : ci < 13 := hq3
  have hcY := cY_all hci k hq4
  have hsame : ∀ x, s.fieldFound? (cF ci k).1 (cF ci k).2.1 (cF ci k).2.2.1 = some x → s.fieldFound? (oN ci) (cF ci k).2.1 (cF ci k).2.2.1 = some x := fun x hx => by rw [hcY.2] at hx; exact hx
  split at he
  · next v q r =>
    by_cases hc : (LAY q.toNat).1 = ci
    · rw [if_pos hc] at he
      simp only [Option.some.injEq, Prod.mk.injEq] at he; obtain ⟨rfl, rfl, rfl, rfl, rfl⟩ := he
      have hw := wvs_c.mp hws
      have hw2 := wvs_c.mp hw.2
      have hvn := hw.1.2.2 rfl
      have hqn := hw2.1.2.2 rfl
      have hql : q.toNat < h.2.2.1 := by omega
      have hat : (enW ad ca h)[q.toNat]? = some (ad q.toNat, .inr (ci, enO ad ci h q.toNat)) := by rw [enW_at hql, enC_obj hc (by omega)]
      have hset : (enW ad ca h).set q.toNat (ad q.toNat, .inr (ci, (enO ad ci h q.toNat).set k (.ref (ad v.toNat)))) = enW ad ca (h.1, up2 h.2.1 q.toNat k (v + 1), h.2.2) := by
        refine enW_set rfl ?_ (fun b hb => ⟨rfl, up2_row hb⟩)
        rw [enC_obj hc (by omega), enO_set (ad := ad) (h := h) (a := q.toNat) (h' := (h.1, up2 h.2.1 q.toNat k (v + 1), h.2.2)) hq4 (v := .ref (ad v.toNat)) (by unfold fv; rw [if_pos hft]; show (if up2 h.2.1 q.toNat k (v + 1) q.toNat k = 0 then Value.null else .ref (ad (up2 h.2.1 q.toNat k (v + 1) q.toNat k - 1).toNat)) = _; rw [up2_same, if_neg (by omega), show v + 1 - 1 = v by omega]) (fun j hj => ⟨rfl, up2_place hj⟩)]
      have hfi : fits (cT ci k) (.ref (ad v.toNat)) = true := fits_ref ((cQ hci k hq4).2.2.1 hft)
      have hnr : narrow (cT ci k) (.ref (ad v.toNat)) = .ref (ad v.toNat) := by cases cT ci k <;> rfl
      have KK : ∀ (H1 : Heap) (locs1 : List Loc), va_P D classes ((enW ad ca h).set q.toNat (ad q.toNat, .inr (ci, (enO ad ci h q.toNat).set k (.ref (ad v.toNat))))) H1 → va_D (fun q => base ≤ q) ((enW ad ca h).set q.toNat (ad q.toNat, .inr (ci, (enO ad ci h q.toNat).set k (.ref (ad v.toNat))))) → va_S (fun q => base ≤ q) H0 H1 locs1 → W p l e R s m args below meth c H1 locs1 gg.1 gg.2 Q (F0 m (pc + 3) L (r.map (tr sb b0 ad))) := by
        intro H1 locs1 hP1 hD1 hS1
        rw [hset] at hP1 hD1
        exact K ad ca tys H1 locs1 ⟨fun _ _ => rfl, Nat.le_refl _⟩ ⟨hP1, hD1, hK, hT, hS1, wh_upR hwh hql (by omega) (by omega), hsc⟩ hw2.2 hwl hl
      rcases hfin with hfin | ⟨hi, hco⟩
      · exact va_put hx hb hts (cW_all hci) (cT ci) (fun k hk => (cY_all hci k hk).1) (cM_all hci) hown hK hP hD hS q.toNat hat (classes_at hci) k hq4 hlk hsame hfin hcY.1 hnr hfi (by rw [enO_len]; exact hq4) hd KK
      · cases hf2 : (cF ci k).2.2.2 with
        | false => exact va_put hx hb hts (cW_all hci) (cT ci) (fun k hk => (cY_all hci k hk).1) (cM_all hci) hown hK hP hD hS q.toNat hat (classes_at hci) k hq4 hlk hsame hf2 hcY.1 hnr hfi (by rw [enO_len]; exact hq4) hd KK
        | true => exact va_putF hx hb hts (cW_all hci) (cT ci) (fun k hk => (cY_all hci k hk).1) (cM_all hci) hown hK hP hD hS q.toNat hat (classes_at hci) k hq4 hlk hsame hf2 (hin hi) (by rw [hcY.2, hco, ho]) hcY.1 hnr hfi (by rw [enO_len]; exact hq4) hd KK
    · rw [if_neg hc] at he; cases he
  · cases he
theorem sD_80 (hx : p.tables.exec = Jvm.exec) (hb : c.code = cc) (hown : s.vm.findClass own = some m.cls) (ho : oN o = own) (hts : ∀ w ∈ wT, w.before args s = true) (hbase : base ≤ H0.size) (hRl : Rl D base H0 s sc ad ca tys h H locs) (hl : lr sb b0 ad nL ls L) (hws : wvs h.2.2.1 stk) (hwl : wvs h.2.2.1 ls) {xs : Nat → Int32} (hX : va_X b0 sc.1 xs s H0) (hxs : ∀ j, sc.2 j = (xs j).toInt) (hb0 : b0 < base) (hok : okD o ini cc pc (80, nx, ns, vs) = true) (he : effD LAY al (80, nx, ns, vs) ls stk h gg = some (pc', ls', stk', h', gg')) (K : ∀ (ad' : Nat → Nat) (ca' : Nat → ClassId) (tys' : List (ClassId × FieldType)) (H' : Heap) (locs' : List Loc), ((∀ a, a < h.2.2.1 → ad' a = ad a) ∧ h.2.2.1 ≤ h'.2.2.1) → Rl D base H0 s sc ad' ca' tys' h' H' locs' → wvs h'.2.2.1 stk' → wvs h'.2.2.1 ls' → lr sb b0 ad' nL ls' L → W p l e R s m args below meth c H' locs' gg'.1 gg'.2 Q (F0 m pc' L (stk'.map (tr sb b0 ad')))) : W p l e R s m args below meth c H locs gg.1 gg.2 Q (F0 m pc L (stk.map (tr sb b0 ad))) := by
  obtain ⟨hP, hD, hK, hT, hS, hwh, hsc⟩ := hRl
  obtain ⟨hd, rfl⟩ := of_decide_eq_true (p := decode cc pc = .ok (.iaload, 1) ∧ nx = pc + 1) hok
  replace he : (match (generalizing := false) stk with | (0, x) :: (2, q) :: r => if (LAY q.toNat).1 = 20 ∧ 0 ≤ x ∧ x < ((LAY q.toNat).2 : Int) then some (pc + 1, ls, (0, h.1 q.toNat x.toNat) :: r, h, gg) else none | (0, x) :: (4, _) :: r => if 0 ≤ x ∧ x < (h.2.2.2.1 : Int) then some (pc + 1, ls, (0, h.2.2.2.2 x.toNat) :: r, h, gg) else none | _ => none) = some (pc', ls', stk', h', gg') := he
  split at he
  · next x q r =>
    by_cases hcc : (LAY q.toNat).1 = 20 ∧ 0 ≤ x ∧ x < ((LAY q.toNat).2 : Int)
    · rw [if_pos hcc] at he
      simp only [Option.some.injEq, Prod.mk.injEq] at he; obtain ⟨rfl, rfl, rfl, rfl, rfl⟩ := he
      obtain ⟨hc, hi⟩ := hcc
      have hw := wvs_c.mp hws
      have hw2 := wvs_c.mp hw.2
      have hxx := hw.1.1 rfl
      have hqn := hw2.1.2.2 rfl
      have hql : q.toNat < h.2.2.1 := by omega
      have hat : (enW ad ca h)[q.toNat]? = some (ad q.toNat, .inl (ca q.toNat, (LAY q.toNat).2, .inl (fun j => I3 (h.1 q.toNat j)))) := by rw [enW_at hql, enC_arr hc (by decide)]; rfl
      obtain ⟨t0, ht0⟩ := hT q.toNat hql (by rw [hc]; decide)
      rw [hc] at ht0
      have K' := K ad ca tys H locs ⟨fun _ _ => rfl, Nat.le_refl _⟩ ⟨hP, hD, hK, hT, hS, hwh, hsc⟩ (wvs_c.mpr ⟨wv0 (wx_32 (hwh.1 _ _) (by omega)), hw2.2⟩) hwl hl
      refine va_iald hx hb hK hP q.toNat t0 hat ht0 ((I3_vp hxx).mpr hi) hd ?_
      rw [I3_cl hxx]
      exact K'
    · rw [if_neg hcc] at he; cases he
  · next x y r =>
    by_cases hcc : 0 ≤ x ∧ x < (h.2.2.2.1 : Int)
    · rw [if_pos hcc] at he
      simp only [Option.some.injEq, Prod.mk.injEq] at he; obtain ⟨rfl, rfl, rfl, rfl, rfl⟩ := he
      have hw := wvs_c.mp hws
      have hw2 := wvs_c.mp hw.2
      have hxx := hw.1.1 rfl
      have hj : h.2.2.2.2 x.toNat = (xs x.toNat).toInt := by rw [show h.2.2.2.2 = sc.2 from congrArg Prod.snd hsc]; exact hxs _
      have K' := K ad ca tys H locs ⟨fun _ _ => rfl, Nat.le_refl _⟩ ⟨hP, hD, hK, hT, hS, hwh, hsc⟩ (wvs_c.mpr ⟨wv0 (by rw [hj]; exact in32_to _), hw2.2⟩) hwl hl
      refine va_sld hx hb hX (Nat.lt_of_lt_of_le hb0 hbase) (Nat.not_le.mpr hb0) hS ((I3_vp hxx).mpr (by rw [show sc.1 = h.2.2.2.1 from (congrArg Prod.fst hsc).symm]; exact hcc)) hd ?_
      rw [I3_cl hxx]
      rw [List.map_cons, tr0, hj, I3_of] at K'
      exact K'
    · rw [if_neg hcc] at he; cases he
  · cases he
theorem sD_81 (hx : p.tables.exec = Jvm.exec) (hb : c.code = cc) (hown : s.vm.findClass own = some m.cls) (ho : oN o = own) (hts : ∀ w ∈ wT, w.before args s = true) (hbase : base ≤ H0.size) (hRl : Rl D base H0 s sc ad ca tys h H locs) (hl : lr sb b0 ad nL ls L) (hws : wvs h.2.2.1 stk) (hwl : wvs h.2.2.1 ls)  (hok : okD o ini cc pc (81, nx, ns, vs) = true) (he : effD LAY al (81, nx, ns, vs) ls stk h gg = some (pc', ls', stk', h', gg')) (K : ∀ (ad' : Nat → Nat) (ca' : Nat → ClassId) (tys' : List (ClassId × FieldType)) (H' : Heap) (locs' : List Loc), ((∀ a, a < h.2.2.1 → ad' a = ad a) ∧ h.2.2.1 ≤ h'.2.2.1) → Rl D base H0 s sc ad' ca' tys' h' H' locs' → wvs h'.2.2.1 stk' → wvs h'.2.2.1 ls' → lr sb b0 ad' nL ls' L → W p l e R s m args below meth c H' locs' gg'.1 gg'.2 Q (F0 m pc' L (stk'.map (tr sb b0 ad')))) : W p l e R s m args below meth c H locs gg.1 gg.2 Q (F0 m pc L (stk.map (tr sb b0 ad))) := by
  obtain ⟨hP, hD, hK, hT, hS, hwh, hsc⟩ := hRl
  obtain ⟨hd, rfl⟩ := of_decide_eq_true (p := decode cc pc = .ok (.baload, 1) ∧ nx = pc + 1) hok
  replace he : (match (generalizing := false) stk with | (0, x) :: (2, q) :: r => if ((LAY q.toNat).1 = 21 ∨ (LAY q.toNat).1 = 22) ∧ 0 ≤ x ∧ x < ((LAY q.toNat).2 : Int) then some (pc + 1, ls, (0, h.1 q.toNat x.toNat) :: r, h, gg) else none | _ => none) = some (pc', ls', stk', h', gg') := he
  split at he
  · next x q r =>
    by_cases hcc : ((LAY q.toNat).1 = 21 ∨ (LAY q.toNat).1 = 22) ∧ 0 ≤ x ∧ x < ((LAY q.toNat).2 : Int)
    · rw [if_pos hcc] at he
      simp only [Option.some.injEq, Prod.mk.injEq] at he; obtain ⟨rfl, rfl, rfl, rfl, rfl⟩ := he
      obtain ⟨hc, hi⟩ := hcc
      have hw := wvs_c.mp hws
      have hw2 := wvs_c.mp hw.2
      have hxx := hw.1.1 rfl
      have hqn := hw2.1.2.2 rfl
      have hql : q.toNat < h.2.2.1 := by omega
      have K' := K ad ca tys H locs ⟨fun _ _ => rfl, Nat.le_refl _⟩ ⟨hP, hD, hK, hT, hS, hwh, hsc⟩ (wvs_c.mpr ⟨wv0 (wx_32 (hwh.1 _ _) (by omega)), hw2.2⟩) hwl hl
      rcases hc with hc | hc
      · have hat : (enW ad ca h)[q.toNat]? = some (ad q.toNat, .inl (ca q.toNat, (LAY q.toNat).2, .inl (fun j => I3 (h.1 q.toNat j)))) := by rw [enW_at hql, enC_arr hc (by decide)]; rfl
        obtain ⟨t0, ht0⟩ := hT q.toNat hql (by rw [hc]; decide)
        rw [hc] at ht0
        refine va_bald hx hb hK hP q.toNat t0 hat ht0 ((I3_vp hxx).mpr hi) hd ?_
        rw [I3_cl hxx]
        exact K'
      · have hat : (enW ad ca h)[q.toNat]? = some (ad q.toNat, .inl (ca q.toNat, (LAY q.toNat).2, .inl (fun j => I3 (h.1 q.toNat j)))) := by rw [enW_at hql, enC_arr hc (by decide)]; rfl
        obtain ⟨t0, ht0⟩ := hT q.toNat hql (by rw [hc]; decide)
        rw [hc] at ht0
        refine va_zald hx hb hK hP q.toNat t0 hat ht0 ((I3_vp hxx).mpr hi) hd ?_
        rw [I3_cl hxx]
        exact K'
    · rw [if_neg hcc] at he; cases he
  · cases he
theorem sD_82 (hx : p.tables.exec = Jvm.exec) (hb : c.code = cc) (hown : s.vm.findClass own = some m.cls) (ho : oN o = own) (hts : ∀ w ∈ wT, w.before args s = true) (hbase : base ≤ H0.size) (hRl : Rl D base H0 s sc ad ca tys h H locs) (hl : lr sb b0 ad nL ls L) (hws : wvs h.2.2.1 stk) (hwl : wvs h.2.2.1 ls)  (hok : okD o ini cc pc (82, nx, ns, vs) = true) (he : effD LAY al (82, nx, ns, vs) ls stk h gg = some (pc', ls', stk', h', gg')) (K : ∀ (ad' : Nat → Nat) (ca' : Nat → ClassId) (tys' : List (ClassId × FieldType)) (H' : Heap) (locs' : List Loc), ((∀ a, a < h.2.2.1 → ad' a = ad a) ∧ h.2.2.1 ≤ h'.2.2.1) → Rl D base H0 s sc ad' ca' tys' h' H' locs' → wvs h'.2.2.1 stk' → wvs h'.2.2.1 ls' → lr sb b0 ad' nL ls' L → W p l e R s m args below meth c H' locs' gg'.1 gg'.2 Q (F0 m pc' L (stk'.map (tr sb b0 ad')))) : W p l e R s m args below meth c H locs gg.1 gg.2 Q (F0 m pc L (stk.map (tr sb b0 ad))) := by
  obtain ⟨hP, hD, hK, hT, hS, hwh, hsc⟩ := hRl
  obtain ⟨hd, rfl⟩ := of_decide_eq_true (p := decode cc pc = .ok (.laload, 1) ∧ nx = pc + 1) hok
  replace he : (match (generalizing := false) stk with | (0, x) :: (2, q) :: r => if (LAY q.toNat).1 = 23 ∧ 0 ≤ x ∧ x < ((LAY q.toNat).2 : Int) then some (pc + 1, ls, (1, h.1 q.toNat x.toNat) :: r, h, gg) else none | _ => none) = some (pc', ls', stk', h', gg') := he
  split at he
  · next x q r =>
    by_cases hcc : (LAY q.toNat).1 = 23 ∧ 0 ≤ x ∧ x < ((LAY q.toNat).2 : Int)
    · rw [if_pos hcc] at he
      simp only [Option.some.injEq, Prod.mk.injEq] at he; obtain ⟨rfl, rfl, rfl, rfl, rfl⟩ := he
      obtain ⟨hc, hi⟩ := hcc
      have hw := wvs_c.mp hws
      have hw2 := wvs_c.mp hw.2
      have hxx := hw.1.1 rfl
      have hqn := hw2.1.2.2 rfl
      have hql : q.toNat < h.2.2.1 := by omega
      have hat : (enW ad ca h)[q.toNat]? = some (ad q.toNat, .inl (ca q.toNat, (LAY q.toNat).2, .inr (.inl (fun j => I6 (h.1 q.toNat j))))) := by rw [enW_at hql, enC_arr hc (by decide)]; rfl
      obtain ⟨t0, ht0⟩ := hT q.toNat hql (by rw [hc]; decide)
      rw [hc] at ht0
      have hwx := hwh.1 q.toNat x.toNat
      rw [hc] at hwx
      have K' := K ad ca tys H locs ⟨fun _ _ => rfl, Nat.le_refl _⟩ ⟨hP, hD, hK, hT, hS, hwh, hsc⟩ (wvs_c.mpr ⟨wv1 hwx, hw2.2⟩) hwl hl
      refine va_lald hx hb hK hP q.toNat t0 hat ht0 ((I3_vp hxx).mpr hi) hd ?_
      rw [I3_cl hxx]
      exact K'
    · rw [if_neg hcc] at he; cases he
  · cases he
theorem sD_83 (hx : p.tables.exec = Jvm.exec) (hb : c.code = cc) (hown : s.vm.findClass own = some m.cls) (ho : oN o = own) (hts : ∀ w ∈ wT, w.before args s = true) (hbase : base ≤ H0.size) (hRl : Rl D base H0 s sc ad ca tys h H locs) (hl : lr sb b0 ad nL ls L) (hws : wvs h.2.2.1 stk) (hwl : wvs h.2.2.1 ls)  (hok : okD o ini cc pc (83, nx, ns, vs) = true) (he : effD LAY al (83, nx, ns, vs) ls stk h gg = some (pc', ls', stk', h', gg')) (K : ∀ (ad' : Nat → Nat) (ca' : Nat → ClassId) (tys' : List (ClassId × FieldType)) (H' : Heap) (locs' : List Loc), ((∀ a, a < h.2.2.1 → ad' a = ad a) ∧ h.2.2.1 ≤ h'.2.2.1) → Rl D base H0 s sc ad' ca' tys' h' H' locs' → wvs h'.2.2.1 stk' → wvs h'.2.2.1 ls' → lr sb b0 ad' nL ls' L → W p l e R s m args below meth c H' locs' gg'.1 gg'.2 Q (F0 m pc' L (stk'.map (tr sb b0 ad')))) : W p l e R s m args below meth c H locs gg.1 gg.2 Q (F0 m pc L (stk.map (tr sb b0 ad))) := by
  obtain ⟨hP, hD, hK, hT, hS, hwh, hsc⟩ := hRl
  obtain ⟨hd, rfl⟩ := of_decide_eq_true (p := decode cc pc = .ok (.aaload, 1) ∧ nx = pc + 1) hok
  replace he : (match (generalizing := false) stk with | (0, x) :: (2, q) :: r => if (LAY q.toNat).1 = 24 ∧ 0 ≤ x ∧ x < ((LAY q.toNat).2 : Int) ∧ (rv (h.2.1 q.toNat x.toNat)).1 = 2 then some (pc + 1, ls, rv (h.2.1 q.toNat x.toNat) :: r, h, gg) else none | _ => none) = some (pc', ls', stk', h', gg') := he
  split at he
  · next x q r =>
    by_cases hcc : (LAY q.toNat).1 = 24 ∧ 0 ≤ x ∧ x < ((LAY q.toNat).2 : Int) ∧ (rv (h.2.1 q.toNat x.toNat)).1 = 2
    · rw [if_pos hcc] at he
      simp only [Option.some.injEq, Prod.mk.injEq] at he; obtain ⟨rfl, rfl, rfl, rfl, rfl⟩ := he
      obtain ⟨hc, hi1, hi2, hnz⟩ := hcc
      have hw := wvs_c.mp hws
      have hw2 := wvs_c.mp hw.2
      have hxx := hw.1.1 rfl
      have hqn := hw2.1.2.2 rfl
      have hql : q.toNat < h.2.2.1 := by omega
      have hat : (enW ad ca h)[q.toNat]? = some (ad q.toNat, .inl (ca q.toNat, (LAY q.toNat).2, .inr (.inr (.inr (.inr (enQ ad h q.toNat)))))) := by rw [enW_at hql, enC_arr hc (by decide)]; rfl
      obtain ⟨t0, ht0⟩ := hT q.toNat hql (by rw [hc]; decide)
      rw [hc] at ht0
      have hr := hwh.2.1 q.toNat x.toNat
      have hnz : ¬ h.2.1 q.toNat x.toNat = 0 := fun z => by rw [z] at hnz; cases hnz
      rw [rv_eq hr.1, if_neg hnz] at K
      have K' := K ad ca tys H locs ⟨fun _ _ => rfl, Nat.le_refl _⟩ ⟨hP, hD, hK, hT, hS, hwh, hsc⟩ (wvs_c.mpr ⟨wv2 (by omega) (by omega), hw2.2⟩) hwl hl
      refine va_aldq hx hb hK hP q.toNat t0 hat ht0 ((I3_vp hxx).mpr ⟨hi1, hi2⟩) hd ?_
      rw [I3_cl hxx]
      have hrf : va_rf (enQ ad h q.toNat x.toNat) = .ref (ad (h.2.1 q.toNat x.toNat - 1).toNat) := by unfold enQ; rw [if_neg hnz]; rfl
      rw [hrf]
      exact K'
    · rw [if_neg hcc] at he; cases he
  · cases he
theorem sD_84 (hx : p.tables.exec = Jvm.exec) (hb : c.code = cc) (hown : s.vm.findClass own = some m.cls) (ho : oN o = own) (hts : ∀ w ∈ wT, w.before args s = true) (hbase : base ≤ H0.size) (hRl : Rl D base H0 s sc ad ca tys h H locs) (hl : lr sb b0 ad nL ls L) (hws : wvs h.2.2.1 stk) (hwl : wvs h.2.2.1 ls)  (hok : okD o ini cc pc (84, nx, ns, vs) = true) (he : effD LAY al (84, nx, ns, vs) ls stk h gg = some (pc', ls', stk', h', gg')) (K : ∀ (ad' : Nat → Nat) (ca' : Nat → ClassId) (tys' : List (ClassId × FieldType)) (H' : Heap) (locs' : List Loc), ((∀ a, a < h.2.2.1 → ad' a = ad a) ∧ h.2.2.1 ≤ h'.2.2.1) → Rl D base H0 s sc ad' ca' tys' h' H' locs' → wvs h'.2.2.1 stk' → wvs h'.2.2.1 ls' → lr sb b0 ad' nL ls' L → W p l e R s m args below meth c H' locs' gg'.1 gg'.2 Q (F0 m pc' L (stk'.map (tr sb b0 ad')))) : W p l e R s m args below meth c H locs gg.1 gg.2 Q (F0 m pc L (stk.map (tr sb b0 ad))) := by
  obtain ⟨hP, hD, hK, hT, hS, hwh, hsc⟩ := hRl
  obtain ⟨hd, rfl⟩ := of_decide_eq_true (p := decode cc pc = .ok (.iastore, 1) ∧ nx = pc + 1) hok
  replace he : (match (generalizing := false) stk with | (0, v) :: (0, x) :: (2, q) :: r => if (LAY q.toNat).1 = 20 ∧ 0 ≤ x ∧ x < ((LAY q.toNat).2 : Int) then some (pc + 1, ls, r, (up2 h.1 q.toNat x.toNat v, h.2), gg) else none | _ => none) = some (pc', ls', stk', h', gg') := he
  split at he
  · next v x q r =>
    by_cases hcc : (LAY q.toNat).1 = 20 ∧ 0 ≤ x ∧ x < ((LAY q.toNat).2 : Int)
    · rw [if_pos hcc] at he
      simp only [Option.some.injEq, Prod.mk.injEq] at he; obtain ⟨rfl, rfl, rfl, rfl, rfl⟩ := he
      obtain ⟨hc, hi⟩ := hcc
      have hw := wvs_c.mp hws
      have hw2 := wvs_c.mp hw.2
      have hw3 := wvs_c.mp hw2.2
      have hxx := hw2.1.1 rfl
      have hqn := hw3.1.2.2 rfl
      have hql : q.toNat < h.2.2.1 := by omega
      have hv := hw.1.1 rfl
      have hat : (enW ad ca h)[q.toNat]? = some (ad q.toNat, .inl (ca q.toNat, (LAY q.toNat).2, .inl (fun j => I3 (h.1 q.toNat j)))) := by rw [enW_at hql, enC_arr hc (by decide)]; rfl
      obtain ⟨t0, ht0⟩ := hT q.toNat hql (by rw [hc]; decide)
      rw [hc] at ht0
      have hset : (enW ad ca h).set q.toNat (ad q.toNat, .inl (ca q.toNat, (LAY q.toNat).2, .inl (upd (fun j => I3 (h.1 q.toNat j)) x.toNat (I3 v)))) = enW ad ca (up2 h.1 q.toNat x.toNat v, h.2) := by
        refine enW_set rfl ?_ (fun b hb => ⟨up2_row hb, rfl⟩)
        rw [enC_arr hc (by decide)]
        show Sum.inl (ca q.toNat, (LAY q.toNat).2, Sum.inl (fun j => I3 (up2 h.1 q.toNat x.toNat v q.toNat j))) = _
        congr 4
        funext j
        by_cases hj : j = x.toNat
        · subst hj; rw [up2_same]; unfold upd; rw [if_pos rfl]
        · rw [up2_place hj]; unfold upd; rw [if_neg hj]
      refine va_iast hx hb hK hP hD hS q.toNat t0 hat ht0 ((I3_vp hxx).mpr hi) hd (fun H1 locs1 hP1 hD1 hS1 => ?_)
      rw [I3_cl hxx, hset] at hP1 hD1
      exact K ad ca tys H1 locs1 ⟨fun _ _ => rfl, Nat.le_refl _⟩ ⟨hP1, hD1, hK, hT, hS1, wh_up hwh hql (by rw [hc]; exact hv), hsc⟩ hw3.2 hwl hl
    · rw [if_neg hcc] at he; cases he
  · cases he
theorem sD_86 (hx : p.tables.exec = Jvm.exec) (hb : c.code = cc) (hown : s.vm.findClass own = some m.cls) (ho : oN o = own) (hts : ∀ w ∈ wT, w.before args s = true) (hbase : base ≤ H0.size) (hRl : Rl D base H0 s sc ad ca tys h H locs) (hl : lr sb b0 ad nL ls L) (hws : wvs h.2.2.1 stk) (hwl : wvs h.2.2.1 ls)  (hok : okD o ini cc pc (86, nx, ns, vs) = true) (he : effD LAY al (86, nx, ns, vs) ls stk h gg = some (pc', ls', stk', h', gg')) (K : ∀ (ad' : Nat → Nat) (ca' : Nat → ClassId) (tys' : List (ClassId × FieldType)) (H' : Heap) (locs' : List Loc), ((∀ a, a < h.2.2.1 → ad' a = ad a) ∧ h.2.2.1 ≤ h'.2.2.1) → Rl D base H0 s sc ad' ca' tys' h' H' locs' → wvs h'.2.2.1 stk' → wvs h'.2.2.1 ls' → lr sb b0 ad' nL ls' L → W p l e R s m args below meth c H' locs' gg'.1 gg'.2 Q (F0 m pc' L (stk'.map (tr sb b0 ad')))) : W p l e R s m args below meth c H locs gg.1 gg.2 Q (F0 m pc L (stk.map (tr sb b0 ad))) := by
  obtain ⟨hP, hD, hK, hT, hS, hwh, hsc⟩ := hRl
  obtain ⟨hd, rfl⟩ := of_decide_eq_true (p := decode cc pc = .ok (.lastore, 1) ∧ nx = pc + 1) hok
  replace he : (match (generalizing := false) stk with | (1, v) :: (0, x) :: (2, q) :: r => if (LAY q.toNat).1 = 23 ∧ 0 ≤ x ∧ x < ((LAY q.toNat).2 : Int) then some (pc + 1, ls, r, (up2 h.1 q.toNat x.toNat v, h.2), gg) else none | _ => none) = some (pc', ls', stk', h', gg') := he
  split at he
  · next v x q r =>
    by_cases hcc : (LAY q.toNat).1 = 23 ∧ 0 ≤ x ∧ x < ((LAY q.toNat).2 : Int)
    · rw [if_pos hcc] at he
      simp only [Option.some.injEq, Prod.mk.injEq] at he; obtain ⟨rfl, rfl, rfl, rfl, rfl⟩ := he
      obtain ⟨hc, hi⟩ := hcc
      have hw := wvs_c.mp hws
      have hw2 := wvs_c.mp hw.2
      have hw3 := wvs_c.mp hw2.2
      have hxx := hw2.1.1 rfl
      have hqn := hw3.1.2.2 rfl
      have hql : q.toNat < h.2.2.1 := by omega
      have hv := hw.1.2.1 rfl
      have hat : (enW ad ca h)[q.toNat]? = some (ad q.toNat, .inl (ca q.toNat, (LAY q.toNat).2, .inr (.inl (fun j => I6 (h.1 q.toNat j))))) := by rw [enW_at hql, enC_arr hc (by decide)]; rfl
      obtain ⟨t0, ht0⟩ := hT q.toNat hql (by rw [hc]; decide)
      rw [hc] at ht0
      have hset : (enW ad ca h).set q.toNat (ad q.toNat, .inl (ca q.toNat, (LAY q.toNat).2, .inr (.inl (vp_updL (fun j => I6 (h.1 q.toNat j)) x.toNat (I6 v))))) = enW ad ca (up2 h.1 q.toNat x.toNat v, h.2) := by
        refine enW_set rfl ?_ (fun b hb => ⟨up2_row hb, rfl⟩)
        rw [enC_arr hc (by decide)]
        show Sum.inl (ca q.toNat, (LAY q.toNat).2, Sum.inr (Sum.inl (fun j => I6 (up2 h.1 q.toNat x.toNat v q.toNat j)))) = _
        congr 5
        funext j
        by_cases hj : j = x.toNat
        · subst hj; rw [up2_same]; unfold vp_updL; rw [if_pos rfl]
        · rw [up2_place hj]; unfold vp_updL; rw [if_neg hj]
      refine va_last hx hb hK hP hD hS q.toNat t0 hat ht0 ((I3_vp hxx).mpr hi) hd (fun H1 locs1 hP1 hD1 hS1 => ?_)
      rw [I3_cl hxx, hset] at hP1 hD1
      exact K ad ca tys H1 locs1 ⟨fun _ _ => rfl, Nat.le_refl _⟩ ⟨hP1, hD1, hK, hT, hS1, wh_up hwh hql (by rw [hc]; exact hv), hsc⟩ hw3.2 hwl hl
    · rw [if_neg hcc] at he; cases he
  · cases he
theorem sD_85 (hx : p.tables.exec = Jvm.exec) (hb : c.code = cc) (hown : s.vm.findClass own = some m.cls) (ho : oN o = own) (hts : ∀ w ∈ wT, w.before args s = true) (hbase : base ≤ H0.size) (hRl : Rl D base H0 s sc ad ca tys h H locs) (hl : lr sb b0 ad nL ls L) (hws : wvs h.2.2.1 stk) (hwl : wvs h.2.2.1 ls)  (hok : okD o ini cc pc (85, nx, ns, vs) = true) (he : effD LAY al (85, nx, ns, vs) ls stk h gg = some (pc', ls', stk', h', gg')) (K : ∀ (ad' : Nat → Nat) (ca' : Nat → ClassId) (tys' : List (ClassId × FieldType)) (H' : Heap) (locs' : List Loc), ((∀ a, a < h.2.2.1 → ad' a = ad a) ∧ h.2.2.1 ≤ h'.2.2.1) → Rl D base H0 s sc ad' ca' tys' h' H' locs' → wvs h'.2.2.1 stk' → wvs h'.2.2.1 ls' → lr sb b0 ad' nL ls' L → W p l e R s m args below meth c H' locs' gg'.1 gg'.2 Q (F0 m pc' L (stk'.map (tr sb b0 ad')))) : W p l e R s m args below meth c H locs gg.1 gg.2 Q (F0 m pc L (stk.map (tr sb b0 ad))) := by
  obtain ⟨hP, hD, hK, hT, hS, hwh, hsc⟩ := hRl
  obtain ⟨hd, rfl⟩ := of_decide_eq_true (p := decode cc pc = .ok (.bastore, 1) ∧ nx = pc + 1) hok
  replace he : (match (generalizing := false) stk with | (0, v) :: (0, x) :: (2, q) :: r => if 0 ≤ x ∧ x < ((LAY q.toNat).2 : Int) then (if (LAY q.toNat).1 = 21 then some (pc + 1, ls, r, (up2 h.1 q.toNat x.toNat (Int.bmod v 256), h.2), gg) else if (LAY q.toNat).1 = 22 ∧ (v = 0 ∨ v = 1) then some (pc + 1, ls, r, (up2 h.1 q.toNat x.toNat v, h.2), gg) else none) else none | _ => none) = some (pc', ls', stk', h', gg') := he
  split at he
  · next v x q r =>
    by_cases hi : 0 ≤ x ∧ x < ((LAY q.toNat).2 : Int)
    · rw [if_pos hi] at he
      by_cases hc : (LAY q.toNat).1 = 21
      · rw [if_pos hc] at he
        simp only [Option.some.injEq, Prod.mk.injEq] at he; obtain ⟨rfl, rfl, rfl, rfl, rfl⟩ := he
        have hw := wvs_c.mp hws
        have hw2 := wvs_c.mp hw.2
        have hw3 := wvs_c.mp hw2.2
        have hxx := hw2.1.1 rfl
        have hqn := hw3.1.2.2 rfl
        have hql : q.toNat < h.2.2.1 := by omega
        have hv := hw.1.1 rfl
        have hat : (enW ad ca h)[q.toNat]? = some (ad q.toNat, .inl (ca q.toNat, (LAY q.toNat).2, .inl (fun j => I3 (h.1 q.toNat j)))) := by rw [enW_at hql, enC_arr hc (by decide)]; rfl
        obtain ⟨t0, ht0⟩ := hT q.toNat hql (by rw [hc]; decide)
        rw [hc] at ht0
        have hset : (enW ad ca h).set q.toNat (ad q.toNat, .inl (ca q.toNat, (LAY q.toNat).2, .inl (upd (fun j => I3 (h.1 q.toNat j)) x.toNat (vp_nar .byte (I3 v))))) = enW ad ca (up2 h.1 q.toNat x.toNat (Int.bmod v 256), h.2) := by
          refine enW_set rfl ?_ (fun b hb => ⟨up2_row hb, rfl⟩)
          rw [enC_arr hc (by decide)]
          show Sum.inl (ca q.toNat, (LAY q.toNat).2, Sum.inl (fun j => I3 (up2 h.1 q.toNat x.toNat (Int.bmod v 256) q.toNat j))) = _
          congr 4
          funext j
          by_cases hj : j = x.toNat
          · subst hj; rw [up2_same]; unfold upd; rw [if_pos rfl, vp_nar_byte, I3_i2b hv]
          · rw [up2_place hj]; unfold upd; rw [if_neg hj]
        refine va_bast hx hb hK hP hD hS q.toNat t0 hat ht0 ((I3_vp hxx).mpr hi) hd (fun H1 locs1 hP1 hD1 hS1 => ?_)
        rw [I3_cl hxx, hset] at hP1 hD1
        exact K ad ca tys H1 locs1 ⟨fun _ _ => rfl, Nat.le_refl _⟩ ⟨hP1, hD1, hK, hT, hS1, wh_up hwh hql (by rw [hc]; exact (by show -128 ≤ _ ∧ _ < 128; have h1 := Int.le_bmod (x := v) (m := 256) (by omega); have h2 := Int.bmod_lt (x := v) (m := 256) (by omega); omega)), hsc⟩ hw3.2 hwl hl
      · rw [if_neg hc] at he
        by_cases hcc : (LAY q.toNat).1 = 22 ∧ (v = 0 ∨ v = 1)
        · rw [if_pos hcc] at he
          simp only [Option.some.injEq, Prod.mk.injEq] at he; obtain ⟨rfl, rfl, rfl, rfl, rfl⟩ := he
          obtain ⟨hc, hv01⟩ := hcc
          have hw := wvs_c.mp hws
          have hw2 := wvs_c.mp hw.2
          have hw3 := wvs_c.mp hw2.2
          have hxx := hw2.1.1 rfl
          have hqn := hw3.1.2.2 rfl
          have hql : q.toNat < h.2.2.1 := by omega
          have hv := hw.1.1 rfl
          have hnar : vp_nar .boolean (I3 v) = I3 v := by rcases hv01 with rfl | rfl <;> decide
          have hat : (enW ad ca h)[q.toNat]? = some (ad q.toNat, .inl (ca q.toNat, (LAY q.toNat).2, .inl (fun j => I3 (h.1 q.toNat j)))) := by rw [enW_at hql, enC_arr hc (by decide)]; rfl
          obtain ⟨t0, ht0⟩ := hT q.toNat hql (by rw [hc]; decide)
          rw [hc] at ht0
          have hset : (enW ad ca h).set q.toNat (ad q.toNat, .inl (ca q.toNat, (LAY q.toNat).2, .inl (upd (fun j => I3 (h.1 q.toNat j)) x.toNat (vp_nar .boolean (I3 v))))) = enW ad ca (up2 h.1 q.toNat x.toNat v, h.2) := by
            refine enW_set rfl ?_ (fun b hb => ⟨up2_row hb, rfl⟩)
            rw [enC_arr hc (by decide)]
            show Sum.inl (ca q.toNat, (LAY q.toNat).2, Sum.inl (fun j => I3 (up2 h.1 q.toNat x.toNat v q.toNat j))) = _
            congr 4
            funext j
            by_cases hj : j = x.toNat
            · subst hj; rw [up2_same]; unfold upd; rw [if_pos rfl, hnar]
            · rw [up2_place hj]; unfold upd; rw [if_neg hj]
          refine va_zast hx hb hK hP hD hS q.toNat t0 hat ht0 ((I3_vp hxx).mpr hi) hd (fun H1 locs1 hP1 hD1 hS1 => ?_)
          rw [I3_cl hxx, hset] at hP1 hD1
          exact K ad ca tys H1 locs1 ⟨fun _ _ => rfl, Nat.le_refl _⟩ ⟨hP1, hD1, hK, hT, hS1, wh_up hwh hql (by rw [hc]; exact hv01), hsc⟩ hw3.2 hwl hl
        · rw [if_neg hcc] at he; cases he
    · rw [if_neg hi] at he; cases he
  · cases he
theorem sD_87 (hx : p.tables.exec = Jvm.exec) (hb : c.code = cc) (hown : s.vm.findClass own = some m.cls) (ho : oN o = own) (hts : ∀ w ∈ wT, w.before args s = true) (hbase : base ≤ H0.size) (hRl : Rl D base H0 s sc ad ca tys h H locs) (hl : lr sb b0 ad nL ls L) (hws : wvs h.2.2.1 stk) (hwl : wvs h.2.2.1 ls)  (hok : okD o ini cc pc (87, nx, ns, vs) = true) (he : effD LAY al (87, nx, ns, vs) ls stk h gg = some (pc', ls', stk', h', gg')) (K : ∀ (ad' : Nat → Nat) (ca' : Nat → ClassId) (tys' : List (ClassId × FieldType)) (H' : Heap) (locs' : List Loc), ((∀ a, a < h.2.2.1 → ad' a = ad a) ∧ h.2.2.1 ≤ h'.2.2.1) → Rl D base H0 s sc ad' ca' tys' h' H' locs' → wvs h'.2.2.1 stk' → wvs h'.2.2.1 ls' → lr sb b0 ad' nL ls' L → W p l e R s m args below meth c H' locs' gg'.1 gg'.2 Q (F0 m pc' L (stk'.map (tr sb b0 ad')))) : W p l e R s m args below meth c H locs gg.1 gg.2 Q (F0 m pc L (stk.map (tr sb b0 ad))) := by
  obtain ⟨hP, hD, hK, hT, hS, hwh, hsc⟩ := hRl
  obtain ⟨hd, rfl, hb3⟩ := of_decide_eq_true (p := decode cc pc = .ok (.aastore, 1) ∧ nx = pc + 1 ∧ ns.tail.headD 0 = 3) hok
  replace he : (match (generalizing := false) stk with | (2, v) :: (0, x) :: (2, q) :: r => if (LAY q.toNat).1 = 24 ∧ (LAY v.toNat).1 = ns.tail.headD 0 ∧ 0 ≤ x ∧ x < ((LAY q.toNat).2 : Int) then some (pc + 1, ls, r, (h.1, up2 h.2.1 q.toNat x.toNat (v + 1), h.2.2), gg) else none | _ => none) = some (pc', ls', stk', h', gg') := he
  rw [hb3] at he
  split at he
  · next v x q r =>
    by_cases hcc : (LAY q.toNat).1 = 24 ∧ (LAY v.toNat).1 = 3 ∧ 0 ≤ x ∧ x < ((LAY q.toNat).2 : Int)
    · rw [if_pos hcc] at he
      simp only [Option.some.injEq, Prod.mk.injEq] at he; obtain ⟨rfl, rfl, rfl, rfl, rfl⟩ := he
      obtain ⟨hc, hv3, hi⟩ := hcc
      have hw := wvs_c.mp hws
      have hw2 := wvs_c.mp hw.2
      have hw3 := wvs_c.mp hw2.2
      have hxx := hw2.1.1 rfl
      have hqn := hw3.1.2.2 rfl
      have hql : q.toNat < h.2.2.1 := by omega
      have hvn := hw.1.2.2 rfl
      have hvl : v.toNat < h.2.2.1 := by omega
      have hat : (enW ad ca h)[q.toNat]? = some (ad q.toNat, .inl (ca q.toNat, (LAY q.toNat).2, .inr (.inr (.inr (.inr (enQ ad h q.toNat)))))) := by rw [enW_at hql, enC_arr hc (by decide)]; rfl
      obtain ⟨t0, ht0⟩ := hT q.toNat hql (by rw [hc]; decide)
      rw [hc] at ht0
      have hvat : (enW ad ca h)[v.toNat]? = some (ad v.toNat, .inr (3, enO ad 3 h v.toNat)) := by rw [enW_at hvl, enC_obj hv3 (by decide)]
      have hset : (enW ad ca h).set q.toNat (ad q.toNat, .inl (ca q.toNat, (LAY q.toNat).2, .inr (.inr (.inr (.inr (va_up (enQ ad h q.toNat) x.toNat (some (ad v.toNat)))))))) = enW ad ca (h.1, up2 h.2.1 q.toNat x.toNat (v + 1), h.2.2) := by
        refine enW_set rfl ?_ (fun b hb => ⟨rfl, up2_row hb⟩)
        rw [enC_arr hc (by decide)]
        show Sum.inl (ca q.toNat, (LAY q.toNat).2, Sum.inr (Sum.inr (Sum.inr (Sum.inr (enQ ad (h.1, up2 h.2.1 q.toNat x.toNat (v + 1), h.2.2) q.toNat))))) = _
        congr 7
        funext j
        show (if up2 h.2.1 q.toNat x.toNat (v + 1) q.toNat j = 0 then none else some (ad (up2 h.2.1 q.toNat x.toNat (v + 1) q.toNat j - 1).toNat)) = if j = x.toNat then _ else _
        by_cases hj : j = x.toNat
        · subst hj; rw [up2_same, if_pos rfl, if_neg (by omega), show v + 1 - 1 = v by omega]
        · rw [up2_place hj, if_neg hj]; rfl
      refine va_astq (r := (oN 3, cF 3, cN 3)) hx hb hK hP hD hS q.toNat t0 v.toNat 3 hat ht0 hvat (classes_at (by decide)) ((I3_vp hxx).mpr hi) hd (fun H1 locs1 hP1 hD1 hS1 => ?_)
      rw [I3_cl hxx, hset] at hP1 hD1
      exact K ad ca tys H1 locs1 ⟨fun _ _ => rfl, Nat.le_refl _⟩ ⟨hP1, hD1, hK, hT, hS1, wh_upR hwh hql (by omega) (by omega), hsc⟩ hw3.2 hwl hl
    · rw [if_neg hcc] at he; cases he
  · cases he
theorem sD_88 (hx : p.tables.exec = Jvm.exec) (hb : c.code = cc) (hown : s.vm.findClass own = some m.cls) (ho : oN o = own) (hts : ∀ w ∈ wT, w.before args s = true) (hbase : base ≤ H0.size) (hRl : Rl D base H0 s sc ad ca tys h H locs) (hl : lr sb b0 ad nL ls L) (hws : wvs h.2.2.1 stk) (hwl : wvs h.2.2.1 ls) {xs : Nat → Int32} (hX : va_X b0 sc.1 xs s H0) (hL : sc.1 ≤ 4096) (hb0 : b0 < base) (hok : okD o ini cc pc (88, nx, ns, vs) = true) (he : effD LAY al (88, nx, ns, vs) ls stk h gg = some (pc', ls', stk', h', gg')) (K : ∀ (ad' : Nat → Nat) (ca' : Nat → ClassId) (tys' : List (ClassId × FieldType)) (H' : Heap) (locs' : List Loc), ((∀ a, a < h.2.2.1 → ad' a = ad a) ∧ h.2.2.1 ≤ h'.2.2.1) → Rl D base H0 s sc ad' ca' tys' h' H' locs' → wvs h'.2.2.1 stk' → wvs h'.2.2.1 ls' → lr sb b0 ad' nL ls' L → W p l e R s m args below meth c H' locs' gg'.1 gg'.2 Q (F0 m pc' L (stk'.map (tr sb b0 ad')))) : W p l e R s m args below meth c H locs gg.1 gg.2 Q (F0 m pc L (stk.map (tr sb b0 ad))) := by
  obtain ⟨hP, hD, hK, hT, hS, hwh, hsc⟩ := hRl
  obtain ⟨hd, rfl⟩ := of_decide_eq_true (p := decode cc pc = .ok (.arraylength, 1) ∧ nx = pc + 1) hok
  replace he : (match (generalizing := false) stk with | (2, q) :: r => if 20 ≤ (LAY q.toNat).1 ∧ (LAY q.toNat).1 ≤ 24 then some (pc + 1, ls, (0, ((LAY q.toNat).2 : Int)) :: r, h, gg) else none | (4, _) :: r => some (pc + 1, ls, (0, (h.2.2.2.1 : Int)) :: r, h, gg) | _ => none) = some (pc', ls', stk', h', gg') := he
  split at he
  · next q r =>
    by_cases hcc : 20 ≤ (LAY q.toNat).1 ∧ (LAY q.toNat).1 ≤ 24
    · rw [if_pos hcc] at he
      simp only [Option.some.injEq, Prod.mk.injEq] at he; obtain ⟨rfl, rfl, rfl, rfl, rfl⟩ := he
      have hw := wvs_c.mp hws
      have hqn := hw.1.2.2 rfl
      have hql : q.toNat < h.2.2.1 := by omega
      have hat : (enW ad ca h)[q.toNat]? = some (ad q.toNat, .inl (ca q.toNat, enA ad (LAY q.toNat).1 (LAY q.toNat).2 h q.toNat)) := by rw [enW_at hql, enC_arr rfl (by omega)]
      obtain ⟨t0, ht0⟩ := hT q.toNat hql hcc.1
      have hlen := LAY_len q.toNat
      exact va_alen hx hb hK hP q.toNat t0 hat ht0 (nI_I3 _) hd (K ad ca tys H locs ⟨fun _ _ => rfl, Nat.le_refl _⟩ ⟨hP, hD, hK, hT, hS, hwh, hsc⟩ (wvs_c.mpr ⟨wv0 (by unfold in32; omega), hw.2⟩) hwl hl)
    · rw [if_neg hcc] at he; cases he
  · next y r =>
    simp only [Option.some.injEq, Prod.mk.injEq] at he; obtain ⟨rfl, rfl, rfl, rfl, rfl⟩ := he
    have hw := wvs_c.mp hws
    have h1 : h.2.2.2.1 = sc.1 := congrArg Prod.fst hsc
    have K' := K ad ca tys H locs ⟨fun _ _ => rfl, Nat.le_refl _⟩ ⟨hP, hD, hK, hT, hS, hwh, hsc⟩ (wvs_c.mpr ⟨wv0 (by unfold in32; omega), hw.2⟩) hwl hl
    refine va_slen hx hb hX (Nat.lt_of_lt_of_le hb0 hbase) (Nat.not_le.mpr hb0) hS hd ?_
    have h2 : Int32.ofNat sc.1 = I3 (h.2.2.2.1 : Int) := by rw [h1]; exact nI_I3 _
    rw [h2]
    exact K'
  · cases he
theorem sD_76 (hx : p.tables.exec = Jvm.exec) (hb : c.code = cc) (hown : s.vm.findClass own = some m.cls) (ho : oN o = own) (hts : ∀ w ∈ wT, w.before args s = true) (hbase : base ≤ H0.size) (hRl : Rl D base H0 s sc ad ca tys h H locs) (hl : lr sb b0 ad nL ls L) (hws : wvs h.2.2.1 stk) (hwl : wvs h.2.2.1 ls) (hgR : al.1 ≤ R.cells ∧ al.2 ≤ R.slots) (hok : okD o ini cc pc (76, nx, ns, vs) = true) (he : effD LAY al (76, nx, ns, vs) ls stk h gg = some (pc', ls', stk', h', gg')) (K : ∀ (ad' : Nat → Nat) (ca' : Nat → ClassId) (tys' : List (ClassId × FieldType)) (H' : Heap) (locs' : List Loc), ((∀ a, a < h.2.2.1 → ad' a = ad a) ∧ h.2.2.1 ≤ h'.2.2.1) → Rl D base H0 s sc ad' ca' tys' h' H' locs' → wvs h'.2.2.1 stk' → wvs h'.2.2.1 ls' → lr sb b0 ad' nL ls' L → W p l e R s m args below meth c H' locs' gg'.1 gg'.2 Q (F0 m pc' L (stk'.map (tr sb b0 ad')))) : W p l e R s m args below meth c H locs gg.1 gg.2 Q (F0 m pc L (stk.map (tr sb b0 ad))) := by
  obtain ⟨hP, hD, hK, hT, hS, hwh, hsc⟩ := hRl
  obtain ⟨rfl, hk⟩ := of_decide_eq_true (p := nx = pc + 2 ∧ ((ns.headD 0 = 20 ∧ decode cc pc = .ok (.newarray .int, 2)) ∨ (ns.headD 0 = 21 ∧ decode cc pc = .ok (.newarray .byte, 2)) ∨ (ns.headD 0 = 22 ∧ decode cc pc = .ok (.newarray .boolean, 2)) ∨ (ns.headD 0 = 23 ∧ decode cc pc = .ok (.newarray .long, 2)))) hok
  replace he : (match (generalizing := false) stk with | (0, x) :: r => if 0 ≤ x ∧ LAY h.2.2.1 = (ns.headD 0, x.toNat) ∧ gg.1 + 1 ≤ al.1 ∧ gg.2 + x.toNat ≤ al.2 then some (pc + 2, ls, (2, (h.2.2.1 : Int)) :: r, (h.1, h.2.1, h.2.2.1 + 1, h.2.2.2), (gg.1 + 1, gg.2 + x.toNat)) else none | _ => none) = some (pc', ls', stk', h', gg') := he
  split at he
  · next x r =>
    by_cases hcc : 0 ≤ x ∧ LAY h.2.2.1 = (ns.headD 0, x.toNat) ∧ gg.1 + 1 ≤ al.1 ∧ gg.2 + x.toNat ≤ al.2
    · rw [if_pos hcc] at he
      simp only [Option.some.injEq, Prod.mk.injEq] at he; obtain ⟨rfl, rfl, rfl, rfl, rfl⟩ := he
      obtain ⟨hx0, hlay, hg1, hg2⟩ := hcc
      have hg1 := Nat.le_trans hg1 hgR.1
      have hg2 := Nat.le_trans hg2 hgR.2
      have hw := wvs_c.mp hws
      have hxx := hw.1.1 rfl
      generalize ns.headD 0 = tg at *
      rcases hk with ⟨rfl, hd⟩ | ⟨rfl, hd⟩ | ⟨rfl, hd⟩ | ⟨rfl, hd⟩
      · refine va_newa (atype := .int) (ty := .int) (a0 := (x.toNat, .inl (fun _ => 0))) hx hb (hts _ AC_int) rfl hK hP hD hS (fun q hq => Nat.le_trans hbase hq) (fun cA => ?_) (fun q => absurd ((I3_lt hxx in32_0).mp q) (by omega)) (I3_cl hxx) ?_ hg1 hg2 hd (fun q cA H1 hK1 hP1 hD1 hS1 => ?_)
        · rfl
        · have : x.toNat ≤ 5000 := by rw [← show (LAY h.2.2.1).2 = x.toNat from congrArg Prod.snd hlay]; exact LAY_len _
          show x.toNat * 4 ≤ 536870912
          omega
        · have hE : enC (fun k => if k = h.2.2.1 then q else ad k) (fun k => if k = h.2.2.1 then cA else ca k) h h.2.2.1 = .inl (cA, x.toNat, .inl (fun _ => 0)) := by
            rw [enC_arr (t := 20) (congrArg Prod.fst hlay) (by decide), if_pos rfl]
            have hlen : (LAY h.2.2.1).2 = x.toNat := congrArg Prod.snd hlay
            rw [hlen]
            show Sum.inl (cA, x.toNat, Sum.inl (fun j => I3 (h.1 h.2.2.1 j))) = _
            congr 4
            funext j
            rw [(hwh.2.2 h.2.2.1 j (Nat.le_refl _)).1]
            rfl
          rw [enW_grow (ad' := fun k => if k = h.2.2.1 then q else ad k) (ca' := fun k => if k = h.2.2.1 then cA else ca k) hwh (fun a ha => if_neg (by omega)) (fun a ha => if_neg (by omega)) (if_pos rfl) hE] at hP1 hD1
          have hag : ∀ a, a < h.2.2.1 → (fun k => if k = h.2.2.1 then q else ad k) a = ad a := fun a ha => if_neg (by omega)
          have K' := K _ _ _ H1 locs ⟨hag, Nat.le_succ _⟩ ⟨hP1, hD1, hK1, fun a ha h20 => ?_, hS1, wh_new hwh, hsc⟩ (wvs_c.mpr ⟨wv2 (by omega) (by show ((h.2.2.1 : Nat) : Int) < ((h.2.2.1 + 1 : Nat) : Int); omega), wvs_up hw.2 (by show h.2.2.1 ≤ h.2.2.1 + 1; omega)⟩) (wvs_up hwl (by show h.2.2.1 ≤ h.2.2.1 + 1; omega)) (lr_ad hag hwl hl)
          · rw [List.map_cons, tr2, trs_ad hag hw.2] at K'
            rw [show (if ((h.2.2.1 : Nat) : Int).toNat = h.2.2.1 then q else ad ((h.2.2.1 : Nat) : Int).toNat) = q from if_pos rfl] at K'
            exact K'
          · have ha : a < h.2.2.1 + 1 := ha
            by_cases hz : a = h.2.2.1
            · subst hz
              refine ⟨tys.length, ?_⟩
              rw [show (if h.2.2.1 = h.2.2.1 then cA else ca h.2.2.1) = cA from if_pos rfl, congrArg Prod.fst hlay]
              simp [ety]
            · obtain ⟨t0, ht0⟩ := hT a (by omega) h20
              refine ⟨t0, ?_⟩
              rw [show (if a = h.2.2.1 then cA else ca a) = ca a from if_neg hz, List.getElem?_append_left (List.getElem?_eq_some_iff.mp ht0).1]
              exact ht0
      · refine va_newa (atype := .byte) (ty := .byte) (a0 := (x.toNat, .inl (fun _ => 0))) hx hb (hts _ AC_byte) rfl hK hP hD hS (fun q hq => Nat.le_trans hbase hq) (fun cA => ?_) (fun q => absurd ((I3_lt hxx in32_0).mp q) (by omega)) (I3_cl hxx) ?_ hg1 hg2 hd (fun q cA H1 hK1 hP1 hD1 hS1 => ?_)
        · rfl
        · have : x.toNat ≤ 5000 := by rw [← show (LAY h.2.2.1).2 = x.toNat from congrArg Prod.snd hlay]; exact LAY_len _
          show x.toNat * 1 ≤ 536870912
          omega
        · have hE : enC (fun k => if k = h.2.2.1 then q else ad k) (fun k => if k = h.2.2.1 then cA else ca k) h h.2.2.1 = .inl (cA, x.toNat, .inl (fun _ => 0)) := by
            rw [enC_arr (t := 21) (congrArg Prod.fst hlay) (by decide), if_pos rfl]
            have hlen : (LAY h.2.2.1).2 = x.toNat := congrArg Prod.snd hlay
            rw [hlen]
            show Sum.inl (cA, x.toNat, Sum.inl (fun j => I3 (h.1 h.2.2.1 j))) = _
            congr 4
            funext j
            rw [(hwh.2.2 h.2.2.1 j (Nat.le_refl _)).1]
            rfl
          rw [enW_grow (ad' := fun k => if k = h.2.2.1 then q else ad k) (ca' := fun k => if k = h.2.2.1 then cA else ca k) hwh (fun a ha => if_neg (by omega)) (fun a ha => if_neg (by omega)) (if_pos rfl) hE] at hP1 hD1
          have hag : ∀ a, a < h.2.2.1 → (fun k => if k = h.2.2.1 then q else ad k) a = ad a := fun a ha => if_neg (by omega)
          have K' := K _ _ _ H1 locs ⟨hag, Nat.le_succ _⟩ ⟨hP1, hD1, hK1, fun a ha h20 => ?_, hS1, wh_new hwh, hsc⟩ (wvs_c.mpr ⟨wv2 (by omega) (by show ((h.2.2.1 : Nat) : Int) < ((h.2.2.1 + 1 : Nat) : Int); omega), wvs_up hw.2 (by show h.2.2.1 ≤ h.2.2.1 + 1; omega)⟩) (wvs_up hwl (by show h.2.2.1 ≤ h.2.2.1 + 1; omega)) (lr_ad hag hwl hl)
          · rw [List.map_cons, tr2, trs_ad hag hw.2] at K'
            rw [show (if ((h.2.2.1 : Nat) : Int).toNat = h.2.2.1 then q else ad ((h.2.2.1 : Nat) : Int).toNat) = q from if_pos rfl] at K'
            exact K'
          · have ha : a < h.2.2.1 + 1 := ha
            by_cases hz : a = h.2.2.1
            · subst hz
              refine ⟨tys.length, ?_⟩
              rw [show (if h.2.2.1 = h.2.2.1 then cA else ca h.2.2.1) = cA from if_pos rfl, congrArg Prod.fst hlay]
              simp [ety]
            · obtain ⟨t0, ht0⟩ := hT a (by omega) h20
              refine ⟨t0, ?_⟩
              rw [show (if a = h.2.2.1 then cA else ca a) = ca a from if_neg hz, List.getElem?_append_left (List.getElem?_eq_some_iff.mp ht0).1]
              exact ht0
      · refine va_newa (atype := .boolean) (ty := .boolean) (a0 := (x.toNat, .inl (fun _ => 0))) hx hb (hts _ AC_boolean) rfl hK hP hD hS (fun q hq => Nat.le_trans hbase hq) (fun cA => ?_) (fun q => absurd ((I3_lt hxx in32_0).mp q) (by omega)) (I3_cl hxx) ?_ hg1 hg2 hd (fun q cA H1 hK1 hP1 hD1 hS1 => ?_)
        · rfl
        · have : x.toNat ≤ 5000 := by rw [← show (LAY h.2.2.1).2 = x.toNat from congrArg Prod.snd hlay]; exact LAY_len _
          show x.toNat * 1 ≤ 536870912
          omega
        · have hE : enC (fun k => if k = h.2.2.1 then q else ad k) (fun k => if k = h.2.2.1 then cA else ca k) h h.2.2.1 = .inl (cA, x.toNat, .inl (fun _ => 0)) := by
            rw [enC_arr (t := 22) (congrArg Prod.fst hlay) (by decide), if_pos rfl]
            have hlen : (LAY h.2.2.1).2 = x.toNat := congrArg Prod.snd hlay
            rw [hlen]
            show Sum.inl (cA, x.toNat, Sum.inl (fun j => I3 (h.1 h.2.2.1 j))) = _
            congr 4
            funext j
            rw [(hwh.2.2 h.2.2.1 j (Nat.le_refl _)).1]
            rfl
          rw [enW_grow (ad' := fun k => if k = h.2.2.1 then q else ad k) (ca' := fun k => if k = h.2.2.1 then cA else ca k) hwh (fun a ha => if_neg (by omega)) (fun a ha => if_neg (by omega)) (if_pos rfl) hE] at hP1 hD1
          have hag : ∀ a, a < h.2.2.1 → (fun k => if k = h.2.2.1 then q else ad k) a = ad a := fun a ha => if_neg (by omega)
          have K' := K _ _ _ H1 locs ⟨hag, Nat.le_succ _⟩ ⟨hP1, hD1, hK1, fun a ha h20 => ?_, hS1, wh_new hwh, hsc⟩ (wvs_c.mpr ⟨wv2 (by omega) (by show ((h.2.2.1 : Nat) : Int) < ((h.2.2.1 + 1 : Nat) : Int); omega), wvs_up hw.2 (by show h.2.2.1 ≤ h.2.2.1 + 1; omega)⟩) (wvs_up hwl (by show h.2.2.1 ≤ h.2.2.1 + 1; omega)) (lr_ad hag hwl hl)
          · rw [List.map_cons, tr2, trs_ad hag hw.2] at K'
            rw [show (if ((h.2.2.1 : Nat) : Int).toNat = h.2.2.1 then q else ad ((h.2.2.1 : Nat) : Int).toNat) = q from if_pos rfl] at K'
            exact K'
          · have ha : a < h.2.2.1 + 1 := ha
            by_cases hz : a = h.2.2.1
            · subst hz
              refine ⟨tys.length, ?_⟩
              rw [show (if h.2.2.1 = h.2.2.1 then cA else ca h.2.2.1) = cA from if_pos rfl, congrArg Prod.fst hlay]
              simp [ety]
            · obtain ⟨t0, ht0⟩ := hT a (by omega) h20
              refine ⟨t0, ?_⟩
              rw [show (if a = h.2.2.1 then cA else ca a) = ca a from if_neg hz, List.getElem?_append_left (List.getElem?_eq_some_iff.mp ht0).1]
              exact ht0
      · refine va_newa (atype := .long) (ty := .long) (a0 := (x.toNat, .inr (.inl (fun _ => 0)))) hx hb (hts _ AC_long) rfl hK hP hD hS (fun q hq => Nat.le_trans hbase hq) (fun cA => ?_) (fun q => absurd ((I3_lt hxx in32_0).mp q) (by omega)) (I3_cl hxx) ?_ hg1 hg2 hd (fun q cA H1 hK1 hP1 hD1 hS1 => ?_)
        · rfl
        · have : x.toNat ≤ 5000 := by rw [← show (LAY h.2.2.1).2 = x.toNat from congrArg Prod.snd hlay]; exact LAY_len _
          show x.toNat * 8 ≤ 536870912
          omega
        · have hE : enC (fun k => if k = h.2.2.1 then q else ad k) (fun k => if k = h.2.2.1 then cA else ca k) h h.2.2.1 = .inl (cA, x.toNat, .inr (.inl (fun _ => 0))) := by
            rw [enC_arr (t := 23) (congrArg Prod.fst hlay) (by decide), if_pos rfl]
            have hlen : (LAY h.2.2.1).2 = x.toNat := congrArg Prod.snd hlay
            rw [hlen]
            show Sum.inl (cA, x.toNat, Sum.inr (Sum.inl (fun j => I6 (h.1 h.2.2.1 j)))) = _
            congr 5
            funext j
            rw [(hwh.2.2 h.2.2.1 j (Nat.le_refl _)).1]
            rfl
          rw [enW_grow (ad' := fun k => if k = h.2.2.1 then q else ad k) (ca' := fun k => if k = h.2.2.1 then cA else ca k) hwh (fun a ha => if_neg (by omega)) (fun a ha => if_neg (by omega)) (if_pos rfl) hE] at hP1 hD1
          have hag : ∀ a, a < h.2.2.1 → (fun k => if k = h.2.2.1 then q else ad k) a = ad a := fun a ha => if_neg (by omega)
          have K' := K _ _ _ H1 locs ⟨hag, Nat.le_succ _⟩ ⟨hP1, hD1, hK1, fun a ha h20 => ?_, hS1, wh_new hwh, hsc⟩ (wvs_c.mpr ⟨wv2 (by omega) (by show ((h.2.2.1 : Nat) : Int) < ((h.2.2.1 + 1 : Nat) : Int); omega), wvs_up hw.2 (by show h.2.2.1 ≤ h.2.2.1 + 1; omega)⟩) (wvs_up hwl (by show h.2.2.1 ≤ h.2.2.1 + 1; omega)) (lr_ad hag hwl hl)
          · rw [List.map_cons, tr2, trs_ad hag hw.2] at K'
            rw [show (if ((h.2.2.1 : Nat) : Int).toNat = h.2.2.1 then q else ad ((h.2.2.1 : Nat) : Int).toNat) = q from if_pos rfl] at K'
            exact K'
          · have ha : a < h.2.2.1 + 1 := ha
            by_cases hz : a = h.2.2.1
            · subst hz
              refine ⟨tys.length, ?_⟩
              rw [show (if h.2.2.1 = h.2.2.1 then cA else ca h.2.2.1) = cA from if_pos rfl, congrArg Prod.fst hlay]
              simp [ety]
            · obtain ⟨t0, ht0⟩ := hT a (by omega) h20
              refine ⟨t0, ?_⟩
              rw [show (if a = h.2.2.1 then cA else ca a) = ca a from if_neg hz, List.getElem?_append_left (List.getElem?_eq_some_iff.mp ht0).1]
              exact ht0
    · rw [if_neg hcc] at he; cases he
  · cases he
theorem sD_77 (hx : p.tables.exec = Jvm.exec) (hb : c.code = cc) (hown : s.vm.findClass own = some m.cls) (ho : oN o = own) (hts : ∀ w ∈ wT, w.before args s = true) (hbase : base ≤ H0.size) (hRl : Rl D base H0 s sc ad ca tys h H locs) (hl : lr sb b0 ad nL ls L) (hws : wvs h.2.2.1 stk) (hwl : wvs h.2.2.1 ls) (hgR : al.1 ≤ R.cells ∧ al.2 ≤ R.slots) (hAO : va_AO (oN 3) s) (hok : okD o ini cc pc (77, nx, ns, vs) = true) (he : effD LAY al (77, nx, ns, vs) ls stk h gg = some (pc', ls', stk', h', gg')) (K : ∀ (ad' : Nat → Nat) (ca' : Nat → ClassId) (tys' : List (ClassId × FieldType)) (H' : Heap) (locs' : List Loc), ((∀ a, a < h.2.2.1 → ad' a = ad a) ∧ h.2.2.1 ≤ h'.2.2.1) → Rl D base H0 s sc ad' ca' tys' h' H' locs' → wvs h'.2.2.1 stk' → wvs h'.2.2.1 ls' → lr sb b0 ad' nL ls' L → W p l e R s m args below meth c H' locs' gg'.1 gg'.2 Q (F0 m pc' L (stk'.map (tr sb b0 ad')))) : W p l e R s m args below meth c H locs gg.1 gg.2 Q (F0 m pc L (stk.map (tr sb b0 ad))) := by
  obtain ⟨hP, hD, hK, hT, hS, hwh, hsc⟩ := hRl
  obtain ⟨rfl, ha24, hlt, hd, f1, f2⟩ := of_decide_eq_true (p := nx = pc + 3 ∧ ns.headD 0 = 24 ∧ ns.tail.headD 0 < CT.length ∧ decode cc pc = .ok (.anewarray (CT.getD (ns.tail.headD 0) (0, 0, 0, 0)).2.1, 3) ∧ (CT.getD (ns.tail.headD 0) (0, 0, 0, 0)).1 = o ∧ (CT.getD (ns.tail.headD 0) (0, 0, 0, 0)).2.2.1 = 3) hok
  replace he : (match (generalizing := false) stk with | (0, x) :: r => if 0 ≤ x ∧ LAY h.2.2.1 = (ns.headD 0, x.toNat) ∧ gg.1 + 1 ≤ al.1 ∧ gg.2 + x.toNat ≤ al.2 then some (pc + 3, ls, (2, (h.2.2.1 : Int)) :: r, (h.1, h.2.1, h.2.2.1 + 1, h.2.2.2), (gg.1 + 1, gg.2 + x.toNat)) else none | _ => none) = some (pc', ls', stk', h', gg') := he
  rw [ha24] at he
  have hq := CT_ok _ (getD_mem (d := (0, 0, 0, 0)) hlt)
  have hlk := hts _ (wT_t hq.1.1 hq.1.2)
  rw [f1, ho, f2] at hlk
  split at he
  · next x r =>
    by_cases hcc : 0 ≤ x ∧ LAY h.2.2.1 = (24, x.toNat) ∧ gg.1 + 1 ≤ al.1 ∧ gg.2 + x.toNat ≤ al.2
    · rw [if_pos hcc] at he
      simp only [Option.some.injEq, Prod.mk.injEq] at he; obtain ⟨rfl, rfl, rfl, rfl, rfl⟩ := he
      obtain ⟨hx0, hlay, hg1, hg2⟩ := hcc
      have hg1 := Nat.le_trans hg1 hgR.1
      have hg2 := Nat.le_trans hg2 hgR.2
      have hw := wvs_c.mp hws
      have hxx := hw.1.1 rfl
      refine va_newq hx hb hown hlk hAO hK hP hD hS (fun q hq => Nat.le_trans hbase hq) (fun q => absurd ((I3_lt hxx in32_0).mp q) (by omega)) (I3_cl hxx) ?_ hg1 hg2 hd (fun q cA H1 hK1 hP1 hD1 hS1 => ?_)
      · have : x.toNat ≤ 5000 := by rw [← show (LAY h.2.2.1).2 = x.toNat from congrArg Prod.snd hlay]; exact LAY_len _
        omega
      · have hE : enC (fun k => if k = h.2.2.1 then q else ad k) (fun k => if k = h.2.2.1 then cA else ca k) h h.2.2.1 = .inl (cA, x.toNat, .inr (.inr (.inr (.inr (fun _ => none))))) := by
          rw [enC_arr (t := 24) (congrArg Prod.fst hlay) (by decide), if_pos rfl]
          have hlen : (LAY h.2.2.1).2 = x.toNat := congrArg Prod.snd hlay
          rw [hlen]
          show Sum.inl (cA, x.toNat, Sum.inr (Sum.inr (Sum.inr (Sum.inr (enQ (fun k => if k = h.2.2.1 then q else ad k) h h.2.2.1))))) = _
          congr 7
          funext j
          unfold enQ
          rw [if_pos (hwh.2.2 h.2.2.1 j (Nat.le_refl _)).2]
        rw [enW_grow (ad' := fun k => if k = h.2.2.1 then q else ad k) (ca' := fun k => if k = h.2.2.1 then cA else ca k) hwh (fun a ha => if_neg (by omega)) (fun a ha => if_neg (by omega)) (if_pos rfl) hE] at hP1 hD1
        have hag : ∀ a, a < h.2.2.1 → (fun k => if k = h.2.2.1 then q else ad k) a = ad a := fun a ha => if_neg (by omega)
        have K' := K _ _ _ H1 locs ⟨hag, Nat.le_succ _⟩ ⟨hP1, hD1, hK1, fun a ha h20 => ?_, hS1, wh_new hwh, hsc⟩ (wvs_c.mpr ⟨wv2 (by omega) (by show ((h.2.2.1 : Nat) : Int) < ((h.2.2.1 + 1 : Nat) : Int); omega), wvs_up hw.2 (by show h.2.2.1 ≤ h.2.2.1 + 1; omega)⟩) (wvs_up hwl (by show h.2.2.1 ≤ h.2.2.1 + 1; omega)) (lr_ad hag hwl hl)
        · rw [List.map_cons, tr2, trs_ad hag hw.2] at K'
          rw [show (if ((h.2.2.1 : Nat) : Int).toNat = h.2.2.1 then q else ad ((h.2.2.1 : Nat) : Int).toNat) = q from if_pos rfl] at K'
          exact K'
        · have ha : a < h.2.2.1 + 1 := ha
          by_cases hz : a = h.2.2.1
          · subst hz
            refine ⟨tys.length, ?_⟩
            rw [show (if h.2.2.1 = h.2.2.1 then cA else ca h.2.2.1) = cA from if_pos rfl, congrArg Prod.fst hlay]
            simp [ety]
          · obtain ⟨t0, ht0⟩ := hT a (by omega) h20
            refine ⟨t0, ?_⟩
            rw [show (if a = h.2.2.1 then cA else ca a) = ca a from if_neg hz, List.getElem?_append_left (List.getElem?_eq_some_iff.mp ht0).1]
            exact ht0
    · rw [if_neg hcc] at he; cases he
  · cases he
theorem sD_78 (hx : p.tables.exec = Jvm.exec) (hb : c.code = cc) (hown : s.vm.findClass own = some m.cls) (ho : oN o = own) (hts : ∀ w ∈ wT, w.before args s = true) (hbase : base ≤ H0.size) (hRl : Rl D base H0 s sc ad ca tys h H locs) (hl : lr sb b0 ad nL ls L) (hws : wvs h.2.2.1 stk) (hwl : wvs h.2.2.1 ls) (hgR : al.1 ≤ R.cells ∧ al.2 ≤ R.slots) (hok : okD o ini cc pc (78, nx, ns, vs) = true) (he : effD LAY al (78, nx, ns, vs) ls stk h gg = some (pc', ls', stk', h', gg')) (K : ∀ (ad' : Nat → Nat) (ca' : Nat → ClassId) (tys' : List (ClassId × FieldType)) (H' : Heap) (locs' : List Loc), ((∀ a, a < h.2.2.1 → ad' a = ad a) ∧ h.2.2.1 ≤ h'.2.2.1) → Rl D base H0 s sc ad' ca' tys' h' H' locs' → wvs h'.2.2.1 stk' → wvs h'.2.2.1 ls' → lr sb b0 ad' nL ls' L → W p l e R s m args below meth c H' locs' gg'.1 gg'.2 Q (F0 m pc' L (stk'.map (tr sb b0 ad')))) : W p l e R s m args below meth c H locs gg.1 gg.2 Q (F0 m pc L (stk.map (tr sb b0 ad))) := by
  obtain ⟨hP, hD, hK, hT, hS, hwh, hsc⟩ := hRl
  obtain ⟨rfl, hlt, hd, f1, f2⟩ := of_decide_eq_true (p := nx = pc + 3 ∧ ns.tail.headD 0 < CT.length ∧ decode cc pc = .ok (.new (CT.getD (ns.tail.headD 0) (0, 0, 0, 0)).2.1, 3) ∧ (CT.getD (ns.tail.headD 0) (0, 0, 0, 0)).1 = o ∧ (CT.getD (ns.tail.headD 0) (0, 0, 0, 0)).2.2.1 = ns.headD 0) hok
  replace he : (if (LAY h.2.2.1).1 = ns.headD 0 ∧ gg.1 + 1 ≤ al.1 ∧ gg.2 + (LAY h.2.2.1).2 ≤ al.2 then some (pc + 3, ls, (2, (h.2.2.1 : Int)) :: stk, (h.1, h.2.1, h.2.2.1 + 1, h.2.2.2), (gg.1 + 1, gg.2 + (LAY h.2.2.1).2)) else none) = some (pc', ls', stk', h', gg') := he
  have hq := CT_ok _ (getD_mem (d := (0, 0, 0, 0)) hlt)
  have hlk := hts _ (wT_t hq.1.1 hq.1.2)
  rw [f1, ho, f2] at hlk
  have hci := hq.2
  rw [f2] at hci
  generalize ns.headD 0 = ci at *
  by_cases hcc : (LAY h.2.2.1).1 = ci ∧ gg.1 + 1 ≤ al.1 ∧ gg.2 + (LAY h.2.2.1).2 ≤ al.2
  · rw [if_pos hcc] at he
    simp only [Option.some.injEq, Prod.mk.injEq] at he; obtain ⟨rfl, rfl, rfl, rfl, rfl⟩ := he
    obtain ⟨hlay, hg1, hg2⟩ := hcc
    have hg1 := Nat.le_trans hg1 hgR.1
    have hg2 := Nat.le_trans hg2 hgR.2
    have hlen : (LAY h.2.2.1).2 = cN ci := by rcases LAY_ok h.2.2.1 with z | z
                                              · rw [← hlay]; exact z.2
                                              · omega
    rw [hlen] at hg2 K
    refine va_new (ci := ci) (fs := (List.range (cN ci)).map (fun j => fv ad (FTY ci j) 0 0)) hx hb hts (cW_all hci) (cT ci) (fun k hk => (cY_all hci k hk).1) hown hlk (hts _ (cI_all hci).1) (hts _ (cI_all hci).2) hK hP hD hS (fun q hq => Nat.le_trans hbase hq) (classes_at hci) (fun j hj => ?_) hg1 hg2 hd (fun q H1 hP1 hD1 hS1 => ?_)
    · rw [(cQ hci j hj).2.2.2]
      unfold vp_V
      rw [List.getD_eq_getElem?_getD, List.getElem?_map, List.getElem?_range hj]
      show _ = fv ad (FTY ci j) 0 0
      unfold fv
      split
      · rfl
      · rfl
    · have hE : enC (fun k => if k = h.2.2.1 then q else ad k) (fun k => if k = h.2.2.1 then 0 else ca k) h h.2.2.1 = .inr (ci, (List.range (cN ci)).map (fun j => fv ad (FTY ci j) 0 0)) := by
        rw [enC_obj hlay (by omega)]
        congr 2
        unfold enO
        apply List.map_congr_left
        intro j _
        rw [(hwh.2.2 h.2.2.1 j (Nat.le_refl _)).1, (hwh.2.2 h.2.2.1 j (Nat.le_refl _)).2]
        rfl
      rw [enW_grow (ad' := fun k => if k = h.2.2.1 then q else ad k) (ca' := fun k => if k = h.2.2.1 then 0 else ca k) hwh (fun a ha => if_neg (by omega)) (fun a ha => if_neg (by omega)) (if_pos rfl) hE] at hP1 hD1
      have hag : ∀ a, a < h.2.2.1 → (fun k => if k = h.2.2.1 then q else ad k) a = ad a := fun a ha => if_neg (by omega)
      have K' := K _ _ tys H1 locs ⟨hag, Nat.le_succ _⟩ ⟨hP1, hD1, hK, fun a ha h20 => ?_, hS1, wh_new hwh, hsc⟩ (wvs_c.mpr ⟨wv2 (by omega) (by show ((h.2.2.1 : Nat) : Int) < ((h.2.2.1 + 1 : Nat) : Int); omega), wvs_up hws (by show h.2.2.1 ≤ h.2.2.1 + 1; omega)⟩) (wvs_up hwl (by show h.2.2.1 ≤ h.2.2.1 + 1; omega)) (lr_ad hag hwl hl)
      · rw [List.map_cons, tr2, trs_ad hag hws] at K'
        rw [show (if ((h.2.2.1 : Nat) : Int).toNat = h.2.2.1 then q else ad ((h.2.2.1 : Nat) : Int).toNat) = q from if_pos rfl] at K'
        exact K'
      · have ha : a < h.2.2.1 + 1 := ha
        by_cases hz : a = h.2.2.1
        · subst hz; omega
        · obtain ⟨t0, ht0⟩ := hT a (by omega) h20
          refine ⟨t0, ?_⟩
          rw [show (if a = h.2.2.1 then 0 else ca a) = ca a from if_neg hz]
          exact ht0
  · rw [if_neg hcc] at he; cases he
theorem sD_95 (hx : p.tables.exec = Jvm.exec) (hb : c.code = cc) (hown : s.vm.findClass own = some m.cls) (ho : oN o = own) (hts : ∀ w ∈ wT, w.before args s = true) (hbase : base ≤ H0.size) (hRl : Rl D base H0 s sc ad ca tys h H locs) (hl : lr sb b0 ad nL ls L) (hws : wvs h.2.2.1 stk) (hwl : wvs h.2.2.1 ls) (hml : c.maxLocals = nL) (hfr : 1 ≤ R.frames) (hlo : 64 ≤ R.locals) (hok : okD o ini cc pc (95, nx, ns, vs) = true) (he : effD LAY al (95, nx, ns, vs) ls stk h gg = some (pc', ls', stk', h', gg')) (K : ∀ (ad' : Nat → Nat) (ca' : Nat → ClassId) (tys' : List (ClassId × FieldType)) (H' : Heap) (locs' : List Loc), ((∀ a, a < h.2.2.1 → ad' a = ad a) ∧ h.2.2.1 ≤ h'.2.2.1) → Rl D base H0 s sc ad' ca' tys' h' H' locs' → wvs h'.2.2.1 stk' → wvs h'.2.2.1 ls' → lr sb b0 ad' nL ls' L → W p l e R s m args below meth c H' locs' gg'.1 gg'.2 Q (F0 m pc' L (stk'.map (tr sb b0 ad')))) : W p l e R s m args below meth c H locs gg.1 gg.2 Q (F0 m pc L (stk.map (tr sb b0 ad))) := by
  obtain ⟨hP, hD, hK, hT, hS, hwh, hsc⟩ := hRl
  obtain ⟨hk, hot⟩ := Bool.and_eq_true_iff.mp (show (decide (nx = pc + 3 ∧ decode cc pc = .ok (.invokespecial (ns.headD 0), 3)) && OT.any (fun q => q.1 == o && q.2.1 == ns.headD 0)) = true from hok)
  obtain ⟨rfl, hd⟩ := of_decide_eq_true hk
  obtain ⟨q, hqm, hq⟩ := List.any_eq_true.mp hot
  simp only [Bool.and_eq_true, beq_iff_eq] at hq
  have hw0 := OT_ok q hqm
  rw [hq.1, hq.2, ho] at hw0
  replace he : (match (generalizing := false) stk with | (2, _) :: r => if r.length ≤ 4 then some (pc + 3, ls, r, h, gg) else none | _ => none) = some (pc', ls', stk', h', gg') := he
  split at he
  · next v r =>
    by_cases hcc : r.length ≤ 4
    · rw [if_pos hcc] at he
      simp only [Option.some.injEq, Prod.mk.injEq] at he; obtain ⟨rfl, rfl, rfl, rfl, rfl⟩ := he
      have hw := wvs_c.mp hws
      have hcs := cat_sum sb b0 ad r
      exact W.objInit hx hb hown (hts _ (wT_t hw0.1 hw0.2)) (hts _ (wT_t OI_ok.1 OI_ok.2.2.1)) (hts _ (wT_t OI_ok.2.1 OI_ok.2.2.2)) rfl (by show L.size = _; rw [hml]; exact hl.1.1) rfl hd hfr (by show 2 * 0 + _ + 12 ≤ _; omega) (K ad ca tys H locs ⟨fun _ _ => rfl, Nat.le_refl _⟩ ⟨hP, hD, hK, hT, hS, hwh, hsc⟩ hw.2 hwl hl)
    · rw [if_neg hcc] at he; cases he
  · cases he
theorem sD_79 (hx : p.tables.exec = Jvm.exec) (hb : c.code = cc) (hown : s.vm.findClass own = some m.cls) (ho : oN o = own) (hts : ∀ w ∈ wT, w.before args s = true) (hbase : base ≤ H0.size) (hRl : Rl D base H0 s sc ad ca tys h H locs) (hl : lr sb b0 ad nL ls L) (hws : wvs h.2.2.1 stk) (hwl : wvs h.2.2.1 ls) (hml : c.maxLocals = nL) (hfr : 1 ≤ R.frames) (hlo : 64 ≤ R.locals) (hgg : gg.1 ≤ R.cells ∧ gg.2 ≤ R.slots) (hok : okD o ini cc pc (79, nx, ns, vs) = true) (he : effD LAY al (79, nx, ns, vs) ls stk h gg = some (pc', ls', stk', h', gg')) (K : ∀ (ad' : Nat → Nat) (ca' : Nat → ClassId) (tys' : List (ClassId × FieldType)) (H' : Heap) (locs' : List Loc), ((∀ a, a < h.2.2.1 → ad' a = ad a) ∧ h.2.2.1 ≤ h'.2.2.1) → Rl D base H0 s sc ad' ca' tys' h' H' locs' → wvs h'.2.2.1 stk' → wvs h'.2.2.1 ls' → lr sb b0 ad' nL ls' L → W p l e R s m args below meth c H' locs' gg'.1 gg'.2 Q (F0 m pc' L (stk'.map (tr sb b0 ad')))) : W p l e R s m args below meth c H locs gg.1 gg.2 Q (F0 m pc L (stk.map (tr sb b0 ad))) := by
  obtain ⟨hP, hD, hK, hT, hS, hwh, hsc⟩ := hRl
  obtain ⟨hk, hot⟩ := Bool.and_eq_true_iff.mp (show (decide (nx = pc + 3 ∧ decode cc pc = .ok (.invokestatic (ns.headD 0), 3)) && XT.any (fun q => q.1 == o && (q.2.1 == ns.headD 0 && q.2.2.1 == 79))) = true from hok)
  obtain ⟨rfl, hd⟩ := of_decide_eq_true hk
  obtain ⟨q, hqm, hq⟩ := List.any_eq_true.mp hot
  simp only [Bool.and_eq_true, beq_iff_eq] at hq
  have hw0 := XT_ok q hqm
  rw [hq.1, hq.2.1, hq.2.2, ho] at hw0
  replace he : (match (generalizing := false) stk with | (0, y) :: (0, x) :: r => if r.length ≤ 4 then some (pc + 3, ls, (0, if x < y then y else x) :: r, h, gg) else none | _ => none) = some (pc', ls', stk', h', gg') := he
  split at he
  · next y x r =>
    by_cases hcc : r.length ≤ 4
    · rw [if_pos hcc] at he
      simp only [Option.some.injEq, Prod.mk.injEq] at he; obtain ⟨rfl, rfl, rfl, rfl, rfl⟩ := he
      have hw := wvs_c.mp hws
      have hw2 := wvs_c.mp hw.2
      have hy := hw.1.1 rfl
      have hxx := hw2.1.1 rfl
      have hcs := cat_sum sb b0 ad r
      have K' := K ad ca tys H locs ⟨fun _ _ => rfl, Nat.le_refl _⟩ ⟨hP, hD, hK, hT, hS, hwh, hsc⟩ (wvs_c.mpr ⟨wv0 (by split; exact hy; exact hxx), hw2.2⟩) hwl hl
      have hr : (if I3 x < I3 y then I3 y else I3 x) = I3 (if x < y then y else x) := by
        by_cases z : x < y
        · rw [if_pos z, if_pos ((I3_lt hxx hy).mpr z)]
        · rw [if_neg z, if_neg (fun q => z ((I3_lt hxx hy).mp q))]
      refine va_mmax hx hb (by rw [hml]; exact hl.1.1.symm) hown (hts _ (wT_t hw0.1 hw0.2)) (hts _ (wT_t XI_ok.2.1.1 XI_ok.2.1.2)) (hts _ (wT_t XI_ok.1.1 XI_ok.1.2)) (hts _ (wT_t XC_ok.1.1 XC_ok.1.2)) hfr (by omega) hgg.1 hgg.2 hd ?_
      rw [hr]
      exact K'
    · rw [if_neg hcc] at he; cases he
  · cases he
theorem sD_89 (hx : p.tables.exec = Jvm.exec) (hb : c.code = cc) (hown : s.vm.findClass own = some m.cls) (ho : oN o = own) (hts : ∀ w ∈ wT, w.before args s = true) (hbase : base ≤ H0.size) (hRl : Rl D base H0 s sc ad ca tys h H locs) (hl : lr sb b0 ad nL ls L) (hws : wvs h.2.2.1 stk) (hwl : wvs h.2.2.1 ls) (hml : c.maxLocals = nL) (hfr : 1 ≤ R.frames) (hlo : 64 ≤ R.locals) (hgg : gg.1 ≤ R.cells ∧ gg.2 ≤ R.slots) (hok : okD o ini cc pc (89, nx, ns, vs) = true) (he : effD LAY al (89, nx, ns, vs) ls stk h gg = some (pc', ls', stk', h', gg')) (K : ∀ (ad' : Nat → Nat) (ca' : Nat → ClassId) (tys' : List (ClassId × FieldType)) (H' : Heap) (locs' : List Loc), ((∀ a, a < h.2.2.1 → ad' a = ad a) ∧ h.2.2.1 ≤ h'.2.2.1) → Rl D base H0 s sc ad' ca' tys' h' H' locs' → wvs h'.2.2.1 stk' → wvs h'.2.2.1 ls' → lr sb b0 ad' nL ls' L → W p l e R s m args below meth c H' locs' gg'.1 gg'.2 Q (F0 m pc' L (stk'.map (tr sb b0 ad')))) : W p l e R s m args below meth c H locs gg.1 gg.2 Q (F0 m pc L (stk.map (tr sb b0 ad))) := by
  obtain ⟨hP, hD, hK, hT, hS, hwh, hsc⟩ := hRl
  obtain ⟨hk, hot⟩ := Bool.and_eq_true_iff.mp (show (decide (nx = pc + 3 ∧ decode cc pc = .ok (.invokestatic (ns.headD 0), 3)) && XT.any (fun q => q.1 == o && (q.2.1 == ns.headD 0 && q.2.2.1 == 89))) = true from hok)
  obtain ⟨rfl, hd⟩ := of_decide_eq_true hk
  obtain ⟨q, hqm, hq⟩ := List.any_eq_true.mp hot
  simp only [Bool.and_eq_true, beq_iff_eq] at hq
  have hw0 := XT_ok q hqm
  rw [hq.1, hq.2.1, hq.2.2, ho] at hw0
  replace he : (match (generalizing := false) stk with | (0, y) :: (0, x) :: r => if r.length ≤ 4 then some (pc + 3, ls, (0, if y < x then y else x) :: r, h, gg) else none | _ => none) = some (pc', ls', stk', h', gg') := he
  split at he
  · next y x r =>
    by_cases hcc : r.length ≤ 4
    · rw [if_pos hcc] at he
      simp only [Option.some.injEq, Prod.mk.injEq] at he; obtain ⟨rfl, rfl, rfl, rfl, rfl⟩ := he
      have hw := wvs_c.mp hws
      have hw2 := wvs_c.mp hw.2
      have hy := hw.1.1 rfl
      have hxx := hw2.1.1 rfl
      have hcs := cat_sum sb b0 ad r
      have K' := K ad ca tys H locs ⟨fun _ _ => rfl, Nat.le_refl _⟩ ⟨hP, hD, hK, hT, hS, hwh, hsc⟩ (wvs_c.mpr ⟨wv0 (by split; exact hy; exact hxx), hw2.2⟩) hwl hl
      have hr : (if I3 y < I3 x then I3 y else I3 x) = I3 (if y < x then y else x) := by
        by_cases z : y < x
        · rw [if_pos z, if_pos ((I3_lt hy hxx).mpr z)]
        · rw [if_neg z, if_neg (fun q => z ((I3_lt hy hxx).mp q))]
      refine va_mmin hx hb (by rw [hml]; exact hl.1.1.symm) hown (hts _ (wT_t hw0.1 hw0.2)) (hts _ (wT_t XI_ok.2.2.1.1 XI_ok.2.2.1.2)) (hts _ (wT_t XI_ok.1.1 XI_ok.1.2)) (hts _ (wT_t XC_ok.2.1.1 XC_ok.2.1.2)) hfr (by omega) hgg.1 hgg.2 hd ?_
      rw [hr]
      exact K'
    · rw [if_neg hcc] at he; cases he
  · cases he
theorem sD_98 (hx : p.tables.exec = Jvm.exec) (hb : c.code = cc) (hown : s.vm.findClass own = some m.cls) (ho : oN o = own) (hts : ∀ w ∈ wT, w.before args s = true) (hbase : base ≤ H0.size) (hRl : Rl D base H0 s sc ad ca tys h H locs) (hl : lr sb b0 ad nL ls L) (hws : wvs h.2.2.1 stk) (hwl : wvs h.2.2.1 ls) (hml : c.maxLocals = nL) (hfr : 1 ≤ R.frames) (hlo : 64 ≤ R.locals) (hgg : gg.1 ≤ R.cells ∧ gg.2 ≤ R.slots) (hok : okD o ini cc pc (98, nx, ns, vs) = true) (he : effD LAY al (98, nx, ns, vs) ls stk h gg = some (pc', ls', stk', h', gg')) (K : ∀ (ad' : Nat → Nat) (ca' : Nat → ClassId) (tys' : List (ClassId × FieldType)) (H' : Heap) (locs' : List Loc), ((∀ a, a < h.2.2.1 → ad' a = ad a) ∧ h.2.2.1 ≤ h'.2.2.1) → Rl D base H0 s sc ad' ca' tys' h' H' locs' → wvs h'.2.2.1 stk' → wvs h'.2.2.1 ls' → lr sb b0 ad' nL ls' L → W p l e R s m args below meth c H' locs' gg'.1 gg'.2 Q (F0 m pc' L (stk'.map (tr sb b0 ad')))) : W p l e R s m args below meth c H locs gg.1 gg.2 Q (F0 m pc L (stk.map (tr sb b0 ad))) := by
  obtain ⟨hP, hD, hK, hT, hS, hwh, hsc⟩ := hRl
  obtain ⟨hk, hot⟩ := Bool.and_eq_true_iff.mp (show (decide (nx = pc + 3 ∧ decode cc pc = .ok (.invokestatic (ns.headD 0), 3)) && XT.any (fun q => q.1 == o && (q.2.1 == ns.headD 0 && q.2.2.1 == 98))) = true from hok)
  obtain ⟨rfl, hd⟩ := of_decide_eq_true hk
  obtain ⟨q, hqm, hq⟩ := List.any_eq_true.mp hot
  simp only [Bool.and_eq_true, beq_iff_eq] at hq
  have hw0 := XT_ok q hqm
  rw [hq.1, hq.2.1, hq.2.2, ho] at hw0
  replace he : (match (generalizing := false) stk with | (0, x) :: r => if r.length ≤ 4 then some (pc + 3, ls, (0, if 0 ≤ x then x else w32 (0 - x)) :: r, h, gg) else none | _ => none) = some (pc', ls', stk', h', gg') := he
  split at he
  · next x r =>
    by_cases hcc : r.length ≤ 4
    · rw [if_pos hcc] at he
      simp only [Option.some.injEq, Prod.mk.injEq] at he; obtain ⟨rfl, rfl, rfl, rfl, rfl⟩ := he
      have hw := wvs_c.mp hws
      have hxx := hw.1.1 rfl
      have hcs := cat_sum sb b0 ad r
      have K' := K ad ca tys H locs ⟨fun _ _ => rfl, Nat.le_refl _⟩ ⟨hP, hD, hK, hT, hS, hwh, hsc⟩ (wvs_c.mpr ⟨wv0 (by split; exact hxx; exact w32_in _), hw.2⟩) hwl hl
      have hr : (if 0 ≤ I3 x then I3 x else 0 - I3 x) = I3 (if 0 ≤ x then x else w32 (0 - x)) := by
        by_cases z : 0 ≤ x
        · rw [if_pos z, if_pos (show (0 : Int32) ≤ I3 x from (I3_le in32_0 hxx).mpr z)]
        · rw [if_neg z, if_neg (fun q : (0 : Int32) ≤ I3 x => z ((I3_le in32_0 hxx).mp q))]; exact I3_sub 0 x
      refine va_mabs hx hb (by rw [hml]; exact hl.1.1.symm) hown (hts _ (wT_t hw0.1 hw0.2)) (hts _ (wT_t XI_ok.2.2.2.1 XI_ok.2.2.2.2)) (hts _ (wT_t XI_ok.1.1 XI_ok.1.2)) (hts _ (wT_t XC_ok.2.2.1 XC_ok.2.2.2)) hfr (by omega) hgg.1 hgg.2 hd ?_
      rw [hr]
      exact K'
    · rw [if_neg hcc] at he; cases he
  · cases he
theorem sD_96 (hx : p.tables.exec = Jvm.exec) (hb : c.code = cc) (hown : s.vm.findClass own = some m.cls) (ho : oN o = own) (hts : ∀ w ∈ wT, w.before args s = true) (hbase : base ≤ H0.size) (hRl : Rl D base H0 s sc ad ca tys h H locs) (hl : lr sb b0 ad nL ls L) (hws : wvs h.2.2.1 stk) (hwl : wvs h.2.2.1 ls) (hml : c.maxLocals = nL) (hfr : 1 ≤ R.frames) (hlo : 64 ≤ R.locals) (hok : okD o ini cc pc (96, nx, ns, vs) = true) (he : effD LAY al (96, nx, ns, vs) ls stk h gg = some (pc', ls', stk', h', gg')) (K : ∀ (ad' : Nat → Nat) (ca' : Nat → ClassId) (tys' : List (ClassId × FieldType)) (H' : Heap) (locs' : List Loc), ((∀ a, a < h.2.2.1 → ad' a = ad a) ∧ h.2.2.1 ≤ h'.2.2.1) → Rl D base H0 s sc ad' ca' tys' h' H' locs' → wvs h'.2.2.1 stk' → wvs h'.2.2.1 ls' → lr sb b0 ad' nL ls' L → W p l e R s m args below meth c H' locs' gg'.1 gg'.2 Q (F0 m pc' L (stk'.map (tr sb b0 ad')))) : W p l e R s m args below meth c H locs gg.1 gg.2 Q (F0 m pc L (stk.map (tr sb b0 ad))) := by
  obtain ⟨hP, hD, hK, hT, hS, hwh, hsc⟩ := hRl
  obtain ⟨hk, hot⟩ := Bool.and_eq_true_iff.mp (show (decide (nx = pc + 3 ∧ decode cc pc = .ok (.invokestatic (ns.headD 0), 3)) && AT.any (fun q => q.1 == o && q.2.1 == ns.headD 0)) = true from hok)
  obtain ⟨rfl, hd⟩ := of_decide_eq_true hk
  obtain ⟨q0, hqm, hq⟩ := List.any_eq_true.mp hot
  simp only [Bool.and_eq_true, beq_iff_eq] at hq
  have hw0 := AT_ok q0 hqm
  rw [hq.1, hq.2, ho] at hw0
  replace he : (match (generalizing := false) stk with | (0, n) :: (0, dp) :: (2, q) :: (0, sp) :: (2, p) :: r => if ((LAY p.toNat).1 = 20 ∨ (LAY p.toNat).1 = 21) ∧ (LAY q.toNat).1 = (LAY p.toNat).1 ∧ 0 ≤ sp ∧ 0 ≤ dp ∧ 0 ≤ n ∧ sp + n ≤ ((LAY p.toNat).2 : Int) ∧ dp + n ≤ ((LAY q.toNat).2 : Int) ∧ r.length ≤ 4 then some (pc + 3, ls, r, (cp2 h.1 p.toNat sp.toNat q.toNat dp.toNat n.toNat, h.2), gg) else none | _ => none) = some (pc', ls', stk', h', gg') := he
  split at he
  · next nn dp q sp p' r =>
    by_cases hcc : ((LAY p'.toNat).1 = 20 ∨ (LAY p'.toNat).1 = 21) ∧ (LAY q.toNat).1 = (LAY p'.toNat).1 ∧ 0 ≤ sp ∧ 0 ≤ dp ∧ 0 ≤ nn ∧ sp + nn ≤ ((LAY p'.toNat).2 : Int) ∧ dp + nn ≤ ((LAY q.toNat).2 : Int) ∧ r.length ≤ 4
    · rw [if_pos hcc] at he
      simp only [Option.some.injEq, Prod.mk.injEq] at he; obtain ⟨rfl, rfl, rfl, rfl, rfl⟩ := he
      obtain ⟨hcp, hcq, hs0, hd0, hn0, hsn, hdn, hr4⟩ := hcc
      have hw := wvs_c.mp hws
      have hw2 := wvs_c.mp hw.2
      have hw3 := wvs_c.mp hw2.2
      have hw4 := wvs_c.mp hw3.2
      have hw5 := wvs_c.mp hw4.2
      have hnx := hw.1.1 rfl
      have hdx := hw2.1.1 rfl
      have hsx := hw4.1.1 rfl
      have hqn := hw3.1.2.2 rfl
      have hql : q.toNat < h.2.2.1 := by omega
      have hpn := hw5.1.2.2 rfl
      have hpl : p'.toNat < h.2.2.1 := by omega
      have hcs := cat_sum sb b0 ad r
      have hwh' : wh (cp2 h.1 p'.toNat sp.toNat q.toNat dp.toNat nn.toNat, h.2) := by
        refine ⟨fun a j => ?_, hwh.2.1, fun a j ha => ⟨?_, (hwh.2.2 a j ha).2⟩⟩
        · show wx _ (cp2 _ _ _ _ _ _ a j)
          unfold cp2
          split
          · next z => rw [z.1, hcq]; exact hwh.1 _ _
          · exact hwh.1 a j
        · have ha : h.2.2.1 ≤ a := ha
          show cp2 _ _ _ _ _ _ a j = 0
          unfold cp2
          rw [if_neg (fun z => by omega)]
          exact (hwh.2.2 a j ha).1
      rcases hcp with hcp | hcp
      · have hatp : (enW ad ca h)[p'.toNat]? = some (ad p'.toNat, .inl (ca p'.toNat, (LAY p'.toNat).2, .inl (fun j => I3 (h.1 p'.toNat j)))) := by rw [enW_at hpl, enC_arr hcp (by decide)]; rfl
        have hc := hcq.trans hcp
        have hat : (enW ad ca h)[q.toNat]? = some (ad q.toNat, .inl (ca q.toNat, (LAY q.toNat).2, .inl (fun j => I3 (h.1 q.toNat j)))) := by rw [enW_at hql, enC_arr hc (by decide)]; rfl
        obtain ⟨t1, ht1⟩ := hT p'.toNat hpl (by rw [hcp]; decide)
        rw [hcp] at ht1
        obtain ⟨t0, ht0⟩ := hT q.toNat hql (by rw [hc]; decide)
        rw [hc] at ht0
        refine va_copyi (ty := .int) hx hb (by rw [hml]; exact hl.1.1.symm) hown (hts _ (wT_t hw0.1 hw0.2)) (hts _ (wT_t AI_ok.1 AI_ok.2.2.2.1)) (hts _ (wT_t AI_ok.2.1 AI_ok.2.2.2.2.1)) (hts _ (wT_t AI_ok.2.2.1 AI_ok.2.2.2.2.2)) hK hP hD hS p'.toNat q.toNat t1 t0 hatp hat ht1 ht0 rfl (fun z => absurd ((I3_lt hsx in32_0).mp z) (by omega)) (fun z => absurd ((I3_lt hdx in32_0).mp z) (by omega)) (fun z => absurd ((I3_lt hnx in32_0).mp z) (by omega)) (by rw [I3_cl hsx, I3_cl hnx]; omega) (by rw [I3_cl hdx, I3_cl hnx]; omega) (fun i _ => ?_) hfr ?_ hd (fun H1 locs1 hP1 hD1 hS1 => ?_)
        · rfl
        · have : nativeFrameWords "java/lang/System" "arraycopy" 5 + 11 ≤ 56 := by decide
          omega
        · have hset : (enW ad ca h).set q.toNat (ad q.toNat, .inl (ca q.toNat, (LAY q.toNat).2, .inl (va_cpy (fun j => I3 (h.1 p'.toNat j)) (fun j => I3 (h.1 q.toNat j)) sp.toNat dp.toNat nn.toNat))) = enW ad ca (cp2 h.1 p'.toNat sp.toNat q.toNat dp.toNat nn.toNat, h.2) := by
            refine enW_set rfl ?_ (fun b hb => ⟨by funext j; show cp2 _ _ _ _ _ _ b j = _; unfold cp2; rw [if_neg (fun z => hb z.1)], rfl⟩)
            rw [enC_arr hc (by decide)]
            show Sum.inl (ca q.toNat, (LAY q.toNat).2, Sum.inl (fun j => I3 (cp2 h.1 p'.toNat sp.toNat q.toNat dp.toNat nn.toNat q.toNat j))) = _
            congr 4
            funext j
            unfold cp2 va_cpy
            by_cases z : dp.toNat ≤ j ∧ j < dp.toNat + nn.toNat
            · rw [if_pos z, if_pos ⟨rfl, z⟩]
            · rw [if_neg z, if_neg (fun w => z w.2)]
          rw [I3_cl hsx, I3_cl hdx, I3_cl hnx, hset] at hP1 hD1
          exact K ad ca tys H1 locs1 ⟨fun _ _ => rfl, Nat.le_refl _⟩ ⟨hP1, hD1, hK, hT, hS1, hwh', hsc⟩ hw5.2 hwl hl
      · have hatp : (enW ad ca h)[p'.toNat]? = some (ad p'.toNat, .inl (ca p'.toNat, (LAY p'.toNat).2, .inl (fun j => I3 (h.1 p'.toNat j)))) := by rw [enW_at hpl, enC_arr hcp (by decide)]; rfl
        have hc := hcq.trans hcp
        have hat : (enW ad ca h)[q.toNat]? = some (ad q.toNat, .inl (ca q.toNat, (LAY q.toNat).2, .inl (fun j => I3 (h.1 q.toNat j)))) := by rw [enW_at hql, enC_arr hc (by decide)]; rfl
        obtain ⟨t1, ht1⟩ := hT p'.toNat hpl (by rw [hcp]; decide)
        rw [hcp] at ht1
        obtain ⟨t0, ht0⟩ := hT q.toNat hql (by rw [hc]; decide)
        rw [hc] at ht0
        refine va_copyi (ty := .byte) hx hb (by rw [hml]; exact hl.1.1.symm) hown (hts _ (wT_t hw0.1 hw0.2)) (hts _ (wT_t AI_ok.1 AI_ok.2.2.2.1)) (hts _ (wT_t AI_ok.2.1 AI_ok.2.2.2.2.1)) (hts _ (wT_t AI_ok.2.2.1 AI_ok.2.2.2.2.2)) hK hP hD hS p'.toNat q.toNat t1 t0 hatp hat ht1 ht0 rfl (fun z => absurd ((I3_lt hsx in32_0).mp z) (by omega)) (fun z => absurd ((I3_lt hdx in32_0).mp z) (by omega)) (fun z => absurd ((I3_lt hnx in32_0).mp z) (by omega)) (by rw [I3_cl hsx, I3_cl hnx]; omega) (by rw [I3_cl hdx, I3_cl hnx]; omega) (fun i _ => ?_) hfr ?_ hd (fun H1 locs1 hP1 hD1 hS1 => ?_)
        · have hb8 := hwh.1 p'.toNat ((I3 sp).toNatClampNeg + i)
          rw [hcp] at hb8
          have hb8 : -128 ≤ h.1 p'.toNat ((I3 sp).toNatClampNeg + i) ∧ h.1 p'.toNat ((I3 sp).toNatClampNeg + i) < 128 := hb8
          have e1 := I3_le (x := -128) (y := h.1 p'.toNat ((I3 sp).toNatClampNeg + i)) (by unfold in32; omega) (by unfold in32; omega)
          have e2 := I3_le (x := h.1 p'.toNat ((I3 sp).toNatClampNeg + i)) (y := 127) (by unfold in32; omega) (by unfold in32; omega)
          show (decide ((-128 : Int32) ≤ _) && decide (_ ≤ (127 : Int32))) = true
          exact Bool.and_eq_true_iff.mpr ⟨decide_eq_true (e1.mpr hb8.1), decide_eq_true (e2.mpr (by omega))⟩
        · have : nativeFrameWords "java/lang/System" "arraycopy" 5 + 11 ≤ 56 := by decide
          omega
        · have hset : (enW ad ca h).set q.toNat (ad q.toNat, .inl (ca q.toNat, (LAY q.toNat).2, .inl (va_cpy (fun j => I3 (h.1 p'.toNat j)) (fun j => I3 (h.1 q.toNat j)) sp.toNat dp.toNat nn.toNat))) = enW ad ca (cp2 h.1 p'.toNat sp.toNat q.toNat dp.toNat nn.toNat, h.2) := by
            refine enW_set rfl ?_ (fun b hb => ⟨by funext j; show cp2 _ _ _ _ _ _ b j = _; unfold cp2; rw [if_neg (fun z => hb z.1)], rfl⟩)
            rw [enC_arr hc (by decide)]
            show Sum.inl (ca q.toNat, (LAY q.toNat).2, Sum.inl (fun j => I3 (cp2 h.1 p'.toNat sp.toNat q.toNat dp.toNat nn.toNat q.toNat j))) = _
            congr 4
            funext j
            unfold cp2 va_cpy
            by_cases z : dp.toNat ≤ j ∧ j < dp.toNat + nn.toNat
            · rw [if_pos z, if_pos ⟨rfl, z⟩]
            · rw [if_neg z, if_neg (fun w => z w.2)]
          rw [I3_cl hsx, I3_cl hdx, I3_cl hnx, hset] at hP1 hD1
          exact K ad ca tys H1 locs1 ⟨fun _ _ => rfl, Nat.le_refl _⟩ ⟨hP1, hD1, hK, hT, hS1, hwh', hsc⟩ hw5.2 hwl hl
    · rw [if_neg hcc] at he; cases he
  · cases he
theorem sD_97 (hx : p.tables.exec = Jvm.exec) (hb : c.code = cc) (hown : s.vm.findClass own = some m.cls) (ho : oN o = own) (hts : ∀ w ∈ wT, w.before args s = true) (hbase : base ≤ H0.size) (hRl : Rl D base H0 s sc ad ca tys h H locs) (hl : lr sb b0 ad nL ls L) (hws : wvs h.2.2.1 stk) (hwl : wvs h.2.2.1 ls) (hidx : ∀ (x : Int) (r : List AV) (ix : Nat), 0 ≤ x → x < 256 → o = 4 → r.length ≤ 4 → decode cc pc = .ok (.invokevirtual ix, 3) → W p l e R s m args below meth c H locs gg.1 gg.2 Q (F0 m (pc + 3) L (.int (I3 (idxOf [115, 100, 103, 109, 98, 97, 111, 119, 108, 104, 121, 113] 0 x)) :: r.map (tr sb b0 ad))) → W p l e R s m args below meth c H locs gg.1 gg.2 Q (F0 m pc L (.int (I3 x) :: .ref sb :: r.map (tr sb b0 ad)))) (hok : okD o ini cc pc (97, nx, ns, vs) = true) (he : effD LAY al (97, nx, ns, vs) ls stk h gg = some (pc', ls', stk', h', gg')) (K : ∀ (ad' : Nat → Nat) (ca' : Nat → ClassId) (tys' : List (ClassId × FieldType)) (H' : Heap) (locs' : List Loc), ((∀ a, a < h.2.2.1 → ad' a = ad a) ∧ h.2.2.1 ≤ h'.2.2.1) → Rl D base H0 s sc ad' ca' tys' h' H' locs' → wvs h'.2.2.1 stk' → wvs h'.2.2.1 ls' → lr sb b0 ad' nL ls' L → W p l e R s m args below meth c H' locs' gg'.1 gg'.2 Q (F0 m pc' L (stk'.map (tr sb b0 ad')))) : W p l e R s m args below meth c H locs gg.1 gg.2 Q (F0 m pc L (stk.map (tr sb b0 ad))) := by
  obtain ⟨hP, hD, hK, hT, hS, hwh, hsc⟩ := hRl
  obtain ⟨rfl, hd, ho4, hvs⟩ := of_decide_eq_true (p := nx = pc + 3 ∧ decode cc pc = .ok (.invokevirtual (ns.headD 0), 3) ∧ o = 4 ∧ vs = [115, 100, 103, 109, 98, 97, 111, 119, 108, 104, 121, 113]) hok
  replace he : (match (generalizing := false) stk with | (0, x) :: (5, _) :: r => if r.length ≤ 4 ∧ 0 ≤ x ∧ x < 256 then some (pc + 3, ls, (0, idxOf vs 0 x) :: r, h, gg) else none | _ => none) = some (pc', ls', stk', h', gg') := he
  rw [hvs] at he
  split at he
  · next x y r =>
    by_cases hcc : r.length ≤ 4 ∧ 0 ≤ x ∧ x < 256
    · rw [if_pos hcc] at he
      simp only [Option.some.injEq, Prod.mk.injEq] at he; obtain ⟨rfl, rfl, rfl, rfl, rfl⟩ := he
      have hw := wvs_c.mp hws
      have hw2 := wvs_c.mp hw.2
      have hr : in32 (idxOf [115, 100, 103, 109, 98, 97, 111, 119, 108, 104, 121, 113] 0 x) := by
        unfold idxOf idxOf idxOf idxOf idxOf idxOf idxOf idxOf idxOf idxOf idxOf idxOf idxOf in32
        repeat' split
        all_goals omega
      exact hidx x r _ hcc.2.1 hcc.2.2 ho4 hcc.1 hd (K ad ca tys H locs ⟨fun _ _ => rfl, Nat.le_refl _⟩ ⟨hP, hD, hK, hT, hS, hwh, hsc⟩ (wvs_c.mpr ⟨wv0 hr, hw2.2⟩) hwl hl)
    · rw [if_neg hcc] at he; cases he
  · cases he
end SNDD
