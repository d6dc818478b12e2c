/-! whole methods: what the small machine says of a call, the machine does -/
theorem lk_99 {l : List (Nat × Ins)} {q : Nat} (h : (lk l q).1 = 99) (hs : ∀ p ∈ l, p.2.1 ≠ 99) : lk l q = (99, 0, [], []) := by
  induction l with
  | nil => rfl
  | cons x l ih =>
    obtain ⟨p, i⟩ := x
    unfold lk at h ⊢
    by_cases e : p = q
    · rw [if_pos e] at h; exact absurd h (hs (p, i) List.mem_cons_self)
    · rw [if_neg e] at h ⊢; exact ih h (fun x hx => hs x (List.mem_cons_of_mem _ hx))
theorem OP97_0 : ∀ e ∈ MTL_0, (e.2.2.2.2.2.2.2.2.2.2).all (fun q => q.2.1 != 97 || q.2.2.2.1.headD 0 == 123) = true := by decide +kernel
theorem OP97_1 : ∀ e ∈ MTL_1, (e.2.2.2.2.2.2.2.2.2.2).all (fun q => q.2.1 != 97 || q.2.2.2.1.headD 0 == 123) = true := by decide +kernel
theorem OP97_2 : ∀ e ∈ MTL_2, (e.2.2.2.2.2.2.2.2.2.2).all (fun q => q.2.1 != 97 || q.2.2.2.1.headD 0 == 123) = true := by decide +kernel
theorem OP97_3 : ∀ e ∈ MTL_3, (e.2.2.2.2.2.2.2.2.2.2).all (fun q => q.2.1 != 97 || q.2.2.2.1.headD 0 == 123) = true := by decide +kernel
theorem OP97_4 : ∀ e ∈ MTL_4, (e.2.2.2.2.2.2.2.2.2.2).all (fun q => q.2.1 != 97 || q.2.2.2.1.headD 0 == 123) = true := by decide +kernel
theorem OP97_5 : ∀ e ∈ MTL_5, (e.2.2.2.2.2.2.2.2.2.2).all (fun q => q.2.1 != 97 || q.2.2.2.1.headD 0 == 123) = true := by decide +kernel
theorem OP97_6 : ∀ e ∈ MTL_6, (e.2.2.2.2.2.2.2.2.2.2).all (fun q => q.2.1 != 97 || q.2.2.2.1.headD 0 == 123) = true := by decide +kernel
theorem OP97_7 : ∀ e ∈ MTL_7, (e.2.2.2.2.2.2.2.2.2.2).all (fun q => q.2.1 != 97 || q.2.2.2.1.headD 0 == 123) = true := by decide +kernel
theorem OP97_8 : ∀ e ∈ MTL_8, (e.2.2.2.2.2.2.2.2.2.2).all (fun q => q.2.1 != 97 || q.2.2.2.1.headD 0 == 123) = true := by decide +kernel
theorem OP97_9 : ∀ e ∈ MTL_9, (e.2.2.2.2.2.2.2.2.2.2).all (fun q => q.2.1 != 97 || q.2.2.2.1.headD 0 == 123) = true := by decide +kernel
theorem OP97_10 : ∀ e ∈ MTL_10, (e.2.2.2.2.2.2.2.2.2.2).all (fun q => q.2.1 != 97 || q.2.2.2.1.headD 0 == 123) = true := by decide +kernel
theorem OP97_law : cd_345.all (fun q => q.2.1 != 97 || q.2.2.2.1.headD 0 == 123) = true := by decide +kernel
theorem OP97 (M : Nat) : (mK M).all (fun q => q.2.1 != 97 || q.2.2.2.1.headD 0 == 123) = true := by
  by_cases h : M = 345
  · subst h; exact OP97_law
  · have h1 : ∀ e ∈ MTL, (e.2.2.2.2.2.2.2.2.2.2).all (fun q => q.2.1 != 97 || q.2.2.2.1.headD 0 == 123) = true := by
      unfold MTL
      simp only [List.forall_mem_append]
      exact ⟨OP97_0, OP97_1, OP97_2, OP97_3, OP97_4, OP97_5, OP97_6, OP97_7, OP97_8, OP97_9, OP97_10⟩
    exact h1 _ (mt_mem h)
theorem op97_at {M pc : Nat} (h99 : (lk (mK M) pc).1 ≠ 99) : (lk (mK M) pc).1 = 97 → (lk (mK M) pc).2.2.1.headD 0 = 123 := by
  intro h
  have := List.all_eq_true.mp (OP97 M) _ (lk_mem h99)
  simp only [h] at this
  simpa using this
section SNDF
variable {p : Program} {l : Launch} {e : Env} {R : Room} {s : State} {m : MethodId} {args : Array Value} {below : List Frame} {meth : Method} {c : Code} {H H0 : Heap} {locs : List Loc} {Q : State → Prop} {cc : ByteArray} {own : String} {nL : Nat} {sb b0 base : Nat} {ad : Nat → Nat} {ca : Nat → ClassId} {tys : List (ClassId × FieldType)} {D : va_G} {sc : Nat × (Nat → Int)} {xs : Nat → Int32} {av : Nat → Nat} {H00 : Heap} {o : Nat} {ini : Bool} {al : GG}
/-- one instruction that is no call and no return -/
theorem sF_eff {i : Ins} {ls stk ls' stk' : List AV} {h h' : Hp} {gg gg' : GG} {pc pc' : Nat} {L : Array Slot}
    (hx : p.tables.exec = Jvm.exec) (hb : c.code = cc) (hml : c.maxLocals = nL) (hown : s.vm.findClass own = some m.cls) (ho : oN o = own) (hts : ∀ w ∈ wT, w.before args s = true) (hbase : base ≤ H0.size) (hold : ∀ q, q < base → H0[q]? = H00[q]?) (hKy : Ky base b0 sb av H00 sc xs s)
    (hxs : ∀ j, sc.2 j = (xs j).toInt) (hb0 : b0 < base) (hL4 : sc.1 ≤ 4096) (hin : ini = true → meth.name = "<init>")
    (hfr : 8 ≤ R.frames) (hlo : 1024 ≤ R.locals) (hgR : al.1 ≤ R.cells ∧ al.2 ≤ R.slots) (hgg : gg.1 ≤ al.1 ∧ gg.2 ≤ al.2)
    (hRl : Rl D base H0 s sc ad ca tys h H locs) (hl : lr sb b0 ad nL ls L) (hws : wvs h.2.2.1 stk) (hwl : wvs h.2.2.1 ls)
    (h97 : i.1 = 97 → i.2.2.1.headD 0 = 123) (hop : i.1 < 100) (hok : (if i.1 < 30 then okA o cc pc i else if i.1 < 60 then okB cc pc i else if i.1 < 76 then okC cc pc i else okD o ini cc pc i) = true) (hS : okS nL i = true)
    (he : eff LAY al i ls stk h gg = some (pc', ls', stk', h', gg'))
    (K : ∀ (ad' : Nat → Nat) (ca' : Nat → ClassId) (tys' : List (ClassId × FieldType)) (H' : Heap) (locs' : List Loc) (L' : Array Slot), ((∀ a, a < h.2.2.1 → ad' a = ad a) ∧ h.2.2.1 ≤ h'.2.2.1) → Rl D base H0 s sc ad' ca' tys' h' H' locs' → wvs h'.2.2.1 stk' → wvs h'.2.2.1 ls' → lr sb b0 ad' nL ls' L' → W p l e R s m args below meth c H' locs' gg'.1 gg'.2 Q (F0 m pc' L' (stk'.map (tr sb b0 ad')))) :
    W p l e R s m args below meth c H locs gg.1 gg.2 Q (F0 m pc L (stk.map (tr sb b0 ad))) := by
  obtain ⟨op, nx, ns, vs⟩ := i
  have hS := of_decide_eq_true hS
  unfold eff at he
  have hstr : o = 4 → vk_R own 121 "sdgmbaowlhyq" sb s := fun h4 => by rw [← ho, h4]; exact hKy.2.2.2.1
  have KS : ∀ (L' : Array Slot), lr sb b0 ad nL ls' L' → wvs h.2.2.1 stk' → wvs h.2.2.1 ls' → h' = h → gg' = gg → W p l e R s m args below meth c H locs gg.1 gg.2 Q (F0 m pc' L' (stk'.map (tr sb b0 ad))) := by
    intro L' h1 h2 h3 h4 h5
    subst h4; subst h5
    exact K ad ca tys H locs L' ⟨fun _ _ => rfl, Nat.le_refl _⟩ hRl h2 h3 h1
  by_cases h30 : op < 30
  · rw [if_pos h30] at hok
    rw [if_pos h30] at he
    exact sndA hx hb hown ho hts hS hstr h30 hok he hl hws hwl KS
  rw [if_neg h30] at hok
  rw [if_neg h30] at he
  by_cases h60 : op < 60
  · rw [if_pos h60] at hok
    rw [if_pos h60] at he
    exact sndB hx hb hok he hl hws hwl KS
  rw [if_neg h60] at hok
  rw [if_neg h60] at he
  by_cases h76 : op < 76
  · rw [if_pos h76] at hok
    rw [if_pos h76] at he
    exact sndC hx hb hok he hl hws hwl KS
  rw [if_neg h76] at hok
  rw [if_neg h76] at he
  have KD := fun ad' ca' tys' H' locs' h1 h2 h3 h4 h5 => K ad' ca' tys' H' locs' L h1 h2 h3 h4 h5
  have hX : va_X b0 sc.1 xs s H0 := va_X.kept hKy.2.2.1 (hold b0 hb0)
  have hg2 : gg.1 ≤ R.cells ∧ gg.2 ≤ R.slots := ⟨Nat.le_trans hgg.1 hgR.1, Nat.le_trans hgg.2 hgR.2⟩
  by_cases k76 : op = 76
  · subst k76; exact sD_76 hx hb hown ho hts hbase hRl hl hws hwl hgR hok he KD
  by_cases k77 : op = 77
  · subst k77; exact sD_77 hx hb hown ho hts hbase hRl hl hws hwl hgR hKy.2.1 hok he KD
  by_cases k78 : op = 78
  · subst k78; exact sD_78 hx hb hown ho hts hbase hRl hl hws hwl hgR hok he KD
  by_cases k79 : op = 79
  · subst k79; exact sD_79 hx hb hown ho hts hbase hRl hl hws hwl hml (by omega) (by omega) hg2 hok he KD
  by_cases k89 : op = 89
  · subst k89; exact sD_89 hx hb hown ho hts hbase hRl hl hws hwl hml (by omega) (by omega) hg2 hok he KD
  by_cases k98 : op = 98
  · subst k98; exact sD_98 hx hb hown ho hts hbase hRl hl hws hwl hml (by omega) (by omega) hg2 hok he KD
  by_cases k80 : op = 80
  · subst k80; exact sD_80 hx hb hown ho hts hbase hRl hl hws hwl hX hxs hb0 hok he KD
  by_cases k81 : op = 81
  · subst k81; exact sD_81 hx hb hown ho hts hbase hRl hl hws hwl hok he KD
  by_cases k82 : op = 82
  · subst k82; exact sD_82 hx hb hown ho hts hbase hRl hl hws hwl hok he KD
  by_cases k83 : op = 83
  · subst k83; exact sD_83 hx hb hown ho hts hbase hRl hl hws hwl hok he KD
  by_cases k84 : op = 84
  · subst k84; exact sD_84 hx hb hown ho hts hbase hRl hl hws hwl hok he KD
  by_cases k85 : op = 85
  · subst k85; exact sD_85 hx hb hown ho hts hbase hRl hl hws hwl hok he KD
  by_cases k86 : op = 86
  · subst k86; exact sD_86 hx hb hown ho hts hbase hRl hl hws hwl hok he KD
  by_cases k87 : op = 87
  · subst k87; exact sD_87 hx hb hown ho hts hbase hRl hl hws hwl hok he KD
  by_cases k88 : op = 88
  · subst k88; exact sD_88 hx hb hown ho hts hbase hRl hl hws hwl hX hL4 hb0 hok he KD
  by_cases k90 : op = 90
  · subst k90; exact sD_90 hx hb hown ho hts hbase hRl hl hws hwl hok he KD
  by_cases k91 : op = 91
  · subst k91; exact sD_91 hx hb hown ho hts hbase hRl hl hws hwl hok he KD
  by_cases k92 : op = 92
  · subst k92; exact sD_92 hx hb hown ho hts hbase hRl hl hws hwl hok he KD
  by_cases k93 : op = 93
  · subst k93; exact sD_93 hx hb hown ho hts hbase hRl hl hws hwl hin hok he KD
  by_cases k94 : op = 94
  · subst k94; exact sD_94 hx hb hown ho hts hbase hRl hl hws hwl hok he KD
  by_cases k95 : op = 95
  · subst k95; exact sD_95 hx hb hown ho hts hbase hRl hl hws hwl hml (by omega) (by omega) hok he KD
  by_cases k96 : op = 96
  · subst k96; exact sD_96 hx hb hown ho hts hbase hRl hl hws hwl hml (by omega) (by omega) hok he KD
  by_cases k97 : op = 97
  · subst k97
    have h120 : ns.headD 0 = 123 := h97 rfl
    obtain ⟨rP, rD, rK, rT, rS, rwh, rsc⟩ := hRl
    obtain ⟨rfl, hd, ho4, hvs⟩ := of_decide_eq_true (p := nx = pc + 3 ∧ decode cc pc = .ok (.invokevirtual (ns.headD 0), 3) ∧ o = 4 ∧ vs = [115, 100, 103, 109, 98, 97, 111, 119, 108, 104, 121, 113]) hok
    rw [h120] at hd
    replace he : (match (generalizing := false) stk with | (0, x) :: (5, _) :: r => if r.length ≤ 4 ∧ 0 ≤ x ∧ x < 256 then some (pc + 3, ls, (0, idxOf vs 0 x) :: r, h, gg) else none | _ => none) = some (pc', ls', stk', h', gg') := he
    rw [hvs] at he
    split at he
    · next x y r =>
      by_cases hcc : r.length ≤ 4 ∧ 0 ≤ x ∧ x < 256
      · rw [if_pos hcc] at he
        simp only [Option.some.injEq, Prod.mk.injEq] at he; obtain ⟨rfl, rfl, rfl, rfl, rfl⟩ := he
        have hw := wvs_c.mp hws
        have hw2 := wvs_c.mp hw.2
        have hr : in32 (idxOf [115, 100, 103, 109, 98, 97, 111, 119, 108, 104, 121, 113] 0 x) := by
          unfold idxOf idxOf idxOf idxOf idxOf idxOf idxOf idxOf idxOf idxOf idxOf idxOf idxOf in32
          repeat' split
          all_goals omega
        have hcs := cat_sum sb b0 ad r
        refine idx_W hx hb hml (by rw [← ho4, ho]; exact hown) hts hKy (Nat.le_trans hbase rS.1) (fun q hq => by rw [rS.2.1 q (Nat.lt_of_lt_of_le hq hbase) (Nat.not_le.mpr hq)]; exact hold q hq) hfr hlo hg2.1 hg2.2 hcc.2.1 hcc.2.2 (by omega) hl.1.1 hd (fun locs' hlc => ?_)
        exact KD ad ca tys H (locs ++ locs') ⟨fun _ _ => rfl, Nat.le_refl _⟩ ⟨rP, rD, rK, rT, ⟨rS.1, rS.2.1, fun q hq => by
          rcases List.mem_append.mp hq with z | z
          · exact rS.2.2 q z
          · exact hlc q z⟩, rwh, rsc⟩ (wvs_c.mpr ⟨wv0 hr, hw2.2⟩) hwl hl
      · rw [if_neg hcc] at he; cases he
    · cases he
  have hz : okD o ini cc pc (op, nx, ns, vs) = false := by
    unfold okD
    simp only [k76, k77, k78, k79, k89, k98, k80, k81, k82, k83, k84, k85, k86, k87, k88, k90, k91, k92, k93, k94, k95, k96, k97, if_false, or_self]
  rw [hz] at hok; cases hok
end SNDF
