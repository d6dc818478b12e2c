section SNDA
variable {p : Program} {l : Launch} {e : Env} {R : Room} {s : State} {m : MethodId} {args : Array Value} {below : List Frame} {meth : Method} {c : Code} {H : Heap} {locs : List Loc} {cells slots : Nat} {Q : State → Prop} {cc : ByteArray} {own : String} {nL : Nat} {sb b0 : Nat} {ad : Nat → Nat} {o n : Nat}
variable {op nx : Nat} {ns : List Nat} {vs : List Int} {ls stk ls' stk' : List AV} {h h' : Hp} {gg gg' : GG} {pc pc' : Nat} {L : Array Slot}

theorem sndA (hx : p.tables.exec = Jvm.exec) (hb : c.code = cc) (hown : s.vm.findClass own = some m.cls) (ho : oN o = own) (hts : ∀ w ∈ wT, w.before args s = true) (hstr : (16 ≤ op ∧ op ≤ 22 → ns.headD 0 < nL) ∧ (op = 18 ∨ op = 19 → ns.headD 0 + 1 < nL)) (hstring : o = 4 → vk_R own 121 "sdgmbaowlhyq" sb s) (hop : op < 30) (hok : okA o cc pc (op, nx, ns, vs) = true) (he : effA (op, nx, ns, vs) ls stk h gg = some (pc', ls', stk', h', gg')) (hl : lr sb b0 ad nL ls L) (hws : wvs n stk) (hwl : wvs n ls) (K : ∀ L', lr sb b0 ad nL ls' L' → wvs n stk' → wvs n ls' → h' = h → gg' = gg → W p l e R s m args below meth c H locs cells slots Q (F0 m pc' L' (stk'.map (tr sb b0 ad)))) : W p l e R s m args below meth c H locs cells slots Q (F0 m pc L (stk.map (tr sb b0 ad))) := by
  obtain ⟨hstr, hstr2⟩ := hstr
  by_cases h1 : op = 1
  · subst h1
    replace he : some (nx, ls, (0, vs.headD 0) :: stk, h, gg) = some (pc', ls', stk', h', gg') := he
    simp only [Option.some.injEq, Prod.mk.injEq] at he; obtain ⟨rfl, rfl, rfl, rfl, rfl⟩ := he
    have hk := of_decide_eq_true (p := decode cc pc = .ok (.iconst (vs.headD 0), 1) ∧ nx = pc + 1 ∧ -2147483648 ≤ vs.headD 0 ∧ vs.headD 0 < 2147483648) hok
    obtain ⟨hd, rfl, hr⟩ := hk
    exact lv_iconst hx hb hd rfl (K L hl (wvs_c.mpr ⟨wv0 hr, hws⟩) hwl rfl rfl)
  by_cases h2 : op = 2
  · subst h2
    replace he : some (nx, ls, (0, vs.headD 0) :: stk, h, gg) = some (pc', ls', stk', h', gg') := he
    simp only [Option.some.injEq, Prod.mk.injEq] at he; obtain ⟨rfl, rfl, rfl, rfl, rfl⟩ := he
    have hk := of_decide_eq_true (p := decode cc pc = .ok (.bipush (vs.headD 0), 2) ∧ nx = pc + 2 ∧ (Int8.ofInt (vs.headD 0)).toInt32 = Int32.ofInt (vs.headD 0) ∧ -2147483648 ≤ vs.headD 0 ∧ vs.headD 0 < 2147483648) hok
    obtain ⟨hd, rfl, hv, hr⟩ := hk
    exact lv_bipush hx hb hd hv (K L hl (wvs_c.mpr ⟨wv0 hr, hws⟩) hwl rfl rfl)
  by_cases h3 : op = 3
  · subst h3
    replace he : some (nx, ls, (0, vs.headD 0) :: stk, h, gg) = some (pc', ls', stk', h', gg') := he
    simp only [Option.some.injEq, Prod.mk.injEq] at he; obtain ⟨rfl, rfl, rfl, rfl, rfl⟩ := he
    have hk := of_decide_eq_true (p := decode cc pc = .ok (.sipush (vs.headD 0), 3) ∧ nx = pc + 3 ∧ (Int16.ofInt (vs.headD 0)).toInt32 = Int32.ofInt (vs.headD 0) ∧ -2147483648 ≤ vs.headD 0 ∧ vs.headD 0 < 2147483648) hok
    obtain ⟨hd, rfl, hv, hr⟩ := hk
    exact lv_sipush hx hb hd hv (K L hl (wvs_c.mpr ⟨wv0 hr, hws⟩) hwl rfl rfl)
  by_cases h4 : op = 4
  · subst h4
    replace he : some (nx, ls, (0, vs.headD 0) :: stk, h, gg) = some (pc', ls', stk', h', gg') := he
    simp only [Option.some.injEq, Prod.mk.injEq] at he; obtain ⟨rfl, rfl, rfl, rfl, rfl⟩ := he
    have hk := of_decide_eq_true (p := decode cc pc = .ok (.ldc (KT.getD (ns.headD 0) (0, 0, 0, 0)).2.1, 2) ∧ nx = pc + 2 ∧ ns.headD 0 < KT.length ∧ (KT.getD (ns.headD 0) (0, 0, 0, 0)).1 = o ∧ (KT.getD (ns.headD 0) (0, 0, 0, 0)).2.2.1 = vs.headD 0 ∧ -2147483648 ≤ vs.headD 0 ∧ vs.headD 0 < 2147483648) hok
    obtain ⟨hd, rfl, hlt, h1, h2, hr⟩ := hk
    have hq := KT_ok _ (getD_mem (d := (0, 0, 0, 0)) hlt)
    rw [h1, ho, h2] at hq
    exact lv_ldc hx hb hown (hts _ (wT_t hq.1 hq.2)) hd (K L hl (wvs_c.mpr ⟨wv0 hr, hws⟩) hwl rfl rfl)
  by_cases h5 : op = 5
  · subst h5
    replace he : some (nx, ls, (0, vs.headD 0) :: stk, h, gg) = some (pc', ls', stk', h', gg') := he
    simp only [Option.some.injEq, Prod.mk.injEq] at he; obtain ⟨rfl, rfl, rfl, rfl, rfl⟩ := he
    have hk := of_decide_eq_true (p := decode cc pc = .ok (.ldc_w (KT.getD (ns.headD 0) (0, 0, 0, 0)).2.1, 3) ∧ nx = pc + 3 ∧ ns.headD 0 < KT.length ∧ (KT.getD (ns.headD 0) (0, 0, 0, 0)).1 = o ∧ (KT.getD (ns.headD 0) (0, 0, 0, 0)).2.2.1 = vs.headD 0 ∧ -2147483648 ≤ vs.headD 0 ∧ vs.headD 0 < 2147483648) hok
    obtain ⟨hd, rfl, hlt, h1, h2, hr⟩ := hk
    have hq := KT_ok _ (getD_mem (d := (0, 0, 0, 0)) hlt)
    rw [h1, ho, h2] at hq
    exact lv_ldcw hx hb hown (hts _ (wT_t hq.1 hq.2)) hd (K L hl (wvs_c.mpr ⟨wv0 hr, hws⟩) hwl rfl rfl)
  by_cases h6 : op = 6
  · subst h6
    replace he : some (nx, ls, (1, vs.headD 0) :: stk, h, gg) = some (pc', ls', stk', h', gg') := he
    simp only [Option.some.injEq, Prod.mk.injEq] at he; obtain ⟨rfl, rfl, rfl, rfl, rfl⟩ := he
    have hk := of_decide_eq_true (p := nx = pc + 1 ∧ ((decode cc pc = .ok (.lconst 0, 1) ∧ vs.headD 0 = 0) ∨ (decode cc pc = .ok (.lconst 1, 1) ∧ vs.headD 0 = 1))) hok
    obtain ⟨rfl, hk⟩ := hk
    generalize vs.headD 0 = z at K hk
    rcases hk with ⟨hd, rfl⟩ | ⟨hd, rfl⟩
    · exact lv_lconst hx hb hd rfl (K L hl (wvs_c.mpr ⟨wv1 ⟨by decide, by decide⟩, hws⟩) hwl rfl rfl)
    · exact lv_lconst hx hb hd rfl (K L hl (wvs_c.mpr ⟨wv1 ⟨by decide, by decide⟩, hws⟩) hwl rfl rfl)
  by_cases h7 : op = 7
  · subst h7
    replace he : some (nx, ls, (1, vs.headD 0) :: stk, h, gg) = some (pc', ls', stk', h', gg') := he
    simp only [Option.some.injEq, Prod.mk.injEq] at he; obtain ⟨rfl, rfl, rfl, rfl, rfl⟩ := he
    have hk := of_decide_eq_true (p := decode cc pc = .ok (.ldc2_w (KL.getD (ns.headD 0) (0, 0, 0, 0)).2.1, 3) ∧ nx = pc + 3 ∧ ns.headD 0 < KL.length ∧ (KL.getD (ns.headD 0) (0, 0, 0, 0)).1 = o ∧ (KL.getD (ns.headD 0) (0, 0, 0, 0)).2.2.1 = vs.headD 0 ∧ -9223372036854775808 ≤ vs.headD 0 ∧ vs.headD 0 < 9223372036854775808) hok
    obtain ⟨hd, rfl, hlt, h1, h2, hr⟩ := hk
    have hq := KL_ok _ (getD_mem (d := (0, 0, 0, 0)) hlt)
    rw [h1, ho, h2] at hq
    exact lv_ldc2 hx hb hown (hts _ (wT_t hq.1 hq.2)) hd (K L hl (wvs_c.mpr ⟨wv1 hr, hws⟩) hwl rfl rfl)
  by_cases h8 : op = 8
  · subst h8
    replace he : some (nx, ls, (5, 0) :: stk, h, gg) = some (pc', ls', stk', h', gg') := he
    simp only [Option.some.injEq, Prod.mk.injEq] at he; obtain ⟨rfl, rfl, rfl, rfl, rfl⟩ := he
    have hk := of_decide_eq_true (p := decode cc pc = .ok (.ldc 121, 2) ∧ nx = pc + 2 ∧ o = 4) hok
    obtain ⟨hd, rfl, ho4⟩ := hk
    exact va_ldcS hx hb hown (hstring ho4) hd (K L hl (wvs_c.mpr ⟨wvk (by decide), hws⟩) hwl rfl rfl)
  by_cases h10 : op = 10
  · subst h10
    replace he : (if (lg ls (ns.headD 0)).1 = 0 then some (nx, ls, lg ls (ns.headD 0) :: stk, h, gg) else none) = some (pc', ls', stk', h', gg') := he
    by_cases hc : (lg ls (ns.headD 0)).1 = 0
    · rw [if_pos hc] at he
      simp only [Option.some.injEq, Prod.mk.injEq] at he; obtain ⟨rfl, rfl, rfl, rfl, rfl⟩ := he
      have hk := of_decide_eq_true (p := decode cc pc = .ok (.iload (ns.headD 0), 2) ∧ nx = pc + 2) hok
      obtain ⟨hd, rfl⟩ := hk
      have hat := lr_at hl (i := ns.headD 0) (by rw [hc]; decide)
      have K' := K L hl (wvs_c.mpr ⟨lg_wv hwl _, hws⟩) hwl rfl rfl
      rcases hv : lg ls (ns.headD 0) with ⟨t, x⟩
      rw [hv] at hc hat K'
      have hc : t = 0 := hc
      subst hc
      exact lv_iload hx hb hd hat K'
    · rw [if_neg hc] at he; cases he
  by_cases h11 : op = 11
  · subst h11
    replace he : (if (lg ls (ns.headD 0)).1 = 0 then some (nx, ls, lg ls (ns.headD 0) :: stk, h, gg) else none) = some (pc', ls', stk', h', gg') := he
    by_cases hc : (lg ls (ns.headD 0)).1 = 0
    · rw [if_pos hc] at he
      simp only [Option.some.injEq, Prod.mk.injEq] at he; obtain ⟨rfl, rfl, rfl, rfl, rfl⟩ := he
      have hk := of_decide_eq_true (p := decode cc pc = .ok (.iload_n (Fin.ofNat 4 (ns.headD 0)), 1) ∧ nx = pc + 1 ∧ ns.headD 0 < 4) hok
      obtain ⟨hd, rfl, ha4⟩ := hk
      have hat := lr_at hl (i := ns.headD 0) (by rw [hc]; decide)
      have K' := K L hl (wvs_c.mpr ⟨lg_wv hwl _, hws⟩) hwl rfl rfl
      rcases hv : lg ls (ns.headD 0) with ⟨t, x⟩
      rw [hv] at hc hat K'
      have hc : t = 0 := hc
      subst hc
      exact lv_iload_n hx hb hd (Nat.mod_eq_of_lt ha4) hat K'
    · rw [if_neg hc] at he; cases he
  by_cases h12 : op = 12
  · subst h12
    replace he : (if (lg ls (ns.headD 0)).1 = 1 then some (nx, ls, lg ls (ns.headD 0) :: stk, h, gg) else none) = some (pc', ls', stk', h', gg') := he
    by_cases hc : (lg ls (ns.headD 0)).1 = 1
    · rw [if_pos hc] at he
      simp only [Option.some.injEq, Prod.mk.injEq] at he; obtain ⟨rfl, rfl, rfl, rfl, rfl⟩ := he
      have hk := of_decide_eq_true (p := decode cc pc = .ok (.lload (ns.headD 0), 2) ∧ nx = pc + 2) hok
      obtain ⟨hd, rfl⟩ := hk
      have hat := lr_at hl (i := ns.headD 0) (by rw [hc]; decide)
      have K' := K L hl (wvs_c.mpr ⟨lg_wv hwl _, hws⟩) hwl rfl rfl
      rcases hv : lg ls (ns.headD 0) with ⟨t, x⟩
      rw [hv] at hc hat K'
      have hc : t = 1 := hc
      subst hc
      exact lv_lload hx hb hd hat K'
    · rw [if_neg hc] at he; cases he
  by_cases h13 : op = 13
  · subst h13
    replace he : (if (lg ls (ns.headD 0)).1 = 1 then some (nx, ls, lg ls (ns.headD 0) :: stk, h, gg) else none) = some (pc', ls', stk', h', gg') := he
    by_cases hc : (lg ls (ns.headD 0)).1 = 1
    · rw [if_pos hc] at he
      simp only [Option.some.injEq, Prod.mk.injEq] at he; obtain ⟨rfl, rfl, rfl, rfl, rfl⟩ := he
      have hk := of_decide_eq_true (p := decode cc pc = .ok (.lload_n (Fin.ofNat 4 (ns.headD 0)), 1) ∧ nx = pc + 1 ∧ ns.headD 0 < 4) hok
      obtain ⟨hd, rfl, ha4⟩ := hk
      have hat := lr_at hl (i := ns.headD 0) (by rw [hc]; decide)
      have K' := K L hl (wvs_c.mpr ⟨lg_wv hwl _, hws⟩) hwl rfl rfl
      rcases hv : lg ls (ns.headD 0) with ⟨t, x⟩
      rw [hv] at hc hat K'
      have hc : t = 1 := hc
      subst hc
      exact lv_lload_n hx hb hd (Nat.mod_eq_of_lt ha4) hat K'
    · rw [if_neg hc] at he; cases he
  by_cases h14 : op = 14
  · subst h14
    replace he : (if (lg ls (ns.headD 0)).1 = 2 ∨ (lg ls (ns.headD 0)).1 = 4 then some (nx, ls, lg ls (ns.headD 0) :: stk, h, gg) else none) = some (pc', ls', stk', h', gg') := he
    by_cases hc : (lg ls (ns.headD 0)).1 = 2 ∨ (lg ls (ns.headD 0)).1 = 4
    · rw [if_pos hc] at he
      simp only [Option.some.injEq, Prod.mk.injEq] at he; obtain ⟨rfl, rfl, rfl, rfl, rfl⟩ := he
      have hk := of_decide_eq_true (p := decode cc pc = .ok (.aload (ns.headD 0), 2) ∧ nx = pc + 2) hok
      obtain ⟨hd, rfl⟩ := hk
      rcases hc with hc | hc
      · have hat := lr_at hl (i := ns.headD 0) (by rw [hc]; decide)
        have K' := K L hl (wvs_c.mpr ⟨lg_wv hwl _, hws⟩) hwl rfl rfl
        rcases hv : lg ls (ns.headD 0) with ⟨t, x⟩
        rw [hv] at hc hat K'
        have hc : t = 2 := hc
        subst hc
        exact lv_aload hx hb hd hat K'
      · have hat := lr_at hl (i := ns.headD 0) (by rw [hc]; decide)
        have K' := K L hl (wvs_c.mpr ⟨lg_wv hwl _, hws⟩) hwl rfl rfl
        rcases hv : lg ls (ns.headD 0) with ⟨t, x⟩
        rw [hv] at hc hat K'
        have hc : t = 4 := hc
        subst hc
        exact lv_aload hx hb hd hat K'
    · rw [if_neg hc] at he; cases he
  by_cases h15 : op = 15
  · subst h15
    replace he : (if (lg ls (ns.headD 0)).1 = 2 ∨ (lg ls (ns.headD 0)).1 = 4 then some (nx, ls, lg ls (ns.headD 0) :: stk, h, gg) else none) = some (pc', ls', stk', h', gg') := he
    by_cases hc : (lg ls (ns.headD 0)).1 = 2 ∨ (lg ls (ns.headD 0)).1 = 4
    · rw [if_pos hc] at he
      simp only [Option.some.injEq, Prod.mk.injEq] at he; obtain ⟨rfl, rfl, rfl, rfl, rfl⟩ := he
      have hk := of_decide_eq_true (p := decode cc pc = .ok (.aload_n (Fin.ofNat 4 (ns.headD 0)), 1) ∧ nx = pc + 1 ∧ ns.headD 0 < 4) hok
      obtain ⟨hd, rfl, ha4⟩ := hk
      rcases hc with hc | hc
      · have hat := lr_at hl (i := ns.headD 0) (by rw [hc]; decide)
        have K' := K L hl (wvs_c.mpr ⟨lg_wv hwl _, hws⟩) hwl rfl rfl
        rcases hv : lg ls (ns.headD 0) with ⟨t, x⟩
        rw [hv] at hc hat K'
        have hc : t = 2 := hc
        subst hc
        exact lv_aload_n hx hb hd (Nat.mod_eq_of_lt ha4) hat K'
      · have hat := lr_at hl (i := ns.headD 0) (by rw [hc]; decide)
        have K' := K L hl (wvs_c.mpr ⟨lg_wv hwl _, hws⟩) hwl rfl rfl
        rcases hv : lg ls (ns.headD 0) with ⟨t, x⟩
        rw [hv] at hc hat K'
        have hc : t = 4 := hc
        subst hc
        exact lv_aload_n hx hb hd (Nat.mod_eq_of_lt ha4) hat K'
    · rw [if_neg hc] at he; cases he
  by_cases h16 : op = 16
  · subst h16
    replace he : (match (generalizing := false) stk with | (0, x) :: r => some (nx, st1 ls (ns.headD 0) (0, x), r, h, gg) | _ => none) = some (pc', ls', stk', h', gg') := he
    split at he
    · next x r =>
      simp only [Option.some.injEq, Prod.mk.injEq] at he; obtain ⟨rfl, rfl, rfl, rfl, rfl⟩ := he
      have hk := of_decide_eq_true (p := decode cc pc = .ok (.istore (ns.headD 0), 2) ∧ nx = pc + 2) hok
      obtain ⟨hd, rfl⟩ := hk
      have hw := wvs_c.mp hws
      exact lv_istore hx hb hd hl.1 (hstr ⟨by decide, by decide⟩) rfl (fun L' hL' => K L' (lr_st1 rfl hl.2 hL') hw.2 (st1_wvs hwl hw.1) rfl rfl)
    · cases he
  by_cases h17 : op = 17
  · subst h17
    replace he : (match (generalizing := false) stk with | (0, x) :: r => some (nx, st1 ls (ns.headD 0) (0, x), r, h, gg) | _ => none) = some (pc', ls', stk', h', gg') := he
    split at he
    · next x r =>
      simp only [Option.some.injEq, Prod.mk.injEq] at he; obtain ⟨rfl, rfl, rfl, rfl, rfl⟩ := he
      have hk := of_decide_eq_true (p := decode cc pc = .ok (.istore_n (Fin.ofNat 4 (ns.headD 0)), 1) ∧ nx = pc + 1 ∧ ns.headD 0 < 4) hok
      obtain ⟨hd, rfl, ha4⟩ := hk
      have hw := wvs_c.mp hws
      exact lv_istore_n hx hb hd (Nat.mod_eq_of_lt ha4) hl.1 (hstr ⟨by decide, by decide⟩) rfl (fun L' hL' => K L' (lr_st1 rfl hl.2 hL') hw.2 (st1_wvs hwl hw.1) rfl rfl)
    · cases he
  by_cases h18 : op = 18
  · subst h18
    replace he : (match (generalizing := false) stk with | (1, x) :: r => some (nx, st2 ls (ns.headD 0) (1, x), r, h, gg) | _ => none) = some (pc', ls', stk', h', gg') := he
    split at he
    · next x r =>
      simp only [Option.some.injEq, Prod.mk.injEq] at he; obtain ⟨rfl, rfl, rfl, rfl, rfl⟩ := he
      have hk := of_decide_eq_true (p := decode cc pc = .ok (.lstore (ns.headD 0), 2) ∧ nx = pc + 2) hok
      obtain ⟨hd, rfl⟩ := hk
      have hw := wvs_c.mp hws
      exact lv_lstore hx hb hd hl.1 (hstr2 (by decide)) rfl (fun L' hL' => K L' (lr_st2 rfl hl.2 hL') hw.2 (st2_wvs hwl hw.1) rfl rfl)
    · cases he
  by_cases h19 : op = 19
  · subst h19
    replace he : (match (generalizing := false) stk with | (1, x) :: r => some (nx, st2 ls (ns.headD 0) (1, x), r, h, gg) | _ => none) = some (pc', ls', stk', h', gg') := he
    split at he
    · next x r =>
      simp only [Option.some.injEq, Prod.mk.injEq] at he; obtain ⟨rfl, rfl, rfl, rfl, rfl⟩ := he
      have hk := of_decide_eq_true (p := decode cc pc = .ok (.lstore_n (Fin.ofNat 4 (ns.headD 0)), 1) ∧ nx = pc + 1 ∧ ns.headD 0 < 4) hok
      obtain ⟨hd, rfl, ha4⟩ := hk
      have hw := wvs_c.mp hws
      exact lv_lstore_n hx hb hd (Nat.mod_eq_of_lt ha4) hl.1 (hstr2 (by decide)) rfl (fun L' hL' => K L' (lr_st2 rfl hl.2 hL') hw.2 (st2_wvs hwl hw.1) rfl rfl)
    · cases he
  by_cases h20 : op = 20
  · subst h20
    replace he : (match (generalizing := false) stk with | (2, x) :: r => some (nx, st1 ls (ns.headD 0) (2, x), r, h, gg) | _ => none) = some (pc', ls', stk', h', gg') := he
    split at he
    · next x r =>
      simp only [Option.some.injEq, Prod.mk.injEq] at he; obtain ⟨rfl, rfl, rfl, rfl, rfl⟩ := he
      have hk := of_decide_eq_true (p := decode cc pc = .ok (.astore (ns.headD 0), 2) ∧ nx = pc + 2) hok
      obtain ⟨hd, rfl⟩ := hk
      have hw := wvs_c.mp hws
      exact lv_astore hx hb hd hl.1 (hstr ⟨by decide, by decide⟩) rfl (fun L' hL' => K L' (lr_st1 rfl hl.2 hL') hw.2 (st1_wvs hwl hw.1) rfl rfl)
    · cases he
  by_cases h21 : op = 21
  · subst h21
    replace he : (match (generalizing := false) stk with | (2, x) :: r => some (nx, st1 ls (ns.headD 0) (2, x), r, h, gg) | _ => none) = some (pc', ls', stk', h', gg') := he
    split at he
    · next x r =>
      simp only [Option.some.injEq, Prod.mk.injEq] at he; obtain ⟨rfl, rfl, rfl, rfl, rfl⟩ := he
      have hk := of_decide_eq_true (p := decode cc pc = .ok (.astore_n (Fin.ofNat 4 (ns.headD 0)), 1) ∧ nx = pc + 1 ∧ ns.headD 0 < 4) hok
      obtain ⟨hd, rfl, ha4⟩ := hk
      have hw := wvs_c.mp hws
      exact lv_astore_n hx hb hd (Nat.mod_eq_of_lt ha4) hl.1 (hstr ⟨by decide, by decide⟩) rfl (fun L' hL' => K L' (lr_st1 rfl hl.2 hL') hw.2 (st1_wvs hwl hw.1) rfl rfl)
    · cases he
  by_cases h22 : op = 22
  · subst h22
    replace he : (if (lg ls (ns.headD 0)).1 = 0 then some (nx, st1 ls (ns.headD 0) (0, w32 ((lg ls (ns.headD 0)).2 + vs.headD 0)), stk, h, gg) else none) = some (pc', ls', stk', h', gg') := he
    by_cases hc : (lg ls (ns.headD 0)).1 = 0
    · rw [if_pos hc] at he
      simp only [Option.some.injEq, Prod.mk.injEq] at he; obtain ⟨rfl, rfl, rfl, rfl, rfl⟩ := he
      have hk := of_decide_eq_true (p := decode cc pc = .ok (.iinc (ns.headD 0) (vs.headD 0), 3) ∧ nx = pc + 3) hok
      obtain ⟨hd, rfl⟩ := hk
      have hm : (ns.headD 0, tr sb b0 ad (lg ls (ns.headD 0))) ∈ prs sb b0 ad 0 ls := by
        refine prs_mem.mpr ⟨ns.headD 0, by rw [hl.2]; exact hstr ⟨by decide, by decide⟩, by simp, by rw [hc]; decide, rfl⟩
      obtain ⟨k, hk⟩ := List.getElem?_of_mem hm
      have ht : tr sb b0 ad (lg ls (ns.headD 0)) = .int (I3 (lg ls (ns.headD 0)).2) := by unfold tr; rw [if_pos hc]
      rw [ht] at hk
      exact lv_iinc hx hb hd hl.1 hk (I3_add _ _) (hstr ⟨by decide, by decide⟩) rfl (fun L' hL' => K L' (lr_st1 rfl hl.2 hL') hws (st1_wvs hwl (wv0 (w32_in _))) rfl rfl)
    · rw [if_neg hc] at he; cases he
  have hz : okA o cc pc (op, nx, ns, vs) = false := by
    unfold okA
    simp only [h1, h2, h3, h4, h5, h6, h7, h8, h10, h11, h12, h13, h14, h15, h16, h17, h18, h19, h20, h21, h22, if_false]
  rw [hz] at hok; cases hok
end SNDA
