section SNDB
variable {p : Program} {l : Launch} {e : Env} {R : Room} {s : State} {m : MethodId} {args : Array Value} {below : List Frame} {meth : Method} {c : Code} {H : Heap} {locs : List Loc} {cells slots : Nat} {Q : State → Prop} {cc : ByteArray} {own : String} {nL : Nat} {sb b0 : Nat} {ad : Nat → Nat} {o n : Nat}
variable {op nx : Nat} {ns : List Nat} {vs : List Int} {ls stk ls' stk' : List AV} {h h' : Hp} {gg gg' : GG} {pc pc' : Nat} {L : Array Slot}

theorem sndB (hx : p.tables.exec = Jvm.exec) (hb : c.code = cc) (hok : okB cc pc (op, nx, ns, vs) = true) (he : effB (op, nx, ns, vs) ls stk h gg = some (pc', ls', stk', h', gg')) (hl : lr sb b0 ad nL ls L) (hws : wvs n stk) (hwl : wvs n ls) (K : ∀ L', lr sb b0 ad nL ls' L' → wvs n stk' → wvs n ls' → h' = h → gg' = gg → W p l e R s m args below meth c H locs cells slots Q (F0 m pc' L' (stk'.map (tr sb b0 ad)))) : W p l e R s m args below meth c H locs cells slots Q (F0 m pc L (stk.map (tr sb b0 ad))) := by
  obtain ⟨hnx, hok⟩ := Bool.and_eq_true_iff.mp hok
  have hnx : nx = pc + 1 := of_decide_eq_true hnx
  subst hnx
  by_cases h30 : op = 30
  · subst h30
    have hd : decode cc pc = .ok (.iadd, 1) := of_decide_eq_true hok
    replace he : b2 (fun x y => w32 (x + y)) (pc + 1) ls stk h gg = some (pc', ls', stk', h', gg') := he
    unfold b2 at he
    split at he
    · next y x r =>
      have hw := wvs_c.mp hws
      have hw2 := wvs_c.mp hw.2
      have hy := hw.1.1 rfl
      have hxx := hw2.1.1 rfl
      simp only [Option.some.injEq, Prod.mk.injEq] at he; obtain ⟨rfl, rfl, rfl, rfl, rfl⟩ := he
      have K' := K L hl (wvs_c.mpr ⟨wv0 (w32_in _), hw2.2⟩) hwl rfl rfl
      simp only [List.map_cons] at K' ⊢
      exact lv_iadd hx hb hd (by rw [I3_add]; exact K')
    · cases he
  by_cases h31 : op = 31
  · subst h31
    have hd : decode cc pc = .ok (.isub, 1) := of_decide_eq_true hok
    replace he : b2 (fun x y => w32 (x - y)) (pc + 1) ls stk h gg = some (pc', ls', stk', h', gg') := he
    unfold b2 at he
    split at he
    · next y x r =>
      have hw := wvs_c.mp hws
      have hw2 := wvs_c.mp hw.2
      have hy := hw.1.1 rfl
      have hxx := hw2.1.1 rfl
      simp only [Option.some.injEq, Prod.mk.injEq] at he; obtain ⟨rfl, rfl, rfl, rfl, rfl⟩ := he
      have K' := K L hl (wvs_c.mpr ⟨wv0 (w32_in _), hw2.2⟩) hwl rfl rfl
      simp only [List.map_cons] at K' ⊢
      exact lv_isub hx hb hd (by rw [I3_sub]; exact K')
    · cases he
  by_cases h32 : op = 32
  · subst h32
    have hd : decode cc pc = .ok (.imul, 1) := of_decide_eq_true hok
    replace he : b2 (fun x y => w32 (x * y)) (pc + 1) ls stk h gg = some (pc', ls', stk', h', gg') := he
    unfold b2 at he
    split at he
    · next y x r =>
      have hw := wvs_c.mp hws
      have hw2 := wvs_c.mp hw.2
      have hy := hw.1.1 rfl
      have hxx := hw2.1.1 rfl
      simp only [Option.some.injEq, Prod.mk.injEq] at he; obtain ⟨rfl, rfl, rfl, rfl, rfl⟩ := he
      have K' := K L hl (wvs_c.mpr ⟨wv0 (w32_in _), hw2.2⟩) hwl rfl rfl
      simp only [List.map_cons] at K' ⊢
      exact lv_imul hx hb hd (by rw [I3_mul]; exact K')
    · cases he
  by_cases h33 : op = 33
  · subst h33
    have hd : decode cc pc = .ok (.idiv, 1) := of_decide_eq_true hok
    replace he : b2z (fun x y => w32 (Int.tdiv x y)) (pc + 1) ls stk h gg = some (pc', ls', stk', h', gg') := he
    unfold b2z at he
    split at he
    · next y x r =>
      have hw := wvs_c.mp hws
      have hw2 := wvs_c.mp hw.2
      have hy := hw.1.1 rfl
      have hxx := hw2.1.1 rfl
      by_cases hz : y = 0
      · rw [if_pos hz] at he; cases he
      · rw [if_neg hz] at he
        simp only [Option.some.injEq, Prod.mk.injEq] at he; obtain ⟨rfl, rfl, rfl, rfl, rfl⟩ := he
        have K' := K L hl (wvs_c.mpr ⟨wv0 (w32_in _), hw2.2⟩) hwl rfl rfl
        simp only [List.map_cons] at K' ⊢
        exact lv_idiv hx hb hd (fun q => hz ((I3_eq hy in32_0).mp q)) (by rw [I3_div hxx hy]; exact K')
    · cases he
  by_cases h34 : op = 34
  · subst h34
    have hd : decode cc pc = .ok (.irem, 1) := of_decide_eq_true hok
    replace he : b2z (fun x y => Int.tmod x y) (pc + 1) ls stk h gg = some (pc', ls', stk', h', gg') := he
    unfold b2z at he
    split at he
    · next y x r =>
      have hw := wvs_c.mp hws
      have hw2 := wvs_c.mp hw.2
      have hy := hw.1.1 rfl
      have hxx := hw2.1.1 rfl
      by_cases hz : y = 0
      · rw [if_pos hz] at he; cases he
      · rw [if_neg hz] at he
        simp only [Option.some.injEq, Prod.mk.injEq] at he; obtain ⟨rfl, rfl, rfl, rfl, rfl⟩ := he
        have K' := K L hl (wvs_c.mpr ⟨wv0 (tmod_in32 hxx hz), hw2.2⟩) hwl rfl rfl
        simp only [List.map_cons] at K' ⊢
        exact lv_irem hx hb hd (fun q => hz ((I3_eq hy in32_0).mp q)) (by rw [I3_rem hxx hy hz]; exact K')
    · cases he
  by_cases h35 : op = 35
  · subst h35
    have hd : decode cc pc = .ok (.ineg, 1) := of_decide_eq_true hok
    replace he : b1 (fun x => w32 (-x)) (pc + 1) ls stk h gg = some (pc', ls', stk', h', gg') := he
    unfold b1 at he
    split at he
    · next x r =>
      have hw := wvs_c.mp hws
      have hxx := hw.1.1 rfl
      simp only [Option.some.injEq, Prod.mk.injEq] at he; obtain ⟨rfl, rfl, rfl, rfl, rfl⟩ := he
      have K' := K L hl (wvs_c.mpr ⟨wv0 (w32_in _), hw.2⟩) hwl rfl rfl
      simp only [List.map_cons] at K' ⊢
      exact lv_ineg hx hb hd (by rw [I3_neg]; exact K')
    · cases he
  by_cases h36 : op = 36
  · subst h36
    have hd : decode cc pc = .ok (.ishl, 1) := of_decide_eq_true hok
    replace he : b2 shl32 (pc + 1) ls stk h gg = some (pc', ls', stk', h', gg') := he
    unfold b2 at he
    split at he
    · next y x r =>
      have hw := wvs_c.mp hws
      have hw2 := wvs_c.mp hw.2
      have hy := hw.1.1 rfl
      have hxx := hw2.1.1 rfl
      simp only [Option.some.injEq, Prod.mk.injEq] at he; obtain ⟨rfl, rfl, rfl, rfl, rfl⟩ := he
      have K' := K L hl (wvs_c.mpr ⟨wv0 (w32_in _), hw2.2⟩) hwl rfl rfl
      simp only [List.map_cons] at K' ⊢
      exact lv_ishl hx hb hd (by rw [I3_shl]; exact K')
    · cases he
  by_cases h37 : op = 37
  · subst h37
    have hd : decode cc pc = .ok (.ishr, 1) := of_decide_eq_true hok
    replace he : b2 shr32 (pc + 1) ls stk h gg = some (pc', ls', stk', h', gg') := he
    unfold b2 at he
    split at he
    · next y x r =>
      have hw := wvs_c.mp hws
      have hw2 := wvs_c.mp hw.2
      have hy := hw.1.1 rfl
      have hxx := hw2.1.1 rfl
      simp only [Option.some.injEq, Prod.mk.injEq] at he; obtain ⟨rfl, rfl, rfl, rfl, rfl⟩ := he
      have K' := K L hl (wvs_c.mpr ⟨wv0 (shr_in _ hxx), hw2.2⟩) hwl rfl rfl
      simp only [List.map_cons] at K' ⊢
      exact lv_ishr hx hb hd (by rw [I3_shr hxx]; exact K')
    · cases he
  by_cases h38 : op = 38
  · subst h38
    have hd : decode cc pc = .ok (.iushr, 1) := of_decide_eq_true hok
    replace he : b2 ush32 (pc + 1) ls stk h gg = some (pc', ls', stk', h', gg') := he
    unfold b2 at he
    split at he
    · next y x r =>
      have hw := wvs_c.mp hws
      have hw2 := wvs_c.mp hw.2
      have hy := hw.1.1 rfl
      have hxx := hw2.1.1 rfl
      simp only [Option.some.injEq, Prod.mk.injEq] at he; obtain ⟨rfl, rfl, rfl, rfl, rfl⟩ := he
      have K' := K L hl (wvs_c.mpr ⟨wv0 (w32_in _), hw2.2⟩) hwl rfl rfl
      simp only [List.map_cons] at K' ⊢
      exact lv_iushr hx hb hd (I3_ush _ _) K'
    · cases he
  by_cases h39 : op = 39
  · subst h39
    have hd : decode cc pc = .ok (.iand, 1) := of_decide_eq_true hok
    replace he : b2 ia32 (pc + 1) ls stk h gg = some (pc', ls', stk', h', gg') := he
    unfold b2 at he
    split at he
    · next y x r =>
      have hw := wvs_c.mp hws
      have hw2 := wvs_c.mp hw.2
      have hy := hw.1.1 rfl
      have hxx := hw2.1.1 rfl
      simp only [Option.some.injEq, Prod.mk.injEq] at he; obtain ⟨rfl, rfl, rfl, rfl, rfl⟩ := he
      have K' := K L hl (wvs_c.mpr ⟨wv0 (in32_to _), hw2.2⟩) hwl rfl rfl
      simp only [List.map_cons] at K' ⊢
      exact lv_iand hx hb hd (by rw [I3_and]; exact K')
    · cases he
  by_cases h40 : op = 40
  · subst h40
    have hd : decode cc pc = .ok (.ior, 1) := of_decide_eq_true hok
    replace he : b2 io32 (pc + 1) ls stk h gg = some (pc', ls', stk', h', gg') := he
    unfold b2 at he
    split at he
    · next y x r =>
      have hw := wvs_c.mp hws
      have hw2 := wvs_c.mp hw.2
      have hy := hw.1.1 rfl
      have hxx := hw2.1.1 rfl
      simp only [Option.some.injEq, Prod.mk.injEq] at he; obtain ⟨rfl, rfl, rfl, rfl, rfl⟩ := he
      have K' := K L hl (wvs_c.mpr ⟨wv0 (in32_to _), hw2.2⟩) hwl rfl rfl
      simp only [List.map_cons] at K' ⊢
      exact lv_ior hx hb hd (by rw [I3_or]; exact K')
    · cases he
  by_cases h41 : op = 41
  · subst h41
    have hd : decode cc pc = .ok (.ixor, 1) := of_decide_eq_true hok
    replace he : b2 ix32 (pc + 1) ls stk h gg = some (pc', ls', stk', h', gg') := he
    unfold b2 at he
    split at he
    · next y x r =>
      have hw := wvs_c.mp hws
      have hw2 := wvs_c.mp hw.2
      have hy := hw.1.1 rfl
      have hxx := hw2.1.1 rfl
      simp only [Option.some.injEq, Prod.mk.injEq] at he; obtain ⟨rfl, rfl, rfl, rfl, rfl⟩ := he
      have K' := K L hl (wvs_c.mpr ⟨wv0 (in32_to _), hw2.2⟩) hwl rfl rfl
      simp only [List.map_cons] at K' ⊢
      exact lv_ixor hx hb hd (by rw [I3_xor]; exact K')
    · cases he
  by_cases h42 : op = 42
  · subst h42
    have hd : decode cc pc = .ok (.i2l, 1) := of_decide_eq_true hok
    replace he : (match (generalizing := false) stk with | (0, x) :: r => some (pc + 1, ls, (1, x) :: r, h, gg) | _ => none) = some (pc', ls', stk', h', gg') := he
    split at he
    · next x r =>
      have hw := wvs_c.mp hws
      have hxx := hw.1.1 rfl
      simp only [Option.some.injEq, Prod.mk.injEq] at he; obtain ⟨rfl, rfl, rfl, rfl, rfl⟩ := he
      have K' := K L hl (wvs_c.mpr ⟨wv1 ⟨by have := hxx.1; omega, by have := hxx.2; omega⟩, hw.2⟩) hwl rfl rfl
      simp only [List.map_cons] at K' ⊢
      exact lv_i2l hx hb hd (I3_i2l hxx) K'
    · cases he
  by_cases h43 : op = 43
  · subst h43
    have hd : decode cc pc = .ok (.l2i, 1) := of_decide_eq_true hok
    replace he : (match (generalizing := false) stk with | (1, x) :: r => some (pc + 1, ls, (0, w32 x) :: r, h, gg) | _ => none) = some (pc', ls', stk', h', gg') := he
    split at he
    · next x r =>
      have hw := wvs_c.mp hws
      have hxx := hw.1.2.1 rfl
      simp only [Option.some.injEq, Prod.mk.injEq] at he; obtain ⟨rfl, rfl, rfl, rfl, rfl⟩ := he
      have K' := K L hl (wvs_c.mpr ⟨wv0 (w32_in _), hw.2⟩) hwl rfl rfl
      simp only [List.map_cons] at K' ⊢
      exact lv_l2i hx hb hd (I6_l2i hxx) K'
    · cases he
  by_cases h44 : op = 44
  · subst h44
    have hd : decode cc pc = .ok (.i2b, 1) := of_decide_eq_true hok
    replace he : b1 (fun x => Int.bmod x 256) (pc + 1) ls stk h gg = some (pc', ls', stk', h', gg') := he
    unfold b1 at he
    split at he
    · next x r =>
      have hw := wvs_c.mp hws
      have hxx := hw.1.1 rfl
      simp only [Option.some.injEq, Prod.mk.injEq] at he; obtain ⟨rfl, rfl, rfl, rfl, rfl⟩ := he
      have K' := K L hl (wvs_c.mpr ⟨wv0 (by have h1 := Int.le_bmod (x := x) (m := 256) (by omega); have h2 := Int.bmod_lt (x := x) (m := 256) (by omega); unfold in32; omega), hw.2⟩) hwl rfl rfl
      simp only [List.map_cons] at K' ⊢
      exact lv_i2b hx hb hd (I3_i2b hxx) K'
    · cases he
  by_cases h45 : op = 45
  · subst h45
    have hd : decode cc pc = .ok (.i2c, 1) := of_decide_eq_true hok
    replace he : b1 (fun x => x % 65536) (pc + 1) ls stk h gg = some (pc', ls', stk', h', gg') := he
    unfold b1 at he
    split at he
    · next x r =>
      have hw := wvs_c.mp hws
      have hxx := hw.1.1 rfl
      simp only [Option.some.injEq, Prod.mk.injEq] at he; obtain ⟨rfl, rfl, rfl, rfl, rfl⟩ := he
      have K' := K L hl (wvs_c.mpr ⟨wv0 (by unfold in32; omega), hw.2⟩) hwl rfl rfl
      simp only [List.map_cons] at K' ⊢
      exact lv_i2c hx hb hd (I3_i2c hxx) K'
    · cases he
  by_cases h46 : op = 46
  · subst h46
    have hd : decode cc pc = .ok (.ladd, 1) := of_decide_eq_true hok
    replace he : l2 (fun x y => w64 (x + y)) (pc + 1) ls stk h gg = some (pc', ls', stk', h', gg') := he
    unfold l2 at he
    split at he
    · next y x r =>
      have hw := wvs_c.mp hws
      have hw2 := wvs_c.mp hw.2
      have hy := hw.1.2.1 rfl
      have hxx := hw2.1.2.1 rfl
      simp only [Option.some.injEq, Prod.mk.injEq] at he; obtain ⟨rfl, rfl, rfl, rfl, rfl⟩ := he
      have K' := K L hl (wvs_c.mpr ⟨wv1 (w64_in _), hw2.2⟩) hwl rfl rfl
      simp only [List.map_cons] at K' ⊢
      exact lv_ladd hx hb hd (by rw [I6_add]; exact K')
    · cases he
  by_cases h47 : op = 47
  · subst h47
    have hd : decode cc pc = .ok (.lsub, 1) := of_decide_eq_true hok
    replace he : l2 (fun x y => w64 (x - y)) (pc + 1) ls stk h gg = some (pc', ls', stk', h', gg') := he
    unfold l2 at he
    split at he
    · next y x r =>
      have hw := wvs_c.mp hws
      have hw2 := wvs_c.mp hw.2
      have hy := hw.1.2.1 rfl
      have hxx := hw2.1.2.1 rfl
      simp only [Option.some.injEq, Prod.mk.injEq] at he; obtain ⟨rfl, rfl, rfl, rfl, rfl⟩ := he
      have K' := K L hl (wvs_c.mpr ⟨wv1 (w64_in _), hw2.2⟩) hwl rfl rfl
      simp only [List.map_cons] at K' ⊢
      exact lv_lsub hx hb hd (by rw [I6_sub]; exact K')
    · cases he
  by_cases h48 : op = 48
  · subst h48
    have hd : decode cc pc = .ok (.lmul, 1) := of_decide_eq_true hok
    replace he : l2 (fun x y => w64 (x * y)) (pc + 1) ls stk h gg = some (pc', ls', stk', h', gg') := he
    unfold l2 at he
    split at he
    · next y x r =>
      have hw := wvs_c.mp hws
      have hw2 := wvs_c.mp hw.2
      have hy := hw.1.2.1 rfl
      have hxx := hw2.1.2.1 rfl
      simp only [Option.some.injEq, Prod.mk.injEq] at he; obtain ⟨rfl, rfl, rfl, rfl, rfl⟩ := he
      have K' := K L hl (wvs_c.mpr ⟨wv1 (w64_in _), hw2.2⟩) hwl rfl rfl
      simp only [List.map_cons] at K' ⊢
      exact lv_lmul hx hb hd (by rw [I6_mul]; exact K')
    · cases he
  by_cases h49 : op = 49
  · subst h49
    have hd : decode cc pc = .ok (.ldiv, 1) := of_decide_eq_true hok
    replace he : l2z (fun x y => w64 (Int.tdiv x y)) (pc + 1) ls stk h gg = some (pc', ls', stk', h', gg') := he
    unfold l2z at he
    split at he
    · next y x r =>
      have hw := wvs_c.mp hws
      have hw2 := wvs_c.mp hw.2
      have hy := hw.1.2.1 rfl
      have hxx := hw2.1.2.1 rfl
      by_cases hz : y = 0
      · rw [if_pos hz] at he; cases he
      · rw [if_neg hz] at he
        simp only [Option.some.injEq, Prod.mk.injEq] at he; obtain ⟨rfl, rfl, rfl, rfl, rfl⟩ := he
        have K' := K L hl (wvs_c.mpr ⟨wv1 (w64_in _), hw2.2⟩) hwl rfl rfl
        simp only [List.map_cons] at K' ⊢
        exact lv_ldiv hx hb hd (fun q => hz ((I6_eq hy ⟨by decide, by decide⟩).mp q)) (by rw [I6_div hxx hy]; exact K')
    · cases he
  by_cases h50 : op = 50
  · subst h50
    have hd : decode cc pc = .ok (.lrem, 1) := of_decide_eq_true hok
    replace he : l2z (fun x y => Int.tmod x y) (pc + 1) ls stk h gg = some (pc', ls', stk', h', gg') := he
    unfold l2z at he
    split at he
    · next y x r =>
      have hw := wvs_c.mp hws
      have hw2 := wvs_c.mp hw.2
      have hy := hw.1.2.1 rfl
      have hxx := hw2.1.2.1 rfl
      by_cases hz : y = 0
      · rw [if_pos hz] at he; cases he
      · rw [if_neg hz] at he
        simp only [Option.some.injEq, Prod.mk.injEq] at he; obtain ⟨rfl, rfl, rfl, rfl, rfl⟩ := he
        have K' := K L hl (wvs_c.mpr ⟨wv1 (tmod_in64 hxx hz), hw2.2⟩) hwl rfl rfl
        simp only [List.map_cons] at K' ⊢
        exact lv_lrem hx hb hd (fun q => hz ((I6_eq hy ⟨by decide, by decide⟩).mp q)) (by rw [I6_rem hxx hy hz]; exact K')
    · cases he
  by_cases h51 : op = 51
  · subst h51
    have hd : decode cc pc = .ok (.lcmp, 1) := of_decide_eq_true hok
    replace he : (match (generalizing := false) stk with | (1, y) :: (1, x) :: r => some (pc + 1, ls, (0, lcm x y) :: r, h, gg) | _ => none) = some (pc', ls', stk', h', gg') := he
    split at he
    · next y x r =>
      have hw := wvs_c.mp hws
      have hw2 := wvs_c.mp hw.2
      have hy := hw.1.2.1 rfl
      have hxx := hw2.1.2.1 rfl
      simp only [Option.some.injEq, Prod.mk.injEq] at he; obtain ⟨rfl, rfl, rfl, rfl, rfl⟩ := he
      have K' := K L hl (wvs_c.mpr ⟨wv0 (by unfold lcm in32; (repeat' split) <;> omega), hw2.2⟩) hwl rfl rfl
      simp only [List.map_cons] at K' ⊢
      have hq : lg_cmp (I6 x) (I6 y) = I3 (lcm x y) := by
        unfold lg_cmp lcm
        have e1 : (I6 x > I6 y) ↔ y < x := I6_lt hy hxx
        have e2 := I6_eq hxx hy
        by_cases q1 : y < x
        · rw [if_pos (e1.mpr q1), if_neg (by omega), if_neg (by omega)]; rfl
        · rw [if_neg (fun q => q1 (e1.mp q))]
          by_cases q2 : x = y
          · rw [if_pos (e2.mpr q2), if_neg (by omega), if_pos q2]; rfl
          · rw [if_neg (fun q => q2 (e2.mp q)), if_pos (by omega)]; rfl
      exact W.lcmp hx hb hd (by rw [hq]; exact K')
    · cases he
  by_cases h52 : op = 52
  · subst h52
    have hd : decode cc pc = .ok (.land, 1) := of_decide_eq_true hok
    replace he : l2 ia64 (pc + 1) ls stk h gg = some (pc', ls', stk', h', gg') := he
    unfold l2 at he
    split at he
    · next y x r =>
      have hw := wvs_c.mp hws
      have hw2 := wvs_c.mp hw.2
      have hy := hw.1.2.1 rfl
      have hxx := hw2.1.2.1 rfl
      simp only [Option.some.injEq, Prod.mk.injEq] at he; obtain ⟨rfl, rfl, rfl, rfl, rfl⟩ := he
      have K' := K L hl (wvs_c.mpr ⟨wv1 (in64_to _), hw2.2⟩) hwl rfl rfl
      simp only [List.map_cons] at K' ⊢
      exact lv_land hx hb hd (by rw [I6_and]; exact K')
    · cases he
  by_cases h53 : op = 53
  · subst h53
    have hd : decode cc pc = .ok (.lor, 1) := of_decide_eq_true hok
    replace he : l2 io64 (pc + 1) ls stk h gg = some (pc', ls', stk', h', gg') := he
    unfold l2 at he
    split at he
    · next y x r =>
      have hw := wvs_c.mp hws
      have hw2 := wvs_c.mp hw.2
      have hy := hw.1.2.1 rfl
      have hxx := hw2.1.2.1 rfl
      simp only [Option.some.injEq, Prod.mk.injEq] at he; obtain ⟨rfl, rfl, rfl, rfl, rfl⟩ := he
      have K' := K L hl (wvs_c.mpr ⟨wv1 (in64_to _), hw2.2⟩) hwl rfl rfl
      simp only [List.map_cons] at K' ⊢
      exact lv_lor hx hb hd (by rw [I6_or]; exact K')
    · cases he
  by_cases h54 : op = 54
  · subst h54
    have hd : decode cc pc = .ok (.lshl, 1) := of_decide_eq_true hok
    replace he : ls2 shl64 (pc + 1) ls stk h gg = some (pc', ls', stk', h', gg') := he
    unfold ls2 at he
    split at he
    · next y x r =>
      have hw := wvs_c.mp hws
      have hw2 := wvs_c.mp hw.2
      have hy := hw.1.1 rfl
      have hxx := hw2.1.2.1 rfl
      simp only [Option.some.injEq, Prod.mk.injEq] at he; obtain ⟨rfl, rfl, rfl, rfl, rfl⟩ := he
      have K' := K L hl (wvs_c.mpr ⟨wv1 (w64_in _), hw2.2⟩) hwl rfl rfl
      simp only [List.map_cons] at K' ⊢
      exact lv_lshl hx hb hd (I6_shl hy) K'
    · cases he
  by_cases h55 : op = 55
  · subst h55
    have hd : decode cc pc = .ok (.lshr, 1) := of_decide_eq_true hok
    replace he : ls2 shr64 (pc + 1) ls stk h gg = some (pc', ls', stk', h', gg') := he
    unfold ls2 at he
    split at he
    · next y x r =>
      have hw := wvs_c.mp hws
      have hw2 := wvs_c.mp hw.2
      have hy := hw.1.1 rfl
      have hxx := hw2.1.2.1 rfl
      simp only [Option.some.injEq, Prod.mk.injEq] at he; obtain ⟨rfl, rfl, rfl, rfl, rfl⟩ := he
      have K' := K L hl (wvs_c.mpr ⟨wv1 (shr_in6 _ hxx), hw2.2⟩) hwl rfl rfl
      simp only [List.map_cons] at K' ⊢
      exact lv_lshr hx hb hd (I6_shr hxx hy) K'
    · cases he
  by_cases h56 : op = 56
  · subst h56
    have hd : decode cc pc = .ok (.dup, 1) := of_decide_eq_true hok
    replace he : (match (generalizing := false) stk with | v :: r => if v.1 = 1 then none else some (pc + 1, ls, v :: v :: r, h, gg) | _ => none) = some (pc', ls', stk', h', gg') := he
    split at he
    · next v r =>
      have hw := wvs_c.mp hws
      by_cases hz : v.1 = 1
      · rw [if_pos hz] at he; cases he
      · rw [if_neg hz] at he
        simp only [Option.some.injEq, Prod.mk.injEq] at he; obtain ⟨rfl, rfl, rfl, rfl, rfl⟩ := he
        exact lv_dup hx hb hd (by rw [tr_cat, if_neg hz]) (K L hl (wvs_c.mpr ⟨hw.1, hws⟩) hwl rfl rfl)
    · cases he
  by_cases h57 : op = 57
  · subst h57
    have hd : decode cc pc = .ok (.dup2, 1) := of_decide_eq_true hok
    replace he : (match (generalizing := false) stk with | v :: u :: r => if v.1 = 1 ∨ u.1 = 1 then none else some (pc + 1, ls, v :: u :: v :: u :: r, h, gg) | _ => none) = some (pc', ls', stk', h', gg') := he
    split at he
    · next v u r =>
      have hw := wvs_c.mp hws
      have hw2 := wvs_c.mp hw.2
      by_cases hz : v.1 = 1 ∨ u.1 = 1
      · rw [if_pos hz] at he; cases he
      · rw [if_neg hz] at he
        simp only [Option.some.injEq, Prod.mk.injEq] at he; obtain ⟨rfl, rfl, rfl, rfl, rfl⟩ := he
        exact lv_dup2_11 hx hb hd (by rw [tr_cat, if_neg (fun q => hz (Or.inl q))]) (by rw [tr_cat, if_neg (fun q => hz (Or.inr q))]) (K L hl (wvs_c.mpr ⟨hw.1, wvs_c.mpr ⟨hw2.1, hws⟩⟩) hwl rfl rfl)
    · cases he
  by_cases h58 : op = 58
  · subst h58
    have hd : decode cc pc = .ok (.pop, 1) := of_decide_eq_true hok
    replace he : (match (generalizing := false) stk with | v :: r => if v.1 = 1 then none else some (pc + 1, ls, r, h, gg) | _ => none) = some (pc', ls', stk', h', gg') := he
    split at he
    · next v r =>
      have hw := wvs_c.mp hws
      by_cases hz : v.1 = 1
      · rw [if_pos hz] at he; cases he
      · rw [if_neg hz] at he
        simp only [Option.some.injEq, Prod.mk.injEq] at he; obtain ⟨rfl, rfl, rfl, rfl, rfl⟩ := he
        exact lv_pop hx hb hd (by rw [tr_cat, if_neg hz]) (K L hl hw.2 hwl rfl rfl)
    · cases he
  simp only [h30, h31, h32, h33, h34, h35, h36, h37, h38, h39, h40, h41, h42, h43, h44, h45, h46, h47, h48, h49, h50, h51, h52, h53, h54, h55, h56, h57, h58, if_false] at hok
  cases hok
end SNDB
