section SNDC
variable {p : Program} {l : Launch} {e : Env} {R : Room} {s : State} {m : MethodId} {args : Array Value} {below : List Frame} {meth : Method} {c : Code} {H : Heap} {locs : List Loc} {cells slots : Nat} {Q : State → Prop} {cc : ByteArray} {own : String} {nL : Nat} {sb b0 : Nat} {ad : Nat → Nat} {o n : Nat}
variable {op nx : Nat} {ns : List Nat} {vs : List Int} {ls stk ls' stk' : List AV} {h h' : Hp} {gg gg' : GG} {pc pc' : Nat} {L : Array Slot}

theorem swt_look : ∀ {ks : List Int} {ts : List Nat} {t pc : Nat} {d x : Int}, ks.length = ts.length → (pc : Int) + d = t → (pc : Int) + Op.lookupswitch.offset (ks.zip (ts.map (fun (u : Nat) => (u : Int) - pc))) d x = (swt ks ts t x : Int)
  | [], [], t, pc, d, x, _, h => h
  | k :: ks, u :: ts, t, pc, d, x, hl, h => by
    have ih := swt_look (ks := ks) (ts := ts) (x := x) (Nat.succ.inj hl) h
    show (pc : Int) + Op.lookupswitch.offset ((k, (u : Int) - pc) :: ks.zip (ts.map (fun (u : Nat) => (u : Int) - pc))) d x = (swt (k :: ks) (u :: ts) t x : Int)
    rw [Op.lookupswitch.offset_cons]
    unfold swt
    by_cases hk : x = k
    · rw [if_pos hk]
      first | rw [if_pos hk] | rw [if_pos hk.symm] | rw [if_pos (by simpa using hk)] | rw [if_pos (by simpa using hk.symm)]
      omega
    · rw [if_neg hk]
      first | rw [if_neg hk] | rw [if_neg (fun q => hk q.symm)] | rw [if_neg (by simpa using hk)] | rw [if_neg (by simpa using fun q => hk q.symm)]
      exact ih
  | [], _ :: _, _, _, _, _, h, _ => by cases h
  | _ :: _, [], _, _, _, _, h, _ => by cases h
theorem swt_out : ∀ {ks : List Int} {ts : List Nat} {t : Nat} {x : Int}, (∀ k ∈ ks, x ≠ k) → swt ks ts t x = t
  | [], _, _, _, _ => by unfold swt; rfl
  | _ :: _, [], _, _, _ => by unfold swt; rfl
  | k :: ks, u :: ts, t, x, h => by
    unfold swt
    rw [if_neg (h k List.mem_cons_self)]
    exact swt_out (fun k hk => h k (List.mem_cons_of_mem _ hk))
theorem swt_in : ∀ {ts : List Nat} {t j : Nat} {lo : Int} {u : Nat}, ts[j]? = some u → swt ((List.range ts.length).map (fun (j : Nat) => lo + (j : Int))) ts t (lo + j) = u
  | [], t, j, lo, u, h => by simp at h
  | v :: ts, t, j, lo, u, h => by
    have e : (List.range (v :: ts).length).map (fun (j : Nat) => lo + (j : Int)) = lo :: (List.range ts.length).map (fun (j : Nat) => (lo + 1) + (j : Int)) := by
      rw [List.length_cons, List.range_succ_eq_map, List.map_cons, List.map_map]
      congr 1
      · simp
      · apply List.map_congr_left
        intro a _
        show lo + ((a + 1 : Nat) : Int) = _
        omega
    rw [e]
    unfold swt
    cases j with
    | zero =>
      rw [if_pos (by simp)]
      simpa using h
    | succ j =>
      rw [if_neg (by omega)]
      have := swt_in (ts := ts) (t := t) (j := j) (lo := lo + 1) (u := u) (by simpa using h)
      rw [← this]
      congr 1
      omega

theorem sndC (hx : p.tables.exec = Jvm.exec) (hb : c.code = cc) (hok : okC cc pc (op, nx, ns, vs) = true) (he : effC (op, nx, ns, vs) ls stk h gg = some (pc', ls', stk', h', gg')) (hl : lr sb b0 ad nL ls L) (hws : wvs n stk) (hwl : wvs n ls) (K : ∀ L', lr sb b0 ad nL ls' L' → wvs n stk' → wvs n ls' → h' = h → gg' = gg → W p l e R s m args below meth c H locs cells slots Q (F0 m pc' L' (stk'.map (tr sb b0 ad)))) : W p l e R s m args below meth c H locs cells slots Q (F0 m pc L (stk.map (tr sb b0 ad))) := by
  by_cases h60 : op = 60
  · subst h60
    obtain ⟨hd, rfl⟩ := of_decide_eq_true (p := decode cc pc = .ok (.ifCond .eq (((ns.headD 0 : Nat) : Int) - pc), 3) ∧ nx = pc + 3) hok
    replace he : c1 (fun x => decide (x = 0)) (ns.headD 0) (pc + 3) ls stk h gg = some (pc', ls', stk', h', gg') := he
    unfold c1 at he
    split at he
    · next x r =>
      have hw := wvs_c.mp hws
      have hxx := hw.1.1 rfl
      simp only [Option.some.injEq, Prod.mk.injEq] at he; obtain ⟨rfl, rfl, rfl, rfl, rfl⟩ := he
      have hK := K L hl hw.2 hwl rfl rfl
      exact lv_if_eq (tgt := ns.headD 0) hx hb hd (by omega) (fun q => by rw [if_pos (decide_eq_true ((I3_eq hxx in32_0).mp q))] at hK; exact hK) (fun q => by rw [if_neg (fun z => q ((I3_eq hxx in32_0).mpr (of_decide_eq_true z)))] at hK; exact hK)
    · cases he
  by_cases h61 : op = 61
  · subst h61
    obtain ⟨hd, rfl⟩ := of_decide_eq_true (p := decode cc pc = .ok (.ifCond .ne (((ns.headD 0 : Nat) : Int) - pc), 3) ∧ nx = pc + 3) hok
    replace he : c1 (fun x => decide (¬ x = 0)) (ns.headD 0) (pc + 3) ls stk h gg = some (pc', ls', stk', h', gg') := he
    unfold c1 at he
    split at he
    · next x r =>
      have hw := wvs_c.mp hws
      have hxx := hw.1.1 rfl
      simp only [Option.some.injEq, Prod.mk.injEq] at he; obtain ⟨rfl, rfl, rfl, rfl, rfl⟩ := he
      have hK := K L hl hw.2 hwl rfl rfl
      exact lv_if_ne (tgt := ns.headD 0) hx hb hd (by omega) (fun q => by rw [if_pos (decide_eq_true ((not_congr (I3_eq hxx in32_0)).mp q))] at hK; exact hK) (fun q => by rw [if_neg (fun z => (of_decide_eq_true z) ((I3_eq hxx in32_0).mp q))] at hK; exact hK)
    · cases he
  by_cases h62 : op = 62
  · subst h62
    obtain ⟨hd, rfl⟩ := of_decide_eq_true (p := decode cc pc = .ok (.ifCond .lt (((ns.headD 0 : Nat) : Int) - pc), 3) ∧ nx = pc + 3) hok
    replace he : c1 (fun x => decide (x < 0)) (ns.headD 0) (pc + 3) ls stk h gg = some (pc', ls', stk', h', gg') := he
    unfold c1 at he
    split at he
    · next x r =>
      have hw := wvs_c.mp hws
      have hxx := hw.1.1 rfl
      simp only [Option.some.injEq, Prod.mk.injEq] at he; obtain ⟨rfl, rfl, rfl, rfl, rfl⟩ := he
      have hK := K L hl hw.2 hwl rfl rfl
      exact lv_if_lt (tgt := ns.headD 0) hx hb hd (by omega) (fun q => by rw [if_pos (decide_eq_true ((I3_lt hxx in32_0).mp q))] at hK; exact hK) (fun q => by rw [if_neg (fun z => q ((I3_lt hxx in32_0).mpr (of_decide_eq_true z)))] at hK; exact hK)
    · cases he
  by_cases h63 : op = 63
  · subst h63
    obtain ⟨hd, rfl⟩ := of_decide_eq_true (p := decode cc pc = .ok (.ifCond .ge (((ns.headD 0 : Nat) : Int) - pc), 3) ∧ nx = pc + 3) hok
    replace he : c1 (fun x => decide (0 ≤ x)) (ns.headD 0) (pc + 3) ls stk h gg = some (pc', ls', stk', h', gg') := he
    unfold c1 at he
    split at he
    · next x r =>
      have hw := wvs_c.mp hws
      have hxx := hw.1.1 rfl
      simp only [Option.some.injEq, Prod.mk.injEq] at he; obtain ⟨rfl, rfl, rfl, rfl, rfl⟩ := he
      have hK := K L hl hw.2 hwl rfl rfl
      exact lv_if_ge (tgt := ns.headD 0) hx hb hd (by omega) (fun q => by rw [if_pos (decide_eq_true ((I3_le in32_0 hxx).mp q))] at hK; exact hK) (fun q => by rw [if_neg (fun z => q ((I3_le in32_0 hxx).mpr (of_decide_eq_true z)))] at hK; exact hK)
    · cases he
  by_cases h64 : op = 64
  · subst h64
    obtain ⟨hd, rfl⟩ := of_decide_eq_true (p := decode cc pc = .ok (.ifCond .gt (((ns.headD 0 : Nat) : Int) - pc), 3) ∧ nx = pc + 3) hok
    replace he : c1 (fun x => decide (0 < x)) (ns.headD 0) (pc + 3) ls stk h gg = some (pc', ls', stk', h', gg') := he
    unfold c1 at he
    split at he
    · next x r =>
      have hw := wvs_c.mp hws
      have hxx := hw.1.1 rfl
      simp only [Option.some.injEq, Prod.mk.injEq] at he; obtain ⟨rfl, rfl, rfl, rfl, rfl⟩ := he
      have hK := K L hl hw.2 hwl rfl rfl
      exact lv_if_gt (tgt := ns.headD 0) hx hb hd (by omega) (fun q => by rw [if_pos (decide_eq_true ((I3_lt in32_0 hxx).mp q))] at hK; exact hK) (fun q => by rw [if_neg (fun z => q ((I3_lt in32_0 hxx).mpr (of_decide_eq_true z)))] at hK; exact hK)
    · cases he
  by_cases h65 : op = 65
  · subst h65
    obtain ⟨hd, rfl⟩ := of_decide_eq_true (p := decode cc pc = .ok (.ifCond .le (((ns.headD 0 : Nat) : Int) - pc), 3) ∧ nx = pc + 3) hok
    replace he : c1 (fun x => decide (x ≤ 0)) (ns.headD 0) (pc + 3) ls stk h gg = some (pc', ls', stk', h', gg') := he
    unfold c1 at he
    split at he
    · next x r =>
      have hw := wvs_c.mp hws
      have hxx := hw.1.1 rfl
      simp only [Option.some.injEq, Prod.mk.injEq] at he; obtain ⟨rfl, rfl, rfl, rfl, rfl⟩ := he
      have hK := K L hl hw.2 hwl rfl rfl
      exact lv_if_le (tgt := ns.headD 0) hx hb hd (by omega) (fun q => by rw [if_pos (decide_eq_true ((I3_le hxx in32_0).mp q))] at hK; exact hK) (fun q => by rw [if_neg (fun z => q ((I3_le hxx in32_0).mpr (of_decide_eq_true z)))] at hK; exact hK)
    · cases he
  by_cases h66 : op = 66
  · subst h66
    obtain ⟨hd, rfl⟩ := of_decide_eq_true (p := decode cc pc = .ok (.if_icmp .eq (((ns.headD 0 : Nat) : Int) - pc), 3) ∧ nx = pc + 3) hok
    replace he : c2 (fun x y => decide (x = y)) (ns.headD 0) (pc + 3) ls stk h gg = some (pc', ls', stk', h', gg') := he
    unfold c2 at he
    split at he
    · next y x r =>
      have hw := wvs_c.mp hws
      have hw2 := wvs_c.mp hw.2
      have hy := hw.1.1 rfl
      have hxx := hw2.1.1 rfl
      simp only [Option.some.injEq, Prod.mk.injEq] at he; obtain ⟨rfl, rfl, rfl, rfl, rfl⟩ := he
      have hK := K L hl hw2.2 hwl rfl rfl
      exact lv_icmp_eq (tgt := ns.headD 0) hx hb hd (by omega) (fun q => by rw [if_pos (decide_eq_true ((I3_eq hxx hy).mp q))] at hK; exact hK) (fun q => by rw [if_neg (fun z => q ((I3_eq hxx hy).mpr (of_decide_eq_true z)))] at hK; exact hK)
    · cases he
  by_cases h67 : op = 67
  · subst h67
    obtain ⟨hd, rfl⟩ := of_decide_eq_true (p := decode cc pc = .ok (.if_icmp .ne (((ns.headD 0 : Nat) : Int) - pc), 3) ∧ nx = pc + 3) hok
    replace he : c2 (fun x y => decide (¬ x = y)) (ns.headD 0) (pc + 3) ls stk h gg = some (pc', ls', stk', h', gg') := he
    unfold c2 at he
    split at he
    · next y x r =>
      have hw := wvs_c.mp hws
      have hw2 := wvs_c.mp hw.2
      have hy := hw.1.1 rfl
      have hxx := hw2.1.1 rfl
      simp only [Option.some.injEq, Prod.mk.injEq] at he; obtain ⟨rfl, rfl, rfl, rfl, rfl⟩ := he
      have hK := K L hl hw2.2 hwl rfl rfl
      exact lv_icmp_ne (tgt := ns.headD 0) hx hb hd (by omega) (fun q => by rw [if_pos (decide_eq_true ((not_congr (I3_eq hxx hy)).mp q))] at hK; exact hK) (fun q => by rw [if_neg (fun z => (of_decide_eq_true z) ((I3_eq hxx hy).mp q))] at hK; exact hK)
    · cases he
  by_cases h68 : op = 68
  · subst h68
    obtain ⟨hd, rfl⟩ := of_decide_eq_true (p := decode cc pc = .ok (.if_icmp .lt (((ns.headD 0 : Nat) : Int) - pc), 3) ∧ nx = pc + 3) hok
    replace he : c2 (fun x y => decide (x < y)) (ns.headD 0) (pc + 3) ls stk h gg = some (pc', ls', stk', h', gg') := he
    unfold c2 at he
    split at he
    · next y x r =>
      have hw := wvs_c.mp hws
      have hw2 := wvs_c.mp hw.2
      have hy := hw.1.1 rfl
      have hxx := hw2.1.1 rfl
      simp only [Option.some.injEq, Prod.mk.injEq] at he; obtain ⟨rfl, rfl, rfl, rfl, rfl⟩ := he
      have hK := K L hl hw2.2 hwl rfl rfl
      exact lv_icmp_lt (tgt := ns.headD 0) hx hb hd (by omega) (fun q => by rw [if_pos (decide_eq_true ((I3_lt hxx hy).mp q))] at hK; exact hK) (fun q => by rw [if_neg (fun z => q ((I3_lt hxx hy).mpr (of_decide_eq_true z)))] at hK; exact hK)
    · cases he
  by_cases h69 : op = 69
  · subst h69
    obtain ⟨hd, rfl⟩ := of_decide_eq_true (p := decode cc pc = .ok (.if_icmp .ge (((ns.headD 0 : Nat) : Int) - pc), 3) ∧ nx = pc + 3) hok
    replace he : c2 (fun x y => decide (y ≤ x)) (ns.headD 0) (pc + 3) ls stk h gg = some (pc', ls', stk', h', gg') := he
    unfold c2 at he
    split at he
    · next y x r =>
      have hw := wvs_c.mp hws
      have hw2 := wvs_c.mp hw.2
      have hy := hw.1.1 rfl
      have hxx := hw2.1.1 rfl
      simp only [Option.some.injEq, Prod.mk.injEq] at he; obtain ⟨rfl, rfl, rfl, rfl, rfl⟩ := he
      have hK := K L hl hw2.2 hwl rfl rfl
      exact lv_icmp_ge (tgt := ns.headD 0) hx hb hd (by omega) (fun q => by rw [if_pos (decide_eq_true ((I3_le hy hxx).mp q))] at hK; exact hK) (fun q => by rw [if_neg (fun z => q ((I3_le hy hxx).mpr (of_decide_eq_true z)))] at hK; exact hK)
    · cases he
  by_cases h70 : op = 70
  · subst h70
    obtain ⟨hd, rfl⟩ := of_decide_eq_true (p := decode cc pc = .ok (.if_icmp .gt (((ns.headD 0 : Nat) : Int) - pc), 3) ∧ nx = pc + 3) hok
    replace he : c2 (fun x y => decide (y < x)) (ns.headD 0) (pc + 3) ls stk h gg = some (pc', ls', stk', h', gg') := he
    unfold c2 at he
    split at he
    · next y x r =>
      have hw := wvs_c.mp hws
      have hw2 := wvs_c.mp hw.2
      have hy := hw.1.1 rfl
      have hxx := hw2.1.1 rfl
      simp only [Option.some.injEq, Prod.mk.injEq] at he; obtain ⟨rfl, rfl, rfl, rfl, rfl⟩ := he
      have hK := K L hl hw2.2 hwl rfl rfl
      exact lv_icmp_gt (tgt := ns.headD 0) hx hb hd (by omega) (fun q => by rw [if_pos (decide_eq_true ((I3_lt hy hxx).mp q))] at hK; exact hK) (fun q => by rw [if_neg (fun z => q ((I3_lt hy hxx).mpr (of_decide_eq_true z)))] at hK; exact hK)
    · cases he
  by_cases h71 : op = 71
  · subst h71
    obtain ⟨hd, rfl⟩ := of_decide_eq_true (p := decode cc pc = .ok (.if_icmp .le (((ns.headD 0 : Nat) : Int) - pc), 3) ∧ nx = pc + 3) hok
    replace he : c2 (fun x y => decide (x ≤ y)) (ns.headD 0) (pc + 3) ls stk h gg = some (pc', ls', stk', h', gg') := he
    unfold c2 at he
    split at he
    · next y x r =>
      have hw := wvs_c.mp hws
      have hw2 := wvs_c.mp hw.2
      have hy := hw.1.1 rfl
      have hxx := hw2.1.1 rfl
      simp only [Option.some.injEq, Prod.mk.injEq] at he; obtain ⟨rfl, rfl, rfl, rfl, rfl⟩ := he
      have hK := K L hl hw2.2 hwl rfl rfl
      exact lv_icmp_le (tgt := ns.headD 0) hx hb hd (by omega) (fun q => by rw [if_pos (decide_eq_true ((I3_le hxx hy).mp q))] at hK; exact hK) (fun q => by rw [if_neg (fun z => q ((I3_le hxx hy).mpr (of_decide_eq_true z)))] at hK; exact hK)
    · cases he
  by_cases h72 : op = 72
  · subst h72
    obtain ⟨hd, rfl⟩ := of_decide_eq_true (p := decode cc pc = .ok (.ifnull (((ns.headD 0 : Nat) : Int) - pc), 3) ∧ nx = pc + 3) hok
    replace he : (match (generalizing := false) stk with | (3, _) :: r => some (ns.headD 0, ls, r, h, gg) | (2, _) :: r => some (pc + 3, ls, r, h, gg) | _ => none) = some (pc', ls', stk', h', gg') := he
    split at he
    · next x r =>
      have hw := wvs_c.mp hws
      simp only [Option.some.injEq, Prod.mk.injEq] at he; obtain ⟨rfl, rfl, rfl, rfl, rfl⟩ := he
      exact lv_ifnullN hx hb hd (by omega) (K L hl hw.2 hwl rfl rfl)
    · next x r =>
      have hw := wvs_c.mp hws
      simp only [Option.some.injEq, Prod.mk.injEq] at he; obtain ⟨rfl, rfl, rfl, rfl, rfl⟩ := he
      exact lv_ifnull hx hb hd (K L hl hw.2 hwl rfl rfl)
    · cases he
  by_cases h73 : op = 73
  · subst h73
    have hd := of_decide_eq_true (p := decode cc pc = .ok (.goto (((ns.headD 0 : Nat) : Int) - pc), 3)) hok
    replace he : some (ns.headD 0, ls, stk, h, gg) = some (pc', ls', stk', h', gg') := he
    simp only [Option.some.injEq, Prod.mk.injEq] at he; obtain ⟨rfl, rfl, rfl, rfl, rfl⟩ := he
    exact lv_goto hx hb hd (by omega) (K L hl hws hwl rfl rfl)
  by_cases h74 : op = 74
  · subst h74
    replace he : (match (generalizing := false) stk with | (0, x) :: r => some (swt vs ns.tail (ns.headD 0) x, ls, r, h, gg) | _ => none) = some (pc', ls', stk', h', gg') := he
    split at he
    · next x r =>
      have hw := wvs_c.mp hws
      have hxx := hw.1.1 rfl
      simp only [Option.some.injEq, Prod.mk.injEq] at he; obtain ⟨rfl, rfl, rfl, rfl, rfl⟩ := he
      have hK := K L hl hw.2 hwl rfl rfl
      have hok : (match (generalizing := false) decode cc pc with | .ok (.tableswitch d lo hi offs, _) => decide ((pc : Int) + d = ((ns.headD 0 : Nat) : Int) ∧ hi + 1 = lo + offs.size ∧ vs = (List.range offs.size).map (fun (j : Nat) => lo + (j : Int)) ∧ offs.toList = ns.tail.map (fun (u : Nat) => (u : Int) - pc)) | _ => false) = true := hok
      split at hok
      · next d lo hi offs ln hd =>
        obtain ⟨q1, q2, q3, q4⟩ := of_decide_eq_true hok
        have hlen : offs.size = ns.tail.length := by rw [← Array.length_toList, q4, List.length_map]
        by_cases hr : x < lo ∨ hi < x
        · refine lv_tableOut hx hb hd (by rw [I3_to hxx]; exact hr) q1 ?_
          rw [swt_out (fun k hk => ?_)] at hK
          · exact hK
          · rw [q3] at hk
            obtain ⟨j, hj, rfl⟩ := List.mem_map.mp hk
            have := List.mem_range.mp hj
            omega
        · obtain ⟨j, hj⟩ : ∃ j : Nat, x = lo + j := ⟨(x - lo).toNat, by omega⟩
          have hjl : j < ns.tail.length := by omega
          have hu : ns.tail[j]? = some ns.tail[j] := List.getElem?_eq_getElem hjl
          have ho : offs[(x - lo).toNat]? = some ((ns.tail[j] : Int) - pc) := by
            rw [← Array.getElem?_toList, q4, List.getElem?_map, show (x - lo).toNat = j by omega, hu]; rfl
          refine lv_tableIn hx hb hd (by rw [I3_to hxx]; omega) (by rw [I3_to hxx]; omega) (by rw [I3_to hxx]; exact ho) (tgt := ns.tail[j]) (by omega) ?_
          rw [q3, hlen, hj, swt_in hu] at hK
          exact hK
      · cases hok
    · cases he
  by_cases h75 : op = 75
  · subst h75
    replace he : (match (generalizing := false) stk with | (0, x) :: r => some (swt vs ns.tail (ns.headD 0) x, ls, r, h, gg) | _ => none) = some (pc', ls', stk', h', gg') := he
    split at he
    · next x r =>
      have hw := wvs_c.mp hws
      have hxx := hw.1.1 rfl
      simp only [Option.some.injEq, Prod.mk.injEq] at he; obtain ⟨rfl, rfl, rfl, rfl, rfl⟩ := he
      have hK := K L hl hw.2 hwl rfl rfl
      have hok : (match (generalizing := false) decode cc pc with | .ok (.lookupswitch d ps, _) => decide ((pc : Int) + d = ((ns.headD 0 : Nat) : Int) ∧ ps.toList = vs.zip (ns.tail.map (fun (u : Nat) => (u : Int) - pc)) ∧ vs.length = ns.tail.length ∧ (ps.toList.zip (ps.toList.drop 1)).all (fun (a, next) => a.1 < next.1) = true) | _ => false) = true := hok
      split at hok
      · next d ps ln hd =>
        obtain ⟨q1, q2, q3, q4⟩ := of_decide_eq_true hok
        refine lv_lookup hx hb hd q4 rfl (tgt := swt vs ns.tail (ns.headD 0) x) ?_ hK
        rw [q2, I3_to hxx]
        exact swt_look q3 q1
      · cases hok
    · cases he
  have hz : okC cc pc (op, nx, ns, vs) = false := by
    unfold okC
    simp only [h60, h61, h62, h63, h64, h65, h66, h67, h68, h69, h70, h71, h72, h73, h74, h75, if_false]
  rw [hz] at hok; cases hok
end SNDC
