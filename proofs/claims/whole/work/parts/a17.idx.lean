/-! String.indexOf(int) of the letters, through the JDK's own methods -/
def JW (base sb : Nat) (av : Nat → Nat) (U : State) : Prop := vk_S 1 [12] [LETB] (fun _ => sb) av (fun q => base ≤ q) U U.heap ∧ va_Z "java/lang/String" "COMPACT_STRINGS" "Z" (.int 1) (fun q => base ≤ q) U U.heap ∧ base ≤ U.heap.size
def Qp (v : Value) : Array Value → State → Outcome → State → Prop := fun _ st oc t => oc = .returned (some v) ∧ t.heap = st.heap
def rmJ (k : Nat) : Room := { frames := k, cells := 0, slots := 0, locals := 60 * k }
theorem JW.at {base sb : Nat} {av : Nat → Nat} {s U : State} (hvm : s.vm.Alike U.vm) (hh : U.heap = s.heap) (h : JW base sb av s) : JW base sb av U := by
  unfold JW at h ⊢
  rw [hh]
  exact ⟨vk_S.moved hvm h.1, va_Z.moved hvm h.2.1, h.2.2⟩
theorem JW.S {base sb : Nat} {av : Nat → Nat} {s : State} (h : JW base sb av s) : va_T .byte (av 0) 12 (fun j => .int (LETB.getD j 0)) (fun q => base ≤ q) s s.heap := (h.1.1 0 (by decide)).2.2.2
theorem JP_blind {base sb : Nat} {av : Nat → Nat} {As : List Value} : FrameBlind (va_Pc As (JW base sb av)) := by
  intro a U g mk hq
  exact ⟨hq.1, hq.2.at (U := U.calling g mk a) (Vm.Alike.refl U.vm) rfl⟩
theorem JP_at {base sb : Nat} {av : Nat → Nat} {s : State} {H : Heap} {As : List Value} (hH : H = s.heap) (h : JW base sb av s) : ∀ U : State, U.heap = H → s.WarmedH U.vm → va_Pc As (JW base sb av) As.toArray U := fun U hU hW => ⟨rfl, h.at hW.alike (by rw [hU, hH])⟩
def yCE : MethodName := ⟨"java/lang/StringLatin1", "canEncode", "(I)Z"⟩
abbrev bCE : ByteArray := prog_19_method_4_code
def wsCE : List Cond := .code yCE bCE 1 (some .boolean) :: wT
theorem inCE : GoodIn wT wsCE := by
  intro w hw
  have hc : Cond.code yCE bCE 1 (some .boolean) ∈ wT := wT_t (i := 699) (by decide +kernel) (code_good _ _ _ _)
  rcases List.mem_cons.mp hw with rfl | h
  · exact ⟨hc, wT_good hc⟩
  · exact ⟨h, wT_good h⟩
theorem dCE_0 : decode bCE 0 = .ok (.iload_n 0, 1) := by decide +kernel
theorem dCE_1 : decode bCE 1 = .ok (.ifCond .lt (14), 3) := by decide +kernel
theorem dCE_4 : decode bCE 4 = .ok (.iload_n 0, 1) := by decide +kernel
theorem dCE_5 : decode bCE 5 = .ok (.sipush 255, 3) := by decide +kernel
theorem dCE_8 : decode bCE 8 = .ok (.if_icmp .gt (7), 3) := by decide +kernel
theorem dCE_11 : decode bCE 11 = .ok (.iconst (1), 1) := by decide +kernel
theorem dCE_12 : decode bCE 12 = .ok (.goto (4), 3) := by decide +kernel
theorem dCE_15 : decode bCE 15 = .ok (.iconst (0), 1) := by decide +kernel
theorem dCE_16 : decode bCE 16 = .ok (.ireturn, 1) := by decide +kernel
def yIC : MethodName := ⟨"java/lang/StringLatin1", "indexOfChar", "([BIII)I"⟩
abbrev bIC : ByteArray := prog_19_method_23_code
def wsIC : List Cond := .code yIC bIC 6 (some .int) :: wT
theorem inIC : GoodIn wT wsIC := by
  intro w hw
  have hc : Cond.code yIC bIC 6 (some .int) ∈ wT := wT_t (i := 706) (by decide +kernel) (code_good _ _ _ _)
  rcases List.mem_cons.mp hw with rfl | h
  · exact ⟨hc, wT_good hc⟩
  · exact ⟨h, wT_good h⟩
theorem dIC_0 : decode bIC 0 = .ok (.iload_n 1, 1) := by decide +kernel
theorem dIC_1 : decode bIC 1 = .ok (.i2b, 1) := by decide +kernel
theorem dIC_2 : decode bIC 2 = .ok (.istore 4, 2) := by decide +kernel
theorem dIC_4 : decode bIC 4 = .ok (.iload_n 2, 1) := by decide +kernel
theorem dIC_5 : decode bIC 5 = .ok (.istore 5, 2) := by decide +kernel
theorem dIC_7 : decode bIC 7 = .ok (.iload 5, 2) := by decide +kernel
theorem dIC_9 : decode bIC 9 = .ok (.iload_n 3, 1) := by decide +kernel
theorem dIC_10 : decode bIC 10 = .ok (.if_icmp .ge (21), 3) := by decide +kernel
theorem dIC_13 : decode bIC 13 = .ok (.aload_n 0, 1) := by decide +kernel
theorem dIC_14 : decode bIC 14 = .ok (.iload 5, 2) := by decide +kernel
theorem dIC_16 : decode bIC 16 = .ok (.baload, 1) := by decide +kernel
theorem dIC_17 : decode bIC 17 = .ok (.iload 4, 2) := by decide +kernel
theorem dIC_19 : decode bIC 19 = .ok (.if_icmp .ne (6), 3) := by decide +kernel
theorem dIC_22 : decode bIC 22 = .ok (.iload 5, 2) := by decide +kernel
theorem dIC_24 : decode bIC 24 = .ok (.ireturn, 1) := by decide +kernel
theorem dIC_25 : decode bIC 25 = .ok (.iinc 5 1, 3) := by decide +kernel
theorem dIC_28 : decode bIC 28 = .ok (.goto (-21), 3) := by decide +kernel
theorem dIC_31 : decode bIC 31 = .ok (.iconst (-1), 1) := by decide +kernel
theorem dIC_32 : decode bIC 32 = .ok (.ireturn, 1) := by decide +kernel
def ySI : MethodName := ⟨"java/lang/StringLatin1", "indexOf", "([BIII)I"⟩
abbrev bSI : ByteArray := prog_19_method_22_code
def wsSI : List Cond := .code ySI bSI 4 (some .int) :: wT
theorem inSI : GoodIn wT wsSI := by
  intro w hw
  have hc : Cond.code ySI bSI 4 (some .int) ∈ wT := wT_t (i := 696) (by decide +kernel) (code_good _ _ _ _)
  rcases List.mem_cons.mp hw with rfl | h
  · exact ⟨hc, wT_good hc⟩
  · exact ⟨h, wT_good h⟩
theorem dSI_0 : decode bSI 0 = .ok (.iload_n 1, 1) := by decide +kernel
theorem dSI_1 : decode bSI 1 = .ok (.invokestatic 88, 3) := by decide +kernel
theorem dSI_4 : decode bSI 4 = .ok (.ifCond .ne (5), 3) := by decide +kernel
theorem dSI_7 : decode bSI 7 = .ok (.iconst (-1), 1) := by decide +kernel
theorem dSI_8 : decode bSI 8 = .ok (.ireturn, 1) := by decide +kernel
theorem dSI_9 : decode bSI 9 = .ok (.iload_n 2, 1) := by decide +kernel
theorem dSI_10 : decode bSI 10 = .ok (.iconst (0), 1) := by decide +kernel
theorem dSI_11 : decode bSI 11 = .ok (.invokestatic 92, 3) := by decide +kernel
theorem dSI_14 : decode bSI 14 = .ok (.istore_n 2, 1) := by decide +kernel
theorem dSI_15 : decode bSI 15 = .ok (.iload_n 3, 1) := by decide +kernel
theorem dSI_16 : decode bSI 16 = .ok (.aload_n 0, 1) := by decide +kernel
theorem dSI_17 : decode bSI 17 = .ok (.arraylength, 1) := by decide +kernel
theorem dSI_18 : decode bSI 18 = .ok (.invokestatic 38, 3) := by decide +kernel
theorem dSI_21 : decode bSI 21 = .ok (.istore_n 3, 1) := by decide +kernel
theorem dSI_22 : decode bSI 22 = .ok (.iload_n 2, 1) := by decide +kernel
theorem dSI_23 : decode bSI 23 = .ok (.iload_n 3, 1) := by decide +kernel
theorem dSI_24 : decode bSI 24 = .ok (.if_icmp .lt (5), 3) := by decide +kernel
theorem dSI_27 : decode bSI 27 = .ok (.iconst (-1), 1) := by decide +kernel
theorem dSI_28 : decode bSI 28 = .ok (.ireturn, 1) := by decide +kernel
theorem dSI_29 : decode bSI 29 = .ok (.aload_n 0, 1) := by decide +kernel
theorem dSI_30 : decode bSI 30 = .ok (.iload_n 1, 1) := by decide +kernel
theorem dSI_31 : decode bSI 31 = .ok (.iload_n 2, 1) := by decide +kernel
theorem dSI_32 : decode bSI 32 = .ok (.iload_n 3, 1) := by decide +kernel
theorem dSI_33 : decode bSI 33 = .ok (.invokestatic 95, 3) := by decide +kernel
theorem dSI_36 : decode bSI 36 = .ok (.ireturn, 1) := by decide +kernel
def yCO : MethodName := ⟨"java/lang/String", "coder", "()B"⟩
abbrev bCO : ByteArray := prog_18_method_152_code
def wsCO : List Cond := .code yCO bCO 1 (some .byte) :: wT
theorem inCO : GoodIn wT wsCO := by
  intro w hw
  have hc : Cond.code yCO bCO 1 (some .byte) ∈ wT := wT_t (i := 693) (by decide +kernel) (code_good _ _ _ _)
  rcases List.mem_cons.mp hw with rfl | h
  · exact ⟨hc, wT_good hc⟩
  · exact ⟨h, wT_good h⟩
theorem dCO_0 : decode bCO 0 = .ok (.getstatic 38, 3) := by decide +kernel
theorem dCO_3 : decode bCO 3 = .ok (.ifCond .eq (10), 3) := by decide +kernel
theorem dCO_6 : decode bCO 6 = .ok (.aload_n 0, 1) := by decide +kernel
theorem dCO_7 : decode bCO 7 = .ok (.getfield 15, 3) := by decide +kernel
theorem dCO_10 : decode bCO 10 = .ok (.goto (4), 3) := by decide +kernel
theorem dCO_13 : decode bCO 13 = .ok (.iconst (1), 1) := by decide +kernel
theorem dCO_14 : decode bCO 14 = .ok (.ireturn, 1) := by decide +kernel
def yLE : MethodName := ⟨"java/lang/String", "length", "()I"⟩
abbrev bLE : ByteArray := prog_18_method_54_code
def wsLE : List Cond := .code yLE bLE 1 (some .int) :: wT
theorem inLE : GoodIn wT wsLE := by
  intro w hw
  have hc : Cond.code yLE bLE 1 (some .int) ∈ wT := wT_t (i := 689) (by decide +kernel) (code_good _ _ _ _)
  rcases List.mem_cons.mp hw with rfl | h
  · exact ⟨hc, wT_good hc⟩
  · exact ⟨h, wT_good h⟩
theorem dLE_0 : decode bLE 0 = .ok (.aload_n 0, 1) := by decide +kernel
theorem dLE_1 : decode bLE 1 = .ok (.getfield 9, 3) := by decide +kernel
theorem dLE_4 : decode bLE 4 = .ok (.arraylength, 1) := by decide +kernel
theorem dLE_5 : decode bLE 5 = .ok (.aload_n 0, 1) := by decide +kernel
theorem dLE_6 : decode bLE 6 = .ok (.invokevirtual 335, 3) := by decide +kernel
theorem dLE_9 : decode bLE 9 = .ok (.ishr, 1) := by decide +kernel
theorem dLE_10 : decode bLE 10 = .ok (.ireturn, 1) := by decide +kernel
def yIL : MethodName := ⟨"java/lang/String", "isLatin1", "()Z"⟩
abbrev bIL : ByteArray := prog_18_method_154_code
def wsIL : List Cond := .code yIL bIL 1 (some .boolean) :: wT
theorem inIL : GoodIn wT wsIL := by
  intro w hw
  have hc : Cond.code yIL bIL 1 (some .boolean) ∈ wT := wT_t (i := 683) (by decide +kernel) (code_good _ _ _ _)
  rcases List.mem_cons.mp hw with rfl | h
  · exact ⟨hc, wT_good hc⟩
  · exact ⟨h, wT_good h⟩
theorem dIL_0 : decode bIL 0 = .ok (.getstatic 38, 3) := by decide +kernel
theorem dIL_3 : decode bIL 3 = .ok (.ifCond .eq (14), 3) := by decide +kernel
theorem dIL_6 : decode bIL 6 = .ok (.aload_n 0, 1) := by decide +kernel
theorem dIL_7 : decode bIL 7 = .ok (.getfield 15, 3) := by decide +kernel
theorem dIL_10 : decode bIL 10 = .ok (.ifCond .ne (7), 3) := by decide +kernel
theorem dIL_13 : decode bIL 13 = .ok (.iconst (1), 1) := by decide +kernel
theorem dIL_14 : decode bIL 14 = .ok (.goto (4), 3) := by decide +kernel
theorem dIL_17 : decode bIL 17 = .ok (.iconst (0), 1) := by decide +kernel
theorem dIL_18 : decode bIL 18 = .ok (.ireturn, 1) := by decide +kernel
def yI2 : MethodName := ⟨"java/lang/String", "indexOf", "(II)I"⟩
abbrev bI2 : ByteArray := prog_18_method_80_code
def wsI2 : List Cond := .code yI2 bI2 3 (some .int) :: wT
theorem inI2 : GoodIn wT wsI2 := by
  intro w hw
  have hc : Cond.code yI2 bI2 3 (some .int) ∈ wT := wT_t (i := 679) (by decide +kernel) (code_good _ _ _ _)
  rcases List.mem_cons.mp hw with rfl | h
  · exact ⟨hc, wT_good hc⟩
  · exact ⟨h, wT_good h⟩
theorem dI2_0 : decode bI2 0 = .ok (.aload_n 0, 1) := by decide +kernel
theorem dI2_1 : decode bI2 1 = .ok (.invokevirtual 492, 3) := by decide +kernel
theorem dI2_4 : decode bI2 4 = .ok (.ifCond .eq (19), 3) := by decide +kernel
theorem dI2_7 : decode bI2 7 = .ok (.aload_n 0, 1) := by decide +kernel
theorem dI2_8 : decode bI2 8 = .ok (.getfield 9, 3) := by decide +kernel
theorem dI2_11 : decode bI2 11 = .ok (.iload_n 1, 1) := by decide +kernel
theorem dI2_12 : decode bI2 12 = .ok (.iload_n 2, 1) := by decide +kernel
theorem dI2_13 : decode bI2 13 = .ok (.aload_n 0, 1) := by decide +kernel
theorem dI2_14 : decode bI2 14 = .ok (.invokevirtual 505, 3) := by decide +kernel
theorem dI2_17 : decode bI2 17 = .ok (.invokestatic 637, 3) := by decide +kernel
theorem dI2_20 : decode bI2 20 = .ok (.goto (16), 3) := by decide +kernel
theorem dI2_36 : decode bI2 36 = .ok (.ireturn, 1) := by decide +kernel
def yI1 : MethodName := ⟨"java/lang/String", "indexOf", "(I)I"⟩
abbrev bI1 : ByteArray := prog_18_method_79_code
def wsI1 : List Cond := .code yI1 bI1 2 (some .int) :: wT
theorem inI1 : GoodIn wT wsI1 := by
  intro w hw
  have hc : Cond.code yI1 bI1 2 (some .int) ∈ wT := wT_t (i := 675) (by decide +kernel) (code_good _ _ _ _)
  rcases List.mem_cons.mp hw with rfl | h
  · exact ⟨hc, wT_good hc⟩
  · exact ⟨h, wT_good h⟩
theorem dI1_0 : decode bI1 0 = .ok (.aload_n 0, 1) := by decide +kernel
theorem dI1_1 : decode bI1 1 = .ok (.iload_n 1, 1) := by decide +kernel
theorem dI1_2 : decode bI1 2 = .ok (.iconst (0), 1) := by decide +kernel
theorem dI1_3 : decode bI1 3 = .ok (.invokevirtual 633, 3) := by decide +kernel
theorem dI1_6 : decode bI1 6 = .ok (.ireturn, 1) := by decide +kernel
section IDX
variable {l : Launch} {base sb : Nat} {av : Nat → Nat}
theorem J_CE {x : Int} (h0 : 0 ≤ x) (h1 : x < 256) : Met l yCE wsCE (rmJ 1) (va_Pc [.int (I3 x)] (JW base sb av)) (Qp (.int 1)) 0 0 (fun q => base ≤ q) := by
  refine Met.ofW (cc := bCE) (maxL := 1) (ret := some .boolean) (by decide) rfl ?_
  intro p e s m args below meth c s₁ B hml hv
  obtain ⟨rfl, hJ⟩ := hv
  have hx := B.exec
  have hb := B.bytes
  have hr := B.returns
  have hts0 := atoms_spec (ws := wsCE) B.pre
  have hts : ∀ w ∈ wT, w.before _ s = true := fun w hw => hts0 w (List.mem_cons_of_mem _ hw)
  have hown : s.vm.findClass "java/lang/StringLatin1" = some m.cls := findClass_of_methodNamed B.named
  have hlocks := B.notSynchronized
  have hF : CallFix p m c bCE 1 s _ wT "java/lang/StringLatin1" := ⟨hx, hb, hml, hown, hts⟩
  have hS : va_S (fun q => base ≤ q) s.heap s.heap [] := va_S.rf
  have hl := lv_entry ([.int (I3 x)]) (n := 1) (Nat.le_of_ble_eq_true rfl)
  rw [lg_entry_eq]
  generalize (lg_sl ([.int (I3 x)]) ++ List.replicate (1 - (lg_sl ([.int (I3 x)])).length) Slot.unset).toArray = ls at hl ⊢
  have hl : lv_has ls 1 ([(0, .int (I3 x))]) := hl
  have hxx : in32 x := by unfold in32; omega
  refine lv_iload_n hx hb dCE_0 rfl (lv_at hl 0 rfl) ?_
  refine lv_if_lt (tgt := 15) hx hb dCE_1 (by decide) (fun q => absurd ((I3_lt hxx in32_0).mp q) (by omega)) (fun _ => ?_)
  refine lv_iload_n hx hb dCE_4 rfl (lv_at hl 0 rfl) ?_
  refine lv_sipush (v := I3 255) hx hb dCE_5 (by decide) ?_
  refine lv_icmp_gt (tgt := 15) hx hb dCE_8 (by decide) (fun q => absurd ((I3_lt (x := 255) (by unfold in32; omega) hxx).mp q) (by omega)) (fun _ => ?_)
  refine lv_iconst (v := 1) hx hb dCE_11 (by decide) ?_
  refine lv_goto (tgt := 16) hx hb dCE_12 (by decide) ?_
  exact W.zret hx hb hr (by decide) (fun t ht _ => ⟨rfl, ht⟩) (fun q hq => by simp at hq) dCE_16 hlocks
theorem LET_in (j : Nat) : 0 ≤ (LETB.getD j 0).toInt ∧ (LETB.getD j 0).toInt < 128 := by
  by_cases h : j < 12
  · rcases (show j = 0 ∨ j = 1 ∨ j = 2 ∨ j = 3 ∨ j = 4 ∨ j = 5 ∨ j = 6 ∨ j = 7 ∨ j = 8 ∨ j = 9 ∨ j = 10 ∨ j = 11 by omega) with rfl | rfl | rfl | rfl | rfl | rfl | rfl | rfl | rfl | rfl | rfl | rfl <;> decide
  · rw [List.getD_eq_getElem?_getD, List.getElem?_eq_none (by show 12 ≤ j; omega)]; decide
theorem ite_sw {a b x p q : Int} (h : a = b) : (if x = a then p else q) = if b = x then p else q := by
  subst h
  by_cases e : x = a
  · rw [if_pos e, if_pos e.symm]
  · rw [if_neg e, if_neg (fun z => e z.symm)]
theorem idxOf_at : ∀ (k j : Nat), j + k = 12 → ∀ x : Int, idxOf ([115, 100, 103, 109, 98, 97, 111, 119, 108, 104, 121, 113].drop j) (j : Int) x = if k = 0 then (-1 : Int) else if (LETB.getD j 0).toInt = x then (j : Int) else idxOf ([115, 100, 103, 109, 98, 97, 111, 119, 108, 104, 121, 113].drop (j + 1)) ((j : Int) + 1) x := by
  intro k j h x
  rcases (show j = 0 ∨ j = 1 ∨ j = 2 ∨ j = 3 ∨ j = 4 ∨ j = 5 ∨ j = 6 ∨ j = 7 ∨ j = 8 ∨ j = 9 ∨ j = 10 ∨ j = 11 ∨ j = 12 by omega) with rfl | rfl | rfl | rfl | rfl | rfl | rfl | rfl | rfl | rfl | rfl | rfl | rfl
  · rw [if_neg (show ¬ k = 0 by omega)]; exact ite_sw (a := 115) (by decide)
  · rw [if_neg (show ¬ k = 0 by omega)]; exact ite_sw (a := 100) (by decide)
  · rw [if_neg (show ¬ k = 0 by omega)]; exact ite_sw (a := 103) (by decide)
  · rw [if_neg (show ¬ k = 0 by omega)]; exact ite_sw (a := 109) (by decide)
  · rw [if_neg (show ¬ k = 0 by omega)]; exact ite_sw (a := 98) (by decide)
  · rw [if_neg (show ¬ k = 0 by omega)]; exact ite_sw (a := 97) (by decide)
  · rw [if_neg (show ¬ k = 0 by omega)]; exact ite_sw (a := 111) (by decide)
  · rw [if_neg (show ¬ k = 0 by omega)]; exact ite_sw (a := 119) (by decide)
  · rw [if_neg (show ¬ k = 0 by omega)]; exact ite_sw (a := 108) (by decide)
  · rw [if_neg (show ¬ k = 0 by omega)]; exact ite_sw (a := 104) (by decide)
  · rw [if_neg (show ¬ k = 0 by omega)]; exact ite_sw (a := 121) (by decide)
  · rw [if_neg (show ¬ k = 0 by omega)]; exact ite_sw (a := 113) (by decide)
  · rw [if_pos (show k = 0 by omega)]; rfl
theorem J_IC {x : Int} (h0 : 0 ≤ x) (h1 : x < 256) : Met l yIC wsIC (rmJ 1) (va_Pc [.ref (av 0), .int (I3 x), .int 0, .int 12] (JW base sb av)) (Qp (.int (I3 (idxOf [115, 100, 103, 109, 98, 97, 111, 119, 108, 104, 121, 113] 0 x)))) 0 0 (fun q => base ≤ q) := by
  refine Met.ofW (cc := bIC) (maxL := 6) (ret := some .int) (by decide) rfl ?_
  intro p e s m args below meth c s₁ B hml hv
  obtain ⟨rfl, hJ⟩ := hv
  have hx := B.exec
  have hb := B.bytes
  have hr := B.returns
  have hts0 := atoms_spec (ws := wsIC) B.pre
  have hts : ∀ w ∈ wT, w.before _ s = true := fun w hw => hts0 w (List.mem_cons_of_mem _ hw)
  have hown : s.vm.findClass "java/lang/StringLatin1" = some m.cls := findClass_of_methodNamed B.named
  have hlocks := B.notSynchronized
  have hF : CallFix p m c bIC 6 s _ wT "java/lang/StringLatin1" := ⟨hx, hb, hml, hown, hts⟩
  have hS : va_S (fun q => base ≤ q) s.heap s.heap [] := va_S.rf
  have hl := lv_entry ([.ref (av 0), .int (I3 x), .int 0, .int 12]) (n := 6) (Nat.le_of_ble_eq_true rfl)
  rw [lg_entry_eq]
  generalize (lg_sl ([.ref (av 0), .int (I3 x), .int 0, .int 12]) ++ List.replicate (6 - (lg_sl ([.ref (av 0), .int (I3 x), .int 0, .int 12])).length) Slot.unset).toArray = ls at hl ⊢
  have hl : lv_has ls 6 ([(0, .ref (av 0)), (1, .int (I3 x)), (2, .int 0), (3, .int 12)]) := hl
  have hxx : in32 x := by unfold in32; omega
  refine lv_iload_n hx hb dIC_0 rfl (lv_at hl 1 rfl) ?_
  refine lv_i2b hx hb dIC_1 rfl ?_
  refine lv_istore (lv' := [(4, .int (I3 (Int.bmod x 256))), (0, .ref (av 0)), (1, .int (I3 x)), (2, .int 0), (3, .int 12)]) hx hb dIC_2 hl (by decide) (by rw [I3_i2b hxx]; rfl) (fun ls hl => ?_)
  refine lv_iload_n hx hb dIC_4 rfl (lv_at hl 3 rfl) ?_
  refine lv_istore (lv' := [(5, .int (I3 0)), (4, .int (I3 (Int.bmod x 256))), (0, .ref (av 0)), (1, .int (I3 x)), (2, .int 0), (3, .int 12)]) hx hb dIC_5 hl (by decide) rfl (fun ls hl => ?_)
  have loop : ∀ (k j : Nat), j + k = 12 → ∀ ls : Array Slot, lv_has ls 6 [(5, .int (I3 j)), (4, .int (I3 (Int.bmod x 256))), (0, .ref (av 0)), (1, .int (I3 x)), (2, .int 0), (3, .int 12)] → W p l e (headSpec wsIC (rmJ 1)).room s m #[.ref (av 0), .int (I3 x), .int 0, .int 12] below meth c s.heap [] 0 0 (MQ below (Qp (.int (I3 (idxOf ([115, 100, 103, 109, 98, 97, 111, 119, 108, 104, 121, 113].drop j) j x)))) #[.ref (av 0), .int (I3 x), .int 0, .int 12] s 0 0 (fun q => base ≤ q)) (F0 m 7 ls []) := by
    intro k
    induction k with
    | zero =>
      intro j hj ls hl
      have hj : j = 12 := by omega
      subst hj
      refine lv_iload hx hb dIC_7 (lv_at hl 0 rfl) ?_
      refine lv_iload_n hx hb dIC_9 rfl (lv_at hl 5 rfl) ?_
      refine lv_icmp_ge (tgt := 31) hx hb dIC_10 (by decide) (fun _ => ?_) (fun q => absurd (by decide) q)
      refine lv_iconst (v := I3 (-1)) hx hb dIC_31 (by decide) ?_
      exact W.iret hx hb hr (fun t ht _ => ⟨rfl, ht⟩) (fun q hq => by simp at hq) dIC_32 hlocks
    | succ k ih =>
      intro j hj ls hl
      have hj32 : in32 (j : Int) := by unfold in32; omega
      rw [idxOf_at (k + 1) j hj x, if_neg (Nat.succ_ne_zero k)]
      refine lv_iload hx hb dIC_7 (lv_at hl 0 rfl) ?_
      refine lv_iload_n hx hb dIC_9 rfl (lv_at hl 5 rfl) ?_
      refine lv_icmp_ge (tgt := 31) hx hb dIC_10 (by decide) (fun q => absurd ((I3_le (x := 12) (by unfold in32; omega) hj32).mp q) (by omega)) (fun _ => ?_)
      refine lv_aload_n hx hb dIC_13 rfl (lv_at hl 2 rfl) ?_
      refine lv_iload hx hb dIC_14 (lv_at hl 0 rfl) ?_
      refine va_tb hx hb hJ.S hS ((I3_vp hj32).mpr ⟨by omega, by omega⟩) (v := .int (LETB.getD j 0)) (by rw [I3_cl hj32]; rfl) dIC_16 ?_
      refine lv_iload hx hb dIC_17 (lv_at hl 1 rfl) ?_
      have hlj := LET_in j
      have hbm : in32 (Int.bmod x 256) := by unfold in32; rw [Int.bmod_def]; split <;> omega
      have he : (LETB.getD j 0 = I3 (Int.bmod x 256)) ↔ (LETB.getD j 0).toInt = x := by
        constructor
        · intro q
          rw [q, I3_to hbm] at hlj ⊢
          generalize hbx : Int.bmod x 256 = y at hlj ⊢
          rw [Int.bmod_def] at hbx
          split at hbx <;> omega
        · intro q
          have : LETB.getD j 0 = I3 ((LETB.getD j 0).toInt) := (Int32.ofInt_toInt _).symm
          rw [this, q]
          congr 1
          rw [Int.bmod_def]
          split <;> omega
      refine lv_icmp_ne (tgt := 25) hx hb dIC_19 (by decide) (fun q => ?_) (fun q => ?_)
      · rw [if_neg (fun w => q (he.mpr w))]
        refine lv_iinc (v := I3 ((j + 1 : Nat) : Int)) (lv' := [(5, .int (I3 ((j + 1 : Nat) : Int))), (4, .int (I3 (Int.bmod x 256))), (0, .ref (av 0)), (1, .int (I3 x)), (2, .int 0), (3, .int 12)]) hx hb dIC_25 hl (k := 0) rfl (by rw [Int.natCast_succ]; show I3 (j : Int) + I3 1 = _; rw [I3_add, w32_id (by unfold in32; omega)]) (by decide) rfl (fun ls hl => ?_)
        refine lv_goto (tgt := 7) hx hb dIC_28 (by decide) ?_
        exact ih (j + 1) (by omega) ls hl
      · have q : LETB.getD j 0 = I3 (Int.bmod x 256) := q
        rw [if_pos (he.mp q)]
        refine lv_iload hx hb dIC_22 (lv_at hl 0 rfl) ?_
        exact W.iret hx hb hr (fun t ht _ => ⟨rfl, ht⟩) (fun q hq => by simp at hq) dIC_24 hlocks
  exact loop 12 0 rfl ls hl
theorem J_CO : Met l yCO wsCO (rmJ 1) (va_Pc [.ref sb] (JW base sb av)) (Qp (.int 0)) 0 0 (fun q => base ≤ q) := by
  refine Met.ofW (cc := bCO) (maxL := 1) (ret := some .byte) (by decide) rfl ?_
  intro p e s m args below meth c s₁ B hml hv
  obtain ⟨rfl, hJ⟩ := hv
  have hx := B.exec
  have hb := B.bytes
  have hr := B.returns
  have hts0 := atoms_spec (ws := wsCO) B.pre
  have hts : ∀ w ∈ wT, w.before _ s = true := fun w hw => hts0 w (List.mem_cons_of_mem _ hw)
  have hown : s.vm.findClass "java/lang/String" = some m.cls := findClass_of_methodNamed B.named
  have hlocks := B.notSynchronized
  have hF : CallFix p m c bCO 1 s _ wT "java/lang/String" := ⟨hx, hb, hml, hown, hts⟩
  have hS : va_S (fun q => base ≤ q) s.heap s.heap [] := va_S.rf
  have hl := lv_entry ([.ref sb]) (n := 1) (Nat.le_of_ble_eq_true rfl)
  rw [lg_entry_eq]
  generalize (lg_sl ([.ref sb]) ++ List.replicate (1 - (lg_sl ([.ref sb])).length) Slot.unset).toArray = ls at hl ⊢
  have hl : lv_has ls 1 ([(0, .ref sb)]) := hl
  refine va_gets hx hb hJ.2.1 hS hown (hts _ (wT_t (i := 684) (by decide +kernel) (by decide +kernel))) (fun _ h => h) dCO_0 ?_
  refine lv_if_eq (tgt := 13) hx hb dCO_3 (by decide) (fun q => absurd q (by decide)) (fun _ => ?_)
  refine lv_aload_n hx hb dCO_6 rfl (lv_at hl 0 rfl) ?_
  refine vk_getf hx hb (hJ.1.1 0 (by decide)).2.1 hS hown (hts _ (wT_t (i := 2356) (by decide +kernel) (by decide +kernel))) (fun _ h => h) dCO_7 ?_
  refine lv_goto (tgt := 14) hx hb dCO_10 (by decide) ?_
  exact W.zret hx hb hr (by decide) (fun t ht _ => ⟨rfl, ht⟩) (fun q hq => by simp at hq) dCO_14 hlocks
theorem J_IL : Met l yIL wsIL (rmJ 1) (va_Pc [.ref sb] (JW base sb av)) (Qp (.int 1)) 0 0 (fun q => base ≤ q) := by
  refine Met.ofW (cc := bIL) (maxL := 1) (ret := some .boolean) (by decide) rfl ?_
  intro p e s m args below meth c s₁ B hml hv
  obtain ⟨rfl, hJ⟩ := hv
  have hx := B.exec
  have hb := B.bytes
  have hr := B.returns
  have hts0 := atoms_spec (ws := wsIL) B.pre
  have hts : ∀ w ∈ wT, w.before _ s = true := fun w hw => hts0 w (List.mem_cons_of_mem _ hw)
  have hown : s.vm.findClass "java/lang/String" = some m.cls := findClass_of_methodNamed B.named
  have hlocks := B.notSynchronized
  have hF : CallFix p m c bIL 1 s _ wT "java/lang/String" := ⟨hx, hb, hml, hown, hts⟩
  have hS : va_S (fun q => base ≤ q) s.heap s.heap [] := va_S.rf
  have hl := lv_entry ([.ref sb]) (n := 1) (Nat.le_of_ble_eq_true rfl)
  rw [lg_entry_eq]
  generalize (lg_sl ([.ref sb]) ++ List.replicate (1 - (lg_sl ([.ref sb])).length) Slot.unset).toArray = ls at hl ⊢
  have hl : lv_has ls 1 ([(0, .ref sb)]) := hl
  refine va_gets hx hb hJ.2.1 hS hown (hts _ (wT_t (i := 684) (by decide +kernel) (by decide +kernel))) (fun _ h => h) dIL_0 ?_
  refine lv_if_eq (tgt := 17) hx hb dIL_3 (by decide) (fun q => absurd q (by decide)) (fun _ => ?_)
  refine lv_aload_n hx hb dIL_6 rfl (lv_at hl 0 rfl) ?_
  refine vk_getf hx hb (hJ.1.1 0 (by decide)).2.1 hS hown (hts _ (wT_t (i := 2356) (by decide +kernel) (by decide +kernel))) (fun _ h => h) dIL_7 ?_
  refine lv_if_ne (tgt := 17) hx hb dIL_10 (by decide) (fun q => absurd rfl q) (fun _ => ?_)
  refine lv_iconst (v := 1) hx hb dIL_13 (by decide) ?_
  refine lv_goto (tgt := 18) hx hb dIL_14 (by decide) ?_
  exact W.zret hx hb hr (by decide) (fun t ht _ => ⟨rfl, ht⟩) (fun q hq => by simp at hq) dIL_18 hlocks
theorem J_LE : Met l yLE wsLE (rmJ 2) (va_Pc [.ref sb] (JW base sb av)) (Qp (.int 12)) 0 0 (fun q => base ≤ q) := by
  refine Met.ofW (cc := bLE) (maxL := 1) (ret := some .int) (by decide) rfl ?_
  intro p e s m args below meth c s₁ B hml hv
  obtain ⟨rfl, hJ⟩ := hv
  have hx := B.exec
  have hb := B.bytes
  have hr := B.returns
  have hts0 := atoms_spec (ws := wsLE) B.pre
  have hts : ∀ w ∈ wT, w.before _ s = true := fun w hw => hts0 w (List.mem_cons_of_mem _ hw)
  have hown : s.vm.findClass "java/lang/String" = some m.cls := findClass_of_methodNamed B.named
  have hlocks := B.notSynchronized
  have hF : CallFix p m c bLE 1 s _ wT "java/lang/String" := ⟨hx, hb, hml, hown, hts⟩
  have hS : va_S (fun q => base ≤ q) s.heap s.heap [] := va_S.rf
  have hl := lv_entry ([.ref sb]) (n := 1) (Nat.le_of_ble_eq_true rfl)
  rw [lg_entry_eq]
  generalize (lg_sl ([.ref sb]) ++ List.replicate (1 - (lg_sl ([.ref sb])).length) Slot.unset).toArray = ls at hl ⊢
  have hl : lv_has ls 1 ([(0, .ref sb)]) := hl
  have cwCO : CallW (headSpec wsLE (rmJ 2)).room s #[.ref sb] "java/lang/String" "java/lang/String" 335 yCO bCO 1 (some .byte) wsCO (rmJ 1) 0 0 0 := by
    refine cwV 0 hts (fun w hw => ?_) rfl rfl rfl ⟨rfl, by decide, by decide, by decide +kernel⟩ ⟨Nat.le_of_ble_eq_true rfl, Nat.le_of_ble_eq_true rfl⟩
    rcases List.mem_append.mp hw with z | z
    · simp only [List.mem_cons, List.not_mem_nil, or_false] at z
      rcases z with rfl | rfl | rfl | rfl
      · exact ⟨wT_t (i := 690) (by decide +kernel) (by decide +kernel), wT_good (wT_t (i := 690) (by decide +kernel) (by decide +kernel))⟩
      · exact ⟨wT_t (i := 691) (by decide +kernel) (by decide +kernel), wT_good (wT_t (i := 691) (by decide +kernel) (by decide +kernel))⟩
      · exact ⟨wT_t (i := 692) (by decide +kernel) (by decide +kernel), wT_good (wT_t (i := 692) (by decide +kernel) (by decide +kernel))⟩
      · exact ⟨wT_t (i := 17) (by decide +kernel) (by decide +kernel), wT_good (wT_t (i := 17) (by decide +kernel) (by decide +kernel))⟩
    · exact inCO w z
  refine lv_aload_n hx hb dLE_0 rfl (lv_at hl 0 rfl) ?_
  refine vk_getf hx hb (hJ.1.1 0 (by decide)).2.2.1 hS hown (hts _ (wT_t (i := 2357) (by decide +kernel) (by decide +kernel))) (fun _ h => h) dLE_1 ?_
  refine va_tlen hx hb hJ.S hS (v := 12) rfl dLE_4 ?_
  refine lv_aload_n hx hb dLE_5 rfl (lv_at hl 0 rfl) ?_
  refine call_on (va_runV (As := []) (rest := [.int 12]) hF (J_CO (l := l) (base := base) (sb := sb) (av := av)) cwCO ⟨JP_blind, vk_recv (i := 0) hJ.1 (by decide) hS, JP_at rfl hJ⟩ rfl rfl hl.1 rfl (lv_room (Nat.le_of_ble_eq_true rfl)) dLE_6 ⟨Nat.le_of_ble_eq_true rfl, Nat.le_of_ble_eq_true rfl⟩) (fun v1 st1 t1 lo1 e1 hW1 hlo1 hq1 => ?_)
  obtain ⟨hv1, ht1⟩ := hq1
  cases hv1
  rw [ht1, e1]
  have hS1 : va_S (fun q => base ≤ q) s.heap s.heap ([] ++ lo1) := ⟨Nat.le_refl _, fun _ _ _ => rfl, fun q hq => by
    rcases List.mem_append.mp hq with z | z
    · exact absurd z List.not_mem_nil
    · exact hlo1 q z⟩
  refine lv_ishr hx hb dLE_9 ?_
  exact W.iret hx hb hr (fun t ht _ => ⟨by decide, ht⟩) (fun q hq => hS1.2.2 q hq) dLE_10 hlocks
theorem J_SI {x : Int} (h0 : 0 ≤ x) (h1 : x < 256) : Met l ySI wsSI (rmJ 2) (va_Pc [.ref (av 0), .int (I3 x), .int 0, .int 12] (JW base sb av)) (Qp (.int (I3 (idxOf [115, 100, 103, 109, 98, 97, 111, 119, 108, 104, 121, 113] 0 x)))) 0 0 (fun q => base ≤ q) := by
  refine Met.ofW (cc := bSI) (maxL := 4) (ret := some .int) (by decide) rfl ?_
  intro p e s m args below meth c s₁ B hml hv
  obtain ⟨rfl, hJ⟩ := hv
  have hx := B.exec
  have hb := B.bytes
  have hr := B.returns
  have hts0 := atoms_spec (ws := wsSI) B.pre
  have hts : ∀ w ∈ wT, w.before _ s = true := fun w hw => hts0 w (List.mem_cons_of_mem _ hw)
  have hown : s.vm.findClass "java/lang/StringLatin1" = some m.cls := findClass_of_methodNamed B.named
  have hlocks := B.notSynchronized
  have hF : CallFix p m c bSI 4 s _ wT "java/lang/StringLatin1" := ⟨hx, hb, hml, hown, hts⟩
  have hS : va_S (fun q => base ≤ q) s.heap s.heap [] := va_S.rf
  have hl := lv_entry ([.ref (av 0), .int (I3 x), .int 0, .int 12]) (n := 4) (Nat.le_of_ble_eq_true rfl)
  rw [lg_entry_eq]
  generalize (lg_sl ([.ref (av 0), .int (I3 x), .int 0, .int 12]) ++ List.replicate (4 - (lg_sl ([.ref (av 0), .int (I3 x), .int 0, .int 12])).length) Slot.unset).toArray = ls at hl ⊢
  have hl : lv_has ls 4 ([(0, .ref (av 0)), (1, .int (I3 x)), (2, .int 0), (3, .int 12)]) := hl
  have cwCE : CallB (headSpec wsSI (rmJ 2)).room s #[.ref (av 0), .int (I3 x), .int 0, .int 12] "java/lang/StringLatin1" 88 yCE bCE 1 (some .boolean) wsCE (rmJ 1) 0 0 1 ∧ (Cond.static yCE).before #[.ref (av 0), .int (I3 x), .int 0, .int 12] s = true := by
    refine va_cwS 1 hts (fun w hw => ?_) rfl rfl rfl ⟨by decide, by decide, by decide +kernel⟩ ⟨Nat.le_of_ble_eq_true rfl, Nat.le_of_ble_eq_true rfl⟩
    rcases List.mem_append.mp hw with z | z
    · simp only [List.mem_cons, List.not_mem_nil, or_false] at z
      rcases z with rfl | rfl | rfl
      · exact ⟨wT_t (i := 697) (by decide +kernel) (by decide +kernel), wT_good (wT_t (i := 697) (by decide +kernel) (by decide +kernel))⟩
      · exact ⟨wT_t (i := 698) (by decide +kernel) (by decide +kernel), wT_good (wT_t (i := 698) (by decide +kernel) (by decide +kernel))⟩
      · exact ⟨wT_t (i := 18) (by decide +kernel) (by decide +kernel), wT_good (wT_t (i := 18) (by decide +kernel) (by decide +kernel))⟩
    · exact inCE w z
  have cwIC : CallB (headSpec wsSI (rmJ 2)).room s #[.ref (av 0), .int (I3 x), .int 0, .int 12] "java/lang/StringLatin1" 95 yIC bIC 6 (some .int) wsIC (rmJ 1) 0 0 4 ∧ (Cond.static yIC).before #[.ref (av 0), .int (I3 x), .int 0, .int 12] s = true := by
    refine va_cwS 4 hts (fun w hw => ?_) rfl rfl rfl ⟨by decide, by decide, by decide +kernel⟩ ⟨Nat.le_of_ble_eq_true rfl, Nat.le_of_ble_eq_true rfl⟩
    rcases List.mem_append.mp hw with z | z
    · simp only [List.mem_cons, List.not_mem_nil, or_false] at z
      rcases z with rfl | rfl | rfl
      · exact ⟨wT_t (i := 704) (by decide +kernel) (by decide +kernel), wT_good (wT_t (i := 704) (by decide +kernel) (by decide +kernel))⟩
      · exact ⟨wT_t (i := 705) (by decide +kernel) (by decide +kernel), wT_good (wT_t (i := 705) (by decide +kernel) (by decide +kernel))⟩
      · exact ⟨wT_t (i := 18) (by decide +kernel) (by decide +kernel), wT_good (wT_t (i := 18) (by decide +kernel) (by decide +kernel))⟩
    · exact inIC w z
  refine lv_iload_n hx hb dSI_0 rfl (lv_at hl 1 rfl) ?_
  refine call_on (va_runS (As := [.int (I3 x)]) (rest := []) hF (J_CE (l := l) (base := base) (sb := sb) (av := av) h0 h1) cwCE ⟨JP_blind, JP_at rfl hJ⟩ rfl rfl hl.1 rfl (lv_room (Nat.le_of_ble_eq_true rfl)) dSI_1 ⟨Nat.le_of_ble_eq_true rfl, Nat.le_of_ble_eq_true rfl⟩) (fun v1 st1 t1 lo1 e1 hW1 hlo1 hq1 => ?_)
  obtain ⟨hv1, ht1⟩ := hq1
  cases hv1
  rw [ht1, e1]
  have hS1 : va_S (fun q => base ≤ q) s.heap s.heap ([] ++ lo1) := ⟨Nat.le_refl _, fun _ _ _ => rfl, fun q hq => by
    rcases List.mem_append.mp hq with z | z
    · exact absurd z List.not_mem_nil
    · exact hlo1 q z⟩
  refine lv_if_ne (tgt := 9) hx hb dSI_4 (by decide) (fun _ => ?_) (fun q => absurd q (by decide))
  refine lv_iload_n hx hb dSI_9 rfl (lv_at hl 2 rfl) ?_
  refine lv_iconst (v := 0) hx hb dSI_10 (by decide) ?_
  refine va_mmax hx hb (by rw [hml]; exact hl.1.symm) hown (hts _ (wT_t (i := 700) (by decide +kernel) (by decide +kernel))) (hts _ (wT_t XI_ok.2.1.1 XI_ok.2.1.2)) (hts _ (wT_t XI_ok.1.1 XI_ok.1.2)) (hts _ (wT_t XC_ok.1.1 XC_ok.1.2)) (Nat.le_of_ble_eq_true rfl) (Nat.le_of_ble_eq_true rfl) (Nat.le_of_ble_eq_true rfl) (Nat.le_of_ble_eq_true rfl) dSI_11 ?_
  refine lv_istore_n (lv' := [(2, .int 0), (0, .ref (av 0)), (1, .int (I3 x)), (3, .int 12)]) hx hb dSI_14 rfl hl (by decide) rfl (fun ls hl => ?_)
  refine lv_iload_n hx hb dSI_15 rfl (lv_at hl 3 rfl) ?_
  refine lv_aload_n hx hb dSI_16 rfl (lv_at hl 1 rfl) ?_
  refine va_tlen hx hb hJ.S hS1 (v := 12) rfl dSI_17 ?_
  refine va_mmin hx hb (by rw [hml]; exact hl.1.symm) hown (hts _ (wT_t (i := 703) (by decide +kernel) (by decide +kernel))) (hts _ (wT_t XI_ok.2.2.1.1 XI_ok.2.2.1.2)) (hts _ (wT_t XI_ok.1.1 XI_ok.1.2)) (hts _ (wT_t XC_ok.2.1.1 XC_ok.2.1.2)) (Nat.le_of_ble_eq_true rfl) (Nat.le_of_ble_eq_true rfl) (Nat.le_of_ble_eq_true rfl) (Nat.le_of_ble_eq_true rfl) dSI_18 ?_
  refine lv_istore_n (lv' := [(3, .int 12), (2, .int 0), (0, .ref (av 0)), (1, .int (I3 x))]) hx hb dSI_21 rfl hl (by decide) rfl (fun ls hl => ?_)
  refine lv_iload_n hx hb dSI_22 rfl (lv_at hl 1 rfl) ?_
  refine lv_iload_n hx hb dSI_23 rfl (lv_at hl 0 rfl) ?_
  refine lv_icmp_lt (tgt := 29) hx hb dSI_24 (by decide) (fun _ => ?_) (fun q => absurd (by decide) q)
  refine lv_aload_n hx hb dSI_29 rfl (lv_at hl 2 rfl) ?_
  refine lv_iload_n hx hb dSI_30 rfl (lv_at hl 3 rfl) ?_
  refine lv_iload_n hx hb dSI_31 rfl (lv_at hl 1 rfl) ?_
  refine lv_iload_n hx hb dSI_32 rfl (lv_at hl 0 rfl) ?_
  refine call_on (va_runS (As := [.ref (av 0), .int (I3 x), .int 0, .int 12]) (rest := []) hF (J_IC (l := l) (base := base) (sb := sb) (av := av) h0 h1) cwIC ⟨JP_blind, JP_at rfl hJ⟩ rfl rfl hl.1 rfl (lv_room (Nat.le_of_ble_eq_true rfl)) dSI_33 ⟨Nat.le_of_ble_eq_true rfl, Nat.le_of_ble_eq_true rfl⟩) (fun v2 st2 t2 lo2 e2 hW2 hlo2 hq2 => ?_)
  obtain ⟨hv2, ht2⟩ := hq2
  cases hv2
  rw [ht2, e2]
  have hS2 : va_S (fun q => base ≤ q) s.heap s.heap (([] ++ lo1) ++ lo2) := ⟨Nat.le_refl _, fun _ _ _ => rfl, fun q hq => by
    rcases List.mem_append.mp hq with z | z
    · exact hS1.2.2 q z
    · exact hlo2 q z⟩
  exact W.iret hx hb hr (fun t ht _ => ⟨rfl, ht⟩) (fun q hq => hS2.2.2 q hq) dSI_36 hlocks
theorem J_I2 {x : Int} (h0 : 0 ≤ x) (h1 : x < 256) : Met l yI2 wsI2 (rmJ 3) (va_Pc [.ref sb, .int (I3 x), .int 0] (JW base sb av)) (Qp (.int (I3 (idxOf [115, 100, 103, 109, 98, 97, 111, 119, 108, 104, 121, 113] 0 x)))) 0 0 (fun q => base ≤ q) := by
  refine Met.ofW (cc := bI2) (maxL := 3) (ret := some .int) (by decide) rfl ?_
  intro p e s m args below meth c s₁ B hml hv
  obtain ⟨rfl, hJ⟩ := hv
  have hx := B.exec
  have hb := B.bytes
  have hr := B.returns
  have hts0 := atoms_spec (ws := wsI2) B.pre
  have hts : ∀ w ∈ wT, w.before _ s = true := fun w hw => hts0 w (List.mem_cons_of_mem _ hw)
  have hown : s.vm.findClass "java/lang/String" = some m.cls := findClass_of_methodNamed B.named
  have hlocks := B.notSynchronized
  have hF : CallFix p m c bI2 3 s _ wT "java/lang/String" := ⟨hx, hb, hml, hown, hts⟩
  have hS : va_S (fun q => base ≤ q) s.heap s.heap [] := va_S.rf
  have hl := lv_entry ([.ref sb, .int (I3 x), .int 0]) (n := 3) (Nat.le_of_ble_eq_true rfl)
  rw [lg_entry_eq]
  generalize (lg_sl ([.ref sb, .int (I3 x), .int 0]) ++ List.replicate (3 - (lg_sl ([.ref sb, .int (I3 x), .int 0])).length) Slot.unset).toArray = ls at hl ⊢
  have hl : lv_has ls 3 ([(0, .ref sb), (1, .int (I3 x)), (2, .int 0)]) := hl
  have cwIL : CallW (headSpec wsI2 (rmJ 3)).room s #[.ref sb, .int (I3 x), .int 0] "java/lang/String" "java/lang/String" 492 yIL bIL 1 (some .boolean) wsIL (rmJ 1) 0 0 0 := by
    refine cwV 0 hts (fun w hw => ?_) rfl rfl rfl ⟨rfl, by decide, by decide, by decide +kernel⟩ ⟨Nat.le_of_ble_eq_true rfl, Nat.le_of_ble_eq_true rfl⟩
    rcases List.mem_append.mp hw with z | z
    · simp only [List.mem_cons, List.not_mem_nil, or_false] at z
      rcases z with rfl | rfl | rfl | rfl
      · exact ⟨wT_t (i := 680) (by decide +kernel) (by decide +kernel), wT_good (wT_t (i := 680) (by decide +kernel) (by decide +kernel))⟩
      · exact ⟨wT_t (i := 681) (by decide +kernel) (by decide +kernel), wT_good (wT_t (i := 681) (by decide +kernel) (by decide +kernel))⟩
      · exact ⟨wT_t (i := 682) (by decide +kernel) (by decide +kernel), wT_good (wT_t (i := 682) (by decide +kernel) (by decide +kernel))⟩
      · exact ⟨wT_t (i := 17) (by decide +kernel) (by decide +kernel), wT_good (wT_t (i := 17) (by decide +kernel) (by decide +kernel))⟩
    · exact inIL w z
  have cwLE : CallW (headSpec wsI2 (rmJ 3)).room s #[.ref sb, .int (I3 x), .int 0] "java/lang/String" "java/lang/String" 505 yLE bLE 1 (some .int) wsLE (rmJ 2) 0 0 0 := by
    refine cwV 0 hts (fun w hw => ?_) rfl rfl rfl ⟨rfl, by decide, by decide, by decide +kernel⟩ ⟨Nat.le_of_ble_eq_true rfl, Nat.le_of_ble_eq_true rfl⟩
    rcases List.mem_append.mp hw with z | z
    · simp only [List.mem_cons, List.not_mem_nil, or_false] at z
      rcases z with rfl | rfl | rfl | rfl
      · exact ⟨wT_t (i := 686) (by decide +kernel) (by decide +kernel), wT_good (wT_t (i := 686) (by decide +kernel) (by decide +kernel))⟩
      · exact ⟨wT_t (i := 687) (by decide +kernel) (by decide +kernel), wT_good (wT_t (i := 687) (by decide +kernel) (by decide +kernel))⟩
      · exact ⟨wT_t (i := 688) (by decide +kernel) (by decide +kernel), wT_good (wT_t (i := 688) (by decide +kernel) (by decide +kernel))⟩
      · exact ⟨wT_t (i := 17) (by decide +kernel) (by decide +kernel), wT_good (wT_t (i := 17) (by decide +kernel) (by decide +kernel))⟩
    · exact inLE w z
  have cwSI : CallB (headSpec wsI2 (rmJ 3)).room s #[.ref sb, .int (I3 x), .int 0] "java/lang/String" 637 ySI bSI 4 (some .int) wsSI (rmJ 2) 0 0 4 ∧ (Cond.static ySI).before #[.ref sb, .int (I3 x), .int 0] s = true := by
    refine va_cwS 4 hts (fun w hw => ?_) rfl rfl rfl ⟨by decide, by decide, by decide +kernel⟩ ⟨Nat.le_of_ble_eq_true rfl, Nat.le_of_ble_eq_true rfl⟩
    rcases List.mem_append.mp hw with z | z
    · simp only [List.mem_cons, List.not_mem_nil, or_false] at z
      rcases z with rfl | rfl | rfl
      · exact ⟨wT_t (i := 694) (by decide +kernel) (by decide +kernel), wT_good (wT_t (i := 694) (by decide +kernel) (by decide +kernel))⟩
      · exact ⟨wT_t (i := 695) (by decide +kernel) (by decide +kernel), wT_good (wT_t (i := 695) (by decide +kernel) (by decide +kernel))⟩
      · exact ⟨wT_t (i := 18) (by decide +kernel) (by decide +kernel), wT_good (wT_t (i := 18) (by decide +kernel) (by decide +kernel))⟩
    · exact inSI w z
  refine lv_aload_n hx hb dI2_0 rfl (lv_at hl 0 rfl) ?_
  refine call_on (va_runV (As := []) (rest := []) hF (J_IL (l := l) (base := base) (sb := sb) (av := av)) cwIL ⟨JP_blind, vk_recv (i := 0) hJ.1 (by decide) hS, JP_at rfl hJ⟩ rfl rfl hl.1 rfl (lv_room (Nat.le_of_ble_eq_true rfl)) dI2_1 ⟨Nat.le_of_ble_eq_true rfl, Nat.le_of_ble_eq_true rfl⟩) (fun v1 st1 t1 lo1 e1 hW1 hlo1 hq1 => ?_)
  obtain ⟨hv1, ht1⟩ := hq1
  cases hv1
  rw [ht1, e1]
  have hS1 : va_S (fun q => base ≤ q) s.heap s.heap ([] ++ lo1) := ⟨Nat.le_refl _, fun _ _ _ => rfl, fun q hq => by
    rcases List.mem_append.mp hq with z | z
    · exact absurd z List.not_mem_nil
    · exact hlo1 q z⟩
  refine lv_if_eq (tgt := 23) hx hb dI2_4 (by decide) (fun q => absurd q (by decide)) (fun _ => ?_)
  refine lv_aload_n hx hb dI2_7 rfl (lv_at hl 0 rfl) ?_
  refine vk_getf hx hb (hJ.1.1 0 (by decide)).2.2.1 hS1 hown (hts _ (wT_t (i := 2357) (by decide +kernel) (by decide +kernel))) (fun _ h => h) dI2_8 ?_
  refine lv_iload_n hx hb dI2_11 rfl (lv_at hl 1 rfl) ?_
  refine lv_iload_n hx hb dI2_12 rfl (lv_at hl 2 rfl) ?_
  refine lv_aload_n hx hb dI2_13 rfl (lv_at hl 0 rfl) ?_
  refine call_on (va_runV (As := []) (rest := [.int 0, .int (I3 x), .ref (av 0)]) hF (J_LE (l := l) (base := base) (sb := sb) (av := av)) cwLE ⟨JP_blind, vk_recv (i := 0) hJ.1 (by decide) hS1, JP_at rfl hJ⟩ rfl rfl hl.1 rfl (lv_room (Nat.le_of_ble_eq_true rfl)) dI2_14 ⟨Nat.le_of_ble_eq_true rfl, Nat.le_of_ble_eq_true rfl⟩) (fun v2 st2 t2 lo2 e2 hW2 hlo2 hq2 => ?_)
  obtain ⟨hv2, ht2⟩ := hq2
  cases hv2
  rw [ht2, e2]
  have hS2 : va_S (fun q => base ≤ q) s.heap s.heap (([] ++ lo1) ++ lo2) := ⟨Nat.le_refl _, fun _ _ _ => rfl, fun q hq => by
    rcases List.mem_append.mp hq with z | z
    · exact hS1.2.2 q z
    · exact hlo2 q z⟩
  refine call_on (va_runS (As := [.ref (av 0), .int (I3 x), .int 0, .int 12]) (rest := []) hF (J_SI (l := l) (base := base) (sb := sb) (av := av) h0 h1) cwSI ⟨JP_blind, JP_at rfl hJ⟩ rfl rfl hl.1 rfl (lv_room (Nat.le_of_ble_eq_true rfl)) dI2_17 ⟨Nat.le_of_ble_eq_true rfl, Nat.le_of_ble_eq_true rfl⟩) (fun v3 st3 t3 lo3 e3 hW3 hlo3 hq3 => ?_)
  obtain ⟨hv3, ht3⟩ := hq3
  cases hv3
  rw [ht3, e3]
  have hS3 : va_S (fun q => base ≤ q) s.heap s.heap ((([] ++ lo1) ++ lo2) ++ lo3) := ⟨Nat.le_refl _, fun _ _ _ => rfl, fun q hq => by
    rcases List.mem_append.mp hq with z | z
    · exact hS2.2.2 q z
    · exact hlo3 q z⟩
  refine lv_goto (tgt := 36) hx hb dI2_20 (by decide) ?_
  exact W.iret hx hb hr (fun t ht _ => ⟨rfl, ht⟩) (fun q hq => hS3.2.2 q hq) dI2_36 hlocks
theorem J_I1 {x : Int} (h0 : 0 ≤ x) (h1 : x < 256) : Met l yI1 wsI1 (rmJ 4) (va_Pc [.ref sb, .int (I3 x)] (JW base sb av)) (Qp (.int (I3 (idxOf [115, 100, 103, 109, 98, 97, 111, 119, 108, 104, 121, 113] 0 x)))) 0 0 (fun q => base ≤ q) := by
  refine Met.ofW (cc := bI1) (maxL := 2) (ret := some .int) (by decide) rfl ?_
  intro p e s m args below meth c s₁ B hml hv
  obtain ⟨rfl, hJ⟩ := hv
  have hx := B.exec
  have hb := B.bytes
  have hr := B.returns
  have hts0 := atoms_spec (ws := wsI1) B.pre
  have hts : ∀ w ∈ wT, w.before _ s = true := fun w hw => hts0 w (List.mem_cons_of_mem _ hw)
  have hown : s.vm.findClass "java/lang/String" = some m.cls := findClass_of_methodNamed B.named
  have hlocks := B.notSynchronized
  have hF : CallFix p m c bI1 2 s _ wT "java/lang/String" := ⟨hx, hb, hml, hown, hts⟩
  have hS : va_S (fun q => base ≤ q) s.heap s.heap [] := va_S.rf
  have hl := lv_entry ([.ref sb, .int (I3 x)]) (n := 2) (Nat.le_of_ble_eq_true rfl)
  rw [lg_entry_eq]
  generalize (lg_sl ([.ref sb, .int (I3 x)]) ++ List.replicate (2 - (lg_sl ([.ref sb, .int (I3 x)])).length) Slot.unset).toArray = ls at hl ⊢
  have hl : lv_has ls 2 ([(0, .ref sb), (1, .int (I3 x))]) := hl
  have cwI2 : CallW (headSpec wsI1 (rmJ 4)).room s #[.ref sb, .int (I3 x)] "java/lang/String" "java/lang/String" 633 yI2 bI2 3 (some .int) wsI2 (rmJ 3) 0 0 2 := by
    refine cwV 2 hts (fun w hw => ?_) rfl rfl rfl ⟨rfl, by decide, by decide, by decide +kernel⟩ ⟨Nat.le_of_ble_eq_true rfl, Nat.le_of_ble_eq_true rfl⟩
    rcases List.mem_append.mp hw with z | z
    · simp only [List.mem_cons, List.not_mem_nil, or_false] at z
      rcases z with rfl | rfl | rfl | rfl
      · exact ⟨wT_t (i := 676) (by decide +kernel) (by decide +kernel), wT_good (wT_t (i := 676) (by decide +kernel) (by decide +kernel))⟩
      · exact ⟨wT_t (i := 677) (by decide +kernel) (by decide +kernel), wT_good (wT_t (i := 677) (by decide +kernel) (by decide +kernel))⟩
      · exact ⟨wT_t (i := 678) (by decide +kernel) (by decide +kernel), wT_good (wT_t (i := 678) (by decide +kernel) (by decide +kernel))⟩
      · exact ⟨wT_t (i := 17) (by decide +kernel) (by decide +kernel), wT_good (wT_t (i := 17) (by decide +kernel) (by decide +kernel))⟩
    · exact inI2 w z
  refine lv_aload_n hx hb dI1_0 rfl (lv_at hl 0 rfl) ?_
  refine lv_iload_n hx hb dI1_1 rfl (lv_at hl 1 rfl) ?_
  refine lv_iconst (v := 0) hx hb dI1_2 (by decide) ?_
  refine call_on (va_runV (As := [.int (I3 x), .int 0]) (rest := []) hF (J_I2 (l := l) (base := base) (sb := sb) (av := av) h0 h1) cwI2 ⟨JP_blind, vk_recv (i := 0) hJ.1 (by decide) hS, JP_at rfl hJ⟩ rfl rfl hl.1 rfl (lv_room (Nat.le_of_ble_eq_true rfl)) dI1_3 ⟨Nat.le_of_ble_eq_true rfl, Nat.le_of_ble_eq_true rfl⟩) (fun v1 st1 t1 lo1 e1 hW1 hlo1 hq1 => ?_)
  obtain ⟨hv1, ht1⟩ := hq1
  cases hv1
  rw [ht1, e1]
  have hS1 : va_S (fun q => base ≤ q) s.heap s.heap ([] ++ lo1) := ⟨Nat.le_refl _, fun _ _ _ => rfl, fun q hq => by
    rcases List.mem_append.mp hq with z | z
    · exact absurd z List.not_mem_nil
    · exact hlo1 q z⟩
  exact W.iret hx hb hr (fun t ht _ => ⟨rfl, ht⟩) (fun q hq => hS1.2.2 q hq) dI1_6 hlocks
end IDX
theorem idx_W {p : Program} {l : Launch} {e : Env} {R : Room} {s : State} {m : MethodId} {args : Array Value} {below : List Frame} {meth : Method} {c : Code} {H : Heap} {locs : List Loc} {Q : State → Prop} {cc : ByteArray} {nL : Nat} {sb b0 base : Nat} {sc : Nat × (Nat → Int)} {xs : Nat → Int32} {av : Nat → Nat} {H00 : Heap} {cells slots : Nat}
    (hx : p.tables.exec = Jvm.exec) (hb : c.code = cc) (hml : c.maxLocals = nL) (hown : s.vm.findClass (oN 4) = some m.cls) (hts : ∀ w ∈ wT, w.before args s = true) (hKy : Ky base b0 sb av H00 sc xs s) (hbase : base ≤ H.size) (hold : ∀ q, q < base → H[q]? = H00[q]?) (hfr : 8 ≤ R.frames) (hlo : 1024 ≤ R.locals) (hg1 : cells ≤ R.cells) (hg2 : slots ≤ R.slots)
    {x : Int} {rest : List Value} {pc : Nat} {L : Array Slot} (h0 : 0 ≤ x) (h1 : x < 256) (hr : (rest.map fun v => v.category).sum ≤ 8) (hL : L.size = nL) (hd : decode cc pc = .ok (.invokevirtual 123, 3))
    (K : ∀ locs', (∀ q ∈ locs', base ≤ q.base) → W p l e R s m args below meth c H (locs ++ locs') cells slots Q (F0 m (pc + 3) L (.int (I3 (idxOf [115, 100, 103, 109, 98, 97, 111, 119, 108, 104, 121, 113] 0 x)) :: rest))) :
    W p l e R s m args below meth c H locs cells slots Q (F0 m pc L (.int (I3 x) :: .ref sb :: rest)) := by
  have hcw : CallW R s args (oN 4) "java/lang/String" 123 yI1 bI1 2 (some .int) wsI1 (rmJ 4) 0 0 1 := by
    refine cwV 1 hts (fun w hw => ?_) rfl rfl rfl ⟨rfl, by decide, by decide, by decide +kernel⟩ ⟨by show 4 + 1 ≤ _; omega, by show 8 + (2 + 11) + 240 ≤ _; omega⟩
    rcases List.mem_append.mp hw with z | z
    · simp only [List.mem_cons, List.not_mem_nil, or_false] at z
      rcases z with rfl | rfl | rfl | rfl
      · exact ⟨wT_t (i := 672) (by decide +kernel) (by decide +kernel), wT_good (wT_t (i := 672) (by decide +kernel) (by decide +kernel))⟩
      · exact ⟨wT_t (i := 673) (by decide +kernel) (by decide +kernel), wT_good (wT_t (i := 673) (by decide +kernel) (by decide +kernel))⟩
      · exact ⟨wT_t (i := 674) (by decide +kernel) (by decide +kernel), wT_good (wT_t (i := 674) (by decide +kernel) (by decide +kernel))⟩
      · exact ⟨wT_t (i := 17) (by decide +kernel) (by decide +kernel), wT_good (wT_t (i := 17) (by decide +kernel) (by decide +kernel))⟩
    · exact inI1 w z
  have hW : ∀ U : State, U.heap = H → s.WarmedH U.vm → JW base sb av U := fun U hU hW => by
    obtain ⟨k1, k2, k3, k4, k5, k6⟩ := Ky_warm hW hKy
    refine ⟨?_, ?_, by rw [hU]; exact hbase⟩
    · refine vk_S.kept k5 (fun a _ ha => ?_)
      rw [hU]; exact hold a (Nat.not_le.mp ha)
    · refine va_Z.kept k6 (fun a _ ha => ?_)
      rw [hU]; exact hold a (Nat.not_le.mp ha)
  have hrc : ∃ cell : Cell, H[sb]? = some cell ∧ cell.vm.isStatics = false ∧ s.vm.findClass "java/lang/String" = some cell.cls := by
    obtain ⟨cell, q1, q2, q3, q4⟩ := (hKy.2.2.2.2.1.1 0 (by decide)).1.kept (H1 := H) (fun a _ ha => hold a (Nat.not_le.mp ha))
    exact ⟨cell, q1, q2, q3⟩
  refine call_on (va_runV (As := [.int (I3 x)]) (rest := rest) ⟨hx, hb, hml, hown, hts⟩ (J_I1 (l := l) (base := base) (sb := sb) (av := av) h0 h1) hcw ⟨JP_blind, hrc, fun U hU hW' => ⟨rfl, hW U hU hW'⟩⟩ rfl rfl hL rfl (lv_room hr) hd ⟨hg1, hg2⟩) (fun v1 st1 t1 lo1 e1 hW1 hlo1 hq1 => ?_)
  obtain ⟨hv1, ht1⟩ := hq1
  cases hv1
  rw [ht1, e1]
  exact K lo1 hlo1
