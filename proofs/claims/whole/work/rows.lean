section
-- ===== PART A: goes FIRST, ahead of the names: the tables' words, and 'selects' of the private methods out of them =====
/-- a private method of a class that the tables say can be made, by its rows of tables_1 -/
def lw_okq (q : MethodName × Nat) : Prop := (q.1.cls ≠ "java/lang/invoke/MethodHandle" ∧ q.1.cls ≠ "java/lang/invoke/VarHandle") ∧ Cond.instantiable q.1.cls q.2 ∈ tables_1 ∧ Cond.privateMethod q.1 ∈ tables_1 ∧ Cond.instanceMethod q.1 ∈ tables_1
theorem lw_p0 : lw_okq (⟨"PitInspector", "feedFour", "(I)V"⟩, 12) := ⟨⟨by decide +kernel, by decide +kernel⟩, List.mem_of_getElem? (i := 24) (by decide +kernel), List.mem_of_getElem? (i := 578) (by decide +kernel), List.mem_of_getElem? (i := 579) (by decide +kernel)⟩
theorem lw_p1 : lw_okq (⟨"PitInspector$Reader", "clause", "(I)Z"⟩, 4) := ⟨⟨by decide +kernel, by decide +kernel⟩, List.mem_of_getElem? (i := 163) (by decide +kernel), List.mem_of_getElem? (i := 609) (by decide +kernel), List.mem_of_getElem? (i := 610) (by decide +kernel)⟩
theorem lw_p2 : lw_okq (⟨"PitInspector$Reader", "peek", "()I"⟩, 4) := ⟨⟨by decide +kernel, by decide +kernel⟩, List.mem_of_getElem? (i := 163) (by decide +kernel), List.mem_of_getElem? (i := 613) (by decide +kernel), List.mem_of_getElem? (i := 614) (by decide +kernel)⟩
theorem lw_p3 : lw_okq (⟨"PitInspector$Reader", "fail", "(II)Z"⟩, 4) := ⟨⟨by decide +kernel, by decide +kernel⟩, List.mem_of_getElem? (i := 163) (by decide +kernel), List.mem_of_getElem? (i := 617) (by decide +kernel), List.mem_of_getElem? (i := 618) (by decide +kernel)⟩
theorem lw_p4 : lw_okq (⟨"PitInspector$Reader", "strike", "(I)Z"⟩, 4) := ⟨⟨by decide +kernel, by decide +kernel⟩, List.mem_of_getElem? (i := 163) (by decide +kernel), List.mem_of_getElem? (i := 621) (by decide +kernel), List.mem_of_getElem? (i := 622) (by decide +kernel)⟩
theorem lw_p5 : lw_okq (⟨"PitInspector$Reader", "numberUpTo", "(I)Z"⟩, 4) := ⟨⟨by decide +kernel, by decide +kernel⟩, List.mem_of_getElem? (i := 163) (by decide +kernel), List.mem_of_getElem? (i := 625) (by decide +kernel), List.mem_of_getElem? (i := 626) (by decide +kernel)⟩
theorem lw_p6 : lw_okq (⟨"PitInspector$Reader", "number", "()Z"⟩, 4) := ⟨⟨by decide +kernel, by decide +kernel⟩, List.mem_of_getElem? (i := 163) (by decide +kernel), List.mem_of_getElem? (i := 629) (by decide +kernel), List.mem_of_getElem? (i := 630) (by decide +kernel)⟩
theorem lw_p7 : lw_okq (⟨"PitInspector$Reader", "take", "(I)Z"⟩, 4) := ⟨⟨by decide +kernel, by decide +kernel⟩, List.mem_of_getElem? (i := 163) (by decide +kernel), List.mem_of_getElem? (i := 636) (by decide +kernel), List.mem_of_getElem? (i := 637) (by decide +kernel)⟩
theorem lw_p8 : lw_okq (⟨"PitInspector$Reader", "condition", "(I)Z"⟩, 4) := ⟨⟨by decide +kernel, by decide +kernel⟩, List.mem_of_getElem? (i := 163) (by decide +kernel), List.mem_of_getElem? (i := 640) (by decide +kernel), List.mem_of_getElem? (i := 641) (by decide +kernel)⟩
theorem lw_p9 : lw_okq (⟨"PitInspector$Reader", "part", "(I)Z"⟩, 4) := ⟨⟨by decide +kernel, by decide +kernel⟩, List.mem_of_getElem? (i := 163) (by decide +kernel), List.mem_of_getElem? (i := 644) (by decide +kernel), List.mem_of_getElem? (i := 645) (by decide +kernel)⟩
theorem lw_p10 : lw_okq (⟨"PitInspector$Reader", "piece", "(I)Z"⟩, 4) := ⟨⟨by decide +kernel, by decide +kernel⟩, List.mem_of_getElem? (i := 163) (by decide +kernel), List.mem_of_getElem? (i := 648) (by decide +kernel), List.mem_of_getElem? (i := 649) (by decide +kernel)⟩
theorem lw_p11 : lw_okq (⟨"PitInspector$Reader", "emit", "(II)Z"⟩, 4) := ⟨⟨by decide +kernel, by decide +kernel⟩, List.mem_of_getElem? (i := 163) (by decide +kernel), List.mem_of_getElem? (i := 652) (by decide +kernel), List.mem_of_getElem? (i := 653) (by decide +kernel)⟩
theorem lw_p12 : lw_okq (⟨"PitInspector$Reader", "sum", "(I)Z"⟩, 4) := ⟨⟨by decide +kernel, by decide +kernel⟩, List.mem_of_getElem? (i := 163) (by decide +kernel), List.mem_of_getElem? (i := 656) (by decide +kernel), List.mem_of_getElem? (i := 657) (by decide +kernel)⟩
theorem lw_p13 : lw_okq (⟨"PitInspector$Reader", "product", "(I)Z"⟩, 4) := ⟨⟨by decide +kernel, by decide +kernel⟩, List.mem_of_getElem? (i := 163) (by decide +kernel), List.mem_of_getElem? (i := 660) (by decide +kernel), List.mem_of_getElem? (i := 661) (by decide +kernel)⟩
theorem lw_p14 : lw_okq (⟨"PitInspector$Reader", "factor", "(I)Z"⟩, 4) := ⟨⟨by decide +kernel, by decide +kernel⟩, List.mem_of_getElem? (i := 163) (by decide +kernel), List.mem_of_getElem? (i := 664) (by decide +kernel), List.mem_of_getElem? (i := 665) (by decide +kernel)⟩
theorem lw_p15 : lw_okq (⟨"PitInspector$Reader", "land", "(I)V"⟩, 4) := ⟨⟨by decide +kernel, by decide +kernel⟩, List.mem_of_getElem? (i := 163) (by decide +kernel), List.mem_of_getElem? (i := 753) (by decide +kernel), List.mem_of_getElem? (i := 754) (by decide +kernel)⟩
def lw_privs_1 : List (MethodName × Nat) := [(⟨"PitInspector", "feedFour", "(I)V"⟩, 12), (⟨"PitInspector$Reader", "clause", "(I)Z"⟩, 4), (⟨"PitInspector$Reader", "peek", "()I"⟩, 4), (⟨"PitInspector$Reader", "fail", "(II)Z"⟩, 4), (⟨"PitInspector$Reader", "strike", "(I)Z"⟩, 4), (⟨"PitInspector$Reader", "numberUpTo", "(I)Z"⟩, 4), (⟨"PitInspector$Reader", "number", "()Z"⟩, 4), (⟨"PitInspector$Reader", "take", "(I)Z"⟩, 4), (⟨"PitInspector$Reader", "condition", "(I)Z"⟩, 4), (⟨"PitInspector$Reader", "part", "(I)Z"⟩, 4), (⟨"PitInspector$Reader", "piece", "(I)Z"⟩, 4), (⟨"PitInspector$Reader", "emit", "(II)Z"⟩, 4), (⟨"PitInspector$Reader", "sum", "(I)Z"⟩, 4), (⟨"PitInspector$Reader", "product", "(I)Z"⟩, 4), (⟨"PitInspector$Reader", "factor", "(I)Z"⟩, 4), (⟨"PitInspector$Reader", "land", "(I)V"⟩, 4)]
theorem lw_r1 : ∀ q ∈ lw_privs_1, lw_okq q := List.forall_mem_cons.mpr ⟨lw_p0, List.forall_mem_cons.mpr ⟨lw_p1, List.forall_mem_cons.mpr ⟨lw_p2, List.forall_mem_cons.mpr ⟨lw_p3, List.forall_mem_cons.mpr ⟨lw_p4, List.forall_mem_cons.mpr ⟨lw_p5, List.forall_mem_cons.mpr ⟨lw_p6, List.forall_mem_cons.mpr ⟨lw_p7, List.forall_mem_cons.mpr ⟨lw_p8, List.forall_mem_cons.mpr ⟨lw_p9, List.forall_mem_cons.mpr ⟨lw_p10, List.forall_mem_cons.mpr ⟨lw_p11, List.forall_mem_cons.mpr ⟨lw_p12, List.forall_mem_cons.mpr ⟨lw_p13, List.forall_mem_cons.mpr ⟨lw_p14, List.forall_mem_cons.mpr ⟨lw_p15, fun _ h => absurd h List.not_mem_nil⟩⟩⟩⟩⟩⟩⟩⟩⟩⟩⟩⟩⟩⟩⟩⟩
theorem lw_p16 : lw_okq (⟨"PitInspector$Reader", "jump", "(II)I"⟩, 4) := ⟨⟨by decide +kernel, by decide +kernel⟩, List.mem_of_getElem? (i := 163) (by decide +kernel), List.mem_of_getElem? (i := 757) (by decide +kernel), List.mem_of_getElem? (i := 758) (by decide +kernel)⟩
theorem lw_p17 : lw_okq (⟨"PitInspector", "day", "()I"⟩, 12) := ⟨⟨by decide +kernel, by decide +kernel⟩, List.mem_of_getElem? (i := 24) (by decide +kernel), List.mem_of_getElem? (i := 769) (by decide +kernel), List.mem_of_getElem? (i := 770) (by decide +kernel)⟩
theorem lw_p18 : lw_okq (⟨"PitInspector$Laws", "strikeFor", "(II)V"⟩, 9) := ⟨⟨by decide +kernel, by decide +kernel⟩, List.mem_of_getElem? (i := 72) (by decide +kernel), List.mem_of_getElem? (i := 786) (by decide +kernel), List.mem_of_getElem? (i := 787) (by decide +kernel)⟩
theorem lw_p19 : lw_okq (⟨"PitInspector$Laws", "strikeBelow", "(II)V"⟩, 9) := ⟨⟨by decide +kernel, by decide +kernel⟩, List.mem_of_getElem? (i := 72) (by decide +kernel), List.mem_of_getElem? (i := 794) (by decide +kernel), List.mem_of_getElem? (i := 795) (by decide +kernel)⟩
theorem lw_p20 : lw_okq (⟨"PitInspector", "learn", "(I)V"⟩, 12) := ⟨⟨by decide +kernel, by decide +kernel⟩, List.mem_of_getElem? (i := 24) (by decide +kernel), List.mem_of_getElem? (i := 806) (by decide +kernel), List.mem_of_getElem? (i := 807) (by decide +kernel)⟩
theorem lw_p21 : lw_okq (⟨"PitInspector$Air", "splitAll", "(LPitInspector$Net;I)I"⟩, 6) := ⟨⟨by decide +kernel, by decide +kernel⟩, List.mem_of_getElem? (i := 278) (by decide +kernel), List.mem_of_getElem? (i := 818) (by decide +kernel), List.mem_of_getElem? (i := 819) (by decide +kernel)⟩
theorem lw_p22 : lw_okq (⟨"PitInspector$Air", "splitAt", "(LPitInspector$Net;I)V"⟩, 6) := ⟨⟨by decide +kernel, by decide +kernel⟩, List.mem_of_getElem? (i := 278) (by decide +kernel), List.mem_of_getElem? (i := 834) (by decide +kernel), List.mem_of_getElem? (i := 835) (by decide +kernel)⟩
theorem lw_p23 : lw_okq (⟨"PitInspector$Air", "leastOpen", "(LPitInspector$Net;I)I"⟩, 6) := ⟨⟨by decide +kernel, by decide +kernel⟩, List.mem_of_getElem? (i := 278) (by decide +kernel), List.mem_of_getElem? (i := 842) (by decide +kernel), List.mem_of_getElem? (i := 843) (by decide +kernel)⟩
theorem lw_p24 : lw_okq (⟨"PitInspector$Net", "addWay", "(II)Z"⟩, 15) := ⟨⟨by decide +kernel, by decide +kernel⟩, List.mem_of_getElem? (i := 212) (by decide +kernel), List.mem_of_getElem? (i := 858) (by decide +kernel), List.mem_of_getElem? (i := 859) (by decide +kernel)⟩
theorem lw_p25 : lw_okq (⟨"PitInspector$Net", "findWay", "(II)Z"⟩, 15) := ⟨⟨by decide +kernel, by decide +kernel⟩, List.mem_of_getElem? (i := 212) (by decide +kernel), List.mem_of_getElem? (i := 862) (by decide +kernel), List.mem_of_getElem? (i := 863) (by decide +kernel)⟩
theorem lw_p26 : lw_okq (⟨"PitInspector$Survey", "far", "(II)I"⟩, 13) := ⟨⟨by decide +kernel, by decide +kernel⟩, List.mem_of_getElem? (i := 304) (by decide +kernel), List.mem_of_getElem? (i := 882) (by decide +kernel), List.mem_of_getElem? (i := 883) (by decide +kernel)⟩
theorem lw_p27 : lw_okq (⟨"PitInspector$Survey", "trueX", "(I)I"⟩, 13) := ⟨⟨by decide +kernel, by decide +kernel⟩, List.mem_of_getElem? (i := 304) (by decide +kernel), List.mem_of_getElem? (i := 886) (by decide +kernel), List.mem_of_getElem? (i := 887) (by decide +kernel)⟩
theorem lw_p28 : lw_okq (⟨"PitInspector$Survey", "trueY", "(I)I"⟩, 13) := ⟨⟨by decide +kernel, by decide +kernel⟩, List.mem_of_getElem? (i := 304) (by decide +kernel), List.mem_of_getElem? (i := 893) (by decide +kernel), List.mem_of_getElem? (i := 894) (by decide +kernel)⟩
theorem lw_p29 : lw_okq (⟨"PitInspector$Survey", "doubt", "(II)I"⟩, 13) := ⟨⟨by decide +kernel, by decide +kernel⟩, List.mem_of_getElem? (i := 304) (by decide +kernel), List.mem_of_getElem? (i := 898) (by decide +kernel), List.mem_of_getElem? (i := 899) (by decide +kernel)⟩
theorem lw_p30 : lw_okq (⟨"PitInspector$Laws", "reckon", "(LPitInspector$Text;I)I"⟩, 9) := ⟨⟨by decide +kernel, by decide +kernel⟩, List.mem_of_getElem? (i := 72) (by decide +kernel), List.mem_of_getElem? (i := 912) (by decide +kernel), List.mem_of_getElem? (i := 913) (by decide +kernel)⟩
theorem lw_p31 : lw_okq (⟨"PitInspector", "brokenBy", "(I)I"⟩, 12) := ⟨⟨by decide +kernel, by decide +kernel⟩, List.mem_of_getElem? (i := 24) (by decide +kernel), List.mem_of_getElem? (i := 924) (by decide +kernel), List.mem_of_getElem? (i := 925) (by decide +kernel)⟩
def lw_privs_2 : List (MethodName × Nat) := [(⟨"PitInspector$Reader", "jump", "(II)I"⟩, 4), (⟨"PitInspector", "day", "()I"⟩, 12), (⟨"PitInspector$Laws", "strikeFor", "(II)V"⟩, 9), (⟨"PitInspector$Laws", "strikeBelow", "(II)V"⟩, 9), (⟨"PitInspector", "learn", "(I)V"⟩, 12), (⟨"PitInspector$Air", "splitAll", "(LPitInspector$Net;I)I"⟩, 6), (⟨"PitInspector$Air", "splitAt", "(LPitInspector$Net;I)V"⟩, 6), (⟨"PitInspector$Air", "leastOpen", "(LPitInspector$Net;I)I"⟩, 6), (⟨"PitInspector$Net", "addWay", "(II)Z"⟩, 15), (⟨"PitInspector$Net", "findWay", "(II)Z"⟩, 15), (⟨"PitInspector$Survey", "far", "(II)I"⟩, 13), (⟨"PitInspector$Survey", "trueX", "(I)I"⟩, 13), (⟨"PitInspector$Survey", "trueY", "(I)I"⟩, 13), (⟨"PitInspector$Survey", "doubt", "(II)I"⟩, 13), (⟨"PitInspector$Laws", "reckon", "(LPitInspector$Text;I)I"⟩, 9), (⟨"PitInspector", "brokenBy", "(I)I"⟩, 12)]
theorem lw_r2 : ∀ q ∈ lw_privs_2, lw_okq q := List.forall_mem_cons.mpr ⟨lw_p16, List.forall_mem_cons.mpr ⟨lw_p17, List.forall_mem_cons.mpr ⟨lw_p18, List.forall_mem_cons.mpr ⟨lw_p19, List.forall_mem_cons.mpr ⟨lw_p20, List.forall_mem_cons.mpr ⟨lw_p21, List.forall_mem_cons.mpr ⟨lw_p22, List.forall_mem_cons.mpr ⟨lw_p23, List.forall_mem_cons.mpr ⟨lw_p24, List.forall_mem_cons.mpr ⟨lw_p25, List.forall_mem_cons.mpr ⟨lw_p26, List.forall_mem_cons.mpr ⟨lw_p27, List.forall_mem_cons.mpr ⟨lw_p28, List.forall_mem_cons.mpr ⟨lw_p29, List.forall_mem_cons.mpr ⟨lw_p30, List.forall_mem_cons.mpr ⟨lw_p31, fun _ h => absurd h List.not_mem_nil⟩⟩⟩⟩⟩⟩⟩⟩⟩⟩⟩⟩⟩⟩⟩⟩
theorem lw_p32 : lw_okq (⟨"PitInspector$Laws", "isBroken", "(LPitInspector$Text;I)Z"⟩, 9) := ⟨⟨by decide +kernel, by decide +kernel⟩, List.mem_of_getElem? (i := 72) (by decide +kernel), List.mem_of_getElem? (i := 932) (by decide +kernel), List.mem_of_getElem? (i := 933) (by decide +kernel)⟩
theorem lw_p33 : lw_okq (⟨"PitInspector$Net", "addEnd", "(II)V"⟩, 15) := ⟨⟨by decide +kernel, by decide +kernel⟩, List.mem_of_getElem? (i := 212) (by decide +kernel), List.mem_of_getElem? (i := 1008) (by decide +kernel), List.mem_of_getElem? (i := 1009) (by decide +kernel)⟩
theorem lw_p34 : lw_okq (⟨"PitInspector$Survey", "setPoint", "(IIII)V"⟩, 13) := ⟨⟨by decide +kernel, by decide +kernel⟩, List.mem_of_getElem? (i := 304) (by decide +kernel), List.mem_of_getElem? (i := 1124) (by decide +kernel), List.mem_of_getElem? (i := 1125) (by decide +kernel)⟩
theorem lw_p35 : lw_okq (⟨"PitInspector$Survey", "facesNearer", "(I)I"⟩, 13) := ⟨⟨by decide +kernel, by decide +kernel⟩, List.mem_of_getElem? (i := 304) (by decide +kernel), List.mem_of_getElem? (i := 1166) (by decide +kernel), List.mem_of_getElem? (i := 1167) (by decide +kernel)⟩
theorem lw_p36 : lw_okq (⟨"PitInspector$Warnings", "isKnown", "(II)Z"⟩, 4) := ⟨⟨by decide +kernel, by decide +kernel⟩, List.mem_of_getElem? (i := 419) (by decide +kernel), List.mem_of_getElem? (i := 1286) (by decide +kernel), List.mem_of_getElem? (i := 1287) (by decide +kernel)⟩
theorem lw_p37 : lw_okq (⟨"PitInspector$Warnings", "hasActed", "(II)Z"⟩, 4) := ⟨⟨by decide +kernel, by decide +kernel⟩, List.mem_of_getElem? (i := 419) (by decide +kernel), List.mem_of_getElem? (i := 1298) (by decide +kernel), List.mem_of_getElem? (i := 1299) (by decide +kernel)⟩
theorem lw_p38 : lw_okq (⟨"PitInspector", "worthOf", "(I)I"⟩, 12) := ⟨⟨by decide +kernel, by decide +kernel⟩, List.mem_of_getElem? (i := 24) (by decide +kernel), List.mem_of_getElem? (i := 1353) (by decide +kernel), List.mem_of_getElem? (i := 1354) (by decide +kernel)⟩
theorem lw_p39 : lw_okq (⟨"PitInspector$Looks", "draw", "(III)V"⟩, 7) := ⟨⟨by decide +kernel, by decide +kernel⟩, List.mem_of_getElem? (i := 441) (by decide +kernel), List.mem_of_getElem? (i := 1366) (by decide +kernel), List.mem_of_getElem? (i := 1367) (by decide +kernel)⟩
theorem lw_p40 : lw_okq (⟨"PitInspector$Looks", "hasLook", "(I)Z"⟩, 7) := ⟨⟨by decide +kernel, by decide +kernel⟩, List.mem_of_getElem? (i := 441) (by decide +kernel), List.mem_of_getElem? (i := 1371) (by decide +kernel), List.mem_of_getElem? (i := 1372) (by decide +kernel)⟩
theorem lw_p41 : lw_okq (⟨"PitInspector$Looks", "add", "(I)V"⟩, 7) := ⟨⟨by decide +kernel, by decide +kernel⟩, List.mem_of_getElem? (i := 441) (by decide +kernel), List.mem_of_getElem? (i := 1375) (by decide +kernel), List.mem_of_getElem? (i := 1376) (by decide +kernel)⟩
theorem lw_p42 : lw_okq (⟨"PitInspector$Looks", "worthiest", "(I)I"⟩, 7) := ⟨⟨by decide +kernel, by decide +kernel⟩, List.mem_of_getElem? (i := 441) (by decide +kernel), List.mem_of_getElem? (i := 1379) (by decide +kernel), List.mem_of_getElem? (i := 1380) (by decide +kernel)⟩
theorem lw_p43 : lw_okq (⟨"PitInspector$Inquest", "isTooFar", "(III)Z"⟩, 6) := ⟨⟨by decide +kernel, by decide +kernel⟩, List.mem_of_getElem? (i := 472) (by decide +kernel), List.mem_of_getElem? (i := 1421) (by decide +kernel), List.mem_of_getElem? (i := 1422) (by decide +kernel)⟩
theorem lw_p44 : lw_okq (⟨"PitInspector$Inquest", "greater", "(IIII)I"⟩, 6) := ⟨⟨by decide +kernel, by decide +kernel⟩, List.mem_of_getElem? (i := 472) (by decide +kernel), List.mem_of_getElem? (i := 1438) (by decide +kernel), List.mem_of_getElem? (i := 1439) (by decide +kernel)⟩
theorem lw_p45 : lw_okq (⟨"PitInspectorModel", "isPit", "(I)Z"⟩, 111) := ⟨⟨by decide +kernel, by decide +kernel⟩, List.mem_of_getElem? (i := 1458) (by decide +kernel), List.mem_of_getElem? (i := 1817) (by decide +kernel), List.mem_of_getElem? (i := 1818) (by decide +kernel)⟩
theorem lw_p46 : lw_okq (⟨"PitInspectorModel", "push", "(I)V"⟩, 111) := ⟨⟨by decide +kernel, by decide +kernel⟩, List.mem_of_getElem? (i := 1458) (by decide +kernel), List.mem_of_getElem? (i := 1830) (by decide +kernel), List.mem_of_getElem? (i := 1831) (by decide +kernel)⟩
theorem lw_p47 : lw_okq (⟨"PitInspectorModel", "isGood", "()Z"⟩, 111) := ⟨⟨by decide +kernel, by decide +kernel⟩, List.mem_of_getElem? (i := 1458) (by decide +kernel), List.mem_of_getElem? (i := 1840) (by decide +kernel), List.mem_of_getElem? (i := 1841) (by decide +kernel)⟩
def lw_privs_3 : List (MethodName × Nat) := [(⟨"PitInspector$Laws", "isBroken", "(LPitInspector$Text;I)Z"⟩, 9), (⟨"PitInspector$Net", "addEnd", "(II)V"⟩, 15), (⟨"PitInspector$Survey", "setPoint", "(IIII)V"⟩, 13), (⟨"PitInspector$Survey", "facesNearer", "(I)I"⟩, 13), (⟨"PitInspector$Warnings", "isKnown", "(II)Z"⟩, 4), (⟨"PitInspector$Warnings", "hasActed", "(II)Z"⟩, 4), (⟨"PitInspector", "worthOf", "(I)I"⟩, 12), (⟨"PitInspector$Looks", "draw", "(III)V"⟩, 7), (⟨"PitInspector$Looks", "hasLook", "(I)Z"⟩, 7), (⟨"PitInspector$Looks", "add", "(I)V"⟩, 7), (⟨"PitInspector$Looks", "worthiest", "(I)I"⟩, 7), (⟨"PitInspector$Inquest", "isTooFar", "(III)Z"⟩, 6), (⟨"PitInspector$Inquest", "greater", "(IIII)I"⟩, 6), (⟨"PitInspectorModel", "isPit", "(I)Z"⟩, 111), (⟨"PitInspectorModel", "push", "(I)V"⟩, 111), (⟨"PitInspectorModel", "isGood", "()Z"⟩, 111)]
theorem lw_r3 : ∀ q ∈ lw_privs_3, lw_okq q := List.forall_mem_cons.mpr ⟨lw_p32, List.forall_mem_cons.mpr ⟨lw_p33, List.forall_mem_cons.mpr ⟨lw_p34, List.forall_mem_cons.mpr ⟨lw_p35, List.forall_mem_cons.mpr ⟨lw_p36, List.forall_mem_cons.mpr ⟨lw_p37, List.forall_mem_cons.mpr ⟨lw_p38, List.forall_mem_cons.mpr ⟨lw_p39, List.forall_mem_cons.mpr ⟨lw_p40, List.forall_mem_cons.mpr ⟨lw_p41, List.forall_mem_cons.mpr ⟨lw_p42, List.forall_mem_cons.mpr ⟨lw_p43, List.forall_mem_cons.mpr ⟨lw_p44, List.forall_mem_cons.mpr ⟨lw_p45, List.forall_mem_cons.mpr ⟨lw_p46, List.forall_mem_cons.mpr ⟨lw_p47, fun _ h => absurd h List.not_mem_nil⟩⟩⟩⟩⟩⟩⟩⟩⟩⟩⟩⟩⟩⟩⟩⟩
theorem lw_p48 : lw_okq (⟨"PitInspectorModel", "clause", "()V"⟩, 111) := ⟨⟨by decide +kernel, by decide +kernel⟩, List.mem_of_getElem? (i := 1458) (by decide +kernel), List.mem_of_getElem? (i := 1844) (by decide +kernel), List.mem_of_getElem? (i := 1845) (by decide +kernel)⟩
theorem lw_p49 : lw_okq (⟨"PitInspectorModel", "here", "()I"⟩, 111) := ⟨⟨by decide +kernel, by decide +kernel⟩, List.mem_of_getElem? (i := 1458) (by decide +kernel), List.mem_of_getElem? (i := 1848) (by decide +kernel), List.mem_of_getElem? (i := 1849) (by decide +kernel)⟩
theorem lw_p50 : lw_okq (⟨"PitInspectorModel", "fails", "(II)V"⟩, 111) := ⟨⟨by decide +kernel, by decide +kernel⟩, List.mem_of_getElem? (i := 1458) (by decide +kernel), List.mem_of_getElem? (i := 1852) (by decide +kernel), List.mem_of_getElem? (i := 1853) (by decide +kernel)⟩
theorem lw_p51 : lw_okq (⟨"PitInspectorModel", "condition", "(I)V"⟩, 111) := ⟨⟨by decide +kernel, by decide +kernel⟩, List.mem_of_getElem? (i := 1458) (by decide +kernel), List.mem_of_getElem? (i := 1856) (by decide +kernel), List.mem_of_getElem? (i := 1857) (by decide +kernel)⟩
theorem lw_p52 : lw_okq (⟨"PitInspectorModel", "opens", "()V"⟩, 111) := ⟨⟨by decide +kernel, by decide +kernel⟩, List.mem_of_getElem? (i := 1458) (by decide +kernel), List.mem_of_getElem? (i := 1860) (by decide +kernel), List.mem_of_getElem? (i := 1861) (by decide +kernel)⟩
theorem lw_p53 : lw_okq (⟨"PitInspectorModel", "puts", "(I)V"⟩, 111) := ⟨⟨by decide +kernel, by decide +kernel⟩, List.mem_of_getElem? (i := 1458) (by decide +kernel), List.mem_of_getElem? (i := 1864) (by decide +kernel), List.mem_of_getElem? (i := 1865) (by decide +kernel)⟩
theorem lw_p54 : lw_okq (⟨"PitInspectorModel", "piece", "()V"⟩, 111) := ⟨⟨by decide +kernel, by decide +kernel⟩, List.mem_of_getElem? (i := 1458) (by decide +kernel), List.mem_of_getElem? (i := 1868) (by decide +kernel), List.mem_of_getElem? (i := 1869) (by decide +kernel)⟩
theorem lw_p55 : lw_okq (⟨"PitInspectorModel", "factor", "()V"⟩, 111) := ⟨⟨by decide +kernel, by decide +kernel⟩, List.mem_of_getElem? (i := 1458) (by decide +kernel), List.mem_of_getElem? (i := 1872) (by decide +kernel), List.mem_of_getElem? (i := 1873) (by decide +kernel)⟩
theorem lw_p56 : lw_okq (⟨"PitInspectorModel", "seesDigit", "()Z"⟩, 111) := ⟨⟨by decide +kernel, by decide +kernel⟩, List.mem_of_getElem? (i := 1458) (by decide +kernel), List.mem_of_getElem? (i := 1876) (by decide +kernel), List.mem_of_getElem? (i := 1877) (by decide +kernel)⟩
theorem lw_p57 : lw_okq (⟨"PitInspectorModel", "reads", "(I)I"⟩, 111) := ⟨⟨by decide +kernel, by decide +kernel⟩, List.mem_of_getElem? (i := 1458) (by decide +kernel), List.mem_of_getElem? (i := 1883) (by decide +kernel), List.mem_of_getElem? (i := 1884) (by decide +kernel)⟩
theorem lw_p58 : lw_okq (⟨"PitInspectorModel", "emit", "(II)V"⟩, 111) := ⟨⟨by decide +kernel, by decide +kernel⟩, List.mem_of_getElem? (i := 1458) (by decide +kernel), List.mem_of_getElem? (i := 1887) (by decide +kernel), List.mem_of_getElem? (i := 1888) (by decide +kernel)⟩
theorem lw_p59 : lw_okq (⟨"PitInspectorModel", "goesOn", "()Z"⟩, 111) := ⟨⟨by decide +kernel, by decide +kernel⟩, List.mem_of_getElem? (i := 1458) (by decide +kernel), List.mem_of_getElem? (i := 1894) (by decide +kernel), List.mem_of_getElem? (i := 1895) (by decide +kernel)⟩
theorem lw_p60 : lw_okq (⟨"PitInspectorModel", "sums", "(Z)V"⟩, 111) := ⟨⟨by decide +kernel, by decide +kernel⟩, List.mem_of_getElem? (i := 1458) (by decide +kernel), List.mem_of_getElem? (i := 1904) (by decide +kernel), List.mem_of_getElem? (i := 1905) (by decide +kernel)⟩
theorem lw_p61 : lw_okq (⟨"PitInspectorModel", "top", "()I"⟩, 111) := ⟨⟨by decide +kernel, by decide +kernel⟩, List.mem_of_getElem? (i := 1458) (by decide +kernel), List.mem_of_getElem? (i := 1908) (by decide +kernel), List.mem_of_getElem? (i := 1909) (by decide +kernel)⟩
theorem lw_p62 : lw_okq (⟨"PitInspectorModel", "ends", "()V"⟩, 111) := ⟨⟨by decide +kernel, by decide +kernel⟩, List.mem_of_getElem? (i := 1458) (by decide +kernel), List.mem_of_getElem? (i := 1915) (by decide +kernel), List.mem_of_getElem? (i := 1916) (by decide +kernel)⟩
theorem lw_p63 : lw_okq (⟨"PitInspectorModel", "goesBehind", "()Z"⟩, 111) := ⟨⟨by decide +kernel, by decide +kernel⟩, List.mem_of_getElem? (i := 1458) (by decide +kernel), List.mem_of_getElem? (i := 1919) (by decide +kernel), List.mem_of_getElem? (i := 1920) (by decide +kernel)⟩
def lw_privs_4 : List (MethodName × Nat) := [(⟨"PitInspectorModel", "clause", "()V"⟩, 111), (⟨"PitInspectorModel", "here", "()I"⟩, 111), (⟨"PitInspectorModel", "fails", "(II)V"⟩, 111), (⟨"PitInspectorModel", "condition", "(I)V"⟩, 111), (⟨"PitInspectorModel", "opens", "()V"⟩, 111), (⟨"PitInspectorModel", "puts", "(I)V"⟩, 111), (⟨"PitInspectorModel", "piece", "()V"⟩, 111), (⟨"PitInspectorModel", "factor", "()V"⟩, 111), (⟨"PitInspectorModel", "seesDigit", "()Z"⟩, 111), (⟨"PitInspectorModel", "reads", "(I)I"⟩, 111), (⟨"PitInspectorModel", "emit", "(II)V"⟩, 111), (⟨"PitInspectorModel", "goesOn", "()Z"⟩, 111), (⟨"PitInspectorModel", "sums", "(Z)V"⟩, 111), (⟨"PitInspectorModel", "top", "()I"⟩, 111), (⟨"PitInspectorModel", "ends", "()V"⟩, 111), (⟨"PitInspectorModel", "goesBehind", "()Z"⟩, 111)]
theorem lw_r4 : ∀ q ∈ lw_privs_4, lw_okq q := List.forall_mem_cons.mpr ⟨lw_p48, List.forall_mem_cons.mpr ⟨lw_p49, List.forall_mem_cons.mpr ⟨lw_p50, List.forall_mem_cons.mpr ⟨lw_p51, List.forall_mem_cons.mpr ⟨lw_p52, List.forall_mem_cons.mpr ⟨lw_p53, List.forall_mem_cons.mpr ⟨lw_p54, List.forall_mem_cons.mpr ⟨lw_p55, List.forall_mem_cons.mpr ⟨lw_p56, List.forall_mem_cons.mpr ⟨lw_p57, List.forall_mem_cons.mpr ⟨lw_p58, List.forall_mem_cons.mpr ⟨lw_p59, List.forall_mem_cons.mpr ⟨lw_p60, List.forall_mem_cons.mpr ⟨lw_p61, List.forall_mem_cons.mpr ⟨lw_p62, List.forall_mem_cons.mpr ⟨lw_p63, fun _ h => absurd h List.not_mem_nil⟩⟩⟩⟩⟩⟩⟩⟩⟩⟩⟩⟩⟩⟩⟩⟩
theorem lw_p64 : lw_okq (⟨"PitInspectorModel", "joinsUp", "(Z)V"⟩, 111) := ⟨⟨by decide +kernel, by decide +kernel⟩, List.mem_of_getElem? (i := 1458) (by decide +kernel), List.mem_of_getElem? (i := 1923) (by decide +kernel), List.mem_of_getElem? (i := 1924) (by decide +kernel)⟩
theorem lw_p65 : lw_okq (⟨"PitInspectorModel", "must", "(I)V"⟩, 111) := ⟨⟨by decide +kernel, by decide +kernel⟩, List.mem_of_getElem? (i := 1458) (by decide +kernel), List.mem_of_getElem? (i := 1927) (by decide +kernel), List.mem_of_getElem? (i := 1928) (by decide +kernel)⟩
theorem lw_p66 : lw_okq (⟨"PitInspectorModel", "isText", "(I)Z"⟩, 111) := ⟨⟨by decide +kernel, by decide +kernel⟩, List.mem_of_getElem? (i := 1458) (by decide +kernel), List.mem_of_getElem? (i := 1935) (by decide +kernel), List.mem_of_getElem? (i := 1936) (by decide +kernel)⟩
theorem lw_p67 : lw_okq (⟨"PitInspectorModel", "strikes", "(I)V"⟩, 111) := ⟨⟨by decide +kernel, by decide +kernel⟩, List.mem_of_getElem? (i := 1458) (by decide +kernel), List.mem_of_getElem? (i := 1939) (by decide +kernel), List.mem_of_getElem? (i := 1940) (by decide +kernel)⟩
theorem lw_p68 : lw_okq (⟨"PitInspectorModel", "isFor", "(II)Z"⟩, 111) := ⟨⟨by decide +kernel, by decide +kernel⟩, List.mem_of_getElem? (i := 1458) (by decide +kernel), List.mem_of_getElem? (i := 1943) (by decide +kernel), List.mem_of_getElem? (i := 1944) (by decide +kernel)⟩
theorem lw_p69 : lw_okq (⟨"PitInspectorModel", "isInForce", "(I)Z"⟩, 111) := ⟨⟨by decide +kernel, by decide +kernel⟩, List.mem_of_getElem? (i := 1458) (by decide +kernel), List.mem_of_getElem? (i := 1947) (by decide +kernel), List.mem_of_getElem? (i := 1948) (by decide +kernel)⟩
theorem lw_p70 : lw_okq (⟨"PitInspectorModel", "isCounted", "(II)Z"⟩, 111) := ⟨⟨by decide +kernel, by decide +kernel⟩, List.mem_of_getElem? (i := 1458) (by decide +kernel), List.mem_of_getElem? (i := 1951) (by decide +kernel), List.mem_of_getElem? (i := 1952) (by decide +kernel)⟩
theorem lw_p71 : lw_okq (⟨"PitInspectorModel", "asks", "(I)V"⟩, 111) := ⟨⟨by decide +kernel, by decide +kernel⟩, List.mem_of_getElem? (i := 1458) (by decide +kernel), List.mem_of_getElem? (i := 1959) (by decide +kernel), List.mem_of_getElem? (i := 1960) (by decide +kernel)⟩
theorem lw_p72 : lw_okq (⟨"PitInspectorModel", "worthOf", "(I)I"⟩, 111) := ⟨⟨by decide +kernel, by decide +kernel⟩, List.mem_of_getElem? (i := 1458) (by decide +kernel), List.mem_of_getElem? (i := 1963) (by decide +kernel), List.mem_of_getElem? (i := 1964) (by decide +kernel)⟩
theorem lw_p73 : lw_okq (⟨"PitInspectorModel", "does", "(II)V"⟩, 111) := ⟨⟨by decide +kernel, by decide +kernel⟩, List.mem_of_getElem? (i := 1458) (by decide +kernel), List.mem_of_getElem? (i := 1967) (by decide +kernel), List.mem_of_getElem? (i := 1968) (by decide +kernel)⟩
theorem lw_p74 : lw_okq (⟨"PitInspectorModel", "valueOf", "(I)J"⟩, 111) := ⟨⟨by decide +kernel, by decide +kernel⟩, List.mem_of_getElem? (i := 1458) (by decide +kernel), List.mem_of_getElem? (i := 1974) (by decide +kernel), List.mem_of_getElem? (i := 1975) (by decide +kernel)⟩
theorem lw_p75 : lw_okq (⟨"PitInspectorModel", "finds", "(I)J"⟩, 111) := ⟨⟨by decide +kernel, by decide +kernel⟩, List.mem_of_getElem? (i := 1458) (by decide +kernel), List.mem_of_getElem? (i := 1978) (by decide +kernel), List.mem_of_getElem? (i := 1979) (by decide +kernel)⟩
theorem lw_p76 : lw_okq (⟨"PitInspectorModel", "below", "(I)I"⟩, 111) := ⟨⟨by decide +kernel, by decide +kernel⟩, List.mem_of_getElem? (i := 1458) (by decide +kernel), List.mem_of_getElem? (i := 1982) (by decide +kernel), List.mem_of_getElem? (i := 1983) (by decide +kernel)⟩
theorem lw_p77 : lw_okq (⟨"PitInspectorModel", "leastOf", "(II)I"⟩, 111) := ⟨⟨by decide +kernel, by decide +kernel⟩, List.mem_of_getElem? (i := 1458) (by decide +kernel), List.mem_of_getElem? (i := 1986) (by decide +kernel), List.mem_of_getElem? (i := 1987) (by decide +kernel)⟩
theorem lw_p78 : lw_okq (⟨"PitInspectorModel", "blows", "(II)V"⟩, 111) := ⟨⟨by decide +kernel, by decide +kernel⟩, List.mem_of_getElem? (i := 1458) (by decide +kernel), List.mem_of_getElem? (i := 1990) (by decide +kernel), List.mem_of_getElem? (i := 1991) (by decide +kernel)⟩
theorem lw_p79 : lw_okq (⟨"PitInspectorModel", "walks", "(IZI)V"⟩, 111) := ⟨⟨by decide +kernel, by decide +kernel⟩, List.mem_of_getElem? (i := 1458) (by decide +kernel), List.mem_of_getElem? (i := 1994) (by decide +kernel), List.mem_of_getElem? (i := 1995) (by decide +kernel)⟩
def lw_privs_5 : List (MethodName × Nat) := [(⟨"PitInspectorModel", "joinsUp", "(Z)V"⟩, 111), (⟨"PitInspectorModel", "must", "(I)V"⟩, 111), (⟨"PitInspectorModel", "isText", "(I)Z"⟩, 111), (⟨"PitInspectorModel", "strikes", "(I)V"⟩, 111), (⟨"PitInspectorModel", "isFor", "(II)Z"⟩, 111), (⟨"PitInspectorModel", "isInForce", "(I)Z"⟩, 111), (⟨"PitInspectorModel", "isCounted", "(II)Z"⟩, 111), (⟨"PitInspectorModel", "asks", "(I)V"⟩, 111), (⟨"PitInspectorModel", "worthOf", "(I)I"⟩, 111), (⟨"PitInspectorModel", "does", "(II)V"⟩, 111), (⟨"PitInspectorModel", "valueOf", "(I)J"⟩, 111), (⟨"PitInspectorModel", "finds", "(I)J"⟩, 111), (⟨"PitInspectorModel", "below", "(I)I"⟩, 111), (⟨"PitInspectorModel", "leastOf", "(II)I"⟩, 111), (⟨"PitInspectorModel", "blows", "(II)V"⟩, 111), (⟨"PitInspectorModel", "walks", "(IZI)V"⟩, 111)]
theorem lw_r5 : ∀ q ∈ lw_privs_5, lw_okq q := List.forall_mem_cons.mpr ⟨lw_p64, List.forall_mem_cons.mpr ⟨lw_p65, List.forall_mem_cons.mpr ⟨lw_p66, List.forall_mem_cons.mpr ⟨lw_p67, List.forall_mem_cons.mpr ⟨lw_p68, List.forall_mem_cons.mpr ⟨lw_p69, List.forall_mem_cons.mpr ⟨lw_p70, List.forall_mem_cons.mpr ⟨lw_p71, List.forall_mem_cons.mpr ⟨lw_p72, List.forall_mem_cons.mpr ⟨lw_p73, List.forall_mem_cons.mpr ⟨lw_p74, List.forall_mem_cons.mpr ⟨lw_p75, List.forall_mem_cons.mpr ⟨lw_p76, List.forall_mem_cons.mpr ⟨lw_p77, List.forall_mem_cons.mpr ⟨lw_p78, List.forall_mem_cons.mpr ⟨lw_p79, fun _ h => absurd h List.not_mem_nil⟩⟩⟩⟩⟩⟩⟩⟩⟩⟩⟩⟩⟩⟩⟩⟩
theorem lw_p80 : lw_okq (⟨"PitInspectorModel", "otherEnd", "(II)I"⟩, 111) := ⟨⟨by decide +kernel, by decide +kernel⟩, List.mem_of_getElem? (i := 1458) (by decide +kernel), List.mem_of_getElem? (i := 1998) (by decide +kernel), List.mem_of_getElem? (i := 1999) (by decide +kernel)⟩
theorem lw_p81 : lw_okq (⟨"PitInspectorModel", "goesThrough", "(II)Z"⟩, 111) := ⟨⟨by decide +kernel, by decide +kernel⟩, List.mem_of_getElem? (i := 1458) (by decide +kernel), List.mem_of_getElem? (i := 2002) (by decide +kernel), List.mem_of_getElem? (i := 2003) (by decide +kernel)⟩
theorem lw_p82 : lw_okq (⟨"PitInspectorModel", "parts", "(II)V"⟩, 111) := ⟨⟨by decide +kernel, by decide +kernel⟩, List.mem_of_getElem? (i := 1458) (by decide +kernel), List.mem_of_getElem? (i := 2006) (by decide +kernel), List.mem_of_getElem? (i := 2007) (by decide +kernel)⟩
theorem lw_p83 : lw_okq (⟨"PitInspectorModel", "isOn", "(III)Z"⟩, 111) := ⟨⟨by decide +kernel, by decide +kernel⟩, List.mem_of_getElem? (i := 1458) (by decide +kernel), List.mem_of_getElem? (i := 2010) (by decide +kernel), List.mem_of_getElem? (i := 2011) (by decide +kernel)⟩
theorem lw_p84 : lw_okq (⟨"PitInspectorModel", "fewestOf", "(I)I"⟩, 111) := ⟨⟨by decide +kernel, by decide +kernel⟩, List.mem_of_getElem? (i := 1458) (by decide +kernel), List.mem_of_getElem? (i := 2014) (by decide +kernel), List.mem_of_getElem? (i := 2015) (by decide +kernel)⟩
theorem lw_p85 : lw_okq (⟨"PitInspectorModel", "isBank", "(I)Z"⟩, 111) := ⟨⟨by decide +kernel, by decide +kernel⟩, List.mem_of_getElem? (i := 1458) (by decide +kernel), List.mem_of_getElem? (i := 2018) (by decide +kernel), List.mem_of_getElem? (i := 2019) (by decide +kernel)⟩
theorem lw_p86 : lw_okq (⟨"PitInspectorModel", "waysOf", "(I)I"⟩, 111) := ⟨⟨by decide +kernel, by decide +kernel⟩, List.mem_of_getElem? (i := 1458) (by decide +kernel), List.mem_of_getElem? (i := 2022) (by decide +kernel), List.mem_of_getElem? (i := 2023) (by decide +kernel)⟩
theorem lw_p87 : lw_okq (⟨"PitInspectorModel", "adds", "(II)Z"⟩, 111) := ⟨⟨by decide +kernel, by decide +kernel⟩, List.mem_of_getElem? (i := 1458) (by decide +kernel), List.mem_of_getElem? (i := 2026) (by decide +kernel), List.mem_of_getElem? (i := 2027) (by decide +kernel)⟩
theorem lw_p88 : lw_okq (⟨"PitInspectorModel", "canGo", "(II)Z"⟩, 111) := ⟨⟨by decide +kernel, by decide +kernel⟩, List.mem_of_getElem? (i := 1458) (by decide +kernel), List.mem_of_getElem? (i := 2030) (by decide +kernel), List.mem_of_getElem? (i := 2031) (by decide +kernel)⟩
theorem lw_p89 : lw_okq (⟨"PitInspectorModel", "nearestOfPit", "(I)I"⟩, 111) := ⟨⟨by decide +kernel, by decide +kernel⟩, List.mem_of_getElem? (i := 1458) (by decide +kernel), List.mem_of_getElem? (i := 2034) (by decide +kernel), List.mem_of_getElem? (i := 2035) (by decide +kernel)⟩
theorem lw_p90 : lw_okq (⟨"PitInspectorModel", "nearestOfFace", "(I)I"⟩, 111) := ⟨⟨by decide +kernel, by decide +kernel⟩, List.mem_of_getElem? (i := 1458) (by decide +kernel), List.mem_of_getElem? (i := 2038) (by decide +kernel), List.mem_of_getElem? (i := 2039) (by decide +kernel)⟩
theorem lw_p91 : lw_okq (⟨"PitInspectorModel", "yardsOf", "(III)I"⟩, 111) := ⟨⟨by decide +kernel, by decide +kernel⟩, List.mem_of_getElem? (i := 1458) (by decide +kernel), List.mem_of_getElem? (i := 2042) (by decide +kernel), List.mem_of_getElem? (i := 2043) (by decide +kernel)⟩
theorem lw_p92 : lw_okq (⟨"PitInspectorModel", "far", "(IIIIII)I"⟩, 111) := ⟨⟨by decide +kernel, by decide +kernel⟩, List.mem_of_getElem? (i := 1458) (by decide +kernel), List.mem_of_getElem? (i := 2046) (by decide +kernel), List.mem_of_getElem? (i := 2047) (by decide +kernel)⟩
theorem lw_p93 : lw_okq (⟨"PitInspectorModel", "trueX", "(III)I"⟩, 111) := ⟨⟨by decide +kernel, by decide +kernel⟩, List.mem_of_getElem? (i := 1458) (by decide +kernel), List.mem_of_getElem? (i := 2050) (by decide +kernel), List.mem_of_getElem? (i := 2051) (by decide +kernel)⟩
theorem lw_p94 : lw_okq (⟨"PitInspectorModel", "trueY", "(III)I"⟩, 111) := ⟨⟨by decide +kernel, by decide +kernel⟩, List.mem_of_getElem? (i := 1458) (by decide +kernel), List.mem_of_getElem? (i := 2057) (by decide +kernel), List.mem_of_getElem? (i := 2058) (by decide +kernel)⟩
theorem lw_p95 : lw_okq (⟨"PitInspectorModel", "doubt", "(II)I"⟩, 111) := ⟨⟨by decide +kernel, by decide +kernel⟩, List.mem_of_getElem? (i := 1458) (by decide +kernel), List.mem_of_getElem? (i := 2061) (by decide +kernel), List.mem_of_getElem? (i := 2062) (by decide +kernel)⟩
def lw_privs_6 : List (MethodName × Nat) := [(⟨"PitInspectorModel", "otherEnd", "(II)I"⟩, 111), (⟨"PitInspectorModel", "goesThrough", "(II)Z"⟩, 111), (⟨"PitInspectorModel", "parts", "(II)V"⟩, 111), (⟨"PitInspectorModel", "isOn", "(III)Z"⟩, 111), (⟨"PitInspectorModel", "fewestOf", "(I)I"⟩, 111), (⟨"PitInspectorModel", "isBank", "(I)Z"⟩, 111), (⟨"PitInspectorModel", "waysOf", "(I)I"⟩, 111), (⟨"PitInspectorModel", "adds", "(II)Z"⟩, 111), (⟨"PitInspectorModel", "canGo", "(II)Z"⟩, 111), (⟨"PitInspectorModel", "nearestOfPit", "(I)I"⟩, 111), (⟨"PitInspectorModel", "nearestOfFace", "(I)I"⟩, 111), (⟨"PitInspectorModel", "yardsOf", "(III)I"⟩, 111), (⟨"PitInspectorModel", "far", "(IIIIII)I"⟩, 111), (⟨"PitInspectorModel", "trueX", "(III)I"⟩, 111), (⟨"PitInspectorModel", "trueY", "(III)I"⟩, 111), (⟨"PitInspectorModel", "doubt", "(II)I"⟩, 111)]
theorem lw_r6 : ∀ q ∈ lw_privs_6, lw_okq q := List.forall_mem_cons.mpr ⟨lw_p80, List.forall_mem_cons.mpr ⟨lw_p81, List.forall_mem_cons.mpr ⟨lw_p82, List.forall_mem_cons.mpr ⟨lw_p83, List.forall_mem_cons.mpr ⟨lw_p84, List.forall_mem_cons.mpr ⟨lw_p85, List.forall_mem_cons.mpr ⟨lw_p86, List.forall_mem_cons.mpr ⟨lw_p87, List.forall_mem_cons.mpr ⟨lw_p88, List.forall_mem_cons.mpr ⟨lw_p89, List.forall_mem_cons.mpr ⟨lw_p90, List.forall_mem_cons.mpr ⟨lw_p91, List.forall_mem_cons.mpr ⟨lw_p92, List.forall_mem_cons.mpr ⟨lw_p93, List.forall_mem_cons.mpr ⟨lw_p94, List.forall_mem_cons.mpr ⟨lw_p95, fun _ h => absurd h List.not_mem_nil⟩⟩⟩⟩⟩⟩⟩⟩⟩⟩⟩⟩⟩⟩⟩⟩
theorem lw_p96 : lw_okq (⟨"PitInspectorModel", "lampsOut", "(I)I"⟩, 111) := ⟨⟨by decide +kernel, by decide +kernel⟩, List.mem_of_getElem? (i := 1458) (by decide +kernel), List.mem_of_getElem? (i := 2065) (by decide +kernel), List.mem_of_getElem? (i := 2066) (by decide +kernel)⟩
theorem lw_p97 : lw_okq (⟨"PitInspectorModel", "shotsSince", "(I)I"⟩, 111) := ⟨⟨by decide +kernel, by decide +kernel⟩, List.mem_of_getElem? (i := 1458) (by decide +kernel), List.mem_of_getElem? (i := 2069) (by decide +kernel), List.mem_of_getElem? (i := 2070) (by decide +kernel)⟩
theorem lw_p98 : lw_okq (⟨"PitInspectorModel", "breaks", "(II)I"⟩, 111) := ⟨⟨by decide +kernel, by decide +kernel⟩, List.mem_of_getElem? (i := 1458) (by decide +kernel), List.mem_of_getElem? (i := 2077) (by decide +kernel), List.mem_of_getElem? (i := 2078) (by decide +kernel)⟩
theorem lw_p99 : lw_okq (⟨"PitInspectorModel", "fineOf", "(II)I"⟩, 111) := ⟨⟨by decide +kernel, by decide +kernel⟩, List.mem_of_getElem? (i := 1458) (by decide +kernel), List.mem_of_getElem? (i := 2090) (by decide +kernel), List.mem_of_getElem? (i := 2091) (by decide +kernel)⟩
theorem lw_p100 : lw_okq (⟨"PitInspectorModel", "isAgainst", "(II)Z"⟩, 111) := ⟨⟨by decide +kernel, by decide +kernel⟩, List.mem_of_getElem? (i := 1458) (by decide +kernel), List.mem_of_getElem? (i := 2098) (by decide +kernel), List.mem_of_getElem? (i := 2099) (by decide +kernel)⟩
theorem lw_p101 : lw_okq (⟨"PitInspectorModel", "areAlike", "(II)Z"⟩, 111) := ⟨⟨by decide +kernel, by decide +kernel⟩, List.mem_of_getElem? (i := 1458) (by decide +kernel), List.mem_of_getElem? (i := 2102) (by decide +kernel), List.mem_of_getElem? (i := 2103) (by decide +kernel)⟩
theorem lw_p102 : lw_okq (⟨"PitInspectorModel", "isPlace", "(I)Z"⟩, 111) := ⟨⟨by decide +kernel, by decide +kernel⟩, List.mem_of_getElem? (i := 1458) (by decide +kernel), List.mem_of_getElem? (i := 2114) (by decide +kernel), List.mem_of_getElem? (i := 2115) (by decide +kernel)⟩
theorem lw_p103 : lw_okq (⟨"PitInspectorModel", "isRoad", "(I)Z"⟩, 111) := ⟨⟨by decide +kernel, by decide +kernel⟩, List.mem_of_getElem? (i := 1458) (by decide +kernel), List.mem_of_getElem? (i := 2122) (by decide +kernel), List.mem_of_getElem? (i := 2123) (by decide +kernel)⟩
theorem lw_p104 : lw_okq (⟨"PitInspectorModel", "isPlan", "(I)Z"⟩, 111) := ⟨⟨by decide +kernel, by decide +kernel⟩, List.mem_of_getElem? (i := 1458) (by decide +kernel), List.mem_of_getElem? (i := 2170) (by decide +kernel), List.mem_of_getElem? (i := 2171) (by decide +kernel)⟩
theorem lw_p105 : lw_okq (⟨"PitInspectorModel", "nearSet", "(I)I"⟩, 111) := ⟨⟨by decide +kernel, by decide +kernel⟩, List.mem_of_getElem? (i := 1458) (by decide +kernel), List.mem_of_getElem? (i := 2195) (by decide +kernel), List.mem_of_getElem? (i := 2196) (by decide +kernel)⟩
theorem lw_p106 : lw_okq (⟨"PitInspectorModel", "isHand", "(I)Z"⟩, 111) := ⟨⟨by decide +kernel, by decide +kernel⟩, List.mem_of_getElem? (i := 1458) (by decide +kernel), List.mem_of_getElem? (i := 2216) (by decide +kernel), List.mem_of_getElem? (i := 2217) (by decide +kernel)⟩
theorem lw_p107 : lw_okq (⟨"PitInspectorModel", "isWarning", "(I)Z"⟩, 111) := ⟨⟨by decide +kernel, by decide +kernel⟩, List.mem_of_getElem? (i := 1458) (by decide +kernel), List.mem_of_getElem? (i := 2257) (by decide +kernel), List.mem_of_getElem? (i := 2258) (by decide +kernel)⟩
theorem lw_p108 : lw_okq (⟨"PitInspectorModel", "hoursOf", "(I)I"⟩, 111) := ⟨⟨by decide +kernel, by decide +kernel⟩, List.mem_of_getElem? (i := 1458) (by decide +kernel), List.mem_of_getElem? (i := 2273) (by decide +kernel), List.mem_of_getElem? (i := 2274) (by decide +kernel)⟩
theorem lw_p109 : lw_okq (⟨"PitInspectorModel", "worthOfPit", "(I)I"⟩, 111) := ⟨⟨by decide +kernel, by decide +kernel⟩, List.mem_of_getElem? (i := 1458) (by decide +kernel), List.mem_of_getElem? (i := 2294) (by decide +kernel), List.mem_of_getElem? (i := 2295) (by decide +kernel)⟩
theorem lw_p110 : lw_okq (⟨"PitInspectorModel", "sends", "(I)V"⟩, 111) := ⟨⟨by decide +kernel, by decide +kernel⟩, List.mem_of_getElem? (i := 1458) (by decide +kernel), List.mem_of_getElem? (i := 2306) (by decide +kernel), List.mem_of_getElem? (i := 2307) (by decide +kernel)⟩
theorem lw_p111 : lw_okq (⟨"PitInspectorModel", "weighs", "()V"⟩, 111) := ⟨⟨by decide +kernel, by decide +kernel⟩, List.mem_of_getElem? (i := 1458) (by decide +kernel), List.mem_of_getElem? (i := 2327) (by decide +kernel), List.mem_of_getElem? (i := 2328) (by decide +kernel)⟩
def lw_privs_7 : List (MethodName × Nat) := [(⟨"PitInspectorModel", "lampsOut", "(I)I"⟩, 111), (⟨"PitInspectorModel", "shotsSince", "(I)I"⟩, 111), (⟨"PitInspectorModel", "breaks", "(II)I"⟩, 111), (⟨"PitInspectorModel", "fineOf", "(II)I"⟩, 111), (⟨"PitInspectorModel", "isAgainst", "(II)Z"⟩, 111), (⟨"PitInspectorModel", "areAlike", "(II)Z"⟩, 111), (⟨"PitInspectorModel", "isPlace", "(I)Z"⟩, 111), (⟨"PitInspectorModel", "isRoad", "(I)Z"⟩, 111), (⟨"PitInspectorModel", "isPlan", "(I)Z"⟩, 111), (⟨"PitInspectorModel", "nearSet", "(I)I"⟩, 111), (⟨"PitInspectorModel", "isHand", "(I)Z"⟩, 111), (⟨"PitInspectorModel", "isWarning", "(I)Z"⟩, 111), (⟨"PitInspectorModel", "hoursOf", "(I)I"⟩, 111), (⟨"PitInspectorModel", "worthOfPit", "(I)I"⟩, 111), (⟨"PitInspectorModel", "sends", "(I)V"⟩, 111), (⟨"PitInspectorModel", "weighs", "()V"⟩, 111)]
theorem lw_r7 : ∀ q ∈ lw_privs_7, lw_okq q := List.forall_mem_cons.mpr ⟨lw_p96, List.forall_mem_cons.mpr ⟨lw_p97, List.forall_mem_cons.mpr ⟨lw_p98, List.forall_mem_cons.mpr ⟨lw_p99, List.forall_mem_cons.mpr ⟨lw_p100, List.forall_mem_cons.mpr ⟨lw_p101, List.forall_mem_cons.mpr ⟨lw_p102, List.forall_mem_cons.mpr ⟨lw_p103, List.forall_mem_cons.mpr ⟨lw_p104, List.forall_mem_cons.mpr ⟨lw_p105, List.forall_mem_cons.mpr ⟨lw_p106, List.forall_mem_cons.mpr ⟨lw_p107, List.forall_mem_cons.mpr ⟨lw_p108, List.forall_mem_cons.mpr ⟨lw_p109, List.forall_mem_cons.mpr ⟨lw_p110, List.forall_mem_cons.mpr ⟨lw_p111, fun _ h => absurd h List.not_mem_nil⟩⟩⟩⟩⟩⟩⟩⟩⟩⟩⟩⟩⟩⟩⟩⟩
theorem lw_p112 : lw_okq (⟨"PitInspectorModel", "canBe", "(I)Z"⟩, 111) := ⟨⟨by decide +kernel, by decide +kernel⟩, List.mem_of_getElem? (i := 1458) (by decide +kernel), List.mem_of_getElem? (i := 2331) (by decide +kernel), List.mem_of_getElem? (i := 2332) (by decide +kernel)⟩
def lw_privs_8 : List (MethodName × Nat) := [(⟨"PitInspectorModel", "canBe", "(I)Z"⟩, 111)]
theorem lw_r8 : ∀ q ∈ lw_privs_8, lw_okq q := List.forall_mem_cons.mpr ⟨lw_p112, fun _ h => absurd h List.not_mem_nil⟩
def lw_privs : List (MethodName × Nat) := lw_privs_1 ++ (lw_privs_2 ++ (lw_privs_3 ++ (lw_privs_4 ++ (lw_privs_5 ++ (lw_privs_6 ++ (lw_privs_7 ++ (lw_privs_8)))))))
def lw_tbl : List Cond := k2_sels lw_privs ++ tables_1
theorem lw_privs_ok : ∀ q ∈ lw_privs, lw_okq q := by
  show ∀ q ∈ lw_privs_1 ++ (lw_privs_2 ++ (lw_privs_3 ++ (lw_privs_4 ++ (lw_privs_5 ++ (lw_privs_6 ++ (lw_privs_7 ++ (lw_privs_8))))))), lw_okq q
  exact List.forall_mem_append.mpr ⟨lw_r1, List.forall_mem_append.mpr ⟨lw_r2, List.forall_mem_append.mpr ⟨lw_r3, List.forall_mem_append.mpr ⟨lw_r4, List.forall_mem_append.mpr ⟨lw_r5, List.forall_mem_append.mpr ⟨lw_r6, List.forall_mem_append.mpr ⟨lw_r7, lw_r8⟩⟩⟩⟩⟩⟩⟩
-- ===== end of PART A; then your names; then what follows =====
end
section
/-! A SMALL MACHINE over a pure heap: what the program's bytecode does, as a function.
values: (0,x) an int, (1,x) a long, (2,a) the object or array number a, (3,0) null, (4,0) the script, (5,0) the text of letters, (9,0) nothing known.
a heap: the number that place j of cell a holds; the references (a cell's number + 1; null as 0), how many cells there are, the script's length, the script. -/
abbrev AV : Type := Nat × Int
abbrev Zt : Type := (Nat → Nat → Int) × Nat × Nat × (Nat → Int)
abbrev Hp : Type := (Nat → Nat → Int) × Zt
abbrev Ins : Type := Nat × Nat × List Nat × List Int
abbrev Res : Type := Option AV × Hp
abbrev GG : Type := Nat × Nat
def w32 (x : Int) : Int := Int.bmod x 4294967296
def w64 (x : Int) : Int := Int.bmod x 18446744073709551616
def ia32 (x y : Int) : Int := (Int32.ofInt x &&& Int32.ofInt y).toInt
def io32 (x y : Int) : Int := (Int32.ofInt x ||| Int32.ofInt y).toInt
def ix32 (x y : Int) : Int := (Int32.ofInt x ^^^ Int32.ofInt y).toInt
def ia64 (x y : Int) : Int := (Int64.ofInt x &&& Int64.ofInt y).toInt
def io64 (x y : Int) : Int := (Int64.ofInt x ||| Int64.ofInt y).toInt
def shl32 (x y : Int) : Int := w32 (x * 2 ^ (y % 32).toNat)
def shr32 (x y : Int) : Int := x / 2 ^ (y % 32).toNat
def ush32 (x y : Int) : Int := w32 ((x % 4294967296) / 2 ^ (y % 32).toNat)
def shl64 (x y : Int) : Int := w64 (x * 2 ^ (y % 64).toNat)
def shr64 (x y : Int) : Int := x / 2 ^ (y % 64).toNat
def lcm (x y : Int) : Int := if x < y then -1 else if x = y then 0 else 1
def up2 (f : Nat → Nat → Int) (a j : Nat) (x : Int) : Nat → Nat → Int := fun a' j' => if a' = a ∧ j' = j then x else f a' j'
def cp2 (f : Nat → Nat → Int) (a sp b dp n : Nat) : Nat → Nat → Int := fun a' j' => if a' = b ∧ dp ≤ j' ∧ j' < dp + n then f a (sp + (j' - dp)) else f a' j'
def lg : List AV → Nat → AV
  | [], _ => (9, 0)
  | v :: _, 0 => v
  | _ :: l, n + 1 => lg l n
def lset : List AV → Nat → AV → List AV
  | [], _, _ => []
  | _ :: l, 0, v => v :: l
  | u :: l, n + 1, v => u :: lset l n v
def lkill (ls : List AV) (a : Nat) : List AV := if 0 < a ∧ (lg ls (a - 1)).1 = 1 then lset ls (a - 1) (9, 0) else ls
def st1 (ls : List AV) (a : Nat) (v : AV) : List AV := lset (lkill ls a) a v
def st2 (ls : List AV) (a : Nat) (v : AV) : List AV := lset (lset (lkill ls a) a v) (a + 1) (9, 0)
def tk : Nat → List AV → List AV → Option (List AV × List AV)
  | 0, acc, s => some (acc, s)
  | _ + 1, _, [] => none
  | n + 1, acc, v :: s => tk n (v :: acc) s
def ent : Nat → List AV → List AV
  | 0, _ => []
  | n + 1, [] => (9, 0) :: ent n []
  | n + 1, (t, x) :: l => (t, x) :: (if t = 1 then (match n with | 0 => [] | n' + 1 => (9, 0) :: ent n' l) else ent n l)
def swt : List Int → List Nat → Nat → Int → Nat
  | k :: ks, t :: ts, d, x => if x = k then t else swt ks ts d x
  | _, _, d, _ => d
def idxOf : List Int → Int → Int → Int
  | [], _, _ => -1
  | k :: ks, n, x => if x = k then n else idxOf ks (n + 1) x
/-- how the cells lie: what each is (below 20 an object of that class; 20 ints, 21 bytes, 22 booleans, 23 longs, 24 texts) and how long -/
abbrev Lay : Type := Nat → Nat × Nat
def b1 (f : Int → Int) (nx : Nat) (ls stk : List AV) (h : Hp) (gg : GG) : Option (Nat × List AV × List AV × Hp × GG) := match stk with
  | (0, x) :: r => some (nx, ls, (0, f x) :: r, h, gg)
  | _ => none
def b2 (f : Int → Int → Int) (nx : Nat) (ls stk : List AV) (h : Hp) (gg : GG) : Option (Nat × List AV × List AV × Hp × GG) := match stk with
  | (0, y) :: (0, x) :: r => some (nx, ls, (0, f x y) :: r, h, gg)
  | _ => none
def b2z (f : Int → Int → Int) (nx : Nat) (ls stk : List AV) (h : Hp) (gg : GG) : Option (Nat × List AV × List AV × Hp × GG) := match stk with
  | (0, y) :: (0, x) :: r => if y = 0 then none else some (nx, ls, (0, f x y) :: r, h, gg)
  | _ => none
def l2 (f : Int → Int → Int) (nx : Nat) (ls stk : List AV) (h : Hp) (gg : GG) : Option (Nat × List AV × List AV × Hp × GG) := match stk with
  | (1, y) :: (1, x) :: r => some (nx, ls, (1, f x y) :: r, h, gg)
  | _ => none
def l2z (f : Int → Int → Int) (nx : Nat) (ls stk : List AV) (h : Hp) (gg : GG) : Option (Nat × List AV × List AV × Hp × GG) := match stk with
  | (1, y) :: (1, x) :: r => if y = 0 then none else some (nx, ls, (1, f x y) :: r, h, gg)
  | _ => none
def ls2 (f : Int → Int → Int) (nx : Nat) (ls stk : List AV) (h : Hp) (gg : GG) : Option (Nat × List AV × List AV × Hp × GG) := match stk with
  | (0, y) :: (1, x) :: r => some (nx, ls, (1, f x y) :: r, h, gg)
  | _ => none
/-- constants, locals -/
def effA (i : Ins) (ls stk : List AV) (h : Hp) (gg : GG) : Option (Nat × List AV × List AV × Hp × GG) :=
  let op := i.1; let nx := i.2.1; let a := i.2.2.1.headD 0; let v := i.2.2.2.headD 0
  if op ≤ 5 then some (nx, ls, (0, v) :: stk, h, gg)
  else if op ≤ 7 then some (nx, ls, (1, v) :: stk, h, gg)
  else if op = 8 then some (nx, ls, (5, 0) :: stk, h, gg)
  else if op ≤ 11 then (if (lg ls a).1 = 0 then some (nx, ls, lg ls a :: stk, h, gg) else none)
  else if op ≤ 13 then (if (lg ls a).1 = 1 then some (nx, ls, lg ls a :: stk, h, gg) else none)
  else if op ≤ 15 then (if (lg ls a).1 = 2 ∨ (lg ls a).1 = 4 then some (nx, ls, lg ls a :: stk, h, gg) else none)
  else if op ≤ 17 then (match stk with
    | (0, x) :: r => some (nx, st1 ls a (0, x), r, h, gg)
    | _ => none)
  else if op ≤ 19 then (match stk with
    | (1, x) :: r => some (nx, st2 ls a (1, x), r, h, gg)
    | _ => none)
  else if op ≤ 21 then (match stk with
    | (2, x) :: r => some (nx, st1 ls a (2, x), r, h, gg)
    | _ => none)
  else if op = 22 then (if (lg ls a).1 = 0 then some (nx, st1 ls a (0, w32 ((lg ls a).2 + v)), stk, h, gg) else none)
  else none
/-- reckoning -/
def effB (i : Ins) (ls stk : List AV) (h : Hp) (gg : GG) : Option (Nat × List AV × List AV × Hp × GG) :=
  let op := i.1; let nx := i.2.1
  if op = 30 then b2 (fun x y => w32 (x + y)) nx ls stk h gg
  else if op = 31 then b2 (fun x y => w32 (x - y)) nx ls stk h gg
  else if op = 32 then b2 (fun x y => w32 (x * y)) nx ls stk h gg
  else if op = 33 then b2z (fun x y => w32 (Int.tdiv x y)) nx ls stk h gg
  else if op = 34 then b2z (fun x y => Int.tmod x y) nx ls stk h gg
  else if op = 35 then b1 (fun x => w32 (-x)) nx ls stk h gg
  else if op = 36 then b2 shl32 nx ls stk h gg
  else if op = 37 then b2 shr32 nx ls stk h gg
  else if op = 38 then b2 ush32 nx ls stk h gg
  else if op = 39 then b2 ia32 nx ls stk h gg
  else if op = 40 then b2 io32 nx ls stk h gg
  else if op = 41 then b2 ix32 nx ls stk h gg
  else if op = 42 then (match stk with
    | (0, x) :: r => some (nx, ls, (1, x) :: r, h, gg)
    | _ => none)
  else if op = 43 then (match stk with
    | (1, x) :: r => some (nx, ls, (0, w32 x) :: r, h, gg)
    | _ => none)
  else if op = 44 then b1 (fun x => Int.bmod x 256) nx ls stk h gg
  else if op = 45 then b1 (fun x => x % 65536) nx ls stk h gg
  else if op = 46 then l2 (fun x y => w64 (x + y)) nx ls stk h gg
  else if op = 47 then l2 (fun x y => w64 (x - y)) nx ls stk h gg
  else if op = 48 then l2 (fun x y => w64 (x * y)) nx ls stk h gg
  else if op = 49 then l2z (fun x y => w64 (Int.tdiv x y)) nx ls stk h gg
  else if op = 50 then l2z (fun x y => Int.tmod x y) nx ls stk h gg
  else if op = 51 then (match stk with
    | (1, y) :: (1, x) :: r => some (nx, ls, (0, lcm x y) :: r, h, gg)
    | _ => none)
  else if op = 52 then l2 ia64 nx ls stk h gg
  else if op = 53 then l2 io64 nx ls stk h gg
  else if op = 54 then ls2 shl64 nx ls stk h gg
  else if op = 55 then ls2 shr64 nx ls stk h gg
  else if op = 56 then (match stk with
    | v :: r => if v.1 = 1 then none else some (nx, ls, v :: v :: r, h, gg)
    | _ => none)
  else if op = 57 then (match stk with
    | v :: u :: r => if v.1 = 1 ∨ u.1 = 1 then none else some (nx, ls, v :: u :: v :: u :: r, h, gg)
    | _ => none)
  else if op = 58 then (match stk with
    | v :: r => if v.1 = 1 then none else some (nx, ls, r, h, gg)
    | _ => none)
  else none
def c1 (q : Int → Bool) (t nx : Nat) (ls stk : List AV) (h : Hp) (gg : GG) : Option (Nat × List AV × List AV × Hp × GG) := match stk with
  | (0, x) :: r => some (if q x = true then t else nx, ls, r, h, gg)
  | _ => none
def c2 (q : Int → Int → Bool) (t nx : Nat) (ls stk : List AV) (h : Hp) (gg : GG) : Option (Nat × List AV × List AV × Hp × GG) := match stk with
  | (0, y) :: (0, x) :: r => some (if q x y = true then t else nx, ls, r, h, gg)
  | _ => none
/-- branches -/
def effC (i : Ins) (ls stk : List AV) (h : Hp) (gg : GG) : Option (Nat × List AV × List AV × Hp × GG) :=
  let op := i.1; let nx := i.2.1; let t := i.2.2.1.headD 0
  if op = 60 then c1 (fun x => decide (x = 0)) t nx ls stk h gg
  else if op = 61 then c1 (fun x => decide (¬ x = 0)) t nx ls stk h gg
  else if op = 62 then c1 (fun x => decide (x < 0)) t nx ls stk h gg
  else if op = 63 then c1 (fun x => decide (0 ≤ x)) t nx ls stk h gg
  else if op = 64 then c1 (fun x => decide (0 < x)) t nx ls stk h gg
  else if op = 65 then c1 (fun x => decide (x ≤ 0)) t nx ls stk h gg
  else if op = 66 then c2 (fun x y => decide (x = y)) t nx ls stk h gg
  else if op = 67 then c2 (fun x y => decide (¬ x = y)) t nx ls stk h gg
  else if op = 68 then c2 (fun x y => decide (x < y)) t nx ls stk h gg
  else if op = 69 then c2 (fun x y => decide (y ≤ x)) t nx ls stk h gg
  else if op = 70 then c2 (fun x y => decide (y < x)) t nx ls stk h gg
  else if op = 71 then c2 (fun x y => decide (x ≤ y)) t nx ls stk h gg
  else if op = 72 then (match stk with
    | (3, _) :: r => some (t, ls, r, h, gg)
    | (2, _) :: r => some (nx, ls, r, h, gg)
    | _ => none)
  else if op = 73 then some (t, ls, stk, h, gg)
  else if op ≤ 75 then (match stk with
    | (0, x) :: r => some (swt i.2.2.2 i.2.2.1.tail t x, ls, r, h, gg)
    | _ => none)
  else none
/-- cells -/
def effD (LY : Lay) (al : GG) (i : Ins) (ls stk : List AV) (h : Hp) (gg : GG) : Option (Nat × List AV × List AV × Hp × GG) :=
  let op := i.1; let nx := i.2.1; let a := i.2.2.1.headD 0; let b := i.2.2.1.tail.headD 0
  if op ≤ 77 then (match stk with
    | (0, x) :: r => if 0 ≤ x ∧ LY h.2.2.1 = (a, x.toNat) ∧ gg.1 + 1 ≤ al.1 ∧ gg.2 + x.toNat ≤ al.2 then some (nx, ls, (2, (h.2.2.1 : Int)) :: r, (h.1, h.2.1, h.2.2.1 + 1, h.2.2.2), (gg.1 + 1, gg.2 + x.toNat)) else none
    | _ => none)
  else if op = 78 then (if (LY h.2.2.1).1 = a ∧ gg.1 + 1 ≤ al.1 ∧ gg.2 + (LY h.2.2.1).2 ≤ al.2 then some (nx, ls, (2, (h.2.2.1 : Int)) :: stk, (h.1, h.2.1, h.2.2.1 + 1, h.2.2.2), (gg.1 + 1, gg.2 + (LY h.2.2.1).2)) else none)
  else if op = 80 then (match stk with
    | (0, x) :: (2, q) :: r => if (LY q.toNat).1 = 20 ∧ 0 ≤ x ∧ x < ((LY q.toNat).2 : Int) then some (nx, ls, (0, h.1 q.toNat x.toNat) :: r, h, gg) else none
    | (0, x) :: (4, _) :: r => if 0 ≤ x ∧ x < (h.2.2.2.1 : Int) then some (nx, ls, (0, h.2.2.2.2 x.toNat) :: r, h, gg) else none
    | _ => none)
  else if op = 81 then (match stk with
    | (0, x) :: (2, q) :: r => if ((LY q.toNat).1 = 21 ∨ (LY q.toNat).1 = 22) ∧ 0 ≤ x ∧ x < ((LY q.toNat).2 : Int) then some (nx, ls, (0, h.1 q.toNat x.toNat) :: r, h, gg) else none
    | _ => none)
  else if op = 82 then (match stk with
    | (0, x) :: (2, q) :: r => if (LY q.toNat).1 = 23 ∧ 0 ≤ x ∧ x < ((LY q.toNat).2 : Int) then some (nx, ls, (1, h.1 q.toNat x.toNat) :: r, h, gg) else none
    | _ => none)
  else if op = 83 then (match stk with
    | (0, x) :: (2, q) :: r => if (LY q.toNat).1 = 24 ∧ 0 ≤ x ∧ x < ((LY q.toNat).2 : Int) ∧ ¬ h.2.1 q.toNat x.toNat = 0 then some (nx, ls, (2, h.2.1 q.toNat x.toNat - 1) :: r, h, gg) else none
    | _ => none)
  else if op = 84 then (match stk with
    | (0, v) :: (0, x) :: (2, q) :: r => if (LY q.toNat).1 = 20 ∧ 0 ≤ x ∧ x < ((LY q.toNat).2 : Int) then some (nx, ls, r, (up2 h.1 q.toNat x.toNat v, h.2), gg) else none
    | _ => none)
  else if op = 85 then (match stk with
    | (0, v) :: (0, x) :: (2, q) :: r => if 0 ≤ x ∧ x < ((LY q.toNat).2 : Int) then (if (LY q.toNat).1 = 21 then some (nx, ls, r, (up2 h.1 q.toNat x.toNat (Int.bmod v 256), h.2), gg) else if (LY q.toNat).1 = 22 ∧ (v = 0 ∨ v = 1) then some (nx, ls, r, (up2 h.1 q.toNat x.toNat v, h.2), gg) else none) else none
    | _ => none)
  else if op = 86 then (match stk with
    | (1, v) :: (0, x) :: (2, q) :: r => if (LY q.toNat).1 = 23 ∧ 0 ≤ x ∧ x < ((LY q.toNat).2 : Int) then some (nx, ls, r, (up2 h.1 q.toNat x.toNat v, h.2), gg) else none
    | _ => none)
  else if op = 87 then (match stk with
    | (2, v) :: (0, x) :: (2, q) :: r => if (LY q.toNat).1 = 24 ∧ (LY v.toNat).1 = b ∧ 0 ≤ x ∧ x < ((LY q.toNat).2 : Int) then some (nx, ls, r, (h.1, up2 h.2.1 q.toNat x.toNat (v + 1), h.2.2), gg) else none
    | _ => none)
  else if op = 88 then (match stk with
    | (2, q) :: r => if 20 ≤ (LY q.toNat).1 ∧ (LY q.toNat).1 ≤ 24 then some (nx, ls, (0, ((LY q.toNat).2 : Int)) :: r, h, gg) else none
    | (4, _) :: r => some (nx, ls, (0, (h.2.2.2.1 : Int)) :: r, h, gg)
    | _ => none)
  else if op = 90 then (match stk with
    | (2, q) :: r => if (LY q.toNat).1 = a then some (nx, ls, (0, h.1 q.toNat b) :: r, h, gg) else none
    | _ => none)
  else if op = 91 then (match stk with
    | (2, q) :: r => if (LY q.toNat).1 = a then some (nx, ls, (if h.2.1 q.toNat b = 0 then (3, 0) else (2, h.2.1 q.toNat b - 1)) :: r, h, gg) else none
    | _ => none)
  else if op = 92 then (match stk with
    | (0, v) :: (2, q) :: r => if (LY q.toNat).1 = a then some (nx, ls, r, (up2 h.1 q.toNat b v, h.2), gg) else none
    | _ => none)
  else if op = 93 then (match stk with
    | (2, v) :: (2, q) :: r => if (LY q.toNat).1 = a then some (nx, ls, r, (h.1, up2 h.2.1 q.toNat b (v + 1), h.2.2), gg) else none
    | _ => none)
  else if op = 94 then (match stk with
    | (0, v) :: (2, q) :: r => if (LY q.toNat).1 = a ∧ (v = 0 ∨ v = 1) then some (nx, ls, r, (up2 h.1 q.toNat b v, h.2), gg) else none
    | _ => none)
  else if op = 95 then (match stk with
    | (2, _) :: r => if r.length ≤ 4 then some (nx, ls, r, h, gg) else none
    | _ => none)
  else if op = 96 then (match stk with
    | (0, n) :: (0, dp) :: (2, q) :: (0, sp) :: (2, p) :: r => if ((LY p.toNat).1 = 20 ∨ (LY p.toNat).1 = 21) ∧ (LY q.toNat).1 = (LY p.toNat).1 ∧ 0 ≤ sp ∧ 0 ≤ dp ∧ 0 ≤ n ∧ sp + n ≤ ((LY p.toNat).2 : Int) ∧ dp + n ≤ ((LY q.toNat).2 : Int) ∧ r.length ≤ 4 then some (nx, ls, r, (cp2 h.1 p.toNat sp.toNat q.toNat dp.toNat n.toNat, h.2), gg) else none
    | _ => none)
  else if op = 97 then (match stk with
    | (0, x) :: (5, _) :: r => if r.length ≤ 4 then some (nx, ls, (0, idxOf i.2.2.2 0 x) :: r, h, gg) else none
    | _ => none)
  else none
def eff (LY : Lay) (al : GG) (i : Ins) (ls stk : List AV) (h : Hp) (gg : GG) : Option (Nat × List AV × List AV × Hp × GG) :=
  if i.1 < 30 then effA i ls stk h gg else if i.1 < 60 then effB i ls stk h gg else if i.1 < 76 then effC i ls stk h gg else effD LY al i ls stk h gg
/-- what the program is: how cells lie; its code, by method and place; a method's room for new cells and their places; its locals; its class (50: static; 60: a constructor); what it returns (0 nothing, 1 an int, 2 a boolean, 3 a long) -/
abbrev Prg : Type := Lay × (Nat → Nat → Ins) × (Nat → GG) × (Nat → Nat) × (Nat → Nat) × (Nat → Nat)
abbrev Cal : Type := Nat → List AV → Hp → Option Res
abbrev Kon : Type := Nat → List AV → List AV → Hp → GG → Option Res
def goRet (P : Prg) (m : Nat) (i : Ins) (stk : List AV) (h : Hp) : Option Res :=
  if i.1 = 110 then (match stk with
    | [(0, x)] => if P.2.2.2.2.2 m = 2 then (if x = 0 ∨ x = 1 then some (some (0, x), h) else none) else some (some (0, x), h)
    | _ => none)
  else if i.1 = 111 then (match stk with
    | [(1, x)] => some (some (1, x), h)
    | _ => none)
  else (match stk with
    | [] => some (none, h)
    | _ => none)
def rcv (LY : Lay) (c : Nat) (as : List AV) : Bool := if c = 50 then true else match as with
  | (2, q) :: _ => if c = 60 then true else decide ((LY q.toNat).1 = c)
  | _ => false
def goCall (P : Prg) (C : Cal) (k : Kon) (m : Nat) (i : Ins) (ls stk : List AV) (h : Hp) (gg : GG) : Option Res :=
  let c := i.2.2.1.headD 0; let na := i.2.2.1.tail.headD 0
  match tk na [] stk with
  | some (as, r) => (match (if rcv P.1 (P.2.2.2.2.1 c) as = true ∧ r.length ≤ 4 ∧ gg.1 + (P.2.2.1 c).1 ≤ (P.2.2.1 m).1 ∧ gg.2 + (P.2.2.1 c).2 ≤ (P.2.2.1 m).2 then C c as h else none) with
    | some (v, h') => k i.2.1 ls (v.toList ++ r) h' (gg.1 + (P.2.2.1 c).1, gg.2 + (P.2.2.1 c).2)
    | none => none)
  | none => none
def go (P : Prg) (C : Cal) (k : Kon) (m : Nat) (i : Ins) (ls stk : List AV) (h : Hp) (gg : GG) : Option Res :=
  if i.1 < 100 then (match eff P.1 (P.2.2.1 m) i ls stk h gg with
    | some r => k r.1 r.2.1 r.2.2.1 r.2.2.2.1 r.2.2.2.2
    | none => none)
  else if i.1 < 110 then goCall P C k m i ls stk h gg
  else goRet P m i stk h
def run (P : Prg) (C : Cal) : Nat → Nat → Kon
  | 0, _ => fun _ _ _ _ _ => none
  | n + 1, m => fun pc ls stk h gg => go P C (run P C n m) m (P.2.1 m pc) ls stk h gg
noncomputable def Run (P : Prg) (C : Cal) (m : Nat) : Kon := fun pc ls stk h gg =>
  @dite (Option Res) (∃ x n, run P C n m pc ls stk h gg = some x) (Classical.propDecidable _) (fun hx => some hx.choose) (fun _ => none)
noncomputable def Call (P : Prg) : Nat → Cal
  | 0 => fun _ _ _ => none
  | d + 1 => fun m as h => Run P (Call P d) m 0 (ent (P.2.2.2.1 m) as) [] h (0, 0)
/-- what k says is used at one place at most -/
theorem go_local (P : Prg) (C : Cal) (m : Nat) (i : Ins) (ls stk : List AV) (h : Hp) (gg : GG) : (∃ r : Option Res, ∀ k, go P C k m i ls stk h gg = r) ∨ (∃ pc ls' stk' h' gg', ∀ k : Kon, go P C k m i ls stk h gg = k pc ls' stk' h' gg') := by
  unfold go
  split
  · cases eff P.1 (P.2.2.1 m) i ls stk h gg with
    | none => exact Or.inl ⟨none, fun _ => rfl⟩
    | some r => exact Or.inr ⟨_, _, _, _, _, fun _ => rfl⟩
  · split
    · unfold goCall
      dsimp only
      cases tk (i.2.2.1.tail.headD 0) [] stk with
      | none => exact Or.inl ⟨none, fun _ => rfl⟩
      | some q =>
        obtain ⟨as, r⟩ := q
        dsimp only
        generalize (if rcv P.1 (P.2.2.2.2.1 (i.2.2.1.headD 0)) as = true ∧ r.length ≤ 4 ∧ gg.1 + (P.2.2.1 (i.2.2.1.headD 0)).1 ≤ (P.2.2.1 m).1 ∧ gg.2 + (P.2.2.1 (i.2.2.1.headD 0)).2 ≤ (P.2.2.1 m).2 then C (i.2.2.1.headD 0) as h else none) = z
        cases z with
        | none => exact Or.inl ⟨none, fun _ => rfl⟩
        | some q => exact Or.inr ⟨_, _, _, _, _, fun _ => rfl⟩
    · exact Or.inl ⟨_, fun _ => rfl⟩
theorem run_up {P : Prg} {C : Cal} {m : Nat} : ∀ {n pc ls stk h gg x}, run P C n m pc ls stk h gg = some x → run P C (n + 1) m pc ls stk h gg = some x := by
  intro n
  induction n with
  | zero => intro pc ls stk h gg x hx; cases hx
  | succ n ih =>
    intro pc ls stk h gg x hx
    show go P C (run P C (n + 1) m) m (P.2.1 m pc) ls stk h gg = some x
    have hx' : go P C (run P C n m) m (P.2.1 m pc) ls stk h gg = some x := hx
    rcases go_local P C m (P.2.1 m pc) ls stk h gg with ⟨r, hr⟩ | ⟨pc', ls', stk', h', gg', hr⟩
    · rw [hr] at hx' ⊢; exact hx'
    · rw [hr] at hx' ⊢; exact ih hx'
theorem run_le {P : Prg} {C : Cal} {m : Nat} {n n' pc ls stk h gg x} (hn : n ≤ n') (hx : run P C n m pc ls stk h gg = some x) : run P C n' m pc ls stk h gg = some x := by
  induction hn with
  | refl => exact hx
  | step _ ih => exact run_up ih
theorem run_det {P : Prg} {C : Cal} {m : Nat} {n n' pc ls stk h gg x y} (hx : run P C n m pc ls stk h gg = some x) (hy : run P C n' m pc ls stk h gg = some y) : x = y := by
  have h1 := run_le (Nat.le_max_left n n') hx
  have h2 := run_le (Nat.le_max_right n n') hy
  rw [h1] at h2
  exact Option.some.inj h2
theorem Run_of {P : Prg} {C : Cal} {m : Nat} {n pc ls stk h gg x} (hx : run P C n m pc ls stk h gg = some x) : Run P C m pc ls stk h gg = some x := by
  unfold Run
  have he : ∃ x n, run P C n m pc ls stk h gg = some x := ⟨x, n, hx⟩
  rw [dif_pos he]
  obtain ⟨n', hn'⟩ := he.choose_spec
  rw [run_det hn' hx]
theorem Run_to {P : Prg} {C : Cal} {m : Nat} {pc ls stk h gg x} (hx : Run P C m pc ls stk h gg = some x) : ∃ n, run P C n m pc ls stk h gg = some x := by
  unfold Run at hx
  by_cases he : ∃ x n, run P C n m pc ls stk h gg = some x
  · rw [dif_pos he] at hx
    rw [← Option.some.inj hx]
    exact he.choose_spec
  · rw [dif_neg he] at hx; cases hx
/-- THE STEP -/
theorem Run_eq (P : Prg) (C : Cal) (m pc : Nat) (ls stk : List AV) (h : Hp) (gg : GG) : Run P C m pc ls stk h gg = go P C (Run P C m) m (P.2.1 m pc) ls stk h gg := by
  have key : ∀ x, Run P C m pc ls stk h gg = some x ↔ go P C (Run P C m) m (P.2.1 m pc) ls stk h gg = some x := by
    intro x
    constructor
    · intro hx
      obtain ⟨n, hn⟩ := Run_to hx
      cases n with
      | zero => cases hn
      | succ n =>
        have hn' : go P C (run P C n m) m (P.2.1 m pc) ls stk h gg = some x := hn
        rcases go_local P C m (P.2.1 m pc) ls stk h gg with ⟨r, hr⟩ | ⟨pc', ls', stk', h', gg', hr⟩
        · rw [hr] at hn' ⊢; exact hn'
        · rw [hr] at hn' ⊢; exact Run_of hn'
    · intro hx
      rcases go_local P C m (P.2.1 m pc) ls stk h gg with ⟨r, hr⟩ | ⟨pc', ls', stk', h', gg', hr⟩
      · rw [hr] at hx
        exact Run_of (n := 1) (by show go P C (run P C 0 m) m (P.2.1 m pc) ls stk h gg = some x; rw [hr]; exact hx)
      · rw [hr] at hx
        obtain ⟨n, hn⟩ := Run_to hx
        exact Run_of (n := n + 1) (by show go P C (run P C n m) m (P.2.1 m pc) ls stk h gg = some x; rw [hr]; exact hn)
  cases h1 : go P C (Run P C m) m (P.2.1 m pc) ls stk h gg with
  | some x => exact (key x).mpr h1
  | none =>
    cases h2 : Run P C m pc ls stk h gg with
    | none => rfl
    | some x => rw [(key x).mp h2] at h1; cases h1
end
section
/-! numbers: the small machine's Int beside the machine's Int32 and Int64 -/
def in32 (x : Int) : Prop := -2147483648 ≤ x ∧ x < 2147483648
def in64 (x : Int) : Prop := -9223372036854775808 ≤ x ∧ x < 9223372036854775808
abbrev I3 (x : Int) : Int32 := Int32.ofInt x
abbrev I6 (x : Int) : Int64 := Int64.ofInt x
theorem w32_in (x : Int) : in32 (w32 x) := by
  unfold w32 in32
  have h1 := Int.le_bmod (x := x) (m := 4294967296) (by omega)
  have h2 := Int.bmod_lt (x := x) (m := 4294967296) (by omega)
  omega
theorem w64_in (x : Int) : in64 (w64 x) := by
  unfold w64 in64
  have h1 := Int.le_bmod (x := x) (m := 18446744073709551616) (by omega)
  have h2 := Int.bmod_lt (x := x) (m := 18446744073709551616) (by omega)
  omega
theorem w32_id {x : Int} (h : in32 x) : w32 x = x := by
  unfold w32 in32 at *
  exact Int.bmod_eq_of_le (by omega) (by omega)
theorem w64_id {x : Int} (h : in64 x) : w64 x = x := by
  unfold w64 in64 at *
  exact Int.bmod_eq_of_le (by omega) (by omega)
theorem I3_to {x : Int} (h : in32 x) : (I3 x).toInt = x := by
  show (Int32.ofInt x).toInt = x
  rw [Int32.toInt_ofInt]
  exact w32_id h
theorem I6_to {x : Int} (h : in64 x) : (I6 x).toInt = x := by
  show (Int64.ofInt x).toInt = x
  rw [Int64.toInt_ofInt]
  exact w64_id h
theorem I3_w (x : Int) : I3 (w32 x) = I3 x := by
  apply Int32.toInt_inj.mp
  show (Int32.ofInt _).toInt = (Int32.ofInt _).toInt
  rw [Int32.toInt_ofInt, Int32.toInt_ofInt]
  exact Int.bmod_bmod
theorem I6_w (x : Int) : I6 (w64 x) = I6 x := by
  apply Int64.toInt_inj.mp
  show (Int64.ofInt _).toInt = (Int64.ofInt _).toInt
  rw [Int64.toInt_ofInt, Int64.toInt_ofInt]
  exact Int.bmod_bmod
theorem I3_of (z : Int32) : I3 z.toInt = z := Int32.ofInt_toInt z
theorem I6_of (z : Int64) : I6 z.toInt = z := Int64.ofInt_toInt z
theorem in32_to (z : Int32) : in32 z.toInt := ⟨Int32.le_toInt z, Int32.toInt_lt z⟩
theorem in64_to (z : Int64) : in64 z.toInt := ⟨Int64.le_toInt z, Int64.toInt_lt z⟩
theorem I3_add (x y : Int) : I3 x + I3 y = I3 (w32 (x + y)) := by rw [I3_w]; exact (Int32.ofInt_add x y).symm
theorem I3_sub (x y : Int) : I3 x - I3 y = I3 (w32 (x - y)) := by rw [I3_w]; exact (Int32.ofInt_sub x y).symm
theorem I3_mul (x y : Int) : I3 x * I3 y = I3 (w32 (x * y)) := by rw [I3_w]; exact (Int32.ofInt_mul x y).symm
theorem I3_neg (x : Int) : - I3 x = I3 (w32 (-x)) := by rw [I3_w]; exact (Int32.ofInt_neg x).symm
theorem I6_add (x y : Int) : I6 x + I6 y = I6 (w64 (x + y)) := by rw [I6_w]; exact (Int64.ofInt_add x y).symm
theorem I6_sub (x y : Int) : I6 x - I6 y = I6 (w64 (x - y)) := by rw [I6_w]; exact (Int64.ofInt_sub x y).symm
theorem I6_mul (x y : Int) : I6 x * I6 y = I6 (w64 (x * y)) := by rw [I6_w]; exact (Int64.ofInt_mul x y).symm
theorem I3_div {x y : Int} (hx : in32 x) (hy : in32 y) : I3 x / I3 y = I3 (w32 (Int.tdiv x y)) := by
  apply Int32.toInt_inj.mp
  rw [Int32.toInt_div, I3_to hx, I3_to hy, I3_to (w32_in _)]
  rfl
theorem I6_div {x y : Int} (hx : in64 x) (hy : in64 y) : I6 x / I6 y = I6 (w64 (Int.tdiv x y)) := by
  apply Int64.toInt_inj.mp
  rw [Int64.toInt_div, I6_to hx, I6_to hy, I6_to (w64_in _)]
  rfl
theorem tmod_in32 {x y : Int} (hx : in32 x) (hy : y ≠ 0) : in32 (Int.tmod x y) := by
  unfold in32 at *
  have h1 : (Int.tmod x y).natAbs ≤ x.natAbs := by rw [Int.natAbs_tmod]; exact Nat.mod_le _ _
  have h2 : 0 ≤ x → 0 ≤ Int.tmod x y := fun h => Int.tmod_nonneg y h
  have h3 : x ≤ 0 → Int.tmod x y ≤ 0 := fun h => by
    have := Int.tmod_nonneg y (show 0 ≤ -x by omega)
    rw [Int.neg_tmod] at this
    omega
  omega
theorem tmod_in64 {x y : Int} (hx : in64 x) (hy : y ≠ 0) : in64 (Int.tmod x y) := by
  unfold in64 at *
  have h1 : (Int.tmod x y).natAbs ≤ x.natAbs := by rw [Int.natAbs_tmod]; exact Nat.mod_le _ _
  have h2 : 0 ≤ x → 0 ≤ Int.tmod x y := fun h => Int.tmod_nonneg y h
  have h3 : x ≤ 0 → Int.tmod x y ≤ 0 := fun h => by
    have := Int.tmod_nonneg y (show 0 ≤ -x by omega)
    rw [Int.neg_tmod] at this
    omega
  omega
theorem I3_rem {x y : Int} (hx : in32 x) (hy : in32 y) (h0 : y ≠ 0) : I3 x - I3 x / I3 y * I3 y = I3 (Int.tmod x y) := by
  rw [I3_div hx hy, I3_mul, I3_sub]
  apply Int32.toInt_inj.mp
  show (Int32.ofInt _).toInt = (Int32.ofInt _).toInt
  rw [Int32.toInt_ofInt, Int32.toInt_ofInt]
  unfold w32
  have e : Int.tmod x y = x - Int.tdiv x y * y := by have := Int.tmod_add_mul_tdiv x y; rw [Int.mul_comm] at this; omega
  rw [e]
  rw [Int.bmod_bmod, Int.sub_bmod_bmod, Int.sub_bmod, Int.bmod_mul_bmod, ← Int.sub_bmod]
theorem I6_rem {x y : Int} (hx : in64 x) (hy : in64 y) (h0 : y ≠ 0) : I6 x - I6 x / I6 y * I6 y = I6 (Int.tmod x y) := by
  rw [I6_div hx hy, I6_mul, I6_sub]
  apply Int64.toInt_inj.mp
  show (Int64.ofInt _).toInt = (Int64.ofInt _).toInt
  rw [Int64.toInt_ofInt, Int64.toInt_ofInt]
  unfold w64
  have e : Int.tmod x y = x - Int.tdiv x y * y := by have := Int.tmod_add_mul_tdiv x y; rw [Int.mul_comm] at this; omega
  rw [e]
  rw [Int.bmod_bmod, Int.sub_bmod_bmod, Int.sub_bmod, Int.bmod_mul_bmod, ← Int.sub_bmod]
theorem I3_eq {x y : Int} (hx : in32 x) (hy : in32 y) : I3 x = I3 y ↔ x = y := by rw [← Int32.toInt_inj, I3_to hx, I3_to hy]
theorem I3_lt {x y : Int} (hx : in32 x) (hy : in32 y) : I3 x < I3 y ↔ x < y := by rw [Int32.lt_iff_toInt_lt, I3_to hx, I3_to hy]
theorem I3_le {x y : Int} (hx : in32 x) (hy : in32 y) : I3 x ≤ I3 y ↔ x ≤ y := by rw [Int32.le_iff_toInt_le, I3_to hx, I3_to hy]
theorem I6_eq {x y : Int} (hx : in64 x) (hy : in64 y) : I6 x = I6 y ↔ x = y := by rw [← Int64.toInt_inj, I6_to hx, I6_to hy]
theorem I6_lt {x y : Int} (hx : in64 x) (hy : in64 y) : I6 x < I6 y ↔ x < y := by rw [Int64.lt_iff_toInt_lt, I6_to hx, I6_to hy]
theorem in32_0 : in32 0 := ⟨by decide, by decide⟩
theorem I3_0 : I3 0 = 0 := rfl
theorem I3_cl {x : Int} (hx : in32 x) : (I3 x).toNatClampNeg = x.toNat := by
  show (I3 x).toInt.toNat = _
  rw [I3_to hx]
theorem I3_vp {x : Int} (hx : in32 x) {n : Nat} : vp_in (I3 x) n ↔ 0 ≤ x ∧ x < n := by rw [vp_in_iff, I3_to hx]
theorem I3_and (x y : Int) : I3 x &&& I3 y = I3 (ia32 x y) := (I3_of _).symm
theorem I3_or (x y : Int) : I3 x ||| I3 y = I3 (io32 x y) := (I3_of _).symm
theorem I3_xor (x y : Int) : I3 x ^^^ I3 y = I3 (ix32 x y) := (I3_of _).symm
theorem I6_and (x y : Int) : I6 x &&& I6 y = I6 (ia64 x y) := (I6_of _).symm
theorem I6_or (x y : Int) : I6 x ||| I6 y = I6 (io64 x y) := (I6_of _).symm
theorem I3_i2l {x : Int} (hx : in32 x) : (I3 x).toInt64 = I6 x := by
  apply Int64.toInt_inj.mp
  rw [Int32.toInt_toInt64, I3_to hx, I6_to ⟨by have := hx.1; omega, by have := hx.2; omega⟩]
theorem I6_l2i {x : Int} (hx : in64 x) : (I6 x).toInt32 = I3 (w32 x) := by
  apply Int32.toInt_inj.mp
  rw [Int64.toInt_toInt32, I6_to hx, I3_to (w32_in _)]
  rfl
theorem I3_i2b {x : Int} (hx : in32 x) : (I3 x).toInt8.toInt32 = I3 (Int.bmod x 256) := by
  apply Int32.toInt_inj.mp
  have hr : in32 (Int.bmod x 256) := by
    have h1 := Int.le_bmod (x := x) (m := 256) (by omega)
    have h2 := Int.bmod_lt (x := x) (m := 256) (by omega)
    unfold in32; omega
  rw [Int8.toInt_toInt32, Int32.toInt_toInt8, I3_to hx, I3_to hr]
theorem I3_i2c {x : Int} (hx : in32 x) : ((I3 x).toUInt32 % 65536).toInt32 = I3 (x % 65536) := by
  rw [pk_char]
  apply Int32.toInt_inj.mp
  rw [nI_toInt (by omega), I3_to (by unfold in32; omega)]
  have h1 : (I3 x).toBitVec.toNat = (x % 4294967296).toNat := by
    show (BitVec.ofInt 32 x).toNat = _
    rw [BitVec.toNat_ofInt]
    rfl
  rw [h1]
  omega
theorem I3_bv (x : Int) : (I3 x).toBitVec.toNat = (x % 4294967296).toNat := by
  show (BitVec.ofInt 32 x).toNat = _
  rw [BitVec.toNat_ofInt]
  rfl
theorem I6_bv (x : Int) : (I6 x).toBitVec.toNat = (x % 18446744073709551616).toNat := by
  show (BitVec.ofInt 64 x).toNat = _
  rw [BitVec.toNat_ofInt]
  rfl
theorem I3_sh (y : Int) : I3 y &&& 31 = nI (y % 32).toNat := by
  rw [pk_and (I3 y) (m := 31) 5 (by decide), I3_bv]
  congr 1
  omega
theorem sh_lt (y : Int) : (y % 32).toNat < 32 := by omega
theorem sh_lt6 (y : Int) : (y % 64).toNat < 64 := by omega
theorem sm32 : ∀ n, n < 32 → ((nI n).toBitVec.smod 32).toNat = n := by decide
theorem sm64 : ∀ n, n < 64 → ((BitVec.ofNat 64 n).smod 64).toNat = n := by decide
theorem I3_shl (x y : Int) : I3 x <<< (I3 y &&& 31) = I3 (shl32 x y) := by
  unfold shl32
  rw [I3_w, I3_sh]
  apply Int32.toBitVec_inj.mp
  apply BitVec.eq_of_toNat_eq
  rw [pk_shl _ _ (y % 32).toNat (sm32 _ (sh_lt y)), I3_bv, I3_bv]
  generalize (y % 32).toNat = k
  have h1 : 0 ≤ x % 4294967296 := Int.emod_nonneg _ (by decide)
  have h2 : (((x % 4294967296).toNat * 2 ^ k % 2 ^ 32 : Nat) : Int) = x * 2 ^ k % 4294967296 := by
    rw [Int.natCast_emod, Int.natCast_mul, Int.toNat_of_nonneg h1]
    show (x % 4294967296 * ((2 ^ k : Nat) : Int)) % 4294967296 = _
    rw [Int.natCast_pow, Int.mul_emod, Int.emod_emod_of_dvd _ (Int.dvd_refl _), ← Int.mul_emod]
    rfl
  omega
theorem shr_in {x : Int} (k : Nat) (hx : in32 x) : in32 (x / 2 ^ k) := by
  unfold in32 at *
  have hp : (0 : Int) < 2 ^ k := Int.pow_pos (by decide)
  constructor
  · have : (-2147483648 : Int) * 2 ^ k ≤ x := by
      have h1 : (1 : Int) ≤ 2 ^ k := by omega
      have : (-2147483648 : Int) * 2 ^ k ≤ (-2147483648) * 1 := Int.mul_le_mul_of_nonpos_left (by decide) h1
      omega
    exact (Int.le_ediv_iff_mul_le hp).mpr this
  · apply Int.ediv_lt_of_lt_mul hp
    have h1 : (1 : Int) ≤ 2 ^ k := by omega
    have : (2147483648 : Int) * 1 ≤ 2147483648 * 2 ^ k := Int.mul_le_mul_of_nonneg_left h1 (by decide)
    omega
theorem shr_in6 {x : Int} (k : Nat) (hx : in64 x) : in64 (x / 2 ^ k) := by
  unfold in64 at *
  have hp : (0 : Int) < 2 ^ k := Int.pow_pos (by decide)
  constructor
  · have : (-9223372036854775808 : Int) * 2 ^ k ≤ x := by
      have h1 : (1 : Int) ≤ 2 ^ k := by omega
      have : (-9223372036854775808 : Int) * 2 ^ k ≤ (-9223372036854775808) * 1 := Int.mul_le_mul_of_nonpos_left (by decide) h1
      omega
    exact (Int.le_ediv_iff_mul_le hp).mpr this
  · apply Int.ediv_lt_of_lt_mul hp
    have h1 : (1 : Int) ≤ 2 ^ k := by omega
    have : (9223372036854775808 : Int) * 1 ≤ 9223372036854775808 * 2 ^ k := Int.mul_le_mul_of_nonneg_left h1 (by decide)
    omega
theorem I3_shr {x : Int} (hx : in32 x) (y : Int) : I3 x >>> (I3 y &&& 31) = I3 (shr32 x y) := by
  unfold shr32
  rw [I3_sh]
  apply Int32.toInt_inj.mp
  rw [pk_shr _ _ (y % 32).toNat (sm32 _ (sh_lt y)), I3_to hx, I3_to (shr_in _ hx), Int.shiftRight_eq_div_pow]
  rfl
theorem I3_ush (x y : Int) : ((I3 x).toUInt32 >>> ((I3 y).toUInt32 &&& Int32.toUInt32 31)).toInt32 = I3 (ush32 x y) := by
  unfold ush32
  rw [I3_w]
  apply Int32.toBitVec_inj.mp
  apply BitVec.eq_of_toNat_eq
  have hk : (((I3 y).toUInt32 &&& Int32.toUInt32 31).toBitVec % 32).toNat = (y % 32).toNat := by
    have h1 : ((I3 y).toUInt32 &&& Int32.toUInt32 31).toBitVec.toNat = (y % 32).toNat := by
      show ((I3 y).toBitVec &&& 31#32).toNat = _
      rw [BitVec.toNat_and, I3_bv]
      show _ &&& (2 ^ 5 - 1) = _
      rw [Nat.and_two_pow_sub_one_eq_mod]
      omega
    rw [BitVec.toNat_umod, h1]
    show (y % 32).toNat % 32 = _
    omega
  rw [pk_ushr _ _ _ hk, I3_bv, I3_bv]
  generalize (y % 32).toNat = k
  have h1 : 0 ≤ x % 4294967296 := Int.emod_nonneg _ (by decide)
  have h2 : x % 4294967296 < 4294967296 := Int.emod_lt_of_pos _ (by decide)
  generalize x % 4294967296 = z at h1 h2 ⊢
  obtain ⟨n, rfl⟩ := Int.eq_ofNat_of_zero_le h1
  have h3 : ((n : Int) / 2 ^ k) = ((n / 2 ^ k : Nat) : Int) := by rw [Int.natCast_ediv, Int.natCast_pow]; rfl
  rw [h3]
  have h4 : n / 2 ^ k ≤ n := Nat.div_le_self _ _
  have h5 : ((n : Int)).toNat = n := rfl
  rw [h5]
  generalize n / 2 ^ k = w at h4 ⊢
  omega
theorem I6_sh {y : Int} (hy : in32 y) : ((I3 y).toInt64 &&& 63).toBitVec = BitVec.ofNat 64 (y % 64).toNat := by
  rw [I3_i2l hy]
  apply BitVec.eq_of_toNat_eq
  rw [BitVec.toNat_ofNat]
  show ((I6 y).toBitVec &&& 63#64).toNat = _
  rw [BitVec.toNat_and, I6_bv]
  show _ &&& (2 ^ 6 - 1) = _
  rw [Nat.and_two_pow_sub_one_eq_mod]
  omega
theorem I6_shl {x y : Int} (hy : in32 y) : I6 x <<< ((I3 y).toInt64 &&& 63) = I6 (shl64 x y) := by
  unfold shl64
  rw [I6_w]
  apply Int64.toBitVec_inj.mp
  apply BitVec.eq_of_toNat_eq
  rw [Int64.toBitVec_shiftLeft, I6_sh hy, BitVec.shiftLeft_eq', sm64 _ (sh_lt6 y), BitVec.toNat_shiftLeft, I6_bv, I6_bv, Nat.shiftLeft_eq]
  generalize (y % 64).toNat = k
  have h1 : 0 ≤ x % 18446744073709551616 := Int.emod_nonneg _ (by decide)
  have h2 : (((x % 18446744073709551616).toNat * 2 ^ k % 2 ^ 64 : Nat) : Int) = x * 2 ^ k % 18446744073709551616 := by
    rw [Int.natCast_emod, Int.natCast_mul, Int.toNat_of_nonneg h1]
    show (x % 18446744073709551616 * ((2 ^ k : Nat) : Int)) % 18446744073709551616 = _
    rw [Int.natCast_pow, Int.mul_emod, Int.emod_emod_of_dvd _ (Int.dvd_refl _), ← Int.mul_emod]
    rfl
  omega
theorem I6_shr {x y : Int} (hx : in64 x) (hy : in32 y) : I6 x >>> ((I3 y).toInt64 &&& 63) = I6 (shr64 x y) := by
  unfold shr64
  apply Int64.toInt_inj.mp
  rw [I6_to (shr_in6 _ hx)]
  show (I6 x >>> ((I3 y).toInt64 &&& 63)).toBitVec.toInt = _
  rw [Int64.toBitVec_shiftRight, I6_sh hy, BitVec.sshiftRight', sm64 _ (sh_lt6 y), BitVec.toInt_sshiftRight]
  have : (I6 x).toBitVec.toInt = x := I6_to hx
  rw [this, Int.shiftRight_eq_div_pow]
  rfl
end
section
/-! the program's tables: classes, fields, what the pool entries name; by program out of the Statement -/
def wT : List Cond := lw_tbl.filter goodWord
theorem wT_t {i : Nat} {w : Cond} (h : tables_1[i]? = some w) (g : goodWord w = true) : w ∈ wT := List.mem_filter.mpr ⟨List.mem_append_right _ (List.mem_of_getElem? h), g⟩
theorem wT_p {i : Nat} {w : Cond} (h : (k2_sels lw_privs)[i]? = some w) (g : goodWord w = true) : w ∈ wT := List.mem_filter.mpr ⟨List.mem_append_left _ (List.mem_of_getElem? h), g⟩
def ON : List String := ["PitInspector", "PitInspector$Pits", "PitInspector$Laws", "PitInspector$Text", "PitInspector$Reader", "PitInspector$Net", "PitInspector$Air", "PitInspector$Survey", "PitInspector$Crew", "PitInspector$Warnings", "PitInspector$Looks", "PitInspector$Inquest", "PitInspectorModel", "java/lang/Math", "java/lang/Integer", "java/util/Arrays", "PitInspectorLaw"]
def oN (i : Nat) : String := ON.getD i ""
def cF_0 : u_T := fun k => match k with
  | 0 => ("PitInspector", "minute", "I", false)
  | 1 => ("PitInspector", "tape", "[B", true)
  | 2 => ("PitInspector", "tapeLength", "I", false)
  | 3 => ("PitInspector", "pits", "LPitInspector$Pits;", true)
  | 4 => ("PitInspector", "laws", "LPitInspector$Laws;", true)
  | 5 => ("PitInspector", "net", "LPitInspector$Net;", true)
  | 6 => ("PitInspector", "airs", "LPitInspector$Air;", true)
  | 7 => ("PitInspector", "survey", "LPitInspector$Survey;", true)
  | 8 => ("PitInspector", "crew", "LPitInspector$Crew;", true)
  | 9 => ("PitInspector", "warnings", "LPitInspector$Warnings;", true)
  | 10 => ("PitInspector", "looks", "LPitInspector$Looks;", true)
  | _ => ("PitInspector", "inquest", "LPitInspector$Inquest;", true)
def cT_0 : Nat → FieldType := fun k => match k with
  | 0 => .int
  | 1 => .array .byte
  | 2 => .int
  | 3 => .object "PitInspector$Pits"
  | 4 => .object "PitInspector$Laws"
  | 5 => .object "PitInspector$Net"
  | 6 => .object "PitInspector$Air"
  | 7 => .object "PitInspector$Survey"
  | 8 => .object "PitInspector$Crew"
  | 9 => .object "PitInspector$Warnings"
  | 10 => .object "PitInspector$Looks"
  | _ => .object "PitInspector$Inquest"
def cF_1 : u_T := fun k => match k with
  | 0 => ("PitInspector$Pits", "seam", "[I", true)
  | 1 => ("PitInspector$Pits", "depth", "[I", true)
  | 2 => ("PitInspector$Pits", "gas", "[I", true)
  | 3 => ("PitInspector$Pits", "men", "[I", true)
  | 4 => ("PitInspector$Pits", "book", "[I", true)
  | 5 => ("PitInspector$Pits", "falls", "[I", true)
  | 6 => ("PitInspector$Pits", "count", "I", false)
  | _ => ("PitInspector$Pits", "fallCount", "I", false)
def cT_1 : Nat → FieldType := fun k => match k with
  | 0 => .array .int
  | 1 => .array .int
  | 2 => .array .int
  | 3 => .array .int
  | 4 => .array .int
  | 5 => .array .int
  | 6 => .int
  | _ => .int
def cF_2 : u_T := fun k => match k with
  | 0 => ("PitInspector$Laws", "facts", "[J", true)
  | 1 => ("PitInspector$Laws", "count", "I", false)
  | 2 => ("PitInspector$Laws", "texts", "[LPitInspector$Text;", true)
  | 3 => ("PitInspector$Laws", "spare", "LPitInspector$Text;", false)
  | 4 => ("PitInspector$Laws", "reader", "LPitInspector$Reader;", true)
  | 5 => ("PitInspector$Laws", "letters", "I", false)
  | 6 => ("PitInspector$Laws", "stack", "[J", true)
  | 7 => ("PitInspector$Laws", "broken", "[I", true)
  | _ => ("PitInspector$Laws", "brokenCount", "I", false)
def cT_2 : Nat → FieldType := fun k => match k with
  | 0 => .array .long
  | 1 => .int
  | 2 => .array (.object "PitInspector$Text")
  | 3 => .object "PitInspector$Text"
  | 4 => .object "PitInspector$Reader"
  | 5 => .int
  | 6 => .array .long
  | 7 => .array .int
  | _ => .int
def cF_3 : u_T := fun k => match k with
  | 0 => ("PitInspector$Text", "pit", "I", false)
  | 1 => ("PitInspector$Text", "from", "I", false)
  | 2 => ("PitInspector$Text", "to", "I", false)
  | 3 => ("PitInspector$Text", "length", "I", false)
  | 4 => ("PitInspector$Text", "bytes", "[B", true)
  | 5 => ("PitInspector$Text", "clauses", "I", false)
  | 6 => ("PitInspector$Text", "kind", "[I", true)
  | 7 => ("PitInspector$Text", "number", "[I", true)
  | 8 => ("PitInspector$Text", "struckClause", "[I", true)
  | 9 => ("PitInspector$Text", "byteFrom", "[I", true)
  | 10 => ("PitInspector$Text", "byteTo", "[I", true)
  | 11 => ("PitInspector$Text", "codeFrom", "[I", true)
  | 12 => ("PitInspector$Text", "codeTo", "[I", true)
  | 13 => ("PitInspector$Text", "struck", "I", false)
  | 14 => ("PitInspector$Text", "code", "[I", true)
  | 15 => ("PitInspector$Text", "codeLength", "I", false)
  | _ => ("PitInspector$Text", "letters", "I", false)
def cT_3 : Nat → FieldType := fun k => match k with
  | 0 => .int
  | 1 => .int
  | 2 => .int
  | 3 => .int
  | 4 => .array .byte
  | 5 => .int
  | 6 => .array .int
  | 7 => .array .int
  | 8 => .array .int
  | 9 => .array .int
  | 10 => .array .int
  | 11 => .array .int
  | 12 => .array .int
  | 13 => .int
  | 14 => .array .int
  | 15 => .int
  | _ => .int
def cF_4 : u_T := fun k => match k with
  | 0 => ("PitInspector$Reader", "text", "LPitInspector$Text;", false)
  | 1 => ("PitInspector$Reader", "at", "I", false)
  | 2 => ("PitInspector$Reader", "value", "I", false)
  | _ => ("PitInspector$Reader", "faultCode", "I", false)
def cT_4 : Nat → FieldType := fun k => match k with
  | 0 => .object "PitInspector$Text"
  | 1 => .int
  | 2 => .int
  | _ => .int
def cF_5 : u_T := fun k => match k with
  | 0 => ("PitInspector$Net", "placeCount", "I", false)
  | 1 => ("PitInspector$Net", "roadCount", "I", false)
  | 2 => ("PitInspector$Net", "width", "[I", true)
  | 3 => ("PitInspector$Net", "endPlace", "[I", true)
  | 4 => ("PitInspector$Net", "ends", "[I", true)
  | 5 => ("PitInspector$Net", "firstEnd", "[I", true)
  | 6 => ("PitInspector$Net", "steps", "[I", true)
  | 7 => ("PitInspector$Net", "order", "[I", true)
  | 8 => ("PitInspector$Net", "reached", "I", false)
  | 9 => ("PitInspector$Net", "doors", "[I", true)
  | 10 => ("PitInspector$Net", "placePit", "[I", true)
  | 11 => ("PitInspector$Net", "bank", "[I", true)
  | 12 => ("PitInspector$Net", "flow", "[I", true)
  | 13 => ("PitInspector$Net", "endLeft", "[I", true)
  | _ => ("PitInspector$Net", "fewestKnown", "[I", true)
def cT_5 : Nat → FieldType := fun k => match k with
  | 0 => .int
  | 1 => .int
  | 2 => .array .int
  | 3 => .array .int
  | 4 => .array .int
  | 5 => .array .int
  | 6 => .array .int
  | 7 => .array .int
  | 8 => .int
  | 9 => .array .int
  | 10 => .array .int
  | 11 => .array .int
  | 12 => .array .int
  | 13 => .array .int
  | _ => .array .int
def cF_6 : u_T := fun k => match k with
  | 0 => ("PitInspector$Air", "fanDown", "[I", true)
  | 1 => ("PitInspector$Air", "fanUp", "[I", true)
  | 2 => ("PitInspector$Air", "fanAir", "[I", true)
  | 3 => ("PitInspector$Air", "roadAir", "[I", true)
  | 4 => ("PitInspector$Air", "came", "[I", true)
  | _ => ("PitInspector$Air", "leastKnown", "[I", true)
def cT_6 : Nat → FieldType := fun k => match k with
  | 0 => .array .int
  | 1 => .array .int
  | 2 => .array .int
  | 3 => .array .int
  | 4 => .array .int
  | _ => .array .int
def cF_7 : u_T := fun k => match k with
  | 0 => ("PitInspector$Survey", "planCount", "I", false)
  | 1 => ("PitInspector$Survey", "waterCount", "I", false)
  | 2 => ("PitInspector$Survey", "faceCount", "I", false)
  | 3 => ("PitInspector$Survey", "joinCount", "I", false)
  | 4 => ("PitInspector$Survey", "planError", "[I", true)
  | 5 => ("PitInspector$Survey", "planTurn", "[I", true)
  | 6 => ("PitInspector$Survey", "planX", "[I", true)
  | 7 => ("PitInspector$Survey", "planY", "[I", true)
  | 8 => ("PitInspector$Survey", "pointPlan", "[I", true)
  | 9 => ("PitInspector$Survey", "pointX", "[I", true)
  | 10 => ("PitInspector$Survey", "pointY", "[I", true)
  | 11 => ("PitInspector$Survey", "facePit", "[I", true)
  | _ => ("PitInspector$Survey", "joinError", "[I", true)
def cT_7 : Nat → FieldType := fun k => match k with
  | 0 => .int
  | 1 => .int
  | 2 => .int
  | 3 => .int
  | 4 => .array .int
  | 5 => .array .int
  | 6 => .array .int
  | 7 => .array .int
  | 8 => .array .int
  | 9 => .array .int
  | 10 => .array .int
  | 11 => .array .int
  | _ => .array .int
def cF_8 : u_T := fun k => match k with
  | 0 => ("PitInspector$Crew", "count", "I", false)
  | 1 => ("PitInspector$Crew", "pit", "[I", true)
  | 2 => ("PitInspector$Crew", "duty", "[I", true)
  | 3 => ("PitInspector$Crew", "outing", "[I", true)
  | 4 => ("PitInspector$Crew", "lampCount", "I", false)
  | 5 => ("PitInspector$Crew", "lampLot", "[I", true)
  | 6 => ("PitInspector$Crew", "lampIsOut", "[Z", true)
  | 7 => ("PitInspector$Crew", "outingCount", "I", false)
  | 8 => ("PitInspector$Crew", "outingHand", "[I", true)
  | 9 => ("PitInspector$Crew", "outingLamp", "[I", true)
  | 10 => ("PitInspector$Crew", "outingEnd", "[I", true)
  | 11 => ("PitInspector$Crew", "below", "[I", true)
  | 12 => ("PitInspector$Crew", "lampsOut", "[I", true)
  | 13 => ("PitInspector$Crew", "shotCount", "I", false)
  | 14 => ("PitInspector$Crew", "shotPit", "[I", true)
  | _ => ("PitInspector$Crew", "shotMinute", "[I", true)
def cT_8 : Nat → FieldType := fun k => match k with
  | 0 => .int
  | 1 => .array .int
  | 2 => .array .int
  | 3 => .array .int
  | 4 => .int
  | 5 => .array .int
  | 6 => .array .boolean
  | 7 => .int
  | 8 => .array .int
  | 9 => .array .int
  | 10 => .array .int
  | 11 => .array .int
  | 12 => .array .int
  | 13 => .int
  | 14 => .array .int
  | _ => .array .int
def cF_9 : u_T := fun k => match k with
  | 0 => ("PitInspector$Warnings", "count", "I", false)
  | 1 => ("PitInspector$Warnings", "pit", "[I", true)
  | 2 => ("PitInspector$Warnings", "knownSince", "[I", true)
  | _ => ("PitInspector$Warnings", "acted", "[J", true)
def cT_9 : Nat → FieldType := fun k => match k with
  | 0 => .int
  | 1 => .array .int
  | 2 => .array .int
  | _ => .array .long
def cF_10 : u_T := fun k => match k with
  | 0 => ("PitInspector$Looks", "count", "I", false)
  | 1 => ("PitInspector$Looks", "worths", "[I", true)
  | 2 => ("PitInspector$Looks", "inspectorCount", "I", false)
  | 3 => ("PitInspector$Looks", "lookPit", "[I", true)
  | 4 => ("PitInspector$Looks", "lookBy", "[I", true)
  | 5 => ("PitInspector$Looks", "lastBy", "[I", true)
  | _ => ("PitInspector$Looks", "looked", "I", false)
def cT_10 : Nat → FieldType := fun k => match k with
  | 0 => .int
  | 1 => .array .int
  | 2 => .int
  | 3 => .array .int
  | 4 => .array .int
  | 5 => .array .int
  | _ => .int
def cF_11 : u_T := fun k => match k with
  | 0 => ("PitInspector$Inquest", "count", "I", false)
  | 1 => ("PitInspector$Inquest", "hand", "[I", true)
  | 2 => ("PitInspector$Inquest", "place", "[I", true)
  | 3 => ("PitInspector$Inquest", "minute", "[I", true)
  | 4 => ("PitInspector$Inquest", "clashes", "[I", true)
  | _ => ("PitInspector$Inquest", "minutesPerRoad", "I", false)
def cT_11 : Nat → FieldType := fun k => match k with
  | 0 => .int
  | 1 => .array .int
  | 2 => .array .int
  | 3 => .array .int
  | 4 => .array .int
  | _ => .int
def cF_12 : u_T := fun k => match k with
  | 0 => ("PitInspectorModel", "tape", "[B", true)
  | 1 => ("PitInspectorModel", "taped", "I", false)
  | 2 => ("PitInspectorModel", "now", "I", false)
  | 3 => ("PitInspectorModel", "pits", "I", false)
  | 4 => ("PitInspectorModel", "hands", "I", false)
  | 5 => ("PitInspectorModel", "texts", "I", false)
  | 6 => ("PitInspectorModel", "places", "I", false)
  | 7 => ("PitInspectorModel", "roads", "I", false)
  | 8 => ("PitInspectorModel", "plans", "I", false)
  | 9 => ("PitInspectorModel", "waters", "I", false)
  | 10 => ("PitInspectorModel", "faces", "I", false)
  | 11 => ("PitInspectorModel", "joins", "I", false)
  | 12 => ("PitInspectorModel", "lamps", "I", false)
  | 13 => ("PitInspectorModel", "outings", "I", false)
  | 14 => ("PitInspectorModel", "shots", "I", false)
  | 15 => ("PitInspectorModel", "warnings", "I", false)
  | 16 => ("PitInspectorModel", "falls", "I", false)
  | 17 => ("PitInspectorModel", "looks", "I", false)
  | 18 => ("PitInspectorModel", "seen", "I", false)
  | 19 => ("PitInspectorModel", "inspectors", "I", false)
  | 20 => ("PitInspectorModel", "pace", "I", false)
  | 21 => ("PitInspectorModel", "seam", "[I", true)
  | 22 => ("PitInspectorModel", "depth", "[I", true)
  | 23 => ("PitInspectorModel", "gas", "[I", true)
  | 24 => ("PitInspectorModel", "men", "[I", true)
  | 25 => ("PitInspectorModel", "book", "[I", true)
  | 26 => ("PitInspectorModel", "fallMany", "[I", true)
  | 27 => ("PitInspectorModel", "lastLook", "[I", true)
  | 28 => ("PitInspectorModel", "handPit", "[I", true)
  | 29 => ("PitInspectorModel", "duty", "[I", true)
  | 30 => ("PitInspectorModel", "outing", "[I", true)
  | 31 => ("PitInspectorModel", "textPit", "[I", true)
  | 32 => ("PitInspectorModel", "textFrom", "[I", true)
  | 33 => ("PitInspectorModel", "textTo", "[I", true)
  | 34 => ("PitInspectorModel", "clauseMany", "[I", true)
  | 35 => ("PitInspectorModel", "bytes", "[B", true)
  | 36 => ("PitInspectorModel", "letter", "[I", true)
  | 37 => ("PitInspectorModel", "first", "[I", true)
  | 38 => ("PitInspectorModel", "second", "[I", true)
  | 39 => ("PitInspectorModel", "byteFrom", "[I", true)
  | 40 => ("PitInspectorModel", "byteTo", "[I", true)
  | 41 => ("PitInspectorModel", "codeFrom", "[I", true)
  | 42 => ("PitInspectorModel", "codeTo", "[I", true)
  | 43 => ("PitInspectorModel", "code", "[I", true)
  | 44 => ("PitInspectorModel", "codeArg", "[I", true)
  | 45 => ("PitInspectorModel", "place", "I", false)
  | 46 => ("PitInspectorModel", "end", "I", false)
  | 47 => ("PitInspectorModel", "bad", "I", false)
  | 48 => ("PitInspectorModel", "many", "I", false)
  | 49 => ("PitInspectorModel", "codes", "I", false)
  | 50 => ("PitInspectorModel", "open", "I", false)
  | 51 => ("PitInspectorModel", "stacked", "I", false)
  | 52 => ("PitInspectorModel", "isDone", "Z", false)
  | 53 => ("PitInspectorModel", "isBehind", "Z", false)
  | 54 => ("PitInspectorModel", "stack", "[I", true)
  | 55 => ("PitInspectorModel", "isStruck", "[Z", true)
  | 56 => ("PitInspectorModel", "askedPit", "I", false)
  | 57 => ("PitInspectorModel", "isFound", "[Z", true)
  | 58 => ("PitInspectorModel", "found", "[J", true)
  | 59 => ("PitInspectorModel", "value", "[J", true)
  | 60 => ("PitInspectorModel", "isRefused", "[Z", true)
  | 61 => ("PitInspectorModel", "foundClause", "I", false)
  | 62 => ("PitInspectorModel", "placePit", "[I", true)
  | 63 => ("PitInspectorModel", "bank", "[I", true)
  | 64 => ("PitInspectorModel", "fanDown", "[I", true)
  | 65 => ("PitInspectorModel", "fanUp", "[I", true)
  | 66 => ("PitInspectorModel", "fanAir", "[I", true)
  | 67 => ("PitInspectorModel", "roadA", "[I", true)
  | 68 => ("PitInspectorModel", "roadB", "[I", true)
  | 69 => ("PitInspectorModel", "width", "[I", true)
  | 70 => ("PitInspectorModel", "hasDoor", "[Z", true)
  | 71 => ("PitInspectorModel", "isOpen", "[Z", true)
  | 72 => ("PitInspectorModel", "steps", "[I", true)
  | 73 => ("PitInspectorModel", "row", "[I", true)
  | 74 => ("PitInspectorModel", "comes", "[I", true)
  | 75 => ("PitInspectorModel", "over", "[I", true)
  | 76 => ("PitInspectorModel", "flow", "[I", true)
  | 77 => ("PitInspectorModel", "cameBy", "[I", true)
  | 78 => ("PitInspectorModel", "error", "[I", true)
  | 79 => ("PitInspectorModel", "turn", "[I", true)
  | 80 => ("PitInspectorModel", "shiftX", "[I", true)
  | 81 => ("PitInspectorModel", "shiftY", "[I", true)
  | 82 => ("PitInspectorModel", "waterPlan", "[I", true)
  | 83 => ("PitInspectorModel", "waterX", "[I", true)
  | 84 => ("PitInspectorModel", "waterY", "[I", true)
  | 85 => ("PitInspectorModel", "facePit", "[I", true)
  | 86 => ("PitInspectorModel", "facePlan", "[I", true)
  | 87 => ("PitInspectorModel", "faceX", "[I", true)
  | 88 => ("PitInspectorModel", "faceY", "[I", true)
  | 89 => ("PitInspectorModel", "joinPlan", "[I", true)
  | 90 => ("PitInspectorModel", "joinX", "[I", true)
  | 91 => ("PitInspectorModel", "joinY", "[I", true)
  | 92 => ("PitInspectorModel", "joinError", "[I", true)
  | 93 => ("PitInspectorModel", "lot", "[I", true)
  | 94 => ("PitInspectorModel", "isOut", "[Z", true)
  | 95 => ("PitInspectorModel", "outHand", "[I", true)
  | 96 => ("PitInspectorModel", "outLamp", "[I", true)
  | 97 => ("PitInspectorModel", "outUp", "[I", true)
  | 98 => ("PitInspectorModel", "shotHand", "[I", true)
  | 99 => ("PitInspectorModel", "shotMinute", "[I", true)
  | 100 => ("PitInspectorModel", "warnPit", "[I", true)
  | 101 => ("PitInspectorModel", "knows", "[I", true)
  | 102 => ("PitInspectorModel", "hasActed", "[Z", true)
  | 103 => ("PitInspectorModel", "lookPit", "[I", true)
  | 104 => ("PitInspectorModel", "lookBy", "[I", true)
  | 105 => ("PitInspectorModel", "worths", "[I", true)
  | 106 => ("PitInspectorModel", "isSent", "[Z", true)
  | 107 => ("PitInspectorModel", "seenHand", "[I", true)
  | 108 => ("PitInspectorModel", "seenPlace", "[I", true)
  | 109 => ("PitInspectorModel", "seenMinute", "[I", true)
  | _ => ("PitInspectorModel", "against", "[I", true)
def cT_12 : Nat → FieldType := fun k => match k with
  | 0 => .array .byte
  | 1 => .int
  | 2 => .int
  | 3 => .int
  | 4 => .int
  | 5 => .int
  | 6 => .int
  | 7 => .int
  | 8 => .int
  | 9 => .int
  | 10 => .int
  | 11 => .int
  | 12 => .int
  | 13 => .int
  | 14 => .int
  | 15 => .int
  | 16 => .int
  | 17 => .int
  | 18 => .int
  | 19 => .int
  | 20 => .int
  | 21 => .array .int
  | 22 => .array .int
  | 23 => .array .int
  | 24 => .array .int
  | 25 => .array .int
  | 26 => .array .int
  | 27 => .array .int
  | 28 => .array .int
  | 29 => .array .int
  | 30 => .array .int
  | 31 => .array .int
  | 32 => .array .int
  | 33 => .array .int
  | 34 => .array .int
  | 35 => .array .byte
  | 36 => .array .int
  | 37 => .array .int
  | 38 => .array .int
  | 39 => .array .int
  | 40 => .array .int
  | 41 => .array .int
  | 42 => .array .int
  | 43 => .array .int
  | 44 => .array .int
  | 45 => .int
  | 46 => .int
  | 47 => .int
  | 48 => .int
  | 49 => .int
  | 50 => .int
  | 51 => .int
  | 52 => .boolean
  | 53 => .boolean
  | 54 => .array .int
  | 55 => .array .boolean
  | 56 => .int
  | 57 => .array .boolean
  | 58 => .array .long
  | 59 => .array .long
  | 60 => .array .boolean
  | 61 => .int
  | 62 => .array .int
  | 63 => .array .int
  | 64 => .array .int
  | 65 => .array .int
  | 66 => .array .int
  | 67 => .array .int
  | 68 => .array .int
  | 69 => .array .int
  | 70 => .array .boolean
  | 71 => .array .boolean
  | 72 => .array .int
  | 73 => .array .int
  | 74 => .array .int
  | 75 => .array .int
  | 76 => .array .int
  | 77 => .array .int
  | 78 => .array .int
  | 79 => .array .int
  | 80 => .array .int
  | 81 => .array .int
  | 82 => .array .int
  | 83 => .array .int
  | 84 => .array .int
  | 85 => .array .int
  | 86 => .array .int
  | 87 => .array .int
  | 88 => .array .int
  | 89 => .array .int
  | 90 => .array .int
  | 91 => .array .int
  | 92 => .array .int
  | 93 => .array .int
  | 94 => .array .boolean
  | 95 => .array .int
  | 96 => .array .int
  | 97 => .array .int
  | 98 => .array .int
  | 99 => .array .int
  | 100 => .array .int
  | 101 => .array .int
  | 102 => .array .boolean
  | 103 => .array .int
  | 104 => .array .int
  | 105 => .array .int
  | 106 => .array .boolean
  | 107 => .array .int
  | 108 => .array .int
  | 109 => .array .int
  | _ => .array .int
def cF : Nat → u_T := fun i => match i with
  | 0 => cF_0
  | 1 => cF_1
  | 2 => cF_2
  | 3 => cF_3
  | 4 => cF_4
  | 5 => cF_5
  | 6 => cF_6
  | 7 => cF_7
  | 8 => cF_8
  | 9 => cF_9
  | 10 => cF_10
  | 11 => cF_11
  | _ => cF_12
def cT : Nat → (Nat → FieldType) := fun i => match i with
  | 0 => cT_0
  | 1 => cT_1
  | 2 => cT_2
  | 3 => cT_3
  | 4 => cT_4
  | 5 => cT_5
  | 6 => cT_6
  | 7 => cT_7
  | 8 => cT_8
  | 9 => cT_9
  | 10 => cT_10
  | 11 => cT_11
  | _ => cT_12
def cNL : List Nat := [12, 8, 9, 17, 4, 15, 6, 13, 16, 4, 7, 6, 111]
def cN (i : Nat) : Nat := cNL.getD i 0
def kdO (t : FieldType) : Nat := match t with
  | .int => 0
  | .boolean => 2
  | _ => 1
def FTY (ci k : Nat) : Nat := kdO (cT ci k)
abbrev classes : List vw_C := [(oN 0, cF_0, 12), (oN 1, cF_1, 8), (oN 2, cF_2, 9), (oN 3, cF_3, 17), (oN 4, cF_4, 4), (oN 5, cF_5, 15), (oN 6, cF_6, 6), (oN 7, cF_7, 13), (oN 8, cF_8, 16), (oN 9, cF_9, 4), (oN 10, cF_10, 7), (oN 11, cF_11, 6), (oN 12, cF_12, 111)]
theorem classes_at {ci : Nat} (h : ci < 13) : classes[ci]? = some (oN ci, cF ci, cN ci) := by
  match ci, h with
  | 0, _ => rfl
  | 1, _ => rfl
  | 2, _ => rfl
  | 3, _ => rfl
  | 4, _ => rfl
  | 5, _ => rfl
  | 6, _ => rfl
  | 7, _ => rfl
  | 8, _ => rfl
  | 9, _ => rfl
  | 10, _ => rfl
  | 11, _ => rfl
  | 12, _ => rfl
  | k + 13, h => exact absurd h (by omega)
def cP_0 : List Nat := [509, 511, 513, 515, 517, 519, 521, 523, 525, 527, 529, 531]
theorem cW_0 : ∀ k, k < 12 → tables_1[cP_0.getD k 0]? = some (u_lay (oN 0) cF_0 k) ∧ goodWord (u_lay (oN 0) cF_0 k) = true := by decide +kernel
theorem cM_0 : ∀ a, a < 12 → ∀ b, b < 12 → a ≠ b → (cF_0 a).2.1 ≠ (cF_0 b).2.1 := by decide +kernel
theorem cY_0 : ∀ k, k < 12 → parseFieldDescriptor (cF_0 k).2.2.1 = some (cT_0 k) ∧ (cF_0 k).1 = oN 0 := by decide +kernel
theorem cI_0 : tables_1[24]? = some (.instantiable (oN 0) 12) ∧ tables_1[1]? = some (.initialized (oN 0)) ∧ goodWord (.instantiable (oN 0) 12) = true ∧ goodWord (.initialized (oN 0)) = true := by decide +kernel
def cP_1 : List Nat := [52, 54, 56, 58, 60, 62, 64, 66]
theorem cW_1 : ∀ k, k < 8 → tables_1[cP_1.getD k 0]? = some (u_lay (oN 1) cF_1 k) ∧ goodWord (u_lay (oN 1) cF_1 k) = true := by decide +kernel
theorem cM_1 : ∀ a, a < 8 → ∀ b, b < 8 → a ≠ b → (cF_1 a).2.1 ≠ (cF_1 b).2.1 := by decide +kernel
theorem cY_1 : ∀ k, k < 8 → parseFieldDescriptor (cF_1 k).2.2.1 = some (cT_1 k) ∧ (cF_1 k).1 = oN 1 := by decide +kernel
theorem cI_1 : tables_1[32]? = some (.instantiable (oN 1) 8) ∧ tables_1[2]? = some (.initialized (oN 1)) ∧ goodWord (.instantiable (oN 1) 8) = true ∧ goodWord (.initialized (oN 1)) = true := by decide +kernel
def cP_2 : List Nat := [192, 194, 196, 198, 200, 202, 204, 206, 208]
theorem cW_2 : ∀ k, k < 9 → tables_1[cP_2.getD k 0]? = some (u_lay (oN 2) cF_2 k) ∧ goodWord (u_lay (oN 2) cF_2 k) = true := by decide +kernel
theorem cM_2 : ∀ a, a < 9 → ∀ b, b < 9 → a ≠ b → (cF_2 a).2.1 ≠ (cF_2 b).2.1 := by decide +kernel
theorem cY_2 : ∀ k, k < 9 → parseFieldDescriptor (cF_2 k).2.2.1 = some (cT_2 k) ∧ (cF_2 k).1 = oN 2 := by decide +kernel
theorem cI_2 : tables_1[72]? = some (.instantiable (oN 2) 9) ∧ tables_1[3]? = some (.initialized (oN 2)) ∧ goodWord (.instantiable (oN 2) 9) = true ∧ goodWord (.initialized (oN 2)) = true := by decide +kernel
def cP_3 : List Nat := [126, 128, 130, 132, 134, 136, 138, 140, 142, 144, 146, 148, 150, 152, 154, 156, 158]
theorem cW_3 : ∀ k, k < 17 → tables_1[cP_3.getD k 0]? = some (u_lay (oN 3) cF_3 k) ∧ goodWord (u_lay (oN 3) cF_3 k) = true := by decide +kernel
theorem cM_3 : ∀ a, a < 17 → ∀ b, b < 17 → a ≠ b → (cF_3 a).2.1 ≠ (cF_3 b).2.1 := by decide +kernel
theorem cY_3 : ∀ k, k < 17 → parseFieldDescriptor (cF_3 k).2.2.1 = some (cT_3 k) ∧ (cF_3 k).1 = oN 3 := by decide +kernel
theorem cI_3 : tables_1[79]? = some (.instantiable (oN 3) 17) ∧ tables_1[4]? = some (.initialized (oN 3)) ∧ goodWord (.instantiable (oN 3) 17) = true ∧ goodWord (.initialized (oN 3)) = true := by decide +kernel
def cP_4 : List Nat := [172, 174, 176, 178]
theorem cW_4 : ∀ k, k < 4 → tables_1[cP_4.getD k 0]? = some (u_lay (oN 4) cF_4 k) ∧ goodWord (u_lay (oN 4) cF_4 k) = true := by decide +kernel
theorem cM_4 : ∀ a, a < 4 → ∀ b, b < 4 → a ≠ b → (cF_4 a).2.1 ≠ (cF_4 b).2.1 := by decide +kernel
theorem cY_4 : ∀ k, k < 4 → parseFieldDescriptor (cF_4 k).2.2.1 = some (cT_4 k) ∧ (cF_4 k).1 = oN 4 := by decide +kernel
theorem cI_4 : tables_1[163]? = some (.instantiable (oN 4) 4) ∧ tables_1[5]? = some (.initialized (oN 4)) ∧ goodWord (.instantiable (oN 4) 4) = true ∧ goodWord (.initialized (oN 4)) = true := by decide +kernel
def cP_5 : List Nat := [246, 248, 250, 252, 254, 256, 258, 260, 262, 264, 266, 268, 270, 272, 274]
theorem cW_5 : ∀ k, k < 15 → tables_1[cP_5.getD k 0]? = some (u_lay (oN 5) cF_5 k) ∧ goodWord (u_lay (oN 5) cF_5 k) = true := by decide +kernel
theorem cM_5 : ∀ a, a < 15 → ∀ b, b < 15 → a ≠ b → (cF_5 a).2.1 ≠ (cF_5 b).2.1 := by decide +kernel
theorem cY_5 : ∀ k, k < 15 → parseFieldDescriptor (cF_5 k).2.2.1 = some (cT_5 k) ∧ (cF_5 k).1 = oN 5 := by decide +kernel
theorem cI_5 : tables_1[212]? = some (.instantiable (oN 5) 15) ∧ tables_1[6]? = some (.initialized (oN 5)) ∧ goodWord (.instantiable (oN 5) 15) = true ∧ goodWord (.initialized (oN 5)) = true := by decide +kernel
def cP_6 : List Nat := [290, 292, 294, 296, 298, 300]
theorem cW_6 : ∀ k, k < 6 → tables_1[cP_6.getD k 0]? = some (u_lay (oN 6) cF_6 k) ∧ goodWord (u_lay (oN 6) cF_6 k) = true := by decide +kernel
theorem cM_6 : ∀ a, a < 6 → ∀ b, b < 6 → a ≠ b → (cF_6 a).2.1 ≠ (cF_6 b).2.1 := by decide +kernel
theorem cY_6 : ∀ k, k < 6 → parseFieldDescriptor (cF_6 k).2.2.1 = some (cT_6 k) ∧ (cF_6 k).1 = oN 6 := by decide +kernel
theorem cI_6 : tables_1[278]? = some (.instantiable (oN 6) 6) ∧ tables_1[8]? = some (.initialized (oN 6)) ∧ goodWord (.instantiable (oN 6) 6) = true ∧ goodWord (.initialized (oN 6)) = true := by decide +kernel
def cP_7 : List Nat := [326, 328, 330, 332, 334, 336, 338, 340, 342, 344, 346, 348, 350]
theorem cW_7 : ∀ k, k < 13 → tables_1[cP_7.getD k 0]? = some (u_lay (oN 7) cF_7 k) ∧ goodWord (u_lay (oN 7) cF_7 k) = true := by decide +kernel
theorem cM_7 : ∀ a, a < 13 → ∀ b, b < 13 → a ≠ b → (cF_7 a).2.1 ≠ (cF_7 b).2.1 := by decide +kernel
theorem cY_7 : ∀ k, k < 13 → parseFieldDescriptor (cF_7 k).2.2.1 = some (cT_7 k) ∧ (cF_7 k).1 = oN 7 := by decide +kernel
theorem cI_7 : tables_1[304]? = some (.instantiable (oN 7) 13) ∧ tables_1[9]? = some (.initialized (oN 7)) ∧ goodWord (.instantiable (oN 7) 13) = true ∧ goodWord (.initialized (oN 7)) = true := by decide +kernel
def cP_8 : List Nat := [384, 386, 388, 390, 392, 394, 396, 398, 400, 402, 404, 406, 408, 410, 412, 414]
theorem cW_8 : ∀ k, k < 16 → tables_1[cP_8.getD k 0]? = some (u_lay (oN 8) cF_8 k) ∧ goodWord (u_lay (oN 8) cF_8 k) = true := by decide +kernel
theorem cM_8 : ∀ a, a < 16 → ∀ b, b < 16 → a ≠ b → (cF_8 a).2.1 ≠ (cF_8 b).2.1 := by decide +kernel
theorem cY_8 : ∀ k, k < 16 → parseFieldDescriptor (cF_8 k).2.2.1 = some (cT_8 k) ∧ (cF_8 k).1 = oN 8 := by decide +kernel
theorem cI_8 : tables_1[354]? = some (.instantiable (oN 8) 16) ∧ tables_1[10]? = some (.initialized (oN 8)) ∧ goodWord (.instantiable (oN 8) 16) = true ∧ goodWord (.initialized (oN 8)) = true := by decide +kernel
def cP_9 : List Nat := [431, 433, 435, 437]
theorem cW_9 : ∀ k, k < 4 → tables_1[cP_9.getD k 0]? = some (u_lay (oN 9) cF_9 k) ∧ goodWord (u_lay (oN 9) cF_9 k) = true := by decide +kernel
theorem cM_9 : ∀ a, a < 4 → ∀ b, b < 4 → a ≠ b → (cF_9 a).2.1 ≠ (cF_9 b).2.1 := by decide +kernel
theorem cY_9 : ∀ k, k < 4 → parseFieldDescriptor (cF_9 k).2.2.1 = some (cT_9 k) ∧ (cF_9 k).1 = oN 9 := by decide +kernel
theorem cI_9 : tables_1[419]? = some (.instantiable (oN 9) 4) ∧ tables_1[11]? = some (.initialized (oN 9)) ∧ goodWord (.instantiable (oN 9) 4) = true ∧ goodWord (.initialized (oN 9)) = true := by decide +kernel
def cP_10 : List Nat := [456, 458, 460, 462, 464, 466, 468]
theorem cW_10 : ∀ k, k < 7 → tables_1[cP_10.getD k 0]? = some (u_lay (oN 10) cF_10 k) ∧ goodWord (u_lay (oN 10) cF_10 k) = true := by decide +kernel
theorem cM_10 : ∀ a, a < 7 → ∀ b, b < 7 → a ≠ b → (cF_10 a).2.1 ≠ (cF_10 b).2.1 := by decide +kernel
theorem cY_10 : ∀ k, k < 7 → parseFieldDescriptor (cF_10 k).2.2.1 = some (cT_10 k) ∧ (cF_10 k).1 = oN 10 := by decide +kernel
theorem cI_10 : tables_1[441]? = some (.instantiable (oN 10) 7) ∧ tables_1[12]? = some (.initialized (oN 10)) ∧ goodWord (.instantiable (oN 10) 7) = true ∧ goodWord (.initialized (oN 10)) = true := by decide +kernel
def cP_11 : List Nat := [484, 486, 488, 490, 492, 494]
theorem cW_11 : ∀ k, k < 6 → tables_1[cP_11.getD k 0]? = some (u_lay (oN 11) cF_11 k) ∧ goodWord (u_lay (oN 11) cF_11 k) = true := by decide +kernel
theorem cM_11 : ∀ a, a < 6 → ∀ b, b < 6 → a ≠ b → (cF_11 a).2.1 ≠ (cF_11 b).2.1 := by decide +kernel
theorem cY_11 : ∀ k, k < 6 → parseFieldDescriptor (cF_11 k).2.2.1 = some (cT_11 k) ∧ (cF_11 k).1 = oN 11 := by decide +kernel
theorem cI_11 : tables_1[472]? = some (.instantiable (oN 11) 6) ∧ tables_1[13]? = some (.initialized (oN 11)) ∧ goodWord (.instantiable (oN 11) 6) = true ∧ goodWord (.initialized (oN 11)) = true := by decide +kernel
def cP_12 : List Nat := [1574, 1576, 1578, 1580, 1582, 1584, 1586, 1588, 1590, 1592, 1594, 1596, 1598, 1600, 1602, 1604, 1606, 1608, 1610, 1612, 1614, 1616, 1618, 1620, 1622, 1624, 1626, 1628, 1630, 1632, 1634, 1636, 1638, 1640, 1642, 1644, 1646, 1648, 1650, 1652, 1654, 1656, 1658, 1660, 1662, 1664, 1666, 1668, 1670, 1672, 1674, 1676, 1678, 1680, 1682, 1684, 1686, 1688, 1690, 1692, 1694, 1696, 1698, 1700, 1702, 1704, 1706, 1708, 1710, 1712, 1714, 1716, 1718, 1720, 1722, 1724, 1726, 1728, 1730, 1732, 1734, 1736, 1738, 1740, 1742, 1744, 1746, 1748, 1750, 1752, 1754, 1756, 1758, 1760, 1762, 1764, 1766, 1768, 1770, 1772, 1774, 1776, 1778, 1780, 1782, 1784, 1786, 1788, 1790, 1792, 1794]
theorem cW_12 : ∀ k, k < 111 → tables_1[cP_12.getD k 0]? = some (u_lay (oN 12) cF_12 k) ∧ goodWord (u_lay (oN 12) cF_12 k) = true := by decide +kernel
theorem cM_12 : ∀ a, a < 111 → ∀ b, b < 111 → a ≠ b → (cF_12 a).2.1 ≠ (cF_12 b).2.1 := by decide +kernel
theorem cY_12 : ∀ k, k < 111 → parseFieldDescriptor (cF_12 k).2.2.1 = some (cT_12 k) ∧ (cF_12 k).1 = oN 12 := by decide +kernel
theorem cI_12 : tables_1[1458]? = some (.instantiable (oN 12) 111) ∧ tables_1[14]? = some (.initialized (oN 12)) ∧ goodWord (.instantiable (oN 12) 111) = true ∧ goodWord (.initialized (oN 12)) = true := by decide +kernel
theorem ws_in {C : String} {T : u_T} {N : Nat} {P : List Nat} (h : ∀ k, k < N → tables_1[P.getD k 0]? = some (u_lay C T k) ∧ goodWord (u_lay C T k) = true) : ∀ w ∈ u_ws C T N, w ∈ wT := by
  intro w hw
  obtain ⟨k, hk, rfl⟩ := List.mem_map.mp hw
  exact wT_t (h k (List.mem_range.mp hk)).1 (h k (List.mem_range.mp hk)).2
theorem cW_all {ci : Nat} (h : ci < 13) : ∀ w ∈ u_ws (oN ci) (cF ci) (cN ci), w ∈ wT := by
  match ci, h with
  | 0, _ => exact ws_in cW_0
  | 1, _ => exact ws_in cW_1
  | 2, _ => exact ws_in cW_2
  | 3, _ => exact ws_in cW_3
  | 4, _ => exact ws_in cW_4
  | 5, _ => exact ws_in cW_5
  | 6, _ => exact ws_in cW_6
  | 7, _ => exact ws_in cW_7
  | 8, _ => exact ws_in cW_8
  | 9, _ => exact ws_in cW_9
  | 10, _ => exact ws_in cW_10
  | 11, _ => exact ws_in cW_11
  | 12, _ => exact ws_in cW_12
  | k + 13, h => exact absurd h (by omega)
theorem cM_all {ci : Nat} (h : ci < 13) : ∀ a, a < cN ci → ∀ b, b < cN ci → a ≠ b → (cF ci a).2.1 ≠ (cF ci b).2.1 := by
  match ci, h with
  | 0, _ => exact cM_0
  | 1, _ => exact cM_1
  | 2, _ => exact cM_2
  | 3, _ => exact cM_3
  | 4, _ => exact cM_4
  | 5, _ => exact cM_5
  | 6, _ => exact cM_6
  | 7, _ => exact cM_7
  | 8, _ => exact cM_8
  | 9, _ => exact cM_9
  | 10, _ => exact cM_10
  | 11, _ => exact cM_11
  | 12, _ => exact cM_12
  | k + 13, h => exact absurd h (by omega)
theorem cY_all {ci : Nat} (h : ci < 13) : ∀ k, k < cN ci → parseFieldDescriptor (cF ci k).2.2.1 = some (cT ci k) ∧ (cF ci k).1 = oN ci := by
  match ci, h with
  | 0, _ => exact cY_0
  | 1, _ => exact cY_1
  | 2, _ => exact cY_2
  | 3, _ => exact cY_3
  | 4, _ => exact cY_4
  | 5, _ => exact cY_5
  | 6, _ => exact cY_6
  | 7, _ => exact cY_7
  | 8, _ => exact cY_8
  | 9, _ => exact cY_9
  | 10, _ => exact cY_10
  | 11, _ => exact cY_11
  | 12, _ => exact cY_12
  | k + 13, h => exact absurd h (by omega)
theorem cI_all {ci : Nat} (h : ci < 13) : Cond.instantiable (oN ci) (cN ci) ∈ wT ∧ Cond.initialized (oN ci) ∈ wT := by
  match ci, h with
  | 0, _ => exact ⟨wT_t cI_0.1 cI_0.2.2.1, wT_t cI_0.2.1 cI_0.2.2.2⟩
  | 1, _ => exact ⟨wT_t cI_1.1 cI_1.2.2.1, wT_t cI_1.2.1 cI_1.2.2.2⟩
  | 2, _ => exact ⟨wT_t cI_2.1 cI_2.2.2.1, wT_t cI_2.2.1 cI_2.2.2.2⟩
  | 3, _ => exact ⟨wT_t cI_3.1 cI_3.2.2.1, wT_t cI_3.2.1 cI_3.2.2.2⟩
  | 4, _ => exact ⟨wT_t cI_4.1 cI_4.2.2.1, wT_t cI_4.2.1 cI_4.2.2.2⟩
  | 5, _ => exact ⟨wT_t cI_5.1 cI_5.2.2.1, wT_t cI_5.2.1 cI_5.2.2.2⟩
  | 6, _ => exact ⟨wT_t cI_6.1 cI_6.2.2.1, wT_t cI_6.2.1 cI_6.2.2.2⟩
  | 7, _ => exact ⟨wT_t cI_7.1 cI_7.2.2.1, wT_t cI_7.2.1 cI_7.2.2.2⟩
  | 8, _ => exact ⟨wT_t cI_8.1 cI_8.2.2.1, wT_t cI_8.2.1 cI_8.2.2.2⟩
  | 9, _ => exact ⟨wT_t cI_9.1 cI_9.2.2.1, wT_t cI_9.2.1 cI_9.2.2.2⟩
  | 10, _ => exact ⟨wT_t cI_10.1 cI_10.2.2.1, wT_t cI_10.2.1 cI_10.2.2.2⟩
  | 11, _ => exact ⟨wT_t cI_11.1 cI_11.2.2.1, wT_t cI_11.2.1 cI_11.2.2.2⟩
  | 12, _ => exact ⟨wT_t cI_12.1 cI_12.2.2.1, wT_t cI_12.2.1 cI_12.2.2.2⟩
  | k + 13, h => exact absurd h (by omega)
def FT : List (Nat × Nat × Nat × Nat × Nat) := [(0, 9, 0, 1, 498), (0, 16, 0, 3, 500), (0, 23, 0, 4, 501), (0, 30, 0, 5, 502), (0, 37, 0, 6, 503), (0, 44, 0, 7, 504), (0, 51, 0, 8, 505), (0, 58, 0, 9, 506), (0, 65, 0, 10, 507), (0, 72, 0, 11, 508), (0, 76, 0, 0, 497), (0, 100, 0, 2, 499), (0, 266, 8, 11, 377), (0, 270, 1, 4, 46), (0, 287, 8, 1, 362), (0, 294, 9, 1, 428), (0, 323, 1, 6, 49), (0, 327, 10, 1, 450), (0, 355, 8, 2, 365), (0, 364, 8, 0, 360), (0, 365, 2, 1, 184), (0, 366, 5, 0, 221), (0, 369, 5, 1, 224), (0, 372, 7, 0, 310), (0, 375, 7, 1, 312), (0, 378, 7, 2, 314), (0, 381, 7, 3, 316), (0, 384, 8, 4, 368), (0, 387, 8, 7, 372), (0, 390, 8, 13, 381), (0, 393, 9, 0, 426), (0, 394, 1, 7, 51), (0, 397, 10, 0, 448), (0, 398, 11, 0, 478), (0, 399, 2, 0, 182), (0, 403, 1, 0, 38), (0, 406, 1, 1, 40), (0, 409, 1, 2, 42), (0, 412, 1, 3, 44), (0, 415, 8, 12, 379), (6, 9, 6, 0, 284), (6, 15, 6, 1, 285), (6, 18, 6, 2, 286), (6, 23, 6, 3, 287), (6, 26, 6, 4, 288), (6, 29, 6, 5, 289), (6, 66, 5, 1, 223), (6, 79, 5, 6, 235), (6, 82, 5, 8, 238), (6, 85, 5, 7, 237), (6, 95, 5, 5, 232), (6, 98, 5, 4, 230), (6, 105, 5, 2, 226), (6, 108, 5, 3, 228), (8, 9, 8, 1, 361), (8, 15, 8, 2, 363), (8, 18, 8, 3, 366), (8, 21, 8, 5, 369), (8, 24, 8, 6, 370), (8, 28, 8, 8, 373), (8, 31, 8, 9, 374), (8, 34, 8, 10, 375), (8, 37, 8, 11, 376), (8, 40, 8, 12, 378), (8, 43, 8, 14, 382), (8, 46, 8, 15, 383), (8, 49, 8, 0, 359), (8, 61, 8, 4, 367), (8, 67, 8, 7, 371), (8, 74, 8, 13, 380), (11, 11, 11, 1, 479), (11, 15, 11, 2, 480), (11, 18, 11, 3, 481), (11, 21, 11, 4, 482), (11, 24, 11, 5, 483), (11, 28, 11, 0, 477), (11, 41, 5, 6, 234), (2, 11, 2, 0, 181), (2, 17, 2, 2, 185), (2, 22, 2, 3, 186), (2, 29, 2, 4, 187), (2, 33, 2, 6, 189), (2, 36, 2, 7, 190), (2, 40, 2, 1, 183), (2, 48, 3, 0, 85), (2, 51, 3, 5, 95), (2, 54, 2, 5, 188), (2, 69, 3, 1, 87), (2, 72, 3, 2, 89), (2, 75, 3, 16, 124), (2, 87, 3, 13, 117), (2, 90, 3, 6, 99), (2, 96, 3, 7, 102), (2, 99, 3, 8, 105), (2, 102, 2, 8, 191), (2, 135, 3, 11, 112), (2, 138, 3, 12, 115), (2, 141, 3, 14, 120), (10, 9, 10, 1, 449), (10, 15, 10, 2, 451), (10, 19, 10, 3, 452), (10, 22, 10, 4, 453), (10, 25, 10, 5, 454), (10, 38, 10, 6, 455), (10, 41, 10, 0, 447), (5, 11, 5, 2, 225), (5, 15, 5, 3, 227), (5, 18, 5, 4, 229), (5, 21, 5, 5, 231), (5, 24, 5, 6, 233), (5, 27, 5, 7, 236), (5, 30, 5, 9, 240), (5, 33, 5, 10, 241), (5, 36, 5, 11, 242), (5, 39, 5, 12, 243), (5, 42, 5, 13, 244), (5, 45, 5, 14, 245), (5, 54, 5, 0, 220), (5, 58, 5, 1, 222), (5, 86, 5, 8, 239), (1, 9, 1, 0, 37), (1, 15, 1, 1, 39), (1, 18, 1, 2, 41), (1, 21, 1, 3, 43), (1, 24, 1, 4, 45), (1, 27, 1, 5, 47), (1, 30, 1, 6, 48), (1, 42, 1, 7, 50), (4, 9, 4, 0, 168), (4, 15, 4, 1, 169), (4, 19, 4, 3, 171), (4, 33, 3, 3, 91), (4, 38, 3, 4, 93), (4, 46, 3, 6, 98), (4, 50, 3, 5, 96), (4, 56, 3, 9, 107), (4, 59, 3, 11, 111), (4, 62, 3, 15, 122), (4, 68, 3, 10, 109), (4, 71, 3, 12, 114), (4, 78, 3, 7, 101), (4, 80, 4, 2, 170), (4, 86, 3, 8, 104), (4, 126, 3, 16, 125), (4, 129, 3, 14, 119), (7, 11, 7, 4, 317), (7, 15, 7, 5, 318), (7, 18, 7, 6, 319), (7, 21, 7, 7, 320), (7, 24, 7, 8, 321), (7, 27, 7, 9, 322), (7, 30, 7, 10, 323), (7, 33, 7, 11, 324), (7, 36, 7, 12, 325), (7, 39, 7, 1, 311), (7, 43, 7, 2, 313), (7, 46, 7, 0, 309), (7, 66, 7, 3, 315), (3, 9, 3, 4, 92), (3, 15, 3, 6, 97), (3, 19, 3, 7, 100), (3, 22, 3, 8, 103), (3, 25, 3, 9, 106), (3, 28, 3, 10, 108), (3, 31, 3, 11, 110), (3, 34, 3, 12, 113), (3, 37, 3, 14, 118), (3, 46, 3, 3, 90), (3, 56, 3, 5, 94), (3, 59, 3, 15, 121), (3, 62, 3, 16, 123), (3, 65, 3, 1, 86), (3, 68, 3, 2, 88), (3, 71, 3, 0, 84), (3, 78, 3, 13, 116), (9, 11, 9, 1, 427), (9, 15, 9, 2, 429), (9, 18, 9, 3, 430), (9, 28, 9, 0, 425), (9, 45, 8, 2, 364), (12, 7, 12, 0, 1463), (12, 13, 12, 19, 1482), (12, 17, 12, 20, 1483), (12, 20, 12, 21, 1484), (12, 24, 12, 22, 1485), (12, 27, 12, 23, 1486), (12, 30, 12, 24, 1487), (12, 33, 12, 25, 1488), (12, 36, 12, 26, 1489), (12, 39, 12, 27, 1490), (12, 42, 12, 28, 1491), (12, 45, 12, 29, 1492), (12, 48, 12, 30, 1493), (12, 51, 12, 31, 1494), (12, 54, 12, 32, 1495), (12, 57, 12, 33, 1496), (12, 60, 12, 34, 1497), (12, 63, 12, 35, 1498), (12, 66, 12, 36, 1499), (12, 69, 12, 37, 1500), (12, 72, 12, 38, 1501), (12, 75, 12, 39, 1502), (12, 78, 12, 40, 1503), (12, 81, 12, 41, 1504), (12, 84, 12, 42, 1505), (12, 87, 12, 43, 1506), (12, 90, 12, 44, 1507), (12, 93, 12, 54, 1517), (12, 96, 12, 55, 1518), (12, 100, 12, 57, 1520), (12, 103, 12, 58, 1521), (12, 107, 12, 59, 1522), (12, 110, 12, 60, 1523), (12, 113, 12, 62, 1525), (12, 116, 12, 63, 1526), (12, 119, 12, 64, 1527), (12, 122, 12, 65, 1528), (12, 125, 12, 66, 1529), (12, 128, 12, 67, 1530), (12, 131, 12, 68, 1531), (12, 134, 12, 69, 1532), (12, 137, 12, 70, 1533), (12, 140, 12, 71, 1534), (12, 143, 12, 72, 1535), (12, 146, 12, 73, 1536), (12, 149, 12, 74, 1537), (12, 152, 12, 75, 1538), (12, 155, 12, 76, 1539), (12, 158, 12, 77, 1540), (12, 161, 12, 78, 1541), (12, 164, 12, 79, 1542), (12, 167, 12, 80, 1543), (12, 170, 12, 81, 1544), (12, 173, 12, 82, 1545), (12, 176, 12, 83, 1546), (12, 179, 12, 84, 1547), (12, 182, 12, 85, 1548), (12, 185, 12, 86, 1549), (12, 188, 12, 87, 1550), (12, 191, 12, 88, 1551), (12, 194, 12, 89, 1552), (12, 197, 12, 90, 1553), (12, 200, 12, 91, 1554), (12, 203, 12, 92, 1555), (12, 206, 12, 93, 1556), (12, 209, 12, 94, 1557), (12, 212, 12, 95, 1558), (12, 215, 12, 96, 1559), (12, 218, 12, 97, 1560), (12, 221, 12, 98, 1561), (12, 224, 12, 99, 1562), (12, 227, 12, 100, 1563), (12, 230, 12, 101, 1564), (12, 233, 12, 102, 1565), (12, 236, 12, 103, 1566), (12, 239, 12, 104, 1567), (12, 242, 12, 105, 1568), (12, 245, 12, 106, 1569), (12, 248, 12, 107, 1570), (12, 251, 12, 108, 1571), (12, 254, 12, 109, 1572), (12, 257, 12, 110, 1573), (12, 260, 12, 2, 1465), (12, 269, 12, 3, 1466), (12, 272, 12, 4, 1467), (12, 287, 12, 1, 1464), (12, 294, 12, 45, 1508), (12, 297, 12, 46, 1509), (12, 300, 12, 47, 1510), (12, 307, 12, 5, 1468), (12, 310, 12, 49, 1512), (12, 313, 12, 51, 1514), (12, 316, 12, 50, 1513), (12, 364, 12, 53, 1516), (12, 383, 12, 52, 1515), (12, 392, 12, 48, 1511), (12, 424, 12, 56, 1519), (12, 427, 12, 14, 1477), (12, 469, 12, 61, 1524), (12, 486, 12, 6, 1469), (12, 489, 12, 7, 1470), (12, 532, 12, 8, 1471), (12, 549, 12, 9, 1472), (12, 552, 12, 10, 1473), (12, 583, 12, 11, 1474), (12, 586, 12, 12, 1475), (12, 591, 12, 13, 1476), (12, 603, 12, 15, 1478), (12, 612, 12, 16, 1479), (12, 620, 12, 17, 1480), (12, 634, 12, 18, 1481)]
def FTp (q : Nat × Nat × Nat × Nat × Nat) : Cond := .fieldLink (oN q.1) q.2.1 (oN q.2.2.1) (cF q.2.2.1 q.2.2.2.1).2.1 (cF q.2.2.1 q.2.2.2.1).2.2.1
theorem FT_ok : ∀ q ∈ FT, (tables_1[q.2.2.2.2]? = some (FTp q) ∧ goodWord (FTp q) = true) ∧ q.2.2.1 < 13 ∧ q.2.2.2.1 < cN q.2.2.1 := by decide +kernel
def KT : List (Nat × Nat × Int × Nat) := [(0, 80, 5000000, 538), (0, 273, -100000, 1231), (0, 326, 134455, 1360), (6, 38, 1000000, 1042), (10, 56, 134456, 1369), (7, 53, -100000, 1101), (7, 54, 100000, 1102), (7, 91, 99999, 876), (12, 352, 99999, 1881), (12, 597, -100000, 2227), (14, 265, 1431655765, 1444), (14, 266, 858993459, 1445), (14, 267, 252645135, 1446)]
theorem KT_ok : ∀ q ∈ KT, tables_1[q.2.2.2]? = some (.constant (oN q.1) q.2.1 (Int32.ofInt q.2.2.1)) ∧ goodWord (.constant (oN q.1) q.2.1 (Int32.ofInt q.2.2.1)) = true := by decide +kernel
def KL : List (Nat × Nat × Int × Nat) := [(0, 144, -1, 952), (1, 45, 4, 1338), (12, 263, 5000000, 1801), (12, 275, 7, 1809), (12, 277, 2000, 1810), (12, 279, 100, 1811), (12, 285, 4, 1824), (12, 330, 48, 1879), (12, 332, 57, 1880), (12, 401, 3472, 1837), (12, 403, 160, 1838), (12, 475, -1, 2088), (12, 498, 1000000, 2129), (12, 535, -100000, 2163), (12, 537, 100000, 2164), (12, 539, 1000, 2158), (12, 541, 3, 2159), (12, 578, 99999, 2193), (12, 589, 9, 2210), (12, 601, 24, 2247), (12, 615, 16, 2288), (12, 623, 134455, 2301), (12, 625, 8121, 2302), (12, 627, 28411, 2303), (12, 629, 134456, 2304), (12, 637, 60, 2321), (12, 651, 20, 2352)]
theorem KL_ok : ∀ q ∈ KL, tables_1[q.2.2.2]? = some (.constantLong (oN q.1) q.2.1 (Int64.ofInt q.2.2.1)) ∧ goodWord (.constantLong (oN q.1) q.2.1 (Int64.ofInt q.2.2.1)) = true := by decide +kernel
def CT : List (Nat × Nat × Nat × Nat) := [(0, 13, 1, 31), (0, 20, 2, 71), (0, 27, 5, 211), (0, 34, 6, 277), (0, 41, 7, 303), (0, 48, 8, 353), (0, 55, 9, 418), (0, 62, 10, 440), (0, 69, 11, 471), (2, 15, 3, 77), (2, 26, 4, 162), (16, 7, 0, 23), (16, 10, 12, 1457)]
theorem CT_ok : ∀ q ∈ CT, (tables_1[q.2.2.2]? = some (.classLink (oN q.1) q.2.1 (oN q.2.2.1)) ∧ goodWord (.classLink (oN q.1) q.2.1 (oN q.2.2.1)) = true) ∧ q.2.2.1 < 13 := by decide +kernel
def OT : List (Nat × Nat × Nat) := [(0, 1, 28), (6, 3, 282), (8, 3, 358), (11, 3, 476), (2, 3, 76), (10, 3, 445), (5, 3, 216), (1, 3, 36), (4, 3, 167), (7, 5, 308), (3, 3, 83), (9, 3, 423), (12, 1, 1462)]
theorem OT_ok : ∀ q ∈ OT, tables_1[q.2.2]? = some (.methodLink (oN q.1) q.2.1 objectInit) ∧ goodWord (.methodLink (oN q.1) q.2.1 objectInit) = true := by decide +kernel
theorem OI_ok : tables_1[29]? = some (.instanceMethod objectInit) ∧ tables_1[30]? = some (.code objectInit ⟨#[0xb1]⟩ 1 none) ∧ goodWord (.instanceMethod objectInit) = true ∧ goodWord (.code objectInit ⟨#[0xb1]⟩ 1 none) = true := by decide +kernel
def AT : List (Nat × Nat × Nat) := [(5, 80, 1011), (3, 50, 601)]
theorem AT_ok : ∀ q ∈ AT, tables_1[q.2.2]? = some (.methodLink (oN q.1) q.2.1 arraycopyName) ∧ goodWord (.methodLink (oN q.1) q.2.1 arraycopyName) = true := by decide +kernel
theorem AI_ok : tables_1[603]? = some (.native arraycopyName) ∧ tables_1[602]? = some (.static arraycopyName) ∧ tables_1[16]? = some (.initialized "java/lang/System") ∧ goodWord (.native arraycopyName) = true ∧ goodWord (.static arraycopyName) = true ∧ goodWord (.initialized "java/lang/System") = true := by decide +kernel
theorem AC_byte : Cond.arrayClass .byte ∈ wT := wT_t (i := 69) (by decide +kernel) (by decide +kernel)
theorem AC_int : Cond.arrayClass .int ∈ wT := wT_t (i := 70) (by decide +kernel) (by decide +kernel)
theorem AC_long : Cond.arrayClass .long ∈ wT := wT_t (i := 161) (by decide +kernel) (by decide +kernel)
theorem AC_boolean : Cond.arrayClass .boolean ∈ wT := wT_t (i := 417) (by decide +kernel) (by decide +kernel)
theorem AO_at : tables_1[78]? = some (.arrayOver (.object (oN 3))) := by decide +kernel
end
