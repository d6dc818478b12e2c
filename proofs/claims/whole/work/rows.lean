section
-- ===== PART A: goes FIRST, ahead of the names: the tables' words, and 'selects' of the private methods out of them =====
/-- a private method of a class that the tables say can be made, by its rows of tables_1 -/
def lw_okq (q : MethodName × Nat) : Prop := (q.1.cls ≠ "java/lang/invoke/MethodHandle" ∧ q.1.cls ≠ "java/lang/invoke/VarHandle") ∧ Cond.instantiable q.1.cls q.2 ∈ tables_1 ∧ Cond.privateMethod q.1 ∈ tables_1 ∧ Cond.instanceMethod q.1 ∈ tables_1
theorem lw_p0 : lw_okq (⟨"PitInspector", "feedFour", "(I)V"⟩, 12) := ⟨⟨by decide +kernel, by decide +kernel⟩, List.mem_of_getElem? (i := 24) (by decide +kernel), List.mem_of_getElem? (i := 578) (by decide +kernel), List.mem_of_getElem? (i := 579) (by decide +kernel)⟩
theorem lw_p1 : lw_okq (⟨"PitInspector$Reader", "clause", "(I)Z"⟩, 4) := ⟨⟨by decide +kernel, by decide +kernel⟩, List.mem_of_getElem? (i := 163) (by decide +kernel), List.mem_of_getElem? (i := 609) (by decide +kernel), List.mem_of_getElem? (i := 610) (by decide +kernel)⟩
theorem lw_p2 : lw_okq (⟨"PitInspector$Reader", "peek", "()I"⟩, 4) := ⟨⟨by decide +kernel, by decide +kernel⟩, List.mem_of_getElem? (i := 163) (by decide +kernel), List.mem_of_getElem? (i := 613) (by decide +kernel), List.mem_of_getElem? (i := 614) (by decide +kernel)⟩
theorem lw_p3 : lw_okq (⟨"PitInspector$Reader", "fail", "(II)Z"⟩, 4) := ⟨⟨by decide +kernel, by decide +kernel⟩, List.mem_of_getElem? (i := 163) (by decide +kernel), List.mem_of_getElem? (i := 617) (by decide +kernel), List.mem_of_getElem? (i := 618) (by decide +kernel)⟩
theorem lw_p4 : lw_okq (⟨"PitInspector$Reader", "strike", "(I)Z"⟩, 4) := ⟨⟨by decide +kernel, by decide +kernel⟩, List.mem_of_getElem? (i := 163) (by decide +kernel), List.mem_of_getElem? (i := 621) (by decide +kernel), List.mem_of_getElem? (i := 622) (by decide +kernel)⟩
theorem lw_p5 : lw_okq (⟨"PitInspector$Reader", "numberUpTo", "(I)Z"⟩, 4) := ⟨⟨by decide +kernel, by decide +kernel⟩, List.mem_of_getElem? (i := 163) (by decide +kernel), List.mem_of_getElem? (i := 625) (by decide +kernel), List.mem_of_getElem? (i := 626) (by decide +kernel)⟩
theorem lw_p6 : lw_okq (⟨"PitInspector$Reader", "number", "()Z"⟩, 4) := ⟨⟨by decide +kernel, by decide +kernel⟩, List.mem_of_getElem? (i := 163) (by decide +kernel), List.mem_of_getElem? (i := 629) (by decide +kernel), List.mem_of_getElem? (i := 630) (by decide +kernel)⟩
theorem lw_p7 : lw_okq (⟨"PitInspector$Reader", "take", "(I)Z"⟩, 4) := ⟨⟨by decide +kernel, by decide +kernel⟩, List.mem_of_getElem? (i := 163) (by decide +kernel), List.mem_of_getElem? (i := 636) (by decide +kernel), List.mem_of_getElem? (i := 637) (by decide +kernel)⟩
theorem lw_p8 : lw_okq (⟨"PitInspector$Reader", "condition", "(I)Z"⟩, 4) := ⟨⟨by decide +kernel, by decide +kernel⟩, List.mem_of_getElem? (i := 163) (by decide +kernel), List.mem_of_getElem? (i := 640) (by decide +kernel), List.mem_of_getElem? (i := 641) (by decide +kernel)⟩
theorem lw_p9 : lw_okq (⟨"PitInspector$Reader", "part", "(I)Z"⟩, 4) := ⟨⟨by decide +kernel, by decide +kernel⟩, List.mem_of_getElem? (i := 163) (by decide +kernel), List.mem_of_getElem? (i := 644) (by decide +kernel), List.mem_of_getElem? (i := 645) (by decide +kernel)⟩
theorem lw_p10 : lw_okq (⟨"PitInspector$Reader", "piece", "(I)Z"⟩, 4) := ⟨⟨by decide +kernel, by decide +kernel⟩, List.mem_of_getElem? (i := 163) (by decide +kernel), List.mem_of_getElem? (i := 648) (by decide +kernel), List.mem_of_getElem? (i := 649) (by decide +kernel)⟩
theorem lw_p11 : lw_okq (⟨"PitInspector$Reader", "emit", "(II)Z"⟩, 4) := ⟨⟨by decide +kernel, by decide +kernel⟩, List.mem_of_getElem? (i := 163) (by decide +kernel), List.mem_of_getElem? (i := 652) (by decide +kernel), List.mem_of_getElem? (i := 653) (by decide +kernel)⟩
theorem lw_p12 : lw_okq (⟨"PitInspector$Reader", "sum", "(I)Z"⟩, 4) := ⟨⟨by decide +kernel, by decide +kernel⟩, List.mem_of_getElem? (i := 163) (by decide +kernel), List.mem_of_getElem? (i := 656) (by decide +kernel), List.mem_of_getElem? (i := 657) (by decide +kernel)⟩
theorem lw_p13 : lw_okq (⟨"PitInspector$Reader", "product", "(I)Z"⟩, 4) := ⟨⟨by decide +kernel, by decide +kernel⟩, List.mem_of_getElem? (i := 163) (by decide +kernel), List.mem_of_getElem? (i := 660) (by decide +kernel), List.mem_of_getElem? (i := 661) (by decide +kernel)⟩
theorem lw_p14 : lw_okq (⟨"PitInspector$Reader", "factor", "(I)Z"⟩, 4) := ⟨⟨by decide +kernel, by decide +kernel⟩, List.mem_of_getElem? (i := 163) (by decide +kernel), List.mem_of_getElem? (i := 664) (by decide +kernel), List.mem_of_getElem? (i := 665) (by decide +kernel)⟩
theorem lw_p15 : lw_okq (⟨"PitInspector$Reader", "land", "(I)V"⟩, 4) := ⟨⟨by decide +kernel, by decide +kernel⟩, List.mem_of_getElem? (i := 163) (by decide +kernel), List.mem_of_getElem? (i := 753) (by decide +kernel), List.mem_of_getElem? (i := 754) (by decide +kernel)⟩
def lw_privs_1 : List (MethodName × Nat) := [(⟨"PitInspector", "feedFour", "(I)V"⟩, 12), (⟨"PitInspector$Reader", "clause", "(I)Z"⟩, 4), (⟨"PitInspector$Reader", "peek", "()I"⟩, 4), (⟨"PitInspector$Reader", "fail", "(II)Z"⟩, 4), (⟨"PitInspector$Reader", "strike", "(I)Z"⟩, 4), (⟨"PitInspector$Reader", "numberUpTo", "(I)Z"⟩, 4), (⟨"PitInspector$Reader", "number", "()Z"⟩, 4), (⟨"PitInspector$Reader", "take", "(I)Z"⟩, 4), (⟨"PitInspector$Reader", "condition", "(I)Z"⟩, 4), (⟨"PitInspector$Reader", "part", "(I)Z"⟩, 4), (⟨"PitInspector$Reader", "piece", "(I)Z"⟩, 4), (⟨"PitInspector$Reader", "emit", "(II)Z"⟩, 4), (⟨"PitInspector$Reader", "sum", "(I)Z"⟩, 4), (⟨"PitInspector$Reader", "product", "(I)Z"⟩, 4), (⟨"PitInspector$Reader", "factor", "(I)Z"⟩, 4), (⟨"PitInspector$Reader", "land", "(I)V"⟩, 4)]
theorem lw_r1 : ∀ q ∈ lw_privs_1, lw_okq q := List.forall_mem_cons.mpr ⟨lw_p0, List.forall_mem_cons.mpr ⟨lw_p1, List.forall_mem_cons.mpr ⟨lw_p2, List.forall_mem_cons.mpr ⟨lw_p3, List.forall_mem_cons.mpr ⟨lw_p4, List.forall_mem_cons.mpr ⟨lw_p5, List.forall_mem_cons.mpr ⟨lw_p6, List.forall_mem_cons.mpr ⟨lw_p7, List.forall_mem_cons.mpr ⟨lw_p8, List.forall_mem_cons.mpr ⟨lw_p9, List.forall_mem_cons.mpr ⟨lw_p10, List.forall_mem_cons.mpr ⟨lw_p11, List.forall_mem_cons.mpr ⟨lw_p12, List.forall_mem_cons.mpr ⟨lw_p13, List.forall_mem_cons.mpr ⟨lw_p14, List.forall_mem_cons.mpr ⟨lw_p15, fun _ h => absurd h List.not_mem_nil⟩⟩⟩⟩⟩⟩⟩⟩⟩⟩⟩⟩⟩⟩⟩⟩
theorem lw_p16 : lw_okq (⟨"PitInspector$Reader", "jump", "(II)I"⟩, 4) := ⟨⟨by decide +kernel, by decide +kernel⟩, List.mem_of_getElem? (i := 163) (by decide +kernel), List.mem_of_getElem? (i := 757) (by decide +kernel), List.mem_of_getElem? (i := 758) (by decide +kernel)⟩
theorem lw_p17 : lw_okq (⟨"PitInspector", "day", "()I"⟩, 12) := ⟨⟨by decide +kernel, by decide +kernel⟩, List.mem_of_getElem? (i := 24) (by decide +kernel), List.mem_of_getElem? (i := 769) (by decide +kernel), List.mem_of_getElem? (i := 770) (by decide +kernel)⟩
theorem lw_p18 : lw_okq (⟨"PitInspector$Laws", "strikeFor", "(II)V"⟩, 9) := ⟨⟨by decide +kernel, by decide +kernel⟩, List.mem_of_getElem? (i := 72) (by decide +kernel), List.mem_of_getElem? (i := 786) (by decide +kernel), List.mem_of_getElem? (i := 787) (by decide +kernel)⟩
theorem lw_p19 : lw_okq (⟨"PitInspector$Laws", "strikeBelow", "(II)V"⟩, 9) := ⟨⟨by decide +kernel, by decide +kernel⟩, List.mem_of_getElem? (i := 72) (by decide +kernel), List.mem_of_getElem? (i := 794) (by decide +kernel), List.mem_of_getElem? (i := 795) (by decide +kernel)⟩
theorem lw_p20 : lw_okq (⟨"PitInspector", "learn", "(I)V"⟩, 12) := ⟨⟨by decide +kernel, by decide +kernel⟩, List.mem_of_getElem? (i := 24) (by decide +kernel), List.mem_of_getElem? (i := 806) (by decide +kernel), List.mem_of_getElem? (i := 807) (by decide +kernel)⟩
theorem lw_p21 : lw_okq (⟨"PitInspector$Air", "splitAll", "(LPitInspector$Net;I)I"⟩, 6) := ⟨⟨by decide +kernel, by decide +kernel⟩, List.mem_of_getElem? (i := 278) (by decide +kernel), List.mem_of_getElem? (i := 818) (by decide +kernel), List.mem_of_getElem? (i := 819) (by decide +kernel)⟩
theorem lw_p22 : lw_okq (⟨"PitInspector$Air", "splitAt", "(LPitInspector$Net;I)V"⟩, 6) := ⟨⟨by decide +kernel, by decide +kernel⟩, List.mem_of_getElem? (i := 278) (by decide +kernel), List.mem_of_getElem? (i := 834) (by decide +kernel), List.mem_of_getElem? (i := 835) (by decide +kernel)⟩
theorem lw_p23 : lw_okq (⟨"PitInspector$Air", "leastOpen", "(LPitInspector$Net;I)I"⟩, 6) := ⟨⟨by decide +kernel, by decide +kernel⟩, List.mem_of_getElem? (i := 278) (by decide +kernel), List.mem_of_getElem? (i := 842) (by decide +kernel), List.mem_of_getElem? (i := 843) (by decide +kernel)⟩
theorem lw_p24 : lw_okq (⟨"PitInspector$Net", "addWay", "(II)Z"⟩, 15) := ⟨⟨by decide +kernel, by decide +kernel⟩, List.mem_of_getElem? (i := 212) (by decide +kernel), List.mem_of_getElem? (i := 858) (by decide +kernel), List.mem_of_getElem? (i := 859) (by decide +kernel)⟩
theorem lw_p25 : lw_okq (⟨"PitInspector$Net", "findWay", "(II)Z"⟩, 15) := ⟨⟨by decide +kernel, by decide +kernel⟩, List.mem_of_getElem? (i := 212) (by decide +kernel), List.mem_of_getElem? (i := 862) (by decide +kernel), List.mem_of_getElem? (i := 863) (by decide +kernel)⟩
theorem lw_p26 : lw_okq (⟨"PitInspector$Survey", "far", "(II)I"⟩, 13) := ⟨⟨by decide +kernel, by decide +kernel⟩, List.mem_of_getElem? (i := 304) (by decide +kernel), List.mem_of_getElem? (i := 882) (by decide +kernel), List.mem_of_getElem? (i := 883) (by decide +kernel)⟩
theorem lw_p27 : lw_okq (⟨"PitInspector$Survey", "trueX", "(I)I"⟩, 13) := ⟨⟨by decide +kernel, by decide +kernel⟩, List.mem_of_getElem? (i := 304) (by decide +kernel), List.mem_of_getElem? (i := 886) (by decide +kernel), List.mem_of_getElem? (i := 887) (by decide +kernel)⟩
theorem lw_p28 : lw_okq (⟨"PitInspector$Survey", "trueY", "(I)I"⟩, 13) := ⟨⟨by decide +kernel, by decide +kernel⟩, List.mem_of_getElem? (i := 304) (by decide +kernel), List.mem_of_getElem? (i := 893) (by decide +kernel), List.mem_of_getElem? (i := 894) (by decide +kernel)⟩
theorem lw_p29 : lw_okq (⟨"PitInspector$Survey", "doubt", "(II)I"⟩, 13) := ⟨⟨by decide +kernel, by decide +kernel⟩, List.mem_of_getElem? (i := 304) (by decide +kernel), List.mem_of_getElem? (i := 898) (by decide +kernel), List.mem_of_getElem? (i := 899) (by decide +kernel)⟩
theorem lw_p30 : lw_okq (⟨"PitInspector$Laws", "reckon", "(LPitInspector$Text;I)I"⟩, 9) := ⟨⟨by decide +kernel, by decide +kernel⟩, List.mem_of_getElem? (i := 72) (by decide +kernel), List.mem_of_getElem? (i := 912) (by decide +kernel), List.mem_of_getElem? (i := 913) (by decide +kernel)⟩
theorem lw_p31 : lw_okq (⟨"PitInspector", "brokenBy", "(I)I"⟩, 12) := ⟨⟨by decide +kernel, by decide +kernel⟩, List.mem_of_getElem? (i := 24) (by decide +kernel), List.mem_of_getElem? (i := 924) (by decide +kernel), List.mem_of_getElem? (i := 925) (by decide +kernel)⟩
def lw_privs_2 : List (MethodName × Nat) := [(⟨"PitInspector$Reader", "jump", "(II)I"⟩, 4), (⟨"PitInspector", "day", "()I"⟩, 12), (⟨"PitInspector$Laws", "strikeFor", "(II)V"⟩, 9), (⟨"PitInspector$Laws", "strikeBelow", "(II)V"⟩, 9), (⟨"PitInspector", "learn", "(I)V"⟩, 12), (⟨"PitInspector$Air", "splitAll", "(LPitInspector$Net;I)I"⟩, 6), (⟨"PitInspector$Air", "splitAt", "(LPitInspector$Net;I)V"⟩, 6), (⟨"PitInspector$Air", "leastOpen", "(LPitInspector$Net;I)I"⟩, 6), (⟨"PitInspector$Net", "addWay", "(II)Z"⟩, 15), (⟨"PitInspector$Net", "findWay", "(II)Z"⟩, 15), (⟨"PitInspector$Survey", "far", "(II)I"⟩, 13), (⟨"PitInspector$Survey", "trueX", "(I)I"⟩, 13), (⟨"PitInspector$Survey", "trueY", "(I)I"⟩, 13), (⟨"PitInspector$Survey", "doubt", "(II)I"⟩, 13), (⟨"PitInspector$Laws", "reckon", "(LPitInspector$Text;I)I"⟩, 9), (⟨"PitInspector", "brokenBy", "(I)I"⟩, 12)]
theorem lw_r2 : ∀ q ∈ lw_privs_2, lw_okq q := List.forall_mem_cons.mpr ⟨lw_p16, List.forall_mem_cons.mpr ⟨lw_p17, List.forall_mem_cons.mpr ⟨lw_p18, List.forall_mem_cons.mpr ⟨lw_p19, List.forall_mem_cons.mpr ⟨lw_p20, List.forall_mem_cons.mpr ⟨lw_p21, List.forall_mem_cons.mpr ⟨lw_p22, List.forall_mem_cons.mpr ⟨lw_p23, List.forall_mem_cons.mpr ⟨lw_p24, List.forall_mem_cons.mpr ⟨lw_p25, List.forall_mem_cons.mpr ⟨lw_p26, List.forall_mem_cons.mpr ⟨lw_p27, List.forall_mem_cons.mpr ⟨lw_p28, List.forall_mem_cons.mpr ⟨lw_p29, List.forall_mem_cons.mpr ⟨lw_p30, List.forall_mem_cons.mpr ⟨lw_p31, fun _ h => absurd h List.not_mem_nil⟩⟩⟩⟩⟩⟩⟩⟩⟩⟩⟩⟩⟩⟩⟩⟩
theorem lw_p32 : lw_okq (⟨"PitInspector$Laws", "isBroken", "(LPitInspector$Text;I)Z"⟩, 9) := ⟨⟨by decide +kernel, by decide +kernel⟩, List.mem_of_getElem? (i := 72) (by decide +kernel), List.mem_of_getElem? (i := 932) (by decide +kernel), List.mem_of_getElem? (i := 933) (by decide +kernel)⟩
theorem lw_p33 : lw_okq (⟨"PitInspector$Net", "addEnd", "(II)V"⟩, 15) := ⟨⟨by decide +kernel, by decide +kernel⟩, List.mem_of_getElem? (i := 212) (by decide +kernel), List.mem_of_getElem? (i := 1008) (by decide +kernel), List.mem_of_getElem? (i := 1009) (by decide +kernel)⟩
theorem lw_p34 : lw_okq (⟨"PitInspector$Survey", "setPoint", "(IIII)V"⟩, 13) := ⟨⟨by decide +kernel, by decide +kernel⟩, List.mem_of_getElem? (i := 304) (by decide +kernel), List.mem_of_getElem? (i := 1124) (by decide +kernel), List.mem_of_getElem? (i := 1125) (by decide +kernel)⟩
theorem lw_p35 : lw_okq (⟨"PitInspector$Survey", "facesNearer", "(I)I"⟩, 13) := ⟨⟨by decide +kernel, by decide +kernel⟩, List.mem_of_getElem? (i := 304) (by decide +kernel), List.mem_of_getElem? (i := 1166) (by decide +kernel), List.mem_of_getElem? (i := 1167) (by decide +kernel)⟩
theorem lw_p36 : lw_okq (⟨"PitInspector$Warnings", "isKnown", "(II)Z"⟩, 4) := ⟨⟨by decide +kernel, by decide +kernel⟩, List.mem_of_getElem? (i := 419) (by decide +kernel), List.mem_of_getElem? (i := 1286) (by decide +kernel), List.mem_of_getElem? (i := 1287) (by decide +kernel)⟩
theorem lw_p37 : lw_okq (⟨"PitInspector$Warnings", "hasActed", "(II)Z"⟩, 4) := ⟨⟨by decide +kernel, by decide +kernel⟩, List.mem_of_getElem? (i := 419) (by decide +kernel), List.mem_of_getElem? (i := 1298) (by decide +kernel), List.mem_of_getElem? (i := 1299) (by decide +kernel)⟩
theorem lw_p38 : lw_okq (⟨"PitInspector", "worthOf", "(I)I"⟩, 12) := ⟨⟨by decide +kernel, by decide +kernel⟩, List.mem_of_getElem? (i := 24) (by decide +kernel), List.mem_of_getElem? (i := 1353) (by decide +kernel), List.mem_of_getElem? (i := 1354) (by decide +kernel)⟩
theorem lw_p39 : lw_okq (⟨"PitInspector$Looks", "draw", "(III)V"⟩, 7) := ⟨⟨by decide +kernel, by decide +kernel⟩, List.mem_of_getElem? (i := 441) (by decide +kernel), List.mem_of_getElem? (i := 1366) (by decide +kernel), List.mem_of_getElem? (i := 1367) (by decide +kernel)⟩
theorem lw_p40 : lw_okq (⟨"PitInspector$Looks", "hasLook", "(I)Z"⟩, 7) := ⟨⟨by decide +kernel, by decide +kernel⟩, List.mem_of_getElem? (i := 441) (by decide +kernel), List.mem_of_getElem? (i := 1371) (by decide +kernel), List.mem_of_getElem? (i := 1372) (by decide +kernel)⟩
theorem lw_p41 : lw_okq (⟨"PitInspector$Looks", "add", "(I)V"⟩, 7) := ⟨⟨by decide +kernel, by decide +kernel⟩, List.mem_of_getElem? (i := 441) (by decide +kernel), List.mem_of_getElem? (i := 1375) (by decide +kernel), List.mem_of_getElem? (i := 1376) (by decide +kernel)⟩
theorem lw_p42 : lw_okq (⟨"PitInspector$Looks", "worthiest", "(I)I"⟩, 7) := ⟨⟨by decide +kernel, by decide +kernel⟩, List.mem_of_getElem? (i := 441) (by decide +kernel), List.mem_of_getElem? (i := 1379) (by decide +kernel), List.mem_of_getElem? (i := 1380) (by decide +kernel)⟩
theorem lw_p43 : lw_okq (⟨"PitInspector$Inquest", "isTooFar", "(III)Z"⟩, 6) := ⟨⟨by decide +kernel, by decide +kernel⟩, List.mem_of_getElem? (i := 472) (by decide +kernel), List.mem_of_getElem? (i := 1421) (by decide +kernel), List.mem_of_getElem? (i := 1422) (by decide +kernel)⟩
theorem lw_p44 : lw_okq (⟨"PitInspector$Inquest", "greater", "(IIII)I"⟩, 6) := ⟨⟨by decide +kernel, by decide +kernel⟩, List.mem_of_getElem? (i := 472) (by decide +kernel), List.mem_of_getElem? (i := 1438) (by decide +kernel), List.mem_of_getElem? (i := 1439) (by decide +kernel)⟩
theorem lw_p45 : lw_okq (⟨"PitInspectorModel", "isPit", "(I)Z"⟩, 111) := ⟨⟨by decide +kernel, by decide +kernel⟩, List.mem_of_getElem? (i := 1458) (by decide +kernel), List.mem_of_getElem? (i := 1817) (by decide +kernel), List.mem_of_getElem? (i := 1818) (by decide +kernel)⟩
theorem lw_p46 : lw_okq (⟨"PitInspectorModel", "push", "(I)V"⟩, 111) := ⟨⟨by decide +kernel, by decide +kernel⟩, List.mem_of_getElem? (i := 1458) (by decide +kernel), List.mem_of_getElem? (i := 1830) (by decide +kernel), List.mem_of_getElem? (i := 1831) (by decide +kernel)⟩
theorem lw_p47 : lw_okq (⟨"PitInspectorModel", "isGood", "()Z"⟩, 111) := ⟨⟨by decide +kernel, by decide +kernel⟩, List.mem_of_getElem? (i := 1458) (by decide +kernel), List.mem_of_getElem? (i := 1840) (by decide +kernel), List.mem_of_getElem? (i := 1841) (by decide +kernel)⟩
def lw_privs_3 : List (MethodName × Nat) := [(⟨"PitInspector$Laws", "isBroken", "(LPitInspector$Text;I)Z"⟩, 9), (⟨"PitInspector$Net", "addEnd", "(II)V"⟩, 15), (⟨"PitInspector$Survey", "setPoint", "(IIII)V"⟩, 13), (⟨"PitInspector$Survey", "facesNearer", "(I)I"⟩, 13), (⟨"PitInspector$Warnings", "isKnown", "(II)Z"⟩, 4), (⟨"PitInspector$Warnings", "hasActed", "(II)Z"⟩, 4), (⟨"PitInspector", "worthOf", "(I)I"⟩, 12), (⟨"PitInspector$Looks", "draw", "(III)V"⟩, 7), (⟨"PitInspector$Looks", "hasLook", "(I)Z"⟩, 7), (⟨"PitInspector$Looks", "add", "(I)V"⟩, 7), (⟨"PitInspector$Looks", "worthiest", "(I)I"⟩, 7), (⟨"PitInspector$Inquest", "isTooFar", "(III)Z"⟩, 6), (⟨"PitInspector$Inquest", "greater", "(IIII)I"⟩, 6), (⟨"PitInspectorModel", "isPit", "(I)Z"⟩, 111), (⟨"PitInspectorModel", "push", "(I)V"⟩, 111), (⟨"PitInspectorModel", "isGood", "()Z"⟩, 111)]
theorem lw_r3 : ∀ q ∈ lw_privs_3, lw_okq q := List.forall_mem_cons.mpr ⟨lw_p32, List.forall_mem_cons.mpr ⟨lw_p33, List.forall_mem_cons.mpr ⟨lw_p34, List.forall_mem_cons.mpr ⟨lw_p35, List.forall_mem_cons.mpr ⟨lw_p36, List.forall_mem_cons.mpr ⟨lw_p37, List.forall_mem_cons.mpr ⟨lw_p38, List.forall_mem_cons.mpr ⟨lw_p39, List.forall_mem_cons.mpr ⟨lw_p40, List.forall_mem_cons.mpr ⟨lw_p41, List.forall_mem_cons.mpr ⟨lw_p42, List.forall_mem_cons.mpr ⟨lw_p43, List.forall_mem_cons.mpr ⟨lw_p44, List.forall_mem_cons.mpr ⟨lw_p45, List.forall_mem_cons.mpr ⟨lw_p46, List.forall_mem_cons.mpr ⟨lw_p47, fun _ h => absurd h List.not_mem_nil⟩⟩⟩⟩⟩⟩⟩⟩⟩⟩⟩⟩⟩⟩⟩⟩
theorem lw_p48 : lw_okq (⟨"PitInspectorModel", "clause", "()V"⟩, 111) := ⟨⟨by decide +kernel, by decide +kernel⟩, List.mem_of_getElem? (i := 1458) (by decide +kernel), List.mem_of_getElem? (i := 1844) (by decide +kernel), List.mem_of_getElem? (i := 1845) (by decide +kernel)⟩
theorem lw_p49 : lw_okq (⟨"PitInspectorModel", "here", "()I"⟩, 111) := ⟨⟨by decide +kernel, by decide +kernel⟩, List.mem_of_getElem? (i := 1458) (by decide +kernel), List.mem_of_getElem? (i := 1848) (by decide +kernel), List.mem_of_getElem? (i := 1849) (by decide +kernel)⟩
theorem lw_p50 : lw_okq (⟨"PitInspectorModel", "fails", "(II)V"⟩, 111) := ⟨⟨by decide +kernel, by decide +kernel⟩, List.mem_of_getElem? (i := 1458) (by decide +kernel), List.mem_of_getElem? (i := 1852) (by decide +kernel), List.mem_of_getElem? (i := 1853) (by decide +kernel)⟩
theorem lw_p51 : lw_okq (⟨"PitInspectorModel", "condition", "(I)V"⟩, 111) := ⟨⟨by decide +kernel, by decide +kernel⟩, List.mem_of_getElem? (i := 1458) (by decide +kernel), List.mem_of_getElem? (i := 1856) (by decide +kernel), List.mem_of_getElem? (i := 1857) (by decide +kernel)⟩
theorem lw_p52 : lw_okq (⟨"PitInspectorModel", "opens", "()V"⟩, 111) := ⟨⟨by decide +kernel, by decide +kernel⟩, List.mem_of_getElem? (i := 1458) (by decide +kernel), List.mem_of_getElem? (i := 1860) (by decide +kernel), List.mem_of_getElem? (i := 1861) (by decide +kernel)⟩
theorem lw_p53 : lw_okq (⟨"PitInspectorModel", "puts", "(I)V"⟩, 111) := ⟨⟨by decide +kernel, by decide +kernel⟩, List.mem_of_getElem? (i := 1458) (by decide +kernel), List.mem_of_getElem? (i := 1864) (by decide +kernel), List.mem_of_getElem? (i := 1865) (by decide +kernel)⟩
theorem lw_p54 : lw_okq (⟨"PitInspectorModel", "piece", "()V"⟩, 111) := ⟨⟨by decide +kernel, by decide +kernel⟩, List.mem_of_getElem? (i := 1458) (by decide +kernel), List.mem_of_getElem? (i := 1868) (by decide +kernel), List.mem_of_getElem? (i := 1869) (by decide +kernel)⟩
theorem lw_p55 : lw_okq (⟨"PitInspectorModel", "factor", "()V"⟩, 111) := ⟨⟨by decide +kernel, by decide +kernel⟩, List.mem_of_getElem? (i := 1458) (by decide +kernel), List.mem_of_getElem? (i := 1872) (by decide +kernel), List.mem_of_getElem? (i := 1873) (by decide +kernel)⟩
theorem lw_p56 : lw_okq (⟨"PitInspectorModel", "seesDigit", "()Z"⟩, 111) := ⟨⟨by decide +kernel, by decide +kernel⟩, List.mem_of_getElem? (i := 1458) (by decide +kernel), List.mem_of_getElem? (i := 1876) (by decide +kernel), List.mem_of_getElem? (i := 1877) (by decide +kernel)⟩
theorem lw_p57 : lw_okq (⟨"PitInspectorModel", "reads", "(I)I"⟩, 111) := ⟨⟨by decide +kernel, by decide +kernel⟩, List.mem_of_getElem? (i := 1458) (by decide +kernel), List.mem_of_getElem? (i := 1883) (by decide +kernel), List.mem_of_getElem? (i := 1884) (by decide +kernel)⟩
theorem lw_p58 : lw_okq (⟨"PitInspectorModel", "emit", "(II)V"⟩, 111) := ⟨⟨by decide +kernel, by decide +kernel⟩, List.mem_of_getElem? (i := 1458) (by decide +kernel), List.mem_of_getElem? (i := 1887) (by decide +kernel), List.mem_of_getElem? (i := 1888) (by decide +kernel)⟩
theorem lw_p59 : lw_okq (⟨"PitInspectorModel", "goesOn", "()Z"⟩, 111) := ⟨⟨by decide +kernel, by decide +kernel⟩, List.mem_of_getElem? (i := 1458) (by decide +kernel), List.mem_of_getElem? (i := 1894) (by decide +kernel), List.mem_of_getElem? (i := 1895) (by decide +kernel)⟩
theorem lw_p60 : lw_okq (⟨"PitInspectorModel", "sums", "(Z)V"⟩, 111) := ⟨⟨by decide +kernel, by decide +kernel⟩, List.mem_of_getElem? (i := 1458) (by decide +kernel), List.mem_of_getElem? (i := 1904) (by decide +kernel), List.mem_of_getElem? (i := 1905) (by decide +kernel)⟩
theorem lw_p61 : lw_okq (⟨"PitInspectorModel", "top", "()I"⟩, 111) := ⟨⟨by decide +kernel, by decide +kernel⟩, List.mem_of_getElem? (i := 1458) (by decide +kernel), List.mem_of_getElem? (i := 1908) (by decide +kernel), List.mem_of_getElem? (i := 1909) (by decide +kernel)⟩
theorem lw_p62 : lw_okq (⟨"PitInspectorModel", "ends", "()V"⟩, 111) := ⟨⟨by decide +kernel, by decide +kernel⟩, List.mem_of_getElem? (i := 1458) (by decide +kernel), List.mem_of_getElem? (i := 1915) (by decide +kernel), List.mem_of_getElem? (i := 1916) (by decide +kernel)⟩
theorem lw_p63 : lw_okq (⟨"PitInspectorModel", "goesBehind", "()Z"⟩, 111) := ⟨⟨by decide +kernel, by decide +kernel⟩, List.mem_of_getElem? (i := 1458) (by decide +kernel), List.mem_of_getElem? (i := 1919) (by decide +kernel), List.mem_of_getElem? (i := 1920) (by decide +kernel)⟩
def lw_privs_4 : List (MethodName × Nat) := [(⟨"PitInspectorModel", "clause", "()V"⟩, 111), (⟨"PitInspectorModel", "here", "()I"⟩, 111), (⟨"PitInspectorModel", "fails", "(II)V"⟩, 111), (⟨"PitInspectorModel", "condition", "(I)V"⟩, 111), (⟨"PitInspectorModel", "opens", "()V"⟩, 111), (⟨"PitInspectorModel", "puts", "(I)V"⟩, 111), (⟨"PitInspectorModel", "piece", "()V"⟩, 111), (⟨"PitInspectorModel", "factor", "()V"⟩, 111), (⟨"PitInspectorModel", "seesDigit", "()Z"⟩, 111), (⟨"PitInspectorModel", "reads", "(I)I"⟩, 111), (⟨"PitInspectorModel", "emit", "(II)V"⟩, 111), (⟨"PitInspectorModel", "goesOn", "()Z"⟩, 111), (⟨"PitInspectorModel", "sums", "(Z)V"⟩, 111), (⟨"PitInspectorModel", "top", "()I"⟩, 111), (⟨"PitInspectorModel", "ends", "()V"⟩, 111), (⟨"PitInspectorModel", "goesBehind", "()Z"⟩, 111)]
theorem lw_r4 : ∀ q ∈ lw_privs_4, lw_okq q := List.forall_mem_cons.mpr ⟨lw_p48, List.forall_mem_cons.mpr ⟨lw_p49, List.forall_mem_cons.mpr ⟨lw_p50, List.forall_mem_cons.mpr ⟨lw_p51, List.forall_mem_cons.mpr ⟨lw_p52, List.forall_mem_cons.mpr ⟨lw_p53, List.forall_mem_cons.mpr ⟨lw_p54, List.forall_mem_cons.mpr ⟨lw_p55, List.forall_mem_cons.mpr ⟨lw_p56, List.forall_mem_cons.mpr ⟨lw_p57, List.forall_mem_cons.mpr ⟨lw_p58, List.forall_mem_cons.mpr ⟨lw_p59, List.forall_mem_cons.mpr ⟨lw_p60, List.forall_mem_cons.mpr ⟨lw_p61, List.forall_mem_cons.mpr ⟨lw_p62, List.forall_mem_cons.mpr ⟨lw_p63, fun _ h => absurd h List.not_mem_nil⟩⟩⟩⟩⟩⟩⟩⟩⟩⟩⟩⟩⟩⟩⟩⟩
theorem lw_p64 : lw_okq (⟨"PitInspectorModel", "joinsUp", "(Z)V"⟩, 111) := ⟨⟨by decide +kernel, by decide +kernel⟩, List.mem_of_getElem? (i := 1458) (by decide +kernel), List.mem_of_getElem? (i := 1923) (by decide +kernel), List.mem_of_getElem? (i := 1924) (by decide +kernel)⟩
theorem lw_p65 : lw_okq (⟨"PitInspectorModel", "must", "(I)V"⟩, 111) := ⟨⟨by decide +kernel, by decide +kernel⟩, List.mem_of_getElem? (i := 1458) (by decide +kernel), List.mem_of_getElem? (i := 1927) (by decide +kernel), List.mem_of_getElem? (i := 1928) (by decide +kernel)⟩
theorem lw_p66 : lw_okq (⟨"PitInspectorModel", "isText", "(I)Z"⟩, 111) := ⟨⟨by decide +kernel, by decide +kernel⟩, List.mem_of_getElem? (i := 1458) (by decide +kernel), List.mem_of_getElem? (i := 1935) (by decide +kernel), List.mem_of_getElem? (i := 1936) (by decide +kernel)⟩
theorem lw_p67 : lw_okq (⟨"PitInspectorModel", "strikes", "(I)V"⟩, 111) := ⟨⟨by decide +kernel, by decide +kernel⟩, List.mem_of_getElem? (i := 1458) (by decide +kernel), List.mem_of_getElem? (i := 1939) (by decide +kernel), List.mem_of_getElem? (i := 1940) (by decide +kernel)⟩
theorem lw_p68 : lw_okq (⟨"PitInspectorModel", "isFor", "(II)Z"⟩, 111) := ⟨⟨by decide +kernel, by decide +kernel⟩, List.mem_of_getElem? (i := 1458) (by decide +kernel), List.mem_of_getElem? (i := 1943) (by decide +kernel), List.mem_of_getElem? (i := 1944) (by decide +kernel)⟩
theorem lw_p69 : lw_okq (⟨"PitInspectorModel", "isInForce", "(I)Z"⟩, 111) := ⟨⟨by decide +kernel, by decide +kernel⟩, List.mem_of_getElem? (i := 1458) (by decide +kernel), List.mem_of_getElem? (i := 1947) (by decide +kernel), List.mem_of_getElem? (i := 1948) (by decide +kernel)⟩
theorem lw_p70 : lw_okq (⟨"PitInspectorModel", "isCounted", "(II)Z"⟩, 111) := ⟨⟨by decide +kernel, by decide +kernel⟩, List.mem_of_getElem? (i := 1458) (by decide +kernel), List.mem_of_getElem? (i := 1951) (by decide +kernel), List.mem_of_getElem? (i := 1952) (by decide +kernel)⟩
theorem lw_p71 : lw_okq (⟨"PitInspectorModel", "asks", "(I)V"⟩, 111) := ⟨⟨by decide +kernel, by decide +kernel⟩, List.mem_of_getElem? (i := 1458) (by decide +kernel), List.mem_of_getElem? (i := 1959) (by decide +kernel), List.mem_of_getElem? (i := 1960) (by decide +kernel)⟩
theorem lw_p72 : lw_okq (⟨"PitInspectorModel", "worthOf", "(I)I"⟩, 111) := ⟨⟨by decide +kernel, by decide +kernel⟩, List.mem_of_getElem? (i := 1458) (by decide +kernel), List.mem_of_getElem? (i := 1963) (by decide +kernel), List.mem_of_getElem? (i := 1964) (by decide +kernel)⟩
theorem lw_p73 : lw_okq (⟨"PitInspectorModel", "does", "(II)V"⟩, 111) := ⟨⟨by decide +kernel, by decide +kernel⟩, List.mem_of_getElem? (i := 1458) (by decide +kernel), List.mem_of_getElem? (i := 1967) (by decide +kernel), List.mem_of_getElem? (i := 1968) (by decide +kernel)⟩
theorem lw_p74 : lw_okq (⟨"PitInspectorModel", "valueOf", "(I)J"⟩, 111) := ⟨⟨by decide +kernel, by decide +kernel⟩, List.mem_of_getElem? (i := 1458) (by decide +kernel), List.mem_of_getElem? (i := 1974) (by decide +kernel), List.mem_of_getElem? (i := 1975) (by decide +kernel)⟩
theorem lw_p75 : lw_okq (⟨"PitInspectorModel", "finds", "(I)J"⟩, 111) := ⟨⟨by decide +kernel, by decide +kernel⟩, List.mem_of_getElem? (i := 1458) (by decide +kernel), List.mem_of_getElem? (i := 1978) (by decide +kernel), List.mem_of_getElem? (i := 1979) (by decide +kernel)⟩
theorem lw_p76 : lw_okq (⟨"PitInspectorModel", "below", "(I)I"⟩, 111) := ⟨⟨by decide +kernel, by decide +kernel⟩, List.mem_of_getElem? (i := 1458) (by decide +kernel), List.mem_of_getElem? (i := 1982) (by decide +kernel), List.mem_of_getElem? (i := 1983) (by decide +kernel)⟩
theorem lw_p77 : lw_okq (⟨"PitInspectorModel", "leastOf", "(II)I"⟩, 111) := ⟨⟨by decide +kernel, by decide +kernel⟩, List.mem_of_getElem? (i := 1458) (by decide +kernel), List.mem_of_getElem? (i := 1986) (by decide +kernel), List.mem_of_getElem? (i := 1987) (by decide +kernel)⟩
theorem lw_p78 : lw_okq (⟨"PitInspectorModel", "blows", "(II)V"⟩, 111) := ⟨⟨by decide +kernel, by decide +kernel⟩, List.mem_of_getElem? (i := 1458) (by decide +kernel), List.mem_of_getElem? (i := 1990) (by decide +kernel), List.mem_of_getElem? (i := 1991) (by decide +kernel)⟩
theorem lw_p79 : lw_okq (⟨"PitInspectorModel", "walks", "(IZI)V"⟩, 111) := ⟨⟨by decide +kernel, by decide +kernel⟩, List.mem_of_getElem? (i := 1458) (by decide +kernel), List.mem_of_getElem? (i := 1994) (by decide +kernel), List.mem_of_getElem? (i := 1995) (by decide +kernel)⟩
def lw_privs_5 : List (MethodName × Nat) := [(⟨"PitInspectorModel", "joinsUp", "(Z)V"⟩, 111), (⟨"PitInspectorModel", "must", "(I)V"⟩, 111), (⟨"PitInspectorModel", "isText", "(I)Z"⟩, 111), (⟨"PitInspectorModel", "strikes", "(I)V"⟩, 111), (⟨"PitInspectorModel", "isFor", "(II)Z"⟩, 111), (⟨"PitInspectorModel", "isInForce", "(I)Z"⟩, 111), (⟨"PitInspectorModel", "isCounted", "(II)Z"⟩, 111), (⟨"PitInspectorModel", "asks", "(I)V"⟩, 111), (⟨"PitInspectorModel", "worthOf", "(I)I"⟩, 111), (⟨"PitInspectorModel", "does", "(II)V"⟩, 111), (⟨"PitInspectorModel", "valueOf", "(I)J"⟩, 111), (⟨"PitInspectorModel", "finds", "(I)J"⟩, 111), (⟨"PitInspectorModel", "below", "(I)I"⟩, 111), (⟨"PitInspectorModel", "leastOf", "(II)I"⟩, 111), (⟨"PitInspectorModel", "blows", "(II)V"⟩, 111), (⟨"PitInspectorModel", "walks", "(IZI)V"⟩, 111)]
theorem lw_r5 : ∀ q ∈ lw_privs_5, lw_okq q := List.forall_mem_cons.mpr ⟨lw_p64, List.forall_mem_cons.mpr ⟨lw_p65, List.forall_mem_cons.mpr ⟨lw_p66, List.forall_mem_cons.mpr ⟨lw_p67, List.forall_mem_cons.mpr ⟨lw_p68, List.forall_mem_cons.mpr ⟨lw_p69, List.forall_mem_cons.mpr ⟨lw_p70, List.forall_mem_cons.mpr ⟨lw_p71, List.forall_mem_cons.mpr ⟨lw_p72, List.forall_mem_cons.mpr ⟨lw_p73, List.forall_mem_cons.mpr ⟨lw_p74, List.forall_mem_cons.mpr ⟨lw_p75, List.forall_mem_cons.mpr ⟨lw_p76, List.forall_mem_cons.mpr ⟨lw_p77, List.forall_mem_cons.mpr ⟨lw_p78, List.forall_mem_cons.mpr ⟨lw_p79, fun _ h => absurd h List.not_mem_nil⟩⟩⟩⟩⟩⟩⟩⟩⟩⟩⟩⟩⟩⟩⟩⟩
theorem lw_p80 : lw_okq (⟨"PitInspectorModel", "otherEnd", "(II)I"⟩, 111) := ⟨⟨by decide +kernel, by decide +kernel⟩, List.mem_of_getElem? (i := 1458) (by decide +kernel), List.mem_of_getElem? (i := 1998) (by decide +kernel), List.mem_of_getElem? (i := 1999) (by decide +kernel)⟩
theorem lw_p81 : lw_okq (⟨"PitInspectorModel", "goesThrough", "(II)Z"⟩, 111) := ⟨⟨by decide +kernel, by decide +kernel⟩, List.mem_of_getElem? (i := 1458) (by decide +kernel), List.mem_of_getElem? (i := 2002) (by decide +kernel), List.mem_of_getElem? (i := 2003) (by decide +kernel)⟩
theorem lw_p82 : lw_okq (⟨"PitInspectorModel", "parts", "(II)V"⟩, 111) := ⟨⟨by decide +kernel, by decide +kernel⟩, List.mem_of_getElem? (i := 1458) (by decide +kernel), List.mem_of_getElem? (i := 2006) (by decide +kernel), List.mem_of_getElem? (i := 2007) (by decide +kernel)⟩
theorem lw_p83 : lw_okq (⟨"PitInspectorModel", "isOn", "(III)Z"⟩, 111) := ⟨⟨by decide +kernel, by decide +kernel⟩, List.mem_of_getElem? (i := 1458) (by decide +kernel), List.mem_of_getElem? (i := 2010) (by decide +kernel), List.mem_of_getElem? (i := 2011) (by decide +kernel)⟩
theorem lw_p84 : lw_okq (⟨"PitInspectorModel", "fewestOf", "(I)I"⟩, 111) := ⟨⟨by decide +kernel, by decide +kernel⟩, List.mem_of_getElem? (i := 1458) (by decide +kernel), List.mem_of_getElem? (i := 2014) (by decide +kernel), List.mem_of_getElem? (i := 2015) (by decide +kernel)⟩
theorem lw_p85 : lw_okq (⟨"PitInspectorModel", "isBank", "(I)Z"⟩, 111) := ⟨⟨by decide +kernel, by decide +kernel⟩, List.mem_of_getElem? (i := 1458) (by decide +kernel), List.mem_of_getElem? (i := 2018) (by decide +kernel), List.mem_of_getElem? (i := 2019) (by decide +kernel)⟩
theorem lw_p86 : lw_okq (⟨"PitInspectorModel", "waysOf", "(I)I"⟩, 111) := ⟨⟨by decide +kernel, by decide +kernel⟩, List.mem_of_getElem? (i := 1458) (by decide +kernel), List.mem_of_getElem? (i := 2022) (by decide +kernel), List.mem_of_getElem? (i := 2023) (by decide +kernel)⟩
theorem lw_p87 : lw_okq (⟨"PitInspectorModel", "adds", "(II)Z"⟩, 111) := ⟨⟨by decide +kernel, by decide +kernel⟩, List.mem_of_getElem? (i := 1458) (by decide +kernel), List.mem_of_getElem? (i := 2026) (by decide +kernel), List.mem_of_getElem? (i := 2027) (by decide +kernel)⟩
theorem lw_p88 : lw_okq (⟨"PitInspectorModel", "canGo", "(II)Z"⟩, 111) := ⟨⟨by decide +kernel, by decide +kernel⟩, List.mem_of_getElem? (i := 1458) (by decide +kernel), List.mem_of_getElem? (i := 2030) (by decide +kernel), List.mem_of_getElem? (i := 2031) (by decide +kernel)⟩
theorem lw_p89 : lw_okq (⟨"PitInspectorModel", "nearestOfPit", "(I)I"⟩, 111) := ⟨⟨by decide +kernel, by decide +kernel⟩, List.mem_of_getElem? (i := 1458) (by decide +kernel), List.mem_of_getElem? (i := 2034) (by decide +kernel), List.mem_of_getElem? (i := 2035) (by decide +kernel)⟩
theorem lw_p90 : lw_okq (⟨"PitInspectorModel", "nearestOfFace", "(I)I"⟩, 111) := ⟨⟨by decide +kernel, by decide +kernel⟩, List.mem_of_getElem? (i := 1458) (by decide +kernel), List.mem_of_getElem? (i := 2038) (by decide +kernel), List.mem_of_getElem? (i := 2039) (by decide +kernel)⟩
theorem lw_p91 : lw_okq (⟨"PitInspectorModel", "yardsOf", "(III)I"⟩, 111) := ⟨⟨by decide +kernel, by decide +kernel⟩, List.mem_of_getElem? (i := 1458) (by decide +kernel), List.mem_of_getElem? (i := 2042) (by decide +kernel), List.mem_of_getElem? (i := 2043) (by decide +kernel)⟩
theorem lw_p92 : lw_okq (⟨"PitInspectorModel", "far", "(IIIIII)I"⟩, 111) := ⟨⟨by decide +kernel, by decide +kernel⟩, List.mem_of_getElem? (i := 1458) (by decide +kernel), List.mem_of_getElem? (i := 2046) (by decide +kernel), List.mem_of_getElem? (i := 2047) (by decide +kernel)⟩
theorem lw_p93 : lw_okq (⟨"PitInspectorModel", "trueX", "(III)I"⟩, 111) := ⟨⟨by decide +kernel, by decide +kernel⟩, List.mem_of_getElem? (i := 1458) (by decide +kernel), List.mem_of_getElem? (i := 2050) (by decide +kernel), List.mem_of_getElem? (i := 2051) (by decide +kernel)⟩
theorem lw_p94 : lw_okq (⟨"PitInspectorModel", "trueY", "(III)I"⟩, 111) := ⟨⟨by decide +kernel, by decide +kernel⟩, List.mem_of_getElem? (i := 1458) (by decide +kernel), List.mem_of_getElem? (i := 2057) (by decide +kernel), List.mem_of_getElem? (i := 2058) (by decide +kernel)⟩
theorem lw_p95 : lw_okq (⟨"PitInspectorModel", "doubt", "(II)I"⟩, 111) := ⟨⟨by decide +kernel, by decide +kernel⟩, List.mem_of_getElem? (i := 1458) (by decide +kernel), List.mem_of_getElem? (i := 2061) (by decide +kernel), List.mem_of_getElem? (i := 2062) (by decide +kernel)⟩
def lw_privs_6 : List (MethodName × Nat) := [(⟨"PitInspectorModel", "otherEnd", "(II)I"⟩, 111), (⟨"PitInspectorModel", "goesThrough", "(II)Z"⟩, 111), (⟨"PitInspectorModel", "parts", "(II)V"⟩, 111), (⟨"PitInspectorModel", "isOn", "(III)Z"⟩, 111), (⟨"PitInspectorModel", "fewestOf", "(I)I"⟩, 111), (⟨"PitInspectorModel", "isBank", "(I)Z"⟩, 111), (⟨"PitInspectorModel", "waysOf", "(I)I"⟩, 111), (⟨"PitInspectorModel", "adds", "(II)Z"⟩, 111), (⟨"PitInspectorModel", "canGo", "(II)Z"⟩, 111), (⟨"PitInspectorModel", "nearestOfPit", "(I)I"⟩, 111), (⟨"PitInspectorModel", "nearestOfFace", "(I)I"⟩, 111), (⟨"PitInspectorModel", "yardsOf", "(III)I"⟩, 111), (⟨"PitInspectorModel", "far", "(IIIIII)I"⟩, 111), (⟨"PitInspectorModel", "trueX", "(III)I"⟩, 111), (⟨"PitInspectorModel", "trueY", "(III)I"⟩, 111), (⟨"PitInspectorModel", "doubt", "(II)I"⟩, 111)]
theorem lw_r6 : ∀ q ∈ lw_privs_6, lw_okq q := List.forall_mem_cons.mpr ⟨lw_p80, List.forall_mem_cons.mpr ⟨lw_p81, List.forall_mem_cons.mpr ⟨lw_p82, List.forall_mem_cons.mpr ⟨lw_p83, List.forall_mem_cons.mpr ⟨lw_p84, List.forall_mem_cons.mpr ⟨lw_p85, List.forall_mem_cons.mpr ⟨lw_p86, List.forall_mem_cons.mpr ⟨lw_p87, List.forall_mem_cons.mpr ⟨lw_p88, List.forall_mem_cons.mpr ⟨lw_p89, List.forall_mem_cons.mpr ⟨lw_p90, List.forall_mem_cons.mpr ⟨lw_p91, List.forall_mem_cons.mpr ⟨lw_p92, List.forall_mem_cons.mpr ⟨lw_p93, List.forall_mem_cons.mpr ⟨lw_p94, List.forall_mem_cons.mpr ⟨lw_p95, fun _ h => absurd h List.not_mem_nil⟩⟩⟩⟩⟩⟩⟩⟩⟩⟩⟩⟩⟩⟩⟩⟩
theorem lw_p96 : lw_okq (⟨"PitInspectorModel", "lampsOut", "(I)I"⟩, 111) := ⟨⟨by decide +kernel, by decide +kernel⟩, List.mem_of_getElem? (i := 1458) (by decide +kernel), List.mem_of_getElem? (i := 2065) (by decide +kernel), List.mem_of_getElem? (i := 2066) (by decide +kernel)⟩
theorem lw_p97 : lw_okq (⟨"PitInspectorModel", "shotsSince", "(I)I"⟩, 111) := ⟨⟨by decide +kernel, by decide +kernel⟩, List.mem_of_getElem? (i := 1458) (by decide +kernel), List.mem_of_getElem? (i := 2069) (by decide +kernel), List.mem_of_getElem? (i := 2070) (by decide +kernel)⟩
theorem lw_p98 : lw_okq (⟨"PitInspectorModel", "breaks", "(II)I"⟩, 111) := ⟨⟨by decide +kernel, by decide +kernel⟩, List.mem_of_getElem? (i := 1458) (by decide +kernel), List.mem_of_getElem? (i := 2077) (by decide +kernel), List.mem_of_getElem? (i := 2078) (by decide +kernel)⟩
theorem lw_p99 : lw_okq (⟨"PitInspectorModel", "fineOf", "(II)I"⟩, 111) := ⟨⟨by decide +kernel, by decide +kernel⟩, List.mem_of_getElem? (i := 1458) (by decide +kernel), List.mem_of_getElem? (i := 2090) (by decide +kernel), List.mem_of_getElem? (i := 2091) (by decide +kernel)⟩
theorem lw_p100 : lw_okq (⟨"PitInspectorModel", "isAgainst", "(II)Z"⟩, 111) := ⟨⟨by decide +kernel, by decide +kernel⟩, List.mem_of_getElem? (i := 1458) (by decide +kernel), List.mem_of_getElem? (i := 2098) (by decide +kernel), List.mem_of_getElem? (i := 2099) (by decide +kernel)⟩
theorem lw_p101 : lw_okq (⟨"PitInspectorModel", "areAlike", "(II)Z"⟩, 111) := ⟨⟨by decide +kernel, by decide +kernel⟩, List.mem_of_getElem? (i := 1458) (by decide +kernel), List.mem_of_getElem? (i := 2102) (by decide +kernel), List.mem_of_getElem? (i := 2103) (by decide +kernel)⟩
theorem lw_p102 : lw_okq (⟨"PitInspectorModel", "isPlace", "(I)Z"⟩, 111) := ⟨⟨by decide +kernel, by decide +kernel⟩, List.mem_of_getElem? (i := 1458) (by decide +kernel), List.mem_of_getElem? (i := 2114) (by decide +kernel), List.mem_of_getElem? (i := 2115) (by decide +kernel)⟩
theorem lw_p103 : lw_okq (⟨"PitInspectorModel", "isRoad", "(I)Z"⟩, 111) := ⟨⟨by decide +kernel, by decide +kernel⟩, List.mem_of_getElem? (i := 1458) (by decide +kernel), List.mem_of_getElem? (i := 2122) (by decide +kernel), List.mem_of_getElem? (i := 2123) (by decide +kernel)⟩
theorem lw_p104 : lw_okq (⟨"PitInspectorModel", "isPlan", "(I)Z"⟩, 111) := ⟨⟨by decide +kernel, by decide +kernel⟩, List.mem_of_getElem? (i := 1458) (by decide +kernel), List.mem_of_getElem? (i := 2170) (by decide +kernel), List.mem_of_getElem? (i := 2171) (by decide +kernel)⟩
theorem lw_p105 : lw_okq (⟨"PitInspectorModel", "nearSet", "(I)I"⟩, 111) := ⟨⟨by decide +kernel, by decide +kernel⟩, List.mem_of_getElem? (i := 1458) (by decide +kernel), List.mem_of_getElem? (i := 2195) (by decide +kernel), List.mem_of_getElem? (i := 2196) (by decide +kernel)⟩
theorem lw_p106 : lw_okq (⟨"PitInspectorModel", "isHand", "(I)Z"⟩, 111) := ⟨⟨by decide +kernel, by decide +kernel⟩, List.mem_of_getElem? (i := 1458) (by decide +kernel), List.mem_of_getElem? (i := 2216) (by decide +kernel), List.mem_of_getElem? (i := 2217) (by decide +kernel)⟩
theorem lw_p107 : lw_okq (⟨"PitInspectorModel", "isWarning", "(I)Z"⟩, 111) := ⟨⟨by decide +kernel, by decide +kernel⟩, List.mem_of_getElem? (i := 1458) (by decide +kernel), List.mem_of_getElem? (i := 2257) (by decide +kernel), List.mem_of_getElem? (i := 2258) (by decide +kernel)⟩
theorem lw_p108 : lw_okq (⟨"PitInspectorModel", "hoursOf", "(I)I"⟩, 111) := ⟨⟨by decide +kernel, by decide +kernel⟩, List.mem_of_getElem? (i := 1458) (by decide +kernel), List.mem_of_getElem? (i := 2273) (by decide +kernel), List.mem_of_getElem? (i := 2274) (by decide +kernel)⟩
theorem lw_p109 : lw_okq (⟨"PitInspectorModel", "worthOfPit", "(I)I"⟩, 111) := ⟨⟨by decide +kernel, by decide +kernel⟩, List.mem_of_getElem? (i := 1458) (by decide +kernel), List.mem_of_getElem? (i := 2294) (by decide +kernel), List.mem_of_getElem? (i := 2295) (by decide +kernel)⟩
theorem lw_p110 : lw_okq (⟨"PitInspectorModel", "sends", "(I)V"⟩, 111) := ⟨⟨by decide +kernel, by decide +kernel⟩, List.mem_of_getElem? (i := 1458) (by decide +kernel), List.mem_of_getElem? (i := 2306) (by decide +kernel), List.mem_of_getElem? (i := 2307) (by decide +kernel)⟩
theorem lw_p111 : lw_okq (⟨"PitInspectorModel", "weighs", "()V"⟩, 111) := ⟨⟨by decide +kernel, by decide +kernel⟩, List.mem_of_getElem? (i := 1458) (by decide +kernel), List.mem_of_getElem? (i := 2327) (by decide +kernel), List.mem_of_getElem? (i := 2328) (by decide +kernel)⟩
def lw_privs_7 : List (MethodName × Nat) := [(⟨"PitInspectorModel", "lampsOut", "(I)I"⟩, 111), (⟨"PitInspectorModel", "shotsSince", "(I)I"⟩, 111), (⟨"PitInspectorModel", "breaks", "(II)I"⟩, 111), (⟨"PitInspectorModel", "fineOf", "(II)I"⟩, 111), (⟨"PitInspectorModel", "isAgainst", "(II)Z"⟩, 111), (⟨"PitInspectorModel", "areAlike", "(II)Z"⟩, 111), (⟨"PitInspectorModel", "isPlace", "(I)Z"⟩, 111), (⟨"PitInspectorModel", "isRoad", "(I)Z"⟩, 111), (⟨"PitInspectorModel", "isPlan", "(I)Z"⟩, 111), (⟨"PitInspectorModel", "nearSet", "(I)I"⟩, 111), (⟨"PitInspectorModel", "isHand", "(I)Z"⟩, 111), (⟨"PitInspectorModel", "isWarning", "(I)Z"⟩, 111), (⟨"PitInspectorModel", "hoursOf", "(I)I"⟩, 111), (⟨"PitInspectorModel", "worthOfPit", "(I)I"⟩, 111), (⟨"PitInspectorModel", "sends", "(I)V"⟩, 111), (⟨"PitInspectorModel", "weighs", "()V"⟩, 111)]
theorem lw_r7 : ∀ q ∈ lw_privs_7, lw_okq q := List.forall_mem_cons.mpr ⟨lw_p96, List.forall_mem_cons.mpr ⟨lw_p97, List.forall_mem_cons.mpr ⟨lw_p98, List.forall_mem_cons.mpr ⟨lw_p99, List.forall_mem_cons.mpr ⟨lw_p100, List.forall_mem_cons.mpr ⟨lw_p101, List.forall_mem_cons.mpr ⟨lw_p102, List.forall_mem_cons.mpr ⟨lw_p103, List.forall_mem_cons.mpr ⟨lw_p104, List.forall_mem_cons.mpr ⟨lw_p105, List.forall_mem_cons.mpr ⟨lw_p106, List.forall_mem_cons.mpr ⟨lw_p107, List.forall_mem_cons.mpr ⟨lw_p108, List.forall_mem_cons.mpr ⟨lw_p109, List.forall_mem_cons.mpr ⟨lw_p110, List.forall_mem_cons.mpr ⟨lw_p111, fun _ h => absurd h List.not_mem_nil⟩⟩⟩⟩⟩⟩⟩⟩⟩⟩⟩⟩⟩⟩⟩⟩
theorem lw_p112 : lw_okq (⟨"PitInspectorModel", "canBe", "(I)Z"⟩, 111) := ⟨⟨by decide +kernel, by decide +kernel⟩, List.mem_of_getElem? (i := 1458) (by decide +kernel), List.mem_of_getElem? (i := 2331) (by decide +kernel), List.mem_of_getElem? (i := 2332) (by decide +kernel)⟩
def lw_privs_8 : List (MethodName × Nat) := [(⟨"PitInspectorModel", "canBe", "(I)Z"⟩, 111)]
theorem lw_r8 : ∀ q ∈ lw_privs_8, lw_okq q := List.forall_mem_cons.mpr ⟨lw_p112, fun _ h => absurd h List.not_mem_nil⟩
def lw_privs : List (MethodName × Nat) := lw_privs_1 ++ (lw_privs_2 ++ (lw_privs_3 ++ (lw_privs_4 ++ (lw_privs_5 ++ (lw_privs_6 ++ (lw_privs_7 ++ (lw_privs_8)))))))
def lw_tbl : List Cond := k2_sels lw_privs ++ tables_1
theorem lw_privs_ok : ∀ q ∈ lw_privs, lw_okq q := by
  show ∀ q ∈ lw_privs_1 ++ (lw_privs_2 ++ (lw_privs_3 ++ (lw_privs_4 ++ (lw_privs_5 ++ (lw_privs_6 ++ (lw_privs_7 ++ (lw_privs_8))))))), lw_okq q
  exact List.forall_mem_append.mpr ⟨lw_r1, List.forall_mem_append.mpr ⟨lw_r2, List.forall_mem_append.mpr ⟨lw_r3, List.forall_mem_append.mpr ⟨lw_r4, List.forall_mem_append.mpr ⟨lw_r5, List.forall_mem_append.mpr ⟨lw_r6, List.forall_mem_append.mpr ⟨lw_r7, lw_r8⟩⟩⟩⟩⟩⟩⟩
-- ===== end of PART A; then your names; then what follows =====
end
section
/-! A SMALL MACHINE over a pure heap: what the program's bytecode does, as a function.
values: (0,x) an int, (1,x) a long, (2,a) the object or array number a, (3,0) null, (4,0) the script, (5,0) the text of letters, (9,0) nothing known.
a heap: the number that place j of cell a holds; the references (a cell's number + 1; null as 0), how many cells there are, the script's length, the script. -/
abbrev AV : Type := Nat × Int
abbrev Zt : Type := (Nat → Nat → Int) × Nat × Nat × (Nat → Int)
abbrev Hp : Type := (Nat → Nat → Int) × Zt
abbrev Ins : Type := Nat × Nat × List Nat × List Int
abbrev Res : Type := Option AV × Hp
abbrev GG : Type := Nat × Nat
def w32 (x : Int) : Int := Int.bmod x 4294967296
def w64 (x : Int) : Int := Int.bmod x 18446744073709551616
def ia32 (x y : Int) : Int := (Int32.ofInt x &&& Int32.ofInt y).toInt
def io32 (x y : Int) : Int := (Int32.ofInt x ||| Int32.ofInt y).toInt
def ix32 (x y : Int) : Int := (Int32.ofInt x ^^^ Int32.ofInt y).toInt
def ia64 (x y : Int) : Int := (Int64.ofInt x &&& Int64.ofInt y).toInt
def io64 (x y : Int) : Int := (Int64.ofInt x ||| Int64.ofInt y).toInt
def shl32 (x y : Int) : Int := w32 (x * 2 ^ (y % 32).toNat)
def shr32 (x y : Int) : Int := x / 2 ^ (y % 32).toNat
def ush32 (x y : Int) : Int := w32 ((x % 4294967296) / 2 ^ (y % 32).toNat)
def shl64 (x y : Int) : Int := w64 (x * 2 ^ (y % 64).toNat)
def shr64 (x y : Int) : Int := x / 2 ^ (y % 64).toNat
def lcm (x y : Int) : Int := if x < y then -1 else if x = y then 0 else 1
def up2 (f : Nat → Nat → Int) (a j : Nat) (x : Int) : Nat → Nat → Int := fun a' j' => if a' = a ∧ j' = j then x else f a' j'
def cp2 (f : Nat → Nat → Int) (a sp b dp n : Nat) : Nat → Nat → Int := fun a' j' => if a' = b ∧ dp ≤ j' ∧ j' < dp + n then f a (sp + (j' - dp)) else f a' j'
def lg : List AV → Nat → AV
  | [], _ => (9, 0)
  | v :: _, 0 => v
  | _ :: l, n + 1 => lg l n
def lset : List AV → Nat → AV → List AV
  | [], _, _ => []
  | _ :: l, 0, v => v :: l
  | u :: l, n + 1, v => u :: lset l n v
def lkill (ls : List AV) (a : Nat) : List AV := if 0 < a ∧ (lg ls (a - 1)).1 = 1 then lset ls (a - 1) (9, 0) else ls
def st1 (ls : List AV) (a : Nat) (v : AV) : List AV := lset (lkill ls a) a v
def st2 (ls : List AV) (a : Nat) (v : AV) : List AV := lset (lset (lkill ls a) a v) (a + 1) (9, 0)
def tk : Nat → List AV → List AV → Option (List AV × List AV)
  | 0, acc, s => some (acc, s)
  | _ + 1, _, [] => none
  | n + 1, acc, v :: s => tk n (v :: acc) s
def ent : Nat → List AV → List AV
  | 0, _ => []
  | n + 1, [] => (9, 0) :: ent n []
  | n + 1, (t, x) :: l => (t, x) :: (if t = 1 then (match n with | 0 => [] | n' + 1 => (9, 0) :: ent n' l) else ent n l)
def swt : List Int → List Nat → Nat → Int → Nat
  | k :: ks, t :: ts, d, x => if x = k then t else swt ks ts d x
  | _, _, d, _ => d
def idxOf : List Int → Int → Int → Int
  | [], _, _ => -1
  | k :: ks, n, x => if x = k then n else idxOf ks (n + 1) x
/-- how the cells lie: what each is (below 20 an object of that class; 20 ints, 21 bytes, 22 booleans, 23 longs, 24 texts) and how long -/
abbrev Lay : Type := Nat → Nat × Nat
def b1 (f : Int → Int) (nx : Nat) (ls stk : List AV) (h : Hp) (gg : GG) : Option (Nat × List AV × List AV × Hp × GG) := match stk with
  | (0, x) :: r => some (nx, ls, (0, f x) :: r, h, gg)
  | _ => none
def b2 (f : Int → Int → Int) (nx : Nat) (ls stk : List AV) (h : Hp) (gg : GG) : Option (Nat × List AV × List AV × Hp × GG) := match stk with
  | (0, y) :: (0, x) :: r => some (nx, ls, (0, f x y) :: r, h, gg)
  | _ => none
def b2z (f : Int → Int → Int) (nx : Nat) (ls stk : List AV) (h : Hp) (gg : GG) : Option (Nat × List AV × List AV × Hp × GG) := match stk with
  | (0, y) :: (0, x) :: r => if y = 0 then none else some (nx, ls, (0, f x y) :: r, h, gg)
  | _ => none
def l2 (f : Int → Int → Int) (nx : Nat) (ls stk : List AV) (h : Hp) (gg : GG) : Option (Nat × List AV × List AV × Hp × GG) := match stk with
  | (1, y) :: (1, x) :: r => some (nx, ls, (1, f x y) :: r, h, gg)
  | _ => none
def l2z (f : Int → Int → Int) (nx : Nat) (ls stk : List AV) (h : Hp) (gg : GG) : Option (Nat × List AV × List AV × Hp × GG) := match stk with
  | (1, y) :: (1, x) :: r => if y = 0 then none else some (nx, ls, (1, f x y) :: r, h, gg)
  | _ => none
def ls2 (f : Int → Int → Int) (nx : Nat) (ls stk : List AV) (h : Hp) (gg : GG) : Option (Nat × List AV × List AV × Hp × GG) := match stk with
  | (0, y) :: (1, x) :: r => some (nx, ls, (1, f x y) :: r, h, gg)
  | _ => none
/-- constants, locals -/
def effA (i : Ins) (ls stk : List AV) (h : Hp) (gg : GG) : Option (Nat × List AV × List AV × Hp × GG) :=
  let op := i.1; let nx := i.2.1; let a := i.2.2.1.headD 0; let v := i.2.2.2.headD 0
  if op ≤ 5 then some (nx, ls, (0, v) :: stk, h, gg)
  else if op ≤ 7 then some (nx, ls, (1, v) :: stk, h, gg)
  else if op = 8 then some (nx, ls, (5, 0) :: stk, h, gg)
  else if op ≤ 11 then (if (lg ls a).1 = 0 then some (nx, ls, lg ls a :: stk, h, gg) else none)
  else if op ≤ 13 then (if (lg ls a).1 = 1 then some (nx, ls, lg ls a :: stk, h, gg) else none)
  else if op ≤ 15 then (if (lg ls a).1 = 2 ∨ (lg ls a).1 = 4 then some (nx, ls, lg ls a :: stk, h, gg) else none)
  else if op ≤ 17 then (match stk with
    | (0, x) :: r => some (nx, st1 ls a (0, x), r, h, gg)
    | _ => none)
  else if op ≤ 19 then (match stk with
    | (1, x) :: r => some (nx, st2 ls a (1, x), r, h, gg)
    | _ => none)
  else if op ≤ 21 then (match stk with
    | (2, x) :: r => some (nx, st1 ls a (2, x), r, h, gg)
    | _ => none)
  else if op = 22 then (if (lg ls a).1 = 0 then some (nx, st1 ls a (0, w32 ((lg ls a).2 + v)), stk, h, gg) else none)
  else none
/-- reckoning -/
def effB (i : Ins) (ls stk : List AV) (h : Hp) (gg : GG) : Option (Nat × List AV × List AV × Hp × GG) :=
  let op := i.1; let nx := i.2.1
  if op = 30 then b2 (fun x y => w32 (x + y)) nx ls stk h gg
  else if op = 31 then b2 (fun x y => w32 (x - y)) nx ls stk h gg
  else if op = 32 then b2 (fun x y => w32 (x * y)) nx ls stk h gg
  else if op = 33 then b2z (fun x y => w32 (Int.tdiv x y)) nx ls stk h gg
  else if op = 34 then b2z (fun x y => Int.tmod x y) nx ls stk h gg
  else if op = 35 then b1 (fun x => w32 (-x)) nx ls stk h gg
  else if op = 36 then b2 shl32 nx ls stk h gg
  else if op = 37 then b2 shr32 nx ls stk h gg
  else if op = 38 then b2 ush32 nx ls stk h gg
  else if op = 39 then b2 ia32 nx ls stk h gg
  else if op = 40 then b2 io32 nx ls stk h gg
  else if op = 41 then b2 ix32 nx ls stk h gg
  else if op = 42 then (match stk with
    | (0, x) :: r => some (nx, ls, (1, x) :: r, h, gg)
    | _ => none)
  else if op = 43 then (match stk with
    | (1, x) :: r => some (nx, ls, (0, w32 x) :: r, h, gg)
    | _ => none)
  else if op = 44 then b1 (fun x => Int.bmod x 256) nx ls stk h gg
  else if op = 45 then b1 (fun x => x % 65536) nx ls stk h gg
  else if op = 46 then l2 (fun x y => w64 (x + y)) nx ls stk h gg
  else if op = 47 then l2 (fun x y => w64 (x - y)) nx ls stk h gg
  else if op = 48 then l2 (fun x y => w64 (x * y)) nx ls stk h gg
  else if op = 49 then l2z (fun x y => w64 (Int.tdiv x y)) nx ls stk h gg
  else if op = 50 then l2z (fun x y => Int.tmod x y) nx ls stk h gg
  else if op = 51 then (match stk with
    | (1, y) :: (1, x) :: r => some (nx, ls, (0, lcm x y) :: r, h, gg)
    | _ => none)
  else if op = 52 then l2 ia64 nx ls stk h gg
  else if op = 53 then l2 io64 nx ls stk h gg
  else if op = 54 then ls2 shl64 nx ls stk h gg
  else if op = 55 then ls2 shr64 nx ls stk h gg
  else if op = 56 then (match stk with
    | v :: r => if v.1 = 1 then none else some (nx, ls, v :: v :: r, h, gg)
    | _ => none)
  else if op = 57 then (match stk with
    | v :: u :: r => if v.1 = 1 ∨ u.1 = 1 then none else some (nx, ls, v :: u :: v :: u :: r, h, gg)
    | _ => none)
  else if op = 58 then (match stk with
    | v :: r => if v.1 = 1 then none else some (nx, ls, r, h, gg)
    | _ => none)
  else none
def c1 (q : Int → Bool) (t nx : Nat) (ls stk : List AV) (h : Hp) (gg : GG) : Option (Nat × List AV × List AV × Hp × GG) := match stk with
  | (0, x) :: r => some (if q x = true then t else nx, ls, r, h, gg)
  | _ => none
def c2 (q : Int → Int → Bool) (t nx : Nat) (ls stk : List AV) (h : Hp) (gg : GG) : Option (Nat × List AV × List AV × Hp × GG) := match stk with
  | (0, y) :: (0, x) :: r => some (if q x y = true then t else nx, ls, r, h, gg)
  | _ => none
/-- branches -/
def effC (i : Ins) (ls stk : List AV) (h : Hp) (gg : GG) : Option (Nat × List AV × List AV × Hp × GG) :=
  let op := i.1; let nx := i.2.1; let t := i.2.2.1.headD 0
  if op = 60 then c1 (fun x => decide (x = 0)) t nx ls stk h gg
  else if op = 61 then c1 (fun x => decide (¬ x = 0)) t nx ls stk h gg
  else if op = 62 then c1 (fun x => decide (x < 0)) t nx ls stk h gg
  else if op = 63 then c1 (fun x => decide (0 ≤ x)) t nx ls stk h gg
  else if op = 64 then c1 (fun x => decide (0 < x)) t nx ls stk h gg
  else if op = 65 then c1 (fun x => decide (x ≤ 0)) t nx ls stk h gg
  else if op = 66 then c2 (fun x y => decide (x = y)) t nx ls stk h gg
  else if op = 67 then c2 (fun x y => decide (¬ x = y)) t nx ls stk h gg
  else if op = 68 then c2 (fun x y => decide (x < y)) t nx ls stk h gg
  else if op = 69 then c2 (fun x y => decide (y ≤ x)) t nx ls stk h gg
  else if op = 70 then c2 (fun x y => decide (y < x)) t nx ls stk h gg
  else if op = 71 then c2 (fun x y => decide (x ≤ y)) t nx ls stk h gg
  else if op = 72 then (match stk with
    | (3, _) :: r => some (t, ls, r, h, gg)
    | (2, _) :: r => some (nx, ls, r, h, gg)
    | _ => none)
  else if op = 73 then some (t, ls, stk, h, gg)
  else if op ≤ 75 then (match stk with
    | (0, x) :: r => some (swt i.2.2.2 i.2.2.1.tail t x, ls, r, h, gg)
    | _ => none)
  else none
/-- cells -/
def effD (LY : Lay) (al : GG) (i : Ins) (ls stk : List AV) (h : Hp) (gg : GG) : Option (Nat × List AV × List AV × Hp × GG) :=
  let op := i.1; let nx := i.2.1; let a := i.2.2.1.headD 0; let b := i.2.2.1.tail.headD 0
  if op ≤ 77 then (match stk with
    | (0, x) :: r => if 0 ≤ x ∧ LY h.2.2.1 = (a, x.toNat) ∧ gg.1 + 1 ≤ al.1 ∧ gg.2 + x.toNat ≤ al.2 then some (nx, ls, (2, (h.2.2.1 : Int)) :: r, (h.1, h.2.1, h.2.2.1 + 1, h.2.2.2), (gg.1 + 1, gg.2 + x.toNat)) else none
    | _ => none)
  else if op = 78 then (if (LY h.2.2.1).1 = a ∧ gg.1 + 1 ≤ al.1 ∧ gg.2 + (LY h.2.2.1).2 ≤ al.2 then some (nx, ls, (2, (h.2.2.1 : Int)) :: stk, (h.1, h.2.1, h.2.2.1 + 1, h.2.2.2), (gg.1 + 1, gg.2 + (LY h.2.2.1).2)) else none)
  else if op = 80 then (match stk with
    | (0, x) :: (2, q) :: r => if (LY q.toNat).1 = 20 ∧ 0 ≤ x ∧ x < ((LY q.toNat).2 : Int) then some (nx, ls, (0, h.1 q.toNat x.toNat) :: r, h, gg) else none
    | (0, x) :: (4, _) :: r => if 0 ≤ x ∧ x < (h.2.2.2.1 : Int) then some (nx, ls, (0, h.2.2.2.2 x.toNat) :: r, h, gg) else none
    | _ => none)
  else if op = 81 then (match stk with
    | (0, x) :: (2, q) :: r => if ((LY q.toNat).1 = 21 ∨ (LY q.toNat).1 = 22) ∧ 0 ≤ x ∧ x < ((LY q.toNat).2 : Int) then some (nx, ls, (0, h.1 q.toNat x.toNat) :: r, h, gg) else none
    | _ => none)
  else if op = 82 then (match stk with
    | (0, x) :: (2, q) :: r => if (LY q.toNat).1 = 23 ∧ 0 ≤ x ∧ x < ((LY q.toNat).2 : Int) then some (nx, ls, (1, h.1 q.toNat x.toNat) :: r, h, gg) else none
    | _ => none)
  else if op = 83 then (match stk with
    | (0, x) :: (2, q) :: r => if (LY q.toNat).1 = 24 ∧ 0 ≤ x ∧ x < ((LY q.toNat).2 : Int) ∧ ¬ h.2.1 q.toNat x.toNat = 0 then some (nx, ls, (2, h.2.1 q.toNat x.toNat - 1) :: r, h, gg) else none
    | _ => none)
  else if op = 84 then (match stk with
    | (0, v) :: (0, x) :: (2, q) :: r => if (LY q.toNat).1 = 20 ∧ 0 ≤ x ∧ x < ((LY q.toNat).2 : Int) then some (nx, ls, r, (up2 h.1 q.toNat x.toNat v, h.2), gg) else none
    | _ => none)
  else if op = 85 then (match stk with
    | (0, v) :: (0, x) :: (2, q) :: r => if 0 ≤ x ∧ x < ((LY q.toNat).2 : Int) then (if (LY q.toNat).1 = 21 then some (nx, ls, r, (up2 h.1 q.toNat x.toNat (Int.bmod v 256), h.2), gg) else if (LY q.toNat).1 = 22 ∧ (v = 0 ∨ v = 1) then some (nx, ls, r, (up2 h.1 q.toNat x.toNat v, h.2), gg) else none) else none
    | _ => none)
  else if op = 86 then (match stk with
    | (1, v) :: (0, x) :: (2, q) :: r => if (LY q.toNat).1 = 23 ∧ 0 ≤ x ∧ x < ((LY q.toNat).2 : Int) then some (nx, ls, r, (up2 h.1 q.toNat x.toNat v, h.2), gg) else none
    | _ => none)
  else if op = 87 then (match stk with
    | (2, v) :: (0, x) :: (2, q) :: r => if (LY q.toNat).1 = 24 ∧ (LY v.toNat).1 = b ∧ 0 ≤ x ∧ x < ((LY q.toNat).2 : Int) then some (nx, ls, r, (h.1, up2 h.2.1 q.toNat x.toNat (v + 1), h.2.2), gg) else none
    | _ => none)
  else if op = 88 then (match stk with
    | (2, q) :: r => if 20 ≤ (LY q.toNat).1 ∧ (LY q.toNat).1 ≤ 24 then some (nx, ls, (0, ((LY q.toNat).2 : Int)) :: r, h, gg) else none
    | (4, _) :: r => some (nx, ls, (0, (h.2.2.2.1 : Int)) :: r, h, gg)
    | _ => none)
  else if op = 90 then (match stk with
    | (2, q) :: r => if (LY q.toNat).1 = a then some (nx, ls, (0, h.1 q.toNat b) :: r, h, gg) else none
    | _ => none)
  else if op = 91 then (match stk with
    | (2, q) :: r => if (LY q.toNat).1 = a then some (nx, ls, (if h.2.1 q.toNat b = 0 then (3, 0) else (2, h.2.1 q.toNat b - 1)) :: r, h, gg) else none
    | _ => none)
  else if op = 92 then (match stk with
    | (0, v) :: (2, q) :: r => if (LY q.toNat).1 = a then some (nx, ls, r, (up2 h.1 q.toNat b v, h.2), gg) else none
    | _ => none)
  else if op = 93 then (match stk with
    | (2, v) :: (2, q) :: r => if (LY q.toNat).1 = a then some (nx, ls, r, (h.1, up2 h.2.1 q.toNat b (v + 1), h.2.2), gg) else none
    | _ => none)
  else if op = 94 then (match stk with
    | (0, v) :: (2, q) :: r => if (LY q.toNat).1 = a ∧ (v = 0 ∨ v = 1) then some (nx, ls, r, (up2 h.1 q.toNat b v, h.2), gg) else none
    | _ => none)
  else if op = 95 then (match stk with
    | (2, _) :: r => if r.length ≤ 4 then some (nx, ls, r, h, gg) else none
    | _ => none)
  else if op = 96 then (match stk with
    | (0, n) :: (0, dp) :: (2, q) :: (0, sp) :: (2, p) :: r => if ((LY p.toNat).1 = 20 ∨ (LY p.toNat).1 = 21) ∧ (LY q.toNat).1 = (LY p.toNat).1 ∧ 0 ≤ sp ∧ 0 ≤ dp ∧ 0 ≤ n ∧ sp + n ≤ ((LY p.toNat).2 : Int) ∧ dp + n ≤ ((LY q.toNat).2 : Int) ∧ r.length ≤ 4 then some (nx, ls, r, (cp2 h.1 p.toNat sp.toNat q.toNat dp.toNat n.toNat, h.2), gg) else none
    | _ => none)
  else if op = 97 then (match stk with
    | (0, x) :: (5, _) :: r => if r.length ≤ 4 then some (nx, ls, (0, idxOf i.2.2.2 0 x) :: r, h, gg) else none
    | _ => none)
  else none
def eff (LY : Lay) (al : GG) (i : Ins) (ls stk : List AV) (h : Hp) (gg : GG) : Option (Nat × List AV × List AV × Hp × GG) :=
  if i.1 < 30 then effA i ls stk h gg else if i.1 < 60 then effB i ls stk h gg else if i.1 < 76 then effC i ls stk h gg else effD LY al i ls stk h gg
/-- what the program is: how cells lie; its code, by method and place; a method's room for new cells and their places; its locals; its class (50: static; 60: a constructor); what it returns (0 nothing, 1 an int, 2 a boolean, 3 a long) -/
abbrev Prg : Type := Lay × (Nat → Nat → Ins) × (Nat → GG) × (Nat → Nat) × (Nat → Nat) × (Nat → Nat)
abbrev Cal : Type := Nat → List AV → Hp → Option Res
abbrev Kon : Type := Nat → List AV → List AV → Hp → GG → Option Res
def goRet (P : Prg) (m : Nat) (i : Ins) (stk : List AV) (h : Hp) : Option Res :=
  if i.1 = 110 then (match stk with
    | [(0, x)] => if P.2.2.2.2.2 m = 2 then (if x = 0 ∨ x = 1 then some (some (0, x), h) else none) else some (some (0, x), h)
    | _ => none)
  else if i.1 = 111 then (match stk with
    | [(1, x)] => some (some (1, x), h)
    | _ => none)
  else (match stk with
    | [] => some (none, h)
    | _ => none)
def rcv (LY : Lay) (c : Nat) (as : List AV) : Bool := if c = 50 then true else match as with
  | (2, q) :: _ => if c = 60 then true else decide ((LY q.toNat).1 = c)
  | _ => false
def goCall (P : Prg) (C : Cal) (k : Kon) (m : Nat) (i : Ins) (ls stk : List AV) (h : Hp) (gg : GG) : Option Res :=
  let c := i.2.2.1.headD 0; let na := i.2.2.1.tail.headD 0
  match tk na [] stk with
  | some (as, r) => (match (if rcv P.1 (P.2.2.2.2.1 c) as = true ∧ r.length ≤ 4 ∧ gg.1 + (P.2.2.1 c).1 ≤ (P.2.2.1 m).1 ∧ gg.2 + (P.2.2.1 c).2 ≤ (P.2.2.1 m).2 then C c as h else none) with
    | some (v, h') => k i.2.1 ls (v.toList ++ r) h' (gg.1 + (P.2.2.1 c).1, gg.2 + (P.2.2.1 c).2)
    | none => none)
  | none => none
def go (P : Prg) (C : Cal) (k : Kon) (m : Nat) (i : Ins) (ls stk : List AV) (h : Hp) (gg : GG) : Option Res :=
  if i.1 < 100 then (match eff P.1 (P.2.2.1 m) i ls stk h gg with
    | some r => k r.1 r.2.1 r.2.2.1 r.2.2.2.1 r.2.2.2.2
    | none => none)
  else if i.1 < 110 then goCall P C k m i ls stk h gg
  else goRet P m i stk h
def run (P : Prg) (C : Cal) : Nat → Nat → Kon
  | 0, _ => fun _ _ _ _ _ => none
  | n + 1, m => fun pc ls stk h gg => go P C (run P C n m) m (P.2.1 m pc) ls stk h gg
noncomputable def Run (P : Prg) (C : Cal) (m : Nat) : Kon := fun pc ls stk h gg =>
  @dite (Option Res) (∃ x n, run P C n m pc ls stk h gg = some x) (Classical.propDecidable _) (fun hx => some hx.choose) (fun _ => none)
noncomputable def Call (P : Prg) : Nat → Cal
  | 0 => fun _ _ _ => none
  | d + 1 => fun m as h => Run P (Call P d) m 0 (ent (P.2.2.2.1 m) as) [] h (0, 0)
/-- what k says is used at one place at most -/
theorem go_local (P : Prg) (C : Cal) (m : Nat) (i : Ins) (ls stk : List AV) (h : Hp) (gg : GG) : (∃ r : Option Res, ∀ k, go P C k m i ls stk h gg = r) ∨ (∃ pc ls' stk' h' gg', ∀ k : Kon, go P C k m i ls stk h gg = k pc ls' stk' h' gg') := by
  unfold go
  split
  · cases eff P.1 (P.2.2.1 m) i ls stk h gg with
    | none => exact Or.inl ⟨none, fun _ => rfl⟩
    | some r => exact Or.inr ⟨_, _, _, _, _, fun _ => rfl⟩
  · split
    · unfold goCall
      dsimp only
      cases tk (i.2.2.1.tail.headD 0) [] stk with
      | none => exact Or.inl ⟨none, fun _ => rfl⟩
      | some q =>
        obtain ⟨as, r⟩ := q
        dsimp only
        generalize (if rcv P.1 (P.2.2.2.2.1 (i.2.2.1.headD 0)) as = true ∧ r.length ≤ 4 ∧ gg.1 + (P.2.2.1 (i.2.2.1.headD 0)).1 ≤ (P.2.2.1 m).1 ∧ gg.2 + (P.2.2.1 (i.2.2.1.headD 0)).2 ≤ (P.2.2.1 m).2 then C (i.2.2.1.headD 0) as h else none) = z
        cases z with
        | none => exact Or.inl ⟨none, fun _ => rfl⟩
        | some q => exact Or.inr ⟨_, _, _, _, _, fun _ => rfl⟩
    · exact Or.inl ⟨_, fun _ => rfl⟩
theorem run_up {P : Prg} {C : Cal} {m : Nat} : ∀ {n pc ls stk h gg x}, run P C n m pc ls stk h gg = some x → run P C (n + 1) m pc ls stk h gg = some x := by
  intro n
  induction n with
  | zero => intro pc ls stk h gg x hx; cases hx
  | succ n ih =>
    intro pc ls stk h gg x hx
    show go P C (run P C (n + 1) m) m (P.2.1 m pc) ls stk h gg = some x
    have hx' : go P C (run P C n m) m (P.2.1 m pc) ls stk h gg = some x := hx
    rcases go_local P C m (P.2.1 m pc) ls stk h gg with ⟨r, hr⟩ | ⟨pc', ls', stk', h', gg', hr⟩
    · rw [hr] at hx' ⊢; exact hx'
    · rw [hr] at hx' ⊢; exact ih hx'
theorem run_le {P : Prg} {C : Cal} {m : Nat} {n n' pc ls stk h gg x} (hn : n ≤ n') (hx : run P C n m pc ls stk h gg = some x) : run P C n' m pc ls stk h gg = some x := by
  induction hn with
  | refl => exact hx
  | step _ ih => exact run_up ih
theorem run_det {P : Prg} {C : Cal} {m : Nat} {n n' pc ls stk h gg x y} (hx : run P C n m pc ls stk h gg = some x) (hy : run P C n' m pc ls stk h gg = some y) : x = y := by
  have h1 := run_le (Nat.le_max_left n n') hx
  have h2 := run_le (Nat.le_max_right n n') hy
  rw [h1] at h2
  exact Option.some.inj h2
theorem Run_of {P : Prg} {C : Cal} {m : Nat} {n pc ls stk h gg x} (hx : run P C n m pc ls stk h gg = some x) : Run P C m pc ls stk h gg = some x := by
  unfold Run
  have he : ∃ x n, run P C n m pc ls stk h gg = some x := ⟨x, n, hx⟩
  rw [dif_pos he]
  obtain ⟨n', hn'⟩ := he.choose_spec
  rw [run_det hn' hx]
theorem Run_to {P : Prg} {C : Cal} {m : Nat} {pc ls stk h gg x} (hx : Run P C m pc ls stk h gg = some x) : ∃ n, run P C n m pc ls stk h gg = some x := by
  unfold Run at hx
  by_cases he : ∃ x n, run P C n m pc ls stk h gg = some x
  · rw [dif_pos he] at hx
    rw [← Option.some.inj hx]
    exact he.choose_spec
  · rw [dif_neg he] at hx; cases hx
/-- THE STEP -/
theorem Run_eq (P : Prg) (C : Cal) (m pc : Nat) (ls stk : List AV) (h : Hp) (gg : GG) : Run P C m pc ls stk h gg = go P C (Run P C m) m (P.2.1 m pc) ls stk h gg := by
  have key : ∀ x, Run P C m pc ls stk h gg = some x ↔ go P C (Run P C m) m (P.2.1 m pc) ls stk h gg = some x := by
    intro x
    constructor
    · intro hx
      obtain ⟨n, hn⟩ := Run_to hx
      cases n with
      | zero => cases hn
      | succ n =>
        have hn' : go P C (run P C n m) m (P.2.1 m pc) ls stk h gg = some x := hn
        rcases go_local P C m (P.2.1 m pc) ls stk h gg with ⟨r, hr⟩ | ⟨pc', ls', stk', h', gg', hr⟩
        · rw [hr] at hn' ⊢; exact hn'
        · rw [hr] at hn' ⊢; exact Run_of hn'
    · intro hx
      rcases go_local P C m (P.2.1 m pc) ls stk h gg with ⟨r, hr⟩ | ⟨pc', ls', stk', h', gg', hr⟩
      · rw [hr] at hx
        exact Run_of (n := 1) (by show go P C (run P C 0 m) m (P.2.1 m pc) ls stk h gg = some x; rw [hr]; exact hx)
      · rw [hr] at hx
        obtain ⟨n, hn⟩ := Run_to hx
        exact Run_of (n := n + 1) (by show go P C (run P C n m) m (P.2.1 m pc) ls stk h gg = some x; rw [hr]; exact hn)
  cases h1 : go P C (Run P C m) m (P.2.1 m pc) ls stk h gg with
  | some x => exact (key x).mpr h1
  | none =>
    cases h2 : Run P C m pc ls stk h gg with
    | none => rfl
    | some x => rw [(key x).mp h2] at h1; cases h1
end
section
/-! numbers: the small machine's Int beside the machine's Int32 and Int64 -/
def in32 (x : Int) : Prop := -2147483648 ≤ x ∧ x < 2147483648
def in64 (x : Int) : Prop := -9223372036854775808 ≤ x ∧ x < 9223372036854775808
abbrev I3 (x : Int) : Int32 := Int32.ofInt x
abbrev I6 (x : Int) : Int64 := Int64.ofInt x
theorem w32_in (x : Int) : in32 (w32 x) := by
  unfold w32 in32
  have h1 := Int.le_bmod (x := x) (m := 4294967296) (by omega)
  have h2 := Int.bmod_lt (x := x) (m := 4294967296) (by omega)
  omega
theorem w64_in (x : Int) : in64 (w64 x) := by
  unfold w64 in64
  have h1 := Int.le_bmod (x := x) (m := 18446744073709551616) (by omega)
  have h2 := Int.bmod_lt (x := x) (m := 18446744073709551616) (by omega)
  omega
theorem w32_id {x : Int} (h : in32 x) : w32 x = x := by
  unfold w32 in32 at *
  exact Int.bmod_eq_of_le (by omega) (by omega)
theorem w64_id {x : Int} (h : in64 x) : w64 x = x := by
  unfold w64 in64 at *
  exact Int.bmod_eq_of_le (by omega) (by omega)
theorem I3_to {x : Int} (h : in32 x) : (I3 x).toInt = x := by
  show (Int32.ofInt x).toInt = x
  rw [Int32.toInt_ofInt]
  exact w32_id h
theorem I6_to {x : Int} (h : in64 x) : (I6 x).toInt = x := by
  show (Int64.ofInt x).toInt = x
  rw [Int64.toInt_ofInt]
  exact w64_id h
theorem I3_w (x : Int) : I3 (w32 x) = I3 x := by
  apply Int32.toInt_inj.mp
  show (Int32.ofInt _).toInt = (Int32.ofInt _).toInt
  rw [Int32.toInt_ofInt, Int32.toInt_ofInt]
  exact Int.bmod_bmod
theorem I6_w (x : Int) : I6 (w64 x) = I6 x := by
  apply Int64.toInt_inj.mp
  show (Int64.ofInt _).toInt = (Int64.ofInt _).toInt
  rw [Int64.toInt_ofInt, Int64.toInt_ofInt]
  exact Int.bmod_bmod
theorem I3_of (z : Int32) : I3 z.toInt = z := Int32.ofInt_toInt z
theorem I6_of (z : Int64) : I6 z.toInt = z := Int64.ofInt_toInt z
theorem in32_to (z : Int32) : in32 z.toInt := ⟨Int32.le_toInt z, Int32.toInt_lt z⟩
theorem in64_to (z : Int64) : in64 z.toInt := ⟨Int64.le_toInt z, Int64.toInt_lt z⟩
theorem I3_add (x y : Int) : I3 x + I3 y = I3 (w32 (x + y)) := by rw [I3_w]; exact (Int32.ofInt_add x y).symm
theorem I3_sub (x y : Int) : I3 x - I3 y = I3 (w32 (x - y)) := by rw [I3_w]; exact (Int32.ofInt_sub x y).symm
theorem I3_mul (x y : Int) : I3 x * I3 y = I3 (w32 (x * y)) := by rw [I3_w]; exact (Int32.ofInt_mul x y).symm
theorem I3_neg (x : Int) : - I3 x = I3 (w32 (-x)) := by rw [I3_w]; exact (Int32.ofInt_neg x).symm
theorem I6_add (x y : Int) : I6 x + I6 y = I6 (w64 (x + y)) := by rw [I6_w]; exact (Int64.ofInt_add x y).symm
theorem I6_sub (x y : Int) : I6 x - I6 y = I6 (w64 (x - y)) := by rw [I6_w]; exact (Int64.ofInt_sub x y).symm
theorem I6_mul (x y : Int) : I6 x * I6 y = I6 (w64 (x * y)) := by rw [I6_w]; exact (Int64.ofInt_mul x y).symm
theorem I3_div {x y : Int} (hx : in32 x) (hy : in32 y) : I3 x / I3 y = I3 (w32 (Int.tdiv x y)) := by
  apply Int32.toInt_inj.mp
  rw [Int32.toInt_div, I3_to hx, I3_to hy, I3_to (w32_in _)]
  rfl
theorem I6_div {x y : Int} (hx : in64 x) (hy : in64 y) : I6 x / I6 y = I6 (w64 (Int.tdiv x y)) := by
  apply Int64.toInt_inj.mp
  rw [Int64.toInt_div, I6_to hx, I6_to hy, I6_to (w64_in _)]
  rfl
theorem tmod_in32 {x y : Int} (hx : in32 x) (hy : y ≠ 0) : in32 (Int.tmod x y) := by
  unfold in32 at *
  have h1 : (Int.tmod x y).natAbs ≤ x.natAbs := by rw [Int.natAbs_tmod]; exact Nat.mod_le _ _
  have h2 : 0 ≤ x → 0 ≤ Int.tmod x y := fun h => Int.tmod_nonneg y h
  have h3 : x ≤ 0 → Int.tmod x y ≤ 0 := fun h => by
    have := Int.tmod_nonneg y (show 0 ≤ -x by omega)
    rw [Int.neg_tmod] at this
    omega
  omega
theorem tmod_in64 {x y : Int} (hx : in64 x) (hy : y ≠ 0) : in64 (Int.tmod x y) := by
  unfold in64 at *
  have h1 : (Int.tmod x y).natAbs ≤ x.natAbs := by rw [Int.natAbs_tmod]; exact Nat.mod_le _ _
  have h2 : 0 ≤ x → 0 ≤ Int.tmod x y := fun h => Int.tmod_nonneg y h
  have h3 : x ≤ 0 → Int.tmod x y ≤ 0 := fun h => by
    have := Int.tmod_nonneg y (show 0 ≤ -x by omega)
    rw [Int.neg_tmod] at this
    omega
  omega
theorem I3_rem {x y : Int} (hx : in32 x) (hy : in32 y) (h0 : y ≠ 0) : I3 x - I3 x / I3 y * I3 y = I3 (Int.tmod x y) := by
  rw [I3_div hx hy, I3_mul, I3_sub]
  apply Int32.toInt_inj.mp
  show (Int32.ofInt _).toInt = (Int32.ofInt _).toInt
  rw [Int32.toInt_ofInt, Int32.toInt_ofInt]
  unfold w32
  have e : Int.tmod x y = x - Int.tdiv x y * y := by have := Int.tmod_add_mul_tdiv x y; rw [Int.mul_comm] at this; omega
  rw [e]
  rw [Int.bmod_bmod, Int.sub_bmod_bmod, Int.sub_bmod, Int.bmod_mul_bmod, ← Int.sub_bmod]
theorem I6_rem {x y : Int} (hx : in64 x) (hy : in64 y) (h0 : y ≠ 0) : I6 x - I6 x / I6 y * I6 y = I6 (Int.tmod x y) := by
  rw [I6_div hx hy, I6_mul, I6_sub]
  apply Int64.toInt_inj.mp
  show (Int64.ofInt _).toInt = (Int64.ofInt _).toInt
  rw [Int64.toInt_ofInt, Int64.toInt_ofInt]
  unfold w64
  have e : Int.tmod x y = x - Int.tdiv x y * y := by have := Int.tmod_add_mul_tdiv x y; rw [Int.mul_comm] at this; omega
  rw [e]
  rw [Int.bmod_bmod, Int.sub_bmod_bmod, Int.sub_bmod, Int.bmod_mul_bmod, ← Int.sub_bmod]
theorem I3_eq {x y : Int} (hx : in32 x) (hy : in32 y) : I3 x = I3 y ↔ x = y := by rw [← Int32.toInt_inj, I3_to hx, I3_to hy]
theorem I3_lt {x y : Int} (hx : in32 x) (hy : in32 y) : I3 x < I3 y ↔ x < y := by rw [Int32.lt_iff_toInt_lt, I3_to hx, I3_to hy]
theorem I3_le {x y : Int} (hx : in32 x) (hy : in32 y) : I3 x ≤ I3 y ↔ x ≤ y := by rw [Int32.le_iff_toInt_le, I3_to hx, I3_to hy]
theorem I6_eq {x y : Int} (hx : in64 x) (hy : in64 y) : I6 x = I6 y ↔ x = y := by rw [← Int64.toInt_inj, I6_to hx, I6_to hy]
theorem I6_lt {x y : Int} (hx : in64 x) (hy : in64 y) : I6 x < I6 y ↔ x < y := by rw [Int64.lt_iff_toInt_lt, I6_to hx, I6_to hy]
theorem in32_0 : in32 0 := ⟨by decide, by decide⟩
theorem I3_0 : I3 0 = 0 := rfl
theorem I3_cl {x : Int} (hx : in32 x) : (I3 x).toNatClampNeg = x.toNat := by
  show (I3 x).toInt.toNat = _
  rw [I3_to hx]
theorem I3_vp {x : Int} (hx : in32 x) {n : Nat} : vp_in (I3 x) n ↔ 0 ≤ x ∧ x < n := by rw [vp_in_iff, I3_to hx]
theorem I3_and (x y : Int) : I3 x &&& I3 y = I3 (ia32 x y) := (I3_of _).symm
theorem I3_or (x y : Int) : I3 x ||| I3 y = I3 (io32 x y) := (I3_of _).symm
theorem I3_xor (x y : Int) : I3 x ^^^ I3 y = I3 (ix32 x y) := (I3_of _).symm
theorem I6_and (x y : Int) : I6 x &&& I6 y = I6 (ia64 x y) := (I6_of _).symm
theorem I6_or (x y : Int) : I6 x ||| I6 y = I6 (io64 x y) := (I6_of _).symm
theorem I3_i2l {x : Int} (hx : in32 x) : (I3 x).toInt64 = I6 x := by
  apply Int64.toInt_inj.mp
  rw [Int32.toInt_toInt64, I3_to hx, I6_to ⟨by have := hx.1; omega, by have := hx.2; omega⟩]
theorem I6_l2i {x : Int} (hx : in64 x) : (I6 x).toInt32 = I3 (w32 x) := by
  apply Int32.toInt_inj.mp
  rw [Int64.toInt_toInt32, I6_to hx, I3_to (w32_in _)]
  rfl
theorem I3_i2b {x : Int} (hx : in32 x) : (I3 x).toInt8.toInt32 = I3 (Int.bmod x 256) := by
  apply Int32.toInt_inj.mp
  have hr : in32 (Int.bmod x 256) := by
    have h1 := Int.le_bmod (x := x) (m := 256) (by omega)
    have h2 := Int.bmod_lt (x := x) (m := 256) (by omega)
    unfold in32; omega
  rw [Int8.toInt_toInt32, Int32.toInt_toInt8, I3_to hx, I3_to hr]
theorem I3_i2c {x : Int} (hx : in32 x) : ((I3 x).toUInt32 % 65536).toInt32 = I3 (x % 65536) := by
  rw [pk_char]
  apply Int32.toInt_inj.mp
  rw [nI_toInt (by omega), I3_to (by unfold in32; omega)]
  have h1 : (I3 x).toBitVec.toNat = (x % 4294967296).toNat := by
    show (BitVec.ofInt 32 x).toNat = _
    rw [BitVec.toNat_ofInt]
    rfl
  rw [h1]
  omega
theorem I3_bv (x : Int) : (I3 x).toBitVec.toNat = (x % 4294967296).toNat := by
  show (BitVec.ofInt 32 x).toNat = _
  rw [BitVec.toNat_ofInt]
  rfl
theorem I6_bv (x : Int) : (I6 x).toBitVec.toNat = (x % 18446744073709551616).toNat := by
  show (BitVec.ofInt 64 x).toNat = _
  rw [BitVec.toNat_ofInt]
  rfl
theorem I3_sh (y : Int) : I3 y &&& 31 = nI (y % 32).toNat := by
  rw [pk_and (I3 y) (m := 31) 5 (by decide), I3_bv]
  congr 1
  omega
theorem sh_lt (y : Int) : (y % 32).toNat < 32 := by omega
theorem sh_lt6 (y : Int) : (y % 64).toNat < 64 := by omega
theorem sm32 : ∀ n, n < 32 → ((nI n).toBitVec.smod 32).toNat = n := by decide
theorem sm64 : ∀ n, n < 64 → ((BitVec.ofNat 64 n).smod 64).toNat = n := by decide
theorem I3_shl (x y : Int) : I3 x <<< (I3 y &&& 31) = I3 (shl32 x y) := by
  unfold shl32
  rw [I3_w, I3_sh]
  apply Int32.toBitVec_inj.mp
  apply BitVec.eq_of_toNat_eq
  rw [pk_shl _ _ (y % 32).toNat (sm32 _ (sh_lt y)), I3_bv, I3_bv]
  generalize (y % 32).toNat = k
  have h1 : 0 ≤ x % 4294967296 := Int.emod_nonneg _ (by decide)
  have h2 : (((x % 4294967296).toNat * 2 ^ k % 2 ^ 32 : Nat) : Int) = x * 2 ^ k % 4294967296 := by
    rw [Int.natCast_emod, Int.natCast_mul, Int.toNat_of_nonneg h1]
    show (x % 4294967296 * ((2 ^ k : Nat) : Int)) % 4294967296 = _
    rw [Int.natCast_pow, Int.mul_emod, Int.emod_emod_of_dvd _ (Int.dvd_refl _), ← Int.mul_emod]
    rfl
  omega
theorem shr_in {x : Int} (k : Nat) (hx : in32 x) : in32 (x / 2 ^ k) := by
  unfold in32 at *
  have hp : (0 : Int) < 2 ^ k := Int.pow_pos (by decide)
  constructor
  · have : (-2147483648 : Int) * 2 ^ k ≤ x := by
      have h1 : (1 : Int) ≤ 2 ^ k := by omega
      have : (-2147483648 : Int) * 2 ^ k ≤ (-2147483648) * 1 := Int.mul_le_mul_of_nonpos_left (by decide) h1
      omega
    exact (Int.le_ediv_iff_mul_le hp).mpr this
  · apply Int.ediv_lt_of_lt_mul hp
    have h1 : (1 : Int) ≤ 2 ^ k := by omega
    have : (2147483648 : Int) * 1 ≤ 2147483648 * 2 ^ k := Int.mul_le_mul_of_nonneg_left h1 (by decide)
    omega
theorem shr_in6 {x : Int} (k : Nat) (hx : in64 x) : in64 (x / 2 ^ k) := by
  unfold in64 at *
  have hp : (0 : Int) < 2 ^ k := Int.pow_pos (by decide)
  constructor
  · have : (-9223372036854775808 : Int) * 2 ^ k ≤ x := by
      have h1 : (1 : Int) ≤ 2 ^ k := by omega
      have : (-9223372036854775808 : Int) * 2 ^ k ≤ (-9223372036854775808) * 1 := Int.mul_le_mul_of_nonpos_left (by decide) h1
      omega
    exact (Int.le_ediv_iff_mul_le hp).mpr this
  · apply Int.ediv_lt_of_lt_mul hp
    have h1 : (1 : Int) ≤ 2 ^ k := by omega
    have : (9223372036854775808 : Int) * 1 ≤ 9223372036854775808 * 2 ^ k := Int.mul_le_mul_of_nonneg_left h1 (by decide)
    omega
theorem I3_shr {x : Int} (hx : in32 x) (y : Int) : I3 x >>> (I3 y &&& 31) = I3 (shr32 x y) := by
  unfold shr32
  rw [I3_sh]
  apply Int32.toInt_inj.mp
  rw [pk_shr _ _ (y % 32).toNat (sm32 _ (sh_lt y)), I3_to hx, I3_to (shr_in _ hx), Int.shiftRight_eq_div_pow]
  rfl
theorem I3_ush (x y : Int) : ((I3 x).toUInt32 >>> ((I3 y).toUInt32 &&& Int32.toUInt32 31)).toInt32 = I3 (ush32 x y) := by
  unfold ush32
  rw [I3_w]
  apply Int32.toBitVec_inj.mp
  apply BitVec.eq_of_toNat_eq
  have hk : (((I3 y).toUInt32 &&& Int32.toUInt32 31).toBitVec % 32).toNat = (y % 32).toNat := by
    have h1 : ((I3 y).toUInt32 &&& Int32.toUInt32 31).toBitVec.toNat = (y % 32).toNat := by
      show ((I3 y).toBitVec &&& 31#32).toNat = _
      rw [BitVec.toNat_and, I3_bv]
      show _ &&& (2 ^ 5 - 1) = _
      rw [Nat.and_two_pow_sub_one_eq_mod]
      omega
    rw [BitVec.toNat_umod, h1]
    show (y % 32).toNat % 32 = _
    omega
  rw [pk_ushr _ _ _ hk, I3_bv, I3_bv]
  generalize (y % 32).toNat = k
  have h1 : 0 ≤ x % 4294967296 := Int.emod_nonneg _ (by decide)
  have h2 : x % 4294967296 < 4294967296 := Int.emod_lt_of_pos _ (by decide)
  generalize x % 4294967296 = z at h1 h2 ⊢
  obtain ⟨n, rfl⟩ := Int.eq_ofNat_of_zero_le h1
  have h3 : ((n : Int) / 2 ^ k) = ((n / 2 ^ k : Nat) : Int) := by rw [Int.natCast_ediv, Int.natCast_pow]; rfl
  rw [h3]
  have h4 : n / 2 ^ k ≤ n := Nat.div_le_self _ _
  have h5 : ((n : Int)).toNat = n := rfl
  rw [h5]
  generalize n / 2 ^ k = w at h4 ⊢
  omega
theorem I6_sh {y : Int} (hy : in32 y) : ((I3 y).toInt64 &&& 63).toBitVec = BitVec.ofNat 64 (y % 64).toNat := by
  rw [I3_i2l hy]
  apply BitVec.eq_of_toNat_eq
  rw [BitVec.toNat_ofNat]
  show ((I6 y).toBitVec &&& 63#64).toNat = _
  rw [BitVec.toNat_and, I6_bv]
  show _ &&& (2 ^ 6 - 1) = _
  rw [Nat.and_two_pow_sub_one_eq_mod]
  omega
theorem I6_shl {x y : Int} (hy : in32 y) : I6 x <<< ((I3 y).toInt64 &&& 63) = I6 (shl64 x y) := by
  unfold shl64
  rw [I6_w]
  apply Int64.toBitVec_inj.mp
  apply BitVec.eq_of_toNat_eq
  rw [Int64.toBitVec_shiftLeft, I6_sh hy, BitVec.shiftLeft_eq', sm64 _ (sh_lt6 y), BitVec.toNat_shiftLeft, I6_bv, I6_bv, Nat.shiftLeft_eq]
  generalize (y % 64).toNat = k
  have h1 : 0 ≤ x % 18446744073709551616 := Int.emod_nonneg _ (by decide)
  have h2 : (((x % 18446744073709551616).toNat * 2 ^ k % 2 ^ 64 : Nat) : Int) = x * 2 ^ k % 18446744073709551616 := by
    rw [Int.natCast_emod, Int.natCast_mul, Int.toNat_of_nonneg h1]
    show (x % 18446744073709551616 * ((2 ^ k : Nat) : Int)) % 18446744073709551616 = _
    rw [Int.natCast_pow, Int.mul_emod, Int.emod_emod_of_dvd _ (Int.dvd_refl _), ← Int.mul_emod]
    rfl
  omega
theorem I6_shr {x y : Int} (hx : in64 x) (hy : in32 y) : I6 x >>> ((I3 y).toInt64 &&& 63) = I6 (shr64 x y) := by
  unfold shr64
  apply Int64.toInt_inj.mp
  rw [I6_to (shr_in6 _ hx)]
  show (I6 x >>> ((I3 y).toInt64 &&& 63)).toBitVec.toInt = _
  rw [Int64.toBitVec_shiftRight, I6_sh hy, BitVec.sshiftRight', sm64 _ (sh_lt6 y), BitVec.toInt_sshiftRight]
  have : (I6 x).toBitVec.toInt = x := I6_to hx
  rw [this, Int.shiftRight_eq_div_pow]
  rfl
end
