section
-- ===== PART A: goes FIRST, ahead of the names: the tables' words, and 'selects' of the private methods out of them =====
/-- a private method of a class that the tables say can be made, by its rows of tables_1 -/
def lw_okq (q : MethodName × Nat) : Prop := (q.1.cls ≠ "java/lang/invoke/MethodHandle" ∧ q.1.cls ≠ "java/lang/invoke/VarHandle") ∧ Cond.instantiable q.1.cls q.2 ∈ tables_1 ∧ Cond.privateMethod q.1 ∈ tables_1 ∧ Cond.instanceMethod q.1 ∈ tables_1
theorem lw_p0 : lw_okq (⟨"PitInspector", "feedFour", "(I)V"⟩, 12) := ⟨⟨by decide +kernel, by decide +kernel⟩, List.mem_of_getElem? (i := 24) (by decide +kernel), List.mem_of_getElem? (i := 578) (by decide +kernel), List.mem_of_getElem? (i := 579) (by decide +kernel)⟩
theorem lw_p1 : lw_okq (⟨"PitInspector$Reader", "clause", "(I)Z"⟩, 4) := ⟨⟨by decide +kernel, by decide +kernel⟩, List.mem_of_getElem? (i := 163) (by decide +kernel), List.mem_of_getElem? (i := 609) (by decide +kernel), List.mem_of_getElem? (i := 610) (by decide +kernel)⟩
theorem lw_p2 : lw_okq (⟨"PitInspector$Reader", "peek", "()I"⟩, 4) := ⟨⟨by decide +kernel, by decide +kernel⟩, List.mem_of_getElem? (i := 163) (by decide +kernel), List.mem_of_getElem? (i := 613) (by decide +kernel), List.mem_of_getElem? (i := 614) (by decide +kernel)⟩
theorem lw_p3 : lw_okq (⟨"PitInspector$Reader", "fail", "(II)Z"⟩, 4) := ⟨⟨by decide +kernel, by decide +kernel⟩, List.mem_of_getElem? (i := 163) (by decide +kernel), List.mem_of_getElem? (i := 617) (by decide +kernel), List.mem_of_getElem? (i := 618) (by decide +kernel)⟩
theorem lw_p4 : lw_okq (⟨"PitInspector$Reader", "strike", "(I)Z"⟩, 4) := ⟨⟨by decide +kernel, by decide +kernel⟩, List.mem_of_getElem? (i := 163) (by decide +kernel), List.mem_of_getElem? (i := 621) (by decide +kernel), List.mem_of_getElem? (i := 622) (by decide +kernel)⟩
theorem lw_p5 : lw_okq (⟨"PitInspector$Reader", "numberUpTo", "(I)Z"⟩, 4) := ⟨⟨by decide +kernel, by decide +kernel⟩, List.mem_of_getElem? (i := 163) (by decide +kernel), List.mem_of_getElem? (i := 625) (by decide +kernel), List.mem_of_getElem? (i := 626) (by decide +kernel)⟩
theorem lw_p6 : lw_okq (⟨"PitInspector$Reader", "number", "()Z"⟩, 4) := ⟨⟨by decide +kernel, by decide +kernel⟩, List.mem_of_getElem? (i := 163) (by decide +kernel), List.mem_of_getElem? (i := 629) (by decide +kernel), List.mem_of_getElem? (i := 630) (by decide +kernel)⟩
theorem lw_p7 : lw_okq (⟨"PitInspector$Reader", "take", "(I)Z"⟩, 4) := ⟨⟨by decide +kernel, by decide +kernel⟩, List.mem_of_getElem? (i := 163) (by decide +kernel), List.mem_of_getElem? (i := 636) (by decide +kernel), List.mem_of_getElem? (i := 637) (by decide +kernel)⟩
theorem lw_p8 : lw_okq (⟨"PitInspector$Reader", "condition", "(I)Z"⟩, 4) := ⟨⟨by decide +kernel, by decide +kernel⟩, List.mem_of_getElem? (i := 163) (by decide +kernel), List.mem_of_getElem? (i := 640) (by decide +kernel), List.mem_of_getElem? (i := 641) (by decide +kernel)⟩
theorem lw_p9 : lw_okq (⟨"PitInspector$Reader", "part", "(I)Z"⟩, 4) := ⟨⟨by decide +kernel, by decide +kernel⟩, List.mem_of_getElem? (i := 163) (by decide +kernel), List.mem_of_getElem? (i := 644) (by decide +kernel), List.mem_of_getElem? (i := 645) (by decide +kernel)⟩
theorem lw_p10 : lw_okq (⟨"PitInspector$Reader", "piece", "(I)Z"⟩, 4) := ⟨⟨by decide +kernel, by decide +kernel⟩, List.mem_of_getElem? (i := 163) (by decide +kernel), List.mem_of_getElem? (i := 648) (by decide +kernel), List.mem_of_getElem? (i := 649) (by decide +kernel)⟩
theorem lw_p11 : lw_okq (⟨"PitInspector$Reader", "emit", "(II)Z"⟩, 4) := ⟨⟨by decide +kernel, by decide +kernel⟩, List.mem_of_getElem? (i := 163) (by decide +kernel), List.mem_of_getElem? (i := 652) (by decide +kernel), List.mem_of_getElem? (i := 653) (by decide +kernel)⟩
theorem lw_p12 : lw_okq (⟨"PitInspector$Reader", "sum", "(I)Z"⟩, 4) := ⟨⟨by decide +kernel, by decide +kernel⟩, List.mem_of_getElem? (i := 163) (by decide +kernel), List.mem_of_getElem? (i := 656) (by decide +kernel), List.mem_of_getElem? (i := 657) (by decide +kernel)⟩
theorem lw_p13 : lw_okq (⟨"PitInspector$Reader", "product", "(I)Z"⟩, 4) := ⟨⟨by decide +kernel, by decide +kernel⟩, List.mem_of_getElem? (i := 163) (by decide +kernel), List.mem_of_getElem? (i := 660) (by decide +kernel), List.mem_of_getElem? (i := 661) (by decide +kernel)⟩
theorem lw_p14 : lw_okq (⟨"PitInspector$Reader", "factor", "(I)Z"⟩, 4) := ⟨⟨by decide +kernel, by decide +kernel⟩, List.mem_of_getElem? (i := 163) (by decide +kernel), List.mem_of_getElem? (i := 664) (by decide +kernel), List.mem_of_getElem? (i := 665) (by decide +kernel)⟩
theorem lw_p15 : lw_okq (⟨"PitInspector$Reader", "land", "(I)V"⟩, 4) := ⟨⟨by decide +kernel, by decide +kernel⟩, List.mem_of_getElem? (i := 163) (by decide +kernel), List.mem_of_getElem? (i := 753) (by decide +kernel), List.mem_of_getElem? (i := 754) (by decide +kernel)⟩
def lw_privs_1 : List (MethodName × Nat) := [(⟨"PitInspector", "feedFour", "(I)V"⟩, 12), (⟨"PitInspector$Reader", "clause", "(I)Z"⟩, 4), (⟨"PitInspector$Reader", "peek", "()I"⟩, 4), (⟨"PitInspector$Reader", "fail", "(II)Z"⟩, 4), (⟨"PitInspector$Reader", "strike", "(I)Z"⟩, 4), (⟨"PitInspector$Reader", "numberUpTo", "(I)Z"⟩, 4), (⟨"PitInspector$Reader", "number", "()Z"⟩, 4), (⟨"PitInspector$Reader", "take", "(I)Z"⟩, 4), (⟨"PitInspector$Reader", "condition", "(I)Z"⟩, 4), (⟨"PitInspector$Reader", "part", "(I)Z"⟩, 4), (⟨"PitInspector$Reader", "piece", "(I)Z"⟩, 4), (⟨"PitInspector$Reader", "emit", "(II)Z"⟩, 4), (⟨"PitInspector$Reader", "sum", "(I)Z"⟩, 4), (⟨"PitInspector$Reader", "product", "(I)Z"⟩, 4), (⟨"PitInspector$Reader", "factor", "(I)Z"⟩, 4), (⟨"PitInspector$Reader", "land", "(I)V"⟩, 4)]
theorem lw_r1 : ∀ q ∈ lw_privs_1, lw_okq q := List.forall_mem_cons.mpr ⟨lw_p0, List.forall_mem_cons.mpr ⟨lw_p1, List.forall_mem_cons.mpr ⟨lw_p2, List.forall_mem_cons.mpr ⟨lw_p3, List.forall_mem_cons.mpr ⟨lw_p4, List.forall_mem_cons.mpr ⟨lw_p5, List.forall_mem_cons.mpr ⟨lw_p6, List.forall_mem_cons.mpr ⟨lw_p7, List.forall_mem_cons.mpr ⟨lw_p8, List.forall_mem_cons.mpr ⟨lw_p9, List.forall_mem_cons.mpr ⟨lw_p10, List.forall_mem_cons.mpr ⟨lw_p11, List.forall_mem_cons.mpr ⟨lw_p12, List.forall_mem_cons.mpr ⟨lw_p13, List.forall_mem_cons.mpr ⟨lw_p14, List.forall_mem_cons.mpr ⟨lw_p15, fun _ h => absurd h List.not_mem_nil⟩⟩⟩⟩⟩⟩⟩⟩⟩⟩⟩⟩⟩⟩⟩⟩
theorem lw_p16 : lw_okq (⟨"PitInspector$Reader", "jump", "(II)I"⟩, 4) := ⟨⟨by decide +kernel, by decide +kernel⟩, List.mem_of_getElem? (i := 163) (by decide +kernel), List.mem_of_getElem? (i := 757) (by decide +kernel), List.mem_of_getElem? (i := 758) (by decide +kernel)⟩
theorem lw_p17 : lw_okq (⟨"PitInspector", "day", "()I"⟩, 12) := ⟨⟨by decide +kernel, by decide +kernel⟩, List.mem_of_getElem? (i := 24) (by decide +kernel), List.mem_of_getElem? (i := 769) (by decide +kernel), List.mem_of_getElem? (i := 770) (by decide +kernel)⟩
theorem lw_p18 : lw_okq (⟨"PitInspector$Laws", "strikeFor", "(II)V"⟩, 9) := ⟨⟨by decide +kernel, by decide +kernel⟩, List.mem_of_getElem? (i := 72) (by decide +kernel), List.mem_of_getElem? (i := 786) (by decide +kernel), List.mem_of_getElem? (i := 787) (by decide +kernel)⟩
theorem lw_p19 : lw_okq (⟨"PitInspector$Laws", "strikeBelow", "(II)V"⟩, 9) := ⟨⟨by decide +kernel, by decide +kernel⟩, List.mem_of_getElem? (i := 72) (by decide +kernel), List.mem_of_getElem? (i := 794) (by decide +kernel), List.mem_of_getElem? (i := 795) (by decide +kernel)⟩
theorem lw_p20 : lw_okq (⟨"PitInspector", "learn", "(I)V"⟩, 12) := ⟨⟨by decide +kernel, by decide +kernel⟩, List.mem_of_getElem? (i := 24) (by decide +kernel), List.mem_of_getElem? (i := 806) (by decide +kernel), List.mem_of_getElem? (i := 807) (by decide +kernel)⟩
theorem lw_p21 : lw_okq (⟨"PitInspector$Air", "splitAll", "(LPitInspector$Net;I)I"⟩, 6) := ⟨⟨by decide +kernel, by decide +kernel⟩, List.mem_of_getElem? (i := 278) (by decide +kernel), List.mem_of_getElem? (i := 818) (by decide +kernel), List.mem_of_getElem? (i := 819) (by decide +kernel)⟩
theorem lw_p22 : lw_okq (⟨"PitInspector$Air", "splitAt", "(LPitInspector$Net;I)V"⟩, 6) := ⟨⟨by decide +kernel, by decide +kernel⟩, List.mem_of_getElem? (i := 278) (by decide +kernel), List.mem_of_getElem? (i := 834) (by decide +kernel), List.mem_of_getElem? (i := 835) (by decide +kernel)⟩
theorem lw_p23 : lw_okq (⟨"PitInspector$Air", "leastOpen", "(LPitInspector$Net;I)I"⟩, 6) := ⟨⟨by decide +kernel, by decide +kernel⟩, List.mem_of_getElem? (i := 278) (by decide +kernel), List.mem_of_getElem? (i := 842) (by decide +kernel), List.mem_of_getElem? (i := 843) (by decide +kernel)⟩
theorem lw_p24 : lw_okq (⟨"PitInspector$Net", "addWay", "(II)Z"⟩, 15) := ⟨⟨by decide +kernel, by decide +kernel⟩, List.mem_of_getElem? (i := 212) (by decide +kernel), List.mem_of_getElem? (i := 858) (by decide +kernel), List.mem_of_getElem? (i := 859) (by decide +kernel)⟩
theorem lw_p25 : lw_okq (⟨"PitInspector$Net", "findWay", "(II)Z"⟩, 15) := ⟨⟨by decide +kernel, by decide +kernel⟩, List.mem_of_getElem? (i := 212) (by decide +kernel), List.mem_of_getElem? (i := 862) (by decide +kernel), List.mem_of_getElem? (i := 863) (by decide +kernel)⟩
theorem lw_p26 : lw_okq (⟨"PitInspector$Survey", "far", "(II)I"⟩, 13) := ⟨⟨by decide +kernel, by decide +kernel⟩, List.mem_of_getElem? (i := 304) (by decide +kernel), List.mem_of_getElem? (i := 882) (by decide +kernel), List.mem_of_getElem? (i := 883) (by decide +kernel)⟩
theorem lw_p27 : lw_okq (⟨"PitInspector$Survey", "trueX", "(I)I"⟩, 13) := ⟨⟨by decide +kernel, by decide +kernel⟩, List.mem_of_getElem? (i := 304) (by decide +kernel), List.mem_of_getElem? (i := 886) (by decide +kernel), List.mem_of_getElem? (i := 887) (by decide +kernel)⟩
theorem lw_p28 : lw_okq (⟨"PitInspector$Survey", "trueY", "(I)I"⟩, 13) := ⟨⟨by decide +kernel, by decide +kernel⟩, List.mem_of_getElem? (i := 304) (by decide +kernel), List.mem_of_getElem? (i := 893) (by decide +kernel), List.mem_of_getElem? (i := 894) (by decide +kernel)⟩
theorem lw_p29 : lw_okq (⟨"PitInspector$Survey", "doubt", "(II)I"⟩, 13) := ⟨⟨by decide +kernel, by decide +kernel⟩, List.mem_of_getElem? (i := 304) (by decide +kernel), List.mem_of_getElem? (i := 898) (by decide +kernel), List.mem_of_getElem? (i := 899) (by decide +kernel)⟩
theorem lw_p30 : lw_okq (⟨"PitInspector$Laws", "reckon", "(LPitInspector$Text;I)I"⟩, 9) := ⟨⟨by decide +kernel, by decide +kernel⟩, List.mem_of_getElem? (i := 72) (by decide +kernel), List.mem_of_getElem? (i := 912) (by decide +kernel), List.mem_of_getElem? (i := 913) (by decide +kernel)⟩
theorem lw_p31 : lw_okq (⟨"PitInspector", "brokenBy", "(I)I"⟩, 12) := ⟨⟨by decide +kernel, by decide +kernel⟩, List.mem_of_getElem? (i := 24) (by decide +kernel), List.mem_of_getElem? (i := 924) (by decide +kernel), List.mem_of_getElem? (i := 925) (by decide +kernel)⟩
def lw_privs_2 : List (MethodName × Nat) := [(⟨"PitInspector$Reader", "jump", "(II)I"⟩, 4), (⟨"PitInspector", "day", "()I"⟩, 12), (⟨"PitInspector$Laws", "strikeFor", "(II)V"⟩, 9), (⟨"PitInspector$Laws", "strikeBelow", "(II)V"⟩, 9), (⟨"PitInspector", "learn", "(I)V"⟩, 12), (⟨"PitInspector$Air", "splitAll", "(LPitInspector$Net;I)I"⟩, 6), (⟨"PitInspector$Air", "splitAt", "(LPitInspector$Net;I)V"⟩, 6), (⟨"PitInspector$Air", "leastOpen", "(LPitInspector$Net;I)I"⟩, 6), (⟨"PitInspector$Net", "addWay", "(II)Z"⟩, 15), (⟨"PitInspector$Net", "findWay", "(II)Z"⟩, 15), (⟨"PitInspector$Survey", "far", "(II)I"⟩, 13), (⟨"PitInspector$Survey", "trueX", "(I)I"⟩, 13), (⟨"PitInspector$Survey", "trueY", "(I)I"⟩, 13), (⟨"PitInspector$Survey", "doubt", "(II)I"⟩, 13), (⟨"PitInspector$Laws", "reckon", "(LPitInspector$Text;I)I"⟩, 9), (⟨"PitInspector", "brokenBy", "(I)I"⟩, 12)]
theorem lw_r2 : ∀ q ∈ lw_privs_2, lw_okq q := List.forall_mem_cons.mpr ⟨lw_p16, List.forall_mem_cons.mpr ⟨lw_p17, List.forall_mem_cons.mpr ⟨lw_p18, List.forall_mem_cons.mpr ⟨lw_p19, List.forall_mem_cons.mpr ⟨lw_p20, List.forall_mem_cons.mpr ⟨lw_p21, List.forall_mem_cons.mpr ⟨lw_p22, List.forall_mem_cons.mpr ⟨lw_p23, List.forall_mem_cons.mpr ⟨lw_p24, List.forall_mem_cons.mpr ⟨lw_p25, List.forall_mem_cons.mpr ⟨lw_p26, List.forall_mem_cons.mpr ⟨lw_p27, List.forall_mem_cons.mpr ⟨lw_p28, List.forall_mem_cons.mpr ⟨lw_p29, List.forall_mem_cons.mpr ⟨lw_p30, List.forall_mem_cons.mpr ⟨lw_p31, fun _ h => absurd h List.not_mem_nil⟩⟩⟩⟩⟩⟩⟩⟩⟩⟩⟩⟩⟩⟩⟩⟩
theorem lw_p32 : lw_okq (⟨"PitInspector$Laws", "isBroken", "(LPitInspector$Text;I)Z"⟩, 9) := ⟨⟨by decide +kernel, by decide +kernel⟩, List.mem_of_getElem? (i := 72) (by decide +kernel), List.mem_of_getElem? (i := 932) (by decide +kernel), List.mem_of_getElem? (i := 933) (by decide +kernel)⟩
theorem lw_p33 : lw_okq (⟨"PitInspector$Net", "addEnd", "(II)V"⟩, 15) := ⟨⟨by decide +kernel, by decide +kernel⟩, List.mem_of_getElem? (i := 212) (by decide +kernel), List.mem_of_getElem? (i := 1008) (by decide +kernel), List.mem_of_getElem? (i := 1009) (by decide +kernel)⟩
theorem lw_p34 : lw_okq (⟨"PitInspector$Survey", "setPoint", "(IIII)V"⟩, 13) := ⟨⟨by decide +kernel, by decide +kernel⟩, List.mem_of_getElem? (i := 304) (by decide +kernel), List.mem_of_getElem? (i := 1124) (by decide +kernel), List.mem_of_getElem? (i := 1125) (by decide +kernel)⟩
theorem lw_p35 : lw_okq (⟨"PitInspector$Survey", "facesNearer", "(I)I"⟩, 13) := ⟨⟨by decide +kernel, by decide +kernel⟩, List.mem_of_getElem? (i := 304) (by decide +kernel), List.mem_of_getElem? (i := 1166) (by decide +kernel), List.mem_of_getElem? (i := 1167) (by decide +kernel)⟩
theorem lw_p36 : lw_okq (⟨"PitInspector$Warnings", "isKnown", "(II)Z"⟩, 4) := ⟨⟨by decide +kernel, by decide +kernel⟩, List.mem_of_getElem? (i := 419) (by decide +kernel), List.mem_of_getElem? (i := 1286) (by decide +kernel), List.mem_of_getElem? (i := 1287) (by decide +kernel)⟩
theorem lw_p37 : lw_okq (⟨"PitInspector$Warnings", "hasActed", "(II)Z"⟩, 4) := ⟨⟨by decide +kernel, by decide +kernel⟩, List.mem_of_getElem? (i := 419) (by decide +kernel), List.mem_of_getElem? (i := 1298) (by decide +kernel), List.mem_of_getElem? (i := 1299) (by decide +kernel)⟩
theorem lw_p38 : lw_okq (⟨"PitInspector", "worthOf", "(I)I"⟩, 12) := ⟨⟨by decide +kernel, by decide +kernel⟩, List.mem_of_getElem? (i := 24) (by decide +kernel), List.mem_of_getElem? (i := 1353) (by decide +kernel), List.mem_of_getElem? (i := 1354) (by decide +kernel)⟩
theorem lw_p39 : lw_okq (⟨"PitInspector$Looks", "draw", "(III)V"⟩, 7) := ⟨⟨by decide +kernel, by decide +kernel⟩, List.mem_of_getElem? (i := 441) (by decide +kernel), List.mem_of_getElem? (i := 1366) (by decide +kernel), List.mem_of_getElem? (i := 1367) (by decide +kernel)⟩
theorem lw_p40 : lw_okq (⟨"PitInspector$Looks", "hasLook", "(I)Z"⟩, 7) := ⟨⟨by decide +kernel, by decide +kernel⟩, List.mem_of_getElem? (i := 441) (by decide +kernel), List.mem_of_getElem? (i := 1371) (by decide +kernel), List.mem_of_getElem? (i := 1372) (by decide +kernel)⟩
theorem lw_p41 : lw_okq (⟨"PitInspector$Looks", "add", "(I)V"⟩, 7) := ⟨⟨by decide +kernel, by decide +kernel⟩, List.mem_of_getElem? (i := 441) (by decide +kernel), List.mem_of_getElem? (i := 1375) (by decide +kernel), List.mem_of_getElem? (i := 1376) (by decide +kernel)⟩
theorem lw_p42 : lw_okq (⟨"PitInspector$Looks", "worthiest", "(I)I"⟩, 7) := ⟨⟨by decide +kernel, by decide +kernel⟩, List.mem_of_getElem? (i := 441) (by decide +kernel), List.mem_of_getElem? (i := 1379) (by decide +kernel), List.mem_of_getElem? (i := 1380) (by decide +kernel)⟩
theorem lw_p43 : lw_okq (⟨"PitInspector$Inquest", "isTooFar", "(III)Z"⟩, 6) := ⟨⟨by decide +kernel, by decide +kernel⟩, List.mem_of_getElem? (i := 472) (by decide +kernel), List.mem_of_getElem? (i := 1421) (by decide +kernel), List.mem_of_getElem? (i := 1422) (by decide +kernel)⟩
theorem lw_p44 : lw_okq (⟨"PitInspector$Inquest", "greater", "(IIII)I"⟩, 6) := ⟨⟨by decide +kernel, by decide +kernel⟩, List.mem_of_getElem? (i := 472) (by decide +kernel), List.mem_of_getElem? (i := 1438) (by decide +kernel), List.mem_of_getElem? (i := 1439) (by decide +kernel)⟩
theorem lw_p45 : lw_okq (⟨"PitInspectorModel", "isPit", "(I)Z"⟩, 111) := ⟨⟨by decide +kernel, by decide +kernel⟩, List.mem_of_getElem? (i := 1458) (by decide +kernel), List.mem_of_getElem? (i := 1817) (by decide +kernel), List.mem_of_getElem? (i := 1818) (by decide +kernel)⟩
theorem lw_p46 : lw_okq (⟨"PitInspectorModel", "push", "(I)V"⟩, 111) := ⟨⟨by decide +kernel, by decide +kernel⟩, List.mem_of_getElem? (i := 1458) (by decide +kernel), List.mem_of_getElem? (i := 1830) (by decide +kernel), List.mem_of_getElem? (i := 1831) (by decide +kernel)⟩
theorem lw_p47 : lw_okq (⟨"PitInspectorModel", "isGood", "()Z"⟩, 111) := ⟨⟨by decide +kernel, by decide +kernel⟩, List.mem_of_getElem? (i := 1458) (by decide +kernel), List.mem_of_getElem? (i := 1840) (by decide +kernel), List.mem_of_getElem? (i := 1841) (by decide +kernel)⟩
def lw_privs_3 : List (MethodName × Nat) := [(⟨"PitInspector$Laws", "isBroken", "(LPitInspector$Text;I)Z"⟩, 9), (⟨"PitInspector$Net", "addEnd", "(II)V"⟩, 15), (⟨"PitInspector$Survey", "setPoint", "(IIII)V"⟩, 13), (⟨"PitInspector$Survey", "facesNearer", "(I)I"⟩, 13), (⟨"PitInspector$Warnings", "isKnown", "(II)Z"⟩, 4), (⟨"PitInspector$Warnings", "hasActed", "(II)Z"⟩, 4), (⟨"PitInspector", "worthOf", "(I)I"⟩, 12), (⟨"PitInspector$Looks", "draw", "(III)V"⟩, 7), (⟨"PitInspector$Looks", "hasLook", "(I)Z"⟩, 7), (⟨"PitInspector$Looks", "add", "(I)V"⟩, 7), (⟨"PitInspector$Looks", "worthiest", "(I)I"⟩, 7), (⟨"PitInspector$Inquest", "isTooFar", "(III)Z"⟩, 6), (⟨"PitInspector$Inquest", "greater", "(IIII)I"⟩, 6), (⟨"PitInspectorModel", "isPit", "(I)Z"⟩, 111), (⟨"PitInspectorModel", "push", "(I)V"⟩, 111), (⟨"PitInspectorModel", "isGood", "()Z"⟩, 111)]
theorem lw_r3 : ∀ q ∈ lw_privs_3, lw_okq q := List.forall_mem_cons.mpr ⟨lw_p32, List.forall_mem_cons.mpr ⟨lw_p33, List.forall_mem_cons.mpr ⟨lw_p34, List.forall_mem_cons.mpr ⟨lw_p35, List.forall_mem_cons.mpr ⟨lw_p36, List.forall_mem_cons.mpr ⟨lw_p37, List.forall_mem_cons.mpr ⟨lw_p38, List.forall_mem_cons.mpr ⟨lw_p39, List.forall_mem_cons.mpr ⟨lw_p40, List.forall_mem_cons.mpr ⟨lw_p41, List.forall_mem_cons.mpr ⟨lw_p42, List.forall_mem_cons.mpr ⟨lw_p43, List.forall_mem_cons.mpr ⟨lw_p44, List.forall_mem_cons.mpr ⟨lw_p45, List.forall_mem_cons.mpr ⟨lw_p46, List.forall_mem_cons.mpr ⟨lw_p47, fun _ h => absurd h List.not_mem_nil⟩⟩⟩⟩⟩⟩⟩⟩⟩⟩⟩⟩⟩⟩⟩⟩
theorem lw_p48 : lw_okq (⟨"PitInspectorModel", "clause", "()V"⟩, 111) := ⟨⟨by decide +kernel, by decide +kernel⟩, List.mem_of_getElem? (i := 1458) (by decide +kernel), List.mem_of_getElem? (i := 1844) (by decide +kernel), List.mem_of_getElem? (i := 1845) (by decide +kernel)⟩
theorem lw_p49 : lw_okq (⟨"PitInspectorModel", "here", "()I"⟩, 111) := ⟨⟨by decide +kernel, by decide +kernel⟩, List.mem_of_getElem? (i := 1458) (by decide +kernel), List.mem_of_getElem? (i := 1848) (by decide +kernel), List.mem_of_getElem? (i := 1849) (by decide +kernel)⟩
theorem lw_p50 : lw_okq (⟨"PitInspectorModel", "fails", "(II)V"⟩, 111) := ⟨⟨by decide +kernel, by decide +kernel⟩, List.mem_of_getElem? (i := 1458) (by decide +kernel), List.mem_of_getElem? (i := 1852) (by decide +kernel), List.mem_of_getElem? (i := 1853) (by decide +kernel)⟩
theorem lw_p51 : lw_okq (⟨"PitInspectorModel", "condition", "(I)V"⟩, 111) := ⟨⟨by decide +kernel, by decide +kernel⟩, List.mem_of_getElem? (i := 1458) (by decide +kernel), List.mem_of_getElem? (i := 1856) (by decide +kernel), List.mem_of_getElem? (i := 1857) (by decide +kernel)⟩
theorem lw_p52 : lw_okq (⟨"PitInspectorModel", "opens", "()V"⟩, 111) := ⟨⟨by decide +kernel, by decide +kernel⟩, List.mem_of_getElem? (i := 1458) (by decide +kernel), List.mem_of_getElem? (i := 1860) (by decide +kernel), List.mem_of_getElem? (i := 1861) (by decide +kernel)⟩
theorem lw_p53 : lw_okq (⟨"PitInspectorModel", "puts", "(I)V"⟩, 111) := ⟨⟨by decide +kernel, by decide +kernel⟩, List.mem_of_getElem? (i := 1458) (by decide +kernel), List.mem_of_getElem? (i := 1864) (by decide +kernel), List.mem_of_getElem? (i := 1865) (by decide +kernel)⟩
theorem lw_p54 : lw_okq (⟨"PitInspectorModel", "piece", "()V"⟩, 111) := ⟨⟨by decide +kernel, by decide +kernel⟩, List.mem_of_getElem? (i := 1458) (by decide +kernel), List.mem_of_getElem? (i := 1868) (by decide +kernel), List.mem_of_getElem? (i := 1869) (by decide +kernel)⟩
theorem lw_p55 : lw_okq (⟨"PitInspectorModel", "factor", "()V"⟩, 111) := ⟨⟨by decide +kernel, by decide +kernel⟩, List.mem_of_getElem? (i := 1458) (by decide +kernel), List.mem_of_getElem? (i := 1872) (by decide +kernel), List.mem_of_getElem? (i := 1873) (by decide +kernel)⟩
theorem lw_p56 : lw_okq (⟨"PitInspectorModel", "seesDigit", "()Z"⟩, 111) := ⟨⟨by decide +kernel, by decide +kernel⟩, List.mem_of_getElem? (i := 1458) (by decide +kernel), List.mem_of_getElem? (i := 1876) (by decide +kernel), List.mem_of_getElem? (i := 1877) (by decide +kernel)⟩
theorem lw_p57 : lw_okq (⟨"PitInspectorModel", "reads", "(I)I"⟩, 111) := ⟨⟨by decide +kernel, by decide +kernel⟩, List.mem_of_getElem? (i := 1458) (by decide +kernel), List.mem_of_getElem? (i := 1883) (by decide +kernel), List.mem_of_getElem? (i := 1884) (by decide +kernel)⟩
theorem lw_p58 : lw_okq (⟨"PitInspectorModel", "emit", "(II)V"⟩, 111) := ⟨⟨by decide +kernel, by decide +kernel⟩, List.mem_of_getElem? (i := 1458) (by decide +kernel), List.mem_of_getElem? (i := 1887) (by decide +kernel), List.mem_of_getElem? (i := 1888) (by decide +kernel)⟩
theorem lw_p59 : lw_okq (⟨"PitInspectorModel", "goesOn", "()Z"⟩, 111) := ⟨⟨by decide +kernel, by decide +kernel⟩, List.mem_of_getElem? (i := 1458) (by decide +kernel), List.mem_of_getElem? (i := 1894) (by decide +kernel), List.mem_of_getElem? (i := 1895) (by decide +kernel)⟩
theorem lw_p60 : lw_okq (⟨"PitInspectorModel", "sums", "(Z)V"⟩, 111) := ⟨⟨by decide +kernel, by decide +kernel⟩, List.mem_of_getElem? (i := 1458) (by decide +kernel), List.mem_of_getElem? (i := 1904) (by decide +kernel), List.mem_of_getElem? (i := 1905) (by decide +kernel)⟩
theorem lw_p61 : lw_okq (⟨"PitInspectorModel", "top", "()I"⟩, 111) := ⟨⟨by decide +kernel, by decide +kernel⟩, List.mem_of_getElem? (i := 1458) (by decide +kernel), List.mem_of_getElem? (i := 1908) (by decide +kernel), List.mem_of_getElem? (i := 1909) (by decide +kernel)⟩
theorem lw_p62 : lw_okq (⟨"PitInspectorModel", "ends", "()V"⟩, 111) := ⟨⟨by decide +kernel, by decide +kernel⟩, List.mem_of_getElem? (i := 1458) (by decide +kernel), List.mem_of_getElem? (i := 1915) (by decide +kernel), List.mem_of_getElem? (i := 1916) (by decide +kernel)⟩
theorem lw_p63 : lw_okq (⟨"PitInspectorModel", "goesBehind", "()Z"⟩, 111) := ⟨⟨by decide +kernel, by decide +kernel⟩, List.mem_of_getElem? (i := 1458) (by decide +kernel), List.mem_of_getElem? (i := 1919) (by decide +kernel), List.mem_of_getElem? (i := 1920) (by decide +kernel)⟩
def lw_privs_4 : List (MethodName × Nat) := [(⟨"PitInspectorModel", "clause", "()V"⟩, 111), (⟨"PitInspectorModel", "here", "()I"⟩, 111), (⟨"PitInspectorModel", "fails", "(II)V"⟩, 111), (⟨"PitInspectorModel", "condition", "(I)V"⟩, 111), (⟨"PitInspectorModel", "opens", "()V"⟩, 111), (⟨"PitInspectorModel", "puts", "(I)V"⟩, 111), (⟨"PitInspectorModel", "piece", "()V"⟩, 111), (⟨"PitInspectorModel", "factor", "()V"⟩, 111), (⟨"PitInspectorModel", "seesDigit", "()Z"⟩, 111), (⟨"PitInspectorModel", "reads", "(I)I"⟩, 111), (⟨"PitInspectorModel", "emit", "(II)V"⟩, 111), (⟨"PitInspectorModel", "goesOn", "()Z"⟩, 111), (⟨"PitInspectorModel", "sums", "(Z)V"⟩, 111), (⟨"PitInspectorModel", "top", "()I"⟩, 111), (⟨"PitInspectorModel", "ends", "()V"⟩, 111), (⟨"PitInspectorModel", "goesBehind", "()Z"⟩, 111)]
theorem lw_r4 : ∀ q ∈ lw_privs_4, lw_okq q := List.forall_mem_cons.mpr ⟨lw_p48, List.forall_mem_cons.mpr ⟨lw_p49, List.forall_mem_cons.mpr ⟨lw_p50, List.forall_mem_cons.mpr ⟨lw_p51, List.forall_mem_cons.mpr ⟨lw_p52, List.forall_mem_cons.mpr ⟨lw_p53, List.forall_mem_cons.mpr ⟨lw_p54, List.forall_mem_cons.mpr ⟨lw_p55, List.forall_mem_cons.mpr ⟨lw_p56, List.forall_mem_cons.mpr ⟨lw_p57, List.forall_mem_cons.mpr ⟨lw_p58, List.forall_mem_cons.mpr ⟨lw_p59, List.forall_mem_cons.mpr ⟨lw_p60, List.forall_mem_cons.mpr ⟨lw_p61, List.forall_mem_cons.mpr ⟨lw_p62, List.forall_mem_cons.mpr ⟨lw_p63, fun _ h => absurd h List.not_mem_nil⟩⟩⟩⟩⟩⟩⟩⟩⟩⟩⟩⟩⟩⟩⟩⟩
theorem lw_p64 : lw_okq (⟨"PitInspectorModel", "joinsUp", "(Z)V"⟩, 111) := ⟨⟨by decide +kernel, by decide +kernel⟩, List.mem_of_getElem? (i := 1458) (by decide +kernel), List.mem_of_getElem? (i := 1923) (by decide +kernel), List.mem_of_getElem? (i := 1924) (by decide +kernel)⟩
theorem lw_p65 : lw_okq (⟨"PitInspectorModel", "must", "(I)V"⟩, 111) := ⟨⟨by decide +kernel, by decide +kernel⟩, List.mem_of_getElem? (i := 1458) (by decide +kernel), List.mem_of_getElem? (i := 1927) (by decide +kernel), List.mem_of_getElem? (i := 1928) (by decide +kernel)⟩
theorem lw_p66 : lw_okq (⟨"PitInspectorModel", "isText", "(I)Z"⟩, 111) := ⟨⟨by decide +kernel, by decide +kernel⟩, List.mem_of_getElem? (i := 1458) (by decide +kernel), List.mem_of_getElem? (i := 1935) (by decide +kernel), List.mem_of_getElem? (i := 1936) (by decide +kernel)⟩
theorem lw_p67 : lw_okq (⟨"PitInspectorModel", "strikes", "(I)V"⟩, 111) := ⟨⟨by decide +kernel, by decide +kernel⟩, List.mem_of_getElem? (i := 1458) (by decide +kernel), List.mem_of_getElem? (i := 1939) (by decide +kernel), List.mem_of_getElem? (i := 1940) (by decide +kernel)⟩
theorem lw_p68 : lw_okq (⟨"PitInspectorModel", "isFor", "(II)Z"⟩, 111) := ⟨⟨by decide +kernel, by decide +kernel⟩, List.mem_of_getElem? (i := 1458) (by decide +kernel), List.mem_of_getElem? (i := 1943) (by decide +kernel), List.mem_of_getElem? (i := 1944) (by decide +kernel)⟩
theorem lw_p69 : lw_okq (⟨"PitInspectorModel", "isInForce", "(I)Z"⟩, 111) := ⟨⟨by decide +kernel, by decide +kernel⟩, List.mem_of_getElem? (i := 1458) (by decide +kernel), List.mem_of_getElem? (i := 1947) (by decide +kernel), List.mem_of_getElem? (i := 1948) (by decide +kernel)⟩
theorem lw_p70 : lw_okq (⟨"PitInspectorModel", "isCounted", "(II)Z"⟩, 111) := ⟨⟨by decide +kernel, by decide +kernel⟩, List.mem_of_getElem? (i := 1458) (by decide +kernel), List.mem_of_getElem? (i := 1951) (by decide +kernel), List.mem_of_getElem? (i := 1952) (by decide +kernel)⟩
theorem lw_p71 : lw_okq (⟨"PitInspectorModel", "asks", "(I)V"⟩, 111) := ⟨⟨by decide +kernel, by decide +kernel⟩, List.mem_of_getElem? (i := 1458) (by decide +kernel), List.mem_of_getElem? (i := 1959) (by decide +kernel), List.mem_of_getElem? (i := 1960) (by decide +kernel)⟩
theorem lw_p72 : lw_okq (⟨"PitInspectorModel", "worthOf", "(I)I"⟩, 111) := ⟨⟨by decide +kernel, by decide +kernel⟩, List.mem_of_getElem? (i := 1458) (by decide +kernel), List.mem_of_getElem? (i := 1963) (by decide +kernel), List.mem_of_getElem? (i := 1964) (by decide +kernel)⟩
theorem lw_p73 : lw_okq (⟨"PitInspectorModel", "does", "(II)V"⟩, 111) := ⟨⟨by decide +kernel, by decide +kernel⟩, List.mem_of_getElem? (i := 1458) (by decide +kernel), List.mem_of_getElem? (i := 1967) (by decide +kernel), List.mem_of_getElem? (i := 1968) (by decide +kernel)⟩
theorem lw_p74 : lw_okq (⟨"PitInspectorModel", "valueOf", "(I)J"⟩, 111) := ⟨⟨by decide +kernel, by decide +kernel⟩, List.mem_of_getElem? (i := 1458) (by decide +kernel), List.mem_of_getElem? (i := 1974) (by decide +kernel), List.mem_of_getElem? (i := 1975) (by decide +kernel)⟩
theorem lw_p75 : lw_okq (⟨"PitInspectorModel", "finds", "(I)J"⟩, 111) := ⟨⟨by decide +kernel, by decide +kernel⟩, List.mem_of_getElem? (i := 1458) (by decide +kernel), List.mem_of_getElem? (i := 1978) (by decide +kernel), List.mem_of_getElem? (i := 1979) (by decide +kernel)⟩
theorem lw_p76 : lw_okq (⟨"PitInspectorModel", "below", "(I)I"⟩, 111) := ⟨⟨by decide +kernel, by decide +kernel⟩, List.mem_of_getElem? (i := 1458) (by decide +kernel), List.mem_of_getElem? (i := 1982) (by decide +kernel), List.mem_of_getElem? (i := 1983) (by decide +kernel)⟩
theorem lw_p77 : lw_okq (⟨"PitInspectorModel", "leastOf", "(II)I"⟩, 111) := ⟨⟨by decide +kernel, by decide +kernel⟩, List.mem_of_getElem? (i := 1458) (by decide +kernel), List.mem_of_getElem? (i := 1986) (by decide +kernel), List.mem_of_getElem? (i := 1987) (by decide +kernel)⟩
theorem lw_p78 : lw_okq (⟨"PitInspectorModel", "blows", "(II)V"⟩, 111) := ⟨⟨by decide +kernel, by decide +kernel⟩, List.mem_of_getElem? (i := 1458) (by decide +kernel), List.mem_of_getElem? (i := 1990) (by decide +kernel), List.mem_of_getElem? (i := 1991) (by decide +kernel)⟩
theorem lw_p79 : lw_okq (⟨"PitInspectorModel", "walks", "(IZI)V"⟩, 111) := ⟨⟨by decide +kernel, by decide +kernel⟩, List.mem_of_getElem? (i := 1458) (by decide +kernel), List.mem_of_getElem? (i := 1994) (by decide +kernel), List.mem_of_getElem? (i := 1995) (by decide +kernel)⟩
def lw_privs_5 : List (MethodName × Nat) := [(⟨"PitInspectorModel", "joinsUp", "(Z)V"⟩, 111), (⟨"PitInspectorModel", "must", "(I)V"⟩, 111), (⟨"PitInspectorModel", "isText", "(I)Z"⟩, 111), (⟨"PitInspectorModel", "strikes", "(I)V"⟩, 111), (⟨"PitInspectorModel", "isFor", "(II)Z"⟩, 111), (⟨"PitInspectorModel", "isInForce", "(I)Z"⟩, 111), (⟨"PitInspectorModel", "isCounted", "(II)Z"⟩, 111), (⟨"PitInspectorModel", "asks", "(I)V"⟩, 111), (⟨"PitInspectorModel", "worthOf", "(I)I"⟩, 111), (⟨"PitInspectorModel", "does", "(II)V"⟩, 111), (⟨"PitInspectorModel", "valueOf", "(I)J"⟩, 111), (⟨"PitInspectorModel", "finds", "(I)J"⟩, 111), (⟨"PitInspectorModel", "below", "(I)I"⟩, 111), (⟨"PitInspectorModel", "leastOf", "(II)I"⟩, 111), (⟨"PitInspectorModel", "blows", "(II)V"⟩, 111), (⟨"PitInspectorModel", "walks", "(IZI)V"⟩, 111)]
theorem lw_r5 : ∀ q ∈ lw_privs_5, lw_okq q := List.forall_mem_cons.mpr ⟨lw_p64, List.forall_mem_cons.mpr ⟨lw_p65, List.forall_mem_cons.mpr ⟨lw_p66, List.forall_mem_cons.mpr ⟨lw_p67, List.forall_mem_cons.mpr ⟨lw_p68, List.forall_mem_cons.mpr ⟨lw_p69, List.forall_mem_cons.mpr ⟨lw_p70, List.forall_mem_cons.mpr ⟨lw_p71, List.forall_mem_cons.mpr ⟨lw_p72, List.forall_mem_cons.mpr ⟨lw_p73, List.forall_mem_cons.mpr ⟨lw_p74, List.forall_mem_cons.mpr ⟨lw_p75, List.forall_mem_cons.mpr ⟨lw_p76, List.forall_mem_cons.mpr ⟨lw_p77, List.forall_mem_cons.mpr ⟨lw_p78, List.forall_mem_cons.mpr ⟨lw_p79, fun _ h => absurd h List.not_mem_nil⟩⟩⟩⟩⟩⟩⟩⟩⟩⟩⟩⟩⟩⟩⟩⟩
theorem lw_p80 : lw_okq (⟨"PitInspectorModel", "otherEnd", "(II)I"⟩, 111) := ⟨⟨by decide +kernel, by decide +kernel⟩, List.mem_of_getElem? (i := 1458) (by decide +kernel), List.mem_of_getElem? (i := 1998) (by decide +kernel), List.mem_of_getElem? (i := 1999) (by decide +kernel)⟩
theorem lw_p81 : lw_okq (⟨"PitInspectorModel", "goesThrough", "(II)Z"⟩, 111) := ⟨⟨by decide +kernel, by decide +kernel⟩, List.mem_of_getElem? (i := 1458) (by decide +kernel), List.mem_of_getElem? (i := 2002) (by decide +kernel), List.mem_of_getElem? (i := 2003) (by decide +kernel)⟩
theorem lw_p82 : lw_okq (⟨"PitInspectorModel", "parts", "(II)V"⟩, 111) := ⟨⟨by decide +kernel, by decide +kernel⟩, List.mem_of_getElem? (i := 1458) (by decide +kernel), List.mem_of_getElem? (i := 2006) (by decide +kernel), List.mem_of_getElem? (i := 2007) (by decide +kernel)⟩
theorem lw_p83 : lw_okq (⟨"PitInspectorModel", "isOn", "(III)Z"⟩, 111) := ⟨⟨by decide +kernel, by decide +kernel⟩, List.mem_of_getElem? (i := 1458) (by decide +kernel), List.mem_of_getElem? (i := 2010) (by decide +kernel), List.mem_of_getElem? (i := 2011) (by decide +kernel)⟩
theorem lw_p84 : lw_okq (⟨"PitInspectorModel", "fewestOf", "(I)I"⟩, 111) := ⟨⟨by decide +kernel, by decide +kernel⟩, List.mem_of_getElem? (i := 1458) (by decide +kernel), List.mem_of_getElem? (i := 2014) (by decide +kernel), List.mem_of_getElem? (i := 2015) (by decide +kernel)⟩
theorem lw_p85 : lw_okq (⟨"PitInspectorModel", "isBank", "(I)Z"⟩, 111) := ⟨⟨by decide +kernel, by decide +kernel⟩, List.mem_of_getElem? (i := 1458) (by decide +kernel), List.mem_of_getElem? (i := 2018) (by decide +kernel), List.mem_of_getElem? (i := 2019) (by decide +kernel)⟩
theorem lw_p86 : lw_okq (⟨"PitInspectorModel", "waysOf", "(I)I"⟩, 111) := ⟨⟨by decide +kernel, by decide +kernel⟩, List.mem_of_getElem? (i := 1458) (by decide +kernel), List.mem_of_getElem? (i := 2022) (by decide +kernel), List.mem_of_getElem? (i := 2023) (by decide +kernel)⟩
theorem lw_p87 : lw_okq (⟨"PitInspectorModel", "adds", "(II)Z"⟩, 111) := ⟨⟨by decide +kernel, by decide +kernel⟩, List.mem_of_getElem? (i := 1458) (by decide +kernel), List.mem_of_getElem? (i := 2026) (by decide +kernel), List.mem_of_getElem? (i := 2027) (by decide +kernel)⟩
theorem lw_p88 : lw_okq (⟨"PitInspectorModel", "canGo", "(II)Z"⟩, 111) := ⟨⟨by decide +kernel, by decide +kernel⟩, List.mem_of_getElem? (i := 1458) (by decide +kernel), List.mem_of_getElem? (i := 2030) (by decide +kernel), List.mem_of_getElem? (i := 2031) (by decide +kernel)⟩
theorem lw_p89 : lw_okq (⟨"PitInspectorModel", "nearestOfPit", "(I)I"⟩, 111) := ⟨⟨by decide +kernel, by decide +kernel⟩, List.mem_of_getElem? (i := 1458) (by decide +kernel), List.mem_of_getElem? (i := 2034) (by decide +kernel), List.mem_of_getElem? (i := 2035) (by decide +kernel)⟩
theorem lw_p90 : lw_okq (⟨"PitInspectorModel", "nearestOfFace", "(I)I"⟩, 111) := ⟨⟨by decide +kernel, by decide +kernel⟩, List.mem_of_getElem? (i := 1458) (by decide +kernel), List.mem_of_getElem? (i := 2038) (by decide +kernel), List.mem_of_getElem? (i := 2039) (by decide +kernel)⟩
theorem lw_p91 : lw_okq (⟨"PitInspectorModel", "yardsOf", "(III)I"⟩, 111) := ⟨⟨by decide +kernel, by decide +kernel⟩, List.mem_of_getElem? (i := 1458) (by decide +kernel), List.mem_of_getElem? (i := 2042) (by decide +kernel), List.mem_of_getElem? (i := 2043) (by decide +kernel)⟩
theorem lw_p92 : lw_okq (⟨"PitInspectorModel", "far", "(IIIIII)I"⟩, 111) := ⟨⟨by decide +kernel, by decide +kernel⟩, List.mem_of_getElem? (i := 1458) (by decide +kernel), List.mem_of_getElem? (i := 2046) (by decide +kernel), List.mem_of_getElem? (i := 2047) (by decide +kernel)⟩
theorem lw_p93 : lw_okq (⟨"PitInspectorModel", "trueX", "(III)I"⟩, 111) := ⟨⟨by decide +kernel, by decide +kernel⟩, List.mem_of_getElem? (i := 1458) (by decide +kernel), List.mem_of_getElem? (i := 2050) (by decide +kernel), List.mem_of_getElem? (i := 2051) (by decide +kernel)⟩
theorem lw_p94 : lw_okq (⟨"PitInspectorModel", "trueY", "(III)I"⟩, 111) := ⟨⟨by decide +kernel, by decide +kernel⟩, List.mem_of_getElem? (i := 1458) (by decide +kernel), List.mem_of_getElem? (i := 2057) (by decide +kernel), List.mem_of_getElem? (i := 2058) (by decide +kernel)⟩
theorem lw_p95 : lw_okq (⟨"PitInspectorModel", "doubt", "(II)I"⟩, 111) := ⟨⟨by decide +kernel, by decide +kernel⟩, List.mem_of_getElem? (i := 1458) (by decide +kernel), List.mem_of_getElem? (i := 2061) (by decide +kernel), List.mem_of_getElem? (i := 2062) (by decide +kernel)⟩
def lw_privs_6 : List (MethodName × Nat) := [(⟨"PitInspectorModel", "otherEnd", "(II)I"⟩, 111), (⟨"PitInspectorModel", "goesThrough", "(II)Z"⟩, 111), (⟨"PitInspectorModel", "parts", "(II)V"⟩, 111), (⟨"PitInspectorModel", "isOn", "(III)Z"⟩, 111), (⟨"PitInspectorModel", "fewestOf", "(I)I"⟩, 111), (⟨"PitInspectorModel", "isBank", "(I)Z"⟩, 111), (⟨"PitInspectorModel", "waysOf", "(I)I"⟩, 111), (⟨"PitInspectorModel", "adds", "(II)Z"⟩, 111), (⟨"PitInspectorModel", "canGo", "(II)Z"⟩, 111), (⟨"PitInspectorModel", "nearestOfPit", "(I)I"⟩, 111), (⟨"PitInspectorModel", "nearestOfFace", "(I)I"⟩, 111), (⟨"PitInspectorModel", "yardsOf", "(III)I"⟩, 111), (⟨"PitInspectorModel", "far", "(IIIIII)I"⟩, 111), (⟨"PitInspectorModel", "trueX", "(III)I"⟩, 111), (⟨"PitInspectorModel", "trueY", "(III)I"⟩, 111), (⟨"PitInspectorModel", "doubt", "(II)I"⟩, 111)]
theorem lw_r6 : ∀ q ∈ lw_privs_6, lw_okq q := List.forall_mem_cons.mpr ⟨lw_p80, List.forall_mem_cons.mpr ⟨lw_p81, List.forall_mem_cons.mpr ⟨lw_p82, List.forall_mem_cons.mpr ⟨lw_p83, List.forall_mem_cons.mpr ⟨lw_p84, List.forall_mem_cons.mpr ⟨lw_p85, List.forall_mem_cons.mpr ⟨lw_p86, List.forall_mem_cons.mpr ⟨lw_p87, List.forall_mem_cons.mpr ⟨lw_p88, List.forall_mem_cons.mpr ⟨lw_p89, List.forall_mem_cons.mpr ⟨lw_p90, List.forall_mem_cons.mpr ⟨lw_p91, List.forall_mem_cons.mpr ⟨lw_p92, List.forall_mem_cons.mpr ⟨lw_p93, List.forall_mem_cons.mpr ⟨lw_p94, List.forall_mem_cons.mpr ⟨lw_p95, fun _ h => absurd h List.not_mem_nil⟩⟩⟩⟩⟩⟩⟩⟩⟩⟩⟩⟩⟩⟩⟩⟩
theorem lw_p96 : lw_okq (⟨"PitInspectorModel", "lampsOut", "(I)I"⟩, 111) := ⟨⟨by decide +kernel, by decide +kernel⟩, List.mem_of_getElem? (i := 1458) (by decide +kernel), List.mem_of_getElem? (i := 2065) (by decide +kernel), List.mem_of_getElem? (i := 2066) (by decide +kernel)⟩
theorem lw_p97 : lw_okq (⟨"PitInspectorModel", "shotsSince", "(I)I"⟩, 111) := ⟨⟨by decide +kernel, by decide +kernel⟩, List.mem_of_getElem? (i := 1458) (by decide +kernel), List.mem_of_getElem? (i := 2069) (by decide +kernel), List.mem_of_getElem? (i := 2070) (by decide +kernel)⟩
theorem lw_p98 : lw_okq (⟨"PitInspectorModel", "breaks", "(II)I"⟩, 111) := ⟨⟨by decide +kernel, by decide +kernel⟩, List.mem_of_getElem? (i := 1458) (by decide +kernel), List.mem_of_getElem? (i := 2077) (by decide +kernel), List.mem_of_getElem? (i := 2078) (by decide +kernel)⟩
theorem lw_p99 : lw_okq (⟨"PitInspectorModel", "fineOf", "(II)I"⟩, 111) := ⟨⟨by decide +kernel, by decide +kernel⟩, List.mem_of_getElem? (i := 1458) (by decide +kernel), List.mem_of_getElem? (i := 2090) (by decide +kernel), List.mem_of_getElem? (i := 2091) (by decide +kernel)⟩
theorem lw_p100 : lw_okq (⟨"PitInspectorModel", "isAgainst", "(II)Z"⟩, 111) := ⟨⟨by decide +kernel, by decide +kernel⟩, List.mem_of_getElem? (i := 1458) (by decide +kernel), List.mem_of_getElem? (i := 2098) (by decide +kernel), List.mem_of_getElem? (i := 2099) (by decide +kernel)⟩
theorem lw_p101 : lw_okq (⟨"PitInspectorModel", "areAlike", "(II)Z"⟩, 111) := ⟨⟨by decide +kernel, by decide +kernel⟩, List.mem_of_getElem? (i := 1458) (by decide +kernel), List.mem_of_getElem? (i := 2102) (by decide +kernel), List.mem_of_getElem? (i := 2103) (by decide +kernel)⟩
theorem lw_p102 : lw_okq (⟨"PitInspectorModel", "isPlace", "(I)Z"⟩, 111) := ⟨⟨by decide +kernel, by decide +kernel⟩, List.mem_of_getElem? (i := 1458) (by decide +kernel), List.mem_of_getElem? (i := 2114) (by decide +kernel), List.mem_of_getElem? (i := 2115) (by decide +kernel)⟩
theorem lw_p103 : lw_okq (⟨"PitInspectorModel", "isRoad", "(I)Z"⟩, 111) := ⟨⟨by decide +kernel, by decide +kernel⟩, List.mem_of_getElem? (i := 1458) (by decide +kernel), List.mem_of_getElem? (i := 2122) (by decide +kernel), List.mem_of_getElem? (i := 2123) (by decide +kernel)⟩
theorem lw_p104 : lw_okq (⟨"PitInspectorModel", "isPlan", "(I)Z"⟩, 111) := ⟨⟨by decide +kernel, by decide +kernel⟩, List.mem_of_getElem? (i := 1458) (by decide +kernel), List.mem_of_getElem? (i := 2170) (by decide +kernel), List.mem_of_getElem? (i := 2171) (by decide +kernel)⟩
theorem lw_p105 : lw_okq (⟨"PitInspectorModel", "nearSet", "(I)I"⟩, 111) := ⟨⟨by decide +kernel, by decide +kernel⟩, List.mem_of_getElem? (i := 1458) (by decide +kernel), List.mem_of_getElem? (i := 2195) (by decide +kernel), List.mem_of_getElem? (i := 2196) (by decide +kernel)⟩
theorem lw_p106 : lw_okq (⟨"PitInspectorModel", "isHand", "(I)Z"⟩, 111) := ⟨⟨by decide +kernel, by decide +kernel⟩, List.mem_of_getElem? (i := 1458) (by decide +kernel), List.mem_of_getElem? (i := 2216) (by decide +kernel), List.mem_of_getElem? (i := 2217) (by decide +kernel)⟩
theorem lw_p107 : lw_okq (⟨"PitInspectorModel", "isWarning", "(I)Z"⟩, 111) := ⟨⟨by decide +kernel, by decide +kernel⟩, List.mem_of_getElem? (i := 1458) (by decide +kernel), List.mem_of_getElem? (i := 2257) (by decide +kernel), List.mem_of_getElem? (i := 2258) (by decide +kernel)⟩
theorem lw_p108 : lw_okq (⟨"PitInspectorModel", "hoursOf", "(I)I"⟩, 111) := ⟨⟨by decide +kernel, by decide +kernel⟩, List.mem_of_getElem? (i := 1458) (by decide +kernel), List.mem_of_getElem? (i := 2273) (by decide +kernel), List.mem_of_getElem? (i := 2274) (by decide +kernel)⟩
theorem lw_p109 : lw_okq (⟨"PitInspectorModel", "worthOfPit", "(I)I"⟩, 111) := ⟨⟨by decide +kernel, by decide +kernel⟩, List.mem_of_getElem? (i := 1458) (by decide +kernel), List.mem_of_getElem? (i := 2294) (by decide +kernel), List.mem_of_getElem? (i := 2295) (by decide +kernel)⟩
theorem lw_p110 : lw_okq (⟨"PitInspectorModel", "sends", "(I)V"⟩, 111) := ⟨⟨by decide +kernel, by decide +kernel⟩, List.mem_of_getElem? (i := 1458) (by decide +kernel), List.mem_of_getElem? (i := 2306) (by decide +kernel), List.mem_of_getElem? (i := 2307) (by decide +kernel)⟩
theorem lw_p111 : lw_okq (⟨"PitInspectorModel", "weighs", "()V"⟩, 111) := ⟨⟨by decide +kernel, by decide +kernel⟩, List.mem_of_getElem? (i := 1458) (by decide +kernel), List.mem_of_getElem? (i := 2327) (by decide +kernel), List.mem_of_getElem? (i := 2328) (by decide +kernel)⟩
def lw_privs_7 : List (MethodName × Nat) := [(⟨"PitInspectorModel", "lampsOut", "(I)I"⟩, 111), (⟨"PitInspectorModel", "shotsSince", "(I)I"⟩, 111), (⟨"PitInspectorModel", "breaks", "(II)I"⟩, 111), (⟨"PitInspectorModel", "fineOf", "(II)I"⟩, 111), (⟨"PitInspectorModel", "isAgainst", "(II)Z"⟩, 111), (⟨"PitInspectorModel", "areAlike", "(II)Z"⟩, 111), (⟨"PitInspectorModel", "isPlace", "(I)Z"⟩, 111), (⟨"PitInspectorModel", "isRoad", "(I)Z"⟩, 111), (⟨"PitInspectorModel", "isPlan", "(I)Z"⟩, 111), (⟨"PitInspectorModel", "nearSet", "(I)I"⟩, 111), (⟨"PitInspectorModel", "isHand", "(I)Z"⟩, 111), (⟨"PitInspectorModel", "isWarning", "(I)Z"⟩, 111), (⟨"PitInspectorModel", "hoursOf", "(I)I"⟩, 111), (⟨"PitInspectorModel", "worthOfPit", "(I)I"⟩, 111), (⟨"PitInspectorModel", "sends", "(I)V"⟩, 111), (⟨"PitInspectorModel", "weighs", "()V"⟩, 111)]
theorem lw_r7 : ∀ q ∈ lw_privs_7, lw_okq q := List.forall_mem_cons.mpr ⟨lw_p96, List.forall_mem_cons.mpr ⟨lw_p97, List.forall_mem_cons.mpr ⟨lw_p98, List.forall_mem_cons.mpr ⟨lw_p99, List.forall_mem_cons.mpr ⟨lw_p100, List.forall_mem_cons.mpr ⟨lw_p101, List.forall_mem_cons.mpr ⟨lw_p102, List.forall_mem_cons.mpr ⟨lw_p103, List.forall_mem_cons.mpr ⟨lw_p104, List.forall_mem_cons.mpr ⟨lw_p105, List.forall_mem_cons.mpr ⟨lw_p106, List.forall_mem_cons.mpr ⟨lw_p107, List.forall_mem_cons.mpr ⟨lw_p108, List.forall_mem_cons.mpr ⟨lw_p109, List.forall_mem_cons.mpr ⟨lw_p110, List.forall_mem_cons.mpr ⟨lw_p111, fun _ h => absurd h List.not_mem_nil⟩⟩⟩⟩⟩⟩⟩⟩⟩⟩⟩⟩⟩⟩⟩⟩
theorem lw_p112 : lw_okq (⟨"PitInspectorModel", "canBe", "(I)Z"⟩, 111) := ⟨⟨by decide +kernel, by decide +kernel⟩, List.mem_of_getElem? (i := 1458) (by decide +kernel), List.mem_of_getElem? (i := 2331) (by decide +kernel), List.mem_of_getElem? (i := 2332) (by decide +kernel)⟩
def lw_privs_8 : List (MethodName × Nat) := [(⟨"PitInspectorModel", "canBe", "(I)Z"⟩, 111)]
theorem lw_r8 : ∀ q ∈ lw_privs_8, lw_okq q := List.forall_mem_cons.mpr ⟨lw_p112, fun _ h => absurd h List.not_mem_nil⟩
def lw_privs : List (MethodName × Nat) := lw_privs_1 ++ (lw_privs_2 ++ (lw_privs_3 ++ (lw_privs_4 ++ (lw_privs_5 ++ (lw_privs_6 ++ (lw_privs_7 ++ (lw_privs_8)))))))
def lw_tbl : List Cond := k2_sels lw_privs ++ tables_1
theorem lw_privs_ok : ∀ q ∈ lw_privs, lw_okq q := by
  show ∀ q ∈ lw_privs_1 ++ (lw_privs_2 ++ (lw_privs_3 ++ (lw_privs_4 ++ (lw_privs_5 ++ (lw_privs_6 ++ (lw_privs_7 ++ (lw_privs_8))))))), lw_okq q
  exact List.forall_mem_append.mpr ⟨lw_r1, List.forall_mem_append.mpr ⟨lw_r2, List.forall_mem_append.mpr ⟨lw_r3, List.forall_mem_append.mpr ⟨lw_r4, List.forall_mem_append.mpr ⟨lw_r5, List.forall_mem_append.mpr ⟨lw_r6, List.forall_mem_append.mpr ⟨lw_r7, lw_r8⟩⟩⟩⟩⟩⟩⟩
-- ===== end of PART A; then your names; then what follows =====
end
section
/-! A SMALL MACHINE over a pure heap: what the program's bytecode does, as a function.
values: (0,x) an int, (1,x) a long, (2,a) the object or array number a, (3,0) null, (4,0) the script, (5,0) the text of letters, (9,0) nothing known.
a heap: the number that place j of cell a holds; the references (a cell's number + 1; null as 0), how many cells there are, the script's length, the script. -/
abbrev AV : Type := Nat × Int
abbrev Zt : Type := (Nat → Nat → Int) × Nat × Nat × (Nat → Int)
abbrev Hp : Type := (Nat → Nat → Int) × Zt
abbrev Ins : Type := Nat × Nat × List Nat × List Int
abbrev Res : Type := Option AV × Hp
abbrev GG : Type := Nat × Nat
def w32 (x : Int) : Int := Int.bmod x 4294967296
def w64 (x : Int) : Int := Int.bmod x 18446744073709551616
def ia32 (x y : Int) : Int := (Int32.ofInt x &&& Int32.ofInt y).toInt
def io32 (x y : Int) : Int := (Int32.ofInt x ||| Int32.ofInt y).toInt
def ix32 (x y : Int) : Int := (Int32.ofInt x ^^^ Int32.ofInt y).toInt
def ia64 (x y : Int) : Int := (Int64.ofInt x &&& Int64.ofInt y).toInt
def io64 (x y : Int) : Int := (Int64.ofInt x ||| Int64.ofInt y).toInt
def shl32 (x y : Int) : Int := w32 (x * 2 ^ (y % 32).toNat)
def shr32 (x y : Int) : Int := x / 2 ^ (y % 32).toNat
def ush32 (x y : Int) : Int := w32 ((x % 4294967296) / 2 ^ (y % 32).toNat)
def shl64 (x y : Int) : Int := w64 (x * 2 ^ (y % 64).toNat)
def shr64 (x y : Int) : Int := x / 2 ^ (y % 64).toNat
def lcm (x y : Int) : Int := if x < y then -1 else if x = y then 0 else 1
def up2 (f : Nat → Nat → Int) (a j : Nat) (x : Int) : Nat → Nat → Int := fun a' j' => if a' = a ∧ j' = j then x else f a' j'
def cp2 (f : Nat → Nat → Int) (a sp b dp n : Nat) : Nat → Nat → Int := fun a' j' => if a' = b ∧ dp ≤ j' ∧ j' < dp + n then f a (sp + (j' - dp)) else f a' j'
def lg : List AV → Nat → AV
  | [], _ => (9, 0)
  | v :: _, 0 => v
  | _ :: l, n + 1 => lg l n
def lset : List AV → Nat → AV → List AV
  | [], _, _ => []
  | _ :: l, 0, v => v :: l
  | u :: l, n + 1, v => u :: lset l n v
def lkill (ls : List AV) (a : Nat) : List AV := if 0 < a ∧ (lg ls (a - 1)).1 = 1 then lset ls (a - 1) (9, 0) else ls
def st1 (ls : List AV) (a : Nat) (v : AV) : List AV := lset (lkill ls a) a v
def st2 (ls : List AV) (a : Nat) (v : AV) : List AV := lset (lset (lkill ls a) a v) (a + 1) (9, 0)
def tk : Nat → List AV → List AV → Option (List AV × List AV)
  | 0, acc, s => some (acc, s)
  | _ + 1, _, [] => none
  | n + 1, acc, v :: s => tk n (v :: acc) s
def ent : Nat → List AV → List AV
  | 0, _ => []
  | n + 1, [] => (9, 0) :: ent n []
  | n + 1, (t, x) :: l => (t, x) :: (if t = 1 then (match n with | 0 => [] | n' + 1 => (9, 0) :: ent n' l) else ent n l)
def swt : List Int → List Nat → Nat → Int → Nat
  | k :: ks, t :: ts, d, x => if x = k then t else swt ks ts d x
  | _, _, d, _ => d
def idxOf : List Int → Int → Int → Int
  | [], _, _ => -1
  | k :: ks, n, x => if x = k then n else idxOf ks (n + 1) x
/-- how the cells lie: what each is (below 20 an object of that class; 20 ints, 21 bytes, 22 booleans, 23 longs, 24 texts) and how long -/
abbrev Lay : Type := Nat → Nat × Nat
def b1 (f : Int → Int) (nx : Nat) (ls stk : List AV) (h : Hp) (gg : GG) : Option (Nat × List AV × List AV × Hp × GG) := match stk with
  | (0, x) :: r => some (nx, ls, (0, f x) :: r, h, gg)
  | _ => none
def b2 (f : Int → Int → Int) (nx : Nat) (ls stk : List AV) (h : Hp) (gg : GG) : Option (Nat × List AV × List AV × Hp × GG) := match stk with
  | (0, y) :: (0, x) :: r => some (nx, ls, (0, f x y) :: r, h, gg)
  | _ => none
def b2z (f : Int → Int → Int) (nx : Nat) (ls stk : List AV) (h : Hp) (gg : GG) : Option (Nat × List AV × List AV × Hp × GG) := match stk with
  | (0, y) :: (0, x) :: r => if y = 0 then none else some (nx, ls, (0, f x y) :: r, h, gg)
  | _ => none
def l2 (f : Int → Int → Int) (nx : Nat) (ls stk : List AV) (h : Hp) (gg : GG) : Option (Nat × List AV × List AV × Hp × GG) := match stk with
  | (1, y) :: (1, x) :: r => some (nx, ls, (1, f x y) :: r, h, gg)
  | _ => none
def l2z (f : Int → Int → Int) (nx : Nat) (ls stk : List AV) (h : Hp) (gg : GG) : Option (Nat × List AV × List AV × Hp × GG) := match stk with
  | (1, y) :: (1, x) :: r => if y = 0 then none else some (nx, ls, (1, f x y) :: r, h, gg)
  | _ => none
def ls2 (f : Int → Int → Int) (nx : Nat) (ls stk : List AV) (h : Hp) (gg : GG) : Option (Nat × List AV × List AV × Hp × GG) := match stk with
  | (0, y) :: (1, x) :: r => some (nx, ls, (1, f x y) :: r, h, gg)
  | _ => none
/-- constants, locals -/
def effA (i : Ins) (ls stk : List AV) (h : Hp) (gg : GG) : Option (Nat × List AV × List AV × Hp × GG) :=
  let op := i.1; let nx := i.2.1; let a := i.2.2.1.headD 0; let v := i.2.2.2.headD 0
  if op ≤ 5 then some (nx, ls, (0, v) :: stk, h, gg)
  else if op ≤ 7 then some (nx, ls, (1, v) :: stk, h, gg)
  else if op = 8 then some (nx, ls, (5, 0) :: stk, h, gg)
  else if op ≤ 11 then (if (lg ls a).1 = 0 then some (nx, ls, lg ls a :: stk, h, gg) else none)
  else if op ≤ 13 then (if (lg ls a).1 = 1 then some (nx, ls, lg ls a :: stk, h, gg) else none)
  else if op ≤ 15 then (if (lg ls a).1 = 2 ∨ (lg ls a).1 = 4 then some (nx, ls, lg ls a :: stk, h, gg) else none)
  else if op ≤ 17 then (match stk with
    | (0, x) :: r => some (nx, st1 ls a (0, x), r, h, gg)
    | _ => none)
  else if op ≤ 19 then (match stk with
    | (1, x) :: r => some (nx, st2 ls a (1, x), r, h, gg)
    | _ => none)
  else if op ≤ 21 then (match stk with
    | (2, x) :: r => some (nx, st1 ls a (2, x), r, h, gg)
    | _ => none)
  else if op = 22 then (if (lg ls a).1 = 0 then some (nx, st1 ls a (0, w32 ((lg ls a).2 + v)), stk, h, gg) else none)
  else none
/-- reckoning -/
def effB (i : Ins) (ls stk : List AV) (h : Hp) (gg : GG) : Option (Nat × List AV × List AV × Hp × GG) :=
  let op := i.1; let nx := i.2.1
  if op = 30 then b2 (fun x y => w32 (x + y)) nx ls stk h gg
  else if op = 31 then b2 (fun x y => w32 (x - y)) nx ls stk h gg
  else if op = 32 then b2 (fun x y => w32 (x * y)) nx ls stk h gg
  else if op = 33 then b2z (fun x y => w32 (Int.tdiv x y)) nx ls stk h gg
  else if op = 34 then b2z (fun x y => Int.tmod x y) nx ls stk h gg
  else if op = 35 then b1 (fun x => w32 (-x)) nx ls stk h gg
  else if op = 36 then b2 shl32 nx ls stk h gg
  else if op = 37 then b2 shr32 nx ls stk h gg
  else if op = 38 then b2 ush32 nx ls stk h gg
  else if op = 39 then b2 ia32 nx ls stk h gg
  else if op = 40 then b2 io32 nx ls stk h gg
  else if op = 41 then b2 ix32 nx ls stk h gg
  else if op = 42 then (match stk with
    | (0, x) :: r => some (nx, ls, (1, x) :: r, h, gg)
    | _ => none)
  else if op = 43 then (match stk with
    | (1, x) :: r => some (nx, ls, (0, w32 x) :: r, h, gg)
    | _ => none)
  else if op = 44 then b1 (fun x => Int.bmod x 256) nx ls stk h gg
  else if op = 45 then b1 (fun x => x % 65536) nx ls stk h gg
  else if op = 46 then l2 (fun x y => w64 (x + y)) nx ls stk h gg
  else if op = 47 then l2 (fun x y => w64 (x - y)) nx ls stk h gg
  else if op = 48 then l2 (fun x y => w64 (x * y)) nx ls stk h gg
  else if op = 49 then l2z (fun x y => w64 (Int.tdiv x y)) nx ls stk h gg
  else if op = 50 then l2z (fun x y => Int.tmod x y) nx ls stk h gg
  else if op = 51 then (match stk with
    | (1, y) :: (1, x) :: r => some (nx, ls, (0, lcm x y) :: r, h, gg)
    | _ => none)
  else if op = 52 then l2 ia64 nx ls stk h gg
  else if op = 53 then l2 io64 nx ls stk h gg
  else if op = 54 then ls2 shl64 nx ls stk h gg
  else if op = 55 then ls2 shr64 nx ls stk h gg
  else if op = 56 then (match stk with
    | v :: r => if v.1 = 1 then none else some (nx, ls, v :: v :: r, h, gg)
    | _ => none)
  else if op = 57 then (match stk with
    | v :: u :: r => if v.1 = 1 ∨ u.1 = 1 then none else some (nx, ls, v :: u :: v :: u :: r, h, gg)
    | _ => none)
  else if op = 58 then (match stk with
    | v :: r => if v.1 = 1 then none else some (nx, ls, r, h, gg)
    | _ => none)
  else none
def c1 (q : Int → Bool) (t nx : Nat) (ls stk : List AV) (h : Hp) (gg : GG) : Option (Nat × List AV × List AV × Hp × GG) := match stk with
  | (0, x) :: r => some (if q x = true then t else nx, ls, r, h, gg)
  | _ => none
def c2 (q : Int → Int → Bool) (t nx : Nat) (ls stk : List AV) (h : Hp) (gg : GG) : Option (Nat × List AV × List AV × Hp × GG) := match stk with
  | (0, y) :: (0, x) :: r => some (if q x y = true then t else nx, ls, r, h, gg)
  | _ => none
/-- branches -/
def effC (i : Ins) (ls stk : List AV) (h : Hp) (gg : GG) : Option (Nat × List AV × List AV × Hp × GG) :=
  let op := i.1; let nx := i.2.1; let t := i.2.2.1.headD 0
  if op = 60 then c1 (fun x => decide (x = 0)) t nx ls stk h gg
  else if op = 61 then c1 (fun x => decide (¬ x = 0)) t nx ls stk h gg
  else if op = 62 then c1 (fun x => decide (x < 0)) t nx ls stk h gg
  else if op = 63 then c1 (fun x => decide (0 ≤ x)) t nx ls stk h gg
  else if op = 64 then c1 (fun x => decide (0 < x)) t nx ls stk h gg
  else if op = 65 then c1 (fun x => decide (x ≤ 0)) t nx ls stk h gg
  else if op = 66 then c2 (fun x y => decide (x = y)) t nx ls stk h gg
  else if op = 67 then c2 (fun x y => decide (¬ x = y)) t nx ls stk h gg
  else if op = 68 then c2 (fun x y => decide (x < y)) t nx ls stk h gg
  else if op = 69 then c2 (fun x y => decide (y ≤ x)) t nx ls stk h gg
  else if op = 70 then c2 (fun x y => decide (y < x)) t nx ls stk h gg
  else if op = 71 then c2 (fun x y => decide (x ≤ y)) t nx ls stk h gg
  else if op = 72 then (match stk with
    | (3, _) :: r => some (t, ls, r, h, gg)
    | (2, _) :: r => some (nx, ls, r, h, gg)
    | _ => none)
  else if op = 73 then some (t, ls, stk, h, gg)
  else if op ≤ 75 then (match stk with
    | (0, x) :: r => some (swt i.2.2.2 i.2.2.1.tail t x, ls, r, h, gg)
    | _ => none)
  else none
/-- a reference's number: null, or a cell -/
def rv (r : Int) : AV := match r.toNat with
  | 0 => (3, 0)
  | n + 1 => (2, (n : Int))
theorem rv_eq {r : Int} (h : 0 ≤ r) : rv r = if r = 0 then (3, 0) else (2, r - 1) := by
  obtain ⟨n, rfl⟩ := Int.eq_ofNat_of_zero_le h
  cases n with
  | zero => rfl
  | succ n =>
    have h1 : rv ((n + 1 : Nat) : Int) = (2, (n : Int)) := rfl
    rw [h1, if_neg (by omega)]
    congr 1
    omega
/-- cells -/
def effD (LY : Lay) (al : GG) (i : Ins) (ls stk : List AV) (h : Hp) (gg : GG) : Option (Nat × List AV × List AV × Hp × GG) :=
  let op := i.1; let nx := i.2.1; let a := i.2.2.1.headD 0; let b := i.2.2.1.tail.headD 0
  if op ≤ 77 then (match stk with
    | (0, x) :: r => if 0 ≤ x ∧ LY h.2.2.1 = (a, x.toNat) ∧ gg.1 + 1 ≤ al.1 ∧ gg.2 + x.toNat ≤ al.2 then some (nx, ls, (2, (h.2.2.1 : Int)) :: r, (h.1, h.2.1, h.2.2.1 + 1, h.2.2.2), (gg.1 + 1, gg.2 + x.toNat)) else none
    | _ => none)
  else if op = 78 then (if (LY h.2.2.1).1 = a ∧ gg.1 + 1 ≤ al.1 ∧ gg.2 + (LY h.2.2.1).2 ≤ al.2 then some (nx, ls, (2, (h.2.2.1 : Int)) :: stk, (h.1, h.2.1, h.2.2.1 + 1, h.2.2.2), (gg.1 + 1, gg.2 + (LY h.2.2.1).2)) else none)
  else if op = 79 then (match stk with
    | (0, y) :: (0, x) :: r => if r.length ≤ 4 then some (nx, ls, (0, if x < y then y else x) :: r, h, gg) else none
    | _ => none)
  else if op = 89 then (match stk with
    | (0, y) :: (0, x) :: r => if r.length ≤ 4 then some (nx, ls, (0, if y < x then y else x) :: r, h, gg) else none
    | _ => none)
  else if op = 98 then (match stk with
    | (0, x) :: r => if r.length ≤ 4 then some (nx, ls, (0, if 0 ≤ x then x else w32 (0 - x)) :: r, h, gg) else none
    | _ => none)
  else if op = 80 then (match stk with
    | (0, x) :: (2, q) :: r => if (LY q.toNat).1 = 20 ∧ 0 ≤ x ∧ x < ((LY q.toNat).2 : Int) then some (nx, ls, (0, h.1 q.toNat x.toNat) :: r, h, gg) else none
    | (0, x) :: (4, _) :: r => if 0 ≤ x ∧ x < (h.2.2.2.1 : Int) then some (nx, ls, (0, h.2.2.2.2 x.toNat) :: r, h, gg) else none
    | _ => none)
  else if op = 81 then (match stk with
    | (0, x) :: (2, q) :: r => if ((LY q.toNat).1 = 21 ∨ (LY q.toNat).1 = 22) ∧ 0 ≤ x ∧ x < ((LY q.toNat).2 : Int) then some (nx, ls, (0, h.1 q.toNat x.toNat) :: r, h, gg) else none
    | _ => none)
  else if op = 82 then (match stk with
    | (0, x) :: (2, q) :: r => if (LY q.toNat).1 = 23 ∧ 0 ≤ x ∧ x < ((LY q.toNat).2 : Int) then some (nx, ls, (1, h.1 q.toNat x.toNat) :: r, h, gg) else none
    | _ => none)
  else if op = 83 then (match stk with
    | (0, x) :: (2, q) :: r => if (LY q.toNat).1 = 24 ∧ 0 ≤ x ∧ x < ((LY q.toNat).2 : Int) ∧ (rv (h.2.1 q.toNat x.toNat)).1 = 2 then some (nx, ls, rv (h.2.1 q.toNat x.toNat) :: r, h, gg) else none
    | _ => none)
  else if op = 84 then (match stk with
    | (0, v) :: (0, x) :: (2, q) :: r => if (LY q.toNat).1 = 20 ∧ 0 ≤ x ∧ x < ((LY q.toNat).2 : Int) then some (nx, ls, r, (up2 h.1 q.toNat x.toNat v, h.2), gg) else none
    | _ => none)
  else if op = 85 then (match stk with
    | (0, v) :: (0, x) :: (2, q) :: r => if 0 ≤ x ∧ x < ((LY q.toNat).2 : Int) then (if (LY q.toNat).1 = 21 then some (nx, ls, r, (up2 h.1 q.toNat x.toNat (Int.bmod v 256), h.2), gg) else if (LY q.toNat).1 = 22 ∧ (v = 0 ∨ v = 1) then some (nx, ls, r, (up2 h.1 q.toNat x.toNat v, h.2), gg) else none) else none
    | _ => none)
  else if op = 86 then (match stk with
    | (1, v) :: (0, x) :: (2, q) :: r => if (LY q.toNat).1 = 23 ∧ 0 ≤ x ∧ x < ((LY q.toNat).2 : Int) then some (nx, ls, r, (up2 h.1 q.toNat x.toNat v, h.2), gg) else none
    | _ => none)
  else if op = 87 then (match stk with
    | (2, v) :: (0, x) :: (2, q) :: r => if (LY q.toNat).1 = 24 ∧ (LY v.toNat).1 = b ∧ 0 ≤ x ∧ x < ((LY q.toNat).2 : Int) then some (nx, ls, r, (h.1, up2 h.2.1 q.toNat x.toNat (v + 1), h.2.2), gg) else none
    | _ => none)
  else if op = 88 then (match stk with
    | (2, q) :: r => if 20 ≤ (LY q.toNat).1 ∧ (LY q.toNat).1 ≤ 24 then some (nx, ls, (0, ((LY q.toNat).2 : Int)) :: r, h, gg) else none
    | (4, _) :: r => some (nx, ls, (0, (h.2.2.2.1 : Int)) :: r, h, gg)
    | _ => none)
  else if op = 90 then (match stk with
    | (2, q) :: r => if (LY q.toNat).1 = a then some (nx, ls, (0, h.1 q.toNat b) :: r, h, gg) else none
    | _ => none)
  else if op = 91 then (match stk with
    | (2, q) :: r => if (LY q.toNat).1 = a then some (nx, ls, rv (h.2.1 q.toNat b) :: r, h, gg) else none
    | _ => none)
  else if op = 92 then (match stk with
    | (0, v) :: (2, q) :: r => if (LY q.toNat).1 = a then some (nx, ls, r, (up2 h.1 q.toNat b v, h.2), gg) else none
    | _ => none)
  else if op = 93 then (match stk with
    | (2, v) :: (2, q) :: r => if (LY q.toNat).1 = a then some (nx, ls, r, (h.1, up2 h.2.1 q.toNat b (v + 1), h.2.2), gg) else none
    | _ => none)
  else if op = 94 then (match stk with
    | (0, v) :: (2, q) :: r => if (LY q.toNat).1 = a ∧ (v = 0 ∨ v = 1) then some (nx, ls, r, (up2 h.1 q.toNat b v, h.2), gg) else none
    | _ => none)
  else if op = 95 then (match stk with
    | (2, _) :: r => if r.length ≤ 4 then some (nx, ls, r, h, gg) else none
    | _ => none)
  else if op = 96 then (match stk with
    | (0, n) :: (0, dp) :: (2, q) :: (0, sp) :: (2, p) :: r => if ((LY p.toNat).1 = 20 ∨ (LY p.toNat).1 = 21) ∧ (LY q.toNat).1 = (LY p.toNat).1 ∧ 0 ≤ sp ∧ 0 ≤ dp ∧ 0 ≤ n ∧ sp + n ≤ ((LY p.toNat).2 : Int) ∧ dp + n ≤ ((LY q.toNat).2 : Int) ∧ r.length ≤ 4 then some (nx, ls, r, (cp2 h.1 p.toNat sp.toNat q.toNat dp.toNat n.toNat, h.2), gg) else none
    | _ => none)
  else if op = 97 then (match stk with
    | (0, x) :: (5, _) :: r => if r.length ≤ 4 ∧ 0 ≤ x ∧ x < 256 then some (nx, ls, (0, idxOf i.2.2.2 0 x) :: r, h, gg) else none
    | _ => none)
  else none
def eff (LY : Lay) (al : GG) (i : Ins) (ls stk : List AV) (h : Hp) (gg : GG) : Option (Nat × List AV × List AV × Hp × GG) :=
  if i.1 < 30 then effA i ls stk h gg else if i.1 < 60 then effB i ls stk h gg else if i.1 < 76 then effC i ls stk h gg else effD LY al i ls stk h gg
/-- what the program is: how cells lie; its code, by method and place; a method's room for new cells and their places; its locals; its class (50: static; 60: a constructor); what it returns (0 nothing, 1 an int, 2 a boolean, 3 a long) -/
abbrev Prg : Type := Lay × (Nat → Nat → Ins) × (Nat → GG) × (Nat → Nat) × (Nat → Nat) × (Nat → Nat)
abbrev Cal : Type := Nat → List AV → Hp → Option Res
abbrev Kon : Type := Nat → List AV → List AV → Hp → GG → Option Res
def goRet (P : Prg) (m : Nat) (i : Ins) (stk : List AV) (h : Hp) : Option Res :=
  if i.1 = 110 then (match stk with
    | [(0, x)] => if P.2.2.2.2.2 m = 2 then (if x = 0 ∨ x = 1 then some (some (0, x), h) else none) else some (some (0, x), h)
    | _ => none)
  else if i.1 = 111 then (match stk with
    | [(1, x)] => some (some (1, x), h)
    | _ => none)
  else (match stk with
    | [] => some (none, h)
    | _ => none)
def rcv (LY : Lay) (c : Nat) (as : List AV) : Bool := if c = 50 then true else match as with
  | (2, q) :: _ => if c = 60 then true else decide ((LY q.toNat).1 = c)
  | _ => false
/-- how many places the arguments take -/
def argw : List AV → Nat
  | [] => 0
  | v :: l => (if v.1 = 1 then 2 else 1) + argw l
def goCall (P : Prg) (C : Cal) (k : Kon) (m : Nat) (i : Ins) (ls stk : List AV) (h : Hp) (gg : GG) : Option Res :=
  let c := i.2.2.1.headD 0; let na := i.2.2.1.tail.headD 0
  match tk na [] stk with
  | some (as, r) => (match (if rcv P.1 (P.2.2.2.2.1 c) as = true ∧ argw as ≤ P.2.2.2.1 c ∧ r.length ≤ 4 ∧ gg.1 + (P.2.2.1 c).1 ≤ (P.2.2.1 m).1 ∧ gg.2 + (P.2.2.1 c).2 ≤ (P.2.2.1 m).2 then C c as h else none) with
    | some (v, h') => k i.2.1 ls (v.toList ++ r) h' (gg.1 + (P.2.2.1 c).1, gg.2 + (P.2.2.1 c).2)
    | none => none)
  | none => none
def go (P : Prg) (C : Cal) (k : Kon) (m : Nat) (i : Ins) (ls stk : List AV) (h : Hp) (gg : GG) : Option Res :=
  if i.1 < 100 then (match eff P.1 (P.2.2.1 m) i ls stk h gg with
    | some r => k r.1 r.2.1 r.2.2.1 r.2.2.2.1 r.2.2.2.2
    | none => none)
  else if i.1 < 110 then goCall P C k m i ls stk h gg
  else goRet P m i stk h
def run (P : Prg) (C : Cal) : Nat → Nat → Kon
  | 0, _ => fun _ _ _ _ _ => none
  | n + 1, m => fun pc ls stk h gg => go P C (run P C n m) m (P.2.1 m pc) ls stk h gg
noncomputable def Run (P : Prg) (C : Cal) (m : Nat) : Kon := fun pc ls stk h gg =>
  @dite (Option Res) (∃ x n, run P C n m pc ls stk h gg = some x) (Classical.propDecidable _) (fun hx => some hx.choose) (fun _ => none)
noncomputable def Call (P : Prg) : Nat → Cal
  | 0 => fun _ _ _ => none
  | d + 1 => fun m as h => Run P (Call P d) m 0 (ent (P.2.2.2.1 m) as) [] h (0, 0)
/-- what k says is used at one place at most -/
theorem go_local (P : Prg) (C : Cal) (m : Nat) (i : Ins) (ls stk : List AV) (h : Hp) (gg : GG) : (∃ r : Option Res, ∀ k, go P C k m i ls stk h gg = r) ∨ (∃ pc ls' stk' h' gg', ∀ k : Kon, go P C k m i ls stk h gg = k pc ls' stk' h' gg') := by
  unfold go
  split
  · cases eff P.1 (P.2.2.1 m) i ls stk h gg with
    | none => exact Or.inl ⟨none, fun _ => rfl⟩
    | some r => exact Or.inr ⟨_, _, _, _, _, fun _ => rfl⟩
  · split
    · unfold goCall
      dsimp only
      cases tk (i.2.2.1.tail.headD 0) [] stk with
      | none => exact Or.inl ⟨none, fun _ => rfl⟩
      | some q =>
        obtain ⟨as, r⟩ := q
        dsimp only
        generalize (if rcv P.1 (P.2.2.2.2.1 (i.2.2.1.headD 0)) as = true ∧ argw as ≤ P.2.2.2.1 (i.2.2.1.headD 0) ∧ r.length ≤ 4 ∧ gg.1 + (P.2.2.1 (i.2.2.1.headD 0)).1 ≤ (P.2.2.1 m).1 ∧ gg.2 + (P.2.2.1 (i.2.2.1.headD 0)).2 ≤ (P.2.2.1 m).2 then C (i.2.2.1.headD 0) as h else none) = z
        cases z with
        | none => exact Or.inl ⟨none, fun _ => rfl⟩
        | some q => exact Or.inr ⟨_, _, _, _, _, fun _ => rfl⟩
    · exact Or.inl ⟨_, fun _ => rfl⟩
theorem run_up {P : Prg} {C : Cal} {m : Nat} : ∀ {n pc ls stk h gg x}, run P C n m pc ls stk h gg = some x → run P C (n + 1) m pc ls stk h gg = some x := by
  intro n
  induction n with
  | zero => intro pc ls stk h gg x hx; cases hx
  | succ n ih =>
    intro pc ls stk h gg x hx
    show go P C (run P C (n + 1) m) m (P.2.1 m pc) ls stk h gg = some x
    have hx' : go P C (run P C n m) m (P.2.1 m pc) ls stk h gg = some x := hx
    rcases go_local P C m (P.2.1 m pc) ls stk h gg with ⟨r, hr⟩ | ⟨pc', ls', stk', h', gg', hr⟩
    · rw [hr] at hx' ⊢; exact hx'
    · rw [hr] at hx' ⊢; exact ih hx'
theorem run_le {P : Prg} {C : Cal} {m : Nat} {n n' pc ls stk h gg x} (hn : n ≤ n') (hx : run P C n m pc ls stk h gg = some x) : run P C n' m pc ls stk h gg = some x := by
  induction hn with
  | refl => exact hx
  | step _ ih => exact run_up ih
theorem run_det {P : Prg} {C : Cal} {m : Nat} {n n' pc ls stk h gg x y} (hx : run P C n m pc ls stk h gg = some x) (hy : run P C n' m pc ls stk h gg = some y) : x = y := by
  have h1 := run_le (Nat.le_max_left n n') hx
  have h2 := run_le (Nat.le_max_right n n') hy
  rw [h1] at h2
  exact Option.some.inj h2
theorem Run_of {P : Prg} {C : Cal} {m : Nat} {n pc ls stk h gg x} (hx : run P C n m pc ls stk h gg = some x) : Run P C m pc ls stk h gg = some x := by
  unfold Run
  have he : ∃ x n, run P C n m pc ls stk h gg = some x := ⟨x, n, hx⟩
  rw [dif_pos he]
  obtain ⟨n', hn'⟩ := he.choose_spec
  rw [run_det hn' hx]
theorem Run_to {P : Prg} {C : Cal} {m : Nat} {pc ls stk h gg x} (hx : Run P C m pc ls stk h gg = some x) : ∃ n, run P C n m pc ls stk h gg = some x := by
  unfold Run at hx
  by_cases he : ∃ x n, run P C n m pc ls stk h gg = some x
  · rw [dif_pos he] at hx
    rw [← Option.some.inj hx]
    exact he.choose_spec
  · rw [dif_neg he] at hx; cases hx
/-- THE STEP -/
theorem Run_eq (P : Prg) (C : Cal) (m pc : Nat) (ls stk : List AV) (h : Hp) (gg : GG) : Run P C m pc ls stk h gg = go P C (Run P C m) m (P.2.1 m pc) ls stk h gg := by
  have key : ∀ x, Run P C m pc ls stk h gg = some x ↔ go P C (Run P C m) m (P.2.1 m pc) ls stk h gg = some x := by
    intro x
    constructor
    · intro hx
      obtain ⟨n, hn⟩ := Run_to hx
      cases n with
      | zero => cases hn
      | succ n =>
        have hn' : go P C (run P C n m) m (P.2.1 m pc) ls stk h gg = some x := hn
        rcases go_local P C m (P.2.1 m pc) ls stk h gg with ⟨r, hr⟩ | ⟨pc', ls', stk', h', gg', hr⟩
        · rw [hr] at hn' ⊢; exact hn'
        · rw [hr] at hn' ⊢; exact Run_of hn'
    · intro hx
      rcases go_local P C m (P.2.1 m pc) ls stk h gg with ⟨r, hr⟩ | ⟨pc', ls', stk', h', gg', hr⟩
      · rw [hr] at hx
        exact Run_of (n := 1) (by show go P C (run P C 0 m) m (P.2.1 m pc) ls stk h gg = some x; rw [hr]; exact hx)
      · rw [hr] at hx
        obtain ⟨n, hn⟩ := Run_to hx
        exact Run_of (n := n + 1) (by show go P C (run P C n m) m (P.2.1 m pc) ls stk h gg = some x; rw [hr]; exact hn)
  cases h1 : go P C (Run P C m) m (P.2.1 m pc) ls stk h gg with
  | some x => exact (key x).mpr h1
  | none =>
    cases h2 : Run P C m pc ls stk h gg with
    | none => rfl
    | some x => rw [(key x).mp h2] at h1; cases h1
end
section
/-! numbers: the small machine's Int beside the machine's Int32 and Int64 -/
def in32 (x : Int) : Prop := -2147483648 ≤ x ∧ x < 2147483648
def in64 (x : Int) : Prop := -9223372036854775808 ≤ x ∧ x < 9223372036854775808
abbrev I3 (x : Int) : Int32 := Int32.ofInt x
abbrev I6 (x : Int) : Int64 := Int64.ofInt x
theorem w32_in (x : Int) : in32 (w32 x) := by
  unfold w32 in32
  have h1 := Int.le_bmod (x := x) (m := 4294967296) (by omega)
  have h2 := Int.bmod_lt (x := x) (m := 4294967296) (by omega)
  omega
theorem w64_in (x : Int) : in64 (w64 x) := by
  unfold w64 in64
  have h1 := Int.le_bmod (x := x) (m := 18446744073709551616) (by omega)
  have h2 := Int.bmod_lt (x := x) (m := 18446744073709551616) (by omega)
  omega
theorem w32_id {x : Int} (h : in32 x) : w32 x = x := by
  unfold w32 in32 at *
  exact Int.bmod_eq_of_le (by omega) (by omega)
theorem w64_id {x : Int} (h : in64 x) : w64 x = x := by
  unfold w64 in64 at *
  exact Int.bmod_eq_of_le (by omega) (by omega)
theorem I3_to {x : Int} (h : in32 x) : (I3 x).toInt = x := by
  show (Int32.ofInt x).toInt = x
  rw [Int32.toInt_ofInt]
  exact w32_id h
theorem I6_to {x : Int} (h : in64 x) : (I6 x).toInt = x := by
  show (Int64.ofInt x).toInt = x
  rw [Int64.toInt_ofInt]
  exact w64_id h
theorem I3_w (x : Int) : I3 (w32 x) = I3 x := by
  apply Int32.toInt_inj.mp
  show (Int32.ofInt _).toInt = (Int32.ofInt _).toInt
  rw [Int32.toInt_ofInt, Int32.toInt_ofInt]
  exact Int.bmod_bmod
theorem I6_w (x : Int) : I6 (w64 x) = I6 x := by
  apply Int64.toInt_inj.mp
  show (Int64.ofInt _).toInt = (Int64.ofInt _).toInt
  rw [Int64.toInt_ofInt, Int64.toInt_ofInt]
  exact Int.bmod_bmod
theorem I3_of (z : Int32) : I3 z.toInt = z := Int32.ofInt_toInt z
theorem I6_of (z : Int64) : I6 z.toInt = z := Int64.ofInt_toInt z
theorem in32_to (z : Int32) : in32 z.toInt := ⟨Int32.le_toInt z, Int32.toInt_lt z⟩
theorem in64_to (z : Int64) : in64 z.toInt := ⟨Int64.le_toInt z, Int64.toInt_lt z⟩
theorem I3_add (x y : Int) : I3 x + I3 y = I3 (w32 (x + y)) := by rw [I3_w]; exact (Int32.ofInt_add x y).symm
theorem I3_sub (x y : Int) : I3 x - I3 y = I3 (w32 (x - y)) := by rw [I3_w]; exact (Int32.ofInt_sub x y).symm
theorem I3_mul (x y : Int) : I3 x * I3 y = I3 (w32 (x * y)) := by rw [I3_w]; exact (Int32.ofInt_mul x y).symm
theorem I3_neg (x : Int) : - I3 x = I3 (w32 (-x)) := by rw [I3_w]; exact (Int32.ofInt_neg x).symm
theorem I6_add (x y : Int) : I6 x + I6 y = I6 (w64 (x + y)) := by rw [I6_w]; exact (Int64.ofInt_add x y).symm
theorem I6_sub (x y : Int) : I6 x - I6 y = I6 (w64 (x - y)) := by rw [I6_w]; exact (Int64.ofInt_sub x y).symm
theorem I6_mul (x y : Int) : I6 x * I6 y = I6 (w64 (x * y)) := by rw [I6_w]; exact (Int64.ofInt_mul x y).symm
theorem I3_div {x y : Int} (hx : in32 x) (hy : in32 y) : I3 x / I3 y = I3 (w32 (Int.tdiv x y)) := by
  apply Int32.toInt_inj.mp
  rw [Int32.toInt_div, I3_to hx, I3_to hy, I3_to (w32_in _)]
  rfl
theorem I6_div {x y : Int} (hx : in64 x) (hy : in64 y) : I6 x / I6 y = I6 (w64 (Int.tdiv x y)) := by
  apply Int64.toInt_inj.mp
  rw [Int64.toInt_div, I6_to hx, I6_to hy, I6_to (w64_in _)]
  rfl
theorem tmod_in32 {x y : Int} (hx : in32 x) (hy : y ≠ 0) : in32 (Int.tmod x y) := by
  unfold in32 at *
  have h1 : (Int.tmod x y).natAbs ≤ x.natAbs := by rw [Int.natAbs_tmod]; exact Nat.mod_le _ _
  have h2 : 0 ≤ x → 0 ≤ Int.tmod x y := fun h => Int.tmod_nonneg y h
  have h3 : x ≤ 0 → Int.tmod x y ≤ 0 := fun h => by
    have := Int.tmod_nonneg y (show 0 ≤ -x by omega)
    rw [Int.neg_tmod] at this
    omega
  omega
theorem tmod_in64 {x y : Int} (hx : in64 x) (hy : y ≠ 0) : in64 (Int.tmod x y) := by
  unfold in64 at *
  have h1 : (Int.tmod x y).natAbs ≤ x.natAbs := by rw [Int.natAbs_tmod]; exact Nat.mod_le _ _
  have h2 : 0 ≤ x → 0 ≤ Int.tmod x y := fun h => Int.tmod_nonneg y h
  have h3 : x ≤ 0 → Int.tmod x y ≤ 0 := fun h => by
    have := Int.tmod_nonneg y (show 0 ≤ -x by omega)
    rw [Int.neg_tmod] at this
    omega
  omega
theorem I3_rem {x y : Int} (hx : in32 x) (hy : in32 y) (h0 : y ≠ 0) : I3 x - I3 x / I3 y * I3 y = I3 (Int.tmod x y) := by
  rw [I3_div hx hy, I3_mul, I3_sub]
  apply Int32.toInt_inj.mp
  show (Int32.ofInt _).toInt = (Int32.ofInt _).toInt
  rw [Int32.toInt_ofInt, Int32.toInt_ofInt]
  unfold w32
  have e : Int.tmod x y = x - Int.tdiv x y * y := by have := Int.tmod_add_mul_tdiv x y; rw [Int.mul_comm] at this; omega
  rw [e]
  rw [Int.bmod_bmod, Int.sub_bmod_bmod, Int.sub_bmod, Int.bmod_mul_bmod, ← Int.sub_bmod]
theorem I6_rem {x y : Int} (hx : in64 x) (hy : in64 y) (h0 : y ≠ 0) : I6 x - I6 x / I6 y * I6 y = I6 (Int.tmod x y) := by
  rw [I6_div hx hy, I6_mul, I6_sub]
  apply Int64.toInt_inj.mp
  show (Int64.ofInt _).toInt = (Int64.ofInt _).toInt
  rw [Int64.toInt_ofInt, Int64.toInt_ofInt]
  unfold w64
  have e : Int.tmod x y = x - Int.tdiv x y * y := by have := Int.tmod_add_mul_tdiv x y; rw [Int.mul_comm] at this; omega
  rw [e]
  rw [Int.bmod_bmod, Int.sub_bmod_bmod, Int.sub_bmod, Int.bmod_mul_bmod, ← Int.sub_bmod]
theorem I3_eq {x y : Int} (hx : in32 x) (hy : in32 y) : I3 x = I3 y ↔ x = y := by rw [← Int32.toInt_inj, I3_to hx, I3_to hy]
theorem I3_lt {x y : Int} (hx : in32 x) (hy : in32 y) : I3 x < I3 y ↔ x < y := by rw [Int32.lt_iff_toInt_lt, I3_to hx, I3_to hy]
theorem I3_le {x y : Int} (hx : in32 x) (hy : in32 y) : I3 x ≤ I3 y ↔ x ≤ y := by rw [Int32.le_iff_toInt_le, I3_to hx, I3_to hy]
theorem I6_eq {x y : Int} (hx : in64 x) (hy : in64 y) : I6 x = I6 y ↔ x = y := by rw [← Int64.toInt_inj, I6_to hx, I6_to hy]
theorem I6_lt {x y : Int} (hx : in64 x) (hy : in64 y) : I6 x < I6 y ↔ x < y := by rw [Int64.lt_iff_toInt_lt, I6_to hx, I6_to hy]
theorem in32_0 : in32 0 := ⟨by decide, by decide⟩
theorem I3_0 : I3 0 = 0 := rfl
theorem I3_cl {x : Int} (hx : in32 x) : (I3 x).toNatClampNeg = x.toNat := by
  show (I3 x).toInt.toNat = _
  rw [I3_to hx]
theorem I3_vp {x : Int} (hx : in32 x) {n : Nat} : vp_in (I3 x) n ↔ 0 ≤ x ∧ x < n := by rw [vp_in_iff, I3_to hx]
theorem I3_and (x y : Int) : I3 x &&& I3 y = I3 (ia32 x y) := (I3_of _).symm
theorem I3_or (x y : Int) : I3 x ||| I3 y = I3 (io32 x y) := (I3_of _).symm
theorem I3_xor (x y : Int) : I3 x ^^^ I3 y = I3 (ix32 x y) := (I3_of _).symm
theorem I6_and (x y : Int) : I6 x &&& I6 y = I6 (ia64 x y) := (I6_of _).symm
theorem I6_or (x y : Int) : I6 x ||| I6 y = I6 (io64 x y) := (I6_of _).symm
theorem I3_i2l {x : Int} (hx : in32 x) : (I3 x).toInt64 = I6 x := by
  apply Int64.toInt_inj.mp
  rw [Int32.toInt_toInt64, I3_to hx, I6_to ⟨by have := hx.1; omega, by have := hx.2; omega⟩]
theorem I6_l2i {x : Int} (hx : in64 x) : (I6 x).toInt32 = I3 (w32 x) := by
  apply Int32.toInt_inj.mp
  rw [Int64.toInt_toInt32, I6_to hx, I3_to (w32_in _)]
  rfl
theorem I3_i2b {x : Int} (hx : in32 x) : (I3 x).toInt8.toInt32 = I3 (Int.bmod x 256) := by
  apply Int32.toInt_inj.mp
  have hr : in32 (Int.bmod x 256) := by
    have h1 := Int.le_bmod (x := x) (m := 256) (by omega)
    have h2 := Int.bmod_lt (x := x) (m := 256) (by omega)
    unfold in32; omega
  rw [Int8.toInt_toInt32, Int32.toInt_toInt8, I3_to hx, I3_to hr]
theorem I3_i2c {x : Int} (hx : in32 x) : ((I3 x).toUInt32 % 65536).toInt32 = I3 (x % 65536) := by
  rw [pk_char]
  apply Int32.toInt_inj.mp
  rw [nI_toInt (by omega), I3_to (by unfold in32; omega)]
  have h1 : (I3 x).toBitVec.toNat = (x % 4294967296).toNat := by
    show (BitVec.ofInt 32 x).toNat = _
    rw [BitVec.toNat_ofInt]
    rfl
  rw [h1]
  omega
theorem I3_bv (x : Int) : (I3 x).toBitVec.toNat = (x % 4294967296).toNat := by
  show (BitVec.ofInt 32 x).toNat = _
  rw [BitVec.toNat_ofInt]
  rfl
theorem I6_bv (x : Int) : (I6 x).toBitVec.toNat = (x % 18446744073709551616).toNat := by
  show (BitVec.ofInt 64 x).toNat = _
  rw [BitVec.toNat_ofInt]
  rfl
theorem I3_sh (y : Int) : I3 y &&& 31 = nI (y % 32).toNat := by
  rw [pk_and (I3 y) (m := 31) 5 (by decide), I3_bv]
  congr 1
  omega
theorem sh_lt (y : Int) : (y % 32).toNat < 32 := by omega
theorem sh_lt6 (y : Int) : (y % 64).toNat < 64 := by omega
theorem sm32 : ∀ n, n < 32 → ((nI n).toBitVec.smod 32).toNat = n := by decide
theorem sm64 : ∀ n, n < 64 → ((BitVec.ofNat 64 n).smod 64).toNat = n := by decide
theorem I3_shl (x y : Int) : I3 x <<< (I3 y &&& 31) = I3 (shl32 x y) := by
  unfold shl32
  rw [I3_w, I3_sh]
  apply Int32.toBitVec_inj.mp
  apply BitVec.eq_of_toNat_eq
  rw [pk_shl _ _ (y % 32).toNat (sm32 _ (sh_lt y)), I3_bv, I3_bv]
  generalize (y % 32).toNat = k
  have h1 : 0 ≤ x % 4294967296 := Int.emod_nonneg _ (by decide)
  have h2 : (((x % 4294967296).toNat * 2 ^ k % 2 ^ 32 : Nat) : Int) = x * 2 ^ k % 4294967296 := by
    rw [Int.natCast_emod, Int.natCast_mul, Int.toNat_of_nonneg h1]
    show (x % 4294967296 * ((2 ^ k : Nat) : Int)) % 4294967296 = _
    rw [Int.natCast_pow, Int.mul_emod, Int.emod_emod_of_dvd _ (Int.dvd_refl _), ← Int.mul_emod]
    rfl
  omega
theorem shr_in {x : Int} (k : Nat) (hx : in32 x) : in32 (x / 2 ^ k) := by
  unfold in32 at *
  have hp : (0 : Int) < 2 ^ k := Int.pow_pos (by decide)
  constructor
  · have : (-2147483648 : Int) * 2 ^ k ≤ x := by
      have h1 : (1 : Int) ≤ 2 ^ k := by omega
      have : (-2147483648 : Int) * 2 ^ k ≤ (-2147483648) * 1 := Int.mul_le_mul_of_nonpos_left (by decide) h1
      omega
    exact (Int.le_ediv_iff_mul_le hp).mpr this
  · apply Int.ediv_lt_of_lt_mul hp
    have h1 : (1 : Int) ≤ 2 ^ k := by omega
    have : (2147483648 : Int) * 1 ≤ 2147483648 * 2 ^ k := Int.mul_le_mul_of_nonneg_left h1 (by decide)
    omega
theorem shr_in6 {x : Int} (k : Nat) (hx : in64 x) : in64 (x / 2 ^ k) := by
  unfold in64 at *
  have hp : (0 : Int) < 2 ^ k := Int.pow_pos (by decide)
  constructor
  · have : (-9223372036854775808 : Int) * 2 ^ k ≤ x := by
      have h1 : (1 : Int) ≤ 2 ^ k := by omega
      have : (-9223372036854775808 : Int) * 2 ^ k ≤ (-9223372036854775808) * 1 := Int.mul_le_mul_of_nonpos_left (by decide) h1
      omega
    exact (Int.le_ediv_iff_mul_le hp).mpr this
  · apply Int.ediv_lt_of_lt_mul hp
    have h1 : (1 : Int) ≤ 2 ^ k := by omega
    have : (9223372036854775808 : Int) * 1 ≤ 9223372036854775808 * 2 ^ k := Int.mul_le_mul_of_nonneg_left h1 (by decide)
    omega
theorem I3_shr {x : Int} (hx : in32 x) (y : Int) : I3 x >>> (I3 y &&& 31) = I3 (shr32 x y) := by
  unfold shr32
  rw [I3_sh]
  apply Int32.toInt_inj.mp
  rw [pk_shr _ _ (y % 32).toNat (sm32 _ (sh_lt y)), I3_to hx, I3_to (shr_in _ hx), Int.shiftRight_eq_div_pow]
  rfl
theorem I3_ush (x y : Int) : ((I3 x).toUInt32 >>> ((I3 y).toUInt32 &&& Int32.toUInt32 31)).toInt32 = I3 (ush32 x y) := by
  unfold ush32
  rw [I3_w]
  apply Int32.toBitVec_inj.mp
  apply BitVec.eq_of_toNat_eq
  have hk : (((I3 y).toUInt32 &&& Int32.toUInt32 31).toBitVec % 32).toNat = (y % 32).toNat := by
    have h1 : ((I3 y).toUInt32 &&& Int32.toUInt32 31).toBitVec.toNat = (y % 32).toNat := by
      show ((I3 y).toBitVec &&& 31#32).toNat = _
      rw [BitVec.toNat_and, I3_bv]
      show _ &&& (2 ^ 5 - 1) = _
      rw [Nat.and_two_pow_sub_one_eq_mod]
      omega
    rw [BitVec.toNat_umod, h1]
    show (y % 32).toNat % 32 = _
    omega
  rw [pk_ushr _ _ _ hk, I3_bv, I3_bv]
  generalize (y % 32).toNat = k
  have h1 : 0 ≤ x % 4294967296 := Int.emod_nonneg _ (by decide)
  have h2 : x % 4294967296 < 4294967296 := Int.emod_lt_of_pos _ (by decide)
  generalize x % 4294967296 = z at h1 h2 ⊢
  obtain ⟨n, rfl⟩ := Int.eq_ofNat_of_zero_le h1
  have h3 : ((n : Int) / 2 ^ k) = ((n / 2 ^ k : Nat) : Int) := by rw [Int.natCast_ediv, Int.natCast_pow]; rfl
  rw [h3]
  have h4 : n / 2 ^ k ≤ n := Nat.div_le_self _ _
  have h5 : ((n : Int)).toNat = n := rfl
  rw [h5]
  generalize n / 2 ^ k = w at h4 ⊢
  omega
theorem I6_sh {y : Int} (hy : in32 y) : ((I3 y).toInt64 &&& 63).toBitVec = BitVec.ofNat 64 (y % 64).toNat := by
  rw [I3_i2l hy]
  apply BitVec.eq_of_toNat_eq
  rw [BitVec.toNat_ofNat]
  show ((I6 y).toBitVec &&& 63#64).toNat = _
  rw [BitVec.toNat_and, I6_bv]
  show _ &&& (2 ^ 6 - 1) = _
  rw [Nat.and_two_pow_sub_one_eq_mod]
  omega
theorem I6_shl {x y : Int} (hy : in32 y) : I6 x <<< ((I3 y).toInt64 &&& 63) = I6 (shl64 x y) := by
  unfold shl64
  rw [I6_w]
  apply Int64.toBitVec_inj.mp
  apply BitVec.eq_of_toNat_eq
  rw [Int64.toBitVec_shiftLeft, I6_sh hy, BitVec.shiftLeft_eq', sm64 _ (sh_lt6 y), BitVec.toNat_shiftLeft, I6_bv, I6_bv, Nat.shiftLeft_eq]
  generalize (y % 64).toNat = k
  have h1 : 0 ≤ x % 18446744073709551616 := Int.emod_nonneg _ (by decide)
  have h2 : (((x % 18446744073709551616).toNat * 2 ^ k % 2 ^ 64 : Nat) : Int) = x * 2 ^ k % 18446744073709551616 := by
    rw [Int.natCast_emod, Int.natCast_mul, Int.toNat_of_nonneg h1]
    show (x % 18446744073709551616 * ((2 ^ k : Nat) : Int)) % 18446744073709551616 = _
    rw [Int.natCast_pow, Int.mul_emod, Int.emod_emod_of_dvd _ (Int.dvd_refl _), ← Int.mul_emod]
    rfl
  omega
theorem I6_shr {x y : Int} (hx : in64 x) (hy : in32 y) : I6 x >>> ((I3 y).toInt64 &&& 63) = I6 (shr64 x y) := by
  unfold shr64
  apply Int64.toInt_inj.mp
  rw [I6_to (shr_in6 _ hx)]
  show (I6 x >>> ((I3 y).toInt64 &&& 63)).toBitVec.toInt = _
  rw [Int64.toBitVec_shiftRight, I6_sh hy, BitVec.sshiftRight', sm64 _ (sh_lt6 y), BitVec.toInt_sshiftRight]
  have : (I6 x).toBitVec.toInt = x := I6_to hx
  rw [this, Int.shiftRight_eq_div_pow]
  rfl
end
section
/-! the program's tables: classes, fields, what the pool entries name; by program out of the Statement -/
def wT : List Cond := lw_tbl.filter goodWord
theorem wT_t {i : Nat} {w : Cond} (h : tables_1[i]? = some w) (g : goodWord w = true) : w ∈ wT := List.mem_filter.mpr ⟨List.mem_append_right _ (List.mem_of_getElem? h), g⟩
theorem wT_p {i : Nat} {w : Cond} (h : (k2_sels lw_privs)[i]? = some w) (g : goodWord w = true) : w ∈ wT := List.mem_filter.mpr ⟨List.mem_append_left _ (List.mem_of_getElem? h), g⟩
def ON : List String := ["PitInspector", "PitInspector$Pits", "PitInspector$Laws", "PitInspector$Text", "PitInspector$Reader", "PitInspector$Net", "PitInspector$Air", "PitInspector$Survey", "PitInspector$Crew", "PitInspector$Warnings", "PitInspector$Looks", "PitInspector$Inquest", "PitInspectorModel", "java/lang/Math", "java/lang/Integer", "java/util/Arrays", "PitInspectorLaw"]
def oN (i : Nat) : String := ON.getD i ""
def cF_0 : u_T := fun k => match k with
  | 0 => ("PitInspector", "minute", "I", false)
  | 1 => ("PitInspector", "tape", "[B", true)
  | 2 => ("PitInspector", "tapeLength", "I", false)
  | 3 => ("PitInspector", "pits", "LPitInspector$Pits;", true)
  | 4 => ("PitInspector", "laws", "LPitInspector$Laws;", true)
  | 5 => ("PitInspector", "net", "LPitInspector$Net;", true)
  | 6 => ("PitInspector", "airs", "LPitInspector$Air;", true)
  | 7 => ("PitInspector", "survey", "LPitInspector$Survey;", true)
  | 8 => ("PitInspector", "crew", "LPitInspector$Crew;", true)
  | 9 => ("PitInspector", "warnings", "LPitInspector$Warnings;", true)
  | 10 => ("PitInspector", "looks", "LPitInspector$Looks;", true)
  | _ => ("PitInspector", "inquest", "LPitInspector$Inquest;", true)
def cT_0 : Nat → FieldType := fun k => match k with
  | 0 => .int
  | 1 => .array .byte
  | 2 => .int
  | 3 => .object "PitInspector$Pits"
  | 4 => .object "PitInspector$Laws"
  | 5 => .object "PitInspector$Net"
  | 6 => .object "PitInspector$Air"
  | 7 => .object "PitInspector$Survey"
  | 8 => .object "PitInspector$Crew"
  | 9 => .object "PitInspector$Warnings"
  | 10 => .object "PitInspector$Looks"
  | _ => .object "PitInspector$Inquest"
def cF_1 : u_T := fun k => match k with
  | 0 => ("PitInspector$Pits", "seam", "[I", true)
  | 1 => ("PitInspector$Pits", "depth", "[I", true)
  | 2 => ("PitInspector$Pits", "gas", "[I", true)
  | 3 => ("PitInspector$Pits", "men", "[I", true)
  | 4 => ("PitInspector$Pits", "book", "[I", true)
  | 5 => ("PitInspector$Pits", "falls", "[I", true)
  | 6 => ("PitInspector$Pits", "count", "I", false)
  | _ => ("PitInspector$Pits", "fallCount", "I", false)
def cT_1 : Nat → FieldType := fun k => match k with
  | 0 => .array .int
  | 1 => .array .int
  | 2 => .array .int
  | 3 => .array .int
  | 4 => .array .int
  | 5 => .array .int
  | 6 => .int
  | _ => .int
def cF_2 : u_T := fun k => match k with
  | 0 => ("PitInspector$Laws", "facts", "[J", true)
  | 1 => ("PitInspector$Laws", "count", "I", false)
  | 2 => ("PitInspector$Laws", "texts", "[LPitInspector$Text;", true)
  | 3 => ("PitInspector$Laws", "spare", "LPitInspector$Text;", false)
  | 4 => ("PitInspector$Laws", "reader", "LPitInspector$Reader;", true)
  | 5 => ("PitInspector$Laws", "letters", "I", false)
  | 6 => ("PitInspector$Laws", "stack", "[J", true)
  | 7 => ("PitInspector$Laws", "broken", "[I", true)
  | _ => ("PitInspector$Laws", "brokenCount", "I", false)
def cT_2 : Nat → FieldType := fun k => match k with
  | 0 => .array .long
  | 1 => .int
  | 2 => .array (.object "PitInspector$Text")
  | 3 => .object "PitInspector$Text"
  | 4 => .object "PitInspector$Reader"
  | 5 => .int
  | 6 => .array .long
  | 7 => .array .int
  | _ => .int
def cF_3 : u_T := fun k => match k with
  | 0 => ("PitInspector$Text", "pit", "I", false)
  | 1 => ("PitInspector$Text", "from", "I", false)
  | 2 => ("PitInspector$Text", "to", "I", false)
  | 3 => ("PitInspector$Text", "length", "I", false)
  | 4 => ("PitInspector$Text", "bytes", "[B", true)
  | 5 => ("PitInspector$Text", "clauses", "I", false)
  | 6 => ("PitInspector$Text", "kind", "[I", true)
  | 7 => ("PitInspector$Text", "number", "[I", true)
  | 8 => ("PitInspector$Text", "struckClause", "[I", true)
  | 9 => ("PitInspector$Text", "byteFrom", "[I", true)
  | 10 => ("PitInspector$Text", "byteTo", "[I", true)
  | 11 => ("PitInspector$Text", "codeFrom", "[I", true)
  | 12 => ("PitInspector$Text", "codeTo", "[I", true)
  | 13 => ("PitInspector$Text", "struck", "I", false)
  | 14 => ("PitInspector$Text", "code", "[I", true)
  | 15 => ("PitInspector$Text", "codeLength", "I", false)
  | _ => ("PitInspector$Text", "letters", "I", false)
def cT_3 : Nat → FieldType := fun k => match k with
  | 0 => .int
  | 1 => .int
  | 2 => .int
  | 3 => .int
  | 4 => .array .byte
  | 5 => .int
  | 6 => .array .int
  | 7 => .array .int
  | 8 => .array .int
  | 9 => .array .int
  | 10 => .array .int
  | 11 => .array .int
  | 12 => .array .int
  | 13 => .int
  | 14 => .array .int
  | 15 => .int
  | _ => .int
def cF_4 : u_T := fun k => match k with
  | 0 => ("PitInspector$Reader", "text", "LPitInspector$Text;", false)
  | 1 => ("PitInspector$Reader", "at", "I", false)
  | 2 => ("PitInspector$Reader", "value", "I", false)
  | _ => ("PitInspector$Reader", "faultCode", "I", false)
def cT_4 : Nat → FieldType := fun k => match k with
  | 0 => .object "PitInspector$Text"
  | 1 => .int
  | 2 => .int
  | _ => .int
def cF_5 : u_T := fun k => match k with
  | 0 => ("PitInspector$Net", "placeCount", "I", false)
  | 1 => ("PitInspector$Net", "roadCount", "I", false)
  | 2 => ("PitInspector$Net", "width", "[I", true)
  | 3 => ("PitInspector$Net", "endPlace", "[I", true)
  | 4 => ("PitInspector$Net", "ends", "[I", true)
  | 5 => ("PitInspector$Net", "firstEnd", "[I", true)
  | 6 => ("PitInspector$Net", "steps", "[I", true)
  | 7 => ("PitInspector$Net", "order", "[I", true)
  | 8 => ("PitInspector$Net", "reached", "I", false)
  | 9 => ("PitInspector$Net", "doors", "[I", true)
  | 10 => ("PitInspector$Net", "placePit", "[I", true)
  | 11 => ("PitInspector$Net", "bank", "[I", true)
  | 12 => ("PitInspector$Net", "flow", "[I", true)
  | 13 => ("PitInspector$Net", "endLeft", "[I", true)
  | _ => ("PitInspector$Net", "fewestKnown", "[I", true)
def cT_5 : Nat → FieldType := fun k => match k with
  | 0 => .int
  | 1 => .int
  | 2 => .array .int
  | 3 => .array .int
  | 4 => .array .int
  | 5 => .array .int
  | 6 => .array .int
  | 7 => .array .int
  | 8 => .int
  | 9 => .array .int
  | 10 => .array .int
  | 11 => .array .int
  | 12 => .array .int
  | 13 => .array .int
  | _ => .array .int
def cF_6 : u_T := fun k => match k with
  | 0 => ("PitInspector$Air", "fanDown", "[I", true)
  | 1 => ("PitInspector$Air", "fanUp", "[I", true)
  | 2 => ("PitInspector$Air", "fanAir", "[I", true)
  | 3 => ("PitInspector$Air", "roadAir", "[I", true)
  | 4 => ("PitInspector$Air", "came", "[I", true)
  | _ => ("PitInspector$Air", "leastKnown", "[I", true)
def cT_6 : Nat → FieldType := fun k => match k with
  | 0 => .array .int
  | 1 => .array .int
  | 2 => .array .int
  | 3 => .array .int
  | 4 => .array .int
  | _ => .array .int
def cF_7 : u_T := fun k => match k with
  | 0 => ("PitInspector$Survey", "planCount", "I", false)
  | 1 => ("PitInspector$Survey", "waterCount", "I", false)
  | 2 => ("PitInspector$Survey", "faceCount", "I", false)
  | 3 => ("PitInspector$Survey", "joinCount", "I", false)
  | 4 => ("PitInspector$Survey", "planError", "[I", true)
  | 5 => ("PitInspector$Survey", "planTurn", "[I", true)
  | 6 => ("PitInspector$Survey", "planX", "[I", true)
  | 7 => ("PitInspector$Survey", "planY", "[I", true)
  | 8 => ("PitInspector$Survey", "pointPlan", "[I", true)
  | 9 => ("PitInspector$Survey", "pointX", "[I", true)
  | 10 => ("PitInspector$Survey", "pointY", "[I", true)
  | 11 => ("PitInspector$Survey", "facePit", "[I", true)
  | _ => ("PitInspector$Survey", "joinError", "[I", true)
def cT_7 : Nat → FieldType := fun k => match k with
  | 0 => .int
  | 1 => .int
  | 2 => .int
  | 3 => .int
  | 4 => .array .int
  | 5 => .array .int
  | 6 => .array .int
  | 7 => .array .int
  | 8 => .array .int
  | 9 => .array .int
  | 10 => .array .int
  | 11 => .array .int
  | _ => .array .int
def cF_8 : u_T := fun k => match k with
  | 0 => ("PitInspector$Crew", "count", "I", false)
  | 1 => ("PitInspector$Crew", "pit", "[I", true)
  | 2 => ("PitInspector$Crew", "duty", "[I", true)
  | 3 => ("PitInspector$Crew", "outing", "[I", true)
  | 4 => ("PitInspector$Crew", "lampCount", "I", false)
  | 5 => ("PitInspector$Crew", "lampLot", "[I", true)
  | 6 => ("PitInspector$Crew", "lampIsOut", "[Z", true)
  | 7 => ("PitInspector$Crew", "outingCount", "I", false)
  | 8 => ("PitInspector$Crew", "outingHand", "[I", true)
  | 9 => ("PitInspector$Crew", "outingLamp", "[I", true)
  | 10 => ("PitInspector$Crew", "outingEnd", "[I", true)
  | 11 => ("PitInspector$Crew", "below", "[I", true)
  | 12 => ("PitInspector$Crew", "lampsOut", "[I", true)
  | 13 => ("PitInspector$Crew", "shotCount", "I", false)
  | 14 => ("PitInspector$Crew", "shotPit", "[I", true)
  | _ => ("PitInspector$Crew", "shotMinute", "[I", true)
def cT_8 : Nat → FieldType := fun k => match k with
  | 0 => .int
  | 1 => .array .int
  | 2 => .array .int
  | 3 => .array .int
  | 4 => .int
  | 5 => .array .int
  | 6 => .array .boolean
  | 7 => .int
  | 8 => .array .int
  | 9 => .array .int
  | 10 => .array .int
  | 11 => .array .int
  | 12 => .array .int
  | 13 => .int
  | 14 => .array .int
  | _ => .array .int
def cF_9 : u_T := fun k => match k with
  | 0 => ("PitInspector$Warnings", "count", "I", false)
  | 1 => ("PitInspector$Warnings", "pit", "[I", true)
  | 2 => ("PitInspector$Warnings", "knownSince", "[I", true)
  | _ => ("PitInspector$Warnings", "acted", "[J", true)
def cT_9 : Nat → FieldType := fun k => match k with
  | 0 => .int
  | 1 => .array .int
  | 2 => .array .int
  | _ => .array .long
def cF_10 : u_T := fun k => match k with
  | 0 => ("PitInspector$Looks", "count", "I", false)
  | 1 => ("PitInspector$Looks", "worths", "[I", true)
  | 2 => ("PitInspector$Looks", "inspectorCount", "I", false)
  | 3 => ("PitInspector$Looks", "lookPit", "[I", true)
  | 4 => ("PitInspector$Looks", "lookBy", "[I", true)
  | 5 => ("PitInspector$Looks", "lastBy", "[I", true)
  | _ => ("PitInspector$Looks", "looked", "I", false)
def cT_10 : Nat → FieldType := fun k => match k with
  | 0 => .int
  | 1 => .array .int
  | 2 => .int
  | 3 => .array .int
  | 4 => .array .int
  | 5 => .array .int
  | _ => .int
def cF_11 : u_T := fun k => match k with
  | 0 => ("PitInspector$Inquest", "count", "I", false)
  | 1 => ("PitInspector$Inquest", "hand", "[I", true)
  | 2 => ("PitInspector$Inquest", "place", "[I", true)
  | 3 => ("PitInspector$Inquest", "minute", "[I", true)
  | 4 => ("PitInspector$Inquest", "clashes", "[I", true)
  | _ => ("PitInspector$Inquest", "minutesPerRoad", "I", false)
def cT_11 : Nat → FieldType := fun k => match k with
  | 0 => .int
  | 1 => .array .int
  | 2 => .array .int
  | 3 => .array .int
  | 4 => .array .int
  | _ => .int
def cF_12 : u_T := fun k => match k with
  | 0 => ("PitInspectorModel", "tape", "[B", true)
  | 1 => ("PitInspectorModel", "taped", "I", false)
  | 2 => ("PitInspectorModel", "now", "I", false)
  | 3 => ("PitInspectorModel", "pits", "I", false)
  | 4 => ("PitInspectorModel", "hands", "I", false)
  | 5 => ("PitInspectorModel", "texts", "I", false)
  | 6 => ("PitInspectorModel", "places", "I", false)
  | 7 => ("PitInspectorModel", "roads", "I", false)
  | 8 => ("PitInspectorModel", "plans", "I", false)
  | 9 => ("PitInspectorModel", "waters", "I", false)
  | 10 => ("PitInspectorModel", "faces", "I", false)
  | 11 => ("PitInspectorModel", "joins", "I", false)
  | 12 => ("PitInspectorModel", "lamps", "I", false)
  | 13 => ("PitInspectorModel", "outings", "I", false)
  | 14 => ("PitInspectorModel", "shots", "I", false)
  | 15 => ("PitInspectorModel", "warnings", "I", false)
  | 16 => ("PitInspectorModel", "falls", "I", false)
  | 17 => ("PitInspectorModel", "looks", "I", false)
  | 18 => ("PitInspectorModel", "seen", "I", false)
  | 19 => ("PitInspectorModel", "inspectors", "I", false)
  | 20 => ("PitInspectorModel", "pace", "I", false)
  | 21 => ("PitInspectorModel", "seam", "[I", true)
  | 22 => ("PitInspectorModel", "depth", "[I", true)
  | 23 => ("PitInspectorModel", "gas", "[I", true)
  | 24 => ("PitInspectorModel", "men", "[I", true)
  | 25 => ("PitInspectorModel", "book", "[I", true)
  | 26 => ("PitInspectorModel", "fallMany", "[I", true)
  | 27 => ("PitInspectorModel", "lastLook", "[I", true)
  | 28 => ("PitInspectorModel", "handPit", "[I", true)
  | 29 => ("PitInspectorModel", "duty", "[I", true)
  | 30 => ("PitInspectorModel", "outing", "[I", true)
  | 31 => ("PitInspectorModel", "textPit", "[I", true)
  | 32 => ("PitInspectorModel", "textFrom", "[I", true)
  | 33 => ("PitInspectorModel", "textTo", "[I", true)
  | 34 => ("PitInspectorModel", "clauseMany", "[I", true)
  | 35 => ("PitInspectorModel", "bytes", "[B", true)
  | 36 => ("PitInspectorModel", "letter", "[I", true)
  | 37 => ("PitInspectorModel", "first", "[I", true)
  | 38 => ("PitInspectorModel", "second", "[I", true)
  | 39 => ("PitInspectorModel", "byteFrom", "[I", true)
  | 40 => ("PitInspectorModel", "byteTo", "[I", true)
  | 41 => ("PitInspectorModel", "codeFrom", "[I", true)
  | 42 => ("PitInspectorModel", "codeTo", "[I", true)
  | 43 => ("PitInspectorModel", "code", "[I", true)
  | 44 => ("PitInspectorModel", "codeArg", "[I", true)
  | 45 => ("PitInspectorModel", "place", "I", false)
  | 46 => ("PitInspectorModel", "end", "I", false)
  | 47 => ("PitInspectorModel", "bad", "I", false)
  | 48 => ("PitInspectorModel", "many", "I", false)
  | 49 => ("PitInspectorModel", "codes", "I", false)
  | 50 => ("PitInspectorModel", "open", "I", false)
  | 51 => ("PitInspectorModel", "stacked", "I", false)
  | 52 => ("PitInspectorModel", "isDone", "Z", false)
  | 53 => ("PitInspectorModel", "isBehind", "Z", false)
  | 54 => ("PitInspectorModel", "stack", "[I", true)
  | 55 => ("PitInspectorModel", "isStruck", "[Z", true)
  | 56 => ("PitInspectorModel", "askedPit", "I", false)
  | 57 => ("PitInspectorModel", "isFound", "[Z", true)
  | 58 => ("PitInspectorModel", "found", "[J", true)
  | 59 => ("PitInspectorModel", "value", "[J", true)
  | 60 => ("PitInspectorModel", "isRefused", "[Z", true)
  | 61 => ("PitInspectorModel", "foundClause", "I", false)
  | 62 => ("PitInspectorModel", "placePit", "[I", true)
  | 63 => ("PitInspectorModel", "bank", "[I", true)
  | 64 => ("PitInspectorModel", "fanDown", "[I", true)
  | 65 => ("PitInspectorModel", "fanUp", "[I", true)
  | 66 => ("PitInspectorModel", "fanAir", "[I", true)
  | 67 => ("PitInspectorModel", "roadA", "[I", true)
  | 68 => ("PitInspectorModel", "roadB", "[I", true)
  | 69 => ("PitInspectorModel", "width", "[I", true)
  | 70 => ("PitInspectorModel", "hasDoor", "[Z", true)
  | 71 => ("PitInspectorModel", "isOpen", "[Z", true)
  | 72 => ("PitInspectorModel", "steps", "[I", true)
  | 73 => ("PitInspectorModel", "row", "[I", true)
  | 74 => ("PitInspectorModel", "comes", "[I", true)
  | 75 => ("PitInspectorModel", "over", "[I", true)
  | 76 => ("PitInspectorModel", "flow", "[I", true)
  | 77 => ("PitInspectorModel", "cameBy", "[I", true)
  | 78 => ("PitInspectorModel", "error", "[I", true)
  | 79 => ("PitInspectorModel", "turn", "[I", true)
  | 80 => ("PitInspectorModel", "shiftX", "[I", true)
  | 81 => ("PitInspectorModel", "shiftY", "[I", true)
  | 82 => ("PitInspectorModel", "waterPlan", "[I", true)
  | 83 => ("PitInspectorModel", "waterX", "[I", true)
  | 84 => ("PitInspectorModel", "waterY", "[I", true)
  | 85 => ("PitInspectorModel", "facePit", "[I", true)
  | 86 => ("PitInspectorModel", "facePlan", "[I", true)
  | 87 => ("PitInspectorModel", "faceX", "[I", true)
  | 88 => ("PitInspectorModel", "faceY", "[I", true)
  | 89 => ("PitInspectorModel", "joinPlan", "[I", true)
  | 90 => ("PitInspectorModel", "joinX", "[I", true)
  | 91 => ("PitInspectorModel", "joinY", "[I", true)
  | 92 => ("PitInspectorModel", "joinError", "[I", true)
  | 93 => ("PitInspectorModel", "lot", "[I", true)
  | 94 => ("PitInspectorModel", "isOut", "[Z", true)
  | 95 => ("PitInspectorModel", "outHand", "[I", true)
  | 96 => ("PitInspectorModel", "outLamp", "[I", true)
  | 97 => ("PitInspectorModel", "outUp", "[I", true)
  | 98 => ("PitInspectorModel", "shotHand", "[I", true)
  | 99 => ("PitInspectorModel", "shotMinute", "[I", true)
  | 100 => ("PitInspectorModel", "warnPit", "[I", true)
  | 101 => ("PitInspectorModel", "knows", "[I", true)
  | 102 => ("PitInspectorModel", "hasActed", "[Z", true)
  | 103 => ("PitInspectorModel", "lookPit", "[I", true)
  | 104 => ("PitInspectorModel", "lookBy", "[I", true)
  | 105 => ("PitInspectorModel", "worths", "[I", true)
  | 106 => ("PitInspectorModel", "isSent", "[Z", true)
  | 107 => ("PitInspectorModel", "seenHand", "[I", true)
  | 108 => ("PitInspectorModel", "seenPlace", "[I", true)
  | 109 => ("PitInspectorModel", "seenMinute", "[I", true)
  | _ => ("PitInspectorModel", "against", "[I", true)
def cT_12 : Nat → FieldType := fun k => match k with
  | 0 => .array .byte
  | 1 => .int
  | 2 => .int
  | 3 => .int
  | 4 => .int
  | 5 => .int
  | 6 => .int
  | 7 => .int
  | 8 => .int
  | 9 => .int
  | 10 => .int
  | 11 => .int
  | 12 => .int
  | 13 => .int
  | 14 => .int
  | 15 => .int
  | 16 => .int
  | 17 => .int
  | 18 => .int
  | 19 => .int
  | 20 => .int
  | 21 => .array .int
  | 22 => .array .int
  | 23 => .array .int
  | 24 => .array .int
  | 25 => .array .int
  | 26 => .array .int
  | 27 => .array .int
  | 28 => .array .int
  | 29 => .array .int
  | 30 => .array .int
  | 31 => .array .int
  | 32 => .array .int
  | 33 => .array .int
  | 34 => .array .int
  | 35 => .array .byte
  | 36 => .array .int
  | 37 => .array .int
  | 38 => .array .int
  | 39 => .array .int
  | 40 => .array .int
  | 41 => .array .int
  | 42 => .array .int
  | 43 => .array .int
  | 44 => .array .int
  | 45 => .int
  | 46 => .int
  | 47 => .int
  | 48 => .int
  | 49 => .int
  | 50 => .int
  | 51 => .int
  | 52 => .boolean
  | 53 => .boolean
  | 54 => .array .int
  | 55 => .array .boolean
  | 56 => .int
  | 57 => .array .boolean
  | 58 => .array .long
  | 59 => .array .long
  | 60 => .array .boolean
  | 61 => .int
  | 62 => .array .int
  | 63 => .array .int
  | 64 => .array .int
  | 65 => .array .int
  | 66 => .array .int
  | 67 => .array .int
  | 68 => .array .int
  | 69 => .array .int
  | 70 => .array .boolean
  | 71 => .array .boolean
  | 72 => .array .int
  | 73 => .array .int
  | 74 => .array .int
  | 75 => .array .int
  | 76 => .array .int
  | 77 => .array .int
  | 78 => .array .int
  | 79 => .array .int
  | 80 => .array .int
  | 81 => .array .int
  | 82 => .array .int
  | 83 => .array .int
  | 84 => .array .int
  | 85 => .array .int
  | 86 => .array .int
  | 87 => .array .int
  | 88 => .array .int
  | 89 => .array .int
  | 90 => .array .int
  | 91 => .array .int
  | 92 => .array .int
  | 93 => .array .int
  | 94 => .array .boolean
  | 95 => .array .int
  | 96 => .array .int
  | 97 => .array .int
  | 98 => .array .int
  | 99 => .array .int
  | 100 => .array .int
  | 101 => .array .int
  | 102 => .array .boolean
  | 103 => .array .int
  | 104 => .array .int
  | 105 => .array .int
  | 106 => .array .boolean
  | 107 => .array .int
  | 108 => .array .int
  | 109 => .array .int
  | _ => .array .int
def cF : Nat → u_T := fun i => match i with
  | 0 => cF_0
  | 1 => cF_1
  | 2 => cF_2
  | 3 => cF_3
  | 4 => cF_4
  | 5 => cF_5
  | 6 => cF_6
  | 7 => cF_7
  | 8 => cF_8
  | 9 => cF_9
  | 10 => cF_10
  | 11 => cF_11
  | _ => cF_12
def cT : Nat → (Nat → FieldType) := fun i => match i with
  | 0 => cT_0
  | 1 => cT_1
  | 2 => cT_2
  | 3 => cT_3
  | 4 => cT_4
  | 5 => cT_5
  | 6 => cT_6
  | 7 => cT_7
  | 8 => cT_8
  | 9 => cT_9
  | 10 => cT_10
  | 11 => cT_11
  | _ => cT_12
def cNL : List Nat := [12, 8, 9, 17, 4, 15, 6, 13, 16, 4, 7, 6, 111]
def cN (i : Nat) : Nat := cNL.getD i 0
def kdO (t : FieldType) : Nat := match t with
  | .int => 0
  | .boolean => 2
  | _ => 1
def FTY (ci k : Nat) : Nat := kdO (cT ci k)
abbrev classes : List vw_C := [(oN 0, cF_0, 12), (oN 1, cF_1, 8), (oN 2, cF_2, 9), (oN 3, cF_3, 17), (oN 4, cF_4, 4), (oN 5, cF_5, 15), (oN 6, cF_6, 6), (oN 7, cF_7, 13), (oN 8, cF_8, 16), (oN 9, cF_9, 4), (oN 10, cF_10, 7), (oN 11, cF_11, 6), (oN 12, cF_12, 111)]
theorem classes_at {ci : Nat} (h : ci < 13) : classes[ci]? = some (oN ci, cF ci, cN ci) := by
  match ci, h with
  | 0, _ => rfl
  | 1, _ => rfl
  | 2, _ => rfl
  | 3, _ => rfl
  | 4, _ => rfl
  | 5, _ => rfl
  | 6, _ => rfl
  | 7, _ => rfl
  | 8, _ => rfl
  | 9, _ => rfl
  | 10, _ => rfl
  | 11, _ => rfl
  | 12, _ => rfl
  | k + 13, h => exact absurd h (by omega)
def cP_0 : List Nat := [509, 511, 513, 515, 517, 519, 521, 523, 525, 527, 529, 531]
theorem cW_0 : ∀ k, k < 12 → tables_1[cP_0.getD k 0]? = some (u_lay (oN 0) cF_0 k) ∧ goodWord (u_lay (oN 0) cF_0 k) = true := by decide +kernel
theorem cM_0 : ∀ a, a < 12 → ∀ b, b < 12 → a ≠ b → (cF_0 a).2.1 ≠ (cF_0 b).2.1 := by decide +kernel
theorem cY_0 : ∀ k, k < 12 → parseFieldDescriptor (cF_0 k).2.2.1 = some (cT_0 k) ∧ (cF_0 k).1 = oN 0 := by decide +kernel
theorem cI_0 : tables_1[24]? = some (.instantiable (oN 0) 12) ∧ tables_1[1]? = some (.initialized (oN 0)) ∧ goodWord (.instantiable (oN 0) 12) = true ∧ goodWord (.initialized (oN 0)) = true := by decide +kernel
def cP_1 : List Nat := [52, 54, 56, 58, 60, 62, 64, 66]
theorem cW_1 : ∀ k, k < 8 → tables_1[cP_1.getD k 0]? = some (u_lay (oN 1) cF_1 k) ∧ goodWord (u_lay (oN 1) cF_1 k) = true := by decide +kernel
theorem cM_1 : ∀ a, a < 8 → ∀ b, b < 8 → a ≠ b → (cF_1 a).2.1 ≠ (cF_1 b).2.1 := by decide +kernel
theorem cY_1 : ∀ k, k < 8 → parseFieldDescriptor (cF_1 k).2.2.1 = some (cT_1 k) ∧ (cF_1 k).1 = oN 1 := by decide +kernel
theorem cI_1 : tables_1[32]? = some (.instantiable (oN 1) 8) ∧ tables_1[2]? = some (.initialized (oN 1)) ∧ goodWord (.instantiable (oN 1) 8) = true ∧ goodWord (.initialized (oN 1)) = true := by decide +kernel
def cP_2 : List Nat := [192, 194, 196, 198, 200, 202, 204, 206, 208]
theorem cW_2 : ∀ k, k < 9 → tables_1[cP_2.getD k 0]? = some (u_lay (oN 2) cF_2 k) ∧ goodWord (u_lay (oN 2) cF_2 k) = true := by decide +kernel
theorem cM_2 : ∀ a, a < 9 → ∀ b, b < 9 → a ≠ b → (cF_2 a).2.1 ≠ (cF_2 b).2.1 := by decide +kernel
theorem cY_2 : ∀ k, k < 9 → parseFieldDescriptor (cF_2 k).2.2.1 = some (cT_2 k) ∧ (cF_2 k).1 = oN 2 := by decide +kernel
theorem cI_2 : tables_1[72]? = some (.instantiable (oN 2) 9) ∧ tables_1[3]? = some (.initialized (oN 2)) ∧ goodWord (.instantiable (oN 2) 9) = true ∧ goodWord (.initialized (oN 2)) = true := by decide +kernel
def cP_3 : List Nat := [126, 128, 130, 132, 134, 136, 138, 140, 142, 144, 146, 148, 150, 152, 154, 156, 158]
theorem cW_3 : ∀ k, k < 17 → tables_1[cP_3.getD k 0]? = some (u_lay (oN 3) cF_3 k) ∧ goodWord (u_lay (oN 3) cF_3 k) = true := by decide +kernel
theorem cM_3 : ∀ a, a < 17 → ∀ b, b < 17 → a ≠ b → (cF_3 a).2.1 ≠ (cF_3 b).2.1 := by decide +kernel
theorem cY_3 : ∀ k, k < 17 → parseFieldDescriptor (cF_3 k).2.2.1 = some (cT_3 k) ∧ (cF_3 k).1 = oN 3 := by decide +kernel
theorem cI_3 : tables_1[79]? = some (.instantiable (oN 3) 17) ∧ tables_1[4]? = some (.initialized (oN 3)) ∧ goodWord (.instantiable (oN 3) 17) = true ∧ goodWord (.initialized (oN 3)) = true := by decide +kernel
def cP_4 : List Nat := [172, 174, 176, 178]
theorem cW_4 : ∀ k, k < 4 → tables_1[cP_4.getD k 0]? = some (u_lay (oN 4) cF_4 k) ∧ goodWord (u_lay (oN 4) cF_4 k) = true := by decide +kernel
theorem cM_4 : ∀ a, a < 4 → ∀ b, b < 4 → a ≠ b → (cF_4 a).2.1 ≠ (cF_4 b).2.1 := by decide +kernel
theorem cY_4 : ∀ k, k < 4 → parseFieldDescriptor (cF_4 k).2.2.1 = some (cT_4 k) ∧ (cF_4 k).1 = oN 4 := by decide +kernel
theorem cI_4 : tables_1[163]? = some (.instantiable (oN 4) 4) ∧ tables_1[5]? = some (.initialized (oN 4)) ∧ goodWord (.instantiable (oN 4) 4) = true ∧ goodWord (.initialized (oN 4)) = true := by decide +kernel
def cP_5 : List Nat := [246, 248, 250, 252, 254, 256, 258, 260, 262, 264, 266, 268, 270, 272, 274]
theorem cW_5 : ∀ k, k < 15 → tables_1[cP_5.getD k 0]? = some (u_lay (oN 5) cF_5 k) ∧ goodWord (u_lay (oN 5) cF_5 k) = true := by decide +kernel
theorem cM_5 : ∀ a, a < 15 → ∀ b, b < 15 → a ≠ b → (cF_5 a).2.1 ≠ (cF_5 b).2.1 := by decide +kernel
theorem cY_5 : ∀ k, k < 15 → parseFieldDescriptor (cF_5 k).2.2.1 = some (cT_5 k) ∧ (cF_5 k).1 = oN 5 := by decide +kernel
theorem cI_5 : tables_1[212]? = some (.instantiable (oN 5) 15) ∧ tables_1[6]? = some (.initialized (oN 5)) ∧ goodWord (.instantiable (oN 5) 15) = true ∧ goodWord (.initialized (oN 5)) = true := by decide +kernel
def cP_6 : List Nat := [290, 292, 294, 296, 298, 300]
theorem cW_6 : ∀ k, k < 6 → tables_1[cP_6.getD k 0]? = some (u_lay (oN 6) cF_6 k) ∧ goodWord (u_lay (oN 6) cF_6 k) = true := by decide +kernel
theorem cM_6 : ∀ a, a < 6 → ∀ b, b < 6 → a ≠ b → (cF_6 a).2.1 ≠ (cF_6 b).2.1 := by decide +kernel
theorem cY_6 : ∀ k, k < 6 → parseFieldDescriptor (cF_6 k).2.2.1 = some (cT_6 k) ∧ (cF_6 k).1 = oN 6 := by decide +kernel
theorem cI_6 : tables_1[278]? = some (.instantiable (oN 6) 6) ∧ tables_1[8]? = some (.initialized (oN 6)) ∧ goodWord (.instantiable (oN 6) 6) = true ∧ goodWord (.initialized (oN 6)) = true := by decide +kernel
def cP_7 : List Nat := [326, 328, 330, 332, 334, 336, 338, 340, 342, 344, 346, 348, 350]
theorem cW_7 : ∀ k, k < 13 → tables_1[cP_7.getD k 0]? = some (u_lay (oN 7) cF_7 k) ∧ goodWord (u_lay (oN 7) cF_7 k) = true := by decide +kernel
theorem cM_7 : ∀ a, a < 13 → ∀ b, b < 13 → a ≠ b → (cF_7 a).2.1 ≠ (cF_7 b).2.1 := by decide +kernel
theorem cY_7 : ∀ k, k < 13 → parseFieldDescriptor (cF_7 k).2.2.1 = some (cT_7 k) ∧ (cF_7 k).1 = oN 7 := by decide +kernel
theorem cI_7 : tables_1[304]? = some (.instantiable (oN 7) 13) ∧ tables_1[9]? = some (.initialized (oN 7)) ∧ goodWord (.instantiable (oN 7) 13) = true ∧ goodWord (.initialized (oN 7)) = true := by decide +kernel
def cP_8 : List Nat := [384, 386, 388, 390, 392, 394, 396, 398, 400, 402, 404, 406, 408, 410, 412, 414]
theorem cW_8 : ∀ k, k < 16 → tables_1[cP_8.getD k 0]? = some (u_lay (oN 8) cF_8 k) ∧ goodWord (u_lay (oN 8) cF_8 k) = true := by decide +kernel
theorem cM_8 : ∀ a, a < 16 → ∀ b, b < 16 → a ≠ b → (cF_8 a).2.1 ≠ (cF_8 b).2.1 := by decide +kernel
theorem cY_8 : ∀ k, k < 16 → parseFieldDescriptor (cF_8 k).2.2.1 = some (cT_8 k) ∧ (cF_8 k).1 = oN 8 := by decide +kernel
theorem cI_8 : tables_1[354]? = some (.instantiable (oN 8) 16) ∧ tables_1[10]? = some (.initialized (oN 8)) ∧ goodWord (.instantiable (oN 8) 16) = true ∧ goodWord (.initialized (oN 8)) = true := by decide +kernel
def cP_9 : List Nat := [431, 433, 435, 437]
theorem cW_9 : ∀ k, k < 4 → tables_1[cP_9.getD k 0]? = some (u_lay (oN 9) cF_9 k) ∧ goodWord (u_lay (oN 9) cF_9 k) = true := by decide +kernel
theorem cM_9 : ∀ a, a < 4 → ∀ b, b < 4 → a ≠ b → (cF_9 a).2.1 ≠ (cF_9 b).2.1 := by decide +kernel
theorem cY_9 : ∀ k, k < 4 → parseFieldDescriptor (cF_9 k).2.2.1 = some (cT_9 k) ∧ (cF_9 k).1 = oN 9 := by decide +kernel
theorem cI_9 : tables_1[419]? = some (.instantiable (oN 9) 4) ∧ tables_1[11]? = some (.initialized (oN 9)) ∧ goodWord (.instantiable (oN 9) 4) = true ∧ goodWord (.initialized (oN 9)) = true := by decide +kernel
def cP_10 : List Nat := [456, 458, 460, 462, 464, 466, 468]
theorem cW_10 : ∀ k, k < 7 → tables_1[cP_10.getD k 0]? = some (u_lay (oN 10) cF_10 k) ∧ goodWord (u_lay (oN 10) cF_10 k) = true := by decide +kernel
theorem cM_10 : ∀ a, a < 7 → ∀ b, b < 7 → a ≠ b → (cF_10 a).2.1 ≠ (cF_10 b).2.1 := by decide +kernel
theorem cY_10 : ∀ k, k < 7 → parseFieldDescriptor (cF_10 k).2.2.1 = some (cT_10 k) ∧ (cF_10 k).1 = oN 10 := by decide +kernel
theorem cI_10 : tables_1[441]? = some (.instantiable (oN 10) 7) ∧ tables_1[12]? = some (.initialized (oN 10)) ∧ goodWord (.instantiable (oN 10) 7) = true ∧ goodWord (.initialized (oN 10)) = true := by decide +kernel
def cP_11 : List Nat := [484, 486, 488, 490, 492, 494]
theorem cW_11 : ∀ k, k < 6 → tables_1[cP_11.getD k 0]? = some (u_lay (oN 11) cF_11 k) ∧ goodWord (u_lay (oN 11) cF_11 k) = true := by decide +kernel
theorem cM_11 : ∀ a, a < 6 → ∀ b, b < 6 → a ≠ b → (cF_11 a).2.1 ≠ (cF_11 b).2.1 := by decide +kernel
theorem cY_11 : ∀ k, k < 6 → parseFieldDescriptor (cF_11 k).2.2.1 = some (cT_11 k) ∧ (cF_11 k).1 = oN 11 := by decide +kernel
theorem cI_11 : tables_1[472]? = some (.instantiable (oN 11) 6) ∧ tables_1[13]? = some (.initialized (oN 11)) ∧ goodWord (.instantiable (oN 11) 6) = true ∧ goodWord (.initialized (oN 11)) = true := by decide +kernel
def cP_12 : List Nat := [1574, 1576, 1578, 1580, 1582, 1584, 1586, 1588, 1590, 1592, 1594, 1596, 1598, 1600, 1602, 1604, 1606, 1608, 1610, 1612, 1614, 1616, 1618, 1620, 1622, 1624, 1626, 1628, 1630, 1632, 1634, 1636, 1638, 1640, 1642, 1644, 1646, 1648, 1650, 1652, 1654, 1656, 1658, 1660, 1662, 1664, 1666, 1668, 1670, 1672, 1674, 1676, 1678, 1680, 1682, 1684, 1686, 1688, 1690, 1692, 1694, 1696, 1698, 1700, 1702, 1704, 1706, 1708, 1710, 1712, 1714, 1716, 1718, 1720, 1722, 1724, 1726, 1728, 1730, 1732, 1734, 1736, 1738, 1740, 1742, 1744, 1746, 1748, 1750, 1752, 1754, 1756, 1758, 1760, 1762, 1764, 1766, 1768, 1770, 1772, 1774, 1776, 1778, 1780, 1782, 1784, 1786, 1788, 1790, 1792, 1794]
theorem cW_12 : ∀ k, k < 111 → tables_1[cP_12.getD k 0]? = some (u_lay (oN 12) cF_12 k) ∧ goodWord (u_lay (oN 12) cF_12 k) = true := by decide +kernel
theorem cM_12 : ∀ a, a < 111 → ∀ b, b < 111 → a ≠ b → (cF_12 a).2.1 ≠ (cF_12 b).2.1 := by decide +kernel
theorem cY_12 : ∀ k, k < 111 → parseFieldDescriptor (cF_12 k).2.2.1 = some (cT_12 k) ∧ (cF_12 k).1 = oN 12 := by decide +kernel
theorem cI_12 : tables_1[1458]? = some (.instantiable (oN 12) 111) ∧ tables_1[14]? = some (.initialized (oN 12)) ∧ goodWord (.instantiable (oN 12) 111) = true ∧ goodWord (.initialized (oN 12)) = true := by decide +kernel
theorem ws_in {C : String} {T : u_T} {N : Nat} {P : List Nat} (h : ∀ k, k < N → tables_1[P.getD k 0]? = some (u_lay C T k) ∧ goodWord (u_lay C T k) = true) : ∀ w ∈ u_ws C T N, w ∈ wT := by
  intro w hw
  obtain ⟨k, hk, rfl⟩ := List.mem_map.mp hw
  exact wT_t (h k (List.mem_range.mp hk)).1 (h k (List.mem_range.mp hk)).2
theorem cW_all {ci : Nat} (h : ci < 13) : ∀ w ∈ u_ws (oN ci) (cF ci) (cN ci), w ∈ wT := by
  match ci, h with
  | 0, _ => exact ws_in cW_0
  | 1, _ => exact ws_in cW_1
  | 2, _ => exact ws_in cW_2
  | 3, _ => exact ws_in cW_3
  | 4, _ => exact ws_in cW_4
  | 5, _ => exact ws_in cW_5
  | 6, _ => exact ws_in cW_6
  | 7, _ => exact ws_in cW_7
  | 8, _ => exact ws_in cW_8
  | 9, _ => exact ws_in cW_9
  | 10, _ => exact ws_in cW_10
  | 11, _ => exact ws_in cW_11
  | 12, _ => exact ws_in cW_12
  | k + 13, h => exact absurd h (by omega)
theorem cM_all {ci : Nat} (h : ci < 13) : ∀ a, a < cN ci → ∀ b, b < cN ci → a ≠ b → (cF ci a).2.1 ≠ (cF ci b).2.1 := by
  match ci, h with
  | 0, _ => exact cM_0
  | 1, _ => exact cM_1
  | 2, _ => exact cM_2
  | 3, _ => exact cM_3
  | 4, _ => exact cM_4
  | 5, _ => exact cM_5
  | 6, _ => exact cM_6
  | 7, _ => exact cM_7
  | 8, _ => exact cM_8
  | 9, _ => exact cM_9
  | 10, _ => exact cM_10
  | 11, _ => exact cM_11
  | 12, _ => exact cM_12
  | k + 13, h => exact absurd h (by omega)
theorem cY_all {ci : Nat} (h : ci < 13) : ∀ k, k < cN ci → parseFieldDescriptor (cF ci k).2.2.1 = some (cT ci k) ∧ (cF ci k).1 = oN ci := by
  match ci, h with
  | 0, _ => exact cY_0
  | 1, _ => exact cY_1
  | 2, _ => exact cY_2
  | 3, _ => exact cY_3
  | 4, _ => exact cY_4
  | 5, _ => exact cY_5
  | 6, _ => exact cY_6
  | 7, _ => exact cY_7
  | 8, _ => exact cY_8
  | 9, _ => exact cY_9
  | 10, _ => exact cY_10
  | 11, _ => exact cY_11
  | 12, _ => exact cY_12
  | k + 13, h => exact absurd h (by omega)
theorem cI_all {ci : Nat} (h : ci < 13) : Cond.instantiable (oN ci) (cN ci) ∈ wT ∧ Cond.initialized (oN ci) ∈ wT := by
  match ci, h with
  | 0, _ => exact ⟨wT_t cI_0.1 cI_0.2.2.1, wT_t cI_0.2.1 cI_0.2.2.2⟩
  | 1, _ => exact ⟨wT_t cI_1.1 cI_1.2.2.1, wT_t cI_1.2.1 cI_1.2.2.2⟩
  | 2, _ => exact ⟨wT_t cI_2.1 cI_2.2.2.1, wT_t cI_2.2.1 cI_2.2.2.2⟩
  | 3, _ => exact ⟨wT_t cI_3.1 cI_3.2.2.1, wT_t cI_3.2.1 cI_3.2.2.2⟩
  | 4, _ => exact ⟨wT_t cI_4.1 cI_4.2.2.1, wT_t cI_4.2.1 cI_4.2.2.2⟩
  | 5, _ => exact ⟨wT_t cI_5.1 cI_5.2.2.1, wT_t cI_5.2.1 cI_5.2.2.2⟩
  | 6, _ => exact ⟨wT_t cI_6.1 cI_6.2.2.1, wT_t cI_6.2.1 cI_6.2.2.2⟩
  | 7, _ => exact ⟨wT_t cI_7.1 cI_7.2.2.1, wT_t cI_7.2.1 cI_7.2.2.2⟩
  | 8, _ => exact ⟨wT_t cI_8.1 cI_8.2.2.1, wT_t cI_8.2.1 cI_8.2.2.2⟩
  | 9, _ => exact ⟨wT_t cI_9.1 cI_9.2.2.1, wT_t cI_9.2.1 cI_9.2.2.2⟩
  | 10, _ => exact ⟨wT_t cI_10.1 cI_10.2.2.1, wT_t cI_10.2.1 cI_10.2.2.2⟩
  | 11, _ => exact ⟨wT_t cI_11.1 cI_11.2.2.1, wT_t cI_11.2.1 cI_11.2.2.2⟩
  | 12, _ => exact ⟨wT_t cI_12.1 cI_12.2.2.1, wT_t cI_12.2.1 cI_12.2.2.2⟩
  | k + 13, h => exact absurd h (by omega)
def FT : List (Nat × Nat × Nat × Nat × Nat) := [(0, 9, 0, 1, 498), (0, 16, 0, 3, 500), (0, 23, 0, 4, 501), (0, 30, 0, 5, 502), (0, 37, 0, 6, 503), (0, 44, 0, 7, 504), (0, 51, 0, 8, 505), (0, 58, 0, 9, 506), (0, 65, 0, 10, 507), (0, 72, 0, 11, 508), (0, 76, 0, 0, 497), (0, 100, 0, 2, 499), (0, 266, 8, 11, 377), (0, 270, 1, 4, 46), (0, 287, 8, 1, 362), (0, 294, 9, 1, 428), (0, 323, 1, 6, 49), (0, 327, 10, 1, 450), (0, 355, 8, 2, 365), (0, 364, 8, 0, 360), (0, 365, 2, 1, 184), (0, 366, 5, 0, 221), (0, 369, 5, 1, 224), (0, 372, 7, 0, 310), (0, 375, 7, 1, 312), (0, 378, 7, 2, 314), (0, 381, 7, 3, 316), (0, 384, 8, 4, 368), (0, 387, 8, 7, 372), (0, 390, 8, 13, 381), (0, 393, 9, 0, 426), (0, 394, 1, 7, 51), (0, 397, 10, 0, 448), (0, 398, 11, 0, 478), (0, 399, 2, 0, 182), (0, 403, 1, 0, 38), (0, 406, 1, 1, 40), (0, 409, 1, 2, 42), (0, 412, 1, 3, 44), (0, 415, 8, 12, 379), (6, 9, 6, 0, 284), (6, 15, 6, 1, 285), (6, 18, 6, 2, 286), (6, 23, 6, 3, 287), (6, 26, 6, 4, 288), (6, 29, 6, 5, 289), (6, 66, 5, 1, 223), (6, 79, 5, 6, 235), (6, 82, 5, 8, 238), (6, 85, 5, 7, 237), (6, 95, 5, 5, 232), (6, 98, 5, 4, 230), (6, 105, 5, 2, 226), (6, 108, 5, 3, 228), (8, 9, 8, 1, 361), (8, 15, 8, 2, 363), (8, 18, 8, 3, 366), (8, 21, 8, 5, 369), (8, 24, 8, 6, 370), (8, 28, 8, 8, 373), (8, 31, 8, 9, 374), (8, 34, 8, 10, 375), (8, 37, 8, 11, 376), (8, 40, 8, 12, 378), (8, 43, 8, 14, 382), (8, 46, 8, 15, 383), (8, 49, 8, 0, 359), (8, 61, 8, 4, 367), (8, 67, 8, 7, 371), (8, 74, 8, 13, 380), (11, 11, 11, 1, 479), (11, 15, 11, 2, 480), (11, 18, 11, 3, 481), (11, 21, 11, 4, 482), (11, 24, 11, 5, 483), (11, 28, 11, 0, 477), (11, 41, 5, 6, 234), (2, 11, 2, 0, 181), (2, 17, 2, 2, 185), (2, 22, 2, 3, 186), (2, 29, 2, 4, 187), (2, 33, 2, 6, 189), (2, 36, 2, 7, 190), (2, 40, 2, 1, 183), (2, 48, 3, 0, 85), (2, 51, 3, 5, 95), (2, 54, 2, 5, 188), (2, 69, 3, 1, 87), (2, 72, 3, 2, 89), (2, 75, 3, 16, 124), (2, 87, 3, 13, 117), (2, 90, 3, 6, 99), (2, 96, 3, 7, 102), (2, 99, 3, 8, 105), (2, 102, 2, 8, 191), (2, 135, 3, 11, 112), (2, 138, 3, 12, 115), (2, 141, 3, 14, 120), (10, 9, 10, 1, 449), (10, 15, 10, 2, 451), (10, 19, 10, 3, 452), (10, 22, 10, 4, 453), (10, 25, 10, 5, 454), (10, 38, 10, 6, 455), (10, 41, 10, 0, 447), (5, 11, 5, 2, 225), (5, 15, 5, 3, 227), (5, 18, 5, 4, 229), (5, 21, 5, 5, 231), (5, 24, 5, 6, 233), (5, 27, 5, 7, 236), (5, 30, 5, 9, 240), (5, 33, 5, 10, 241), (5, 36, 5, 11, 242), (5, 39, 5, 12, 243), (5, 42, 5, 13, 244), (5, 45, 5, 14, 245), (5, 54, 5, 0, 220), (5, 58, 5, 1, 222), (5, 86, 5, 8, 239), (1, 9, 1, 0, 37), (1, 15, 1, 1, 39), (1, 18, 1, 2, 41), (1, 21, 1, 3, 43), (1, 24, 1, 4, 45), (1, 27, 1, 5, 47), (1, 30, 1, 6, 48), (1, 42, 1, 7, 50), (4, 9, 4, 0, 168), (4, 15, 4, 1, 169), (4, 19, 4, 3, 171), (4, 33, 3, 3, 91), (4, 38, 3, 4, 93), (4, 46, 3, 6, 98), (4, 50, 3, 5, 96), (4, 56, 3, 9, 107), (4, 59, 3, 11, 111), (4, 62, 3, 15, 122), (4, 68, 3, 10, 109), (4, 71, 3, 12, 114), (4, 78, 3, 7, 101), (4, 80, 4, 2, 170), (4, 86, 3, 8, 104), (4, 126, 3, 16, 125), (4, 129, 3, 14, 119), (7, 11, 7, 4, 317), (7, 15, 7, 5, 318), (7, 18, 7, 6, 319), (7, 21, 7, 7, 320), (7, 24, 7, 8, 321), (7, 27, 7, 9, 322), (7, 30, 7, 10, 323), (7, 33, 7, 11, 324), (7, 36, 7, 12, 325), (7, 39, 7, 1, 311), (7, 43, 7, 2, 313), (7, 46, 7, 0, 309), (7, 66, 7, 3, 315), (3, 9, 3, 4, 92), (3, 15, 3, 6, 97), (3, 19, 3, 7, 100), (3, 22, 3, 8, 103), (3, 25, 3, 9, 106), (3, 28, 3, 10, 108), (3, 31, 3, 11, 110), (3, 34, 3, 12, 113), (3, 37, 3, 14, 118), (3, 46, 3, 3, 90), (3, 56, 3, 5, 94), (3, 59, 3, 15, 121), (3, 62, 3, 16, 123), (3, 65, 3, 1, 86), (3, 68, 3, 2, 88), (3, 71, 3, 0, 84), (3, 78, 3, 13, 116), (9, 11, 9, 1, 427), (9, 15, 9, 2, 429), (9, 18, 9, 3, 430), (9, 28, 9, 0, 425), (9, 45, 8, 2, 364), (12, 7, 12, 0, 1463), (12, 13, 12, 19, 1482), (12, 17, 12, 20, 1483), (12, 20, 12, 21, 1484), (12, 24, 12, 22, 1485), (12, 27, 12, 23, 1486), (12, 30, 12, 24, 1487), (12, 33, 12, 25, 1488), (12, 36, 12, 26, 1489), (12, 39, 12, 27, 1490), (12, 42, 12, 28, 1491), (12, 45, 12, 29, 1492), (12, 48, 12, 30, 1493), (12, 51, 12, 31, 1494), (12, 54, 12, 32, 1495), (12, 57, 12, 33, 1496), (12, 60, 12, 34, 1497), (12, 63, 12, 35, 1498), (12, 66, 12, 36, 1499), (12, 69, 12, 37, 1500), (12, 72, 12, 38, 1501), (12, 75, 12, 39, 1502), (12, 78, 12, 40, 1503), (12, 81, 12, 41, 1504), (12, 84, 12, 42, 1505), (12, 87, 12, 43, 1506), (12, 90, 12, 44, 1507), (12, 93, 12, 54, 1517), (12, 96, 12, 55, 1518), (12, 100, 12, 57, 1520), (12, 103, 12, 58, 1521), (12, 107, 12, 59, 1522), (12, 110, 12, 60, 1523), (12, 113, 12, 62, 1525), (12, 116, 12, 63, 1526), (12, 119, 12, 64, 1527), (12, 122, 12, 65, 1528), (12, 125, 12, 66, 1529), (12, 128, 12, 67, 1530), (12, 131, 12, 68, 1531), (12, 134, 12, 69, 1532), (12, 137, 12, 70, 1533), (12, 140, 12, 71, 1534), (12, 143, 12, 72, 1535), (12, 146, 12, 73, 1536), (12, 149, 12, 74, 1537), (12, 152, 12, 75, 1538), (12, 155, 12, 76, 1539), (12, 158, 12, 77, 1540), (12, 161, 12, 78, 1541), (12, 164, 12, 79, 1542), (12, 167, 12, 80, 1543), (12, 170, 12, 81, 1544), (12, 173, 12, 82, 1545), (12, 176, 12, 83, 1546), (12, 179, 12, 84, 1547), (12, 182, 12, 85, 1548), (12, 185, 12, 86, 1549), (12, 188, 12, 87, 1550), (12, 191, 12, 88, 1551), (12, 194, 12, 89, 1552), (12, 197, 12, 90, 1553), (12, 200, 12, 91, 1554), (12, 203, 12, 92, 1555), (12, 206, 12, 93, 1556), (12, 209, 12, 94, 1557), (12, 212, 12, 95, 1558), (12, 215, 12, 96, 1559), (12, 218, 12, 97, 1560), (12, 221, 12, 98, 1561), (12, 224, 12, 99, 1562), (12, 227, 12, 100, 1563), (12, 230, 12, 101, 1564), (12, 233, 12, 102, 1565), (12, 236, 12, 103, 1566), (12, 239, 12, 104, 1567), (12, 242, 12, 105, 1568), (12, 245, 12, 106, 1569), (12, 248, 12, 107, 1570), (12, 251, 12, 108, 1571), (12, 254, 12, 109, 1572), (12, 257, 12, 110, 1573), (12, 260, 12, 2, 1465), (12, 269, 12, 3, 1466), (12, 272, 12, 4, 1467), (12, 287, 12, 1, 1464), (12, 294, 12, 45, 1508), (12, 297, 12, 46, 1509), (12, 300, 12, 47, 1510), (12, 307, 12, 5, 1468), (12, 310, 12, 49, 1512), (12, 313, 12, 51, 1514), (12, 316, 12, 50, 1513), (12, 364, 12, 53, 1516), (12, 383, 12, 52, 1515), (12, 392, 12, 48, 1511), (12, 424, 12, 56, 1519), (12, 427, 12, 14, 1477), (12, 469, 12, 61, 1524), (12, 486, 12, 6, 1469), (12, 489, 12, 7, 1470), (12, 532, 12, 8, 1471), (12, 549, 12, 9, 1472), (12, 552, 12, 10, 1473), (12, 583, 12, 11, 1474), (12, 586, 12, 12, 1475), (12, 591, 12, 13, 1476), (12, 603, 12, 15, 1478), (12, 612, 12, 16, 1479), (12, 620, 12, 17, 1480), (12, 634, 12, 18, 1481)]
def FTp (q : Nat × Nat × Nat × Nat × Nat) : Cond := .fieldLink (oN q.1) q.2.1 (oN q.2.2.1) (cF q.2.2.1 q.2.2.2.1).2.1 (cF q.2.2.1 q.2.2.2.1).2.2.1
theorem FT_ok : ∀ q ∈ FT, (tables_1[q.2.2.2.2]? = some (FTp q) ∧ goodWord (FTp q) = true) ∧ q.2.2.1 < 13 ∧ q.2.2.2.1 < cN q.2.2.1 := by decide +kernel
def KT : List (Nat × Nat × Int × Nat) := [(0, 80, 5000000, 538), (0, 273, -100000, 1231), (0, 326, 134455, 1360), (6, 38, 1000000, 1042), (10, 56, 134456, 1369), (7, 53, -100000, 1101), (7, 54, 100000, 1102), (7, 91, 99999, 876), (12, 352, 99999, 1881), (12, 597, -100000, 2227), (14, 265, 1431655765, 1444), (14, 266, 858993459, 1445), (14, 267, 252645135, 1446)]
theorem KT_ok : ∀ q ∈ KT, tables_1[q.2.2.2]? = some (.constant (oN q.1) q.2.1 (Int32.ofInt q.2.2.1)) ∧ goodWord (.constant (oN q.1) q.2.1 (Int32.ofInt q.2.2.1)) = true := by decide +kernel
def KL : List (Nat × Nat × Int × Nat) := [(0, 144, -1, 952), (1, 45, 4, 1338), (12, 263, 5000000, 1801), (12, 275, 7, 1809), (12, 277, 2000, 1810), (12, 279, 100, 1811), (12, 285, 4, 1824), (12, 330, 48, 1879), (12, 332, 57, 1880), (12, 401, 3472, 1837), (12, 403, 160, 1838), (12, 475, -1, 2088), (12, 498, 1000000, 2129), (12, 535, -100000, 2163), (12, 537, 100000, 2164), (12, 539, 1000, 2158), (12, 541, 3, 2159), (12, 578, 99999, 2193), (12, 589, 9, 2210), (12, 601, 24, 2247), (12, 615, 16, 2288), (12, 623, 134455, 2301), (12, 625, 8121, 2302), (12, 627, 28411, 2303), (12, 629, 134456, 2304), (12, 637, 60, 2321), (12, 651, 20, 2352)]
theorem KL_ok : ∀ q ∈ KL, tables_1[q.2.2.2]? = some (.constantLong (oN q.1) q.2.1 (Int64.ofInt q.2.2.1)) ∧ goodWord (.constantLong (oN q.1) q.2.1 (Int64.ofInt q.2.2.1)) = true := by decide +kernel
def CT : List (Nat × Nat × Nat × Nat) := [(0, 13, 1, 31), (0, 20, 2, 71), (0, 27, 5, 211), (0, 34, 6, 277), (0, 41, 7, 303), (0, 48, 8, 353), (0, 55, 9, 418), (0, 62, 10, 440), (0, 69, 11, 471), (2, 15, 3, 77), (2, 26, 4, 162), (16, 7, 0, 23), (16, 10, 12, 1457)]
theorem CT_ok : ∀ q ∈ CT, (tables_1[q.2.2.2]? = some (.classLink (oN q.1) q.2.1 (oN q.2.2.1)) ∧ goodWord (.classLink (oN q.1) q.2.1 (oN q.2.2.1)) = true) ∧ q.2.2.1 < 13 := by decide +kernel
def OT : List (Nat × Nat × Nat) := [(0, 1, 28), (6, 3, 282), (8, 3, 358), (11, 3, 476), (2, 3, 76), (10, 3, 445), (5, 3, 216), (1, 3, 36), (4, 3, 167), (7, 5, 308), (3, 3, 83), (9, 3, 423), (12, 1, 1462)]
theorem OT_ok : ∀ q ∈ OT, tables_1[q.2.2]? = some (.methodLink (oN q.1) q.2.1 objectInit) ∧ goodWord (.methodLink (oN q.1) q.2.1 objectInit) = true := by decide +kernel
theorem OI_ok : tables_1[29]? = some (.instanceMethod objectInit) ∧ tables_1[30]? = some (.code objectInit ⟨#[0xb1]⟩ 1 none) ∧ goodWord (.instanceMethod objectInit) = true ∧ goodWord (.code objectInit ⟨#[0xb1]⟩ 1 none) = true := by decide +kernel
def AT : List (Nat × Nat × Nat) := [(5, 80, 1011), (3, 50, 601)]
theorem AT_ok : ∀ q ∈ AT, tables_1[q.2.2]? = some (.methodLink (oN q.1) q.2.1 arraycopyName) ∧ goodWord (.methodLink (oN q.1) q.2.1 arraycopyName) = true := by decide +kernel
def mname (k : Nat) : MethodName := if k = 79 then Lib.Math.max.name else if k = 89 then Lib.Math.min.name else Lib.Math.abs.name
def XT : List (Nat × Nat × Nat × Nat) := [(11, 47, 98, 1424), (2, 144, 79, 915), (7, 73, 98, 889), (7, 81, 79, 896), (7, 95, 89, 901), (3, 40, 89, 598)]
theorem XT_ok : ∀ q ∈ XT, tables_1[q.2.2.2]? = some (.methodLink (oN q.1) q.2.1 (mname q.2.2.1)) ∧ goodWord (.methodLink (oN q.1) q.2.1 (mname q.2.2.1)) = true := by decide +kernel
theorem XI_ok : (tables_1[15]? = some (.initialized "java/lang/Math") ∧ goodWord (.initialized "java/lang/Math") = true) ∧ (tables_1[697]? = some (.static Lib.Math.max.name) ∧ goodWord (.static Lib.Math.max.name) = true) ∧ (tables_1[599]? = some (.static Lib.Math.min.name) ∧ goodWord (.static Lib.Math.min.name) = true) ∧ (tables_1[890]? = some (.static Lib.Math.abs.name) ∧ goodWord (.static Lib.Math.abs.name) = true) := by decide +kernel
theorem XC_ok : (tables_1[698]? = some (.code Lib.Math.max.name Lib.Math.max.code 2 (some .int)) ∧ goodWord (.code Lib.Math.max.name Lib.Math.max.code 2 (some .int)) = true) ∧ (tables_1[600]? = some (.code Lib.Math.min.name Lib.Math.min.code 2 (some .int)) ∧ goodWord (.code Lib.Math.min.name Lib.Math.min.code 2 (some .int)) = true) ∧ (tables_1[891]? = some (.code Lib.Math.abs.name Lib.Math.abs.code 1 (some .int)) ∧ goodWord (.code Lib.Math.abs.name Lib.Math.abs.code 1 (some .int)) = true) := by decide +kernel
theorem AI_ok : tables_1[603]? = some (.native arraycopyName) ∧ tables_1[602]? = some (.static arraycopyName) ∧ tables_1[16]? = some (.initialized "java/lang/System") ∧ goodWord (.native arraycopyName) = true ∧ goodWord (.static arraycopyName) = true ∧ goodWord (.initialized "java/lang/System") = true := by decide +kernel
theorem AC_byte : Cond.arrayClass .byte ∈ wT := wT_t (i := 69) (by decide +kernel) (by decide +kernel)
theorem AC_int : Cond.arrayClass .int ∈ wT := wT_t (i := 70) (by decide +kernel) (by decide +kernel)
theorem AC_long : Cond.arrayClass .long ∈ wT := wT_t (i := 161) (by decide +kernel) (by decide +kernel)
theorem AC_boolean : Cond.arrayClass .boolean ∈ wT := wT_t (i := 417) (by decide +kernel) (by decide +kernel)
theorem AO_at : tables_1[78]? = some (.arrayOver (.object (oN 3))) := by decide +kernel
end
section
/-! what is checked of each instruction of the small machine against the bytes -/
def okA (o : Nat) (cc : ByteArray) (pc : Nat) (i : Ins) : Bool :=
  let op := i.1; let nx := i.2.1; let a := i.2.2.1.headD 0; let v := i.2.2.2.headD 0
  if op = 1 then decide (decode cc pc = .ok (.iconst v, 1) ∧ nx = pc + 1 ∧ -2147483648 ≤ v ∧ v < 2147483648)
  else if op = 2 then decide (decode cc pc = .ok (.bipush v, 2) ∧ nx = pc + 2 ∧ (Int8.ofInt v).toInt32 = Int32.ofInt v ∧ -2147483648 ≤ v ∧ v < 2147483648)
  else if op = 3 then decide (decode cc pc = .ok (.sipush v, 3) ∧ nx = pc + 3 ∧ (Int16.ofInt v).toInt32 = Int32.ofInt v ∧ -2147483648 ≤ v ∧ v < 2147483648)
  else if op = 4 then decide (decode cc pc = .ok (.ldc (KT.getD a (0, 0, 0, 0)).2.1, 2) ∧ nx = pc + 2 ∧ a < KT.length ∧ (KT.getD a (0, 0, 0, 0)).1 = o ∧ (KT.getD a (0, 0, 0, 0)).2.2.1 = v ∧ -2147483648 ≤ v ∧ v < 2147483648)
  else if op = 5 then decide (decode cc pc = .ok (.ldc_w (KT.getD a (0, 0, 0, 0)).2.1, 3) ∧ nx = pc + 3 ∧ a < KT.length ∧ (KT.getD a (0, 0, 0, 0)).1 = o ∧ (KT.getD a (0, 0, 0, 0)).2.2.1 = v ∧ -2147483648 ≤ v ∧ v < 2147483648)
  else if op = 6 then decide (nx = pc + 1 ∧ ((decode cc pc = .ok (.lconst 0, 1) ∧ v = 0) ∨ (decode cc pc = .ok (.lconst 1, 1) ∧ v = 1)))
  else if op = 7 then decide (decode cc pc = .ok (.ldc2_w (KL.getD a (0, 0, 0, 0)).2.1, 3) ∧ nx = pc + 3 ∧ a < KL.length ∧ (KL.getD a (0, 0, 0, 0)).1 = o ∧ (KL.getD a (0, 0, 0, 0)).2.2.1 = v ∧ -9223372036854775808 ≤ v ∧ v < 9223372036854775808)
  else if op = 8 then decide (decode cc pc = .ok (.ldc 118, 2) ∧ nx = pc + 2 ∧ o = 4)
  else if op = 10 then decide (decode cc pc = .ok (.iload a, 2) ∧ nx = pc + 2)
  else if op = 11 then decide (decode cc pc = .ok (.iload_n (Fin.ofNat 4 a), 1) ∧ nx = pc + 1 ∧ a < 4)
  else if op = 12 then decide (decode cc pc = .ok (.lload a, 2) ∧ nx = pc + 2)
  else if op = 13 then decide (decode cc pc = .ok (.lload_n (Fin.ofNat 4 a), 1) ∧ nx = pc + 1 ∧ a < 4)
  else if op = 14 then decide (decode cc pc = .ok (.aload a, 2) ∧ nx = pc + 2)
  else if op = 15 then decide (decode cc pc = .ok (.aload_n (Fin.ofNat 4 a), 1) ∧ nx = pc + 1 ∧ a < 4)
  else if op = 16 then decide (decode cc pc = .ok (.istore a, 2) ∧ nx = pc + 2)
  else if op = 17 then decide (decode cc pc = .ok (.istore_n (Fin.ofNat 4 a), 1) ∧ nx = pc + 1 ∧ a < 4)
  else if op = 18 then decide (decode cc pc = .ok (.lstore a, 2) ∧ nx = pc + 2)
  else if op = 19 then decide (decode cc pc = .ok (.lstore_n (Fin.ofNat 4 a), 1) ∧ nx = pc + 1 ∧ a < 4)
  else if op = 20 then decide (decode cc pc = .ok (.astore a, 2) ∧ nx = pc + 2)
  else if op = 21 then decide (decode cc pc = .ok (.astore_n (Fin.ofNat 4 a), 1) ∧ nx = pc + 1 ∧ a < 4)
  else if op = 22 then decide (decode cc pc = .ok (.iinc a v, 3) ∧ nx = pc + 3)
  else false
def okB (cc : ByteArray) (pc : Nat) (i : Ins) : Bool :=
  let op := i.1
  decide (i.2.1 = pc + 1) && (
  if op = 30 then decide (decode cc pc = .ok (.iadd, 1))
  else if op = 31 then decide (decode cc pc = .ok (.isub, 1))
  else if op = 32 then decide (decode cc pc = .ok (.imul, 1))
  else if op = 33 then decide (decode cc pc = .ok (.idiv, 1))
  else if op = 34 then decide (decode cc pc = .ok (.irem, 1))
  else if op = 35 then decide (decode cc pc = .ok (.ineg, 1))
  else if op = 36 then decide (decode cc pc = .ok (.ishl, 1))
  else if op = 37 then decide (decode cc pc = .ok (.ishr, 1))
  else if op = 38 then decide (decode cc pc = .ok (.iushr, 1))
  else if op = 39 then decide (decode cc pc = .ok (.iand, 1))
  else if op = 40 then decide (decode cc pc = .ok (.ior, 1))
  else if op = 41 then decide (decode cc pc = .ok (.ixor, 1))
  else if op = 42 then decide (decode cc pc = .ok (.i2l, 1))
  else if op = 43 then decide (decode cc pc = .ok (.l2i, 1))
  else if op = 44 then decide (decode cc pc = .ok (.i2b, 1))
  else if op = 45 then decide (decode cc pc = .ok (.i2c, 1))
  else if op = 46 then decide (decode cc pc = .ok (.ladd, 1))
  else if op = 47 then decide (decode cc pc = .ok (.lsub, 1))
  else if op = 48 then decide (decode cc pc = .ok (.lmul, 1))
  else if op = 49 then decide (decode cc pc = .ok (.ldiv, 1))
  else if op = 50 then decide (decode cc pc = .ok (.lrem, 1))
  else if op = 51 then decide (decode cc pc = .ok (.lcmp, 1))
  else if op = 52 then decide (decode cc pc = .ok (.land, 1))
  else if op = 53 then decide (decode cc pc = .ok (.lor, 1))
  else if op = 54 then decide (decode cc pc = .ok (.lshl, 1))
  else if op = 55 then decide (decode cc pc = .ok (.lshr, 1))
  else if op = 56 then decide (decode cc pc = .ok (.dup, 1))
  else if op = 57 then decide (decode cc pc = .ok (.dup2, 1))
  else if op = 58 then decide (decode cc pc = .ok (.pop, 1))
  else false)
def okC (cc : ByteArray) (pc : Nat) (i : Ins) : Bool :=
  let op := i.1; let nx := i.2.1; let t := i.2.2.1.headD 0
  if op = 60 then decide (decode cc pc = .ok (.ifCond .eq ((t : Int) - pc), 3) ∧ nx = pc + 3)
  else if op = 61 then decide (decode cc pc = .ok (.ifCond .ne ((t : Int) - pc), 3) ∧ nx = pc + 3)
  else if op = 62 then decide (decode cc pc = .ok (.ifCond .lt ((t : Int) - pc), 3) ∧ nx = pc + 3)
  else if op = 63 then decide (decode cc pc = .ok (.ifCond .ge ((t : Int) - pc), 3) ∧ nx = pc + 3)
  else if op = 64 then decide (decode cc pc = .ok (.ifCond .gt ((t : Int) - pc), 3) ∧ nx = pc + 3)
  else if op = 65 then decide (decode cc pc = .ok (.ifCond .le ((t : Int) - pc), 3) ∧ nx = pc + 3)
  else if op = 66 then decide (decode cc pc = .ok (.if_icmp .eq ((t : Int) - pc), 3) ∧ nx = pc + 3)
  else if op = 67 then decide (decode cc pc = .ok (.if_icmp .ne ((t : Int) - pc), 3) ∧ nx = pc + 3)
  else if op = 68 then decide (decode cc pc = .ok (.if_icmp .lt ((t : Int) - pc), 3) ∧ nx = pc + 3)
  else if op = 69 then decide (decode cc pc = .ok (.if_icmp .ge ((t : Int) - pc), 3) ∧ nx = pc + 3)
  else if op = 70 then decide (decode cc pc = .ok (.if_icmp .gt ((t : Int) - pc), 3) ∧ nx = pc + 3)
  else if op = 71 then decide (decode cc pc = .ok (.if_icmp .le ((t : Int) - pc), 3) ∧ nx = pc + 3)
  else if op = 72 then decide (decode cc pc = .ok (.ifnull ((t : Int) - pc), 3) ∧ nx = pc + 3)
  else if op = 73 then decide (decode cc pc = .ok (.goto ((t : Int) - pc), 3))
  else if op = 74 then (match decode cc pc with
    | .ok (.tableswitch d lo hi offs, _) => decide ((pc : Int) + d = t ∧ hi + 1 = lo + offs.size ∧ i.2.2.2 = (List.range offs.size).map (fun (j : Nat) => lo + (j : Int)) ∧ offs.toList = i.2.2.1.tail.map (fun (u : Nat) => (u : Int) - pc))
    | _ => false)
  else if op = 75 then (match decode cc pc with
    | .ok (.lookupswitch d ps, _) => decide ((pc : Int) + d = t ∧ ps.toList = i.2.2.2.zip (i.2.2.1.tail.map (fun (u : Nat) => (u : Int) - pc)) ∧ i.2.2.2.length = i.2.2.1.tail.length ∧ (ps.toList.zip (ps.toList.drop 1)).all (fun (a, next) => a.1 < next.1) = true)
    | _ => false)
  else false
def okD (o : Nat) (ini : Bool) (cc : ByteArray) (pc : Nat) (i : Ins) : Bool :=
  let op := i.1; let nx := i.2.1; let a := i.2.2.1.headD 0; let b := i.2.2.1.tail.headD 0; let e := i.2.2.1.tail.tail.headD 0
  if op = 76 then decide (nx = pc + 2 ∧ ((a = 20 ∧ decode cc pc = .ok (.newarray .int, 2)) ∨ (a = 21 ∧ decode cc pc = .ok (.newarray .byte, 2)) ∨ (a = 22 ∧ decode cc pc = .ok (.newarray .boolean, 2)) ∨ (a = 23 ∧ decode cc pc = .ok (.newarray .long, 2))))
  else if op = 77 then decide (nx = pc + 3 ∧ a = 24 ∧ b < CT.length ∧ decode cc pc = .ok (.anewarray (CT.getD b (0, 0, 0, 0)).2.1, 3) ∧ (CT.getD b (0, 0, 0, 0)).1 = o ∧ (CT.getD b (0, 0, 0, 0)).2.2.1 = 3)
  else if op = 78 then decide (nx = pc + 3 ∧ b < CT.length ∧ decode cc pc = .ok (.new (CT.getD b (0, 0, 0, 0)).2.1, 3) ∧ (CT.getD b (0, 0, 0, 0)).1 = o ∧ (CT.getD b (0, 0, 0, 0)).2.2.1 = a)
  else if op = 80 then decide (decode cc pc = .ok (.iaload, 1) ∧ nx = pc + 1)
  else if op = 81 then decide (decode cc pc = .ok (.baload, 1) ∧ nx = pc + 1)
  else if op = 82 then decide (decode cc pc = .ok (.laload, 1) ∧ nx = pc + 1)
  else if op = 83 then decide (decode cc pc = .ok (.aaload, 1) ∧ nx = pc + 1)
  else if op = 84 then decide (decode cc pc = .ok (.iastore, 1) ∧ nx = pc + 1)
  else if op = 85 then decide (decode cc pc = .ok (.bastore, 1) ∧ nx = pc + 1)
  else if op = 86 then decide (decode cc pc = .ok (.lastore, 1) ∧ nx = pc + 1)
  else if op = 87 then decide (decode cc pc = .ok (.aastore, 1) ∧ nx = pc + 1 ∧ b = 3)
  else if op = 88 then decide (decode cc pc = .ok (.arraylength, 1) ∧ nx = pc + 1)
  else if op = 90 then decide (nx = pc + 3 ∧ e < FT.length ∧ decode cc pc = .ok (.getfield (FT.getD e (0, 0, 0, 0, 0)).2.1, 3) ∧ (FT.getD e (0, 0, 0, 0, 0)).1 = o ∧ (FT.getD e (0, 0, 0, 0, 0)).2.2.1 = a ∧ (FT.getD e (0, 0, 0, 0, 0)).2.2.2.1 = b ∧ FTY a b ≠ 1)
  else if op = 91 then decide (nx = pc + 3 ∧ e < FT.length ∧ decode cc pc = .ok (.getfield (FT.getD e (0, 0, 0, 0, 0)).2.1, 3) ∧ (FT.getD e (0, 0, 0, 0, 0)).1 = o ∧ (FT.getD e (0, 0, 0, 0, 0)).2.2.1 = a ∧ (FT.getD e (0, 0, 0, 0, 0)).2.2.2.1 = b ∧ FTY a b = 1)
  else if op = 92 then decide (nx = pc + 3 ∧ e < FT.length ∧ decode cc pc = .ok (.putfield (FT.getD e (0, 0, 0, 0, 0)).2.1, 3) ∧ (FT.getD e (0, 0, 0, 0, 0)).1 = o ∧ (FT.getD e (0, 0, 0, 0, 0)).2.2.1 = a ∧ (FT.getD e (0, 0, 0, 0, 0)).2.2.2.1 = b ∧ FTY a b = 0 ∧ (cF a b).2.2.2 = false)
  else if op = 93 then decide (nx = pc + 3 ∧ e < FT.length ∧ decode cc pc = .ok (.putfield (FT.getD e (0, 0, 0, 0, 0)).2.1, 3) ∧ (FT.getD e (0, 0, 0, 0, 0)).1 = o ∧ (FT.getD e (0, 0, 0, 0, 0)).2.2.1 = a ∧ (FT.getD e (0, 0, 0, 0, 0)).2.2.2.1 = b ∧ FTY a b = 1 ∧ ((cF a b).2.2.2 = false ∨ (ini = true ∧ a = o)))
  else if op = 94 then decide (nx = pc + 3 ∧ e < FT.length ∧ decode cc pc = .ok (.putfield (FT.getD e (0, 0, 0, 0, 0)).2.1, 3) ∧ (FT.getD e (0, 0, 0, 0, 0)).1 = o ∧ (FT.getD e (0, 0, 0, 0, 0)).2.2.1 = a ∧ (FT.getD e (0, 0, 0, 0, 0)).2.2.2.1 = b ∧ FTY a b = 2 ∧ (cF a b).2.2.2 = false)
  else if op = 95 then decide (nx = pc + 3 ∧ decode cc pc = .ok (.invokespecial a, 3)) && OT.any (fun q => q.1 == o && q.2.1 == a)
  else if op = 96 then decide (nx = pc + 3 ∧ decode cc pc = .ok (.invokestatic a, 3)) && AT.any (fun q => q.1 == o && q.2.1 == a)
  else if op = 79 ∨ op = 89 ∨ op = 98 then decide (nx = pc + 3 ∧ decode cc pc = .ok (.invokestatic a, 3)) && XT.any (fun q => q.1 == o && (q.2.1 == a && q.2.2.1 == op))
  else if op = 97 then decide (nx = pc + 3 ∧ decode cc pc = .ok (.invokevirtual a, 3) ∧ o = 4 ∧ i.2.2.2 = [115, 100, 103, 109, 98, 97, 111, 119, 108, 104, 121, 113])
  else false
/-- calls: ML has (owner, pool entry, method, of a nest mate, place in the tables) -/
def okE (ML : List (Nat × Nat × Nat × Nat × Nat)) (np cl : Nat → Nat) (o : Nat) (cc : ByteArray) (pc : Nat) (i : Ins) : Bool :=
  let op := i.1; let a := i.2.2.1.headD 0; let b := i.2.2.1.tail.headD 0; let e := i.2.2.1.tail.tail.headD 0
  let q := ML.getD e (0, 0, 0, 0, 0)
  decide (i.2.1 = pc + 3 ∧ e < ML.length ∧ q.1 = o ∧ q.2.2.1 = a) && (
  if op = 100 then decide (decode cc pc = .ok (.invokevirtual q.2.1, 3) ∧ q.2.2.2.1 = 0 ∧ cl a < 13 ∧ b = np a + 1)
  else if op = 102 then decide (decode cc pc = .ok (.invokestatic q.2.1, 3) ∧ q.2.2.2.1 = 0 ∧ cl a = 50 ∧ b = np a)
  else if op = 103 then decide (decode cc pc = .ok (.invokestatic q.2.1, 3) ∧ q.2.2.2.1 = 1 ∧ cl a = 50 ∧ b = np a)
  else if op = 104 then decide (decode cc pc = .ok (.invokespecial q.2.1, 3) ∧ q.2.2.2.1 = 0 ∧ cl a = 60 ∧ b = np a + 1)
  else if op = 105 then decide (decode cc pc = .ok (.invokespecial q.2.1, 3) ∧ q.2.2.2.1 = 1 ∧ cl a = 60 ∧ b = np a + 1)
  else false)
def okF (rt : Nat) (cc : ByteArray) (pc : Nat) (i : Ins) : Bool :=
  let op := i.1
  if op = 110 then decide (decode cc pc = .ok (.ireturn, 1) ∧ (rt = 1 ∨ rt = 2))
  else if op = 111 then decide (decode cc pc = .ok (.lreturn, 1) ∧ rt = 3)
  else if op = 112 then decide (decode cc pc = .ok (.return_, 1) ∧ rt = 0)
  else false
def okI (ML : List (Nat × Nat × Nat × Nat × Nat)) (np cl : Nat → Nat) (rt o : Nat) (ini : Bool) (cc : ByteArray) (pc : Nat) (i : Ins) : Bool :=
  if i.1 < 30 then okA o cc pc i else if i.1 < 60 then okB cc pc i else if i.1 < 76 then okC cc pc i else if i.1 < 100 then okD o ini cc pc i else if i.1 < 110 then okE ML np cl o cc pc i else okF rt cc pc i
/-- a method: name, bytes, locals, what it returns (as the tables say), owner, class, what it returns, room for cells, parameters, places of its words, code -/
abbrev MTy : Type := MethodName × ByteArray × Nat × Option FieldType × Nat × Nat × Nat × GG × Nat × List Nat × List (Nat × Ins)
def lk : List (Nat × Ins) → Nat → Ins
  | [], _ => (99, 0, [], [])
  | (p, i) :: l, q => if p = q then i else lk l q
theorem lk_mem : ∀ {l : List (Nat × Ins)} {pc : Nat}, (lk l pc).1 ≠ 99 → (pc, lk l pc) ∈ l
  | [], _, h => absurd rfl h
  | (p, i) :: l, q, h => by
    unfold lk at h ⊢
    by_cases e : p = q
    · rw [if_pos e] at h ⊢; rw [e]; exact List.mem_cons_self
    · rw [if_neg e] at h ⊢; exact List.mem_cons_of_mem _ (lk_mem h)
/-- a store's place is a local's -/
def okS (nl : Nat) (i : Ins) : Bool := decide ((16 ≤ i.1 ∧ i.1 ≤ 22 → i.2.2.1.headD 0 < nl) ∧ (i.1 = 18 ∨ i.1 = 19 → i.2.2.1.headD 0 + 1 < nl))
end
section
/-! the program's methods and their code, by program out of the Statement -/
noncomputable def cd_0 : List (Nat × Ins) := [(0, (15, 1, [0], [])), (1, (95, 4, [1], [])), (4, (15, 5, [0], [])), (5, (3, 8, [], [160])), (8, (76, 10, [21], [])), (10, (93, 13, [0, 1, 0], [])), (13, (15, 14, [0], [])), (14, (78, 17, [1, 0], [])), (17, (56, 18, [], [])), (18, (105, 21, [1, 1, 0], [])), (21, (93, 24, [0, 3, 1], [])), (24, (15, 25, [0], [])), (25, (78, 28, [2, 1], [])), (28, (56, 29, [], [])), (29, (105, 32, [2, 1, 1], [])), (32, (93, 35, [0, 4, 2], [])), (35, (15, 36, [0], [])), (36, (78, 39, [5, 2], [])), (39, (56, 40, [], [])), (40, (104, 43, [5, 1, 2], [])), (43, (93, 46, [0, 5, 3], [])), (46, (15, 47, [0], [])), (47, (78, 50, [6, 3], [])), (50, (56, 51, [], [])), (51, (104, 54, [6, 1, 3], [])), (54, (93, 57, [0, 6, 4], [])), (57, (15, 58, [0], [])), (58, (78, 61, [7, 4], [])), (61, (56, 62, [], [])), (62, (105, 65, [7, 1, 4], [])), (65, (93, 68, [0, 7, 5], [])), (68, (15, 69, [0], [])), (69, (78, 72, [8, 5], [])), (72, (56, 73, [], [])), (73, (105, 76, [8, 1, 5], [])), (76, (93, 79, [0, 8, 6], [])), (79, (15, 80, [0], [])), (80, (78, 83, [9, 6], [])), (83, (56, 84, [], [])), (84, (104, 87, [9, 1, 6], [])), (87, (93, 90, [0, 9, 7], [])), (90, (15, 91, [0], [])), (91, (78, 94, [10, 7], [])), (94, (56, 95, [], [])), (95, (104, 98, [10, 1, 7], [])), (98, (93, 101, [0, 10, 8], [])), (101, (15, 102, [0], [])), (102, (78, 105, [11, 8], [])), (105, (56, 106, [], [])), (106, (105, 109, [11, 1, 8], [])), (109, (93, 112, [0, 11, 9], [])), (112, (112, 113, [], []))]
/-- PitInspector.<init>()V -/
noncomputable def mt_0 : MTy := (⟨"PitInspector", "<init>", "()V"⟩, prog_1_method_1_code, 1, none, 0, 60, 0, (81, 7804), 0, [27, 1, 26, 0], cd_0)
noncomputable def cd_1 : List (Nat × Ins) := [(0, (15, 1, [0], [])), (1, (95, 4, [3], [])), (4, (15, 5, [0], [])), (5, (2, 7, [], [12])), (7, (76, 9, [20], [])), (9, (93, 12, [1, 0, 120], [])), (12, (15, 13, [0], [])), (13, (2, 15, [], [12])), (15, (76, 17, [20], [])), (17, (93, 20, [1, 1, 121], [])), (20, (15, 21, [0], [])), (21, (2, 23, [], [12])), (23, (76, 25, [20], [])), (25, (93, 28, [1, 2, 122], [])), (28, (15, 29, [0], [])), (29, (2, 31, [], [12])), (31, (76, 33, [20], [])), (33, (93, 36, [1, 3, 123], [])), (36, (15, 37, [0], [])), (37, (2, 39, [], [12])), (39, (76, 41, [20], [])), (41, (93, 44, [1, 4, 124], [])), (44, (15, 45, [0], [])), (45, (2, 47, [], [12])), (47, (76, 49, [20], [])), (49, (93, 52, [1, 5, 125], [])), (52, (112, 53, [], []))]
/-- PitInspector$Pits.<init>()V -/
noncomputable def mt_1 : MTy := (⟨"PitInspector$Pits", "<init>", "()V"⟩, prog_8_method_1_code, 1, none, 1, 60, 0, (6, 72), 0, [35, 2, 34, 0], cd_1)
noncomputable def cd_2 : List (Nat × Ins) := [(0, (15, 1, [0], [])), (1, (95, 4, [3], [])), (4, (15, 5, [0], [])), (5, (2, 7, [], [12])), (7, (76, 9, [23], [])), (9, (93, 12, [2, 0, 77], [])), (12, (15, 13, [0], [])), (13, (2, 15, [], [30])), (15, (77, 18, [24, 9], [])), (18, (93, 21, [2, 2, 78], [])), (21, (15, 22, [0], [])), (22, (78, 25, [3, 9], [])), (25, (56, 26, [], [])), (26, (105, 29, [3, 1, 116], [])), (29, (93, 32, [2, 3, 79], [])), (32, (15, 33, [0], [])), (33, (78, 36, [4, 10], [])), (36, (56, 37, [], [])), (37, (105, 40, [4, 1, 117], [])), (40, (93, 43, [2, 4, 80], [])), (43, (15, 44, [0], [])), (44, (2, 46, [], [32])), (46, (76, 48, [23], [])), (48, (93, 51, [2, 6, 81], [])), (51, (15, 52, [0], [])), (52, (3, 55, [], [360])), (55, (76, 57, [20], [])), (57, (93, 60, [2, 7, 82], [])), (60, (112, 61, [], []))]
/-- PitInspector$Laws.<init>()V -/
noncomputable def mt_2 : MTy := (⟨"PitInspector$Laws", "<init>", "()V"⟩, prog_5_method_1_code, 1, none, 2, 60, 0, (15, 859), 0, [75, 3, 74, 0], cd_2)
noncomputable def cd_3 : List (Nat × Ins) := [(0, (15, 1, [0], [])), (1, (95, 4, [3], [])), (4, (15, 5, [0], [])), (5, (3, 8, [], [160])), (8, (76, 10, [21], [])), (10, (93, 13, [3, 4, 158], [])), (13, (15, 14, [0], [])), (14, (2, 16, [], [12])), (16, (76, 18, [20], [])), (18, (93, 21, [3, 6, 159], [])), (21, (15, 22, [0], [])), (22, (2, 24, [], [12])), (24, (76, 26, [20], [])), (26, (93, 29, [3, 7, 160], [])), (29, (15, 30, [0], [])), (30, (2, 32, [], [12])), (32, (76, 34, [20], [])), (34, (93, 37, [3, 8, 161], [])), (37, (15, 38, [0], [])), (38, (2, 40, [], [12])), (40, (76, 42, [20], [])), (42, (93, 45, [3, 9, 162], [])), (45, (15, 46, [0], [])), (46, (2, 48, [], [12])), (48, (76, 50, [20], [])), (50, (93, 53, [3, 10, 163], [])), (53, (15, 54, [0], [])), (54, (2, 56, [], [12])), (56, (76, 58, [20], [])), (58, (93, 61, [3, 11, 164], [])), (61, (15, 62, [0], [])), (62, (2, 64, [], [12])), (64, (76, 66, [20], [])), (66, (93, 69, [3, 12, 165], [])), (69, (15, 70, [0], [])), (70, (3, 73, [], [160])), (73, (76, 75, [20], [])), (75, (93, 78, [3, 14, 166], [])), (78, (112, 79, [], []))]
/-- PitInspector$Text.<init>()V -/
noncomputable def mt_3 : MTy := (⟨"PitInspector$Text", "<init>", "()V"⟩, prog_11_method_1_code, 1, none, 3, 60, 0, (9, 404), 0, [82, 4, 81, 0], cd_3)
noncomputable def cd_4 : List (Nat × Ins) := [(0, (15, 1, [0], [])), (1, (95, 4, [3], [])), (4, (112, 5, [], []))]
/-- PitInspector$Reader.<init>()V -/
noncomputable def mt_4 : MTy := (⟨"PitInspector$Reader", "<init>", "()V"⟩, prog_9_method_1_code, 1, none, 4, 60, 0, (0, 0), 0, [166, 5, 165, 0], cd_4)
noncomputable def cd_5 : List (Nat × Ins) := [(0, (15, 1, [0], [])), (1, (95, 4, [3], [])), (4, (15, 5, [0], [])), (5, (3, 8, [], [150])), (8, (76, 10, [20], [])), (10, (93, 13, [5, 2, 105], [])), (13, (15, 14, [0], [])), (14, (3, 17, [], [300])), (17, (76, 19, [20], [])), (19, (93, 22, [5, 3, 106], [])), (22, (15, 23, [0], [])), (23, (3, 26, [], [300])), (26, (76, 28, [20], [])), (28, (93, 31, [5, 4, 107], [])), (31, (15, 32, [0], [])), (32, (2, 34, [], [81])), (34, (76, 36, [20], [])), (36, (93, 39, [5, 5, 108], [])), (39, (15, 40, [0], [])), (40, (2, 42, [], [80])), (42, (76, 44, [20], [])), (44, (93, 47, [5, 6, 109], [])), (47, (15, 48, [0], [])), (48, (2, 50, [], [80])), (50, (76, 52, [20], [])), (52, (93, 55, [5, 7, 110], [])), (55, (15, 56, [0], [])), (56, (3, 59, [], [150])), (59, (76, 61, [20], [])), (61, (93, 64, [5, 9, 111], [])), (64, (15, 65, [0], [])), (65, (2, 67, [], [80])), (67, (76, 69, [20], [])), (69, (93, 72, [5, 10, 112], [])), (72, (15, 73, [0], [])), (73, (2, 75, [], [12])), (75, (76, 77, [20], [])), (77, (93, 80, [5, 11, 113], [])), (80, (15, 81, [0], [])), (81, (3, 84, [], [150])), (84, (76, 86, [20], [])), (86, (93, 89, [5, 12, 114], [])), (89, (15, 90, [0], [])), (90, (2, 92, [], [80])), (92, (76, 94, [20], [])), (94, (93, 97, [5, 13, 115], [])), (97, (15, 98, [0], [])), (98, (2, 100, [], [12])), (100, (76, 102, [20], [])), (102, (93, 105, [5, 14, 116], [])), (105, (15, 106, [0], [])), (106, (91, 109, [5, 11, 113], [])), (109, (1, 110, [], [-1])), (110, (102, 113, [344, 2, 141], [])), (113, (15, 114, [0], [])), (114, (91, 117, [5, 14, 116], [])), (117, (2, 119, [], [-2])), (119, (102, 122, [344, 2, 141], [])), (122, (112, 123, [], []))]
/-- PitInspector$Net.<init>()V -/
noncomputable def mt_5 : MTy := (⟨"PitInspector$Net", "<init>", "()V"⟩, prog_7_method_1_code, 1, none, 5, 60, 0, (12, 1475), 0, [215, 6, 214, 0], cd_5)
noncomputable def cd_6 : List (Nat × Ins) := [(0, (15, 1, [0], [])), (1, (95, 4, [3], [])), (4, (15, 5, [0], [])), (5, (2, 7, [], [12])), (7, (76, 9, [20], [])), (9, (93, 12, [6, 0, 40], [])), (12, (15, 13, [0], [])), (13, (2, 15, [], [12])), (15, (76, 17, [20], [])), (17, (93, 20, [6, 1, 41], [])), (20, (15, 21, [0], [])), (21, (2, 23, [], [12])), (23, (76, 25, [20], [])), (25, (93, 28, [6, 2, 42], [])), (28, (15, 29, [0], [])), (29, (3, 32, [], [150])), (32, (76, 34, [20], [])), (34, (93, 37, [6, 3, 43], [])), (37, (15, 38, [0], [])), (38, (2, 40, [], [80])), (40, (76, 42, [20], [])), (42, (93, 45, [6, 4, 44], [])), (45, (15, 46, [0], [])), (46, (2, 48, [], [12])), (48, (76, 50, [20], [])), (50, (93, 53, [6, 5, 45], [])), (53, (15, 54, [0], [])), (54, (91, 57, [6, 0, 40], [])), (57, (1, 58, [], [-1])), (58, (102, 61, [344, 2, 93], [])), (61, (15, 62, [0], [])), (62, (91, 65, [6, 5, 45], [])), (65, (2, 67, [], [-2])), (67, (102, 70, [344, 2, 93], [])), (70, (112, 71, [], []))]
/-- PitInspector$Air.<init>()V -/
noncomputable def mt_6 : MTy := (⟨"PitInspector$Air", "<init>", "()V"⟩, prog_2_method_1_code, 1, none, 6, 60, 0, (6, 278), 0, [281, 8, 280, 0], cd_6)
noncomputable def cd_7 : List (Nat × Ins) := [(0, (15, 1, [0], [])), (1, (95, 4, [5], [])), (4, (15, 5, [0], [])), (5, (2, 7, [], [15])), (7, (76, 9, [20], [])), (9, (93, 12, [7, 4, 145], [])), (12, (15, 13, [0], [])), (13, (2, 15, [], [15])), (15, (76, 17, [20], [])), (17, (93, 20, [7, 5, 146], [])), (20, (15, 21, [0], [])), (21, (2, 23, [], [15])), (23, (76, 25, [20], [])), (25, (93, 28, [7, 6, 147], [])), (28, (15, 29, [0], [])), (29, (2, 31, [], [15])), (31, (76, 33, [20], [])), (33, (93, 36, [7, 7, 148], [])), (36, (15, 37, [0], [])), (37, (2, 39, [], [120])), (39, (76, 41, [20], [])), (41, (93, 44, [7, 8, 149], [])), (44, (15, 45, [0], [])), (45, (2, 47, [], [120])), (47, (76, 49, [20], [])), (49, (93, 52, [7, 9, 150], [])), (52, (15, 53, [0], [])), (53, (2, 55, [], [120])), (55, (76, 57, [20], [])), (57, (93, 60, [7, 10, 151], [])), (60, (15, 61, [0], [])), (61, (2, 63, [], [30])), (63, (76, 65, [20], [])), (65, (93, 68, [7, 11, 152], [])), (68, (15, 69, [0], [])), (69, (2, 71, [], [30])), (71, (76, 73, [20], [])), (73, (93, 76, [7, 12, 153], [])), (76, (112, 77, [], []))]
/-- PitInspector$Survey.<init>()V -/
noncomputable def mt_7 : MTy := (⟨"PitInspector$Survey", "<init>", "()V"⟩, prog_10_method_1_code, 1, none, 7, 60, 0, (9, 480), 0, [307, 9, 306, 0], cd_7)
noncomputable def cd_8 : List (Nat × Ins) := [(0, (15, 1, [0], [])), (1, (95, 4, [3], [])), (4, (15, 5, [0], [])), (5, (2, 7, [], [40])), (7, (76, 9, [20], [])), (9, (93, 12, [8, 1, 54], [])), (12, (15, 13, [0], [])), (13, (2, 15, [], [40])), (15, (76, 17, [20], [])), (17, (93, 20, [8, 2, 55], [])), (20, (15, 21, [0], [])), (21, (2, 23, [], [40])), (23, (76, 25, [20], [])), (25, (93, 28, [8, 3, 56], [])), (28, (15, 29, [0], [])), (29, (2, 31, [], [60])), (31, (76, 33, [20], [])), (33, (93, 36, [8, 5, 57], [])), (36, (15, 37, [0], [])), (37, (2, 39, [], [60])), (39, (76, 41, [22], [])), (41, (93, 44, [8, 6, 58], [])), (44, (15, 45, [0], [])), (45, (3, 48, [], [300])), (48, (76, 50, [20], [])), (50, (93, 53, [8, 8, 59], [])), (53, (15, 54, [0], [])), (54, (3, 57, [], [300])), (57, (76, 59, [20], [])), (59, (93, 62, [8, 9, 60], [])), (62, (15, 63, [0], [])), (63, (3, 66, [], [300])), (66, (76, 68, [20], [])), (68, (93, 71, [8, 10, 61], [])), (71, (15, 72, [0], [])), (72, (2, 74, [], [12])), (74, (76, 76, [20], [])), (76, (93, 79, [8, 11, 62], [])), (79, (15, 80, [0], [])), (80, (2, 82, [], [12])), (82, (76, 84, [20], [])), (84, (93, 87, [8, 12, 63], [])), (87, (15, 88, [0], [])), (88, (3, 91, [], [300])), (91, (76, 93, [20], [])), (93, (93, 96, [8, 14, 64], [])), (96, (15, 97, [0], [])), (97, (3, 100, [], [300])), (100, (76, 102, [20], [])), (102, (93, 105, [8, 15, 65], [])), (105, (112, 106, [], []))]
/-- PitInspector$Crew.<init>()V -/
noncomputable def mt_8 : MTy := (⟨"PitInspector$Crew", "<init>", "()V"⟩, prog_3_method_1_code, 1, none, 8, 60, 0, (12, 1764), 0, [357, 10, 356, 0], cd_8)
noncomputable def cd_9 : List (Nat × Ins) := [(0, (15, 1, [0], [])), (1, (95, 4, [3], [])), (4, (15, 5, [0], [])), (5, (2, 7, [], [60])), (7, (76, 9, [20], [])), (9, (93, 12, [9, 1, 175], [])), (12, (15, 13, [0], [])), (13, (3, 16, [], [2400])), (16, (76, 18, [20], [])), (18, (93, 21, [9, 2, 176], [])), (21, (15, 22, [0], [])), (22, (2, 24, [], [60])), (24, (76, 26, [23], [])), (26, (93, 29, [9, 3, 177], [])), (29, (15, 30, [0], [])), (30, (91, 33, [9, 2, 176], [])), (33, (1, 34, [], [-1])), (34, (102, 37, [344, 2, 186], [])), (37, (112, 38, [], []))]
/-- PitInspector$Warnings.<init>()V -/
noncomputable def mt_9 : MTy := (⟨"PitInspector$Warnings", "<init>", "()V"⟩, prog_12_method_1_code, 1, none, 9, 60, 0, (3, 2520), 0, [422, 11, 421, 0], cd_9)
noncomputable def cd_10 : List (Nat × Ins) := [(0, (15, 1, [0], [])), (1, (95, 4, [3], [])), (4, (15, 5, [0], [])), (5, (2, 7, [], [12])), (7, (76, 9, [20], [])), (9, (93, 12, [10, 1, 98], [])), (12, (15, 13, [0], [])), (13, (1, 14, [], [1])), (14, (92, 17, [10, 2, 99], [])), (17, (15, 18, [0], [])), (18, (2, 20, [], [12])), (20, (76, 22, [20], [])), (22, (93, 25, [10, 3, 100], [])), (25, (15, 26, [0], [])), (26, (2, 28, [], [12])), (28, (76, 30, [20], [])), (30, (93, 33, [10, 4, 101], [])), (33, (15, 34, [0], [])), (34, (2, 36, [], [12])), (36, (76, 38, [20], [])), (38, (93, 41, [10, 5, 102], [])), (41, (15, 42, [0], [])), (42, (91, 45, [10, 5, 102], [])), (45, (1, 46, [], [-1])), (46, (102, 49, [344, 2, 135], [])), (49, (112, 50, [], []))]
/-- PitInspector$Looks.<init>()V -/
noncomputable def mt_10 : MTy := (⟨"PitInspector$Looks", "<init>", "()V"⟩, prog_6_method_1_code, 1, none, 10, 60, 0, (4, 48), 0, [444, 12, 443, 0], cd_10)
noncomputable def cd_11 : List (Nat × Ins) := [(0, (15, 1, [0], [])), (1, (95, 4, [3], [])), (4, (15, 5, [0], [])), (5, (2, 7, [], [16])), (7, (76, 9, [20], [])), (9, (93, 12, [11, 1, 70], [])), (12, (15, 13, [0], [])), (13, (2, 15, [], [16])), (15, (76, 17, [20], [])), (17, (93, 20, [11, 2, 71], [])), (20, (15, 21, [0], [])), (21, (2, 23, [], [16])), (23, (76, 25, [20], [])), (25, (93, 28, [11, 3, 72], [])), (28, (15, 29, [0], [])), (29, (2, 31, [], [16])), (31, (76, 33, [20], [])), (33, (93, 36, [11, 4, 73], [])), (36, (15, 37, [0], [])), (37, (1, 38, [], [5])), (38, (92, 41, [11, 5, 74], [])), (41, (112, 42, [], []))]
/-- PitInspector$Inquest.<init>()V -/
noncomputable def mt_11 : MTy := (⟨"PitInspector$Inquest", "<init>", "()V"⟩, prog_4_method_1_code, 1, none, 11, 60, 0, (4, 64), 0, [475, 13, 474, 0], cd_11)
noncomputable def cd_12 : List (Nat × Ins) := [(0, (11, 1, [1], [])), (1, (15, 2, [0], [])), (2, (90, 5, [0, 0, 10], [])), (5, (4, 7, [0], [5000000])), (7, (102, 10, [13, 3, 9], [])), (10, (61, 13, [15], [])), (13, (1, 14, [], [0])), (14, (110, 15, [], [])), (15, (15, 16, [0], [])), (16, (11, 17, [1], [])), (17, (92, 20, [0, 0, 10], [])), (20, (1, 21, [], [1])), (21, (110, 22, [], []))]
/-- PitInspector.now(I)Z -/
noncomputable def mt_12 : MTy := (⟨"PitInspector", "now", "(I)Z"⟩, prog_1_method_2_code, 2, some .boolean, 0, 0, 2, (0, 0), 1, [537, 1, 535, 649], cd_12)
noncomputable def cd_13 : List (Nat × Ins) := [(0, (11, 1, [0], [])), (1, (11, 2, [1], [])), (2, (68, 5, [14], [])), (5, (11, 6, [0], [])), (6, (11, 7, [2], [])), (7, (70, 10, [14], [])), (10, (1, 11, [], [1])), (11, (73, 14, [15], [])), (14, (1, 15, [], [0])), (15, (110, 16, [], []))]
/-- PitInspector.inside(III)Z -/
noncomputable def mt_13 : MTy := (⟨"PitInspector", "inside", "(III)Z"⟩, prog_1_method_58_code, 3, some .boolean, 0, 50, 2, (0, 0), 3, [541, 1, 540, 0], cd_13)
noncomputable def cd_14 : List (Nat × Ins) := [(0, (15, 1, [0], [])), (1, (91, 4, [0, 3, 1], [])), (4, (11, 5, [1], [])), (5, (11, 6, [2], [])), (6, (11, 7, [3], [])), (7, (10, 9, [4], [])), (9, (100, 12, [15, 5, 10], [])), (12, (110, 13, [], []))]
/-- PitInspector.pit(IIII)I -/
noncomputable def mt_14 : MTy := (⟨"PitInspector", "pit", "(IIII)I"⟩, prog_1_method_3_code, 5, some .int, 0, 0, 1, (0, 0), 4, [545, 1, 543, 657], cd_14)
noncomputable def cd_15 : List (Nat × Ins) := [(0, (15, 1, [0], [])), (1, (90, 4, [1, 6, 126], [])), (4, (2, 6, [], [12])), (6, (69, 9, [30], [])), (9, (11, 10, [1], [])), (10, (1, 11, [], [0])), (11, (2, 13, [], [7])), (13, (103, 16, [13, 3, 153], [])), (16, (60, 19, [30], [])), (19, (11, 20, [2], [])), (20, (1, 21, [], [0])), (21, (3, 24, [], [2000])), (24, (103, 27, [13, 3, 153], [])), (27, (61, 30, [32], [])), (30, (1, 31, [], [-1])), (31, (110, 32, [], [])), (32, (11, 33, [3], [])), (33, (1, 34, [], [0])), (34, (2, 36, [], [100])), (36, (103, 39, [13, 3, 153], [])), (39, (60, 42, [54], [])), (42, (10, 44, [4], [])), (44, (1, 45, [], [0])), (45, (3, 48, [], [2000])), (48, (103, 51, [13, 3, 153], [])), (51, (61, 54, [56], [])), (54, (1, 55, [], [-1])), (55, (110, 56, [], [])), (56, (15, 57, [0], [])), (57, (91, 60, [1, 0, 120], [])), (60, (15, 61, [0], [])), (61, (90, 64, [1, 6, 126], [])), (64, (11, 65, [1], [])), (65, (84, 66, [], [])), (66, (15, 67, [0], [])), (67, (91, 70, [1, 1, 121], [])), (70, (15, 71, [0], [])), (71, (90, 74, [1, 6, 126], [])), (74, (11, 75, [2], [])), (75, (84, 76, [], [])), (76, (15, 77, [0], [])), (77, (91, 80, [1, 2, 122], [])), (80, (15, 81, [0], [])), (81, (90, 84, [1, 6, 126], [])), (84, (11, 85, [3], [])), (85, (84, 86, [], [])), (86, (15, 87, [0], [])), (87, (91, 90, [1, 3, 123], [])), (90, (15, 91, [0], [])), (91, (90, 94, [1, 6, 126], [])), (94, (10, 96, [4], [])), (96, (84, 97, [], [])), (97, (15, 98, [0], [])), (98, (56, 99, [], [])), (99, (90, 102, [1, 6, 126], [])), (102, (1, 103, [], [1])), (103, (30, 104, [], [])), (104, (92, 107, [1, 6, 126], [])), (107, (15, 108, [0], [])), (108, (90, 111, [1, 6, 126], [])), (111, (1, 112, [], [1])), (112, (31, 113, [], [])), (113, (110, 114, [], []))]
/-- PitInspector$Pits.sink(IIII)I -/
noncomputable def mt_15 : MTy := (⟨"PitInspector$Pits", "sink", "(IIII)I"⟩, prog_8_method_3_code, 5, some .int, 1, 1, 1, (0, 0), 4, [549, 2, 547, 661], cd_15)
noncomputable def cd_16 : List (Nat × Ins) := [(0, (15, 1, [0], [])), (1, (91, 4, [0, 3, 1], [])), (4, (11, 5, [1], [])), (5, (11, 6, [2], [])), (6, (11, 7, [3], [])), (7, (100, 10, [17, 4, 11], [])), (10, (110, 11, [], []))]
/-- PitInspector.told(III)Z -/
noncomputable def mt_16 : MTy := (⟨"PitInspector", "told", "(III)Z"⟩, prog_1_method_4_code, 4, some .boolean, 0, 0, 2, (0, 0), 3, [554, 1, 552, 666], cd_16)
noncomputable def cd_17 : List (Nat × Ins) := [(0, (15, 1, [0], [])), (1, (11, 2, [1], [])), (2, (100, 5, [18, 2, 154], [])), (5, (61, 8, [10], [])), (8, (1, 9, [], [0])), (9, (110, 10, [], [])), (10, (11, 11, [2], [])), (11, (61, 14, [33], [])), (14, (11, 15, [3], [])), (15, (1, 16, [], [0])), (16, (2, 18, [], [100])), (18, (103, 21, [13, 3, 153], [])), (21, (60, 24, [33], [])), (24, (15, 25, [0], [])), (25, (91, 28, [1, 2, 122], [])), (28, (11, 29, [1], [])), (29, (11, 30, [3], [])), (30, (84, 31, [], [])), (31, (1, 32, [], [1])), (32, (110, 33, [], [])), (33, (11, 34, [2], [])), (34, (1, 35, [], [1])), (35, (67, 38, [58], [])), (38, (11, 39, [3], [])), (39, (1, 40, [], [0])), (40, (3, 43, [], [2000])), (43, (103, 46, [13, 3, 153], [])), (46, (60, 49, [58], [])), (49, (15, 50, [0], [])), (50, (91, 53, [1, 3, 123], [])), (53, (11, 54, [1], [])), (54, (11, 55, [3], [])), (55, (84, 56, [], [])), (56, (1, 57, [], [1])), (57, (110, 58, [], [])), (58, (1, 59, [], [0])), (59, (110, 60, [], []))]
/-- PitInspector$Pits.change(III)Z -/
noncomputable def mt_17 : MTy := (⟨"PitInspector$Pits", "change", "(III)Z"⟩, prog_8_method_4_code, 4, some .boolean, 1, 1, 2, (0, 0), 3, [558, 2, 556, 670], cd_17)
noncomputable def cd_18 : List (Nat × Ins) := [(0, (11, 1, [1], [])), (1, (62, 4, [16], [])), (4, (11, 5, [1], [])), (5, (15, 6, [0], [])), (6, (90, 9, [1, 6, 126], [])), (9, (69, 12, [16], [])), (12, (1, 13, [], [1])), (13, (73, 16, [17], [])), (16, (1, 17, [], [0])), (17, (110, 18, [], []))]
/-- PitInspector$Pits.exists(I)Z -/
noncomputable def mt_18 : MTy := (⟨"PitInspector$Pits", "exists", "(I)Z"⟩, prog_8_method_2_code, 2, some .boolean, 1, 1, 2, (0, 0), 1, [562, 2, 560, 674], cd_18)
noncomputable def cd_19 : List (Nat × Ins) := [(0, (15, 1, [0], [])), (1, (91, 4, [0, 3, 1], [])), (4, (11, 5, [1], [])), (5, (100, 8, [18, 2, 12], [])), (8, (60, 11, [23], [])), (11, (15, 12, [0], [])), (12, (91, 15, [0, 8, 6], [])), (15, (11, 16, [1], [])), (16, (11, 17, [2], [])), (17, (100, 20, [20, 3, 13], [])), (20, (73, 23, [24], [])), (23, (1, 24, [], [-1])), (24, (110, 25, [], []))]
/-- PitInspector.hand(II)I -/
noncomputable def mt_19 : MTy := (⟨"PitInspector", "hand", "(II)I"⟩, prog_1_method_5_code, 3, some .int, 0, 0, 1, (0, 0), 2, [566, 1, 564, 678], cd_19)
noncomputable def cd_20 : List (Nat × Ins) := [(0, (15, 1, [0], [])), (1, (90, 4, [8, 0, 66], [])), (4, (2, 6, [], [40])), (6, (69, 9, [18], [])), (9, (11, 10, [2], [])), (10, (1, 11, [], [0])), (11, (1, 12, [], [4])), (12, (103, 15, [13, 3, 108], [])), (15, (61, 18, [20], [])), (18, (1, 19, [], [-1])), (19, (110, 20, [], [])), (20, (15, 21, [0], [])), (21, (91, 24, [8, 1, 54], [])), (24, (15, 25, [0], [])), (25, (90, 28, [8, 0, 66], [])), (28, (11, 29, [1], [])), (29, (84, 30, [], [])), (30, (15, 31, [0], [])), (31, (91, 34, [8, 2, 55], [])), (34, (15, 35, [0], [])), (35, (90, 38, [8, 0, 66], [])), (38, (11, 39, [2], [])), (39, (84, 40, [], [])), (40, (15, 41, [0], [])), (41, (91, 44, [8, 3, 56], [])), (44, (15, 45, [0], [])), (45, (90, 48, [8, 0, 66], [])), (48, (1, 49, [], [-1])), (49, (84, 50, [], [])), (50, (15, 51, [0], [])), (51, (56, 52, [], [])), (52, (90, 55, [8, 0, 66], [])), (55, (1, 56, [], [1])), (56, (30, 57, [], [])), (57, (92, 60, [8, 0, 66], [])), (60, (15, 61, [0], [])), (61, (90, 64, [8, 0, 66], [])), (64, (1, 65, [], [1])), (65, (31, 66, [], [])), (66, (110, 67, [], []))]
/-- PitInspector$Crew.hire(II)I -/
noncomputable def mt_20 : MTy := (⟨"PitInspector$Crew", "hire", "(II)I"⟩, prog_3_method_5_code, 3, some .int, 8, 8, 1, (0, 0), 2, [571, 10, 569, 683], cd_20)
noncomputable def cd_21 : List (Nat × Ins) := [(0, (15, 1, [0], [])), (1, (90, 4, [0, 2, 11], [])), (4, (2, 6, [], [20])), (6, (30, 7, [], [])), (7, (3, 10, [], [160])), (10, (71, 13, [15], [])), (13, (1, 14, [], [-1])), (14, (110, 15, [], [])), (15, (15, 16, [0], [])), (16, (11, 17, [1], [])), (17, (100, 20, [22, 2, 14], [])), (20, (15, 21, [0], [])), (21, (11, 22, [2], [])), (22, (100, 25, [22, 2, 14], [])), (25, (15, 26, [0], [])), (26, (11, 27, [3], [])), (27, (100, 30, [22, 2, 14], [])), (30, (15, 31, [0], [])), (31, (10, 33, [4], [])), (33, (100, 36, [22, 2, 14], [])), (36, (15, 37, [0], [])), (37, (10, 39, [5], [])), (39, (100, 42, [22, 2, 14], [])), (42, (15, 43, [0], [])), (43, (90, 46, [0, 2, 11], [])), (46, (110, 47, [], []))]
/-- PitInspector.feed(IIIII)I -/
noncomputable def mt_21 : MTy := (⟨"PitInspector", "feed", "(IIIII)I"⟩, prog_1_method_6_code, 6, some .int, 0, 0, 1, (0, 0), 5, [576, 1, 574, 688], cd_21)
noncomputable def cd_22 : List (Nat × Ins) := [(0, (2, 2, [], [24])), (2, (17, 3, [2], [])), (3, (11, 4, [2], [])), (4, (62, 7, [48], [])), (7, (15, 8, [0], [])), (8, (90, 11, [0, 2, 11], [])), (11, (15, 12, [0], [])), (12, (91, 15, [0, 1, 0], [])), (15, (88, 16, [], [])), (16, (69, 19, [48], [])), (19, (15, 20, [0], [])), (20, (91, 23, [0, 1, 0], [])), (23, (15, 24, [0], [])), (24, (90, 27, [0, 2, 11], [])), (27, (11, 28, [1], [])), (28, (11, 29, [2], [])), (29, (37, 30, [], [])), (30, (44, 31, [], [])), (31, (85, 32, [], [])), (32, (15, 33, [0], [])), (33, (56, 34, [], [])), (34, (90, 37, [0, 2, 11], [])), (37, (1, 38, [], [1])), (38, (30, 39, [], [])), (39, (92, 42, [0, 2, 11], [])), (42, (22, 45, [2], [-8])), (45, (73, 48, [3], [])), (48, (112, 49, [], []))]
/-- PitInspector.feedFour(I)V -/
noncomputable def mt_22 : MTy := (⟨"PitInspector", "feedFour", "(I)V"⟩, prog_1_method_60_code, 3, none, 0, 0, 0, (0, 0), 1, [580, 1, 579, 0], cd_22)
noncomputable def cd_23 : List (Nat × Ins) := [(0, (11, 1, [1], [])), (1, (1, 2, [], [-1])), (2, (66, 5, [18], [])), (5, (15, 6, [0], [])), (6, (91, 9, [0, 3, 1], [])), (9, (11, 10, [1], [])), (10, (100, 13, [18, 2, 12], [])), (13, (61, 16, [18], [])), (16, (1, 17, [], [-1])), (17, (110, 18, [], [])), (18, (11, 19, [2], [])), (19, (1, 20, [], [0])), (20, (3, 23, [], [3472])), (23, (102, 26, [13, 3, 9], [])), (26, (60, 29, [40], [])), (29, (11, 30, [3], [])), (30, (11, 31, [2], [])), (31, (3, 34, [], [3472])), (34, (102, 37, [13, 3, 9], [])), (37, (61, 40, [42], [])), (40, (1, 41, [], [-1])), (41, (110, 42, [], [])), (42, (10, 44, [4], [])), (44, (1, 45, [], [1])), (45, (15, 46, [0], [])), (46, (90, 49, [0, 2, 11], [])), (49, (102, 52, [13, 3, 9], [])), (52, (60, 55, [65], [])), (55, (15, 56, [0], [])), (56, (91, 59, [0, 4, 2], [])), (59, (100, 62, [24, 1, 15], [])), (62, (60, 65, [67], [])), (65, (1, 66, [], [-1])), (66, (110, 67, [], [])), (67, (15, 68, [0], [])), (68, (1, 69, [], [0])), (69, (92, 72, [0, 2, 11], [])), (72, (15, 73, [0], [])), (73, (91, 76, [0, 4, 2], [])), (76, (15, 77, [0], [])), (77, (91, 80, [0, 1, 0], [])), (80, (10, 82, [4], [])), (82, (11, 83, [1], [])), (83, (11, 84, [2], [])), (84, (11, 85, [3], [])), (85, (100, 88, [25, 6, 16], [])), (88, (110, 89, [], []))]
/-- PitInspector.text(IIII)I -/
noncomputable def mt_23 : MTy := (⟨"PitInspector", "text", "(IIII)I"⟩, prog_1_method_7_code, 5, some .int, 0, 0, 1, (10, 421), 4, [584, 1, 582, 696], cd_23)
noncomputable def cd_24 : List (Nat × Ins) := [(0, (15, 1, [0], [])), (1, (90, 4, [2, 1, 83], [])), (4, (2, 6, [], [30])), (6, (68, 9, [13], [])), (9, (1, 10, [], [1])), (10, (73, 13, [14], [])), (13, (1, 14, [], [0])), (14, (110, 15, [], []))]
/-- PitInspector$Laws.areFull()Z -/
noncomputable def mt_24 : MTy := (⟨"PitInspector$Laws", "areFull", "()Z"⟩, prog_5_method_3_code, 1, some .boolean, 2, 2, 2, (0, 0), 0, [588, 3, 586, 700], cd_24)
noncomputable def cd_25 : List (Nat × Ins) := [(0, (15, 1, [0], [])), (1, (100, 4, [24, 1, 119], [])), (4, (60, 7, [9], [])), (7, (1, 8, [], [-1])), (8, (110, 9, [], [])), (9, (15, 10, [0], [])), (10, (91, 13, [2, 3, 79], [])), (13, (15, 14, [1], [])), (14, (11, 15, [2], [])), (15, (100, 18, [26, 3, 120], [])), (18, (15, 19, [0], [])), (19, (91, 22, [2, 4, 80], [])), (22, (15, 23, [0], [])), (23, (91, 26, [2, 3, 79], [])), (26, (100, 29, [27, 2, 121], [])), (29, (16, 31, [6], [])), (31, (10, 33, [6], [])), (33, (60, 36, [39], [])), (36, (10, 38, [6], [])), (38, (110, 39, [], [])), (39, (15, 40, [0], [])), (40, (91, 43, [2, 3, 79], [])), (43, (11, 44, [3], [])), (44, (92, 47, [3, 0, 84], [])), (47, (15, 48, [0], [])), (48, (91, 51, [2, 3, 79], [])), (51, (10, 53, [4], [])), (53, (92, 56, [3, 1, 87], [])), (56, (15, 57, [0], [])), (57, (91, 60, [2, 3, 79], [])), (60, (10, 62, [5], [])), (62, (92, 65, [3, 2, 88], [])), (65, (15, 66, [0], [])), (66, (56, 67, [], [])), (67, (90, 70, [2, 5, 86], [])), (70, (15, 71, [0], [])), (71, (91, 74, [2, 3, 79], [])), (74, (90, 77, [3, 16, 89], [])), (77, (40, 78, [], [])), (78, (92, 81, [2, 5, 86], [])), (81, (15, 82, [0], [])), (82, (91, 85, [2, 2, 78], [])), (85, (15, 86, [0], [])), (86, (90, 89, [2, 1, 83], [])), (89, (15, 90, [0], [])), (90, (91, 93, [2, 3, 79], [])), (93, (87, 94, [24, 3], [])), (94, (15, 95, [0], [])), (95, (78, 98, [3, 9], [])), (98, (56, 99, [], [])), (99, (105, 102, [3, 1, 116], [])), (102, (93, 105, [2, 3, 79], [])), (105, (15, 106, [0], [])), (106, (56, 107, [], [])), (107, (90, 110, [2, 1, 83], [])), (110, (1, 111, [], [1])), (111, (30, 112, [], [])), (112, (92, 115, [2, 1, 83], [])), (115, (15, 116, [0], [])), (116, (90, 119, [2, 1, 83], [])), (119, (1, 120, [], [1])), (120, (31, 121, [], [])), (121, (110, 122, [], []))]
/-- PitInspector$Laws.enact([BIIII)I -/
noncomputable def mt_25 : MTy := (⟨"PitInspector$Laws", "enact", "([BIIII)I"⟩, prog_5_method_7_code, 7, some .int, 2, 2, 1, (10, 421), 5, [592, 3, 590, 704], cd_25)
noncomputable def cd_26 : List (Nat × Ins) := [(0, (15, 1, [0], [])), (1, (11, 2, [2], [])), (2, (15, 3, [1], [])), (3, (88, 4, [], [])), (4, (3, 7, [], [160])), (7, (89, 10, [40], [])), (10, (89, 13, [40], [])), (13, (92, 16, [3, 3, 167], [])), (16, (15, 17, [1], [])), (17, (1, 18, [], [0])), (18, (15, 19, [0], [])), (19, (91, 22, [3, 4, 158], [])), (22, (1, 23, [], [0])), (23, (15, 24, [0], [])), (24, (90, 27, [3, 3, 167], [])), (27, (96, 30, [50], [])), (30, (15, 31, [0], [])), (31, (1, 32, [], [0])), (32, (92, 35, [3, 5, 168], [])), (35, (15, 36, [0], [])), (36, (1, 37, [], [0])), (37, (92, 40, [3, 15, 169], [])), (40, (15, 41, [0], [])), (41, (1, 42, [], [0])), (42, (92, 45, [3, 16, 170], [])), (45, (112, 46, [], []))]
/-- PitInspector$Text.begin([BI)V -/
noncomputable def mt_26 : MTy := (⟨"PitInspector$Text", "begin", "([BI)V"⟩, prog_11_method_2_code, 3, none, 3, 3, 0, (0, 0), 2, [597, 4, 595, 709], cd_26)
noncomputable def cd_27 : List (Nat × Ins) := [(0, (15, 1, [0], [])), (1, (15, 2, [1], [])), (2, (93, 5, [4, 0, 128], [])), (5, (15, 6, [0], [])), (6, (1, 7, [], [0])), (7, (92, 10, [4, 1, 129], [])), (10, (15, 11, [0], [])), (11, (1, 12, [], [0])), (12, (92, 15, [4, 3, 130], [])), (15, (1, 16, [], [0])), (16, (17, 17, [2], [])), (17, (11, 18, [2], [])), (18, (2, 20, [], [12])), (20, (70, 23, [59], [])), (23, (15, 24, [0], [])), (24, (11, 25, [2], [])), (25, (100, 28, [28, 2, 155], [])), (28, (60, 31, [48], [])), (31, (15, 32, [0], [])), (32, (100, 35, [29, 1, 156], [])), (35, (1, 36, [], [-1])), (36, (66, 39, [48], [])), (39, (15, 40, [0], [])), (40, (2, 42, [], [59])), (42, (100, 45, [35, 2, 157], [])), (45, (61, 48, [53], [])), (48, (15, 49, [0], [])), (49, (90, 52, [4, 3, 130], [])), (52, (110, 53, [], [])), (53, (22, 56, [2], [1])), (56, (73, 59, [17], [])), (59, (15, 60, [0], [])), (60, (90, 63, [4, 3, 130], [])), (63, (110, 64, [], []))]
/-- PitInspector$Reader.read(LPitInspector$Text;)I -/
noncomputable def mt_27 : MTy := (⟨"PitInspector$Reader", "read", "(LPitInspector$Text;)I"⟩, prog_9_method_2_code, 3, some .int, 4, 4, 1, (0, 0), 1, [607, 5, 605, 719], cd_27)
noncomputable def cd_28 : List (Nat × Ins) := [(0, (15, 1, [0], [])), (1, (100, 4, [29, 1, 156], [])), (4, (17, 5, [2], [])), (5, (11, 6, [2], [])), (6, (2, 8, [], [100])), (8, (66, 11, [45], [])), (11, (11, 12, [2], [])), (12, (2, 14, [], [110])), (14, (66, 17, [45], [])), (17, (11, 18, [2], [])), (18, (2, 20, [], [119])), (20, (66, 23, [45], [])), (23, (11, 24, [2], [])), (24, (2, 26, [], [102])), (26, (66, 29, [45], [])), (29, (11, 30, [2], [])), (30, (2, 32, [], [120])), (32, (66, 35, [45], [])), (35, (15, 36, [0], [])), (36, (1, 37, [], [1])), (37, (15, 38, [0], [])), (38, (90, 41, [4, 1, 129], [])), (41, (100, 44, [30, 3, 158], [])), (44, (110, 45, [], [])), (45, (11, 46, [1], [])), (46, (2, 48, [], [12])), (48, (68, 51, [61], [])), (51, (15, 52, [0], [])), (52, (1, 53, [], [4])), (53, (15, 54, [0], [])), (54, (90, 57, [4, 1, 129], [])), (57, (100, 60, [30, 3, 158], [])), (60, (110, 61, [], [])), (61, (15, 62, [0], [])), (62, (56, 63, [], [])), (63, (90, 66, [4, 1, 129], [])), (66, (1, 67, [], [1])), (67, (30, 68, [], [])), (68, (92, 71, [4, 1, 129], [])), (71, (15, 72, [0], [])), (72, (91, 75, [4, 0, 128], [])), (75, (91, 78, [3, 6, 133], [])), (78, (11, 79, [1], [])), (79, (11, 80, [2], [])), (80, (84, 81, [], [])), (81, (15, 82, [0], [])), (82, (91, 85, [4, 0, 128], [])), (85, (11, 86, [1], [])), (86, (1, 87, [], [1])), (87, (30, 88, [], [])), (88, (92, 91, [3, 5, 134], [])), (91, (11, 92, [2], [])), (92, (2, 94, [], [120])), (94, (67, 97, [103], [])), (97, (15, 98, [0], [])), (98, (11, 99, [1], [])), (99, (100, 102, [31, 2, 159], [])), (102, (110, 103, [], [])), (103, (11, 104, [2], [])), (104, (2, 106, [], [102])), (106, (66, 109, [199], [])), (109, (15, 110, [0], [])), (110, (91, 113, [4, 0, 128], [])), (113, (91, 116, [3, 9, 135], [])), (116, (11, 117, [1], [])), (117, (15, 118, [0], [])), (118, (90, 121, [4, 1, 129], [])), (121, (1, 122, [], [1])), (122, (30, 123, [], [])), (123, (84, 124, [], [])), (124, (15, 125, [0], [])), (125, (91, 128, [4, 0, 128], [])), (128, (91, 131, [3, 11, 136], [])), (131, (11, 132, [1], [])), (132, (15, 133, [0], [])), (133, (91, 136, [4, 0, 128], [])), (136, (90, 139, [3, 15, 137], [])), (139, (84, 140, [], [])), (140, (15, 141, [0], [])), (141, (2, 143, [], [40])), (143, (100, 146, [35, 2, 157], [])), (146, (60, 149, [157], [])), (149, (15, 150, [0], [])), (150, (1, 151, [], [1])), (151, (100, 154, [36, 2, 160], [])), (154, (61, 157, [159], [])), (157, (1, 158, [], [0])), (158, (110, 159, [], [])), (159, (15, 160, [0], [])), (160, (91, 163, [4, 0, 128], [])), (163, (91, 166, [3, 10, 138], [])), (166, (11, 167, [1], [])), (167, (15, 168, [0], [])), (168, (90, 171, [4, 1, 129], [])), (171, (84, 172, [], [])), (172, (15, 173, [0], [])), (173, (91, 176, [4, 0, 128], [])), (176, (91, 179, [3, 12, 139], [])), (179, (11, 180, [1], [])), (180, (15, 181, [0], [])), (181, (91, 184, [4, 0, 128], [])), (184, (90, 187, [3, 15, 137], [])), (187, (84, 188, [], [])), (188, (15, 189, [0], [])), (189, (2, 191, [], [41])), (191, (100, 194, [35, 2, 157], [])), (194, (61, 197, [199], [])), (197, (1, 198, [], [0])), (198, (110, 199, [], [])), (199, (11, 200, [2], [])), (200, (2, 202, [], [102])), (202, (66, 205, [211], [])), (205, (11, 206, [2], [])), (206, (2, 208, [], [119])), (208, (67, 211, [220], [])), (211, (15, 212, [0], [])), (212, (100, 215, [33, 1, 161], [])), (215, (61, 218, [220], [])), (218, (1, 219, [], [0])), (219, (110, 220, [], [])), (220, (15, 221, [0], [])), (221, (91, 224, [4, 0, 128], [])), (224, (91, 227, [3, 7, 140], [])), (227, (11, 228, [1], [])), (228, (15, 229, [0], [])), (229, (90, 232, [4, 2, 141], [])), (232, (84, 233, [], [])), (233, (1, 234, [], [1])), (234, (110, 235, [], []))]
/-- PitInspector$Reader.clause(I)Z -/
noncomputable def mt_28 : MTy := (⟨"PitInspector$Reader", "clause", "(I)Z"⟩, prog_9_method_6_code, 3, some .boolean, 4, 4, 2, (0, 0), 1, [611, 5, 610, 1], cd_28)
noncomputable def cd_29 : List (Nat × Ins) := [(0, (15, 1, [0], [])), (1, (91, 4, [4, 0, 128], [])), (4, (72, 7, [36], [])), (7, (15, 8, [0], [])), (8, (90, 11, [4, 1, 129], [])), (11, (15, 12, [0], [])), (12, (91, 15, [4, 0, 128], [])), (15, (90, 18, [3, 3, 131], [])), (18, (69, 21, [36], [])), (21, (15, 22, [0], [])), (22, (90, 25, [4, 1, 129], [])), (25, (15, 26, [0], [])), (26, (91, 29, [4, 0, 128], [])), (29, (91, 32, [3, 4, 132], [])), (32, (88, 33, [], [])), (33, (68, 36, [38], [])), (36, (1, 37, [], [-1])), (37, (110, 38, [], [])), (38, (15, 39, [0], [])), (39, (91, 42, [4, 0, 128], [])), (42, (91, 45, [3, 4, 132], [])), (45, (15, 46, [0], [])), (46, (90, 49, [4, 1, 129], [])), (49, (81, 50, [], [])), (50, (3, 53, [], [255])), (53, (39, 54, [], [])), (54, (110, 55, [], []))]
/-- PitInspector$Reader.peek()I -/
noncomputable def mt_29 : MTy := (⟨"PitInspector$Reader", "peek", "()I"⟩, prog_9_method_3_code, 1, some .int, 4, 4, 1, (0, 0), 0, [615, 5, 614, 2], cd_29)
noncomputable def cd_30 : List (Nat × Ins) := [(0, (15, 1, [0], [])), (1, (3, 4, [], [-1000])), (4, (11, 5, [1], [])), (5, (32, 6, [], [])), (6, (11, 7, [2], [])), (7, (31, 8, [], [])), (8, (92, 11, [4, 3, 130], [])), (11, (1, 12, [], [0])), (12, (110, 13, [], []))]
/-- PitInspector$Reader.fail(II)Z -/
noncomputable def mt_30 : MTy := (⟨"PitInspector$Reader", "fail", "(II)Z"⟩, prog_9_method_4_code, 3, some .boolean, 4, 4, 2, (0, 0), 2, [619, 5, 618, 3], cd_30)
noncomputable def cd_31 : List (Nat × Ins) := [(0, (15, 1, [0], [])), (1, (2, 3, [], [29])), (3, (100, 6, [32, 2, 162], [])), (6, (61, 9, [11], [])), (9, (1, 10, [], [0])), (10, (110, 11, [], [])), (11, (15, 12, [0], [])), (12, (91, 15, [4, 0, 128], [])), (15, (91, 18, [3, 7, 140], [])), (18, (11, 19, [1], [])), (19, (15, 20, [0], [])), (20, (90, 23, [4, 2, 141], [])), (23, (84, 24, [], [])), (24, (15, 25, [0], [])), (25, (2, 27, [], [46])), (27, (100, 30, [35, 2, 157], [])), (30, (60, 33, [42], [])), (33, (15, 34, [0], [])), (34, (2, 36, [], [11])), (36, (100, 39, [32, 2, 162], [])), (39, (61, 42, [44], [])), (42, (1, 43, [], [0])), (43, (110, 44, [], [])), (44, (15, 45, [0], [])), (45, (91, 48, [4, 0, 128], [])), (48, (91, 51, [3, 8, 142], [])), (51, (11, 52, [1], [])), (52, (15, 53, [0], [])), (53, (90, 56, [4, 2, 141], [])), (56, (84, 57, [], [])), (57, (1, 58, [], [1])), (58, (110, 59, [], []))]
/-- PitInspector$Reader.strike(I)Z -/
noncomputable def mt_31 : MTy := (⟨"PitInspector$Reader", "strike", "(I)Z"⟩, prog_9_method_7_code, 2, some .boolean, 4, 4, 2, (0, 0), 1, [623, 5, 622, 4], cd_31)
noncomputable def cd_32 : List (Nat × Ins) := [(0, (15, 1, [0], [])), (1, (90, 4, [4, 1, 129], [])), (4, (17, 5, [2], [])), (5, (15, 6, [0], [])), (6, (100, 9, [33, 1, 161], [])), (9, (61, 12, [14], [])), (12, (1, 13, [], [0])), (13, (110, 14, [], [])), (14, (15, 15, [0], [])), (15, (90, 18, [4, 2, 141], [])), (18, (11, 19, [1], [])), (19, (71, 22, [31], [])), (22, (15, 23, [0], [])), (23, (1, 24, [], [3])), (24, (11, 25, [2], [])), (25, (100, 28, [30, 3, 158], [])), (28, (60, 31, [35], [])), (31, (1, 32, [], [1])), (32, (73, 35, [36], [])), (35, (1, 36, [], [0])), (36, (110, 37, [], []))]
/-- PitInspector$Reader.numberUpTo(I)Z -/
noncomputable def mt_32 : MTy := (⟨"PitInspector$Reader", "numberUpTo", "(I)Z"⟩, prog_9_method_8_code, 3, some .boolean, 4, 4, 2, (0, 0), 1, [627, 5, 626, 5], cd_32)
noncomputable def cd_33 : List (Nat × Ins) := [(0, (15, 1, [0], [])), (1, (1, 2, [], [0])), (2, (92, 5, [4, 2, 141], [])), (5, (1, 6, [], [0])), (6, (17, 7, [1], [])), (7, (11, 8, [1], [])), (8, (1, 9, [], [5])), (9, (70, 12, [93], [])), (12, (15, 13, [0], [])), (13, (100, 16, [29, 1, 156], [])), (16, (17, 17, [2], [])), (17, (11, 18, [2], [])), (18, (102, 21, [34, 1, 163], [])), (21, (61, 24, [46], [])), (24, (11, 25, [1], [])), (25, (64, 28, [40], [])), (28, (15, 29, [0], [])), (29, (1, 30, [], [1])), (30, (15, 31, [0], [])), (31, (90, 34, [4, 1, 129], [])), (34, (100, 37, [30, 3, 158], [])), (37, (60, 40, [44], [])), (40, (1, 41, [], [1])), (41, (73, 44, [45], [])), (44, (1, 45, [], [0])), (45, (110, 46, [], [])), (46, (11, 47, [1], [])), (47, (1, 48, [], [5])), (48, (67, 51, [61], [])), (51, (15, 52, [0], [])), (52, (1, 53, [], [2])), (53, (15, 54, [0], [])), (54, (90, 57, [4, 1, 129], [])), (57, (100, 60, [30, 3, 158], [])), (60, (110, 61, [], [])), (61, (15, 62, [0], [])), (62, (15, 63, [0], [])), (63, (90, 66, [4, 2, 141], [])), (66, (2, 68, [], [10])), (68, (32, 69, [], [])), (69, (11, 70, [2], [])), (70, (30, 71, [], [])), (71, (2, 73, [], [48])), (73, (31, 74, [], [])), (74, (92, 77, [4, 2, 141], [])), (77, (15, 78, [0], [])), (78, (56, 79, [], [])), (79, (90, 82, [4, 1, 129], [])), (82, (1, 83, [], [1])), (83, (30, 84, [], [])), (84, (92, 87, [4, 1, 129], [])), (87, (22, 90, [1], [1])), (90, (73, 93, [7], [])), (93, (1, 94, [], [0])), (94, (110, 95, [], []))]
/-- PitInspector$Reader.number()Z -/
noncomputable def mt_33 : MTy := (⟨"PitInspector$Reader", "number", "()Z"⟩, prog_9_method_9_code, 3, some .boolean, 4, 4, 2, (0, 0), 0, [631, 5, 630, 6], cd_33)
noncomputable def cd_34 : List (Nat × Ins) := [(0, (11, 1, [0], [])), (1, (2, 3, [], [48])), (3, (68, 6, [16], [])), (6, (11, 7, [0], [])), (7, (2, 9, [], [57])), (9, (70, 12, [16], [])), (12, (1, 13, [], [1])), (13, (73, 16, [17], [])), (16, (1, 17, [], [0])), (17, (110, 18, [], []))]
/-- PitInspector$Reader.isDigit(I)Z -/
noncomputable def mt_34 : MTy := (⟨"PitInspector$Reader", "isDigit", "(I)Z"⟩, prog_9_method_10_code, 1, some .boolean, 4, 50, 2, (0, 0), 1, [634, 5, 633, 0], cd_34)
noncomputable def cd_35 : List (Nat × Ins) := [(0, (15, 1, [0], [])), (1, (100, 4, [29, 1, 156], [])), (4, (11, 5, [1], [])), (5, (66, 8, [18], [])), (8, (15, 9, [0], [])), (9, (1, 10, [], [1])), (10, (15, 11, [0], [])), (11, (90, 14, [4, 1, 129], [])), (14, (100, 17, [30, 3, 158], [])), (17, (110, 18, [], [])), (18, (15, 19, [0], [])), (19, (56, 20, [], [])), (20, (90, 23, [4, 1, 129], [])), (23, (1, 24, [], [1])), (24, (30, 25, [], [])), (25, (92, 28, [4, 1, 129], [])), (28, (1, 29, [], [1])), (29, (110, 30, [], []))]
/-- PitInspector$Reader.take(I)Z -/
noncomputable def mt_35 : MTy := (⟨"PitInspector$Reader", "take", "(I)Z"⟩, prog_9_method_5_code, 2, some .boolean, 4, 4, 2, (0, 0), 1, [638, 5, 637, 7], cd_35)
noncomputable def cd_36 : List (Nat × Ins) := [(0, (1, 1, [], [-1])), (1, (17, 2, [2], [])), (2, (1, 3, [], [0])), (3, (17, 4, [3], [])), (4, (11, 5, [3], [])), (5, (3, 8, [], [160])), (8, (69, 11, [61], [])), (11, (15, 12, [0], [])), (12, (11, 13, [1], [])), (13, (100, 16, [37, 2, 164], [])), (16, (61, 19, [21], [])), (19, (1, 20, [], [0])), (20, (110, 21, [], [])), (21, (15, 22, [0], [])), (22, (100, 25, [29, 1, 156], [])), (25, (2, 27, [], [124])), (27, (66, 30, [37], [])), (30, (15, 31, [0], [])), (31, (11, 32, [2], [])), (32, (100, 35, [43, 2, 165], [])), (35, (1, 36, [], [1])), (36, (110, 37, [], [])), (37, (15, 38, [0], [])), (38, (56, 39, [], [])), (39, (90, 42, [4, 1, 129], [])), (42, (1, 43, [], [1])), (43, (30, 44, [], [])), (44, (92, 47, [4, 1, 129], [])), (47, (15, 48, [0], [])), (48, (2, 50, [], [124])), (50, (11, 51, [2], [])), (51, (100, 54, [44, 3, 166], [])), (54, (17, 55, [2], [])), (55, (22, 58, [3], [1])), (58, (73, 61, [4], [])), (61, (1, 62, [], [0])), (62, (110, 63, [], []))]
/-- PitInspector$Reader.condition(I)Z -/
noncomputable def mt_36 : MTy := (⟨"PitInspector$Reader", "condition", "(I)Z"⟩, prog_9_method_11_code, 4, some .boolean, 4, 4, 2, (0, 0), 1, [642, 5, 641, 8], cd_36)
noncomputable def cd_37 : List (Nat × Ins) := [(0, (1, 1, [], [-1])), (1, (17, 2, [2], [])), (2, (1, 3, [], [0])), (3, (17, 4, [3], [])), (4, (11, 5, [3], [])), (5, (3, 8, [], [160])), (8, (69, 11, [61], [])), (11, (15, 12, [0], [])), (12, (11, 13, [1], [])), (13, (100, 16, [38, 2, 167], [])), (16, (61, 19, [21], [])), (19, (1, 20, [], [0])), (20, (110, 21, [], [])), (21, (15, 22, [0], [])), (22, (100, 25, [29, 1, 156], [])), (25, (2, 27, [], [38])), (27, (66, 30, [37], [])), (30, (15, 31, [0], [])), (31, (11, 32, [2], [])), (32, (100, 35, [43, 2, 165], [])), (35, (1, 36, [], [1])), (36, (110, 37, [], [])), (37, (15, 38, [0], [])), (38, (56, 39, [], [])), (39, (90, 42, [4, 1, 129], [])), (42, (1, 43, [], [1])), (43, (30, 44, [], [])), (44, (92, 47, [4, 1, 129], [])), (47, (15, 48, [0], [])), (48, (2, 50, [], [38])), (50, (11, 51, [2], [])), (51, (100, 54, [44, 3, 166], [])), (54, (17, 55, [2], [])), (55, (22, 58, [3], [1])), (58, (73, 61, [4], [])), (61, (1, 62, [], [0])), (62, (110, 63, [], []))]
/-- PitInspector$Reader.part(I)Z -/
noncomputable def mt_37 : MTy := (⟨"PitInspector$Reader", "part", "(I)Z"⟩, prog_9_method_12_code, 4, some .boolean, 4, 4, 2, (0, 0), 1, [646, 5, 645, 9], cd_37)
noncomputable def cd_38 : List (Nat × Ins) := [(0, (15, 1, [0], [])), (1, (100, 4, [29, 1, 156], [])), (4, (17, 5, [2], [])), (5, (11, 6, [2], [])), (6, (2, 8, [], [33])), (8, (66, 11, [17], [])), (11, (11, 12, [2], [])), (12, (2, 14, [], [40])), (14, (67, 17, [100], [])), (17, (11, 18, [1], [])), (18, (2, 20, [], [6])), (20, (68, 23, [33], [])), (23, (15, 24, [0], [])), (24, (1, 25, [], [5])), (25, (15, 26, [0], [])), (26, (90, 29, [4, 1, 129], [])), (29, (100, 32, [30, 3, 158], [])), (32, (110, 33, [], [])), (33, (15, 34, [0], [])), (34, (56, 35, [], [])), (35, (90, 38, [4, 1, 129], [])), (38, (1, 39, [], [1])), (39, (30, 40, [], [])), (40, (92, 43, [4, 1, 129], [])), (43, (11, 44, [2], [])), (44, (2, 46, [], [33])), (46, (67, 49, [75], [])), (49, (15, 50, [0], [])), (50, (11, 51, [1], [])), (51, (1, 52, [], [1])), (52, (30, 53, [], [])), (53, (100, 56, [38, 2, 167], [])), (56, (60, 59, [73], [])), (59, (15, 60, [0], [])), (60, (2, 62, [], [33])), (62, (1, 63, [], [0])), (63, (100, 66, [39, 3, 168], [])), (66, (60, 69, [73], [])), (69, (1, 70, [], [1])), (70, (73, 73, [74], [])), (73, (1, 74, [], [0])), (74, (110, 75, [], [])), (75, (15, 76, [0], [])), (76, (11, 77, [1], [])), (77, (1, 78, [], [1])), (78, (30, 79, [], [])), (79, (100, 82, [36, 2, 160], [])), (82, (60, 85, [98], [])), (85, (15, 86, [0], [])), (86, (2, 88, [], [41])), (88, (100, 91, [35, 2, 157], [])), (91, (60, 94, [98], [])), (94, (1, 95, [], [1])), (95, (73, 98, [99], [])), (98, (1, 99, [], [0])), (99, (110, 100, [], [])), (100, (15, 101, [0], [])), (101, (11, 102, [1], [])), (102, (100, 105, [40, 2, 169], [])), (105, (61, 108, [110], [])), (108, (1, 109, [], [0])), (109, (110, 110, [], [])), (110, (15, 111, [0], [])), (111, (100, 114, [29, 1, 156], [])), (114, (17, 115, [3], [])), (115, (11, 116, [3], [])), (116, (2, 118, [], [60])), (118, (66, 121, [143], [])), (121, (11, 122, [3], [])), (122, (2, 124, [], [62])), (124, (66, 127, [143], [])), (127, (11, 128, [3], [])), (128, (2, 130, [], [61])), (130, (66, 133, [143], [])), (133, (15, 134, [0], [])), (134, (1, 135, [], [1])), (135, (15, 136, [0], [])), (136, (90, 139, [4, 1, 129], [])), (139, (100, 142, [30, 3, 158], [])), (142, (110, 143, [], [])), (143, (15, 144, [0], [])), (144, (56, 145, [], [])), (145, (90, 148, [4, 1, 129], [])), (148, (1, 149, [], [1])), (149, (30, 150, [], [])), (150, (92, 153, [4, 1, 129], [])), (153, (15, 154, [0], [])), (154, (11, 155, [1], [])), (155, (100, 158, [40, 2, 169], [])), (158, (60, 161, [174], [])), (161, (15, 162, [0], [])), (162, (11, 163, [3], [])), (163, (1, 164, [], [0])), (164, (100, 167, [39, 3, 168], [])), (167, (60, 170, [174], [])), (170, (1, 171, [], [1])), (171, (73, 174, [175], [])), (174, (1, 175, [], [0])), (175, (110, 176, [], []))]
/-- PitInspector$Reader.piece(I)Z -/
noncomputable def mt_38 : MTy := (⟨"PitInspector$Reader", "piece", "(I)Z"⟩, prog_9_method_13_code, 4, some .boolean, 4, 4, 2, (0, 0), 1, [650, 5, 649, 10], cd_38)
noncomputable def cd_39 : List (Nat × Ins) := [(0, (15, 1, [0], [])), (1, (91, 4, [4, 0, 128], [])), (4, (90, 7, [3, 15, 137], [])), (7, (15, 8, [0], [])), (8, (91, 11, [4, 0, 128], [])), (11, (91, 14, [3, 14, 144], [])), (14, (88, 15, [], [])), (15, (69, 18, [52], [])), (18, (15, 19, [0], [])), (19, (91, 22, [4, 0, 128], [])), (22, (91, 25, [3, 14, 144], [])), (25, (15, 26, [0], [])), (26, (91, 29, [4, 0, 128], [])), (29, (90, 32, [3, 15, 137], [])), (32, (11, 33, [2], [])), (33, (2, 35, [], [8])), (35, (36, 36, [], [])), (36, (11, 37, [1], [])), (37, (40, 38, [], [])), (38, (84, 39, [], [])), (39, (15, 40, [0], [])), (40, (91, 43, [4, 0, 128], [])), (43, (56, 44, [], [])), (44, (90, 47, [3, 15, 137], [])), (47, (1, 48, [], [1])), (48, (30, 49, [], [])), (49, (92, 52, [3, 15, 137], [])), (52, (1, 53, [], [1])), (53, (110, 54, [], []))]
/-- PitInspector$Reader.emit(II)Z -/
noncomputable def mt_39 : MTy := (⟨"PitInspector$Reader", "emit", "(II)Z"⟩, prog_9_method_17_code, 3, some .boolean, 4, 4, 2, (0, 0), 2, [654, 5, 653, 11], cd_39)
noncomputable def cd_40 : List (Nat × Ins) := [(0, (15, 1, [0], [])), (1, (11, 2, [1], [])), (2, (100, 5, [41, 2, 170], [])), (5, (61, 8, [10], [])), (8, (1, 9, [], [0])), (9, (110, 10, [], [])), (10, (1, 11, [], [1])), (11, (17, 12, [2], [])), (12, (11, 13, [2], [])), (13, (3, 16, [], [160])), (16, (69, 19, [73], [])), (19, (15, 20, [0], [])), (20, (100, 23, [29, 1, 156], [])), (23, (17, 24, [3], [])), (24, (11, 25, [3], [])), (25, (2, 27, [], [43])), (27, (66, 30, [38], [])), (30, (11, 31, [3], [])), (31, (2, 33, [], [45])), (33, (66, 36, [38], [])), (36, (1, 37, [], [1])), (37, (110, 38, [], [])), (38, (15, 39, [0], [])), (39, (56, 40, [], [])), (40, (90, 43, [4, 1, 129], [])), (43, (1, 44, [], [1])), (44, (30, 45, [], [])), (45, (92, 48, [4, 1, 129], [])), (48, (15, 49, [0], [])), (49, (11, 50, [1], [])), (50, (100, 53, [41, 2, 170], [])), (53, (60, 56, [65], [])), (56, (15, 57, [0], [])), (57, (11, 58, [3], [])), (58, (1, 59, [], [0])), (59, (100, 62, [39, 3, 168], [])), (62, (61, 65, [67], [])), (65, (1, 66, [], [0])), (66, (110, 67, [], [])), (67, (22, 70, [2], [1])), (70, (73, 73, [12], [])), (73, (1, 74, [], [0])), (74, (110, 75, [], []))]
/-- PitInspector$Reader.sum(I)Z -/
noncomputable def mt_40 : MTy := (⟨"PitInspector$Reader", "sum", "(I)Z"⟩, prog_9_method_14_code, 4, some .boolean, 4, 4, 2, (0, 0), 1, [658, 5, 657, 12], cd_40)
noncomputable def cd_41 : List (Nat × Ins) := [(0, (15, 1, [0], [])), (1, (11, 2, [1], [])), (2, (100, 5, [42, 2, 171], [])), (5, (61, 8, [10], [])), (8, (1, 9, [], [0])), (9, (110, 10, [], [])), (10, (1, 11, [], [1])), (11, (17, 12, [2], [])), (12, (11, 13, [2], [])), (13, (3, 16, [], [160])), (16, (69, 19, [79], [])), (19, (15, 20, [0], [])), (20, (100, 23, [29, 1, 156], [])), (23, (17, 24, [3], [])), (24, (11, 25, [3], [])), (25, (2, 27, [], [42])), (27, (66, 30, [44], [])), (30, (11, 31, [3], [])), (31, (2, 33, [], [47])), (33, (66, 36, [44], [])), (36, (11, 37, [3], [])), (37, (2, 39, [], [37])), (39, (66, 42, [44], [])), (42, (1, 43, [], [1])), (43, (110, 44, [], [])), (44, (15, 45, [0], [])), (45, (56, 46, [], [])), (46, (90, 49, [4, 1, 129], [])), (49, (1, 50, [], [1])), (50, (30, 51, [], [])), (51, (92, 54, [4, 1, 129], [])), (54, (15, 55, [0], [])), (55, (11, 56, [1], [])), (56, (100, 59, [42, 2, 171], [])), (59, (60, 62, [71], [])), (62, (15, 63, [0], [])), (63, (11, 64, [3], [])), (64, (1, 65, [], [0])), (65, (100, 68, [39, 3, 168], [])), (68, (61, 71, [73], [])), (71, (1, 72, [], [0])), (72, (110, 73, [], [])), (73, (22, 76, [2], [1])), (76, (73, 79, [12], [])), (79, (1, 80, [], [0])), (80, (110, 81, [], []))]
/-- PitInspector$Reader.product(I)Z -/
noncomputable def mt_41 : MTy := (⟨"PitInspector$Reader", "product", "(I)Z"⟩, prog_9_method_15_code, 4, some .boolean, 4, 4, 2, (0, 0), 1, [662, 5, 661, 13], cd_41)
noncomputable def cd_42 : List (Nat × Ins) := [(0, (15, 1, [0], [])), (1, (100, 4, [29, 1, 156], [])), (4, (17, 5, [2], [])), (5, (11, 6, [2], [])), (6, (2, 8, [], [91])), (8, (67, 11, [62], [])), (11, (11, 12, [1], [])), (12, (2, 14, [], [6])), (14, (68, 17, [27], [])), (17, (15, 18, [0], [])), (18, (1, 19, [], [5])), (19, (15, 20, [0], [])), (20, (90, 23, [4, 1, 129], [])), (23, (100, 26, [30, 3, 158], [])), (26, (110, 27, [], [])), (27, (15, 28, [0], [])), (28, (56, 29, [], [])), (29, (90, 32, [4, 1, 129], [])), (32, (1, 33, [], [1])), (33, (30, 34, [], [])), (34, (92, 37, [4, 1, 129], [])), (37, (15, 38, [0], [])), (38, (11, 39, [1], [])), (39, (1, 40, [], [1])), (40, (30, 41, [], [])), (41, (100, 44, [40, 2, 169], [])), (44, (60, 47, [60], [])), (47, (15, 48, [0], [])), (48, (2, 50, [], [93])), (50, (100, 53, [35, 2, 157], [])), (53, (60, 56, [60], [])), (56, (1, 57, [], [1])), (57, (73, 60, [61], [])), (60, (1, 61, [], [0])), (61, (110, 62, [], [])), (62, (11, 63, [2], [])), (63, (102, 66, [34, 1, 163], [])), (66, (60, 69, [95], [])), (69, (15, 70, [0], [])), (70, (100, 73, [33, 1, 161], [])), (73, (60, 76, [93], [])), (76, (15, 77, [0], [])), (77, (2, 79, [], [110])), (79, (15, 80, [0], [])), (80, (90, 83, [4, 2, 141], [])), (83, (100, 86, [39, 3, 168], [])), (86, (60, 89, [93], [])), (89, (1, 90, [], [1])), (90, (73, 93, [94], [])), (93, (1, 94, [], [0])), (94, (110, 95, [], [])), (95, (11, 96, [2], [])), (96, (1, 97, [], [-1])), (97, (67, 100, [104], [])), (100, (1, 101, [], [-1])), (101, (73, 104, [111], [])), (104, (8, 106, [118], [])), (106, (11, 107, [2], [])), (107, (45, 108, [], [])), (108, (97, 111, [120], [115, 100, 103, 109, 98, 97, 111, 119, 108, 104, 121, 113])), (111, (17, 112, [3], [])), (112, (11, 113, [3], [])), (113, (63, 116, [126], [])), (116, (15, 117, [0], [])), (117, (1, 118, [], [1])), (118, (15, 119, [0], [])), (119, (90, 122, [4, 1, 129], [])), (122, (100, 125, [30, 3, 158], [])), (125, (110, 126, [], [])), (126, (15, 127, [0], [])), (127, (56, 128, [], [])), (128, (90, 131, [4, 1, 129], [])), (131, (1, 132, [], [1])), (132, (30, 133, [], [])), (133, (92, 136, [4, 1, 129], [])), (136, (15, 137, [0], [])), (137, (91, 140, [4, 0, 128], [])), (140, (56, 141, [], [])), (141, (90, 144, [3, 16, 143], [])), (144, (1, 145, [], [1])), (145, (11, 146, [3], [])), (146, (36, 147, [], [])), (147, (40, 148, [], [])), (148, (92, 151, [3, 16, 143], [])), (151, (15, 152, [0], [])), (152, (2, 154, [], [108])), (154, (11, 155, [3], [])), (155, (100, 158, [39, 3, 168], [])), (158, (110, 159, [], []))]
/-- PitInspector$Reader.factor(I)Z -/
noncomputable def mt_42 : MTy := (⟨"PitInspector$Reader", "factor", "(I)Z"⟩, prog_9_method_16_code, 4, some .boolean, 4, 4, 2, (0, 0), 1, [666, 5, 665, 14], cd_42)
noncomputable def cd_43 : List (Nat × Ins) := [(0, (11, 1, [1], [])), (1, (17, 2, [2], [])), (2, (1, 3, [], [0])), (3, (17, 4, [3], [])), (4, (11, 5, [3], [])), (5, (3, 8, [], [160])), (8, (69, 11, [85], [])), (11, (11, 12, [2], [])), (12, (62, 15, [85], [])), (15, (11, 16, [2], [])), (16, (15, 17, [0], [])), (17, (91, 20, [4, 0, 128], [])), (20, (91, 23, [3, 14, 144], [])), (23, (88, 24, [], [])), (24, (69, 27, [85], [])), (27, (15, 28, [0], [])), (28, (91, 31, [4, 0, 128], [])), (31, (91, 34, [3, 14, 144], [])), (34, (11, 35, [2], [])), (35, (80, 36, [], [])), (36, (2, 38, [], [8])), (38, (37, 39, [], [])), (39, (1, 40, [], [1])), (40, (31, 41, [], [])), (41, (16, 43, [4], [])), (43, (15, 44, [0], [])), (44, (91, 47, [4, 0, 128], [])), (47, (91, 50, [3, 14, 144], [])), (50, (11, 51, [2], [])), (51, (15, 52, [0], [])), (52, (91, 55, [4, 0, 128], [])), (55, (90, 58, [3, 15, 137], [])), (58, (2, 60, [], [8])), (60, (36, 61, [], [])), (61, (15, 62, [0], [])), (62, (91, 65, [4, 0, 128], [])), (65, (91, 68, [3, 14, 144], [])), (68, (11, 69, [2], [])), (69, (80, 70, [], [])), (70, (3, 73, [], [255])), (73, (39, 74, [], [])), (74, (40, 75, [], [])), (75, (84, 76, [], [])), (76, (10, 78, [4], [])), (78, (17, 79, [2], [])), (79, (22, 82, [3], [1])), (82, (73, 85, [4], [])), (85, (112, 86, [], []))]
/-- PitInspector$Reader.land(I)V -/
noncomputable def mt_43 : MTy := (⟨"PitInspector$Reader", "land", "(I)V"⟩, prog_9_method_19_code, 5, none, 4, 4, 0, (0, 0), 1, [755, 5, 754, 15], cd_43)
noncomputable def cd_44 : List (Nat × Ins) := [(0, (15, 1, [0], [])), (1, (11, 2, [1], [])), (2, (11, 3, [2], [])), (3, (1, 4, [], [1])), (4, (30, 5, [], [])), (5, (100, 8, [39, 3, 168], [])), (8, (58, 9, [], [])), (9, (15, 10, [0], [])), (10, (91, 13, [4, 0, 128], [])), (13, (90, 16, [3, 15, 137], [])), (16, (1, 17, [], [1])), (17, (31, 18, [], [])), (18, (110, 19, [], []))]
/-- PitInspector$Reader.jump(II)I -/
noncomputable def mt_44 : MTy := (⟨"PitInspector$Reader", "jump", "(II)I"⟩, prog_9_method_18_code, 3, some .int, 4, 4, 1, (0, 0), 2, [759, 5, 758, 16], cd_44)
noncomputable def cd_45 : List (Nat × Ins) := [(0, (15, 1, [0], [])), (1, (91, 4, [0, 4, 2], [])), (4, (11, 5, [1], [])), (5, (100, 8, [46, 2, 17], [])), (8, (60, 11, [22], [])), (11, (15, 12, [0], [])), (12, (91, 15, [0, 3, 1], [])), (15, (11, 16, [2], [])), (16, (100, 19, [18, 2, 12], [])), (19, (61, 22, [24], [])), (22, (1, 23, [], [-1])), (23, (110, 24, [], [])), (24, (15, 25, [0], [])), (25, (91, 28, [0, 4, 2], [])), (28, (11, 29, [1], [])), (29, (11, 30, [2], [])), (30, (15, 31, [0], [])), (31, (100, 34, [47, 1, 18], [])), (34, (100, 37, [48, 4, 19], [])), (37, (110, 38, [], []))]
/-- PitInspector.counts(II)I -/
noncomputable def mt_45 : MTy := (⟨"PitInspector", "counts", "(II)I"⟩, prog_1_method_8_code, 3, some .int, 0, 0, 1, (0, 0), 2, [763, 1, 761, 875], cd_45)
noncomputable def cd_46 : List (Nat × Ins) := [(0, (11, 1, [1], [])), (1, (62, 4, [16], [])), (4, (11, 5, [1], [])), (5, (15, 6, [0], [])), (6, (90, 9, [2, 1, 83], [])), (9, (69, 12, [16], [])), (12, (1, 13, [], [1])), (13, (73, 16, [17], [])), (16, (1, 17, [], [0])), (17, (110, 18, [], []))]
/-- PitInspector$Laws.exists(I)Z -/
noncomputable def mt_46 : MTy := (⟨"PitInspector$Laws", "exists", "(I)Z"⟩, prog_5_method_2_code, 2, some .boolean, 2, 2, 2, (0, 0), 1, [767, 3, 765, 879], cd_46)
noncomputable def cd_47 : List (Nat × Ins) := [(0, (15, 1, [0], [])), (1, (90, 4, [0, 0, 10], [])), (4, (3, 7, [], [1440])), (7, (33, 8, [], [])), (8, (110, 9, [], []))]
/-- PitInspector.day()I -/
noncomputable def mt_47 : MTy := (⟨"PitInspector", "day", "()I"⟩, prog_1_method_59_code, 1, some .int, 0, 0, 1, (0, 0), 0, [771, 1, 770, 17], cd_47)
noncomputable def cd_48 : List (Nat × Ins) := [(0, (15, 1, [0], [])), (1, (11, 2, [1], [])), (2, (100, 5, [46, 2, 118], [])), (5, (60, 8, [22], [])), (8, (15, 9, [0], [])), (9, (91, 12, [2, 2, 78], [])), (12, (11, 13, [1], [])), (13, (83, 14, [], [])), (14, (11, 15, [2], [])), (15, (11, 16, [3], [])), (16, (100, 19, [49, 3, 122], [])), (19, (61, 22, [24], [])), (22, (1, 23, [], [0])), (23, (110, 24, [], [])), (24, (15, 25, [0], [])), (25, (11, 26, [2], [])), (26, (11, 27, [3], [])), (27, (100, 30, [51, 3, 123], [])), (30, (1, 31, [], [0])), (31, (16, 33, [4], [])), (33, (1, 34, [], [0])), (34, (16, 36, [5], [])), (36, (10, 38, [5], [])), (38, (15, 39, [0], [])), (39, (91, 42, [2, 2, 78], [])), (42, (11, 43, [1], [])), (43, (83, 44, [], [])), (44, (90, 47, [3, 5, 85], [])), (47, (69, 50, [73], [])), (50, (15, 51, [0], [])), (51, (91, 54, [2, 2, 78], [])), (54, (11, 55, [1], [])), (55, (83, 56, [], [])), (56, (10, 58, [5], [])), (58, (100, 61, [52, 2, 124], [])), (61, (61, 64, [67], [])), (64, (22, 67, [4], [1])), (67, (22, 70, [5], [1])), (70, (73, 73, [36], [])), (73, (10, 75, [4], [])), (75, (110, 76, [], []))]
/-- PitInspector$Laws.countingClauses(III)I -/
noncomputable def mt_48 : MTy := (⟨"PitInspector$Laws", "countingClauses", "(III)I"⟩, prog_5_method_8_code, 6, some .int, 2, 2, 1, (0, 0), 3, [775, 3, 773, 887], cd_48)
noncomputable def cd_49 : List (Nat × Ins) := [(0, (15, 1, [0], [])), (1, (90, 4, [3, 0, 173], [])), (4, (1, 5, [], [-1])), (5, (66, 8, [16], [])), (8, (15, 9, [0], [])), (9, (90, 12, [3, 0, 173], [])), (12, (11, 13, [1], [])), (13, (67, 16, [28], [])), (16, (15, 17, [0], [])), (17, (11, 18, [2], [])), (18, (100, 21, [50, 2, 184], [])), (21, (60, 24, [28], [])), (24, (1, 25, [], [1])), (25, (73, 28, [29], [])), (28, (1, 29, [], [0])), (29, (110, 30, [], []))]
/-- PitInspector$Text.isFor(II)Z -/
noncomputable def mt_49 : MTy := (⟨"PitInspector$Text", "isFor", "(II)Z"⟩, prog_11_method_4_code, 3, some .boolean, 3, 3, 2, (0, 0), 2, [780, 4, 778, 892], cd_49)
noncomputable def cd_50 : List (Nat × Ins) := [(0, (15, 1, [0], [])), (1, (90, 4, [3, 1, 171], [])), (4, (11, 5, [1], [])), (5, (70, 8, [20], [])), (8, (11, 9, [1], [])), (9, (15, 10, [0], [])), (10, (90, 13, [3, 2, 172], [])), (13, (70, 16, [20], [])), (16, (1, 17, [], [1])), (17, (73, 20, [21], [])), (20, (1, 21, [], [0])), (21, (110, 22, [], []))]
/-- PitInspector$Text.isInForce(I)Z -/
noncomputable def mt_50 : MTy := (⟨"PitInspector$Text", "isInForce", "(I)Z"⟩, prog_11_method_3_code, 2, some .boolean, 3, 3, 2, (0, 0), 1, [784, 4, 782, 896], cd_50)
noncomputable def cd_51 : List (Nat × Ins) := [(0, (1, 1, [], [0])), (1, (17, 2, [3], [])), (2, (11, 3, [3], [])), (3, (15, 4, [0], [])), (4, (90, 7, [2, 1, 83], [])), (7, (69, 10, [26], [])), (10, (15, 11, [0], [])), (11, (91, 14, [2, 2, 78], [])), (14, (11, 15, [3], [])), (15, (83, 16, [], [])), (16, (1, 17, [], [0])), (17, (92, 20, [3, 13, 90], [])), (20, (22, 23, [3], [1])), (23, (73, 26, [2], [])), (26, (15, 27, [0], [])), (27, (90, 30, [2, 1, 83], [])), (30, (1, 31, [], [1])), (31, (31, 32, [], [])), (32, (17, 33, [3], [])), (33, (11, 34, [3], [])), (34, (62, 37, [110], [])), (37, (15, 38, [0], [])), (38, (91, 41, [2, 2, 78], [])), (41, (11, 42, [3], [])), (42, (83, 43, [], [])), (43, (20, 45, [4], [])), (45, (1, 46, [], [0])), (46, (16, 48, [5], [])), (48, (10, 50, [5], [])), (50, (14, 52, [4], [])), (52, (90, 55, [3, 5, 85], [])), (55, (69, 58, [104], [])), (58, (14, 60, [4], [])), (60, (11, 61, [1], [])), (61, (11, 62, [2], [])), (62, (100, 65, [49, 3, 122], [])), (65, (60, 68, [104], [])), (68, (14, 70, [4], [])), (70, (91, 73, [3, 6, 91], [])), (73, (10, 75, [5], [])), (75, (80, 76, [], [])), (76, (2, 78, [], [120])), (78, (67, 81, [98], [])), (81, (14, 83, [4], [])), (83, (10, 85, [5], [])), (85, (100, 88, [52, 2, 124], [])), (88, (61, 91, [98], [])), (91, (15, 92, [0], [])), (92, (11, 93, [3], [])), (93, (10, 95, [5], [])), (95, (100, 98, [53, 3, 125], [])), (98, (22, 101, [5], [1])), (101, (73, 104, [48], [])), (104, (22, 107, [3], [-1])), (107, (73, 110, [33], [])), (110, (112, 111, [], []))]
/-- PitInspector$Laws.strikeFor(II)V -/
noncomputable def mt_51 : MTy := (⟨"PitInspector$Laws", "strikeFor", "(II)V"⟩, prog_5_method_9_code, 6, none, 2, 2, 0, (0, 0), 2, [788, 3, 787, 18], cd_51)
noncomputable def cd_52 : List (Nat × Ins) := [(0, (15, 1, [0], [])), (1, (90, 4, [3, 13, 174], [])), (4, (11, 5, [1], [])), (5, (37, 6, [], [])), (6, (1, 7, [], [1])), (7, (39, 8, [], [])), (8, (60, 11, [15], [])), (11, (1, 12, [], [1])), (12, (73, 15, [16], [])), (15, (1, 16, [], [0])), (16, (110, 17, [], []))]
/-- PitInspector$Text.isStruck(I)Z -/
noncomputable def mt_52 : MTy := (⟨"PitInspector$Text", "isStruck", "(I)Z"⟩, prog_11_method_5_code, 2, some .boolean, 3, 3, 2, (0, 0), 1, [792, 4, 790, 904], cd_52)
noncomputable def cd_53 : List (Nat × Ins) := [(0, (15, 1, [0], [])), (1, (91, 4, [2, 2, 78], [])), (4, (11, 5, [1], [])), (5, (83, 6, [], [])), (6, (91, 9, [3, 7, 92], [])), (9, (11, 10, [2], [])), (10, (80, 11, [], [])), (11, (17, 12, [3], [])), (12, (11, 13, [3], [])), (13, (62, 16, [21], [])), (16, (11, 17, [3], [])), (17, (11, 18, [1], [])), (18, (68, 21, [22], [])), (21, (112, 22, [], [])), (22, (15, 23, [0], [])), (23, (91, 26, [2, 2, 78], [])), (26, (11, 27, [1], [])), (27, (83, 28, [], [])), (28, (90, 31, [3, 0, 84], [])), (31, (1, 32, [], [-1])), (32, (66, 35, [56], [])), (35, (15, 36, [0], [])), (36, (91, 39, [2, 2, 78], [])), (39, (11, 40, [1], [])), (40, (83, 41, [], [])), (41, (90, 44, [3, 0, 84], [])), (44, (15, 45, [0], [])), (45, (91, 48, [2, 2, 78], [])), (48, (11, 49, [3], [])), (49, (83, 50, [], [])), (50, (90, 53, [3, 0, 84], [])), (53, (67, 56, [83], [])), (56, (15, 57, [0], [])), (57, (91, 60, [2, 2, 78], [])), (60, (11, 61, [3], [])), (61, (83, 62, [], [])), (62, (56, 63, [], [])), (63, (90, 66, [3, 13, 90], [])), (66, (1, 67, [], [1])), (67, (15, 68, [0], [])), (68, (91, 71, [2, 2, 78], [])), (71, (11, 72, [1], [])), (72, (83, 73, [], [])), (73, (91, 76, [3, 8, 93], [])), (76, (11, 77, [2], [])), (77, (80, 78, [], [])), (78, (36, 79, [], [])), (79, (40, 80, [], [])), (80, (92, 83, [3, 13, 90], [])), (83, (112, 84, [], []))]
/-- PitInspector$Laws.strikeBelow(II)V -/
noncomputable def mt_53 : MTy := (⟨"PitInspector$Laws", "strikeBelow", "(II)V"⟩, prog_5_method_10_code, 4, none, 2, 2, 0, (0, 0), 2, [796, 3, 795, 19], cd_53)
noncomputable def cd_54 : List (Nat × Ins) := [(0, (15, 1, [0], [])), (1, (91, 4, [0, 4, 2], [])), (4, (11, 5, [1], [])), (5, (11, 6, [2], [])), (6, (100, 9, [55, 3, 20], [])), (9, (60, 12, [23], [])), (12, (15, 13, [0], [])), (13, (91, 16, [0, 3, 1], [])), (16, (11, 17, [3], [])), (17, (100, 20, [18, 2, 12], [])), (20, (61, 23, [25], [])), (23, (1, 24, [], [-1])), (24, (110, 25, [], [])), (25, (15, 26, [0], [])), (26, (11, 27, [3], [])), (27, (100, 30, [56, 2, 21], [])), (30, (15, 31, [0], [])), (31, (91, 34, [0, 4, 2], [])), (34, (11, 35, [1], [])), (35, (11, 36, [2], [])), (36, (100, 39, [80, 3, 22], [])), (39, (110, 40, [], []))]
/-- PitInspector.holds(III)I -/
noncomputable def mt_54 : MTy := (⟨"PitInspector", "holds", "(III)I"⟩, prog_1_method_9_code, 4, some .int, 0, 0, 1, (0, 0), 3, [800, 1, 798, 912], cd_54)
noncomputable def cd_55 : List (Nat × Ins) := [(0, (15, 1, [0], [])), (1, (11, 2, [1], [])), (2, (100, 5, [46, 2, 118], [])), (5, (60, 8, [29], [])), (8, (11, 9, [2], [])), (9, (62, 12, [29], [])), (12, (11, 13, [2], [])), (13, (15, 14, [0], [])), (14, (91, 17, [2, 2, 78], [])), (17, (11, 18, [1], [])), (18, (83, 19, [], [])), (19, (90, 22, [3, 5, 85], [])), (22, (69, 25, [29], [])), (25, (1, 26, [], [1])), (26, (73, 29, [30], [])), (29, (1, 30, [], [0])), (30, (110, 31, [], []))]
/-- PitInspector$Laws.hasClause(II)Z -/
noncomputable def mt_55 : MTy := (⟨"PitInspector$Laws", "hasClause", "(II)Z"⟩, prog_5_method_5_code, 3, some .boolean, 2, 2, 2, (0, 0), 2, [804, 3, 802, 916], cd_55)
noncomputable def cd_56 : List (Nat × Ins) := [(0, (15, 1, [0], [])), (1, (91, 4, [0, 4, 2], [])), (4, (91, 7, [2, 0, 34], [])), (7, (21, 8, [2], [])), (8, (15, 9, [2], [])), (9, (1, 10, [], [0])), (10, (15, 11, [0], [])), (11, (91, 14, [0, 3, 1], [])), (14, (91, 17, [1, 0, 35], [])), (17, (11, 18, [1], [])), (18, (80, 19, [], [])), (19, (42, 20, [], [])), (20, (86, 21, [], [])), (21, (15, 22, [2], [])), (22, (1, 23, [], [1])), (23, (15, 24, [0], [])), (24, (91, 27, [0, 3, 1], [])), (27, (91, 30, [1, 1, 36], [])), (30, (11, 31, [1], [])), (31, (80, 32, [], [])), (32, (42, 33, [], [])), (33, (86, 34, [], [])), (34, (15, 35, [2], [])), (35, (1, 36, [], [2])), (36, (15, 37, [0], [])), (37, (91, 40, [0, 3, 1], [])), (40, (91, 43, [1, 2, 37], [])), (43, (11, 44, [1], [])), (44, (80, 45, [], [])), (45, (42, 46, [], [])), (46, (86, 47, [], [])), (47, (15, 48, [2], [])), (48, (1, 49, [], [3])), (49, (15, 50, [0], [])), (50, (91, 53, [0, 3, 1], [])), (53, (91, 56, [1, 3, 38], [])), (56, (11, 57, [1], [])), (57, (80, 58, [], [])), (58, (42, 59, [], [])), (59, (86, 60, [], [])), (60, (15, 61, [2], [])), (61, (1, 62, [], [4])), (62, (15, 63, [0], [])), (63, (91, 66, [0, 8, 6], [])), (66, (91, 69, [8, 11, 12], [])), (69, (11, 70, [1], [])), (70, (80, 71, [], [])), (71, (42, 72, [], [])), (72, (86, 73, [], [])), (73, (15, 74, [2], [])), (74, (2, 76, [], [8])), (76, (15, 77, [0], [])), (77, (91, 80, [0, 8, 6], [])), (80, (91, 83, [8, 12, 39], [])), (83, (11, 84, [1], [])), (84, (80, 85, [], [])), (85, (42, 86, [], [])), (86, (86, 87, [], [])), (87, (15, 88, [2], [])), (88, (2, 90, [], [9])), (90, (15, 91, [0], [])), (91, (90, 94, [0, 0, 10], [])), (94, (2, 96, [], [60])), (96, (33, 97, [], [])), (97, (2, 99, [], [24])), (99, (34, 100, [], [])), (100, (42, 101, [], [])), (101, (86, 102, [], [])), (102, (15, 103, [2], [])), (103, (2, 105, [], [10])), (105, (15, 106, [0], [])), (106, (100, 109, [47, 1, 18], [])), (109, (42, 110, [], [])), (110, (86, 111, [], [])), (111, (15, 112, [0], [])), (112, (91, 115, [0, 4, 2], [])), (115, (1, 116, [], [5])), (116, (100, 119, [57, 2, 90], [])), (119, (60, 122, [138], [])), (122, (15, 123, [2], [])), (123, (1, 124, [], [5])), (124, (15, 125, [0], [])), (125, (91, 128, [0, 6, 4], [])), (128, (15, 129, [0], [])), (129, (91, 132, [0, 5, 3], [])), (132, (11, 133, [1], [])), (133, (100, 136, [58, 3, 39], [])), (136, (42, 137, [], [])), (137, (86, 138, [], [])), (138, (15, 139, [0], [])), (139, (91, 142, [0, 4, 2], [])), (142, (2, 144, [], [6])), (144, (100, 147, [57, 2, 90], [])), (147, (60, 150, [163], [])), (150, (15, 151, [2], [])), (151, (2, 153, [], [6])), (153, (15, 154, [0], [])), (154, (91, 157, [0, 5, 3], [])), (157, (11, 158, [1], [])), (158, (100, 161, [66, 2, 45], [])), (161, (42, 162, [], [])), (162, (86, 163, [], [])), (163, (15, 164, [0], [])), (164, (91, 167, [0, 4, 2], [])), (167, (2, 169, [], [7])), (169, (100, 172, [57, 2, 90], [])), (172, (60, 175, [188], [])), (175, (15, 176, [2], [])), (176, (2, 178, [], [7])), (178, (15, 179, [0], [])), (179, (91, 182, [0, 7, 5], [])), (182, (11, 183, [1], [])), (183, (100, 186, [72, 2, 54], [])), (186, (42, 187, [], [])), (187, (86, 188, [], [])), (188, (15, 189, [0], [])), (189, (91, 192, [0, 4, 2], [])), (192, (2, 194, [], [11])), (194, (100, 197, [57, 2, 90], [])), (197, (60, 200, [221], [])), (200, (15, 201, [2], [])), (201, (2, 203, [], [11])), (203, (15, 204, [0], [])), (204, (91, 207, [0, 8, 6], [])), (207, (11, 208, [1], [])), (208, (15, 209, [0], [])), (209, (90, 212, [0, 0, 10], [])), (212, (3, 215, [], [1440])), (215, (31, 216, [], [])), (216, (100, 219, [79, 3, 91], [])), (219, (42, 220, [], [])), (220, (86, 221, [], [])), (221, (112, 222, [], []))]
/-- PitInspector.learn(I)V -/
noncomputable def mt_56 : MTy := (⟨"PitInspector", "learn", "(I)V"⟩, prog_1_method_61_code, 3, none, 0, 0, 0, (0, 0), 1, [808, 1, 807, 20], cd_56)
noncomputable def cd_57 : List (Nat × Ins) := [(0, (15, 1, [0], [])), (1, (90, 4, [2, 5, 86], [])), (4, (11, 5, [1], [])), (5, (37, 6, [], [])), (6, (1, 7, [], [1])), (7, (39, 8, [], [])), (8, (60, 11, [15], [])), (11, (1, 12, [], [1])), (12, (73, 15, [16], [])), (15, (1, 16, [], [0])), (16, (110, 17, [], []))]
/-- PitInspector$Laws.ask(I)Z -/
noncomputable def mt_57 : MTy := (⟨"PitInspector$Laws", "ask", "(I)Z"⟩, prog_5_method_6_code, 2, some .boolean, 2, 2, 2, (0, 0), 1, [812, 3, 810, 924], cd_57)
noncomputable def cd_58 : List (Nat × Ins) := [(0, (15, 1, [0], [])), (1, (91, 4, [6, 5, 45], [])), (4, (11, 5, [2], [])), (5, (80, 6, [], [])), (6, (2, 8, [], [-2])), (8, (67, 11, [23], [])), (11, (15, 12, [0], [])), (12, (91, 15, [6, 5, 45], [])), (15, (11, 16, [2], [])), (16, (15, 17, [0], [])), (17, (15, 18, [1], [])), (18, (11, 19, [2], [])), (19, (100, 22, [59, 3, 98], [])), (22, (84, 23, [], [])), (23, (15, 24, [0], [])), (24, (91, 27, [6, 5, 45], [])), (27, (11, 28, [2], [])), (28, (80, 29, [], [])), (29, (110, 30, [], []))]
/-- PitInspector$Air.leastOf(LPitInspector$Net;I)I -/
noncomputable def mt_58 : MTy := (⟨"PitInspector$Air", "leastOf", "(LPitInspector$Net;I)I"⟩, prog_2_method_5_code, 3, some .int, 6, 6, 1, (0, 0), 2, [816, 8, 814, 928], cd_58)
noncomputable def cd_59 : List (Nat × Ins) := [(0, (1, 1, [], [0])), (1, (17, 2, [3], [])), (2, (11, 3, [3], [])), (3, (15, 4, [1], [])), (4, (90, 7, [5, 1, 46], [])), (7, (69, 10, [32], [])), (10, (15, 11, [1], [])), (11, (11, 12, [3], [])), (12, (100, 15, [60, 2, 96], [])), (15, (11, 16, [2], [])), (16, (67, 19, [26], [])), (19, (15, 20, [0], [])), (20, (91, 23, [6, 3, 43], [])), (23, (11, 24, [3], [])), (24, (1, 25, [], [0])), (25, (84, 26, [], [])), (26, (22, 29, [3], [1])), (29, (73, 32, [2], [])), (32, (15, 33, [0], [])), (33, (91, 36, [6, 0, 40], [])), (36, (11, 37, [2], [])), (37, (80, 38, [], [])), (38, (1, 39, [], [-1])), (39, (67, 42, [44], [])), (42, (1, 43, [], [-1])), (43, (110, 44, [], [])), (44, (15, 45, [1], [])), (45, (15, 46, [0], [])), (46, (91, 49, [6, 1, 41], [])), (49, (11, 50, [2], [])), (50, (80, 51, [], [])), (51, (1, 52, [], [0])), (52, (100, 55, [61, 3, 103], [])), (55, (15, 56, [1], [])), (56, (91, 59, [5, 6, 47], [])), (59, (15, 60, [0], [])), (60, (91, 63, [6, 0, 40], [])), (63, (11, 64, [2], [])), (64, (80, 65, [], [])), (65, (80, 66, [], [])), (66, (1, 67, [], [-1])), (67, (66, 70, [123], [])), (70, (15, 71, [0], [])), (71, (91, 74, [6, 4, 44], [])), (74, (1, 75, [], [0])), (75, (102, 78, [344, 2, 93], [])), (78, (15, 79, [0], [])), (79, (91, 82, [6, 4, 44], [])), (82, (15, 83, [0], [])), (83, (91, 86, [6, 0, 40], [])), (86, (11, 87, [2], [])), (87, (80, 88, [], [])), (88, (15, 89, [0], [])), (89, (91, 92, [6, 2, 42], [])), (92, (11, 93, [2], [])), (93, (80, 94, [], [])), (94, (84, 95, [], [])), (95, (15, 96, [1], [])), (96, (90, 99, [5, 8, 48], [])), (99, (1, 100, [], [1])), (100, (31, 101, [], [])), (101, (17, 102, [3], [])), (102, (11, 103, [3], [])), (103, (65, 106, [123], [])), (106, (15, 107, [0], [])), (107, (15, 108, [1], [])), (108, (15, 109, [1], [])), (109, (91, 112, [5, 7, 49], [])), (112, (11, 113, [3], [])), (113, (80, 114, [], [])), (114, (100, 117, [63, 3, 104], [])), (117, (22, 120, [3], [-1])), (120, (73, 123, [102], [])), (123, (15, 124, [0], [])), (124, (15, 125, [1], [])), (125, (11, 126, [2], [])), (126, (100, 129, [65, 3, 105], [])), (129, (110, 130, [], []))]
/-- PitInspector$Air.splitAll(LPitInspector$Net;I)I -/
noncomputable def mt_59 : MTy := (⟨"PitInspector$Air", "splitAll", "(LPitInspector$Net;I)I"⟩, prog_2_method_8_code, 4, some .int, 6, 6, 1, (0, 0), 2, [820, 8, 819, 21], cd_59)
noncomputable def cd_60 : List (Nat × Ins) := [(0, (15, 1, [0], [])), (1, (91, 4, [5, 10, 112], [])), (4, (15, 5, [0], [])), (5, (91, 8, [5, 3, 106], [])), (8, (1, 9, [], [2])), (9, (11, 10, [1], [])), (10, (32, 11, [], [])), (11, (80, 12, [], [])), (12, (80, 13, [], [])), (13, (110, 14, [], []))]
/-- PitInspector$Net.pitOfRoad(I)I -/
noncomputable def mt_60 : MTy := (⟨"PitInspector$Net", "pitOfRoad", "(I)I"⟩, prog_7_method_8_code, 2, some .int, 5, 5, 1, (0, 0), 1, [824, 6, 822, 936], cd_60)
noncomputable def cd_61 : List (Nat × Ins) := [(0, (15, 1, [0], [])), (1, (91, 4, [5, 6, 109], [])), (4, (1, 5, [], [-1])), (5, (102, 8, [344, 2, 141], [])), (8, (15, 9, [0], [])), (9, (91, 12, [5, 6, 109], [])), (12, (11, 13, [1], [])), (13, (1, 14, [], [0])), (14, (84, 15, [], [])), (15, (15, 16, [0], [])), (16, (91, 19, [5, 7, 110], [])), (19, (1, 20, [], [0])), (20, (11, 21, [1], [])), (21, (84, 22, [], [])), (22, (15, 23, [0], [])), (23, (1, 24, [], [1])), (24, (92, 27, [5, 8, 119], [])), (27, (1, 28, [], [0])), (28, (17, 29, [3], [])), (29, (11, 30, [3], [])), (30, (15, 31, [0], [])), (31, (90, 34, [5, 8, 119], [])), (34, (69, 37, [173], [])), (37, (11, 38, [3], [])), (38, (15, 39, [0], [])), (39, (91, 42, [5, 7, 110], [])), (42, (88, 43, [], [])), (43, (69, 46, [173], [])), (46, (15, 47, [0], [])), (47, (91, 50, [5, 7, 110], [])), (50, (11, 51, [3], [])), (51, (80, 52, [], [])), (52, (16, 54, [4], [])), (54, (15, 55, [0], [])), (55, (91, 58, [5, 5, 108], [])), (58, (10, 60, [4], [])), (60, (80, 61, [], [])), (61, (16, 63, [5], [])), (63, (10, 65, [5], [])), (65, (15, 66, [0], [])), (66, (91, 69, [5, 5, 108], [])), (69, (10, 71, [4], [])), (71, (1, 72, [], [1])), (72, (30, 73, [], [])), (73, (80, 74, [], [])), (74, (69, 77, [167], [])), (77, (15, 78, [0], [])), (78, (91, 81, [5, 3, 106], [])), (81, (15, 82, [0], [])), (82, (91, 85, [5, 4, 107], [])), (85, (10, 87, [5], [])), (87, (80, 88, [], [])), (88, (1, 89, [], [1])), (89, (41, 90, [], [])), (90, (80, 91, [], [])), (91, (16, 93, [6], [])), (93, (15, 94, [0], [])), (94, (91, 97, [5, 6, 109], [])), (97, (10, 99, [6], [])), (99, (80, 100, [], [])), (100, (1, 101, [], [-1])), (101, (67, 104, [161], [])), (104, (11, 105, [2], [])), (105, (61, 108, [124], [])), (108, (15, 109, [0], [])), (109, (15, 110, [0], [])), (110, (91, 113, [5, 4, 107], [])), (113, (10, 115, [5], [])), (115, (80, 116, [], [])), (116, (1, 117, [], [2])), (117, (33, 118, [], [])), (118, (100, 121, [62, 2, 147], [])), (121, (60, 124, [161], [])), (124, (15, 125, [0], [])), (125, (91, 128, [5, 6, 109], [])), (128, (10, 130, [6], [])), (130, (15, 131, [0], [])), (131, (91, 134, [5, 6, 109], [])), (134, (10, 136, [4], [])), (136, (80, 137, [], [])), (137, (1, 138, [], [1])), (138, (30, 139, [], [])), (139, (84, 140, [], [])), (140, (15, 141, [0], [])), (141, (91, 144, [5, 7, 110], [])), (144, (15, 145, [0], [])), (145, (90, 148, [5, 8, 119], [])), (148, (10, 150, [6], [])), (150, (84, 151, [], [])), (151, (15, 152, [0], [])), (152, (56, 153, [], [])), (153, (90, 156, [5, 8, 119], [])), (156, (1, 157, [], [1])), (157, (30, 158, [], [])), (158, (92, 161, [5, 8, 119], [])), (161, (22, 164, [5], [1])), (164, (73, 167, [63], [])), (167, (22, 170, [3], [1])), (170, (73, 173, [29], [])), (173, (112, 174, [], []))]
/-- PitInspector$Net.measure(IZ)V -/
noncomputable def mt_61 : MTy := (⟨"PitInspector$Net", "measure", "(IZ)V"⟩, prog_7_method_13_code, 7, none, 5, 5, 0, (0, 0), 2, [828, 6, 826, 940], cd_61)
noncomputable def cd_62 : List (Nat × Ins) := [(0, (15, 1, [0], [])), (1, (91, 4, [5, 9, 111], [])), (4, (11, 5, [1], [])), (5, (80, 6, [], [])), (6, (1, 7, [], [1])), (7, (66, 10, [14], [])), (10, (1, 11, [], [1])), (11, (73, 14, [15], [])), (14, (1, 15, [], [0])), (15, (110, 16, [], []))]
/-- PitInspector$Net.isOpen(I)Z -/
noncomputable def mt_62 : MTy := (⟨"PitInspector$Net", "isOpen", "(I)Z"⟩, prog_7_method_5_code, 2, some .boolean, 5, 5, 2, (0, 0), 1, [832, 6, 830, 944], cd_62)
noncomputable def cd_63 : List (Nat × Ins) := [(0, (1, 1, [], [0])), (1, (17, 2, [3], [])), (2, (15, 3, [1], [])), (3, (91, 6, [5, 5, 50], [])), (6, (11, 7, [2], [])), (7, (80, 8, [], [])), (8, (16, 10, [4], [])), (10, (10, 12, [4], [])), (12, (15, 13, [1], [])), (13, (91, 16, [5, 5, 50], [])), (16, (11, 17, [2], [])), (17, (1, 18, [], [1])), (18, (30, 19, [], [])), (19, (80, 20, [], [])), (20, (69, 23, [70], [])), (23, (15, 24, [0], [])), (24, (91, 27, [6, 4, 44], [])), (27, (11, 28, [2], [])), (28, (80, 29, [], [])), (29, (65, 32, [64], [])), (32, (15, 33, [1], [])), (33, (11, 34, [2], [])), (34, (15, 35, [1], [])), (35, (91, 38, [5, 4, 51], [])), (38, (10, 40, [4], [])), (40, (80, 41, [], [])), (41, (102, 44, [64, 3, 106], [])), (44, (60, 47, [64], [])), (47, (11, 48, [3], [])), (48, (15, 49, [1], [])), (49, (91, 52, [5, 2, 52], [])), (52, (15, 53, [1], [])), (53, (91, 56, [5, 4, 51], [])), (56, (10, 58, [4], [])), (58, (80, 59, [], [])), (59, (1, 60, [], [2])), (60, (33, 61, [], [])), (61, (80, 62, [], [])), (62, (30, 63, [], [])), (63, (17, 64, [3], [])), (64, (22, 67, [4], [1])), (67, (73, 70, [10], [])), (70, (11, 71, [3], [])), (71, (61, 74, [75], [])), (74, (112, 75, [], [])), (75, (15, 76, [0], [])), (76, (91, 79, [6, 4, 44], [])), (79, (11, 80, [2], [])), (80, (80, 81, [], [])), (81, (16, 83, [4], [])), (83, (15, 84, [1], [])), (84, (91, 87, [5, 5, 50], [])), (87, (11, 88, [2], [])), (88, (80, 89, [], [])), (89, (16, 91, [5], [])), (91, (10, 93, [5], [])), (93, (15, 94, [1], [])), (94, (91, 97, [5, 5, 50], [])), (97, (11, 98, [2], [])), (98, (1, 99, [], [1])), (99, (30, 100, [], [])), (100, (80, 101, [], [])), (101, (69, 104, [171], [])), (104, (15, 105, [1], [])), (105, (91, 108, [5, 4, 51], [])), (108, (10, 110, [5], [])), (110, (80, 111, [], [])), (111, (1, 112, [], [2])), (112, (33, 113, [], [])), (113, (16, 115, [6], [])), (115, (15, 116, [1], [])), (116, (11, 117, [2], [])), (117, (15, 118, [1], [])), (118, (91, 121, [5, 4, 51], [])), (121, (10, 123, [5], [])), (123, (80, 124, [], [])), (124, (102, 127, [64, 3, 106], [])), (127, (60, 130, [165], [])), (130, (15, 131, [0], [])), (131, (91, 134, [6, 3, 43], [])), (134, (10, 136, [6], [])), (136, (15, 137, [0], [])), (137, (91, 140, [6, 4, 44], [])), (140, (11, 141, [2], [])), (141, (80, 142, [], [])), (142, (15, 143, [1], [])), (143, (91, 146, [5, 2, 52], [])), (146, (10, 148, [6], [])), (148, (80, 149, [], [])), (149, (32, 150, [], [])), (150, (11, 151, [3], [])), (151, (33, 152, [], [])), (152, (84, 153, [], [])), (153, (10, 155, [4], [])), (155, (15, 156, [0], [])), (156, (91, 159, [6, 3, 43], [])), (159, (10, 161, [6], [])), (161, (80, 162, [], [])), (162, (31, 163, [], [])), (163, (16, 165, [4], [])), (165, (22, 168, [5], [1])), (168, (73, 171, [91], [])), (171, (15, 172, [1], [])), (172, (91, 175, [5, 5, 50], [])), (175, (11, 176, [2], [])), (176, (80, 177, [], [])), (177, (16, 179, [5], [])), (179, (10, 181, [5], [])), (181, (15, 182, [1], [])), (182, (91, 185, [5, 5, 50], [])), (185, (11, 186, [2], [])), (186, (1, 187, [], [1])), (187, (30, 188, [], [])), (188, (80, 189, [], [])), (189, (69, 192, [272], [])), (192, (15, 193, [1], [])), (193, (91, 196, [5, 4, 51], [])), (196, (10, 198, [5], [])), (198, (80, 199, [], [])), (199, (1, 200, [], [2])), (200, (33, 201, [], [])), (201, (16, 203, [6], [])), (203, (15, 204, [1], [])), (204, (11, 205, [2], [])), (205, (15, 206, [1], [])), (206, (91, 209, [5, 4, 51], [])), (209, (10, 211, [5], [])), (211, (80, 212, [], [])), (212, (102, 215, [64, 3, 106], [])), (215, (60, 218, [266], [])), (218, (10, 220, [4], [])), (220, (65, 223, [237], [])), (223, (15, 224, [0], [])), (224, (91, 227, [6, 3, 43], [])), (227, (10, 229, [6], [])), (229, (57, 230, [], [])), (230, (80, 231, [], [])), (231, (1, 232, [], [1])), (232, (30, 233, [], [])), (233, (84, 234, [], [])), (234, (22, 237, [4], [-1])), (237, (15, 238, [0], [])), (238, (91, 241, [6, 4, 44], [])), (241, (15, 242, [1], [])), (242, (91, 245, [5, 3, 53], [])), (245, (15, 246, [1], [])), (246, (91, 249, [5, 4, 51], [])), (249, (10, 251, [5], [])), (251, (80, 252, [], [])), (252, (1, 253, [], [1])), (253, (41, 254, [], [])), (254, (80, 255, [], [])), (255, (57, 256, [], [])), (256, (80, 257, [], [])), (257, (15, 258, [0], [])), (258, (91, 261, [6, 3, 43], [])), (261, (10, 263, [6], [])), (263, (80, 264, [], [])), (264, (30, 265, [], [])), (265, (84, 266, [], [])), (266, (22, 269, [5], [1])), (269, (73, 272, [179], [])), (272, (112, 273, [], []))]
/-- PitInspector$Air.splitAt(LPitInspector$Net;I)V -/
noncomputable def mt_63 : MTy := (⟨"PitInspector$Air", "splitAt", "(LPitInspector$Net;I)V"⟩, prog_2_method_9_code, 7, none, 6, 6, 0, (0, 0), 2, [836, 8, 835, 22], cd_63)
noncomputable def cd_64 : List (Nat × Ins) := [(0, (15, 1, [0], [])), (1, (11, 2, [2], [])), (2, (1, 3, [], [2])), (3, (33, 4, [], [])), (4, (100, 7, [62, 2, 99], [])), (7, (60, 10, [38], [])), (10, (15, 11, [0], [])), (11, (91, 14, [5, 6, 47], [])), (14, (15, 15, [0], [])), (15, (91, 18, [5, 3, 53], [])), (18, (11, 19, [2], [])), (19, (1, 20, [], [1])), (20, (41, 21, [], [])), (21, (80, 22, [], [])), (22, (80, 23, [], [])), (23, (15, 24, [0], [])), (24, (91, 27, [5, 6, 47], [])), (27, (11, 28, [1], [])), (28, (80, 29, [], [])), (29, (1, 30, [], [1])), (30, (31, 31, [], [])), (31, (67, 34, [38], [])), (34, (1, 35, [], [1])), (35, (73, 38, [39], [])), (38, (1, 39, [], [0])), (39, (110, 40, [], []))]
/-- PitInspector$Air.leadsOn(LPitInspector$Net;II)Z -/
noncomputable def mt_64 : MTy := (⟨"PitInspector$Air", "leadsOn", "(LPitInspector$Net;II)Z"⟩, prog_2_method_10_code, 3, some .boolean, 6, 50, 2, (0, 0), 3, [839, 8, 838, 0], cd_64)
noncomputable def cd_65 : List (Nat × Ins) := [(0, (1, 1, [], [-1])), (1, (17, 2, [3], [])), (2, (1, 3, [], [0])), (3, (16, 5, [4], [])), (5, (10, 7, [4], [])), (7, (15, 8, [1], [])), (8, (90, 11, [5, 1, 46], [])), (11, (69, 14, [63], [])), (14, (15, 15, [1], [])), (15, (10, 17, [4], [])), (17, (100, 20, [60, 2, 96], [])), (20, (11, 21, [2], [])), (21, (67, 24, [57], [])), (24, (15, 25, [1], [])), (25, (10, 27, [4], [])), (27, (100, 30, [62, 2, 99], [])), (30, (60, 33, [57], [])), (33, (11, 34, [3], [])), (34, (1, 35, [], [-1])), (35, (66, 38, [49], [])), (38, (15, 39, [0], [])), (39, (91, 42, [6, 3, 43], [])), (42, (10, 44, [4], [])), (44, (80, 45, [], [])), (45, (11, 46, [3], [])), (46, (69, 49, [57], [])), (49, (15, 50, [0], [])), (50, (91, 53, [6, 3, 43], [])), (53, (10, 55, [4], [])), (55, (80, 56, [], [])), (56, (17, 57, [3], [])), (57, (22, 60, [4], [1])), (60, (73, 63, [5], [])), (63, (11, 64, [3], [])), (64, (110, 65, [], []))]
/-- PitInspector$Air.leastOpen(LPitInspector$Net;I)I -/
noncomputable def mt_65 : MTy := (⟨"PitInspector$Air", "leastOpen", "(LPitInspector$Net;I)I"⟩, prog_2_method_11_code, 5, some .int, 6, 6, 1, (0, 0), 2, [844, 8, 843, 23], cd_65)
noncomputable def cd_66 : List (Nat × Ins) := [(0, (15, 1, [0], [])), (1, (91, 4, [5, 14, 116], [])), (4, (11, 5, [1], [])), (5, (80, 6, [], [])), (6, (2, 8, [], [-2])), (8, (66, 11, [18], [])), (11, (15, 12, [0], [])), (12, (91, 15, [5, 14, 116], [])), (15, (11, 16, [1], [])), (16, (80, 17, [], [])), (17, (110, 18, [], [])), (18, (1, 19, [], [-1])), (19, (17, 20, [2], [])), (20, (1, 21, [], [0])), (21, (17, 22, [3], [])), (22, (11, 23, [3], [])), (23, (15, 24, [0], [])), (24, (90, 27, [5, 0, 117], [])), (27, (69, 30, [72], [])), (30, (15, 31, [0], [])), (31, (91, 34, [5, 10, 112], [])), (34, (11, 35, [3], [])), (35, (80, 36, [], [])), (36, (11, 37, [1], [])), (37, (67, 40, [66], [])), (40, (15, 41, [0], [])), (41, (11, 42, [3], [])), (42, (100, 45, [67, 2, 148], [])), (45, (61, 48, [66], [])), (48, (15, 49, [0], [])), (49, (11, 50, [3], [])), (50, (11, 51, [2], [])), (51, (1, 52, [], [-1])), (52, (67, 55, [61], [])), (55, (3, 58, [], [150])), (58, (73, 61, [62], [])), (61, (11, 62, [2], [])), (62, (100, 65, [68, 3, 149], [])), (65, (17, 66, [2], [])), (66, (22, 69, [3], [1])), (69, (73, 72, [22], [])), (72, (15, 73, [0], [])), (73, (91, 76, [5, 14, 116], [])), (76, (11, 77, [1], [])), (77, (11, 78, [2], [])), (78, (84, 79, [], [])), (79, (11, 80, [2], [])), (80, (110, 81, [], []))]
/-- PitInspector$Net.fewestWays(I)I -/
noncomputable def mt_66 : MTy := (⟨"PitInspector$Net", "fewestWays", "(I)I"⟩, prog_7_method_14_code, 4, some .int, 5, 5, 1, (0, 0), 1, [848, 6, 846, 960], cd_66)
noncomputable def cd_67 : List (Nat × Ins) := [(0, (15, 1, [0], [])), (1, (91, 4, [5, 11, 113], [])), (4, (15, 5, [0], [])), (5, (91, 8, [5, 10, 112], [])), (8, (11, 9, [1], [])), (9, (80, 10, [], [])), (10, (80, 11, [], [])), (11, (11, 12, [1], [])), (12, (67, 15, [19], [])), (15, (1, 16, [], [1])), (16, (73, 19, [20], [])), (19, (1, 20, [], [0])), (20, (110, 21, [], []))]
/-- PitInspector$Net.isBank(I)Z -/
noncomputable def mt_67 : MTy := (⟨"PitInspector$Net", "isBank", "(I)Z"⟩, prog_7_method_7_code, 2, some .boolean, 5, 5, 2, (0, 0), 1, [852, 6, 850, 964], cd_67)
noncomputable def cd_68 : List (Nat × Ins) := [(0, (15, 1, [0], [])), (1, (91, 4, [5, 12, 114], [])), (4, (1, 5, [], [0])), (5, (102, 8, [344, 2, 141], [])), (8, (1, 9, [], [0])), (9, (17, 10, [3], [])), (10, (11, 11, [3], [])), (11, (11, 12, [2], [])), (12, (69, 15, [40], [])), (15, (15, 16, [0], [])), (16, (11, 17, [1], [])), (17, (15, 18, [0], [])), (18, (91, 21, [5, 11, 113], [])), (21, (15, 22, [0], [])), (22, (91, 25, [5, 10, 112], [])), (25, (11, 26, [1], [])), (26, (80, 27, [], [])), (27, (80, 28, [], [])), (28, (100, 31, [69, 3, 150], [])), (31, (60, 34, [40], [])), (34, (22, 37, [3], [1])), (37, (73, 40, [10], [])), (40, (11, 41, [3], [])), (41, (110, 42, [], []))]
/-- PitInspector$Net.waysOut(II)I -/
noncomputable def mt_68 : MTy := (⟨"PitInspector$Net", "waysOut", "(II)I"⟩, prog_7_method_15_code, 4, some .int, 5, 5, 1, (0, 0), 2, [856, 6, 854, 968], cd_68)
noncomputable def cd_69 : List (Nat × Ins) := [(0, (15, 1, [0], [])), (1, (11, 2, [1], [])), (2, (11, 3, [2], [])), (3, (100, 6, [70, 3, 151], [])), (6, (61, 9, [11], [])), (9, (1, 10, [], [0])), (10, (110, 11, [], [])), (11, (11, 12, [2], [])), (12, (17, 13, [3], [])), (13, (1, 14, [], [0])), (14, (16, 16, [4], [])), (16, (10, 18, [4], [])), (18, (2, 20, [], [80])), (20, (69, 23, [67], [])), (23, (11, 24, [3], [])), (24, (11, 25, [1], [])), (25, (66, 28, [67], [])), (28, (15, 29, [0], [])), (29, (91, 32, [5, 13, 115], [])), (32, (11, 33, [3], [])), (33, (80, 34, [], [])), (34, (16, 36, [5], [])), (36, (15, 37, [0], [])), (37, (91, 40, [5, 12, 114], [])), (40, (10, 42, [5], [])), (42, (1, 43, [], [2])), (43, (33, 44, [], [])), (44, (57, 45, [], [])), (45, (80, 46, [], [])), (46, (10, 48, [5], [])), (48, (102, 51, [71, 1, 152], [])), (51, (30, 52, [], [])), (52, (84, 53, [], [])), (53, (15, 54, [0], [])), (54, (91, 57, [5, 3, 106], [])), (57, (10, 59, [5], [])), (59, (80, 60, [], [])), (60, (17, 61, [3], [])), (61, (22, 64, [4], [1])), (64, (73, 67, [16], [])), (67, (1, 68, [], [1])), (68, (110, 69, [], []))]
/-- PitInspector$Net.addWay(II)Z -/
noncomputable def mt_69 : MTy := (⟨"PitInspector$Net", "addWay", "(II)Z"⟩, prog_7_method_16_code, 6, some .boolean, 5, 5, 2, (0, 0), 2, [860, 6, 859, 24], cd_69)
noncomputable def cd_70 : List (Nat × Ins) := [(0, (15, 1, [0], [])), (1, (91, 4, [5, 13, 115], [])), (4, (1, 5, [], [-1])), (5, (102, 8, [344, 2, 141], [])), (8, (15, 9, [0], [])), (9, (91, 12, [5, 7, 110], [])), (12, (1, 13, [], [0])), (13, (11, 14, [1], [])), (14, (84, 15, [], [])), (15, (15, 16, [0], [])), (16, (1, 17, [], [1])), (17, (92, 20, [5, 8, 119], [])), (20, (1, 21, [], [0])), (21, (17, 22, [3], [])), (22, (11, 23, [3], [])), (23, (15, 24, [0], [])), (24, (90, 27, [5, 8, 119], [])), (27, (69, 30, [176], [])), (30, (11, 31, [3], [])), (31, (15, 32, [0], [])), (32, (91, 35, [5, 7, 110], [])), (35, (88, 36, [], [])), (36, (69, 39, [176], [])), (39, (15, 40, [0], [])), (40, (91, 43, [5, 13, 115], [])), (43, (11, 44, [2], [])), (44, (80, 45, [], [])), (45, (1, 46, [], [-1])), (46, (67, 49, [176], [])), (49, (15, 50, [0], [])), (50, (91, 53, [5, 7, 110], [])), (53, (11, 54, [3], [])), (54, (80, 55, [], [])), (55, (16, 57, [4], [])), (57, (15, 58, [0], [])), (58, (91, 61, [5, 5, 108], [])), (61, (10, 63, [4], [])), (63, (80, 64, [], [])), (64, (16, 66, [5], [])), (66, (10, 68, [5], [])), (68, (15, 69, [0], [])), (69, (91, 72, [5, 5, 108], [])), (72, (10, 74, [4], [])), (74, (1, 75, [], [1])), (75, (30, 76, [], [])), (76, (80, 77, [], [])), (77, (69, 80, [170], [])), (80, (15, 81, [0], [])), (81, (91, 84, [5, 4, 107], [])), (84, (10, 86, [5], [])), (86, (80, 87, [], [])), (87, (16, 89, [6], [])), (89, (15, 90, [0], [])), (90, (91, 93, [5, 3, 106], [])), (93, (10, 95, [6], [])), (95, (1, 96, [], [1])), (96, (41, 97, [], [])), (97, (80, 98, [], [])), (98, (16, 100, [7], [])), (100, (10, 102, [7], [])), (102, (11, 103, [1], [])), (103, (66, 106, [164], [])), (106, (15, 107, [0], [])), (107, (91, 110, [5, 13, 115], [])), (110, (10, 112, [7], [])), (112, (80, 113, [], [])), (113, (1, 114, [], [-1])), (114, (67, 117, [164], [])), (117, (15, 118, [0], [])), (118, (91, 121, [5, 12, 114], [])), (121, (10, 123, [6], [])), (123, (1, 124, [], [2])), (124, (33, 125, [], [])), (125, (80, 126, [], [])), (126, (10, 128, [6], [])), (128, (102, 131, [71, 1, 152], [])), (131, (66, 134, [164], [])), (134, (15, 135, [0], [])), (135, (91, 138, [5, 13, 115], [])), (138, (10, 140, [7], [])), (140, (10, 142, [6], [])), (142, (84, 143, [], [])), (143, (15, 144, [0], [])), (144, (91, 147, [5, 7, 110], [])), (147, (15, 148, [0], [])), (148, (90, 151, [5, 8, 119], [])), (151, (10, 153, [7], [])), (153, (84, 154, [], [])), (154, (15, 155, [0], [])), (155, (56, 156, [], [])), (156, (90, 159, [5, 8, 119], [])), (159, (1, 160, [], [1])), (160, (30, 161, [], [])), (161, (92, 164, [5, 8, 119], [])), (164, (22, 167, [5], [1])), (167, (73, 170, [66], [])), (170, (22, 173, [3], [1])), (173, (73, 176, [22], [])), (176, (15, 177, [0], [])), (177, (91, 180, [5, 13, 115], [])), (180, (11, 181, [2], [])), (181, (80, 182, [], [])), (182, (1, 183, [], [-1])), (183, (66, 186, [190], [])), (186, (1, 187, [], [1])), (187, (73, 190, [191], [])), (190, (1, 191, [], [0])), (191, (110, 192, [], []))]
/-- PitInspector$Net.findWay(II)Z -/
noncomputable def mt_70 : MTy := (⟨"PitInspector$Net", "findWay", "(II)Z"⟩, prog_7_method_17_code, 8, some .boolean, 5, 5, 2, (0, 0), 2, [864, 6, 863, 25], cd_70)
noncomputable def cd_71 : List (Nat × Ins) := [(0, (11, 1, [0], [])), (1, (1, 2, [], [1])), (2, (39, 3, [], [])), (3, (61, 6, [10], [])), (6, (1, 7, [], [1])), (7, (73, 10, [11], [])), (10, (1, 11, [], [-1])), (11, (110, 12, [], []))]
/-- PitInspector$Net.direction(I)I -/
noncomputable def mt_71 : MTy := (⟨"PitInspector$Net", "direction", "(I)I"⟩, prog_7_method_18_code, 1, some .int, 5, 50, 1, (0, 0), 1, [867, 6, 866, 0], cd_71)
noncomputable def cd_72 : List (Nat × Ins) := [(0, (1, 1, [], [-1])), (1, (17, 2, [2], [])), (2, (1, 3, [], [0])), (3, (17, 4, [3], [])), (4, (11, 5, [3], [])), (5, (15, 6, [0], [])), (6, (90, 9, [7, 2, 155], [])), (9, (69, 12, [52], [])), (12, (15, 13, [0], [])), (13, (91, 16, [7, 11, 152], [])), (16, (11, 17, [3], [])), (17, (80, 18, [], [])), (18, (11, 19, [1], [])), (19, (67, 22, [46], [])), (22, (15, 23, [0], [])), (23, (11, 24, [3], [])), (24, (100, 27, [73, 2, 181], [])), (27, (16, 29, [4], [])), (29, (11, 30, [2], [])), (30, (1, 31, [], [-1])), (31, (67, 34, [39], [])), (34, (10, 36, [4], [])), (36, (73, 39, [45], [])), (39, (11, 40, [2], [])), (40, (10, 42, [4], [])), (42, (89, 45, [95], [])), (45, (17, 46, [2], [])), (46, (22, 49, [3], [1])), (49, (73, 52, [4], [])), (52, (11, 53, [2], [])), (53, (1, 54, [], [-1])), (54, (67, 57, [62], [])), (57, (4, 59, [7], [99999])), (59, (73, 62, [63], [])), (62, (11, 63, [2], [])), (63, (110, 64, [], []))]
/-- PitInspector$Survey.nearestOfPit(I)I -/
noncomputable def mt_72 : MTy := (⟨"PitInspector$Survey", "nearestOfPit", "(I)I"⟩, prog_10_method_20_code, 5, some .int, 7, 7, 1, (0, 0), 1, [871, 9, 869, 983], cd_72)
noncomputable def cd_73 : List (Nat × Ins) := [(0, (15, 1, [0], [])), (1, (90, 4, [7, 1, 154], [])), (4, (61, 7, [10], [])), (7, (4, 9, [7], [99999])), (9, (110, 10, [], [])), (10, (15, 11, [0], [])), (11, (11, 12, [1], [])), (12, (1, 13, [], [0])), (13, (100, 16, [74, 3, 180], [])), (16, (17, 17, [2], [])), (17, (1, 18, [], [1])), (18, (17, 19, [3], [])), (19, (11, 20, [3], [])), (20, (15, 21, [0], [])), (21, (90, 24, [7, 1, 154], [])), (24, (69, 27, [44], [])), (27, (11, 28, [2], [])), (28, (15, 29, [0], [])), (29, (11, 30, [1], [])), (30, (11, 31, [3], [])), (31, (100, 34, [74, 3, 180], [])), (34, (89, 37, [95], [])), (37, (17, 38, [2], [])), (38, (22, 41, [3], [1])), (41, (73, 44, [19], [])), (44, (11, 45, [2], [])), (45, (110, 46, [], []))]
/-- PitInspector$Survey.nearestOfFace(I)I -/
noncomputable def mt_73 : MTy := (⟨"PitInspector$Survey", "nearestOfFace", "(I)I"⟩, prog_10_method_19_code, 4, some .int, 7, 7, 1, (0, 0), 1, [875, 9, 873, 987], cd_73)
noncomputable def cd_74 : List (Nat × Ins) := [(0, (1, 1, [], [0])), (1, (15, 2, [0], [])), (2, (2, 4, [], [30])), (4, (11, 5, [1], [])), (5, (30, 6, [], [])), (6, (11, 7, [2], [])), (7, (100, 10, [75, 3, 178], [])), (10, (15, 11, [0], [])), (11, (2, 13, [], [30])), (13, (11, 14, [1], [])), (14, (30, 15, [], [])), (15, (11, 16, [2], [])), (16, (100, 19, [78, 3, 179], [])), (19, (31, 20, [], [])), (20, (79, 23, [81], [])), (23, (110, 24, [], []))]
/-- PitInspector$Survey.leastYards(II)I -/
noncomputable def mt_74 : MTy := (⟨"PitInspector$Survey", "leastYards", "(II)I"⟩, prog_10_method_17_code, 3, some .int, 7, 7, 1, (0, 0), 2, [880, 9, 878, 992], cd_74)
noncomputable def cd_75 : List (Nat × Ins) := [(0, (15, 1, [0], [])), (1, (11, 2, [1], [])), (2, (100, 5, [76, 2, 176], [])), (5, (15, 6, [0], [])), (6, (11, 7, [2], [])), (7, (100, 10, [76, 2, 176], [])), (10, (31, 11, [], [])), (11, (98, 14, [73], [])), (14, (15, 15, [0], [])), (15, (11, 16, [1], [])), (16, (100, 19, [77, 2, 177], [])), (19, (15, 20, [0], [])), (20, (11, 21, [2], [])), (21, (100, 24, [77, 2, 177], [])), (24, (31, 25, [], [])), (25, (98, 28, [73], [])), (28, (79, 31, [81], [])), (31, (110, 32, [], []))]
/-- PitInspector$Survey.far(II)I -/
noncomputable def mt_75 : MTy := (⟨"PitInspector$Survey", "far", "(II)I"⟩, prog_10_method_15_code, 3, some .int, 7, 7, 1, (0, 0), 2, [884, 9, 883, 26], cd_75)
noncomputable def cd_76 : List (Nat × Ins) := [(0, (15, 1, [0], [])), (1, (91, 4, [7, 8, 149], [])), (4, (11, 5, [1], [])), (5, (80, 6, [], [])), (6, (17, 7, [2], [])), (7, (15, 8, [0], [])), (8, (91, 11, [7, 5, 146], [])), (11, (11, 12, [2], [])), (12, (80, 13, [], [])), (13, (74, 40, [82, 40, 54, 68], [0, 1, 2])), (40, (15, 41, [0], [])), (41, (91, 44, [7, 6, 147], [])), (44, (11, 45, [2], [])), (45, (80, 46, [], [])), (46, (15, 47, [0], [])), (47, (91, 50, [7, 9, 150], [])), (50, (11, 51, [1], [])), (51, (80, 52, [], [])), (52, (30, 53, [], [])), (53, (110, 54, [], [])), (54, (15, 55, [0], [])), (55, (91, 58, [7, 6, 147], [])), (58, (11, 59, [2], [])), (59, (80, 60, [], [])), (60, (15, 61, [0], [])), (61, (91, 64, [7, 10, 151], [])), (64, (11, 65, [1], [])), (65, (80, 66, [], [])), (66, (31, 67, [], [])), (67, (110, 68, [], [])), (68, (15, 69, [0], [])), (69, (91, 72, [7, 6, 147], [])), (72, (11, 73, [2], [])), (73, (80, 74, [], [])), (74, (15, 75, [0], [])), (75, (91, 78, [7, 9, 150], [])), (78, (11, 79, [1], [])), (79, (80, 80, [], [])), (80, (31, 81, [], [])), (81, (110, 82, [], [])), (82, (15, 83, [0], [])), (83, (91, 86, [7, 6, 147], [])), (86, (11, 87, [2], [])), (87, (80, 88, [], [])), (88, (15, 89, [0], [])), (89, (91, 92, [7, 10, 151], [])), (92, (11, 93, [1], [])), (93, (80, 94, [], [])), (94, (30, 95, [], [])), (95, (110, 96, [], []))]
/-- PitInspector$Survey.trueX(I)I -/
noncomputable def mt_76 : MTy := (⟨"PitInspector$Survey", "trueX", "(I)I"⟩, prog_10_method_13_code, 3, some .int, 7, 7, 1, (0, 0), 1, [888, 9, 887, 27], cd_76)
noncomputable def cd_77 : List (Nat × Ins) := [(0, (15, 1, [0], [])), (1, (91, 4, [7, 8, 149], [])), (4, (11, 5, [1], [])), (5, (80, 6, [], [])), (6, (17, 7, [2], [])), (7, (15, 8, [0], [])), (8, (91, 11, [7, 5, 146], [])), (11, (11, 12, [2], [])), (12, (80, 13, [], [])), (13, (74, 40, [82, 40, 54, 68], [0, 1, 2])), (40, (15, 41, [0], [])), (41, (91, 44, [7, 7, 148], [])), (44, (11, 45, [2], [])), (45, (80, 46, [], [])), (46, (15, 47, [0], [])), (47, (91, 50, [7, 10, 151], [])), (50, (11, 51, [1], [])), (51, (80, 52, [], [])), (52, (30, 53, [], [])), (53, (110, 54, [], [])), (54, (15, 55, [0], [])), (55, (91, 58, [7, 7, 148], [])), (58, (11, 59, [2], [])), (59, (80, 60, [], [])), (60, (15, 61, [0], [])), (61, (91, 64, [7, 9, 150], [])), (64, (11, 65, [1], [])), (65, (80, 66, [], [])), (66, (30, 67, [], [])), (67, (110, 68, [], [])), (68, (15, 69, [0], [])), (69, (91, 72, [7, 7, 148], [])), (72, (11, 73, [2], [])), (73, (80, 74, [], [])), (74, (15, 75, [0], [])), (75, (91, 78, [7, 10, 151], [])), (78, (11, 79, [1], [])), (79, (80, 80, [], [])), (80, (31, 81, [], [])), (81, (110, 82, [], [])), (82, (15, 83, [0], [])), (83, (91, 86, [7, 7, 148], [])), (86, (11, 87, [2], [])), (87, (80, 88, [], [])), (88, (15, 89, [0], [])), (89, (91, 92, [7, 9, 150], [])), (92, (11, 93, [1], [])), (93, (80, 94, [], [])), (94, (31, 95, [], [])), (95, (110, 96, [], []))]
/-- PitInspector$Survey.trueY(I)I -/
noncomputable def mt_77 : MTy := (⟨"PitInspector$Survey", "trueY", "(I)I"⟩, prog_10_method_14_code, 3, some .int, 7, 7, 1, (0, 0), 1, [895, 9, 894, 28], cd_77)
noncomputable def cd_78 : List (Nat × Ins) := [(0, (15, 1, [0], [])), (1, (91, 4, [7, 4, 145], [])), (4, (15, 5, [0], [])), (5, (91, 8, [7, 8, 149], [])), (8, (11, 9, [1], [])), (9, (80, 10, [], [])), (10, (80, 11, [], [])), (11, (17, 12, [3], [])), (12, (15, 13, [0], [])), (13, (91, 16, [7, 8, 149], [])), (16, (11, 17, [1], [])), (17, (80, 18, [], [])), (18, (15, 19, [0], [])), (19, (91, 22, [7, 8, 149], [])), (22, (11, 23, [2], [])), (23, (80, 24, [], [])), (24, (67, 27, [31], [])), (27, (11, 28, [3], [])), (28, (73, 31, [44], [])), (31, (11, 32, [3], [])), (32, (15, 33, [0], [])), (33, (91, 36, [7, 4, 145], [])), (36, (15, 37, [0], [])), (37, (91, 40, [7, 8, 149], [])), (40, (11, 41, [2], [])), (41, (80, 42, [], [])), (42, (80, 43, [], [])), (43, (30, 44, [], [])), (44, (110, 45, [], []))]
/-- PitInspector$Survey.doubt(II)I -/
noncomputable def mt_78 : MTy := (⟨"PitInspector$Survey", "doubt", "(II)I"⟩, prog_10_method_16_code, 4, some .int, 7, 7, 1, (0, 0), 2, [900, 9, 899, 29], cd_78)
noncomputable def cd_79 : List (Nat × Ins) := [(0, (1, 1, [], [0])), (1, (17, 2, [3], [])), (2, (1, 3, [], [0])), (3, (16, 5, [4], [])), (5, (10, 7, [4], [])), (7, (15, 8, [0], [])), (8, (90, 11, [8, 13, 69], [])), (11, (69, 14, [45], [])), (14, (15, 15, [0], [])), (15, (91, 18, [8, 14, 64], [])), (18, (10, 20, [4], [])), (20, (80, 21, [], [])), (21, (11, 22, [1], [])), (22, (67, 25, [39], [])), (25, (15, 26, [0], [])), (26, (91, 29, [8, 15, 65], [])), (29, (10, 31, [4], [])), (31, (80, 32, [], [])), (32, (11, 33, [2], [])), (33, (71, 36, [39], [])), (36, (22, 39, [3], [1])), (39, (22, 42, [4], [1])), (42, (73, 45, [5], [])), (45, (11, 46, [3], [])), (46, (110, 47, [], []))]
/-- PitInspector$Crew.shotsAfter(II)I -/
noncomputable def mt_79 : MTy := (⟨"PitInspector$Crew", "shotsAfter", "(II)I"⟩, prog_3_method_12_code, 5, some .int, 8, 8, 1, (0, 0), 2, [905, 10, 903, 1017], cd_79)
noncomputable def cd_80 : List (Nat × Ins) := [(0, (15, 1, [0], [])), (1, (11, 2, [1], [])), (2, (11, 3, [2], [])), (3, (100, 6, [55, 3, 133], [])), (6, (61, 9, [11], [])), (9, (1, 10, [], [-1])), (10, (110, 11, [], [])), (11, (15, 12, [0], [])), (12, (91, 15, [2, 2, 78], [])), (15, (11, 16, [1], [])), (16, (83, 17, [], [])), (17, (91, 20, [3, 6, 91], [])), (20, (11, 21, [2], [])), (21, (80, 22, [], [])), (22, (17, 23, [3], [])), (23, (11, 24, [3], [])), (24, (2, 26, [], [102])), (26, (66, 29, [35], [])), (29, (11, 30, [3], [])), (30, (2, 32, [], [120])), (32, (67, 35, [39], [])), (35, (1, 36, [], [1])), (36, (73, 39, [50], [])), (39, (15, 40, [0], [])), (40, (15, 41, [0], [])), (41, (91, 44, [2, 2, 78], [])), (44, (11, 45, [1], [])), (45, (83, 46, [], [])), (46, (11, 47, [2], [])), (47, (100, 50, [81, 3, 127], [])), (50, (110, 51, [], []))]
/-- PitInspector$Laws.clauseHolds(II)I -/
noncomputable def mt_80 : MTy := (⟨"PitInspector$Laws", "clauseHolds", "(II)I"⟩, prog_5_method_19_code, 4, some .int, 2, 2, 1, (0, 0), 2, [909, 3, 907, 1021], cd_80)
noncomputable def cd_81 : List (Nat × Ins) := [(0, (1, 1, [], [0])), (1, (17, 2, [3], [])), (2, (15, 3, [1], [])), (3, (91, 6, [3, 11, 95], [])), (6, (11, 7, [2], [])), (7, (80, 8, [], [])), (8, (16, 10, [4], [])), (10, (10, 12, [4], [])), (12, (15, 13, [1], [])), (13, (91, 16, [3, 12, 96], [])), (16, (11, 17, [2], [])), (17, (80, 18, [], [])), (18, (69, 21, [287], [])), (21, (15, 22, [1], [])), (22, (91, 25, [3, 14, 97], [])), (25, (10, 27, [4], [])), (27, (80, 28, [], [])), (28, (3, 31, [], [255])), (31, (39, 32, [], [])), (32, (16, 34, [5], [])), (34, (15, 35, [1], [])), (35, (91, 38, [3, 14, 97], [])), (38, (10, 40, [4], [])), (40, (80, 41, [], [])), (41, (2, 43, [], [8])), (43, (37, 44, [], [])), (44, (16, 46, [6], [])), (46, (10, 48, [5], [])), (48, (2, 50, [], [110])), (50, (66, 53, [60], [])), (53, (10, 55, [5], [])), (55, (2, 57, [], [108])), (57, (67, 60, [103], [])), (60, (11, 61, [3], [])), (61, (15, 62, [0], [])), (62, (91, 65, [2, 6, 81], [])), (65, (88, 66, [], [])), (66, (68, 69, [71], [])), (69, (1, 70, [], [2])), (70, (110, 71, [], [])), (71, (15, 72, [0], [])), (72, (91, 75, [2, 6, 81], [])), (75, (11, 76, [3], [])), (76, (10, 78, [5], [])), (78, (2, 80, [], [110])), (80, (67, 83, [89], [])), (83, (10, 85, [6], [])), (85, (42, 86, [], [])), (86, (73, 89, [96], [])), (89, (15, 90, [0], [])), (90, (91, 93, [2, 0, 77], [])), (93, (10, 95, [6], [])), (95, (82, 96, [], [])), (96, (86, 97, [], [])), (97, (22, 100, [3], [1])), (100, (73, 103, [281], [])), (103, (11, 104, [3], [])), (104, (1, 105, [], [1])), (105, (69, 108, [110], [])), (108, (1, 109, [], [2])), (109, (110, 110, [], [])), (110, (10, 112, [5], [])), (112, (2, 114, [], [33])), (114, (67, 117, [138], [])), (117, (15, 118, [0], [])), (118, (91, 121, [2, 6, 81], [])), (121, (11, 122, [3], [])), (122, (1, 123, [], [1])), (123, (31, 124, [], [])), (124, (6, 125, [], [1])), (125, (15, 126, [0], [])), (126, (91, 129, [2, 6, 81], [])), (129, (11, 130, [3], [])), (130, (1, 131, [], [1])), (131, (31, 132, [], [])), (132, (82, 133, [], [])), (133, (47, 134, [], [])), (134, (86, 135, [], [])), (135, (73, 138, [281], [])), (138, (10, 140, [5], [])), (140, (2, 142, [], [38])), (142, (66, 145, [152], [])), (145, (10, 147, [5], [])), (147, (2, 149, [], [124])), (149, (67, 152, [205], [])), (152, (15, 153, [0], [])), (153, (91, 156, [2, 6, 81], [])), (156, (11, 157, [3], [])), (157, (1, 158, [], [1])), (158, (31, 159, [], [])), (159, (82, 160, [], [])), (160, (6, 161, [], [0])), (161, (51, 162, [], [])), (162, (60, 165, [169], [])), (165, (1, 166, [], [1])), (166, (73, 169, [170], [])), (169, (1, 170, [], [0])), (170, (10, 172, [5], [])), (172, (2, 174, [], [124])), (174, (67, 177, [181], [])), (177, (1, 178, [], [1])), (178, (73, 181, [182], [])), (181, (1, 182, [], [0])), (182, (67, 185, [199], [])), (185, (10, 187, [4], [])), (187, (10, 189, [6], [])), (189, (1, 190, [], [1])), (190, (31, 191, [], [])), (191, (79, 194, [144], [])), (194, (16, 196, [4], [])), (196, (73, 199, [281], [])), (199, (22, 202, [3], [-1])), (202, (73, 205, [281], [])), (205, (10, 207, [5], [])), (207, (2, 209, [], [47])), (209, (66, 212, [219], [])), (212, (10, 214, [5], [])), (214, (2, 216, [], [37])), (216, (67, 219, [223], [])), (219, (1, 220, [], [1])), (220, (73, 223, [224], [])), (223, (1, 224, [], [0])), (224, (16, 226, [7], [])), (226, (11, 227, [3], [])), (227, (1, 228, [], [2])), (228, (68, 231, [249], [])), (231, (10, 233, [7], [])), (233, (60, 236, [251], [])), (236, (15, 237, [0], [])), (237, (91, 240, [2, 6, 81], [])), (240, (11, 241, [3], [])), (241, (1, 242, [], [1])), (242, (31, 243, [], [])), (243, (82, 244, [], [])), (244, (6, 245, [], [0])), (245, (51, 246, [], [])), (246, (61, 249, [251], [])), (249, (1, 250, [], [2])), (250, (110, 251, [], [])), (251, (22, 254, [3], [-1])), (254, (15, 255, [0], [])), (255, (91, 258, [2, 6, 81], [])), (258, (11, 259, [3], [])), (259, (1, 260, [], [1])), (260, (31, 261, [], [])), (261, (10, 263, [5], [])), (263, (15, 264, [0], [])), (264, (91, 267, [2, 6, 81], [])), (267, (11, 268, [3], [])), (268, (1, 269, [], [1])), (269, (31, 270, [], [])), (270, (82, 271, [], [])), (271, (15, 272, [0], [])), (272, (91, 275, [2, 6, 81], [])), (275, (11, 276, [3], [])), (276, (82, 277, [], [])), (277, (102, 280, [82, 3, 134], [])), (280, (86, 281, [], [])), (281, (22, 284, [4], [1])), (284, (73, 287, [10], [])), (287, (11, 288, [3], [])), (288, (1, 289, [], [1])), (289, (67, 292, [307], [])), (292, (15, 293, [0], [])), (293, (91, 296, [2, 6, 81], [])), (296, (1, 297, [], [0])), (297, (82, 298, [], [])), (298, (6, 299, [], [0])), (299, (51, 300, [], [])), (300, (60, 303, [307], [])), (303, (1, 304, [], [1])), (304, (73, 307, [308], [])), (307, (1, 308, [], [0])), (308, (110, 309, [], []))]
/-- PitInspector$Laws.reckon(LPitInspector$Text;I)I -/
noncomputable def mt_81 : MTy := (⟨"PitInspector$Laws", "reckon", "(LPitInspector$Text;I)I"⟩, prog_5_method_20_code, 8, some .int, 2, 2, 1, (0, 0), 2, [914, 3, 913, 30], cd_81)
noncomputable def cd_82 : List (Nat × Ins) := [(0, (11, 1, [0], [])), (1, (75, 68, [132, 94, 76, 68, 72, 80, 108, 120], [37, 42, 43, 45, 47, 60, 62])), (68, (13, 69, [1], [])), (69, (13, 70, [3], [])), (70, (46, 71, [], [])), (71, (111, 72, [], [])), (72, (13, 73, [1], [])), (73, (13, 74, [3], [])), (74, (47, 75, [], [])), (75, (111, 76, [], [])), (76, (13, 77, [1], [])), (77, (13, 78, [3], [])), (78, (48, 79, [], [])), (79, (111, 80, [], [])), (80, (13, 81, [3], [])), (81, (6, 82, [], [0])), (82, (51, 83, [], [])), (83, (61, 86, [90], [])), (86, (6, 87, [], [0])), (87, (73, 90, [93], [])), (90, (13, 91, [1], [])), (91, (13, 92, [3], [])), (92, (49, 93, [], [])), (93, (111, 94, [], [])), (94, (13, 95, [3], [])), (95, (6, 96, [], [0])), (96, (51, 97, [], [])), (97, (61, 100, [104], [])), (100, (6, 101, [], [0])), (101, (73, 104, [107], [])), (104, (13, 105, [1], [])), (105, (13, 106, [3], [])), (106, (50, 107, [], [])), (107, (111, 108, [], [])), (108, (13, 109, [1], [])), (109, (13, 110, [3], [])), (110, (51, 111, [], [])), (111, (63, 114, [118], [])), (114, (6, 115, [], [1])), (115, (73, 118, [119], [])), (118, (6, 119, [], [0])), (119, (111, 120, [], [])), (120, (13, 121, [1], [])), (121, (13, 122, [3], [])), (122, (51, 123, [], [])), (123, (65, 126, [130], [])), (126, (6, 127, [], [1])), (127, (73, 130, [131], [])), (130, (6, 131, [], [0])), (131, (111, 132, [], [])), (132, (13, 133, [1], [])), (133, (13, 134, [3], [])), (134, (51, 135, [], [])), (135, (61, 138, [142], [])), (138, (6, 139, [], [1])), (139, (73, 142, [143], [])), (142, (6, 143, [], [0])), (143, (111, 144, [], []))]
/-- PitInspector$Laws.apply(IJJ)J -/
noncomputable def mt_82 : MTy := (⟨"PitInspector$Laws", "apply", "(IJJ)J"⟩, prog_5_method_21_code, 5, some .long, 2, 50, 3, (0, 0), 3, [918, 3, 917, 0], cd_82)
noncomputable def cd_83 : List (Nat × Ins) := [(0, (15, 1, [0], [])), (1, (91, 4, [0, 3, 1], [])), (4, (11, 5, [1], [])), (5, (100, 8, [18, 2, 12], [])), (8, (60, 11, [19], [])), (11, (15, 12, [0], [])), (12, (11, 13, [1], [])), (13, (100, 16, [84, 2, 23], [])), (16, (73, 19, [20], [])), (19, (1, 20, [], [-1])), (20, (110, 21, [], []))]
/-- PitInspector.broken(I)I -/
noncomputable def mt_83 : MTy := (⟨"PitInspector", "broken", "(I)I"⟩, prog_1_method_10_code, 2, some .int, 0, 0, 1, (0, 0), 1, [922, 1, 920, 1034], cd_83)
noncomputable def cd_84 : List (Nat × Ins) := [(0, (15, 1, [0], [])), (1, (11, 2, [1], [])), (2, (100, 5, [56, 2, 21], [])), (5, (15, 6, [0], [])), (6, (91, 9, [0, 4, 2], [])), (9, (11, 10, [1], [])), (10, (15, 11, [0], [])), (11, (100, 14, [47, 1, 18], [])), (14, (100, 17, [85, 3, 92], [])), (17, (110, 18, [], []))]
/-- PitInspector.brokenBy(I)I -/
noncomputable def mt_84 : MTy := (⟨"PitInspector", "brokenBy", "(I)I"⟩, prog_1_method_62_code, 2, some .int, 0, 0, 1, (0, 0), 1, [926, 1, 925, 31], cd_84)
noncomputable def cd_85 : List (Nat × Ins) := [(0, (15, 1, [0], [])), (1, (11, 2, [1], [])), (2, (11, 3, [2], [])), (3, (100, 6, [51, 3, 123], [])), (6, (15, 7, [0], [])), (7, (1, 8, [], [0])), (8, (92, 11, [2, 8, 94], [])), (11, (1, 12, [], [0])), (12, (17, 13, [3], [])), (13, (11, 14, [3], [])), (14, (15, 15, [0], [])), (15, (90, 18, [2, 1, 83], [])), (18, (69, 21, [105], [])), (21, (1, 22, [], [0])), (22, (16, 24, [4], [])), (24, (10, 26, [4], [])), (26, (15, 27, [0], [])), (27, (91, 30, [2, 2, 78], [])), (30, (11, 31, [3], [])), (31, (83, 32, [], [])), (32, (90, 35, [3, 5, 85], [])), (35, (69, 38, [99], [])), (38, (15, 39, [0], [])), (39, (91, 42, [2, 2, 78], [])), (42, (11, 43, [3], [])), (43, (83, 44, [], [])), (44, (11, 45, [1], [])), (45, (11, 46, [2], [])), (46, (100, 49, [49, 3, 122], [])), (49, (60, 52, [99], [])), (52, (15, 53, [0], [])), (53, (15, 54, [0], [])), (54, (91, 57, [2, 2, 78], [])), (57, (11, 58, [3], [])), (58, (83, 59, [], [])), (59, (10, 61, [4], [])), (61, (100, 64, [86, 3, 126], [])), (64, (60, 67, [93], [])), (67, (15, 68, [0], [])), (68, (91, 71, [2, 7, 82], [])), (71, (15, 72, [0], [])), (72, (90, 75, [2, 8, 94], [])), (75, (11, 76, [3], [])), (76, (2, 78, [], [12])), (78, (32, 79, [], [])), (79, (10, 81, [4], [])), (81, (30, 82, [], [])), (82, (84, 83, [], [])), (83, (15, 84, [0], [])), (84, (56, 85, [], [])), (85, (90, 88, [2, 8, 94], [])), (88, (1, 89, [], [1])), (89, (30, 90, [], [])), (90, (92, 93, [2, 8, 94], [])), (93, (22, 96, [4], [1])), (96, (73, 99, [24], [])), (99, (22, 102, [3], [1])), (102, (73, 105, [13], [])), (105, (15, 106, [0], [])), (106, (90, 109, [2, 8, 94], [])), (109, (110, 110, [], []))]
/-- PitInspector$Laws.findBroken(II)I -/
noncomputable def mt_85 : MTy := (⟨"PitInspector$Laws", "findBroken", "(II)I"⟩, prog_5_method_11_code, 5, some .int, 2, 2, 1, (0, 0), 2, [930, 3, 928, 1042], cd_85)
noncomputable def cd_86 : List (Nat × Ins) := [(0, (15, 1, [1], [])), (1, (11, 2, [2], [])), (2, (100, 5, [52, 2, 124], [])), (5, (60, 8, [10], [])), (8, (1, 9, [], [0])), (9, (110, 10, [], [])), (10, (15, 11, [1], [])), (11, (91, 14, [3, 6, 91], [])), (14, (11, 15, [2], [])), (15, (80, 16, [], [])), (16, (2, 18, [], [100])), (18, (67, 21, [37], [])), (21, (15, 22, [0], [])), (22, (15, 23, [1], [])), (23, (11, 24, [2], [])), (24, (100, 27, [81, 3, 127], [])), (27, (1, 28, [], [1])), (28, (66, 31, [35], [])), (31, (1, 32, [], [1])), (32, (73, 35, [36], [])), (35, (1, 36, [], [0])), (36, (110, 37, [], [])), (37, (15, 38, [1], [])), (38, (91, 41, [3, 6, 91], [])), (41, (11, 42, [2], [])), (42, (80, 43, [], [])), (43, (2, 45, [], [110])), (45, (67, 48, [61], [])), (48, (15, 49, [0], [])), (49, (15, 50, [1], [])), (50, (11, 51, [2], [])), (51, (100, 54, [81, 3, 127], [])), (54, (60, 57, [61], [])), (57, (1, 58, [], [1])), (58, (73, 61, [62], [])), (61, (1, 62, [], [0])), (62, (110, 63, [], []))]
/-- PitInspector$Laws.isBroken(LPitInspector$Text;I)Z -/
noncomputable def mt_86 : MTy := (⟨"PitInspector$Laws", "isBroken", "(LPitInspector$Text;I)Z"⟩, prog_5_method_12_code, 3, some .boolean, 2, 2, 2, (0, 0), 2, [934, 3, 933, 32], cd_86)
noncomputable def cd_87 : List (Nat × Ins) := [(0, (15, 1, [0], [])), (1, (91, 4, [0, 3, 1], [])), (4, (11, 5, [1], [])), (5, (100, 8, [18, 2, 12], [])), (8, (60, 11, [20], [])), (11, (11, 12, [3], [])), (12, (1, 13, [], [0])), (13, (1, 14, [], [1])), (14, (102, 17, [13, 3, 9], [])), (17, (61, 20, [22], [])), (20, (1, 21, [], [-1])), (21, (110, 22, [], [])), (22, (11, 23, [2], [])), (23, (1, 24, [], [0])), (24, (15, 25, [0], [])), (25, (11, 26, [1], [])), (26, (100, 29, [84, 2, 23], [])), (29, (1, 30, [], [1])), (30, (31, 31, [], [])), (31, (102, 34, [13, 3, 9], [])), (34, (61, 37, [39], [])), (37, (1, 38, [], [-1])), (38, (110, 39, [], [])), (39, (11, 40, [3], [])), (40, (61, 43, [54], [])), (43, (15, 44, [0], [])), (44, (91, 47, [0, 4, 2], [])), (47, (11, 48, [2], [])), (48, (100, 51, [88, 2, 24], [])), (51, (73, 54, [62], [])), (54, (15, 55, [0], [])), (55, (91, 58, [0, 4, 2], [])), (58, (11, 59, [2], [])), (59, (100, 62, [89, 2, 25], [])), (62, (110, 63, [], []))]
/-- PitInspector.brokenAt(III)I -/
noncomputable def mt_87 : MTy := (⟨"PitInspector", "brokenAt", "(III)I"⟩, prog_1_method_11_code, 4, some .int, 0, 0, 1, (0, 0), 3, [938, 1, 936, 1050], cd_87)
noncomputable def cd_88 : List (Nat × Ins) := [(0, (11, 1, [1], [])), (1, (1, 2, [], [0])), (2, (15, 3, [0], [])), (3, (90, 6, [2, 8, 94], [])), (6, (1, 7, [], [1])), (7, (31, 8, [], [])), (8, (103, 11, [13, 3, 128], [])), (11, (60, 14, [26], [])), (14, (15, 15, [0], [])), (15, (91, 18, [2, 7, 82], [])), (18, (11, 19, [1], [])), (19, (80, 20, [], [])), (20, (2, 22, [], [12])), (22, (33, 23, [], [])), (23, (73, 26, [27], [])), (26, (1, 27, [], [-1])), (27, (110, 28, [], []))]
/-- PitInspector$Laws.brokenText(I)I -/
noncomputable def mt_88 : MTy := (⟨"PitInspector$Laws", "brokenText", "(I)I"⟩, prog_5_method_13_code, 2, some .int, 2, 2, 1, (0, 0), 1, [942, 3, 940, 1054], cd_88)
noncomputable def cd_89 : List (Nat × Ins) := [(0, (11, 1, [1], [])), (1, (1, 2, [], [0])), (2, (15, 3, [0], [])), (3, (90, 6, [2, 8, 94], [])), (6, (1, 7, [], [1])), (7, (31, 8, [], [])), (8, (103, 11, [13, 3, 128], [])), (11, (60, 14, [26], [])), (14, (15, 15, [0], [])), (15, (91, 18, [2, 7, 82], [])), (18, (11, 19, [1], [])), (19, (80, 20, [], [])), (20, (2, 22, [], [12])), (22, (34, 23, [], [])), (23, (73, 26, [27], [])), (26, (1, 27, [], [-1])), (27, (110, 28, [], []))]
/-- PitInspector$Laws.brokenClause(I)I -/
noncomputable def mt_89 : MTy := (⟨"PitInspector$Laws", "brokenClause", "(I)I"⟩, prog_5_method_14_code, 2, some .int, 2, 2, 1, (0, 0), 1, [947, 3, 945, 1059], cd_89)
noncomputable def cd_90 : List (Nat × Ins) := [(0, (15, 1, [0], [])), (1, (91, 4, [0, 3, 1], [])), (4, (11, 5, [1], [])), (5, (100, 8, [18, 2, 12], [])), (8, (61, 11, [15], [])), (11, (7, 14, [0], [-1])), (14, (111, 15, [], [])), (15, (15, 16, [0], [])), (16, (11, 17, [1], [])), (17, (100, 20, [84, 2, 23], [])), (20, (58, 21, [], [])), (21, (15, 22, [0], [])), (22, (91, 25, [0, 4, 2], [])), (25, (100, 28, [91, 1, 26], [])), (28, (111, 29, [], []))]
/-- PitInspector.fine(I)J -/
noncomputable def mt_90 : MTy := (⟨"PitInspector", "fine", "(I)J"⟩, prog_1_method_12_code, 2, some .long, 0, 0, 3, (0, 0), 1, [951, 1, 949, 1063], cd_90)
noncomputable def cd_91 : List (Nat × Ins) := [(0, (6, 1, [], [0])), (1, (19, 2, [1], [])), (2, (1, 3, [], [0])), (3, (17, 4, [3], [])), (4, (11, 5, [3], [])), (5, (15, 6, [0], [])), (6, (90, 9, [2, 8, 94], [])), (9, (69, 12, [39], [])), (12, (13, 13, [1], [])), (13, (15, 14, [0], [])), (14, (91, 17, [2, 2, 78], [])), (17, (15, 18, [0], [])), (18, (91, 21, [2, 7, 82], [])), (21, (11, 22, [3], [])), (22, (80, 23, [], [])), (23, (2, 25, [], [12])), (25, (33, 26, [], [])), (26, (83, 27, [], [])), (27, (100, 30, [92, 1, 129], [])), (30, (42, 31, [], [])), (31, (46, 32, [], [])), (32, (19, 33, [1], [])), (33, (22, 36, [3], [1])), (36, (73, 39, [4], [])), (39, (13, 40, [1], [])), (40, (111, 41, [], []))]
/-- PitInspector$Laws.fineOfBroken()J -/
noncomputable def mt_91 : MTy := (⟨"PitInspector$Laws", "fineOfBroken", "()J"⟩, prog_5_method_15_code, 4, some .long, 2, 2, 3, (0, 0), 0, [956, 3, 954, 1068], cd_91)
noncomputable def cd_92 : List (Nat × Ins) := [(0, (15, 1, [0], [])), (1, (90, 4, [3, 5, 168], [])), (4, (1, 5, [], [1])), (5, (31, 6, [], [])), (6, (17, 7, [1], [])), (7, (11, 8, [1], [])), (8, (62, 11, [43], [])), (11, (15, 12, [0], [])), (12, (91, 15, [3, 6, 159], [])), (15, (11, 16, [1], [])), (16, (80, 17, [], [])), (17, (2, 19, [], [102])), (19, (67, 22, [37], [])), (22, (15, 23, [0], [])), (23, (11, 24, [1], [])), (24, (100, 27, [52, 2, 185], [])), (27, (61, 30, [37], [])), (30, (15, 31, [0], [])), (31, (91, 34, [3, 7, 160], [])), (34, (11, 35, [1], [])), (35, (80, 36, [], [])), (36, (110, 37, [], [])), (37, (22, 40, [1], [-1])), (40, (73, 43, [7], [])), (43, (1, 44, [], [0])), (44, (110, 45, [], []))]
/-- PitInspector$Text.lastFine()I -/
noncomputable def mt_92 : MTy := (⟨"PitInspector$Text", "lastFine", "()I"⟩, prog_11_method_7_code, 2, some .int, 3, 3, 1, (0, 0), 0, [960, 4, 958, 1072], cd_92)
noncomputable def cd_93 : List (Nat × Ins) := [(0, (15, 1, [0], [])), (1, (91, 4, [0, 4, 2], [])), (4, (11, 5, [1], [])), (5, (100, 8, [94, 2, 27], [])), (8, (61, 11, [13], [])), (11, (1, 12, [], [-1])), (12, (110, 13, [], [])), (13, (15, 14, [0], [])), (14, (91, 17, [0, 4, 2], [])), (17, (11, 18, [1], [])), (18, (15, 19, [0], [])), (19, (100, 22, [47, 1, 18], [])), (22, (100, 25, [95, 3, 28], [])), (25, (60, 28, [32], [])), (28, (1, 29, [], [1])), (29, (73, 32, [33], [])), (32, (1, 33, [], [0])), (33, (110, 34, [], []))]
/-- PitInspector.within(I)I -/
noncomputable def mt_93 : MTy := (⟨"PitInspector", "within", "(I)I"⟩, prog_1_method_13_code, 2, some .int, 0, 0, 1, (0, 0), 1, [965, 1, 963, 1077], cd_93)
noncomputable def cd_94 : List (Nat × Ins) := [(0, (15, 1, [0], [])), (1, (11, 2, [1], [])), (2, (100, 5, [46, 2, 118], [])), (5, (60, 8, [25], [])), (8, (15, 9, [0], [])), (9, (91, 12, [2, 2, 78], [])), (12, (11, 13, [1], [])), (13, (83, 14, [], [])), (14, (90, 17, [3, 0, 84], [])), (17, (1, 18, [], [-1])), (18, (66, 21, [25], [])), (21, (1, 22, [], [1])), (22, (73, 25, [26], [])), (25, (1, 26, [], [0])), (26, (110, 27, [], []))]
/-- PitInspector$Laws.areRules(I)Z -/
noncomputable def mt_94 : MTy := (⟨"PitInspector$Laws", "areRules", "(I)Z"⟩, prog_5_method_4_code, 2, some .boolean, 2, 2, 2, (0, 0), 1, [969, 3, 967, 1081], cd_94)
noncomputable def cd_95 : List (Nat × Ins) := [(0, (1, 1, [], [0])), (1, (17, 2, [3], [])), (2, (11, 3, [3], [])), (3, (15, 4, [0], [])), (4, (90, 7, [2, 1, 83], [])), (7, (69, 10, [62], [])), (10, (15, 11, [0], [])), (11, (91, 14, [2, 2, 78], [])), (14, (11, 15, [3], [])), (15, (83, 16, [], [])), (16, (90, 19, [3, 0, 84], [])), (19, (1, 20, [], [-1])), (20, (67, 23, [56], [])), (23, (15, 24, [0], [])), (24, (91, 27, [2, 2, 78], [])), (27, (11, 28, [3], [])), (28, (83, 29, [], [])), (29, (11, 30, [2], [])), (30, (100, 33, [50, 2, 130], [])), (33, (60, 36, [56], [])), (36, (15, 37, [0], [])), (37, (91, 40, [2, 2, 78], [])), (40, (11, 41, [1], [])), (41, (83, 42, [], [])), (42, (15, 43, [0], [])), (43, (91, 46, [2, 2, 78], [])), (46, (11, 47, [3], [])), (47, (83, 48, [], [])), (48, (102, 51, [96, 2, 131], [])), (51, (60, 54, [56], [])), (54, (1, 55, [], [0])), (55, (110, 56, [], [])), (56, (22, 59, [3], [1])), (59, (73, 62, [2], [])), (62, (1, 63, [], [1])), (63, (110, 64, [], []))]
/-- PitInspector$Laws.isWithinActs(II)Z -/
noncomputable def mt_95 : MTy := (⟨"PitInspector$Laws", "isWithinActs", "(II)Z"⟩, prog_5_method_17_code, 4, some .boolean, 2, 2, 2, (0, 0), 2, [973, 3, 971, 1085], cd_95)
noncomputable def cd_96 : List (Nat × Ins) := [(0, (1, 1, [], [0])), (1, (17, 2, [2], [])), (2, (11, 3, [2], [])), (3, (15, 4, [0], [])), (4, (90, 7, [3, 5, 85], [])), (7, (69, 10, [100], [])), (10, (1, 11, [], [0])), (11, (17, 12, [3], [])), (12, (11, 13, [3], [])), (13, (15, 14, [1], [])), (14, (90, 17, [3, 5, 85], [])), (17, (69, 20, [94], [])), (20, (15, 21, [0], [])), (21, (91, 24, [3, 6, 91], [])), (24, (11, 25, [2], [])), (25, (80, 26, [], [])), (26, (2, 28, [], [100])), (28, (67, 31, [42], [])), (31, (15, 32, [1], [])), (32, (91, 35, [3, 6, 91], [])), (35, (11, 36, [3], [])), (36, (80, 37, [], [])), (37, (2, 39, [], [110])), (39, (66, 42, [64], [])), (42, (15, 43, [0], [])), (43, (91, 46, [3, 6, 91], [])), (46, (11, 47, [2], [])), (47, (80, 48, [], [])), (48, (2, 50, [], [110])), (50, (67, 53, [68], [])), (53, (15, 54, [1], [])), (54, (91, 57, [3, 6, 91], [])), (57, (11, 58, [3], [])), (58, (80, 59, [], [])), (59, (2, 61, [], [100])), (61, (67, 64, [68], [])), (64, (1, 65, [], [1])), (65, (73, 68, [69], [])), (68, (1, 69, [], [0])), (69, (16, 71, [4], [])), (71, (10, 73, [4], [])), (73, (60, 76, [88], [])), (76, (15, 77, [0], [])), (77, (11, 78, [2], [])), (78, (15, 79, [1], [])), (79, (11, 80, [3], [])), (80, (100, 83, [97, 4, 132], [])), (83, (60, 86, [88], [])), (86, (1, 87, [], [1])), (87, (110, 88, [], [])), (88, (22, 91, [3], [1])), (91, (73, 94, [12], [])), (94, (22, 97, [2], [1])), (97, (73, 100, [2], [])), (100, (1, 101, [], [0])), (101, (110, 102, [], []))]
/-- PitInspector$Laws.areAtOdds(LPitInspector$Text;LPitInspector$Text;)Z -/
noncomputable def mt_96 : MTy := (⟨"PitInspector$Laws", "areAtOdds", "(LPitInspector$Text;LPitInspector$Text;)Z"⟩, prog_5_method_18_code, 5, some .boolean, 2, 50, 2, (0, 0), 2, [977, 3, 976, 0], cd_96)
noncomputable def cd_97 : List (Nat × Ins) := [(0, (15, 1, [0], [])), (1, (91, 4, [3, 10, 163], [])), (4, (11, 5, [1], [])), (5, (80, 6, [], [])), (6, (15, 7, [0], [])), (7, (91, 10, [3, 9, 162], [])), (10, (11, 11, [1], [])), (11, (80, 12, [], [])), (12, (31, 13, [], [])), (13, (16, 15, [4], [])), (15, (10, 17, [4], [])), (17, (15, 18, [2], [])), (18, (91, 21, [3, 10, 163], [])), (21, (11, 22, [3], [])), (22, (80, 23, [], [])), (23, (15, 24, [2], [])), (24, (91, 27, [3, 9, 162], [])), (27, (11, 28, [3], [])), (28, (80, 29, [], [])), (29, (31, 30, [], [])), (30, (66, 33, [35], [])), (33, (1, 34, [], [0])), (34, (110, 35, [], [])), (35, (1, 36, [], [0])), (36, (16, 38, [5], [])), (38, (10, 40, [5], [])), (40, (10, 42, [4], [])), (42, (69, 45, [84], [])), (45, (15, 46, [0], [])), (46, (91, 49, [3, 4, 158], [])), (49, (15, 50, [0], [])), (50, (91, 53, [3, 9, 162], [])), (53, (11, 54, [1], [])), (54, (80, 55, [], [])), (55, (10, 57, [5], [])), (57, (30, 58, [], [])), (58, (81, 59, [], [])), (59, (15, 60, [2], [])), (60, (91, 63, [3, 4, 158], [])), (63, (15, 64, [2], [])), (64, (91, 67, [3, 9, 162], [])), (67, (11, 68, [3], [])), (68, (80, 69, [], [])), (69, (10, 71, [5], [])), (71, (30, 72, [], [])), (72, (81, 73, [], [])), (73, (66, 76, [78], [])), (76, (1, 77, [], [0])), (77, (110, 78, [], [])), (78, (22, 81, [5], [1])), (81, (73, 84, [38], [])), (84, (1, 85, [], [1])), (85, (110, 86, [], []))]
/-- PitInspector$Text.hasSameCondition(ILPitInspector$Text;I)Z -/
noncomputable def mt_97 : MTy := (⟨"PitInspector$Text", "hasSameCondition", "(ILPitInspector$Text;I)Z"⟩, prog_11_method_6_code, 6, some .boolean, 3, 3, 2, (0, 0), 3, [981, 4, 979, 1093], cd_97)
noncomputable def cd_98 : List (Nat × Ins) := [(0, (15, 1, [0], [])), (1, (91, 4, [0, 3, 1], [])), (4, (11, 5, [1], [])), (5, (100, 8, [18, 2, 12], [])), (8, (60, 11, [22], [])), (11, (15, 12, [0], [])), (12, (91, 15, [0, 5, 3], [])), (15, (11, 16, [1], [])), (16, (100, 19, [99, 2, 29], [])), (19, (73, 22, [23], [])), (22, (1, 23, [], [-1])), (23, (110, 24, [], []))]
/-- PitInspector.place(I)I -/
noncomputable def mt_98 : MTy := (⟨"PitInspector", "place", "(I)I"⟩, prog_1_method_14_code, 2, some .int, 0, 0, 1, (0, 0), 1, [985, 1, 983, 1097], cd_98)
noncomputable def cd_99 : List (Nat × Ins) := [(0, (15, 1, [0], [])), (1, (90, 4, [5, 0, 117], [])), (4, (2, 6, [], [80])), (6, (68, 9, [11], [])), (9, (1, 10, [], [-1])), (10, (110, 11, [], [])), (11, (15, 12, [0], [])), (12, (91, 15, [5, 10, 112], [])), (15, (15, 16, [0], [])), (16, (90, 19, [5, 0, 117], [])), (19, (11, 20, [1], [])), (20, (84, 21, [], [])), (21, (15, 22, [0], [])), (22, (91, 25, [5, 11, 113], [])), (25, (11, 26, [1], [])), (26, (80, 27, [], [])), (27, (1, 28, [], [-1])), (28, (67, 31, [41], [])), (31, (15, 32, [0], [])), (32, (91, 35, [5, 11, 113], [])), (35, (11, 36, [1], [])), (36, (15, 37, [0], [])), (37, (90, 40, [5, 0, 117], [])), (40, (84, 41, [], [])), (41, (15, 42, [0], [])), (42, (91, 45, [5, 14, 116], [])), (45, (11, 46, [1], [])), (46, (2, 48, [], [-2])), (48, (84, 49, [], [])), (49, (15, 50, [0], [])), (50, (91, 53, [5, 5, 108], [])), (53, (15, 54, [0], [])), (54, (90, 57, [5, 0, 117], [])), (57, (1, 58, [], [1])), (58, (30, 59, [], [])), (59, (15, 60, [0], [])), (60, (91, 63, [5, 5, 108], [])), (63, (15, 64, [0], [])), (64, (90, 67, [5, 0, 117], [])), (67, (80, 68, [], [])), (68, (84, 69, [], [])), (69, (15, 70, [0], [])), (70, (56, 71, [], [])), (71, (90, 74, [5, 0, 117], [])), (74, (1, 75, [], [1])), (75, (30, 76, [], [])), (76, (92, 79, [5, 0, 117], [])), (79, (15, 80, [0], [])), (80, (90, 83, [5, 0, 117], [])), (83, (1, 84, [], [1])), (84, (31, 85, [], [])), (85, (110, 86, [], []))]
/-- PitInspector$Net.addPlace(I)I -/
noncomputable def mt_99 : MTy := (⟨"PitInspector$Net", "addPlace", "(I)I"⟩, prog_7_method_9_code, 2, some .int, 5, 5, 1, (0, 0), 1, [989, 6, 987, 1101], cd_99)
noncomputable def cd_100 : List (Nat × Ins) := [(0, (15, 1, [0], [])), (1, (91, 4, [0, 5, 3], [])), (4, (11, 5, [1], [])), (5, (11, 6, [2], [])), (6, (11, 7, [3], [])), (7, (10, 9, [4], [])), (9, (100, 12, [101, 5, 30], [])), (12, (16, 14, [5], [])), (14, (10, 16, [5], [])), (16, (1, 17, [], [-1])), (17, (66, 20, [36], [])), (20, (15, 21, [0], [])), (21, (91, 24, [0, 6, 4], [])), (24, (15, 25, [0], [])), (25, (91, 28, [0, 5, 3], [])), (28, (10, 30, [5], [])), (30, (100, 33, [60, 2, 31], [])), (33, (100, 36, [105, 2, 32], [])), (36, (10, 38, [5], [])), (38, (110, 39, [], []))]
/-- PitInspector.road(IIIZ)I -/
noncomputable def mt_100 : MTy := (⟨"PitInspector", "road", "(IIIZ)I"⟩, prog_1_method_15_code, 6, some .int, 0, 0, 1, (0, 0), 4, [993, 1, 991, 1105], cd_100)
noncomputable def cd_101 : List (Nat × Ins) := [(0, (15, 1, [0], [])), (1, (90, 4, [5, 1, 118], [])), (4, (3, 7, [], [150])), (7, (69, 10, [37], [])), (10, (11, 11, [1], [])), (11, (11, 12, [2], [])), (12, (66, 15, [37], [])), (15, (15, 16, [0], [])), (16, (11, 17, [1], [])), (17, (100, 20, [102, 2, 143], [])), (20, (60, 23, [37], [])), (23, (15, 24, [0], [])), (24, (11, 25, [2], [])), (25, (15, 26, [0], [])), (26, (91, 29, [5, 10, 112], [])), (29, (11, 30, [1], [])), (30, (80, 31, [], [])), (31, (100, 34, [103, 3, 144], [])), (34, (61, 37, [39], [])), (37, (1, 38, [], [-1])), (38, (110, 39, [], [])), (39, (11, 40, [3], [])), (40, (1, 41, [], [1])), (41, (2, 43, [], [100])), (43, (103, 46, [13, 3, 145], [])), (46, (61, 49, [51], [])), (49, (1, 50, [], [-1])), (50, (110, 51, [], [])), (51, (15, 52, [0], [])), (52, (90, 55, [5, 1, 118], [])), (55, (16, 57, [5], [])), (57, (15, 58, [0], [])), (58, (91, 61, [5, 2, 105], [])), (61, (10, 63, [5], [])), (63, (11, 64, [3], [])), (64, (84, 65, [], [])), (65, (15, 66, [0], [])), (66, (91, 69, [5, 9, 111], [])), (69, (10, 71, [5], [])), (71, (10, 73, [4], [])), (73, (60, 76, [80], [])), (76, (1, 77, [], [1])), (77, (73, 80, [81], [])), (80, (1, 81, [], [0])), (81, (84, 82, [], [])), (82, (15, 83, [0], [])), (83, (1, 84, [], [2])), (84, (10, 86, [5], [])), (86, (32, 87, [], [])), (87, (11, 88, [1], [])), (88, (100, 91, [104, 3, 146], [])), (91, (15, 92, [0], [])), (92, (1, 93, [], [2])), (93, (10, 95, [5], [])), (95, (32, 96, [], [])), (96, (1, 97, [], [1])), (97, (30, 98, [], [])), (98, (11, 99, [2], [])), (99, (100, 102, [104, 3, 146], [])), (102, (15, 103, [0], [])), (103, (91, 106, [5, 14, 116], [])), (106, (15, 107, [0], [])), (107, (91, 110, [5, 10, 112], [])), (110, (11, 111, [1], [])), (111, (80, 112, [], [])), (112, (2, 114, [], [-2])), (114, (84, 115, [], [])), (115, (15, 116, [0], [])), (116, (56, 117, [], [])), (117, (90, 120, [5, 1, 118], [])), (120, (1, 121, [], [1])), (121, (30, 122, [], [])), (122, (92, 125, [5, 1, 118], [])), (125, (10, 127, [5], [])), (127, (110, 128, [], []))]
/-- PitInspector$Net.addRoad(IIIZ)I -/
noncomputable def mt_101 : MTy := (⟨"PitInspector$Net", "addRoad", "(IIIZ)I"⟩, prog_7_method_10_code, 6, some .int, 5, 5, 1, (0, 0), 4, [997, 6, 995, 1109], cd_101)
noncomputable def cd_102 : List (Nat × Ins) := [(0, (11, 1, [1], [])), (1, (62, 4, [16], [])), (4, (11, 5, [1], [])), (5, (15, 6, [0], [])), (6, (90, 9, [5, 0, 117], [])), (9, (69, 12, [16], [])), (12, (1, 13, [], [1])), (13, (73, 16, [17], [])), (16, (1, 17, [], [0])), (17, (110, 18, [], []))]
/-- PitInspector$Net.hasPlace(I)Z -/
noncomputable def mt_102 : MTy := (⟨"PitInspector$Net", "hasPlace", "(I)Z"⟩, prog_7_method_2_code, 2, some .boolean, 5, 5, 2, (0, 0), 1, [1001, 6, 999, 1113], cd_102)
noncomputable def cd_103 : List (Nat × Ins) := [(0, (15, 1, [0], [])), (1, (11, 2, [1], [])), (2, (100, 5, [102, 2, 143], [])), (5, (60, 8, [22], [])), (8, (15, 9, [0], [])), (9, (91, 12, [5, 10, 112], [])), (12, (11, 13, [1], [])), (13, (80, 14, [], [])), (14, (11, 15, [2], [])), (15, (67, 18, [22], [])), (18, (1, 19, [], [1])), (19, (73, 22, [23], [])), (22, (1, 23, [], [0])), (23, (110, 24, [], []))]
/-- PitInspector$Net.isOfPit(II)Z -/
noncomputable def mt_103 : MTy := (⟨"PitInspector$Net", "isOfPit", "(II)Z"⟩, prog_7_method_6_code, 3, some .boolean, 5, 5, 2, (0, 0), 2, [1005, 6, 1003, 1117], cd_103)
noncomputable def cd_104 : List (Nat × Ins) := [(0, (15, 1, [0], [])), (1, (91, 4, [5, 5, 108], [])), (4, (11, 5, [2], [])), (5, (1, 6, [], [1])), (6, (30, 7, [], [])), (7, (80, 8, [], [])), (8, (17, 9, [3], [])), (9, (15, 10, [0], [])), (10, (91, 13, [5, 4, 107], [])), (13, (11, 14, [3], [])), (14, (15, 15, [0], [])), (15, (91, 18, [5, 4, 107], [])), (18, (11, 19, [3], [])), (19, (1, 20, [], [1])), (20, (30, 21, [], [])), (21, (15, 22, [0], [])), (22, (91, 25, [5, 5, 108], [])), (25, (15, 26, [0], [])), (26, (90, 29, [5, 0, 117], [])), (29, (80, 30, [], [])), (30, (11, 31, [3], [])), (31, (31, 32, [], [])), (32, (96, 35, [80], [])), (35, (15, 36, [0], [])), (36, (91, 39, [5, 4, 107], [])), (39, (11, 40, [3], [])), (40, (11, 41, [1], [])), (41, (84, 42, [], [])), (42, (15, 43, [0], [])), (43, (91, 46, [5, 3, 106], [])), (46, (11, 47, [1], [])), (47, (11, 48, [2], [])), (48, (84, 49, [], [])), (49, (11, 50, [2], [])), (50, (1, 51, [], [1])), (51, (30, 52, [], [])), (52, (16, 54, [4], [])), (54, (10, 56, [4], [])), (56, (15, 57, [0], [])), (57, (90, 60, [5, 0, 117], [])), (60, (70, 63, [80], [])), (63, (15, 64, [0], [])), (64, (91, 67, [5, 5, 108], [])), (67, (10, 69, [4], [])), (69, (57, 70, [], [])), (70, (80, 71, [], [])), (71, (1, 72, [], [1])), (72, (30, 73, [], [])), (73, (84, 74, [], [])), (74, (22, 77, [4], [1])), (77, (73, 80, [54], [])), (80, (112, 81, [], []))]
/-- PitInspector$Net.addEnd(II)V -/
noncomputable def mt_104 : MTy := (⟨"PitInspector$Net", "addEnd", "(II)V"⟩, prog_7_method_11_code, 5, none, 5, 5, 0, (0, 0), 2, [1010, 6, 1009, 33], cd_104)
noncomputable def cd_105 : List (Nat × Ins) := [(0, (15, 1, [0], [])), (1, (91, 4, [6, 5, 45], [])), (4, (11, 5, [1], [])), (5, (2, 7, [], [-2])), (7, (84, 8, [], [])), (8, (112, 9, [], []))]
/-- PitInspector$Air.forget(I)V -/
noncomputable def mt_105 : MTy := (⟨"PitInspector$Air", "forget", "(I)V"⟩, prog_2_method_2_code, 2, none, 6, 6, 0, (0, 0), 1, [1016, 8, 1014, 1128], cd_105)
noncomputable def cd_106 : List (Nat × Ins) := [(0, (15, 1, [0], [])), (1, (91, 4, [0, 5, 3], [])), (4, (11, 5, [1], [])), (5, (100, 8, [107, 2, 33], [])), (8, (61, 11, [13], [])), (11, (1, 12, [], [0])), (12, (110, 13, [], [])), (13, (15, 14, [0], [])), (14, (91, 17, [0, 5, 3], [])), (17, (11, 18, [1], [])), (18, (11, 19, [2], [])), (19, (100, 22, [109, 3, 34], [])), (22, (15, 23, [0], [])), (23, (91, 26, [0, 6, 4], [])), (26, (15, 27, [0], [])), (27, (91, 30, [0, 5, 3], [])), (30, (11, 31, [1], [])), (31, (100, 34, [60, 2, 31], [])), (34, (100, 37, [105, 2, 32], [])), (37, (1, 38, [], [1])), (38, (110, 39, [], []))]
/-- PitInspector.door(IZ)Z -/
noncomputable def mt_106 : MTy := (⟨"PitInspector", "door", "(IZ)Z"⟩, prog_1_method_16_code, 3, some .boolean, 0, 0, 2, (0, 0), 2, [1020, 1, 1018, 1132], cd_106)
noncomputable def cd_107 : List (Nat × Ins) := [(0, (15, 1, [0], [])), (1, (11, 2, [1], [])), (2, (100, 5, [108, 2, 142], [])), (5, (60, 8, [21], [])), (8, (15, 9, [0], [])), (9, (91, 12, [5, 9, 111], [])), (12, (11, 13, [1], [])), (13, (80, 14, [], [])), (14, (60, 17, [21], [])), (17, (1, 18, [], [1])), (18, (73, 21, [22], [])), (21, (1, 22, [], [0])), (22, (110, 23, [], []))]
/-- PitInspector$Net.hasDoor(I)Z -/
noncomputable def mt_107 : MTy := (⟨"PitInspector$Net", "hasDoor", "(I)Z"⟩, prog_7_method_4_code, 2, some .boolean, 5, 5, 2, (0, 0), 1, [1024, 6, 1022, 1136], cd_107)
noncomputable def cd_108 : List (Nat × Ins) := [(0, (11, 1, [1], [])), (1, (62, 4, [16], [])), (4, (11, 5, [1], [])), (5, (15, 6, [0], [])), (6, (90, 9, [5, 1, 118], [])), (9, (69, 12, [16], [])), (12, (1, 13, [], [1])), (13, (73, 16, [17], [])), (16, (1, 17, [], [0])), (17, (110, 18, [], []))]
/-- PitInspector$Net.hasRoad(I)Z -/
noncomputable def mt_108 : MTy := (⟨"PitInspector$Net", "hasRoad", "(I)Z"⟩, prog_7_method_3_code, 2, some .boolean, 5, 5, 2, (0, 0), 1, [1028, 6, 1026, 1140], cd_108)
noncomputable def cd_109 : List (Nat × Ins) := [(0, (15, 1, [0], [])), (1, (91, 4, [5, 9, 111], [])), (4, (11, 5, [1], [])), (5, (11, 6, [2], [])), (6, (60, 9, [13], [])), (9, (1, 10, [], [2])), (10, (73, 13, [14], [])), (13, (1, 14, [], [1])), (14, (84, 15, [], [])), (15, (112, 16, [], []))]
/-- PitInspector$Net.setDoor(IZ)V -/
noncomputable def mt_109 : MTy := (⟨"PitInspector$Net", "setDoor", "(IZ)V"⟩, prog_7_method_12_code, 3, none, 5, 5, 0, (0, 0), 2, [1032, 6, 1030, 1144], cd_109)
noncomputable def cd_110 : List (Nat × Ins) := [(0, (15, 1, [0], [])), (1, (91, 4, [0, 3, 1], [])), (4, (11, 5, [1], [])), (5, (100, 8, [18, 2, 12], [])), (8, (60, 11, [35], [])), (11, (15, 12, [0], [])), (12, (91, 15, [0, 5, 3], [])), (15, (11, 16, [2], [])), (16, (11, 17, [1], [])), (17, (100, 20, [103, 3, 35], [])), (20, (60, 23, [35], [])), (23, (15, 24, [0], [])), (24, (91, 27, [0, 5, 3], [])), (27, (11, 28, [3], [])), (28, (11, 29, [1], [])), (29, (100, 32, [103, 3, 35], [])), (32, (61, 35, [37], [])), (35, (1, 36, [], [0])), (36, (110, 37, [], [])), (37, (15, 38, [0], [])), (38, (91, 41, [0, 6, 4], [])), (41, (11, 42, [1], [])), (42, (11, 43, [2], [])), (43, (11, 44, [3], [])), (44, (10, 46, [4], [])), (46, (100, 49, [111, 5, 36], [])), (49, (110, 50, [], []))]
/-- PitInspector.fan(IIII)Z -/
noncomputable def mt_110 : MTy := (⟨"PitInspector", "fan", "(IIII)Z"⟩, prog_1_method_17_code, 5, some .boolean, 0, 0, 2, (0, 0), 4, [1036, 1, 1034, 1148], cd_110)
noncomputable def cd_111 : List (Nat × Ins) := [(0, (11, 1, [2], [])), (1, (11, 2, [3], [])), (2, (66, 5, [16], [])), (5, (10, 7, [4], [])), (7, (1, 8, [], [0])), (8, (4, 10, [3], [1000000])), (10, (103, 13, [13, 3, 94], [])), (13, (61, 16, [18], [])), (16, (1, 17, [], [0])), (17, (110, 18, [], [])), (18, (15, 19, [0], [])), (19, (91, 22, [6, 0, 40], [])), (22, (11, 23, [1], [])), (23, (11, 24, [2], [])), (24, (84, 25, [], [])), (25, (15, 26, [0], [])), (26, (91, 29, [6, 1, 41], [])), (29, (11, 30, [1], [])), (30, (11, 31, [3], [])), (31, (84, 32, [], [])), (32, (15, 33, [0], [])), (33, (91, 36, [6, 2, 42], [])), (36, (11, 37, [1], [])), (37, (10, 39, [4], [])), (39, (84, 40, [], [])), (40, (15, 41, [0], [])), (41, (11, 42, [1], [])), (42, (100, 45, [105, 2, 95], [])), (45, (1, 46, [], [1])), (46, (110, 47, [], []))]
/-- PitInspector$Air.setFan(IIII)Z -/
noncomputable def mt_111 : MTy := (⟨"PitInspector$Air", "setFan", "(IIII)Z"⟩, prog_2_method_3_code, 5, some .boolean, 6, 6, 2, (0, 0), 4, [1041, 8, 1039, 1153], cd_111)
noncomputable def cd_112 : List (Nat × Ins) := [(0, (15, 1, [0], [])), (1, (91, 4, [0, 5, 3], [])), (4, (11, 5, [1], [])), (5, (100, 8, [108, 2, 37], [])), (8, (60, 11, [26], [])), (11, (15, 12, [0], [])), (12, (91, 15, [0, 6, 4], [])), (15, (15, 16, [0], [])), (16, (91, 19, [0, 5, 3], [])), (19, (11, 20, [1], [])), (20, (100, 23, [113, 3, 38], [])), (23, (73, 26, [27], [])), (26, (1, 27, [], [-1])), (27, (110, 28, [], []))]
/-- PitInspector.air(I)I -/
noncomputable def mt_112 : MTy := (⟨"PitInspector", "air", "(I)I"⟩, prog_1_method_18_code, 2, some .int, 0, 0, 1, (0, 0), 1, [1048, 1, 1046, 1160], cd_112)
noncomputable def cd_113 : List (Nat × Ins) := [(0, (15, 1, [0], [])), (1, (15, 2, [1], [])), (2, (15, 3, [1], [])), (3, (11, 4, [2], [])), (4, (100, 7, [60, 2, 96], [])), (7, (100, 10, [58, 3, 97], [])), (10, (58, 11, [], [])), (11, (15, 12, [0], [])), (12, (91, 15, [6, 3, 43], [])), (15, (11, 16, [2], [])), (16, (80, 17, [], [])), (17, (110, 18, [], []))]
/-- PitInspector$Air.ofRoad(LPitInspector$Net;I)I -/
noncomputable def mt_113 : MTy := (⟨"PitInspector$Air", "ofRoad", "(LPitInspector$Net;I)I"⟩, prog_2_method_4_code, 3, some .int, 6, 6, 1, (0, 0), 2, [1053, 8, 1051, 1165], cd_113)
noncomputable def cd_114 : List (Nat × Ins) := [(0, (15, 1, [0], [])), (1, (91, 4, [0, 3, 1], [])), (4, (11, 5, [1], [])), (5, (100, 8, [18, 2, 12], [])), (8, (60, 11, [26], [])), (11, (15, 12, [0], [])), (12, (91, 15, [0, 6, 4], [])), (15, (15, 16, [0], [])), (16, (91, 19, [0, 5, 3], [])), (19, (11, 20, [1], [])), (20, (100, 23, [58, 3, 39], [])), (23, (73, 26, [28], [])), (26, (2, 28, [], [-2])), (28, (110, 29, [], []))]
/-- PitInspector.least(I)I -/
noncomputable def mt_114 : MTy := (⟨"PitInspector", "least", "(I)I"⟩, prog_1_method_19_code, 2, some .int, 0, 0, 1, (0, 0), 1, [1058, 1, 1056, 1170], cd_114)
noncomputable def cd_115 : List (Nat × Ins) := [(0, (15, 1, [0], [])), (1, (91, 4, [0, 5, 3], [])), (4, (11, 5, [1], [])), (5, (100, 8, [107, 2, 33], [])), (8, (60, 11, [26], [])), (11, (15, 12, [0], [])), (12, (91, 15, [0, 6, 4], [])), (15, (15, 16, [0], [])), (16, (91, 19, [0, 5, 3], [])), (19, (11, 20, [1], [])), (20, (100, 23, [116, 3, 40], [])), (23, (73, 26, [28], [])), (26, (2, 28, [], [-2])), (28, (110, 29, [], []))]
/-- PitInspector.trial(I)I -/
noncomputable def mt_115 : MTy := (⟨"PitInspector", "trial", "(I)I"⟩, prog_1_method_20_code, 2, some .int, 0, 0, 1, (0, 0), 1, [1062, 1, 1060, 1174], cd_115)
noncomputable def cd_116 : List (Nat × Ins) := [(0, (15, 1, [1], [])), (1, (11, 2, [2], [])), (2, (100, 5, [62, 2, 99], [])), (5, (17, 6, [3], [])), (6, (15, 7, [1], [])), (7, (11, 8, [2], [])), (8, (11, 9, [3], [])), (9, (61, 12, [16], [])), (12, (1, 13, [], [1])), (13, (73, 16, [17], [])), (16, (1, 17, [], [0])), (17, (100, 20, [109, 3, 100], [])), (20, (15, 21, [0], [])), (21, (15, 22, [1], [])), (22, (15, 23, [1], [])), (23, (11, 24, [2], [])), (24, (100, 27, [60, 2, 96], [])), (27, (100, 30, [59, 3, 98], [])), (30, (16, 32, [4], [])), (32, (15, 33, [1], [])), (33, (11, 34, [2], [])), (34, (11, 35, [3], [])), (35, (100, 38, [109, 3, 100], [])), (38, (15, 39, [0], [])), (39, (15, 40, [1], [])), (40, (11, 41, [2], [])), (41, (100, 44, [60, 2, 96], [])), (44, (100, 47, [105, 2, 95], [])), (47, (10, 49, [4], [])), (49, (110, 50, [], []))]
/-- PitInspector$Air.tryDoor(LPitInspector$Net;I)I -/
noncomputable def mt_116 : MTy := (⟨"PitInspector$Air", "tryDoor", "(LPitInspector$Net;I)I"⟩, prog_2_method_6_code, 5, some .int, 6, 6, 1, (0, 0), 2, [1066, 8, 1064, 1178], cd_116)
noncomputable def cd_117 : List (Nat × Ins) := [(0, (15, 1, [0], [])), (1, (91, 4, [0, 3, 1], [])), (4, (11, 5, [1], [])), (5, (100, 8, [18, 2, 12], [])), (8, (60, 11, [26], [])), (11, (15, 12, [0], [])), (12, (91, 15, [0, 6, 4], [])), (15, (15, 16, [0], [])), (16, (91, 19, [0, 5, 3], [])), (19, (11, 20, [1], [])), (20, (100, 23, [118, 3, 41], [])), (23, (73, 26, [27], [])), (26, (1, 27, [], [-1])), (27, (110, 28, [], []))]
/-- PitInspector.worst(I)I -/
noncomputable def mt_117 : MTy := (⟨"PitInspector", "worst", "(I)I"⟩, prog_1_method_21_code, 2, some .int, 0, 0, 1, (0, 0), 1, [1071, 1, 1069, 1183], cd_117)
noncomputable def cd_118 : List (Nat × Ins) := [(0, (1, 1, [], [-1])), (1, (17, 2, [3], [])), (2, (1, 3, [], [0])), (3, (16, 5, [4], [])), (5, (1, 6, [], [0])), (6, (16, 8, [5], [])), (8, (10, 10, [5], [])), (10, (15, 11, [1], [])), (11, (90, 14, [5, 1, 46], [])), (14, (69, 17, [70], [])), (17, (15, 18, [1], [])), (18, (10, 20, [5], [])), (20, (100, 23, [107, 2, 101], [])), (23, (60, 26, [64], [])), (26, (15, 27, [1], [])), (27, (10, 29, [5], [])), (29, (100, 32, [60, 2, 96], [])), (32, (11, 33, [2], [])), (33, (67, 36, [64], [])), (36, (15, 37, [0], [])), (37, (15, 38, [1], [])), (38, (10, 40, [5], [])), (40, (100, 43, [116, 3, 102], [])), (43, (16, 45, [6], [])), (45, (11, 46, [3], [])), (46, (1, 47, [], [-1])), (47, (66, 50, [57], [])), (50, (10, 52, [6], [])), (52, (10, 54, [4], [])), (54, (69, 57, [64], [])), (57, (10, 59, [5], [])), (59, (17, 60, [3], [])), (60, (10, 62, [6], [])), (62, (16, 64, [4], [])), (64, (22, 67, [5], [1])), (67, (73, 70, [8], [])), (70, (11, 71, [3], [])), (71, (110, 72, [], []))]
/-- PitInspector$Air.worstDoor(LPitInspector$Net;I)I -/
noncomputable def mt_118 : MTy := (⟨"PitInspector$Air", "worstDoor", "(LPitInspector$Net;I)I"⟩, prog_2_method_7_code, 7, some .int, 6, 6, 1, (0, 0), 2, [1075, 8, 1073, 1187], cd_118)
noncomputable def cd_119 : List (Nat × Ins) := [(0, (15, 1, [0], [])), (1, (91, 4, [0, 5, 3], [])), (4, (11, 5, [1], [])), (5, (100, 8, [102, 2, 42], [])), (8, (60, 11, [22], [])), (11, (15, 12, [0], [])), (12, (91, 15, [0, 5, 3], [])), (15, (11, 16, [1], [])), (16, (100, 19, [67, 2, 43], [])), (19, (60, 22, [24], [])), (22, (1, 23, [], [-1])), (23, (110, 24, [], [])), (24, (15, 25, [0], [])), (25, (91, 28, [0, 5, 3], [])), (28, (11, 29, [1], [])), (29, (3, 32, [], [150])), (32, (100, 35, [68, 3, 44], [])), (35, (110, 36, [], []))]
/-- PitInspector.ways(I)I -/
noncomputable def mt_119 : MTy := (⟨"PitInspector", "ways", "(I)I"⟩, prog_1_method_22_code, 2, some .int, 0, 0, 1, (0, 0), 1, [1081, 1, 1079, 1193], cd_119)
noncomputable def cd_120 : List (Nat × Ins) := [(0, (15, 1, [0], [])), (1, (91, 4, [0, 3, 1], [])), (4, (11, 5, [1], [])), (5, (100, 8, [18, 2, 12], [])), (8, (60, 11, [22], [])), (11, (15, 12, [0], [])), (12, (91, 15, [0, 5, 3], [])), (15, (11, 16, [1], [])), (16, (100, 19, [66, 2, 45], [])), (19, (73, 22, [24], [])), (22, (2, 24, [], [-2])), (24, (110, 25, [], []))]
/-- PitInspector.fewest(I)I -/
noncomputable def mt_120 : MTy := (⟨"PitInspector", "fewest", "(I)I"⟩, prog_1_method_23_code, 2, some .int, 0, 0, 1, (0, 0), 1, [1088, 1, 1086, 1200], cd_120)
noncomputable def cd_121 : List (Nat × Ins) := [(0, (15, 1, [0], [])), (1, (91, 4, [0, 7, 5], [])), (4, (11, 5, [1], [])), (5, (11, 6, [2], [])), (6, (11, 7, [3], [])), (7, (10, 9, [4], [])), (9, (100, 12, [122, 5, 46], [])), (12, (110, 13, [], []))]
/-- PitInspector.plan(IIII)I -/
noncomputable def mt_121 : MTy := (⟨"PitInspector", "plan", "(IIII)I"⟩, prog_1_method_24_code, 5, some .int, 0, 0, 1, (0, 0), 4, [1092, 1, 1090, 1204], cd_121)
noncomputable def cd_122 : List (Nat × Ins) := [(0, (15, 1, [0], [])), (1, (90, 4, [7, 0, 156], [])), (4, (2, 6, [], [15])), (6, (69, 9, [29], [])), (9, (11, 10, [1], [])), (10, (1, 11, [], [0])), (11, (3, 14, [], [1000])), (14, (103, 17, [13, 3, 173], [])), (17, (60, 20, [29], [])), (20, (11, 21, [2], [])), (21, (1, 22, [], [0])), (22, (1, 23, [], [3])), (23, (103, 26, [13, 3, 173], [])), (26, (61, 29, [31], [])), (29, (1, 30, [], [-1])), (30, (110, 31, [], [])), (31, (11, 32, [3], [])), (32, (10, 34, [4], [])), (34, (102, 37, [123, 2, 172], [])), (37, (61, 40, [42], [])), (40, (1, 41, [], [-1])), (41, (110, 42, [], [])), (42, (15, 43, [0], [])), (43, (91, 46, [7, 4, 145], [])), (46, (15, 47, [0], [])), (47, (90, 50, [7, 0, 156], [])), (50, (11, 51, [1], [])), (51, (84, 52, [], [])), (52, (15, 53, [0], [])), (53, (91, 56, [7, 5, 146], [])), (56, (15, 57, [0], [])), (57, (90, 60, [7, 0, 156], [])), (60, (11, 61, [2], [])), (61, (84, 62, [], [])), (62, (15, 63, [0], [])), (63, (91, 66, [7, 6, 147], [])), (66, (15, 67, [0], [])), (67, (90, 70, [7, 0, 156], [])), (70, (11, 71, [3], [])), (71, (84, 72, [], [])), (72, (15, 73, [0], [])), (73, (91, 76, [7, 7, 148], [])), (76, (15, 77, [0], [])), (77, (90, 80, [7, 0, 156], [])), (80, (10, 82, [4], [])), (82, (84, 83, [], [])), (83, (15, 84, [0], [])), (84, (56, 85, [], [])), (85, (90, 88, [7, 0, 156], [])), (88, (1, 89, [], [1])), (89, (30, 90, [], [])), (90, (92, 93, [7, 0, 156], [])), (93, (15, 94, [0], [])), (94, (90, 97, [7, 0, 156], [])), (97, (1, 98, [], [1])), (98, (31, 99, [], [])), (99, (110, 100, [], []))]
/-- PitInspector$Survey.addPlan(IIII)I -/
noncomputable def mt_122 : MTy := (⟨"PitInspector$Survey", "addPlan", "(IIII)I"⟩, prog_10_method_6_code, 5, some .int, 7, 7, 1, (0, 0), 4, [1096, 9, 1094, 1208], cd_122)
noncomputable def cd_123 : List (Nat × Ins) := [(0, (11, 1, [0], [])), (1, (4, 3, [5], [-100000])), (3, (4, 5, [6], [100000])), (5, (103, 8, [13, 3, 173], [])), (8, (60, 11, [26], [])), (11, (11, 12, [1], [])), (12, (4, 14, [5], [-100000])), (14, (4, 16, [6], [100000])), (16, (103, 19, [13, 3, 173], [])), (19, (60, 22, [26], [])), (22, (1, 23, [], [1])), (23, (73, 26, [27], [])), (26, (1, 27, [], [0])), (27, (110, 28, [], []))]
/-- PitInspector$Survey.areInReach(II)Z -/
noncomputable def mt_123 : MTy := (⟨"PitInspector$Survey", "areInReach", "(II)Z"⟩, prog_10_method_5_code, 2, some .boolean, 7, 50, 2, (0, 0), 2, [1100, 9, 1099, 0], cd_123)
noncomputable def cd_124 : List (Nat × Ins) := [(0, (15, 1, [0], [])), (1, (91, 4, [0, 7, 5], [])), (4, (11, 5, [1], [])), (5, (11, 6, [2], [])), (6, (11, 7, [3], [])), (7, (100, 10, [125, 4, 47], [])), (10, (110, 11, [], []))]
/-- PitInspector.shift(III)Z -/
noncomputable def mt_124 : MTy := (⟨"PitInspector", "shift", "(III)Z"⟩, prog_1_method_25_code, 4, some .boolean, 0, 0, 2, (0, 0), 3, [1106, 1, 1104, 1218], cd_124)
noncomputable def cd_125 : List (Nat × Ins) := [(0, (15, 1, [0], [])), (1, (11, 2, [1], [])), (2, (11, 3, [2], [])), (3, (11, 4, [3], [])), (4, (100, 7, [126, 4, 174], [])), (7, (61, 10, [12], [])), (10, (1, 11, [], [0])), (11, (110, 12, [], [])), (12, (15, 13, [0], [])), (13, (91, 16, [7, 6, 147], [])), (16, (11, 17, [1], [])), (17, (11, 18, [2], [])), (18, (84, 19, [], [])), (19, (15, 20, [0], [])), (20, (91, 23, [7, 7, 148], [])), (23, (11, 24, [1], [])), (24, (11, 25, [3], [])), (25, (84, 26, [], [])), (26, (1, 27, [], [1])), (27, (110, 28, [], []))]
/-- PitInspector$Survey.setShift(III)Z -/
noncomputable def mt_125 : MTy := (⟨"PitInspector$Survey", "setShift", "(III)Z"⟩, prog_10_method_7_code, 4, some .boolean, 7, 7, 2, (0, 0), 3, [1110, 9, 1108, 1222], cd_125)
noncomputable def cd_126 : List (Nat × Ins) := [(0, (11, 1, [1], [])), (1, (62, 4, [24], [])), (4, (11, 5, [1], [])), (5, (15, 6, [0], [])), (6, (90, 9, [7, 0, 156], [])), (9, (69, 12, [24], [])), (12, (11, 13, [2], [])), (13, (11, 14, [3], [])), (14, (102, 17, [123, 2, 172], [])), (17, (60, 20, [24], [])), (20, (1, 21, [], [1])), (21, (73, 24, [25], [])), (24, (1, 25, [], [0])), (25, (110, 26, [], []))]
/-- PitInspector$Survey.isPoint(III)Z -/
noncomputable def mt_126 : MTy := (⟨"PitInspector$Survey", "isPoint", "(III)Z"⟩, prog_10_method_4_code, 4, some .boolean, 7, 7, 2, (0, 0), 3, [1114, 9, 1112, 1226], cd_126)
noncomputable def cd_127 : List (Nat × Ins) := [(0, (15, 1, [0], [])), (1, (91, 4, [0, 7, 5], [])), (4, (11, 5, [1], [])), (5, (11, 6, [2], [])), (6, (11, 7, [3], [])), (7, (100, 10, [128, 4, 48], [])), (10, (110, 11, [], []))]
/-- PitInspector.water(III)I -/
noncomputable def mt_127 : MTy := (⟨"PitInspector", "water", "(III)I"⟩, prog_1_method_26_code, 4, some .int, 0, 0, 1, (0, 0), 3, [1118, 1, 1116, 1230], cd_127)
noncomputable def cd_128 : List (Nat × Ins) := [(0, (15, 1, [0], [])), (1, (90, 4, [7, 1, 154], [])), (4, (2, 6, [], [30])), (6, (69, 9, [19], [])), (9, (15, 10, [0], [])), (10, (11, 11, [1], [])), (11, (11, 12, [2], [])), (12, (11, 13, [3], [])), (13, (100, 16, [126, 4, 174], [])), (16, (61, 19, [21], [])), (19, (1, 20, [], [-1])), (20, (110, 21, [], [])), (21, (15, 22, [0], [])), (22, (15, 23, [0], [])), (23, (90, 26, [7, 1, 154], [])), (26, (11, 27, [1], [])), (27, (11, 28, [2], [])), (28, (11, 29, [3], [])), (29, (100, 32, [129, 5, 175], [])), (32, (15, 33, [0], [])), (33, (56, 34, [], [])), (34, (90, 37, [7, 1, 154], [])), (37, (1, 38, [], [1])), (38, (30, 39, [], [])), (39, (92, 42, [7, 1, 154], [])), (42, (15, 43, [0], [])), (43, (90, 46, [7, 1, 154], [])), (46, (1, 47, [], [1])), (47, (31, 48, [], [])), (48, (110, 49, [], []))]
/-- PitInspector$Survey.addWater(III)I -/
noncomputable def mt_128 : MTy := (⟨"PitInspector$Survey", "addWater", "(III)I"⟩, prog_10_method_8_code, 4, some .int, 7, 7, 1, (0, 0), 3, [1122, 9, 1120, 1234], cd_128)
noncomputable def cd_129 : List (Nat × Ins) := [(0, (15, 1, [0], [])), (1, (91, 4, [7, 8, 149], [])), (4, (11, 5, [1], [])), (5, (11, 6, [2], [])), (6, (84, 7, [], [])), (7, (15, 8, [0], [])), (8, (91, 11, [7, 9, 150], [])), (11, (11, 12, [1], [])), (12, (11, 13, [3], [])), (13, (84, 14, [], [])), (14, (15, 15, [0], [])), (15, (91, 18, [7, 10, 151], [])), (18, (11, 19, [1], [])), (19, (10, 21, [4], [])), (21, (84, 22, [], [])), (22, (112, 23, [], []))]
/-- PitInspector$Survey.setPoint(IIII)V -/
noncomputable def mt_129 : MTy := (⟨"PitInspector$Survey", "setPoint", "(IIII)V"⟩, prog_10_method_12_code, 5, none, 7, 7, 0, (0, 0), 4, [1126, 9, 1125, 34], cd_129)
noncomputable def cd_130 : List (Nat × Ins) := [(0, (15, 1, [0], [])), (1, (91, 4, [0, 3, 1], [])), (4, (11, 5, [1], [])), (5, (100, 8, [18, 2, 12], [])), (8, (60, 11, [26], [])), (11, (15, 12, [0], [])), (12, (91, 15, [0, 7, 5], [])), (15, (11, 16, [1], [])), (16, (11, 17, [2], [])), (17, (11, 18, [3], [])), (18, (10, 20, [4], [])), (20, (100, 23, [131, 5, 49], [])), (23, (73, 26, [27], [])), (26, (1, 27, [], [-1])), (27, (110, 28, [], []))]
/-- PitInspector.face(IIII)I -/
noncomputable def mt_130 : MTy := (⟨"PitInspector", "face", "(IIII)I"⟩, prog_1_method_27_code, 5, some .int, 0, 0, 1, (0, 0), 4, [1130, 1, 1128, 1242], cd_130)
noncomputable def cd_131 : List (Nat × Ins) := [(0, (15, 1, [0], [])), (1, (90, 4, [7, 2, 155], [])), (4, (2, 6, [], [30])), (6, (69, 9, [20], [])), (9, (15, 10, [0], [])), (10, (11, 11, [2], [])), (11, (11, 12, [3], [])), (12, (10, 14, [4], [])), (14, (100, 17, [126, 4, 174], [])), (17, (61, 20, [22], [])), (20, (1, 21, [], [-1])), (21, (110, 22, [], [])), (22, (15, 23, [0], [])), (23, (2, 25, [], [30])), (25, (15, 26, [0], [])), (26, (90, 29, [7, 2, 155], [])), (29, (30, 30, [], [])), (30, (11, 31, [2], [])), (31, (11, 32, [3], [])), (32, (10, 34, [4], [])), (34, (100, 37, [129, 5, 175], [])), (37, (15, 38, [0], [])), (38, (91, 41, [7, 11, 152], [])), (41, (15, 42, [0], [])), (42, (90, 45, [7, 2, 155], [])), (45, (11, 46, [1], [])), (46, (84, 47, [], [])), (47, (15, 48, [0], [])), (48, (56, 49, [], [])), (49, (90, 52, [7, 2, 155], [])), (52, (1, 53, [], [1])), (53, (30, 54, [], [])), (54, (92, 57, [7, 2, 155], [])), (57, (15, 58, [0], [])), (58, (90, 61, [7, 2, 155], [])), (61, (1, 62, [], [1])), (62, (31, 63, [], [])), (63, (110, 64, [], []))]
/-- PitInspector$Survey.addFace(IIII)I -/
noncomputable def mt_131 : MTy := (⟨"PitInspector$Survey", "addFace", "(IIII)I"⟩, prog_10_method_9_code, 5, some .int, 7, 7, 1, (0, 0), 4, [1134, 9, 1132, 1246], cd_131)
noncomputable def cd_132 : List (Nat × Ins) := [(0, (15, 1, [0], [])), (1, (91, 4, [0, 7, 5], [])), (4, (11, 5, [1], [])), (5, (100, 8, [133, 2, 50], [])), (8, (60, 11, [31], [])), (11, (15, 12, [0], [])), (12, (91, 15, [0, 7, 5], [])), (15, (11, 16, [2], [])), (16, (100, 19, [134, 2, 51], [])), (19, (60, 22, [31], [])), (22, (11, 23, [3], [])), (23, (1, 24, [], [0])), (24, (1, 25, [], [1])), (25, (102, 28, [13, 3, 9], [])), (28, (61, 31, [33], [])), (31, (1, 32, [], [-1])), (32, (110, 33, [], [])), (33, (11, 34, [3], [])), (34, (61, 37, [49], [])), (37, (15, 38, [0], [])), (38, (91, 41, [0, 7, 5], [])), (41, (11, 42, [1], [])), (42, (11, 43, [2], [])), (43, (100, 46, [74, 3, 52], [])), (46, (73, 49, [58], [])), (49, (15, 50, [0], [])), (50, (91, 53, [0, 7, 5], [])), (53, (11, 54, [1], [])), (54, (11, 55, [2], [])), (55, (100, 58, [135, 3, 53], [])), (58, (110, 59, [], []))]
/-- PitInspector.yards(III)I -/
noncomputable def mt_132 : MTy := (⟨"PitInspector", "yards", "(III)I"⟩, prog_1_method_28_code, 4, some .int, 0, 0, 1, (0, 0), 3, [1138, 1, 1136, 1250], cd_132)
noncomputable def cd_133 : List (Nat × Ins) := [(0, (11, 1, [1], [])), (1, (62, 4, [16], [])), (4, (11, 5, [1], [])), (5, (15, 6, [0], [])), (6, (90, 9, [7, 2, 155], [])), (9, (69, 12, [16], [])), (12, (1, 13, [], [1])), (13, (73, 16, [17], [])), (16, (1, 17, [], [0])), (17, (110, 18, [], []))]
/-- PitInspector$Survey.hasFace(I)Z -/
noncomputable def mt_133 : MTy := (⟨"PitInspector$Survey", "hasFace", "(I)Z"⟩, prog_10_method_3_code, 2, some .boolean, 7, 7, 2, (0, 0), 1, [1142, 9, 1140, 1254], cd_133)
noncomputable def cd_134 : List (Nat × Ins) := [(0, (11, 1, [1], [])), (1, (62, 4, [16], [])), (4, (11, 5, [1], [])), (5, (15, 6, [0], [])), (6, (90, 9, [7, 1, 154], [])), (9, (69, 12, [16], [])), (12, (1, 13, [], [1])), (13, (73, 16, [17], [])), (16, (1, 17, [], [0])), (17, (110, 18, [], []))]
/-- PitInspector$Survey.hasWater(I)Z -/
noncomputable def mt_134 : MTy := (⟨"PitInspector$Survey", "hasWater", "(I)Z"⟩, prog_10_method_2_code, 2, some .boolean, 7, 7, 2, (0, 0), 1, [1146, 9, 1144, 1258], cd_134)
noncomputable def cd_135 : List (Nat × Ins) := [(0, (15, 1, [0], [])), (1, (2, 3, [], [30])), (3, (11, 4, [1], [])), (4, (30, 5, [], [])), (5, (11, 6, [2], [])), (6, (100, 9, [75, 3, 178], [])), (9, (15, 10, [0], [])), (10, (2, 12, [], [30])), (12, (11, 13, [1], [])), (13, (30, 14, [], [])), (14, (11, 15, [2], [])), (15, (100, 18, [78, 3, 179], [])), (18, (30, 19, [], [])), (19, (110, 20, [], []))]
/-- PitInspector$Survey.mostYards(II)I -/
noncomputable def mt_135 : MTy := (⟨"PitInspector$Survey", "mostYards", "(II)I"⟩, prog_10_method_18_code, 3, some .int, 7, 7, 1, (0, 0), 2, [1151, 9, 1149, 1263], cd_135)
noncomputable def cd_136 : List (Nat × Ins) := [(0, (11, 1, [2], [])), (1, (60, 4, [28], [])), (4, (15, 5, [0], [])), (5, (91, 8, [0, 3, 1], [])), (8, (11, 9, [1], [])), (9, (100, 12, [18, 2, 12], [])), (12, (60, 15, [26], [])), (15, (15, 16, [0], [])), (16, (91, 19, [0, 7, 5], [])), (19, (11, 20, [1], [])), (20, (100, 23, [72, 2, 54], [])), (23, (73, 26, [27], [])), (26, (1, 27, [], [-1])), (27, (110, 28, [], [])), (28, (15, 29, [0], [])), (29, (91, 32, [0, 7, 5], [])), (32, (11, 33, [1], [])), (33, (100, 36, [133, 2, 50], [])), (36, (60, 39, [50], [])), (39, (15, 40, [0], [])), (40, (91, 43, [0, 7, 5], [])), (43, (11, 44, [1], [])), (44, (100, 47, [73, 2, 55], [])), (47, (73, 50, [51], [])), (50, (1, 51, [], [-1])), (51, (110, 52, [], []))]
/-- PitInspector.nearest(IZ)I -/
noncomputable def mt_136 : MTy := (⟨"PitInspector", "nearest", "(IZ)I"⟩, prog_1_method_29_code, 3, some .int, 0, 0, 1, (0, 0), 2, [1155, 1, 1153, 1267], cd_136)
noncomputable def cd_137 : List (Nat × Ins) := [(0, (15, 1, [0], [])), (1, (91, 4, [0, 7, 5], [])), (4, (11, 5, [1], [])), (5, (11, 6, [2], [])), (6, (11, 7, [3], [])), (7, (10, 9, [4], [])), (9, (100, 12, [138, 5, 56], [])), (12, (110, 13, [], []))]
/-- PitInspector.moves(IIII)I -/
noncomputable def mt_137 : MTy := (⟨"PitInspector", "moves", "(IIII)I"⟩, prog_1_method_30_code, 5, some .int, 0, 0, 1, (0, 0), 4, [1160, 1, 1158, 1272], cd_137)
noncomputable def cd_138 : List (Nat × Ins) := [(0, (15, 1, [0], [])), (1, (11, 2, [1], [])), (2, (11, 3, [2], [])), (3, (11, 4, [3], [])), (4, (100, 7, [126, 4, 174], [])), (7, (60, 10, [21], [])), (10, (10, 12, [4], [])), (12, (1, 13, [], [1])), (13, (4, 15, [7], [99999])), (15, (103, 18, [13, 3, 173], [])), (18, (61, 21, [23], [])), (21, (1, 22, [], [-1])), (22, (110, 23, [], [])), (23, (15, 24, [0], [])), (24, (10, 26, [4], [])), (26, (100, 29, [139, 2, 182], [])), (29, (16, 31, [5], [])), (31, (15, 32, [0], [])), (32, (91, 35, [7, 6, 147], [])), (35, (11, 36, [1], [])), (36, (80, 37, [], [])), (37, (16, 39, [6], [])), (39, (15, 40, [0], [])), (40, (91, 43, [7, 7, 148], [])), (43, (11, 44, [1], [])), (44, (80, 45, [], [])), (45, (16, 47, [7], [])), (47, (15, 48, [0], [])), (48, (11, 49, [1], [])), (49, (11, 50, [2], [])), (50, (11, 51, [3], [])), (51, (100, 54, [125, 4, 183], [])), (54, (58, 55, [], [])), (55, (15, 56, [0], [])), (56, (10, 58, [4], [])), (58, (100, 61, [139, 2, 182], [])), (61, (16, 63, [8], [])), (63, (15, 64, [0], [])), (64, (11, 65, [1], [])), (65, (10, 67, [6], [])), (67, (10, 69, [7], [])), (69, (100, 72, [125, 4, 183], [])), (72, (58, 73, [], [])), (73, (10, 75, [8], [])), (75, (10, 77, [5], [])), (77, (1, 78, [], [-1])), (78, (41, 79, [], [])), (79, (39, 80, [], [])), (80, (110, 81, [], []))]
/-- PitInspector$Survey.facesMovedNear(IIII)I -/
noncomputable def mt_138 : MTy := (⟨"PitInspector$Survey", "facesMovedNear", "(IIII)I"⟩, prog_10_method_21_code, 9, some .int, 7, 7, 1, (0, 0), 4, [1164, 9, 1162, 1276], cd_138)
noncomputable def cd_139 : List (Nat × Ins) := [(0, (1, 1, [], [0])), (1, (17, 2, [2], [])), (2, (1, 3, [], [0])), (3, (17, 4, [3], [])), (4, (11, 5, [3], [])), (5, (15, 6, [0], [])), (6, (90, 9, [7, 2, 155], [])), (9, (69, 12, [33], [])), (12, (15, 13, [0], [])), (13, (11, 14, [3], [])), (14, (100, 17, [73, 2, 181], [])), (17, (11, 18, [1], [])), (18, (69, 21, [27], [])), (21, (11, 22, [2], [])), (22, (1, 23, [], [1])), (23, (11, 24, [3], [])), (24, (36, 25, [], [])), (25, (40, 26, [], [])), (26, (17, 27, [2], [])), (27, (22, 30, [3], [1])), (30, (73, 33, [4], [])), (33, (11, 34, [2], [])), (34, (110, 35, [], []))]
/-- PitInspector$Survey.facesNearer(I)I -/
noncomputable def mt_139 : MTy := (⟨"PitInspector$Survey", "facesNearer", "(I)I"⟩, prog_10_method_22_code, 4, some .int, 7, 7, 1, (0, 0), 1, [1168, 9, 1167, 35], cd_139)
noncomputable def cd_140 : List (Nat × Ins) := [(0, (11, 1, [1], [])), (1, (10, 3, [4], [])), (3, (66, 6, [35], [])), (6, (15, 7, [0], [])), (7, (91, 10, [0, 7, 5], [])), (10, (11, 11, [1], [])), (11, (11, 12, [2], [])), (12, (11, 13, [3], [])), (13, (100, 16, [126, 4, 57], [])), (16, (60, 19, [35], [])), (19, (15, 20, [0], [])), (20, (91, 23, [0, 7, 5], [])), (23, (10, 25, [4], [])), (25, (10, 27, [5], [])), (27, (10, 29, [6], [])), (29, (100, 32, [126, 4, 57], [])), (32, (61, 35, [37], [])), (35, (1, 36, [], [-1])), (36, (110, 37, [], [])), (37, (15, 38, [0], [])), (38, (91, 41, [0, 7, 5], [])), (41, (10, 43, [7], [])), (43, (100, 46, [141, 2, 58], [])), (46, (16, 48, [8], [])), (48, (10, 50, [8], [])), (50, (1, 51, [], [-1])), (51, (66, 54, [83], [])), (54, (15, 55, [0], [])), (55, (91, 58, [0, 7, 5], [])), (58, (10, 60, [8], [])), (60, (1, 61, [], [0])), (61, (11, 62, [1], [])), (62, (11, 63, [2], [])), (63, (11, 64, [3], [])), (64, (100, 67, [142, 6, 59], [])), (67, (15, 68, [0], [])), (68, (91, 71, [0, 7, 5], [])), (71, (10, 73, [8], [])), (73, (1, 74, [], [1])), (74, (10, 76, [4], [])), (76, (10, 78, [5], [])), (78, (10, 80, [6], [])), (80, (100, 83, [142, 6, 59], [])), (83, (10, 85, [8], [])), (85, (110, 86, [], []))]
/-- PitInspector.join(IIIIIII)I -/
noncomputable def mt_140 : MTy := (⟨"PitInspector", "join", "(IIIIIII)I"⟩, prog_1_method_31_code, 9, some .int, 0, 0, 1, (0, 0), 7, [1173, 1, 1171, 1285], cd_140)
noncomputable def cd_141 : List (Nat × Ins) := [(0, (15, 1, [0], [])), (1, (90, 4, [7, 3, 157], [])), (4, (2, 6, [], [30])), (6, (69, 9, [20], [])), (9, (11, 10, [1], [])), (10, (1, 11, [], [0])), (11, (3, 14, [], [1000])), (14, (103, 17, [13, 3, 173], [])), (17, (61, 20, [22], [])), (20, (1, 21, [], [-1])), (21, (110, 22, [], [])), (22, (15, 23, [0], [])), (23, (91, 26, [7, 12, 153], [])), (26, (15, 27, [0], [])), (27, (90, 30, [7, 3, 157], [])), (30, (11, 31, [1], [])), (31, (84, 32, [], [])), (32, (15, 33, [0], [])), (33, (56, 34, [], [])), (34, (90, 37, [7, 3, 157], [])), (37, (1, 38, [], [1])), (38, (30, 39, [], [])), (39, (92, 42, [7, 3, 157], [])), (42, (15, 43, [0], [])), (43, (90, 46, [7, 3, 157], [])), (46, (1, 47, [], [1])), (47, (31, 48, [], [])), (48, (110, 49, [], []))]
/-- PitInspector$Survey.nextJoin(I)I -/
noncomputable def mt_141 : MTy := (⟨"PitInspector$Survey", "nextJoin", "(I)I"⟩, prog_10_method_10_code, 2, some .int, 7, 7, 1, (0, 0), 1, [1178, 9, 1176, 1290], cd_141)
noncomputable def cd_142 : List (Nat × Ins) := [(0, (15, 1, [0], [])), (1, (2, 3, [], [60])), (3, (1, 4, [], [2])), (4, (11, 5, [1], [])), (5, (32, 6, [], [])), (6, (30, 7, [], [])), (7, (11, 8, [2], [])), (8, (30, 9, [], [])), (9, (11, 10, [3], [])), (10, (10, 12, [4], [])), (12, (10, 14, [5], [])), (14, (100, 17, [129, 5, 175], [])), (17, (112, 18, [], []))]
/-- PitInspector$Survey.setJoin(IIIII)V -/
noncomputable def mt_142 : MTy := (⟨"PitInspector$Survey", "setJoin", "(IIIII)V"⟩, prog_10_method_11_code, 6, none, 7, 7, 0, (0, 0), 5, [1182, 9, 1180, 1294], cd_142)
noncomputable def cd_143 : List (Nat × Ins) := [(0, (15, 1, [0], [])), (1, (91, 4, [0, 7, 5], [])), (4, (100, 7, [144, 1, 60], [])), (7, (110, 8, [], []))]
/-- PitInspector.torn()I -/
noncomputable def mt_143 : MTy := (⟨"PitInspector", "torn", "()I"⟩, prog_1_method_32_code, 1, some .int, 0, 0, 1, (0, 0), 0, [1186, 1, 1184, 1298], cd_143)
noncomputable def cd_144 : List (Nat × Ins) := [(0, (1, 1, [], [0])), (1, (17, 2, [1], [])), (2, (11, 3, [1], [])), (3, (15, 4, [0], [])), (4, (90, 7, [7, 3, 157], [])), (7, (69, 10, [51], [])), (10, (2, 12, [], [60])), (12, (1, 13, [], [2])), (13, (11, 14, [1], [])), (14, (32, 15, [], [])), (15, (30, 16, [], [])), (16, (17, 17, [2], [])), (17, (15, 18, [0], [])), (18, (11, 19, [2], [])), (19, (11, 20, [2], [])), (20, (1, 21, [], [1])), (21, (30, 22, [], [])), (22, (100, 25, [75, 3, 178], [])), (25, (15, 26, [0], [])), (26, (11, 27, [2], [])), (27, (11, 28, [2], [])), (28, (1, 29, [], [1])), (29, (30, 30, [], [])), (30, (100, 33, [78, 3, 179], [])), (33, (15, 34, [0], [])), (34, (91, 37, [7, 12, 153], [])), (37, (11, 38, [1], [])), (38, (80, 39, [], [])), (39, (30, 40, [], [])), (40, (71, 43, [45], [])), (43, (11, 44, [1], [])), (44, (110, 45, [], [])), (45, (22, 48, [1], [1])), (48, (73, 51, [2], [])), (51, (1, 52, [], [-1])), (52, (110, 53, [], []))]
/-- PitInspector$Survey.firstTorn()I -/
noncomputable def mt_144 : MTy := (⟨"PitInspector$Survey", "firstTorn", "()I"⟩, prog_10_method_23_code, 3, some .int, 7, 7, 1, (0, 0), 0, [1190, 9, 1188, 1302], cd_144)
noncomputable def cd_145 : List (Nat × Ins) := [(0, (15, 1, [0], [])), (1, (91, 4, [0, 8, 6], [])), (4, (11, 5, [1], [])), (5, (100, 8, [146, 2, 61], [])), (8, (110, 9, [], []))]
/-- PitInspector.lamp(I)I -/
noncomputable def mt_145 : MTy := (⟨"PitInspector", "lamp", "(I)I"⟩, prog_1_method_33_code, 2, some .int, 0, 0, 1, (0, 0), 1, [1194, 1, 1192, 1306], cd_145)
noncomputable def cd_146 : List (Nat × Ins) := [(0, (15, 1, [0], [])), (1, (90, 4, [8, 4, 67], [])), (4, (2, 6, [], [60])), (6, (69, 9, [19], [])), (9, (11, 10, [1], [])), (10, (1, 11, [], [0])), (11, (2, 13, [], [9])), (13, (103, 16, [13, 3, 108], [])), (16, (61, 19, [21], [])), (19, (1, 20, [], [-1])), (20, (110, 21, [], [])), (21, (15, 22, [0], [])), (22, (91, 25, [8, 5, 57], [])), (25, (15, 26, [0], [])), (26, (90, 29, [8, 4, 67], [])), (29, (11, 30, [1], [])), (30, (84, 31, [], [])), (31, (15, 32, [0], [])), (32, (56, 33, [], [])), (33, (90, 36, [8, 4, 67], [])), (36, (1, 37, [], [1])), (37, (30, 38, [], [])), (38, (92, 41, [8, 4, 67], [])), (41, (15, 42, [0], [])), (42, (90, 45, [8, 4, 67], [])), (45, (1, 46, [], [1])), (46, (31, 47, [], [])), (47, (110, 48, [], []))]
/-- PitInspector$Crew.addLamp(I)I -/
noncomputable def mt_146 : MTy := (⟨"PitInspector$Crew", "addLamp", "(I)I"⟩, prog_3_method_6_code, 2, some .int, 8, 8, 1, (0, 0), 1, [1198, 10, 1196, 1310], cd_146)
noncomputable def cd_147 : List (Nat × Ins) := [(0, (15, 1, [0], [])), (1, (91, 4, [0, 8, 6], [])), (4, (11, 5, [1], [])), (5, (11, 6, [2], [])), (6, (100, 9, [148, 3, 62], [])), (9, (110, 10, [], []))]
/-- PitInspector.down(II)Z -/
noncomputable def mt_147 : MTy := (⟨"PitInspector", "down", "(II)Z"⟩, prog_1_method_34_code, 3, some .boolean, 0, 0, 2, (0, 0), 2, [1202, 1, 1200, 1314], cd_147)
noncomputable def cd_148 : List (Nat × Ins) := [(0, (15, 1, [0], [])), (1, (11, 2, [1], [])), (2, (100, 5, [149, 2, 109], [])), (5, (60, 8, [26], [])), (8, (15, 9, [0], [])), (9, (11, 10, [1], [])), (10, (100, 13, [150, 2, 107], [])), (13, (61, 16, [26], [])), (16, (15, 17, [0], [])), (17, (90, 20, [8, 7, 68], [])), (20, (3, 23, [], [300])), (23, (68, 26, [28], [])), (26, (1, 27, [], [0])), (27, (110, 28, [], [])), (28, (11, 29, [2], [])), (29, (1, 30, [], [-1])), (30, (66, 33, [58], [])), (33, (11, 34, [2], [])), (34, (1, 35, [], [0])), (35, (15, 36, [0], [])), (36, (90, 39, [8, 4, 67], [])), (39, (1, 40, [], [1])), (40, (31, 41, [], [])), (41, (103, 44, [13, 3, 108], [])), (44, (60, 47, [56], [])), (47, (15, 48, [0], [])), (48, (91, 51, [8, 6, 58], [])), (51, (11, 52, [2], [])), (52, (81, 53, [], [])), (53, (60, 56, [58], [])), (56, (1, 57, [], [0])), (57, (110, 58, [], [])), (58, (11, 59, [2], [])), (59, (1, 60, [], [-1])), (60, (66, 63, [85], [])), (63, (15, 64, [0], [])), (64, (91, 67, [8, 6, 58], [])), (67, (11, 68, [2], [])), (68, (1, 69, [], [1])), (69, (85, 70, [], [])), (70, (15, 71, [0], [])), (71, (91, 74, [8, 12, 63], [])), (74, (15, 75, [0], [])), (75, (91, 78, [8, 1, 54], [])), (78, (11, 79, [1], [])), (79, (80, 80, [], [])), (80, (57, 81, [], [])), (81, (80, 82, [], [])), (82, (1, 83, [], [1])), (83, (30, 84, [], [])), (84, (84, 85, [], [])), (85, (15, 86, [0], [])), (86, (91, 89, [8, 8, 59], [])), (89, (15, 90, [0], [])), (90, (90, 93, [8, 7, 68], [])), (93, (11, 94, [1], [])), (94, (84, 95, [], [])), (95, (15, 96, [0], [])), (96, (91, 99, [8, 9, 60], [])), (99, (15, 100, [0], [])), (100, (90, 103, [8, 7, 68], [])), (103, (11, 104, [2], [])), (104, (84, 105, [], [])), (105, (15, 106, [0], [])), (106, (91, 109, [8, 10, 61], [])), (109, (15, 110, [0], [])), (110, (90, 113, [8, 7, 68], [])), (113, (1, 114, [], [-1])), (114, (84, 115, [], [])), (115, (15, 116, [0], [])), (116, (91, 119, [8, 3, 56], [])), (119, (11, 120, [1], [])), (120, (15, 121, [0], [])), (121, (90, 124, [8, 7, 68], [])), (124, (84, 125, [], [])), (125, (15, 126, [0], [])), (126, (56, 127, [], [])), (127, (90, 130, [8, 7, 68], [])), (130, (1, 131, [], [1])), (131, (30, 132, [], [])), (132, (92, 135, [8, 7, 68], [])), (135, (15, 136, [0], [])), (136, (91, 139, [8, 11, 62], [])), (139, (15, 140, [0], [])), (140, (91, 143, [8, 1, 54], [])), (143, (11, 144, [1], [])), (144, (80, 145, [], [])), (145, (57, 146, [], [])), (146, (80, 147, [], [])), (147, (1, 148, [], [1])), (148, (30, 149, [], [])), (149, (84, 150, [], [])), (150, (1, 151, [], [1])), (151, (110, 152, [], []))]
/-- PitInspector$Crew.goDown(II)Z -/
noncomputable def mt_148 : MTy := (⟨"PitInspector$Crew", "goDown", "(II)Z"⟩, prog_3_method_7_code, 3, some .boolean, 8, 8, 2, (0, 0), 2, [1206, 10, 1204, 1318], cd_148)
noncomputable def cd_149 : List (Nat × Ins) := [(0, (11, 1, [1], [])), (1, (62, 4, [16], [])), (4, (11, 5, [1], [])), (5, (15, 6, [0], [])), (6, (90, 9, [8, 0, 66], [])), (9, (69, 12, [16], [])), (12, (1, 13, [], [1])), (13, (73, 16, [17], [])), (16, (1, 17, [], [0])), (17, (110, 18, [], []))]
/-- PitInspector$Crew.exists(I)Z -/
noncomputable def mt_149 : MTy := (⟨"PitInspector$Crew", "exists", "(I)Z"⟩, prog_3_method_2_code, 2, some .boolean, 8, 8, 2, (0, 0), 1, [1210, 10, 1208, 1322], cd_149)
noncomputable def cd_150 : List (Nat × Ins) := [(0, (15, 1, [0], [])), (1, (91, 4, [8, 3, 56], [])), (4, (11, 5, [1], [])), (5, (80, 6, [], [])), (6, (1, 7, [], [-1])), (7, (66, 10, [14], [])), (10, (1, 11, [], [1])), (11, (73, 14, [15], [])), (14, (1, 15, [], [0])), (15, (110, 16, [], []))]
/-- PitInspector$Crew.isBelow(I)Z -/
noncomputable def mt_150 : MTy := (⟨"PitInspector$Crew", "isBelow", "(I)Z"⟩, prog_3_method_3_code, 2, some .boolean, 8, 8, 2, (0, 0), 1, [1214, 10, 1212, 1326], cd_150)
noncomputable def cd_151 : List (Nat × Ins) := [(0, (15, 1, [0], [])), (1, (91, 4, [0, 8, 6], [])), (4, (11, 5, [1], [])), (5, (15, 6, [0], [])), (6, (90, 9, [0, 0, 10], [])), (9, (100, 12, [152, 3, 63], [])), (12, (110, 13, [], []))]
/-- PitInspector.up(I)Z -/
noncomputable def mt_151 : MTy := (⟨"PitInspector", "up", "(I)Z"⟩, prog_1_method_35_code, 2, some .boolean, 0, 0, 2, (0, 0), 1, [1218, 1, 1216, 1330], cd_151)
noncomputable def cd_152 : List (Nat × Ins) := [(0, (15, 1, [0], [])), (1, (11, 2, [1], [])), (2, (100, 5, [149, 2, 109], [])), (5, (60, 8, [16], [])), (8, (15, 9, [0], [])), (9, (11, 10, [1], [])), (10, (100, 13, [150, 2, 107], [])), (13, (61, 16, [18], [])), (16, (1, 17, [], [0])), (17, (110, 18, [], [])), (18, (15, 19, [0], [])), (19, (11, 20, [1], [])), (20, (100, 23, [153, 2, 110], [])), (23, (17, 24, [3], [])), (24, (11, 25, [3], [])), (25, (1, 26, [], [-1])), (26, (66, 29, [51], [])), (29, (15, 30, [0], [])), (30, (91, 33, [8, 6, 58], [])), (33, (11, 34, [3], [])), (34, (1, 35, [], [0])), (35, (85, 36, [], [])), (36, (15, 37, [0], [])), (37, (91, 40, [8, 12, 63], [])), (40, (15, 41, [0], [])), (41, (91, 44, [8, 1, 54], [])), (44, (11, 45, [1], [])), (45, (80, 46, [], [])), (46, (57, 47, [], [])), (47, (80, 48, [], [])), (48, (1, 49, [], [1])), (49, (31, 50, [], [])), (50, (84, 51, [], [])), (51, (15, 52, [0], [])), (52, (91, 55, [8, 10, 61], [])), (55, (15, 56, [0], [])), (56, (91, 59, [8, 3, 56], [])), (59, (11, 60, [1], [])), (60, (80, 61, [], [])), (61, (11, 62, [2], [])), (62, (84, 63, [], [])), (63, (15, 64, [0], [])), (64, (91, 67, [8, 3, 56], [])), (67, (11, 68, [1], [])), (68, (1, 69, [], [-1])), (69, (84, 70, [], [])), (70, (15, 71, [0], [])), (71, (91, 74, [8, 11, 62], [])), (74, (15, 75, [0], [])), (75, (91, 78, [8, 1, 54], [])), (78, (11, 79, [1], [])), (79, (80, 80, [], [])), (80, (57, 81, [], [])), (81, (80, 82, [], [])), (82, (1, 83, [], [1])), (83, (31, 84, [], [])), (84, (84, 85, [], [])), (85, (1, 86, [], [1])), (86, (110, 87, [], []))]
/-- PitInspector$Crew.goUp(II)Z -/
noncomputable def mt_152 : MTy := (⟨"PitInspector$Crew", "goUp", "(II)Z"⟩, prog_3_method_8_code, 4, some .boolean, 8, 8, 2, (0, 0), 2, [1222, 10, 1220, 1334], cd_152)
noncomputable def cd_153 : List (Nat × Ins) := [(0, (15, 1, [0], [])), (1, (11, 2, [1], [])), (2, (100, 5, [150, 2, 107], [])), (5, (60, 8, [22], [])), (8, (15, 9, [0], [])), (9, (91, 12, [8, 9, 60], [])), (12, (15, 13, [0], [])), (13, (91, 16, [8, 3, 56], [])), (16, (11, 17, [1], [])), (17, (80, 18, [], [])), (18, (80, 19, [], [])), (19, (73, 22, [23], [])), (22, (1, 23, [], [-1])), (23, (110, 24, [], []))]
/-- PitInspector$Crew.lampOf(I)I -/
noncomputable def mt_153 : MTy := (⟨"PitInspector$Crew", "lampOf", "(I)I"⟩, prog_3_method_4_code, 2, some .int, 8, 8, 1, (0, 0), 1, [1226, 10, 1224, 1338], cd_153)
noncomputable def cd_154 : List (Nat × Ins) := [(0, (15, 1, [0], [])), (1, (91, 4, [0, 3, 1], [])), (4, (11, 5, [1], [])), (5, (100, 8, [18, 2, 12], [])), (8, (60, 11, [33], [])), (11, (15, 12, [0], [])), (12, (91, 15, [0, 8, 6], [])), (15, (91, 18, [8, 11, 12], [])), (18, (11, 19, [1], [])), (19, (80, 20, [], [])), (20, (15, 21, [0], [])), (21, (91, 24, [0, 3, 1], [])), (24, (91, 27, [1, 4, 13], [])), (27, (11, 28, [1], [])), (28, (80, 29, [], [])), (29, (31, 30, [], [])), (30, (73, 33, [36], [])), (33, (5, 36, [1], [-100000])), (36, (110, 37, [], []))]
/-- PitInspector.differs(I)I -/
noncomputable def mt_154 : MTy := (⟨"PitInspector", "differs", "(I)I"⟩, prog_1_method_36_code, 2, some .int, 0, 0, 1, (0, 0), 1, [1230, 1, 1228, 1342], cd_154)
noncomputable def cd_155 : List (Nat × Ins) := [(0, (15, 1, [0], [])), (1, (91, 4, [0, 3, 1], [])), (4, (11, 5, [1], [])), (5, (11, 6, [2], [])), (6, (100, 9, [156, 3, 64], [])), (9, (110, 10, [], []))]
/-- PitInspector.book(II)Z -/
noncomputable def mt_155 : MTy := (⟨"PitInspector", "book", "(II)Z"⟩, prog_1_method_37_code, 3, some .boolean, 0, 0, 2, (0, 0), 2, [1235, 1, 1233, 1347], cd_155)
noncomputable def cd_156 : List (Nat × Ins) := [(0, (15, 1, [0], [])), (1, (11, 2, [1], [])), (2, (100, 5, [18, 2, 154], [])), (5, (60, 8, [19], [])), (8, (11, 9, [2], [])), (9, (1, 10, [], [0])), (10, (3, 13, [], [2000])), (13, (103, 16, [13, 3, 153], [])), (16, (61, 19, [21], [])), (19, (1, 20, [], [0])), (20, (110, 21, [], [])), (21, (15, 22, [0], [])), (22, (91, 25, [1, 4, 124], [])), (25, (11, 26, [1], [])), (26, (11, 27, [2], [])), (27, (84, 28, [], [])), (28, (1, 29, [], [1])), (29, (110, 30, [], []))]
/-- PitInspector$Pits.setBook(II)Z -/
noncomputable def mt_156 : MTy := (⟨"PitInspector$Pits", "setBook", "(II)Z"⟩, prog_8_method_5_code, 3, some .boolean, 1, 1, 2, (0, 0), 2, [1239, 2, 1237, 1351], cd_156)
noncomputable def cd_157 : List (Nat × Ins) := [(0, (11, 1, [2], [])), (1, (1, 2, [], [0])), (2, (15, 3, [0], [])), (3, (90, 6, [0, 0, 10], [])), (6, (102, 9, [13, 3, 9], [])), (9, (60, 12, [21], [])), (12, (11, 13, [3], [])), (13, (1, 14, [], [0])), (14, (1, 15, [], [1])), (15, (102, 18, [13, 3, 9], [])), (18, (61, 21, [23], [])), (21, (1, 22, [], [-1])), (22, (110, 23, [], [])), (23, (15, 24, [0], [])), (24, (91, 27, [0, 8, 6], [])), (27, (11, 28, [1], [])), (28, (11, 29, [2], [])), (29, (11, 30, [3], [])), (30, (100, 33, [158, 4, 65], [])), (33, (110, 34, [], []))]
/-- PitInspector.had(III)I -/
noncomputable def mt_157 : MTy := (⟨"PitInspector", "had", "(III)I"⟩, prog_1_method_38_code, 4, some .int, 0, 0, 1, (0, 0), 3, [1243, 1, 1241, 1355], cd_157)
noncomputable def cd_158 : List (Nat × Ins) := [(0, (11, 1, [1], [])), (1, (1, 2, [], [0])), (2, (2, 4, [], [9])), (4, (103, 7, [13, 3, 108], [])), (7, (61, 10, [12], [])), (10, (1, 11, [], [-1])), (11, (110, 12, [], [])), (12, (1, 13, [], [0])), (13, (16, 15, [4], [])), (15, (1, 16, [], [0])), (16, (16, 18, [5], [])), (18, (10, 20, [5], [])), (20, (15, 21, [0], [])), (21, (90, 24, [8, 7, 68], [])), (24, (69, 27, [137], [])), (27, (15, 28, [0], [])), (28, (91, 31, [8, 9, 60], [])), (31, (10, 33, [5], [])), (33, (80, 34, [], [])), (34, (1, 35, [], [-1])), (35, (66, 38, [58], [])), (38, (15, 39, [0], [])), (39, (91, 42, [8, 5, 57], [])), (42, (15, 43, [0], [])), (43, (91, 46, [8, 9, 60], [])), (46, (10, 48, [5], [])), (48, (80, 49, [], [])), (49, (80, 50, [], [])), (50, (11, 51, [1], [])), (51, (67, 54, [58], [])), (54, (1, 55, [], [1])), (55, (73, 58, [59], [])), (58, (1, 59, [], [0])), (59, (16, 61, [6], [])), (61, (15, 62, [0], [])), (62, (91, 65, [8, 10, 61], [])), (65, (10, 67, [5], [])), (67, (80, 68, [], [])), (68, (1, 69, [], [-1])), (69, (66, 72, [83], [])), (72, (15, 73, [0], [])), (73, (91, 76, [8, 10, 61], [])), (76, (10, 78, [5], [])), (78, (80, 79, [], [])), (79, (11, 80, [2], [])), (80, (68, 83, [87], [])), (83, (1, 84, [], [1])), (84, (73, 87, [88], [])), (87, (1, 88, [], [0])), (88, (16, 90, [7], [])), (90, (10, 92, [6], [])), (92, (60, 95, [131], [])), (95, (10, 97, [7], [])), (97, (60, 100, [131], [])), (100, (15, 101, [0], [])), (101, (91, 104, [8, 8, 59], [])), (104, (10, 106, [5], [])), (106, (80, 107, [], [])), (107, (2, 109, [], [20])), (109, (33, 110, [], [])), (110, (11, 111, [3], [])), (111, (67, 114, [131], [])), (114, (10, 116, [4], [])), (116, (1, 117, [], [1])), (117, (15, 118, [0], [])), (118, (91, 121, [8, 8, 59], [])), (121, (10, 123, [5], [])), (123, (80, 124, [], [])), (124, (2, 126, [], [20])), (126, (34, 127, [], [])), (127, (36, 128, [], [])), (128, (40, 129, [], [])), (129, (16, 131, [4], [])), (131, (22, 134, [5], [1])), (134, (73, 137, [18], [])), (137, (10, 139, [4], [])), (139, (110, 140, [], []))]
/-- PitInspector$Crew.hadLot(III)I -/
noncomputable def mt_158 : MTy := (⟨"PitInspector$Crew", "hadLot", "(III)I"⟩, prog_3_method_9_code, 8, some .int, 8, 8, 1, (0, 0), 3, [1247, 10, 1245, 1359], cd_158)
noncomputable def cd_159 : List (Nat × Ins) := [(0, (15, 1, [0], [])), (1, (91, 4, [0, 8, 6], [])), (4, (11, 5, [1], [])), (5, (15, 6, [0], [])), (6, (90, 9, [0, 0, 10], [])), (9, (100, 12, [160, 3, 66], [])), (12, (110, 13, [], []))]
/-- PitInspector.shot(I)Z -/
noncomputable def mt_159 : MTy := (⟨"PitInspector", "shot", "(I)Z"⟩, prog_1_method_39_code, 2, some .boolean, 0, 0, 2, (0, 0), 1, [1251, 1, 1249, 1363], cd_159)
noncomputable def cd_160 : List (Nat × Ins) := [(0, (15, 1, [0], [])), (1, (11, 2, [1], [])), (2, (100, 5, [149, 2, 109], [])), (5, (60, 8, [36], [])), (8, (15, 9, [0], [])), (9, (91, 12, [8, 2, 55], [])), (12, (11, 13, [1], [])), (13, (80, 14, [], [])), (14, (1, 15, [], [3])), (15, (67, 18, [36], [])), (18, (15, 19, [0], [])), (19, (11, 20, [1], [])), (20, (100, 23, [150, 2, 107], [])), (23, (60, 26, [36], [])), (26, (15, 27, [0], [])), (27, (90, 30, [8, 13, 69], [])), (30, (3, 33, [], [300])), (33, (68, 36, [38], [])), (36, (1, 37, [], [0])), (37, (110, 38, [], [])), (38, (15, 39, [0], [])), (39, (91, 42, [8, 14, 64], [])), (42, (15, 43, [0], [])), (43, (90, 46, [8, 13, 69], [])), (46, (15, 47, [0], [])), (47, (91, 50, [8, 1, 54], [])), (50, (11, 51, [1], [])), (51, (80, 52, [], [])), (52, (84, 53, [], [])), (53, (15, 54, [0], [])), (54, (91, 57, [8, 15, 65], [])), (57, (15, 58, [0], [])), (58, (90, 61, [8, 13, 69], [])), (61, (11, 62, [2], [])), (62, (84, 63, [], [])), (63, (15, 64, [0], [])), (64, (56, 65, [], [])), (65, (90, 68, [8, 13, 69], [])), (68, (1, 69, [], [1])), (69, (30, 70, [], [])), (70, (92, 73, [8, 13, 69], [])), (73, (1, 74, [], [1])), (74, (110, 75, [], []))]
/-- PitInspector$Crew.fire(II)Z -/
noncomputable def mt_160 : MTy := (⟨"PitInspector$Crew", "fire", "(II)Z"⟩, prog_3_method_10_code, 3, some .boolean, 8, 8, 2, (0, 0), 2, [1255, 10, 1253, 1367], cd_160)
noncomputable def cd_161 : List (Nat × Ins) := [(0, (15, 1, [0], [])), (1, (91, 4, [0, 3, 1], [])), (4, (11, 5, [1], [])), (5, (100, 8, [18, 2, 12], [])), (8, (60, 11, [31], [])), (11, (11, 12, [2], [])), (12, (1, 13, [], [0])), (13, (2, 15, [], [24])), (15, (102, 18, [13, 3, 9], [])), (18, (60, 21, [31], [])), (21, (11, 22, [3], [])), (22, (11, 23, [2], [])), (23, (2, 25, [], [24])), (25, (102, 28, [13, 3, 9], [])), (28, (61, 31, [33], [])), (31, (1, 32, [], [-1])), (32, (110, 33, [], [])), (33, (15, 34, [0], [])), (34, (91, 37, [0, 8, 6], [])), (37, (11, 38, [1], [])), (38, (11, 39, [2], [])), (39, (11, 40, [3], [])), (40, (100, 43, [162, 4, 67], [])), (43, (110, 44, [], []))]
/-- PitInspector.shots(III)I -/
noncomputable def mt_161 : MTy := (⟨"PitInspector", "shots", "(III)I"⟩, prog_1_method_40_code, 4, some .int, 0, 0, 1, (0, 0), 3, [1259, 1, 1257, 1371], cd_161)
noncomputable def cd_162 : List (Nat × Ins) := [(0, (1, 1, [], [0])), (1, (16, 3, [4], [])), (3, (1, 4, [], [0])), (4, (16, 6, [5], [])), (6, (10, 8, [5], [])), (8, (15, 9, [0], [])), (9, (90, 12, [8, 13, 69], [])), (12, (69, 15, [62], [])), (15, (15, 16, [0], [])), (16, (91, 19, [8, 15, 65], [])), (19, (10, 21, [5], [])), (21, (80, 22, [], [])), (22, (2, 24, [], [60])), (24, (33, 25, [], [])), (25, (2, 27, [], [24])), (27, (34, 28, [], [])), (28, (16, 30, [6], [])), (30, (15, 31, [0], [])), (31, (91, 34, [8, 14, 64], [])), (34, (10, 36, [5], [])), (36, (80, 37, [], [])), (37, (11, 38, [1], [])), (38, (67, 41, [56], [])), (41, (10, 43, [6], [])), (43, (11, 44, [2], [])), (44, (68, 47, [56], [])), (47, (10, 49, [6], [])), (49, (11, 50, [3], [])), (50, (69, 53, [56], [])), (53, (22, 56, [4], [1])), (56, (22, 59, [5], [1])), (59, (73, 62, [6], [])), (62, (10, 64, [4], [])), (64, (110, 65, [], []))]
/-- PitInspector$Crew.shotsBetween(III)I -/
noncomputable def mt_162 : MTy := (⟨"PitInspector$Crew", "shotsBetween", "(III)I"⟩, prog_3_method_11_code, 7, some .int, 8, 8, 1, (0, 0), 3, [1263, 10, 1261, 1375], cd_162)
noncomputable def cd_163 : List (Nat × Ins) := [(0, (15, 1, [0], [])), (1, (91, 4, [0, 8, 6], [])), (4, (11, 5, [1], [])), (5, (100, 8, [149, 2, 68], [])), (8, (60, 11, [35], [])), (11, (15, 12, [0], [])), (12, (91, 15, [0, 9, 7], [])), (15, (11, 16, [1], [])), (16, (15, 17, [0], [])), (17, (91, 20, [0, 8, 6], [])), (20, (91, 23, [8, 1, 14], [])), (23, (11, 24, [1], [])), (24, (80, 25, [], [])), (25, (15, 26, [0], [])), (26, (90, 29, [0, 0, 10], [])), (29, (100, 32, [164, 4, 69], [])), (32, (73, 35, [36], [])), (35, (1, 36, [], [-1])), (36, (110, 37, [], []))]
/-- PitInspector.warn(I)I -/
noncomputable def mt_163 : MTy := (⟨"PitInspector", "warn", "(I)I"⟩, prog_1_method_41_code, 2, some .int, 0, 0, 1, (0, 0), 1, [1267, 1, 1265, 1379], cd_163)
noncomputable def cd_164 : List (Nat × Ins) := [(0, (15, 1, [0], [])), (1, (90, 4, [9, 0, 178], [])), (4, (2, 6, [], [60])), (6, (68, 9, [11], [])), (9, (1, 10, [], [-1])), (10, (110, 11, [], [])), (11, (15, 12, [0], [])), (12, (91, 15, [9, 1, 175], [])), (15, (15, 16, [0], [])), (16, (90, 19, [9, 0, 178], [])), (19, (11, 20, [2], [])), (20, (84, 21, [], [])), (21, (15, 22, [0], [])), (22, (91, 25, [9, 2, 176], [])), (25, (15, 26, [0], [])), (26, (90, 29, [9, 0, 178], [])), (29, (2, 31, [], [40])), (31, (32, 32, [], [])), (32, (11, 33, [1], [])), (33, (30, 34, [], [])), (34, (11, 35, [3], [])), (35, (84, 36, [], [])), (36, (15, 37, [0], [])), (37, (56, 38, [], [])), (38, (90, 41, [9, 0, 178], [])), (41, (1, 42, [], [1])), (42, (30, 43, [], [])), (43, (92, 46, [9, 0, 178], [])), (46, (15, 47, [0], [])), (47, (90, 50, [9, 0, 178], [])), (50, (1, 51, [], [1])), (51, (31, 52, [], [])), (52, (110, 53, [], []))]
/-- PitInspector$Warnings.raise(III)I -/
noncomputable def mt_164 : MTy := (⟨"PitInspector$Warnings", "raise", "(III)I"⟩, prog_12_method_3_code, 4, some .int, 9, 9, 1, (0, 0), 3, [1272, 11, 1270, 1384], cd_164)
noncomputable def cd_165 : List (Nat × Ins) := [(0, (15, 1, [0], [])), (1, (91, 4, [0, 9, 7], [])), (4, (11, 5, [1], [])), (5, (100, 8, [166, 2, 70], [])), (8, (60, 11, [33], [])), (11, (15, 12, [0], [])), (12, (91, 15, [0, 8, 6], [])), (15, (11, 16, [2], [])), (16, (100, 19, [149, 2, 68], [])), (19, (60, 22, [33], [])), (22, (15, 23, [0], [])), (23, (91, 26, [0, 8, 6], [])), (26, (11, 27, [3], [])), (27, (100, 30, [149, 2, 68], [])), (30, (61, 33, [35], [])), (33, (1, 34, [], [0])), (34, (110, 35, [], [])), (35, (15, 36, [0], [])), (36, (91, 39, [0, 8, 6], [])), (39, (91, 42, [8, 1, 14], [])), (42, (11, 43, [3], [])), (43, (80, 44, [], [])), (44, (15, 45, [0], [])), (45, (91, 48, [0, 9, 7], [])), (48, (91, 51, [9, 1, 15], [])), (51, (11, 52, [1], [])), (52, (80, 53, [], [])), (53, (66, 56, [58], [])), (56, (1, 57, [], [0])), (57, (110, 58, [], [])), (58, (15, 59, [0], [])), (59, (91, 62, [0, 9, 7], [])), (62, (11, 63, [1], [])), (63, (11, 64, [2], [])), (64, (11, 65, [3], [])), (65, (15, 66, [0], [])), (66, (90, 69, [0, 0, 10], [])), (69, (100, 72, [167, 5, 71], [])), (72, (110, 73, [], []))]
/-- PitInspector.tell(III)Z -/
noncomputable def mt_165 : MTy := (⟨"PitInspector", "tell", "(III)Z"⟩, prog_1_method_42_code, 4, some .boolean, 0, 0, 2, (0, 0), 3, [1276, 1, 1274, 1388], cd_165)
noncomputable def cd_166 : List (Nat × Ins) := [(0, (11, 1, [1], [])), (1, (62, 4, [16], [])), (4, (11, 5, [1], [])), (5, (15, 6, [0], [])), (6, (90, 9, [9, 0, 178], [])), (9, (69, 12, [16], [])), (12, (1, 13, [], [1])), (13, (73, 16, [17], [])), (16, (1, 17, [], [0])), (17, (110, 18, [], []))]
/-- PitInspector$Warnings.exists(I)Z -/
noncomputable def mt_166 : MTy := (⟨"PitInspector$Warnings", "exists", "(I)Z"⟩, prog_12_method_2_code, 2, some .boolean, 9, 9, 2, (0, 0), 1, [1280, 11, 1278, 1392], cd_166)
noncomputable def cd_167 : List (Nat × Ins) := [(0, (15, 1, [0], [])), (1, (11, 2, [1], [])), (2, (11, 3, [2], [])), (3, (100, 6, [168, 3, 187], [])), (6, (60, 9, [18], [])), (9, (15, 10, [0], [])), (10, (11, 11, [1], [])), (11, (11, 12, [3], [])), (12, (100, 15, [168, 3, 187], [])), (15, (60, 18, [20], [])), (18, (1, 19, [], [0])), (19, (110, 20, [], [])), (20, (15, 21, [0], [])), (21, (91, 24, [9, 2, 176], [])), (24, (11, 25, [1], [])), (25, (2, 27, [], [40])), (27, (32, 28, [], [])), (28, (11, 29, [3], [])), (29, (30, 30, [], [])), (30, (10, 32, [4], [])), (32, (84, 33, [], [])), (33, (1, 34, [], [1])), (34, (110, 35, [], []))]
/-- PitInspector$Warnings.pass(IIII)Z -/
noncomputable def mt_167 : MTy := (⟨"PitInspector$Warnings", "pass", "(IIII)Z"⟩, prog_12_method_6_code, 5, some .boolean, 9, 9, 2, (0, 0), 4, [1284, 11, 1282, 1396], cd_167)
noncomputable def cd_168 : List (Nat × Ins) := [(0, (15, 1, [0], [])), (1, (91, 4, [9, 2, 176], [])), (4, (11, 5, [1], [])), (5, (2, 7, [], [40])), (7, (32, 8, [], [])), (8, (11, 9, [2], [])), (9, (30, 10, [], [])), (10, (80, 11, [], [])), (11, (1, 12, [], [-1])), (12, (66, 15, [19], [])), (15, (1, 16, [], [1])), (16, (73, 19, [20], [])), (19, (1, 20, [], [0])), (20, (110, 21, [], []))]
/-- PitInspector$Warnings.isKnown(II)Z -/
noncomputable def mt_168 : MTy := (⟨"PitInspector$Warnings", "isKnown", "(II)Z"⟩, prog_12_method_4_code, 3, some .boolean, 9, 9, 2, (0, 0), 2, [1288, 11, 1287, 36], cd_168)
noncomputable def cd_169 : List (Nat × Ins) := [(0, (15, 1, [0], [])), (1, (91, 4, [0, 9, 7], [])), (4, (11, 5, [1], [])), (5, (100, 8, [166, 2, 70], [])), (8, (60, 11, [22], [])), (11, (15, 12, [0], [])), (12, (91, 15, [0, 8, 6], [])), (15, (11, 16, [2], [])), (16, (100, 19, [149, 2, 68], [])), (19, (61, 22, [24], [])), (22, (1, 23, [], [0])), (23, (110, 24, [], [])), (24, (15, 25, [0], [])), (25, (91, 28, [0, 9, 7], [])), (28, (11, 29, [1], [])), (29, (11, 30, [2], [])), (30, (100, 33, [170, 3, 72], [])), (33, (110, 34, [], []))]
/-- PitInspector.act(II)Z -/
noncomputable def mt_169 : MTy := (⟨"PitInspector", "act", "(II)Z"⟩, prog_1_method_43_code, 3, some .boolean, 0, 0, 2, (0, 0), 2, [1292, 1, 1290, 1404], cd_169)
noncomputable def cd_170 : List (Nat × Ins) := [(0, (15, 1, [0], [])), (1, (11, 2, [1], [])), (2, (11, 3, [2], [])), (3, (100, 6, [168, 3, 187], [])), (6, (60, 9, [18], [])), (9, (15, 10, [0], [])), (10, (11, 11, [1], [])), (11, (11, 12, [2], [])), (12, (100, 15, [171, 3, 188], [])), (15, (60, 18, [20], [])), (18, (1, 19, [], [0])), (19, (110, 20, [], [])), (20, (15, 21, [0], [])), (21, (91, 24, [9, 3, 177], [])), (24, (11, 25, [1], [])), (25, (57, 26, [], [])), (26, (82, 27, [], [])), (27, (6, 28, [], [1])), (28, (11, 29, [2], [])), (29, (54, 30, [], [])), (30, (53, 31, [], [])), (31, (86, 32, [], [])), (32, (1, 33, [], [1])), (33, (110, 34, [], []))]
/-- PitInspector$Warnings.heed(II)Z -/
noncomputable def mt_170 : MTy := (⟨"PitInspector$Warnings", "heed", "(II)Z"⟩, prog_12_method_7_code, 3, some .boolean, 9, 9, 2, (0, 0), 2, [1296, 11, 1294, 1408], cd_170)
noncomputable def cd_171 : List (Nat × Ins) := [(0, (15, 1, [0], [])), (1, (91, 4, [9, 3, 177], [])), (4, (11, 5, [1], [])), (5, (82, 6, [], [])), (6, (11, 7, [2], [])), (7, (55, 8, [], [])), (8, (6, 9, [], [1])), (9, (52, 10, [], [])), (10, (6, 11, [], [0])), (11, (51, 12, [], [])), (12, (60, 15, [19], [])), (15, (1, 16, [], [1])), (16, (73, 19, [20], [])), (19, (1, 20, [], [0])), (20, (110, 21, [], []))]
/-- PitInspector$Warnings.hasActed(II)Z -/
noncomputable def mt_171 : MTy := (⟨"PitInspector$Warnings", "hasActed", "(II)Z"⟩, prog_12_method_5_code, 3, some .boolean, 9, 9, 2, (0, 0), 2, [1300, 11, 1299, 37], cd_171)
noncomputable def cd_172 : List (Nat × Ins) := [(0, (15, 1, [0], [])), (1, (91, 4, [0, 9, 7], [])), (4, (11, 5, [1], [])), (5, (100, 8, [166, 2, 70], [])), (8, (60, 11, [30], [])), (11, (11, 12, [3], [])), (12, (1, 13, [], [0])), (13, (1, 14, [], [1])), (14, (102, 17, [13, 3, 9], [])), (17, (60, 20, [30], [])), (20, (11, 21, [2], [])), (21, (1, 22, [], [0])), (22, (4, 24, [0], [5000000])), (24, (102, 27, [13, 3, 9], [])), (27, (61, 30, [32], [])), (30, (1, 31, [], [-1])), (31, (110, 32, [], [])), (32, (15, 33, [0], [])), (33, (91, 36, [0, 9, 7], [])), (36, (11, 37, [1], [])), (37, (11, 38, [2], [])), (38, (11, 39, [3], [])), (39, (100, 42, [173, 4, 73], [])), (42, (110, 43, [], []))]
/-- PitInspector.knew(III)I -/
noncomputable def mt_172 : MTy := (⟨"PitInspector", "knew", "(III)I"⟩, prog_1_method_44_code, 4, some .int, 0, 0, 1, (0, 0), 3, [1304, 1, 1302, 1416], cd_172)
noncomputable def cd_173 : List (Nat × Ins) := [(0, (1, 1, [], [0])), (1, (16, 3, [4], [])), (3, (1, 4, [], [0])), (4, (16, 6, [5], [])), (6, (10, 8, [5], [])), (8, (2, 10, [], [20])), (10, (69, 13, [63], [])), (13, (11, 14, [3], [])), (14, (2, 16, [], [20])), (16, (32, 17, [], [])), (17, (10, 19, [5], [])), (19, (30, 20, [], [])), (20, (16, 22, [6], [])), (22, (15, 23, [0], [])), (23, (11, 24, [1], [])), (24, (10, 26, [6], [])), (26, (100, 29, [168, 3, 187], [])), (29, (60, 32, [57], [])), (32, (15, 33, [0], [])), (33, (91, 36, [9, 2, 176], [])), (36, (11, 37, [1], [])), (37, (2, 39, [], [40])), (39, (32, 40, [], [])), (40, (10, 42, [6], [])), (42, (30, 43, [], [])), (43, (80, 44, [], [])), (44, (11, 45, [2], [])), (45, (70, 48, [57], [])), (48, (10, 50, [4], [])), (50, (1, 51, [], [1])), (51, (10, 53, [5], [])), (53, (36, 54, [], [])), (54, (40, 55, [], [])), (55, (16, 57, [4], [])), (57, (22, 60, [5], [1])), (60, (73, 63, [6], [])), (63, (10, 65, [4], [])), (65, (110, 66, [], []))]
/-- PitInspector$Warnings.knownTo(III)I -/
noncomputable def mt_173 : MTy := (⟨"PitInspector$Warnings", "knownTo", "(III)I"⟩, prog_12_method_8_code, 7, some .int, 9, 9, 1, (0, 0), 3, [1308, 11, 1306, 1420], cd_173)
noncomputable def cd_174 : List (Nat × Ins) := [(0, (15, 1, [0], [])), (1, (91, 4, [0, 9, 7], [])), (4, (11, 5, [1], [])), (5, (100, 8, [166, 2, 70], [])), (8, (60, 11, [20], [])), (11, (11, 12, [2], [])), (12, (1, 13, [], [0])), (13, (1, 14, [], [1])), (14, (102, 17, [13, 3, 9], [])), (17, (61, 20, [22], [])), (20, (1, 21, [], [-1])), (21, (110, 22, [], [])), (22, (15, 23, [0], [])), (23, (91, 26, [0, 9, 7], [])), (26, (91, 29, [9, 1, 15], [])), (29, (11, 30, [1], [])), (30, (80, 31, [], [])), (31, (17, 32, [3], [])), (32, (15, 33, [0], [])), (33, (11, 34, [3], [])), (34, (100, 37, [56, 2, 21], [])), (37, (15, 38, [0], [])), (38, (91, 41, [0, 4, 2], [])), (41, (11, 42, [3], [])), (42, (15, 43, [0], [])), (43, (100, 46, [47, 1, 18], [])), (46, (100, 49, [175, 3, 74], [])), (49, (16, 51, [4], [])), (51, (10, 53, [4], [])), (53, (1, 54, [], [-1])), (54, (67, 57, [61], [])), (57, (1, 58, [], [0])), (58, (73, 61, [84], [])), (61, (15, 62, [0], [])), (62, (91, 65, [0, 9, 7], [])), (65, (11, 66, [1], [])), (66, (15, 67, [0], [])), (67, (90, 70, [0, 0, 10], [])), (70, (2, 72, [], [60])), (72, (10, 74, [4], [])), (74, (32, 75, [], [])), (75, (31, 76, [], [])), (76, (11, 77, [2], [])), (77, (15, 78, [0], [])), (78, (91, 81, [0, 8, 6], [])), (81, (100, 84, [176, 5, 75], [])), (84, (110, 85, [], []))]
/-- PitInspector.late(II)I -/
noncomputable def mt_174 : MTy := (⟨"PitInspector", "late", "(II)I"⟩, prog_1_method_45_code, 5, some .int, 0, 0, 1, (0, 0), 2, [1312, 1, 1310, 1424], cd_174)
noncomputable def cd_175 : List (Nat × Ins) := [(0, (15, 1, [0], [])), (1, (11, 2, [1], [])), (2, (11, 3, [2], [])), (3, (100, 6, [51, 3, 123], [])), (6, (15, 7, [0], [])), (7, (90, 10, [2, 1, 83], [])), (10, (1, 11, [], [1])), (11, (31, 12, [], [])), (12, (17, 13, [3], [])), (13, (11, 14, [3], [])), (14, (62, 17, [105], [])), (17, (15, 18, [0], [])), (18, (91, 21, [2, 2, 78], [])), (21, (11, 22, [3], [])), (22, (83, 23, [], [])), (23, (20, 25, [4], [])), (25, (14, 27, [4], [])), (27, (90, 30, [3, 5, 85], [])), (30, (1, 31, [], [1])), (31, (31, 32, [], [])), (32, (16, 34, [5], [])), (34, (10, 36, [5], [])), (36, (62, 39, [99], [])), (39, (14, 41, [4], [])), (41, (11, 42, [1], [])), (42, (11, 43, [2], [])), (43, (100, 46, [49, 3, 122], [])), (46, (60, 49, [99], [])), (49, (14, 51, [4], [])), (51, (91, 54, [3, 6, 91], [])), (54, (10, 56, [5], [])), (56, (80, 57, [], [])), (57, (2, 59, [], [119])), (59, (67, 62, [93], [])), (62, (14, 64, [4], [])), (64, (10, 66, [5], [])), (66, (100, 69, [52, 2, 124], [])), (69, (61, 72, [93], [])), (72, (15, 73, [0], [])), (73, (14, 75, [4], [])), (75, (10, 77, [5], [])), (77, (100, 80, [81, 3, 127], [])), (80, (1, 81, [], [1])), (81, (67, 84, [93], [])), (84, (14, 86, [4], [])), (86, (91, 89, [3, 7, 92], [])), (89, (10, 91, [5], [])), (91, (80, 92, [], [])), (92, (110, 93, [], [])), (93, (22, 96, [5], [-1])), (96, (73, 99, [34], [])), (99, (22, 102, [3], [-1])), (102, (73, 105, [13], [])), (105, (1, 106, [], [-1])), (106, (110, 107, [], []))]
/-- PitInspector$Laws.hoursToAct(II)I -/
noncomputable def mt_175 : MTy := (⟨"PitInspector$Laws", "hoursToAct", "(II)I"⟩, prog_5_method_16_code, 6, some .int, 2, 2, 1, (0, 0), 2, [1316, 3, 1314, 1428], cd_175)
noncomputable def cd_176 : List (Nat × Ins) := [(0, (1, 1, [], [0])), (1, (16, 3, [5], [])), (3, (1, 4, [], [0])), (4, (16, 6, [6], [])), (6, (10, 8, [6], [])), (8, (2, 10, [], [20])), (10, (69, 13, [107], [])), (13, (11, 14, [3], [])), (14, (2, 16, [], [20])), (16, (32, 17, [], [])), (17, (10, 19, [6], [])), (19, (30, 20, [], [])), (20, (16, 22, [7], [])), (22, (14, 24, [4], [])), (24, (10, 26, [7], [])), (26, (100, 29, [149, 2, 189], [])), (29, (60, 32, [48], [])), (32, (14, 34, [4], [])), (34, (91, 37, [8, 2, 179], [])), (37, (10, 39, [7], [])), (39, (80, 40, [], [])), (40, (1, 41, [], [2])), (41, (70, 44, [48], [])), (44, (1, 45, [], [1])), (45, (73, 48, [49], [])), (48, (1, 49, [], [0])), (49, (16, 51, [8], [])), (51, (10, 53, [8], [])), (53, (60, 56, [101], [])), (56, (15, 57, [0], [])), (57, (11, 58, [1], [])), (58, (10, 60, [7], [])), (60, (100, 63, [168, 3, 187], [])), (63, (60, 66, [101], [])), (66, (15, 67, [0], [])), (67, (91, 70, [9, 2, 176], [])), (70, (11, 71, [1], [])), (71, (2, 73, [], [40])), (73, (32, 74, [], [])), (74, (10, 76, [7], [])), (76, (30, 77, [], [])), (77, (80, 78, [], [])), (78, (11, 79, [2], [])), (79, (69, 82, [101], [])), (82, (15, 83, [0], [])), (83, (11, 84, [1], [])), (84, (10, 86, [7], [])), (86, (100, 89, [171, 3, 188], [])), (89, (61, 92, [101], [])), (92, (10, 94, [5], [])), (94, (1, 95, [], [1])), (95, (10, 97, [6], [])), (97, (36, 98, [], [])), (98, (40, 99, [], [])), (99, (16, 101, [5], [])), (101, (22, 104, [6], [1])), (104, (73, 107, [6], [])), (107, (10, 109, [5], [])), (109, (110, 110, [], []))]
/-- PitInspector$Warnings.idleSince(IIILPitInspector$Crew;)I -/
noncomputable def mt_176 : MTy := (⟨"PitInspector$Warnings", "idleSince", "(IIILPitInspector$Crew;)I"⟩, prog_12_method_9_code, 9, some .int, 9, 9, 1, (0, 0), 4, [1320, 11, 1318, 1432], cd_176)
noncomputable def cd_177 : List (Nat × Ins) := [(0, (15, 1, [0], [])), (1, (91, 4, [0, 3, 1], [])), (4, (11, 5, [1], [])), (5, (100, 8, [178, 2, 76], [])), (8, (110, 9, [], []))]
/-- PitInspector.fall(I)Z -/
noncomputable def mt_177 : MTy := (⟨"PitInspector", "fall", "(I)Z"⟩, prog_1_method_46_code, 2, some .boolean, 0, 0, 2, (0, 0), 1, [1325, 1, 1323, 1437], cd_177)
noncomputable def cd_178 : List (Nat × Ins) := [(0, (15, 1, [0], [])), (1, (11, 2, [1], [])), (2, (100, 5, [18, 2, 154], [])), (5, (60, 8, [18], [])), (8, (15, 9, [0], [])), (9, (90, 12, [1, 7, 127], [])), (12, (3, 15, [], [200])), (15, (68, 18, [20], [])), (18, (1, 19, [], [0])), (19, (110, 20, [], [])), (20, (15, 21, [0], [])), (21, (91, 24, [1, 5, 125], [])), (24, (11, 25, [1], [])), (25, (57, 26, [], [])), (26, (80, 27, [], [])), (27, (1, 28, [], [1])), (28, (30, 29, [], [])), (29, (84, 30, [], [])), (30, (15, 31, [0], [])), (31, (56, 32, [], [])), (32, (90, 35, [1, 7, 127], [])), (35, (1, 36, [], [1])), (36, (30, 37, [], [])), (37, (92, 40, [1, 7, 127], [])), (40, (1, 41, [], [1])), (41, (110, 42, [], []))]
/-- PitInspector$Pits.addFall(I)Z -/
noncomputable def mt_178 : MTy := (⟨"PitInspector$Pits", "addFall", "(I)Z"⟩, prog_8_method_6_code, 2, some .boolean, 1, 1, 2, (0, 0), 1, [1329, 2, 1327, 1441], cd_178)
noncomputable def cd_179 : List (Nat × Ins) := [(0, (11, 1, [1], [])), (1, (1, 2, [], [0])), (2, (2, 4, [], [7])), (4, (102, 7, [13, 3, 9], [])), (7, (61, 10, [12], [])), (10, (1, 11, [], [-1])), (11, (110, 12, [], [])), (12, (15, 13, [0], [])), (13, (91, 16, [0, 3, 1], [])), (16, (11, 17, [1], [])), (17, (100, 20, [180, 2, 77], [])), (20, (60, 23, [27], [])), (23, (1, 24, [], [1])), (24, (73, 27, [28], [])), (27, (1, 28, [], [0])), (28, (110, 29, [], []))]
/-- PitInspector.beyond(I)I -/
noncomputable def mt_179 : MTy := (⟨"PitInspector", "beyond", "(I)I"⟩, prog_1_method_47_code, 2, some .int, 0, 0, 1, (0, 0), 1, [1333, 1, 1331, 1445], cd_179)
noncomputable def cd_180 : List (Nat × Ins) := [(0, (6, 1, [], [0])), (1, (19, 2, [2], [])), (2, (6, 3, [], [0])), (3, (18, 5, [4], [])), (5, (6, 6, [], [0])), (6, (18, 8, [6], [])), (8, (1, 9, [], [0])), (9, (16, 11, [8], [])), (11, (10, 13, [8], [])), (13, (15, 14, [0], [])), (14, (90, 17, [1, 6, 126], [])), (17, (69, 20, [74], [])), (20, (12, 22, [6], [])), (22, (15, 23, [0], [])), (23, (91, 26, [1, 3, 123], [])), (26, (10, 28, [8], [])), (28, (80, 29, [], [])), (29, (42, 30, [], [])), (30, (46, 31, [], [])), (31, (18, 33, [6], [])), (33, (15, 34, [0], [])), (34, (91, 37, [1, 0, 120], [])), (37, (10, 39, [8], [])), (39, (80, 40, [], [])), (40, (11, 41, [1], [])), (41, (67, 44, [68], [])), (44, (12, 46, [4], [])), (46, (15, 47, [0], [])), (47, (91, 50, [1, 3, 123], [])), (50, (10, 52, [8], [])), (52, (80, 53, [], [])), (53, (42, 54, [], [])), (54, (46, 55, [], [])), (55, (18, 57, [4], [])), (57, (13, 58, [2], [])), (58, (15, 59, [0], [])), (59, (91, 62, [1, 5, 125], [])), (62, (10, 64, [8], [])), (64, (80, 65, [], [])), (65, (42, 66, [], [])), (66, (46, 67, [], [])), (67, (19, 68, [2], [])), (68, (22, 71, [8], [1])), (71, (73, 74, [11], [])), (74, (15, 75, [0], [])), (75, (90, 78, [1, 7, 127], [])), (78, (42, 79, [], [])), (79, (12, 81, [4], [])), (81, (48, 82, [], [])), (82, (18, 84, [8], [])), (84, (13, 85, [2], [])), (85, (12, 87, [6], [])), (87, (48, 88, [], [])), (88, (12, 90, [8], [])), (90, (47, 91, [], [])), (91, (18, 93, [10], [])), (93, (12, 95, [10], [])), (95, (6, 96, [], [0])), (96, (51, 97, [], [])), (97, (65, 100, [122], [])), (100, (12, 102, [10], [])), (102, (12, 104, [10], [])), (104, (48, 105, [], [])), (105, (7, 108, [1], [4])), (108, (12, 110, [8], [])), (110, (48, 111, [], [])), (111, (12, 113, [6], [])), (113, (48, 114, [], [])), (114, (51, 115, [], [])), (115, (65, 118, [122], [])), (118, (1, 119, [], [1])), (119, (73, 122, [123], [])), (122, (1, 123, [], [0])), (123, (110, 124, [], []))]
/-- PitInspector$Pits.isBeyondChance(I)Z -/
noncomputable def mt_180 : MTy := (⟨"PitInspector$Pits", "isBeyondChance", "(I)Z"⟩, prog_8_method_7_code, 12, some .boolean, 1, 1, 2, (0, 0), 1, [1337, 2, 1335, 1449], cd_180)
noncomputable def cd_181 : List (Nat × Ins) := [(0, (15, 1, [0], [])), (1, (91, 4, [0, 10, 8], [])), (4, (11, 5, [1], [])), (5, (100, 8, [182, 2, 78], [])), (8, (110, 9, [], []))]
/-- PitInspector.inspectors(I)Z -/
noncomputable def mt_181 : MTy := (⟨"PitInspector", "inspectors", "(I)Z"⟩, prog_1_method_48_code, 2, some .boolean, 0, 0, 2, (0, 0), 1, [1342, 1, 1340, 1454], cd_181)
noncomputable def cd_182 : List (Nat × Ins) := [(0, (11, 1, [1], [])), (1, (1, 2, [], [1])), (2, (2, 4, [], [16])), (4, (103, 7, [13, 3, 136], [])), (7, (61, 10, [12], [])), (10, (1, 11, [], [0])), (11, (110, 12, [], [])), (12, (15, 13, [0], [])), (13, (11, 14, [1], [])), (14, (92, 17, [10, 2, 99], [])), (17, (1, 18, [], [1])), (18, (110, 19, [], []))]
/-- PitInspector$Looks.setInspectors(I)Z -/
noncomputable def mt_182 : MTy := (⟨"PitInspector$Looks", "setInspectors", "(I)Z"⟩, prog_6_method_2_code, 2, some .boolean, 10, 10, 2, (0, 0), 1, [1346, 12, 1344, 1458], cd_182)
noncomputable def cd_183 : List (Nat × Ins) := [(0, (15, 1, [0], [])), (1, (91, 4, [0, 3, 1], [])), (4, (11, 5, [1], [])), (5, (100, 8, [18, 2, 12], [])), (8, (60, 11, [19], [])), (11, (15, 12, [0], [])), (12, (11, 13, [1], [])), (13, (100, 16, [184, 2, 79], [])), (16, (73, 19, [20], [])), (19, (1, 20, [], [-1])), (20, (110, 21, [], []))]
/-- PitInspector.worth(I)I -/
noncomputable def mt_183 : MTy := (⟨"PitInspector", "worth", "(I)I"⟩, prog_1_method_49_code, 2, some .int, 0, 0, 1, (0, 0), 1, [1351, 1, 1349, 1463], cd_183)
noncomputable def cd_184 : List (Nat × Ins) := [(0, (15, 1, [0], [])), (1, (11, 2, [1], [])), (2, (100, 5, [56, 2, 21], [])), (5, (15, 6, [0], [])), (6, (91, 9, [0, 3, 1], [])), (9, (91, 12, [1, 2, 37], [])), (12, (11, 13, [1], [])), (13, (80, 14, [], [])), (14, (15, 15, [0], [])), (15, (91, 18, [0, 3, 1], [])), (18, (91, 21, [1, 1, 36], [])), (21, (11, 22, [1], [])), (22, (80, 23, [], [])), (23, (2, 25, [], [10])), (25, (33, 26, [], [])), (26, (30, 27, [], [])), (27, (2, 29, [], [20])), (29, (15, 30, [0], [])), (30, (91, 33, [0, 4, 2], [])), (33, (11, 34, [1], [])), (34, (15, 35, [0], [])), (35, (100, 38, [47, 1, 18], [])), (38, (100, 41, [85, 3, 92], [])), (41, (32, 42, [], [])), (42, (30, 43, [], [])), (43, (110, 44, [], []))]
/-- PitInspector.worthOf(I)I -/
noncomputable def mt_184 : MTy := (⟨"PitInspector", "worthOf", "(I)I"⟩, prog_1_method_63_code, 2, some .int, 0, 0, 1, (0, 0), 1, [1355, 1, 1354, 38], cd_184)
noncomputable def cd_185 : List (Nat × Ins) := [(0, (11, 1, [1], [])), (1, (1, 2, [], [1])), (2, (15, 3, [0], [])), (3, (91, 6, [0, 3, 1], [])), (6, (90, 9, [1, 6, 16], [])), (9, (102, 12, [13, 3, 9], [])), (12, (60, 15, [36], [])), (15, (11, 16, [2], [])), (16, (1, 17, [], [0])), (17, (2, 19, [], [100])), (19, (102, 22, [13, 3, 9], [])), (22, (60, 25, [36], [])), (25, (11, 26, [3], [])), (26, (1, 27, [], [0])), (27, (5, 30, [2], [134455])), (30, (102, 33, [13, 3, 9], [])), (33, (61, 36, [38], [])), (36, (1, 37, [], [-1])), (37, (110, 38, [], [])), (38, (1, 39, [], [0])), (39, (16, 41, [4], [])), (41, (10, 43, [4], [])), (43, (15, 44, [0], [])), (44, (91, 47, [0, 3, 1], [])), (47, (90, 50, [1, 6, 16], [])), (50, (69, 53, [75], [])), (53, (15, 54, [0], [])), (54, (91, 57, [0, 10, 8], [])), (57, (91, 60, [10, 1, 17], [])), (60, (10, 62, [4], [])), (62, (15, 63, [0], [])), (63, (10, 65, [4], [])), (65, (100, 68, [184, 2, 79], [])), (68, (84, 69, [], [])), (69, (22, 72, [4], [1])), (72, (73, 75, [41], [])), (75, (15, 76, [0], [])), (76, (91, 79, [0, 10, 8], [])), (79, (11, 80, [1], [])), (80, (11, 81, [1], [])), (81, (11, 82, [2], [])), (82, (32, 83, [], [])), (83, (2, 85, [], [100])), (85, (33, 86, [], [])), (86, (11, 87, [3], [])), (87, (15, 88, [0], [])), (88, (91, 91, [0, 3, 1], [])), (91, (90, 94, [1, 6, 16], [])), (94, (100, 97, [186, 5, 80], [])), (97, (110, 98, [], []))]
/-- PitInspector.send(III)I -/
noncomputable def mt_185 : MTy := (⟨"PitInspector", "send", "(III)I"⟩, prog_1_method_50_code, 5, some .int, 0, 0, 1, (0, 0), 3, [1359, 1, 1357, 1471], cd_185)
noncomputable def cd_186 : List (Nat × Ins) := [(0, (15, 1, [0], [])), (1, (1, 2, [], [0])), (2, (92, 5, [10, 6, 103], [])), (5, (15, 6, [0], [])), (6, (1, 7, [], [0])), (7, (92, 10, [10, 0, 104], [])), (10, (15, 11, [0], [])), (11, (11, 12, [2], [])), (12, (11, 13, [3], [])), (13, (10, 15, [4], [])), (15, (100, 18, [187, 4, 137], [])), (18, (15, 19, [0], [])), (19, (90, 22, [10, 0, 104], [])), (22, (16, 24, [5], [])), (24, (10, 26, [5], [])), (26, (16, 28, [6], [])), (28, (10, 30, [6], [])), (30, (11, 31, [1], [])), (31, (69, 34, [50], [])), (34, (15, 35, [0], [])), (35, (15, 36, [0], [])), (36, (10, 38, [4], [])), (38, (100, 41, [190, 2, 138], [])), (41, (100, 44, [189, 2, 139], [])), (44, (22, 47, [6], [1])), (47, (73, 50, [28], [])), (50, (10, 52, [5], [])), (52, (110, 53, [], []))]
/-- PitInspector$Looks.give(IIII)I -/
noncomputable def mt_186 : MTy := (⟨"PitInspector$Looks", "give", "(IIII)I"⟩, prog_6_method_3_code, 7, some .int, 10, 10, 1, (0, 0), 4, [1364, 12, 1362, 1476], cd_186)
noncomputable def cd_187 : List (Nat × Ins) := [(0, (11, 1, [2], [])), (1, (16, 3, [4], [])), (3, (1, 4, [], [0])), (4, (16, 6, [5], [])), (6, (10, 8, [5], [])), (8, (2, 10, [], [60])), (10, (69, 13, [67], [])), (13, (15, 14, [0], [])), (14, (90, 17, [10, 0, 104], [])), (17, (11, 18, [1], [])), (18, (69, 21, [67], [])), (21, (11, 22, [3], [])), (22, (65, 25, [67], [])), (25, (3, 28, [], [8121])), (28, (10, 30, [4], [])), (30, (32, 31, [], [])), (31, (3, 34, [], [28411])), (34, (30, 35, [], [])), (35, (4, 37, [4], [134456])), (37, (34, 38, [], [])), (38, (16, 40, [4], [])), (40, (10, 42, [4], [])), (42, (11, 43, [3], [])), (43, (34, 44, [], [])), (44, (16, 46, [6], [])), (46, (15, 47, [0], [])), (47, (10, 49, [6], [])), (49, (100, 52, [188, 2, 140], [])), (52, (61, 55, [61], [])), (55, (15, 56, [0], [])), (56, (10, 58, [6], [])), (58, (100, 61, [189, 2, 139], [])), (61, (22, 64, [5], [1])), (64, (73, 67, [6], [])), (67, (112, 68, [], []))]
/-- PitInspector$Looks.draw(III)V -/
noncomputable def mt_187 : MTy := (⟨"PitInspector$Looks", "draw", "(III)V"⟩, prog_6_method_5_code, 7, none, 10, 10, 0, (0, 0), 3, [1368, 12, 1367, 39], cd_187)
noncomputable def cd_188 : List (Nat × Ins) := [(0, (15, 1, [0], [])), (1, (90, 4, [10, 6, 103], [])), (4, (11, 5, [1], [])), (5, (37, 6, [], [])), (6, (1, 7, [], [1])), (7, (39, 8, [], [])), (8, (60, 11, [15], [])), (11, (1, 12, [], [1])), (12, (73, 15, [16], [])), (15, (1, 16, [], [0])), (16, (110, 17, [], []))]
/-- PitInspector$Looks.hasLook(I)Z -/
noncomputable def mt_188 : MTy := (⟨"PitInspector$Looks", "hasLook", "(I)Z"⟩, prog_6_method_4_code, 2, some .boolean, 10, 10, 2, (0, 0), 1, [1373, 12, 1372, 40], cd_188)
noncomputable def cd_189 : List (Nat × Ins) := [(0, (11, 1, [1], [])), (1, (1, 2, [], [-1])), (2, (66, 5, [22], [])), (5, (15, 6, [0], [])), (6, (90, 9, [10, 0, 104], [])), (9, (2, 11, [], [12])), (11, (69, 14, [22], [])), (14, (15, 15, [0], [])), (15, (90, 18, [10, 2, 99], [])), (18, (1, 19, [], [1])), (19, (69, 22, [23], [])), (22, (112, 23, [], [])), (23, (15, 24, [0], [])), (24, (90, 27, [10, 0, 104], [])), (27, (15, 28, [0], [])), (28, (90, 31, [10, 2, 99], [])), (31, (34, 32, [], [])), (32, (17, 33, [2], [])), (33, (15, 34, [0], [])), (34, (91, 37, [10, 5, 102], [])), (37, (11, 38, [1], [])), (38, (80, 39, [], [])), (39, (11, 40, [2], [])), (40, (67, 43, [52], [])), (43, (11, 44, [2], [])), (44, (1, 45, [], [1])), (45, (30, 46, [], [])), (46, (15, 47, [0], [])), (47, (90, 50, [10, 2, 99], [])), (50, (34, 51, [], [])), (51, (17, 52, [2], [])), (52, (15, 53, [0], [])), (53, (56, 54, [], [])), (54, (90, 57, [10, 6, 103], [])), (57, (1, 58, [], [1])), (58, (11, 59, [1], [])), (59, (36, 60, [], [])), (60, (40, 61, [], [])), (61, (92, 64, [10, 6, 103], [])), (64, (15, 65, [0], [])), (65, (91, 68, [10, 5, 102], [])), (68, (11, 69, [1], [])), (69, (11, 70, [2], [])), (70, (84, 71, [], [])), (71, (15, 72, [0], [])), (72, (91, 75, [10, 3, 100], [])), (75, (15, 76, [0], [])), (76, (90, 79, [10, 0, 104], [])), (79, (11, 80, [1], [])), (80, (84, 81, [], [])), (81, (15, 82, [0], [])), (82, (91, 85, [10, 4, 101], [])), (85, (15, 86, [0], [])), (86, (90, 89, [10, 0, 104], [])), (89, (11, 90, [2], [])), (90, (84, 91, [], [])), (91, (15, 92, [0], [])), (92, (56, 93, [], [])), (93, (90, 96, [10, 0, 104], [])), (96, (1, 97, [], [1])), (97, (30, 98, [], [])), (98, (92, 101, [10, 0, 104], [])), (101, (112, 102, [], []))]
/-- PitInspector$Looks.add(I)V -/
noncomputable def mt_189 : MTy := (⟨"PitInspector$Looks", "add", "(I)V"⟩, prog_6_method_7_code, 3, none, 10, 10, 0, (0, 0), 1, [1377, 12, 1376, 41], cd_189)
noncomputable def cd_190 : List (Nat × Ins) := [(0, (1, 1, [], [-1])), (1, (17, 2, [2], [])), (2, (1, 3, [], [0])), (3, (17, 4, [3], [])), (4, (11, 5, [3], [])), (5, (11, 6, [1], [])), (6, (69, 9, [45], [])), (9, (15, 10, [0], [])), (10, (11, 11, [3], [])), (11, (100, 14, [188, 2, 140], [])), (14, (61, 17, [39], [])), (17, (11, 18, [2], [])), (18, (1, 19, [], [-1])), (19, (66, 22, [37], [])), (22, (15, 23, [0], [])), (23, (91, 26, [10, 1, 98], [])), (26, (11, 27, [3], [])), (27, (80, 28, [], [])), (28, (15, 29, [0], [])), (29, (91, 32, [10, 1, 98], [])), (32, (11, 33, [2], [])), (33, (80, 34, [], [])), (34, (71, 37, [39], [])), (37, (11, 38, [3], [])), (38, (17, 39, [2], [])), (39, (22, 42, [3], [1])), (42, (73, 45, [4], [])), (45, (11, 46, [2], [])), (46, (110, 47, [], []))]
/-- PitInspector$Looks.worthiest(I)I -/
noncomputable def mt_190 : MTy := (⟨"PitInspector$Looks", "worthiest", "(I)I"⟩, prog_6_method_6_code, 4, some .int, 10, 10, 1, (0, 0), 1, [1381, 12, 1380, 42], cd_190)
noncomputable def cd_191 : List (Nat × Ins) := [(0, (15, 1, [0], [])), (1, (91, 4, [0, 10, 8], [])), (4, (11, 5, [1], [])), (5, (11, 6, [2], [])), (6, (100, 9, [192, 3, 81], [])), (9, (110, 10, [], []))]
/-- PitInspector.look(II)I -/
noncomputable def mt_191 : MTy := (⟨"PitInspector", "look", "(II)I"⟩, prog_1_method_51_code, 3, some .int, 0, 0, 1, (0, 0), 2, [1385, 1, 1383, 1497], cd_191)
noncomputable def cd_192 : List (Nat × Ins) := [(0, (11, 1, [1], [])), (1, (1, 2, [], [0])), (2, (15, 3, [0], [])), (3, (90, 6, [10, 0, 104], [])), (6, (1, 7, [], [1])), (7, (31, 8, [], [])), (8, (103, 11, [13, 3, 136], [])), (11, (60, 14, [23], [])), (14, (11, 15, [2], [])), (15, (1, 16, [], [0])), (16, (1, 17, [], [1])), (17, (103, 20, [13, 3, 136], [])), (20, (61, 23, [25], [])), (23, (1, 24, [], [-1])), (24, (110, 25, [], [])), (25, (11, 26, [2], [])), (26, (61, 29, [38], [])), (29, (15, 30, [0], [])), (30, (91, 33, [10, 3, 100], [])), (33, (11, 34, [1], [])), (34, (80, 35, [], [])), (35, (73, 38, [44], [])), (38, (15, 39, [0], [])), (39, (91, 42, [10, 4, 101], [])), (42, (11, 43, [1], [])), (43, (80, 44, [], [])), (44, (110, 45, [], []))]
/-- PitInspector$Looks.tellOf(II)I -/
noncomputable def mt_192 : MTy := (⟨"PitInspector$Looks", "tellOf", "(II)I"⟩, prog_6_method_8_code, 3, some .int, 10, 10, 1, (0, 0), 2, [1389, 12, 1387, 1501], cd_192)
noncomputable def cd_193 : List (Nat × Ins) := [(0, (15, 1, [0], [])), (1, (91, 4, [0, 8, 6], [])), (4, (11, 5, [1], [])), (5, (100, 8, [149, 2, 68], [])), (8, (60, 11, [43], [])), (11, (15, 12, [0], [])), (12, (91, 15, [0, 5, 3], [])), (15, (11, 16, [2], [])), (16, (15, 17, [0], [])), (17, (91, 20, [0, 8, 6], [])), (20, (91, 23, [8, 1, 14], [])), (23, (11, 24, [1], [])), (24, (80, 25, [], [])), (25, (100, 28, [103, 3, 35], [])), (28, (60, 31, [43], [])), (31, (11, 32, [3], [])), (32, (1, 33, [], [0])), (33, (15, 34, [0], [])), (34, (90, 37, [0, 0, 10], [])), (37, (102, 40, [13, 3, 9], [])), (40, (61, 43, [45], [])), (43, (1, 44, [], [-1])), (44, (110, 45, [], [])), (45, (15, 46, [0], [])), (46, (91, 49, [0, 11, 9], [])), (49, (11, 50, [1], [])), (50, (11, 51, [2], [])), (51, (11, 52, [3], [])), (52, (100, 55, [194, 4, 82], [])), (55, (110, 56, [], []))]
/-- PitInspector.seen(III)I -/
noncomputable def mt_193 : MTy := (⟨"PitInspector", "seen", "(III)I"⟩, prog_1_method_52_code, 4, some .int, 0, 0, 1, (0, 0), 3, [1393, 1, 1391, 1505], cd_193)
noncomputable def cd_194 : List (Nat × Ins) := [(0, (15, 1, [0], [])), (1, (90, 4, [11, 0, 75], [])), (4, (2, 6, [], [16])), (6, (68, 9, [11], [])), (9, (1, 10, [], [-1])), (10, (110, 11, [], [])), (11, (15, 12, [0], [])), (12, (91, 15, [11, 1, 70], [])), (15, (15, 16, [0], [])), (16, (90, 19, [11, 0, 75], [])), (19, (11, 20, [1], [])), (20, (84, 21, [], [])), (21, (15, 22, [0], [])), (22, (91, 25, [11, 2, 71], [])), (25, (15, 26, [0], [])), (26, (90, 29, [11, 0, 75], [])), (29, (11, 30, [2], [])), (30, (84, 31, [], [])), (31, (15, 32, [0], [])), (32, (91, 35, [11, 3, 72], [])), (35, (15, 36, [0], [])), (36, (90, 39, [11, 0, 75], [])), (39, (11, 40, [3], [])), (40, (84, 41, [], [])), (41, (15, 42, [0], [])), (42, (56, 43, [], [])), (43, (90, 46, [11, 0, 75], [])), (46, (1, 47, [], [1])), (47, (30, 48, [], [])), (48, (92, 51, [11, 0, 75], [])), (51, (15, 52, [0], [])), (52, (90, 55, [11, 0, 75], [])), (55, (1, 56, [], [1])), (56, (31, 57, [], [])), (57, (110, 58, [], []))]
/-- PitInspector$Inquest.add(III)I -/
noncomputable def mt_194 : MTy := (⟨"PitInspector$Inquest", "add", "(III)I"⟩, prog_4_method_2_code, 4, some .int, 11, 11, 1, (0, 0), 3, [1397, 13, 1395, 1509], cd_194)
noncomputable def cd_195 : List (Nat × Ins) := [(0, (15, 1, [0], [])), (1, (91, 4, [0, 11, 9], [])), (4, (11, 5, [1], [])), (5, (100, 8, [196, 2, 83], [])), (8, (110, 9, [], []))]
/-- PitInspector.pace(I)Z -/
noncomputable def mt_195 : MTy := (⟨"PitInspector", "pace", "(I)Z"⟩, prog_1_method_53_code, 2, some .boolean, 0, 0, 2, (0, 0), 1, [1401, 1, 1399, 1513], cd_195)
noncomputable def cd_196 : List (Nat × Ins) := [(0, (11, 1, [1], [])), (1, (1, 2, [], [1])), (2, (2, 4, [], [60])), (4, (103, 7, [13, 3, 111], [])), (7, (61, 10, [12], [])), (10, (1, 11, [], [0])), (11, (110, 12, [], [])), (12, (15, 13, [0], [])), (13, (11, 14, [1], [])), (14, (92, 17, [11, 5, 74], [])), (17, (1, 18, [], [1])), (18, (110, 19, [], []))]
/-- PitInspector$Inquest.setPace(I)Z -/
noncomputable def mt_196 : MTy := (⟨"PitInspector$Inquest", "setPace", "(I)Z"⟩, prog_4_method_3_code, 2, some .boolean, 11, 11, 2, (0, 0), 1, [1405, 13, 1403, 1517], cd_196)
noncomputable def cd_197 : List (Nat × Ins) := [(0, (15, 1, [0], [])), (1, (91, 4, [0, 11, 9], [])), (4, (11, 5, [1], [])), (5, (100, 8, [198, 2, 84], [])), (8, (61, 11, [13], [])), (11, (1, 12, [], [-1])), (12, (110, 13, [], [])), (13, (15, 14, [0], [])), (14, (91, 17, [0, 11, 9], [])), (17, (15, 18, [0], [])), (18, (91, 21, [0, 5, 3], [])), (21, (100, 24, [199, 2, 85], [])), (24, (15, 25, [0], [])), (25, (91, 28, [0, 11, 9], [])), (28, (11, 29, [1], [])), (29, (100, 32, [201, 2, 86], [])), (32, (60, 35, [39], [])), (35, (1, 36, [], [1])), (36, (73, 39, [40], [])), (39, (1, 40, [], [0])), (40, (110, 41, [], []))]
/-- PitInspector.judge(I)I -/
noncomputable def mt_197 : MTy := (⟨"PitInspector", "judge", "(I)I"⟩, prog_1_method_54_code, 2, some .int, 0, 0, 1, (0, 0), 1, [1410, 1, 1408, 1522], cd_197)
noncomputable def cd_198 : List (Nat × Ins) := [(0, (11, 1, [1], [])), (1, (1, 2, [], [0])), (2, (1, 3, [], [1])), (3, (15, 4, [0], [])), (4, (90, 7, [11, 0, 75], [])), (7, (36, 8, [], [])), (8, (1, 9, [], [1])), (9, (31, 10, [], [])), (10, (103, 13, [13, 3, 111], [])), (13, (110, 14, [], []))]
/-- PitInspector$Inquest.isSet(I)Z -/
noncomputable def mt_198 : MTy := (⟨"PitInspector$Inquest", "isSet", "(I)Z"⟩, prog_4_method_4_code, 2, some .boolean, 11, 11, 2, (0, 0), 1, [1414, 13, 1412, 1526], cd_198)
noncomputable def cd_199 : List (Nat × Ins) := [(0, (1, 1, [], [0])), (1, (17, 2, [2], [])), (2, (11, 3, [2], [])), (3, (15, 4, [0], [])), (4, (90, 7, [11, 0, 75], [])), (7, (69, 10, [97], [])), (10, (15, 11, [0], [])), (11, (91, 14, [11, 4, 73], [])), (14, (11, 15, [2], [])), (15, (1, 16, [], [0])), (16, (84, 17, [], [])), (17, (15, 18, [1], [])), (18, (15, 19, [0], [])), (19, (91, 22, [11, 2, 71], [])), (22, (11, 23, [2], [])), (23, (80, 24, [], [])), (24, (1, 25, [], [1])), (25, (100, 28, [61, 3, 112], [])), (28, (1, 29, [], [0])), (29, (17, 30, [3], [])), (30, (11, 31, [3], [])), (31, (15, 32, [0], [])), (32, (90, 35, [11, 0, 75], [])), (35, (69, 38, [91], [])), (38, (15, 39, [0], [])), (39, (91, 42, [11, 1, 70], [])), (42, (11, 43, [2], [])), (43, (80, 44, [], [])), (44, (15, 45, [0], [])), (45, (91, 48, [11, 1, 70], [])), (48, (11, 49, [3], [])), (49, (80, 50, [], [])), (50, (67, 53, [85], [])), (53, (15, 54, [0], [])), (54, (15, 55, [1], [])), (55, (91, 58, [5, 6, 76], [])), (58, (15, 59, [0], [])), (59, (91, 62, [11, 2, 71], [])), (62, (11, 63, [3], [])), (63, (80, 64, [], [])), (64, (80, 65, [], [])), (65, (11, 66, [2], [])), (66, (11, 67, [3], [])), (67, (100, 70, [200, 4, 113], [])), (70, (60, 73, [85], [])), (73, (15, 74, [0], [])), (74, (91, 77, [11, 4, 73], [])), (77, (11, 78, [2], [])), (78, (57, 79, [], [])), (79, (80, 80, [], [])), (80, (1, 81, [], [1])), (81, (11, 82, [3], [])), (82, (36, 83, [], [])), (83, (40, 84, [], [])), (84, (84, 85, [], [])), (85, (22, 88, [3], [1])), (88, (73, 91, [30], [])), (91, (22, 94, [2], [1])), (94, (73, 97, [2], [])), (97, (112, 98, [], []))]
/-- PitInspector$Inquest.findClashes(LPitInspector$Net;)V -/
noncomputable def mt_199 : MTy := (⟨"PitInspector$Inquest", "findClashes", "(LPitInspector$Net;)V"⟩, prog_4_method_5_code, 4, none, 11, 11, 0, (0, 0), 1, [1418, 13, 1416, 1530], cd_199)
noncomputable def cd_200 : List (Nat × Ins) := [(0, (11, 1, [1], [])), (1, (1, 2, [], [-1])), (2, (66, 5, [30], [])), (5, (11, 6, [1], [])), (6, (15, 7, [0], [])), (7, (90, 10, [11, 5, 74], [])), (10, (32, 11, [], [])), (11, (15, 12, [0], [])), (12, (91, 15, [11, 3, 72], [])), (15, (11, 16, [2], [])), (16, (80, 17, [], [])), (17, (15, 18, [0], [])), (18, (91, 21, [11, 3, 72], [])), (21, (11, 22, [3], [])), (22, (80, 23, [], [])), (23, (31, 24, [], [])), (24, (98, 27, [47], [])), (27, (71, 30, [34], [])), (30, (1, 31, [], [1])), (31, (73, 34, [35], [])), (34, (1, 35, [], [0])), (35, (110, 36, [], []))]
/-- PitInspector$Inquest.isTooFar(III)Z -/
noncomputable def mt_200 : MTy := (⟨"PitInspector$Inquest", "isTooFar", "(III)Z"⟩, prog_4_method_6_code, 4, some .boolean, 11, 11, 2, (0, 0), 3, [1423, 13, 1422, 43], cd_200)
noncomputable def cd_201 : List (Nat × Ins) := [(0, (1, 1, [], [0])), (1, (17, 2, [2], [])), (2, (11, 3, [2], [])), (3, (15, 4, [0], [])), (4, (90, 7, [11, 0, 75], [])), (7, (69, 10, [37], [])), (10, (11, 11, [1], [])), (11, (11, 12, [2], [])), (12, (37, 13, [], [])), (13, (1, 14, [], [1])), (14, (39, 15, [], [])), (15, (60, 18, [31], [])), (18, (15, 19, [0], [])), (19, (91, 22, [11, 4, 73], [])), (22, (11, 23, [2], [])), (23, (80, 24, [], [])), (24, (11, 25, [1], [])), (25, (39, 26, [], [])), (26, (60, 29, [31], [])), (29, (1, 30, [], [0])), (30, (110, 31, [], [])), (31, (22, 34, [2], [1])), (34, (73, 37, [2], [])), (37, (1, 38, [], [1])), (38, (110, 39, [], []))]
/-- PitInspector$Inquest.canAllBe(I)Z -/
noncomputable def mt_201 : MTy := (⟨"PitInspector$Inquest", "canAllBe", "(I)Z"⟩, prog_4_method_7_code, 3, some .boolean, 11, 11, 2, (0, 0), 1, [1428, 13, 1426, 1540], cd_201)
noncomputable def cd_202 : List (Nat × Ins) := [(0, (15, 1, [0], [])), (1, (91, 4, [0, 11, 9], [])), (4, (15, 5, [0], [])), (5, (91, 8, [0, 5, 3], [])), (8, (100, 11, [199, 2, 85], [])), (11, (15, 12, [0], [])), (12, (91, 15, [0, 11, 9], [])), (15, (100, 18, [203, 1, 87], [])), (18, (110, 19, [], []))]
/-- PitInspector.most()I -/
noncomputable def mt_202 : MTy := (⟨"PitInspector", "most", "()I"⟩, prog_1_method_55_code, 1, some .int, 0, 0, 1, (0, 0), 0, [1432, 1, 1430, 1544], cd_202)
noncomputable def cd_203 : List (Nat × Ins) := [(0, (15, 1, [0], [])), (1, (15, 2, [0], [])), (2, (90, 5, [11, 0, 75], [])), (5, (1, 6, [], [0])), (6, (1, 7, [], [1])), (7, (15, 8, [0], [])), (8, (90, 11, [11, 0, 75], [])), (11, (36, 12, [], [])), (12, (1, 13, [], [1])), (13, (31, 14, [], [])), (14, (1, 15, [], [0])), (15, (100, 18, [204, 5, 114], [])), (18, (110, 19, [], []))]
/-- PitInspector$Inquest.greatestSet()I -/
noncomputable def mt_203 : MTy := (⟨"PitInspector$Inquest", "greatestSet", "()I"⟩, prog_4_method_8_code, 1, some .int, 11, 11, 1, (0, 0), 0, [1436, 13, 1434, 1548], cd_203)
noncomputable def cd_204 : List (Nat × Ins) := [(0, (11, 1, [2], [])), (1, (102, 4, [343, 1, 115], [])), (4, (11, 5, [3], [])), (5, (102, 8, [343, 1, 115], [])), (8, (30, 9, [], [])), (9, (10, 11, [4], [])), (11, (102, 14, [343, 1, 115], [])), (14, (70, 17, [20], [])), (17, (10, 19, [4], [])), (19, (110, 20, [], [])), (20, (11, 21, [1], [])), (21, (64, 24, [26], [])), (24, (11, 25, [2], [])), (25, (110, 26, [], [])), (26, (1, 27, [], [1])), (27, (11, 28, [1], [])), (28, (1, 29, [], [1])), (29, (31, 30, [], [])), (30, (36, 31, [], [])), (31, (16, 33, [5], [])), (33, (11, 34, [3], [])), (34, (10, 36, [5], [])), (36, (39, 37, [], [])), (37, (61, 40, [52], [])), (40, (15, 41, [0], [])), (41, (11, 42, [1], [])), (42, (1, 43, [], [1])), (43, (31, 44, [], [])), (44, (11, 45, [2], [])), (45, (11, 46, [3], [])), (46, (10, 48, [4], [])), (48, (100, 51, [204, 5, 114], [])), (51, (110, 52, [], [])), (52, (15, 53, [0], [])), (53, (11, 54, [1], [])), (54, (1, 55, [], [1])), (55, (31, 56, [], [])), (56, (11, 57, [2], [])), (57, (11, 58, [3], [])), (58, (10, 60, [5], [])), (60, (1, 61, [], [-1])), (61, (41, 62, [], [])), (62, (39, 63, [], [])), (63, (10, 65, [4], [])), (65, (100, 68, [204, 5, 114], [])), (68, (16, 70, [6], [])), (70, (15, 71, [0], [])), (71, (11, 72, [1], [])), (72, (1, 73, [], [1])), (73, (31, 74, [], [])), (74, (11, 75, [2], [])), (75, (10, 77, [5], [])), (77, (40, 78, [], [])), (78, (11, 79, [3], [])), (79, (10, 81, [5], [])), (81, (1, 82, [], [-1])), (82, (41, 83, [], [])), (83, (39, 84, [], [])), (84, (15, 85, [0], [])), (85, (91, 88, [11, 4, 73], [])), (88, (11, 89, [1], [])), (89, (1, 90, [], [1])), (90, (31, 91, [], [])), (91, (80, 92, [], [])), (92, (1, 93, [], [-1])), (93, (41, 94, [], [])), (94, (39, 95, [], [])), (95, (10, 97, [6], [])), (97, (100, 100, [204, 5, 114], [])), (100, (110, 101, [], []))]
/-- PitInspector$Inquest.greater(IIII)I -/
noncomputable def mt_204 : MTy := (⟨"PitInspector$Inquest", "greater", "(IIII)I"⟩, prog_4_method_9_code, 7, some .int, 11, 11, 1, (0, 0), 4, [1440, 13, 1439, 44], cd_204)
noncomputable def cd_205 : List (Nat × Ins) := [(0, (15, 1, [0], [])), (1, (91, 4, [0, 8, 6], [])), (4, (11, 5, [1], [])), (5, (100, 8, [149, 2, 68], [])), (8, (61, 11, [13], [])), (11, (1, 12, [], [-1])), (12, (110, 13, [], [])), (13, (11, 14, [2], [])), (14, (74, 44, [90, 44, 54, 64, 81], [0, 1, 2, 3])), (44, (15, 45, [0], [])), (45, (91, 48, [0, 8, 6], [])), (48, (91, 51, [8, 1, 14], [])), (51, (11, 52, [1], [])), (52, (80, 53, [], [])), (53, (110, 54, [], [])), (54, (15, 55, [0], [])), (55, (91, 58, [0, 8, 6], [])), (58, (91, 61, [8, 2, 18], [])), (61, (11, 62, [1], [])), (62, (80, 63, [], [])), (63, (110, 64, [], [])), (64, (15, 65, [0], [])), (65, (91, 68, [0, 8, 6], [])), (68, (11, 69, [1], [])), (69, (100, 72, [150, 2, 88], [])), (72, (60, 75, [79], [])), (75, (1, 76, [], [1])), (76, (73, 79, [80], [])), (79, (1, 80, [], [0])), (80, (110, 81, [], [])), (81, (15, 82, [0], [])), (82, (91, 85, [0, 8, 6], [])), (85, (11, 86, [1], [])), (86, (100, 89, [153, 2, 89], [])), (89, (110, 90, [], [])), (90, (1, 91, [], [-1])), (91, (110, 92, [], []))]
/-- PitInspector.about(II)I -/
noncomputable def mt_205 : MTy := (⟨"PitInspector", "about", "(II)I"⟩, prog_1_method_56_code, 3, some .int, 0, 0, 1, (0, 0), 2, [1450, 1, 1448, 1562], cd_205)
noncomputable def cd_206 : List (Nat × Ins) := [(0, (11, 1, [1], [])), (1, (74, 88, [226, 88, 93, 101, 109, 117, 125, 133, 141, 149, 157, 165, 173, 181, 189, 197, 205, 213, 221], [0, 1, 2, 3, 4, 5, 6, 7, 8, 9, 10, 11, 12, 13, 14, 15, 16, 17])), (88, (15, 89, [0], [])), (89, (90, 92, [0, 0, 10], [])), (92, (110, 93, [], [])), (93, (15, 94, [0], [])), (94, (91, 97, [0, 3, 1], [])), (97, (90, 100, [1, 6, 16], [])), (100, (110, 101, [], [])), (101, (15, 102, [0], [])), (102, (91, 105, [0, 8, 6], [])), (105, (90, 108, [8, 0, 19], [])), (108, (110, 109, [], [])), (109, (15, 110, [0], [])), (110, (91, 113, [0, 4, 2], [])), (113, (90, 116, [2, 1, 20], [])), (116, (110, 117, [], [])), (117, (15, 118, [0], [])), (118, (91, 121, [0, 5, 3], [])), (121, (90, 124, [5, 0, 21], [])), (124, (110, 125, [], [])), (125, (15, 126, [0], [])), (126, (91, 129, [0, 5, 3], [])), (129, (90, 132, [5, 1, 22], [])), (132, (110, 133, [], [])), (133, (15, 134, [0], [])), (134, (91, 137, [0, 7, 5], [])), (137, (90, 140, [7, 0, 23], [])), (140, (110, 141, [], [])), (141, (15, 142, [0], [])), (142, (91, 145, [0, 7, 5], [])), (145, (90, 148, [7, 1, 24], [])), (148, (110, 149, [], [])), (149, (15, 150, [0], [])), (150, (91, 153, [0, 7, 5], [])), (153, (90, 156, [7, 2, 25], [])), (156, (110, 157, [], [])), (157, (15, 158, [0], [])), (158, (91, 161, [0, 7, 5], [])), (161, (90, 164, [7, 3, 26], [])), (164, (110, 165, [], [])), (165, (15, 166, [0], [])), (166, (91, 169, [0, 8, 6], [])), (169, (90, 172, [8, 4, 27], [])), (172, (110, 173, [], [])), (173, (15, 174, [0], [])), (174, (91, 177, [0, 8, 6], [])), (177, (90, 180, [8, 7, 28], [])), (180, (110, 181, [], [])), (181, (15, 182, [0], [])), (182, (91, 185, [0, 8, 6], [])), (185, (90, 188, [8, 13, 29], [])), (188, (110, 189, [], [])), (189, (15, 190, [0], [])), (190, (91, 193, [0, 9, 7], [])), (193, (90, 196, [9, 0, 30], [])), (196, (110, 197, [], [])), (197, (15, 198, [0], [])), (198, (91, 201, [0, 3, 1], [])), (201, (90, 204, [1, 7, 31], [])), (204, (110, 205, [], [])), (205, (15, 206, [0], [])), (206, (91, 209, [0, 10, 8], [])), (209, (90, 212, [10, 0, 32], [])), (212, (110, 213, [], [])), (213, (15, 214, [0], [])), (214, (91, 217, [0, 11, 9], [])), (217, (90, 220, [11, 0, 33], [])), (220, (110, 221, [], [])), (221, (15, 222, [0], [])), (222, (90, 225, [0, 2, 11], [])), (225, (110, 226, [], [])), (226, (11, 227, [1], [])), (227, (2, 229, [], [20])), (229, (2, 231, [], [19])), (231, (15, 232, [0], [])), (232, (91, 235, [0, 3, 1], [])), (235, (90, 238, [1, 6, 16], [])), (238, (30, 239, [], [])), (239, (102, 242, [13, 3, 9], [])), (242, (60, 245, [260], [])), (245, (15, 246, [0], [])), (246, (91, 249, [0, 8, 6], [])), (249, (91, 252, [8, 11, 12], [])), (252, (11, 253, [1], [])), (253, (2, 255, [], [20])), (255, (31, 256, [], [])), (256, (80, 257, [], [])), (257, (73, 260, [261], [])), (260, (1, 261, [], [-1])), (261, (110, 262, [], []))]
/-- PitInspector.count(I)I -/
noncomputable def mt_206 : MTy := (⟨"PitInspector", "count", "(I)I"⟩, prog_1_method_57_code, 2, some .int, 0, 0, 1, (0, 0), 1, [1456, 1, 1454, 1568], cd_206)
noncomputable def cd_207_0 : List (Nat × Ins) := [(0, (15, 1, [0], [])), (1, (95, 4, [1], [])), (4, (15, 5, [0], [])), (5, (3, 8, [], [160])), (8, (76, 10, [21], [])), (10, (93, 13, [12, 0, 180], [])), (13, (15, 14, [0], [])), (14, (1, 15, [], [1])), (15, (92, 18, [12, 19, 181], [])), (18, (15, 19, [0], [])), (19, (1, 20, [], [5])), (20, (92, 23, [12, 20, 182], [])), (23, (15, 24, [0], [])), (24, (2, 26, [], [12])), (26, (76, 28, [20], [])), (28, (93, 31, [12, 21, 183], [])), (31, (15, 32, [0], [])), (32, (2, 34, [], [12])), (34, (76, 36, [20], [])), (36, (93, 39, [12, 22, 184], [])), (39, (15, 40, [0], [])), (40, (2, 42, [], [12])), (42, (76, 44, [20], [])), (44, (93, 47, [12, 23, 185], [])), (47, (15, 48, [0], [])), (48, (2, 50, [], [12])), (50, (76, 52, [20], [])), (52, (93, 55, [12, 24, 186], [])), (55, (15, 56, [0], [])), (56, (2, 58, [], [12])), (58, (76, 60, [20], [])), (60, (93, 63, [12, 25, 187], [])), (63, (15, 64, [0], [])), (64, (2, 66, [], [12])), (66, (76, 68, [20], [])), (68, (93, 71, [12, 26, 188], [])), (71, (15, 72, [0], [])), (72, (2, 74, [], [12])), (74, (76, 76, [20], [])), (76, (93, 79, [12, 27, 189], [])), (79, (15, 80, [0], [])), (80, (2, 82, [], [40])), (82, (76, 84, [20], [])), (84, (93, 87, [12, 28, 190], [])), (87, (15, 88, [0], [])), (88, (2, 90, [], [40])), (90, (76, 92, [20], [])), (92, (93, 95, [12, 29, 191], [])), (95, (15, 96, [0], [])), (96, (2, 98, [], [40])), (98, (76, 100, [20], [])), (100, (93, 103, [12, 30, 192], [])), (103, (15, 104, [0], [])), (104, (2, 106, [], [30])), (106, (76, 108, [20], [])), (108, (93, 111, [12, 31, 193], [])), (111, (15, 112, [0], [])), (112, (2, 114, [], [30])), (114, (76, 116, [20], [])), (116, (93, 119, [12, 32, 194], [])), (119, (15, 120, [0], [])), (120, (2, 122, [], [30])), (122, (76, 124, [20], [])), (124, (93, 127, [12, 33, 195], [])), (127, (15, 128, [0], [])), (128, (2, 130, [], [30])), (130, (76, 132, [20], [])), (132, (93, 135, [12, 34, 196], [])), (135, (15, 136, [0], [])), (136, (3, 139, [], [4800])), (139, (76, 141, [21], [])), (141, (93, 144, [12, 35, 197], [])), (144, (15, 145, [0], [])), (145, (3, 148, [], [360])), (148, (76, 150, [20], [])), (150, (93, 153, [12, 36, 198], [])), (153, (15, 154, [0], [])), (154, (3, 157, [], [360])), (157, (76, 159, [20], [])), (159, (93, 162, [12, 37, 199], [])), (162, (15, 163, [0], [])), (163, (3, 166, [], [360])), (166, (76, 168, [20], [])), (168, (93, 171, [12, 38, 200], [])), (171, (15, 172, [0], [])), (172, (3, 175, [], [360])), (175, (76, 177, [20], [])), (177, (93, 180, [12, 39, 201], [])), (180, (15, 181, [0], [])), (181, (3, 184, [], [360])), (184, (76, 186, [20], [])), (186, (93, 189, [12, 40, 202], [])), (189, (15, 190, [0], [])), (190, (3, 193, [], [360])), (193, (76, 195, [20], [])), (195, (93, 198, [12, 41, 203], [])), (198, (15, 199, [0], [])), (199, (3, 202, [], [360])), (202, (76, 204, [20], [])), (204, (93, 207, [12, 42, 204], [])), (207, (15, 208, [0], [])), (208, (3, 211, [], [4800])), (211, (76, 213, [20], [])), (213, (93, 216, [12, 43, 205], [])), (216, (15, 217, [0], [])), (217, (3, 220, [], [4800])), (220, (76, 222, [20], [])), (222, (93, 225, [12, 44, 206], [])), (225, (15, 226, [0], [])), (226, (3, 229, [], [200])), (229, (76, 231, [20], [])), (231, (93, 234, [12, 54, 207], [])), (234, (15, 235, [0], [])), (235, (3, 238, [], [360])), (238, (76, 240, [22], [])), (240, (93, 243, [12, 55, 208], [])), (243, (15, 244, [0], [])), (244, (3, 247, [], [128])), (247, (76, 249, [22], [])), (249, (93, 252, [12, 57, 209], [])), (252, (15, 253, [0], [])), (253, (3, 256, [], [128])), (256, (76, 258, [23], [])), (258, (93, 261, [12, 58, 210], [])), (261, (15, 262, [0], [])), (262, (3, 265, [], [200])), (265, (76, 267, [23], [])), (267, (93, 270, [12, 59, 211], [])), (270, (15, 271, [0], [])), (271, (3, 274, [], [200])), (274, (76, 276, [22], [])), (276, (93, 279, [12, 60, 212], [])), (279, (15, 280, [0], [])), (280, (2, 282, [], [80])), (282, (76, 284, [20], [])), (284, (93, 287, [12, 62, 213], [])), (287, (15, 288, [0], [])), (288, (2, 290, [], [12])), (290, (76, 292, [20], [])), (292, (93, 295, [12, 63, 214], [])), (295, (15, 296, [0], [])), (296, (2, 298, [], [12])), (298, (76, 300, [20], [])), (300, (93, 303, [12, 64, 215], [])), (303, (15, 304, [0], [])), (304, (2, 306, [], [12])), (306, (76, 308, [20], [])), (308, (93, 311, [12, 65, 216], [])), (311, (15, 312, [0], [])), (312, (2, 314, [], [12])), (314, (76, 316, [20], [])), (316, (93, 319, [12, 66, 217], [])), (319, (15, 320, [0], [])), (320, (3, 323, [], [150])), (323, (76, 325, [20], [])), (325, (93, 328, [12, 67, 218], [])), (328, (15, 329, [0], [])), (329, (3, 332, [], [150])), (332, (76, 334, [20], [])), (334, (93, 337, [12, 68, 219], [])), (337, (15, 338, [0], [])), (338, (3, 341, [], [150])), (341, (76, 343, [20], [])), (343, (93, 346, [12, 69, 220], [])), (346, (15, 347, [0], [])), (347, (3, 350, [], [150])), (350, (76, 352, [22], [])), (352, (93, 355, [12, 70, 221], [])), (355, (15, 356, [0], [])), (356, (3, 359, [], [150])), (359, (76, 361, [22], [])), (361, (93, 364, [12, 71, 222], [])), (364, (15, 365, [0], [])), (365, (2, 367, [], [80])), (367, (76, 369, [20], [])), (369, (93, 372, [12, 72, 223], [])), (372, (15, 373, [0], [])), (373, (2, 375, [], [80])), (375, (76, 377, [20], [])), (377, (93, 380, [12, 73, 224], [])), (380, (15, 381, [0], [])), (381, (2, 383, [], [80])), (383, (76, 385, [20], [])), (385, (93, 388, [12, 74, 225], [])), (388, (15, 389, [0], [])), (389, (3, 392, [], [150])), (392, (76, 394, [20], [])), (394, (93, 397, [12, 75, 226], [])), (397, (15, 398, [0], [])), (398, (3, 401, [], [150])), (401, (76, 403, [20], [])), (403, (93, 406, [12, 76, 227], [])), (406, (15, 407, [0], [])), (407, (2, 409, [], [80])), (409, (76, 411, [20], [])), (411, (93, 414, [12, 77, 228], [])), (414, (15, 415, [0], [])), (415, (2, 417, [], [15])), (417, (76, 419, [20], [])), (419, (93, 422, [12, 78, 229], []))]
noncomputable def cd_207_1 : List (Nat × Ins) := [(422, (15, 423, [0], [])), (423, (2, 425, [], [15])), (425, (76, 427, [20], [])), (427, (93, 430, [12, 79, 230], [])), (430, (15, 431, [0], [])), (431, (2, 433, [], [15])), (433, (76, 435, [20], [])), (435, (93, 438, [12, 80, 231], [])), (438, (15, 439, [0], [])), (439, (2, 441, [], [15])), (441, (76, 443, [20], [])), (443, (93, 446, [12, 81, 232], [])), (446, (15, 447, [0], [])), (447, (2, 449, [], [30])), (449, (76, 451, [20], [])), (451, (93, 454, [12, 82, 233], [])), (454, (15, 455, [0], [])), (455, (2, 457, [], [30])), (457, (76, 459, [20], [])), (459, (93, 462, [12, 83, 234], [])), (462, (15, 463, [0], [])), (463, (2, 465, [], [30])), (465, (76, 467, [20], [])), (467, (93, 470, [12, 84, 235], [])), (470, (15, 471, [0], [])), (471, (2, 473, [], [30])), (473, (76, 475, [20], [])), (475, (93, 478, [12, 85, 236], [])), (478, (15, 479, [0], [])), (479, (2, 481, [], [30])), (481, (76, 483, [20], [])), (483, (93, 486, [12, 86, 237], [])), (486, (15, 487, [0], [])), (487, (2, 489, [], [30])), (489, (76, 491, [20], [])), (491, (93, 494, [12, 87, 238], [])), (494, (15, 495, [0], [])), (495, (2, 497, [], [30])), (497, (76, 499, [20], [])), (499, (93, 502, [12, 88, 239], [])), (502, (15, 503, [0], [])), (503, (2, 505, [], [60])), (505, (76, 507, [20], [])), (507, (93, 510, [12, 89, 240], [])), (510, (15, 511, [0], [])), (511, (2, 513, [], [60])), (513, (76, 515, [20], [])), (515, (93, 518, [12, 90, 241], [])), (518, (15, 519, [0], [])), (519, (2, 521, [], [60])), (521, (76, 523, [20], [])), (523, (93, 526, [12, 91, 242], [])), (526, (15, 527, [0], [])), (527, (2, 529, [], [30])), (529, (76, 531, [20], [])), (531, (93, 534, [12, 92, 243], [])), (534, (15, 535, [0], [])), (535, (2, 537, [], [60])), (537, (76, 539, [20], [])), (539, (93, 542, [12, 93, 244], [])), (542, (15, 543, [0], [])), (543, (2, 545, [], [60])), (545, (76, 547, [22], [])), (547, (93, 550, [12, 94, 245], [])), (550, (15, 551, [0], [])), (551, (3, 554, [], [300])), (554, (76, 556, [20], [])), (556, (93, 559, [12, 95, 246], [])), (559, (15, 560, [0], [])), (560, (3, 563, [], [300])), (563, (76, 565, [20], [])), (565, (93, 568, [12, 96, 247], [])), (568, (15, 569, [0], [])), (569, (3, 572, [], [300])), (572, (76, 574, [20], [])), (574, (93, 577, [12, 97, 248], [])), (577, (15, 578, [0], [])), (578, (3, 581, [], [300])), (581, (76, 583, [20], [])), (583, (93, 586, [12, 98, 249], [])), (586, (15, 587, [0], [])), (587, (3, 590, [], [300])), (590, (76, 592, [20], [])), (592, (93, 595, [12, 99, 250], [])), (595, (15, 596, [0], [])), (596, (2, 598, [], [60])), (598, (76, 600, [20], [])), (600, (93, 603, [12, 100, 251], [])), (603, (15, 604, [0], [])), (604, (3, 607, [], [2400])), (607, (76, 609, [20], [])), (609, (93, 612, [12, 101, 252], [])), (612, (15, 613, [0], [])), (613, (3, 616, [], [2400])), (616, (76, 618, [22], [])), (618, (93, 621, [12, 102, 253], [])), (621, (15, 622, [0], [])), (622, (2, 624, [], [12])), (624, (76, 626, [20], [])), (626, (93, 629, [12, 103, 254], [])), (629, (15, 630, [0], [])), (630, (2, 632, [], [12])), (632, (76, 634, [20], [])), (634, (93, 637, [12, 104, 255], [])), (637, (15, 638, [0], [])), (638, (2, 640, [], [12])), (640, (76, 642, [20], [])), (642, (93, 645, [12, 105, 256], [])), (645, (15, 646, [0], [])), (646, (2, 648, [], [12])), (648, (76, 650, [22], [])), (650, (93, 653, [12, 106, 257], [])), (653, (15, 654, [0], [])), (654, (2, 656, [], [16])), (656, (76, 658, [20], [])), (658, (93, 661, [12, 107, 258], [])), (661, (15, 662, [0], [])), (662, (2, 664, [], [16])), (664, (76, 666, [20], [])), (666, (93, 669, [12, 108, 259], [])), (669, (15, 670, [0], [])), (670, (2, 672, [], [16])), (672, (76, 674, [20], [])), (674, (93, 677, [12, 109, 260], [])), (677, (15, 678, [0], [])), (678, (2, 680, [], [16])), (680, (76, 682, [20], [])), (682, (93, 685, [12, 110, 261], [])), (685, (112, 686, [], []))]
noncomputable def cd_207 : List (Nat × Ins) := cd_207_0 ++ (cd_207_1)
/-- PitInspectorModel.<init>()V -/
noncomputable def mt_207 : MTy := (⟨"PitInspectorModel", "<init>", "()V"⟩, prog_14_method_1_code, 1, none, 12, 60, 0, (80, 27190), 0, [1461, 14, 1460, 0], cd_207)
noncomputable def cd_208 : List (Nat × Ins) := [(0, (11, 1, [1], [])), (1, (42, 2, [], [])), (2, (15, 3, [0], [])), (3, (90, 6, [12, 2, 262], [])), (6, (42, 7, [], [])), (7, (7, 10, [2], [5000000])), (10, (102, 13, [209, 3, 304], [])), (13, (61, 16, [18], [])), (16, (1, 17, [], [0])), (17, (110, 18, [], [])), (18, (15, 19, [0], [])), (19, (11, 20, [1], [])), (20, (92, 23, [12, 2, 262], [])), (23, (1, 24, [], [1])), (24, (110, 25, [], []))]
/-- PitInspectorModel.now(I)Z -/
noncomputable def mt_208 : MTy := (⟨"PitInspectorModel", "now", "(I)Z"⟩, prog_14_method_5_code, 2, some .boolean, 12, 12, 2, (0, 0), 1, [1800, 14, 1798, 1912], cd_208)
noncomputable def cd_209 : List (Nat × Ins) := [(0, (13, 1, [0], [])), (1, (13, 2, [2], [])), (2, (51, 3, [], [])), (3, (62, 6, [17], [])), (6, (13, 7, [0], [])), (7, (12, 9, [4], [])), (9, (51, 10, [], [])), (10, (64, 13, [17], [])), (13, (1, 14, [], [1])), (14, (73, 17, [18], [])), (17, (1, 18, [], [0])), (18, (110, 19, [], []))]
/-- PitInspectorModel.lies(JJJ)Z -/
noncomputable def mt_209 : MTy := (⟨"PitInspectorModel", "lies", "(JJJ)Z"⟩, prog_14_method_2_code, 6, some .boolean, 12, 50, 2, (0, 0), 3, [1804, 14, 1803, 0], cd_209)
noncomputable def cd_210 : List (Nat × Ins) := [(0, (15, 1, [0], [])), (1, (90, 4, [12, 3, 263], [])), (4, (2, 6, [], [12])), (6, (66, 9, [58], [])), (9, (11, 10, [1], [])), (10, (42, 11, [], [])), (11, (6, 12, [], [0])), (12, (7, 15, [3], [7])), (15, (102, 18, [209, 3, 304], [])), (18, (60, 21, [58], [])), (21, (11, 22, [2], [])), (22, (42, 23, [], [])), (23, (6, 24, [], [0])), (24, (7, 27, [4], [2000])), (27, (102, 30, [209, 3, 304], [])), (30, (60, 33, [58], [])), (33, (11, 34, [3], [])), (34, (42, 35, [], [])), (35, (6, 36, [], [0])), (36, (7, 39, [5], [100])), (39, (102, 42, [209, 3, 304], [])), (42, (60, 45, [58], [])), (45, (10, 47, [4], [])), (47, (42, 48, [], [])), (48, (6, 49, [], [0])), (49, (7, 52, [4], [2000])), (52, (102, 55, [209, 3, 304], [])), (55, (61, 58, [60], [])), (58, (1, 59, [], [-1])), (59, (110, 60, [], [])), (60, (15, 61, [0], [])), (61, (91, 64, [12, 21, 183], [])), (64, (15, 65, [0], [])), (65, (90, 68, [12, 3, 263], [])), (68, (11, 69, [1], [])), (69, (84, 70, [], [])), (70, (15, 71, [0], [])), (71, (91, 74, [12, 22, 184], [])), (74, (15, 75, [0], [])), (75, (90, 78, [12, 3, 263], [])), (78, (11, 79, [2], [])), (79, (84, 80, [], [])), (80, (15, 81, [0], [])), (81, (91, 84, [12, 23, 185], [])), (84, (15, 85, [0], [])), (85, (90, 88, [12, 3, 263], [])), (88, (11, 89, [3], [])), (89, (84, 90, [], [])), (90, (15, 91, [0], [])), (91, (91, 94, [12, 24, 186], [])), (94, (15, 95, [0], [])), (95, (90, 98, [12, 3, 263], [])), (98, (10, 100, [4], [])), (100, (84, 101, [], [])), (101, (15, 102, [0], [])), (102, (91, 105, [12, 27, 189], [])), (105, (15, 106, [0], [])), (106, (90, 109, [12, 3, 263], [])), (109, (1, 110, [], [-1])), (110, (84, 111, [], [])), (111, (15, 112, [0], [])), (112, (91, 115, [12, 63, 214], [])), (115, (15, 116, [0], [])), (116, (90, 119, [12, 3, 263], [])), (119, (1, 120, [], [-1])), (120, (84, 121, [], [])), (121, (15, 122, [0], [])), (122, (91, 125, [12, 64, 215], [])), (125, (15, 126, [0], [])), (126, (90, 129, [12, 3, 263], [])), (129, (1, 130, [], [-1])), (130, (84, 131, [], [])), (131, (15, 132, [0], [])), (132, (56, 133, [], [])), (133, (90, 136, [12, 3, 263], [])), (136, (1, 137, [], [1])), (137, (30, 138, [], [])), (138, (92, 141, [12, 3, 263], [])), (141, (15, 142, [0], [])), (142, (90, 145, [12, 3, 263], [])), (145, (1, 146, [], [1])), (146, (31, 147, [], [])), (147, (110, 148, [], []))]
/-- PitInspectorModel.pit(IIII)I -/
noncomputable def mt_210 : MTy := (⟨"PitInspectorModel", "pit", "(IIII)I"⟩, prog_14_method_8_code, 5, some .int, 12, 12, 1, (0, 0), 4, [1808, 14, 1806, 1920], cd_210)
noncomputable def cd_211 : List (Nat × Ins) := [(0, (15, 1, [0], [])), (1, (11, 2, [1], [])), (2, (100, 5, [212, 2, 305], [])), (5, (60, 8, [40], [])), (8, (11, 9, [2], [])), (9, (42, 10, [], [])), (10, (6, 11, [], [0])), (11, (6, 12, [], [1])), (12, (102, 15, [209, 3, 304], [])), (15, (60, 18, [40], [])), (18, (11, 19, [3], [])), (19, (42, 20, [], [])), (20, (6, 21, [], [0])), (21, (11, 22, [2], [])), (22, (61, 25, [31], [])), (25, (7, 28, [5], [100])), (28, (73, 31, [34], [])), (31, (7, 34, [4], [2000])), (34, (102, 37, [209, 3, 304], [])), (37, (61, 40, [42], [])), (40, (1, 41, [], [0])), (41, (110, 42, [], [])), (42, (11, 43, [2], [])), (43, (61, 46, [56], [])), (46, (15, 47, [0], [])), (47, (91, 50, [12, 23, 185], [])), (50, (11, 51, [1], [])), (51, (11, 52, [3], [])), (52, (84, 53, [], [])), (53, (73, 56, [63], [])), (56, (15, 57, [0], [])), (57, (91, 60, [12, 24, 186], [])), (60, (11, 61, [1], [])), (61, (11, 62, [3], [])), (62, (84, 63, [], [])), (63, (1, 64, [], [1])), (64, (110, 65, [], []))]
/-- PitInspectorModel.told(III)Z -/
noncomputable def mt_211 : MTy := (⟨"PitInspectorModel", "told", "(III)Z"⟩, prog_14_method_9_code, 4, some .boolean, 12, 12, 2, (0, 0), 3, [1815, 14, 1813, 1927], cd_211)
noncomputable def cd_212 : List (Nat × Ins) := [(0, (11, 1, [1], [])), (1, (42, 2, [], [])), (2, (6, 3, [], [0])), (3, (15, 4, [0], [])), (4, (90, 7, [12, 3, 263], [])), (7, (1, 8, [], [1])), (8, (31, 9, [], [])), (9, (42, 10, [], [])), (10, (102, 13, [209, 3, 304], [])), (13, (110, 14, [], []))]
/-- PitInspectorModel.isPit(I)Z -/
noncomputable def mt_212 : MTy := (⟨"PitInspectorModel", "isPit", "(I)Z"⟩, prog_14_method_6_code, 2, some .boolean, 12, 12, 2, (0, 0), 1, [1819, 14, 1818, 45], cd_212)
noncomputable def cd_213 : List (Nat × Ins) := [(0, (15, 1, [0], [])), (1, (90, 4, [12, 4, 264], [])), (4, (2, 6, [], [40])), (6, (66, 9, [29], [])), (9, (15, 10, [0], [])), (10, (11, 11, [1], [])), (11, (100, 14, [212, 2, 305], [])), (14, (60, 17, [29], [])), (17, (11, 18, [2], [])), (18, (42, 19, [], [])), (19, (6, 20, [], [0])), (20, (7, 23, [6], [4])), (23, (102, 26, [209, 3, 304], [])), (26, (61, 29, [31], [])), (29, (1, 30, [], [-1])), (30, (110, 31, [], [])), (31, (15, 32, [0], [])), (32, (91, 35, [12, 28, 190], [])), (35, (15, 36, [0], [])), (36, (90, 39, [12, 4, 264], [])), (39, (11, 40, [1], [])), (40, (84, 41, [], [])), (41, (15, 42, [0], [])), (42, (91, 45, [12, 29, 191], [])), (45, (15, 46, [0], [])), (46, (90, 49, [12, 4, 264], [])), (49, (11, 50, [2], [])), (50, (84, 51, [], [])), (51, (15, 52, [0], [])), (52, (91, 55, [12, 30, 192], [])), (55, (15, 56, [0], [])), (56, (90, 59, [12, 4, 264], [])), (59, (1, 60, [], [-1])), (60, (84, 61, [], [])), (61, (15, 62, [0], [])), (62, (56, 63, [], [])), (63, (90, 66, [12, 4, 264], [])), (66, (1, 67, [], [1])), (67, (30, 68, [], [])), (68, (92, 71, [12, 4, 264], [])), (71, (15, 72, [0], [])), (72, (90, 75, [12, 4, 264], [])), (75, (1, 76, [], [1])), (76, (31, 77, [], [])), (77, (110, 78, [], []))]
/-- PitInspectorModel.hand(II)I -/
noncomputable def mt_213 : MTy := (⟨"PitInspectorModel", "hand", "(II)I"⟩, prog_14_method_10_code, 3, some .int, 12, 12, 1, (0, 0), 2, [1823, 14, 1821, 1935], cd_213)
noncomputable def cd_214 : List (Nat × Ins) := [(0, (15, 1, [0], [])), (1, (90, 4, [12, 1, 265], [])), (4, (2, 6, [], [20])), (6, (30, 7, [], [])), (7, (3, 10, [], [160])), (10, (71, 13, [15], [])), (13, (1, 14, [], [-1])), (14, (110, 15, [], [])), (15, (15, 16, [0], [])), (16, (11, 17, [1], [])), (17, (100, 20, [215, 2, 306], [])), (20, (15, 21, [0], [])), (21, (11, 22, [2], [])), (22, (100, 25, [215, 2, 306], [])), (25, (15, 26, [0], [])), (26, (11, 27, [3], [])), (27, (100, 30, [215, 2, 306], [])), (30, (15, 31, [0], [])), (31, (10, 33, [4], [])), (33, (100, 36, [215, 2, 306], [])), (36, (15, 37, [0], [])), (37, (10, 39, [5], [])), (39, (100, 42, [215, 2, 306], [])), (42, (15, 43, [0], [])), (43, (90, 46, [12, 1, 265], [])), (46, (110, 47, [], []))]
/-- PitInspectorModel.feed(IIIII)I -/
noncomputable def mt_214 : MTy := (⟨"PitInspectorModel", "feed", "(IIIII)I"⟩, prog_14_method_12_code, 6, some .int, 12, 12, 1, (0, 0), 5, [1828, 14, 1826, 1940], cd_214)
noncomputable def cd_215 : List (Nat × Ins) := [(0, (2, 2, [], [24])), (2, (17, 3, [2], [])), (3, (11, 4, [2], [])), (4, (62, 7, [36], [])), (7, (15, 8, [0], [])), (8, (91, 11, [12, 0, 180], [])), (11, (15, 12, [0], [])), (12, (90, 15, [12, 1, 265], [])), (15, (11, 16, [1], [])), (16, (11, 17, [2], [])), (17, (37, 18, [], [])), (18, (44, 19, [], [])), (19, (85, 20, [], [])), (20, (15, 21, [0], [])), (21, (56, 22, [], [])), (22, (90, 25, [12, 1, 265], [])), (25, (1, 26, [], [1])), (26, (30, 27, [], [])), (27, (92, 30, [12, 1, 265], [])), (30, (22, 33, [2], [-8])), (33, (73, 36, [3], [])), (36, (112, 37, [], []))]
/-- PitInspectorModel.push(I)V -/
noncomputable def mt_215 : MTy := (⟨"PitInspectorModel", "push", "(I)V"⟩, prog_14_method_11_code, 3, none, 12, 12, 0, (0, 0), 1, [1832, 14, 1831, 46], cd_215)
noncomputable def cd_216 : List (Nat × Ins) := [(0, (15, 1, [0], [])), (1, (90, 4, [12, 5, 269], [])), (4, (2, 6, [], [30])), (6, (66, 9, [69], [])), (9, (11, 10, [1], [])), (10, (1, 11, [], [-1])), (11, (66, 14, [22], [])), (14, (15, 15, [0], [])), (15, (11, 16, [1], [])), (16, (100, 19, [212, 2, 305], [])), (19, (60, 22, [69], [])), (22, (11, 23, [2], [])), (23, (42, 24, [], [])), (24, (6, 25, [], [0])), (25, (7, 28, [9], [3472])), (28, (102, 31, [209, 3, 304], [])), (31, (60, 34, [69], [])), (34, (11, 35, [3], [])), (35, (42, 36, [], [])), (36, (11, 37, [2], [])), (37, (42, 38, [], [])), (38, (7, 41, [9], [3472])), (41, (102, 44, [209, 3, 304], [])), (44, (60, 47, [69], [])), (47, (10, 49, [4], [])), (49, (42, 50, [], [])), (50, (6, 51, [], [1])), (51, (7, 54, [10], [160])), (54, (102, 57, [209, 3, 304], [])), (57, (60, 60, [69], [])), (60, (10, 62, [4], [])), (62, (15, 63, [0], [])), (63, (90, 66, [12, 1, 265], [])), (66, (71, 69, [71], [])), (69, (1, 70, [], [-1])), (70, (110, 71, [], [])), (71, (15, 72, [0], [])), (72, (1, 73, [], [0])), (73, (92, 76, [12, 1, 265], [])), (76, (15, 77, [0], [])), (77, (1, 78, [], [0])), (78, (92, 81, [12, 45, 266], [])), (81, (15, 82, [0], [])), (82, (10, 84, [4], [])), (84, (92, 87, [12, 46, 267], [])), (87, (15, 88, [0], [])), (88, (1, 89, [], [0])), (89, (92, 92, [12, 47, 268], [])), (92, (15, 93, [0], [])), (93, (1, 94, [], [0])), (94, (92, 97, [12, 48, 275], [])), (97, (15, 98, [0], [])), (98, (1, 99, [], [0])), (99, (92, 102, [12, 49, 270], [])), (102, (1, 103, [], [1])), (103, (16, 105, [5], [])), (105, (10, 107, [5], [])), (107, (60, 110, [160], [])), (110, (15, 111, [0], [])), (111, (100, 114, [217, 1, 307], [])), (114, (60, 117, [160], [])), (117, (15, 118, [0], [])), (118, (100, 121, [218, 1, 329], [])), (121, (15, 122, [0], [])), (122, (100, 125, [217, 1, 307], [])), (125, (60, 128, [143], [])), (128, (15, 129, [0], [])), (129, (90, 132, [12, 45, 266], [])), (132, (15, 133, [0], [])), (133, (90, 136, [12, 46, 267], [])), (136, (69, 139, [143], [])), (139, (1, 140, [], [1])), (140, (73, 143, [144], [])), (143, (1, 144, [], [0])), (144, (16, 146, [5], [])), (146, (10, 148, [5], [])), (148, (60, 151, [105], [])), (151, (15, 152, [0], [])), (152, (2, 154, [], [59])), (154, (100, 157, [239, 2, 328], [])), (157, (73, 160, [105], [])), (160, (15, 161, [0], [])), (161, (90, 164, [12, 47, 268], [])), (164, (63, 167, [172], [])), (167, (15, 168, [0], [])), (168, (90, 171, [12, 47, 268], [])), (171, (110, 172, [], [])), (172, (15, 173, [0], [])), (173, (91, 176, [12, 31, 193], [])), (176, (15, 177, [0], [])), (177, (90, 180, [12, 5, 269], [])), (180, (11, 181, [1], [])), (181, (84, 182, [], [])), (182, (15, 183, [0], [])), (183, (91, 186, [12, 32, 194], [])), (186, (15, 187, [0], [])), (187, (90, 190, [12, 5, 269], [])), (190, (11, 191, [2], [])), (191, (84, 192, [], [])), (192, (15, 193, [0], [])), (193, (91, 196, [12, 33, 195], [])), (196, (15, 197, [0], [])), (197, (90, 200, [12, 5, 269], [])), (200, (11, 201, [3], [])), (201, (84, 202, [], [])), (202, (15, 203, [0], [])), (203, (91, 206, [12, 34, 196], [])), (206, (15, 207, [0], [])), (207, (90, 210, [12, 5, 269], [])), (210, (15, 211, [0], [])), (211, (90, 214, [12, 48, 275], [])), (214, (84, 215, [], [])), (215, (1, 216, [], [0])), (216, (16, 218, [6], [])), (218, (10, 220, [6], [])), (220, (10, 222, [4], [])), (222, (69, 225, [254], [])), (225, (15, 226, [0], [])), (226, (91, 229, [12, 35, 197], [])), (229, (3, 232, [], [160])), (232, (15, 233, [0], [])), (233, (90, 236, [12, 5, 269], [])), (236, (32, 237, [], [])), (237, (10, 239, [6], [])), (239, (30, 240, [], [])), (240, (15, 241, [0], [])), (241, (91, 244, [12, 0, 180], [])), (244, (10, 246, [6], [])), (246, (81, 247, [], [])), (247, (85, 248, [], [])), (248, (22, 251, [6], [1])), (251, (73, 254, [218], [])), (254, (15, 255, [0], [])), (255, (56, 256, [], [])), (256, (90, 259, [12, 5, 269], [])), (259, (1, 260, [], [1])), (260, (30, 261, [], [])), (261, (92, 264, [12, 5, 269], [])), (264, (15, 265, [0], [])), (265, (90, 268, [12, 5, 269], [])), (268, (1, 269, [], [1])), (269, (31, 270, [], [])), (270, (110, 271, [], []))]
/-- PitInspectorModel.text(IIII)I -/
noncomputable def mt_216 : MTy := (⟨"PitInspectorModel", "text", "(IIII)I"⟩, prog_14_method_36_code, 7, some .int, 12, 12, 1, (0, 0), 4, [1836, 14, 1834, 1948], cd_216)
noncomputable def cd_217 : List (Nat × Ins) := [(0, (15, 1, [0], [])), (1, (90, 4, [12, 47, 268], [])), (4, (61, 7, [11], [])), (7, (1, 8, [], [1])), (8, (73, 11, [12], [])), (11, (1, 12, [], [0])), (12, (110, 13, [], []))]
/-- PitInspectorModel.isGood()Z -/
noncomputable def mt_217 : MTy := (⟨"PitInspectorModel", "isGood", "()Z"⟩, prog_14_method_15_code, 1, some .boolean, 12, 12, 2, (0, 0), 0, [1842, 14, 1841, 47], cd_217)
noncomputable def cd_218 : List (Nat × Ins) := [(0, (15, 1, [0], [])), (1, (100, 4, [219, 1, 309], [])), (4, (17, 5, [1], [])), (5, (11, 6, [1], [])), (6, (2, 8, [], [100])), (8, (66, 11, [47], [])), (11, (11, 12, [1], [])), (12, (2, 14, [], [110])), (14, (66, 17, [47], [])), (17, (11, 18, [1], [])), (18, (2, 20, [], [119])), (20, (66, 23, [47], [])), (23, (11, 24, [1], [])), (24, (2, 26, [], [102])), (26, (66, 29, [47], [])), (29, (11, 30, [1], [])), (30, (2, 32, [], [120])), (32, (66, 35, [47], [])), (35, (15, 36, [0], [])), (36, (1, 37, [], [1])), (37, (15, 38, [0], [])), (38, (90, 41, [12, 45, 266], [])), (41, (100, 44, [220, 3, 308], [])), (44, (73, 47, [65], [])), (47, (15, 48, [0], [])), (48, (90, 51, [12, 48, 275], [])), (51, (2, 53, [], [12])), (53, (67, 56, [65], [])), (56, (15, 57, [0], [])), (57, (1, 58, [], [4])), (58, (15, 59, [0], [])), (59, (90, 62, [12, 45, 266], [])), (62, (100, 65, [220, 3, 308], [])), (65, (15, 66, [0], [])), (66, (100, 69, [217, 1, 307], [])), (69, (61, 72, [73], [])), (72, (112, 73, [], [])), (73, (2, 75, [], [12])), (75, (15, 76, [0], [])), (76, (90, 79, [12, 5, 269], [])), (79, (32, 80, [], [])), (80, (15, 81, [0], [])), (81, (90, 84, [12, 48, 275], [])), (84, (30, 85, [], [])), (85, (17, 86, [2], [])), (86, (15, 87, [0], [])), (87, (91, 90, [12, 36, 198], [])), (90, (11, 91, [2], [])), (91, (11, 92, [1], [])), (92, (84, 93, [], [])), (93, (15, 94, [0], [])), (94, (91, 97, [12, 37, 199], [])), (97, (11, 98, [2], [])), (98, (1, 99, [], [0])), (99, (84, 100, [], [])), (100, (15, 101, [0], [])), (101, (91, 104, [12, 38, 200], [])), (104, (11, 105, [2], [])), (105, (1, 106, [], [0])), (106, (84, 107, [], [])), (107, (15, 108, [0], [])), (108, (91, 111, [12, 39, 201], [])), (111, (11, 112, [2], [])), (112, (1, 113, [], [0])), (113, (84, 114, [], [])), (114, (15, 115, [0], [])), (115, (91, 118, [12, 40, 202], [])), (118, (11, 119, [2], [])), (119, (1, 120, [], [0])), (120, (84, 121, [], [])), (121, (15, 122, [0], [])), (122, (91, 125, [12, 41, 203], [])), (125, (11, 126, [2], [])), (126, (15, 127, [0], [])), (127, (90, 130, [12, 49, 270], [])), (130, (84, 131, [], [])), (131, (15, 132, [0], [])), (132, (56, 133, [], [])), (133, (90, 136, [12, 45, 266], [])), (136, (1, 137, [], [1])), (137, (30, 138, [], [])), (138, (92, 141, [12, 45, 266], [])), (141, (11, 142, [1], [])), (142, (2, 144, [], [100])), (144, (66, 147, [159], [])), (147, (11, 148, [1], [])), (148, (2, 150, [], [110])), (150, (66, 153, [159], [])), (153, (11, 154, [1], [])), (154, (2, 156, [], [119])), (156, (67, 159, [164], [])), (159, (15, 160, [0], [])), (160, (11, 161, [2], [])), (161, (100, 164, [221, 2, 327], [])), (164, (15, 165, [0], [])), (165, (91, 168, [12, 42, 204], [])), (168, (11, 169, [2], [])), (169, (15, 170, [0], [])), (170, (90, 173, [12, 49, 270], [])), (173, (84, 174, [], [])), (174, (15, 175, [0], [])), (175, (100, 178, [217, 1, 307], [])), (178, (60, 181, [206], [])), (181, (11, 182, [1], [])), (182, (2, 184, [], [119])), (184, (66, 187, [193], [])), (187, (11, 188, [1], [])), (188, (2, 190, [], [102])), (190, (67, 193, [206], [])), (193, (15, 194, [0], [])), (194, (91, 197, [12, 37, 199], [])), (197, (11, 198, [2], [])), (198, (15, 199, [0], [])), (199, (5, 202, [8], [99999])), (202, (100, 205, [227, 2, 317], [])), (205, (84, 206, [], [])), (206, (11, 207, [1], [])), (207, (2, 209, [], [120])), (209, (67, 212, [256], [])), (212, (15, 213, [0], [])), (213, (91, 216, [12, 37, 199], [])), (216, (11, 217, [2], [])), (217, (15, 218, [0], [])), (218, (2, 220, [], [29])), (220, (100, 223, [227, 2, 317], [])), (223, (84, 224, [], [])), (224, (15, 225, [0], [])), (225, (100, 228, [217, 1, 307], [])), (228, (60, 231, [237], [])), (231, (15, 232, [0], [])), (232, (2, 234, [], [46])), (234, (100, 237, [239, 2, 328], [])), (237, (15, 238, [0], [])), (238, (100, 241, [217, 1, 307], [])), (241, (60, 244, [256], [])), (244, (15, 245, [0], [])), (245, (91, 248, [12, 38, 200], [])), (248, (11, 249, [2], [])), (249, (15, 250, [0], [])), (250, (2, 252, [], [11])), (252, (100, 255, [227, 2, 317], [])), (255, (84, 256, [], [])), (256, (15, 257, [0], [])), (257, (56, 258, [], [])), (258, (90, 261, [12, 48, 275], [])), (261, (1, 262, [], [1])), (262, (30, 263, [], [])), (263, (92, 266, [12, 48, 275], [])), (266, (112, 267, [], []))]
/-- PitInspectorModel.clause()V -/
noncomputable def mt_218 : MTy := (⟨"PitInspectorModel", "clause", "()V"⟩, prog_14_method_35_code, 3, none, 12, 12, 0, (0, 0), 0, [1846, 14, 1845, 48], cd_218)
noncomputable def cd_219 : List (Nat × Ins) := [(0, (15, 1, [0], [])), (1, (90, 4, [12, 45, 266], [])), (4, (15, 5, [0], [])), (5, (90, 8, [12, 46, 267], [])), (8, (69, 11, [27], [])), (11, (15, 12, [0], [])), (12, (91, 15, [12, 0, 180], [])), (15, (15, 16, [0], [])), (16, (90, 19, [12, 45, 266], [])), (19, (81, 20, [], [])), (20, (3, 23, [], [255])), (23, (39, 24, [], [])), (24, (73, 27, [28], [])), (27, (1, 28, [], [0])), (28, (110, 29, [], []))]
/-- PitInspectorModel.here()I -/
noncomputable def mt_219 : MTy := (⟨"PitInspectorModel", "here", "()I"⟩, prog_14_method_13_code, 1, some .int, 12, 12, 1, (0, 0), 0, [1850, 14, 1849, 49], cd_219)
noncomputable def cd_220 : List (Nat × Ins) := [(0, (15, 1, [0], [])), (1, (15, 2, [0], [])), (2, (90, 5, [12, 47, 268], [])), (5, (63, 8, [15], [])), (8, (15, 9, [0], [])), (9, (90, 12, [12, 47, 268], [])), (12, (73, 15, [22], [])), (15, (3, 18, [], [-1000])), (18, (11, 19, [1], [])), (19, (32, 20, [], [])), (20, (11, 21, [2], [])), (21, (31, 22, [], [])), (22, (92, 25, [12, 47, 268], [])), (25, (112, 26, [], []))]
/-- PitInspectorModel.fails(II)V -/
noncomputable def mt_220 : MTy := (⟨"PitInspectorModel", "fails", "(II)V"⟩, prog_14_method_14_code, 3, none, 12, 12, 0, (0, 0), 2, [1854, 14, 1853, 50], cd_220)
noncomputable def cd_221 : List (Nat × Ins) := [(0, (15, 1, [0], [])), (1, (1, 2, [], [0])), (2, (92, 5, [12, 51, 271], [])), (5, (15, 6, [0], [])), (6, (1, 7, [], [0])), (7, (92, 10, [12, 50, 272], [])), (10, (15, 11, [0], [])), (11, (1, 12, [], [0])), (12, (94, 15, [12, 52, 274], [])), (15, (15, 16, [0], [])), (16, (91, 19, [12, 39, 201], [])), (19, (11, 20, [1], [])), (20, (15, 21, [0], [])), (21, (90, 24, [12, 45, 266], [])), (24, (84, 25, [], [])), (25, (15, 26, [0], [])), (26, (100, 29, [219, 1, 309], [])), (29, (2, 31, [], [40])), (31, (66, 34, [43], [])), (34, (15, 35, [0], [])), (35, (1, 36, [], [1])), (36, (15, 37, [0], [])), (37, (90, 40, [12, 45, 266], [])), (40, (100, 43, [220, 3, 308], [])), (43, (15, 44, [0], [])), (44, (100, 47, [217, 1, 307], [])), (47, (61, 50, [51], [])), (50, (112, 51, [], [])), (51, (15, 52, [0], [])), (52, (100, 55, [222, 1, 316], [])), (55, (1, 56, [], [1])), (56, (17, 57, [2], [])), (57, (15, 58, [0], [])), (58, (100, 61, [217, 1, 307], [])), (61, (60, 64, [94], [])), (64, (15, 65, [0], [])), (65, (90, 68, [12, 52, 274], [])), (68, (61, 71, [94], [])), (71, (11, 72, [2], [])), (72, (60, 75, [79], [])), (75, (15, 76, [0], [])), (76, (100, 79, [224, 1, 325], [])), (79, (15, 80, [0], [])), (80, (100, 83, [217, 1, 307], [])), (83, (60, 86, [57], [])), (86, (15, 87, [0], [])), (87, (100, 90, [237, 1, 326], [])), (90, (17, 91, [2], [])), (91, (73, 94, [57], [])), (94, (15, 95, [0], [])), (95, (91, 98, [12, 40, 202], [])), (98, (11, 99, [1], [])), (99, (15, 100, [0], [])), (100, (90, 103, [12, 45, 266], [])), (103, (84, 104, [], [])), (104, (112, 105, [], []))]
/-- PitInspectorModel.condition(I)V -/
noncomputable def mt_221 : MTy := (⟨"PitInspectorModel", "condition", "(I)V"⟩, prog_14_method_34_code, 3, none, 12, 12, 0, (0, 0), 1, [1858, 14, 1857, 51], cd_221)
noncomputable def cd_222 : List (Nat × Ins) := [(0, (15, 1, [0], [])), (1, (90, 4, [12, 50, 272], [])), (4, (2, 6, [], [6])), (6, (67, 9, [18], [])), (9, (15, 10, [0], [])), (10, (1, 11, [], [5])), (11, (15, 12, [0], [])), (12, (90, 15, [12, 45, 266], [])), (15, (100, 18, [220, 3, 308], [])), (18, (15, 19, [0], [])), (19, (56, 20, [], [])), (20, (90, 23, [12, 50, 272], [])), (23, (1, 24, [], [1])), (24, (30, 25, [], [])), (25, (92, 28, [12, 50, 272], [])), (28, (15, 29, [0], [])), (29, (15, 30, [0], [])), (30, (100, 33, [219, 1, 309], [])), (33, (100, 36, [223, 2, 310], [])), (36, (112, 37, [], []))]
/-- PitInspectorModel.opens()V -/
noncomputable def mt_222 : MTy := (⟨"PitInspectorModel", "opens", "()V"⟩, prog_14_method_19_code, 1, none, 12, 12, 0, (0, 0), 0, [1862, 14, 1861, 52], cd_222)
noncomputable def cd_223 : List (Nat × Ins) := [(0, (15, 1, [0], [])), (1, (91, 4, [12, 54, 207], [])), (4, (15, 5, [0], [])), (5, (90, 8, [12, 51, 271], [])), (8, (11, 9, [1], [])), (9, (84, 10, [], [])), (10, (15, 11, [0], [])), (11, (56, 12, [], [])), (12, (90, 15, [12, 51, 271], [])), (15, (1, 16, [], [1])), (16, (30, 17, [], [])), (17, (92, 20, [12, 51, 271], [])), (20, (15, 21, [0], [])), (21, (56, 22, [], [])), (22, (90, 25, [12, 45, 266], [])), (25, (1, 26, [], [1])), (26, (30, 27, [], [])), (27, (92, 30, [12, 45, 266], [])), (30, (112, 31, [], []))]
/-- PitInspectorModel.puts(I)V -/
noncomputable def mt_223 : MTy := (⟨"PitInspectorModel", "puts", "(I)V"⟩, prog_14_method_18_code, 2, none, 12, 12, 0, (0, 0), 1, [1866, 14, 1865, 53], cd_223)
noncomputable def cd_224 : List (Nat × Ins) := [(0, (15, 1, [0], [])), (1, (100, 4, [217, 1, 307], [])), (4, (60, 7, [32], [])), (7, (15, 8, [0], [])), (8, (100, 11, [219, 1, 309], [])), (11, (2, 13, [], [33])), (13, (66, 16, [25], [])), (16, (15, 17, [0], [])), (17, (100, 20, [219, 1, 309], [])), (20, (2, 22, [], [40])), (22, (67, 25, [32], [])), (25, (15, 26, [0], [])), (26, (100, 29, [222, 1, 316], [])), (29, (73, 32, [0], [])), (32, (1, 33, [], [1])), (33, (17, 34, [1], [])), (34, (15, 35, [0], [])), (35, (1, 36, [], [0])), (36, (94, 39, [12, 53, 273], [])), (39, (11, 40, [1], [])), (40, (60, 43, [89], [])), (43, (15, 44, [0], [])), (44, (100, 47, [217, 1, 307], [])), (47, (60, 50, [89], [])), (50, (15, 51, [0], [])), (51, (90, 54, [12, 53, 273], [])), (54, (61, 57, [61], [])), (57, (15, 58, [0], [])), (58, (100, 61, [225, 1, 321], [])), (61, (15, 62, [0], [])), (62, (1, 63, [], [0])), (63, (94, 66, [12, 53, 273], [])), (66, (15, 67, [0], [])), (67, (100, 70, [217, 1, 307], [])), (70, (60, 73, [84], [])), (73, (15, 74, [0], [])), (74, (100, 77, [230, 1, 322], [])), (77, (60, 80, [84], [])), (80, (1, 81, [], [1])), (81, (73, 84, [85], [])), (84, (1, 85, [], [0])), (85, (17, 86, [1], [])), (86, (73, 89, [39], [])), (89, (15, 90, [0], [])), (90, (100, 93, [217, 1, 307], [])), (93, (60, 96, [100], [])), (96, (15, 97, [0], [])), (97, (100, 100, [236, 1, 323], [])), (100, (112, 101, [], []))]
/-- PitInspectorModel.piece()V -/
noncomputable def mt_224 : MTy := (⟨"PitInspectorModel", "piece", "()V"⟩, prog_14_method_32_code, 2, none, 12, 12, 0, (0, 0), 0, [1870, 14, 1869, 54], cd_224)
noncomputable def cd_225 : List (Nat × Ins) := [(0, (15, 1, [0], [])), (1, (100, 4, [217, 1, 307], [])), (4, (60, 7, [23], [])), (7, (15, 8, [0], [])), (8, (100, 11, [219, 1, 309], [])), (11, (2, 13, [], [91])), (13, (67, 16, [23], [])), (16, (15, 17, [0], [])), (17, (100, 20, [222, 1, 316], [])), (20, (73, 23, [0], [])), (23, (15, 24, [0], [])), (24, (100, 27, [217, 1, 307], [])), (27, (61, 30, [31], [])), (30, (112, 31, [], [])), (31, (15, 32, [0], [])), (32, (100, 35, [226, 1, 311], [])), (35, (60, 38, [53], [])), (38, (15, 39, [0], [])), (39, (1, 40, [], [0])), (40, (15, 41, [0], [])), (41, (5, 44, [8], [99999])), (44, (100, 47, [227, 2, 317], [])), (47, (100, 50, [228, 3, 315], [])), (50, (73, 53, [94], [])), (53, (15, 54, [0], [])), (54, (100, 57, [219, 1, 309], [])), (57, (102, 60, [229, 1, 318], [])), (60, (60, 63, [85], [])), (63, (15, 64, [0], [])), (64, (1, 65, [], [1])), (65, (15, 66, [0], [])), (66, (100, 69, [219, 1, 309], [])), (69, (100, 72, [228, 3, 315], [])), (72, (15, 73, [0], [])), (73, (56, 74, [], [])), (74, (90, 77, [12, 45, 266], [])), (77, (1, 78, [], [1])), (78, (30, 79, [], [])), (79, (92, 82, [12, 45, 266], [])), (82, (73, 85, [94], [])), (85, (15, 86, [0], [])), (86, (1, 87, [], [1])), (87, (15, 88, [0], [])), (88, (90, 91, [12, 45, 266], [])), (91, (100, 94, [220, 3, 308], [])), (94, (112, 95, [], []))]
/-- PitInspectorModel.factor()V -/
noncomputable def mt_225 : MTy := (⟨"PitInspectorModel", "factor", "()V"⟩, prog_14_method_30_code, 1, none, 12, 12, 0, (0, 0), 0, [1874, 14, 1873, 55], cd_225)
noncomputable def cd_226 : List (Nat × Ins) := [(0, (15, 1, [0], [])), (1, (100, 4, [219, 1, 309], [])), (4, (42, 5, [], [])), (5, (7, 8, [7], [48])), (8, (7, 11, [8], [57])), (11, (102, 14, [209, 3, 304], [])), (14, (110, 15, [], []))]
/-- PitInspectorModel.seesDigit()Z -/
noncomputable def mt_226 : MTy := (⟨"PitInspectorModel", "seesDigit", "()Z"⟩, prog_14_method_20_code, 1, some .boolean, 12, 12, 2, (0, 0), 0, [1878, 14, 1877, 56], cd_226)
noncomputable def cd_227 : List (Nat × Ins) := [(0, (15, 1, [0], [])), (1, (90, 4, [12, 45, 266], [])), (4, (17, 5, [2], [])), (5, (1, 6, [], [0])), (6, (17, 7, [3], [])), (7, (15, 8, [0], [])), (8, (100, 11, [226, 1, 311], [])), (11, (61, 14, [23], [])), (14, (15, 15, [0], [])), (15, (1, 16, [], [1])), (16, (15, 17, [0], [])), (17, (90, 20, [12, 45, 266], [])), (20, (100, 23, [220, 3, 308], [])), (23, (15, 24, [0], [])), (24, (100, 27, [217, 1, 307], [])), (27, (60, 30, [82], [])), (30, (15, 31, [0], [])), (31, (100, 34, [226, 1, 311], [])), (34, (60, 37, [82], [])), (37, (15, 38, [0], [])), (38, (90, 41, [12, 45, 266], [])), (41, (11, 42, [2], [])), (42, (1, 43, [], [5])), (43, (30, 44, [], [])), (44, (67, 47, [56], [])), (47, (15, 48, [0], [])), (48, (1, 49, [], [2])), (49, (15, 50, [0], [])), (50, (90, 53, [12, 45, 266], [])), (53, (100, 56, [220, 3, 308], [])), (56, (2, 58, [], [10])), (58, (11, 59, [3], [])), (59, (32, 60, [], [])), (60, (15, 61, [0], [])), (61, (100, 64, [219, 1, 309], [])), (64, (30, 65, [], [])), (65, (2, 67, [], [48])), (67, (31, 68, [], [])), (68, (17, 69, [3], [])), (69, (15, 70, [0], [])), (70, (56, 71, [], [])), (71, (90, 74, [12, 45, 266], [])), (74, (1, 75, [], [1])), (75, (30, 76, [], [])), (76, (92, 79, [12, 45, 266], [])), (79, (73, 82, [23], [])), (82, (11, 83, [3], [])), (83, (11, 84, [1], [])), (84, (71, 87, [93], [])), (87, (15, 88, [0], [])), (88, (1, 89, [], [3])), (89, (11, 90, [2], [])), (90, (100, 93, [220, 3, 308], [])), (93, (11, 94, [3], [])), (94, (110, 95, [], []))]
/-- PitInspectorModel.reads(I)I -/
noncomputable def mt_227 : MTy := (⟨"PitInspectorModel", "reads", "(I)I"⟩, prog_14_method_21_code, 4, some .int, 12, 12, 1, (0, 0), 1, [1885, 14, 1884, 57], cd_227)
noncomputable def cd_228 : List (Nat × Ins) := [(0, (15, 1, [0], [])), (1, (100, 4, [217, 1, 307], [])), (4, (61, 7, [8], [])), (7, (112, 8, [], [])), (8, (15, 9, [0], [])), (9, (91, 12, [12, 43, 205], [])), (12, (3, 15, [], [160])), (15, (15, 16, [0], [])), (16, (90, 19, [12, 5, 269], [])), (19, (32, 20, [], [])), (20, (15, 21, [0], [])), (21, (90, 24, [12, 49, 270], [])), (24, (30, 25, [], [])), (25, (11, 26, [1], [])), (26, (84, 27, [], [])), (27, (15, 28, [0], [])), (28, (91, 31, [12, 44, 206], [])), (31, (3, 34, [], [160])), (34, (15, 35, [0], [])), (35, (90, 38, [12, 5, 269], [])), (38, (32, 39, [], [])), (39, (15, 40, [0], [])), (40, (90, 43, [12, 49, 270], [])), (43, (30, 44, [], [])), (44, (11, 45, [2], [])), (45, (84, 46, [], [])), (46, (15, 47, [0], [])), (47, (56, 48, [], [])), (48, (90, 51, [12, 49, 270], [])), (51, (1, 52, [], [1])), (52, (30, 53, [], [])), (53, (92, 56, [12, 49, 270], [])), (56, (112, 57, [], []))]
/-- PitInspectorModel.emit(II)V -/
noncomputable def mt_228 : MTy := (⟨"PitInspectorModel", "emit", "(II)V"⟩, prog_14_method_16_code, 3, none, 12, 12, 0, (0, 0), 2, [1889, 14, 1888, 58], cd_228)
noncomputable def cd_229 : List (Nat × Ins) := [(0, (11, 1, [0], [])), (1, (2, 3, [], [115])), (3, (66, 6, [72], [])), (6, (11, 7, [0], [])), (7, (2, 9, [], [100])), (9, (66, 12, [72], [])), (12, (11, 13, [0], [])), (13, (2, 15, [], [103])), (15, (66, 18, [72], [])), (18, (11, 19, [0], [])), (19, (2, 21, [], [109])), (21, (66, 24, [72], [])), (24, (11, 25, [0], [])), (25, (2, 27, [], [98])), (27, (66, 30, [72], [])), (30, (11, 31, [0], [])), (31, (2, 33, [], [97])), (33, (66, 36, [72], [])), (36, (11, 37, [0], [])), (37, (2, 39, [], [111])), (39, (66, 42, [72], [])), (42, (11, 43, [0], [])), (43, (2, 45, [], [119])), (45, (66, 48, [72], [])), (48, (11, 49, [0], [])), (49, (2, 51, [], [108])), (51, (66, 54, [72], [])), (54, (11, 55, [0], [])), (55, (2, 57, [], [104])), (57, (66, 60, [72], [])), (60, (11, 61, [0], [])), (61, (2, 63, [], [121])), (63, (66, 66, [72], [])), (66, (11, 67, [0], [])), (67, (2, 69, [], [113])), (69, (67, 72, [76], [])), (72, (1, 73, [], [1])), (73, (73, 76, [77], [])), (76, (1, 77, [], [0])), (77, (110, 78, [], []))]
/-- PitInspectorModel.isValue(I)Z -/
noncomputable def mt_229 : MTy := (⟨"PitInspectorModel", "isValue", "(I)Z"⟩, prog_14_method_26_code, 1, some .boolean, 12, 50, 2, (0, 0), 1, [1892, 14, 1891, 0], cd_229)
noncomputable def cd_230 : List (Nat × Ins) := [(0, (15, 1, [0], [])), (1, (100, 4, [219, 1, 309], [])), (4, (17, 5, [1], [])), (5, (11, 6, [1], [])), (6, (102, 9, [231, 1, 313], [])), (9, (61, 12, [19], [])), (12, (11, 13, [1], [])), (13, (102, 16, [232, 1, 314], [])), (16, (60, 19, [34], [])), (19, (15, 20, [0], [])), (20, (11, 21, [1], [])), (21, (102, 24, [232, 1, 314], [])), (24, (100, 27, [233, 2, 319], [])), (27, (15, 28, [0], [])), (28, (11, 29, [1], [])), (29, (100, 32, [223, 2, 310], [])), (32, (1, 33, [], [1])), (33, (110, 34, [], [])), (34, (15, 35, [0], [])), (35, (1, 36, [], [1])), (36, (100, 39, [233, 2, 319], [])), (39, (11, 40, [1], [])), (40, (2, 42, [], [93])), (42, (67, 45, [102], [])), (45, (15, 46, [0], [])), (46, (100, 49, [234, 1, 312], [])), (49, (2, 51, [], [91])), (51, (66, 54, [65], [])), (54, (15, 55, [0], [])), (55, (1, 56, [], [1])), (56, (15, 57, [0], [])), (57, (90, 60, [12, 45, 266], [])), (60, (100, 63, [220, 3, 308], [])), (63, (1, 64, [], [0])), (64, (110, 65, [], [])), (65, (15, 66, [0], [])), (66, (56, 67, [], [])), (67, (90, 70, [12, 51, 271], [])), (70, (1, 71, [], [1])), (71, (31, 72, [], [])), (72, (92, 75, [12, 51, 271], [])), (75, (15, 76, [0], [])), (76, (56, 77, [], [])), (77, (90, 80, [12, 50, 272], [])), (80, (1, 81, [], [1])), (81, (31, 82, [], [])), (82, (92, 85, [12, 50, 272], [])), (85, (15, 86, [0], [])), (86, (56, 87, [], [])), (87, (90, 90, [12, 45, 266], [])), (90, (1, 91, [], [1])), (91, (30, 92, [], [])), (92, (92, 95, [12, 45, 266], [])), (95, (15, 96, [0], [])), (96, (1, 97, [], [1])), (97, (94, 100, [12, 53, 273], [])), (100, (1, 101, [], [1])), (101, (110, 102, [], [])), (102, (11, 103, [1], [])), (103, (102, 106, [235, 1, 320], [])), (106, (60, 109, [144], [])), (109, (15, 110, [0], [])), (110, (100, 113, [234, 1, 312], [])), (113, (2, 115, [], [91])), (115, (66, 118, [128], [])), (118, (15, 119, [0], [])), (119, (100, 122, [234, 1, 312], [])), (122, (102, 125, [235, 1, 320], [])), (125, (60, 128, [137], [])), (128, (15, 129, [0], [])), (129, (1, 130, [], [1])), (130, (15, 131, [0], [])), (131, (90, 134, [12, 45, 266], [])), (134, (100, 137, [220, 3, 308], [])), (137, (15, 138, [0], [])), (138, (11, 139, [1], [])), (139, (100, 142, [223, 2, 310], [])), (142, (1, 143, [], [1])), (143, (110, 144, [], [])), (144, (15, 145, [0], [])), (145, (100, 148, [234, 1, 312], [])), (148, (102, 151, [235, 1, 320], [])), (151, (60, 154, [176], [])), (154, (15, 155, [0], [])), (155, (15, 156, [0], [])), (156, (100, 159, [234, 1, 312], [])), (159, (1, 160, [], [0])), (160, (100, 163, [228, 3, 315], [])), (163, (15, 164, [0], [])), (164, (56, 165, [], [])), (165, (90, 168, [12, 51, 271], [])), (168, (1, 169, [], [1])), (169, (31, 170, [], [])), (170, (92, 173, [12, 51, 271], [])), (173, (73, 176, [185], [])), (176, (15, 177, [0], [])), (177, (1, 178, [], [1])), (178, (15, 179, [0], [])), (179, (90, 182, [12, 45, 266], [])), (182, (100, 185, [220, 3, 308], [])), (185, (1, 186, [], [0])), (186, (110, 187, [], []))]
/-- PitInspectorModel.goesOn()Z -/
noncomputable def mt_230 : MTy := (⟨"PitInspectorModel", "goesOn", "()Z"⟩, prog_14_method_31_code, 2, some .boolean, 12, 12, 2, (0, 0), 0, [1896, 14, 1895, 59], cd_230)
noncomputable def cd_231 : List (Nat × Ins) := [(0, (11, 1, [0], [])), (1, (2, 3, [], [42])), (3, (66, 6, [18], [])), (6, (11, 7, [0], [])), (7, (2, 9, [], [47])), (9, (66, 12, [18], [])), (12, (11, 13, [0], [])), (13, (2, 15, [], [37])), (15, (67, 18, [22], [])), (18, (1, 19, [], [1])), (19, (73, 22, [23], [])), (22, (1, 23, [], [0])), (23, (110, 24, [], []))]
/-- PitInspectorModel.isTimes(I)Z -/
noncomputable def mt_231 : MTy := (⟨"PitInspectorModel", "isTimes", "(I)Z"⟩, prog_14_method_23_code, 1, some .boolean, 12, 50, 2, (0, 0), 1, [1899, 14, 1898, 0], cd_231)
noncomputable def cd_232 : List (Nat × Ins) := [(0, (11, 1, [0], [])), (1, (2, 3, [], [43])), (3, (66, 6, [12], [])), (6, (11, 7, [0], [])), (7, (2, 9, [], [45])), (9, (67, 12, [16], [])), (12, (1, 13, [], [1])), (13, (73, 16, [17], [])), (16, (1, 17, [], [0])), (17, (110, 18, [], []))]
/-- PitInspectorModel.isPlus(I)Z -/
noncomputable def mt_232 : MTy := (⟨"PitInspectorModel", "isPlus", "(I)Z"⟩, prog_14_method_24_code, 1, some .boolean, 12, 50, 2, (0, 0), 1, [1902, 14, 1901, 0], cd_232)
noncomputable def cd_233 : List (Nat × Ins) := [(0, (15, 1, [0], [])), (1, (100, 4, [234, 1, 312], [])), (4, (102, 7, [231, 1, 313], [])), (7, (61, 10, [24], [])), (10, (11, 11, [1], [])), (11, (60, 14, [46], [])), (14, (15, 15, [0], [])), (15, (100, 18, [234, 1, 312], [])), (18, (102, 21, [232, 1, 314], [])), (21, (60, 24, [46], [])), (24, (15, 25, [0], [])), (25, (15, 26, [0], [])), (26, (100, 29, [234, 1, 312], [])), (29, (1, 30, [], [0])), (30, (100, 33, [228, 3, 315], [])), (33, (15, 34, [0], [])), (34, (56, 35, [], [])), (35, (90, 38, [12, 51, 271], [])), (38, (1, 39, [], [1])), (39, (31, 40, [], [])), (40, (92, 43, [12, 51, 271], [])), (43, (73, 46, [0], [])), (46, (112, 47, [], []))]
/-- PitInspectorModel.sums(Z)V -/
noncomputable def mt_233 : MTy := (⟨"PitInspectorModel", "sums", "(Z)V"⟩, prog_14_method_27_code, 2, none, 12, 12, 0, (0, 0), 1, [1906, 14, 1905, 60], cd_233)
noncomputable def cd_234 : List (Nat × Ins) := [(0, (15, 1, [0], [])), (1, (90, 4, [12, 51, 271], [])), (4, (65, 7, [21], [])), (7, (15, 8, [0], [])), (8, (91, 11, [12, 54, 207], [])), (11, (15, 12, [0], [])), (12, (90, 15, [12, 51, 271], [])), (15, (1, 16, [], [1])), (16, (31, 17, [], [])), (17, (80, 18, [], [])), (18, (73, 21, [22], [])), (21, (1, 22, [], [0])), (22, (110, 23, [], []))]
/-- PitInspectorModel.top()I -/
noncomputable def mt_234 : MTy := (⟨"PitInspectorModel", "top", "()I"⟩, prog_14_method_17_code, 1, some .int, 12, 12, 1, (0, 0), 0, [1910, 14, 1909, 61], cd_234)
noncomputable def cd_235 : List (Nat × Ins) := [(0, (11, 1, [0], [])), (1, (2, 3, [], [60])), (3, (66, 6, [18], [])), (6, (11, 7, [0], [])), (7, (2, 9, [], [62])), (9, (66, 12, [18], [])), (12, (11, 13, [0], [])), (13, (2, 15, [], [61])), (15, (67, 18, [22], [])), (18, (1, 19, [], [1])), (19, (73, 22, [23], [])), (22, (1, 23, [], [0])), (23, (110, 24, [], []))]
/-- PitInspectorModel.isSign(I)Z -/
noncomputable def mt_235 : MTy := (⟨"PitInspectorModel", "isSign", "(I)Z"⟩, prog_14_method_25_code, 1, some .boolean, 12, 50, 2, (0, 0), 1, [1913, 14, 1912, 0], cd_235)
noncomputable def cd_236 : List (Nat × Ins) := [(0, (15, 1, [0], [])), (1, (100, 4, [234, 1, 312], [])), (4, (2, 6, [], [33])), (6, (67, 9, [38], [])), (9, (15, 10, [0], [])), (10, (1, 11, [], [2])), (11, (1, 12, [], [0])), (12, (100, 15, [228, 3, 315], [])), (15, (15, 16, [0], [])), (16, (56, 17, [], [])), (17, (90, 20, [12, 51, 271], [])), (20, (1, 21, [], [1])), (21, (31, 22, [], [])), (22, (92, 25, [12, 51, 271], [])), (25, (15, 26, [0], [])), (26, (56, 27, [], [])), (27, (90, 30, [12, 50, 272], [])), (30, (1, 31, [], [1])), (31, (31, 32, [], [])), (32, (92, 35, [12, 50, 272], [])), (35, (73, 38, [0], [])), (38, (112, 39, [], []))]
/-- PitInspectorModel.ends()V -/
noncomputable def mt_236 : MTy := (⟨"PitInspectorModel", "ends", "()V"⟩, prog_14_method_29_code, 1, none, 12, 12, 0, (0, 0), 0, [1917, 14, 1916, 62], cd_236)
noncomputable def cd_237 : List (Nat × Ins) := [(0, (15, 1, [0], [])), (1, (100, 4, [219, 1, 309], [])), (4, (17, 5, [1], [])), (5, (11, 6, [1], [])), (6, (2, 8, [], [38])), (8, (66, 11, [17], [])), (11, (11, 12, [1], [])), (12, (2, 14, [], [124])), (14, (67, 17, [39], [])), (17, (15, 18, [0], [])), (18, (11, 19, [1], [])), (19, (2, 21, [], [124])), (21, (67, 24, [28], [])), (24, (1, 25, [], [1])), (25, (73, 28, [29], [])), (28, (1, 29, [], [0])), (29, (100, 32, [238, 2, 324], [])), (32, (15, 33, [0], [])), (33, (11, 34, [1], [])), (34, (100, 37, [223, 2, 310], [])), (37, (1, 38, [], [1])), (38, (110, 39, [], [])), (39, (11, 40, [1], [])), (40, (2, 42, [], [41])), (42, (66, 45, [56], [])), (45, (15, 46, [0], [])), (46, (1, 47, [], [1])), (47, (15, 48, [0], [])), (48, (90, 51, [12, 45, 266], [])), (51, (100, 54, [220, 3, 308], [])), (54, (1, 55, [], [0])), (55, (110, 56, [], [])), (56, (15, 57, [0], [])), (57, (1, 58, [], [1])), (58, (100, 61, [238, 2, 324], [])), (61, (15, 62, [0], [])), (62, (56, 63, [], [])), (63, (90, 66, [12, 51, 271], [])), (66, (1, 67, [], [1])), (67, (31, 68, [], [])), (68, (92, 71, [12, 51, 271], [])), (71, (15, 72, [0], [])), (72, (56, 73, [], [])), (73, (90, 76, [12, 50, 272], [])), (76, (1, 77, [], [1])), (77, (31, 78, [], [])), (78, (92, 81, [12, 50, 272], [])), (81, (15, 82, [0], [])), (82, (56, 83, [], [])), (83, (90, 86, [12, 45, 266], [])), (86, (1, 87, [], [1])), (87, (30, 88, [], [])), (88, (92, 91, [12, 45, 266], [])), (91, (15, 92, [0], [])), (92, (15, 93, [0], [])), (93, (90, 96, [12, 51, 271], [])), (96, (61, 99, [103], [])), (99, (1, 100, [], [1])), (100, (73, 103, [104], [])), (103, (1, 104, [], [0])), (104, (94, 107, [12, 52, 274], [])), (107, (15, 108, [0], [])), (108, (90, 111, [12, 52, 274], [])), (111, (61, 114, [118], [])), (114, (15, 115, [0], [])), (115, (100, 118, [236, 1, 323], [])), (118, (1, 119, [], [0])), (119, (110, 120, [], []))]
/-- PitInspectorModel.goesBehind()Z -/
noncomputable def mt_237 : MTy := (⟨"PitInspectorModel", "goesBehind", "()Z"⟩, prog_14_method_33_code, 2, some .boolean, 12, 12, 2, (0, 0), 0, [1921, 14, 1920, 63], cd_237)
noncomputable def cd_238 : List (Nat × Ins) := [(0, (15, 1, [0], [])), (1, (100, 4, [234, 1, 312], [])), (4, (2, 6, [], [38])), (6, (66, 9, [22], [])), (9, (11, 10, [1], [])), (10, (60, 13, [44], [])), (13, (15, 14, [0], [])), (14, (100, 17, [234, 1, 312], [])), (17, (2, 19, [], [124])), (19, (67, 22, [44], [])), (22, (15, 23, [0], [])), (23, (15, 24, [0], [])), (24, (100, 27, [234, 1, 312], [])), (27, (1, 28, [], [0])), (28, (100, 31, [228, 3, 315], [])), (31, (15, 32, [0], [])), (32, (56, 33, [], [])), (33, (90, 36, [12, 51, 271], [])), (36, (1, 37, [], [1])), (37, (31, 38, [], [])), (38, (92, 41, [12, 51, 271], [])), (41, (73, 44, [0], [])), (44, (112, 45, [], []))]
/-- PitInspectorModel.joinsUp(Z)V -/
noncomputable def mt_238 : MTy := (⟨"PitInspectorModel", "joinsUp", "(Z)V"⟩, prog_14_method_28_code, 2, none, 12, 12, 0, (0, 0), 1, [1925, 14, 1924, 64], cd_238)
noncomputable def cd_239 : List (Nat × Ins) := [(0, (15, 1, [0], [])), (1, (100, 4, [219, 1, 309], [])), (4, (11, 5, [1], [])), (5, (66, 8, [17], [])), (8, (15, 9, [0], [])), (9, (1, 10, [], [1])), (10, (15, 11, [0], [])), (11, (90, 14, [12, 45, 266], [])), (14, (100, 17, [220, 3, 308], [])), (17, (15, 18, [0], [])), (18, (56, 19, [], [])), (19, (90, 22, [12, 45, 266], [])), (22, (1, 23, [], [1])), (23, (30, 24, [], [])), (24, (92, 27, [12, 45, 266], [])), (27, (112, 28, [], []))]
/-- PitInspectorModel.must(I)V -/
noncomputable def mt_239 : MTy := (⟨"PitInspectorModel", "must", "(I)V"⟩, prog_14_method_22_code, 2, none, 12, 12, 0, (0, 0), 1, [1929, 14, 1928, 65], cd_239)
noncomputable def cd_240 : List (Nat × Ins) := [(0, (15, 1, [0], [])), (1, (11, 2, [1], [])), (2, (100, 5, [241, 2, 332], [])), (5, (60, 8, [16], [])), (8, (15, 9, [0], [])), (9, (11, 10, [2], [])), (10, (100, 13, [212, 2, 305], [])), (13, (61, 16, [18], [])), (16, (1, 17, [], [-1])), (17, (110, 18, [], [])), (18, (15, 19, [0], [])), (19, (11, 20, [2], [])), (20, (100, 23, [242, 2, 333], [])), (23, (1, 24, [], [0])), (24, (17, 25, [3], [])), (25, (2, 27, [], [12])), (27, (11, 28, [1], [])), (28, (32, 29, [], [])), (29, (16, 31, [4], [])), (31, (10, 33, [4], [])), (33, (2, 35, [], [12])), (35, (11, 36, [1], [])), (36, (32, 37, [], [])), (37, (2, 39, [], [12])), (39, (30, 40, [], [])), (40, (69, 43, [67], [])), (43, (11, 44, [3], [])), (44, (15, 45, [0], [])), (45, (10, 47, [4], [])), (47, (11, 48, [2], [])), (48, (100, 51, [245, 3, 334], [])), (51, (60, 54, [58], [])), (54, (1, 55, [], [1])), (55, (73, 58, [59], [])), (58, (1, 59, [], [0])), (59, (30, 60, [], [])), (60, (17, 61, [3], [])), (61, (22, 64, [4], [1])), (64, (73, 67, [31], [])), (67, (11, 68, [3], [])), (68, (110, 69, [], []))]
/-- PitInspectorModel.counts(II)I -/
noncomputable def mt_240 : MTy := (⟨"PitInspectorModel", "counts", "(II)I"⟩, prog_14_method_42_code, 5, some .int, 12, 12, 1, (0, 0), 2, [1933, 14, 1931, 2045], cd_240)
noncomputable def cd_241 : List (Nat × Ins) := [(0, (11, 1, [1], [])), (1, (42, 2, [], [])), (2, (6, 3, [], [0])), (3, (15, 4, [0], [])), (4, (90, 7, [12, 5, 269], [])), (7, (1, 8, [], [1])), (8, (31, 9, [], [])), (9, (42, 10, [], [])), (10, (102, 13, [209, 3, 304], [])), (13, (110, 14, [], []))]
/-- PitInspectorModel.isText(I)Z -/
noncomputable def mt_241 : MTy := (⟨"PitInspectorModel", "isText", "(I)Z"⟩, prog_14_method_37_code, 2, some .boolean, 12, 12, 2, (0, 0), 1, [1937, 14, 1936, 66], cd_241)
noncomputable def cd_242 : List (Nat × Ins) := [(0, (1, 1, [], [0])), (1, (17, 2, [2], [])), (2, (11, 3, [2], [])), (3, (3, 6, [], [360])), (6, (69, 9, [22], [])), (9, (15, 10, [0], [])), (10, (91, 13, [12, 55, 208], [])), (13, (11, 14, [2], [])), (14, (1, 15, [], [0])), (15, (85, 16, [], [])), (16, (22, 19, [2], [1])), (19, (73, 22, [2], [])), (22, (15, 23, [0], [])), (23, (90, 26, [12, 5, 269], [])), (26, (1, 27, [], [1])), (27, (31, 28, [], [])), (28, (17, 29, [2], [])), (29, (11, 30, [2], [])), (30, (62, 33, [159], [])), (33, (2, 35, [], [12])), (35, (11, 36, [2], [])), (36, (32, 37, [], [])), (37, (17, 38, [3], [])), (38, (11, 39, [3], [])), (39, (2, 41, [], [12])), (41, (11, 42, [2], [])), (42, (32, 43, [], [])), (43, (15, 44, [0], [])), (44, (91, 47, [12, 34, 196], [])), (47, (11, 48, [2], [])), (48, (80, 49, [], [])), (49, (30, 50, [], [])), (50, (69, 53, [153], [])), (53, (15, 54, [0], [])), (54, (11, 55, [2], [])), (55, (11, 56, [1], [])), (56, (100, 59, [243, 3, 331], [])), (59, (60, 62, [153], [])), (62, (15, 63, [0], [])), (63, (91, 66, [12, 55, 208], [])), (66, (11, 67, [3], [])), (67, (81, 68, [], [])), (68, (61, 71, [147], [])), (71, (15, 72, [0], [])), (72, (91, 75, [12, 36, 198], [])), (75, (11, 76, [3], [])), (76, (80, 77, [], [])), (77, (2, 79, [], [120])), (79, (67, 82, [147], [])), (82, (15, 83, [0], [])), (83, (91, 86, [12, 37, 199], [])), (86, (11, 87, [3], [])), (87, (80, 88, [], [])), (88, (11, 89, [2], [])), (89, (68, 92, [95], [])), (92, (73, 95, [147], [])), (95, (15, 96, [0], [])), (96, (91, 99, [12, 31, 193], [])), (99, (11, 100, [2], [])), (100, (80, 101, [], [])), (101, (1, 102, [], [-1])), (102, (66, 105, [125], [])), (105, (15, 106, [0], [])), (106, (91, 109, [12, 31, 193], [])), (109, (15, 110, [0], [])), (110, (91, 113, [12, 37, 199], [])), (113, (11, 114, [3], [])), (114, (80, 115, [], [])), (115, (80, 116, [], [])), (116, (15, 117, [0], [])), (117, (91, 120, [12, 31, 193], [])), (120, (11, 121, [2], [])), (121, (80, 122, [], [])), (122, (67, 125, [147], [])), (125, (15, 126, [0], [])), (126, (91, 129, [12, 55, 208], [])), (129, (2, 131, [], [12])), (131, (15, 132, [0], [])), (132, (91, 135, [12, 37, 199], [])), (135, (11, 136, [3], [])), (136, (80, 137, [], [])), (137, (32, 138, [], [])), (138, (15, 139, [0], [])), (139, (91, 142, [12, 38, 200], [])), (142, (11, 143, [3], [])), (143, (80, 144, [], [])), (144, (30, 145, [], [])), (145, (1, 146, [], [1])), (146, (85, 147, [], [])), (147, (22, 150, [3], [1])), (150, (73, 153, [38], [])), (153, (22, 156, [2], [-1])), (156, (73, 159, [29], [])), (159, (112, 160, [], []))]
/-- PitInspectorModel.strikes(I)V -/
noncomputable def mt_242 : MTy := (⟨"PitInspectorModel", "strikes", "(I)V"⟩, prog_14_method_40_code, 4, none, 12, 12, 0, (0, 0), 1, [1941, 14, 1940, 67], cd_242)
noncomputable def cd_243 : List (Nat × Ins) := [(0, (15, 1, [0], [])), (1, (11, 2, [1], [])), (2, (100, 5, [244, 2, 330], [])), (5, (60, 8, [32], [])), (8, (15, 9, [0], [])), (9, (91, 12, [12, 31, 193], [])), (12, (11, 13, [1], [])), (13, (80, 14, [], [])), (14, (1, 15, [], [-1])), (15, (66, 18, [28], [])), (18, (15, 19, [0], [])), (19, (91, 22, [12, 31, 193], [])), (22, (11, 23, [1], [])), (23, (80, 24, [], [])), (24, (11, 25, [2], [])), (25, (67, 28, [32], [])), (28, (1, 29, [], [1])), (29, (73, 32, [33], [])), (32, (1, 33, [], [0])), (33, (110, 34, [], []))]
/-- PitInspectorModel.isFor(II)Z -/
noncomputable def mt_243 : MTy := (⟨"PitInspectorModel", "isFor", "(II)Z"⟩, prog_14_method_39_code, 3, some .boolean, 12, 12, 2, (0, 0), 2, [1945, 14, 1944, 68], cd_243)
noncomputable def cd_244 : List (Nat × Ins) := [(0, (15, 1, [0], [])), (1, (90, 4, [12, 2, 262], [])), (4, (3, 7, [], [1440])), (7, (33, 8, [], [])), (8, (42, 9, [], [])), (9, (15, 10, [0], [])), (10, (91, 13, [12, 32, 194], [])), (13, (11, 14, [1], [])), (14, (80, 15, [], [])), (15, (42, 16, [], [])), (16, (15, 17, [0], [])), (17, (91, 20, [12, 33, 195], [])), (20, (11, 21, [1], [])), (21, (80, 22, [], [])), (22, (42, 23, [], [])), (23, (102, 26, [209, 3, 304], [])), (26, (110, 27, [], []))]
/-- PitInspectorModel.isInForce(I)Z -/
noncomputable def mt_244 : MTy := (⟨"PitInspectorModel", "isInForce", "(I)Z"⟩, prog_14_method_38_code, 2, some .boolean, 12, 12, 2, (0, 0), 1, [1949, 14, 1948, 69], cd_244)
noncomputable def cd_245 : List (Nat × Ins) := [(0, (11, 1, [1], [])), (1, (2, 3, [], [12])), (3, (34, 4, [], [])), (4, (15, 5, [0], [])), (5, (91, 8, [12, 34, 196], [])), (8, (11, 9, [1], [])), (9, (2, 11, [], [12])), (11, (33, 12, [], [])), (12, (80, 13, [], [])), (13, (69, 16, [41], [])), (16, (15, 17, [0], [])), (17, (11, 18, [1], [])), (18, (2, 20, [], [12])), (20, (33, 21, [], [])), (21, (11, 22, [2], [])), (22, (100, 25, [243, 3, 331], [])), (25, (60, 28, [41], [])), (28, (15, 29, [0], [])), (29, (91, 32, [12, 55, 208], [])), (32, (11, 33, [1], [])), (33, (81, 34, [], [])), (34, (61, 37, [41], [])), (37, (1, 38, [], [1])), (38, (73, 41, [42], [])), (41, (1, 42, [], [0])), (42, (110, 43, [], []))]
/-- PitInspectorModel.isCounted(II)Z -/
noncomputable def mt_245 : MTy := (⟨"PitInspectorModel", "isCounted", "(II)Z"⟩, prog_14_method_41_code, 3, some .boolean, 12, 12, 2, (0, 0), 2, [1953, 14, 1952, 70], cd_245)
noncomputable def cd_246 : List (Nat × Ins) := [(0, (15, 1, [0], [])), (1, (11, 2, [1], [])), (2, (100, 5, [241, 2, 332], [])), (5, (60, 8, [34], [])), (8, (11, 9, [2], [])), (9, (42, 10, [], [])), (10, (6, 11, [], [0])), (11, (15, 12, [0], [])), (12, (91, 15, [12, 34, 196], [])), (15, (11, 16, [1], [])), (16, (80, 17, [], [])), (17, (1, 18, [], [1])), (18, (31, 19, [], [])), (19, (42, 20, [], [])), (20, (102, 23, [209, 3, 304], [])), (23, (60, 26, [34], [])), (26, (15, 27, [0], [])), (27, (11, 28, [3], [])), (28, (100, 31, [212, 2, 305], [])), (31, (61, 34, [36], [])), (34, (1, 35, [], [-1])), (35, (110, 36, [], [])), (36, (15, 37, [0], [])), (37, (11, 38, [3], [])), (38, (100, 41, [247, 2, 345], [])), (41, (15, 42, [0], [])), (42, (2, 44, [], [12])), (44, (11, 45, [1], [])), (45, (32, 46, [], [])), (46, (11, 47, [2], [])), (47, (30, 48, [], [])), (48, (100, 51, [248, 2, 346], [])), (51, (110, 52, [], []))]
/-- PitInspectorModel.holds(III)I -/
noncomputable def mt_246 : MTy := (⟨"PitInspectorModel", "holds", "(III)I"⟩, prog_14_method_51_code, 4, some .int, 12, 12, 1, (0, 0), 3, [1957, 14, 1955, 2069], cd_246)
noncomputable def cd_247 : List (Nat × Ins) := [(0, (15, 1, [0], [])), (1, (11, 2, [1], [])), (2, (92, 5, [12, 56, 276], [])), (5, (1, 6, [], [0])), (6, (17, 7, [2], [])), (7, (11, 8, [2], [])), (8, (3, 11, [], [128])), (11, (69, 14, [27], [])), (14, (15, 15, [0], [])), (15, (91, 18, [12, 57, 209], [])), (18, (11, 19, [2], [])), (19, (1, 20, [], [0])), (20, (85, 21, [], [])), (21, (22, 24, [2], [1])), (24, (73, 27, [7], [])), (27, (112, 28, [], []))]
/-- PitInspectorModel.asks(I)V -/
noncomputable def mt_247 : MTy := (⟨"PitInspectorModel", "asks", "(I)V"⟩, prog_14_method_43_code, 3, none, 12, 12, 0, (0, 0), 1, [1961, 14, 1960, 71], cd_247)
noncomputable def cd_248 : List (Nat × Ins) := [(0, (1, 1, [], [0])), (1, (17, 2, [2], [])), (2, (11, 3, [1], [])), (3, (2, 5, [], [12])), (5, (33, 6, [], [])), (6, (3, 9, [], [160])), (9, (32, 10, [], [])), (10, (17, 11, [3], [])), (11, (15, 12, [0], [])), (12, (91, 15, [12, 41, 203], [])), (15, (11, 16, [1], [])), (16, (80, 17, [], [])), (17, (15, 18, [0], [])), (18, (91, 21, [12, 42, 204], [])), (21, (11, 22, [1], [])), (22, (80, 23, [], [])), (23, (67, 26, [28], [])), (26, (1, 27, [], [1])), (27, (110, 28, [], [])), (28, (11, 29, [3], [])), (29, (15, 30, [0], [])), (30, (91, 33, [12, 41, 203], [])), (33, (11, 34, [1], [])), (34, (80, 35, [], [])), (35, (30, 36, [], [])), (36, (16, 38, [4], [])), (38, (10, 40, [4], [])), (40, (11, 41, [3], [])), (41, (15, 42, [0], [])), (42, (91, 45, [12, 42, 204], [])), (45, (11, 46, [1], [])), (46, (80, 47, [], [])), (47, (30, 48, [], [])), (48, (69, 51, [168], [])), (51, (15, 52, [0], [])), (52, (91, 55, [12, 43, 205], [])), (55, (10, 57, [4], [])), (57, (80, 58, [], [])), (58, (1, 59, [], [2])), (59, (71, 62, [82], [])), (62, (22, 65, [2], [-1])), (65, (15, 66, [0], [])), (66, (15, 67, [0], [])), (67, (91, 70, [12, 43, 205], [])), (70, (10, 72, [4], [])), (72, (80, 73, [], [])), (73, (11, 74, [2], [])), (74, (1, 75, [], [1])), (75, (31, 76, [], [])), (76, (100, 79, [249, 3, 343], [])), (79, (73, 82, [162], [])), (82, (15, 83, [0], [])), (83, (91, 86, [12, 43, 205], [])), (86, (10, 88, [4], [])), (88, (80, 89, [], [])), (89, (1, 90, [], [2])), (90, (67, 93, [114], [])), (93, (15, 94, [0], [])), (94, (91, 97, [12, 59, 211], [])), (97, (11, 98, [2], [])), (98, (1, 99, [], [1])), (99, (31, 100, [], [])), (100, (6, 101, [], [1])), (101, (15, 102, [0], [])), (102, (91, 105, [12, 59, 211], [])), (105, (11, 106, [2], [])), (106, (1, 107, [], [1])), (107, (31, 108, [], [])), (108, (82, 109, [], [])), (109, (47, 110, [], [])), (110, (86, 111, [], [])), (111, (73, 114, [162], [])), (114, (15, 115, [0], [])), (115, (91, 118, [12, 60, 212], [])), (118, (11, 119, [2], [])), (119, (1, 120, [], [0])), (120, (85, 121, [], [])), (121, (15, 122, [0], [])), (122, (91, 125, [12, 59, 211], [])), (125, (11, 126, [2], [])), (126, (15, 127, [0], [])), (127, (91, 130, [12, 43, 205], [])), (130, (10, 132, [4], [])), (132, (80, 133, [], [])), (133, (61, 136, [147], [])), (136, (15, 137, [0], [])), (137, (91, 140, [12, 44, 206], [])), (140, (10, 142, [4], [])), (142, (80, 143, [], [])), (143, (42, 144, [], [])), (144, (73, 147, [158], [])), (147, (15, 148, [0], [])), (148, (15, 149, [0], [])), (149, (91, 152, [12, 44, 206], [])), (152, (10, 154, [4], [])), (154, (80, 155, [], [])), (155, (100, 158, [251, 2, 344], [])), (158, (86, 159, [], [])), (159, (22, 162, [2], [1])), (162, (22, 165, [4], [1])), (165, (73, 168, [38], [])), (168, (15, 169, [0], [])), (169, (91, 172, [12, 60, 212], [])), (172, (1, 173, [], [0])), (173, (81, 174, [], [])), (174, (60, 177, [181], [])), (177, (1, 178, [], [2])), (178, (73, 181, [188], [])), (181, (15, 182, [0], [])), (182, (91, 185, [12, 59, 211], [])), (185, (1, 186, [], [0])), (186, (82, 187, [], [])), (187, (43, 188, [], [])), (188, (110, 189, [], []))]
/-- PitInspectorModel.worthOf(I)I -/
noncomputable def mt_248 : MTy := (⟨"PitInspectorModel", "worthOf", "(I)I"⟩, prog_14_method_50_code, 5, some .int, 12, 12, 1, (0, 0), 1, [1965, 14, 1964, 72], cd_248)
noncomputable def cd_249 : List (Nat × Ins) := [(0, (11, 1, [2], [])), (1, (1, 2, [], [1])), (2, (30, 3, [], [])), (3, (17, 4, [3], [])), (4, (11, 5, [1], [])), (5, (2, 7, [], [38])), (7, (66, 10, [16], [])), (10, (11, 11, [1], [])), (11, (2, 13, [], [124])), (13, (67, 16, [72], [])), (16, (15, 17, [0], [])), (17, (91, 20, [12, 60, 212], [])), (20, (11, 21, [2], [])), (21, (81, 22, [], [])), (22, (61, 25, [46], [])), (25, (15, 26, [0], [])), (26, (91, 29, [12, 59, 211], [])), (29, (11, 30, [2], [])), (30, (82, 31, [], [])), (31, (11, 32, [1], [])), (32, (2, 34, [], [38])), (34, (67, 37, [41], [])), (37, (6, 38, [], [1])), (38, (73, 41, [42], [])), (41, (6, 42, [], [0])), (42, (51, 43, [], [])), (43, (60, 46, [47], [])), (46, (112, 47, [], [])), (47, (15, 48, [0], [])), (48, (91, 51, [12, 59, 211], [])), (51, (11, 52, [2], [])), (52, (15, 53, [0], [])), (53, (91, 56, [12, 59, 211], [])), (56, (11, 57, [3], [])), (57, (82, 58, [], [])), (58, (86, 59, [], [])), (59, (15, 60, [0], [])), (60, (91, 63, [12, 60, 212], [])), (63, (11, 64, [2], [])), (64, (15, 65, [0], [])), (65, (91, 68, [12, 60, 212], [])), (68, (11, 69, [3], [])), (69, (81, 70, [], [])), (70, (85, 71, [], [])), (71, (112, 72, [], [])), (72, (15, 73, [0], [])), (73, (91, 76, [12, 60, 212], [])), (76, (11, 77, [2], [])), (77, (15, 78, [0], [])), (78, (91, 81, [12, 60, 212], [])), (81, (11, 82, [2], [])), (82, (81, 83, [], [])), (83, (61, 86, [118], [])), (86, (15, 87, [0], [])), (87, (91, 90, [12, 60, 212], [])), (90, (11, 91, [3], [])), (91, (81, 92, [], [])), (92, (61, 95, [118], [])), (95, (11, 96, [1], [])), (96, (2, 98, [], [47])), (98, (66, 101, [107], [])), (101, (11, 102, [1], [])), (102, (2, 104, [], [37])), (104, (67, 107, [122], [])), (107, (15, 108, [0], [])), (108, (91, 111, [12, 59, 211], [])), (111, (11, 112, [3], [])), (112, (82, 113, [], [])), (113, (6, 114, [], [0])), (114, (51, 115, [], [])), (115, (61, 118, [122], [])), (118, (1, 119, [], [1])), (119, (73, 122, [123], [])), (122, (1, 123, [], [0])), (123, (85, 124, [], [])), (124, (15, 125, [0], [])), (125, (91, 128, [12, 59, 211], [])), (128, (11, 129, [2], [])), (129, (11, 130, [1], [])), (130, (15, 131, [0], [])), (131, (91, 134, [12, 59, 211], [])), (134, (11, 135, [2], [])), (135, (82, 136, [], [])), (136, (15, 137, [0], [])), (137, (91, 140, [12, 59, 211], [])), (140, (11, 141, [3], [])), (141, (82, 142, [], [])), (142, (102, 145, [250, 3, 342], [])), (145, (86, 146, [], [])), (146, (112, 147, [], []))]
/-- PitInspectorModel.does(II)V -/
noncomputable def mt_249 : MTy := (⟨"PitInspectorModel", "does", "(II)V"⟩, prog_14_method_49_code, 4, none, 12, 12, 0, (0, 0), 2, [1969, 14, 1968, 73], cd_249)
noncomputable def cd_250 : List (Nat × Ins) := [(0, (11, 1, [0], [])), (1, (75, 68, [132, 94, 76, 68, 72, 80, 108, 120], [37, 42, 43, 45, 47, 60, 62])), (68, (13, 69, [1], [])), (69, (13, 70, [3], [])), (70, (46, 71, [], [])), (71, (111, 72, [], [])), (72, (13, 73, [1], [])), (73, (13, 74, [3], [])), (74, (47, 75, [], [])), (75, (111, 76, [], [])), (76, (13, 77, [1], [])), (77, (13, 78, [3], [])), (78, (48, 79, [], [])), (79, (111, 80, [], [])), (80, (13, 81, [3], [])), (81, (6, 82, [], [0])), (82, (51, 83, [], [])), (83, (61, 86, [90], [])), (86, (6, 87, [], [0])), (87, (73, 90, [93], [])), (90, (13, 91, [1], [])), (91, (13, 92, [3], [])), (92, (49, 93, [], [])), (93, (111, 94, [], [])), (94, (13, 95, [3], [])), (95, (6, 96, [], [0])), (96, (51, 97, [], [])), (97, (61, 100, [104], [])), (100, (6, 101, [], [0])), (101, (73, 104, [107], [])), (104, (13, 105, [1], [])), (105, (13, 106, [3], [])), (106, (50, 107, [], [])), (107, (111, 108, [], [])), (108, (13, 109, [1], [])), (109, (13, 110, [3], [])), (110, (51, 111, [], [])), (111, (63, 114, [118], [])), (114, (6, 115, [], [1])), (115, (73, 118, [119], [])), (118, (6, 119, [], [0])), (119, (111, 120, [], [])), (120, (13, 121, [1], [])), (121, (13, 122, [3], [])), (122, (51, 123, [], [])), (123, (65, 126, [130], [])), (126, (6, 127, [], [1])), (127, (73, 130, [131], [])), (130, (6, 131, [], [0])), (131, (111, 132, [], [])), (132, (13, 133, [1], [])), (133, (13, 134, [3], [])), (134, (51, 135, [], [])), (135, (61, 138, [142], [])), (138, (6, 139, [], [1])), (139, (73, 142, [143], [])), (142, (6, 143, [], [0])), (143, (111, 144, [], []))]
/-- PitInspectorModel.worked(IJJ)J -/
noncomputable def mt_250 : MTy := (⟨"PitInspectorModel", "worked", "(IJJ)J"⟩, prog_14_method_48_code, 5, some .long, 12, 50, 3, (0, 0), 3, [1972, 14, 1971, 0], cd_250)
noncomputable def cd_251 : List (Nat × Ins) := [(0, (15, 1, [0], [])), (1, (91, 4, [12, 57, 209], [])), (4, (11, 5, [1], [])), (5, (81, 6, [], [])), (6, (61, 9, [27], [])), (9, (15, 10, [0], [])), (10, (91, 13, [12, 58, 210], [])), (13, (11, 14, [1], [])), (14, (15, 15, [0], [])), (15, (11, 16, [1], [])), (16, (100, 19, [252, 2, 341], [])), (19, (86, 20, [], [])), (20, (15, 21, [0], [])), (21, (91, 24, [12, 57, 209], [])), (24, (11, 25, [1], [])), (25, (1, 26, [], [1])), (26, (85, 27, [], [])), (27, (15, 28, [0], [])), (28, (91, 31, [12, 58, 210], [])), (31, (11, 32, [1], [])), (32, (82, 33, [], [])), (33, (111, 34, [], []))]
/-- PitInspectorModel.valueOf(I)J -/
noncomputable def mt_251 : MTy := (⟨"PitInspectorModel", "valueOf", "(I)J"⟩, prog_14_method_47_code, 2, some .long, 12, 12, 3, (0, 0), 1, [1976, 14, 1975, 74], cd_251)
noncomputable def cd_252 : List (Nat × Ins) := [(0, (15, 1, [0], [])), (1, (90, 4, [12, 56, 276], [])), (4, (17, 5, [2], [])), (5, (11, 6, [1], [])), (6, (74, 120, [210, 159, 152, 210, 128, 210, 210, 136, 188, 210, 210, 210, 181, 144, 210, 167, 210, 210, 210, 120, 210, 210, 210, 174, 210, 200], [97, 98, 99, 100, 101, 102, 103, 104, 105, 106, 107, 108, 109, 110, 111, 112, 113, 114, 115, 116, 117, 118, 119, 120, 121])), (120, (15, 121, [0], [])), (121, (91, 124, [12, 21, 183], [])), (124, (11, 125, [2], [])), (125, (80, 126, [], [])), (126, (42, 127, [], [])), (127, (111, 128, [], [])), (128, (15, 129, [0], [])), (129, (91, 132, [12, 22, 184], [])), (132, (11, 133, [2], [])), (133, (80, 134, [], [])), (134, (42, 135, [], [])), (135, (111, 136, [], [])), (136, (15, 137, [0], [])), (137, (91, 140, [12, 23, 185], [])), (140, (11, 141, [2], [])), (141, (80, 142, [], [])), (142, (42, 143, [], [])), (143, (111, 144, [], [])), (144, (15, 145, [0], [])), (145, (91, 148, [12, 24, 186], [])), (148, (11, 149, [2], [])), (149, (80, 150, [], [])), (150, (42, 151, [], [])), (151, (111, 152, [], [])), (152, (15, 153, [0], [])), (153, (11, 154, [2], [])), (154, (100, 157, [253, 2, 335], [])), (157, (42, 158, [], [])), (158, (111, 159, [], [])), (159, (15, 160, [0], [])), (160, (11, 161, [2], [])), (161, (1, 162, [], [-1])), (162, (100, 165, [254, 3, 336], [])), (165, (42, 166, [], [])), (166, (111, 167, [], [])), (167, (15, 168, [0], [])), (168, (11, 169, [2], [])), (169, (100, 172, [261, 2, 337], [])), (172, (42, 173, [], [])), (173, (111, 174, [], [])), (174, (15, 175, [0], [])), (175, (11, 176, [2], [])), (176, (100, 179, [266, 2, 338], [])), (179, (42, 180, [], [])), (180, (111, 181, [], [])), (181, (15, 182, [0], [])), (182, (11, 183, [2], [])), (183, (100, 186, [274, 2, 339], [])), (186, (42, 187, [], [])), (187, (111, 188, [], [])), (188, (15, 189, [0], [])), (189, (90, 192, [12, 2, 262], [])), (192, (2, 194, [], [60])), (194, (33, 195, [], [])), (195, (2, 197, [], [24])), (197, (34, 198, [], [])), (198, (42, 199, [], [])), (199, (111, 200, [], [])), (200, (15, 201, [0], [])), (201, (90, 204, [12, 2, 262], [])), (204, (3, 207, [], [1440])), (207, (33, 208, [], [])), (208, (42, 209, [], [])), (209, (111, 210, [], [])), (210, (15, 211, [0], [])), (211, (11, 212, [2], [])), (212, (100, 215, [275, 2, 340], [])), (215, (42, 216, [], [])), (216, (111, 217, [], []))]
/-- PitInspectorModel.finds(I)J -/
noncomputable def mt_252 : MTy := (⟨"PitInspectorModel", "finds", "(I)J"⟩, prog_14_method_46_code, 3, some .long, 12, 12, 3, (0, 0), 1, [1980, 14, 1979, 75], cd_252)
noncomputable def cd_253 : List (Nat × Ins) := [(0, (1, 1, [], [0])), (1, (17, 2, [2], [])), (2, (1, 3, [], [0])), (3, (17, 4, [3], [])), (4, (11, 5, [3], [])), (5, (15, 6, [0], [])), (6, (90, 9, [12, 4, 264], [])), (9, (69, 12, [46], [])), (12, (11, 13, [2], [])), (13, (15, 14, [0], [])), (14, (91, 17, [12, 28, 190], [])), (17, (11, 18, [3], [])), (18, (80, 19, [], [])), (19, (11, 20, [1], [])), (20, (67, 23, [37], [])), (23, (15, 24, [0], [])), (24, (91, 27, [12, 30, 192], [])), (27, (11, 28, [3], [])), (28, (80, 29, [], [])), (29, (1, 30, [], [-1])), (30, (66, 33, [37], [])), (33, (1, 34, [], [1])), (34, (73, 37, [38], [])), (37, (1, 38, [], [0])), (38, (30, 39, [], [])), (39, (17, 40, [2], [])), (40, (22, 43, [3], [1])), (43, (73, 46, [4], [])), (46, (11, 47, [2], [])), (47, (110, 48, [], []))]
/-- PitInspectorModel.below(I)I -/
noncomputable def mt_253 : MTy := (⟨"PitInspectorModel", "below", "(I)I"⟩, prog_14_method_106_code, 4, some .int, 12, 12, 1, (0, 0), 1, [1984, 14, 1983, 76], cd_253)
noncomputable def cd_254 : List (Nat × Ins) := [(0, (1, 1, [], [-1])), (1, (17, 2, [3], [])), (2, (15, 3, [0], [])), (3, (91, 6, [12, 64, 215], [])), (6, (11, 7, [1], [])), (7, (80, 8, [], [])), (8, (1, 9, [], [-1])), (9, (67, 12, [14], [])), (12, (1, 13, [], [-1])), (13, (110, 14, [], [])), (14, (15, 15, [0], [])), (15, (11, 16, [1], [])), (16, (11, 17, [2], [])), (17, (100, 20, [255, 3, 358], [])), (20, (1, 21, [], [0])), (21, (16, 23, [4], [])), (23, (10, 25, [4], [])), (25, (15, 26, [0], [])), (26, (90, 29, [12, 7, 280], [])), (29, (69, 32, [88], [])), (32, (15, 33, [0], [])), (33, (91, 36, [12, 62, 213], [])), (36, (15, 37, [0], [])), (37, (91, 40, [12, 67, 218], [])), (40, (10, 42, [4], [])), (42, (80, 43, [], [])), (43, (80, 44, [], [])), (44, (11, 45, [1], [])), (45, (67, 48, [82], [])), (48, (15, 49, [0], [])), (49, (10, 51, [4], [])), (51, (11, 52, [2], [])), (52, (100, 55, [258, 3, 354], [])), (55, (60, 58, [82], [])), (58, (11, 59, [3], [])), (59, (1, 60, [], [-1])), (60, (66, 63, [74], [])), (63, (15, 64, [0], [])), (64, (91, 67, [12, 75, 226], [])), (67, (10, 69, [4], [])), (69, (80, 70, [], [])), (70, (11, 71, [3], [])), (71, (69, 74, [82], [])), (74, (15, 75, [0], [])), (75, (91, 78, [12, 75, 226], [])), (78, (10, 80, [4], [])), (80, (80, 81, [], [])), (81, (17, 82, [3], [])), (82, (22, 85, [4], [1])), (85, (73, 88, [23], [])), (88, (11, 89, [3], [])), (89, (110, 90, [], []))]
/-- PitInspectorModel.leastOf(II)I -/
noncomputable def mt_254 : MTy := (⟨"PitInspectorModel", "leastOf", "(II)I"⟩, prog_14_method_73_code, 5, some .int, 12, 12, 1, (0, 0), 2, [1988, 14, 1987, 77], cd_254)
noncomputable def cd_255 : List (Nat × Ins) := [(0, (1, 1, [], [0])), (1, (17, 2, [3], [])), (2, (11, 3, [3], [])), (3, (15, 4, [0], [])), (4, (90, 7, [12, 7, 280], [])), (7, (69, 10, [23], [])), (10, (15, 11, [0], [])), (11, (91, 14, [12, 75, 226], [])), (14, (11, 15, [3], [])), (15, (1, 16, [], [0])), (16, (84, 17, [], [])), (17, (22, 20, [3], [1])), (20, (73, 23, [2], [])), (23, (15, 24, [0], [])), (24, (91, 27, [12, 64, 215], [])), (27, (11, 28, [1], [])), (28, (80, 29, [], [])), (29, (1, 30, [], [-1])), (30, (67, 33, [34], [])), (33, (112, 34, [], [])), (34, (15, 35, [0], [])), (35, (15, 36, [0], [])), (36, (91, 39, [12, 65, 216], [])), (39, (11, 40, [1], [])), (40, (80, 41, [], [])), (41, (1, 42, [], [0])), (42, (11, 43, [2], [])), (43, (100, 46, [256, 4, 356], [])), (46, (1, 47, [], [0])), (47, (17, 48, [3], [])), (48, (11, 49, [3], [])), (49, (15, 50, [0], [])), (50, (90, 53, [12, 6, 279], [])), (53, (69, 56, [69], [])), (56, (15, 57, [0], [])), (57, (91, 60, [12, 74, 225], [])), (60, (11, 61, [3], [])), (61, (1, 62, [], [0])), (62, (84, 63, [], [])), (63, (22, 66, [3], [1])), (66, (73, 69, [48], [])), (69, (15, 70, [0], [])), (70, (91, 73, [12, 74, 225], [])), (73, (15, 74, [0], [])), (74, (91, 77, [12, 64, 215], [])), (77, (11, 78, [1], [])), (78, (80, 79, [], [])), (79, (15, 80, [0], [])), (80, (91, 83, [12, 66, 217], [])), (83, (11, 84, [1], [])), (84, (80, 85, [], [])), (85, (84, 86, [], [])), (86, (15, 87, [0], [])), (87, (91, 90, [12, 72, 223], [])), (90, (15, 91, [0], [])), (91, (91, 94, [12, 64, 215], [])), (94, (11, 95, [1], [])), (95, (80, 96, [], [])), (96, (80, 97, [], [])), (97, (17, 98, [3], [])), (98, (11, 99, [3], [])), (99, (65, 102, [154], [])), (102, (1, 103, [], [0])), (103, (16, 105, [4], [])), (105, (10, 107, [4], [])), (107, (15, 108, [0], [])), (108, (90, 111, [12, 6, 279], [])), (111, (69, 114, [148], [])), (114, (15, 115, [0], [])), (115, (91, 118, [12, 72, 223], [])), (118, (10, 120, [4], [])), (120, (80, 121, [], [])), (121, (11, 122, [3], [])), (122, (67, 125, [142], [])), (125, (15, 126, [0], [])), (126, (91, 129, [12, 74, 225], [])), (129, (10, 131, [4], [])), (131, (80, 132, [], [])), (132, (65, 135, [142], [])), (135, (15, 136, [0], [])), (136, (10, 138, [4], [])), (138, (11, 139, [2], [])), (139, (100, 142, [259, 3, 357], [])), (142, (22, 145, [4], [1])), (145, (73, 148, [105], [])), (148, (22, 151, [3], [-1])), (151, (73, 154, [98], [])), (154, (112, 155, [], []))]
/-- PitInspectorModel.blows(II)V -/
noncomputable def mt_255 : MTy := (⟨"PitInspectorModel", "blows", "(II)V"⟩, prog_14_method_71_code, 5, none, 12, 12, 0, (0, 0), 2, [1992, 14, 1991, 78], cd_255)
noncomputable def cd_256 : List (Nat × Ins) := [(0, (1, 1, [], [0])), (1, (16, 3, [4], [])), (3, (10, 5, [4], [])), (5, (15, 6, [0], [])), (6, (90, 9, [12, 6, 279], [])), (9, (69, 12, [26], [])), (12, (15, 13, [0], [])), (13, (91, 16, [12, 72, 223], [])), (16, (10, 18, [4], [])), (18, (1, 19, [], [-1])), (19, (84, 20, [], [])), (20, (22, 23, [4], [1])), (23, (73, 26, [3], [])), (26, (15, 27, [0], [])), (27, (91, 30, [12, 72, 223], [])), (30, (11, 31, [1], [])), (31, (1, 32, [], [0])), (32, (84, 33, [], [])), (33, (15, 34, [0], [])), (34, (91, 37, [12, 73, 224], [])), (37, (1, 38, [], [0])), (38, (11, 39, [1], [])), (39, (84, 40, [], [])), (40, (1, 41, [], [1])), (41, (16, 43, [4], [])), (43, (1, 44, [], [0])), (44, (16, 46, [5], [])), (46, (10, 48, [5], [])), (48, (10, 50, [4], [])), (50, (69, 53, [159], [])), (53, (1, 54, [], [0])), (54, (16, 56, [6], [])), (56, (10, 58, [6], [])), (58, (15, 59, [0], [])), (59, (90, 62, [12, 7, 280], [])), (62, (69, 65, [153], [])), (65, (15, 66, [0], [])), (66, (10, 68, [6], [])), (68, (15, 69, [0], [])), (69, (91, 72, [12, 73, 224], [])), (72, (10, 74, [5], [])), (74, (80, 75, [], [])), (75, (100, 78, [257, 3, 353], [])), (78, (16, 80, [7], [])), (80, (10, 82, [7], [])), (82, (1, 83, [], [-1])), (83, (66, 86, [147], [])), (86, (15, 87, [0], [])), (87, (91, 90, [12, 72, 223], [])), (90, (10, 92, [7], [])), (92, (80, 93, [], [])), (93, (1, 94, [], [-1])), (94, (67, 97, [147], [])), (97, (11, 98, [2], [])), (98, (61, 101, [114], [])), (101, (15, 102, [0], [])), (102, (10, 104, [6], [])), (104, (11, 105, [3], [])), (105, (100, 108, [258, 3, 354], [])), (108, (61, 111, [114], [])), (111, (73, 114, [147], [])), (114, (15, 115, [0], [])), (115, (91, 118, [12, 72, 223], [])), (118, (10, 120, [7], [])), (120, (15, 121, [0], [])), (121, (91, 124, [12, 72, 223], [])), (124, (15, 125, [0], [])), (125, (91, 128, [12, 73, 224], [])), (128, (10, 130, [5], [])), (130, (80, 131, [], [])), (131, (80, 132, [], [])), (132, (1, 133, [], [1])), (133, (30, 134, [], [])), (134, (84, 135, [], [])), (135, (15, 136, [0], [])), (136, (91, 139, [12, 73, 224], [])), (139, (10, 141, [4], [])), (141, (10, 143, [7], [])), (143, (84, 144, [], [])), (144, (22, 147, [4], [1])), (147, (22, 150, [6], [1])), (150, (73, 153, [56], [])), (153, (22, 156, [5], [1])), (156, (73, 159, [46], [])), (159, (112, 160, [], []))]
/-- PitInspectorModel.walks(IZI)V -/
noncomputable def mt_256 : MTy := (⟨"PitInspectorModel", "walks", "(IZI)V"⟩, prog_14_method_68_code, 8, none, 12, 12, 0, (0, 0), 3, [1996, 14, 1995, 79], cd_256)
noncomputable def cd_257 : List (Nat × Ins) := [(0, (15, 1, [0], [])), (1, (91, 4, [12, 67, 218], [])), (4, (11, 5, [1], [])), (5, (80, 6, [], [])), (6, (11, 7, [2], [])), (7, (67, 10, [19], [])), (10, (15, 11, [0], [])), (11, (91, 14, [12, 68, 219], [])), (14, (11, 15, [1], [])), (15, (80, 16, [], [])), (16, (73, 19, [39], [])), (19, (15, 20, [0], [])), (20, (91, 23, [12, 68, 219], [])), (23, (11, 24, [1], [])), (24, (80, 25, [], [])), (25, (11, 26, [2], [])), (26, (67, 29, [38], [])), (29, (15, 30, [0], [])), (30, (91, 33, [12, 67, 218], [])), (33, (11, 34, [1], [])), (34, (80, 35, [], [])), (35, (73, 38, [39], [])), (38, (1, 39, [], [-1])), (39, (110, 40, [], []))]
/-- PitInspectorModel.otherEnd(II)I -/
noncomputable def mt_257 : MTy := (⟨"PitInspectorModel", "otherEnd", "(II)I"⟩, prog_14_method_66_code, 3, some .int, 12, 12, 1, (0, 0), 2, [2000, 14, 1999, 80], cd_257)
noncomputable def cd_258 : List (Nat × Ins) := [(0, (15, 1, [0], [])), (1, (91, 4, [12, 71, 222], [])), (4, (11, 5, [1], [])), (5, (81, 6, [], [])), (6, (11, 7, [1], [])), (7, (11, 8, [2], [])), (8, (67, 11, [15], [])), (11, (1, 12, [], [1])), (12, (73, 15, [16], [])), (15, (1, 16, [], [0])), (16, (66, 19, [23], [])), (19, (1, 20, [], [1])), (20, (73, 23, [24], [])), (23, (1, 24, [], [0])), (24, (110, 25, [], []))]
/-- PitInspectorModel.goesThrough(II)Z -/
noncomputable def mt_258 : MTy := (⟨"PitInspectorModel", "goesThrough", "(II)Z"⟩, prog_14_method_67_code, 3, some .boolean, 12, 12, 2, (0, 0), 2, [2004, 14, 2003, 81], cd_258)
noncomputable def cd_259 : List (Nat × Ins) := [(0, (1, 1, [], [0])), (1, (17, 2, [3], [])), (2, (1, 3, [], [0])), (3, (16, 5, [4], [])), (5, (10, 7, [4], [])), (7, (15, 8, [0], [])), (8, (90, 11, [12, 7, 280], [])), (11, (69, 14, [45], [])), (14, (11, 15, [3], [])), (15, (15, 16, [0], [])), (16, (10, 18, [4], [])), (18, (11, 19, [1], [])), (19, (11, 20, [2], [])), (20, (100, 23, [260, 4, 355], [])), (23, (60, 26, [36], [])), (26, (15, 27, [0], [])), (27, (91, 30, [12, 69, 220], [])), (30, (10, 32, [4], [])), (32, (80, 33, [], [])), (33, (73, 36, [37], [])), (36, (1, 37, [], [0])), (37, (30, 38, [], [])), (38, (17, 39, [3], [])), (39, (22, 42, [4], [1])), (42, (73, 45, [5], [])), (45, (15, 46, [0], [])), (46, (91, 49, [12, 74, 225], [])), (49, (11, 50, [1], [])), (50, (80, 51, [], [])), (51, (16, 53, [4], [])), (53, (1, 54, [], [0])), (54, (16, 56, [5], [])), (56, (10, 58, [5], [])), (58, (15, 59, [0], [])), (59, (90, 62, [12, 7, 280], [])), (62, (69, 65, [124], [])), (65, (15, 66, [0], [])), (66, (10, 68, [5], [])), (68, (11, 69, [1], [])), (69, (11, 70, [2], [])), (70, (100, 73, [260, 4, 355], [])), (73, (61, 76, [79], [])), (76, (73, 79, [118], [])), (79, (15, 80, [0], [])), (80, (91, 83, [12, 75, 226], [])), (83, (10, 85, [5], [])), (85, (15, 86, [0], [])), (86, (91, 89, [12, 74, 225], [])), (89, (11, 90, [1], [])), (90, (80, 91, [], [])), (91, (42, 92, [], [])), (92, (15, 93, [0], [])), (93, (91, 96, [12, 69, 220], [])), (96, (10, 98, [5], [])), (98, (80, 99, [], [])), (99, (42, 100, [], [])), (100, (48, 101, [], [])), (101, (11, 102, [3], [])), (102, (42, 103, [], [])), (103, (49, 104, [], [])), (104, (43, 105, [], [])), (105, (84, 106, [], [])), (106, (10, 108, [4], [])), (108, (15, 109, [0], [])), (109, (91, 112, [12, 75, 226], [])), (112, (10, 114, [5], [])), (114, (80, 115, [], [])), (115, (31, 116, [], [])), (116, (16, 118, [4], [])), (118, (22, 121, [5], [1])), (121, (73, 124, [56], [])), (124, (1, 125, [], [0])), (125, (16, 127, [5], [])), (127, (10, 129, [5], [])), (129, (15, 130, [0], [])), (130, (90, 133, [12, 7, 280], [])), (133, (69, 136, [197], [])), (136, (15, 137, [0], [])), (137, (10, 139, [5], [])), (139, (11, 140, [1], [])), (140, (11, 141, [2], [])), (141, (100, 144, [260, 4, 355], [])), (144, (61, 147, [150], [])), (147, (73, 150, [191], [])), (150, (10, 152, [4], [])), (152, (65, 155, [169], [])), (155, (15, 156, [0], [])), (156, (91, 159, [12, 75, 226], [])), (159, (10, 161, [5], [])), (161, (57, 162, [], [])), (162, (80, 163, [], [])), (163, (1, 164, [], [1])), (164, (30, 165, [], [])), (165, (84, 166, [], [])), (166, (22, 169, [4], [-1])), (169, (15, 170, [0], [])), (170, (91, 173, [12, 74, 225], [])), (173, (15, 174, [0], [])), (174, (10, 176, [5], [])), (176, (11, 177, [1], [])), (177, (100, 180, [257, 3, 353], [])), (180, (57, 181, [], [])), (181, (80, 182, [], [])), (182, (15, 183, [0], [])), (183, (91, 186, [12, 75, 226], [])), (186, (10, 188, [5], [])), (188, (80, 189, [], [])), (189, (30, 190, [], [])), (190, (84, 191, [], [])), (191, (22, 194, [5], [1])), (194, (73, 197, [127], [])), (197, (112, 198, [], []))]
/-- PitInspectorModel.parts(II)V -/
noncomputable def mt_259 : MTy := (⟨"PitInspectorModel", "parts", "(II)V"⟩, prog_14_method_70_code, 6, none, 12, 12, 0, (0, 0), 2, [2008, 14, 2007, 82], cd_259)
noncomputable def cd_260 : List (Nat × Ins) := [(0, (15, 1, [0], [])), (1, (11, 2, [1], [])), (2, (11, 3, [2], [])), (3, (100, 6, [257, 3, 353], [])), (6, (16, 8, [4], [])), (8, (10, 10, [4], [])), (10, (1, 11, [], [-1])), (11, (66, 14, [56], [])), (14, (15, 15, [0], [])), (15, (11, 16, [1], [])), (16, (11, 17, [3], [])), (17, (100, 20, [258, 3, 354], [])), (20, (60, 23, [56], [])), (23, (15, 24, [0], [])), (24, (91, 27, [12, 72, 223], [])), (27, (10, 29, [4], [])), (29, (80, 30, [], [])), (30, (1, 31, [], [-1])), (31, (66, 34, [56], [])), (34, (15, 35, [0], [])), (35, (91, 38, [12, 72, 223], [])), (38, (10, 40, [4], [])), (40, (80, 41, [], [])), (41, (15, 42, [0], [])), (42, (91, 45, [12, 72, 223], [])), (45, (11, 46, [2], [])), (46, (80, 47, [], [])), (47, (1, 48, [], [1])), (48, (31, 49, [], [])), (49, (67, 52, [56], [])), (52, (1, 53, [], [1])), (53, (73, 56, [57], [])), (56, (1, 57, [], [0])), (57, (110, 58, [], []))]
/-- PitInspectorModel.isOn(III)Z -/
noncomputable def mt_260 : MTy := (⟨"PitInspectorModel", "isOn", "(III)Z"⟩, prog_14_method_69_code, 5, some .boolean, 12, 12, 2, (0, 0), 3, [2012, 14, 2011, 83], cd_260)
noncomputable def cd_261 : List (Nat × Ins) := [(0, (1, 1, [], [-1])), (1, (17, 2, [2], [])), (2, (1, 3, [], [0])), (3, (17, 4, [3], [])), (4, (11, 5, [3], [])), (5, (15, 6, [0], [])), (6, (90, 9, [12, 6, 279], [])), (9, (69, 12, [64], [])), (12, (15, 13, [0], [])), (13, (91, 16, [12, 62, 213], [])), (16, (11, 17, [3], [])), (17, (80, 18, [], [])), (18, (11, 19, [1], [])), (19, (67, 22, [58], [])), (22, (15, 23, [0], [])), (23, (11, 24, [3], [])), (24, (100, 27, [262, 2, 361], [])), (27, (60, 30, [33], [])), (30, (73, 33, [58], [])), (33, (15, 34, [0], [])), (34, (11, 35, [3], [])), (35, (100, 38, [263, 2, 362], [])), (38, (16, 40, [4], [])), (40, (11, 41, [2], [])), (41, (1, 42, [], [-1])), (42, (66, 45, [51], [])), (45, (10, 47, [4], [])), (47, (11, 48, [2], [])), (48, (69, 51, [56], [])), (51, (10, 53, [4], [])), (53, (73, 56, [57], [])), (56, (11, 57, [2], [])), (57, (17, 58, [2], [])), (58, (22, 61, [3], [1])), (61, (73, 64, [4], [])), (64, (11, 65, [2], [])), (65, (110, 66, [], []))]
/-- PitInspectorModel.fewestOf(I)I -/
noncomputable def mt_261 : MTy := (⟨"PitInspectorModel", "fewestOf", "(I)I"⟩, prog_14_method_82_code, 5, some .int, 12, 12, 1, (0, 0), 1, [2016, 14, 2015, 84], cd_261)
noncomputable def cd_262 : List (Nat × Ins) := [(0, (15, 1, [0], [])), (1, (91, 4, [12, 63, 214], [])), (4, (15, 5, [0], [])), (5, (91, 8, [12, 62, 213], [])), (8, (11, 9, [1], [])), (9, (80, 10, [], [])), (10, (80, 11, [], [])), (11, (11, 12, [1], [])), (12, (67, 15, [19], [])), (15, (1, 16, [], [1])), (16, (73, 19, [20], [])), (19, (1, 20, [], [0])), (20, (110, 21, [], []))]
/-- PitInspectorModel.isBank(I)Z -/
noncomputable def mt_262 : MTy := (⟨"PitInspectorModel", "isBank", "(I)Z"⟩, prog_14_method_80_code, 2, some .boolean, 12, 12, 2, (0, 0), 1, [2020, 14, 2019, 85], cd_262)
noncomputable def cd_263 : List (Nat × Ins) := [(0, (1, 1, [], [0])), (1, (17, 2, [2], [])), (2, (1, 3, [], [0])), (3, (17, 4, [3], [])), (4, (11, 5, [3], [])), (5, (15, 6, [0], [])), (6, (90, 9, [12, 7, 280], [])), (9, (69, 12, [25], [])), (12, (15, 13, [0], [])), (13, (91, 16, [12, 76, 227], [])), (16, (11, 17, [3], [])), (17, (1, 18, [], [0])), (18, (84, 19, [], [])), (19, (22, 22, [3], [1])), (22, (73, 25, [4], [])), (25, (15, 26, [0], [])), (26, (11, 27, [1], [])), (27, (15, 28, [0], [])), (28, (91, 31, [12, 63, 214], [])), (31, (15, 32, [0], [])), (32, (91, 35, [12, 62, 213], [])), (35, (11, 36, [1], [])), (36, (80, 37, [], [])), (37, (80, 38, [], [])), (38, (100, 41, [264, 3, 360], [])), (41, (60, 44, [50], [])), (44, (22, 47, [2], [1])), (47, (73, 50, [25], [])), (50, (11, 51, [2], [])), (51, (110, 52, [], []))]
/-- PitInspectorModel.waysOf(I)I -/
noncomputable def mt_263 : MTy := (⟨"PitInspectorModel", "waysOf", "(I)I"⟩, prog_14_method_79_code, 4, some .int, 12, 12, 1, (0, 0), 1, [2024, 14, 2023, 86], cd_263)
noncomputable def cd_264 : List (Nat × Ins) := [(0, (1, 1, [], [0])), (1, (17, 2, [3], [])), (2, (11, 3, [3], [])), (3, (15, 4, [0], [])), (4, (90, 7, [12, 6, 279], [])), (7, (69, 10, [23], [])), (10, (15, 11, [0], [])), (11, (91, 14, [12, 77, 228], [])), (14, (11, 15, [3], [])), (15, (1, 16, [], [-1])), (16, (84, 17, [], [])), (17, (22, 20, [3], [1])), (20, (73, 23, [2], [])), (23, (15, 24, [0], [])), (24, (91, 27, [12, 73, 224], [])), (27, (1, 28, [], [0])), (28, (11, 29, [1], [])), (29, (84, 30, [], [])), (30, (1, 31, [], [1])), (31, (17, 32, [3], [])), (32, (1, 33, [], [0])), (33, (16, 35, [4], [])), (35, (10, 37, [4], [])), (37, (11, 38, [3], [])), (38, (69, 41, [149], [])), (41, (15, 42, [0], [])), (42, (91, 45, [12, 77, 228], [])), (45, (11, 46, [2], [])), (46, (80, 47, [], [])), (47, (1, 48, [], [-1])), (48, (67, 51, [149], [])), (51, (1, 52, [], [0])), (52, (16, 54, [5], [])), (54, (10, 56, [5], [])), (56, (15, 57, [0], [])), (57, (90, 60, [12, 7, 280], [])), (60, (69, 63, [143], [])), (63, (15, 64, [0], [])), (64, (10, 66, [5], [])), (66, (15, 67, [0], [])), (67, (91, 70, [12, 73, 224], [])), (70, (10, 72, [4], [])), (72, (80, 73, [], [])), (73, (100, 76, [265, 3, 359], [])), (76, (61, 79, [82], [])), (79, (73, 82, [137], [])), (82, (15, 83, [0], [])), (83, (10, 85, [5], [])), (85, (15, 86, [0], [])), (86, (91, 89, [12, 73, 224], [])), (89, (10, 91, [4], [])), (91, (80, 92, [], [])), (92, (100, 95, [257, 3, 353], [])), (95, (16, 97, [6], [])), (97, (10, 99, [6], [])), (99, (11, 100, [1], [])), (100, (66, 103, [137], [])), (103, (15, 104, [0], [])), (104, (91, 107, [12, 77, 228], [])), (107, (10, 109, [6], [])), (109, (80, 110, [], [])), (110, (1, 111, [], [-1])), (111, (66, 114, [117], [])), (114, (73, 117, [137], [])), (117, (15, 118, [0], [])), (118, (91, 121, [12, 77, 228], [])), (121, (10, 123, [6], [])), (123, (10, 125, [5], [])), (125, (84, 126, [], [])), (126, (15, 127, [0], [])), (127, (91, 130, [12, 73, 224], [])), (130, (11, 131, [3], [])), (131, (10, 133, [6], [])), (133, (84, 134, [], [])), (134, (22, 137, [3], [1])), (137, (22, 140, [5], [1])), (140, (73, 143, [54], [])), (143, (22, 146, [4], [1])), (146, (73, 149, [35], [])), (149, (15, 150, [0], [])), (150, (91, 153, [12, 77, 228], [])), (153, (11, 154, [2], [])), (154, (80, 155, [], [])), (155, (1, 156, [], [-1])), (156, (67, 159, [161], [])), (159, (1, 160, [], [0])), (160, (110, 161, [], [])), (161, (11, 162, [2], [])), (162, (16, 164, [4], [])), (164, (10, 166, [4], [])), (166, (11, 167, [1], [])), (167, (66, 170, [219], [])), (170, (15, 171, [0], [])), (171, (91, 174, [12, 77, 228], [])), (174, (10, 176, [4], [])), (176, (80, 177, [], [])), (177, (16, 179, [5], [])), (179, (15, 180, [0], [])), (180, (91, 183, [12, 76, 227], [])), (183, (10, 185, [5], [])), (185, (57, 186, [], [])), (186, (80, 187, [], [])), (187, (15, 188, [0], [])), (188, (91, 191, [12, 68, 219], [])), (191, (10, 193, [5], [])), (193, (80, 194, [], [])), (194, (10, 196, [4], [])), (196, (67, 199, [203], [])), (199, (1, 200, [], [1])), (200, (73, 203, [204], [])), (203, (1, 204, [], [-1])), (204, (30, 205, [], [])), (205, (84, 206, [], [])), (206, (15, 207, [0], [])), (207, (10, 209, [5], [])), (209, (10, 211, [4], [])), (211, (100, 214, [257, 3, 353], [])), (214, (16, 216, [4], [])), (216, (73, 219, [164], [])), (219, (1, 220, [], [1])), (220, (110, 221, [], []))]
/-- PitInspectorModel.adds(II)Z -/
noncomputable def mt_264 : MTy := (⟨"PitInspectorModel", "adds", "(II)Z"⟩, prog_14_method_78_code, 7, some .boolean, 12, 12, 2, (0, 0), 2, [2028, 14, 2027, 87], cd_264)
noncomputable def cd_265 : List (Nat × Ins) := [(0, (15, 1, [0], [])), (1, (91, 4, [12, 67, 218], [])), (4, (11, 5, [1], [])), (5, (80, 6, [], [])), (6, (11, 7, [2], [])), (7, (67, 10, [28], [])), (10, (15, 11, [0], [])), (11, (91, 14, [12, 76, 227], [])), (14, (11, 15, [1], [])), (15, (80, 16, [], [])), (16, (1, 17, [], [1])), (17, (69, 20, [24], [])), (20, (1, 21, [], [1])), (21, (73, 24, [53], [])), (24, (1, 25, [], [0])), (25, (73, 28, [53], [])), (28, (15, 29, [0], [])), (29, (91, 32, [12, 68, 219], [])), (32, (11, 33, [1], [])), (33, (80, 34, [], [])), (34, (11, 35, [2], [])), (35, (67, 38, [52], [])), (38, (15, 39, [0], [])), (39, (91, 42, [12, 76, 227], [])), (42, (11, 43, [1], [])), (43, (80, 44, [], [])), (44, (1, 45, [], [-1])), (45, (71, 48, [52], [])), (48, (1, 49, [], [1])), (49, (73, 52, [53], [])), (52, (1, 53, [], [0])), (53, (110, 54, [], []))]
/-- PitInspectorModel.canGo(II)Z -/
noncomputable def mt_265 : MTy := (⟨"PitInspectorModel", "canGo", "(II)Z"⟩, prog_14_method_77_code, 3, some .boolean, 12, 12, 2, (0, 0), 2, [2032, 14, 2031, 88], cd_265)
noncomputable def cd_266 : List (Nat × Ins) := [(0, (1, 1, [], [-1])), (1, (17, 2, [2], [])), (2, (1, 3, [], [0])), (3, (17, 4, [3], [])), (4, (11, 5, [3], [])), (5, (15, 6, [0], [])), (6, (90, 9, [12, 10, 283], [])), (9, (69, 12, [56], [])), (12, (15, 13, [0], [])), (13, (91, 16, [12, 85, 236], [])), (16, (11, 17, [3], [])), (17, (80, 18, [], [])), (18, (11, 19, [1], [])), (19, (66, 22, [25], [])), (22, (73, 25, [50], [])), (25, (15, 26, [0], [])), (26, (11, 27, [3], [])), (27, (100, 30, [267, 2, 371], [])), (30, (16, 32, [4], [])), (32, (11, 33, [2], [])), (33, (1, 34, [], [-1])), (34, (66, 37, [43], [])), (37, (10, 39, [4], [])), (39, (11, 40, [2], [])), (40, (69, 43, [48], [])), (43, (10, 45, [4], [])), (45, (73, 48, [49], [])), (48, (11, 49, [2], [])), (49, (17, 50, [2], [])), (50, (22, 53, [3], [1])), (53, (73, 56, [4], [])), (56, (11, 57, [2], [])), (57, (1, 58, [], [-1])), (58, (67, 61, [67], [])), (61, (5, 64, [8], [99999])), (64, (73, 67, [68], [])), (67, (11, 68, [2], [])), (68, (110, 69, [], []))]
/-- PitInspectorModel.nearestOfPit(I)I -/
noncomputable def mt_266 : MTy := (⟨"PitInspectorModel", "nearestOfPit", "(I)I"⟩, prog_14_method_97_code, 5, some .int, 12, 12, 1, (0, 0), 1, [2036, 14, 2035, 89], cd_266)
noncomputable def cd_267 : List (Nat × Ins) := [(0, (1, 1, [], [-1])), (1, (17, 2, [2], [])), (2, (1, 3, [], [0])), (3, (17, 4, [3], [])), (4, (11, 5, [3], [])), (5, (15, 6, [0], [])), (6, (90, 9, [12, 9, 282], [])), (9, (69, 12, [45], [])), (12, (15, 13, [0], [])), (13, (11, 14, [1], [])), (14, (11, 15, [3], [])), (15, (1, 16, [], [0])), (16, (100, 19, [268, 4, 370], [])), (19, (16, 21, [4], [])), (21, (11, 22, [2], [])), (22, (1, 23, [], [-1])), (23, (66, 26, [32], [])), (26, (10, 28, [4], [])), (28, (11, 29, [2], [])), (29, (69, 32, [37], [])), (32, (10, 34, [4], [])), (34, (73, 37, [38], [])), (37, (11, 38, [2], [])), (38, (17, 39, [2], [])), (39, (22, 42, [3], [1])), (42, (73, 45, [4], [])), (45, (11, 46, [2], [])), (46, (1, 47, [], [-1])), (47, (67, 50, [56], [])), (50, (5, 53, [8], [99999])), (53, (73, 56, [57], [])), (56, (11, 57, [2], [])), (57, (110, 58, [], []))]
/-- PitInspectorModel.nearestOfFace(I)I -/
noncomputable def mt_267 : MTy := (⟨"PitInspectorModel", "nearestOfFace", "(I)I"⟩, prog_14_method_96_code, 5, some .int, 12, 12, 1, (0, 0), 1, [2040, 14, 2039, 90], cd_267)
noncomputable def cd_268 : List (Nat × Ins) := [(0, (15, 1, [0], [])), (1, (15, 2, [0], [])), (2, (91, 5, [12, 86, 237], [])), (5, (11, 6, [1], [])), (6, (80, 7, [], [])), (7, (15, 8, [0], [])), (8, (91, 11, [12, 87, 238], [])), (11, (11, 12, [1], [])), (12, (80, 13, [], [])), (13, (15, 14, [0], [])), (14, (91, 17, [12, 88, 239], [])), (17, (11, 18, [1], [])), (18, (80, 19, [], [])), (19, (15, 20, [0], [])), (20, (91, 23, [12, 82, 233], [])), (23, (11, 24, [2], [])), (24, (80, 25, [], [])), (25, (15, 26, [0], [])), (26, (91, 29, [12, 83, 234], [])), (29, (11, 30, [2], [])), (30, (80, 31, [], [])), (31, (15, 32, [0], [])), (32, (91, 35, [12, 84, 235], [])), (35, (11, 36, [2], [])), (36, (80, 37, [], [])), (37, (100, 40, [269, 7, 368], [])), (40, (16, 42, [4], [])), (42, (15, 43, [0], [])), (43, (15, 44, [0], [])), (44, (91, 47, [12, 86, 237], [])), (47, (11, 48, [1], [])), (48, (80, 49, [], [])), (49, (15, 50, [0], [])), (50, (91, 53, [12, 82, 233], [])), (53, (11, 54, [2], [])), (54, (80, 55, [], [])), (55, (100, 58, [273, 3, 369], [])), (58, (16, 60, [5], [])), (60, (11, 61, [3], [])), (61, (1, 62, [], [1])), (62, (67, 65, [73], [])), (65, (10, 67, [4], [])), (67, (10, 69, [5], [])), (69, (30, 70, [], [])), (70, (73, 73, [89], [])), (73, (10, 75, [4], [])), (75, (10, 77, [5], [])), (77, (71, 80, [88], [])), (80, (10, 82, [4], [])), (82, (10, 84, [5], [])), (84, (31, 85, [], [])), (85, (73, 88, [89], [])), (88, (1, 89, [], [0])), (89, (110, 90, [], []))]
/-- PitInspectorModel.yardsOf(III)I -/
noncomputable def mt_268 : MTy := (⟨"PitInspectorModel", "yardsOf", "(III)I"⟩, prog_14_method_94_code, 6, some .int, 12, 12, 1, (0, 0), 3, [2044, 14, 2043, 91], cd_268)
noncomputable def cd_269 : List (Nat × Ins) := [(0, (15, 1, [0], [])), (1, (11, 2, [1], [])), (2, (11, 3, [2], [])), (3, (11, 4, [3], [])), (4, (100, 7, [270, 4, 365], [])), (7, (15, 8, [0], [])), (8, (10, 10, [4], [])), (10, (10, 12, [5], [])), (12, (10, 14, [6], [])), (14, (100, 17, [270, 4, 365], [])), (17, (31, 18, [], [])), (18, (102, 21, [271, 1, 366], [])), (21, (16, 23, [7], [])), (23, (15, 24, [0], [])), (24, (11, 25, [1], [])), (25, (11, 26, [2], [])), (26, (11, 27, [3], [])), (27, (100, 30, [272, 4, 367], [])), (30, (15, 31, [0], [])), (31, (10, 33, [4], [])), (33, (10, 35, [5], [])), (35, (10, 37, [6], [])), (37, (100, 40, [272, 4, 367], [])), (40, (31, 41, [], [])), (41, (102, 44, [271, 1, 366], [])), (44, (16, 46, [8], [])), (46, (10, 48, [7], [])), (48, (10, 50, [8], [])), (50, (71, 53, [58], [])), (53, (10, 55, [7], [])), (55, (73, 58, [60], [])), (58, (10, 60, [8], [])), (60, (110, 61, [], []))]
/-- PitInspectorModel.far(IIIIII)I -/
noncomputable def mt_269 : MTy := (⟨"PitInspectorModel", "far", "(IIIIII)I"⟩, prog_14_method_92_code, 9, some .int, 12, 12, 1, (0, 0), 6, [2048, 14, 2047, 92], cd_269)
noncomputable def cd_270 : List (Nat × Ins) := [(0, (15, 1, [0], [])), (1, (91, 4, [12, 80, 231], [])), (4, (11, 5, [1], [])), (5, (80, 6, [], [])), (6, (15, 7, [0], [])), (7, (91, 10, [12, 79, 230], [])), (10, (11, 11, [1], [])), (11, (80, 12, [], [])), (12, (61, 15, [19], [])), (15, (11, 16, [2], [])), (16, (73, 19, [50], [])), (19, (15, 20, [0], [])), (20, (91, 23, [12, 79, 230], [])), (23, (11, 24, [1], [])), (24, (80, 25, [], [])), (25, (1, 26, [], [1])), (26, (67, 29, [34], [])), (29, (11, 30, [3], [])), (30, (35, 31, [], [])), (31, (73, 34, [50], [])), (34, (15, 35, [0], [])), (35, (91, 38, [12, 79, 230], [])), (38, (11, 39, [1], [])), (39, (80, 40, [], [])), (40, (1, 41, [], [2])), (41, (67, 44, [49], [])), (44, (11, 45, [2], [])), (45, (35, 46, [], [])), (46, (73, 49, [50], [])), (49, (11, 50, [3], [])), (50, (30, 51, [], [])), (51, (110, 52, [], []))]
/-- PitInspectorModel.trueX(III)I -/
noncomputable def mt_270 : MTy := (⟨"PitInspectorModel", "trueX", "(III)I"⟩, prog_14_method_90_code, 4, some .int, 12, 12, 1, (0, 0), 3, [2052, 14, 2051, 93], cd_270)
noncomputable def cd_271 : List (Nat × Ins) := [(0, (11, 1, [0], [])), (1, (63, 4, [9], [])), (4, (11, 5, [0], [])), (5, (35, 6, [], [])), (6, (73, 9, [10], [])), (9, (11, 10, [0], [])), (10, (110, 11, [], []))]
/-- PitInspectorModel.size(I)I -/
noncomputable def mt_271 : MTy := (⟨"PitInspectorModel", "size", "(I)I"⟩, prog_14_method_4_code, 1, some .int, 12, 50, 1, (0, 0), 1, [2055, 14, 2054, 0], cd_271)
noncomputable def cd_272 : List (Nat × Ins) := [(0, (15, 1, [0], [])), (1, (91, 4, [12, 81, 232], [])), (4, (11, 5, [1], [])), (5, (80, 6, [], [])), (6, (15, 7, [0], [])), (7, (91, 10, [12, 79, 230], [])), (10, (11, 11, [1], [])), (11, (80, 12, [], [])), (12, (61, 15, [19], [])), (15, (11, 16, [3], [])), (16, (73, 19, [50], [])), (19, (15, 20, [0], [])), (20, (91, 23, [12, 79, 230], [])), (23, (11, 24, [1], [])), (24, (80, 25, [], [])), (25, (1, 26, [], [1])), (26, (67, 29, [33], [])), (29, (11, 30, [2], [])), (30, (73, 33, [50], [])), (33, (15, 34, [0], [])), (34, (91, 37, [12, 79, 230], [])), (37, (11, 38, [1], [])), (38, (80, 39, [], [])), (39, (1, 40, [], [2])), (40, (67, 43, [48], [])), (43, (11, 44, [3], [])), (44, (35, 45, [], [])), (45, (73, 48, [50], [])), (48, (11, 49, [2], [])), (49, (35, 50, [], [])), (50, (30, 51, [], [])), (51, (110, 52, [], []))]
/-- PitInspectorModel.trueY(III)I -/
noncomputable def mt_272 : MTy := (⟨"PitInspectorModel", "trueY", "(III)I"⟩, prog_14_method_91_code, 4, some .int, 12, 12, 1, (0, 0), 3, [2059, 14, 2058, 94], cd_272)
noncomputable def cd_273 : List (Nat × Ins) := [(0, (11, 1, [1], [])), (1, (11, 2, [2], [])), (2, (67, 5, [14], [])), (5, (15, 6, [0], [])), (6, (91, 9, [12, 78, 229], [])), (9, (11, 10, [1], [])), (10, (80, 11, [], [])), (11, (73, 14, [27], [])), (14, (15, 15, [0], [])), (15, (91, 18, [12, 78, 229], [])), (18, (11, 19, [1], [])), (19, (80, 20, [], [])), (20, (15, 21, [0], [])), (21, (91, 24, [12, 78, 229], [])), (24, (11, 25, [2], [])), (25, (80, 26, [], [])), (26, (30, 27, [], [])), (27, (110, 28, [], []))]
/-- PitInspectorModel.doubt(II)I -/
noncomputable def mt_273 : MTy := (⟨"PitInspectorModel", "doubt", "(II)I"⟩, prog_14_method_93_code, 3, some .int, 12, 12, 1, (0, 0), 2, [2063, 14, 2062, 95], cd_273)
noncomputable def cd_274 : List (Nat × Ins) := [(0, (1, 1, [], [0])), (1, (17, 2, [2], [])), (2, (1, 3, [], [0])), (3, (17, 4, [3], [])), (4, (11, 5, [3], [])), (5, (15, 6, [0], [])), (6, (90, 9, [12, 4, 264], [])), (9, (69, 12, [61], [])), (12, (11, 13, [2], [])), (13, (15, 14, [0], [])), (14, (91, 17, [12, 28, 190], [])), (17, (11, 18, [3], [])), (18, (80, 19, [], [])), (19, (11, 20, [1], [])), (20, (67, 23, [52], [])), (23, (15, 24, [0], [])), (24, (91, 27, [12, 30, 192], [])), (27, (11, 28, [3], [])), (28, (80, 29, [], [])), (29, (1, 30, [], [-1])), (30, (66, 33, [52], [])), (33, (15, 34, [0], [])), (34, (91, 37, [12, 96, 247], [])), (37, (15, 38, [0], [])), (38, (91, 41, [12, 30, 192], [])), (41, (11, 42, [3], [])), (42, (80, 43, [], [])), (43, (80, 44, [], [])), (44, (1, 45, [], [-1])), (45, (66, 48, [52], [])), (48, (1, 49, [], [1])), (49, (73, 52, [53], [])), (52, (1, 53, [], [0])), (53, (30, 54, [], [])), (54, (17, 55, [2], [])), (55, (22, 58, [3], [1])), (58, (73, 61, [4], [])), (61, (11, 62, [2], [])), (62, (110, 63, [], []))]
/-- PitInspectorModel.lampsOut(I)I -/
noncomputable def mt_274 : MTy := (⟨"PitInspectorModel", "lampsOut", "(I)I"⟩, prog_14_method_44_code, 4, some .int, 12, 12, 1, (0, 0), 1, [2067, 14, 2066, 96], cd_274)
noncomputable def cd_275 : List (Nat × Ins) := [(0, (1, 1, [], [0])), (1, (17, 2, [2], [])), (2, (1, 3, [], [0])), (3, (17, 4, [3], [])), (4, (11, 5, [3], [])), (5, (15, 6, [0], [])), (6, (90, 9, [12, 14, 277], [])), (9, (69, 12, [58], [])), (12, (11, 13, [2], [])), (13, (15, 14, [0], [])), (14, (91, 17, [12, 28, 190], [])), (17, (15, 18, [0], [])), (18, (91, 21, [12, 98, 249], [])), (21, (11, 22, [3], [])), (22, (80, 23, [], [])), (23, (80, 24, [], [])), (24, (11, 25, [1], [])), (25, (67, 28, [49], [])), (28, (15, 29, [0], [])), (29, (91, 32, [12, 99, 250], [])), (32, (11, 33, [3], [])), (33, (80, 34, [], [])), (34, (15, 35, [0], [])), (35, (90, 38, [12, 2, 262], [])), (38, (3, 41, [], [1440])), (41, (31, 42, [], [])), (42, (71, 45, [49], [])), (45, (1, 46, [], [1])), (46, (73, 49, [50], [])), (49, (1, 50, [], [0])), (50, (30, 51, [], [])), (51, (17, 52, [2], [])), (52, (22, 55, [3], [1])), (55, (73, 58, [4], [])), (58, (11, 59, [2], [])), (59, (110, 60, [], []))]
/-- PitInspectorModel.shotsSince(I)I -/
noncomputable def mt_275 : MTy := (⟨"PitInspectorModel", "shotsSince", "(I)I"⟩, prog_14_method_45_code, 4, some .int, 12, 12, 1, (0, 0), 1, [2071, 14, 2070, 97], cd_275)
noncomputable def cd_276 : List (Nat × Ins) := [(0, (15, 1, [0], [])), (1, (11, 2, [1], [])), (2, (100, 5, [212, 2, 305], [])), (5, (60, 8, [17], [])), (8, (15, 9, [0], [])), (9, (11, 10, [1], [])), (10, (1, 11, [], [-1])), (11, (100, 14, [277, 3, 347], [])), (14, (73, 17, [18], [])), (17, (1, 18, [], [-1])), (18, (110, 19, [], []))]
/-- PitInspectorModel.broken(I)I -/
noncomputable def mt_276 : MTy := (⟨"PitInspectorModel", "broken", "(I)I"⟩, prog_14_method_53_code, 2, some .int, 12, 12, 1, (0, 0), 1, [2075, 14, 2073, 2187], cd_276)
noncomputable def cd_277 : List (Nat × Ins) := [(0, (15, 1, [0], [])), (1, (11, 2, [1], [])), (2, (100, 5, [242, 2, 333], [])), (5, (15, 6, [0], [])), (6, (11, 7, [1], [])), (7, (100, 10, [247, 2, 345], [])), (10, (1, 11, [], [0])), (11, (17, 12, [3], [])), (12, (1, 13, [], [0])), (13, (16, 15, [4], [])), (15, (10, 17, [4], [])), (17, (2, 19, [], [12])), (19, (15, 20, [0], [])), (20, (90, 23, [12, 5, 269], [])), (23, (32, 24, [], [])), (24, (69, 27, [132], [])), (27, (15, 28, [0], [])), (28, (10, 30, [4], [])), (30, (11, 31, [1], [])), (31, (100, 34, [245, 3, 334], [])), (34, (60, 37, [126], [])), (37, (15, 38, [0], [])), (38, (91, 41, [12, 36, 198], [])), (41, (10, 43, [4], [])), (43, (80, 44, [], [])), (44, (2, 46, [], [100])), (46, (66, 49, [64], [])), (49, (15, 50, [0], [])), (50, (91, 53, [12, 36, 198], [])), (53, (10, 55, [4], [])), (55, (80, 56, [], [])), (56, (2, 58, [], [110])), (58, (66, 61, [64], [])), (61, (73, 64, [126], [])), (64, (15, 65, [0], [])), (65, (10, 67, [4], [])), (67, (100, 70, [248, 2, 346], [])), (70, (16, 72, [5], [])), (72, (10, 74, [5], [])), (74, (1, 75, [], [2])), (75, (66, 78, [112], [])), (78, (10, 80, [5], [])), (80, (1, 81, [], [1])), (81, (67, 84, [88], [])), (84, (1, 85, [], [1])), (85, (73, 88, [89], [])), (88, (1, 89, [], [0])), (89, (15, 90, [0], [])), (90, (91, 93, [12, 36, 198], [])), (93, (10, 95, [4], [])), (95, (80, 96, [], [])), (96, (2, 98, [], [100])), (98, (67, 101, [105], [])), (101, (1, 102, [], [1])), (102, (73, 105, [106], [])), (105, (1, 106, [], [0])), (106, (67, 109, [112], [])), (109, (73, 112, [126], [])), (112, (11, 113, [3], [])), (113, (11, 114, [2], [])), (114, (67, 117, [123], [])), (117, (15, 118, [0], [])), (118, (10, 120, [4], [])), (120, (92, 123, [12, 61, 278], [])), (123, (22, 126, [3], [1])), (126, (22, 129, [4], [1])), (129, (73, 132, [15], [])), (132, (11, 133, [3], [])), (133, (110, 134, [], []))]
/-- PitInspectorModel.breaks(II)I -/
noncomputable def mt_277 : MTy := (⟨"PitInspectorModel", "breaks", "(II)I"⟩, prog_14_method_52_code, 6, some .int, 12, 12, 1, (0, 0), 2, [2079, 14, 2078, 98], cd_277)
noncomputable def cd_278 : List (Nat × Ins) := [(0, (15, 1, [0], [])), (1, (11, 2, [1], [])), (2, (100, 5, [212, 2, 305], [])), (5, (60, 8, [22], [])), (8, (11, 9, [2], [])), (9, (62, 12, [22], [])), (12, (15, 13, [0], [])), (13, (11, 14, [1], [])), (14, (11, 15, [2], [])), (15, (100, 18, [277, 3, 347], [])), (18, (11, 19, [2], [])), (19, (70, 22, [24], [])), (22, (1, 23, [], [-1])), (23, (110, 24, [], [])), (24, (11, 25, [3], [])), (25, (61, 28, [38], [])), (28, (15, 29, [0], [])), (29, (90, 32, [12, 61, 278], [])), (32, (2, 34, [], [12])), (34, (33, 35, [], [])), (35, (73, 38, [54], [])), (38, (11, 39, [3], [])), (39, (1, 40, [], [1])), (40, (67, 43, [53], [])), (43, (15, 44, [0], [])), (44, (90, 47, [12, 61, 278], [])), (47, (2, 49, [], [12])), (49, (34, 50, [], [])), (50, (73, 53, [54], [])), (53, (1, 54, [], [-1])), (54, (110, 55, [], []))]
/-- PitInspectorModel.brokenAt(III)I -/
noncomputable def mt_278 : MTy := (⟨"PitInspectorModel", "brokenAt", "(III)I"⟩, prog_14_method_54_code, 4, some .int, 12, 12, 1, (0, 0), 3, [2083, 14, 2081, 2195], cd_278)
noncomputable def cd_279 : List (Nat × Ins) := [(0, (15, 1, [0], [])), (1, (11, 2, [1], [])), (2, (100, 5, [212, 2, 305], [])), (5, (61, 8, [12], [])), (8, (7, 11, [11], [-1])), (11, (111, 12, [], [])), (12, (6, 13, [], [0])), (13, (19, 14, [2], [])), (14, (15, 15, [0], [])), (15, (11, 16, [1], [])), (16, (1, 17, [], [-1])), (17, (100, 20, [277, 3, 347], [])), (20, (16, 22, [4], [])), (22, (1, 23, [], [0])), (23, (16, 25, [5], [])), (25, (10, 27, [5], [])), (27, (10, 29, [4], [])), (29, (69, 32, [63], [])), (32, (15, 33, [0], [])), (33, (11, 34, [1], [])), (34, (10, 36, [5], [])), (36, (100, 39, [277, 3, 347], [])), (39, (16, 41, [6], [])), (41, (13, 42, [2], [])), (42, (15, 43, [0], [])), (43, (15, 44, [0], [])), (44, (90, 47, [12, 61, 278], [])), (47, (2, 49, [], [12])), (49, (33, 50, [], [])), (50, (11, 51, [1], [])), (51, (100, 54, [280, 3, 348], [])), (54, (42, 55, [], [])), (55, (46, 56, [], [])), (56, (19, 57, [2], [])), (57, (22, 60, [5], [1])), (60, (73, 63, [25], [])), (63, (13, 64, [2], [])), (64, (111, 65, [], []))]
/-- PitInspectorModel.fine(I)J -/
noncomputable def mt_279 : MTy := (⟨"PitInspectorModel", "fine", "(I)J"⟩, prog_14_method_56_code, 7, some .long, 12, 12, 3, (0, 0), 1, [2087, 14, 2085, 2199], cd_279)
noncomputable def cd_280 : List (Nat × Ins) := [(0, (1, 1, [], [0])), (1, (17, 2, [3], [])), (2, (2, 4, [], [12])), (4, (11, 5, [1], [])), (5, (32, 6, [], [])), (6, (16, 8, [4], [])), (8, (10, 10, [4], [])), (10, (2, 12, [], [12])), (12, (11, 13, [1], [])), (13, (32, 14, [], [])), (14, (2, 16, [], [12])), (16, (30, 17, [], [])), (17, (69, 20, [56], [])), (20, (15, 21, [0], [])), (21, (10, 23, [4], [])), (23, (11, 24, [2], [])), (24, (100, 27, [245, 3, 334], [])), (27, (60, 30, [50], [])), (30, (15, 31, [0], [])), (31, (91, 34, [12, 36, 198], [])), (34, (10, 36, [4], [])), (36, (80, 37, [], [])), (37, (2, 39, [], [102])), (39, (67, 42, [50], [])), (42, (15, 43, [0], [])), (43, (91, 46, [12, 37, 199], [])), (46, (10, 48, [4], [])), (48, (80, 49, [], [])), (49, (17, 50, [3], [])), (50, (22, 53, [4], [1])), (53, (73, 56, [8], [])), (56, (11, 57, [3], [])), (57, (110, 58, [], []))]
/-- PitInspectorModel.fineOf(II)I -/
noncomputable def mt_280 : MTy := (⟨"PitInspectorModel", "fineOf", "(II)I"⟩, prog_14_method_55_code, 5, some .int, 12, 12, 1, (0, 0), 2, [2092, 14, 2091, 99], cd_280)
noncomputable def cd_281 : List (Nat × Ins) := [(0, (15, 1, [0], [])), (1, (11, 2, [1], [])), (2, (100, 5, [241, 2, 332], [])), (5, (60, 8, [18], [])), (8, (15, 9, [0], [])), (9, (91, 12, [12, 31, 193], [])), (12, (11, 13, [1], [])), (13, (80, 14, [], [])), (14, (1, 15, [], [-1])), (15, (67, 18, [20], [])), (18, (1, 19, [], [-1])), (19, (110, 20, [], [])), (20, (2, 22, [], [12])), (22, (11, 23, [1], [])), (23, (32, 24, [], [])), (24, (17, 25, [2], [])), (25, (11, 26, [2], [])), (26, (2, 28, [], [12])), (28, (11, 29, [1], [])), (29, (32, 30, [], [])), (30, (15, 31, [0], [])), (31, (91, 34, [12, 34, 196], [])), (34, (11, 35, [1], [])), (35, (80, 36, [], [])), (36, (30, 37, [], [])), (37, (69, 40, [116], [])), (40, (1, 41, [], [0])), (41, (17, 42, [3], [])), (42, (11, 43, [3], [])), (43, (2, 45, [], [12])), (45, (15, 46, [0], [])), (46, (90, 49, [12, 5, 269], [])), (49, (32, 50, [], [])), (50, (69, 53, [110], [])), (53, (11, 54, [3], [])), (54, (2, 56, [], [12])), (56, (33, 57, [], [])), (57, (16, 59, [4], [])), (59, (11, 60, [3], [])), (60, (2, 62, [], [12])), (62, (34, 63, [], [])), (63, (15, 64, [0], [])), (64, (91, 67, [12, 34, 196], [])), (67, (10, 69, [4], [])), (69, (80, 70, [], [])), (70, (69, 73, [104], [])), (73, (15, 74, [0], [])), (74, (91, 77, [12, 31, 193], [])), (77, (10, 79, [4], [])), (79, (80, 80, [], [])), (80, (1, 81, [], [-1])), (81, (67, 84, [104], [])), (84, (15, 85, [0], [])), (85, (10, 87, [4], [])), (87, (100, 90, [244, 2, 330], [])), (90, (60, 93, [104], [])), (93, (15, 94, [0], [])), (94, (11, 95, [2], [])), (95, (11, 96, [3], [])), (96, (100, 99, [282, 3, 350], [])), (99, (60, 102, [104], [])), (102, (1, 103, [], [0])), (103, (110, 104, [], [])), (104, (22, 107, [3], [1])), (107, (73, 110, [42], [])), (110, (22, 113, [2], [1])), (113, (73, 116, [25], [])), (116, (1, 117, [], [1])), (117, (110, 118, [], []))]
/-- PitInspectorModel.within(I)I -/
noncomputable def mt_281 : MTy := (⟨"PitInspectorModel", "within", "(I)I"⟩, prog_14_method_59_code, 5, some .int, 12, 12, 1, (0, 0), 1, [2096, 14, 2094, 2208], cd_281)
noncomputable def cd_282 : List (Nat × Ins) := [(0, (15, 1, [0], [])), (1, (91, 4, [12, 36, 198], [])), (4, (11, 5, [1], [])), (5, (80, 6, [], [])), (6, (2, 8, [], [100])), (8, (67, 11, [22], [])), (11, (15, 12, [0], [])), (12, (91, 15, [12, 36, 198], [])), (15, (11, 16, [2], [])), (16, (80, 17, [], [])), (17, (2, 19, [], [110])), (19, (66, 22, [44], [])), (22, (15, 23, [0], [])), (23, (91, 26, [12, 36, 198], [])), (26, (11, 27, [1], [])), (27, (80, 28, [], [])), (28, (2, 30, [], [110])), (30, (67, 33, [48], [])), (33, (15, 34, [0], [])), (34, (91, 37, [12, 36, 198], [])), (37, (11, 38, [2], [])), (38, (80, 39, [], [])), (39, (2, 41, [], [100])), (41, (67, 44, [48], [])), (44, (1, 45, [], [1])), (45, (73, 48, [49], [])), (48, (1, 49, [], [0])), (49, (17, 50, [3], [])), (50, (11, 51, [3], [])), (51, (60, 54, [67], [])), (54, (15, 55, [0], [])), (55, (11, 56, [1], [])), (56, (11, 57, [2], [])), (57, (100, 60, [283, 3, 349], [])), (60, (60, 63, [67], [])), (63, (1, 64, [], [1])), (64, (73, 67, [68], [])), (67, (1, 68, [], [0])), (68, (110, 69, [], []))]
/-- PitInspectorModel.isAgainst(II)Z -/
noncomputable def mt_282 : MTy := (⟨"PitInspectorModel", "isAgainst", "(II)Z"⟩, prog_14_method_58_code, 4, some .boolean, 12, 12, 2, (0, 0), 2, [2100, 14, 2099, 100], cd_282)
noncomputable def cd_283 : List (Nat × Ins) := [(0, (15, 1, [0], [])), (1, (91, 4, [12, 40, 202], [])), (4, (11, 5, [1], [])), (5, (80, 6, [], [])), (6, (15, 7, [0], [])), (7, (91, 10, [12, 39, 201], [])), (10, (11, 11, [1], [])), (11, (80, 12, [], [])), (12, (31, 13, [], [])), (13, (17, 14, [3], [])), (14, (15, 15, [0], [])), (15, (91, 18, [12, 40, 202], [])), (18, (11, 19, [2], [])), (19, (80, 20, [], [])), (20, (15, 21, [0], [])), (21, (91, 24, [12, 39, 201], [])), (24, (11, 25, [2], [])), (25, (80, 26, [], [])), (26, (31, 27, [], [])), (27, (11, 28, [3], [])), (28, (66, 31, [33], [])), (31, (1, 32, [], [0])), (32, (110, 33, [], [])), (33, (1, 34, [], [0])), (34, (16, 36, [4], [])), (36, (10, 38, [4], [])), (38, (11, 39, [3], [])), (39, (69, 42, [99], [])), (42, (15, 43, [0], [])), (43, (91, 46, [12, 35, 197], [])), (46, (11, 47, [1], [])), (47, (2, 49, [], [12])), (49, (33, 50, [], [])), (50, (3, 53, [], [160])), (53, (32, 54, [], [])), (54, (15, 55, [0], [])), (55, (91, 58, [12, 39, 201], [])), (58, (11, 59, [1], [])), (59, (80, 60, [], [])), (60, (30, 61, [], [])), (61, (10, 63, [4], [])), (63, (30, 64, [], [])), (64, (81, 65, [], [])), (65, (15, 66, [0], [])), (66, (91, 69, [12, 35, 197], [])), (69, (11, 70, [2], [])), (70, (2, 72, [], [12])), (72, (33, 73, [], [])), (73, (3, 76, [], [160])), (76, (32, 77, [], [])), (77, (15, 78, [0], [])), (78, (91, 81, [12, 39, 201], [])), (81, (11, 82, [2], [])), (82, (80, 83, [], [])), (83, (30, 84, [], [])), (84, (10, 86, [4], [])), (86, (30, 87, [], [])), (87, (81, 88, [], [])), (88, (66, 91, [93], [])), (91, (1, 92, [], [0])), (92, (110, 93, [], [])), (93, (22, 96, [4], [1])), (96, (73, 99, [36], [])), (99, (1, 100, [], [1])), (100, (110, 101, [], []))]
/-- PitInspectorModel.areAlike(II)Z -/
noncomputable def mt_283 : MTy := (⟨"PitInspectorModel", "areAlike", "(II)Z"⟩, prog_14_method_57_code, 5, some .boolean, 12, 12, 2, (0, 0), 2, [2104, 14, 2103, 101], cd_283)
noncomputable def cd_284 : List (Nat × Ins) := [(0, (15, 1, [0], [])), (1, (90, 4, [12, 6, 279], [])), (4, (2, 6, [], [80])), (6, (66, 9, [17], [])), (9, (15, 10, [0], [])), (10, (11, 11, [1], [])), (11, (100, 14, [212, 2, 305], [])), (14, (61, 17, [19], [])), (17, (1, 18, [], [-1])), (18, (110, 19, [], [])), (19, (15, 20, [0], [])), (20, (91, 23, [12, 62, 213], [])), (23, (15, 24, [0], [])), (24, (90, 27, [12, 6, 279], [])), (27, (11, 28, [1], [])), (28, (84, 29, [], [])), (29, (15, 30, [0], [])), (30, (91, 33, [12, 63, 214], [])), (33, (11, 34, [1], [])), (34, (80, 35, [], [])), (35, (1, 36, [], [-1])), (36, (67, 39, [49], [])), (39, (15, 40, [0], [])), (40, (91, 43, [12, 63, 214], [])), (43, (11, 44, [1], [])), (44, (15, 45, [0], [])), (45, (90, 48, [12, 6, 279], [])), (48, (84, 49, [], [])), (49, (15, 50, [0], [])), (50, (56, 51, [], [])), (51, (90, 54, [12, 6, 279], [])), (54, (1, 55, [], [1])), (55, (30, 56, [], [])), (56, (92, 59, [12, 6, 279], [])), (59, (15, 60, [0], [])), (60, (90, 63, [12, 6, 279], [])), (63, (1, 64, [], [1])), (64, (31, 65, [], [])), (65, (110, 66, [], []))]
/-- PitInspectorModel.place(I)I -/
noncomputable def mt_284 : MTy := (⟨"PitInspectorModel", "place", "(I)I"⟩, prog_14_method_62_code, 2, some .int, 12, 12, 1, (0, 0), 1, [2108, 14, 2106, 2220], cd_284)
noncomputable def cd_285 : List (Nat × Ins) := [(0, (15, 1, [0], [])), (1, (90, 4, [12, 7, 280], [])), (4, (3, 7, [], [150])), (7, (66, 10, [58], [])), (10, (15, 11, [0], [])), (11, (11, 12, [1], [])), (12, (100, 15, [286, 2, 351], [])), (15, (60, 18, [58], [])), (18, (15, 19, [0], [])), (19, (11, 20, [2], [])), (20, (100, 23, [286, 2, 351], [])), (23, (60, 26, [58], [])), (26, (11, 27, [1], [])), (27, (11, 28, [2], [])), (28, (66, 31, [58], [])), (31, (15, 32, [0], [])), (32, (91, 35, [12, 62, 213], [])), (35, (11, 36, [1], [])), (36, (80, 37, [], [])), (37, (15, 38, [0], [])), (38, (91, 41, [12, 62, 213], [])), (41, (11, 42, [2], [])), (42, (80, 43, [], [])), (43, (67, 46, [58], [])), (46, (11, 47, [3], [])), (47, (42, 48, [], [])), (48, (6, 49, [], [1])), (49, (7, 52, [5], [100])), (52, (102, 55, [209, 3, 304], [])), (55, (61, 58, [60], [])), (58, (1, 59, [], [-1])), (59, (110, 60, [], [])), (60, (15, 61, [0], [])), (61, (91, 64, [12, 67, 218], [])), (64, (15, 65, [0], [])), (65, (90, 68, [12, 7, 280], [])), (68, (11, 69, [1], [])), (69, (84, 70, [], [])), (70, (15, 71, [0], [])), (71, (91, 74, [12, 68, 219], [])), (74, (15, 75, [0], [])), (75, (90, 78, [12, 7, 280], [])), (78, (11, 79, [2], [])), (79, (84, 80, [], [])), (80, (15, 81, [0], [])), (81, (91, 84, [12, 69, 220], [])), (84, (15, 85, [0], [])), (85, (90, 88, [12, 7, 280], [])), (88, (11, 89, [3], [])), (89, (84, 90, [], [])), (90, (15, 91, [0], [])), (91, (91, 94, [12, 70, 221], [])), (94, (15, 95, [0], [])), (95, (90, 98, [12, 7, 280], [])), (98, (10, 100, [4], [])), (100, (85, 101, [], [])), (101, (15, 102, [0], [])), (102, (91, 105, [12, 71, 222], [])), (105, (15, 106, [0], [])), (106, (90, 109, [12, 7, 280], [])), (109, (10, 111, [4], [])), (111, (61, 114, [118], [])), (114, (1, 115, [], [1])), (115, (73, 118, [119], [])), (118, (1, 119, [], [0])), (119, (85, 120, [], [])), (120, (15, 121, [0], [])), (121, (56, 122, [], [])), (122, (90, 125, [12, 7, 280], [])), (125, (1, 126, [], [1])), (126, (30, 127, [], [])), (127, (92, 130, [12, 7, 280], [])), (130, (15, 131, [0], [])), (131, (90, 134, [12, 7, 280], [])), (134, (1, 135, [], [1])), (135, (31, 136, [], [])), (136, (110, 137, [], []))]
/-- PitInspectorModel.road(IIIZ)I -/
noncomputable def mt_285 : MTy := (⟨"PitInspectorModel", "road", "(IIIZ)I"⟩, prog_14_method_63_code, 5, some .int, 12, 12, 1, (0, 0), 4, [2112, 14, 2110, 2224], cd_285)
noncomputable def cd_286 : List (Nat × Ins) := [(0, (11, 1, [1], [])), (1, (42, 2, [], [])), (2, (6, 3, [], [0])), (3, (15, 4, [0], [])), (4, (90, 7, [12, 6, 279], [])), (7, (1, 8, [], [1])), (8, (31, 9, [], [])), (9, (42, 10, [], [])), (10, (102, 13, [209, 3, 304], [])), (13, (110, 14, [], []))]
/-- PitInspectorModel.isPlace(I)Z -/
noncomputable def mt_286 : MTy := (⟨"PitInspectorModel", "isPlace", "(I)Z"⟩, prog_14_method_60_code, 2, some .boolean, 12, 12, 2, (0, 0), 1, [2116, 14, 2115, 102], cd_286)
noncomputable def cd_287 : List (Nat × Ins) := [(0, (15, 1, [0], [])), (1, (11, 2, [1], [])), (2, (100, 5, [288, 2, 352], [])), (5, (60, 8, [17], [])), (8, (15, 9, [0], [])), (9, (91, 12, [12, 70, 221], [])), (12, (11, 13, [1], [])), (13, (81, 14, [], [])), (14, (61, 17, [19], [])), (17, (1, 18, [], [0])), (18, (110, 19, [], [])), (19, (15, 20, [0], [])), (20, (91, 23, [12, 71, 222], [])), (23, (11, 24, [1], [])), (24, (11, 25, [2], [])), (25, (85, 26, [], [])), (26, (1, 27, [], [1])), (27, (110, 28, [], []))]
/-- PitInspectorModel.door(IZ)Z -/
noncomputable def mt_287 : MTy := (⟨"PitInspectorModel", "door", "(IZ)Z"⟩, prog_14_method_64_code, 3, some .boolean, 12, 12, 2, (0, 0), 2, [2120, 14, 2118, 2232], cd_287)
noncomputable def cd_288 : List (Nat × Ins) := [(0, (11, 1, [1], [])), (1, (42, 2, [], [])), (2, (6, 3, [], [0])), (3, (15, 4, [0], [])), (4, (90, 7, [12, 7, 280], [])), (7, (1, 8, [], [1])), (8, (31, 9, [], [])), (9, (42, 10, [], [])), (10, (102, 13, [209, 3, 304], [])), (13, (110, 14, [], []))]
/-- PitInspectorModel.isRoad(I)Z -/
noncomputable def mt_288 : MTy := (⟨"PitInspectorModel", "isRoad", "(I)Z"⟩, prog_14_method_61_code, 2, some .boolean, 12, 12, 2, (0, 0), 1, [2124, 14, 2123, 103], cd_288)
noncomputable def cd_289 : List (Nat × Ins) := [(0, (15, 1, [0], [])), (1, (11, 2, [1], [])), (2, (100, 5, [212, 2, 305], [])), (5, (60, 8, [62], [])), (8, (15, 9, [0], [])), (9, (11, 10, [2], [])), (10, (100, 13, [286, 2, 351], [])), (13, (60, 16, [62], [])), (16, (15, 17, [0], [])), (17, (11, 18, [3], [])), (18, (100, 21, [286, 2, 351], [])), (21, (60, 24, [62], [])), (24, (11, 25, [2], [])), (25, (11, 26, [3], [])), (26, (66, 29, [62], [])), (29, (15, 30, [0], [])), (30, (91, 33, [12, 62, 213], [])), (33, (11, 34, [2], [])), (34, (80, 35, [], [])), (35, (11, 36, [1], [])), (36, (67, 39, [62], [])), (39, (15, 40, [0], [])), (40, (91, 43, [12, 62, 213], [])), (43, (11, 44, [3], [])), (44, (80, 45, [], [])), (45, (11, 46, [1], [])), (46, (67, 49, [62], [])), (49, (10, 51, [4], [])), (51, (42, 52, [], [])), (52, (6, 53, [], [0])), (53, (7, 56, [12], [1000000])), (56, (102, 59, [209, 3, 304], [])), (59, (61, 62, [64], [])), (62, (1, 63, [], [0])), (63, (110, 64, [], [])), (64, (15, 65, [0], [])), (65, (91, 68, [12, 64, 215], [])), (68, (11, 69, [1], [])), (69, (11, 70, [2], [])), (70, (84, 71, [], [])), (71, (15, 72, [0], [])), (72, (91, 75, [12, 65, 216], [])), (75, (11, 76, [1], [])), (76, (11, 77, [3], [])), (77, (84, 78, [], [])), (78, (15, 79, [0], [])), (79, (91, 82, [12, 66, 217], [])), (82, (11, 83, [1], [])), (83, (10, 85, [4], [])), (85, (84, 86, [], [])), (86, (1, 87, [], [1])), (87, (110, 88, [], []))]
/-- PitInspectorModel.fan(IIII)Z -/
noncomputable def mt_289 : MTy := (⟨"PitInspectorModel", "fan", "(IIII)Z"⟩, prog_14_method_65_code, 5, some .boolean, 12, 12, 2, (0, 0), 4, [2128, 14, 2126, 2240], cd_289)
noncomputable def cd_290 : List (Nat × Ins) := [(0, (15, 1, [0], [])), (1, (11, 2, [1], [])), (2, (100, 5, [288, 2, 352], [])), (5, (61, 8, [10], [])), (8, (1, 9, [], [-1])), (9, (110, 10, [], [])), (10, (15, 11, [0], [])), (11, (15, 12, [0], [])), (12, (91, 15, [12, 62, 213], [])), (15, (15, 16, [0], [])), (16, (91, 19, [12, 67, 218], [])), (19, (11, 20, [1], [])), (20, (80, 21, [], [])), (21, (80, 22, [], [])), (22, (1, 23, [], [-1])), (23, (100, 26, [255, 3, 358], [])), (26, (15, 27, [0], [])), (27, (91, 30, [12, 75, 226], [])), (30, (11, 31, [1], [])), (31, (80, 32, [], [])), (32, (110, 33, [], []))]
/-- PitInspectorModel.air(I)I -/
noncomputable def mt_290 : MTy := (⟨"PitInspectorModel", "air", "(I)I"⟩, prog_14_method_72_code, 2, some .int, 12, 12, 1, (0, 0), 1, [2133, 14, 2131, 2245], cd_290)
noncomputable def cd_291 : List (Nat × Ins) := [(0, (15, 1, [0], [])), (1, (11, 2, [1], [])), (2, (100, 5, [212, 2, 305], [])), (5, (60, 8, [17], [])), (8, (15, 9, [0], [])), (9, (11, 10, [1], [])), (10, (1, 11, [], [-1])), (11, (100, 14, [254, 3, 336], [])), (14, (73, 17, [19], [])), (17, (2, 19, [], [-2])), (19, (110, 20, [], []))]
/-- PitInspectorModel.least(I)I -/
noncomputable def mt_291 : MTy := (⟨"PitInspectorModel", "least", "(I)I"⟩, prog_14_method_74_code, 2, some .int, 12, 12, 1, (0, 0), 1, [2137, 14, 2135, 2249], cd_291)
noncomputable def cd_292 : List (Nat × Ins) := [(0, (15, 1, [0], [])), (1, (11, 2, [1], [])), (2, (100, 5, [288, 2, 352], [])), (5, (60, 8, [36], [])), (8, (15, 9, [0], [])), (9, (91, 12, [12, 70, 221], [])), (12, (11, 13, [1], [])), (13, (81, 14, [], [])), (14, (60, 17, [36], [])), (17, (15, 18, [0], [])), (18, (15, 19, [0], [])), (19, (91, 22, [12, 62, 213], [])), (22, (15, 23, [0], [])), (23, (91, 26, [12, 67, 218], [])), (26, (11, 27, [1], [])), (27, (80, 28, [], [])), (28, (80, 29, [], [])), (29, (11, 30, [1], [])), (30, (100, 33, [254, 3, 336], [])), (33, (73, 36, [38], [])), (36, (2, 38, [], [-2])), (38, (110, 39, [], []))]
/-- PitInspectorModel.trial(I)I -/
noncomputable def mt_292 : MTy := (⟨"PitInspectorModel", "trial", "(I)I"⟩, prog_14_method_75_code, 2, some .int, 12, 12, 1, (0, 0), 1, [2141, 14, 2139, 2253], cd_292)
noncomputable def cd_293 : List (Nat × Ins) := [(0, (15, 1, [0], [])), (1, (11, 2, [1], [])), (2, (100, 5, [212, 2, 305], [])), (5, (61, 8, [10], [])), (8, (1, 9, [], [-1])), (9, (110, 10, [], [])), (10, (1, 11, [], [-1])), (11, (17, 12, [2], [])), (12, (1, 13, [], [0])), (13, (17, 14, [3], [])), (14, (1, 15, [], [0])), (15, (16, 17, [4], [])), (17, (10, 19, [4], [])), (19, (15, 20, [0], [])), (20, (90, 23, [12, 7, 280], [])), (23, (69, 26, [90], [])), (26, (15, 27, [0], [])), (27, (91, 30, [12, 70, 221], [])), (30, (10, 32, [4], [])), (32, (81, 33, [], [])), (33, (60, 36, [84], [])), (36, (15, 37, [0], [])), (37, (91, 40, [12, 62, 213], [])), (40, (15, 41, [0], [])), (41, (91, 44, [12, 67, 218], [])), (44, (10, 46, [4], [])), (46, (80, 47, [], [])), (47, (80, 48, [], [])), (48, (11, 49, [1], [])), (49, (66, 52, [55], [])), (52, (73, 55, [84], [])), (55, (15, 56, [0], [])), (56, (11, 57, [1], [])), (57, (10, 59, [4], [])), (59, (100, 62, [254, 3, 336], [])), (62, (16, 64, [5], [])), (64, (11, 65, [2], [])), (65, (1, 66, [], [-1])), (66, (66, 69, [78], [])), (69, (10, 71, [5], [])), (71, (11, 72, [3], [])), (72, (68, 75, [78], [])), (75, (73, 78, [84], [])), (78, (10, 80, [4], [])), (80, (17, 81, [2], [])), (81, (10, 83, [5], [])), (83, (17, 84, [3], [])), (84, (22, 87, [4], [1])), (87, (73, 90, [17], [])), (90, (11, 91, [2], [])), (91, (110, 92, [], []))]
/-- PitInspectorModel.worst(I)I -/
noncomputable def mt_293 : MTy := (⟨"PitInspectorModel", "worst", "(I)I"⟩, prog_14_method_76_code, 6, some .int, 12, 12, 1, (0, 0), 1, [2145, 14, 2143, 2257], cd_293)
noncomputable def cd_294 : List (Nat × Ins) := [(0, (15, 1, [0], [])), (1, (11, 2, [1], [])), (2, (100, 5, [286, 2, 351], [])), (5, (60, 8, [24], [])), (8, (15, 9, [0], [])), (9, (11, 10, [1], [])), (10, (100, 13, [262, 2, 361], [])), (13, (61, 16, [24], [])), (16, (15, 17, [0], [])), (17, (11, 18, [1], [])), (18, (100, 21, [263, 2, 362], [])), (21, (73, 24, [25], [])), (24, (1, 25, [], [-1])), (25, (110, 26, [], []))]
/-- PitInspectorModel.ways(I)I -/
noncomputable def mt_294 : MTy := (⟨"PitInspectorModel", "ways", "(I)I"⟩, prog_14_method_81_code, 2, some .int, 12, 12, 1, (0, 0), 1, [2149, 14, 2147, 2261], cd_294)
noncomputable def cd_295 : List (Nat × Ins) := [(0, (15, 1, [0], [])), (1, (11, 2, [1], [])), (2, (100, 5, [212, 2, 305], [])), (5, (60, 8, [16], [])), (8, (15, 9, [0], [])), (9, (11, 10, [1], [])), (10, (100, 13, [261, 2, 337], [])), (13, (73, 16, [18], [])), (16, (2, 18, [], [-2])), (18, (110, 19, [], []))]
/-- PitInspectorModel.fewest(I)I -/
noncomputable def mt_295 : MTy := (⟨"PitInspectorModel", "fewest", "(I)I"⟩, prog_14_method_83_code, 2, some .int, 12, 12, 1, (0, 0), 1, [2153, 14, 2151, 2265], cd_295)
noncomputable def cd_296 : List (Nat × Ins) := [(0, (15, 1, [0], [])), (1, (90, 4, [12, 8, 281], [])), (4, (2, 6, [], [15])), (6, (66, 9, [42], [])), (9, (11, 10, [1], [])), (10, (42, 11, [], [])), (11, (6, 12, [], [0])), (12, (7, 15, [15], [1000])), (15, (102, 18, [209, 3, 304], [])), (18, (60, 21, [42], [])), (21, (11, 22, [2], [])), (22, (42, 23, [], [])), (23, (6, 24, [], [0])), (24, (7, 27, [16], [3])), (27, (102, 30, [209, 3, 304], [])), (30, (60, 33, [42], [])), (33, (11, 34, [3], [])), (34, (10, 36, [4], [])), (36, (102, 39, [297, 2, 363], [])), (39, (61, 42, [44], [])), (42, (1, 43, [], [-1])), (43, (110, 44, [], [])), (44, (15, 45, [0], [])), (45, (91, 48, [12, 78, 229], [])), (48, (15, 49, [0], [])), (49, (90, 52, [12, 8, 281], [])), (52, (11, 53, [1], [])), (53, (84, 54, [], [])), (54, (15, 55, [0], [])), (55, (91, 58, [12, 79, 230], [])), (58, (15, 59, [0], [])), (59, (90, 62, [12, 8, 281], [])), (62, (11, 63, [2], [])), (63, (84, 64, [], [])), (64, (15, 65, [0], [])), (65, (91, 68, [12, 80, 231], [])), (68, (15, 69, [0], [])), (69, (90, 72, [12, 8, 281], [])), (72, (11, 73, [3], [])), (73, (84, 74, [], [])), (74, (15, 75, [0], [])), (75, (91, 78, [12, 81, 232], [])), (78, (15, 79, [0], [])), (79, (90, 82, [12, 8, 281], [])), (82, (10, 84, [4], [])), (84, (84, 85, [], [])), (85, (15, 86, [0], [])), (86, (56, 87, [], [])), (87, (90, 90, [12, 8, 281], [])), (90, (1, 91, [], [1])), (91, (30, 92, [], [])), (92, (92, 95, [12, 8, 281], [])), (95, (15, 96, [0], [])), (96, (90, 99, [12, 8, 281], [])), (99, (1, 100, [], [1])), (100, (31, 101, [], [])), (101, (110, 102, [], []))]
/-- PitInspectorModel.plan(IIII)I -/
noncomputable def mt_296 : MTy := (⟨"PitInspectorModel", "plan", "(IIII)I"⟩, prog_14_method_86_code, 5, some .int, 12, 12, 1, (0, 0), 4, [2157, 14, 2155, 2269], cd_296)
noncomputable def cd_297 : List (Nat × Ins) := [(0, (11, 1, [0], [])), (1, (42, 2, [], [])), (2, (7, 5, [13], [-100000])), (5, (7, 8, [14], [100000])), (8, (102, 11, [209, 3, 304], [])), (11, (60, 14, [32], [])), (14, (11, 15, [1], [])), (15, (42, 16, [], [])), (16, (7, 19, [13], [-100000])), (19, (7, 22, [14], [100000])), (22, (102, 25, [209, 3, 304], [])), (25, (60, 28, [32], [])), (28, (1, 29, [], [1])), (29, (73, 32, [33], [])), (32, (1, 33, [], [0])), (33, (110, 34, [], []))]
/-- PitInspectorModel.isPoint(II)Z -/
noncomputable def mt_297 : MTy := (⟨"PitInspectorModel", "isPoint", "(II)Z"⟩, prog_14_method_85_code, 2, some .boolean, 12, 50, 2, (0, 0), 2, [2162, 14, 2161, 0], cd_297)
noncomputable def cd_298 : List (Nat × Ins) := [(0, (15, 1, [0], [])), (1, (11, 2, [1], [])), (2, (100, 5, [299, 2, 364], [])), (5, (60, 8, [16], [])), (8, (11, 9, [2], [])), (9, (11, 10, [3], [])), (10, (102, 13, [297, 2, 363], [])), (13, (61, 16, [18], [])), (16, (1, 17, [], [0])), (17, (110, 18, [], [])), (18, (15, 19, [0], [])), (19, (91, 22, [12, 80, 231], [])), (22, (11, 23, [1], [])), (23, (11, 24, [2], [])), (24, (84, 25, [], [])), (25, (15, 26, [0], [])), (26, (91, 29, [12, 81, 232], [])), (29, (11, 30, [1], [])), (30, (11, 31, [3], [])), (31, (84, 32, [], [])), (32, (1, 33, [], [1])), (33, (110, 34, [], []))]
/-- PitInspectorModel.shift(III)Z -/
noncomputable def mt_298 : MTy := (⟨"PitInspectorModel", "shift", "(III)Z"⟩, prog_14_method_87_code, 4, some .boolean, 12, 12, 2, (0, 0), 3, [2168, 14, 2166, 2280], cd_298)
noncomputable def cd_299 : List (Nat × Ins) := [(0, (11, 1, [1], [])), (1, (42, 2, [], [])), (2, (6, 3, [], [0])), (3, (15, 4, [0], [])), (4, (90, 7, [12, 8, 281], [])), (7, (1, 8, [], [1])), (8, (31, 9, [], [])), (9, (42, 10, [], [])), (10, (102, 13, [209, 3, 304], [])), (13, (110, 14, [], []))]
/-- PitInspectorModel.isPlan(I)Z -/
noncomputable def mt_299 : MTy := (⟨"PitInspectorModel", "isPlan", "(I)Z"⟩, prog_14_method_84_code, 2, some .boolean, 12, 12, 2, (0, 0), 1, [2172, 14, 2171, 104], cd_299)
noncomputable def cd_300 : List (Nat × Ins) := [(0, (15, 1, [0], [])), (1, (90, 4, [12, 9, 282], [])), (4, (2, 6, [], [30])), (6, (66, 9, [25], [])), (9, (15, 10, [0], [])), (10, (11, 11, [1], [])), (11, (100, 14, [299, 2, 364], [])), (14, (60, 17, [25], [])), (17, (11, 18, [2], [])), (18, (11, 19, [3], [])), (19, (102, 22, [297, 2, 363], [])), (22, (61, 25, [27], [])), (25, (1, 26, [], [-1])), (26, (110, 27, [], [])), (27, (15, 28, [0], [])), (28, (91, 31, [12, 82, 233], [])), (31, (15, 32, [0], [])), (32, (90, 35, [12, 9, 282], [])), (35, (11, 36, [1], [])), (36, (84, 37, [], [])), (37, (15, 38, [0], [])), (38, (91, 41, [12, 83, 234], [])), (41, (15, 42, [0], [])), (42, (90, 45, [12, 9, 282], [])), (45, (11, 46, [2], [])), (46, (84, 47, [], [])), (47, (15, 48, [0], [])), (48, (91, 51, [12, 84, 235], [])), (51, (15, 52, [0], [])), (52, (90, 55, [12, 9, 282], [])), (55, (11, 56, [3], [])), (56, (84, 57, [], [])), (57, (15, 58, [0], [])), (58, (56, 59, [], [])), (59, (90, 62, [12, 9, 282], [])), (62, (1, 63, [], [1])), (63, (30, 64, [], [])), (64, (92, 67, [12, 9, 282], [])), (67, (15, 68, [0], [])), (68, (90, 71, [12, 9, 282], [])), (71, (1, 72, [], [1])), (72, (31, 73, [], [])), (73, (110, 74, [], []))]
/-- PitInspectorModel.water(III)I -/
noncomputable def mt_300 : MTy := (⟨"PitInspectorModel", "water", "(III)I"⟩, prog_14_method_88_code, 4, some .int, 12, 12, 1, (0, 0), 3, [2176, 14, 2174, 2288], cd_300)
noncomputable def cd_301 : List (Nat × Ins) := [(0, (15, 1, [0], [])), (1, (90, 4, [12, 10, 283], [])), (4, (2, 6, [], [30])), (6, (66, 9, [34], [])), (9, (15, 10, [0], [])), (10, (11, 11, [1], [])), (11, (100, 14, [212, 2, 305], [])), (14, (60, 17, [34], [])), (17, (15, 18, [0], [])), (18, (11, 19, [2], [])), (19, (100, 22, [299, 2, 364], [])), (22, (60, 25, [34], [])), (25, (11, 26, [3], [])), (26, (10, 28, [4], [])), (28, (102, 31, [297, 2, 363], [])), (31, (61, 34, [36], [])), (34, (1, 35, [], [-1])), (35, (110, 36, [], [])), (36, (15, 37, [0], [])), (37, (91, 40, [12, 85, 236], [])), (40, (15, 41, [0], [])), (41, (90, 44, [12, 10, 283], [])), (44, (11, 45, [1], [])), (45, (84, 46, [], [])), (46, (15, 47, [0], [])), (47, (91, 50, [12, 86, 237], [])), (50, (15, 51, [0], [])), (51, (90, 54, [12, 10, 283], [])), (54, (11, 55, [2], [])), (55, (84, 56, [], [])), (56, (15, 57, [0], [])), (57, (91, 60, [12, 87, 238], [])), (60, (15, 61, [0], [])), (61, (90, 64, [12, 10, 283], [])), (64, (11, 65, [3], [])), (65, (84, 66, [], [])), (66, (15, 67, [0], [])), (67, (91, 70, [12, 88, 239], [])), (70, (15, 71, [0], [])), (71, (90, 74, [12, 10, 283], [])), (74, (10, 76, [4], [])), (76, (84, 77, [], [])), (77, (15, 78, [0], [])), (78, (56, 79, [], [])), (79, (90, 82, [12, 10, 283], [])), (82, (1, 83, [], [1])), (83, (30, 84, [], [])), (84, (92, 87, [12, 10, 283], [])), (87, (15, 88, [0], [])), (88, (90, 91, [12, 10, 283], [])), (91, (1, 92, [], [1])), (92, (31, 93, [], [])), (93, (110, 94, [], []))]
/-- PitInspectorModel.face(IIII)I -/
noncomputable def mt_301 : MTy := (⟨"PitInspectorModel", "face", "(IIII)I"⟩, prog_14_method_89_code, 5, some .int, 12, 12, 1, (0, 0), 4, [2180, 14, 2178, 2292], cd_301)
noncomputable def cd_302 : List (Nat × Ins) := [(0, (11, 1, [1], [])), (1, (42, 2, [], [])), (2, (6, 3, [], [0])), (3, (15, 4, [0], [])), (4, (90, 7, [12, 10, 283], [])), (7, (1, 8, [], [1])), (8, (31, 9, [], [])), (9, (42, 10, [], [])), (10, (102, 13, [209, 3, 304], [])), (13, (60, 16, [52], [])), (16, (11, 17, [2], [])), (17, (42, 18, [], [])), (18, (6, 19, [], [0])), (19, (15, 20, [0], [])), (20, (90, 23, [12, 9, 282], [])), (23, (1, 24, [], [1])), (24, (31, 25, [], [])), (25, (42, 26, [], [])), (26, (102, 29, [209, 3, 304], [])), (29, (60, 32, [52], [])), (32, (11, 33, [3], [])), (33, (42, 34, [], [])), (34, (6, 35, [], [0])), (35, (6, 36, [], [1])), (36, (102, 39, [209, 3, 304], [])), (39, (60, 42, [52], [])), (42, (15, 43, [0], [])), (43, (11, 44, [1], [])), (44, (11, 45, [2], [])), (45, (11, 46, [3], [])), (46, (100, 49, [268, 4, 370], [])), (49, (73, 52, [53], [])), (52, (1, 53, [], [-1])), (53, (110, 54, [], []))]
/-- PitInspectorModel.yards(III)I -/
noncomputable def mt_302 : MTy := (⟨"PitInspectorModel", "yards", "(III)I"⟩, prog_14_method_95_code, 4, some .int, 12, 12, 1, (0, 0), 3, [2184, 14, 2182, 2296], cd_302)
noncomputable def cd_303 : List (Nat × Ins) := [(0, (11, 1, [2], [])), (1, (60, 4, [22], [])), (4, (15, 5, [0], [])), (5, (11, 6, [1], [])), (6, (100, 9, [212, 2, 305], [])), (9, (60, 12, [20], [])), (12, (15, 13, [0], [])), (13, (11, 14, [1], [])), (14, (100, 17, [266, 2, 338], [])), (17, (73, 20, [21], [])), (20, (1, 21, [], [-1])), (21, (110, 22, [], [])), (22, (11, 23, [1], [])), (23, (42, 24, [], [])), (24, (6, 25, [], [0])), (25, (15, 26, [0], [])), (26, (90, 29, [12, 10, 283], [])), (29, (1, 30, [], [1])), (30, (31, 31, [], [])), (31, (42, 32, [], [])), (32, (102, 35, [209, 3, 304], [])), (35, (60, 38, [46], [])), (38, (15, 39, [0], [])), (39, (11, 40, [1], [])), (40, (100, 43, [267, 2, 371], [])), (43, (73, 46, [47], [])), (46, (1, 47, [], [-1])), (47, (110, 48, [], []))]
/-- PitInspectorModel.nearest(IZ)I -/
noncomputable def mt_303 : MTy := (⟨"PitInspectorModel", "nearest", "(IZ)I"⟩, prog_14_method_98_code, 3, some .int, 12, 12, 1, (0, 0), 2, [2188, 14, 2186, 2300], cd_303)
noncomputable def cd_304 : List (Nat × Ins) := [(0, (15, 1, [0], [])), (1, (11, 2, [1], [])), (2, (100, 5, [299, 2, 364], [])), (5, (60, 8, [29], [])), (8, (11, 9, [2], [])), (9, (11, 10, [3], [])), (10, (102, 13, [297, 2, 363], [])), (13, (60, 16, [29], [])), (16, (10, 18, [4], [])), (18, (42, 19, [], [])), (19, (6, 20, [], [1])), (20, (7, 23, [17], [99999])), (23, (102, 26, [209, 3, 304], [])), (26, (61, 29, [31], [])), (29, (1, 30, [], [-1])), (30, (110, 31, [], [])), (31, (15, 32, [0], [])), (32, (10, 34, [4], [])), (34, (100, 37, [305, 2, 372], [])), (37, (16, 39, [5], [])), (39, (15, 40, [0], [])), (40, (91, 43, [12, 80, 231], [])), (43, (11, 44, [1], [])), (44, (80, 45, [], [])), (45, (16, 47, [6], [])), (47, (15, 48, [0], [])), (48, (91, 51, [12, 81, 232], [])), (51, (11, 52, [1], [])), (52, (80, 53, [], [])), (53, (16, 55, [7], [])), (55, (15, 56, [0], [])), (56, (91, 59, [12, 80, 231], [])), (59, (11, 60, [1], [])), (60, (11, 61, [2], [])), (61, (84, 62, [], [])), (62, (15, 63, [0], [])), (63, (91, 66, [12, 81, 232], [])), (66, (11, 67, [1], [])), (67, (11, 68, [3], [])), (68, (84, 69, [], [])), (69, (15, 70, [0], [])), (70, (10, 72, [4], [])), (72, (100, 75, [305, 2, 372], [])), (75, (16, 77, [8], [])), (77, (15, 78, [0], [])), (78, (91, 81, [12, 80, 231], [])), (81, (11, 82, [1], [])), (82, (10, 84, [6], [])), (84, (84, 85, [], [])), (85, (15, 86, [0], [])), (86, (91, 89, [12, 81, 232], [])), (89, (11, 90, [1], [])), (90, (10, 92, [7], [])), (92, (84, 93, [], [])), (93, (10, 95, [8], [])), (95, (10, 97, [5], [])), (97, (1, 98, [], [-1])), (98, (41, 99, [], [])), (99, (39, 100, [], [])), (100, (110, 101, [], []))]
/-- PitInspectorModel.moves(IIII)I -/
noncomputable def mt_304 : MTy := (⟨"PitInspectorModel", "moves", "(IIII)I"⟩, prog_14_method_100_code, 9, some .int, 12, 12, 1, (0, 0), 4, [2192, 14, 2190, 2304], cd_304)
noncomputable def cd_305 : List (Nat × Ins) := [(0, (1, 1, [], [0])), (1, (17, 2, [2], [])), (2, (1, 3, [], [0])), (3, (17, 4, [3], [])), (4, (11, 5, [3], [])), (5, (15, 6, [0], [])), (6, (90, 9, [12, 10, 283], [])), (9, (69, 12, [37], [])), (12, (11, 13, [2], [])), (13, (15, 14, [0], [])), (14, (11, 15, [3], [])), (15, (100, 18, [267, 2, 371], [])), (18, (11, 19, [1], [])), (19, (69, 22, [28], [])), (22, (1, 23, [], [1])), (23, (11, 24, [3], [])), (24, (36, 25, [], [])), (25, (73, 28, [29], [])), (28, (1, 29, [], [0])), (29, (40, 30, [], [])), (30, (17, 31, [2], [])), (31, (22, 34, [3], [1])), (34, (73, 37, [4], [])), (37, (11, 38, [2], [])), (38, (110, 39, [], []))]
/-- PitInspectorModel.nearSet(I)I -/
noncomputable def mt_305 : MTy := (⟨"PitInspectorModel", "nearSet", "(I)I"⟩, prog_14_method_99_code, 4, some .int, 12, 12, 1, (0, 0), 1, [2197, 14, 2196, 105], cd_305)
noncomputable def cd_306 : List (Nat × Ins) := [(0, (15, 1, [0], [])), (1, (90, 4, [12, 11, 284], [])), (4, (2, 6, [], [30])), (6, (66, 9, [63], [])), (9, (15, 10, [0], [])), (10, (11, 11, [1], [])), (11, (100, 14, [299, 2, 364], [])), (14, (60, 17, [63], [])), (17, (15, 18, [0], [])), (18, (10, 20, [4], [])), (20, (100, 23, [299, 2, 364], [])), (23, (60, 26, [63], [])), (26, (11, 27, [1], [])), (27, (10, 29, [4], [])), (29, (66, 32, [63], [])), (32, (11, 33, [2], [])), (33, (11, 34, [3], [])), (34, (102, 37, [297, 2, 363], [])), (37, (60, 40, [63], [])), (40, (10, 42, [5], [])), (42, (10, 44, [6], [])), (44, (102, 47, [297, 2, 363], [])), (47, (60, 50, [63], [])), (50, (10, 52, [7], [])), (52, (42, 53, [], [])), (53, (6, 54, [], [0])), (54, (7, 57, [15], [1000])), (57, (102, 60, [209, 3, 304], [])), (60, (61, 63, [65], [])), (63, (1, 64, [], [-1])), (64, (110, 65, [], [])), (65, (15, 66, [0], [])), (66, (91, 69, [12, 89, 240], [])), (69, (1, 70, [], [2])), (70, (15, 71, [0], [])), (71, (90, 74, [12, 11, 284], [])), (74, (32, 75, [], [])), (75, (11, 76, [1], [])), (76, (84, 77, [], [])), (77, (15, 78, [0], [])), (78, (91, 81, [12, 90, 241], [])), (81, (1, 82, [], [2])), (82, (15, 83, [0], [])), (83, (90, 86, [12, 11, 284], [])), (86, (32, 87, [], [])), (87, (11, 88, [2], [])), (88, (84, 89, [], [])), (89, (15, 90, [0], [])), (90, (91, 93, [12, 91, 242], [])), (93, (1, 94, [], [2])), (94, (15, 95, [0], [])), (95, (90, 98, [12, 11, 284], [])), (98, (32, 99, [], [])), (99, (11, 100, [3], [])), (100, (84, 101, [], [])), (101, (15, 102, [0], [])), (102, (91, 105, [12, 89, 240], [])), (105, (1, 106, [], [2])), (106, (15, 107, [0], [])), (107, (90, 110, [12, 11, 284], [])), (110, (32, 111, [], [])), (111, (1, 112, [], [1])), (112, (30, 113, [], [])), (113, (10, 115, [4], [])), (115, (84, 116, [], [])), (116, (15, 117, [0], [])), (117, (91, 120, [12, 90, 241], [])), (120, (1, 121, [], [2])), (121, (15, 122, [0], [])), (122, (90, 125, [12, 11, 284], [])), (125, (32, 126, [], [])), (126, (1, 127, [], [1])), (127, (30, 128, [], [])), (128, (10, 130, [5], [])), (130, (84, 131, [], [])), (131, (15, 132, [0], [])), (132, (91, 135, [12, 91, 242], [])), (135, (1, 136, [], [2])), (136, (15, 137, [0], [])), (137, (90, 140, [12, 11, 284], [])), (140, (32, 141, [], [])), (141, (1, 142, [], [1])), (142, (30, 143, [], [])), (143, (10, 145, [6], [])), (145, (84, 146, [], [])), (146, (15, 147, [0], [])), (147, (91, 150, [12, 92, 243], [])), (150, (15, 151, [0], [])), (151, (90, 154, [12, 11, 284], [])), (154, (10, 156, [7], [])), (156, (84, 157, [], [])), (157, (15, 158, [0], [])), (158, (56, 159, [], [])), (159, (90, 162, [12, 11, 284], [])), (162, (1, 163, [], [1])), (163, (30, 164, [], [])), (164, (92, 167, [12, 11, 284], [])), (167, (15, 168, [0], [])), (168, (90, 171, [12, 11, 284], [])), (171, (1, 172, [], [1])), (172, (31, 173, [], [])), (173, (110, 174, [], []))]
/-- PitInspectorModel.join(IIIIIII)I -/
noncomputable def mt_306 : MTy := (⟨"PitInspectorModel", "join", "(IIIIIII)I"⟩, prog_14_method_101_code, 8, some .int, 12, 12, 1, (0, 0), 7, [2201, 14, 2199, 2313], cd_306)
noncomputable def cd_307 : List (Nat × Ins) := [(0, (1, 1, [], [0])), (1, (17, 2, [1], [])), (2, (11, 3, [1], [])), (3, (15, 4, [0], [])), (4, (90, 7, [12, 11, 284], [])), (7, (69, 10, [92], [])), (10, (1, 11, [], [2])), (11, (11, 12, [1], [])), (12, (32, 13, [], [])), (13, (17, 14, [2], [])), (14, (11, 15, [2], [])), (15, (1, 16, [], [1])), (16, (30, 17, [], [])), (17, (17, 18, [3], [])), (18, (15, 19, [0], [])), (19, (15, 20, [0], [])), (20, (91, 23, [12, 89, 240], [])), (23, (11, 24, [2], [])), (24, (80, 25, [], [])), (25, (15, 26, [0], [])), (26, (91, 29, [12, 90, 241], [])), (29, (11, 30, [2], [])), (30, (80, 31, [], [])), (31, (15, 32, [0], [])), (32, (91, 35, [12, 91, 242], [])), (35, (11, 36, [2], [])), (36, (80, 37, [], [])), (37, (15, 38, [0], [])), (38, (91, 41, [12, 89, 240], [])), (41, (11, 42, [3], [])), (42, (80, 43, [], [])), (43, (15, 44, [0], [])), (44, (91, 47, [12, 90, 241], [])), (47, (11, 48, [3], [])), (48, (80, 49, [], [])), (49, (15, 50, [0], [])), (50, (91, 53, [12, 91, 242], [])), (53, (11, 54, [3], [])), (54, (80, 55, [], [])), (55, (100, 58, [269, 7, 368], [])), (58, (15, 59, [0], [])), (59, (15, 60, [0], [])), (60, (91, 63, [12, 89, 240], [])), (63, (11, 64, [2], [])), (64, (80, 65, [], [])), (65, (15, 66, [0], [])), (66, (91, 69, [12, 89, 240], [])), (69, (11, 70, [3], [])), (70, (80, 71, [], [])), (71, (100, 74, [273, 3, 369], [])), (74, (15, 75, [0], [])), (75, (91, 78, [12, 92, 243], [])), (78, (11, 79, [1], [])), (79, (80, 80, [], [])), (80, (30, 81, [], [])), (81, (71, 84, [86], [])), (84, (11, 85, [1], [])), (85, (110, 86, [], [])), (86, (22, 89, [1], [1])), (89, (73, 92, [2], [])), (92, (1, 93, [], [-1])), (93, (110, 94, [], []))]
/-- PitInspectorModel.torn()I -/
noncomputable def mt_307 : MTy := (⟨"PitInspectorModel", "torn", "()I"⟩, prog_14_method_102_code, 4, some .int, 12, 12, 1, (0, 0), 0, [2205, 14, 2203, 2317], cd_307)
noncomputable def cd_308 : List (Nat × Ins) := [(0, (15, 1, [0], [])), (1, (90, 4, [12, 12, 285], [])), (4, (2, 6, [], [60])), (6, (66, 9, [21], [])), (9, (11, 10, [1], [])), (10, (42, 11, [], [])), (11, (6, 12, [], [0])), (12, (7, 15, [18], [9])), (15, (102, 18, [209, 3, 304], [])), (18, (61, 21, [23], [])), (21, (1, 22, [], [-1])), (22, (110, 23, [], [])), (23, (15, 24, [0], [])), (24, (91, 27, [12, 93, 244], [])), (27, (15, 28, [0], [])), (28, (90, 31, [12, 12, 285], [])), (31, (11, 32, [1], [])), (32, (84, 33, [], [])), (33, (15, 34, [0], [])), (34, (56, 35, [], [])), (35, (90, 38, [12, 12, 285], [])), (38, (1, 39, [], [1])), (39, (30, 40, [], [])), (40, (92, 43, [12, 12, 285], [])), (43, (15, 44, [0], [])), (44, (90, 47, [12, 12, 285], [])), (47, (1, 48, [], [1])), (48, (31, 49, [], [])), (49, (110, 50, [], []))]
/-- PitInspectorModel.lamp(I)I -/
noncomputable def mt_308 : MTy := (⟨"PitInspectorModel", "lamp", "(I)I"⟩, prog_14_method_103_code, 2, some .int, 12, 12, 1, (0, 0), 1, [2209, 14, 2207, 2321], cd_308)
noncomputable def cd_309 : List (Nat × Ins) := [(0, (15, 1, [0], [])), (1, (90, 4, [12, 13, 286], [])), (4, (3, 7, [], [300])), (7, (66, 10, [60], [])), (10, (15, 11, [0], [])), (11, (11, 12, [1], [])), (12, (100, 15, [310, 2, 373], [])), (15, (60, 18, [60], [])), (18, (15, 19, [0], [])), (19, (91, 22, [12, 30, 192], [])), (22, (11, 23, [1], [])), (23, (80, 24, [], [])), (24, (1, 25, [], [-1])), (25, (67, 28, [60], [])), (28, (11, 29, [2], [])), (29, (42, 30, [], [])), (30, (7, 33, [11], [-1])), (33, (15, 34, [0], [])), (34, (90, 37, [12, 12, 285], [])), (37, (1, 38, [], [1])), (38, (31, 39, [], [])), (39, (42, 40, [], [])), (40, (102, 43, [209, 3, 304], [])), (43, (60, 46, [60], [])), (46, (11, 47, [2], [])), (47, (1, 48, [], [-1])), (48, (66, 51, [62], [])), (51, (15, 52, [0], [])), (52, (91, 55, [12, 94, 245], [])), (55, (11, 56, [2], [])), (56, (81, 57, [], [])), (57, (60, 60, [62], [])), (60, (1, 61, [], [0])), (61, (110, 62, [], [])), (62, (15, 63, [0], [])), (63, (91, 66, [12, 95, 246], [])), (66, (15, 67, [0], [])), (67, (90, 70, [12, 13, 286], [])), (70, (11, 71, [1], [])), (71, (84, 72, [], [])), (72, (15, 73, [0], [])), (73, (91, 76, [12, 96, 247], [])), (76, (15, 77, [0], [])), (77, (90, 80, [12, 13, 286], [])), (80, (11, 81, [2], [])), (81, (84, 82, [], [])), (82, (15, 83, [0], [])), (83, (91, 86, [12, 97, 248], [])), (86, (15, 87, [0], [])), (87, (90, 90, [12, 13, 286], [])), (90, (1, 91, [], [-1])), (91, (84, 92, [], [])), (92, (15, 93, [0], [])), (93, (91, 96, [12, 30, 192], [])), (96, (11, 97, [1], [])), (97, (15, 98, [0], [])), (98, (90, 101, [12, 13, 286], [])), (101, (84, 102, [], [])), (102, (11, 103, [2], [])), (103, (1, 104, [], [-1])), (104, (66, 107, [114], [])), (107, (15, 108, [0], [])), (108, (91, 111, [12, 94, 245], [])), (111, (11, 112, [2], [])), (112, (1, 113, [], [1])), (113, (85, 114, [], [])), (114, (15, 115, [0], [])), (115, (56, 116, [], [])), (116, (90, 119, [12, 13, 286], [])), (119, (1, 120, [], [1])), (120, (30, 121, [], [])), (121, (92, 124, [12, 13, 286], [])), (124, (1, 125, [], [1])), (125, (110, 126, [], []))]
/-- PitInspectorModel.down(II)Z -/
noncomputable def mt_309 : MTy := (⟨"PitInspectorModel", "down", "(II)Z"⟩, prog_14_method_104_code, 3, some .boolean, 12, 12, 2, (0, 0), 2, [2214, 14, 2212, 2326], cd_309)
noncomputable def cd_310 : List (Nat × Ins) := [(0, (11, 1, [1], [])), (1, (42, 2, [], [])), (2, (6, 3, [], [0])), (3, (15, 4, [0], [])), (4, (90, 7, [12, 4, 264], [])), (7, (1, 8, [], [1])), (8, (31, 9, [], [])), (9, (42, 10, [], [])), (10, (102, 13, [209, 3, 304], [])), (13, (110, 14, [], []))]
/-- PitInspectorModel.isHand(I)Z -/
noncomputable def mt_310 : MTy := (⟨"PitInspectorModel", "isHand", "(I)Z"⟩, prog_14_method_7_code, 2, some .boolean, 12, 12, 2, (0, 0), 1, [2218, 14, 2217, 106], cd_310)
noncomputable def cd_311 : List (Nat × Ins) := [(0, (15, 1, [0], [])), (1, (11, 2, [1], [])), (2, (100, 5, [310, 2, 373], [])), (5, (60, 8, [18], [])), (8, (15, 9, [0], [])), (9, (91, 12, [12, 30, 192], [])), (12, (11, 13, [1], [])), (13, (80, 14, [], [])), (14, (1, 15, [], [-1])), (15, (67, 18, [20], [])), (18, (1, 19, [], [0])), (19, (110, 20, [], [])), (20, (15, 21, [0], [])), (21, (91, 24, [12, 30, 192], [])), (24, (11, 25, [1], [])), (25, (80, 26, [], [])), (26, (17, 27, [2], [])), (27, (15, 28, [0], [])), (28, (91, 31, [12, 97, 248], [])), (31, (11, 32, [2], [])), (32, (15, 33, [0], [])), (33, (90, 36, [12, 2, 262], [])), (36, (84, 37, [], [])), (37, (15, 38, [0], [])), (38, (91, 41, [12, 96, 247], [])), (41, (11, 42, [2], [])), (42, (80, 43, [], [])), (43, (1, 44, [], [-1])), (44, (66, 47, [59], [])), (47, (15, 48, [0], [])), (48, (91, 51, [12, 94, 245], [])), (51, (15, 52, [0], [])), (52, (91, 55, [12, 96, 247], [])), (55, (11, 56, [2], [])), (56, (80, 57, [], [])), (57, (1, 58, [], [0])), (58, (85, 59, [], [])), (59, (15, 60, [0], [])), (60, (91, 63, [12, 30, 192], [])), (63, (11, 64, [1], [])), (64, (1, 65, [], [-1])), (65, (84, 66, [], [])), (66, (1, 67, [], [1])), (67, (110, 68, [], []))]
/-- PitInspectorModel.up(I)Z -/
noncomputable def mt_311 : MTy := (⟨"PitInspectorModel", "up", "(I)Z"⟩, prog_14_method_105_code, 3, some .boolean, 12, 12, 2, (0, 0), 1, [2222, 14, 2220, 2334], cd_311)
noncomputable def cd_312 : List (Nat × Ins) := [(0, (15, 1, [0], [])), (1, (11, 2, [1], [])), (2, (100, 5, [212, 2, 305], [])), (5, (60, 8, [23], [])), (8, (15, 9, [0], [])), (9, (11, 10, [1], [])), (10, (100, 13, [253, 2, 335], [])), (13, (15, 14, [0], [])), (14, (91, 17, [12, 25, 187], [])), (17, (11, 18, [1], [])), (18, (80, 19, [], [])), (19, (31, 20, [], [])), (20, (73, 23, [26], [])), (23, (5, 26, [9], [-100000])), (26, (110, 27, [], []))]
/-- PitInspectorModel.differs(I)I -/
noncomputable def mt_312 : MTy := (⟨"PitInspectorModel", "differs", "(I)I"⟩, prog_14_method_107_code, 2, some .int, 12, 12, 1, (0, 0), 1, [2226, 14, 2224, 2338], cd_312)
noncomputable def cd_313 : List (Nat × Ins) := [(0, (15, 1, [0], [])), (1, (11, 2, [1], [])), (2, (100, 5, [212, 2, 305], [])), (5, (60, 8, [20], [])), (8, (11, 9, [2], [])), (9, (42, 10, [], [])), (10, (6, 11, [], [0])), (11, (7, 14, [4], [2000])), (14, (102, 17, [209, 3, 304], [])), (17, (61, 20, [22], [])), (20, (1, 21, [], [0])), (21, (110, 22, [], [])), (22, (15, 23, [0], [])), (23, (91, 26, [12, 25, 187], [])), (26, (11, 27, [1], [])), (27, (11, 28, [2], [])), (28, (84, 29, [], [])), (29, (1, 30, [], [1])), (30, (110, 31, [], []))]
/-- PitInspectorModel.book(II)Z -/
noncomputable def mt_313 : MTy := (⟨"PitInspectorModel", "book", "(II)Z"⟩, prog_14_method_108_code, 3, some .boolean, 12, 12, 2, (0, 0), 2, [2231, 14, 2229, 2343], cd_313)
noncomputable def cd_314 : List (Nat × Ins) := [(0, (11, 1, [1], [])), (1, (42, 2, [], [])), (2, (6, 3, [], [0])), (3, (7, 6, [18], [9])), (6, (102, 9, [209, 3, 304], [])), (9, (60, 12, [36], [])), (12, (11, 13, [2], [])), (13, (42, 14, [], [])), (14, (6, 15, [], [0])), (15, (15, 16, [0], [])), (16, (90, 19, [12, 2, 262], [])), (19, (42, 20, [], [])), (20, (102, 23, [209, 3, 304], [])), (23, (60, 26, [36], [])), (26, (11, 27, [3], [])), (27, (42, 28, [], [])), (28, (6, 29, [], [0])), (29, (6, 30, [], [1])), (30, (102, 33, [209, 3, 304], [])), (33, (61, 36, [38], [])), (36, (1, 37, [], [-1])), (37, (110, 38, [], [])), (38, (1, 39, [], [0])), (39, (16, 41, [4], [])), (41, (1, 42, [], [0])), (42, (16, 44, [5], [])), (44, (10, 46, [5], [])), (46, (15, 47, [0], [])), (47, (90, 50, [12, 13, 286], [])), (50, (69, 53, [124], [])), (53, (15, 54, [0], [])), (54, (91, 57, [12, 96, 247], [])), (57, (10, 59, [5], [])), (59, (80, 60, [], [])), (60, (1, 61, [], [-1])), (61, (66, 64, [118], [])), (64, (15, 65, [0], [])), (65, (91, 68, [12, 93, 244], [])), (68, (15, 69, [0], [])), (69, (91, 72, [12, 96, 247], [])), (72, (10, 74, [5], [])), (74, (80, 75, [], [])), (75, (80, 76, [], [])), (76, (11, 77, [1], [])), (77, (67, 80, [118], [])), (80, (15, 81, [0], [])), (81, (91, 84, [12, 97, 248], [])), (84, (10, 86, [5], [])), (86, (80, 87, [], [])), (87, (1, 88, [], [-1])), (88, (66, 91, [102], [])), (91, (15, 92, [0], [])), (92, (91, 95, [12, 97, 248], [])), (95, (10, 97, [5], [])), (97, (80, 98, [], [])), (98, (11, 99, [2], [])), (99, (68, 102, [118], [])), (102, (10, 104, [4], [])), (104, (15, 105, [0], [])), (105, (91, 108, [12, 95, 246], [])), (108, (10, 110, [5], [])), (110, (80, 111, [], [])), (111, (11, 112, [3], [])), (112, (102, 115, [315, 2, 374], [])), (115, (40, 116, [], [])), (116, (16, 118, [4], [])), (118, (22, 121, [5], [1])), (121, (73, 124, [44], [])), (124, (10, 126, [4], [])), (126, (110, 127, [], []))]
/-- PitInspectorModel.had(III)I -/
noncomputable def mt_314 : MTy := (⟨"PitInspectorModel", "had", "(III)I"⟩, prog_14_method_110_code, 6, some .int, 12, 12, 1, (0, 0), 3, [2235, 14, 2233, 2347], cd_314)
noncomputable def cd_315 : List (Nat × Ins) := [(0, (11, 1, [0], [])), (1, (2, 3, [], [20])), (3, (33, 4, [], [])), (4, (11, 5, [1], [])), (5, (67, 8, [17], [])), (8, (1, 9, [], [1])), (9, (11, 10, [0], [])), (10, (2, 12, [], [20])), (12, (34, 13, [], [])), (13, (36, 14, [], [])), (14, (73, 17, [18], [])), (17, (1, 18, [], [0])), (18, (110, 19, [], []))]
/-- PitInspectorModel.bit(II)I -/
noncomputable def mt_315 : MTy := (⟨"PitInspectorModel", "bit", "(II)I"⟩, prog_14_method_109_code, 2, some .int, 12, 50, 1, (0, 0), 2, [2238, 14, 2237, 0], cd_315)
noncomputable def cd_316 : List (Nat × Ins) := [(0, (15, 1, [0], [])), (1, (90, 4, [12, 14, 277], [])), (4, (3, 7, [], [300])), (7, (66, 10, [38], [])), (10, (15, 11, [0], [])), (11, (11, 12, [1], [])), (12, (100, 15, [310, 2, 373], [])), (15, (60, 18, [38], [])), (18, (15, 19, [0], [])), (19, (91, 22, [12, 29, 191], [])), (22, (11, 23, [1], [])), (23, (80, 24, [], [])), (24, (1, 25, [], [3])), (25, (67, 28, [38], [])), (28, (15, 29, [0], [])), (29, (91, 32, [12, 30, 192], [])), (32, (11, 33, [1], [])), (33, (80, 34, [], [])), (34, (1, 35, [], [-1])), (35, (67, 38, [40], [])), (38, (1, 39, [], [0])), (39, (110, 40, [], [])), (40, (15, 41, [0], [])), (41, (91, 44, [12, 98, 249], [])), (44, (15, 45, [0], [])), (45, (90, 48, [12, 14, 277], [])), (48, (11, 49, [1], [])), (49, (84, 50, [], [])), (50, (15, 51, [0], [])), (51, (91, 54, [12, 99, 250], [])), (54, (15, 55, [0], [])), (55, (90, 58, [12, 14, 277], [])), (58, (15, 59, [0], [])), (59, (90, 62, [12, 2, 262], [])), (62, (84, 63, [], [])), (63, (15, 64, [0], [])), (64, (56, 65, [], [])), (65, (90, 68, [12, 14, 277], [])), (68, (1, 69, [], [1])), (69, (30, 70, [], [])), (70, (92, 73, [12, 14, 277], [])), (73, (1, 74, [], [1])), (74, (110, 75, [], []))]
/-- PitInspectorModel.shot(I)Z -/
noncomputable def mt_316 : MTy := (⟨"PitInspectorModel", "shot", "(I)Z"⟩, prog_14_method_111_code, 2, some .boolean, 12, 12, 2, (0, 0), 1, [2242, 14, 2240, 2354], cd_316)
noncomputable def cd_317 : List (Nat × Ins) := [(0, (15, 1, [0], [])), (1, (11, 2, [1], [])), (2, (100, 5, [212, 2, 305], [])), (5, (60, 8, [33], [])), (8, (11, 9, [2], [])), (9, (42, 10, [], [])), (10, (6, 11, [], [0])), (11, (7, 14, [19], [24])), (14, (102, 17, [209, 3, 304], [])), (17, (60, 20, [33], [])), (20, (11, 21, [3], [])), (21, (42, 22, [], [])), (22, (11, 23, [2], [])), (23, (42, 24, [], [])), (24, (7, 27, [19], [24])), (27, (102, 30, [209, 3, 304], [])), (30, (61, 33, [35], [])), (33, (1, 34, [], [-1])), (34, (110, 35, [], [])), (35, (1, 36, [], [0])), (36, (16, 38, [4], [])), (38, (1, 39, [], [0])), (39, (16, 41, [5], [])), (41, (10, 43, [5], [])), (43, (15, 44, [0], [])), (44, (90, 47, [12, 14, 277], [])), (47, (69, 50, [108], [])), (50, (10, 52, [4], [])), (52, (15, 53, [0], [])), (53, (91, 56, [12, 28, 190], [])), (56, (15, 57, [0], [])), (57, (91, 60, [12, 98, 249], [])), (60, (10, 62, [5], [])), (62, (80, 63, [], [])), (63, (80, 64, [], [])), (64, (11, 65, [1], [])), (65, (67, 68, [98], [])), (68, (15, 69, [0], [])), (69, (91, 72, [12, 99, 250], [])), (72, (10, 74, [5], [])), (74, (80, 75, [], [])), (75, (2, 77, [], [60])), (77, (33, 78, [], [])), (78, (2, 80, [], [24])), (80, (34, 81, [], [])), (81, (42, 82, [], [])), (82, (11, 83, [2], [])), (83, (42, 84, [], [])), (84, (11, 85, [3], [])), (85, (1, 86, [], [1])), (86, (31, 87, [], [])), (87, (42, 88, [], [])), (88, (102, 91, [209, 3, 304], [])), (91, (60, 94, [98], [])), (94, (1, 95, [], [1])), (95, (73, 98, [99], [])), (98, (1, 99, [], [0])), (99, (30, 100, [], [])), (100, (16, 102, [4], [])), (102, (22, 105, [5], [1])), (105, (73, 108, [41], [])), (108, (10, 110, [4], [])), (110, (110, 111, [], []))]
/-- PitInspectorModel.shots(III)I -/
noncomputable def mt_317 : MTy := (⟨"PitInspectorModel", "shots", "(III)I"⟩, prog_14_method_112_code, 6, some .int, 12, 12, 1, (0, 0), 3, [2246, 14, 2244, 2358], cd_317)
noncomputable def cd_318 : List (Nat × Ins) := [(0, (15, 1, [0], [])), (1, (90, 4, [12, 15, 287], [])), (4, (2, 6, [], [60])), (6, (66, 9, [17], [])), (9, (15, 10, [0], [])), (10, (11, 11, [1], [])), (11, (100, 14, [310, 2, 373], [])), (14, (61, 17, [19], [])), (17, (1, 18, [], [-1])), (18, (110, 19, [], [])), (19, (15, 20, [0], [])), (20, (91, 23, [12, 100, 251], [])), (23, (15, 24, [0], [])), (24, (90, 27, [12, 15, 287], [])), (27, (15, 28, [0], [])), (28, (91, 31, [12, 28, 190], [])), (31, (11, 32, [1], [])), (32, (80, 33, [], [])), (33, (84, 34, [], [])), (34, (1, 35, [], [0])), (35, (17, 36, [2], [])), (36, (11, 37, [2], [])), (37, (2, 39, [], [40])), (39, (69, 42, [63], [])), (42, (15, 43, [0], [])), (43, (91, 46, [12, 101, 252], [])), (46, (2, 48, [], [40])), (48, (15, 49, [0], [])), (49, (90, 52, [12, 15, 287], [])), (52, (32, 53, [], [])), (53, (11, 54, [2], [])), (54, (30, 55, [], [])), (55, (1, 56, [], [-1])), (56, (84, 57, [], [])), (57, (22, 60, [2], [1])), (60, (73, 63, [36], [])), (63, (15, 64, [0], [])), (64, (91, 67, [12, 101, 252], [])), (67, (2, 69, [], [40])), (69, (15, 70, [0], [])), (70, (90, 73, [12, 15, 287], [])), (73, (32, 74, [], [])), (74, (11, 75, [1], [])), (75, (30, 76, [], [])), (76, (15, 77, [0], [])), (77, (90, 80, [12, 2, 262], [])), (80, (84, 81, [], [])), (81, (15, 82, [0], [])), (82, (56, 83, [], [])), (83, (90, 86, [12, 15, 287], [])), (86, (1, 87, [], [1])), (87, (30, 88, [], [])), (88, (92, 91, [12, 15, 287], [])), (91, (15, 92, [0], [])), (92, (90, 95, [12, 15, 287], [])), (95, (1, 96, [], [1])), (96, (31, 97, [], [])), (97, (110, 98, [], []))]
/-- PitInspectorModel.warn(I)I -/
noncomputable def mt_318 : MTy := (⟨"PitInspectorModel", "warn", "(I)I"⟩, prog_14_method_114_code, 3, some .int, 12, 12, 1, (0, 0), 1, [2251, 14, 2249, 2363], cd_318)
noncomputable def cd_319 : List (Nat × Ins) := [(0, (15, 1, [0], [])), (1, (11, 2, [1], [])), (2, (100, 5, [320, 2, 375], [])), (5, (60, 8, [69], [])), (8, (15, 9, [0], [])), (9, (11, 10, [2], [])), (10, (100, 13, [310, 2, 373], [])), (13, (60, 16, [69], [])), (16, (15, 17, [0], [])), (17, (11, 18, [3], [])), (18, (100, 21, [310, 2, 373], [])), (21, (60, 24, [69], [])), (24, (15, 25, [0], [])), (25, (91, 28, [12, 28, 190], [])), (28, (11, 29, [3], [])), (29, (80, 30, [], [])), (30, (15, 31, [0], [])), (31, (91, 34, [12, 100, 251], [])), (34, (11, 35, [1], [])), (35, (80, 36, [], [])), (36, (67, 39, [69], [])), (39, (15, 40, [0], [])), (40, (91, 43, [12, 101, 252], [])), (43, (2, 45, [], [40])), (45, (11, 46, [1], [])), (46, (32, 47, [], [])), (47, (11, 48, [2], [])), (48, (30, 49, [], [])), (49, (80, 50, [], [])), (50, (1, 51, [], [-1])), (51, (66, 54, [69], [])), (54, (15, 55, [0], [])), (55, (91, 58, [12, 101, 252], [])), (58, (2, 60, [], [40])), (60, (11, 61, [1], [])), (61, (32, 62, [], [])), (62, (11, 63, [3], [])), (63, (30, 64, [], [])), (64, (80, 65, [], [])), (65, (1, 66, [], [-1])), (66, (66, 69, [71], [])), (69, (1, 70, [], [0])), (70, (110, 71, [], [])), (71, (15, 72, [0], [])), (72, (91, 75, [12, 101, 252], [])), (75, (2, 77, [], [40])), (77, (11, 78, [1], [])), (78, (32, 79, [], [])), (79, (11, 80, [3], [])), (80, (30, 81, [], [])), (81, (15, 82, [0], [])), (82, (90, 85, [12, 2, 262], [])), (85, (84, 86, [], [])), (86, (1, 87, [], [1])), (87, (110, 88, [], []))]
/-- PitInspectorModel.tell(III)Z -/
noncomputable def mt_319 : MTy := (⟨"PitInspectorModel", "tell", "(III)Z"⟩, prog_14_method_115_code, 4, some .boolean, 12, 12, 2, (0, 0), 3, [2255, 14, 2253, 2367], cd_319)
noncomputable def cd_320 : List (Nat × Ins) := [(0, (11, 1, [1], [])), (1, (42, 2, [], [])), (2, (6, 3, [], [0])), (3, (15, 4, [0], [])), (4, (90, 7, [12, 15, 287], [])), (7, (1, 8, [], [1])), (8, (31, 9, [], [])), (9, (42, 10, [], [])), (10, (102, 13, [209, 3, 304], [])), (13, (110, 14, [], []))]
/-- PitInspectorModel.isWarning(I)Z -/
noncomputable def mt_320 : MTy := (⟨"PitInspectorModel", "isWarning", "(I)Z"⟩, prog_14_method_113_code, 2, some .boolean, 12, 12, 2, (0, 0), 1, [2259, 14, 2258, 107], cd_320)
noncomputable def cd_321 : List (Nat × Ins) := [(0, (15, 1, [0], [])), (1, (11, 2, [1], [])), (2, (100, 5, [320, 2, 375], [])), (5, (60, 8, [45], [])), (8, (15, 9, [0], [])), (9, (11, 10, [2], [])), (10, (100, 13, [310, 2, 373], [])), (13, (60, 16, [45], [])), (16, (15, 17, [0], [])), (17, (91, 20, [12, 101, 252], [])), (20, (2, 22, [], [40])), (22, (11, 23, [1], [])), (23, (32, 24, [], [])), (24, (11, 25, [2], [])), (25, (30, 26, [], [])), (26, (80, 27, [], [])), (27, (1, 28, [], [-1])), (28, (66, 31, [45], [])), (31, (15, 32, [0], [])), (32, (91, 35, [12, 102, 253], [])), (35, (2, 37, [], [40])), (37, (11, 38, [1], [])), (38, (32, 39, [], [])), (39, (11, 40, [2], [])), (40, (30, 41, [], [])), (41, (81, 42, [], [])), (42, (60, 45, [47], [])), (45, (1, 46, [], [0])), (46, (110, 47, [], [])), (47, (15, 48, [0], [])), (48, (91, 51, [12, 102, 253], [])), (51, (2, 53, [], [40])), (53, (11, 54, [1], [])), (54, (32, 55, [], [])), (55, (11, 56, [2], [])), (56, (30, 57, [], [])), (57, (1, 58, [], [1])), (58, (85, 59, [], [])), (59, (1, 60, [], [1])), (60, (110, 61, [], []))]
/-- PitInspectorModel.act(II)Z -/
noncomputable def mt_321 : MTy := (⟨"PitInspectorModel", "act", "(II)Z"⟩, prog_14_method_116_code, 3, some .boolean, 12, 12, 2, (0, 0), 2, [2263, 14, 2261, 2375], cd_321)
noncomputable def cd_322 : List (Nat × Ins) := [(0, (15, 1, [0], [])), (1, (11, 2, [1], [])), (2, (100, 5, [320, 2, 375], [])), (5, (60, 8, [30], [])), (8, (11, 9, [2], [])), (9, (42, 10, [], [])), (10, (6, 11, [], [0])), (11, (7, 14, [2], [5000000])), (14, (102, 17, [209, 3, 304], [])), (17, (60, 20, [30], [])), (20, (11, 21, [3], [])), (21, (42, 22, [], [])), (22, (6, 23, [], [0])), (23, (6, 24, [], [1])), (24, (102, 27, [209, 3, 304], [])), (27, (61, 30, [32], [])), (30, (1, 31, [], [-1])), (31, (110, 32, [], [])), (32, (1, 33, [], [0])), (33, (16, 35, [4], [])), (35, (1, 36, [], [0])), (36, (16, 38, [5], [])), (38, (10, 40, [5], [])), (40, (15, 41, [0], [])), (41, (90, 44, [12, 4, 264], [])), (44, (69, 47, [86], [])), (47, (15, 48, [0], [])), (48, (91, 51, [12, 101, 252], [])), (51, (2, 53, [], [40])), (53, (11, 54, [1], [])), (54, (32, 55, [], [])), (55, (10, 57, [5], [])), (57, (30, 58, [], [])), (58, (80, 59, [], [])), (59, (42, 60, [], [])), (60, (6, 61, [], [0])), (61, (11, 62, [2], [])), (62, (42, 63, [], [])), (63, (102, 66, [209, 3, 304], [])), (66, (60, 69, [80], [])), (69, (10, 71, [4], [])), (71, (10, 73, [5], [])), (73, (11, 74, [3], [])), (74, (102, 77, [315, 2, 374], [])), (77, (40, 78, [], [])), (78, (16, 80, [4], [])), (80, (22, 83, [5], [1])), (83, (73, 86, [38], [])), (86, (10, 88, [4], [])), (88, (110, 89, [], []))]
/-- PitInspectorModel.knew(III)I -/
noncomputable def mt_322 : MTy := (⟨"PitInspectorModel", "knew", "(III)I"⟩, prog_14_method_117_code, 6, some .int, 12, 12, 1, (0, 0), 3, [2267, 14, 2265, 2379], cd_322)
noncomputable def cd_323 : List (Nat × Ins) := [(0, (15, 1, [0], [])), (1, (11, 2, [1], [])), (2, (100, 5, [320, 2, 375], [])), (5, (60, 8, [18], [])), (8, (11, 9, [2], [])), (9, (42, 10, [], [])), (10, (6, 11, [], [0])), (11, (6, 12, [], [1])), (12, (102, 15, [209, 3, 304], [])), (15, (61, 18, [20], [])), (18, (1, 19, [], [-1])), (19, (110, 20, [], [])), (20, (15, 21, [0], [])), (21, (15, 22, [0], [])), (22, (91, 25, [12, 100, 251], [])), (25, (11, 26, [1], [])), (26, (80, 27, [], [])), (27, (100, 30, [324, 2, 376], [])), (30, (17, 31, [3], [])), (31, (1, 32, [], [0])), (32, (16, 34, [4], [])), (34, (1, 35, [], [0])), (35, (16, 37, [5], [])), (37, (10, 39, [5], [])), (39, (15, 40, [0], [])), (40, (90, 43, [12, 4, 264], [])), (43, (69, 46, [128], [])), (46, (11, 47, [3], [])), (47, (1, 48, [], [-1])), (48, (66, 51, [128], [])), (51, (2, 53, [], [40])), (53, (11, 54, [1], [])), (54, (32, 55, [], [])), (55, (10, 57, [5], [])), (57, (30, 58, [], [])), (58, (16, 60, [6], [])), (60, (15, 61, [0], [])), (61, (91, 64, [12, 29, 191], [])), (64, (10, 66, [5], [])), (66, (80, 67, [], [])), (67, (1, 68, [], [3])), (68, (69, 71, [122], [])), (71, (15, 72, [0], [])), (72, (91, 75, [12, 101, 252], [])), (75, (10, 77, [6], [])), (77, (80, 78, [], [])), (78, (1, 79, [], [-1])), (79, (66, 82, [122], [])), (82, (15, 83, [0], [])), (83, (91, 86, [12, 102, 253], [])), (86, (10, 88, [6], [])), (88, (81, 89, [], [])), (89, (61, 92, [122], [])), (92, (15, 93, [0], [])), (93, (90, 96, [12, 2, 262], [])), (96, (15, 97, [0], [])), (97, (91, 100, [12, 101, 252], [])), (100, (10, 102, [6], [])), (102, (80, 103, [], [])), (103, (31, 104, [], [])), (104, (2, 106, [], [60])), (106, (11, 107, [3], [])), (107, (32, 108, [], [])), (108, (71, 111, [122], [])), (111, (10, 113, [4], [])), (113, (10, 115, [5], [])), (115, (11, 116, [2], [])), (116, (102, 119, [315, 2, 374], [])), (119, (40, 120, [], [])), (120, (16, 122, [4], [])), (122, (22, 125, [5], [1])), (125, (73, 128, [37], [])), (128, (10, 130, [4], [])), (130, (110, 131, [], []))]
/-- PitInspectorModel.late(II)I -/
noncomputable def mt_323 : MTy := (⟨"PitInspectorModel", "late", "(II)I"⟩, prog_14_method_119_code, 7, some .int, 12, 12, 1, (0, 0), 2, [2271, 14, 2269, 2383], cd_323)
noncomputable def cd_324 : List (Nat × Ins) := [(0, (1, 1, [], [-1])), (1, (17, 2, [2], [])), (2, (15, 3, [0], [])), (3, (11, 4, [1], [])), (4, (100, 7, [242, 2, 333], [])), (7, (15, 8, [0], [])), (8, (11, 9, [1], [])), (9, (100, 12, [247, 2, 345], [])), (12, (1, 13, [], [0])), (13, (17, 14, [3], [])), (14, (11, 15, [3], [])), (15, (2, 17, [], [12])), (17, (15, 18, [0], [])), (18, (90, 21, [12, 5, 269], [])), (21, (32, 22, [], [])), (22, (69, 25, [67], [])), (25, (15, 26, [0], [])), (26, (11, 27, [3], [])), (27, (11, 28, [1], [])), (28, (100, 31, [245, 3, 334], [])), (31, (60, 34, [61], [])), (34, (15, 35, [0], [])), (35, (91, 38, [12, 36, 198], [])), (38, (11, 39, [3], [])), (39, (80, 40, [], [])), (40, (2, 42, [], [119])), (42, (67, 45, [61], [])), (45, (15, 46, [0], [])), (46, (11, 47, [3], [])), (47, (100, 50, [248, 2, 346], [])), (50, (1, 51, [], [1])), (51, (67, 54, [61], [])), (54, (15, 55, [0], [])), (55, (91, 58, [12, 37, 199], [])), (58, (11, 59, [3], [])), (59, (80, 60, [], [])), (60, (17, 61, [2], [])), (61, (22, 64, [3], [1])), (64, (73, 67, [14], [])), (67, (11, 68, [2], [])), (68, (110, 69, [], []))]
/-- PitInspectorModel.hoursOf(I)I -/
noncomputable def mt_324 : MTy := (⟨"PitInspectorModel", "hoursOf", "(I)I"⟩, prog_14_method_118_code, 4, some .int, 12, 12, 1, (0, 0), 1, [2275, 14, 2274, 108], cd_324)
noncomputable def cd_325 : List (Nat × Ins) := [(0, (15, 1, [0], [])), (1, (90, 4, [12, 16, 288], [])), (4, (3, 7, [], [200])), (7, (66, 10, [18], [])), (10, (15, 11, [0], [])), (11, (11, 12, [1], [])), (12, (100, 15, [212, 2, 305], [])), (15, (61, 18, [20], [])), (18, (1, 19, [], [0])), (19, (110, 20, [], [])), (20, (15, 21, [0], [])), (21, (91, 24, [12, 26, 188], [])), (24, (11, 25, [1], [])), (25, (57, 26, [], [])), (26, (80, 27, [], [])), (27, (1, 28, [], [1])), (28, (30, 29, [], [])), (29, (84, 30, [], [])), (30, (15, 31, [0], [])), (31, (56, 32, [], [])), (32, (90, 35, [12, 16, 288], [])), (35, (1, 36, [], [1])), (36, (30, 37, [], [])), (37, (92, 40, [12, 16, 288], [])), (40, (1, 41, [], [1])), (41, (110, 42, [], []))]
/-- PitInspectorModel.fall(I)Z -/
noncomputable def mt_325 : MTy := (⟨"PitInspectorModel", "fall", "(I)Z"⟩, prog_14_method_120_code, 2, some .boolean, 12, 12, 2, (0, 0), 1, [2279, 14, 2277, 2391], cd_325)
noncomputable def cd_326 : List (Nat × Ins) := [(0, (11, 1, [1], [])), (1, (42, 2, [], [])), (2, (6, 3, [], [0])), (3, (7, 6, [3], [7])), (6, (102, 9, [209, 3, 304], [])), (9, (61, 12, [14], [])), (12, (1, 13, [], [-1])), (13, (110, 14, [], [])), (14, (6, 15, [], [0])), (15, (19, 16, [2], [])), (16, (6, 17, [], [0])), (17, (18, 19, [4], [])), (19, (6, 20, [], [0])), (20, (18, 22, [6], [])), (22, (1, 23, [], [0])), (23, (16, 25, [8], [])), (25, (10, 27, [8], [])), (27, (15, 28, [0], [])), (28, (90, 31, [12, 3, 263], [])), (31, (69, 34, [107], [])), (34, (13, 35, [2], [])), (35, (15, 36, [0], [])), (36, (91, 39, [12, 24, 186], [])), (39, (10, 41, [8], [])), (41, (80, 42, [], [])), (42, (42, 43, [], [])), (43, (46, 44, [], [])), (44, (19, 45, [2], [])), (45, (12, 47, [4], [])), (47, (15, 48, [0], [])), (48, (91, 51, [12, 21, 183], [])), (51, (10, 53, [8], [])), (53, (80, 54, [], [])), (54, (11, 55, [1], [])), (55, (67, 58, [69], [])), (58, (15, 59, [0], [])), (59, (91, 62, [12, 24, 186], [])), (62, (10, 64, [8], [])), (64, (80, 65, [], [])), (65, (42, 66, [], [])), (66, (73, 69, [70], [])), (69, (6, 70, [], [0])), (70, (46, 71, [], [])), (71, (18, 73, [4], [])), (73, (12, 75, [6], [])), (75, (15, 76, [0], [])), (76, (91, 79, [12, 21, 183], [])), (79, (10, 81, [8], [])), (81, (80, 82, [], [])), (82, (11, 83, [1], [])), (83, (67, 86, [97], [])), (86, (15, 87, [0], [])), (87, (91, 90, [12, 26, 188], [])), (90, (10, 92, [8], [])), (92, (80, 93, [], [])), (93, (42, 94, [], [])), (94, (73, 97, [98], [])), (97, (6, 98, [], [0])), (98, (46, 99, [], [])), (99, (18, 101, [6], [])), (101, (22, 104, [8], [1])), (104, (73, 107, [25], [])), (107, (12, 109, [6], [])), (109, (13, 110, [2], [])), (110, (48, 111, [], [])), (111, (15, 112, [0], [])), (112, (90, 115, [12, 16, 288], [])), (115, (42, 116, [], [])), (116, (12, 118, [4], [])), (118, (48, 119, [], [])), (119, (47, 120, [], [])), (120, (18, 122, [8], [])), (122, (12, 124, [8], [])), (124, (6, 125, [], [0])), (125, (51, 126, [], [])), (126, (65, 129, [156], [])), (129, (12, 131, [8], [])), (131, (12, 133, [8], [])), (133, (48, 134, [], [])), (134, (7, 137, [6], [4])), (137, (15, 138, [0], [])), (138, (90, 141, [12, 16, 288], [])), (141, (42, 142, [], [])), (142, (48, 143, [], [])), (143, (12, 145, [4], [])), (145, (48, 146, [], [])), (146, (13, 147, [2], [])), (147, (48, 148, [], [])), (148, (51, 149, [], [])), (149, (65, 152, [156], [])), (152, (1, 153, [], [1])), (153, (73, 156, [157], [])), (156, (1, 157, [], [0])), (157, (110, 158, [], []))]
/-- PitInspectorModel.beyond(I)I -/
noncomputable def mt_326 : MTy := (⟨"PitInspectorModel", "beyond", "(I)I"⟩, prog_14_method_121_code, 10, some .int, 12, 12, 1, (0, 0), 1, [2283, 14, 2281, 2395], cd_326)
noncomputable def cd_327 : List (Nat × Ins) := [(0, (11, 1, [1], [])), (1, (42, 2, [], [])), (2, (6, 3, [], [1])), (3, (7, 6, [20], [16])), (6, (102, 9, [209, 3, 304], [])), (9, (61, 12, [14], [])), (12, (1, 13, [], [0])), (13, (110, 14, [], [])), (14, (15, 15, [0], [])), (15, (11, 16, [1], [])), (16, (92, 19, [12, 19, 181], [])), (19, (1, 20, [], [1])), (20, (110, 21, [], []))]
/-- PitInspectorModel.inspectors(I)Z -/
noncomputable def mt_327 : MTy := (⟨"PitInspectorModel", "inspectors", "(I)Z"⟩, prog_14_method_122_code, 2, some .boolean, 12, 12, 2, (0, 0), 1, [2287, 14, 2285, 2399], cd_327)
noncomputable def cd_328 : List (Nat × Ins) := [(0, (15, 1, [0], [])), (1, (11, 2, [1], [])), (2, (100, 5, [212, 2, 305], [])), (5, (60, 8, [16], [])), (8, (15, 9, [0], [])), (9, (11, 10, [1], [])), (10, (100, 13, [329, 2, 377], [])), (13, (73, 16, [17], [])), (16, (1, 17, [], [-1])), (17, (110, 18, [], []))]
/-- PitInspectorModel.worth(I)I -/
noncomputable def mt_328 : MTy := (⟨"PitInspectorModel", "worth", "(I)I"⟩, prog_14_method_124_code, 2, some .int, 12, 12, 1, (0, 0), 1, [2292, 14, 2290, 2404], cd_328)
noncomputable def cd_329 : List (Nat × Ins) := [(0, (15, 1, [0], [])), (1, (91, 4, [12, 23, 185], [])), (4, (11, 5, [1], [])), (5, (80, 6, [], [])), (6, (15, 7, [0], [])), (7, (91, 10, [12, 22, 184], [])), (10, (11, 11, [1], [])), (11, (80, 12, [], [])), (12, (2, 14, [], [10])), (14, (33, 15, [], [])), (15, (30, 16, [], [])), (16, (2, 18, [], [20])), (18, (15, 19, [0], [])), (19, (11, 20, [1], [])), (20, (1, 21, [], [-1])), (21, (100, 24, [277, 3, 347], [])), (24, (32, 25, [], [])), (25, (30, 26, [], [])), (26, (110, 27, [], []))]
/-- PitInspectorModel.worthOfPit(I)I -/
noncomputable def mt_329 : MTy := (⟨"PitInspectorModel", "worthOfPit", "(I)I"⟩, prog_14_method_123_code, 2, some .int, 12, 12, 1, (0, 0), 1, [2296, 14, 2295, 109], cd_329)
noncomputable def cd_330 : List (Nat × Ins) := [(0, (11, 1, [1], [])), (1, (42, 2, [], [])), (2, (6, 3, [], [1])), (3, (15, 4, [0], [])), (4, (90, 7, [12, 3, 263], [])), (7, (42, 8, [], [])), (8, (102, 11, [209, 3, 304], [])), (11, (60, 14, [38], [])), (14, (11, 15, [2], [])), (15, (42, 16, [], [])), (16, (6, 17, [], [0])), (17, (7, 20, [5], [100])), (20, (102, 23, [209, 3, 304], [])), (23, (60, 26, [38], [])), (26, (11, 27, [3], [])), (27, (42, 28, [], [])), (28, (6, 29, [], [0])), (29, (7, 32, [21], [134455])), (32, (102, 35, [209, 3, 304], [])), (35, (61, 38, [40], [])), (38, (1, 39, [], [-1])), (39, (110, 40, [], [])), (40, (1, 41, [], [0])), (41, (16, 43, [4], [])), (43, (10, 45, [4], [])), (45, (15, 46, [0], [])), (46, (90, 49, [12, 3, 263], [])), (49, (69, 52, [79], [])), (52, (15, 53, [0], [])), (53, (91, 56, [12, 105, 256], [])), (56, (10, 58, [4], [])), (58, (15, 59, [0], [])), (59, (10, 61, [4], [])), (61, (100, 64, [329, 2, 377], [])), (64, (84, 65, [], [])), (65, (15, 66, [0], [])), (66, (91, 69, [12, 106, 257], [])), (69, (10, 71, [4], [])), (71, (1, 72, [], [0])), (72, (85, 73, [], [])), (73, (22, 76, [4], [1])), (76, (73, 79, [43], [])), (79, (15, 80, [0], [])), (80, (1, 81, [], [0])), (81, (92, 84, [12, 17, 289], [])), (84, (11, 85, [1], [])), (85, (11, 86, [2], [])), (86, (32, 87, [], [])), (87, (2, 89, [], [100])), (89, (33, 90, [], [])), (90, (16, 92, [4], [])), (92, (11, 93, [3], [])), (93, (16, 95, [5], [])), (95, (1, 96, [], [0])), (96, (16, 98, [6], [])), (98, (10, 100, [6], [])), (100, (2, 102, [], [60])), (102, (69, 105, [164], [])), (105, (15, 106, [0], [])), (106, (90, 109, [12, 17, 289], [])), (109, (10, 111, [4], [])), (111, (69, 114, [164], [])), (114, (7, 117, [22], [8121])), (117, (10, 119, [5], [])), (119, (42, 120, [], [])), (120, (48, 121, [], [])), (121, (7, 124, [23], [28411])), (124, (46, 125, [], [])), (125, (7, 128, [24], [134456])), (128, (50, 129, [], [])), (129, (43, 130, [], [])), (130, (16, 132, [5], [])), (132, (15, 133, [0], [])), (133, (91, 136, [12, 106, 257], [])), (136, (10, 138, [5], [])), (138, (15, 139, [0], [])), (139, (90, 142, [12, 3, 263], [])), (142, (34, 143, [], [])), (143, (81, 144, [], [])), (144, (61, 147, [158], [])), (147, (15, 148, [0], [])), (148, (10, 150, [5], [])), (150, (15, 151, [0], [])), (151, (90, 154, [12, 3, 263], [])), (154, (34, 155, [], [])), (155, (100, 158, [331, 2, 378], [])), (158, (22, 161, [6], [1])), (161, (73, 164, [98], [])), (164, (15, 165, [0], [])), (165, (90, 168, [12, 17, 289], [])), (168, (16, 170, [6], [])), (170, (15, 171, [0], [])), (171, (90, 174, [12, 17, 289], [])), (174, (11, 175, [1], [])), (175, (69, 178, [245], [])), (178, (1, 179, [], [-1])), (179, (16, 181, [7], [])), (181, (1, 182, [], [0])), (182, (16, 184, [8], [])), (184, (10, 186, [8], [])), (186, (15, 187, [0], [])), (187, (90, 190, [12, 3, 263], [])), (190, (69, 193, [236], [])), (193, (15, 194, [0], [])), (194, (91, 197, [12, 106, 257], [])), (197, (10, 199, [8], [])), (199, (81, 200, [], [])), (200, (61, 203, [230], [])), (203, (10, 205, [7], [])), (205, (1, 206, [], [-1])), (206, (66, 209, [226], [])), (209, (15, 210, [0], [])), (210, (91, 213, [12, 105, 256], [])), (213, (10, 215, [8], [])), (215, (80, 216, [], [])), (216, (15, 217, [0], [])), (217, (91, 220, [12, 105, 256], [])), (220, (10, 222, [7], [])), (222, (80, 223, [], [])), (223, (71, 226, [230], [])), (226, (10, 228, [8], [])), (228, (16, 230, [7], [])), (230, (22, 233, [8], [1])), (233, (73, 236, [184], [])), (236, (15, 237, [0], [])), (237, (10, 239, [7], [])), (239, (100, 242, [331, 2, 378], [])), (242, (73, 245, [170], [])), (245, (10, 247, [6], [])), (247, (110, 248, [], []))]
/-- PitInspectorModel.send(III)I -/
noncomputable def mt_330 : MTy := (⟨"PitInspectorModel", "send", "(III)I"⟩, prog_14_method_126_code, 9, some .int, 12, 12, 1, (0, 0), 3, [2300, 14, 2298, 2412], cd_330)
noncomputable def cd_331 : List (Nat × Ins) := [(0, (15, 1, [0], [])), (1, (90, 4, [12, 17, 289], [])), (4, (15, 5, [0], [])), (5, (90, 8, [12, 19, 181], [])), (8, (34, 9, [], [])), (9, (17, 10, [2], [])), (10, (11, 11, [2], [])), (11, (15, 12, [0], [])), (12, (91, 15, [12, 27, 189], [])), (15, (11, 16, [1], [])), (16, (80, 17, [], [])), (17, (67, 20, [31], [])), (20, (11, 21, [2], [])), (21, (1, 22, [], [1])), (22, (30, 23, [], [])), (23, (15, 24, [0], [])), (24, (90, 27, [12, 19, 181], [])), (27, (34, 28, [], [])), (28, (73, 31, [32], [])), (31, (11, 32, [2], [])), (32, (17, 33, [2], [])), (33, (15, 34, [0], [])), (34, (91, 37, [12, 103, 254], [])), (37, (15, 38, [0], [])), (38, (90, 41, [12, 17, 289], [])), (41, (11, 42, [1], [])), (42, (84, 43, [], [])), (43, (15, 44, [0], [])), (44, (91, 47, [12, 104, 255], [])), (47, (15, 48, [0], [])), (48, (90, 51, [12, 17, 289], [])), (51, (11, 52, [2], [])), (52, (84, 53, [], [])), (53, (15, 54, [0], [])), (54, (91, 57, [12, 27, 189], [])), (57, (11, 58, [1], [])), (58, (11, 59, [2], [])), (59, (84, 60, [], [])), (60, (15, 61, [0], [])), (61, (91, 64, [12, 106, 257], [])), (64, (11, 65, [1], [])), (65, (1, 66, [], [1])), (66, (85, 67, [], [])), (67, (15, 68, [0], [])), (68, (56, 69, [], [])), (69, (90, 72, [12, 17, 289], [])), (72, (1, 73, [], [1])), (73, (30, 74, [], [])), (74, (92, 77, [12, 17, 289], [])), (77, (112, 78, [], []))]
/-- PitInspectorModel.sends(I)V -/
noncomputable def mt_331 : MTy := (⟨"PitInspectorModel", "sends", "(I)V"⟩, prog_14_method_125_code, 3, none, 12, 12, 0, (0, 0), 1, [2308, 14, 2307, 110], cd_331)
noncomputable def cd_332 : List (Nat × Ins) := [(0, (11, 1, [1], [])), (1, (42, 2, [], [])), (2, (6, 3, [], [0])), (3, (15, 4, [0], [])), (4, (90, 7, [12, 17, 289], [])), (7, (1, 8, [], [1])), (8, (31, 9, [], [])), (9, (42, 10, [], [])), (10, (102, 13, [209, 3, 304], [])), (13, (61, 16, [20], [])), (16, (1, 17, [], [-1])), (17, (73, 20, [48], [])), (20, (11, 21, [2], [])), (21, (61, 24, [33], [])), (24, (15, 25, [0], [])), (25, (91, 28, [12, 103, 254], [])), (28, (11, 29, [1], [])), (29, (80, 30, [], [])), (30, (73, 33, [48], [])), (33, (11, 34, [2], [])), (34, (1, 35, [], [1])), (35, (67, 38, [47], [])), (38, (15, 39, [0], [])), (39, (91, 42, [12, 104, 255], [])), (42, (11, 43, [1], [])), (43, (80, 44, [], [])), (44, (73, 47, [48], [])), (47, (1, 48, [], [-1])), (48, (110, 49, [], []))]
/-- PitInspectorModel.look(II)I -/
noncomputable def mt_332 : MTy := (⟨"PitInspectorModel", "look", "(II)I"⟩, prog_14_method_127_code, 3, some .int, 12, 12, 1, (0, 0), 2, [2312, 14, 2310, 2424], cd_332)
noncomputable def cd_333 : List (Nat × Ins) := [(0, (15, 1, [0], [])), (1, (90, 4, [12, 18, 290], [])), (4, (2, 6, [], [16])), (6, (66, 9, [54], [])), (9, (15, 10, [0], [])), (10, (11, 11, [1], [])), (11, (100, 14, [310, 2, 373], [])), (14, (60, 17, [54], [])), (17, (15, 18, [0], [])), (18, (11, 19, [2], [])), (19, (100, 22, [286, 2, 351], [])), (22, (60, 25, [54], [])), (25, (15, 26, [0], [])), (26, (91, 29, [12, 62, 213], [])), (29, (11, 30, [2], [])), (30, (80, 31, [], [])), (31, (15, 32, [0], [])), (32, (91, 35, [12, 28, 190], [])), (35, (11, 36, [1], [])), (36, (80, 37, [], [])), (37, (67, 40, [54], [])), (40, (11, 41, [3], [])), (41, (42, 42, [], [])), (42, (6, 43, [], [0])), (43, (15, 44, [0], [])), (44, (90, 47, [12, 2, 262], [])), (47, (42, 48, [], [])), (48, (102, 51, [209, 3, 304], [])), (51, (61, 54, [56], [])), (54, (1, 55, [], [-1])), (55, (110, 56, [], [])), (56, (15, 57, [0], [])), (57, (91, 60, [12, 107, 258], [])), (60, (15, 61, [0], [])), (61, (90, 64, [12, 18, 290], [])), (64, (11, 65, [1], [])), (65, (84, 66, [], [])), (66, (15, 67, [0], [])), (67, (91, 70, [12, 108, 259], [])), (70, (15, 71, [0], [])), (71, (90, 74, [12, 18, 290], [])), (74, (11, 75, [2], [])), (75, (84, 76, [], [])), (76, (15, 77, [0], [])), (77, (91, 80, [12, 109, 260], [])), (80, (15, 81, [0], [])), (81, (90, 84, [12, 18, 290], [])), (84, (11, 85, [3], [])), (85, (84, 86, [], [])), (86, (15, 87, [0], [])), (87, (56, 88, [], [])), (88, (90, 91, [12, 18, 290], [])), (91, (1, 92, [], [1])), (92, (30, 93, [], [])), (93, (92, 96, [12, 18, 290], [])), (96, (15, 97, [0], [])), (97, (90, 100, [12, 18, 290], [])), (100, (1, 101, [], [1])), (101, (31, 102, [], [])), (102, (110, 103, [], []))]
/-- PitInspectorModel.seen(III)I -/
noncomputable def mt_333 : MTy := (⟨"PitInspectorModel", "seen", "(III)I"⟩, prog_14_method_128_code, 4, some .int, 12, 12, 1, (0, 0), 3, [2316, 14, 2314, 2428], cd_333)
noncomputable def cd_334 : List (Nat × Ins) := [(0, (11, 1, [1], [])), (1, (42, 2, [], [])), (2, (6, 3, [], [1])), (3, (7, 6, [25], [60])), (6, (102, 9, [209, 3, 304], [])), (9, (61, 12, [14], [])), (12, (1, 13, [], [0])), (13, (110, 14, [], [])), (14, (15, 15, [0], [])), (15, (11, 16, [1], [])), (16, (92, 19, [12, 20, 182], [])), (19, (1, 20, [], [1])), (20, (110, 21, [], []))]
/-- PitInspectorModel.pace(I)Z -/
noncomputable def mt_334 : MTy := (⟨"PitInspectorModel", "pace", "(I)Z"⟩, prog_14_method_129_code, 2, some .boolean, 12, 12, 2, (0, 0), 1, [2320, 14, 2318, 2432], cd_334)
noncomputable def cd_335 : List (Nat × Ins) := [(0, (11, 1, [1], [])), (1, (42, 2, [], [])), (2, (6, 3, [], [0])), (3, (1, 4, [], [1])), (4, (15, 5, [0], [])), (5, (90, 8, [12, 18, 290], [])), (8, (36, 9, [], [])), (9, (1, 10, [], [1])), (10, (31, 11, [], [])), (11, (42, 12, [], [])), (12, (102, 15, [209, 3, 304], [])), (15, (61, 18, [20], [])), (18, (1, 19, [], [-1])), (19, (110, 20, [], [])), (20, (15, 21, [0], [])), (21, (100, 24, [336, 1, 380], [])), (24, (15, 25, [0], [])), (25, (11, 26, [1], [])), (26, (100, 29, [337, 2, 381], [])), (29, (60, 32, [36], [])), (32, (1, 33, [], [1])), (33, (73, 36, [37], [])), (36, (1, 37, [], [0])), (37, (110, 38, [], []))]
/-- PitInspectorModel.judge(I)I -/
noncomputable def mt_335 : MTy := (⟨"PitInspectorModel", "judge", "(I)I"⟩, prog_14_method_132_code, 2, some .int, 12, 12, 1, (0, 0), 1, [2325, 14, 2323, 2437], cd_335)
noncomputable def cd_336 : List (Nat × Ins) := [(0, (1, 1, [], [0])), (1, (17, 2, [1], [])), (2, (11, 3, [1], [])), (3, (15, 4, [0], [])), (4, (90, 7, [12, 18, 290], [])), (7, (69, 10, [128], [])), (10, (15, 11, [0], [])), (11, (91, 14, [12, 110, 261], [])), (14, (11, 15, [1], [])), (15, (1, 16, [], [0])), (16, (84, 17, [], [])), (17, (15, 18, [0], [])), (18, (15, 19, [0], [])), (19, (91, 22, [12, 108, 259], [])), (22, (11, 23, [1], [])), (23, (80, 24, [], [])), (24, (1, 25, [], [1])), (25, (1, 26, [], [-1])), (26, (100, 29, [256, 4, 356], [])), (29, (1, 30, [], [0])), (30, (17, 31, [2], [])), (31, (11, 32, [2], [])), (32, (15, 33, [0], [])), (33, (90, 36, [12, 18, 290], [])), (36, (69, 39, [122], [])), (39, (15, 40, [0], [])), (40, (91, 43, [12, 107, 258], [])), (43, (11, 44, [1], [])), (44, (80, 45, [], [])), (45, (15, 46, [0], [])), (46, (91, 49, [12, 107, 258], [])), (49, (11, 50, [2], [])), (50, (80, 51, [], [])), (51, (67, 54, [116], [])), (54, (11, 55, [1], [])), (55, (11, 56, [2], [])), (56, (67, 59, [62], [])), (59, (73, 62, [116], [])), (62, (15, 63, [0], [])), (63, (91, 66, [12, 72, 223], [])), (66, (15, 67, [0], [])), (67, (91, 70, [12, 108, 259], [])), (70, (11, 71, [2], [])), (71, (80, 72, [], [])), (72, (80, 73, [], [])), (73, (17, 74, [3], [])), (74, (11, 75, [3], [])), (75, (1, 76, [], [-1])), (76, (66, 79, [104], [])), (79, (11, 80, [3], [])), (80, (15, 81, [0], [])), (81, (90, 84, [12, 20, 182], [])), (84, (32, 85, [], [])), (85, (15, 86, [0], [])), (86, (91, 89, [12, 109, 260], [])), (89, (11, 90, [1], [])), (90, (80, 91, [], [])), (91, (15, 92, [0], [])), (92, (91, 95, [12, 109, 260], [])), (95, (11, 96, [2], [])), (96, (80, 97, [], [])), (97, (31, 98, [], [])), (98, (102, 101, [271, 1, 366], [])), (101, (71, 104, [116], [])), (104, (15, 105, [0], [])), (105, (91, 108, [12, 110, 261], [])), (108, (11, 109, [1], [])), (109, (57, 110, [], [])), (110, (80, 111, [], [])), (111, (1, 112, [], [1])), (112, (11, 113, [2], [])), (113, (36, 114, [], [])), (114, (40, 115, [], [])), (115, (84, 116, [], [])), (116, (22, 119, [2], [1])), (119, (73, 122, [31], [])), (122, (22, 125, [1], [1])), (125, (73, 128, [2], [])), (128, (112, 129, [], []))]
/-- PitInspectorModel.weighs()V -/
noncomputable def mt_336 : MTy := (⟨"PitInspectorModel", "weighs", "()V"⟩, prog_14_method_130_code, 4, none, 12, 12, 0, (0, 0), 0, [2329, 14, 2328, 111], cd_336)
noncomputable def cd_337 : List (Nat × Ins) := [(0, (1, 1, [], [0])), (1, (17, 2, [2], [])), (2, (11, 3, [2], [])), (3, (15, 4, [0], [])), (4, (90, 7, [12, 18, 290], [])), (7, (69, 10, [37], [])), (10, (11, 11, [1], [])), (11, (11, 12, [2], [])), (12, (102, 15, [338, 2, 379], [])), (15, (60, 18, [31], [])), (18, (15, 19, [0], [])), (19, (91, 22, [12, 110, 261], [])), (22, (11, 23, [2], [])), (23, (80, 24, [], [])), (24, (11, 25, [1], [])), (25, (39, 26, [], [])), (26, (60, 29, [31], [])), (29, (1, 30, [], [0])), (30, (110, 31, [], [])), (31, (22, 34, [2], [1])), (34, (73, 37, [2], [])), (37, (1, 38, [], [1])), (38, (110, 39, [], []))]
/-- PitInspectorModel.canBe(I)Z -/
noncomputable def mt_337 : MTy := (⟨"PitInspectorModel", "canBe", "(I)Z"⟩, prog_14_method_131_code, 3, some .boolean, 12, 12, 2, (0, 0), 1, [2333, 14, 2332, 112], cd_337)
noncomputable def cd_338 : List (Nat × Ins) := [(0, (11, 1, [0], [])), (1, (11, 2, [1], [])), (2, (37, 3, [], [])), (3, (1, 4, [], [1])), (4, (39, 5, [], [])), (5, (1, 6, [], [1])), (6, (67, 9, [13], [])), (9, (1, 10, [], [1])), (10, (73, 13, [14], [])), (13, (1, 14, [], [0])), (14, (110, 15, [], []))]
/-- PitInspectorModel.has(II)Z -/
noncomputable def mt_338 : MTy := (⟨"PitInspectorModel", "has", "(II)Z"⟩, prog_14_method_3_code, 2, some .boolean, 12, 50, 2, (0, 0), 2, [2336, 14, 2335, 0], cd_338)
noncomputable def cd_339 : List (Nat × Ins) := [(0, (15, 1, [0], [])), (1, (100, 4, [336, 1, 380], [])), (4, (1, 5, [], [0])), (5, (17, 6, [1], [])), (6, (1, 7, [], [1])), (7, (17, 8, [2], [])), (8, (11, 9, [2], [])), (9, (1, 10, [], [1])), (10, (15, 11, [0], [])), (11, (90, 14, [12, 18, 290], [])), (14, (36, 15, [], [])), (15, (69, 18, [45], [])), (18, (11, 19, [2], [])), (19, (102, 22, [340, 1, 382], [])), (22, (11, 23, [1], [])), (23, (102, 26, [340, 1, 382], [])), (26, (71, 29, [39], [])), (29, (15, 30, [0], [])), (30, (11, 31, [2], [])), (31, (100, 34, [337, 2, 381], [])), (34, (60, 37, [39], [])), (37, (11, 38, [2], [])), (38, (17, 39, [1], [])), (39, (22, 42, [2], [1])), (42, (73, 45, [8], [])), (45, (11, 46, [1], [])), (46, (110, 47, [], []))]
/-- PitInspectorModel.most()I -/
noncomputable def mt_339 : MTy := (⟨"PitInspectorModel", "most", "()I"⟩, prog_14_method_134_code, 3, some .int, 12, 12, 1, (0, 0), 0, [2340, 14, 2338, 2452], cd_339)
noncomputable def cd_340 : List (Nat × Ins) := [(0, (1, 1, [], [0])), (1, (17, 2, [1], [])), (2, (11, 3, [0], [])), (3, (17, 4, [2], [])), (4, (11, 5, [2], [])), (5, (60, 8, [20], [])), (8, (22, 11, [1], [1])), (11, (11, 12, [2], [])), (12, (11, 13, [2], [])), (13, (1, 14, [], [1])), (14, (31, 15, [], [])), (15, (39, 16, [], [])), (16, (17, 17, [2], [])), (17, (73, 20, [4], [])), (20, (11, 21, [1], [])), (21, (110, 22, [], []))]
/-- PitInspectorModel.sizeOf(I)I -/
noncomputable def mt_340 : MTy := (⟨"PitInspectorModel", "sizeOf", "(I)I"⟩, prog_14_method_133_code, 3, some .int, 12, 50, 1, (0, 0), 1, [2343, 14, 2342, 0], cd_340)
noncomputable def cd_341 : List (Nat × Ins) := [(0, (15, 1, [0], [])), (1, (11, 2, [1], [])), (2, (100, 5, [310, 2, 373], [])), (5, (61, 8, [10], [])), (8, (1, 9, [], [-1])), (9, (110, 10, [], [])), (10, (11, 11, [2], [])), (11, (74, 40, [96, 40, 47, 54, 70], [0, 1, 2, 3])), (40, (15, 41, [0], [])), (41, (91, 44, [12, 28, 190], [])), (44, (11, 45, [1], [])), (45, (80, 46, [], [])), (46, (110, 47, [], [])), (47, (15, 48, [0], [])), (48, (91, 51, [12, 29, 191], [])), (51, (11, 52, [1], [])), (52, (80, 53, [], [])), (53, (110, 54, [], [])), (54, (15, 55, [0], [])), (55, (91, 58, [12, 30, 192], [])), (58, (11, 59, [1], [])), (59, (80, 60, [], [])), (60, (1, 61, [], [-1])), (61, (66, 64, [68], [])), (64, (1, 65, [], [1])), (65, (73, 68, [69], [])), (68, (1, 69, [], [0])), (69, (110, 70, [], [])), (70, (15, 71, [0], [])), (71, (91, 74, [12, 30, 192], [])), (74, (11, 75, [1], [])), (75, (80, 76, [], [])), (76, (1, 77, [], [-1])), (77, (66, 80, [94], [])), (80, (15, 81, [0], [])), (81, (91, 84, [12, 96, 247], [])), (84, (15, 85, [0], [])), (85, (91, 88, [12, 30, 192], [])), (88, (11, 89, [1], [])), (89, (80, 90, [], [])), (90, (80, 91, [], [])), (91, (73, 94, [95], [])), (94, (1, 95, [], [-1])), (95, (110, 96, [], [])), (96, (1, 97, [], [-1])), (97, (110, 98, [], []))]
/-- PitInspectorModel.about(II)I -/
noncomputable def mt_341 : MTy := (⟨"PitInspectorModel", "about", "(II)I"⟩, prog_14_method_135_code, 3, some .int, 12, 12, 1, (0, 0), 2, [2347, 14, 2345, 2459], cd_341)
noncomputable def cd_342 : List (Nat × Ins) := [(0, (11, 1, [1], [])), (1, (42, 2, [], [])), (2, (7, 5, [26], [20])), (5, (2, 7, [], [19])), (7, (15, 8, [0], [])), (8, (90, 11, [12, 3, 263], [])), (11, (30, 12, [], [])), (12, (42, 13, [], [])), (13, (102, 16, [209, 3, 304], [])), (16, (60, 19, [28], [])), (19, (15, 20, [0], [])), (20, (11, 21, [1], [])), (21, (2, 23, [], [20])), (23, (31, 24, [], [])), (24, (100, 27, [253, 2, 335], [])), (27, (110, 28, [], [])), (28, (11, 29, [1], [])), (29, (74, 116, [206, 116, 121, 126, 131, 136, 141, 146, 151, 156, 161, 166, 171, 176, 181, 186, 191, 196, 201], [0, 1, 2, 3, 4, 5, 6, 7, 8, 9, 10, 11, 12, 13, 14, 15, 16, 17])), (116, (15, 117, [0], [])), (117, (90, 120, [12, 2, 262], [])), (120, (110, 121, [], [])), (121, (15, 122, [0], [])), (122, (90, 125, [12, 3, 263], [])), (125, (110, 126, [], [])), (126, (15, 127, [0], [])), (127, (90, 130, [12, 4, 264], [])), (130, (110, 131, [], [])), (131, (15, 132, [0], [])), (132, (90, 135, [12, 5, 269], [])), (135, (110, 136, [], [])), (136, (15, 137, [0], [])), (137, (90, 140, [12, 6, 279], [])), (140, (110, 141, [], [])), (141, (15, 142, [0], [])), (142, (90, 145, [12, 7, 280], [])), (145, (110, 146, [], [])), (146, (15, 147, [0], [])), (147, (90, 150, [12, 8, 281], [])), (150, (110, 151, [], [])), (151, (15, 152, [0], [])), (152, (90, 155, [12, 9, 282], [])), (155, (110, 156, [], [])), (156, (15, 157, [0], [])), (157, (90, 160, [12, 10, 283], [])), (160, (110, 161, [], [])), (161, (15, 162, [0], [])), (162, (90, 165, [12, 11, 284], [])), (165, (110, 166, [], [])), (166, (15, 167, [0], [])), (167, (90, 170, [12, 12, 285], [])), (170, (110, 171, [], [])), (171, (15, 172, [0], [])), (172, (90, 175, [12, 13, 286], [])), (175, (110, 176, [], [])), (176, (15, 177, [0], [])), (177, (90, 180, [12, 14, 277], [])), (180, (110, 181, [], [])), (181, (15, 182, [0], [])), (182, (90, 185, [12, 15, 287], [])), (185, (110, 186, [], [])), (186, (15, 187, [0], [])), (187, (90, 190, [12, 16, 288], [])), (190, (110, 191, [], [])), (191, (15, 192, [0], [])), (192, (90, 195, [12, 17, 289], [])), (195, (110, 196, [], [])), (196, (15, 197, [0], [])), (197, (90, 200, [12, 18, 290], [])), (200, (110, 201, [], [])), (201, (15, 202, [0], [])), (202, (90, 205, [12, 1, 265], [])), (205, (110, 206, [], [])), (206, (1, 207, [], [-1])), (207, (110, 208, [], []))]
/-- PitInspectorModel.count(I)I -/
noncomputable def mt_342 : MTy := (⟨"PitInspectorModel", "count", "(I)I"⟩, prog_14_method_136_code, 2, some .int, 12, 12, 1, (0, 0), 1, [2351, 14, 2349, 2463], cd_342)
noncomputable def cd_343 : List (Nat × Ins) := [(0, (11, 1, [0], [])), (1, (11, 2, [0], [])), (2, (1, 3, [], [1])), (3, (38, 4, [], [])), (4, (5, 7, [10], [1431655765])), (7, (39, 8, [], [])), (8, (31, 9, [], [])), (9, (17, 10, [0], [])), (10, (11, 11, [0], [])), (11, (5, 14, [11], [858993459])), (14, (39, 15, [], [])), (15, (11, 16, [0], [])), (16, (1, 17, [], [2])), (17, (38, 18, [], [])), (18, (5, 21, [11], [858993459])), (21, (39, 22, [], [])), (22, (30, 23, [], [])), (23, (17, 24, [0], [])), (24, (11, 25, [0], [])), (25, (11, 26, [0], [])), (26, (1, 27, [], [4])), (27, (38, 28, [], [])), (28, (30, 29, [], [])), (29, (5, 32, [12], [252645135])), (32, (39, 33, [], [])), (33, (17, 34, [0], [])), (34, (11, 35, [0], [])), (35, (11, 36, [0], [])), (36, (2, 38, [], [8])), (38, (38, 39, [], [])), (39, (30, 40, [], [])), (40, (17, 41, [0], [])), (41, (11, 42, [0], [])), (42, (11, 43, [0], [])), (43, (2, 45, [], [16])), (45, (38, 46, [], [])), (46, (30, 47, [], [])), (47, (17, 48, [0], [])), (48, (11, 49, [0], [])), (49, (2, 51, [], [63])), (51, (39, 52, [], [])), (52, (110, 53, [], []))]
/-- java/lang/Integer.bitCount(I)I -/
noncomputable def mt_343 : MTy := (⟨"java/lang/Integer", "bitCount", "(I)I"⟩, prog_16_method_49_code, 1, some .int, 14, 50, 1, (0, 0), 1, [1443, 22, 1442, 0], cd_343)
noncomputable def cd_344 : List (Nat × Ins) := [(0, (1, 1, [], [0])), (1, (17, 2, [2], [])), (2, (15, 3, [0], [])), (3, (88, 4, [], [])), (4, (17, 5, [3], [])), (5, (11, 6, [2], [])), (6, (11, 7, [3], [])), (7, (69, 10, [20], [])), (10, (15, 11, [0], [])), (11, (11, 12, [2], [])), (12, (11, 13, [1], [])), (13, (84, 14, [], [])), (14, (22, 17, [2], [1])), (17, (73, 20, [5], [])), (20, (112, 21, [], []))]
/-- java/util/Arrays.fill([II)V -/
noncomputable def mt_344 : MTy := (⟨"java/util/Arrays", "fill", "([II)V"⟩, prog_22_method_103_code, 4, none, 15, 50, 0, (0, 0), 2, [219, 7, 218, 0], cd_344)
noncomputable def cd_345_0 : List (Nat × Ins) := [(0, (78, 3, [0, 11], [])), (3, (56, 4, [], [])), (4, (104, 7, [0, 1, 190], [])), (7, (21, 8, [1], [])), (8, (78, 11, [12, 12], [])), (11, (56, 12, [], [])), (12, (104, 15, [207, 1, 191], [])), (15, (21, 16, [2], [])), (16, (1, 17, [], [0])), (17, (17, 18, [3], [])), (18, (11, 19, [3], [])), (19, (15, 20, [0], [])), (20, (88, 21, [], [])), (21, (2, 23, [], [8])), (23, (31, 24, [], [])), (24, (70, 27, [2249], [])), (27, (15, 28, [0], [])), (28, (11, 29, [3], [])), (29, (80, 30, [], [])), (30, (2, 32, [], [63])), (32, (39, 33, [], [])), (33, (74, 272, [2243, 272, 295, 348, 391, 424, 487, 540, 573, 616, 639, 682, 706, 729, 752, 821, 870, 923, 946, 969, 992, 1015, 1038, 1061, 1114, 1157, 1200, 1253, 1296, 1345, 1398, 1485, 1498, 1521, 1554, 1577, 1600, 1633, 1676, 1699, 1742, 1765, 1808, 1841, 1884, 1917, 1940, 1963, 1986, 2009, 2052, 2085, 2128, 2151, 2174, 2187, 2220], [0, 1, 2, 3, 4, 5, 6, 7, 8, 9, 10, 11, 12, 13, 14, 15, 16, 17, 18, 19, 20, 21, 22, 23, 24, 25, 26, 27, 28, 29, 30, 31, 32, 33, 34, 35, 36, 37, 38, 39, 40, 41, 42, 43, 44, 45, 46, 47, 48, 49, 50, 51, 52, 53, 54, 55])), (272, (15, 273, [1], [])), (273, (15, 274, [0], [])), (274, (11, 275, [3], [])), (275, (1, 276, [], [1])), (276, (30, 277, [], [])), (277, (80, 278, [], [])), (278, (100, 281, [12, 2, 192], [])), (281, (15, 282, [2], [])), (282, (15, 283, [0], [])), (283, (11, 284, [3], [])), (284, (1, 285, [], [1])), (285, (30, 286, [], [])), (286, (80, 287, [], [])), (287, (100, 290, [208, 2, 193], [])), (290, (66, 293, [2243], [])), (293, (1, 294, [], [0])), (294, (110, 295, [], [])), (295, (15, 296, [1], [])), (296, (15, 297, [0], [])), (297, (11, 298, [3], [])), (298, (1, 299, [], [1])), (299, (30, 300, [], [])), (300, (80, 301, [], [])), (301, (15, 302, [0], [])), (302, (11, 303, [3], [])), (303, (1, 304, [], [2])), (304, (30, 305, [], [])), (305, (80, 306, [], [])), (306, (15, 307, [0], [])), (307, (11, 308, [3], [])), (308, (1, 309, [], [3])), (309, (30, 310, [], [])), (310, (80, 311, [], [])), (311, (15, 312, [0], [])), (312, (11, 313, [3], [])), (313, (1, 314, [], [4])), (314, (30, 315, [], [])), (315, (80, 316, [], [])), (316, (100, 319, [14, 5, 194], [])), (319, (15, 320, [2], [])), (320, (15, 321, [0], [])), (321, (11, 322, [3], [])), (322, (1, 323, [], [1])), (323, (30, 324, [], [])), (324, (80, 325, [], [])), (325, (15, 326, [0], [])), (326, (11, 327, [3], [])), (327, (1, 328, [], [2])), (328, (30, 329, [], [])), (329, (80, 330, [], [])), (330, (15, 331, [0], [])), (331, (11, 332, [3], [])), (332, (1, 333, [], [3])), (333, (30, 334, [], [])), (334, (80, 335, [], [])), (335, (15, 336, [0], [])), (336, (11, 337, [3], [])), (337, (1, 338, [], [4])), (338, (30, 339, [], [])), (339, (80, 340, [], [])), (340, (100, 343, [210, 5, 195], [])), (343, (66, 346, [2243], [])), (346, (1, 347, [], [0])), (347, (110, 348, [], [])), (348, (15, 349, [1], [])), (349, (15, 350, [0], [])), (350, (11, 351, [3], [])), (351, (1, 352, [], [1])), (352, (30, 353, [], [])), (353, (80, 354, [], [])), (354, (15, 355, [0], [])), (355, (11, 356, [3], [])), (356, (1, 357, [], [2])), (357, (30, 358, [], [])), (358, (80, 359, [], [])), (359, (15, 360, [0], [])), (360, (11, 361, [3], [])), (361, (1, 362, [], [3])), (362, (30, 363, [], [])), (363, (80, 364, [], [])), (364, (100, 367, [16, 4, 196], [])), (367, (15, 368, [2], [])), (368, (15, 369, [0], [])), (369, (11, 370, [3], [])), (370, (1, 371, [], [1])), (371, (30, 372, [], [])), (372, (80, 373, [], [])), (373, (15, 374, [0], [])), (374, (11, 375, [3], [])), (375, (1, 376, [], [2])), (376, (30, 377, [], [])), (377, (80, 378, [], [])), (378, (15, 379, [0], [])), (379, (11, 380, [3], [])), (380, (1, 381, [], [3])), (381, (30, 382, [], [])), (382, (80, 383, [], [])), (383, (100, 386, [211, 4, 197], [])), (386, (66, 389, [2243], [])), (389, (1, 390, [], [0])), (390, (110, 391, [], [])), (391, (15, 392, [1], [])), (392, (15, 393, [0], [])), (393, (11, 394, [3], [])), (394, (1, 395, [], [1])), (395, (30, 396, [], [])), (396, (80, 397, [], [])), (397, (15, 398, [0], [])), (398, (11, 399, [3], [])), (399, (1, 400, [], [2])), (400, (30, 401, [], [])), (401, (80, 402, [], [])), (402, (100, 405, [19, 3, 198], [])), (405, (15, 406, [2], [])), (406, (15, 407, [0], [])), (407, (11, 408, [3], [])), (408, (1, 409, [], [1])), (409, (30, 410, [], [])), (410, (80, 411, [], [])), (411, (15, 412, [0], [])), (412, (11, 413, [3], [])), (413, (1, 414, [], [2])), (414, (30, 415, [], [])), (415, (80, 416, [], [])), (416, (100, 419, [213, 3, 199], [])), (419, (66, 422, [2243], [])), (422, (1, 423, [], [0])), (423, (110, 424, [], [])), (424, (15, 425, [1], [])), (425, (15, 426, [0], [])), (426, (11, 427, [3], [])), (427, (1, 428, [], [1])), (428, (30, 429, [], [])), (429, (80, 430, [], [])), (430, (15, 431, [0], [])), (431, (11, 432, [3], [])), (432, (1, 433, [], [2])), (433, (30, 434, [], [])), (434, (80, 435, [], [])), (435, (15, 436, [0], [])), (436, (11, 437, [3], [])), (437, (1, 438, [], [3])), (438, (30, 439, [], [])), (439, (80, 440, [], [])), (440, (15, 441, [0], [])), (441, (11, 442, [3], [])), (442, (1, 443, [], [4])), (443, (30, 444, [], [])), (444, (80, 445, [], [])), (445, (15, 446, [0], [])), (446, (11, 447, [3], [])), (447, (1, 448, [], [5])), (448, (30, 449, [], [])), (449, (80, 450, [], [])), (450, (100, 453, [21, 6, 200], [])), (453, (15, 454, [2], [])), (454, (15, 455, [0], [])), (455, (11, 456, [3], [])), (456, (1, 457, [], [1])), (457, (30, 458, [], [])), (458, (80, 459, [], [])), (459, (15, 460, [0], [])), (460, (11, 461, [3], [])), (461, (1, 462, [], [2])), (462, (30, 463, [], [])), (463, (80, 464, [], [])), (464, (15, 465, [0], [])), (465, (11, 466, [3], [])), (466, (1, 467, [], [3])), (467, (30, 468, [], [])), (468, (80, 469, [], [])), (469, (15, 470, [0], [])), (470, (11, 471, [3], [])), (471, (1, 472, [], [4])), (472, (30, 473, [], [])), (473, (80, 474, [], [])), (474, (15, 475, [0], [])), (475, (11, 476, [3], []))]
noncomputable def cd_345_1 : List (Nat × Ins) := [(476, (1, 477, [], [5])), (477, (30, 478, [], [])), (478, (80, 479, [], [])), (479, (100, 482, [214, 6, 201], [])), (482, (66, 485, [2243], [])), (485, (1, 486, [], [0])), (486, (110, 487, [], [])), (487, (15, 488, [1], [])), (488, (15, 489, [0], [])), (489, (11, 490, [3], [])), (490, (1, 491, [], [1])), (491, (30, 492, [], [])), (492, (80, 493, [], [])), (493, (15, 494, [0], [])), (494, (11, 495, [3], [])), (495, (1, 496, [], [2])), (496, (30, 497, [], [])), (497, (80, 498, [], [])), (498, (15, 499, [0], [])), (499, (11, 500, [3], [])), (500, (1, 501, [], [3])), (501, (30, 502, [], [])), (502, (80, 503, [], [])), (503, (15, 504, [0], [])), (504, (11, 505, [3], [])), (505, (1, 506, [], [4])), (506, (30, 507, [], [])), (507, (80, 508, [], [])), (508, (100, 511, [23, 5, 202], [])), (511, (15, 512, [2], [])), (512, (15, 513, [0], [])), (513, (11, 514, [3], [])), (514, (1, 515, [], [1])), (515, (30, 516, [], [])), (516, (80, 517, [], [])), (517, (15, 518, [0], [])), (518, (11, 519, [3], [])), (519, (1, 520, [], [2])), (520, (30, 521, [], [])), (521, (80, 522, [], [])), (522, (15, 523, [0], [])), (523, (11, 524, [3], [])), (524, (1, 525, [], [3])), (525, (30, 526, [], [])), (526, (80, 527, [], [])), (527, (15, 528, [0], [])), (528, (11, 529, [3], [])), (529, (1, 530, [], [4])), (530, (30, 531, [], [])), (531, (80, 532, [], [])), (532, (100, 535, [216, 5, 203], [])), (535, (66, 538, [2243], [])), (538, (1, 539, [], [0])), (539, (110, 540, [], [])), (540, (15, 541, [1], [])), (541, (15, 542, [0], [])), (542, (11, 543, [3], [])), (543, (1, 544, [], [1])), (544, (30, 545, [], [])), (545, (80, 546, [], [])), (546, (15, 547, [0], [])), (547, (11, 548, [3], [])), (548, (1, 549, [], [2])), (549, (30, 550, [], [])), (550, (80, 551, [], [])), (551, (100, 554, [45, 3, 204], [])), (554, (15, 555, [2], [])), (555, (15, 556, [0], [])), (556, (11, 557, [3], [])), (557, (1, 558, [], [1])), (558, (30, 559, [], [])), (559, (80, 560, [], [])), (560, (15, 561, [0], [])), (561, (11, 562, [3], [])), (562, (1, 563, [], [2])), (563, (30, 564, [], [])), (564, (80, 565, [], [])), (565, (100, 568, [240, 3, 205], [])), (568, (66, 571, [2243], [])), (571, (1, 572, [], [0])), (572, (110, 573, [], [])), (573, (15, 574, [1], [])), (574, (15, 575, [0], [])), (575, (11, 576, [3], [])), (576, (1, 577, [], [1])), (577, (30, 578, [], [])), (578, (80, 579, [], [])), (579, (15, 580, [0], [])), (580, (11, 581, [3], [])), (581, (1, 582, [], [2])), (582, (30, 583, [], [])), (583, (80, 584, [], [])), (584, (15, 585, [0], [])), (585, (11, 586, [3], [])), (586, (1, 587, [], [3])), (587, (30, 588, [], [])), (588, (80, 589, [], [])), (589, (100, 592, [54, 4, 206], [])), (592, (15, 593, [2], [])), (593, (15, 594, [0], [])), (594, (11, 595, [3], [])), (595, (1, 596, [], [1])), (596, (30, 597, [], [])), (597, (80, 598, [], [])), (598, (15, 599, [0], [])), (599, (11, 600, [3], [])), (600, (1, 601, [], [2])), (601, (30, 602, [], [])), (602, (80, 603, [], [])), (603, (15, 604, [0], [])), (604, (11, 605, [3], [])), (605, (1, 606, [], [3])), (606, (30, 607, [], [])), (607, (80, 608, [], [])), (608, (100, 611, [246, 4, 207], [])), (611, (66, 614, [2243], [])), (614, (1, 615, [], [0])), (615, (110, 616, [], [])), (616, (15, 617, [1], [])), (617, (15, 618, [0], [])), (618, (11, 619, [3], [])), (619, (1, 620, [], [1])), (620, (30, 621, [], [])), (621, (80, 622, [], [])), (622, (100, 625, [83, 2, 208], [])), (625, (15, 626, [2], [])), (626, (15, 627, [0], [])), (627, (11, 628, [3], [])), (628, (1, 629, [], [1])), (629, (30, 630, [], [])), (630, (80, 631, [], [])), (631, (100, 634, [276, 2, 209], [])), (634, (66, 637, [2243], [])), (637, (1, 638, [], [0])), (638, (110, 639, [], [])), (639, (15, 640, [1], [])), (640, (15, 641, [0], [])), (641, (11, 642, [3], [])), (642, (1, 643, [], [1])), (643, (30, 644, [], [])), (644, (80, 645, [], [])), (645, (15, 646, [0], [])), (646, (11, 647, [3], [])), (647, (1, 648, [], [2])), (648, (30, 649, [], [])), (649, (80, 650, [], [])), (650, (15, 651, [0], [])), (651, (11, 652, [3], [])), (652, (1, 653, [], [3])), (653, (30, 654, [], [])), (654, (80, 655, [], [])), (655, (100, 658, [87, 4, 210], [])), (658, (15, 659, [2], [])), (659, (15, 660, [0], [])), (660, (11, 661, [3], [])), (661, (1, 662, [], [1])), (662, (30, 663, [], [])), (663, (80, 664, [], [])), (664, (15, 665, [0], [])), (665, (11, 666, [3], [])), (666, (1, 667, [], [2])), (667, (30, 668, [], [])), (668, (80, 669, [], [])), (669, (15, 670, [0], [])), (670, (11, 671, [3], [])), (671, (1, 672, [], [3])), (672, (30, 673, [], [])), (673, (80, 674, [], [])), (674, (100, 677, [278, 4, 211], [])), (677, (66, 680, [2243], [])), (680, (1, 681, [], [0])), (681, (110, 682, [], [])), (682, (15, 683, [1], [])), (683, (15, 684, [0], [])), (684, (11, 685, [3], [])), (685, (1, 686, [], [1])), (686, (30, 687, [], [])), (687, (80, 688, [], [])), (688, (100, 691, [90, 2, 212], [])), (691, (15, 692, [2], [])), (692, (15, 693, [0], [])), (693, (11, 694, [3], [])), (694, (1, 695, [], [1])), (695, (30, 696, [], [])), (696, (80, 697, [], [])), (697, (100, 700, [279, 2, 213], [])), (700, (51, 701, [], [])), (701, (60, 704, [2243], [])), (704, (1, 705, [], [0])), (705, (110, 706, [], [])), (706, (15, 707, [1], [])), (707, (15, 708, [0], [])), (708, (11, 709, [3], [])), (709, (1, 710, [], [1])), (710, (30, 711, [], [])), (711, (80, 712, [], [])), (712, (100, 715, [93, 2, 214], [])), (715, (15, 716, [2], [])), (716, (15, 717, [0], [])), (717, (11, 718, [3], []))]
noncomputable def cd_345_2 : List (Nat × Ins) := [(718, (1, 719, [], [1])), (719, (30, 720, [], [])), (720, (80, 721, [], [])), (721, (100, 724, [281, 2, 215], [])), (724, (66, 727, [2243], [])), (727, (1, 728, [], [0])), (728, (110, 729, [], [])), (729, (15, 730, [1], [])), (730, (15, 731, [0], [])), (731, (11, 732, [3], [])), (732, (1, 733, [], [1])), (733, (30, 734, [], [])), (734, (80, 735, [], [])), (735, (100, 738, [98, 2, 216], [])), (738, (15, 739, [2], [])), (739, (15, 740, [0], [])), (740, (11, 741, [3], [])), (741, (1, 742, [], [1])), (742, (30, 743, [], [])), (743, (80, 744, [], [])), (744, (100, 747, [284, 2, 217], [])), (747, (66, 750, [2243], [])), (750, (1, 751, [], [0])), (751, (110, 752, [], [])), (752, (15, 753, [1], [])), (753, (15, 754, [0], [])), (754, (11, 755, [3], [])), (755, (1, 756, [], [1])), (756, (30, 757, [], [])), (757, (80, 758, [], [])), (758, (15, 759, [0], [])), (759, (11, 760, [3], [])), (760, (1, 761, [], [2])), (761, (30, 762, [], [])), (762, (80, 763, [], [])), (763, (15, 764, [0], [])), (764, (11, 765, [3], [])), (765, (1, 766, [], [3])), (766, (30, 767, [], [])), (767, (80, 768, [], [])), (768, (15, 769, [0], [])), (769, (11, 770, [3], [])), (770, (1, 771, [], [4])), (771, (30, 772, [], [])), (772, (80, 773, [], [])), (773, (60, 776, [780], [])), (776, (1, 777, [], [1])), (777, (73, 780, [781], [])), (780, (1, 781, [], [0])), (781, (100, 784, [100, 5, 218], [])), (784, (15, 785, [2], [])), (785, (15, 786, [0], [])), (786, (11, 787, [3], [])), (787, (1, 788, [], [1])), (788, (30, 789, [], [])), (789, (80, 790, [], [])), (790, (15, 791, [0], [])), (791, (11, 792, [3], [])), (792, (1, 793, [], [2])), (793, (30, 794, [], [])), (794, (80, 795, [], [])), (795, (15, 796, [0], [])), (796, (11, 797, [3], [])), (797, (1, 798, [], [3])), (798, (30, 799, [], [])), (799, (80, 800, [], [])), (800, (15, 801, [0], [])), (801, (11, 802, [3], [])), (802, (1, 803, [], [4])), (803, (30, 804, [], [])), (804, (80, 805, [], [])), (805, (60, 808, [812], [])), (808, (1, 809, [], [1])), (809, (73, 812, [813], [])), (812, (1, 813, [], [0])), (813, (100, 816, [285, 5, 219], [])), (816, (66, 819, [2243], [])), (819, (1, 820, [], [0])), (820, (110, 821, [], [])), (821, (15, 822, [1], [])), (822, (15, 823, [0], [])), (823, (11, 824, [3], [])), (824, (1, 825, [], [1])), (825, (30, 826, [], [])), (826, (80, 827, [], [])), (827, (15, 828, [0], [])), (828, (11, 829, [3], [])), (829, (1, 830, [], [2])), (830, (30, 831, [], [])), (831, (80, 832, [], [])), (832, (60, 835, [839], [])), (835, (1, 836, [], [1])), (836, (73, 839, [840], [])), (839, (1, 840, [], [0])), (840, (100, 843, [106, 3, 220], [])), (843, (15, 844, [2], [])), (844, (15, 845, [0], [])), (845, (11, 846, [3], [])), (846, (1, 847, [], [1])), (847, (30, 848, [], [])), (848, (80, 849, [], [])), (849, (15, 850, [0], [])), (850, (11, 851, [3], [])), (851, (1, 852, [], [2])), (852, (30, 853, [], [])), (853, (80, 854, [], [])), (854, (60, 857, [861], [])), (857, (1, 858, [], [1])), (858, (73, 861, [862], [])), (861, (1, 862, [], [0])), (862, (100, 865, [287, 3, 221], [])), (865, (66, 868, [2243], [])), (868, (1, 869, [], [0])), (869, (110, 870, [], [])), (870, (15, 871, [1], [])), (871, (15, 872, [0], [])), (872, (11, 873, [3], [])), (873, (1, 874, [], [1])), (874, (30, 875, [], [])), (875, (80, 876, [], [])), (876, (15, 877, [0], [])), (877, (11, 878, [3], [])), (878, (1, 879, [], [2])), (879, (30, 880, [], [])), (880, (80, 881, [], [])), (881, (15, 882, [0], [])), (882, (11, 883, [3], [])), (883, (1, 884, [], [3])), (884, (30, 885, [], [])), (885, (80, 886, [], [])), (886, (15, 887, [0], [])), (887, (11, 888, [3], [])), (888, (1, 889, [], [4])), (889, (30, 890, [], [])), (890, (80, 891, [], [])), (891, (100, 894, [110, 5, 222], [])), (894, (15, 895, [2], [])), (895, (15, 896, [0], [])), (896, (11, 897, [3], [])), (897, (1, 898, [], [1])), (898, (30, 899, [], [])), (899, (80, 900, [], [])), (900, (15, 901, [0], [])), (901, (11, 902, [3], [])), (902, (1, 903, [], [2])), (903, (30, 904, [], [])), (904, (80, 905, [], [])), (905, (15, 906, [0], [])), (906, (11, 907, [3], [])), (907, (1, 908, [], [3])), (908, (30, 909, [], [])), (909, (80, 910, [], [])), (910, (15, 911, [0], [])), (911, (11, 912, [3], [])), (912, (1, 913, [], [4])), (913, (30, 914, [], [])), (914, (80, 915, [], [])), (915, (100, 918, [289, 5, 223], [])), (918, (66, 921, [2243], [])), (921, (1, 922, [], [0])), (922, (110, 923, [], [])), (923, (15, 924, [1], [])), (924, (15, 925, [0], [])), (925, (11, 926, [3], [])), (926, (1, 927, [], [1])), (927, (30, 928, [], [])), (928, (80, 929, [], [])), (929, (100, 932, [112, 2, 224], [])), (932, (15, 933, [2], [])), (933, (15, 934, [0], [])), (934, (11, 935, [3], [])), (935, (1, 936, [], [1])), (936, (30, 937, [], [])), (937, (80, 938, [], [])), (938, (100, 941, [290, 2, 225], [])), (941, (66, 944, [2243], [])), (944, (1, 945, [], [0])), (945, (110, 946, [], [])), (946, (15, 947, [1], [])), (947, (15, 948, [0], [])), (948, (11, 949, [3], [])), (949, (1, 950, [], [1])), (950, (30, 951, [], [])), (951, (80, 952, [], [])), (952, (100, 955, [114, 2, 226], [])), (955, (15, 956, [2], [])), (956, (15, 957, [0], [])), (957, (11, 958, [3], [])), (958, (1, 959, [], [1])), (959, (30, 960, [], [])), (960, (80, 961, [], [])), (961, (100, 964, [291, 2, 227], [])), (964, (66, 967, [2243], [])), (967, (1, 968, [], [0])), (968, (110, 969, [], [])), (969, (15, 970, [1], [])), (970, (15, 971, [0], [])), (971, (11, 972, [3], [])), (972, (1, 973, [], [1])), (973, (30, 974, [], []))]
noncomputable def cd_345_3 : List (Nat × Ins) := [(974, (80, 975, [], [])), (975, (100, 978, [115, 2, 228], [])), (978, (15, 979, [2], [])), (979, (15, 980, [0], [])), (980, (11, 981, [3], [])), (981, (1, 982, [], [1])), (982, (30, 983, [], [])), (983, (80, 984, [], [])), (984, (100, 987, [292, 2, 229], [])), (987, (66, 990, [2243], [])), (990, (1, 991, [], [0])), (991, (110, 992, [], [])), (992, (15, 993, [1], [])), (993, (15, 994, [0], [])), (994, (11, 995, [3], [])), (995, (1, 996, [], [1])), (996, (30, 997, [], [])), (997, (80, 998, [], [])), (998, (100, 1001, [117, 2, 230], [])), (1001, (15, 1002, [2], [])), (1002, (15, 1003, [0], [])), (1003, (11, 1004, [3], [])), (1004, (1, 1005, [], [1])), (1005, (30, 1006, [], [])), (1006, (80, 1007, [], [])), (1007, (100, 1010, [293, 2, 231], [])), (1010, (66, 1013, [2243], [])), (1013, (1, 1014, [], [0])), (1014, (110, 1015, [], [])), (1015, (15, 1016, [1], [])), (1016, (15, 1017, [0], [])), (1017, (11, 1018, [3], [])), (1018, (1, 1019, [], [1])), (1019, (30, 1020, [], [])), (1020, (80, 1021, [], [])), (1021, (100, 1024, [119, 2, 232], [])), (1024, (15, 1025, [2], [])), (1025, (15, 1026, [0], [])), (1026, (11, 1027, [3], [])), (1027, (1, 1028, [], [1])), (1028, (30, 1029, [], [])), (1029, (80, 1030, [], [])), (1030, (100, 1033, [294, 2, 233], [])), (1033, (66, 1036, [2243], [])), (1036, (1, 1037, [], [0])), (1037, (110, 1038, [], [])), (1038, (15, 1039, [1], [])), (1039, (15, 1040, [0], [])), (1040, (11, 1041, [3], [])), (1041, (1, 1042, [], [1])), (1042, (30, 1043, [], [])), (1043, (80, 1044, [], [])), (1044, (100, 1047, [120, 2, 234], [])), (1047, (15, 1048, [2], [])), (1048, (15, 1049, [0], [])), (1049, (11, 1050, [3], [])), (1050, (1, 1051, [], [1])), (1051, (30, 1052, [], [])), (1052, (80, 1053, [], [])), (1053, (100, 1056, [295, 2, 235], [])), (1056, (66, 1059, [2243], [])), (1059, (1, 1060, [], [0])), (1060, (110, 1061, [], [])), (1061, (15, 1062, [1], [])), (1062, (15, 1063, [0], [])), (1063, (11, 1064, [3], [])), (1064, (1, 1065, [], [1])), (1065, (30, 1066, [], [])), (1066, (80, 1067, [], [])), (1067, (15, 1068, [0], [])), (1068, (11, 1069, [3], [])), (1069, (1, 1070, [], [2])), (1070, (30, 1071, [], [])), (1071, (80, 1072, [], [])), (1072, (15, 1073, [0], [])), (1073, (11, 1074, [3], [])), (1074, (1, 1075, [], [3])), (1075, (30, 1076, [], [])), (1076, (80, 1077, [], [])), (1077, (15, 1078, [0], [])), (1078, (11, 1079, [3], [])), (1079, (1, 1080, [], [4])), (1080, (30, 1081, [], [])), (1081, (80, 1082, [], [])), (1082, (100, 1085, [121, 5, 236], [])), (1085, (15, 1086, [2], [])), (1086, (15, 1087, [0], [])), (1087, (11, 1088, [3], [])), (1088, (1, 1089, [], [1])), (1089, (30, 1090, [], [])), (1090, (80, 1091, [], [])), (1091, (15, 1092, [0], [])), (1092, (11, 1093, [3], [])), (1093, (1, 1094, [], [2])), (1094, (30, 1095, [], [])), (1095, (80, 1096, [], [])), (1096, (15, 1097, [0], [])), (1097, (11, 1098, [3], [])), (1098, (1, 1099, [], [3])), (1099, (30, 1100, [], [])), (1100, (80, 1101, [], [])), (1101, (15, 1102, [0], [])), (1102, (11, 1103, [3], [])), (1103, (1, 1104, [], [4])), (1104, (30, 1105, [], [])), (1105, (80, 1106, [], [])), (1106, (100, 1109, [296, 5, 237], [])), (1109, (66, 1112, [2243], [])), (1112, (1, 1113, [], [0])), (1113, (110, 1114, [], [])), (1114, (15, 1115, [1], [])), (1115, (15, 1116, [0], [])), (1116, (11, 1117, [3], [])), (1117, (1, 1118, [], [1])), (1118, (30, 1119, [], [])), (1119, (80, 1120, [], [])), (1120, (15, 1121, [0], [])), (1121, (11, 1122, [3], [])), (1122, (1, 1123, [], [2])), (1123, (30, 1124, [], [])), (1124, (80, 1125, [], [])), (1125, (15, 1126, [0], [])), (1126, (11, 1127, [3], [])), (1127, (1, 1128, [], [3])), (1128, (30, 1129, [], [])), (1129, (80, 1130, [], [])), (1130, (100, 1133, [124, 4, 238], [])), (1133, (15, 1134, [2], [])), (1134, (15, 1135, [0], [])), (1135, (11, 1136, [3], [])), (1136, (1, 1137, [], [1])), (1137, (30, 1138, [], [])), (1138, (80, 1139, [], [])), (1139, (15, 1140, [0], [])), (1140, (11, 1141, [3], [])), (1141, (1, 1142, [], [2])), (1142, (30, 1143, [], [])), (1143, (80, 1144, [], [])), (1144, (15, 1145, [0], [])), (1145, (11, 1146, [3], [])), (1146, (1, 1147, [], [3])), (1147, (30, 1148, [], [])), (1148, (80, 1149, [], [])), (1149, (100, 1152, [298, 4, 239], [])), (1152, (66, 1155, [2243], [])), (1155, (1, 1156, [], [0])), (1156, (110, 1157, [], [])), (1157, (15, 1158, [1], [])), (1158, (15, 1159, [0], [])), (1159, (11, 1160, [3], [])), (1160, (1, 1161, [], [1])), (1161, (30, 1162, [], [])), (1162, (80, 1163, [], [])), (1163, (15, 1164, [0], [])), (1164, (11, 1165, [3], [])), (1165, (1, 1166, [], [2])), (1166, (30, 1167, [], [])), (1167, (80, 1168, [], [])), (1168, (15, 1169, [0], [])), (1169, (11, 1170, [3], [])), (1170, (1, 1171, [], [3])), (1171, (30, 1172, [], [])), (1172, (80, 1173, [], [])), (1173, (100, 1176, [127, 4, 240], [])), (1176, (15, 1177, [2], [])), (1177, (15, 1178, [0], [])), (1178, (11, 1179, [3], [])), (1179, (1, 1180, [], [1])), (1180, (30, 1181, [], [])), (1181, (80, 1182, [], [])), (1182, (15, 1183, [0], [])), (1183, (11, 1184, [3], [])), (1184, (1, 1185, [], [2])), (1185, (30, 1186, [], [])), (1186, (80, 1187, [], [])), (1187, (15, 1188, [0], [])), (1188, (11, 1189, [3], [])), (1189, (1, 1190, [], [3])), (1190, (30, 1191, [], [])), (1191, (80, 1192, [], [])), (1192, (100, 1195, [300, 4, 241], [])), (1195, (66, 1198, [2243], [])), (1198, (1, 1199, [], [0])), (1199, (110, 1200, [], [])), (1200, (15, 1201, [1], [])), (1201, (15, 1202, [0], [])), (1202, (11, 1203, [3], [])), (1203, (1, 1204, [], [1])), (1204, (30, 1205, [], [])), (1205, (80, 1206, [], [])), (1206, (15, 1207, [0], [])), (1207, (11, 1208, [3], [])), (1208, (1, 1209, [], [2])), (1209, (30, 1210, [], [])), (1210, (80, 1211, [], [])), (1211, (15, 1212, [0], [])), (1212, (11, 1213, [3], [])), (1213, (1, 1214, [], [3])), (1214, (30, 1215, [], [])), (1215, (80, 1216, [], []))]
noncomputable def cd_345_4 : List (Nat × Ins) := [(1216, (15, 1217, [0], [])), (1217, (11, 1218, [3], [])), (1218, (1, 1219, [], [4])), (1219, (30, 1220, [], [])), (1220, (80, 1221, [], [])), (1221, (100, 1224, [130, 5, 242], [])), (1224, (15, 1225, [2], [])), (1225, (15, 1226, [0], [])), (1226, (11, 1227, [3], [])), (1227, (1, 1228, [], [1])), (1228, (30, 1229, [], [])), (1229, (80, 1230, [], [])), (1230, (15, 1231, [0], [])), (1231, (11, 1232, [3], [])), (1232, (1, 1233, [], [2])), (1233, (30, 1234, [], [])), (1234, (80, 1235, [], [])), (1235, (15, 1236, [0], [])), (1236, (11, 1237, [3], [])), (1237, (1, 1238, [], [3])), (1238, (30, 1239, [], [])), (1239, (80, 1240, [], [])), (1240, (15, 1241, [0], [])), (1241, (11, 1242, [3], [])), (1242, (1, 1243, [], [4])), (1243, (30, 1244, [], [])), (1244, (80, 1245, [], [])), (1245, (100, 1248, [301, 5, 243], [])), (1248, (66, 1251, [2243], [])), (1251, (1, 1252, [], [0])), (1252, (110, 1253, [], [])), (1253, (15, 1254, [1], [])), (1254, (15, 1255, [0], [])), (1255, (11, 1256, [3], [])), (1256, (1, 1257, [], [1])), (1257, (30, 1258, [], [])), (1258, (80, 1259, [], [])), (1259, (15, 1260, [0], [])), (1260, (11, 1261, [3], [])), (1261, (1, 1262, [], [2])), (1262, (30, 1263, [], [])), (1263, (80, 1264, [], [])), (1264, (15, 1265, [0], [])), (1265, (11, 1266, [3], [])), (1266, (1, 1267, [], [3])), (1267, (30, 1268, [], [])), (1268, (80, 1269, [], [])), (1269, (100, 1272, [132, 4, 244], [])), (1272, (15, 1273, [2], [])), (1273, (15, 1274, [0], [])), (1274, (11, 1275, [3], [])), (1275, (1, 1276, [], [1])), (1276, (30, 1277, [], [])), (1277, (80, 1278, [], [])), (1278, (15, 1279, [0], [])), (1279, (11, 1280, [3], [])), (1280, (1, 1281, [], [2])), (1281, (30, 1282, [], [])), (1282, (80, 1283, [], [])), (1283, (15, 1284, [0], [])), (1284, (11, 1285, [3], [])), (1285, (1, 1286, [], [3])), (1286, (30, 1287, [], [])), (1287, (80, 1288, [], [])), (1288, (100, 1291, [302, 4, 245], [])), (1291, (66, 1294, [2243], [])), (1294, (1, 1295, [], [0])), (1295, (110, 1296, [], [])), (1296, (15, 1297, [1], [])), (1297, (15, 1298, [0], [])), (1298, (11, 1299, [3], [])), (1299, (1, 1300, [], [1])), (1300, (30, 1301, [], [])), (1301, (80, 1302, [], [])), (1302, (15, 1303, [0], [])), (1303, (11, 1304, [3], [])), (1304, (1, 1305, [], [2])), (1305, (30, 1306, [], [])), (1306, (80, 1307, [], [])), (1307, (60, 1310, [1314], [])), (1310, (1, 1311, [], [1])), (1311, (73, 1314, [1315], [])), (1314, (1, 1315, [], [0])), (1315, (100, 1318, [136, 3, 246], [])), (1318, (15, 1319, [2], [])), (1319, (15, 1320, [0], [])), (1320, (11, 1321, [3], [])), (1321, (1, 1322, [], [1])), (1322, (30, 1323, [], [])), (1323, (80, 1324, [], [])), (1324, (15, 1325, [0], [])), (1325, (11, 1326, [3], [])), (1326, (1, 1327, [], [2])), (1327, (30, 1328, [], [])), (1328, (80, 1329, [], [])), (1329, (60, 1332, [1336], [])), (1332, (1, 1333, [], [1])), (1333, (73, 1336, [1337], [])), (1336, (1, 1337, [], [0])), (1337, (100, 1340, [303, 3, 247], [])), (1340, (66, 1343, [2243], [])), (1343, (1, 1344, [], [0])), (1344, (110, 1345, [], [])), (1345, (15, 1346, [1], [])), (1346, (15, 1347, [0], [])), (1347, (11, 1348, [3], [])), (1348, (1, 1349, [], [1])), (1349, (30, 1350, [], [])), (1350, (80, 1351, [], [])), (1351, (15, 1352, [0], [])), (1352, (11, 1353, [3], [])), (1353, (1, 1354, [], [2])), (1354, (30, 1355, [], [])), (1355, (80, 1356, [], [])), (1356, (15, 1357, [0], [])), (1357, (11, 1358, [3], [])), (1358, (1, 1359, [], [3])), (1359, (30, 1360, [], [])), (1360, (80, 1361, [], [])), (1361, (15, 1362, [0], [])), (1362, (11, 1363, [3], [])), (1363, (1, 1364, [], [4])), (1364, (30, 1365, [], [])), (1365, (80, 1366, [], [])), (1366, (100, 1369, [137, 5, 248], [])), (1369, (15, 1370, [2], [])), (1370, (15, 1371, [0], [])), (1371, (11, 1372, [3], [])), (1372, (1, 1373, [], [1])), (1373, (30, 1374, [], [])), (1374, (80, 1375, [], [])), (1375, (15, 1376, [0], [])), (1376, (11, 1377, [3], [])), (1377, (1, 1378, [], [2])), (1378, (30, 1379, [], [])), (1379, (80, 1380, [], [])), (1380, (15, 1381, [0], [])), (1381, (11, 1382, [3], [])), (1382, (1, 1383, [], [3])), (1383, (30, 1384, [], [])), (1384, (80, 1385, [], [])), (1385, (15, 1386, [0], [])), (1386, (11, 1387, [3], [])), (1387, (1, 1388, [], [4])), (1388, (30, 1389, [], [])), (1389, (80, 1390, [], [])), (1390, (100, 1393, [304, 5, 249], [])), (1393, (66, 1396, [2243], [])), (1396, (1, 1397, [], [0])), (1397, (110, 1398, [], [])), (1398, (15, 1399, [1], [])), (1399, (15, 1400, [0], [])), (1400, (11, 1401, [3], [])), (1401, (1, 1402, [], [1])), (1402, (30, 1403, [], [])), (1403, (80, 1404, [], [])), (1404, (15, 1405, [0], [])), (1405, (11, 1406, [3], [])), (1406, (1, 1407, [], [2])), (1407, (30, 1408, [], [])), (1408, (80, 1409, [], [])), (1409, (15, 1410, [0], [])), (1410, (11, 1411, [3], [])), (1411, (1, 1412, [], [3])), (1412, (30, 1413, [], [])), (1413, (80, 1414, [], [])), (1414, (15, 1415, [0], [])), (1415, (11, 1416, [3], [])), (1416, (1, 1417, [], [4])), (1417, (30, 1418, [], [])), (1418, (80, 1419, [], [])), (1419, (15, 1420, [0], [])), (1420, (11, 1421, [3], [])), (1421, (1, 1422, [], [5])), (1422, (30, 1423, [], [])), (1423, (80, 1424, [], [])), (1424, (15, 1425, [0], [])), (1425, (11, 1426, [3], [])), (1426, (2, 1428, [], [6])), (1428, (30, 1429, [], [])), (1429, (80, 1430, [], [])), (1430, (15, 1431, [0], [])), (1431, (11, 1432, [3], [])), (1432, (2, 1434, [], [7])), (1434, (30, 1435, [], [])), (1435, (80, 1436, [], [])), (1436, (100, 1439, [140, 8, 250], [])), (1439, (15, 1440, [2], [])), (1440, (15, 1441, [0], [])), (1441, (11, 1442, [3], [])), (1442, (1, 1443, [], [1])), (1443, (30, 1444, [], [])), (1444, (80, 1445, [], [])), (1445, (15, 1446, [0], [])), (1446, (11, 1447, [3], [])), (1447, (1, 1448, [], [2])), (1448, (30, 1449, [], [])), (1449, (80, 1450, [], [])), (1450, (15, 1451, [0], [])), (1451, (11, 1452, [3], []))]
noncomputable def cd_345_5 : List (Nat × Ins) := [(1452, (1, 1453, [], [3])), (1453, (30, 1454, [], [])), (1454, (80, 1455, [], [])), (1455, (15, 1456, [0], [])), (1456, (11, 1457, [3], [])), (1457, (1, 1458, [], [4])), (1458, (30, 1459, [], [])), (1459, (80, 1460, [], [])), (1460, (15, 1461, [0], [])), (1461, (11, 1462, [3], [])), (1462, (1, 1463, [], [5])), (1463, (30, 1464, [], [])), (1464, (80, 1465, [], [])), (1465, (15, 1466, [0], [])), (1466, (11, 1467, [3], [])), (1467, (2, 1469, [], [6])), (1469, (30, 1470, [], [])), (1470, (80, 1471, [], [])), (1471, (15, 1472, [0], [])), (1472, (11, 1473, [3], [])), (1473, (2, 1475, [], [7])), (1475, (30, 1476, [], [])), (1476, (80, 1477, [], [])), (1477, (100, 1480, [306, 8, 251], [])), (1480, (66, 1483, [2243], [])), (1483, (1, 1484, [], [0])), (1484, (110, 1485, [], [])), (1485, (15, 1486, [1], [])), (1486, (100, 1489, [143, 1, 252], [])), (1489, (15, 1490, [2], [])), (1490, (100, 1493, [307, 1, 253], [])), (1493, (66, 1496, [2243], [])), (1496, (1, 1497, [], [0])), (1497, (110, 1498, [], [])), (1498, (15, 1499, [1], [])), (1499, (15, 1500, [0], [])), (1500, (11, 1501, [3], [])), (1501, (1, 1502, [], [1])), (1502, (30, 1503, [], [])), (1503, (80, 1504, [], [])), (1504, (100, 1507, [145, 2, 254], [])), (1507, (15, 1508, [2], [])), (1508, (15, 1509, [0], [])), (1509, (11, 1510, [3], [])), (1510, (1, 1511, [], [1])), (1511, (30, 1512, [], [])), (1512, (80, 1513, [], [])), (1513, (100, 1516, [308, 2, 255], [])), (1516, (66, 1519, [2243], [])), (1519, (1, 1520, [], [0])), (1520, (110, 1521, [], [])), (1521, (15, 1522, [1], [])), (1522, (15, 1523, [0], [])), (1523, (11, 1524, [3], [])), (1524, (1, 1525, [], [1])), (1525, (30, 1526, [], [])), (1526, (80, 1527, [], [])), (1527, (15, 1528, [0], [])), (1528, (11, 1529, [3], [])), (1529, (1, 1530, [], [2])), (1530, (30, 1531, [], [])), (1531, (80, 1532, [], [])), (1532, (100, 1535, [147, 3, 256], [])), (1535, (15, 1536, [2], [])), (1536, (15, 1537, [0], [])), (1537, (11, 1538, [3], [])), (1538, (1, 1539, [], [1])), (1539, (30, 1540, [], [])), (1540, (80, 1541, [], [])), (1541, (15, 1542, [0], [])), (1542, (11, 1543, [3], [])), (1543, (1, 1544, [], [2])), (1544, (30, 1545, [], [])), (1545, (80, 1546, [], [])), (1546, (100, 1549, [309, 3, 257], [])), (1549, (66, 1552, [2243], [])), (1552, (1, 1553, [], [0])), (1553, (110, 1554, [], [])), (1554, (15, 1555, [1], [])), (1555, (15, 1556, [0], [])), (1556, (11, 1557, [3], [])), (1557, (1, 1558, [], [1])), (1558, (30, 1559, [], [])), (1559, (80, 1560, [], [])), (1560, (100, 1563, [151, 2, 258], [])), (1563, (15, 1564, [2], [])), (1564, (15, 1565, [0], [])), (1565, (11, 1566, [3], [])), (1566, (1, 1567, [], [1])), (1567, (30, 1568, [], [])), (1568, (80, 1569, [], [])), (1569, (100, 1572, [311, 2, 259], [])), (1572, (66, 1575, [2243], [])), (1575, (1, 1576, [], [0])), (1576, (110, 1577, [], [])), (1577, (15, 1578, [1], [])), (1578, (15, 1579, [0], [])), (1579, (11, 1580, [3], [])), (1580, (1, 1581, [], [1])), (1581, (30, 1582, [], [])), (1582, (80, 1583, [], [])), (1583, (100, 1586, [154, 2, 260], [])), (1586, (15, 1587, [2], [])), (1587, (15, 1588, [0], [])), (1588, (11, 1589, [3], [])), (1589, (1, 1590, [], [1])), (1590, (30, 1591, [], [])), (1591, (80, 1592, [], [])), (1592, (100, 1595, [312, 2, 261], [])), (1595, (66, 1598, [2243], [])), (1598, (1, 1599, [], [0])), (1599, (110, 1600, [], [])), (1600, (15, 1601, [1], [])), (1601, (15, 1602, [0], [])), (1602, (11, 1603, [3], [])), (1603, (1, 1604, [], [1])), (1604, (30, 1605, [], [])), (1605, (80, 1606, [], [])), (1606, (15, 1607, [0], [])), (1607, (11, 1608, [3], [])), (1608, (1, 1609, [], [2])), (1609, (30, 1610, [], [])), (1610, (80, 1611, [], [])), (1611, (100, 1614, [155, 3, 262], [])), (1614, (15, 1615, [2], [])), (1615, (15, 1616, [0], [])), (1616, (11, 1617, [3], [])), (1617, (1, 1618, [], [1])), (1618, (30, 1619, [], [])), (1619, (80, 1620, [], [])), (1620, (15, 1621, [0], [])), (1621, (11, 1622, [3], [])), (1622, (1, 1623, [], [2])), (1623, (30, 1624, [], [])), (1624, (80, 1625, [], [])), (1625, (100, 1628, [313, 3, 263], [])), (1628, (66, 1631, [2243], [])), (1631, (1, 1632, [], [0])), (1632, (110, 1633, [], [])), (1633, (15, 1634, [1], [])), (1634, (15, 1635, [0], [])), (1635, (11, 1636, [3], [])), (1636, (1, 1637, [], [1])), (1637, (30, 1638, [], [])), (1638, (80, 1639, [], [])), (1639, (15, 1640, [0], [])), (1640, (11, 1641, [3], [])), (1641, (1, 1642, [], [2])), (1642, (30, 1643, [], [])), (1643, (80, 1644, [], [])), (1644, (15, 1645, [0], [])), (1645, (11, 1646, [3], [])), (1646, (1, 1647, [], [3])), (1647, (30, 1648, [], [])), (1648, (80, 1649, [], [])), (1649, (100, 1652, [157, 4, 264], [])), (1652, (15, 1653, [2], [])), (1653, (15, 1654, [0], [])), (1654, (11, 1655, [3], [])), (1655, (1, 1656, [], [1])), (1656, (30, 1657, [], [])), (1657, (80, 1658, [], [])), (1658, (15, 1659, [0], [])), (1659, (11, 1660, [3], [])), (1660, (1, 1661, [], [2])), (1661, (30, 1662, [], [])), (1662, (80, 1663, [], [])), (1663, (15, 1664, [0], [])), (1664, (11, 1665, [3], [])), (1665, (1, 1666, [], [3])), (1666, (30, 1667, [], [])), (1667, (80, 1668, [], [])), (1668, (100, 1671, [314, 4, 265], [])), (1671, (66, 1674, [2243], [])), (1674, (1, 1675, [], [0])), (1675, (110, 1676, [], [])), (1676, (15, 1677, [1], [])), (1677, (15, 1678, [0], [])), (1678, (11, 1679, [3], [])), (1679, (1, 1680, [], [1])), (1680, (30, 1681, [], [])), (1681, (80, 1682, [], [])), (1682, (100, 1685, [159, 2, 266], [])), (1685, (15, 1686, [2], [])), (1686, (15, 1687, [0], [])), (1687, (11, 1688, [3], [])), (1688, (1, 1689, [], [1])), (1689, (30, 1690, [], [])), (1690, (80, 1691, [], [])), (1691, (100, 1694, [316, 2, 267], [])), (1694, (66, 1697, [2243], [])), (1697, (1, 1698, [], [0])), (1698, (110, 1699, [], [])), (1699, (15, 1700, [1], [])), (1700, (15, 1701, [0], [])), (1701, (11, 1702, [3], [])), (1702, (1, 1703, [], [1])), (1703, (30, 1704, [], [])), (1704, (80, 1705, [], [])), (1705, (15, 1706, [0], []))]
noncomputable def cd_345_6 : List (Nat × Ins) := [(1706, (11, 1707, [3], [])), (1707, (1, 1708, [], [2])), (1708, (30, 1709, [], [])), (1709, (80, 1710, [], [])), (1710, (15, 1711, [0], [])), (1711, (11, 1712, [3], [])), (1712, (1, 1713, [], [3])), (1713, (30, 1714, [], [])), (1714, (80, 1715, [], [])), (1715, (100, 1718, [161, 4, 268], [])), (1718, (15, 1719, [2], [])), (1719, (15, 1720, [0], [])), (1720, (11, 1721, [3], [])), (1721, (1, 1722, [], [1])), (1722, (30, 1723, [], [])), (1723, (80, 1724, [], [])), (1724, (15, 1725, [0], [])), (1725, (11, 1726, [3], [])), (1726, (1, 1727, [], [2])), (1727, (30, 1728, [], [])), (1728, (80, 1729, [], [])), (1729, (15, 1730, [0], [])), (1730, (11, 1731, [3], [])), (1731, (1, 1732, [], [3])), (1732, (30, 1733, [], [])), (1733, (80, 1734, [], [])), (1734, (100, 1737, [317, 4, 269], [])), (1737, (66, 1740, [2243], [])), (1740, (1, 1741, [], [0])), (1741, (110, 1742, [], [])), (1742, (15, 1743, [1], [])), (1743, (15, 1744, [0], [])), (1744, (11, 1745, [3], [])), (1745, (1, 1746, [], [1])), (1746, (30, 1747, [], [])), (1747, (80, 1748, [], [])), (1748, (100, 1751, [163, 2, 270], [])), (1751, (15, 1752, [2], [])), (1752, (15, 1753, [0], [])), (1753, (11, 1754, [3], [])), (1754, (1, 1755, [], [1])), (1755, (30, 1756, [], [])), (1756, (80, 1757, [], [])), (1757, (100, 1760, [318, 2, 271], [])), (1760, (66, 1763, [2243], [])), (1763, (1, 1764, [], [0])), (1764, (110, 1765, [], [])), (1765, (15, 1766, [1], [])), (1766, (15, 1767, [0], [])), (1767, (11, 1768, [3], [])), (1768, (1, 1769, [], [1])), (1769, (30, 1770, [], [])), (1770, (80, 1771, [], [])), (1771, (15, 1772, [0], [])), (1772, (11, 1773, [3], [])), (1773, (1, 1774, [], [2])), (1774, (30, 1775, [], [])), (1775, (80, 1776, [], [])), (1776, (15, 1777, [0], [])), (1777, (11, 1778, [3], [])), (1778, (1, 1779, [], [3])), (1779, (30, 1780, [], [])), (1780, (80, 1781, [], [])), (1781, (100, 1784, [165, 4, 272], [])), (1784, (15, 1785, [2], [])), (1785, (15, 1786, [0], [])), (1786, (11, 1787, [3], [])), (1787, (1, 1788, [], [1])), (1788, (30, 1789, [], [])), (1789, (80, 1790, [], [])), (1790, (15, 1791, [0], [])), (1791, (11, 1792, [3], [])), (1792, (1, 1793, [], [2])), (1793, (30, 1794, [], [])), (1794, (80, 1795, [], [])), (1795, (15, 1796, [0], [])), (1796, (11, 1797, [3], [])), (1797, (1, 1798, [], [3])), (1798, (30, 1799, [], [])), (1799, (80, 1800, [], [])), (1800, (100, 1803, [319, 4, 273], [])), (1803, (66, 1806, [2243], [])), (1806, (1, 1807, [], [0])), (1807, (110, 1808, [], [])), (1808, (15, 1809, [1], [])), (1809, (15, 1810, [0], [])), (1810, (11, 1811, [3], [])), (1811, (1, 1812, [], [1])), (1812, (30, 1813, [], [])), (1813, (80, 1814, [], [])), (1814, (15, 1815, [0], [])), (1815, (11, 1816, [3], [])), (1816, (1, 1817, [], [2])), (1817, (30, 1818, [], [])), (1818, (80, 1819, [], [])), (1819, (100, 1822, [169, 3, 274], [])), (1822, (15, 1823, [2], [])), (1823, (15, 1824, [0], [])), (1824, (11, 1825, [3], [])), (1825, (1, 1826, [], [1])), (1826, (30, 1827, [], [])), (1827, (80, 1828, [], [])), (1828, (15, 1829, [0], [])), (1829, (11, 1830, [3], [])), (1830, (1, 1831, [], [2])), (1831, (30, 1832, [], [])), (1832, (80, 1833, [], [])), (1833, (100, 1836, [321, 3, 275], [])), (1836, (66, 1839, [2243], [])), (1839, (1, 1840, [], [0])), (1840, (110, 1841, [], [])), (1841, (15, 1842, [1], [])), (1842, (15, 1843, [0], [])), (1843, (11, 1844, [3], [])), (1844, (1, 1845, [], [1])), (1845, (30, 1846, [], [])), (1846, (80, 1847, [], [])), (1847, (15, 1848, [0], [])), (1848, (11, 1849, [3], [])), (1849, (1, 1850, [], [2])), (1850, (30, 1851, [], [])), (1851, (80, 1852, [], [])), (1852, (15, 1853, [0], [])), (1853, (11, 1854, [3], [])), (1854, (1, 1855, [], [3])), (1855, (30, 1856, [], [])), (1856, (80, 1857, [], [])), (1857, (100, 1860, [172, 4, 276], [])), (1860, (15, 1861, [2], [])), (1861, (15, 1862, [0], [])), (1862, (11, 1863, [3], [])), (1863, (1, 1864, [], [1])), (1864, (30, 1865, [], [])), (1865, (80, 1866, [], [])), (1866, (15, 1867, [0], [])), (1867, (11, 1868, [3], [])), (1868, (1, 1869, [], [2])), (1869, (30, 1870, [], [])), (1870, (80, 1871, [], [])), (1871, (15, 1872, [0], [])), (1872, (11, 1873, [3], [])), (1873, (1, 1874, [], [3])), (1874, (30, 1875, [], [])), (1875, (80, 1876, [], [])), (1876, (100, 1879, [322, 4, 277], [])), (1879, (66, 1882, [2243], [])), (1882, (1, 1883, [], [0])), (1883, (110, 1884, [], [])), (1884, (15, 1885, [1], [])), (1885, (15, 1886, [0], [])), (1886, (11, 1887, [3], [])), (1887, (1, 1888, [], [1])), (1888, (30, 1889, [], [])), (1889, (80, 1890, [], [])), (1890, (15, 1891, [0], [])), (1891, (11, 1892, [3], [])), (1892, (1, 1893, [], [2])), (1893, (30, 1894, [], [])), (1894, (80, 1895, [], [])), (1895, (100, 1898, [174, 3, 278], [])), (1898, (15, 1899, [2], [])), (1899, (15, 1900, [0], [])), (1900, (11, 1901, [3], [])), (1901, (1, 1902, [], [1])), (1902, (30, 1903, [], [])), (1903, (80, 1904, [], [])), (1904, (15, 1905, [0], [])), (1905, (11, 1906, [3], [])), (1906, (1, 1907, [], [2])), (1907, (30, 1908, [], [])), (1908, (80, 1909, [], [])), (1909, (100, 1912, [323, 3, 279], [])), (1912, (66, 1915, [2243], [])), (1915, (1, 1916, [], [0])), (1916, (110, 1917, [], [])), (1917, (15, 1918, [1], [])), (1918, (15, 1919, [0], [])), (1919, (11, 1920, [3], [])), (1920, (1, 1921, [], [1])), (1921, (30, 1922, [], [])), (1922, (80, 1923, [], [])), (1923, (100, 1926, [177, 2, 280], [])), (1926, (15, 1927, [2], [])), (1927, (15, 1928, [0], [])), (1928, (11, 1929, [3], [])), (1929, (1, 1930, [], [1])), (1930, (30, 1931, [], [])), (1931, (80, 1932, [], [])), (1932, (100, 1935, [325, 2, 281], [])), (1935, (66, 1938, [2243], [])), (1938, (1, 1939, [], [0])), (1939, (110, 1940, [], [])), (1940, (15, 1941, [1], [])), (1941, (15, 1942, [0], [])), (1942, (11, 1943, [3], [])), (1943, (1, 1944, [], [1])), (1944, (30, 1945, [], [])), (1945, (80, 1946, [], [])), (1946, (100, 1949, [179, 2, 282], [])), (1949, (15, 1950, [2], []))]
noncomputable def cd_345_7 : List (Nat × Ins) := [(1950, (15, 1951, [0], [])), (1951, (11, 1952, [3], [])), (1952, (1, 1953, [], [1])), (1953, (30, 1954, [], [])), (1954, (80, 1955, [], [])), (1955, (100, 1958, [326, 2, 283], [])), (1958, (66, 1961, [2243], [])), (1961, (1, 1962, [], [0])), (1962, (110, 1963, [], [])), (1963, (15, 1964, [1], [])), (1964, (15, 1965, [0], [])), (1965, (11, 1966, [3], [])), (1966, (1, 1967, [], [1])), (1967, (30, 1968, [], [])), (1968, (80, 1969, [], [])), (1969, (100, 1972, [181, 2, 284], [])), (1972, (15, 1973, [2], [])), (1973, (15, 1974, [0], [])), (1974, (11, 1975, [3], [])), (1975, (1, 1976, [], [1])), (1976, (30, 1977, [], [])), (1977, (80, 1978, [], [])), (1978, (100, 1981, [327, 2, 285], [])), (1981, (66, 1984, [2243], [])), (1984, (1, 1985, [], [0])), (1985, (110, 1986, [], [])), (1986, (15, 1987, [1], [])), (1987, (15, 1988, [0], [])), (1988, (11, 1989, [3], [])), (1989, (1, 1990, [], [1])), (1990, (30, 1991, [], [])), (1991, (80, 1992, [], [])), (1992, (100, 1995, [183, 2, 286], [])), (1995, (15, 1996, [2], [])), (1996, (15, 1997, [0], [])), (1997, (11, 1998, [3], [])), (1998, (1, 1999, [], [1])), (1999, (30, 2000, [], [])), (2000, (80, 2001, [], [])), (2001, (100, 2004, [328, 2, 287], [])), (2004, (66, 2007, [2243], [])), (2007, (1, 2008, [], [0])), (2008, (110, 2009, [], [])), (2009, (15, 2010, [1], [])), (2010, (15, 2011, [0], [])), (2011, (11, 2012, [3], [])), (2012, (1, 2013, [], [1])), (2013, (30, 2014, [], [])), (2014, (80, 2015, [], [])), (2015, (15, 2016, [0], [])), (2016, (11, 2017, [3], [])), (2017, (1, 2018, [], [2])), (2018, (30, 2019, [], [])), (2019, (80, 2020, [], [])), (2020, (15, 2021, [0], [])), (2021, (11, 2022, [3], [])), (2022, (1, 2023, [], [3])), (2023, (30, 2024, [], [])), (2024, (80, 2025, [], [])), (2025, (100, 2028, [185, 4, 288], [])), (2028, (15, 2029, [2], [])), (2029, (15, 2030, [0], [])), (2030, (11, 2031, [3], [])), (2031, (1, 2032, [], [1])), (2032, (30, 2033, [], [])), (2033, (80, 2034, [], [])), (2034, (15, 2035, [0], [])), (2035, (11, 2036, [3], [])), (2036, (1, 2037, [], [2])), (2037, (30, 2038, [], [])), (2038, (80, 2039, [], [])), (2039, (15, 2040, [0], [])), (2040, (11, 2041, [3], [])), (2041, (1, 2042, [], [3])), (2042, (30, 2043, [], [])), (2043, (80, 2044, [], [])), (2044, (100, 2047, [330, 4, 289], [])), (2047, (66, 2050, [2243], [])), (2050, (1, 2051, [], [0])), (2051, (110, 2052, [], [])), (2052, (15, 2053, [1], [])), (2053, (15, 2054, [0], [])), (2054, (11, 2055, [3], [])), (2055, (1, 2056, [], [1])), (2056, (30, 2057, [], [])), (2057, (80, 2058, [], [])), (2058, (15, 2059, [0], [])), (2059, (11, 2060, [3], [])), (2060, (1, 2061, [], [2])), (2061, (30, 2062, [], [])), (2062, (80, 2063, [], [])), (2063, (100, 2066, [191, 3, 290], [])), (2066, (15, 2067, [2], [])), (2067, (15, 2068, [0], [])), (2068, (11, 2069, [3], [])), (2069, (1, 2070, [], [1])), (2070, (30, 2071, [], [])), (2071, (80, 2072, [], [])), (2072, (15, 2073, [0], [])), (2073, (11, 2074, [3], [])), (2074, (1, 2075, [], [2])), (2075, (30, 2076, [], [])), (2076, (80, 2077, [], [])), (2077, (100, 2080, [332, 3, 291], [])), (2080, (66, 2083, [2243], [])), (2083, (1, 2084, [], [0])), (2084, (110, 2085, [], [])), (2085, (15, 2086, [1], [])), (2086, (15, 2087, [0], [])), (2087, (11, 2088, [3], [])), (2088, (1, 2089, [], [1])), (2089, (30, 2090, [], [])), (2090, (80, 2091, [], [])), (2091, (15, 2092, [0], [])), (2092, (11, 2093, [3], [])), (2093, (1, 2094, [], [2])), (2094, (30, 2095, [], [])), (2095, (80, 2096, [], [])), (2096, (15, 2097, [0], [])), (2097, (11, 2098, [3], [])), (2098, (1, 2099, [], [3])), (2099, (30, 2100, [], [])), (2100, (80, 2101, [], [])), (2101, (100, 2104, [193, 4, 292], [])), (2104, (15, 2105, [2], [])), (2105, (15, 2106, [0], [])), (2106, (11, 2107, [3], [])), (2107, (1, 2108, [], [1])), (2108, (30, 2109, [], [])), (2109, (80, 2110, [], [])), (2110, (15, 2111, [0], [])), (2111, (11, 2112, [3], [])), (2112, (1, 2113, [], [2])), (2113, (30, 2114, [], [])), (2114, (80, 2115, [], [])), (2115, (15, 2116, [0], [])), (2116, (11, 2117, [3], [])), (2117, (1, 2118, [], [3])), (2118, (30, 2119, [], [])), (2119, (80, 2120, [], [])), (2120, (100, 2123, [333, 4, 293], [])), (2123, (66, 2126, [2243], [])), (2126, (1, 2127, [], [0])), (2127, (110, 2128, [], [])), (2128, (15, 2129, [1], [])), (2129, (15, 2130, [0], [])), (2130, (11, 2131, [3], [])), (2131, (1, 2132, [], [1])), (2132, (30, 2133, [], [])), (2133, (80, 2134, [], [])), (2134, (100, 2137, [195, 2, 294], [])), (2137, (15, 2138, [2], [])), (2138, (15, 2139, [0], [])), (2139, (11, 2140, [3], [])), (2140, (1, 2141, [], [1])), (2141, (30, 2142, [], [])), (2142, (80, 2143, [], [])), (2143, (100, 2146, [334, 2, 295], [])), (2146, (66, 2149, [2243], [])), (2149, (1, 2150, [], [0])), (2150, (110, 2151, [], [])), (2151, (15, 2152, [1], [])), (2152, (15, 2153, [0], [])), (2153, (11, 2154, [3], [])), (2154, (1, 2155, [], [1])), (2155, (30, 2156, [], [])), (2156, (80, 2157, [], [])), (2157, (100, 2160, [197, 2, 296], [])), (2160, (15, 2161, [2], [])), (2161, (15, 2162, [0], [])), (2162, (11, 2163, [3], [])), (2163, (1, 2164, [], [1])), (2164, (30, 2165, [], [])), (2165, (80, 2166, [], [])), (2166, (100, 2169, [335, 2, 297], [])), (2169, (66, 2172, [2243], [])), (2172, (1, 2173, [], [0])), (2173, (110, 2174, [], [])), (2174, (15, 2175, [1], [])), (2175, (100, 2178, [202, 1, 298], [])), (2178, (15, 2179, [2], [])), (2179, (100, 2182, [339, 1, 299], [])), (2182, (66, 2185, [2243], [])), (2185, (1, 2186, [], [0])), (2186, (110, 2187, [], [])), (2187, (15, 2188, [1], [])), (2188, (15, 2189, [0], [])), (2189, (11, 2190, [3], [])), (2190, (1, 2191, [], [1])), (2191, (30, 2192, [], [])), (2192, (80, 2193, [], [])), (2193, (15, 2194, [0], [])), (2194, (11, 2195, [3], [])), (2195, (1, 2196, [], [2])), (2196, (30, 2197, [], [])), (2197, (80, 2198, [], [])), (2198, (100, 2201, [205, 3, 300], [])), (2201, (15, 2202, [2], [])), (2202, (15, 2203, [0], [])), (2203, (11, 2204, [3], []))]
noncomputable def cd_345_8 : List (Nat × Ins) := [(2204, (1, 2205, [], [1])), (2205, (30, 2206, [], [])), (2206, (80, 2207, [], [])), (2207, (15, 2208, [0], [])), (2208, (11, 2209, [3], [])), (2209, (1, 2210, [], [2])), (2210, (30, 2211, [], [])), (2211, (80, 2212, [], [])), (2212, (100, 2215, [341, 3, 301], [])), (2215, (66, 2218, [2243], [])), (2218, (1, 2219, [], [0])), (2219, (110, 2220, [], [])), (2220, (15, 2221, [1], [])), (2221, (15, 2222, [0], [])), (2222, (11, 2223, [3], [])), (2223, (1, 2224, [], [1])), (2224, (30, 2225, [], [])), (2225, (80, 2226, [], [])), (2226, (100, 2229, [206, 2, 302], [])), (2229, (15, 2230, [2], [])), (2230, (15, 2231, [0], [])), (2231, (11, 2232, [3], [])), (2232, (1, 2233, [], [1])), (2233, (30, 2234, [], [])), (2234, (80, 2235, [], [])), (2235, (100, 2238, [342, 2, 303], [])), (2238, (66, 2241, [2243], [])), (2241, (1, 2242, [], [0])), (2242, (110, 2243, [], [])), (2243, (22, 2246, [3], [8])), (2246, (73, 2249, [18], [])), (2249, (1, 2250, [], [1])), (2250, (110, 2251, [], []))]
noncomputable def cd_345 : List (Nat × Ins) := cd_345_0 ++ (cd_345_1 ++ (cd_345_2 ++ (cd_345_3 ++ (cd_345_4 ++ (cd_345_5 ++ (cd_345_6 ++ (cd_345_7 ++ (cd_345_8))))))))
/-- PitInspectorLaw.law([I)Z -/
noncomputable def mt_345 : MTy := (⟨"PitInspectorLaw", "law", "([I)Z"⟩, code, 4, some .boolean, 16, 50, 2, (600000, 7302249), 1, [], cd_345)
noncomputable def MTL_0 : List MTy := [mt_0, mt_1, mt_2, mt_3, mt_4, mt_5, mt_6, mt_7, mt_8, mt_9, mt_10, mt_11, mt_12, mt_13, mt_14, mt_15, mt_16, mt_17, mt_18, mt_19, mt_20, mt_21, mt_22, mt_23, mt_24, mt_25, mt_26, mt_27, mt_28, mt_29, mt_30, mt_31]
noncomputable def MTL_1 : List MTy := [mt_32, mt_33, mt_34, mt_35, mt_36, mt_37, mt_38, mt_39, mt_40, mt_41, mt_42, mt_43, mt_44, mt_45, mt_46, mt_47, mt_48, mt_49, mt_50, mt_51, mt_52, mt_53, mt_54, mt_55, mt_56, mt_57, mt_58, mt_59, mt_60, mt_61, mt_62, mt_63]
noncomputable def MTL_2 : List MTy := [mt_64, mt_65, mt_66, mt_67, mt_68, mt_69, mt_70, mt_71, mt_72, mt_73, mt_74, mt_75, mt_76, mt_77, mt_78, mt_79, mt_80, mt_81, mt_82, mt_83, mt_84, mt_85, mt_86, mt_87, mt_88, mt_89, mt_90, mt_91, mt_92, mt_93, mt_94, mt_95]
noncomputable def MTL_3 : List MTy := [mt_96, mt_97, mt_98, mt_99, mt_100, mt_101, mt_102, mt_103, mt_104, mt_105, mt_106, mt_107, mt_108, mt_109, mt_110, mt_111, mt_112, mt_113, mt_114, mt_115, mt_116, mt_117, mt_118, mt_119, mt_120, mt_121, mt_122, mt_123, mt_124, mt_125, mt_126, mt_127]
noncomputable def MTL_4 : List MTy := [mt_128, mt_129, mt_130, mt_131, mt_132, mt_133, mt_134, mt_135, mt_136, mt_137, mt_138, mt_139, mt_140, mt_141, mt_142, mt_143, mt_144, mt_145, mt_146, mt_147, mt_148, mt_149, mt_150, mt_151, mt_152, mt_153, mt_154, mt_155, mt_156, mt_157, mt_158, mt_159]
noncomputable def MTL_5 : List MTy := [mt_160, mt_161, mt_162, mt_163, mt_164, mt_165, mt_166, mt_167, mt_168, mt_169, mt_170, mt_171, mt_172, mt_173, mt_174, mt_175, mt_176, mt_177, mt_178, mt_179, mt_180, mt_181, mt_182, mt_183, mt_184, mt_185, mt_186, mt_187, mt_188, mt_189, mt_190, mt_191]
noncomputable def MTL_6 : List MTy := [mt_192, mt_193, mt_194, mt_195, mt_196, mt_197, mt_198, mt_199, mt_200, mt_201, mt_202, mt_203, mt_204, mt_205, mt_206, mt_207, mt_208, mt_209, mt_210, mt_211, mt_212, mt_213, mt_214, mt_215, mt_216, mt_217, mt_218, mt_219, mt_220, mt_221, mt_222, mt_223]
noncomputable def MTL_7 : List MTy := [mt_224, mt_225, mt_226, mt_227, mt_228, mt_229, mt_230, mt_231, mt_232, mt_233, mt_234, mt_235, mt_236, mt_237, mt_238, mt_239, mt_240, mt_241, mt_242, mt_243, mt_244, mt_245, mt_246, mt_247, mt_248, mt_249, mt_250, mt_251, mt_252, mt_253, mt_254, mt_255]
noncomputable def MTL_8 : List MTy := [mt_256, mt_257, mt_258, mt_259, mt_260, mt_261, mt_262, mt_263, mt_264, mt_265, mt_266, mt_267, mt_268, mt_269, mt_270, mt_271, mt_272, mt_273, mt_274, mt_275, mt_276, mt_277, mt_278, mt_279, mt_280, mt_281, mt_282, mt_283, mt_284, mt_285, mt_286, mt_287]
noncomputable def MTL_9 : List MTy := [mt_288, mt_289, mt_290, mt_291, mt_292, mt_293, mt_294, mt_295, mt_296, mt_297, mt_298, mt_299, mt_300, mt_301, mt_302, mt_303, mt_304, mt_305, mt_306, mt_307, mt_308, mt_309, mt_310, mt_311, mt_312, mt_313, mt_314, mt_315, mt_316, mt_317, mt_318, mt_319]
noncomputable def MTL_10 : List MTy := [mt_320, mt_321, mt_322, mt_323, mt_324, mt_325, mt_326, mt_327, mt_328, mt_329, mt_330, mt_331, mt_332, mt_333, mt_334, mt_335, mt_336, mt_337, mt_338, mt_339, mt_340, mt_341, mt_342, mt_343, mt_344]
noncomputable def MTL : List MTy := MTL_0 ++ (MTL_1 ++ (MTL_2 ++ (MTL_3 ++ (MTL_4 ++ (MTL_5 ++ (MTL_6 ++ (MTL_7 ++ (MTL_8 ++ (MTL_9 ++ (MTL_10))))))))))
noncomputable def mt (m : Nat) : MTy := if m = 345 then mt_345 else MTL.getD m mt_0
def L0 : List (Nat × Nat) := [(0, 12), (21, 160), (1, 8), (20, 12), (20, 12), (20, 12), (20, 12), (20, 12), (20, 12), (2, 9), (23, 12), (24, 30), (3, 17), (21, 160), (20, 12), (20, 12), (20, 12), (20, 12), (20, 12), (20, 12), (20, 12), (20, 160), (4, 4), (23, 32), (20, 360), (5, 15), (20, 150), (20, 300), (20, 300), (20, 81), (20, 80), (20, 80), (20, 150), (20, 80), (20, 12), (20, 150), (20, 80), (20, 12), (6, 6), (20, 12), (20, 12), (20, 12), (20, 150), (20, 80), (20, 12), (7, 13), (20, 15), (20, 15), (20, 15), (20, 15), (20, 120), (20, 120), (20, 120), (20, 30), (20, 30), (8, 16), (20, 40), (20, 40), (20, 40), (20, 60), (22, 60), (20, 300), (20, 300), (20, 300), (20, 12), (20, 12), (20, 300), (20, 300), (9, 4), (20, 60), (20, 2400), (23, 60), (10, 7), (20, 12), (20, 12), (20, 12), (20, 12), (11, 6), (20, 16), (20, 16), (20, 16), (20, 16), (12, 111), (21, 160), (20, 12), (20, 12), (20, 12), (20, 12), (20, 12), (20, 12), (20, 12), (20, 40), (20, 40), (20, 40), (20, 30), (20, 30), (20, 30), (20, 30), (21, 4800), (20, 360), (20, 360), (20, 360), (20, 360), (20, 360), (20, 360), (20, 360), (20, 4800), (20, 4800), (20, 200), (22, 360), (22, 128), (23, 128), (23, 200), (22, 200), (20, 80), (20, 12), (20, 12), (20, 12), (20, 12), (20, 150), (20, 150), (20, 150), (22, 150), (22, 150), (20, 80), (20, 80), (20, 80), (20, 150), (20, 150), (20, 80), (20, 15), (20, 15), (20, 15), (20, 15), (20, 30), (20, 30), (20, 30), (20, 30), (20, 30), (20, 30), (20, 30), (20, 60), (20, 60), (20, 60), (20, 30), (20, 60), (22, 60), (20, 300), (20, 300), (20, 300), (20, 300), (20, 300), (20, 60), (20, 2400), (22, 2400), (20, 12), (20, 12), (20, 12), (22, 12), (20, 16), (20, 16), (20, 16), (20, 16)]
def TL : List (Nat × Nat) := [(3, 17), (21, 160), (20, 12), (20, 12), (20, 12), (20, 12), (20, 12), (20, 12), (20, 12), (20, 160)]
def LAY : Lay := fun a => if a < 163 then L0.getD a (0, 0) else TL.getD ((a - 163) % 10) (0, 0)
noncomputable def mY (m : Nat) : MethodName := (mt m).1
noncomputable def mB (m : Nat) : ByteArray := (mt m).2.1
noncomputable def mL (m : Nat) : Nat := (mt m).2.2.1
noncomputable def mR (m : Nat) : Option FieldType := (mt m).2.2.2.1
noncomputable def mO (m : Nat) : Nat := (mt m).2.2.2.2.1
noncomputable def mC (m : Nat) : Nat := (mt m).2.2.2.2.2.1
noncomputable def mT (m : Nat) : Nat := (mt m).2.2.2.2.2.2.1
noncomputable def mA (m : Nat) : GG := (mt m).2.2.2.2.2.2.2.1
noncomputable def mN (m : Nat) : Nat := (mt m).2.2.2.2.2.2.2.2.1
noncomputable def mP (m : Nat) : List Nat := (mt m).2.2.2.2.2.2.2.2.2.1
noncomputable def mK (m : Nat) : List (Nat × Ins) := (mt m).2.2.2.2.2.2.2.2.2.2
noncomputable def PG : Prg := (LAY, fun m pc => lk (mK m) pc, mA, mL, mC, mT)
def ML : List (Nat × Nat × Nat × Nat × Nat) := [(0, 15, 1, 1, 33), (0, 22, 2, 1, 73), (0, 29, 5, 0, 213), (0, 36, 6, 0, 279), (0, 43, 7, 1, 305), (0, 50, 8, 1, 355), (0, 57, 9, 0, 420), (0, 64, 10, 0, 442), (0, 71, 11, 1, 473), (0, 81, 13, 0, 539), (0, 85, 15, 0, 546), (0, 89, 17, 0, 555), (0, 92, 18, 0, 567), (0, 96, 20, 0, 568), (0, 103, 22, 0, 577), (0, 107, 24, 0, 585), (0, 111, 25, 0, 589), (0, 115, 46, 0, 764), (0, 116, 47, 0, 768), (0, 120, 48, 0, 772), (0, 124, 55, 0, 801), (0, 128, 56, 0, 805), (0, 131, 80, 0, 906), (0, 134, 84, 0, 923), (0, 138, 88, 0, 939), (0, 141, 89, 0, 944), (0, 146, 91, 0, 953), (0, 150, 94, 0, 966), (0, 153, 95, 0, 970), (0, 156, 99, 0, 986), (0, 159, 101, 0, 994), (0, 163, 60, 0, 1012), (0, 166, 105, 0, 1013), (0, 169, 107, 0, 1021), (0, 172, 109, 0, 1029), (0, 176, 103, 0, 1037), (0, 179, 111, 0, 1038), (0, 183, 108, 0, 1049), (0, 186, 113, 0, 1050), (0, 190, 58, 0, 813), (0, 193, 116, 0, 1063), (0, 196, 118, 0, 1072), (0, 199, 102, 0, 1082), (0, 202, 67, 0, 1083), (0, 205, 68, 0, 1084), (0, 208, 66, 0, 845), (0, 211, 122, 0, 1093), (0, 214, 125, 0, 1107), (0, 217, 128, 0, 1119), (0, 220, 131, 0, 1131), (0, 223, 133, 0, 1139), (0, 226, 134, 0, 1143), (0, 229, 74, 0, 1147), (0, 232, 135, 0, 1148), (0, 235, 72, 0, 868), (0, 238, 73, 0, 1156), (0, 241, 138, 0, 1161), (0, 244, 126, 0, 1174), (0, 247, 141, 0, 1175), (0, 250, 142, 0, 1179), (0, 254, 144, 0, 1187), (0, 257, 146, 0, 1195), (0, 260, 148, 0, 1203), (0, 263, 152, 0, 1219), (0, 274, 156, 0, 1236), (0, 277, 158, 0, 1244), (0, 280, 160, 0, 1252), (0, 283, 162, 0, 1260), (0, 286, 149, 0, 1268), (0, 290, 164, 0, 1269), (0, 293, 166, 0, 1277), (0, 295, 167, 0, 1281), (0, 298, 170, 0, 1293), (0, 301, 173, 0, 1305), (0, 304, 175, 0, 1313), (0, 307, 176, 0, 1317), (0, 311, 178, 0, 1326), (0, 314, 180, 0, 1334), (0, 317, 182, 0, 1343), (0, 320, 184, 0, 1352), (0, 330, 186, 0, 1361), (0, 333, 192, 0, 1386), (0, 336, 194, 0, 1394), (0, 339, 196, 0, 1402), (0, 342, 198, 0, 1411), (0, 345, 199, 0, 1415), (0, 349, 201, 0, 1425), (0, 352, 203, 0, 1433), (0, 358, 150, 0, 1451), (0, 361, 153, 0, 1452), (0, 418, 57, 0, 809), (0, 421, 79, 0, 902), (0, 424, 85, 0, 927), (6, 32, 344, 0, 283), (6, 39, 13, 1, 1043), (6, 43, 105, 0, 1044), (6, 47, 60, 0, 821), (6, 51, 58, 0, 1054), (6, 55, 59, 0, 817), (6, 58, 62, 0, 840), (6, 62, 109, 0, 1067), (6, 70, 107, 0, 1076), (6, 73, 116, 0, 1077), (6, 76, 61, 0, 825), (6, 88, 63, 0, 833), (6, 92, 65, 0, 841), (6, 101, 64, 0, 837), (8, 53, 150, 0, 1211), (8, 57, 13, 1, 572), (8, 64, 149, 0, 1207), (8, 70, 153, 0, 1223), (11, 31, 13, 1, 1406), (11, 35, 61, 0, 1419), (11, 44, 200, 0, 1420), (11, 53, 204, 0, 1437), (11, 57, 343, 0, 1441), (2, 21, 3, 1, 80), (2, 28, 4, 1, 164), (2, 44, 46, 0, 776), (2, 57, 24, 0, 593), (2, 61, 26, 0, 594), (2, 65, 27, 0, 604), (2, 76, 49, 0, 777), (2, 80, 51, 0, 785), (2, 84, 52, 0, 789), (2, 93, 53, 0, 793), (2, 105, 86, 0, 931), (2, 109, 81, 0, 911), (2, 113, 13, 1, 943), (2, 117, 92, 0, 957), (2, 121, 50, 0, 974), (2, 124, 96, 0, 975), (2, 128, 97, 0, 978), (2, 132, 55, 0, 910), (2, 150, 82, 0, 916), (10, 28, 344, 0, 446), (10, 34, 13, 1, 1347), (10, 44, 187, 0, 1365), (10, 48, 190, 0, 1378), (10, 52, 189, 0, 1374), (10, 57, 188, 0, 1370), (5, 48, 344, 0, 217), (5, 61, 108, 0, 1025), (5, 65, 102, 0, 998), (5, 68, 103, 0, 1002), (5, 72, 13, 1, 1006), (5, 76, 104, 0, 1007), (5, 89, 62, 0, 829), (5, 92, 67, 0, 849), (5, 95, 68, 0, 853), (5, 99, 69, 0, 857), (5, 102, 70, 0, 861), (5, 105, 71, 0, 865), (1, 34, 13, 1, 550), (1, 38, 18, 0, 559), (4, 22, 28, 0, 608), (4, 26, 29, 0, 612), (4, 30, 35, 0, 635), (4, 42, 30, 0, 616), (4, 53, 31, 0, 620), (4, 65, 36, 0, 639), (4, 74, 33, 0, 628), (4, 83, 32, 0, 624), (4, 89, 34, 0, 632), (4, 92, 37, 0, 643), (4, 95, 43, 0, 752), (4, 99, 44, 0, 756), (4, 103, 38, 0, 647), (4, 106, 39, 0, 651), (4, 109, 40, 0, 655), (4, 112, 41, 0, 659), (4, 115, 42, 0, 663), (7, 49, 123, 0, 1098), (7, 55, 13, 1, 1097), (7, 59, 126, 0, 1111), (7, 62, 129, 0, 1123), (7, 69, 76, 0, 885), (7, 78, 77, 0, 892), (7, 85, 75, 0, 881), (7, 88, 78, 0, 897), (7, 92, 74, 0, 877), (7, 98, 73, 0, 872), (7, 101, 139, 0, 1165), (7, 104, 125, 0, 1169), (3, 74, 50, 0, 781), (3, 81, 52, 0, 961), (9, 22, 344, 0, 424), (9, 32, 168, 0, 1285), (9, 36, 171, 0, 1297), (9, 39, 149, 0, 1321), (16, 9, 0, 0, 25), (16, 12, 207, 0, 1459), (16, 13, 12, 0, 534), (16, 17, 208, 0, 1797), (16, 18, 14, 0, 542), (16, 22, 210, 0, 1805), (16, 23, 16, 0, 551), (16, 27, 211, 0, 1812), (16, 28, 19, 0, 563), (16, 32, 213, 0, 1820), (16, 33, 21, 0, 573), (16, 37, 214, 0, 1825), (16, 38, 23, 0, 581), (16, 41, 216, 0, 1833), (16, 42, 45, 0, 760), (16, 45, 240, 0, 1930), (16, 46, 54, 0, 797), (16, 50, 246, 0, 1954), (16, 51, 83, 0, 919), (16, 55, 276, 0, 2072), (16, 56, 87, 0, 935), (16, 59, 278, 0, 2080), (16, 60, 90, 0, 948), (16, 64, 279, 0, 2084), (16, 65, 93, 0, 962), (16, 68, 281, 0, 2093), (16, 69, 98, 0, 982), (16, 72, 284, 0, 2105), (16, 73, 100, 0, 990), (16, 77, 285, 0, 2109), (16, 78, 106, 0, 1017), (16, 82, 287, 0, 2117), (16, 83, 110, 0, 1033), (16, 87, 289, 0, 2125), (16, 88, 112, 0, 1045), (16, 91, 290, 0, 2130), (16, 92, 114, 0, 1055), (16, 95, 291, 0, 2134), (16, 96, 115, 0, 1059), (16, 99, 292, 0, 2138), (16, 100, 117, 0, 1068), (16, 103, 293, 0, 2142), (16, 104, 119, 0, 1078), (16, 107, 294, 0, 2146), (16, 108, 120, 0, 1085), (16, 111, 295, 0, 2150), (16, 112, 121, 0, 1089), (16, 115, 296, 0, 2154), (16, 116, 124, 0, 1103), (16, 119, 298, 0, 2165), (16, 120, 127, 0, 1115), (16, 123, 300, 0, 2173), (16, 124, 130, 0, 1127), (16, 127, 301, 0, 2177), (16, 128, 132, 0, 1135), (16, 131, 302, 0, 2181), (16, 132, 136, 0, 1152), (16, 136, 303, 0, 2185), (16, 137, 137, 0, 1157), (16, 140, 304, 0, 2189), (16, 141, 140, 0, 1170), (16, 145, 306, 0, 2198), (16, 146, 143, 0, 1183), (16, 150, 307, 0, 2202), (16, 151, 145, 0, 1191), (16, 154, 308, 0, 2206), (16, 155, 147, 0, 1199), (16, 159, 309, 0, 2211), (16, 160, 151, 0, 1215), (16, 163, 311, 0, 2219), (16, 164, 154, 0, 1227), (16, 167, 312, 0, 2223), (16, 168, 155, 0, 1232), (16, 171, 313, 0, 2228), (16, 172, 157, 0, 1240), (16, 175, 314, 0, 2232), (16, 176, 159, 0, 1248), (16, 179, 316, 0, 2239), (16, 180, 161, 0, 1256), (16, 183, 317, 0, 2243), (16, 184, 163, 0, 1264), (16, 187, 318, 0, 2248), (16, 188, 165, 0, 1273), (16, 191, 319, 0, 2252), (16, 192, 169, 0, 1289), (16, 195, 321, 0, 2260), (16, 196, 172, 0, 1301), (16, 199, 322, 0, 2264), (16, 200, 174, 0, 1309), (16, 203, 323, 0, 2268), (16, 204, 177, 0, 1322), (16, 207, 325, 0, 2276), (16, 208, 179, 0, 1330), (16, 211, 326, 0, 2280), (16, 212, 181, 0, 1339), (16, 215, 327, 0, 2284), (16, 216, 183, 0, 1348), (16, 219, 328, 0, 2289), (16, 220, 185, 0, 1356), (16, 223, 330, 0, 2297), (16, 224, 191, 0, 1382), (16, 227, 332, 0, 2309), (16, 228, 193, 0, 1390), (16, 231, 333, 0, 2313), (16, 232, 195, 0, 1398), (16, 235, 334, 0, 2317), (16, 236, 197, 0, 1407), (16, 239, 335, 0, 2322), (16, 240, 202, 0, 1429), (16, 243, 339, 0, 2337), (16, 244, 205, 0, 1447), (16, 247, 341, 0, 2344), (16, 248, 206, 0, 1453), (16, 251, 342, 0, 2348), (12, 265, 209, 0, 1802), (12, 281, 212, 0, 1816), (12, 290, 215, 0, 1829), (12, 303, 217, 0, 1839), (12, 319, 220, 0, 1851), (12, 323, 219, 0, 1847), (12, 327, 223, 0, 1863), (12, 334, 226, 0, 1875), (12, 337, 234, 0, 1907), (12, 340, 231, 0, 1897), (12, 343, 232, 0, 1900), (12, 346, 228, 0, 1886), (12, 349, 222, 0, 1859), (12, 353, 227, 0, 1882), (12, 357, 229, 0, 1890), (12, 360, 233, 0, 1903), (12, 368, 235, 0, 1911), (12, 371, 225, 0, 1871), (12, 374, 230, 0, 1893), (12, 377, 236, 0, 1914), (12, 380, 238, 0, 1922), (12, 386, 224, 0, 1867), (12, 389, 237, 0, 1918), (12, 395, 221, 0, 1855), (12, 398, 239, 0, 1926), (12, 405, 218, 0, 1843), (12, 408, 244, 0, 1946), (12, 411, 243, 0, 1942), (12, 415, 241, 0, 1934), (12, 418, 242, 0, 1938), (12, 421, 245, 0, 1950), (12, 430, 253, 0, 1981), (12, 433, 254, 0, 1985), (12, 437, 261, 0, 2013), (12, 440, 266, 0, 2033), (12, 443, 274, 0, 2064), (12, 446, 275, 0, 2068), (12, 449, 252, 0, 1977), (12, 453, 250, 0, 1970), (12, 457, 249, 0, 1966), (12, 460, 251, 0, 1973), (12, 463, 247, 0, 1958), (12, 466, 248, 0, 1962), (12, 472, 277, 0, 2076), (12, 477, 280, 0, 2089), (12, 480, 283, 0, 2101), (12, 483, 282, 0, 2097), (12, 492, 286, 0, 2113), (12, 495, 288, 0, 2121), (12, 500, 257, 0, 1997), (12, 503, 258, 0, 2001), (12, 506, 260, 0, 2009), (12, 510, 256, 0, 1993), (12, 514, 259, 0, 2005), (12, 517, 255, 0, 1989), (12, 520, 265, 0, 2029), (12, 523, 264, 0, 2025), (12, 526, 262, 0, 2017), (12, 529, 263, 0, 2021), (12, 543, 297, 0, 2160), (12, 546, 299, 0, 2169), (12, 555, 270, 0, 2049), (12, 559, 271, 0, 2053), (12, 562, 272, 0, 2056), (12, 565, 269, 0, 2045), (12, 569, 273, 0, 2060), (12, 572, 268, 0, 2041), (12, 575, 267, 0, 2037), (12, 580, 305, 0, 2194), (12, 594, 310, 0, 2215), (12, 598, 315, 0, 2236), (12, 606, 320, 0, 2256), (12, 609, 324, 0, 2272), (12, 617, 329, 0, 2293), (12, 631, 331, 0, 2305), (12, 639, 338, 0, 2334), (12, 642, 336, 0, 2326), (12, 645, 337, 0, 2330), (12, 648, 340, 0, 2341)]
end
section
/-! the small machine's heap and values beside the machine's -/
theorem getD_mem {α : Type} {l : List α} {a : Nat} {d : α} (h : a < l.length) : l.getD a d ∈ l := by
  rw [List.getD_eq_getElem?_getD, List.getElem?_eq_getElem h]
  exact List.getElem_mem h
def tr (sb b0 : Nat) (ad : Nat → Nat) (v : AV) : Value :=
  if v.1 = 0 then .int (I3 v.2) else if v.1 = 1 then .long (I6 v.2) else if v.1 = 2 then .ref (ad v.2.toNat) else if v.1 = 4 then .ref b0 else if v.1 = 5 then .ref sb else .null
theorem tr0 (sb b0 : Nat) (ad : Nat → Nat) (x : Int) : tr sb b0 ad (0, x) = .int (I3 x) := rfl
theorem tr1 (sb b0 : Nat) (ad : Nat → Nat) (x : Int) : tr sb b0 ad (1, x) = .long (I6 x) := rfl
theorem tr2 (sb b0 : Nat) (ad : Nat → Nat) (x : Int) : tr sb b0 ad (2, x) = .ref (ad x.toNat) := rfl
theorem tr_cat (sb b0 : Nat) (ad : Nat → Nat) (v : AV) : (tr sb b0 ad v).category = if v.1 = 1 then 2 else 1 := by
  unfold tr
  by_cases h0 : v.1 = 0
  · rw [if_pos h0, if_neg (by omega)]; rfl
  · rw [if_neg h0]
    by_cases h1 : v.1 = 1
    · rw [if_pos h1, if_pos h1]; rfl
    · rw [if_neg h1, if_neg h1]
      split
      · rfl
      · split
        · rfl
        · split <;> rfl
def wv (n : Nat) (v : AV) : Prop := (v.1 = 0 → in32 v.2) ∧ (v.1 = 1 → in64 v.2) ∧ (v.1 = 2 → 0 ≤ v.2 ∧ v.2 < n)
theorem wv0 {n : Nat} {x : Int} (h : in32 x) : wv n (0, x) := ⟨fun _ => h, fun e => (by cases e), fun e => (by cases e)⟩
theorem wv1 {n : Nat} {x : Int} (h : in64 x) : wv n (1, x) := ⟨fun e => (by cases e), fun _ => h, fun e => (by cases e)⟩
theorem wv2 {n : Nat} {x : Int} (h0 : 0 ≤ x) (h : x < n) : wv n (2, x) := ⟨fun e => (by cases e), fun e => (by cases e), fun _ => ⟨h0, h⟩⟩
theorem wvk {n : Nat} {t : Nat} {x : Int} (h : 3 ≤ t) : wv n (t, x) := ⟨fun e => (by have : t = 0 := e; omega), fun e => (by have : t = 1 := e; omega), fun e => (by have : t = 2 := e; omega)⟩
theorem wv.up {n n' : Nat} {v : AV} (h : wv n v) (hn : n ≤ n') : wv n' v := ⟨h.1, h.2.1, fun e => by have := h.2.2 e; omega⟩
def wvs (n : Nat) (l : List AV) : Prop := ∀ v ∈ l, wv n v
theorem wvs_c {n : Nat} {v : AV} {l : List AV} : wvs n (v :: l) ↔ wv n v ∧ wvs n l := List.forall_mem_cons
theorem wvs_n {n : Nat} : wvs n [] := fun _ h => absurd h List.not_mem_nil
theorem lg_mem : ∀ {l : List AV} {i : Nat}, lg l i = (9, 0) ∨ lg l i ∈ l
  | [], _ => Or.inl rfl
  | _ :: _, 0 => Or.inr List.mem_cons_self
  | _ :: l, n + 1 => (lg_mem (l := l) (i := n)).imp id (List.mem_cons_of_mem _)
theorem lg_wv {n : Nat} {l : List AV} (h : wvs n l) (i : Nat) : wv n (lg l i) := by
  rcases lg_mem (l := l) (i := i) with e | e
  · rw [e]; exact wvk (by decide)
  · exact h _ e
theorem lset_len : ∀ (l : List AV) (i : Nat) (v : AV), (lset l i v).length = l.length
  | [], _, _ => rfl
  | _ :: _, 0, _ => rfl
  | _ :: l, n + 1, v => congrArg (· + 1) (lset_len l n v)
theorem lset_same : ∀ {l : List AV} {i : Nat} {v : AV}, i < l.length → lg (lset l i v) i = v
  | [], _, _, h => absurd h (Nat.not_lt_zero _)
  | _ :: _, 0, _, _ => rfl
  | _ :: l, n + 1, v, h => lset_same (l := l) (i := n) (Nat.lt_of_succ_lt_succ h)
theorem lset_ne : ∀ {l : List AV} {i j : Nat} {v : AV}, j ≠ i → lg (lset l i v) j = lg l j
  | [], _, _, _, _ => rfl
  | _ :: _, 0, 0, _, h => absurd rfl h
  | _ :: _, 0, _ + 1, _, _ => rfl
  | _ :: _, _ + 1, 0, _, _ => rfl
  | _ :: l, n + 1, j + 1, v, h => lset_ne (l := l) (i := n) (j := j) (fun e => h (congrArg (· + 1) e))
theorem lset_wvs {n : Nat} : ∀ {l : List AV} {i : Nat} {v : AV}, wvs n l → wv n v → wvs n (lset l i v)
  | [], _, _, h, _ => h
  | _ :: _, 0, _, h, hv => wvs_c.mpr ⟨hv, (wvs_c.mp h).2⟩
  | _ :: _, _ + 1, _, h, hv => wvs_c.mpr ⟨(wvs_c.mp h).1, lset_wvs (wvs_c.mp h).2 hv⟩
theorem lkill_len (l : List AV) (i : Nat) : (lkill l i).length = l.length := by
  unfold lkill; split
  · exact lset_len _ _ _
  · rfl
theorem lkill_wvs {n : Nat} {l : List AV} {i : Nat} (h : wvs n l) : wvs n (lkill l i) := by
  unfold lkill; split
  · exact lset_wvs h (wvk (by decide))
  · exact h
theorem st1_wvs {n : Nat} {l : List AV} {i : Nat} {v : AV} (h : wvs n l) (hv : wv n v) : wvs n (st1 l i v) := lset_wvs (lkill_wvs h) hv
theorem st2_wvs {n : Nat} {l : List AV} {i : Nat} {v : AV} (h : wvs n l) (hv : wv n v) : wvs n (st2 l i v) := lset_wvs (lset_wvs (lkill_wvs h) hv) (wvk (by decide))
theorem st1_len (l : List AV) (i : Nat) (v : AV) : (st1 l i v).length = l.length := (lset_len _ _ _).trans (lkill_len _ _)
theorem st2_len (l : List AV) (i : Nat) (v : AV) : (st2 l i v).length = l.length := (lset_len _ _ _).trans ((lset_len _ _ _).trans (lkill_len _ _))
/-- the locals -/
def prs (sb b0 : Nat) (ad : Nat → Nat) : Nat → List AV → List (Nat × Value)
  | _, [] => []
  | k, v :: l => if v.1 = 9 then prs sb b0 ad (k + 1) l else (k, tr sb b0 ad v) :: prs sb b0 ad (k + 1) l
theorem prs_mem {sb b0 : Nat} {ad : Nat → Nat} : ∀ {l : List AV} {k : Nat} {q : Nat × Value}, q ∈ prs sb b0 ad k l ↔ ∃ j, j < l.length ∧ q.1 = k + j ∧ (lg l j).1 ≠ 9 ∧ q.2 = tr sb b0 ad (lg l j)
  | [], k, q => ⟨fun h => absurd h List.not_mem_nil, fun ⟨_, h, _⟩ => absurd h (Nat.not_lt_zero _)⟩
  | v :: l, k, q => by
    unfold prs
    constructor
    · intro h
      by_cases hv : v.1 = 9
      · rw [if_pos hv] at h
        obtain ⟨j, h1, h2, h3, h4⟩ := prs_mem.mp h
        exact ⟨j + 1, Nat.succ_lt_succ h1, by rw [h2]; omega, h3, h4⟩
      · rw [if_neg hv] at h
        rcases List.mem_cons.mp h with rfl | h
        · exact ⟨0, Nat.succ_pos _, rfl, hv, rfl⟩
        · obtain ⟨j, h1, h2, h3, h4⟩ := prs_mem.mp h
          exact ⟨j + 1, Nat.succ_lt_succ h1, by rw [h2]; omega, h3, h4⟩
    · rintro ⟨j, h1, h2, h3, h4⟩
      cases j with
      | zero =>
        have hv : v.1 ≠ 9 := h3
        rw [if_neg hv]
        have : q = (k, tr sb b0 ad v) := Prod.ext h2 h4
        rw [this]; exact List.mem_cons_self
      | succ j =>
        have : q ∈ prs sb b0 ad (k + 1) l := prs_mem.mpr ⟨j, Nat.lt_of_succ_lt_succ h1, by rw [h2]; omega, h3, h4⟩
        split
        · exact this
        · exact List.mem_cons_of_mem _ this
def lr (sb b0 : Nat) (ad : Nat → Nat) (nL : Nat) (ls : List AV) (L : Array Slot) : Prop := lv_has L nL (prs sb b0 ad 0 ls) ∧ ls.length = nL
theorem lr_at {sb b0 : Nat} {ad : Nat → Nat} {nL : Nat} {ls : List AV} {L : Array Slot} (h : lr sb b0 ad nL ls L) {i : Nat} (hi : (lg ls i).1 ≠ 9) : L[i]? = some (.val (tr sb b0 ad (lg ls i))) := by
  have hl : i < ls.length := by
    by_cases hl : i < ls.length
    · exact hl
    · exfalso
      have : ∀ (l : List AV) (i : Nat), ¬ i < l.length → lg l i = (9, 0) := by
        intro l
        induction l with
        | nil => intro i _; rfl
        | cons v l ih =>
          intro i hi
          cases i with
          | zero => exact absurd (Nat.succ_pos _) hi
          | succ i => exact ih i (fun h => hi (Nat.succ_lt_succ h))
      rw [this ls i hl] at hi
      exact hi rfl
  exact h.1.2.2 (i, _) (prs_mem.mpr ⟨i, hl, by omega, hi, rfl⟩)
theorem lr_kill {ls : List AV} {i j : Nat} (hj : j ≠ i) (h : (lg (lkill ls i) j).1 ≠ 9) : lg (lkill ls i) j = lg ls j ∧ ¬ (j + 1 = i ∧ (lg ls j).1 = 1) := by
  unfold lkill at h ⊢
  by_cases hc : 0 < i ∧ (lg ls (i - 1)).1 = 1
  · rw [if_pos hc] at h ⊢
    by_cases e : j = i - 1
    · subst e
      by_cases hl : i - 1 < ls.length
      · rw [lset_same hl] at h; exact absurd rfl h
      · have : ∀ (l : List AV) (i : Nat), ¬ i < l.length → lg l i = (9, 0) := by
          intro l
          induction l with
          | nil => intro i _; rfl
          | cons v l ih =>
            intro i hi
            cases i with
            | zero => exact absurd (Nat.succ_pos _) hi
            | succ i => exact ih i (fun h => hi (Nat.succ_lt_succ h))
        rw [this _ _ hl] at hc
        exact absurd hc.2 (by decide)
    · rw [lset_ne e]
      exact ⟨rfl, fun h => e (by omega)⟩
  · rw [if_neg hc] at h ⊢
    exact ⟨rfl, fun h => hc ⟨by omega, by rw [show i - 1 = j by omega]; exact h.2⟩⟩
theorem lr_st1 {sb b0 : Nat} {ad : Nat → Nat} {nL : Nat} {ls : List AV} {L' : Array Slot} {i : Nat} {v : AV} {V : Value} (hV : V = tr sb b0 ad v) (hl : ls.length = nL)
    (h : lv_has L' nL ((i, V) :: (prs sb b0 ad 0 ls).filter (fun q => !(q.1 == i) && !(q.1 + 1 == i && q.2.category == 2)))) : lr sb b0 ad nL (st1 ls i v) L' := by
  refine ⟨⟨h.1, h.2.1, fun q hq => ?_⟩, by rw [st1_len]; exact hl⟩
  obtain ⟨j, h1, h2, h3, h4⟩ := prs_mem.mp hq
  rw [Nat.zero_add] at h2
  apply h.2.2
  by_cases e : j = i
  · subst e
    have hj : j < (lkill ls j).length := by rw [st1_len] at h1; rw [lkill_len]; exact h1
    have : lg (st1 ls j v) j = v := lset_same hj
    rw [this] at h4
    have : q = (j, V) := Prod.ext h2 (by rw [h4, hV])
    rw [this]; exact List.mem_cons_self
  · have h5 : lg (st1 ls i v) j = lg (lkill ls i) j := lset_ne e
    rw [h5] at h3 h4
    obtain ⟨h6, h7⟩ := lr_kill e h3
    rw [h6] at h3 h4
    apply List.mem_cons_of_mem
    apply List.mem_filter.mpr
    refine ⟨prs_mem.mpr ⟨j, by rw [st1_len] at h1; exact h1, by omega, h3, h4⟩, ?_⟩
    rw [h4, tr_cat, h2]
    have : (j == i) = false := by simpa using e
    rw [this]
    by_cases hc : j + 1 = i
    · have : ¬ (lg ls j).1 = 1 := fun h => h7 ⟨hc, h⟩
      rw [if_neg this]; simp
    · have : (j + 1 == i) = false := by simpa using hc
      rw [this]; rfl
theorem lr_st2 {sb b0 : Nat} {ad : Nat → Nat} {nL : Nat} {ls : List AV} {L' : Array Slot} {i : Nat} {v : AV} {V : Value} (hV : V = tr sb b0 ad v) (hl : ls.length = nL)
    (h : lv_has L' nL ((i, V) :: (prs sb b0 ad 0 ls).filter (fun q => !(q.1 == i) && (!(q.1 == i + 1) && !(q.1 + 1 == i && q.2.category == 2))))) : lr sb b0 ad nL (st2 ls i v) L' := by
  refine ⟨⟨h.1, h.2.1, fun q hq => ?_⟩, by rw [st2_len]; exact hl⟩
  obtain ⟨j, h1, h2, h3, h4⟩ := prs_mem.mp hq
  rw [Nat.zero_add] at h2
  apply h.2.2
  have hj1 : j ≠ i + 1 := by
    intro e
    subst e
    have hj : i + 1 < (lset (lkill ls i) i v).length := by rw [st2_len] at h1; rw [lset_len, lkill_len]; exact h1
    have : lg (st2 ls i v) (i + 1) = (9, 0) := lset_same hj
    rw [this] at h3; exact h3 rfl
  have h5 : lg (st2 ls i v) j = lg (lset (lkill ls i) i v) j := lset_ne hj1
  rw [h5] at h3 h4
  by_cases e : j = i
  · subst e
    have hj : j < (lkill ls j).length := by rw [st2_len] at h1; rw [lkill_len]; exact h1
    rw [lset_same hj] at h4
    have : q = (j, V) := Prod.ext h2 (by rw [h4, hV])
    rw [this]; exact List.mem_cons_self
  · rw [lset_ne e] at h3 h4
    obtain ⟨h6, h7⟩ := lr_kill e h3
    rw [h6] at h3 h4
    apply List.mem_cons_of_mem
    apply List.mem_filter.mpr
    refine ⟨prs_mem.mpr ⟨j, by rw [st2_len] at h1; exact h1, by omega, h3, h4⟩, ?_⟩
    rw [h4, tr_cat, h2]
    have e1 : (j == i) = false := by simpa using e
    have e2 : (j == i + 1) = false := by simpa using hj1
    rw [e1, e2]
    by_cases hc : j + 1 = i
    · have : ¬ (lg ls j).1 = 1 := fun h => h7 ⟨hc, h⟩
      rw [if_neg this]; simp
    · have : (j + 1 == i) = false := by simpa using hc
      rw [this]; rfl
end
section
section SNDA
variable {p : Program} {l : Launch} {e : Env} {R : Room} {s : State} {m : MethodId} {args : Array Value} {below : List Frame} {meth : Method} {c : Code} {H : Heap} {locs : List Loc} {cells slots : Nat} {Q : State → Prop} {cc : ByteArray} {own : String} {nL : Nat} {sb b0 : Nat} {ad : Nat → Nat} {o n : Nat}
variable {op nx : Nat} {ns : List Nat} {vs : List Int} {ls stk ls' stk' : List AV} {h h' : Hp} {gg gg' : GG} {pc pc' : Nat} {L : Array Slot}

theorem sndA (hx : p.tables.exec = Jvm.exec) (hb : c.code = cc) (hown : s.vm.findClass own = some m.cls) (ho : oN o = own) (hts : ∀ w ∈ wT, w.before args s = true) (hstr : (16 ≤ op ∧ op ≤ 22 → ns.headD 0 < nL) ∧ (op = 18 ∨ op = 19 → ns.headD 0 + 1 < nL)) (hstring : o = 4 → vk_R own 118 "sdgmbaowlhyq" sb s) (hop : op < 30) (hok : okA o cc pc (op, nx, ns, vs) = true) (he : effA (op, nx, ns, vs) ls stk h gg = some (pc', ls', stk', h', gg')) (hl : lr sb b0 ad nL ls L) (hws : wvs n stk) (hwl : wvs n ls) (K : ∀ L', lr sb b0 ad nL ls' L' → wvs n stk' → wvs n ls' → h' = h → gg' = gg → W p l e R s m args below meth c H locs cells slots Q (F0 m pc' L' (stk'.map (tr sb b0 ad)))) : W p l e R s m args below meth c H locs cells slots Q (F0 m pc L (stk.map (tr sb b0 ad))) := by
  obtain ⟨hstr, hstr2⟩ := hstr
  by_cases h1 : op = 1
  · subst h1
    replace he : some (nx, ls, (0, vs.headD 0) :: stk, h, gg) = some (pc', ls', stk', h', gg') := he
    simp only [Option.some.injEq, Prod.mk.injEq] at he; obtain ⟨rfl, rfl, rfl, rfl, rfl⟩ := he
    have hk := of_decide_eq_true (p := decode cc pc = .ok (.iconst (vs.headD 0), 1) ∧ nx = pc + 1 ∧ -2147483648 ≤ vs.headD 0 ∧ vs.headD 0 < 2147483648) hok
    obtain ⟨hd, rfl, hr⟩ := hk
    exact lv_iconst hx hb hd rfl (K L hl (wvs_c.mpr ⟨wv0 hr, hws⟩) hwl rfl rfl)
  by_cases h2 : op = 2
  · subst h2
    replace he : some (nx, ls, (0, vs.headD 0) :: stk, h, gg) = some (pc', ls', stk', h', gg') := he
    simp only [Option.some.injEq, Prod.mk.injEq] at he; obtain ⟨rfl, rfl, rfl, rfl, rfl⟩ := he
    have hk := of_decide_eq_true (p := decode cc pc = .ok (.bipush (vs.headD 0), 2) ∧ nx = pc + 2 ∧ (Int8.ofInt (vs.headD 0)).toInt32 = Int32.ofInt (vs.headD 0) ∧ -2147483648 ≤ vs.headD 0 ∧ vs.headD 0 < 2147483648) hok
    obtain ⟨hd, rfl, hv, hr⟩ := hk
    exact lv_bipush hx hb hd hv (K L hl (wvs_c.mpr ⟨wv0 hr, hws⟩) hwl rfl rfl)
  by_cases h3 : op = 3
  · subst h3
    replace he : some (nx, ls, (0, vs.headD 0) :: stk, h, gg) = some (pc', ls', stk', h', gg') := he
    simp only [Option.some.injEq, Prod.mk.injEq] at he; obtain ⟨rfl, rfl, rfl, rfl, rfl⟩ := he
    have hk := of_decide_eq_true (p := decode cc pc = .ok (.sipush (vs.headD 0), 3) ∧ nx = pc + 3 ∧ (Int16.ofInt (vs.headD 0)).toInt32 = Int32.ofInt (vs.headD 0) ∧ -2147483648 ≤ vs.headD 0 ∧ vs.headD 0 < 2147483648) hok
    obtain ⟨hd, rfl, hv, hr⟩ := hk
    exact lv_sipush hx hb hd hv (K L hl (wvs_c.mpr ⟨wv0 hr, hws⟩) hwl rfl rfl)
  by_cases h4 : op = 4
  · subst h4
    replace he : some (nx, ls, (0, vs.headD 0) :: stk, h, gg) = some (pc', ls', stk', h', gg') := he
    simp only [Option.some.injEq, Prod.mk.injEq] at he; obtain ⟨rfl, rfl, rfl, rfl, rfl⟩ := he
    have hk := of_decide_eq_true (p := decode cc pc = .ok (.ldc (KT.getD (ns.headD 0) (0, 0, 0, 0)).2.1, 2) ∧ nx = pc + 2 ∧ ns.headD 0 < KT.length ∧ (KT.getD (ns.headD 0) (0, 0, 0, 0)).1 = o ∧ (KT.getD (ns.headD 0) (0, 0, 0, 0)).2.2.1 = vs.headD 0 ∧ -2147483648 ≤ vs.headD 0 ∧ vs.headD 0 < 2147483648) hok
    obtain ⟨hd, rfl, hlt, h1, h2, hr⟩ := hk
    have hq := KT_ok _ (getD_mem (d := (0, 0, 0, 0)) hlt)
    rw [h1, ho, h2] at hq
    exact lv_ldc hx hb hown (hts _ (wT_t hq.1 hq.2)) hd (K L hl (wvs_c.mpr ⟨wv0 hr, hws⟩) hwl rfl rfl)
  by_cases h5 : op = 5
  · subst h5
    replace he : some (nx, ls, (0, vs.headD 0) :: stk, h, gg) = some (pc', ls', stk', h', gg') := he
    simp only [Option.some.injEq, Prod.mk.injEq] at he; obtain ⟨rfl, rfl, rfl, rfl, rfl⟩ := he
    have hk := of_decide_eq_true (p := decode cc pc = .ok (.ldc_w (KT.getD (ns.headD 0) (0, 0, 0, 0)).2.1, 3) ∧ nx = pc + 3 ∧ ns.headD 0 < KT.length ∧ (KT.getD (ns.headD 0) (0, 0, 0, 0)).1 = o ∧ (KT.getD (ns.headD 0) (0, 0, 0, 0)).2.2.1 = vs.headD 0 ∧ -2147483648 ≤ vs.headD 0 ∧ vs.headD 0 < 2147483648) hok
    obtain ⟨hd, rfl, hlt, h1, h2, hr⟩ := hk
    have hq := KT_ok _ (getD_mem (d := (0, 0, 0, 0)) hlt)
    rw [h1, ho, h2] at hq
    exact lv_ldcw hx hb hown (hts _ (wT_t hq.1 hq.2)) hd (K L hl (wvs_c.mpr ⟨wv0 hr, hws⟩) hwl rfl rfl)
  by_cases h6 : op = 6
  · subst h6
    replace he : some (nx, ls, (1, vs.headD 0) :: stk, h, gg) = some (pc', ls', stk', h', gg') := he
    simp only [Option.some.injEq, Prod.mk.injEq] at he; obtain ⟨rfl, rfl, rfl, rfl, rfl⟩ := he
    have hk := of_decide_eq_true (p := nx = pc + 1 ∧ ((decode cc pc = .ok (.lconst 0, 1) ∧ vs.headD 0 = 0) ∨ (decode cc pc = .ok (.lconst 1, 1) ∧ vs.headD 0 = 1))) hok
    obtain ⟨rfl, hk⟩ := hk
    generalize vs.headD 0 = z at K hk
    rcases hk with ⟨hd, rfl⟩ | ⟨hd, rfl⟩
    · exact lv_lconst hx hb hd rfl (K L hl (wvs_c.mpr ⟨wv1 ⟨by decide, by decide⟩, hws⟩) hwl rfl rfl)
    · exact lv_lconst hx hb hd rfl (K L hl (wvs_c.mpr ⟨wv1 ⟨by decide, by decide⟩, hws⟩) hwl rfl rfl)
  by_cases h7 : op = 7
  · subst h7
    replace he : some (nx, ls, (1, vs.headD 0) :: stk, h, gg) = some (pc', ls', stk', h', gg') := he
    simp only [Option.some.injEq, Prod.mk.injEq] at he; obtain ⟨rfl, rfl, rfl, rfl, rfl⟩ := he
    have hk := of_decide_eq_true (p := decode cc pc = .ok (.ldc2_w (KL.getD (ns.headD 0) (0, 0, 0, 0)).2.1, 3) ∧ nx = pc + 3 ∧ ns.headD 0 < KL.length ∧ (KL.getD (ns.headD 0) (0, 0, 0, 0)).1 = o ∧ (KL.getD (ns.headD 0) (0, 0, 0, 0)).2.2.1 = vs.headD 0 ∧ -9223372036854775808 ≤ vs.headD 0 ∧ vs.headD 0 < 9223372036854775808) hok
    obtain ⟨hd, rfl, hlt, h1, h2, hr⟩ := hk
    have hq := KL_ok _ (getD_mem (d := (0, 0, 0, 0)) hlt)
    rw [h1, ho, h2] at hq
    exact lv_ldc2 hx hb hown (hts _ (wT_t hq.1 hq.2)) hd (K L hl (wvs_c.mpr ⟨wv1 hr, hws⟩) hwl rfl rfl)
  by_cases h8 : op = 8
  · subst h8
    replace he : some (nx, ls, (5, 0) :: stk, h, gg) = some (pc', ls', stk', h', gg') := he
    simp only [Option.some.injEq, Prod.mk.injEq] at he; obtain ⟨rfl, rfl, rfl, rfl, rfl⟩ := he
    have hk := of_decide_eq_true (p := decode cc pc = .ok (.ldc 118, 2) ∧ nx = pc + 2 ∧ o = 4) hok
    obtain ⟨hd, rfl, ho4⟩ := hk
    exact va_ldcS hx hb hown (hstring ho4) hd (K L hl (wvs_c.mpr ⟨wvk (by decide), hws⟩) hwl rfl rfl)
  by_cases h10 : op = 10
  · subst h10
    replace he : (if (lg ls (ns.headD 0)).1 = 0 then some (nx, ls, lg ls (ns.headD 0) :: stk, h, gg) else none) = some (pc', ls', stk', h', gg') := he
    by_cases hc : (lg ls (ns.headD 0)).1 = 0
    · rw [if_pos hc] at he
      simp only [Option.some.injEq, Prod.mk.injEq] at he; obtain ⟨rfl, rfl, rfl, rfl, rfl⟩ := he
      have hk := of_decide_eq_true (p := decode cc pc = .ok (.iload (ns.headD 0), 2) ∧ nx = pc + 2) hok
      obtain ⟨hd, rfl⟩ := hk
      have hat := lr_at hl (i := ns.headD 0) (by rw [hc]; decide)
      have K' := K L hl (wvs_c.mpr ⟨lg_wv hwl _, hws⟩) hwl rfl rfl
      rcases hv : lg ls (ns.headD 0) with ⟨t, x⟩
      rw [hv] at hc hat K'
      have hc : t = 0 := hc
      subst hc
      exact lv_iload hx hb hd hat K'
    · rw [if_neg hc] at he; cases he
  by_cases h11 : op = 11
  · subst h11
    replace he : (if (lg ls (ns.headD 0)).1 = 0 then some (nx, ls, lg ls (ns.headD 0) :: stk, h, gg) else none) = some (pc', ls', stk', h', gg') := he
    by_cases hc : (lg ls (ns.headD 0)).1 = 0
    · rw [if_pos hc] at he
      simp only [Option.some.injEq, Prod.mk.injEq] at he; obtain ⟨rfl, rfl, rfl, rfl, rfl⟩ := he
      have hk := of_decide_eq_true (p := decode cc pc = .ok (.iload_n (Fin.ofNat 4 (ns.headD 0)), 1) ∧ nx = pc + 1 ∧ ns.headD 0 < 4) hok
      obtain ⟨hd, rfl, ha4⟩ := hk
      have hat := lr_at hl (i := ns.headD 0) (by rw [hc]; decide)
      have K' := K L hl (wvs_c.mpr ⟨lg_wv hwl _, hws⟩) hwl rfl rfl
      rcases hv : lg ls (ns.headD 0) with ⟨t, x⟩
      rw [hv] at hc hat K'
      have hc : t = 0 := hc
      subst hc
      exact lv_iload_n hx hb hd (Nat.mod_eq_of_lt ha4) hat K'
    · rw [if_neg hc] at he; cases he
  by_cases h12 : op = 12
  · subst h12
    replace he : (if (lg ls (ns.headD 0)).1 = 1 then some (nx, ls, lg ls (ns.headD 0) :: stk, h, gg) else none) = some (pc', ls', stk', h', gg') := he
    by_cases hc : (lg ls (ns.headD 0)).1 = 1
    · rw [if_pos hc] at he
      simp only [Option.some.injEq, Prod.mk.injEq] at he; obtain ⟨rfl, rfl, rfl, rfl, rfl⟩ := he
      have hk := of_decide_eq_true (p := decode cc pc = .ok (.lload (ns.headD 0), 2) ∧ nx = pc + 2) hok
      obtain ⟨hd, rfl⟩ := hk
      have hat := lr_at hl (i := ns.headD 0) (by rw [hc]; decide)
      have K' := K L hl (wvs_c.mpr ⟨lg_wv hwl _, hws⟩) hwl rfl rfl
      rcases hv : lg ls (ns.headD 0) with ⟨t, x⟩
      rw [hv] at hc hat K'
      have hc : t = 1 := hc
      subst hc
      exact lv_lload hx hb hd hat K'
    · rw [if_neg hc] at he; cases he
  by_cases h13 : op = 13
  · subst h13
    replace he : (if (lg ls (ns.headD 0)).1 = 1 then some (nx, ls, lg ls (ns.headD 0) :: stk, h, gg) else none) = some (pc', ls', stk', h', gg') := he
    by_cases hc : (lg ls (ns.headD 0)).1 = 1
    · rw [if_pos hc] at he
      simp only [Option.some.injEq, Prod.mk.injEq] at he; obtain ⟨rfl, rfl, rfl, rfl, rfl⟩ := he
      have hk := of_decide_eq_true (p := decode cc pc = .ok (.lload_n (Fin.ofNat 4 (ns.headD 0)), 1) ∧ nx = pc + 1 ∧ ns.headD 0 < 4) hok
      obtain ⟨hd, rfl, ha4⟩ := hk
      have hat := lr_at hl (i := ns.headD 0) (by rw [hc]; decide)
      have K' := K L hl (wvs_c.mpr ⟨lg_wv hwl _, hws⟩) hwl rfl rfl
      rcases hv : lg ls (ns.headD 0) with ⟨t, x⟩
      rw [hv] at hc hat K'
      have hc : t = 1 := hc
      subst hc
      exact lv_lload_n hx hb hd (Nat.mod_eq_of_lt ha4) hat K'
    · rw [if_neg hc] at he; cases he
  by_cases h14 : op = 14
  · subst h14
    replace he : (if (lg ls (ns.headD 0)).1 = 2 ∨ (lg ls (ns.headD 0)).1 = 4 then some (nx, ls, lg ls (ns.headD 0) :: stk, h, gg) else none) = some (pc', ls', stk', h', gg') := he
    by_cases hc : (lg ls (ns.headD 0)).1 = 2 ∨ (lg ls (ns.headD 0)).1 = 4
    · rw [if_pos hc] at he
      simp only [Option.some.injEq, Prod.mk.injEq] at he; obtain ⟨rfl, rfl, rfl, rfl, rfl⟩ := he
      have hk := of_decide_eq_true (p := decode cc pc = .ok (.aload (ns.headD 0), 2) ∧ nx = pc + 2) hok
      obtain ⟨hd, rfl⟩ := hk
      rcases hc with hc | hc
      · have hat := lr_at hl (i := ns.headD 0) (by rw [hc]; decide)
        have K' := K L hl (wvs_c.mpr ⟨lg_wv hwl _, hws⟩) hwl rfl rfl
        rcases hv : lg ls (ns.headD 0) with ⟨t, x⟩
        rw [hv] at hc hat K'
        have hc : t = 2 := hc
        subst hc
        exact lv_aload hx hb hd hat K'
      · have hat := lr_at hl (i := ns.headD 0) (by rw [hc]; decide)
        have K' := K L hl (wvs_c.mpr ⟨lg_wv hwl _, hws⟩) hwl rfl rfl
        rcases hv : lg ls (ns.headD 0) with ⟨t, x⟩
        rw [hv] at hc hat K'
        have hc : t = 4 := hc
        subst hc
        exact lv_aload hx hb hd hat K'
    · rw [if_neg hc] at he; cases he
  by_cases h15 : op = 15
  · subst h15
    replace he : (if (lg ls (ns.headD 0)).1 = 2 ∨ (lg ls (ns.headD 0)).1 = 4 then some (nx, ls, lg ls (ns.headD 0) :: stk, h, gg) else none) = some (pc', ls', stk', h', gg') := he
    by_cases hc : (lg ls (ns.headD 0)).1 = 2 ∨ (lg ls (ns.headD 0)).1 = 4
    · rw [if_pos hc] at he
      simp only [Option.some.injEq, Prod.mk.injEq] at he; obtain ⟨rfl, rfl, rfl, rfl, rfl⟩ := he
      have hk := of_decide_eq_true (p := decode cc pc = .ok (.aload_n (Fin.ofNat 4 (ns.headD 0)), 1) ∧ nx = pc + 1 ∧ ns.headD 0 < 4) hok
      obtain ⟨hd, rfl, ha4⟩ := hk
      rcases hc with hc | hc
      · have hat := lr_at hl (i := ns.headD 0) (by rw [hc]; decide)
        have K' := K L hl (wvs_c.mpr ⟨lg_wv hwl _, hws⟩) hwl rfl rfl
        rcases hv : lg ls (ns.headD 0) with ⟨t, x⟩
        rw [hv] at hc hat K'
        have hc : t = 2 := hc
        subst hc
        exact lv_aload_n hx hb hd (Nat.mod_eq_of_lt ha4) hat K'
      · have hat := lr_at hl (i := ns.headD 0) (by rw [hc]; decide)
        have K' := K L hl (wvs_c.mpr ⟨lg_wv hwl _, hws⟩) hwl rfl rfl
        rcases hv : lg ls (ns.headD 0) with ⟨t, x⟩
        rw [hv] at hc hat K'
        have hc : t = 4 := hc
        subst hc
        exact lv_aload_n hx hb hd (Nat.mod_eq_of_lt ha4) hat K'
    · rw [if_neg hc] at he; cases he
  by_cases h16 : op = 16
  · subst h16
    replace he : (match (generalizing := false) stk with | (0, x) :: r => some (nx, st1 ls (ns.headD 0) (0, x), r, h, gg) | _ => none) = some (pc', ls', stk', h', gg') := he
    split at he
    · next x r =>
      simp only [Option.some.injEq, Prod.mk.injEq] at he; obtain ⟨rfl, rfl, rfl, rfl, rfl⟩ := he
      have hk := of_decide_eq_true (p := decode cc pc = .ok (.istore (ns.headD 0), 2) ∧ nx = pc + 2) hok
      obtain ⟨hd, rfl⟩ := hk
      have hw := wvs_c.mp hws
      exact lv_istore hx hb hd hl.1 (hstr ⟨by decide, by decide⟩) rfl (fun L' hL' => K L' (lr_st1 rfl hl.2 hL') hw.2 (st1_wvs hwl hw.1) rfl rfl)
    · cases he
  by_cases h17 : op = 17
  · subst h17
    replace he : (match (generalizing := false) stk with | (0, x) :: r => some (nx, st1 ls (ns.headD 0) (0, x), r, h, gg) | _ => none) = some (pc', ls', stk', h', gg') := he
    split at he
    · next x r =>
      simp only [Option.some.injEq, Prod.mk.injEq] at he; obtain ⟨rfl, rfl, rfl, rfl, rfl⟩ := he
      have hk := of_decide_eq_true (p := decode cc pc = .ok (.istore_n (Fin.ofNat 4 (ns.headD 0)), 1) ∧ nx = pc + 1 ∧ ns.headD 0 < 4) hok
      obtain ⟨hd, rfl, ha4⟩ := hk
      have hw := wvs_c.mp hws
      exact lv_istore_n hx hb hd (Nat.mod_eq_of_lt ha4) hl.1 (hstr ⟨by decide, by decide⟩) rfl (fun L' hL' => K L' (lr_st1 rfl hl.2 hL') hw.2 (st1_wvs hwl hw.1) rfl rfl)
    · cases he
  by_cases h18 : op = 18
  · subst h18
    replace he : (match (generalizing := false) stk with | (1, x) :: r => some (nx, st2 ls (ns.headD 0) (1, x), r, h, gg) | _ => none) = some (pc', ls', stk', h', gg') := he
    split at he
    · next x r =>
      simp only [Option.some.injEq, Prod.mk.injEq] at he; obtain ⟨rfl, rfl, rfl, rfl, rfl⟩ := he
      have hk := of_decide_eq_true (p := decode cc pc = .ok (.lstore (ns.headD 0), 2) ∧ nx = pc + 2) hok
      obtain ⟨hd, rfl⟩ := hk
      have hw := wvs_c.mp hws
      exact lv_lstore hx hb hd hl.1 (hstr2 (by decide)) rfl (fun L' hL' => K L' (lr_st2 rfl hl.2 hL') hw.2 (st2_wvs hwl hw.1) rfl rfl)
    · cases he
  by_cases h19 : op = 19
  · subst h19
    replace he : (match (generalizing := false) stk with | (1, x) :: r => some (nx, st2 ls (ns.headD 0) (1, x), r, h, gg) | _ => none) = some (pc', ls', stk', h', gg') := he
    split at he
    · next x r =>
      simp only [Option.some.injEq, Prod.mk.injEq] at he; obtain ⟨rfl, rfl, rfl, rfl, rfl⟩ := he
      have hk := of_decide_eq_true (p := decode cc pc = .ok (.lstore_n (Fin.ofNat 4 (ns.headD 0)), 1) ∧ nx = pc + 1 ∧ ns.headD 0 < 4) hok
      obtain ⟨hd, rfl, ha4⟩ := hk
      have hw := wvs_c.mp hws
      exact lv_lstore_n hx hb hd (Nat.mod_eq_of_lt ha4) hl.1 (hstr2 (by decide)) rfl (fun L' hL' => K L' (lr_st2 rfl hl.2 hL') hw.2 (st2_wvs hwl hw.1) rfl rfl)
    · cases he
  by_cases h20 : op = 20
  · subst h20
    replace he : (match (generalizing := false) stk with | (2, x) :: r => some (nx, st1 ls (ns.headD 0) (2, x), r, h, gg) | _ => none) = some (pc', ls', stk', h', gg') := he
    split at he
    · next x r =>
      simp only [Option.some.injEq, Prod.mk.injEq] at he; obtain ⟨rfl, rfl, rfl, rfl, rfl⟩ := he
      have hk := of_decide_eq_true (p := decode cc pc = .ok (.astore (ns.headD 0), 2) ∧ nx = pc + 2) hok
      obtain ⟨hd, rfl⟩ := hk
      have hw := wvs_c.mp hws
      exact lv_astore hx hb hd hl.1 (hstr ⟨by decide, by decide⟩) rfl (fun L' hL' => K L' (lr_st1 rfl hl.2 hL') hw.2 (st1_wvs hwl hw.1) rfl rfl)
    · cases he
  by_cases h21 : op = 21
  · subst h21
    replace he : (match (generalizing := false) stk with | (2, x) :: r => some (nx, st1 ls (ns.headD 0) (2, x), r, h, gg) | _ => none) = some (pc', ls', stk', h', gg') := he
    split at he
    · next x r =>
      simp only [Option.some.injEq, Prod.mk.injEq] at he; obtain ⟨rfl, rfl, rfl, rfl, rfl⟩ := he
      have hk := of_decide_eq_true (p := decode cc pc = .ok (.astore_n (Fin.ofNat 4 (ns.headD 0)), 1) ∧ nx = pc + 1 ∧ ns.headD 0 < 4) hok
      obtain ⟨hd, rfl, ha4⟩ := hk
      have hw := wvs_c.mp hws
      exact lv_astore_n hx hb hd (Nat.mod_eq_of_lt ha4) hl.1 (hstr ⟨by decide, by decide⟩) rfl (fun L' hL' => K L' (lr_st1 rfl hl.2 hL') hw.2 (st1_wvs hwl hw.1) rfl rfl)
    · cases he
  by_cases h22 : op = 22
  · subst h22
    replace he : (if (lg ls (ns.headD 0)).1 = 0 then some (nx, st1 ls (ns.headD 0) (0, w32 ((lg ls (ns.headD 0)).2 + vs.headD 0)), stk, h, gg) else none) = some (pc', ls', stk', h', gg') := he
    by_cases hc : (lg ls (ns.headD 0)).1 = 0
    · rw [if_pos hc] at he
      simp only [Option.some.injEq, Prod.mk.injEq] at he; obtain ⟨rfl, rfl, rfl, rfl, rfl⟩ := he
      have hk := of_decide_eq_true (p := decode cc pc = .ok (.iinc (ns.headD 0) (vs.headD 0), 3) ∧ nx = pc + 3) hok
      obtain ⟨hd, rfl⟩ := hk
      have hm : (ns.headD 0, tr sb b0 ad (lg ls (ns.headD 0))) ∈ prs sb b0 ad 0 ls := by
        refine prs_mem.mpr ⟨ns.headD 0, by rw [hl.2]; exact hstr ⟨by decide, by decide⟩, by simp, by rw [hc]; decide, rfl⟩
      obtain ⟨k, hk⟩ := List.getElem?_of_mem hm
      have ht : tr sb b0 ad (lg ls (ns.headD 0)) = .int (I3 (lg ls (ns.headD 0)).2) := by unfold tr; rw [if_pos hc]
      rw [ht] at hk
      exact lv_iinc hx hb hd hl.1 hk (I3_add _ _) (hstr ⟨by decide, by decide⟩) rfl (fun L' hL' => K L' (lr_st1 rfl hl.2 hL') hws (st1_wvs hwl (wv0 (w32_in _))) rfl rfl)
    · rw [if_neg hc] at he; cases he
  have hz : okA o cc pc (op, nx, ns, vs) = false := by
    unfold okA
    simp only [h1, h2, h3, h4, h5, h6, h7, h8, h10, h11, h12, h13, h14, h15, h16, h17, h18, h19, h20, h21, h22, if_false]
  rw [hz] at hok; cases hok
end SNDA
end
section
section SNDB
variable {p : Program} {l : Launch} {e : Env} {R : Room} {s : State} {m : MethodId} {args : Array Value} {below : List Frame} {meth : Method} {c : Code} {H : Heap} {locs : List Loc} {cells slots : Nat} {Q : State → Prop} {cc : ByteArray} {own : String} {nL : Nat} {sb b0 : Nat} {ad : Nat → Nat} {o n : Nat}
variable {op nx : Nat} {ns : List Nat} {vs : List Int} {ls stk ls' stk' : List AV} {h h' : Hp} {gg gg' : GG} {pc pc' : Nat} {L : Array Slot}

theorem sndB (hx : p.tables.exec = Jvm.exec) (hb : c.code = cc) (hok : okB cc pc (op, nx, ns, vs) = true) (he : effB (op, nx, ns, vs) ls stk h gg = some (pc', ls', stk', h', gg')) (hl : lr sb b0 ad nL ls L) (hws : wvs n stk) (hwl : wvs n ls) (K : ∀ L', lr sb b0 ad nL ls' L' → wvs n stk' → wvs n ls' → h' = h → gg' = gg → W p l e R s m args below meth c H locs cells slots Q (F0 m pc' L' (stk'.map (tr sb b0 ad)))) : W p l e R s m args below meth c H locs cells slots Q (F0 m pc L (stk.map (tr sb b0 ad))) := by
  obtain ⟨hnx, hok⟩ := Bool.and_eq_true_iff.mp hok
  have hnx : nx = pc + 1 := of_decide_eq_true hnx
  subst hnx
  by_cases h30 : op = 30
  · subst h30
    have hd : decode cc pc = .ok (.iadd, 1) := of_decide_eq_true hok
    replace he : b2 (fun x y => w32 (x + y)) (pc + 1) ls stk h gg = some (pc', ls', stk', h', gg') := he
    unfold b2 at he
    split at he
    · next y x r =>
      have hw := wvs_c.mp hws
      have hw2 := wvs_c.mp hw.2
      have hy := hw.1.1 rfl
      have hxx := hw2.1.1 rfl
      simp only [Option.some.injEq, Prod.mk.injEq] at he; obtain ⟨rfl, rfl, rfl, rfl, rfl⟩ := he
      have K' := K L hl (wvs_c.mpr ⟨wv0 (w32_in _), hw2.2⟩) hwl rfl rfl
      simp only [List.map_cons] at K' ⊢
      exact lv_iadd hx hb hd (by rw [I3_add]; exact K')
    · cases he
  by_cases h31 : op = 31
  · subst h31
    have hd : decode cc pc = .ok (.isub, 1) := of_decide_eq_true hok
    replace he : b2 (fun x y => w32 (x - y)) (pc + 1) ls stk h gg = some (pc', ls', stk', h', gg') := he
    unfold b2 at he
    split at he
    · next y x r =>
      have hw := wvs_c.mp hws
      have hw2 := wvs_c.mp hw.2
      have hy := hw.1.1 rfl
      have hxx := hw2.1.1 rfl
      simp only [Option.some.injEq, Prod.mk.injEq] at he; obtain ⟨rfl, rfl, rfl, rfl, rfl⟩ := he
      have K' := K L hl (wvs_c.mpr ⟨wv0 (w32_in _), hw2.2⟩) hwl rfl rfl
      simp only [List.map_cons] at K' ⊢
      exact lv_isub hx hb hd (by rw [I3_sub]; exact K')
    · cases he
  by_cases h32 : op = 32
  · subst h32
    have hd : decode cc pc = .ok (.imul, 1) := of_decide_eq_true hok
    replace he : b2 (fun x y => w32 (x * y)) (pc + 1) ls stk h gg = some (pc', ls', stk', h', gg') := he
    unfold b2 at he
    split at he
    · next y x r =>
      have hw := wvs_c.mp hws
      have hw2 := wvs_c.mp hw.2
      have hy := hw.1.1 rfl
      have hxx := hw2.1.1 rfl
      simp only [Option.some.injEq, Prod.mk.injEq] at he; obtain ⟨rfl, rfl, rfl, rfl, rfl⟩ := he
      have K' := K L hl (wvs_c.mpr ⟨wv0 (w32_in _), hw2.2⟩) hwl rfl rfl
      simp only [List.map_cons] at K' ⊢
      exact lv_imul hx hb hd (by rw [I3_mul]; exact K')
    · cases he
  by_cases h33 : op = 33
  · subst h33
    have hd : decode cc pc = .ok (.idiv, 1) := of_decide_eq_true hok
    replace he : b2z (fun x y => w32 (Int.tdiv x y)) (pc + 1) ls stk h gg = some (pc', ls', stk', h', gg') := he
    unfold b2z at he
    split at he
    · next y x r =>
      have hw := wvs_c.mp hws
      have hw2 := wvs_c.mp hw.2
      have hy := hw.1.1 rfl
      have hxx := hw2.1.1 rfl
      by_cases hz : y = 0
      · rw [if_pos hz] at he; cases he
      · rw [if_neg hz] at he
        simp only [Option.some.injEq, Prod.mk.injEq] at he; obtain ⟨rfl, rfl, rfl, rfl, rfl⟩ := he
        have K' := K L hl (wvs_c.mpr ⟨wv0 (w32_in _), hw2.2⟩) hwl rfl rfl
        simp only [List.map_cons] at K' ⊢
        exact lv_idiv hx hb hd (fun q => hz ((I3_eq hy in32_0).mp q)) (by rw [I3_div hxx hy]; exact K')
    · cases he
  by_cases h34 : op = 34
  · subst h34
    have hd : decode cc pc = .ok (.irem, 1) := of_decide_eq_true hok
    replace he : b2z (fun x y => Int.tmod x y) (pc + 1) ls stk h gg = some (pc', ls', stk', h', gg') := he
    unfold b2z at he
    split at he
    · next y x r =>
      have hw := wvs_c.mp hws
      have hw2 := wvs_c.mp hw.2
      have hy := hw.1.1 rfl
      have hxx := hw2.1.1 rfl
      by_cases hz : y = 0
      · rw [if_pos hz] at he; cases he
      · rw [if_neg hz] at he
        simp only [Option.some.injEq, Prod.mk.injEq] at he; obtain ⟨rfl, rfl, rfl, rfl, rfl⟩ := he
        have K' := K L hl (wvs_c.mpr ⟨wv0 (tmod_in32 hxx hz), hw2.2⟩) hwl rfl rfl
        simp only [List.map_cons] at K' ⊢
        exact lv_irem hx hb hd (fun q => hz ((I3_eq hy in32_0).mp q)) (by rw [I3_rem hxx hy hz]; exact K')
    · cases he
  by_cases h35 : op = 35
  · subst h35
    have hd : decode cc pc = .ok (.ineg, 1) := of_decide_eq_true hok
    replace he : b1 (fun x => w32 (-x)) (pc + 1) ls stk h gg = some (pc', ls', stk', h', gg') := he
    unfold b1 at he
    split at he
    · next x r =>
      have hw := wvs_c.mp hws
      have hxx := hw.1.1 rfl
      simp only [Option.some.injEq, Prod.mk.injEq] at he; obtain ⟨rfl, rfl, rfl, rfl, rfl⟩ := he
      have K' := K L hl (wvs_c.mpr ⟨wv0 (w32_in _), hw.2⟩) hwl rfl rfl
      simp only [List.map_cons] at K' ⊢
      exact lv_ineg hx hb hd (by rw [I3_neg]; exact K')
    · cases he
  by_cases h36 : op = 36
  · subst h36
    have hd : decode cc pc = .ok (.ishl, 1) := of_decide_eq_true hok
    replace he : b2 shl32 (pc + 1) ls stk h gg = some (pc', ls', stk', h', gg') := he
    unfold b2 at he
    split at he
    · next y x r =>
      have hw := wvs_c.mp hws
      have hw2 := wvs_c.mp hw.2
      have hy := hw.1.1 rfl
      have hxx := hw2.1.1 rfl
      simp only [Option.some.injEq, Prod.mk.injEq] at he; obtain ⟨rfl, rfl, rfl, rfl, rfl⟩ := he
      have K' := K L hl (wvs_c.mpr ⟨wv0 (w32_in _), hw2.2⟩) hwl rfl rfl
      simp only [List.map_cons] at K' ⊢
      exact lv_ishl hx hb hd (by rw [I3_shl]; exact K')
    · cases he
  by_cases h37 : op = 37
  · subst h37
    have hd : decode cc pc = .ok (.ishr, 1) := of_decide_eq_true hok
    replace he : b2 shr32 (pc + 1) ls stk h gg = some (pc', ls', stk', h', gg') := he
    unfold b2 at he
    split at he
    · next y x r =>
      have hw := wvs_c.mp hws
      have hw2 := wvs_c.mp hw.2
      have hy := hw.1.1 rfl
      have hxx := hw2.1.1 rfl
      simp only [Option.some.injEq, Prod.mk.injEq] at he; obtain ⟨rfl, rfl, rfl, rfl, rfl⟩ := he
      have K' := K L hl (wvs_c.mpr ⟨wv0 (shr_in _ hxx), hw2.2⟩) hwl rfl rfl
      simp only [List.map_cons] at K' ⊢
      exact lv_ishr hx hb hd (by rw [I3_shr hxx]; exact K')
    · cases he
  by_cases h38 : op = 38
  · subst h38
    have hd : decode cc pc = .ok (.iushr, 1) := of_decide_eq_true hok
    replace he : b2 ush32 (pc + 1) ls stk h gg = some (pc', ls', stk', h', gg') := he
    unfold b2 at he
    split at he
    · next y x r =>
      have hw := wvs_c.mp hws
      have hw2 := wvs_c.mp hw.2
      have hy := hw.1.1 rfl
      have hxx := hw2.1.1 rfl
      simp only [Option.some.injEq, Prod.mk.injEq] at he; obtain ⟨rfl, rfl, rfl, rfl, rfl⟩ := he
      have K' := K L hl (wvs_c.mpr ⟨wv0 (w32_in _), hw2.2⟩) hwl rfl rfl
      simp only [List.map_cons] at K' ⊢
      exact lv_iushr hx hb hd (I3_ush _ _) K'
    · cases he
  by_cases h39 : op = 39
  · subst h39
    have hd : decode cc pc = .ok (.iand, 1) := of_decide_eq_true hok
    replace he : b2 ia32 (pc + 1) ls stk h gg = some (pc', ls', stk', h', gg') := he
    unfold b2 at he
    split at he
    · next y x r =>
      have hw := wvs_c.mp hws
      have hw2 := wvs_c.mp hw.2
      have hy := hw.1.1 rfl
      have hxx := hw2.1.1 rfl
      simp only [Option.some.injEq, Prod.mk.injEq] at he; obtain ⟨rfl, rfl, rfl, rfl, rfl⟩ := he
      have K' := K L hl (wvs_c.mpr ⟨wv0 (in32_to _), hw2.2⟩) hwl rfl rfl
      simp only [List.map_cons] at K' ⊢
      exact lv_iand hx hb hd (by rw [I3_and]; exact K')
    · cases he
  by_cases h40 : op = 40
  · subst h40
    have hd : decode cc pc = .ok (.ior, 1) := of_decide_eq_true hok
    replace he : b2 io32 (pc + 1) ls stk h gg = some (pc', ls', stk', h', gg') := he
    unfold b2 at he
    split at he
    · next y x r =>
      have hw := wvs_c.mp hws
      have hw2 := wvs_c.mp hw.2
      have hy := hw.1.1 rfl
      have hxx := hw2.1.1 rfl
      simp only [Option.some.injEq, Prod.mk.injEq] at he; obtain ⟨rfl, rfl, rfl, rfl, rfl⟩ := he
      have K' := K L hl (wvs_c.mpr ⟨wv0 (in32_to _), hw2.2⟩) hwl rfl rfl
      simp only [List.map_cons] at K' ⊢
      exact lv_ior hx hb hd (by rw [I3_or]; exact K')
    · cases he
  by_cases h41 : op = 41
  · subst h41
    have hd : decode cc pc = .ok (.ixor, 1) := of_decide_eq_true hok
    replace he : b2 ix32 (pc + 1) ls stk h gg = some (pc', ls', stk', h', gg') := he
    unfold b2 at he
    split at he
    · next y x r =>
      have hw := wvs_c.mp hws
      have hw2 := wvs_c.mp hw.2
      have hy := hw.1.1 rfl
      have hxx := hw2.1.1 rfl
      simp only [Option.some.injEq, Prod.mk.injEq] at he; obtain ⟨rfl, rfl, rfl, rfl, rfl⟩ := he
      have K' := K L hl (wvs_c.mpr ⟨wv0 (in32_to _), hw2.2⟩) hwl rfl rfl
      simp only [List.map_cons] at K' ⊢
      exact lv_ixor hx hb hd (by rw [I3_xor]; exact K')
    · cases he
  by_cases h42 : op = 42
  · subst h42
    have hd : decode cc pc = .ok (.i2l, 1) := of_decide_eq_true hok
    replace he : (match (generalizing := false) stk with | (0, x) :: r => some (pc + 1, ls, (1, x) :: r, h, gg) | _ => none) = some (pc', ls', stk', h', gg') := he
    split at he
    · next x r =>
      have hw := wvs_c.mp hws
      have hxx := hw.1.1 rfl
      simp only [Option.some.injEq, Prod.mk.injEq] at he; obtain ⟨rfl, rfl, rfl, rfl, rfl⟩ := he
      have K' := K L hl (wvs_c.mpr ⟨wv1 ⟨by have := hxx.1; omega, by have := hxx.2; omega⟩, hw.2⟩) hwl rfl rfl
      simp only [List.map_cons] at K' ⊢
      exact lv_i2l hx hb hd (I3_i2l hxx) K'
    · cases he
  by_cases h43 : op = 43
  · subst h43
    have hd : decode cc pc = .ok (.l2i, 1) := of_decide_eq_true hok
    replace he : (match (generalizing := false) stk with | (1, x) :: r => some (pc + 1, ls, (0, w32 x) :: r, h, gg) | _ => none) = some (pc', ls', stk', h', gg') := he
    split at he
    · next x r =>
      have hw := wvs_c.mp hws
      have hxx := hw.1.2.1 rfl
      simp only [Option.some.injEq, Prod.mk.injEq] at he; obtain ⟨rfl, rfl, rfl, rfl, rfl⟩ := he
      have K' := K L hl (wvs_c.mpr ⟨wv0 (w32_in _), hw.2⟩) hwl rfl rfl
      simp only [List.map_cons] at K' ⊢
      exact lv_l2i hx hb hd (I6_l2i hxx) K'
    · cases he
  by_cases h44 : op = 44
  · subst h44
    have hd : decode cc pc = .ok (.i2b, 1) := of_decide_eq_true hok
    replace he : b1 (fun x => Int.bmod x 256) (pc + 1) ls stk h gg = some (pc', ls', stk', h', gg') := he
    unfold b1 at he
    split at he
    · next x r =>
      have hw := wvs_c.mp hws
      have hxx := hw.1.1 rfl
      simp only [Option.some.injEq, Prod.mk.injEq] at he; obtain ⟨rfl, rfl, rfl, rfl, rfl⟩ := he
      have K' := K L hl (wvs_c.mpr ⟨wv0 (by have h1 := Int.le_bmod (x := x) (m := 256) (by omega); have h2 := Int.bmod_lt (x := x) (m := 256) (by omega); unfold in32; omega), hw.2⟩) hwl rfl rfl
      simp only [List.map_cons] at K' ⊢
      exact lv_i2b hx hb hd (I3_i2b hxx) K'
    · cases he
  by_cases h45 : op = 45
  · subst h45
    have hd : decode cc pc = .ok (.i2c, 1) := of_decide_eq_true hok
    replace he : b1 (fun x => x % 65536) (pc + 1) ls stk h gg = some (pc', ls', stk', h', gg') := he
    unfold b1 at he
    split at he
    · next x r =>
      have hw := wvs_c.mp hws
      have hxx := hw.1.1 rfl
      simp only [Option.some.injEq, Prod.mk.injEq] at he; obtain ⟨rfl, rfl, rfl, rfl, rfl⟩ := he
      have K' := K L hl (wvs_c.mpr ⟨wv0 (by unfold in32; omega), hw.2⟩) hwl rfl rfl
      simp only [List.map_cons] at K' ⊢
      exact lv_i2c hx hb hd (I3_i2c hxx) K'
    · cases he
  by_cases h46 : op = 46
  · subst h46
    have hd : decode cc pc = .ok (.ladd, 1) := of_decide_eq_true hok
    replace he : l2 (fun x y => w64 (x + y)) (pc + 1) ls stk h gg = some (pc', ls', stk', h', gg') := he
    unfold l2 at he
    split at he
    · next y x r =>
      have hw := wvs_c.mp hws
      have hw2 := wvs_c.mp hw.2
      have hy := hw.1.2.1 rfl
      have hxx := hw2.1.2.1 rfl
      simp only [Option.some.injEq, Prod.mk.injEq] at he; obtain ⟨rfl, rfl, rfl, rfl, rfl⟩ := he
      have K' := K L hl (wvs_c.mpr ⟨wv1 (w64_in _), hw2.2⟩) hwl rfl rfl
      simp only [List.map_cons] at K' ⊢
      exact lv_ladd hx hb hd (by rw [I6_add]; exact K')
    · cases he
  by_cases h47 : op = 47
  · subst h47
    have hd : decode cc pc = .ok (.lsub, 1) := of_decide_eq_true hok
    replace he : l2 (fun x y => w64 (x - y)) (pc + 1) ls stk h gg = some (pc', ls', stk', h', gg') := he
    unfold l2 at he
    split at he
    · next y x r =>
      have hw := wvs_c.mp hws
      have hw2 := wvs_c.mp hw.2
      have hy := hw.1.2.1 rfl
      have hxx := hw2.1.2.1 rfl
      simp only [Option.some.injEq, Prod.mk.injEq] at he; obtain ⟨rfl, rfl, rfl, rfl, rfl⟩ := he
      have K' := K L hl (wvs_c.mpr ⟨wv1 (w64_in _), hw2.2⟩) hwl rfl rfl
      simp only [List.map_cons] at K' ⊢
      exact lv_lsub hx hb hd (by rw [I6_sub]; exact K')
    · cases he
  by_cases h48 : op = 48
  · subst h48
    have hd : decode cc pc = .ok (.lmul, 1) := of_decide_eq_true hok
    replace he : l2 (fun x y => w64 (x * y)) (pc + 1) ls stk h gg = some (pc', ls', stk', h', gg') := he
    unfold l2 at he
    split at he
    · next y x r =>
      have hw := wvs_c.mp hws
      have hw2 := wvs_c.mp hw.2
      have hy := hw.1.2.1 rfl
      have hxx := hw2.1.2.1 rfl
      simp only [Option.some.injEq, Prod.mk.injEq] at he; obtain ⟨rfl, rfl, rfl, rfl, rfl⟩ := he
      have K' := K L hl (wvs_c.mpr ⟨wv1 (w64_in _), hw2.2⟩) hwl rfl rfl
      simp only [List.map_cons] at K' ⊢
      exact lv_lmul hx hb hd (by rw [I6_mul]; exact K')
    · cases he
  by_cases h49 : op = 49
  · subst h49
    have hd : decode cc pc = .ok (.ldiv, 1) := of_decide_eq_true hok
    replace he : l2z (fun x y => w64 (Int.tdiv x y)) (pc + 1) ls stk h gg = some (pc', ls', stk', h', gg') := he
    unfold l2z at he
    split at he
    · next y x r =>
      have hw := wvs_c.mp hws
      have hw2 := wvs_c.mp hw.2
      have hy := hw.1.2.1 rfl
      have hxx := hw2.1.2.1 rfl
      by_cases hz : y = 0
      · rw [if_pos hz] at he; cases he
      · rw [if_neg hz] at he
        simp only [Option.some.injEq, Prod.mk.injEq] at he; obtain ⟨rfl, rfl, rfl, rfl, rfl⟩ := he
        have K' := K L hl (wvs_c.mpr ⟨wv1 (w64_in _), hw2.2⟩) hwl rfl rfl
        simp only [List.map_cons] at K' ⊢
        exact lv_ldiv hx hb hd (fun q => hz ((I6_eq hy ⟨by decide, by decide⟩).mp q)) (by rw [I6_div hxx hy]; exact K')
    · cases he
  by_cases h50 : op = 50
  · subst h50
    have hd : decode cc pc = .ok (.lrem, 1) := of_decide_eq_true hok
    replace he : l2z (fun x y => Int.tmod x y) (pc + 1) ls stk h gg = some (pc', ls', stk', h', gg') := he
    unfold l2z at he
    split at he
    · next y x r =>
      have hw := wvs_c.mp hws
      have hw2 := wvs_c.mp hw.2
      have hy := hw.1.2.1 rfl
      have hxx := hw2.1.2.1 rfl
      by_cases hz : y = 0
      · rw [if_pos hz] at he; cases he
      · rw [if_neg hz] at he
        simp only [Option.some.injEq, Prod.mk.injEq] at he; obtain ⟨rfl, rfl, rfl, rfl, rfl⟩ := he
        have K' := K L hl (wvs_c.mpr ⟨wv1 (tmod_in64 hxx hz), hw2.2⟩) hwl rfl rfl
        simp only [List.map_cons] at K' ⊢
        exact lv_lrem hx hb hd (fun q => hz ((I6_eq hy ⟨by decide, by decide⟩).mp q)) (by rw [I6_rem hxx hy hz]; exact K')
    · cases he
  by_cases h51 : op = 51
  · subst h51
    have hd : decode cc pc = .ok (.lcmp, 1) := of_decide_eq_true hok
    replace he : (match (generalizing := false) stk with | (1, y) :: (1, x) :: r => some (pc + 1, ls, (0, lcm x y) :: r, h, gg) | _ => none) = some (pc', ls', stk', h', gg') := he
    split at he
    · next y x r =>
      have hw := wvs_c.mp hws
      have hw2 := wvs_c.mp hw.2
      have hy := hw.1.2.1 rfl
      have hxx := hw2.1.2.1 rfl
      simp only [Option.some.injEq, Prod.mk.injEq] at he; obtain ⟨rfl, rfl, rfl, rfl, rfl⟩ := he
      have K' := K L hl (wvs_c.mpr ⟨wv0 (by unfold lcm in32; (repeat' split) <;> omega), hw2.2⟩) hwl rfl rfl
      simp only [List.map_cons] at K' ⊢
      have hq : lg_cmp (I6 x) (I6 y) = I3 (lcm x y) := by
        unfold lg_cmp lcm
        have e1 : (I6 x > I6 y) ↔ y < x := I6_lt hy hxx
        have e2 := I6_eq hxx hy
        by_cases q1 : y < x
        · rw [if_pos (e1.mpr q1), if_neg (by omega), if_neg (by omega)]; rfl
        · rw [if_neg (fun q => q1 (e1.mp q))]
          by_cases q2 : x = y
          · rw [if_pos (e2.mpr q2), if_neg (by omega), if_pos q2]; rfl
          · rw [if_neg (fun q => q2 (e2.mp q)), if_pos (by omega)]; rfl
      exact W.lcmp hx hb hd (by rw [hq]; exact K')
    · cases he
  by_cases h52 : op = 52
  · subst h52
    have hd : decode cc pc = .ok (.land, 1) := of_decide_eq_true hok
    replace he : l2 ia64 (pc + 1) ls stk h gg = some (pc', ls', stk', h', gg') := he
    unfold l2 at he
    split at he
    · next y x r =>
      have hw := wvs_c.mp hws
      have hw2 := wvs_c.mp hw.2
      have hy := hw.1.2.1 rfl
      have hxx := hw2.1.2.1 rfl
      simp only [Option.some.injEq, Prod.mk.injEq] at he; obtain ⟨rfl, rfl, rfl, rfl, rfl⟩ := he
      have K' := K L hl (wvs_c.mpr ⟨wv1 (in64_to _), hw2.2⟩) hwl rfl rfl
      simp only [List.map_cons] at K' ⊢
      exact lv_land hx hb hd (by rw [I6_and]; exact K')
    · cases he
  by_cases h53 : op = 53
  · subst h53
    have hd : decode cc pc = .ok (.lor, 1) := of_decide_eq_true hok
    replace he : l2 io64 (pc + 1) ls stk h gg = some (pc', ls', stk', h', gg') := he
    unfold l2 at he
    split at he
    · next y x r =>
      have hw := wvs_c.mp hws
      have hw2 := wvs_c.mp hw.2
      have hy := hw.1.2.1 rfl
      have hxx := hw2.1.2.1 rfl
      simp only [Option.some.injEq, Prod.mk.injEq] at he; obtain ⟨rfl, rfl, rfl, rfl, rfl⟩ := he
      have K' := K L hl (wvs_c.mpr ⟨wv1 (in64_to _), hw2.2⟩) hwl rfl rfl
      simp only [List.map_cons] at K' ⊢
      exact lv_lor hx hb hd (by rw [I6_or]; exact K')
    · cases he
  by_cases h54 : op = 54
  · subst h54
    have hd : decode cc pc = .ok (.lshl, 1) := of_decide_eq_true hok
    replace he : ls2 shl64 (pc + 1) ls stk h gg = some (pc', ls', stk', h', gg') := he
    unfold ls2 at he
    split at he
    · next y x r =>
      have hw := wvs_c.mp hws
      have hw2 := wvs_c.mp hw.2
      have hy := hw.1.1 rfl
      have hxx := hw2.1.2.1 rfl
      simp only [Option.some.injEq, Prod.mk.injEq] at he; obtain ⟨rfl, rfl, rfl, rfl, rfl⟩ := he
      have K' := K L hl (wvs_c.mpr ⟨wv1 (w64_in _), hw2.2⟩) hwl rfl rfl
      simp only [List.map_cons] at K' ⊢
      exact lv_lshl hx hb hd (I6_shl hy) K'
    · cases he
  by_cases h55 : op = 55
  · subst h55
    have hd : decode cc pc = .ok (.lshr, 1) := of_decide_eq_true hok
    replace he : ls2 shr64 (pc + 1) ls stk h gg = some (pc', ls', stk', h', gg') := he
    unfold ls2 at he
    split at he
    · next y x r =>
      have hw := wvs_c.mp hws
      have hw2 := wvs_c.mp hw.2
      have hy := hw.1.1 rfl
      have hxx := hw2.1.2.1 rfl
      simp only [Option.some.injEq, Prod.mk.injEq] at he; obtain ⟨rfl, rfl, rfl, rfl, rfl⟩ := he
      have K' := K L hl (wvs_c.mpr ⟨wv1 (shr_in6 _ hxx), hw2.2⟩) hwl rfl rfl
      simp only [List.map_cons] at K' ⊢
      exact lv_lshr hx hb hd (I6_shr hxx hy) K'
    · cases he
  by_cases h56 : op = 56
  · subst h56
    have hd : decode cc pc = .ok (.dup, 1) := of_decide_eq_true hok
    replace he : (match (generalizing := false) stk with | v :: r => if v.1 = 1 then none else some (pc + 1, ls, v :: v :: r, h, gg) | _ => none) = some (pc', ls', stk', h', gg') := he
    split at he
    · next v r =>
      have hw := wvs_c.mp hws
      by_cases hz : v.1 = 1
      · rw [if_pos hz] at he; cases he
      · rw [if_neg hz] at he
        simp only [Option.some.injEq, Prod.mk.injEq] at he; obtain ⟨rfl, rfl, rfl, rfl, rfl⟩ := he
        exact lv_dup hx hb hd (by rw [tr_cat, if_neg hz]) (K L hl (wvs_c.mpr ⟨hw.1, hws⟩) hwl rfl rfl)
    · cases he
  by_cases h57 : op = 57
  · subst h57
    have hd : decode cc pc = .ok (.dup2, 1) := of_decide_eq_true hok
    replace he : (match (generalizing := false) stk with | v :: u :: r => if v.1 = 1 ∨ u.1 = 1 then none else some (pc + 1, ls, v :: u :: v :: u :: r, h, gg) | _ => none) = some (pc', ls', stk', h', gg') := he
    split at he
    · next v u r =>
      have hw := wvs_c.mp hws
      have hw2 := wvs_c.mp hw.2
      by_cases hz : v.1 = 1 ∨ u.1 = 1
      · rw [if_pos hz] at he; cases he
      · rw [if_neg hz] at he
        simp only [Option.some.injEq, Prod.mk.injEq] at he; obtain ⟨rfl, rfl, rfl, rfl, rfl⟩ := he
        exact lv_dup2_11 hx hb hd (by rw [tr_cat, if_neg (fun q => hz (Or.inl q))]) (by rw [tr_cat, if_neg (fun q => hz (Or.inr q))]) (K L hl (wvs_c.mpr ⟨hw.1, wvs_c.mpr ⟨hw2.1, hws⟩⟩) hwl rfl rfl)
    · cases he
  by_cases h58 : op = 58
  · subst h58
    have hd : decode cc pc = .ok (.pop, 1) := of_decide_eq_true hok
    replace he : (match (generalizing := false) stk with | v :: r => if v.1 = 1 then none else some (pc + 1, ls, r, h, gg) | _ => none) = some (pc', ls', stk', h', gg') := he
    split at he
    · next v r =>
      have hw := wvs_c.mp hws
      by_cases hz : v.1 = 1
      · rw [if_pos hz] at he; cases he
      · rw [if_neg hz] at he
        simp only [Option.some.injEq, Prod.mk.injEq] at he; obtain ⟨rfl, rfl, rfl, rfl, rfl⟩ := he
        exact lv_pop hx hb hd (by rw [tr_cat, if_neg hz]) (K L hl hw.2 hwl rfl rfl)
    · cases he
  simp only [h30, h31, h32, h33, h34, h35, h36, h37, h38, h39, h40, h41, h42, h43, h44, h45, h46, h47, h48, h49, h50, h51, h52, h53, h54, h55, h56, h57, h58, if_false] at hok
  cases hok
end SNDB
end
section
section SNDC
variable {p : Program} {l : Launch} {e : Env} {R : Room} {s : State} {m : MethodId} {args : Array Value} {below : List Frame} {meth : Method} {c : Code} {H : Heap} {locs : List Loc} {cells slots : Nat} {Q : State → Prop} {cc : ByteArray} {own : String} {nL : Nat} {sb b0 : Nat} {ad : Nat → Nat} {o n : Nat}
variable {op nx : Nat} {ns : List Nat} {vs : List Int} {ls stk ls' stk' : List AV} {h h' : Hp} {gg gg' : GG} {pc pc' : Nat} {L : Array Slot}

theorem swt_look : ∀ {ks : List Int} {ts : List Nat} {t pc : Nat} {d x : Int}, ks.length = ts.length → (pc : Int) + d = t → (pc : Int) + Op.lookupswitch.offset (ks.zip (ts.map (fun (u : Nat) => (u : Int) - pc))) d x = (swt ks ts t x : Int)
  | [], [], t, pc, d, x, _, h => h
  | k :: ks, u :: ts, t, pc, d, x, hl, h => by
    have ih := swt_look (ks := ks) (ts := ts) (x := x) (Nat.succ.inj hl) h
    show (pc : Int) + Op.lookupswitch.offset ((k, (u : Int) - pc) :: ks.zip (ts.map (fun (u : Nat) => (u : Int) - pc))) d x = (swt (k :: ks) (u :: ts) t x : Int)
    rw [Op.lookupswitch.offset_cons]
    unfold swt
    by_cases hk : x = k
    · rw [if_pos hk]
      first | rw [if_pos hk] | rw [if_pos hk.symm] | rw [if_pos (by simpa using hk)] | rw [if_pos (by simpa using hk.symm)]
      omega
    · rw [if_neg hk]
      first | rw [if_neg hk] | rw [if_neg (fun q => hk q.symm)] | rw [if_neg (by simpa using hk)] | rw [if_neg (by simpa using fun q => hk q.symm)]
      exact ih
  | [], _ :: _, _, _, _, _, h, _ => by cases h
  | _ :: _, [], _, _, _, _, h, _ => by cases h
theorem swt_out : ∀ {ks : List Int} {ts : List Nat} {t : Nat} {x : Int}, (∀ k ∈ ks, x ≠ k) → swt ks ts t x = t
  | [], _, _, _, _ => by unfold swt; rfl
  | _ :: _, [], _, _, _ => by unfold swt; rfl
  | k :: ks, u :: ts, t, x, h => by
    unfold swt
    rw [if_neg (h k List.mem_cons_self)]
    exact swt_out (fun k hk => h k (List.mem_cons_of_mem _ hk))
theorem swt_in : ∀ {ts : List Nat} {t j : Nat} {lo : Int} {u : Nat}, ts[j]? = some u → swt ((List.range ts.length).map (fun (j : Nat) => lo + (j : Int))) ts t (lo + j) = u
  | [], t, j, lo, u, h => by simp at h
  | v :: ts, t, j, lo, u, h => by
    have e : (List.range (v :: ts).length).map (fun (j : Nat) => lo + (j : Int)) = lo :: (List.range ts.length).map (fun (j : Nat) => (lo + 1) + (j : Int)) := by
      rw [List.length_cons, List.range_succ_eq_map, List.map_cons, List.map_map]
      congr 1
      · simp
      · apply List.map_congr_left
        intro a _
        show lo + ((a + 1 : Nat) : Int) = _
        omega
    rw [e]
    unfold swt
    cases j with
    | zero =>
      rw [if_pos (by simp)]
      simpa using h
    | succ j =>
      rw [if_neg (by omega)]
      have := swt_in (ts := ts) (t := t) (j := j) (lo := lo + 1) (u := u) (by simpa using h)
      rw [← this]
      congr 1
      omega

theorem sndC (hx : p.tables.exec = Jvm.exec) (hb : c.code = cc) (hok : okC cc pc (op, nx, ns, vs) = true) (he : effC (op, nx, ns, vs) ls stk h gg = some (pc', ls', stk', h', gg')) (hl : lr sb b0 ad nL ls L) (hws : wvs n stk) (hwl : wvs n ls) (K : ∀ L', lr sb b0 ad nL ls' L' → wvs n stk' → wvs n ls' → h' = h → gg' = gg → W p l e R s m args below meth c H locs cells slots Q (F0 m pc' L' (stk'.map (tr sb b0 ad)))) : W p l e R s m args below meth c H locs cells slots Q (F0 m pc L (stk.map (tr sb b0 ad))) := by
  by_cases h60 : op = 60
  · subst h60
    obtain ⟨hd, rfl⟩ := of_decide_eq_true (p := decode cc pc = .ok (.ifCond .eq (((ns.headD 0 : Nat) : Int) - pc), 3) ∧ nx = pc + 3) hok
    replace he : c1 (fun x => decide (x = 0)) (ns.headD 0) (pc + 3) ls stk h gg = some (pc', ls', stk', h', gg') := he
    unfold c1 at he
    split at he
    · next x r =>
      have hw := wvs_c.mp hws
      have hxx := hw.1.1 rfl
      simp only [Option.some.injEq, Prod.mk.injEq] at he; obtain ⟨rfl, rfl, rfl, rfl, rfl⟩ := he
      have hK := K L hl hw.2 hwl rfl rfl
      exact lv_if_eq (tgt := ns.headD 0) hx hb hd (by omega) (fun q => by rw [if_pos (decide_eq_true ((I3_eq hxx in32_0).mp q))] at hK; exact hK) (fun q => by rw [if_neg (fun z => q ((I3_eq hxx in32_0).mpr (of_decide_eq_true z)))] at hK; exact hK)
    · cases he
  by_cases h61 : op = 61
  · subst h61
    obtain ⟨hd, rfl⟩ := of_decide_eq_true (p := decode cc pc = .ok (.ifCond .ne (((ns.headD 0 : Nat) : Int) - pc), 3) ∧ nx = pc + 3) hok
    replace he : c1 (fun x => decide (¬ x = 0)) (ns.headD 0) (pc + 3) ls stk h gg = some (pc', ls', stk', h', gg') := he
    unfold c1 at he
    split at he
    · next x r =>
      have hw := wvs_c.mp hws
      have hxx := hw.1.1 rfl
      simp only [Option.some.injEq, Prod.mk.injEq] at he; obtain ⟨rfl, rfl, rfl, rfl, rfl⟩ := he
      have hK := K L hl hw.2 hwl rfl rfl
      exact lv_if_ne (tgt := ns.headD 0) hx hb hd (by omega) (fun q => by rw [if_pos (decide_eq_true ((not_congr (I3_eq hxx in32_0)).mp q))] at hK; exact hK) (fun q => by rw [if_neg (fun z => (of_decide_eq_true z) ((I3_eq hxx in32_0).mp q))] at hK; exact hK)
    · cases he
  by_cases h62 : op = 62
  · subst h62
    obtain ⟨hd, rfl⟩ := of_decide_eq_true (p := decode cc pc = .ok (.ifCond .lt (((ns.headD 0 : Nat) : Int) - pc), 3) ∧ nx = pc + 3) hok
    replace he : c1 (fun x => decide (x < 0)) (ns.headD 0) (pc + 3) ls stk h gg = some (pc', ls', stk', h', gg') := he
    unfold c1 at he
    split at he
    · next x r =>
      have hw := wvs_c.mp hws
      have hxx := hw.1.1 rfl
      simp only [Option.some.injEq, Prod.mk.injEq] at he; obtain ⟨rfl, rfl, rfl, rfl, rfl⟩ := he
      have hK := K L hl hw.2 hwl rfl rfl
      exact lv_if_lt (tgt := ns.headD 0) hx hb hd (by omega) (fun q => by rw [if_pos (decide_eq_true ((I3_lt hxx in32_0).mp q))] at hK; exact hK) (fun q => by rw [if_neg (fun z => q ((I3_lt hxx in32_0).mpr (of_decide_eq_true z)))] at hK; exact hK)
    · cases he
  by_cases h63 : op = 63
  · subst h63
    obtain ⟨hd, rfl⟩ := of_decide_eq_true (p := decode cc pc = .ok (.ifCond .ge (((ns.headD 0 : Nat) : Int) - pc), 3) ∧ nx = pc + 3) hok
    replace he : c1 (fun x => decide (0 ≤ x)) (ns.headD 0) (pc + 3) ls stk h gg = some (pc', ls', stk', h', gg') := he
    unfold c1 at he
    split at he
    · next x r =>
      have hw := wvs_c.mp hws
      have hxx := hw.1.1 rfl
      simp only [Option.some.injEq, Prod.mk.injEq] at he; obtain ⟨rfl, rfl, rfl, rfl, rfl⟩ := he
      have hK := K L hl hw.2 hwl rfl rfl
      exact lv_if_ge (tgt := ns.headD 0) hx hb hd (by omega) (fun q => by rw [if_pos (decide_eq_true ((I3_le in32_0 hxx).mp q))] at hK; exact hK) (fun q => by rw [if_neg (fun z => q ((I3_le in32_0 hxx).mpr (of_decide_eq_true z)))] at hK; exact hK)
    · cases he
  by_cases h64 : op = 64
  · subst h64
    obtain ⟨hd, rfl⟩ := of_decide_eq_true (p := decode cc pc = .ok (.ifCond .gt (((ns.headD 0 : Nat) : Int) - pc), 3) ∧ nx = pc + 3) hok
    replace he : c1 (fun x => decide (0 < x)) (ns.headD 0) (pc + 3) ls stk h gg = some (pc', ls', stk', h', gg') := he
    unfold c1 at he
    split at he
    · next x r =>
      have hw := wvs_c.mp hws
      have hxx := hw.1.1 rfl
      simp only [Option.some.injEq, Prod.mk.injEq] at he; obtain ⟨rfl, rfl, rfl, rfl, rfl⟩ := he
      have hK := K L hl hw.2 hwl rfl rfl
      exact lv_if_gt (tgt := ns.headD 0) hx hb hd (by omega) (fun q => by rw [if_pos (decide_eq_true ((I3_lt in32_0 hxx).mp q))] at hK; exact hK) (fun q => by rw [if_neg (fun z => q ((I3_lt in32_0 hxx).mpr (of_decide_eq_true z)))] at hK; exact hK)
    · cases he
  by_cases h65 : op = 65
  · subst h65
    obtain ⟨hd, rfl⟩ := of_decide_eq_true (p := decode cc pc = .ok (.ifCond .le (((ns.headD 0 : Nat) : Int) - pc), 3) ∧ nx = pc + 3) hok
    replace he : c1 (fun x => decide (x ≤ 0)) (ns.headD 0) (pc + 3) ls stk h gg = some (pc', ls', stk', h', gg') := he
    unfold c1 at he
    split at he
    · next x r =>
      have hw := wvs_c.mp hws
      have hxx := hw.1.1 rfl
      simp only [Option.some.injEq, Prod.mk.injEq] at he; obtain ⟨rfl, rfl, rfl, rfl, rfl⟩ := he
      have hK := K L hl hw.2 hwl rfl rfl
      exact lv_if_le (tgt := ns.headD 0) hx hb hd (by omega) (fun q => by rw [if_pos (decide_eq_true ((I3_le hxx in32_0).mp q))] at hK; exact hK) (fun q => by rw [if_neg (fun z => q ((I3_le hxx in32_0).mpr (of_decide_eq_true z)))] at hK; exact hK)
    · cases he
  by_cases h66 : op = 66
  · subst h66
    obtain ⟨hd, rfl⟩ := of_decide_eq_true (p := decode cc pc = .ok (.if_icmp .eq (((ns.headD 0 : Nat) : Int) - pc), 3) ∧ nx = pc + 3) hok
    replace he : c2 (fun x y => decide (x = y)) (ns.headD 0) (pc + 3) ls stk h gg = some (pc', ls', stk', h', gg') := he
    unfold c2 at he
    split at he
    · next y x r =>
      have hw := wvs_c.mp hws
      have hw2 := wvs_c.mp hw.2
      have hy := hw.1.1 rfl
      have hxx := hw2.1.1 rfl
      simp only [Option.some.injEq, Prod.mk.injEq] at he; obtain ⟨rfl, rfl, rfl, rfl, rfl⟩ := he
      have hK := K L hl hw2.2 hwl rfl rfl
      exact lv_icmp_eq (tgt := ns.headD 0) hx hb hd (by omega) (fun q => by rw [if_pos (decide_eq_true ((I3_eq hxx hy).mp q))] at hK; exact hK) (fun q => by rw [if_neg (fun z => q ((I3_eq hxx hy).mpr (of_decide_eq_true z)))] at hK; exact hK)
    · cases he
  by_cases h67 : op = 67
  · subst h67
    obtain ⟨hd, rfl⟩ := of_decide_eq_true (p := decode cc pc = .ok (.if_icmp .ne (((ns.headD 0 : Nat) : Int) - pc), 3) ∧ nx = pc + 3) hok
    replace he : c2 (fun x y => decide (¬ x = y)) (ns.headD 0) (pc + 3) ls stk h gg = some (pc', ls', stk', h', gg') := he
    unfold c2 at he
    split at he
    · next y x r =>
      have hw := wvs_c.mp hws
      have hw2 := wvs_c.mp hw.2
      have hy := hw.1.1 rfl
      have hxx := hw2.1.1 rfl
      simp only [Option.some.injEq, Prod.mk.injEq] at he; obtain ⟨rfl, rfl, rfl, rfl, rfl⟩ := he
      have hK := K L hl hw2.2 hwl rfl rfl
      exact lv_icmp_ne (tgt := ns.headD 0) hx hb hd (by omega) (fun q => by rw [if_pos (decide_eq_true ((not_congr (I3_eq hxx hy)).mp q))] at hK; exact hK) (fun q => by rw [if_neg (fun z => (of_decide_eq_true z) ((I3_eq hxx hy).mp q))] at hK; exact hK)
    · cases he
  by_cases h68 : op = 68
  · subst h68
    obtain ⟨hd, rfl⟩ := of_decide_eq_true (p := decode cc pc = .ok (.if_icmp .lt (((ns.headD 0 : Nat) : Int) - pc), 3) ∧ nx = pc + 3) hok
    replace he : c2 (fun x y => decide (x < y)) (ns.headD 0) (pc + 3) ls stk h gg = some (pc', ls', stk', h', gg') := he
    unfold c2 at he
    split at he
    · next y x r =>
      have hw := wvs_c.mp hws
      have hw2 := wvs_c.mp hw.2
      have hy := hw.1.1 rfl
      have hxx := hw2.1.1 rfl
      simp only [Option.some.injEq, Prod.mk.injEq] at he; obtain ⟨rfl, rfl, rfl, rfl, rfl⟩ := he
      have hK := K L hl hw2.2 hwl rfl rfl
      exact lv_icmp_lt (tgt := ns.headD 0) hx hb hd (by omega) (fun q => by rw [if_pos (decide_eq_true ((I3_lt hxx hy).mp q))] at hK; exact hK) (fun q => by rw [if_neg (fun z => q ((I3_lt hxx hy).mpr (of_decide_eq_true z)))] at hK; exact hK)
    · cases he
  by_cases h69 : op = 69
  · subst h69
    obtain ⟨hd, rfl⟩ := of_decide_eq_true (p := decode cc pc = .ok (.if_icmp .ge (((ns.headD 0 : Nat) : Int) - pc), 3) ∧ nx = pc + 3) hok
    replace he : c2 (fun x y => decide (y ≤ x)) (ns.headD 0) (pc + 3) ls stk h gg = some (pc', ls', stk', h', gg') := he
    unfold c2 at he
    split at he
    · next y x r =>
      have hw := wvs_c.mp hws
      have hw2 := wvs_c.mp hw.2
      have hy := hw.1.1 rfl
      have hxx := hw2.1.1 rfl
      simp only [Option.some.injEq, Prod.mk.injEq] at he; obtain ⟨rfl, rfl, rfl, rfl, rfl⟩ := he
      have hK := K L hl hw2.2 hwl rfl rfl
      exact lv_icmp_ge (tgt := ns.headD 0) hx hb hd (by omega) (fun q => by rw [if_pos (decide_eq_true ((I3_le hy hxx).mp q))] at hK; exact hK) (fun q => by rw [if_neg (fun z => q ((I3_le hy hxx).mpr (of_decide_eq_true z)))] at hK; exact hK)
    · cases he
  by_cases h70 : op = 70
  · subst h70
    obtain ⟨hd, rfl⟩ := of_decide_eq_true (p := decode cc pc = .ok (.if_icmp .gt (((ns.headD 0 : Nat) : Int) - pc), 3) ∧ nx = pc + 3) hok
    replace he : c2 (fun x y => decide (y < x)) (ns.headD 0) (pc + 3) ls stk h gg = some (pc', ls', stk', h', gg') := he
    unfold c2 at he
    split at he
    · next y x r =>
      have hw := wvs_c.mp hws
      have hw2 := wvs_c.mp hw.2
      have hy := hw.1.1 rfl
      have hxx := hw2.1.1 rfl
      simp only [Option.some.injEq, Prod.mk.injEq] at he; obtain ⟨rfl, rfl, rfl, rfl, rfl⟩ := he
      have hK := K L hl hw2.2 hwl rfl rfl
      exact lv_icmp_gt (tgt := ns.headD 0) hx hb hd (by omega) (fun q => by rw [if_pos (decide_eq_true ((I3_lt hy hxx).mp q))] at hK; exact hK) (fun q => by rw [if_neg (fun z => q ((I3_lt hy hxx).mpr (of_decide_eq_true z)))] at hK; exact hK)
    · cases he
  by_cases h71 : op = 71
  · subst h71
    obtain ⟨hd, rfl⟩ := of_decide_eq_true (p := decode cc pc = .ok (.if_icmp .le (((ns.headD 0 : Nat) : Int) - pc), 3) ∧ nx = pc + 3) hok
    replace he : c2 (fun x y => decide (x ≤ y)) (ns.headD 0) (pc + 3) ls stk h gg = some (pc', ls', stk', h', gg') := he
    unfold c2 at he
    split at he
    · next y x r =>
      have hw := wvs_c.mp hws
      have hw2 := wvs_c.mp hw.2
      have hy := hw.1.1 rfl
      have hxx := hw2.1.1 rfl
      simp only [Option.some.injEq, Prod.mk.injEq] at he; obtain ⟨rfl, rfl, rfl, rfl, rfl⟩ := he
      have hK := K L hl hw2.2 hwl rfl rfl
      exact lv_icmp_le (tgt := ns.headD 0) hx hb hd (by omega) (fun q => by rw [if_pos (decide_eq_true ((I3_le hxx hy).mp q))] at hK; exact hK) (fun q => by rw [if_neg (fun z => q ((I3_le hxx hy).mpr (of_decide_eq_true z)))] at hK; exact hK)
    · cases he
  by_cases h72 : op = 72
  · subst h72
    obtain ⟨hd, rfl⟩ := of_decide_eq_true (p := decode cc pc = .ok (.ifnull (((ns.headD 0 : Nat) : Int) - pc), 3) ∧ nx = pc + 3) hok
    replace he : (match (generalizing := false) stk with | (3, _) :: r => some (ns.headD 0, ls, r, h, gg) | (2, _) :: r => some (pc + 3, ls, r, h, gg) | _ => none) = some (pc', ls', stk', h', gg') := he
    split at he
    · next x r =>
      have hw := wvs_c.mp hws
      simp only [Option.some.injEq, Prod.mk.injEq] at he; obtain ⟨rfl, rfl, rfl, rfl, rfl⟩ := he
      exact lv_ifnullN hx hb hd (by omega) (K L hl hw.2 hwl rfl rfl)
    · next x r =>
      have hw := wvs_c.mp hws
      simp only [Option.some.injEq, Prod.mk.injEq] at he; obtain ⟨rfl, rfl, rfl, rfl, rfl⟩ := he
      exact lv_ifnull hx hb hd (K L hl hw.2 hwl rfl rfl)
    · cases he
  by_cases h73 : op = 73
  · subst h73
    have hd := of_decide_eq_true (p := decode cc pc = .ok (.goto (((ns.headD 0 : Nat) : Int) - pc), 3)) hok
    replace he : some (ns.headD 0, ls, stk, h, gg) = some (pc', ls', stk', h', gg') := he
    simp only [Option.some.injEq, Prod.mk.injEq] at he; obtain ⟨rfl, rfl, rfl, rfl, rfl⟩ := he
    exact lv_goto hx hb hd (by omega) (K L hl hws hwl rfl rfl)
  by_cases h74 : op = 74
  · subst h74
    replace he : (match (generalizing := false) stk with | (0, x) :: r => some (swt vs ns.tail (ns.headD 0) x, ls, r, h, gg) | _ => none) = some (pc', ls', stk', h', gg') := he
    split at he
    · next x r =>
      have hw := wvs_c.mp hws
      have hxx := hw.1.1 rfl
      simp only [Option.some.injEq, Prod.mk.injEq] at he; obtain ⟨rfl, rfl, rfl, rfl, rfl⟩ := he
      have hK := K L hl hw.2 hwl rfl rfl
      have hok : (match (generalizing := false) decode cc pc with | .ok (.tableswitch d lo hi offs, _) => decide ((pc : Int) + d = ((ns.headD 0 : Nat) : Int) ∧ hi + 1 = lo + offs.size ∧ vs = (List.range offs.size).map (fun (j : Nat) => lo + (j : Int)) ∧ offs.toList = ns.tail.map (fun (u : Nat) => (u : Int) - pc)) | _ => false) = true := hok
      split at hok
      · next d lo hi offs ln hd =>
        obtain ⟨q1, q2, q3, q4⟩ := of_decide_eq_true hok
        have hlen : offs.size = ns.tail.length := by rw [← Array.length_toList, q4, List.length_map]
        by_cases hr : x < lo ∨ hi < x
        · refine lv_tableOut hx hb hd (by rw [I3_to hxx]; exact hr) q1 ?_
          rw [swt_out (fun k hk => ?_)] at hK
          · exact hK
          · rw [q3] at hk
            obtain ⟨j, hj, rfl⟩ := List.mem_map.mp hk
            have := List.mem_range.mp hj
            omega
        · obtain ⟨j, hj⟩ : ∃ j : Nat, x = lo + j := ⟨(x - lo).toNat, by omega⟩
          have hjl : j < ns.tail.length := by omega
          have hu : ns.tail[j]? = some ns.tail[j] := List.getElem?_eq_getElem hjl
          have ho : offs[(x - lo).toNat]? = some ((ns.tail[j] : Int) - pc) := by
            rw [← Array.getElem?_toList, q4, List.getElem?_map, show (x - lo).toNat = j by omega, hu]; rfl
          refine lv_tableIn hx hb hd (by rw [I3_to hxx]; omega) (by rw [I3_to hxx]; omega) (by rw [I3_to hxx]; exact ho) (tgt := ns.tail[j]) (by omega) ?_
          rw [q3, hlen, hj, swt_in hu] at hK
          exact hK
      · cases hok
    · cases he
  by_cases h75 : op = 75
  · subst h75
    replace he : (match (generalizing := false) stk with | (0, x) :: r => some (swt vs ns.tail (ns.headD 0) x, ls, r, h, gg) | _ => none) = some (pc', ls', stk', h', gg') := he
    split at he
    · next x r =>
      have hw := wvs_c.mp hws
      have hxx := hw.1.1 rfl
      simp only [Option.some.injEq, Prod.mk.injEq] at he; obtain ⟨rfl, rfl, rfl, rfl, rfl⟩ := he
      have hK := K L hl hw.2 hwl rfl rfl
      have hok : (match (generalizing := false) decode cc pc with | .ok (.lookupswitch d ps, _) => decide ((pc : Int) + d = ((ns.headD 0 : Nat) : Int) ∧ ps.toList = vs.zip (ns.tail.map (fun (u : Nat) => (u : Int) - pc)) ∧ vs.length = ns.tail.length ∧ (ps.toList.zip (ps.toList.drop 1)).all (fun (a, next) => a.1 < next.1) = true) | _ => false) = true := hok
      split at hok
      · next d ps ln hd =>
        obtain ⟨q1, q2, q3, q4⟩ := of_decide_eq_true hok
        refine lv_lookup hx hb hd q4 rfl (tgt := swt vs ns.tail (ns.headD 0) x) ?_ hK
        rw [q2, I3_to hxx]
        exact swt_look q3 q1
      · cases hok
    · cases he
  have hz : okC cc pc (op, nx, ns, vs) = false := by
    unfold okC
    simp only [h60, h61, h62, h63, h64, h65, h66, h67, h68, h69, h70, h71, h72, h73, h74, h75, if_false]
  rw [hz] at hok; cases hok
end SNDC
end
section
/-! the cells -/
theorem LAY_ok (a : Nat) : ((LAY a).1 < 13 ∧ (LAY a).2 = cN (LAY a).1) ∨ (20 ≤ (LAY a).1 ∧ (LAY a).1 ≤ 24) := by
  have h1 : ∀ q ∈ L0, (q.1 < 13 ∧ q.2 = cN q.1) ∨ (20 ≤ q.1 ∧ q.1 ≤ 24) := by decide +kernel
  have h2 : ∀ q ∈ TL, (q.1 < 13 ∧ q.2 = cN q.1) ∨ (20 ≤ q.1 ∧ q.1 ≤ 24) := by decide +kernel
  unfold LAY
  by_cases h : a < 163
  · rw [if_pos h]
    exact h1 _ (getD_mem (by show a < 163; exact h))
  · rw [if_neg h]
    exact h2 _ (getD_mem (by show _ < 10; omega))
theorem cQ {ci : Nat} (h : ci < 13) : ∀ k, k < cN ci → (FTY ci k = 0 → cT ci k = .int) ∧ (FTY ci k = 2 → cT ci k = .boolean) ∧ (FTY ci k = 1 → fits (cT ci k) (.ref 0) = true) ∧ defaultValue (cT ci k) = if FTY ci k = 1 then .null else .int 0 := by
  revert ci
  decide +kernel
theorem fits_ref {t : FieldType} {a b : Nat} (h : fits t (.ref a) = true) : fits t (.ref b) = true := by
  cases t <;> first | rfl | (cases h)
def ety (t : Nat) : FieldType := if t = 20 then .int else if t = 21 then .byte else if t = 22 then .boolean else if t = 23 then .long else .object (oN 3)
def fv (ad : Nat → Nat) (k : Nat) (x r : Int) : Value := if k = 1 then (if r = 0 then .null else .ref (ad (r - 1).toNat)) else .int (I3 x)
def enO (ad : Nat → Nat) (ci : Nat) (h : Hp) (a : Nat) : List Value := (List.range (cN ci)).map (fun j => fv ad (FTY ci j) (h.1 a j) (h.2.1 a j))
def enQ (ad : Nat → Nat) (h : Hp) (a : Nat) : Nat → Option Nat := fun j => if h.2.1 a j = 0 then none else some (ad (h.2.1 a j - 1).toNat)
def enA (ad : Nat → Nat) (t len : Nat) (h : Hp) (a : Nat) : vp_A := (len, if t = 23 then .inr (.inl (fun j => I6 (h.1 a j))) else if t = 24 then .inr (.inr (.inr (.inr (enQ ad h a)))) else .inl (fun j => I3 (h.1 a j)))
def enC (ad : Nat → Nat) (ca : Nat → ClassId) (h : Hp) (a : Nat) : va_E := if (LAY a).1 < 20 then .inr ((LAY a).1, enO ad (LAY a).1 h a) else .inl (ca a, enA ad (LAY a).1 (LAY a).2 h a)
def enW (ad : Nat → Nat) (ca : Nat → ClassId) (h : Hp) : va_W := (List.range h.2.2.1).map (fun a => (ad a, enC ad ca h a))
def wx (t : Nat) (x : Int) : Prop := if t = 23 then in64 x else if t = 21 then -128 ≤ x ∧ x < 128 else if t = 22 then x = 0 ∨ x = 1 else in32 x
def wh (h : Hp) : Prop := (∀ a j, wx (LAY a).1 (h.1 a j)) ∧ (∀ a j, 0 ≤ h.2.1 a j ∧ h.2.1 a j ≤ h.2.2.1) ∧ (∀ a j, h.2.2.1 ≤ a → h.1 a j = 0 ∧ h.2.1 a j = 0)
theorem wx_32 {t : Nat} {x : Int} (h : wx t x) (ht : t ≠ 23) : in32 x := by
  unfold wx at h
  rw [if_neg ht] at h
  by_cases h1 : t = 21
  · rw [if_pos h1] at h; unfold in32; omega
  · rw [if_neg h1] at h
    by_cases h2 : t = 22
    · rw [if_pos h2] at h; unfold in32; omega
    · rw [if_neg h2] at h; exact h
theorem wx_of32 {t : Nat} {x : Int} (h : in32 x) (h1 : t ≠ 23) (h2 : t ≠ 21) (h3 : t ≠ 22) : wx t x := by unfold wx; rw [if_neg h1, if_neg h2, if_neg h3]; exact h
theorem up2_same (f : Nat → Nat → Int) (a j : Nat) (x : Int) : up2 f a j x a j = x := by unfold up2; rw [if_pos ⟨rfl, rfl⟩]
theorem up2_row {f : Nat → Nat → Int} {a b j : Nat} {x : Int} (h : b ≠ a) : up2 f a j x b = f b := by
  funext k; unfold up2; rw [if_neg (fun q => h q.1)]
theorem up2_place {f : Nat → Nat → Int} {a j k : Nat} {x : Int} (h : k ≠ j) : up2 f a j x a k = f a k := by unfold up2; rw [if_neg (fun q => h q.2)]
theorem enW_len (ad : Nat → Nat) (ca : Nat → ClassId) (h : Hp) : (enW ad ca h).length = h.2.2.1 := by unfold enW; rw [List.length_map, List.length_range]
theorem enW_at {ad : Nat → Nat} {ca : Nat → ClassId} {h : Hp} {a : Nat} (ha : a < h.2.2.1) : (enW ad ca h)[a]? = some (ad a, enC ad ca h a) := by
  unfold enW; rw [List.getElem?_map, List.getElem?_range ha]; rfl
theorem enO_at {ad : Nat → Nat} {ci : Nat} {h : Hp} {a j : Nat} (hj : j < cN ci) : (enO ad ci h a)[j]? = some (fv ad (FTY ci j) (h.1 a j) (h.2.1 a j)) := by
  unfold enO; rw [List.getElem?_map, List.getElem?_range hj]; rfl
theorem enO_len (ad : Nat → Nat) (ci : Nat) (h : Hp) (a : Nat) : (enO ad ci h a).length = cN ci := by unfold enO; rw [List.length_map, List.length_range]
theorem enC_obj {ad : Nat → Nat} {ca : Nat → ClassId} {h : Hp} {a ci : Nat} (hc : (LAY a).1 = ci) (hi : ci < 20) : enC ad ca h a = .inr (ci, enO ad ci h a) := by unfold enC; rw [hc, if_pos hi]
theorem enC_arr {ad : Nat → Nat} {ca : Nat → ClassId} {h : Hp} {a t : Nat} (hc : (LAY a).1 = t) (hi : ¬ t < 20) : enC ad ca h a = .inl (ca a, enA ad t (LAY a).2 h a) := by unfold enC; rw [hc, if_neg hi]
theorem enC_congr {ad : Nat → Nat} {ca : Nat → ClassId} {h h' : Hp} {a : Nat} (h1 : h'.1 a = h.1 a) (h2 : h'.2.1 a = h.2.1 a) : enC ad ca h' a = enC ad ca h a := by
  unfold enC enO enA enQ
  rw [h1, h2]
theorem enW_set {ad : Nat → Nat} {ca : Nat → ClassId} {h h' : Hp} {a : Nat} {E : va_E} (hn : h'.2.2.1 = h.2.2.1) (hE : enC ad ca h' a = E) (ho : ∀ b, b ≠ a → h'.1 b = h.1 b ∧ h'.2.1 b = h.2.1 b) : (enW ad ca h).set a (ad a, E) = enW ad ca h' := by
  apply List.ext_getElem?
  intro i
  rw [List.getElem?_set]
  by_cases hi : i < h.2.2.1
  · have hi' : i < h'.2.2.1 := by rw [hn]; exact hi
    by_cases e : a = i
    · subst e
      rw [if_pos rfl, if_pos (by rw [enW_len]; exact hi), enW_at hi', hE]
    · rw [if_neg e, enW_at hi, enW_at hi', enC_congr (ho i (fun q => e q.symm)).1 (ho i (fun q => e q.symm)).2]
  · have h1 : (enW ad ca h')[i]? = none := List.getElem?_eq_none (by rw [enW_len, hn]; omega)
    have h2 : (enW ad ca h)[i]? = none := List.getElem?_eq_none (by rw [enW_len]; omega)
    rw [h1, h2]
    by_cases e : a = i
    · rw [if_pos e, if_neg (by rw [enW_len]; omega)]
    · rw [if_neg e]
theorem enO_set {ad : Nat → Nat} {ci : Nat} {h h' : Hp} {a k : Nat} {v : Value} (hk : k < cN ci) (hv : fv ad (FTY ci k) (h'.1 a k) (h'.2.1 a k) = v) (ho : ∀ j, j ≠ k → h'.1 a j = h.1 a j ∧ h'.2.1 a j = h.2.1 a j) : (enO ad ci h a).set k v = enO ad ci h' a := by
  apply List.ext_getElem?
  intro i
  rw [List.getElem?_set]
  by_cases hi : i < cN ci
  · by_cases e : k = i
    · subst e
      rw [if_pos rfl, if_pos (by rw [enO_len]; exact hi), enO_at hi, hv]
    · rw [if_neg e, enO_at hi, enO_at hi, (ho i (fun q => e q.symm)).1, (ho i (fun q => e q.symm)).2]
  · have h1 : (enO ad ci h' a)[i]? = none := List.getElem?_eq_none (by rw [enO_len]; omega)
    have h2 : (enO ad ci h a)[i]? = none := List.getElem?_eq_none (by rw [enO_len]; omega)
    rw [h1, h2, if_neg (by omega)]
/-- other addresses, for cells that aren't there yet -/
theorem fv_ad {ad ad' : Nat → Nat} {n k : Nat} {x r : Int} (h : ∀ a, a < n → ad' a = ad a) (h0 : 0 ≤ r) (hr : r ≤ n) : fv ad' k x r = fv ad k x r := by
  unfold fv
  by_cases h1 : k = 1
  · rw [if_pos h1, if_pos h1]
    by_cases h2 : r = 0
    · rw [if_pos h2, if_pos h2]
    · rw [if_neg h2, if_neg h2, h _ (by omega)]
  · rw [if_neg h1, if_neg h1]
theorem enC_ad {ad ad' : Nat → Nat} {ca ca' : Nat → ClassId} {h : Hp} {a n : Nat} (hw : ∀ a j, 0 ≤ h.2.1 a j ∧ h.2.1 a j ≤ n) (h1 : ∀ a, a < n → ad' a = ad a) (h2 : ca' a = ca a) : enC ad' ca' h a = enC ad ca h a := by
  unfold enC
  by_cases hc : (LAY a).1 < 20
  · rw [if_pos hc, if_pos hc]
    congr 2
    unfold enO
    apply List.map_congr_left
    intro j _
    exact fv_ad h1 (hw a j).1 (hw a j).2
  · rw [if_neg hc, if_neg hc, h2]
    congr 2
    unfold enA
    congr 1
    split
    · rfl
    · split
      · congr 4
        funext j
        unfold enQ
        by_cases h3 : h.2.1 a j = 0
        · rw [if_pos h3, if_pos h3]
        · have := hw a j
          rw [if_neg h3, if_neg h3, h1 _ (by omega)]
      · rfl
theorem enW_grow {ad ad' : Nat → Nat} {ca ca' : Nat → ClassId} {h : Hp} {q : Nat} {E : va_E} (hw : wh h) (h1 : ∀ a, a < h.2.2.1 → ad' a = ad a) (h2 : ∀ a, a < h.2.2.1 → ca' a = ca a) (h3 : ad' h.2.2.1 = q) (hE : enC ad' ca' h h.2.2.1 = E) : enW ad ca h ++ [(q, E)] = enW ad' ca' (h.1, h.2.1, h.2.2.1 + 1, h.2.2.2) := by
  unfold enW
  show _ = (List.range (h.2.2.1 + 1)).map _
  rw [List.range_succ, List.map_append]
  congr 1
  · apply List.map_congr_left
    intro a ha
    have ha := List.mem_range.mp ha
    show (ad a, enC ad ca h a) = (ad' a, enC ad' ca' (h.1, h.2.1, h.2.2.1 + 1, h.2.2.2) a)
    rw [h1 a ha]
    congr 1
    rw [← enC_ad (ad := ad) (ad' := ad') (ca := ca) (ca' := ca') hw.2.1 h1 (h2 a ha)]
    exact enC_congr rfl rfl
  · show [(q, E)] = [(ad' h.2.2.1, enC ad' ca' (h.1, h.2.1, h.2.2.1 + 1, h.2.2.2) h.2.2.1)]
    rw [h3, ← hE]
    congr 2
theorem tr_ad {sb b0 n : Nat} {ad ad' : Nat → Nat} {v : AV} (h : ∀ a, a < n → ad' a = ad a) (hw : wv n v) : tr sb b0 ad' v = tr sb b0 ad v := by
  unfold tr
  by_cases h2 : v.1 = 2
  · have := hw.2.2 h2
    rw [h _ (by omega)]
  · split
    · rfl
    · split
      · rfl
      · rfl
theorem trs_ad {sb b0 n : Nat} {ad ad' : Nat → Nat} {l : List AV} (h : ∀ a, a < n → ad' a = ad a) (hw : wvs n l) : l.map (tr sb b0 ad') = l.map (tr sb b0 ad) := by
  apply List.map_congr_left
  intro v hv
  exact tr_ad h (hw v hv)
theorem prs_ad {sb b0 n : Nat} {ad ad' : Nat → Nat} (h : ∀ a, a < n → ad' a = ad a) : ∀ {l : List AV} {k : Nat}, wvs n l → prs sb b0 ad' k l = prs sb b0 ad k l
  | [], _, _ => rfl
  | v :: l, k, hw => by
    unfold prs
    have := wvs_c.mp hw
    rw [prs_ad h this.2, tr_ad h this.1]
theorem lr_ad {sb b0 n nL : Nat} {ad ad' : Nat → Nat} {ls : List AV} {L : Array Slot} (h : ∀ a, a < n → ad' a = ad a) (hw : wvs n ls) (hl : lr sb b0 ad nL ls L) : lr sb b0 ad' nL ls L := ⟨by rw [prs_ad h hw]; exact hl.1, hl.2⟩
theorem wvs_up {n n' : Nat} {l : List AV} (h : wvs n l) (hn : n ≤ n') : wvs n' l := fun v hv => (h v hv).up hn
/-- the machine's heap holds the small machine's -/
def Rl (D : va_G) (base : Nat) (H0 : Heap) (s : State) (sc : Nat × (Nat → Int)) (ad : Nat → Nat) (ca : Nat → ClassId) (tys : List (ClassId × FieldType)) (h : Hp) (H : Heap) (locs : List Loc) : Prop :=
  va_P D classes (enW ad ca h) H ∧ va_D (fun q => base ≤ q) (enW ad ca h) ∧ va_K D classes tys s ∧ (∀ a, a < h.2.2.1 → 20 ≤ (LAY a).1 → ∃ t0 : Nat, tys[t0]? = some (ca a, ety (LAY a).1)) ∧ va_S (fun q => base ≤ q) H0 H locs ∧ wh h ∧ h.2.2.2 = sc
theorem cat_sum (sb b0 : Nat) (ad : Nat → Nat) : ∀ l : List AV, ((l.map (tr sb b0 ad)).map fun v => v.category).sum ≤ 2 * l.length
  | [] => Nat.le_refl 0
  | v :: l => by
    have ih := cat_sum sb b0 ad l
    rw [List.map_cons, List.map_cons, List.sum_cons, List.length_cons, tr_cat]
    split <;> omega
end
section
section SNDD
variable {p : Program} {l : Launch} {e : Env} {R : Room} {s : State} {m : MethodId} {args : Array Value} {below : List Frame} {meth : Method} {c : Code} {H H0 : Heap} {locs : List Loc} {Q : State → Prop} {cc : ByteArray} {own : String} {nL : Nat} {sb b0 base : Nat} {ad : Nat → Nat} {ca : Nat → ClassId} {tys : List (ClassId × FieldType)} {D : va_G} {sc : Nat × (Nat → Int)} {o : Nat} {ini : Bool} {al : GG}
variable {op nx : Nat} {ns : List Nat} {vs : List Int} {ls stk ls' stk' : List AV} {h h' : Hp} {gg gg' : GG} {pc pc' : Nat} {L : Array Slot}

theorem LAY_len (a : Nat) : (LAY a).2 ≤ 5000 := by
  have h1 : ∀ q ∈ L0, q.2 ≤ 5000 := by decide +kernel
  have h2 : ∀ q ∈ TL, q.2 ≤ 5000 := by decide +kernel
  unfold LAY
  by_cases h : a < 163
  · rw [if_pos h]; exact h1 _ (getD_mem (by show a < 163; exact h))
  · rw [if_neg h]; exact h2 _ (getD_mem (by show _ < 10; omega))
theorem nI_I3 (n : Nat) : nI n = I3 n := by
  show Int32.ofNat n = Int32.ofInt (n : Int)
  exact (Int32.ofInt_eq_ofNat).symm
theorem wh_up {h : Hp} {a j : Nat} {x : Int} (hw : wh h) (ha : a < h.2.2.1) (hx : wx (LAY a).1 x) : wh (up2 h.1 a j x, h.2) := by
  refine ⟨fun b k => ?_, hw.2.1, fun b k hb => ⟨?_, (hw.2.2 b k hb).2⟩⟩
  · show wx _ (up2 h.1 a j x b k)
    unfold up2
    split
    · next q => rw [q.1]; exact hx
    · exact hw.1 b k
  · have hb : h.2.2.1 ≤ b := hb
    show up2 h.1 a j x b k = 0
    unfold up2
    rw [if_neg (fun q => by omega)]
    exact (hw.2.2 b k hb).1
theorem wh_upR {h : Hp} {a j : Nat} {x : Int} (hw : wh h) (ha : a < h.2.2.1) (h0 : 0 ≤ x) (hx : x ≤ h.2.2.1) : wh (h.1, up2 h.2.1 a j x, h.2.2) := by
  refine ⟨hw.1, fun b k => ?_, fun b k hb => ⟨(hw.2.2 b k hb).1, ?_⟩⟩
  · show 0 ≤ up2 h.2.1 a j x b k ∧ up2 h.2.1 a j x b k ≤ _
    unfold up2
    split
    · exact ⟨h0, hx⟩
    · exact hw.2.1 b k
  · have hb : h.2.2.1 ≤ b := hb
    show up2 h.2.1 a j x b k = 0
    unfold up2
    rw [if_neg (fun q => by omega)]
    exact (hw.2.2 b k hb).2
theorem wh_new {h : Hp} (hw : wh h) : wh (h.1, h.2.1, h.2.2.1 + 1, h.2.2.2) := by
  refine ⟨hw.1, fun b k => ?_, fun b k hb => hw.2.2 b k ?_⟩
  · have := hw.2.1 b k
    show 0 ≤ h.2.1 b k ∧ h.2.1 b k ≤ ((h.2.2.1 + 1 : Nat) : Int)
    omega
  · have hb : h.2.2.1 + 1 ≤ b := hb
    omega
theorem sD_90 (hx : p.tables.exec = Jvm.exec) (hb : c.code = cc) (hown : s.vm.findClass own = some m.cls) (ho : oN o = own) (hts : ∀ w ∈ wT, w.before args s = true) (hbase : base ≤ H0.size) (hRl : Rl D base H0 s sc ad ca tys h H locs) (hl : lr sb b0 ad nL ls L) (hws : wvs h.2.2.1 stk) (hwl : wvs h.2.2.1 ls)  (hok : okD o ini cc pc (90, nx, ns, vs) = true) (he : effD LAY al (90, nx, ns, vs) ls stk h gg = some (pc', ls', stk', h', gg')) (K : ∀ (ad' : Nat → Nat) (ca' : Nat → ClassId) (tys' : List (ClassId × FieldType)) (H' : Heap) (locs' : List Loc), ((∀ a, a < h.2.2.1 → ad' a = ad a) ∧ h.2.2.1 ≤ h'.2.2.1) → Rl D base H0 s sc ad' ca' tys' h' H' locs' → wvs h'.2.2.1 stk' → wvs h'.2.2.1 ls' → lr sb b0 ad' nL ls' L → W p l e R s m args below meth c H' locs' gg'.1 gg'.2 Q (F0 m pc' L (stk'.map (tr sb b0 ad')))) : W p l e R s m args below meth c H locs gg.1 gg.2 Q (F0 m pc L (stk.map (tr sb b0 ad))) := by
  obtain ⟨hP, hD, hK, hT, hS, hwh, hsc⟩ := hRl
  replace he : (match (generalizing := false) stk with | (2, q) :: r => if (LAY q.toNat).1 = ns.headD 0 then some (nx, ls, (0, h.1 q.toNat (ns.tail.headD 0)) :: r, h, gg) else none | _ => none) = some (pc', ls', stk', h', gg') := he
  obtain ⟨rfl, hlt, hd, f1, f2, f3, hft⟩ := of_decide_eq_true (p := nx = pc + 3 ∧ ns.tail.tail.headD 0 < FT.length ∧ decode cc pc = .ok (.getfield (FT.getD (ns.tail.tail.headD 0) (0, 0, 0, 0, 0)).2.1, 3) ∧ (FT.getD (ns.tail.tail.headD 0) (0, 0, 0, 0, 0)).1 = o ∧ (FT.getD (ns.tail.tail.headD 0) (0, 0, 0, 0, 0)).2.2.1 = ns.headD 0 ∧ (FT.getD (ns.tail.tail.headD 0) (0, 0, 0, 0, 0)).2.2.2.1 = ns.tail.headD 0 ∧ FTY (ns.headD 0) (ns.tail.headD 0) ≠ 1) hok
  have hq := FT_ok _ (getD_mem (d := (0, 0, 0, 0, 0)) hlt)
  obtain ⟨⟨hq1, hq2⟩, hq3, hq4⟩ := hq
  have hlk := hts _ (wT_t hq1 hq2)
  unfold FTp at hlk
  rw [f1, ho, f2, f3] at hlk
  rw [f2] at hq3 hq4
  rw [f3] at hq4
  generalize ns.headD 0 = ci at *
  generalize ns.tail.headD 0 = k at *
  have hci : ci < 13 := hq3
  have hcY := cY_all hci k hq4
  have hsame : ∀ x, s.fieldFound? (cF ci k).1 (cF ci k).2.1 (cF ci k).2.2.1 = some x → s.fieldFound? (oN ci) (cF ci k).2.1 (cF ci k).2.2.1 = some x := fun x hx => by rw [hcY.2] at hx; exact hx
  split at he
  · next q r =>
    by_cases hc : (LAY q.toNat).1 = ci
    · rw [if_pos hc] at he
      simp only [Option.some.injEq, Prod.mk.injEq] at he; obtain ⟨rfl, rfl, rfl, rfl, rfl⟩ := he
      have hw := wvs_c.mp hws
      have hqn := hw.1.2.2 rfl
      have hql : q.toNat < h.2.2.1 := by omega
      have hat : (enW ad ca h)[q.toNat]? = some (ad q.toNat, .inr (ci, enO ad ci h q.toNat)) := by rw [enW_at hql, enC_obj hc (by omega)]
      have hv : (enO ad ci h q.toNat)[k]? = some (.int (I3 (h.1 q.toNat k))) := by rw [enO_at hq4]; unfold fv; rw [if_neg hft]
      exact va_get hx hb hts (cW_all hci) hown hK hP q.toNat hat (classes_at hci) k hq4 hlk hsame hv hd (K ad ca tys H locs ⟨fun _ _ => rfl, Nat.le_refl _⟩ ⟨hP, hD, hK, hT, hS, hwh, hsc⟩ (wvs_c.mpr ⟨wv0 (wx_32 (hwh.1 _ _) (by omega)), hw.2⟩) hwl hl)
    · rw [if_neg hc] at he; cases he
  · cases he
theorem sD_91 (hx : p.tables.exec = Jvm.exec) (hb : c.code = cc) (hown : s.vm.findClass own = some m.cls) (ho : oN o = own) (hts : ∀ w ∈ wT, w.before args s = true) (hbase : base ≤ H0.size) (hRl : Rl D base H0 s sc ad ca tys h H locs) (hl : lr sb b0 ad nL ls L) (hws : wvs h.2.2.1 stk) (hwl : wvs h.2.2.1 ls)  (hok : okD o ini cc pc (91, nx, ns, vs) = true) (he : effD LAY al (91, nx, ns, vs) ls stk h gg = some (pc', ls', stk', h', gg')) (K : ∀ (ad' : Nat → Nat) (ca' : Nat → ClassId) (tys' : List (ClassId × FieldType)) (H' : Heap) (locs' : List Loc), ((∀ a, a < h.2.2.1 → ad' a = ad a) ∧ h.2.2.1 ≤ h'.2.2.1) → Rl D base H0 s sc ad' ca' tys' h' H' locs' → wvs h'.2.2.1 stk' → wvs h'.2.2.1 ls' → lr sb b0 ad' nL ls' L → W p l e R s m args below meth c H' locs' gg'.1 gg'.2 Q (F0 m pc' L (stk'.map (tr sb b0 ad')))) : W p l e R s m args below meth c H locs gg.1 gg.2 Q (F0 m pc L (stk.map (tr sb b0 ad))) := by
  obtain ⟨hP, hD, hK, hT, hS, hwh, hsc⟩ := hRl
  replace he : (match (generalizing := false) stk with | (2, q) :: r => if (LAY q.toNat).1 = ns.headD 0 then some (nx, ls, rv (h.2.1 q.toNat (ns.tail.headD 0)) :: r, h, gg) else none | _ => none) = some (pc', ls', stk', h', gg') := he
  obtain ⟨rfl, hlt, hd, f1, f2, f3, hft⟩ := of_decide_eq_true (p := nx = pc + 3 ∧ ns.tail.tail.headD 0 < FT.length ∧ decode cc pc = .ok (.getfield (FT.getD (ns.tail.tail.headD 0) (0, 0, 0, 0, 0)).2.1, 3) ∧ (FT.getD (ns.tail.tail.headD 0) (0, 0, 0, 0, 0)).1 = o ∧ (FT.getD (ns.tail.tail.headD 0) (0, 0, 0, 0, 0)).2.2.1 = ns.headD 0 ∧ (FT.getD (ns.tail.tail.headD 0) (0, 0, 0, 0, 0)).2.2.2.1 = ns.tail.headD 0 ∧ FTY (ns.headD 0) (ns.tail.headD 0) = 1) hok
  have hq := FT_ok _ (getD_mem (d := (0, 0, 0, 0, 0)) hlt)
  obtain ⟨⟨hq1, hq2⟩, hq3, hq4⟩ := hq
  have hlk := hts _ (wT_t hq1 hq2)
  unfold FTp at hlk
  rw [f1, ho, f2, f3] at hlk
  rw [f2] at hq3 hq4
  rw [f3] at hq4
  generalize ns.headD 0 = ci at *
  generalize ns.tail.headD 0 = k at *
  have hci : ci < 13 := hq3
  have hcY := cY_all hci k hq4
  have hsame : ∀ x, s.fieldFound? (cF ci k).1 (cF ci k).2.1 (cF ci k).2.2.1 = some x → s.fieldFound? (oN ci) (cF ci k).2.1 (cF ci k).2.2.1 = some x := fun x hx => by rw [hcY.2] at hx; exact hx
  split at he
  · next q r =>
    by_cases hc : (LAY q.toNat).1 = ci
    · rw [if_pos hc] at he
      simp only [Option.some.injEq, Prod.mk.injEq] at he; obtain ⟨rfl, rfl, rfl, rfl, rfl⟩ := he
      have hw := wvs_c.mp hws
      have hqn := hw.1.2.2 rfl
      have hql : q.toNat < h.2.2.1 := by omega
      have hat : (enW ad ca h)[q.toNat]? = some (ad q.toNat, .inr (ci, enO ad ci h q.toNat)) := by rw [enW_at hql, enC_obj hc (by omega)]
      have hr := hwh.2.1 q.toNat k
      rw [rv_eq hr.1] at K
      have hv : (enO ad ci h q.toNat)[k]? = some (tr sb b0 ad (if h.2.1 q.toNat k = 0 then (3, 0) else (2, h.2.1 q.toNat k - 1))) := by
        rw [enO_at hq4]; unfold fv; rw [if_pos hft]
        by_cases hz : h.2.1 q.toNat k = 0
        · rw [if_pos hz, if_pos hz]; rfl
        · rw [if_neg hz, if_neg hz]; rfl
      exact va_get hx hb hts (cW_all hci) hown hK hP q.toNat hat (classes_at hci) k hq4 hlk hsame hv hd (K ad ca tys H locs ⟨fun _ _ => rfl, Nat.le_refl _⟩ ⟨hP, hD, hK, hT, hS, hwh, hsc⟩ (wvs_c.mpr ⟨by
        by_cases hz : h.2.1 q.toNat k = 0
        · rw [if_pos hz]; exact wvk (by decide)
        · rw [if_neg hz]; exact wv2 (by omega) (by omega), hw.2⟩) hwl hl)
    · rw [if_neg hc] at he; cases he
  · cases he
theorem sD_92 (hx : p.tables.exec = Jvm.exec) (hb : c.code = cc) (hown : s.vm.findClass own = some m.cls) (ho : oN o = own) (hts : ∀ w ∈ wT, w.before args s = true) (hbase : base ≤ H0.size) (hRl : Rl D base H0 s sc ad ca tys h H locs) (hl : lr sb b0 ad nL ls L) (hws : wvs h.2.2.1 stk) (hwl : wvs h.2.2.1 ls)  (hok : okD o ini cc pc (92, nx, ns, vs) = true) (he : effD LAY al (92, nx, ns, vs) ls stk h gg = some (pc', ls', stk', h', gg')) (K : ∀ (ad' : Nat → Nat) (ca' : Nat → ClassId) (tys' : List (ClassId × FieldType)) (H' : Heap) (locs' : List Loc), ((∀ a, a < h.2.2.1 → ad' a = ad a) ∧ h.2.2.1 ≤ h'.2.2.1) → Rl D base H0 s sc ad' ca' tys' h' H' locs' → wvs h'.2.2.1 stk' → wvs h'.2.2.1 ls' → lr sb b0 ad' nL ls' L → W p l e R s m args below meth c H' locs' gg'.1 gg'.2 Q (F0 m pc' L (stk'.map (tr sb b0 ad')))) : W p l e R s m args below meth c H locs gg.1 gg.2 Q (F0 m pc L (stk.map (tr sb b0 ad))) := by
  obtain ⟨hP, hD, hK, hT, hS, hwh, hsc⟩ := hRl
  replace he : (match (generalizing := false) stk with | (0, v) :: (2, q) :: r => if (LAY q.toNat).1 = ns.headD 0 then some (nx, ls, r, (up2 h.1 q.toNat (ns.tail.headD 0) v, h.2), gg) else none | _ => none) = some (pc', ls', stk', h', gg') := he
  obtain ⟨rfl, hlt, hd, f1, f2, f3, hft, hfin⟩ := of_decide_eq_true (p := nx = pc + 3 ∧ ns.tail.tail.headD 0 < FT.length ∧ decode cc pc = .ok (.putfield (FT.getD (ns.tail.tail.headD 0) (0, 0, 0, 0, 0)).2.1, 3) ∧ (FT.getD (ns.tail.tail.headD 0) (0, 0, 0, 0, 0)).1 = o ∧ (FT.getD (ns.tail.tail.headD 0) (0, 0, 0, 0, 0)).2.2.1 = ns.headD 0 ∧ (FT.getD (ns.tail.tail.headD 0) (0, 0, 0, 0, 0)).2.2.2.1 = ns.tail.headD 0 ∧ FTY (ns.headD 0) (ns.tail.headD 0) = 0 ∧ (cF (ns.headD 0) (ns.tail.headD 0)).2.2.2 = false) hok
  have hq := FT_ok _ (getD_mem (d := (0, 0, 0, 0, 0)) hlt)
  obtain ⟨⟨hq1, hq2⟩, hq3, hq4⟩ := hq
  have hlk := hts _ (wT_t hq1 hq2)
  unfold FTp at hlk
  rw [f1, ho, f2, f3] at hlk
  rw [f2] at hq3 hq4
  rw [f3] at hq4
  generalize ns.headD 0 = ci at *
  generalize ns.tail.headD 0 = k at *
  have hci : ci < 13 := hq3
  have hcY := cY_all hci k hq4
  have hsame : ∀ x, s.fieldFound? (cF ci k).1 (cF ci k).2.1 (cF ci k).2.2.1 = some x → s.fieldFound? (oN ci) (cF ci k).2.1 (cF ci k).2.2.1 = some x := fun x hx => by rw [hcY.2] at hx; exact hx
  split at he
  · next v q r =>
    by_cases hc : (LAY q.toNat).1 = ci
    · rw [if_pos hc] at he
      simp only [Option.some.injEq, Prod.mk.injEq] at he; obtain ⟨rfl, rfl, rfl, rfl, rfl⟩ := he
      have hw := wvs_c.mp hws
      have hw2 := wvs_c.mp hw.2
      have hv := hw.1.1 rfl
      have hqn := hw2.1.2.2 rfl
      have hql : q.toNat < h.2.2.1 := by omega
      have hat : (enW ad ca h)[q.toNat]? = some (ad q.toNat, .inr (ci, enO ad ci h q.toNat)) := by rw [enW_at hql, enC_obj hc (by omega)]
      have hset : (enW ad ca h).set q.toNat (ad q.toNat, .inr (ci, (enO ad ci h q.toNat).set k (.int (I3 v)))) = enW ad ca (up2 h.1 q.toNat k v, h.2) := by
        refine enW_set rfl ?_ (fun b hb => ⟨up2_row hb, rfl⟩)
        rw [enC_obj hc (by omega), enO_set (h' := (up2 h.1 q.toNat k v, h.2)) hq4 (v := .int (I3 v)) (by unfold fv; rw [if_neg (by omega)]; show Value.int (I3 (up2 h.1 q.toNat k v q.toNat k)) = _; rw [up2_same]) (fun j hj => ⟨up2_place hj, rfl⟩)]
      have hty := (cQ hci k hq4).1 hft
      have hnr : narrow (cT ci k) (.int (I3 v)) = .int (I3 v) := by rw [hty]; rfl
      have hfi : fits (cT ci k) (.int (I3 v)) = true := by rw [hty]; rfl
      refine va_put hx hb hts (cW_all hci) (cT ci) (fun k hk => (cY_all hci k hk).1) (cM_all hci) hown hK hP hD hS q.toNat hat (classes_at hci) k hq4 hlk hsame hfin hcY.1 hnr hfi (by rw [enO_len]; exact hq4) hd (fun H1 locs1 hP1 hD1 hS1 => ?_)
      rw [show tr sb b0 ad (0, v) = Value.int (I3 v) from rfl, hset] at hP1 hD1
      exact K ad ca tys H1 locs1 ⟨fun _ _ => rfl, Nat.le_refl _⟩ ⟨hP1, hD1, hK, hT, hS1, wh_up hwh hql (wx_of32 hv (by omega) (by omega) (by omega)), hsc⟩ hw2.2 hwl hl
    · rw [if_neg hc] at he; cases he
  · cases he
theorem sD_94 (hx : p.tables.exec = Jvm.exec) (hb : c.code = cc) (hown : s.vm.findClass own = some m.cls) (ho : oN o = own) (hts : ∀ w ∈ wT, w.before args s = true) (hbase : base ≤ H0.size) (hRl : Rl D base H0 s sc ad ca tys h H locs) (hl : lr sb b0 ad nL ls L) (hws : wvs h.2.2.1 stk) (hwl : wvs h.2.2.1 ls)  (hok : okD o ini cc pc (94, nx, ns, vs) = true) (he : effD LAY al (94, nx, ns, vs) ls stk h gg = some (pc', ls', stk', h', gg')) (K : ∀ (ad' : Nat → Nat) (ca' : Nat → ClassId) (tys' : List (ClassId × FieldType)) (H' : Heap) (locs' : List Loc), ((∀ a, a < h.2.2.1 → ad' a = ad a) ∧ h.2.2.1 ≤ h'.2.2.1) → Rl D base H0 s sc ad' ca' tys' h' H' locs' → wvs h'.2.2.1 stk' → wvs h'.2.2.1 ls' → lr sb b0 ad' nL ls' L → W p l e R s m args below meth c H' locs' gg'.1 gg'.2 Q (F0 m pc' L (stk'.map (tr sb b0 ad')))) : W p l e R s m args below meth c H locs gg.1 gg.2 Q (F0 m pc L (stk.map (tr sb b0 ad))) := by
  obtain ⟨hP, hD, hK, hT, hS, hwh, hsc⟩ := hRl
  replace he : (match (generalizing := false) stk with | (0, v) :: (2, q) :: r => if (LAY q.toNat).1 = ns.headD 0 ∧ (v = 0 ∨ v = 1) then some (nx, ls, r, (up2 h.1 q.toNat (ns.tail.headD 0) v, h.2), gg) else none | _ => none) = some (pc', ls', stk', h', gg') := he
  obtain ⟨rfl, hlt, hd, f1, f2, f3, hft, hfin⟩ := of_decide_eq_true (p := nx = pc + 3 ∧ ns.tail.tail.headD 0 < FT.length ∧ decode cc pc = .ok (.putfield (FT.getD (ns.tail.tail.headD 0) (0, 0, 0, 0, 0)).2.1, 3) ∧ (FT.getD (ns.tail.tail.headD 0) (0, 0, 0, 0, 0)).1 = o ∧ (FT.getD (ns.tail.tail.headD 0) (0, 0, 0, 0, 0)).2.2.1 = ns.headD 0 ∧ (FT.getD (ns.tail.tail.headD 0) (0, 0, 0, 0, 0)).2.2.2.1 = ns.tail.headD 0 ∧ FTY (ns.headD 0) (ns.tail.headD 0) = 2 ∧ (cF (ns.headD 0) (ns.tail.headD 0)).2.2.2 = false) hok
  have hq := FT_ok _ (getD_mem (d := (0, 0, 0, 0, 0)) hlt)
  obtain ⟨⟨hq1, hq2⟩, hq3, hq4⟩ := hq
  have hlk := hts _ (wT_t hq1 hq2)
  unfold FTp at hlk
  rw [f1, ho, f2, f3] at hlk
  rw [f2] at hq3 hq4
  rw [f3] at hq4
  generalize ns.headD 0 = ci at *
  generalize ns.tail.headD 0 = k at *
  have hci : ci < 13 := hq3
  have hcY := cY_all hci k hq4
  have hsame : ∀ x, s.fieldFound? (cF ci k).1 (cF ci k).2.1 (cF ci k).2.2.1 = some x → s.fieldFound? (oN ci) (cF ci k).2.1 (cF ci k).2.2.1 = some x := fun x hx => by rw [hcY.2] at hx; exact hx
  split at he
  · next v q r =>
    by_cases hc : (LAY q.toNat).1 = ci ∧ (v = 0 ∨ v = 1)
    · rw [if_pos hc] at he
      simp only [Option.some.injEq, Prod.mk.injEq] at he; obtain ⟨rfl, rfl, rfl, rfl, rfl⟩ := he
      have hw := wvs_c.mp hws
      have hw2 := wvs_c.mp hw.2
      have hv := hw.1.1 rfl
      obtain ⟨hc, hv01⟩ := hc
      have hqn := hw2.1.2.2 rfl
      have hql : q.toNat < h.2.2.1 := by omega
      have hat : (enW ad ca h)[q.toNat]? = some (ad q.toNat, .inr (ci, enO ad ci h q.toNat)) := by rw [enW_at hql, enC_obj hc (by omega)]
      have hset : (enW ad ca h).set q.toNat (ad q.toNat, .inr (ci, (enO ad ci h q.toNat).set k (.int (I3 v)))) = enW ad ca (up2 h.1 q.toNat k v, h.2) := by
        refine enW_set rfl ?_ (fun b hb => ⟨up2_row hb, rfl⟩)
        rw [enC_obj hc (by omega), enO_set (h' := (up2 h.1 q.toNat k v, h.2)) hq4 (v := .int (I3 v)) (by unfold fv; rw [if_neg (by omega)]; show Value.int (I3 (up2 h.1 q.toNat k v q.toNat k)) = _; rw [up2_same]) (fun j hj => ⟨up2_place hj, rfl⟩)]
      have hty := (cQ hci k hq4).2.1 hft
      have hnr : narrow (cT ci k) (.int (I3 v)) = .int (I3 v) := by rw [hty]; rcases hv01 with rfl | rfl <;> decide
      have hfi : fits (cT ci k) (.int (I3 v)) = true := by rw [hty]; rcases hv01 with rfl | rfl <;> decide
      refine va_put hx hb hts (cW_all hci) (cT ci) (fun k hk => (cY_all hci k hk).1) (cM_all hci) hown hK hP hD hS q.toNat hat (classes_at hci) k hq4 hlk hsame hfin hcY.1 hnr hfi (by rw [enO_len]; exact hq4) hd (fun H1 locs1 hP1 hD1 hS1 => ?_)
      rw [show tr sb b0 ad (0, v) = Value.int (I3 v) from rfl, hset] at hP1 hD1
      exact K ad ca tys H1 locs1 ⟨fun _ _ => rfl, Nat.le_refl _⟩ ⟨hP1, hD1, hK, hT, hS1, wh_up hwh hql (wx_of32 hv (by omega) (by omega) (by omega)), hsc⟩ hw2.2 hwl hl
    · rw [if_neg hc] at he; cases he
  · cases he
theorem sD_93 (hx : p.tables.exec = Jvm.exec) (hb : c.code = cc) (hown : s.vm.findClass own = some m.cls) (ho : oN o = own) (hts : ∀ w ∈ wT, w.before args s = true) (hbase : base ≤ H0.size) (hRl : Rl D base H0 s sc ad ca tys h H locs) (hl : lr sb b0 ad nL ls L) (hws : wvs h.2.2.1 stk) (hwl : wvs h.2.2.1 ls) (hin : ini = true → meth.name = "<init>") (hok : okD o ini cc pc (93, nx, ns, vs) = true) (he : effD LAY al (93, nx, ns, vs) ls stk h gg = some (pc', ls', stk', h', gg')) (K : ∀ (ad' : Nat → Nat) (ca' : Nat → ClassId) (tys' : List (ClassId × FieldType)) (H' : Heap) (locs' : List Loc), ((∀ a, a < h.2.2.1 → ad' a = ad a) ∧ h.2.2.1 ≤ h'.2.2.1) → Rl D base H0 s sc ad' ca' tys' h' H' locs' → wvs h'.2.2.1 stk' → wvs h'.2.2.1 ls' → lr sb b0 ad' nL ls' L → W p l e R s m args below meth c H' locs' gg'.1 gg'.2 Q (F0 m pc' L (stk'.map (tr sb b0 ad')))) : W p l e R s m args below meth c H locs gg.1 gg.2 Q (F0 m pc L (stk.map (tr sb b0 ad))) := by
  obtain ⟨hP, hD, hK, hT, hS, hwh, hsc⟩ := hRl
  replace he : (match (generalizing := false) stk with | (2, v) :: (2, q) :: r => if (LAY q.toNat).1 = ns.headD 0 then some (nx, ls, r, (h.1, up2 h.2.1 q.toNat (ns.tail.headD 0) (v + 1), h.2.2), gg) else none | _ => none) = some (pc', ls', stk', h', gg') := he
  obtain ⟨rfl, hlt, hd, f1, f2, f3, hft, hfin⟩ := of_decide_eq_true (p := nx = pc + 3 ∧ ns.tail.tail.headD 0 < FT.length ∧ decode cc pc = .ok (.putfield (FT.getD (ns.tail.tail.headD 0) (0, 0, 0, 0, 0)).2.1, 3) ∧ (FT.getD (ns.tail.tail.headD 0) (0, 0, 0, 0, 0)).1 = o ∧ (FT.getD (ns.tail.tail.headD 0) (0, 0, 0, 0, 0)).2.2.1 = ns.headD 0 ∧ (FT.getD (ns.tail.tail.headD 0) (0, 0, 0, 0, 0)).2.2.2.1 = ns.tail.headD 0 ∧ FTY (ns.headD 0) (ns.tail.headD 0) = 1 ∧ ((cF (ns.headD 0) (ns.tail.headD 0)).2.2.2 = false ∨ (ini = true ∧ ns.headD 0 = o))) hok
  have hq := FT_ok _ (getD_mem (d := (0, 0, 0, 0, 0)) hlt)
  obtain ⟨⟨hq1, hq2⟩, hq3, hq4⟩ := hq
  have hlk := hts _ (wT_t hq1 hq2)
  unfold FTp at hlk
  rw [f1, ho, f2, f3] at hlk
  rw [f2] at hq3 hq4
  rw [f3] at hq4
  generalize ns.headD 0 = ci at *
  generalize ns.tail.headD 0 = k at *
  have hci : ci < 13 := hq3
  have hcY := cY_all hci k hq4
  have hsame : ∀ x, s.fieldFound? (cF ci k).1 (cF ci k).2.1 (cF ci k).2.2.1 = some x → s.fieldFound? (oN ci) (cF ci k).2.1 (cF ci k).2.2.1 = some x := fun x hx => by rw [hcY.2] at hx; exact hx
  split at he
  · next v q r =>
    by_cases hc : (LAY q.toNat).1 = ci
    · rw [if_pos hc] at he
      simp only [Option.some.injEq, Prod.mk.injEq] at he; obtain ⟨rfl, rfl, rfl, rfl, rfl⟩ := he
      have hw := wvs_c.mp hws
      have hw2 := wvs_c.mp hw.2
      have hvn := hw.1.2.2 rfl
      have hqn := hw2.1.2.2 rfl
      have hql : q.toNat < h.2.2.1 := by omega
      have hat : (enW ad ca h)[q.toNat]? = some (ad q.toNat, .inr (ci, enO ad ci h q.toNat)) := by rw [enW_at hql, enC_obj hc (by omega)]
      have hset : (enW ad ca h).set q.toNat (ad q.toNat, .inr (ci, (enO ad ci h q.toNat).set k (.ref (ad v.toNat)))) = enW ad ca (h.1, up2 h.2.1 q.toNat k (v + 1), h.2.2) := by
        refine enW_set rfl ?_ (fun b hb => ⟨rfl, up2_row hb⟩)
        rw [enC_obj hc (by omega), enO_set (ad := ad) (h := h) (a := q.toNat) (h' := (h.1, up2 h.2.1 q.toNat k (v + 1), h.2.2)) hq4 (v := .ref (ad v.toNat)) (by unfold fv; rw [if_pos hft]; show (if up2 h.2.1 q.toNat k (v + 1) q.toNat k = 0 then Value.null else .ref (ad (up2 h.2.1 q.toNat k (v + 1) q.toNat k - 1).toNat)) = _; rw [up2_same, if_neg (by omega), show v + 1 - 1 = v by omega]) (fun j hj => ⟨rfl, up2_place hj⟩)]
      have hfi : fits (cT ci k) (.ref (ad v.toNat)) = true := fits_ref ((cQ hci k hq4).2.2.1 hft)
      have hnr : narrow (cT ci k) (.ref (ad v.toNat)) = .ref (ad v.toNat) := by cases cT ci k <;> rfl
      have KK : ∀ (H1 : Heap) (locs1 : List Loc), va_P D classes ((enW ad ca h).set q.toNat (ad q.toNat, .inr (ci, (enO ad ci h q.toNat).set k (.ref (ad v.toNat))))) H1 → va_D (fun q => base ≤ q) ((enW ad ca h).set q.toNat (ad q.toNat, .inr (ci, (enO ad ci h q.toNat).set k (.ref (ad v.toNat))))) → va_S (fun q => base ≤ q) H0 H1 locs1 → W p l e R s m args below meth c H1 locs1 gg.1 gg.2 Q (F0 m (pc + 3) L (r.map (tr sb b0 ad))) := by
        intro H1 locs1 hP1 hD1 hS1
        rw [hset] at hP1 hD1
        exact K ad ca tys H1 locs1 ⟨fun _ _ => rfl, Nat.le_refl _⟩ ⟨hP1, hD1, hK, hT, hS1, wh_upR hwh hql (by omega) (by omega), hsc⟩ hw2.2 hwl hl
      rcases hfin with hfin | ⟨hi, hco⟩
      · exact va_put hx hb hts (cW_all hci) (cT ci) (fun k hk => (cY_all hci k hk).1) (cM_all hci) hown hK hP hD hS q.toNat hat (classes_at hci) k hq4 hlk hsame hfin hcY.1 hnr hfi (by rw [enO_len]; exact hq4) hd KK
      · cases hf2 : (cF ci k).2.2.2 with
        | false => exact va_put hx hb hts (cW_all hci) (cT ci) (fun k hk => (cY_all hci k hk).1) (cM_all hci) hown hK hP hD hS q.toNat hat (classes_at hci) k hq4 hlk hsame hf2 hcY.1 hnr hfi (by rw [enO_len]; exact hq4) hd KK
        | true => exact va_putF hx hb hts (cW_all hci) (cT ci) (fun k hk => (cY_all hci k hk).1) (cM_all hci) hown hK hP hD hS q.toNat hat (classes_at hci) k hq4 hlk hsame hf2 (hin hi) (by rw [hcY.2, hco, ho]) hcY.1 hnr hfi (by rw [enO_len]; exact hq4) hd KK
    · rw [if_neg hc] at he; cases he
  · cases he
theorem sD_80 (hx : p.tables.exec = Jvm.exec) (hb : c.code = cc) (hown : s.vm.findClass own = some m.cls) (ho : oN o = own) (hts : ∀ w ∈ wT, w.before args s = true) (hbase : base ≤ H0.size) (hRl : Rl D base H0 s sc ad ca tys h H locs) (hl : lr sb b0 ad nL ls L) (hws : wvs h.2.2.1 stk) (hwl : wvs h.2.2.1 ls) {xs : Nat → Int32} (hX : va_X b0 sc.1 xs s H0) (hxs : ∀ j, sc.2 j = (xs j).toInt) (hb0 : b0 < base) (hok : okD o ini cc pc (80, nx, ns, vs) = true) (he : effD LAY al (80, nx, ns, vs) ls stk h gg = some (pc', ls', stk', h', gg')) (K : ∀ (ad' : Nat → Nat) (ca' : Nat → ClassId) (tys' : List (ClassId × FieldType)) (H' : Heap) (locs' : List Loc), ((∀ a, a < h.2.2.1 → ad' a = ad a) ∧ h.2.2.1 ≤ h'.2.2.1) → Rl D base H0 s sc ad' ca' tys' h' H' locs' → wvs h'.2.2.1 stk' → wvs h'.2.2.1 ls' → lr sb b0 ad' nL ls' L → W p l e R s m args below meth c H' locs' gg'.1 gg'.2 Q (F0 m pc' L (stk'.map (tr sb b0 ad')))) : W p l e R s m args below meth c H locs gg.1 gg.2 Q (F0 m pc L (stk.map (tr sb b0 ad))) := by
  obtain ⟨hP, hD, hK, hT, hS, hwh, hsc⟩ := hRl
  obtain ⟨hd, rfl⟩ := of_decide_eq_true (p := decode cc pc = .ok (.iaload, 1) ∧ nx = pc + 1) hok
  replace he : (match (generalizing := false) stk with | (0, x) :: (2, q) :: r => if (LAY q.toNat).1 = 20 ∧ 0 ≤ x ∧ x < ((LAY q.toNat).2 : Int) then some (pc + 1, ls, (0, h.1 q.toNat x.toNat) :: r, h, gg) else none | (0, x) :: (4, _) :: r => if 0 ≤ x ∧ x < (h.2.2.2.1 : Int) then some (pc + 1, ls, (0, h.2.2.2.2 x.toNat) :: r, h, gg) else none | _ => none) = some (pc', ls', stk', h', gg') := he
  split at he
  · next x q r =>
    by_cases hcc : (LAY q.toNat).1 = 20 ∧ 0 ≤ x ∧ x < ((LAY q.toNat).2 : Int)
    · rw [if_pos hcc] at he
      simp only [Option.some.injEq, Prod.mk.injEq] at he; obtain ⟨rfl, rfl, rfl, rfl, rfl⟩ := he
      obtain ⟨hc, hi⟩ := hcc
      have hw := wvs_c.mp hws
      have hw2 := wvs_c.mp hw.2
      have hxx := hw.1.1 rfl
      have hqn := hw2.1.2.2 rfl
      have hql : q.toNat < h.2.2.1 := by omega
      have hat : (enW ad ca h)[q.toNat]? = some (ad q.toNat, .inl (ca q.toNat, (LAY q.toNat).2, .inl (fun j => I3 (h.1 q.toNat j)))) := by rw [enW_at hql, enC_arr hc (by decide)]; rfl
      obtain ⟨t0, ht0⟩ := hT q.toNat hql (by rw [hc]; decide)
      rw [hc] at ht0
      have K' := K ad ca tys H locs ⟨fun _ _ => rfl, Nat.le_refl _⟩ ⟨hP, hD, hK, hT, hS, hwh, hsc⟩ (wvs_c.mpr ⟨wv0 (wx_32 (hwh.1 _ _) (by omega)), hw2.2⟩) hwl hl
      refine va_iald hx hb hK hP q.toNat t0 hat ht0 ((I3_vp hxx).mpr hi) hd ?_
      rw [I3_cl hxx]
      exact K'
    · rw [if_neg hcc] at he; cases he
  · next x y r =>
    by_cases hcc : 0 ≤ x ∧ x < (h.2.2.2.1 : Int)
    · rw [if_pos hcc] at he
      simp only [Option.some.injEq, Prod.mk.injEq] at he; obtain ⟨rfl, rfl, rfl, rfl, rfl⟩ := he
      have hw := wvs_c.mp hws
      have hw2 := wvs_c.mp hw.2
      have hxx := hw.1.1 rfl
      have hj : h.2.2.2.2 x.toNat = (xs x.toNat).toInt := by rw [show h.2.2.2.2 = sc.2 from congrArg Prod.snd hsc]; exact hxs _
      have K' := K ad ca tys H locs ⟨fun _ _ => rfl, Nat.le_refl _⟩ ⟨hP, hD, hK, hT, hS, hwh, hsc⟩ (wvs_c.mpr ⟨wv0 (by rw [hj]; exact in32_to _), hw2.2⟩) hwl hl
      refine va_sld hx hb hX (Nat.lt_of_lt_of_le hb0 hbase) (Nat.not_le.mpr hb0) hS ((I3_vp hxx).mpr (by rw [show sc.1 = h.2.2.2.1 from (congrArg Prod.fst hsc).symm]; exact hcc)) hd ?_
      rw [I3_cl hxx]
      rw [List.map_cons, tr0, hj, I3_of] at K'
      exact K'
    · rw [if_neg hcc] at he; cases he
  · cases he
theorem sD_81 (hx : p.tables.exec = Jvm.exec) (hb : c.code = cc) (hown : s.vm.findClass own = some m.cls) (ho : oN o = own) (hts : ∀ w ∈ wT, w.before args s = true) (hbase : base ≤ H0.size) (hRl : Rl D base H0 s sc ad ca tys h H locs) (hl : lr sb b0 ad nL ls L) (hws : wvs h.2.2.1 stk) (hwl : wvs h.2.2.1 ls)  (hok : okD o ini cc pc (81, nx, ns, vs) = true) (he : effD LAY al (81, nx, ns, vs) ls stk h gg = some (pc', ls', stk', h', gg')) (K : ∀ (ad' : Nat → Nat) (ca' : Nat → ClassId) (tys' : List (ClassId × FieldType)) (H' : Heap) (locs' : List Loc), ((∀ a, a < h.2.2.1 → ad' a = ad a) ∧ h.2.2.1 ≤ h'.2.2.1) → Rl D base H0 s sc ad' ca' tys' h' H' locs' → wvs h'.2.2.1 stk' → wvs h'.2.2.1 ls' → lr sb b0 ad' nL ls' L → W p l e R s m args below meth c H' locs' gg'.1 gg'.2 Q (F0 m pc' L (stk'.map (tr sb b0 ad')))) : W p l e R s m args below meth c H locs gg.1 gg.2 Q (F0 m pc L (stk.map (tr sb b0 ad))) := by
  obtain ⟨hP, hD, hK, hT, hS, hwh, hsc⟩ := hRl
  obtain ⟨hd, rfl⟩ := of_decide_eq_true (p := decode cc pc = .ok (.baload, 1) ∧ nx = pc + 1) hok
  replace he : (match (generalizing := false) stk with | (0, x) :: (2, q) :: r => if ((LAY q.toNat).1 = 21 ∨ (LAY q.toNat).1 = 22) ∧ 0 ≤ x ∧ x < ((LAY q.toNat).2 : Int) then some (pc + 1, ls, (0, h.1 q.toNat x.toNat) :: r, h, gg) else none | _ => none) = some (pc', ls', stk', h', gg') := he
  split at he
  · next x q r =>
    by_cases hcc : ((LAY q.toNat).1 = 21 ∨ (LAY q.toNat).1 = 22) ∧ 0 ≤ x ∧ x < ((LAY q.toNat).2 : Int)
    · rw [if_pos hcc] at he
      simp only [Option.some.injEq, Prod.mk.injEq] at he; obtain ⟨rfl, rfl, rfl, rfl, rfl⟩ := he
      obtain ⟨hc, hi⟩ := hcc
      have hw := wvs_c.mp hws
      have hw2 := wvs_c.mp hw.2
      have hxx := hw.1.1 rfl
      have hqn := hw2.1.2.2 rfl
      have hql : q.toNat < h.2.2.1 := by omega
      have K' := K ad ca tys H locs ⟨fun _ _ => rfl, Nat.le_refl _⟩ ⟨hP, hD, hK, hT, hS, hwh, hsc⟩ (wvs_c.mpr ⟨wv0 (wx_32 (hwh.1 _ _) (by omega)), hw2.2⟩) hwl hl
      rcases hc with hc | hc
      · have hat : (enW ad ca h)[q.toNat]? = some (ad q.toNat, .inl (ca q.toNat, (LAY q.toNat).2, .inl (fun j => I3 (h.1 q.toNat j)))) := by rw [enW_at hql, enC_arr hc (by decide)]; rfl
        obtain ⟨t0, ht0⟩ := hT q.toNat hql (by rw [hc]; decide)
        rw [hc] at ht0
        refine va_bald hx hb hK hP q.toNat t0 hat ht0 ((I3_vp hxx).mpr hi) hd ?_
        rw [I3_cl hxx]
        exact K'
      · have hat : (enW ad ca h)[q.toNat]? = some (ad q.toNat, .inl (ca q.toNat, (LAY q.toNat).2, .inl (fun j => I3 (h.1 q.toNat j)))) := by rw [enW_at hql, enC_arr hc (by decide)]; rfl
        obtain ⟨t0, ht0⟩ := hT q.toNat hql (by rw [hc]; decide)
        rw [hc] at ht0
        refine va_zald hx hb hK hP q.toNat t0 hat ht0 ((I3_vp hxx).mpr hi) hd ?_
        rw [I3_cl hxx]
        exact K'
    · rw [if_neg hcc] at he; cases he
  · cases he
theorem sD_82 (hx : p.tables.exec = Jvm.exec) (hb : c.code = cc) (hown : s.vm.findClass own = some m.cls) (ho : oN o = own) (hts : ∀ w ∈ wT, w.before args s = true) (hbase : base ≤ H0.size) (hRl : Rl D base H0 s sc ad ca tys h H locs) (hl : lr sb b0 ad nL ls L) (hws : wvs h.2.2.1 stk) (hwl : wvs h.2.2.1 ls)  (hok : okD o ini cc pc (82, nx, ns, vs) = true) (he : effD LAY al (82, nx, ns, vs) ls stk h gg = some (pc', ls', stk', h', gg')) (K : ∀ (ad' : Nat → Nat) (ca' : Nat → ClassId) (tys' : List (ClassId × FieldType)) (H' : Heap) (locs' : List Loc), ((∀ a, a < h.2.2.1 → ad' a = ad a) ∧ h.2.2.1 ≤ h'.2.2.1) → Rl D base H0 s sc ad' ca' tys' h' H' locs' → wvs h'.2.2.1 stk' → wvs h'.2.2.1 ls' → lr sb b0 ad' nL ls' L → W p l e R s m args below meth c H' locs' gg'.1 gg'.2 Q (F0 m pc' L (stk'.map (tr sb b0 ad')))) : W p l e R s m args below meth c H locs gg.1 gg.2 Q (F0 m pc L (stk.map (tr sb b0 ad))) := by
  obtain ⟨hP, hD, hK, hT, hS, hwh, hsc⟩ := hRl
  obtain ⟨hd, rfl⟩ := of_decide_eq_true (p := decode cc pc = .ok (.laload, 1) ∧ nx = pc + 1) hok
  replace he : (match (generalizing := false) stk with | (0, x) :: (2, q) :: r => if (LAY q.toNat).1 = 23 ∧ 0 ≤ x ∧ x < ((LAY q.toNat).2 : Int) then some (pc + 1, ls, (1, h.1 q.toNat x.toNat) :: r, h, gg) else none | _ => none) = some (pc', ls', stk', h', gg') := he
  split at he
  · next x q r =>
    by_cases hcc : (LAY q.toNat).1 = 23 ∧ 0 ≤ x ∧ x < ((LAY q.toNat).2 : Int)
    · rw [if_pos hcc] at he
      simp only [Option.some.injEq, Prod.mk.injEq] at he; obtain ⟨rfl, rfl, rfl, rfl, rfl⟩ := he
      obtain ⟨hc, hi⟩ := hcc
      have hw := wvs_c.mp hws
      have hw2 := wvs_c.mp hw.2
      have hxx := hw.1.1 rfl
      have hqn := hw2.1.2.2 rfl
      have hql : q.toNat < h.2.2.1 := by omega
      have hat : (enW ad ca h)[q.toNat]? = some (ad q.toNat, .inl (ca q.toNat, (LAY q.toNat).2, .inr (.inl (fun j => I6 (h.1 q.toNat j))))) := by rw [enW_at hql, enC_arr hc (by decide)]; rfl
      obtain ⟨t0, ht0⟩ := hT q.toNat hql (by rw [hc]; decide)
      rw [hc] at ht0
      have hwx := hwh.1 q.toNat x.toNat
      rw [hc] at hwx
      have K' := K ad ca tys H locs ⟨fun _ _ => rfl, Nat.le_refl _⟩ ⟨hP, hD, hK, hT, hS, hwh, hsc⟩ (wvs_c.mpr ⟨wv1 hwx, hw2.2⟩) hwl hl
      refine va_lald hx hb hK hP q.toNat t0 hat ht0 ((I3_vp hxx).mpr hi) hd ?_
      rw [I3_cl hxx]
      exact K'
    · rw [if_neg hcc] at he; cases he
  · cases he
theorem sD_83 (hx : p.tables.exec = Jvm.exec) (hb : c.code = cc) (hown : s.vm.findClass own = some m.cls) (ho : oN o = own) (hts : ∀ w ∈ wT, w.before args s = true) (hbase : base ≤ H0.size) (hRl : Rl D base H0 s sc ad ca tys h H locs) (hl : lr sb b0 ad nL ls L) (hws : wvs h.2.2.1 stk) (hwl : wvs h.2.2.1 ls)  (hok : okD o ini cc pc (83, nx, ns, vs) = true) (he : effD LAY al (83, nx, ns, vs) ls stk h gg = some (pc', ls', stk', h', gg')) (K : ∀ (ad' : Nat → Nat) (ca' : Nat → ClassId) (tys' : List (ClassId × FieldType)) (H' : Heap) (locs' : List Loc), ((∀ a, a < h.2.2.1 → ad' a = ad a) ∧ h.2.2.1 ≤ h'.2.2.1) → Rl D base H0 s sc ad' ca' tys' h' H' locs' → wvs h'.2.2.1 stk' → wvs h'.2.2.1 ls' → lr sb b0 ad' nL ls' L → W p l e R s m args below meth c H' locs' gg'.1 gg'.2 Q (F0 m pc' L (stk'.map (tr sb b0 ad')))) : W p l e R s m args below meth c H locs gg.1 gg.2 Q (F0 m pc L (stk.map (tr sb b0 ad))) := by
  obtain ⟨hP, hD, hK, hT, hS, hwh, hsc⟩ := hRl
  obtain ⟨hd, rfl⟩ := of_decide_eq_true (p := decode cc pc = .ok (.aaload, 1) ∧ nx = pc + 1) hok
  replace he : (match (generalizing := false) stk with | (0, x) :: (2, q) :: r => if (LAY q.toNat).1 = 24 ∧ 0 ≤ x ∧ x < ((LAY q.toNat).2 : Int) ∧ (rv (h.2.1 q.toNat x.toNat)).1 = 2 then some (pc + 1, ls, rv (h.2.1 q.toNat x.toNat) :: r, h, gg) else none | _ => none) = some (pc', ls', stk', h', gg') := he
  split at he
  · next x q r =>
    by_cases hcc : (LAY q.toNat).1 = 24 ∧ 0 ≤ x ∧ x < ((LAY q.toNat).2 : Int) ∧ (rv (h.2.1 q.toNat x.toNat)).1 = 2
    · rw [if_pos hcc] at he
      simp only [Option.some.injEq, Prod.mk.injEq] at he; obtain ⟨rfl, rfl, rfl, rfl, rfl⟩ := he
      obtain ⟨hc, hi1, hi2, hnz⟩ := hcc
      have hw := wvs_c.mp hws
      have hw2 := wvs_c.mp hw.2
      have hxx := hw.1.1 rfl
      have hqn := hw2.1.2.2 rfl
      have hql : q.toNat < h.2.2.1 := by omega
      have hat : (enW ad ca h)[q.toNat]? = some (ad q.toNat, .inl (ca q.toNat, (LAY q.toNat).2, .inr (.inr (.inr (.inr (enQ ad h q.toNat)))))) := by rw [enW_at hql, enC_arr hc (by decide)]; rfl
      obtain ⟨t0, ht0⟩ := hT q.toNat hql (by rw [hc]; decide)
      rw [hc] at ht0
      have hr := hwh.2.1 q.toNat x.toNat
      have hnz : ¬ h.2.1 q.toNat x.toNat = 0 := fun z => by rw [z] at hnz; cases hnz
      rw [rv_eq hr.1, if_neg hnz] at K
      have K' := K ad ca tys H locs ⟨fun _ _ => rfl, Nat.le_refl _⟩ ⟨hP, hD, hK, hT, hS, hwh, hsc⟩ (wvs_c.mpr ⟨wv2 (by omega) (by omega), hw2.2⟩) hwl hl
      refine va_aldq hx hb hK hP q.toNat t0 hat ht0 ((I3_vp hxx).mpr ⟨hi1, hi2⟩) hd ?_
      rw [I3_cl hxx]
      have hrf : va_rf (enQ ad h q.toNat x.toNat) = .ref (ad (h.2.1 q.toNat x.toNat - 1).toNat) := by unfold enQ; rw [if_neg hnz]; rfl
      rw [hrf]
      exact K'
    · rw [if_neg hcc] at he; cases he
  · cases he
theorem sD_84 (hx : p.tables.exec = Jvm.exec) (hb : c.code = cc) (hown : s.vm.findClass own = some m.cls) (ho : oN o = own) (hts : ∀ w ∈ wT, w.before args s = true) (hbase : base ≤ H0.size) (hRl : Rl D base H0 s sc ad ca tys h H locs) (hl : lr sb b0 ad nL ls L) (hws : wvs h.2.2.1 stk) (hwl : wvs h.2.2.1 ls)  (hok : okD o ini cc pc (84, nx, ns, vs) = true) (he : effD LAY al (84, nx, ns, vs) ls stk h gg = some (pc', ls', stk', h', gg')) (K : ∀ (ad' : Nat → Nat) (ca' : Nat → ClassId) (tys' : List (ClassId × FieldType)) (H' : Heap) (locs' : List Loc), ((∀ a, a < h.2.2.1 → ad' a = ad a) ∧ h.2.2.1 ≤ h'.2.2.1) → Rl D base H0 s sc ad' ca' tys' h' H' locs' → wvs h'.2.2.1 stk' → wvs h'.2.2.1 ls' → lr sb b0 ad' nL ls' L → W p l e R s m args below meth c H' locs' gg'.1 gg'.2 Q (F0 m pc' L (stk'.map (tr sb b0 ad')))) : W p l e R s m args below meth c H locs gg.1 gg.2 Q (F0 m pc L (stk.map (tr sb b0 ad))) := by
  obtain ⟨hP, hD, hK, hT, hS, hwh, hsc⟩ := hRl
  obtain ⟨hd, rfl⟩ := of_decide_eq_true (p := decode cc pc = .ok (.iastore, 1) ∧ nx = pc + 1) hok
  replace he : (match (generalizing := false) stk with | (0, v) :: (0, x) :: (2, q) :: r => if (LAY q.toNat).1 = 20 ∧ 0 ≤ x ∧ x < ((LAY q.toNat).2 : Int) then some (pc + 1, ls, r, (up2 h.1 q.toNat x.toNat v, h.2), gg) else none | _ => none) = some (pc', ls', stk', h', gg') := he
  split at he
  · next v x q r =>
    by_cases hcc : (LAY q.toNat).1 = 20 ∧ 0 ≤ x ∧ x < ((LAY q.toNat).2 : Int)
    · rw [if_pos hcc] at he
      simp only [Option.some.injEq, Prod.mk.injEq] at he; obtain ⟨rfl, rfl, rfl, rfl, rfl⟩ := he
      obtain ⟨hc, hi⟩ := hcc
      have hw := wvs_c.mp hws
      have hw2 := wvs_c.mp hw.2
      have hw3 := wvs_c.mp hw2.2
      have hxx := hw2.1.1 rfl
      have hqn := hw3.1.2.2 rfl
      have hql : q.toNat < h.2.2.1 := by omega
      have hv := hw.1.1 rfl
      have hat : (enW ad ca h)[q.toNat]? = some (ad q.toNat, .inl (ca q.toNat, (LAY q.toNat).2, .inl (fun j => I3 (h.1 q.toNat j)))) := by rw [enW_at hql, enC_arr hc (by decide)]; rfl
      obtain ⟨t0, ht0⟩ := hT q.toNat hql (by rw [hc]; decide)
      rw [hc] at ht0
      have hset : (enW ad ca h).set q.toNat (ad q.toNat, .inl (ca q.toNat, (LAY q.toNat).2, .inl (upd (fun j => I3 (h.1 q.toNat j)) x.toNat (I3 v)))) = enW ad ca (up2 h.1 q.toNat x.toNat v, h.2) := by
        refine enW_set rfl ?_ (fun b hb => ⟨up2_row hb, rfl⟩)
        rw [enC_arr hc (by decide)]
        show Sum.inl (ca q.toNat, (LAY q.toNat).2, Sum.inl (fun j => I3 (up2 h.1 q.toNat x.toNat v q.toNat j))) = _
        congr 4
        funext j
        by_cases hj : j = x.toNat
        · subst hj; rw [up2_same]; unfold upd; rw [if_pos rfl]
        · rw [up2_place hj]; unfold upd; rw [if_neg hj]
      refine va_iast hx hb hK hP hD hS q.toNat t0 hat ht0 ((I3_vp hxx).mpr hi) hd (fun H1 locs1 hP1 hD1 hS1 => ?_)
      rw [I3_cl hxx, hset] at hP1 hD1
      exact K ad ca tys H1 locs1 ⟨fun _ _ => rfl, Nat.le_refl _⟩ ⟨hP1, hD1, hK, hT, hS1, wh_up hwh hql (by rw [hc]; exact hv), hsc⟩ hw3.2 hwl hl
    · rw [if_neg hcc] at he; cases he
  · cases he
theorem sD_86 (hx : p.tables.exec = Jvm.exec) (hb : c.code = cc) (hown : s.vm.findClass own = some m.cls) (ho : oN o = own) (hts : ∀ w ∈ wT, w.before args s = true) (hbase : base ≤ H0.size) (hRl : Rl D base H0 s sc ad ca tys h H locs) (hl : lr sb b0 ad nL ls L) (hws : wvs h.2.2.1 stk) (hwl : wvs h.2.2.1 ls)  (hok : okD o ini cc pc (86, nx, ns, vs) = true) (he : effD LAY al (86, nx, ns, vs) ls stk h gg = some (pc', ls', stk', h', gg')) (K : ∀ (ad' : Nat → Nat) (ca' : Nat → ClassId) (tys' : List (ClassId × FieldType)) (H' : Heap) (locs' : List Loc), ((∀ a, a < h.2.2.1 → ad' a = ad a) ∧ h.2.2.1 ≤ h'.2.2.1) → Rl D base H0 s sc ad' ca' tys' h' H' locs' → wvs h'.2.2.1 stk' → wvs h'.2.2.1 ls' → lr sb b0 ad' nL ls' L → W p l e R s m args below meth c H' locs' gg'.1 gg'.2 Q (F0 m pc' L (stk'.map (tr sb b0 ad')))) : W p l e R s m args below meth c H locs gg.1 gg.2 Q (F0 m pc L (stk.map (tr sb b0 ad))) := by
  obtain ⟨hP, hD, hK, hT, hS, hwh, hsc⟩ := hRl
  obtain ⟨hd, rfl⟩ := of_decide_eq_true (p := decode cc pc = .ok (.lastore, 1) ∧ nx = pc + 1) hok
  replace he : (match (generalizing := false) stk with | (1, v) :: (0, x) :: (2, q) :: r => if (LAY q.toNat).1 = 23 ∧ 0 ≤ x ∧ x < ((LAY q.toNat).2 : Int) then some (pc + 1, ls, r, (up2 h.1 q.toNat x.toNat v, h.2), gg) else none | _ => none) = some (pc', ls', stk', h', gg') := he
  split at he
  · next v x q r =>
    by_cases hcc : (LAY q.toNat).1 = 23 ∧ 0 ≤ x ∧ x < ((LAY q.toNat).2 : Int)
    · rw [if_pos hcc] at he
      simp only [Option.some.injEq, Prod.mk.injEq] at he; obtain ⟨rfl, rfl, rfl, rfl, rfl⟩ := he
      obtain ⟨hc, hi⟩ := hcc
      have hw := wvs_c.mp hws
      have hw2 := wvs_c.mp hw.2
      have hw3 := wvs_c.mp hw2.2
      have hxx := hw2.1.1 rfl
      have hqn := hw3.1.2.2 rfl
      have hql : q.toNat < h.2.2.1 := by omega
      have hv := hw.1.2.1 rfl
      have hat : (enW ad ca h)[q.toNat]? = some (ad q.toNat, .inl (ca q.toNat, (LAY q.toNat).2, .inr (.inl (fun j => I6 (h.1 q.toNat j))))) := by rw [enW_at hql, enC_arr hc (by decide)]; rfl
      obtain ⟨t0, ht0⟩ := hT q.toNat hql (by rw [hc]; decide)
      rw [hc] at ht0
      have hset : (enW ad ca h).set q.toNat (ad q.toNat, .inl (ca q.toNat, (LAY q.toNat).2, .inr (.inl (vp_updL (fun j => I6 (h.1 q.toNat j)) x.toNat (I6 v))))) = enW ad ca (up2 h.1 q.toNat x.toNat v, h.2) := by
        refine enW_set rfl ?_ (fun b hb => ⟨up2_row hb, rfl⟩)
        rw [enC_arr hc (by decide)]
        show Sum.inl (ca q.toNat, (LAY q.toNat).2, Sum.inr (Sum.inl (fun j => I6 (up2 h.1 q.toNat x.toNat v q.toNat j)))) = _
        congr 5
        funext j
        by_cases hj : j = x.toNat
        · subst hj; rw [up2_same]; unfold vp_updL; rw [if_pos rfl]
        · rw [up2_place hj]; unfold vp_updL; rw [if_neg hj]
      refine va_last hx hb hK hP hD hS q.toNat t0 hat ht0 ((I3_vp hxx).mpr hi) hd (fun H1 locs1 hP1 hD1 hS1 => ?_)
      rw [I3_cl hxx, hset] at hP1 hD1
      exact K ad ca tys H1 locs1 ⟨fun _ _ => rfl, Nat.le_refl _⟩ ⟨hP1, hD1, hK, hT, hS1, wh_up hwh hql (by rw [hc]; exact hv), hsc⟩ hw3.2 hwl hl
    · rw [if_neg hcc] at he; cases he
  · cases he
theorem sD_85 (hx : p.tables.exec = Jvm.exec) (hb : c.code = cc) (hown : s.vm.findClass own = some m.cls) (ho : oN o = own) (hts : ∀ w ∈ wT, w.before args s = true) (hbase : base ≤ H0.size) (hRl : Rl D base H0 s sc ad ca tys h H locs) (hl : lr sb b0 ad nL ls L) (hws : wvs h.2.2.1 stk) (hwl : wvs h.2.2.1 ls)  (hok : okD o ini cc pc (85, nx, ns, vs) = true) (he : effD LAY al (85, nx, ns, vs) ls stk h gg = some (pc', ls', stk', h', gg')) (K : ∀ (ad' : Nat → Nat) (ca' : Nat → ClassId) (tys' : List (ClassId × FieldType)) (H' : Heap) (locs' : List Loc), ((∀ a, a < h.2.2.1 → ad' a = ad a) ∧ h.2.2.1 ≤ h'.2.2.1) → Rl D base H0 s sc ad' ca' tys' h' H' locs' → wvs h'.2.2.1 stk' → wvs h'.2.2.1 ls' → lr sb b0 ad' nL ls' L → W p l e R s m args below meth c H' locs' gg'.1 gg'.2 Q (F0 m pc' L (stk'.map (tr sb b0 ad')))) : W p l e R s m args below meth c H locs gg.1 gg.2 Q (F0 m pc L (stk.map (tr sb b0 ad))) := by
  obtain ⟨hP, hD, hK, hT, hS, hwh, hsc⟩ := hRl
  obtain ⟨hd, rfl⟩ := of_decide_eq_true (p := decode cc pc = .ok (.bastore, 1) ∧ nx = pc + 1) hok
  replace he : (match (generalizing := false) stk with | (0, v) :: (0, x) :: (2, q) :: r => if 0 ≤ x ∧ x < ((LAY q.toNat).2 : Int) then (if (LAY q.toNat).1 = 21 then some (pc + 1, ls, r, (up2 h.1 q.toNat x.toNat (Int.bmod v 256), h.2), gg) else if (LAY q.toNat).1 = 22 ∧ (v = 0 ∨ v = 1) then some (pc + 1, ls, r, (up2 h.1 q.toNat x.toNat v, h.2), gg) else none) else none | _ => none) = some (pc', ls', stk', h', gg') := he
  split at he
  · next v x q r =>
    by_cases hi : 0 ≤ x ∧ x < ((LAY q.toNat).2 : Int)
    · rw [if_pos hi] at he
      by_cases hc : (LAY q.toNat).1 = 21
      · rw [if_pos hc] at he
        simp only [Option.some.injEq, Prod.mk.injEq] at he; obtain ⟨rfl, rfl, rfl, rfl, rfl⟩ := he
        have hw := wvs_c.mp hws
        have hw2 := wvs_c.mp hw.2
        have hw3 := wvs_c.mp hw2.2
        have hxx := hw2.1.1 rfl
        have hqn := hw3.1.2.2 rfl
        have hql : q.toNat < h.2.2.1 := by omega
        have hv := hw.1.1 rfl
        have hat : (enW ad ca h)[q.toNat]? = some (ad q.toNat, .inl (ca q.toNat, (LAY q.toNat).2, .inl (fun j => I3 (h.1 q.toNat j)))) := by rw [enW_at hql, enC_arr hc (by decide)]; rfl
        obtain ⟨t0, ht0⟩ := hT q.toNat hql (by rw [hc]; decide)
        rw [hc] at ht0
        have hset : (enW ad ca h).set q.toNat (ad q.toNat, .inl (ca q.toNat, (LAY q.toNat).2, .inl (upd (fun j => I3 (h.1 q.toNat j)) x.toNat (vp_nar .byte (I3 v))))) = enW ad ca (up2 h.1 q.toNat x.toNat (Int.bmod v 256), h.2) := by
          refine enW_set rfl ?_ (fun b hb => ⟨up2_row hb, rfl⟩)
          rw [enC_arr hc (by decide)]
          show Sum.inl (ca q.toNat, (LAY q.toNat).2, Sum.inl (fun j => I3 (up2 h.1 q.toNat x.toNat (Int.bmod v 256) q.toNat j))) = _
          congr 4
          funext j
          by_cases hj : j = x.toNat
          · subst hj; rw [up2_same]; unfold upd; rw [if_pos rfl, vp_nar_byte, I3_i2b hv]
          · rw [up2_place hj]; unfold upd; rw [if_neg hj]
        refine va_bast hx hb hK hP hD hS q.toNat t0 hat ht0 ((I3_vp hxx).mpr hi) hd (fun H1 locs1 hP1 hD1 hS1 => ?_)
        rw [I3_cl hxx, hset] at hP1 hD1
        exact K ad ca tys H1 locs1 ⟨fun _ _ => rfl, Nat.le_refl _⟩ ⟨hP1, hD1, hK, hT, hS1, wh_up hwh hql (by rw [hc]; exact (by show -128 ≤ _ ∧ _ < 128; have h1 := Int.le_bmod (x := v) (m := 256) (by omega); have h2 := Int.bmod_lt (x := v) (m := 256) (by omega); omega)), hsc⟩ hw3.2 hwl hl
      · rw [if_neg hc] at he
        by_cases hcc : (LAY q.toNat).1 = 22 ∧ (v = 0 ∨ v = 1)
        · rw [if_pos hcc] at he
          simp only [Option.some.injEq, Prod.mk.injEq] at he; obtain ⟨rfl, rfl, rfl, rfl, rfl⟩ := he
          obtain ⟨hc, hv01⟩ := hcc
          have hw := wvs_c.mp hws
          have hw2 := wvs_c.mp hw.2
          have hw3 := wvs_c.mp hw2.2
          have hxx := hw2.1.1 rfl
          have hqn := hw3.1.2.2 rfl
          have hql : q.toNat < h.2.2.1 := by omega
          have hv := hw.1.1 rfl
          have hnar : vp_nar .boolean (I3 v) = I3 v := by rcases hv01 with rfl | rfl <;> decide
          have hat : (enW ad ca h)[q.toNat]? = some (ad q.toNat, .inl (ca q.toNat, (LAY q.toNat).2, .inl (fun j => I3 (h.1 q.toNat j)))) := by rw [enW_at hql, enC_arr hc (by decide)]; rfl
          obtain ⟨t0, ht0⟩ := hT q.toNat hql (by rw [hc]; decide)
          rw [hc] at ht0
          have hset : (enW ad ca h).set q.toNat (ad q.toNat, .inl (ca q.toNat, (LAY q.toNat).2, .inl (upd (fun j => I3 (h.1 q.toNat j)) x.toNat (vp_nar .boolean (I3 v))))) = enW ad ca (up2 h.1 q.toNat x.toNat v, h.2) := by
            refine enW_set rfl ?_ (fun b hb => ⟨up2_row hb, rfl⟩)
            rw [enC_arr hc (by decide)]
            show Sum.inl (ca q.toNat, (LAY q.toNat).2, Sum.inl (fun j => I3 (up2 h.1 q.toNat x.toNat v q.toNat j))) = _
            congr 4
            funext j
            by_cases hj : j = x.toNat
            · subst hj; rw [up2_same]; unfold upd; rw [if_pos rfl, hnar]
            · rw [up2_place hj]; unfold upd; rw [if_neg hj]
          refine va_zast hx hb hK hP hD hS q.toNat t0 hat ht0 ((I3_vp hxx).mpr hi) hd (fun H1 locs1 hP1 hD1 hS1 => ?_)
          rw [I3_cl hxx, hset] at hP1 hD1
          exact K ad ca tys H1 locs1 ⟨fun _ _ => rfl, Nat.le_refl _⟩ ⟨hP1, hD1, hK, hT, hS1, wh_up hwh hql (by rw [hc]; exact hv01), hsc⟩ hw3.2 hwl hl
        · rw [if_neg hcc] at he; cases he
    · rw [if_neg hi] at he; cases he
  · cases he
theorem sD_87 (hx : p.tables.exec = Jvm.exec) (hb : c.code = cc) (hown : s.vm.findClass own = some m.cls) (ho : oN o = own) (hts : ∀ w ∈ wT, w.before args s = true) (hbase : base ≤ H0.size) (hRl : Rl D base H0 s sc ad ca tys h H locs) (hl : lr sb b0 ad nL ls L) (hws : wvs h.2.2.1 stk) (hwl : wvs h.2.2.1 ls)  (hok : okD o ini cc pc (87, nx, ns, vs) = true) (he : effD LAY al (87, nx, ns, vs) ls stk h gg = some (pc', ls', stk', h', gg')) (K : ∀ (ad' : Nat → Nat) (ca' : Nat → ClassId) (tys' : List (ClassId × FieldType)) (H' : Heap) (locs' : List Loc), ((∀ a, a < h.2.2.1 → ad' a = ad a) ∧ h.2.2.1 ≤ h'.2.2.1) → Rl D base H0 s sc ad' ca' tys' h' H' locs' → wvs h'.2.2.1 stk' → wvs h'.2.2.1 ls' → lr sb b0 ad' nL ls' L → W p l e R s m args below meth c H' locs' gg'.1 gg'.2 Q (F0 m pc' L (stk'.map (tr sb b0 ad')))) : W p l e R s m args below meth c H locs gg.1 gg.2 Q (F0 m pc L (stk.map (tr sb b0 ad))) := by
  obtain ⟨hP, hD, hK, hT, hS, hwh, hsc⟩ := hRl
  obtain ⟨hd, rfl, hb3⟩ := of_decide_eq_true (p := decode cc pc = .ok (.aastore, 1) ∧ nx = pc + 1 ∧ ns.tail.headD 0 = 3) hok
  replace he : (match (generalizing := false) stk with | (2, v) :: (0, x) :: (2, q) :: r => if (LAY q.toNat).1 = 24 ∧ (LAY v.toNat).1 = ns.tail.headD 0 ∧ 0 ≤ x ∧ x < ((LAY q.toNat).2 : Int) then some (pc + 1, ls, r, (h.1, up2 h.2.1 q.toNat x.toNat (v + 1), h.2.2), gg) else none | _ => none) = some (pc', ls', stk', h', gg') := he
  rw [hb3] at he
  split at he
  · next v x q r =>
    by_cases hcc : (LAY q.toNat).1 = 24 ∧ (LAY v.toNat).1 = 3 ∧ 0 ≤ x ∧ x < ((LAY q.toNat).2 : Int)
    · rw [if_pos hcc] at he
      simp only [Option.some.injEq, Prod.mk.injEq] at he; obtain ⟨rfl, rfl, rfl, rfl, rfl⟩ := he
      obtain ⟨hc, hv3, hi⟩ := hcc
      have hw := wvs_c.mp hws
      have hw2 := wvs_c.mp hw.2
      have hw3 := wvs_c.mp hw2.2
      have hxx := hw2.1.1 rfl
      have hqn := hw3.1.2.2 rfl
      have hql : q.toNat < h.2.2.1 := by omega
      have hvn := hw.1.2.2 rfl
      have hvl : v.toNat < h.2.2.1 := by omega
      have hat : (enW ad ca h)[q.toNat]? = some (ad q.toNat, .inl (ca q.toNat, (LAY q.toNat).2, .inr (.inr (.inr (.inr (enQ ad h q.toNat)))))) := by rw [enW_at hql, enC_arr hc (by decide)]; rfl
      obtain ⟨t0, ht0⟩ := hT q.toNat hql (by rw [hc]; decide)
      rw [hc] at ht0
      have hvat : (enW ad ca h)[v.toNat]? = some (ad v.toNat, .inr (3, enO ad 3 h v.toNat)) := by rw [enW_at hvl, enC_obj hv3 (by decide)]
      have hset : (enW ad ca h).set q.toNat (ad q.toNat, .inl (ca q.toNat, (LAY q.toNat).2, .inr (.inr (.inr (.inr (va_up (enQ ad h q.toNat) x.toNat (some (ad v.toNat)))))))) = enW ad ca (h.1, up2 h.2.1 q.toNat x.toNat (v + 1), h.2.2) := by
        refine enW_set rfl ?_ (fun b hb => ⟨rfl, up2_row hb⟩)
        rw [enC_arr hc (by decide)]
        show Sum.inl (ca q.toNat, (LAY q.toNat).2, Sum.inr (Sum.inr (Sum.inr (Sum.inr (enQ ad (h.1, up2 h.2.1 q.toNat x.toNat (v + 1), h.2.2) q.toNat))))) = _
        congr 7
        funext j
        show (if up2 h.2.1 q.toNat x.toNat (v + 1) q.toNat j = 0 then none else some (ad (up2 h.2.1 q.toNat x.toNat (v + 1) q.toNat j - 1).toNat)) = if j = x.toNat then _ else _
        by_cases hj : j = x.toNat
        · subst hj; rw [up2_same, if_pos rfl, if_neg (by omega), show v + 1 - 1 = v by omega]
        · rw [up2_place hj, if_neg hj]; rfl
      refine va_astq (r := (oN 3, cF 3, cN 3)) hx hb hK hP hD hS q.toNat t0 v.toNat 3 hat ht0 hvat (classes_at (by decide)) ((I3_vp hxx).mpr hi) hd (fun H1 locs1 hP1 hD1 hS1 => ?_)
      rw [I3_cl hxx, hset] at hP1 hD1
      exact K ad ca tys H1 locs1 ⟨fun _ _ => rfl, Nat.le_refl _⟩ ⟨hP1, hD1, hK, hT, hS1, wh_upR hwh hql (by omega) (by omega), hsc⟩ hw3.2 hwl hl
    · rw [if_neg hcc] at he; cases he
  · cases he
theorem sD_88 (hx : p.tables.exec = Jvm.exec) (hb : c.code = cc) (hown : s.vm.findClass own = some m.cls) (ho : oN o = own) (hts : ∀ w ∈ wT, w.before args s = true) (hbase : base ≤ H0.size) (hRl : Rl D base H0 s sc ad ca tys h H locs) (hl : lr sb b0 ad nL ls L) (hws : wvs h.2.2.1 stk) (hwl : wvs h.2.2.1 ls) {xs : Nat → Int32} (hX : va_X b0 sc.1 xs s H0) (hL : sc.1 ≤ 4096) (hb0 : b0 < base) (hok : okD o ini cc pc (88, nx, ns, vs) = true) (he : effD LAY al (88, nx, ns, vs) ls stk h gg = some (pc', ls', stk', h', gg')) (K : ∀ (ad' : Nat → Nat) (ca' : Nat → ClassId) (tys' : List (ClassId × FieldType)) (H' : Heap) (locs' : List Loc), ((∀ a, a < h.2.2.1 → ad' a = ad a) ∧ h.2.2.1 ≤ h'.2.2.1) → Rl D base H0 s sc ad' ca' tys' h' H' locs' → wvs h'.2.2.1 stk' → wvs h'.2.2.1 ls' → lr sb b0 ad' nL ls' L → W p l e R s m args below meth c H' locs' gg'.1 gg'.2 Q (F0 m pc' L (stk'.map (tr sb b0 ad')))) : W p l e R s m args below meth c H locs gg.1 gg.2 Q (F0 m pc L (stk.map (tr sb b0 ad))) := by
  obtain ⟨hP, hD, hK, hT, hS, hwh, hsc⟩ := hRl
  obtain ⟨hd, rfl⟩ := of_decide_eq_true (p := decode cc pc = .ok (.arraylength, 1) ∧ nx = pc + 1) hok
  replace he : (match (generalizing := false) stk with | (2, q) :: r => if 20 ≤ (LAY q.toNat).1 ∧ (LAY q.toNat).1 ≤ 24 then some (pc + 1, ls, (0, ((LAY q.toNat).2 : Int)) :: r, h, gg) else none | (4, _) :: r => some (pc + 1, ls, (0, (h.2.2.2.1 : Int)) :: r, h, gg) | _ => none) = some (pc', ls', stk', h', gg') := he
  split at he
  · next q r =>
    by_cases hcc : 20 ≤ (LAY q.toNat).1 ∧ (LAY q.toNat).1 ≤ 24
    · rw [if_pos hcc] at he
      simp only [Option.some.injEq, Prod.mk.injEq] at he; obtain ⟨rfl, rfl, rfl, rfl, rfl⟩ := he
      have hw := wvs_c.mp hws
      have hqn := hw.1.2.2 rfl
      have hql : q.toNat < h.2.2.1 := by omega
      have hat : (enW ad ca h)[q.toNat]? = some (ad q.toNat, .inl (ca q.toNat, enA ad (LAY q.toNat).1 (LAY q.toNat).2 h q.toNat)) := by rw [enW_at hql, enC_arr rfl (by omega)]
      obtain ⟨t0, ht0⟩ := hT q.toNat hql hcc.1
      have hlen := LAY_len q.toNat
      exact va_alen hx hb hK hP q.toNat t0 hat ht0 (nI_I3 _) hd (K ad ca tys H locs ⟨fun _ _ => rfl, Nat.le_refl _⟩ ⟨hP, hD, hK, hT, hS, hwh, hsc⟩ (wvs_c.mpr ⟨wv0 (by unfold in32; omega), hw.2⟩) hwl hl)
    · rw [if_neg hcc] at he; cases he
  · next y r =>
    simp only [Option.some.injEq, Prod.mk.injEq] at he; obtain ⟨rfl, rfl, rfl, rfl, rfl⟩ := he
    have hw := wvs_c.mp hws
    have h1 : h.2.2.2.1 = sc.1 := congrArg Prod.fst hsc
    have K' := K ad ca tys H locs ⟨fun _ _ => rfl, Nat.le_refl _⟩ ⟨hP, hD, hK, hT, hS, hwh, hsc⟩ (wvs_c.mpr ⟨wv0 (by unfold in32; omega), hw.2⟩) hwl hl
    refine va_slen hx hb hX (Nat.lt_of_lt_of_le hb0 hbase) (Nat.not_le.mpr hb0) hS hd ?_
    have h2 : Int32.ofNat sc.1 = I3 (h.2.2.2.1 : Int) := by rw [h1]; exact nI_I3 _
    rw [h2]
    exact K'
  · cases he
theorem sD_76 (hx : p.tables.exec = Jvm.exec) (hb : c.code = cc) (hown : s.vm.findClass own = some m.cls) (ho : oN o = own) (hts : ∀ w ∈ wT, w.before args s = true) (hbase : base ≤ H0.size) (hRl : Rl D base H0 s sc ad ca tys h H locs) (hl : lr sb b0 ad nL ls L) (hws : wvs h.2.2.1 stk) (hwl : wvs h.2.2.1 ls) (hgR : al.1 ≤ R.cells ∧ al.2 ≤ R.slots) (hok : okD o ini cc pc (76, nx, ns, vs) = true) (he : effD LAY al (76, nx, ns, vs) ls stk h gg = some (pc', ls', stk', h', gg')) (K : ∀ (ad' : Nat → Nat) (ca' : Nat → ClassId) (tys' : List (ClassId × FieldType)) (H' : Heap) (locs' : List Loc), ((∀ a, a < h.2.2.1 → ad' a = ad a) ∧ h.2.2.1 ≤ h'.2.2.1) → Rl D base H0 s sc ad' ca' tys' h' H' locs' → wvs h'.2.2.1 stk' → wvs h'.2.2.1 ls' → lr sb b0 ad' nL ls' L → W p l e R s m args below meth c H' locs' gg'.1 gg'.2 Q (F0 m pc' L (stk'.map (tr sb b0 ad')))) : W p l e R s m args below meth c H locs gg.1 gg.2 Q (F0 m pc L (stk.map (tr sb b0 ad))) := by
  obtain ⟨hP, hD, hK, hT, hS, hwh, hsc⟩ := hRl
  obtain ⟨rfl, hk⟩ := of_decide_eq_true (p := nx = pc + 2 ∧ ((ns.headD 0 = 20 ∧ decode cc pc = .ok (.newarray .int, 2)) ∨ (ns.headD 0 = 21 ∧ decode cc pc = .ok (.newarray .byte, 2)) ∨ (ns.headD 0 = 22 ∧ decode cc pc = .ok (.newarray .boolean, 2)) ∨ (ns.headD 0 = 23 ∧ decode cc pc = .ok (.newarray .long, 2)))) hok
  replace he : (match (generalizing := false) stk with | (0, x) :: r => if 0 ≤ x ∧ LAY h.2.2.1 = (ns.headD 0, x.toNat) ∧ gg.1 + 1 ≤ al.1 ∧ gg.2 + x.toNat ≤ al.2 then some (pc + 2, ls, (2, (h.2.2.1 : Int)) :: r, (h.1, h.2.1, h.2.2.1 + 1, h.2.2.2), (gg.1 + 1, gg.2 + x.toNat)) else none | _ => none) = some (pc', ls', stk', h', gg') := he
  split at he
  · next x r =>
    by_cases hcc : 0 ≤ x ∧ LAY h.2.2.1 = (ns.headD 0, x.toNat) ∧ gg.1 + 1 ≤ al.1 ∧ gg.2 + x.toNat ≤ al.2
    · rw [if_pos hcc] at he
      simp only [Option.some.injEq, Prod.mk.injEq] at he; obtain ⟨rfl, rfl, rfl, rfl, rfl⟩ := he
      obtain ⟨hx0, hlay, hg1, hg2⟩ := hcc
      have hg1 := Nat.le_trans hg1 hgR.1
      have hg2 := Nat.le_trans hg2 hgR.2
      have hw := wvs_c.mp hws
      have hxx := hw.1.1 rfl
      generalize ns.headD 0 = tg at *
      rcases hk with ⟨rfl, hd⟩ | ⟨rfl, hd⟩ | ⟨rfl, hd⟩ | ⟨rfl, hd⟩
      · refine va_newa (atype := .int) (ty := .int) (a0 := (x.toNat, .inl (fun _ => 0))) hx hb (hts _ AC_int) rfl hK hP hD hS (fun q hq => Nat.le_trans hbase hq) (fun cA => ?_) (fun q => absurd ((I3_lt hxx in32_0).mp q) (by omega)) (I3_cl hxx) ?_ hg1 hg2 hd (fun q cA H1 hK1 hP1 hD1 hS1 => ?_)
        · rfl
        · have : x.toNat ≤ 5000 := by rw [← show (LAY h.2.2.1).2 = x.toNat from congrArg Prod.snd hlay]; exact LAY_len _
          show x.toNat * 4 ≤ 536870912
          omega
        · have hE : enC (fun k => if k = h.2.2.1 then q else ad k) (fun k => if k = h.2.2.1 then cA else ca k) h h.2.2.1 = .inl (cA, x.toNat, .inl (fun _ => 0)) := by
            rw [enC_arr (t := 20) (congrArg Prod.fst hlay) (by decide), if_pos rfl]
            have hlen : (LAY h.2.2.1).2 = x.toNat := congrArg Prod.snd hlay
            rw [hlen]
            show Sum.inl (cA, x.toNat, Sum.inl (fun j => I3 (h.1 h.2.2.1 j))) = _
            congr 4
            funext j
            rw [(hwh.2.2 h.2.2.1 j (Nat.le_refl _)).1]
            rfl
          rw [enW_grow (ad' := fun k => if k = h.2.2.1 then q else ad k) (ca' := fun k => if k = h.2.2.1 then cA else ca k) hwh (fun a ha => if_neg (by omega)) (fun a ha => if_neg (by omega)) (if_pos rfl) hE] at hP1 hD1
          have hag : ∀ a, a < h.2.2.1 → (fun k => if k = h.2.2.1 then q else ad k) a = ad a := fun a ha => if_neg (by omega)
          have K' := K _ _ _ H1 locs ⟨hag, Nat.le_succ _⟩ ⟨hP1, hD1, hK1, fun a ha h20 => ?_, hS1, wh_new hwh, hsc⟩ (wvs_c.mpr ⟨wv2 (by omega) (by show ((h.2.2.1 : Nat) : Int) < ((h.2.2.1 + 1 : Nat) : Int); omega), wvs_up hw.2 (by show h.2.2.1 ≤ h.2.2.1 + 1; omega)⟩) (wvs_up hwl (by show h.2.2.1 ≤ h.2.2.1 + 1; omega)) (lr_ad hag hwl hl)
          · rw [List.map_cons, tr2, trs_ad hag hw.2] at K'
            rw [show (if ((h.2.2.1 : Nat) : Int).toNat = h.2.2.1 then q else ad ((h.2.2.1 : Nat) : Int).toNat) = q from if_pos rfl] at K'
            exact K'
          · have ha : a < h.2.2.1 + 1 := ha
            by_cases hz : a = h.2.2.1
            · subst hz
              refine ⟨tys.length, ?_⟩
              rw [show (if h.2.2.1 = h.2.2.1 then cA else ca h.2.2.1) = cA from if_pos rfl, congrArg Prod.fst hlay]
              simp [ety]
            · obtain ⟨t0, ht0⟩ := hT a (by omega) h20
              refine ⟨t0, ?_⟩
              rw [show (if a = h.2.2.1 then cA else ca a) = ca a from if_neg hz, List.getElem?_append_left (List.getElem?_eq_some_iff.mp ht0).1]
              exact ht0
      · refine va_newa (atype := .byte) (ty := .byte) (a0 := (x.toNat, .inl (fun _ => 0))) hx hb (hts _ AC_byte) rfl hK hP hD hS (fun q hq => Nat.le_trans hbase hq) (fun cA => ?_) (fun q => absurd ((I3_lt hxx in32_0).mp q) (by omega)) (I3_cl hxx) ?_ hg1 hg2 hd (fun q cA H1 hK1 hP1 hD1 hS1 => ?_)
        · rfl
        · have : x.toNat ≤ 5000 := by rw [← show (LAY h.2.2.1).2 = x.toNat from congrArg Prod.snd hlay]; exact LAY_len _
          show x.toNat * 1 ≤ 536870912
          omega
        · have hE : enC (fun k => if k = h.2.2.1 then q else ad k) (fun k => if k = h.2.2.1 then cA else ca k) h h.2.2.1 = .inl (cA, x.toNat, .inl (fun _ => 0)) := by
            rw [enC_arr (t := 21) (congrArg Prod.fst hlay) (by decide), if_pos rfl]
            have hlen : (LAY h.2.2.1).2 = x.toNat := congrArg Prod.snd hlay
            rw [hlen]
            show Sum.inl (cA, x.toNat, Sum.inl (fun j => I3 (h.1 h.2.2.1 j))) = _
            congr 4
            funext j
            rw [(hwh.2.2 h.2.2.1 j (Nat.le_refl _)).1]
            rfl
          rw [enW_grow (ad' := fun k => if k = h.2.2.1 then q else ad k) (ca' := fun k => if k = h.2.2.1 then cA else ca k) hwh (fun a ha => if_neg (by omega)) (fun a ha => if_neg (by omega)) (if_pos rfl) hE] at hP1 hD1
          have hag : ∀ a, a < h.2.2.1 → (fun k => if k = h.2.2.1 then q else ad k) a = ad a := fun a ha => if_neg (by omega)
          have K' := K _ _ _ H1 locs ⟨hag, Nat.le_succ _⟩ ⟨hP1, hD1, hK1, fun a ha h20 => ?_, hS1, wh_new hwh, hsc⟩ (wvs_c.mpr ⟨wv2 (by omega) (by show ((h.2.2.1 : Nat) : Int) < ((h.2.2.1 + 1 : Nat) : Int); omega), wvs_up hw.2 (by show h.2.2.1 ≤ h.2.2.1 + 1; omega)⟩) (wvs_up hwl (by show h.2.2.1 ≤ h.2.2.1 + 1; omega)) (lr_ad hag hwl hl)
          · rw [List.map_cons, tr2, trs_ad hag hw.2] at K'
            rw [show (if ((h.2.2.1 : Nat) : Int).toNat = h.2.2.1 then q else ad ((h.2.2.1 : Nat) : Int).toNat) = q from if_pos rfl] at K'
            exact K'
          · have ha : a < h.2.2.1 + 1 := ha
            by_cases hz : a = h.2.2.1
            · subst hz
              refine ⟨tys.length, ?_⟩
              rw [show (if h.2.2.1 = h.2.2.1 then cA else ca h.2.2.1) = cA from if_pos rfl, congrArg Prod.fst hlay]
              simp [ety]
            · obtain ⟨t0, ht0⟩ := hT a (by omega) h20
              refine ⟨t0, ?_⟩
              rw [show (if a = h.2.2.1 then cA else ca a) = ca a from if_neg hz, List.getElem?_append_left (List.getElem?_eq_some_iff.mp ht0).1]
              exact ht0
      · refine va_newa (atype := .boolean) (ty := .boolean) (a0 := (x.toNat, .inl (fun _ => 0))) hx hb (hts _ AC_boolean) rfl hK hP hD hS (fun q hq => Nat.le_trans hbase hq) (fun cA => ?_) (fun q => absurd ((I3_lt hxx in32_0).mp q) (by omega)) (I3_cl hxx) ?_ hg1 hg2 hd (fun q cA H1 hK1 hP1 hD1 hS1 => ?_)
        · rfl
        · have : x.toNat ≤ 5000 := by rw [← show (LAY h.2.2.1).2 = x.toNat from congrArg Prod.snd hlay]; exact LAY_len _
          show x.toNat * 1 ≤ 536870912
          omega
        · have hE : enC (fun k => if k = h.2.2.1 then q else ad k) (fun k => if k = h.2.2.1 then cA else ca k) h h.2.2.1 = .inl (cA, x.toNat, .inl (fun _ => 0)) := by
            rw [enC_arr (t := 22) (congrArg Prod.fst hlay) (by decide), if_pos rfl]
            have hlen : (LAY h.2.2.1).2 = x.toNat := congrArg Prod.snd hlay
            rw [hlen]
            show Sum.inl (cA, x.toNat, Sum.inl (fun j => I3 (h.1 h.2.2.1 j))) = _
            congr 4
            funext j
            rw [(hwh.2.2 h.2.2.1 j (Nat.le_refl _)).1]
            rfl
          rw [enW_grow (ad' := fun k => if k = h.2.2.1 then q else ad k) (ca' := fun k => if k = h.2.2.1 then cA else ca k) hwh (fun a ha => if_neg (by omega)) (fun a ha => if_neg (by omega)) (if_pos rfl) hE] at hP1 hD1
          have hag : ∀ a, a < h.2.2.1 → (fun k => if k = h.2.2.1 then q else ad k) a = ad a := fun a ha => if_neg (by omega)
          have K' := K _ _ _ H1 locs ⟨hag, Nat.le_succ _⟩ ⟨hP1, hD1, hK1, fun a ha h20 => ?_, hS1, wh_new hwh, hsc⟩ (wvs_c.mpr ⟨wv2 (by omega) (by show ((h.2.2.1 : Nat) : Int) < ((h.2.2.1 + 1 : Nat) : Int); omega), wvs_up hw.2 (by show h.2.2.1 ≤ h.2.2.1 + 1; omega)⟩) (wvs_up hwl (by show h.2.2.1 ≤ h.2.2.1 + 1; omega)) (lr_ad hag hwl hl)
          · rw [List.map_cons, tr2, trs_ad hag hw.2] at K'
            rw [show (if ((h.2.2.1 : Nat) : Int).toNat = h.2.2.1 then q else ad ((h.2.2.1 : Nat) : Int).toNat) = q from if_pos rfl] at K'
            exact K'
          · have ha : a < h.2.2.1 + 1 := ha
            by_cases hz : a = h.2.2.1
            · subst hz
              refine ⟨tys.length, ?_⟩
              rw [show (if h.2.2.1 = h.2.2.1 then cA else ca h.2.2.1) = cA from if_pos rfl, congrArg Prod.fst hlay]
              simp [ety]
            · obtain ⟨t0, ht0⟩ := hT a (by omega) h20
              refine ⟨t0, ?_⟩
              rw [show (if a = h.2.2.1 then cA else ca a) = ca a from if_neg hz, List.getElem?_append_left (List.getElem?_eq_some_iff.mp ht0).1]
              exact ht0
      · refine va_newa (atype := .long) (ty := .long) (a0 := (x.toNat, .inr (.inl (fun _ => 0)))) hx hb (hts _ AC_long) rfl hK hP hD hS (fun q hq => Nat.le_trans hbase hq) (fun cA => ?_) (fun q => absurd ((I3_lt hxx in32_0).mp q) (by omega)) (I3_cl hxx) ?_ hg1 hg2 hd (fun q cA H1 hK1 hP1 hD1 hS1 => ?_)
        · rfl
        · have : x.toNat ≤ 5000 := by rw [← show (LAY h.2.2.1).2 = x.toNat from congrArg Prod.snd hlay]; exact LAY_len _
          show x.toNat * 8 ≤ 536870912
          omega
        · have hE : enC (fun k => if k = h.2.2.1 then q else ad k) (fun k => if k = h.2.2.1 then cA else ca k) h h.2.2.1 = .inl (cA, x.toNat, .inr (.inl (fun _ => 0))) := by
            rw [enC_arr (t := 23) (congrArg Prod.fst hlay) (by decide), if_pos rfl]
            have hlen : (LAY h.2.2.1).2 = x.toNat := congrArg Prod.snd hlay
            rw [hlen]
            show Sum.inl (cA, x.toNat, Sum.inr (Sum.inl (fun j => I6 (h.1 h.2.2.1 j)))) = _
            congr 5
            funext j
            rw [(hwh.2.2 h.2.2.1 j (Nat.le_refl _)).1]
            rfl
          rw [enW_grow (ad' := fun k => if k = h.2.2.1 then q else ad k) (ca' := fun k => if k = h.2.2.1 then cA else ca k) hwh (fun a ha => if_neg (by omega)) (fun a ha => if_neg (by omega)) (if_pos rfl) hE] at hP1 hD1
          have hag : ∀ a, a < h.2.2.1 → (fun k => if k = h.2.2.1 then q else ad k) a = ad a := fun a ha => if_neg (by omega)
          have K' := K _ _ _ H1 locs ⟨hag, Nat.le_succ _⟩ ⟨hP1, hD1, hK1, fun a ha h20 => ?_, hS1, wh_new hwh, hsc⟩ (wvs_c.mpr ⟨wv2 (by omega) (by show ((h.2.2.1 : Nat) : Int) < ((h.2.2.1 + 1 : Nat) : Int); omega), wvs_up hw.2 (by show h.2.2.1 ≤ h.2.2.1 + 1; omega)⟩) (wvs_up hwl (by show h.2.2.1 ≤ h.2.2.1 + 1; omega)) (lr_ad hag hwl hl)
          · rw [List.map_cons, tr2, trs_ad hag hw.2] at K'
            rw [show (if ((h.2.2.1 : Nat) : Int).toNat = h.2.2.1 then q else ad ((h.2.2.1 : Nat) : Int).toNat) = q from if_pos rfl] at K'
            exact K'
          · have ha : a < h.2.2.1 + 1 := ha
            by_cases hz : a = h.2.2.1
            · subst hz
              refine ⟨tys.length, ?_⟩
              rw [show (if h.2.2.1 = h.2.2.1 then cA else ca h.2.2.1) = cA from if_pos rfl, congrArg Prod.fst hlay]
              simp [ety]
            · obtain ⟨t0, ht0⟩ := hT a (by omega) h20
              refine ⟨t0, ?_⟩
              rw [show (if a = h.2.2.1 then cA else ca a) = ca a from if_neg hz, List.getElem?_append_left (List.getElem?_eq_some_iff.mp ht0).1]
              exact ht0
    · rw [if_neg hcc] at he; cases he
  · cases he
theorem sD_77 (hx : p.tables.exec = Jvm.exec) (hb : c.code = cc) (hown : s.vm.findClass own = some m.cls) (ho : oN o = own) (hts : ∀ w ∈ wT, w.before args s = true) (hbase : base ≤ H0.size) (hRl : Rl D base H0 s sc ad ca tys h H locs) (hl : lr sb b0 ad nL ls L) (hws : wvs h.2.2.1 stk) (hwl : wvs h.2.2.1 ls) (hgR : al.1 ≤ R.cells ∧ al.2 ≤ R.slots) (hAO : va_AO (oN 3) s) (hok : okD o ini cc pc (77, nx, ns, vs) = true) (he : effD LAY al (77, nx, ns, vs) ls stk h gg = some (pc', ls', stk', h', gg')) (K : ∀ (ad' : Nat → Nat) (ca' : Nat → ClassId) (tys' : List (ClassId × FieldType)) (H' : Heap) (locs' : List Loc), ((∀ a, a < h.2.2.1 → ad' a = ad a) ∧ h.2.2.1 ≤ h'.2.2.1) → Rl D base H0 s sc ad' ca' tys' h' H' locs' → wvs h'.2.2.1 stk' → wvs h'.2.2.1 ls' → lr sb b0 ad' nL ls' L → W p l e R s m args below meth c H' locs' gg'.1 gg'.2 Q (F0 m pc' L (stk'.map (tr sb b0 ad')))) : W p l e R s m args below meth c H locs gg.1 gg.2 Q (F0 m pc L (stk.map (tr sb b0 ad))) := by
  obtain ⟨hP, hD, hK, hT, hS, hwh, hsc⟩ := hRl
  obtain ⟨rfl, ha24, hlt, hd, f1, f2⟩ := of_decide_eq_true (p := nx = pc + 3 ∧ ns.headD 0 = 24 ∧ ns.tail.headD 0 < CT.length ∧ decode cc pc = .ok (.anewarray (CT.getD (ns.tail.headD 0) (0, 0, 0, 0)).2.1, 3) ∧ (CT.getD (ns.tail.headD 0) (0, 0, 0, 0)).1 = o ∧ (CT.getD (ns.tail.headD 0) (0, 0, 0, 0)).2.2.1 = 3) hok
  replace he : (match (generalizing := false) stk with | (0, x) :: r => if 0 ≤ x ∧ LAY h.2.2.1 = (ns.headD 0, x.toNat) ∧ gg.1 + 1 ≤ al.1 ∧ gg.2 + x.toNat ≤ al.2 then some (pc + 3, ls, (2, (h.2.2.1 : Int)) :: r, (h.1, h.2.1, h.2.2.1 + 1, h.2.2.2), (gg.1 + 1, gg.2 + x.toNat)) else none | _ => none) = some (pc', ls', stk', h', gg') := he
  rw [ha24] at he
  have hq := CT_ok _ (getD_mem (d := (0, 0, 0, 0)) hlt)
  have hlk := hts _ (wT_t hq.1.1 hq.1.2)
  rw [f1, ho, f2] at hlk
  split at he
  · next x r =>
    by_cases hcc : 0 ≤ x ∧ LAY h.2.2.1 = (24, x.toNat) ∧ gg.1 + 1 ≤ al.1 ∧ gg.2 + x.toNat ≤ al.2
    · rw [if_pos hcc] at he
      simp only [Option.some.injEq, Prod.mk.injEq] at he; obtain ⟨rfl, rfl, rfl, rfl, rfl⟩ := he
      obtain ⟨hx0, hlay, hg1, hg2⟩ := hcc
      have hg1 := Nat.le_trans hg1 hgR.1
      have hg2 := Nat.le_trans hg2 hgR.2
      have hw := wvs_c.mp hws
      have hxx := hw.1.1 rfl
      refine va_newq hx hb hown hlk hAO hK hP hD hS (fun q hq => Nat.le_trans hbase hq) (fun q => absurd ((I3_lt hxx in32_0).mp q) (by omega)) (I3_cl hxx) ?_ hg1 hg2 hd (fun q cA H1 hK1 hP1 hD1 hS1 => ?_)
      · have : x.toNat ≤ 5000 := by rw [← show (LAY h.2.2.1).2 = x.toNat from congrArg Prod.snd hlay]; exact LAY_len _
        omega
      · have hE : enC (fun k => if k = h.2.2.1 then q else ad k) (fun k => if k = h.2.2.1 then cA else ca k) h h.2.2.1 = .inl (cA, x.toNat, .inr (.inr (.inr (.inr (fun _ => none))))) := by
          rw [enC_arr (t := 24) (congrArg Prod.fst hlay) (by decide), if_pos rfl]
          have hlen : (LAY h.2.2.1).2 = x.toNat := congrArg Prod.snd hlay
          rw [hlen]
          show Sum.inl (cA, x.toNat, Sum.inr (Sum.inr (Sum.inr (Sum.inr (enQ (fun k => if k = h.2.2.1 then q else ad k) h h.2.2.1))))) = _
          congr 7
          funext j
          unfold enQ
          rw [if_pos (hwh.2.2 h.2.2.1 j (Nat.le_refl _)).2]
        rw [enW_grow (ad' := fun k => if k = h.2.2.1 then q else ad k) (ca' := fun k => if k = h.2.2.1 then cA else ca k) hwh (fun a ha => if_neg (by omega)) (fun a ha => if_neg (by omega)) (if_pos rfl) hE] at hP1 hD1
        have hag : ∀ a, a < h.2.2.1 → (fun k => if k = h.2.2.1 then q else ad k) a = ad a := fun a ha => if_neg (by omega)
        have K' := K _ _ _ H1 locs ⟨hag, Nat.le_succ _⟩ ⟨hP1, hD1, hK1, fun a ha h20 => ?_, hS1, wh_new hwh, hsc⟩ (wvs_c.mpr ⟨wv2 (by omega) (by show ((h.2.2.1 : Nat) : Int) < ((h.2.2.1 + 1 : Nat) : Int); omega), wvs_up hw.2 (by show h.2.2.1 ≤ h.2.2.1 + 1; omega)⟩) (wvs_up hwl (by show h.2.2.1 ≤ h.2.2.1 + 1; omega)) (lr_ad hag hwl hl)
        · rw [List.map_cons, tr2, trs_ad hag hw.2] at K'
          rw [show (if ((h.2.2.1 : Nat) : Int).toNat = h.2.2.1 then q else ad ((h.2.2.1 : Nat) : Int).toNat) = q from if_pos rfl] at K'
          exact K'
        · have ha : a < h.2.2.1 + 1 := ha
          by_cases hz : a = h.2.2.1
          · subst hz
            refine ⟨tys.length, ?_⟩
            rw [show (if h.2.2.1 = h.2.2.1 then cA else ca h.2.2.1) = cA from if_pos rfl, congrArg Prod.fst hlay]
            simp [ety]
          · obtain ⟨t0, ht0⟩ := hT a (by omega) h20
            refine ⟨t0, ?_⟩
            rw [show (if a = h.2.2.1 then cA else ca a) = ca a from if_neg hz, List.getElem?_append_left (List.getElem?_eq_some_iff.mp ht0).1]
            exact ht0
    · rw [if_neg hcc] at he; cases he
  · cases he
theorem sD_78 (hx : p.tables.exec = Jvm.exec) (hb : c.code = cc) (hown : s.vm.findClass own = some m.cls) (ho : oN o = own) (hts : ∀ w ∈ wT, w.before args s = true) (hbase : base ≤ H0.size) (hRl : Rl D base H0 s sc ad ca tys h H locs) (hl : lr sb b0 ad nL ls L) (hws : wvs h.2.2.1 stk) (hwl : wvs h.2.2.1 ls) (hgR : al.1 ≤ R.cells ∧ al.2 ≤ R.slots) (hok : okD o ini cc pc (78, nx, ns, vs) = true) (he : effD LAY al (78, nx, ns, vs) ls stk h gg = some (pc', ls', stk', h', gg')) (K : ∀ (ad' : Nat → Nat) (ca' : Nat → ClassId) (tys' : List (ClassId × FieldType)) (H' : Heap) (locs' : List Loc), ((∀ a, a < h.2.2.1 → ad' a = ad a) ∧ h.2.2.1 ≤ h'.2.2.1) → Rl D base H0 s sc ad' ca' tys' h' H' locs' → wvs h'.2.2.1 stk' → wvs h'.2.2.1 ls' → lr sb b0 ad' nL ls' L → W p l e R s m args below meth c H' locs' gg'.1 gg'.2 Q (F0 m pc' L (stk'.map (tr sb b0 ad')))) : W p l e R s m args below meth c H locs gg.1 gg.2 Q (F0 m pc L (stk.map (tr sb b0 ad))) := by
  obtain ⟨hP, hD, hK, hT, hS, hwh, hsc⟩ := hRl
  obtain ⟨rfl, hlt, hd, f1, f2⟩ := of_decide_eq_true (p := nx = pc + 3 ∧ ns.tail.headD 0 < CT.length ∧ decode cc pc = .ok (.new (CT.getD (ns.tail.headD 0) (0, 0, 0, 0)).2.1, 3) ∧ (CT.getD (ns.tail.headD 0) (0, 0, 0, 0)).1 = o ∧ (CT.getD (ns.tail.headD 0) (0, 0, 0, 0)).2.2.1 = ns.headD 0) hok
  replace he : (if (LAY h.2.2.1).1 = ns.headD 0 ∧ gg.1 + 1 ≤ al.1 ∧ gg.2 + (LAY h.2.2.1).2 ≤ al.2 then some (pc + 3, ls, (2, (h.2.2.1 : Int)) :: stk, (h.1, h.2.1, h.2.2.1 + 1, h.2.2.2), (gg.1 + 1, gg.2 + (LAY h.2.2.1).2)) else none) = some (pc', ls', stk', h', gg') := he
  have hq := CT_ok _ (getD_mem (d := (0, 0, 0, 0)) hlt)
  have hlk := hts _ (wT_t hq.1.1 hq.1.2)
  rw [f1, ho, f2] at hlk
  have hci := hq.2
  rw [f2] at hci
  generalize ns.headD 0 = ci at *
  by_cases hcc : (LAY h.2.2.1).1 = ci ∧ gg.1 + 1 ≤ al.1 ∧ gg.2 + (LAY h.2.2.1).2 ≤ al.2
  · rw [if_pos hcc] at he
    simp only [Option.some.injEq, Prod.mk.injEq] at he; obtain ⟨rfl, rfl, rfl, rfl, rfl⟩ := he
    obtain ⟨hlay, hg1, hg2⟩ := hcc
    have hg1 := Nat.le_trans hg1 hgR.1
    have hg2 := Nat.le_trans hg2 hgR.2
    have hlen : (LAY h.2.2.1).2 = cN ci := by rcases LAY_ok h.2.2.1 with z | z
                                              · rw [← hlay]; exact z.2
                                              · omega
    rw [hlen] at hg2 K
    refine va_new (ci := ci) (fs := (List.range (cN ci)).map (fun j => fv ad (FTY ci j) 0 0)) hx hb hts (cW_all hci) (cT ci) (fun k hk => (cY_all hci k hk).1) hown hlk (hts _ (cI_all hci).1) (hts _ (cI_all hci).2) hK hP hD hS (fun q hq => Nat.le_trans hbase hq) (classes_at hci) (fun j hj => ?_) hg1 hg2 hd (fun q H1 hP1 hD1 hS1 => ?_)
    · rw [(cQ hci j hj).2.2.2]
      unfold vp_V
      rw [List.getD_eq_getElem?_getD, List.getElem?_map, List.getElem?_range hj]
      show _ = fv ad (FTY ci j) 0 0
      unfold fv
      split
      · rfl
      · rfl
    · have hE : enC (fun k => if k = h.2.2.1 then q else ad k) (fun k => if k = h.2.2.1 then 0 else ca k) h h.2.2.1 = .inr (ci, (List.range (cN ci)).map (fun j => fv ad (FTY ci j) 0 0)) := by
        rw [enC_obj hlay (by omega)]
        congr 2
        unfold enO
        apply List.map_congr_left
        intro j _
        rw [(hwh.2.2 h.2.2.1 j (Nat.le_refl _)).1, (hwh.2.2 h.2.2.1 j (Nat.le_refl _)).2]
        rfl
      rw [enW_grow (ad' := fun k => if k = h.2.2.1 then q else ad k) (ca' := fun k => if k = h.2.2.1 then 0 else ca k) hwh (fun a ha => if_neg (by omega)) (fun a ha => if_neg (by omega)) (if_pos rfl) hE] at hP1 hD1
      have hag : ∀ a, a < h.2.2.1 → (fun k => if k = h.2.2.1 then q else ad k) a = ad a := fun a ha => if_neg (by omega)
      have K' := K _ _ tys H1 locs ⟨hag, Nat.le_succ _⟩ ⟨hP1, hD1, hK, fun a ha h20 => ?_, hS1, wh_new hwh, hsc⟩ (wvs_c.mpr ⟨wv2 (by omega) (by show ((h.2.2.1 : Nat) : Int) < ((h.2.2.1 + 1 : Nat) : Int); omega), wvs_up hws (by show h.2.2.1 ≤ h.2.2.1 + 1; omega)⟩) (wvs_up hwl (by show h.2.2.1 ≤ h.2.2.1 + 1; omega)) (lr_ad hag hwl hl)
      · rw [List.map_cons, tr2, trs_ad hag hws] at K'
        rw [show (if ((h.2.2.1 : Nat) : Int).toNat = h.2.2.1 then q else ad ((h.2.2.1 : Nat) : Int).toNat) = q from if_pos rfl] at K'
        exact K'
      · have ha : a < h.2.2.1 + 1 := ha
        by_cases hz : a = h.2.2.1
        · subst hz; omega
        · obtain ⟨t0, ht0⟩ := hT a (by omega) h20
          refine ⟨t0, ?_⟩
          rw [show (if a = h.2.2.1 then 0 else ca a) = ca a from if_neg hz]
          exact ht0
  · rw [if_neg hcc] at he; cases he
theorem sD_95 (hx : p.tables.exec = Jvm.exec) (hb : c.code = cc) (hown : s.vm.findClass own = some m.cls) (ho : oN o = own) (hts : ∀ w ∈ wT, w.before args s = true) (hbase : base ≤ H0.size) (hRl : Rl D base H0 s sc ad ca tys h H locs) (hl : lr sb b0 ad nL ls L) (hws : wvs h.2.2.1 stk) (hwl : wvs h.2.2.1 ls) (hml : c.maxLocals = nL) (hfr : 1 ≤ R.frames) (hlo : 64 ≤ R.locals) (hok : okD o ini cc pc (95, nx, ns, vs) = true) (he : effD LAY al (95, nx, ns, vs) ls stk h gg = some (pc', ls', stk', h', gg')) (K : ∀ (ad' : Nat → Nat) (ca' : Nat → ClassId) (tys' : List (ClassId × FieldType)) (H' : Heap) (locs' : List Loc), ((∀ a, a < h.2.2.1 → ad' a = ad a) ∧ h.2.2.1 ≤ h'.2.2.1) → Rl D base H0 s sc ad' ca' tys' h' H' locs' → wvs h'.2.2.1 stk' → wvs h'.2.2.1 ls' → lr sb b0 ad' nL ls' L → W p l e R s m args below meth c H' locs' gg'.1 gg'.2 Q (F0 m pc' L (stk'.map (tr sb b0 ad')))) : W p l e R s m args below meth c H locs gg.1 gg.2 Q (F0 m pc L (stk.map (tr sb b0 ad))) := by
  obtain ⟨hP, hD, hK, hT, hS, hwh, hsc⟩ := hRl
  obtain ⟨hk, hot⟩ := Bool.and_eq_true_iff.mp (show (decide (nx = pc + 3 ∧ decode cc pc = .ok (.invokespecial (ns.headD 0), 3)) && OT.any (fun q => q.1 == o && q.2.1 == ns.headD 0)) = true from hok)
  obtain ⟨rfl, hd⟩ := of_decide_eq_true hk
  obtain ⟨q, hqm, hq⟩ := List.any_eq_true.mp hot
  simp only [Bool.and_eq_true, beq_iff_eq] at hq
  have hw0 := OT_ok q hqm
  rw [hq.1, hq.2, ho] at hw0
  replace he : (match (generalizing := false) stk with | (2, _) :: r => if r.length ≤ 4 then some (pc + 3, ls, r, h, gg) else none | _ => none) = some (pc', ls', stk', h', gg') := he
  split at he
  · next v r =>
    by_cases hcc : r.length ≤ 4
    · rw [if_pos hcc] at he
      simp only [Option.some.injEq, Prod.mk.injEq] at he; obtain ⟨rfl, rfl, rfl, rfl, rfl⟩ := he
      have hw := wvs_c.mp hws
      have hcs := cat_sum sb b0 ad r
      exact W.objInit hx hb hown (hts _ (wT_t hw0.1 hw0.2)) (hts _ (wT_t OI_ok.1 OI_ok.2.2.1)) (hts _ (wT_t OI_ok.2.1 OI_ok.2.2.2)) rfl (by show L.size = _; rw [hml]; exact hl.1.1) rfl hd hfr (by show 2 * 0 + _ + 12 ≤ _; omega) (K ad ca tys H locs ⟨fun _ _ => rfl, Nat.le_refl _⟩ ⟨hP, hD, hK, hT, hS, hwh, hsc⟩ hw.2 hwl hl)
    · rw [if_neg hcc] at he; cases he
  · cases he
theorem sD_79 (hx : p.tables.exec = Jvm.exec) (hb : c.code = cc) (hown : s.vm.findClass own = some m.cls) (ho : oN o = own) (hts : ∀ w ∈ wT, w.before args s = true) (hbase : base ≤ H0.size) (hRl : Rl D base H0 s sc ad ca tys h H locs) (hl : lr sb b0 ad nL ls L) (hws : wvs h.2.2.1 stk) (hwl : wvs h.2.2.1 ls) (hml : c.maxLocals = nL) (hfr : 1 ≤ R.frames) (hlo : 64 ≤ R.locals) (hgg : gg.1 ≤ R.cells ∧ gg.2 ≤ R.slots) (hok : okD o ini cc pc (79, nx, ns, vs) = true) (he : effD LAY al (79, nx, ns, vs) ls stk h gg = some (pc', ls', stk', h', gg')) (K : ∀ (ad' : Nat → Nat) (ca' : Nat → ClassId) (tys' : List (ClassId × FieldType)) (H' : Heap) (locs' : List Loc), ((∀ a, a < h.2.2.1 → ad' a = ad a) ∧ h.2.2.1 ≤ h'.2.2.1) → Rl D base H0 s sc ad' ca' tys' h' H' locs' → wvs h'.2.2.1 stk' → wvs h'.2.2.1 ls' → lr sb b0 ad' nL ls' L → W p l e R s m args below meth c H' locs' gg'.1 gg'.2 Q (F0 m pc' L (stk'.map (tr sb b0 ad')))) : W p l e R s m args below meth c H locs gg.1 gg.2 Q (F0 m pc L (stk.map (tr sb b0 ad))) := by
  obtain ⟨hP, hD, hK, hT, hS, hwh, hsc⟩ := hRl
  obtain ⟨hk, hot⟩ := Bool.and_eq_true_iff.mp (show (decide (nx = pc + 3 ∧ decode cc pc = .ok (.invokestatic (ns.headD 0), 3)) && XT.any (fun q => q.1 == o && (q.2.1 == ns.headD 0 && q.2.2.1 == 79))) = true from hok)
  obtain ⟨rfl, hd⟩ := of_decide_eq_true hk
  obtain ⟨q, hqm, hq⟩ := List.any_eq_true.mp hot
  simp only [Bool.and_eq_true, beq_iff_eq] at hq
  have hw0 := XT_ok q hqm
  rw [hq.1, hq.2.1, hq.2.2, ho] at hw0
  replace he : (match (generalizing := false) stk with | (0, y) :: (0, x) :: r => if r.length ≤ 4 then some (pc + 3, ls, (0, if x < y then y else x) :: r, h, gg) else none | _ => none) = some (pc', ls', stk', h', gg') := he
  split at he
  · next y x r =>
    by_cases hcc : r.length ≤ 4
    · rw [if_pos hcc] at he
      simp only [Option.some.injEq, Prod.mk.injEq] at he; obtain ⟨rfl, rfl, rfl, rfl, rfl⟩ := he
      have hw := wvs_c.mp hws
      have hw2 := wvs_c.mp hw.2
      have hy := hw.1.1 rfl
      have hxx := hw2.1.1 rfl
      have hcs := cat_sum sb b0 ad r
      have K' := K ad ca tys H locs ⟨fun _ _ => rfl, Nat.le_refl _⟩ ⟨hP, hD, hK, hT, hS, hwh, hsc⟩ (wvs_c.mpr ⟨wv0 (by split; exact hy; exact hxx), hw2.2⟩) hwl hl
      have hr : (if I3 x < I3 y then I3 y else I3 x) = I3 (if x < y then y else x) := by
        by_cases z : x < y
        · rw [if_pos z, if_pos ((I3_lt hxx hy).mpr z)]
        · rw [if_neg z, if_neg (fun q => z ((I3_lt hxx hy).mp q))]
      refine va_mmax hx hb (by rw [hml]; exact hl.1.1.symm) hown (hts _ (wT_t hw0.1 hw0.2)) (hts _ (wT_t XI_ok.2.1.1 XI_ok.2.1.2)) (hts _ (wT_t XI_ok.1.1 XI_ok.1.2)) (hts _ (wT_t XC_ok.1.1 XC_ok.1.2)) hfr (by omega) hgg.1 hgg.2 hd ?_
      rw [hr]
      exact K'
    · rw [if_neg hcc] at he; cases he
  · cases he
theorem sD_89 (hx : p.tables.exec = Jvm.exec) (hb : c.code = cc) (hown : s.vm.findClass own = some m.cls) (ho : oN o = own) (hts : ∀ w ∈ wT, w.before args s = true) (hbase : base ≤ H0.size) (hRl : Rl D base H0 s sc ad ca tys h H locs) (hl : lr sb b0 ad nL ls L) (hws : wvs h.2.2.1 stk) (hwl : wvs h.2.2.1 ls) (hml : c.maxLocals = nL) (hfr : 1 ≤ R.frames) (hlo : 64 ≤ R.locals) (hgg : gg.1 ≤ R.cells ∧ gg.2 ≤ R.slots) (hok : okD o ini cc pc (89, nx, ns, vs) = true) (he : effD LAY al (89, nx, ns, vs) ls stk h gg = some (pc', ls', stk', h', gg')) (K : ∀ (ad' : Nat → Nat) (ca' : Nat → ClassId) (tys' : List (ClassId × FieldType)) (H' : Heap) (locs' : List Loc), ((∀ a, a < h.2.2.1 → ad' a = ad a) ∧ h.2.2.1 ≤ h'.2.2.1) → Rl D base H0 s sc ad' ca' tys' h' H' locs' → wvs h'.2.2.1 stk' → wvs h'.2.2.1 ls' → lr sb b0 ad' nL ls' L → W p l e R s m args below meth c H' locs' gg'.1 gg'.2 Q (F0 m pc' L (stk'.map (tr sb b0 ad')))) : W p l e R s m args below meth c H locs gg.1 gg.2 Q (F0 m pc L (stk.map (tr sb b0 ad))) := by
  obtain ⟨hP, hD, hK, hT, hS, hwh, hsc⟩ := hRl
  obtain ⟨hk, hot⟩ := Bool.and_eq_true_iff.mp (show (decide (nx = pc + 3 ∧ decode cc pc = .ok (.invokestatic (ns.headD 0), 3)) && XT.any (fun q => q.1 == o && (q.2.1 == ns.headD 0 && q.2.2.1 == 89))) = true from hok)
  obtain ⟨rfl, hd⟩ := of_decide_eq_true hk
  obtain ⟨q, hqm, hq⟩ := List.any_eq_true.mp hot
  simp only [Bool.and_eq_true, beq_iff_eq] at hq
  have hw0 := XT_ok q hqm
  rw [hq.1, hq.2.1, hq.2.2, ho] at hw0
  replace he : (match (generalizing := false) stk with | (0, y) :: (0, x) :: r => if r.length ≤ 4 then some (pc + 3, ls, (0, if y < x then y else x) :: r, h, gg) else none | _ => none) = some (pc', ls', stk', h', gg') := he
  split at he
  · next y x r =>
    by_cases hcc : r.length ≤ 4
    · rw [if_pos hcc] at he
      simp only [Option.some.injEq, Prod.mk.injEq] at he; obtain ⟨rfl, rfl, rfl, rfl, rfl⟩ := he
      have hw := wvs_c.mp hws
      have hw2 := wvs_c.mp hw.2
      have hy := hw.1.1 rfl
      have hxx := hw2.1.1 rfl
      have hcs := cat_sum sb b0 ad r
      have K' := K ad ca tys H locs ⟨fun _ _ => rfl, Nat.le_refl _⟩ ⟨hP, hD, hK, hT, hS, hwh, hsc⟩ (wvs_c.mpr ⟨wv0 (by split; exact hy; exact hxx), hw2.2⟩) hwl hl
      have hr : (if I3 y < I3 x then I3 y else I3 x) = I3 (if y < x then y else x) := by
        by_cases z : y < x
        · rw [if_pos z, if_pos ((I3_lt hy hxx).mpr z)]
        · rw [if_neg z, if_neg (fun q => z ((I3_lt hy hxx).mp q))]
      refine va_mmin hx hb (by rw [hml]; exact hl.1.1.symm) hown (hts _ (wT_t hw0.1 hw0.2)) (hts _ (wT_t XI_ok.2.2.1.1 XI_ok.2.2.1.2)) (hts _ (wT_t XI_ok.1.1 XI_ok.1.2)) (hts _ (wT_t XC_ok.2.1.1 XC_ok.2.1.2)) hfr (by omega) hgg.1 hgg.2 hd ?_
      rw [hr]
      exact K'
    · rw [if_neg hcc] at he; cases he
  · cases he
theorem sD_98 (hx : p.tables.exec = Jvm.exec) (hb : c.code = cc) (hown : s.vm.findClass own = some m.cls) (ho : oN o = own) (hts : ∀ w ∈ wT, w.before args s = true) (hbase : base ≤ H0.size) (hRl : Rl D base H0 s sc ad ca tys h H locs) (hl : lr sb b0 ad nL ls L) (hws : wvs h.2.2.1 stk) (hwl : wvs h.2.2.1 ls) (hml : c.maxLocals = nL) (hfr : 1 ≤ R.frames) (hlo : 64 ≤ R.locals) (hgg : gg.1 ≤ R.cells ∧ gg.2 ≤ R.slots) (hok : okD o ini cc pc (98, nx, ns, vs) = true) (he : effD LAY al (98, nx, ns, vs) ls stk h gg = some (pc', ls', stk', h', gg')) (K : ∀ (ad' : Nat → Nat) (ca' : Nat → ClassId) (tys' : List (ClassId × FieldType)) (H' : Heap) (locs' : List Loc), ((∀ a, a < h.2.2.1 → ad' a = ad a) ∧ h.2.2.1 ≤ h'.2.2.1) → Rl D base H0 s sc ad' ca' tys' h' H' locs' → wvs h'.2.2.1 stk' → wvs h'.2.2.1 ls' → lr sb b0 ad' nL ls' L → W p l e R s m args below meth c H' locs' gg'.1 gg'.2 Q (F0 m pc' L (stk'.map (tr sb b0 ad')))) : W p l e R s m args below meth c H locs gg.1 gg.2 Q (F0 m pc L (stk.map (tr sb b0 ad))) := by
  obtain ⟨hP, hD, hK, hT, hS, hwh, hsc⟩ := hRl
  obtain ⟨hk, hot⟩ := Bool.and_eq_true_iff.mp (show (decide (nx = pc + 3 ∧ decode cc pc = .ok (.invokestatic (ns.headD 0), 3)) && XT.any (fun q => q.1 == o && (q.2.1 == ns.headD 0 && q.2.2.1 == 98))) = true from hok)
  obtain ⟨rfl, hd⟩ := of_decide_eq_true hk
  obtain ⟨q, hqm, hq⟩ := List.any_eq_true.mp hot
  simp only [Bool.and_eq_true, beq_iff_eq] at hq
  have hw0 := XT_ok q hqm
  rw [hq.1, hq.2.1, hq.2.2, ho] at hw0
  replace he : (match (generalizing := false) stk with | (0, x) :: r => if r.length ≤ 4 then some (pc + 3, ls, (0, if 0 ≤ x then x else w32 (0 - x)) :: r, h, gg) else none | _ => none) = some (pc', ls', stk', h', gg') := he
  split at he
  · next x r =>
    by_cases hcc : r.length ≤ 4
    · rw [if_pos hcc] at he
      simp only [Option.some.injEq, Prod.mk.injEq] at he; obtain ⟨rfl, rfl, rfl, rfl, rfl⟩ := he
      have hw := wvs_c.mp hws
      have hxx := hw.1.1 rfl
      have hcs := cat_sum sb b0 ad r
      have K' := K ad ca tys H locs ⟨fun _ _ => rfl, Nat.le_refl _⟩ ⟨hP, hD, hK, hT, hS, hwh, hsc⟩ (wvs_c.mpr ⟨wv0 (by split; exact hxx; exact w32_in _), hw.2⟩) hwl hl
      have hr : (if 0 ≤ I3 x then I3 x else 0 - I3 x) = I3 (if 0 ≤ x then x else w32 (0 - x)) := by
        by_cases z : 0 ≤ x
        · rw [if_pos z, if_pos (show (0 : Int32) ≤ I3 x from (I3_le in32_0 hxx).mpr z)]
        · rw [if_neg z, if_neg (fun q : (0 : Int32) ≤ I3 x => z ((I3_le in32_0 hxx).mp q))]; exact I3_sub 0 x
      refine va_mabs hx hb (by rw [hml]; exact hl.1.1.symm) hown (hts _ (wT_t hw0.1 hw0.2)) (hts _ (wT_t XI_ok.2.2.2.1 XI_ok.2.2.2.2)) (hts _ (wT_t XI_ok.1.1 XI_ok.1.2)) (hts _ (wT_t XC_ok.2.2.1 XC_ok.2.2.2)) hfr (by omega) hgg.1 hgg.2 hd ?_
      rw [hr]
      exact K'
    · rw [if_neg hcc] at he; cases he
  · cases he
theorem sD_96 (hx : p.tables.exec = Jvm.exec) (hb : c.code = cc) (hown : s.vm.findClass own = some m.cls) (ho : oN o = own) (hts : ∀ w ∈ wT, w.before args s = true) (hbase : base ≤ H0.size) (hRl : Rl D base H0 s sc ad ca tys h H locs) (hl : lr sb b0 ad nL ls L) (hws : wvs h.2.2.1 stk) (hwl : wvs h.2.2.1 ls) (hml : c.maxLocals = nL) (hfr : 1 ≤ R.frames) (hlo : 64 ≤ R.locals) (hok : okD o ini cc pc (96, nx, ns, vs) = true) (he : effD LAY al (96, nx, ns, vs) ls stk h gg = some (pc', ls', stk', h', gg')) (K : ∀ (ad' : Nat → Nat) (ca' : Nat → ClassId) (tys' : List (ClassId × FieldType)) (H' : Heap) (locs' : List Loc), ((∀ a, a < h.2.2.1 → ad' a = ad a) ∧ h.2.2.1 ≤ h'.2.2.1) → Rl D base H0 s sc ad' ca' tys' h' H' locs' → wvs h'.2.2.1 stk' → wvs h'.2.2.1 ls' → lr sb b0 ad' nL ls' L → W p l e R s m args below meth c H' locs' gg'.1 gg'.2 Q (F0 m pc' L (stk'.map (tr sb b0 ad')))) : W p l e R s m args below meth c H locs gg.1 gg.2 Q (F0 m pc L (stk.map (tr sb b0 ad))) := by
  obtain ⟨hP, hD, hK, hT, hS, hwh, hsc⟩ := hRl
  obtain ⟨hk, hot⟩ := Bool.and_eq_true_iff.mp (show (decide (nx = pc + 3 ∧ decode cc pc = .ok (.invokestatic (ns.headD 0), 3)) && AT.any (fun q => q.1 == o && q.2.1 == ns.headD 0)) = true from hok)
  obtain ⟨rfl, hd⟩ := of_decide_eq_true hk
  obtain ⟨q0, hqm, hq⟩ := List.any_eq_true.mp hot
  simp only [Bool.and_eq_true, beq_iff_eq] at hq
  have hw0 := AT_ok q0 hqm
  rw [hq.1, hq.2, ho] at hw0
  replace he : (match (generalizing := false) stk with | (0, n) :: (0, dp) :: (2, q) :: (0, sp) :: (2, p) :: r => if ((LAY p.toNat).1 = 20 ∨ (LAY p.toNat).1 = 21) ∧ (LAY q.toNat).1 = (LAY p.toNat).1 ∧ 0 ≤ sp ∧ 0 ≤ dp ∧ 0 ≤ n ∧ sp + n ≤ ((LAY p.toNat).2 : Int) ∧ dp + n ≤ ((LAY q.toNat).2 : Int) ∧ r.length ≤ 4 then some (pc + 3, ls, r, (cp2 h.1 p.toNat sp.toNat q.toNat dp.toNat n.toNat, h.2), gg) else none | _ => none) = some (pc', ls', stk', h', gg') := he
  split at he
  · next nn dp q sp p' r =>
    by_cases hcc : ((LAY p'.toNat).1 = 20 ∨ (LAY p'.toNat).1 = 21) ∧ (LAY q.toNat).1 = (LAY p'.toNat).1 ∧ 0 ≤ sp ∧ 0 ≤ dp ∧ 0 ≤ nn ∧ sp + nn ≤ ((LAY p'.toNat).2 : Int) ∧ dp + nn ≤ ((LAY q.toNat).2 : Int) ∧ r.length ≤ 4
    · rw [if_pos hcc] at he
      simp only [Option.some.injEq, Prod.mk.injEq] at he; obtain ⟨rfl, rfl, rfl, rfl, rfl⟩ := he
      obtain ⟨hcp, hcq, hs0, hd0, hn0, hsn, hdn, hr4⟩ := hcc
      have hw := wvs_c.mp hws
      have hw2 := wvs_c.mp hw.2
      have hw3 := wvs_c.mp hw2.2
      have hw4 := wvs_c.mp hw3.2
      have hw5 := wvs_c.mp hw4.2
      have hnx := hw.1.1 rfl
      have hdx := hw2.1.1 rfl
      have hsx := hw4.1.1 rfl
      have hqn := hw3.1.2.2 rfl
      have hql : q.toNat < h.2.2.1 := by omega
      have hpn := hw5.1.2.2 rfl
      have hpl : p'.toNat < h.2.2.1 := by omega
      have hcs := cat_sum sb b0 ad r
      have hwh' : wh (cp2 h.1 p'.toNat sp.toNat q.toNat dp.toNat nn.toNat, h.2) := by
        refine ⟨fun a j => ?_, hwh.2.1, fun a j ha => ⟨?_, (hwh.2.2 a j ha).2⟩⟩
        · show wx _ (cp2 _ _ _ _ _ _ a j)
          unfold cp2
          split
          · next z => rw [z.1, hcq]; exact hwh.1 _ _
          · exact hwh.1 a j
        · have ha : h.2.2.1 ≤ a := ha
          show cp2 _ _ _ _ _ _ a j = 0
          unfold cp2
          rw [if_neg (fun z => by omega)]
          exact (hwh.2.2 a j ha).1
      rcases hcp with hcp | hcp
      · have hatp : (enW ad ca h)[p'.toNat]? = some (ad p'.toNat, .inl (ca p'.toNat, (LAY p'.toNat).2, .inl (fun j => I3 (h.1 p'.toNat j)))) := by rw [enW_at hpl, enC_arr hcp (by decide)]; rfl
        have hc := hcq.trans hcp
        have hat : (enW ad ca h)[q.toNat]? = some (ad q.toNat, .inl (ca q.toNat, (LAY q.toNat).2, .inl (fun j => I3 (h.1 q.toNat j)))) := by rw [enW_at hql, enC_arr hc (by decide)]; rfl
        obtain ⟨t1, ht1⟩ := hT p'.toNat hpl (by rw [hcp]; decide)
        rw [hcp] at ht1
        obtain ⟨t0, ht0⟩ := hT q.toNat hql (by rw [hc]; decide)
        rw [hc] at ht0
        refine va_copyi (ty := .int) hx hb (by rw [hml]; exact hl.1.1.symm) hown (hts _ (wT_t hw0.1 hw0.2)) (hts _ (wT_t AI_ok.1 AI_ok.2.2.2.1)) (hts _ (wT_t AI_ok.2.1 AI_ok.2.2.2.2.1)) (hts _ (wT_t AI_ok.2.2.1 AI_ok.2.2.2.2.2)) hK hP hD hS p'.toNat q.toNat t1 t0 hatp hat ht1 ht0 rfl (fun z => absurd ((I3_lt hsx in32_0).mp z) (by omega)) (fun z => absurd ((I3_lt hdx in32_0).mp z) (by omega)) (fun z => absurd ((I3_lt hnx in32_0).mp z) (by omega)) (by rw [I3_cl hsx, I3_cl hnx]; omega) (by rw [I3_cl hdx, I3_cl hnx]; omega) (fun i _ => ?_) hfr ?_ hd (fun H1 locs1 hP1 hD1 hS1 => ?_)
        · rfl
        · have : nativeFrameWords "java/lang/System" "arraycopy" 5 + 11 ≤ 56 := by decide
          omega
        · have hset : (enW ad ca h).set q.toNat (ad q.toNat, .inl (ca q.toNat, (LAY q.toNat).2, .inl (va_cpy (fun j => I3 (h.1 p'.toNat j)) (fun j => I3 (h.1 q.toNat j)) sp.toNat dp.toNat nn.toNat))) = enW ad ca (cp2 h.1 p'.toNat sp.toNat q.toNat dp.toNat nn.toNat, h.2) := by
            refine enW_set rfl ?_ (fun b hb => ⟨by funext j; show cp2 _ _ _ _ _ _ b j = _; unfold cp2; rw [if_neg (fun z => hb z.1)], rfl⟩)
            rw [enC_arr hc (by decide)]
            show Sum.inl (ca q.toNat, (LAY q.toNat).2, Sum.inl (fun j => I3 (cp2 h.1 p'.toNat sp.toNat q.toNat dp.toNat nn.toNat q.toNat j))) = _
            congr 4
            funext j
            unfold cp2 va_cpy
            by_cases z : dp.toNat ≤ j ∧ j < dp.toNat + nn.toNat
            · rw [if_pos z, if_pos ⟨rfl, z⟩]
            · rw [if_neg z, if_neg (fun w => z w.2)]
          rw [I3_cl hsx, I3_cl hdx, I3_cl hnx, hset] at hP1 hD1
          exact K ad ca tys H1 locs1 ⟨fun _ _ => rfl, Nat.le_refl _⟩ ⟨hP1, hD1, hK, hT, hS1, hwh', hsc⟩ hw5.2 hwl hl
      · have hatp : (enW ad ca h)[p'.toNat]? = some (ad p'.toNat, .inl (ca p'.toNat, (LAY p'.toNat).2, .inl (fun j => I3 (h.1 p'.toNat j)))) := by rw [enW_at hpl, enC_arr hcp (by decide)]; rfl
        have hc := hcq.trans hcp
        have hat : (enW ad ca h)[q.toNat]? = some (ad q.toNat, .inl (ca q.toNat, (LAY q.toNat).2, .inl (fun j => I3 (h.1 q.toNat j)))) := by rw [enW_at hql, enC_arr hc (by decide)]; rfl
        obtain ⟨t1, ht1⟩ := hT p'.toNat hpl (by rw [hcp]; decide)
        rw [hcp] at ht1
        obtain ⟨t0, ht0⟩ := hT q.toNat hql (by rw [hc]; decide)
        rw [hc] at ht0
        refine va_copyi (ty := .byte) hx hb (by rw [hml]; exact hl.1.1.symm) hown (hts _ (wT_t hw0.1 hw0.2)) (hts _ (wT_t AI_ok.1 AI_ok.2.2.2.1)) (hts _ (wT_t AI_ok.2.1 AI_ok.2.2.2.2.1)) (hts _ (wT_t AI_ok.2.2.1 AI_ok.2.2.2.2.2)) hK hP hD hS p'.toNat q.toNat t1 t0 hatp hat ht1 ht0 rfl (fun z => absurd ((I3_lt hsx in32_0).mp z) (by omega)) (fun z => absurd ((I3_lt hdx in32_0).mp z) (by omega)) (fun z => absurd ((I3_lt hnx in32_0).mp z) (by omega)) (by rw [I3_cl hsx, I3_cl hnx]; omega) (by rw [I3_cl hdx, I3_cl hnx]; omega) (fun i _ => ?_) hfr ?_ hd (fun H1 locs1 hP1 hD1 hS1 => ?_)
        · have hb8 := hwh.1 p'.toNat ((I3 sp).toNatClampNeg + i)
          rw [hcp] at hb8
          have hb8 : -128 ≤ h.1 p'.toNat ((I3 sp).toNatClampNeg + i) ∧ h.1 p'.toNat ((I3 sp).toNatClampNeg + i) < 128 := hb8
          have e1 := I3_le (x := -128) (y := h.1 p'.toNat ((I3 sp).toNatClampNeg + i)) (by unfold in32; omega) (by unfold in32; omega)
          have e2 := I3_le (x := h.1 p'.toNat ((I3 sp).toNatClampNeg + i)) (y := 127) (by unfold in32; omega) (by unfold in32; omega)
          show (decide ((-128 : Int32) ≤ _) && decide (_ ≤ (127 : Int32))) = true
          exact Bool.and_eq_true_iff.mpr ⟨decide_eq_true (e1.mpr hb8.1), decide_eq_true (e2.mpr (by omega))⟩
        · have : nativeFrameWords "java/lang/System" "arraycopy" 5 + 11 ≤ 56 := by decide
          omega
        · have hset : (enW ad ca h).set q.toNat (ad q.toNat, .inl (ca q.toNat, (LAY q.toNat).2, .inl (va_cpy (fun j => I3 (h.1 p'.toNat j)) (fun j => I3 (h.1 q.toNat j)) sp.toNat dp.toNat nn.toNat))) = enW ad ca (cp2 h.1 p'.toNat sp.toNat q.toNat dp.toNat nn.toNat, h.2) := by
            refine enW_set rfl ?_ (fun b hb => ⟨by funext j; show cp2 _ _ _ _ _ _ b j = _; unfold cp2; rw [if_neg (fun z => hb z.1)], rfl⟩)
            rw [enC_arr hc (by decide)]
            show Sum.inl (ca q.toNat, (LAY q.toNat).2, Sum.inl (fun j => I3 (cp2 h.1 p'.toNat sp.toNat q.toNat dp.toNat nn.toNat q.toNat j))) = _
            congr 4
            funext j
            unfold cp2 va_cpy
            by_cases z : dp.toNat ≤ j ∧ j < dp.toNat + nn.toNat
            · rw [if_pos z, if_pos ⟨rfl, z⟩]
            · rw [if_neg z, if_neg (fun w => z w.2)]
          rw [I3_cl hsx, I3_cl hdx, I3_cl hnx, hset] at hP1 hD1
          exact K ad ca tys H1 locs1 ⟨fun _ _ => rfl, Nat.le_refl _⟩ ⟨hP1, hD1, hK, hT, hS1, hwh', hsc⟩ hw5.2 hwl hl
    · rw [if_neg hcc] at he; cases he
  · cases he
theorem sD_97 (hx : p.tables.exec = Jvm.exec) (hb : c.code = cc) (hown : s.vm.findClass own = some m.cls) (ho : oN o = own) (hts : ∀ w ∈ wT, w.before args s = true) (hbase : base ≤ H0.size) (hRl : Rl D base H0 s sc ad ca tys h H locs) (hl : lr sb b0 ad nL ls L) (hws : wvs h.2.2.1 stk) (hwl : wvs h.2.2.1 ls) (hidx : ∀ (x : Int) (r : List AV) (ix : Nat), 0 ≤ x → x < 256 → o = 4 → r.length ≤ 4 → decode cc pc = .ok (.invokevirtual ix, 3) → W p l e R s m args below meth c H locs gg.1 gg.2 Q (F0 m (pc + 3) L (.int (I3 (idxOf [115, 100, 103, 109, 98, 97, 111, 119, 108, 104, 121, 113] 0 x)) :: r.map (tr sb b0 ad))) → W p l e R s m args below meth c H locs gg.1 gg.2 Q (F0 m pc L (.int (I3 x) :: .ref sb :: r.map (tr sb b0 ad)))) (hok : okD o ini cc pc (97, nx, ns, vs) = true) (he : effD LAY al (97, nx, ns, vs) ls stk h gg = some (pc', ls', stk', h', gg')) (K : ∀ (ad' : Nat → Nat) (ca' : Nat → ClassId) (tys' : List (ClassId × FieldType)) (H' : Heap) (locs' : List Loc), ((∀ a, a < h.2.2.1 → ad' a = ad a) ∧ h.2.2.1 ≤ h'.2.2.1) → Rl D base H0 s sc ad' ca' tys' h' H' locs' → wvs h'.2.2.1 stk' → wvs h'.2.2.1 ls' → lr sb b0 ad' nL ls' L → W p l e R s m args below meth c H' locs' gg'.1 gg'.2 Q (F0 m pc' L (stk'.map (tr sb b0 ad')))) : W p l e R s m args below meth c H locs gg.1 gg.2 Q (F0 m pc L (stk.map (tr sb b0 ad))) := by
  obtain ⟨hP, hD, hK, hT, hS, hwh, hsc⟩ := hRl
  obtain ⟨rfl, hd, ho4, hvs⟩ := of_decide_eq_true (p := nx = pc + 3 ∧ decode cc pc = .ok (.invokevirtual (ns.headD 0), 3) ∧ o = 4 ∧ vs = [115, 100, 103, 109, 98, 97, 111, 119, 108, 104, 121, 113]) hok
  replace he : (match (generalizing := false) stk with | (0, x) :: (5, _) :: r => if r.length ≤ 4 ∧ 0 ≤ x ∧ x < 256 then some (pc + 3, ls, (0, idxOf vs 0 x) :: r, h, gg) else none | _ => none) = some (pc', ls', stk', h', gg') := he
  rw [hvs] at he
  split at he
  · next x y r =>
    by_cases hcc : r.length ≤ 4 ∧ 0 ≤ x ∧ x < 256
    · rw [if_pos hcc] at he
      simp only [Option.some.injEq, Prod.mk.injEq] at he; obtain ⟨rfl, rfl, rfl, rfl, rfl⟩ := he
      have hw := wvs_c.mp hws
      have hw2 := wvs_c.mp hw.2
      have hr : in32 (idxOf [115, 100, 103, 109, 98, 97, 111, 119, 108, 104, 121, 113] 0 x) := by
        unfold idxOf idxOf idxOf idxOf idxOf idxOf idxOf idxOf idxOf idxOf idxOf idxOf idxOf in32
        repeat' split
        all_goals omega
      exact hidx x r _ hcc.2.1 hcc.2.2 ho4 hcc.1 hd (K ad ca tys H locs ⟨fun _ _ => rfl, Nat.le_refl _⟩ ⟨hP, hD, hK, hT, hS, hwh, hsc⟩ (wvs_c.mpr ⟨wv0 hr, hw2.2⟩) hwl hl)
    · rw [if_neg hcc] at he; cases he
  · cases he
end SNDD
end
section
noncomputable def MLp (q : Nat × Nat × Nat × Nat × Nat) : Cond := if q.2.2.2.1 = 1 then .methodLinkNest (oN q.1) q.2.1 (mY q.2.2.1) "PitInspector" else .methodLink (oN q.1) q.2.1 (mY q.2.2.1)
def okW (e : MTy) : Prop :=
  (tables_1[e.2.2.2.2.2.2.2.2.2.1.getD 1 0]? = some (.initialized e.1.cls) ∧ tables_1[e.2.2.2.2.2.2.2.2.2.1.getD 2 0]? = some (if e.2.2.2.2.2.1 = 50 then .static e.1 else .instanceMethod e.1) ∧ (e.2.2.2.2.2.1 < 13 → lw_tbl[e.2.2.2.2.2.2.2.2.2.1.getD 3 0]? = some (.selects e.1.cls e.1 e.1))) ∧
  (goodWord (.initialized e.1.cls) = true ∧ goodWord (if e.2.2.2.2.2.1 = 50 then .static e.1 else .instanceMethod e.1) = true ∧ goodWord (.selects e.1.cls e.1 e.1) = true) ∧
  (e.1.cls ≠ "java/lang/invoke/MethodHandle" ∧ e.1.cls ≠ "java/lang/invoke/VarHandle" ∧ (parseMethodDescriptor e.1.desc).map (fun d => d.parameters.length) = some e.2.2.2.2.2.2.2.2.1) ∧
  plainName e.1.cls = true ∧ oN e.2.2.2.2.1 = e.1.cls ∧ e.2.2.1 ≤ 40 ∧ (e.2.2.2.2.2.1 < 13 → oN e.2.2.2.2.2.1 = e.1.cls) ∧ (e.2.2.2.2.2.1 = 60 → e.1.name = "<init>") ∧ (e.2.2.2.2.2.1 < 13 ∨ e.2.2.2.2.2.1 = 50 ∨ e.2.2.2.2.2.1 = 60) ∧ (e.1.name = "<init>" → e.2.2.2.2.2.1 = 60) ∧
  ((e.2.2.2.2.2.2.1 = 0 ∧ e.2.2.2.1 = none) ∨ (e.2.2.2.2.2.2.1 = 1 ∧ e.2.2.2.1 = some .int) ∨ (e.2.2.2.2.2.2.1 = 2 ∧ e.2.2.2.1 = some .boolean) ∨ (e.2.2.2.2.2.2.1 = 3 ∧ e.2.2.2.1 = some .long)) ∧ (e.2.2.2.2.2.1 = 60 → e.2.2.2.1 = none)
def okK (e : MTy) : Prop := (e.2.2.2.2.2.2.2.2.2.2).all (fun q => okI ML mN mC e.2.2.2.2.2.2.1 e.2.2.2.2.1 (e.2.2.2.2.2.1 == 60) e.2.1 q.1 q.2 && okS e.2.2.1 q.2) = true
def okU (e : MTy) : Prop := tables_1[e.2.2.2.2.2.2.2.2.2.1.getD 0 0]? = some (.code e.1 e.2.1 e.2.2.1 e.2.2.2.1)
end
section
theorem okw_0 : okW mt_0 := by unfold okW; decide +kernel
set_option maxRecDepth 40000 in
theorem oku_0 : okU mt_0 := by unfold okU; rfl
theorem okw_1 : okW mt_1 := by unfold okW; decide +kernel
set_option maxRecDepth 40000 in
theorem oku_1 : okU mt_1 := by unfold okU; rfl
theorem okw_2 : okW mt_2 := by unfold okW; decide +kernel
set_option maxRecDepth 40000 in
theorem oku_2 : okU mt_2 := by unfold okU; rfl
theorem okw_3 : okW mt_3 := by unfold okW; decide +kernel
set_option maxRecDepth 40000 in
theorem oku_3 : okU mt_3 := by unfold okU; rfl
theorem okw_4 : okW mt_4 := by unfold okW; decide +kernel
set_option maxRecDepth 40000 in
theorem oku_4 : okU mt_4 := by unfold okU; rfl
theorem okw_5 : okW mt_5 := by unfold okW; decide +kernel
set_option maxRecDepth 40000 in
theorem oku_5 : okU mt_5 := by unfold okU; rfl
theorem okw_6 : okW mt_6 := by unfold okW; decide +kernel
set_option maxRecDepth 40000 in
theorem oku_6 : okU mt_6 := by unfold okU; rfl
theorem okw_7 : okW mt_7 := by unfold okW; decide +kernel
set_option maxRecDepth 40000 in
theorem oku_7 : okU mt_7 := by unfold okU; rfl
theorem okw_8 : okW mt_8 := by unfold okW; decide +kernel
set_option maxRecDepth 40000 in
theorem oku_8 : okU mt_8 := by unfold okU; rfl
theorem okw_9 : okW mt_9 := by unfold okW; decide +kernel
set_option maxRecDepth 40000 in
theorem oku_9 : okU mt_9 := by unfold okU; rfl
theorem okw_10 : okW mt_10 := by unfold okW; decide +kernel
set_option maxRecDepth 40000 in
theorem oku_10 : okU mt_10 := by unfold okU; rfl
theorem okw_11 : okW mt_11 := by unfold okW; decide +kernel
set_option maxRecDepth 40000 in
theorem oku_11 : okU mt_11 := by unfold okU; rfl
theorem okw_12 : okW mt_12 := by unfold okW; decide +kernel
set_option maxRecDepth 40000 in
theorem oku_12 : okU mt_12 := by unfold okU; rfl
theorem okw_13 : okW mt_13 := by unfold okW; decide +kernel
set_option maxRecDepth 40000 in
theorem oku_13 : okU mt_13 := by unfold okU; rfl
theorem okw_14 : okW mt_14 := by unfold okW; decide +kernel
set_option maxRecDepth 40000 in
theorem oku_14 : okU mt_14 := by unfold okU; rfl
theorem okw_15 : okW mt_15 := by unfold okW; decide +kernel
set_option maxRecDepth 40000 in
theorem oku_15 : okU mt_15 := by unfold okU; rfl
theorem okw_16 : okW mt_16 := by unfold okW; decide +kernel
set_option maxRecDepth 40000 in
theorem oku_16 : okU mt_16 := by unfold okU; rfl
theorem okw_17 : okW mt_17 := by unfold okW; decide +kernel
set_option maxRecDepth 40000 in
theorem oku_17 : okU mt_17 := by unfold okU; rfl
theorem okw_18 : okW mt_18 := by unfold okW; decide +kernel
set_option maxRecDepth 40000 in
theorem oku_18 : okU mt_18 := by unfold okU; rfl
theorem okw_19 : okW mt_19 := by unfold okW; decide +kernel
set_option maxRecDepth 40000 in
theorem oku_19 : okU mt_19 := by unfold okU; rfl
theorem okw_20 : okW mt_20 := by unfold okW; decide +kernel
set_option maxRecDepth 40000 in
theorem oku_20 : okU mt_20 := by unfold okU; rfl
theorem okw_21 : okW mt_21 := by unfold okW; decide +kernel
set_option maxRecDepth 40000 in
theorem oku_21 : okU mt_21 := by unfold okU; rfl
theorem okw_22 : okW mt_22 := by unfold okW; decide +kernel
set_option maxRecDepth 40000 in
theorem oku_22 : okU mt_22 := by unfold okU; rfl
theorem okw_23 : okW mt_23 := by unfold okW; decide +kernel
set_option maxRecDepth 40000 in
theorem oku_23 : okU mt_23 := by unfold okU; rfl
theorem okw_24 : okW mt_24 := by unfold okW; decide +kernel
set_option maxRecDepth 40000 in
theorem oku_24 : okU mt_24 := by unfold okU; rfl
theorem okw_25 : okW mt_25 := by unfold okW; decide +kernel
set_option maxRecDepth 40000 in
theorem oku_25 : okU mt_25 := by unfold okU; rfl
theorem okw_26 : okW mt_26 := by unfold okW; decide +kernel
set_option maxRecDepth 40000 in
theorem oku_26 : okU mt_26 := by unfold okU; rfl
theorem okw_27 : okW mt_27 := by unfold okW; decide +kernel
set_option maxRecDepth 40000 in
theorem oku_27 : okU mt_27 := by unfold okU; rfl
theorem okw_28 : okW mt_28 := by unfold okW; decide +kernel
set_option maxRecDepth 40000 in
theorem oku_28 : okU mt_28 := by unfold okU; rfl
theorem okw_29 : okW mt_29 := by unfold okW; decide +kernel
set_option maxRecDepth 40000 in
theorem oku_29 : okU mt_29 := by unfold okU; rfl
theorem okw_30 : okW mt_30 := by unfold okW; decide +kernel
set_option maxRecDepth 40000 in
theorem oku_30 : okU mt_30 := by unfold okU; rfl
theorem okw_31 : okW mt_31 := by unfold okW; decide +kernel
set_option maxRecDepth 40000 in
theorem oku_31 : okU mt_31 := by unfold okU; rfl
theorem OKW_0 : ∀ e ∈ MTL_0, okW e ∧ okU e := List.forall_mem_cons.mpr ⟨⟨okw_0, oku_0⟩, List.forall_mem_cons.mpr ⟨⟨okw_1, oku_1⟩, List.forall_mem_cons.mpr ⟨⟨okw_2, oku_2⟩, List.forall_mem_cons.mpr ⟨⟨okw_3, oku_3⟩, List.forall_mem_cons.mpr ⟨⟨okw_4, oku_4⟩, List.forall_mem_cons.mpr ⟨⟨okw_5, oku_5⟩, List.forall_mem_cons.mpr ⟨⟨okw_6, oku_6⟩, List.forall_mem_cons.mpr ⟨⟨okw_7, oku_7⟩, List.forall_mem_cons.mpr ⟨⟨okw_8, oku_8⟩, List.forall_mem_cons.mpr ⟨⟨okw_9, oku_9⟩, List.forall_mem_cons.mpr ⟨⟨okw_10, oku_10⟩, List.forall_mem_cons.mpr ⟨⟨okw_11, oku_11⟩, List.forall_mem_cons.mpr ⟨⟨okw_12, oku_12⟩, List.forall_mem_cons.mpr ⟨⟨okw_13, oku_13⟩, List.forall_mem_cons.mpr ⟨⟨okw_14, oku_14⟩, List.forall_mem_cons.mpr ⟨⟨okw_15, oku_15⟩, List.forall_mem_cons.mpr ⟨⟨okw_16, oku_16⟩, List.forall_mem_cons.mpr ⟨⟨okw_17, oku_17⟩, List.forall_mem_cons.mpr ⟨⟨okw_18, oku_18⟩, List.forall_mem_cons.mpr ⟨⟨okw_19, oku_19⟩, List.forall_mem_cons.mpr ⟨⟨okw_20, oku_20⟩, List.forall_mem_cons.mpr ⟨⟨okw_21, oku_21⟩, List.forall_mem_cons.mpr ⟨⟨okw_22, oku_22⟩, List.forall_mem_cons.mpr ⟨⟨okw_23, oku_23⟩, List.forall_mem_cons.mpr ⟨⟨okw_24, oku_24⟩, List.forall_mem_cons.mpr ⟨⟨okw_25, oku_25⟩, List.forall_mem_cons.mpr ⟨⟨okw_26, oku_26⟩, List.forall_mem_cons.mpr ⟨⟨okw_27, oku_27⟩, List.forall_mem_cons.mpr ⟨⟨okw_28, oku_28⟩, List.forall_mem_cons.mpr ⟨⟨okw_29, oku_29⟩, List.forall_mem_cons.mpr ⟨⟨okw_30, oku_30⟩, List.forall_mem_cons.mpr ⟨⟨okw_31, oku_31⟩, fun _ h => absurd h List.not_mem_nil⟩⟩⟩⟩⟩⟩⟩⟩⟩⟩⟩⟩⟩⟩⟩⟩⟩⟩⟩⟩⟩⟩⟩⟩⟩⟩⟩⟩⟩⟩⟩⟩
theorem okw_32 : okW mt_32 := by unfold okW; decide +kernel
set_option maxRecDepth 40000 in
theorem oku_32 : okU mt_32 := by unfold okU; rfl
theorem okw_33 : okW mt_33 := by unfold okW; decide +kernel
set_option maxRecDepth 40000 in
theorem oku_33 : okU mt_33 := by unfold okU; rfl
theorem okw_34 : okW mt_34 := by unfold okW; decide +kernel
set_option maxRecDepth 40000 in
theorem oku_34 : okU mt_34 := by unfold okU; rfl
theorem okw_35 : okW mt_35 := by unfold okW; decide +kernel
set_option maxRecDepth 40000 in
theorem oku_35 : okU mt_35 := by unfold okU; rfl
theorem okw_36 : okW mt_36 := by unfold okW; decide +kernel
set_option maxRecDepth 40000 in
theorem oku_36 : okU mt_36 := by unfold okU; rfl
theorem okw_37 : okW mt_37 := by unfold okW; decide +kernel
set_option maxRecDepth 40000 in
theorem oku_37 : okU mt_37 := by unfold okU; rfl
theorem okw_38 : okW mt_38 := by unfold okW; decide +kernel
set_option maxRecDepth 40000 in
theorem oku_38 : okU mt_38 := by unfold okU; rfl
theorem okw_39 : okW mt_39 := by unfold okW; decide +kernel
set_option maxRecDepth 40000 in
theorem oku_39 : okU mt_39 := by unfold okU; rfl
theorem okw_40 : okW mt_40 := by unfold okW; decide +kernel
set_option maxRecDepth 40000 in
theorem oku_40 : okU mt_40 := by unfold okU; rfl
theorem okw_41 : okW mt_41 := by unfold okW; decide +kernel
set_option maxRecDepth 40000 in
theorem oku_41 : okU mt_41 := by unfold okU; rfl
theorem okw_42 : okW mt_42 := by unfold okW; decide +kernel
set_option maxRecDepth 40000 in
theorem oku_42 : okU mt_42 := by unfold okU; rfl
theorem okw_43 : okW mt_43 := by unfold okW; decide +kernel
set_option maxRecDepth 40000 in
theorem oku_43 : okU mt_43 := by unfold okU; rfl
theorem okw_44 : okW mt_44 := by unfold okW; decide +kernel
set_option maxRecDepth 40000 in
theorem oku_44 : okU mt_44 := by unfold okU; rfl
theorem okw_45 : okW mt_45 := by unfold okW; decide +kernel
set_option maxRecDepth 40000 in
theorem oku_45 : okU mt_45 := by unfold okU; rfl
theorem okw_46 : okW mt_46 := by unfold okW; decide +kernel
set_option maxRecDepth 40000 in
theorem oku_46 : okU mt_46 := by unfold okU; rfl
theorem okw_47 : okW mt_47 := by unfold okW; decide +kernel
set_option maxRecDepth 40000 in
theorem oku_47 : okU mt_47 := by unfold okU; rfl
theorem okw_48 : okW mt_48 := by unfold okW; decide +kernel
set_option maxRecDepth 40000 in
theorem oku_48 : okU mt_48 := by unfold okU; rfl
theorem okw_49 : okW mt_49 := by unfold okW; decide +kernel
set_option maxRecDepth 40000 in
theorem oku_49 : okU mt_49 := by unfold okU; rfl
theorem okw_50 : okW mt_50 := by unfold okW; decide +kernel
set_option maxRecDepth 40000 in
theorem oku_50 : okU mt_50 := by unfold okU; rfl
theorem okw_51 : okW mt_51 := by unfold okW; decide +kernel
set_option maxRecDepth 40000 in
theorem oku_51 : okU mt_51 := by unfold okU; rfl
theorem okw_52 : okW mt_52 := by unfold okW; decide +kernel
set_option maxRecDepth 40000 in
theorem oku_52 : okU mt_52 := by unfold okU; rfl
theorem okw_53 : okW mt_53 := by unfold okW; decide +kernel
set_option maxRecDepth 40000 in
theorem oku_53 : okU mt_53 := by unfold okU; rfl
theorem okw_54 : okW mt_54 := by unfold okW; decide +kernel
set_option maxRecDepth 40000 in
theorem oku_54 : okU mt_54 := by unfold okU; rfl
theorem okw_55 : okW mt_55 := by unfold okW; decide +kernel
set_option maxRecDepth 40000 in
theorem oku_55 : okU mt_55 := by unfold okU; rfl
theorem okw_56 : okW mt_56 := by unfold okW; decide +kernel
set_option maxRecDepth 40000 in
theorem oku_56 : okU mt_56 := by unfold okU; rfl
theorem okw_57 : okW mt_57 := by unfold okW; decide +kernel
set_option maxRecDepth 40000 in
theorem oku_57 : okU mt_57 := by unfold okU; rfl
theorem okw_58 : okW mt_58 := by unfold okW; decide +kernel
set_option maxRecDepth 40000 in
theorem oku_58 : okU mt_58 := by unfold okU; rfl
theorem okw_59 : okW mt_59 := by unfold okW; decide +kernel
set_option maxRecDepth 40000 in
theorem oku_59 : okU mt_59 := by unfold okU; rfl
theorem okw_60 : okW mt_60 := by unfold okW; decide +kernel
set_option maxRecDepth 40000 in
theorem oku_60 : okU mt_60 := by unfold okU; rfl
theorem okw_61 : okW mt_61 := by unfold okW; decide +kernel
set_option maxRecDepth 40000 in
theorem oku_61 : okU mt_61 := by unfold okU; rfl
theorem okw_62 : okW mt_62 := by unfold okW; decide +kernel
set_option maxRecDepth 40000 in
theorem oku_62 : okU mt_62 := by unfold okU; rfl
theorem okw_63 : okW mt_63 := by unfold okW; decide +kernel
set_option maxRecDepth 40000 in
theorem oku_63 : okU mt_63 := by unfold okU; rfl
theorem OKW_1 : ∀ e ∈ MTL_1, okW e ∧ okU e := List.forall_mem_cons.mpr ⟨⟨okw_32, oku_32⟩, List.forall_mem_cons.mpr ⟨⟨okw_33, oku_33⟩, List.forall_mem_cons.mpr ⟨⟨okw_34, oku_34⟩, List.forall_mem_cons.mpr ⟨⟨okw_35, oku_35⟩, List.forall_mem_cons.mpr ⟨⟨okw_36, oku_36⟩, List.forall_mem_cons.mpr ⟨⟨okw_37, oku_37⟩, List.forall_mem_cons.mpr ⟨⟨okw_38, oku_38⟩, List.forall_mem_cons.mpr ⟨⟨okw_39, oku_39⟩, List.forall_mem_cons.mpr ⟨⟨okw_40, oku_40⟩, List.forall_mem_cons.mpr ⟨⟨okw_41, oku_41⟩, List.forall_mem_cons.mpr ⟨⟨okw_42, oku_42⟩, List.forall_mem_cons.mpr ⟨⟨okw_43, oku_43⟩, List.forall_mem_cons.mpr ⟨⟨okw_44, oku_44⟩, List.forall_mem_cons.mpr ⟨⟨okw_45, oku_45⟩, List.forall_mem_cons.mpr ⟨⟨okw_46, oku_46⟩, List.forall_mem_cons.mpr ⟨⟨okw_47, oku_47⟩, List.forall_mem_cons.mpr ⟨⟨okw_48, oku_48⟩, List.forall_mem_cons.mpr ⟨⟨okw_49, oku_49⟩, List.forall_mem_cons.mpr ⟨⟨okw_50, oku_50⟩, List.forall_mem_cons.mpr ⟨⟨okw_51, oku_51⟩, List.forall_mem_cons.mpr ⟨⟨okw_52, oku_52⟩, List.forall_mem_cons.mpr ⟨⟨okw_53, oku_53⟩, List.forall_mem_cons.mpr ⟨⟨okw_54, oku_54⟩, List.forall_mem_cons.mpr ⟨⟨okw_55, oku_55⟩, List.forall_mem_cons.mpr ⟨⟨okw_56, oku_56⟩, List.forall_mem_cons.mpr ⟨⟨okw_57, oku_57⟩, List.forall_mem_cons.mpr ⟨⟨okw_58, oku_58⟩, List.forall_mem_cons.mpr ⟨⟨okw_59, oku_59⟩, List.forall_mem_cons.mpr ⟨⟨okw_60, oku_60⟩, List.forall_mem_cons.mpr ⟨⟨okw_61, oku_61⟩, List.forall_mem_cons.mpr ⟨⟨okw_62, oku_62⟩, List.forall_mem_cons.mpr ⟨⟨okw_63, oku_63⟩, fun _ h => absurd h List.not_mem_nil⟩⟩⟩⟩⟩⟩⟩⟩⟩⟩⟩⟩⟩⟩⟩⟩⟩⟩⟩⟩⟩⟩⟩⟩⟩⟩⟩⟩⟩⟩⟩⟩
theorem okw_64 : okW mt_64 := by unfold okW; decide +kernel
set_option maxRecDepth 40000 in
theorem oku_64 : okU mt_64 := by unfold okU; rfl
theorem okw_65 : okW mt_65 := by unfold okW; decide +kernel
set_option maxRecDepth 40000 in
theorem oku_65 : okU mt_65 := by unfold okU; rfl
theorem okw_66 : okW mt_66 := by unfold okW; decide +kernel
set_option maxRecDepth 40000 in
theorem oku_66 : okU mt_66 := by unfold okU; rfl
theorem okw_67 : okW mt_67 := by unfold okW; decide +kernel
set_option maxRecDepth 40000 in
theorem oku_67 : okU mt_67 := by unfold okU; rfl
theorem okw_68 : okW mt_68 := by unfold okW; decide +kernel
set_option maxRecDepth 40000 in
theorem oku_68 : okU mt_68 := by unfold okU; rfl
theorem okw_69 : okW mt_69 := by unfold okW; decide +kernel
set_option maxRecDepth 40000 in
theorem oku_69 : okU mt_69 := by unfold okU; rfl
theorem okw_70 : okW mt_70 := by unfold okW; decide +kernel
set_option maxRecDepth 40000 in
theorem oku_70 : okU mt_70 := by unfold okU; rfl
theorem okw_71 : okW mt_71 := by unfold okW; decide +kernel
set_option maxRecDepth 40000 in
theorem oku_71 : okU mt_71 := by unfold okU; rfl
theorem okw_72 : okW mt_72 := by unfold okW; decide +kernel
set_option maxRecDepth 40000 in
theorem oku_72 : okU mt_72 := by unfold okU; rfl
theorem okw_73 : okW mt_73 := by unfold okW; decide +kernel
set_option maxRecDepth 40000 in
theorem oku_73 : okU mt_73 := by unfold okU; rfl
theorem okw_74 : okW mt_74 := by unfold okW; decide +kernel
set_option maxRecDepth 40000 in
theorem oku_74 : okU mt_74 := by unfold okU; rfl
theorem okw_75 : okW mt_75 := by unfold okW; decide +kernel
set_option maxRecDepth 40000 in
theorem oku_75 : okU mt_75 := by unfold okU; rfl
theorem okw_76 : okW mt_76 := by unfold okW; decide +kernel
set_option maxRecDepth 40000 in
theorem oku_76 : okU mt_76 := by unfold okU; rfl
theorem okw_77 : okW mt_77 := by unfold okW; decide +kernel
set_option maxRecDepth 40000 in
theorem oku_77 : okU mt_77 := by unfold okU; rfl
theorem okw_78 : okW mt_78 := by unfold okW; decide +kernel
set_option maxRecDepth 40000 in
theorem oku_78 : okU mt_78 := by unfold okU; rfl
theorem okw_79 : okW mt_79 := by unfold okW; decide +kernel
set_option maxRecDepth 40000 in
theorem oku_79 : okU mt_79 := by unfold okU; rfl
theorem okw_80 : okW mt_80 := by unfold okW; decide +kernel
set_option maxRecDepth 40000 in
theorem oku_80 : okU mt_80 := by unfold okU; rfl
theorem okw_81 : okW mt_81 := by unfold okW; decide +kernel
set_option maxRecDepth 40000 in
theorem oku_81 : okU mt_81 := by unfold okU; rfl
theorem okw_82 : okW mt_82 := by unfold okW; decide +kernel
set_option maxRecDepth 40000 in
theorem oku_82 : okU mt_82 := by unfold okU; rfl
theorem okw_83 : okW mt_83 := by unfold okW; decide +kernel
set_option maxRecDepth 40000 in
theorem oku_83 : okU mt_83 := by unfold okU; rfl
theorem okw_84 : okW mt_84 := by unfold okW; decide +kernel
set_option maxRecDepth 40000 in
theorem oku_84 : okU mt_84 := by unfold okU; rfl
theorem okw_85 : okW mt_85 := by unfold okW; decide +kernel
set_option maxRecDepth 40000 in
theorem oku_85 : okU mt_85 := by unfold okU; rfl
theorem okw_86 : okW mt_86 := by unfold okW; decide +kernel
set_option maxRecDepth 40000 in
theorem oku_86 : okU mt_86 := by unfold okU; rfl
theorem okw_87 : okW mt_87 := by unfold okW; decide +kernel
set_option maxRecDepth 40000 in
theorem oku_87 : okU mt_87 := by unfold okU; rfl
theorem okw_88 : okW mt_88 := by unfold okW; decide +kernel
set_option maxRecDepth 40000 in
theorem oku_88 : okU mt_88 := by unfold okU; rfl
theorem okw_89 : okW mt_89 := by unfold okW; decide +kernel
set_option maxRecDepth 40000 in
theorem oku_89 : okU mt_89 := by unfold okU; rfl
theorem okw_90 : okW mt_90 := by unfold okW; decide +kernel
set_option maxRecDepth 40000 in
theorem oku_90 : okU mt_90 := by unfold okU; rfl
theorem okw_91 : okW mt_91 := by unfold okW; decide +kernel
set_option maxRecDepth 40000 in
theorem oku_91 : okU mt_91 := by unfold okU; rfl
theorem okw_92 : okW mt_92 := by unfold okW; decide +kernel
set_option maxRecDepth 40000 in
theorem oku_92 : okU mt_92 := by unfold okU; rfl
theorem okw_93 : okW mt_93 := by unfold okW; decide +kernel
set_option maxRecDepth 40000 in
theorem oku_93 : okU mt_93 := by unfold okU; rfl
theorem okw_94 : okW mt_94 := by unfold okW; decide +kernel
set_option maxRecDepth 40000 in
theorem oku_94 : okU mt_94 := by unfold okU; rfl
theorem okw_95 : okW mt_95 := by unfold okW; decide +kernel
set_option maxRecDepth 40000 in
theorem oku_95 : okU mt_95 := by unfold okU; rfl
theorem OKW_2 : ∀ e ∈ MTL_2, okW e ∧ okU e := List.forall_mem_cons.mpr ⟨⟨okw_64, oku_64⟩, List.forall_mem_cons.mpr ⟨⟨okw_65, oku_65⟩, List.forall_mem_cons.mpr ⟨⟨okw_66, oku_66⟩, List.forall_mem_cons.mpr ⟨⟨okw_67, oku_67⟩, List.forall_mem_cons.mpr ⟨⟨okw_68, oku_68⟩, List.forall_mem_cons.mpr ⟨⟨okw_69, oku_69⟩, List.forall_mem_cons.mpr ⟨⟨okw_70, oku_70⟩, List.forall_mem_cons.mpr ⟨⟨okw_71, oku_71⟩, List.forall_mem_cons.mpr ⟨⟨okw_72, oku_72⟩, List.forall_mem_cons.mpr ⟨⟨okw_73, oku_73⟩, List.forall_mem_cons.mpr ⟨⟨okw_74, oku_74⟩, List.forall_mem_cons.mpr ⟨⟨okw_75, oku_75⟩, List.forall_mem_cons.mpr ⟨⟨okw_76, oku_76⟩, List.forall_mem_cons.mpr ⟨⟨okw_77, oku_77⟩, List.forall_mem_cons.mpr ⟨⟨okw_78, oku_78⟩, List.forall_mem_cons.mpr ⟨⟨okw_79, oku_79⟩, List.forall_mem_cons.mpr ⟨⟨okw_80, oku_80⟩, List.forall_mem_cons.mpr ⟨⟨okw_81, oku_81⟩, List.forall_mem_cons.mpr ⟨⟨okw_82, oku_82⟩, List.forall_mem_cons.mpr ⟨⟨okw_83, oku_83⟩, List.forall_mem_cons.mpr ⟨⟨okw_84, oku_84⟩, List.forall_mem_cons.mpr ⟨⟨okw_85, oku_85⟩, List.forall_mem_cons.mpr ⟨⟨okw_86, oku_86⟩, List.forall_mem_cons.mpr ⟨⟨okw_87, oku_87⟩, List.forall_mem_cons.mpr ⟨⟨okw_88, oku_88⟩, List.forall_mem_cons.mpr ⟨⟨okw_89, oku_89⟩, List.forall_mem_cons.mpr ⟨⟨okw_90, oku_90⟩, List.forall_mem_cons.mpr ⟨⟨okw_91, oku_91⟩, List.forall_mem_cons.mpr ⟨⟨okw_92, oku_92⟩, List.forall_mem_cons.mpr ⟨⟨okw_93, oku_93⟩, List.forall_mem_cons.mpr ⟨⟨okw_94, oku_94⟩, List.forall_mem_cons.mpr ⟨⟨okw_95, oku_95⟩, fun _ h => absurd h List.not_mem_nil⟩⟩⟩⟩⟩⟩⟩⟩⟩⟩⟩⟩⟩⟩⟩⟩⟩⟩⟩⟩⟩⟩⟩⟩⟩⟩⟩⟩⟩⟩⟩⟩
end
section
theorem okw_96 : okW mt_96 := by unfold okW; decide +kernel
set_option maxRecDepth 40000 in
theorem oku_96 : okU mt_96 := by unfold okU; rfl
theorem okw_97 : okW mt_97 := by unfold okW; decide +kernel
set_option maxRecDepth 40000 in
theorem oku_97 : okU mt_97 := by unfold okU; rfl
theorem okw_98 : okW mt_98 := by unfold okW; decide +kernel
set_option maxRecDepth 40000 in
theorem oku_98 : okU mt_98 := by unfold okU; rfl
theorem okw_99 : okW mt_99 := by unfold okW; decide +kernel
set_option maxRecDepth 40000 in
theorem oku_99 : okU mt_99 := by unfold okU; rfl
theorem okw_100 : okW mt_100 := by unfold okW; decide +kernel
set_option maxRecDepth 40000 in
theorem oku_100 : okU mt_100 := by unfold okU; rfl
theorem okw_101 : okW mt_101 := by unfold okW; decide +kernel
set_option maxRecDepth 40000 in
theorem oku_101 : okU mt_101 := by unfold okU; rfl
theorem okw_102 : okW mt_102 := by unfold okW; decide +kernel
set_option maxRecDepth 40000 in
theorem oku_102 : okU mt_102 := by unfold okU; rfl
theorem okw_103 : okW mt_103 := by unfold okW; decide +kernel
set_option maxRecDepth 40000 in
theorem oku_103 : okU mt_103 := by unfold okU; rfl
theorem okw_104 : okW mt_104 := by unfold okW; decide +kernel
set_option maxRecDepth 40000 in
theorem oku_104 : okU mt_104 := by unfold okU; rfl
theorem okw_105 : okW mt_105 := by unfold okW; decide +kernel
set_option maxRecDepth 40000 in
theorem oku_105 : okU mt_105 := by unfold okU; rfl
theorem okw_106 : okW mt_106 := by unfold okW; decide +kernel
set_option maxRecDepth 40000 in
theorem oku_106 : okU mt_106 := by unfold okU; rfl
theorem okw_107 : okW mt_107 := by unfold okW; decide +kernel
set_option maxRecDepth 40000 in
theorem oku_107 : okU mt_107 := by unfold okU; rfl
theorem okw_108 : okW mt_108 := by unfold okW; decide +kernel
set_option maxRecDepth 40000 in
theorem oku_108 : okU mt_108 := by unfold okU; rfl
theorem okw_109 : okW mt_109 := by unfold okW; decide +kernel
set_option maxRecDepth 40000 in
theorem oku_109 : okU mt_109 := by unfold okU; rfl
theorem okw_110 : okW mt_110 := by unfold okW; decide +kernel
set_option maxRecDepth 40000 in
theorem oku_110 : okU mt_110 := by unfold okU; rfl
theorem okw_111 : okW mt_111 := by unfold okW; decide +kernel
set_option maxRecDepth 40000 in
theorem oku_111 : okU mt_111 := by unfold okU; rfl
theorem okw_112 : okW mt_112 := by unfold okW; decide +kernel
set_option maxRecDepth 40000 in
theorem oku_112 : okU mt_112 := by unfold okU; rfl
theorem okw_113 : okW mt_113 := by unfold okW; decide +kernel
set_option maxRecDepth 40000 in
theorem oku_113 : okU mt_113 := by unfold okU; rfl
theorem okw_114 : okW mt_114 := by unfold okW; decide +kernel
set_option maxRecDepth 40000 in
theorem oku_114 : okU mt_114 := by unfold okU; rfl
theorem okw_115 : okW mt_115 := by unfold okW; decide +kernel
set_option maxRecDepth 40000 in
theorem oku_115 : okU mt_115 := by unfold okU; rfl
theorem okw_116 : okW mt_116 := by unfold okW; decide +kernel
set_option maxRecDepth 40000 in
theorem oku_116 : okU mt_116 := by unfold okU; rfl
theorem okw_117 : okW mt_117 := by unfold okW; decide +kernel
set_option maxRecDepth 40000 in
theorem oku_117 : okU mt_117 := by unfold okU; rfl
theorem okw_118 : okW mt_118 := by unfold okW; decide +kernel
set_option maxRecDepth 40000 in
theorem oku_118 : okU mt_118 := by unfold okU; rfl
theorem okw_119 : okW mt_119 := by unfold okW; decide +kernel
set_option maxRecDepth 40000 in
theorem oku_119 : okU mt_119 := by unfold okU; rfl
theorem okw_120 : okW mt_120 := by unfold okW; decide +kernel
set_option maxRecDepth 40000 in
theorem oku_120 : okU mt_120 := by unfold okU; rfl
theorem okw_121 : okW mt_121 := by unfold okW; decide +kernel
set_option maxRecDepth 40000 in
theorem oku_121 : okU mt_121 := by unfold okU; rfl
theorem okw_122 : okW mt_122 := by unfold okW; decide +kernel
set_option maxRecDepth 40000 in
theorem oku_122 : okU mt_122 := by unfold okU; rfl
theorem okw_123 : okW mt_123 := by unfold okW; decide +kernel
set_option maxRecDepth 40000 in
theorem oku_123 : okU mt_123 := by unfold okU; rfl
theorem okw_124 : okW mt_124 := by unfold okW; decide +kernel
set_option maxRecDepth 40000 in
theorem oku_124 : okU mt_124 := by unfold okU; rfl
theorem okw_125 : okW mt_125 := by unfold okW; decide +kernel
set_option maxRecDepth 40000 in
theorem oku_125 : okU mt_125 := by unfold okU; rfl
theorem okw_126 : okW mt_126 := by unfold okW; decide +kernel
set_option maxRecDepth 40000 in
theorem oku_126 : okU mt_126 := by unfold okU; rfl
theorem okw_127 : okW mt_127 := by unfold okW; decide +kernel
set_option maxRecDepth 40000 in
theorem oku_127 : okU mt_127 := by unfold okU; rfl
theorem OKW_3 : ∀ e ∈ MTL_3, okW e ∧ okU e := List.forall_mem_cons.mpr ⟨⟨okw_96, oku_96⟩, List.forall_mem_cons.mpr ⟨⟨okw_97, oku_97⟩, List.forall_mem_cons.mpr ⟨⟨okw_98, oku_98⟩, List.forall_mem_cons.mpr ⟨⟨okw_99, oku_99⟩, List.forall_mem_cons.mpr ⟨⟨okw_100, oku_100⟩, List.forall_mem_cons.mpr ⟨⟨okw_101, oku_101⟩, List.forall_mem_cons.mpr ⟨⟨okw_102, oku_102⟩, List.forall_mem_cons.mpr ⟨⟨okw_103, oku_103⟩, List.forall_mem_cons.mpr ⟨⟨okw_104, oku_104⟩, List.forall_mem_cons.mpr ⟨⟨okw_105, oku_105⟩, List.forall_mem_cons.mpr ⟨⟨okw_106, oku_106⟩, List.forall_mem_cons.mpr ⟨⟨okw_107, oku_107⟩, List.forall_mem_cons.mpr ⟨⟨okw_108, oku_108⟩, List.forall_mem_cons.mpr ⟨⟨okw_109, oku_109⟩, List.forall_mem_cons.mpr ⟨⟨okw_110, oku_110⟩, List.forall_mem_cons.mpr ⟨⟨okw_111, oku_111⟩, List.forall_mem_cons.mpr ⟨⟨okw_112, oku_112⟩, List.forall_mem_cons.mpr ⟨⟨okw_113, oku_113⟩, List.forall_mem_cons.mpr ⟨⟨okw_114, oku_114⟩, List.forall_mem_cons.mpr ⟨⟨okw_115, oku_115⟩, List.forall_mem_cons.mpr ⟨⟨okw_116, oku_116⟩, List.forall_mem_cons.mpr ⟨⟨okw_117, oku_117⟩, List.forall_mem_cons.mpr ⟨⟨okw_118, oku_118⟩, List.forall_mem_cons.mpr ⟨⟨okw_119, oku_119⟩, List.forall_mem_cons.mpr ⟨⟨okw_120, oku_120⟩, List.forall_mem_cons.mpr ⟨⟨okw_121, oku_121⟩, List.forall_mem_cons.mpr ⟨⟨okw_122, oku_122⟩, List.forall_mem_cons.mpr ⟨⟨okw_123, oku_123⟩, List.forall_mem_cons.mpr ⟨⟨okw_124, oku_124⟩, List.forall_mem_cons.mpr ⟨⟨okw_125, oku_125⟩, List.forall_mem_cons.mpr ⟨⟨okw_126, oku_126⟩, List.forall_mem_cons.mpr ⟨⟨okw_127, oku_127⟩, fun _ h => absurd h List.not_mem_nil⟩⟩⟩⟩⟩⟩⟩⟩⟩⟩⟩⟩⟩⟩⟩⟩⟩⟩⟩⟩⟩⟩⟩⟩⟩⟩⟩⟩⟩⟩⟩⟩
theorem okw_128 : okW mt_128 := by unfold okW; decide +kernel
set_option maxRecDepth 40000 in
theorem oku_128 : okU mt_128 := by unfold okU; rfl
theorem okw_129 : okW mt_129 := by unfold okW; decide +kernel
set_option maxRecDepth 40000 in
theorem oku_129 : okU mt_129 := by unfold okU; rfl
theorem okw_130 : okW mt_130 := by unfold okW; decide +kernel
set_option maxRecDepth 40000 in
theorem oku_130 : okU mt_130 := by unfold okU; rfl
theorem okw_131 : okW mt_131 := by unfold okW; decide +kernel
set_option maxRecDepth 40000 in
theorem oku_131 : okU mt_131 := by unfold okU; rfl
theorem okw_132 : okW mt_132 := by unfold okW; decide +kernel
set_option maxRecDepth 40000 in
theorem oku_132 : okU mt_132 := by unfold okU; rfl
theorem okw_133 : okW mt_133 := by unfold okW; decide +kernel
set_option maxRecDepth 40000 in
theorem oku_133 : okU mt_133 := by unfold okU; rfl
theorem okw_134 : okW mt_134 := by unfold okW; decide +kernel
set_option maxRecDepth 40000 in
theorem oku_134 : okU mt_134 := by unfold okU; rfl
theorem okw_135 : okW mt_135 := by unfold okW; decide +kernel
set_option maxRecDepth 40000 in
theorem oku_135 : okU mt_135 := by unfold okU; rfl
theorem okw_136 : okW mt_136 := by unfold okW; decide +kernel
set_option maxRecDepth 40000 in
theorem oku_136 : okU mt_136 := by unfold okU; rfl
theorem okw_137 : okW mt_137 := by unfold okW; decide +kernel
set_option maxRecDepth 40000 in
theorem oku_137 : okU mt_137 := by unfold okU; rfl
theorem okw_138 : okW mt_138 := by unfold okW; decide +kernel
set_option maxRecDepth 40000 in
theorem oku_138 : okU mt_138 := by unfold okU; rfl
theorem okw_139 : okW mt_139 := by unfold okW; decide +kernel
set_option maxRecDepth 40000 in
theorem oku_139 : okU mt_139 := by unfold okU; rfl
theorem okw_140 : okW mt_140 := by unfold okW; decide +kernel
set_option maxRecDepth 40000 in
theorem oku_140 : okU mt_140 := by unfold okU; rfl
theorem okw_141 : okW mt_141 := by unfold okW; decide +kernel
set_option maxRecDepth 40000 in
theorem oku_141 : okU mt_141 := by unfold okU; rfl
theorem okw_142 : okW mt_142 := by unfold okW; decide +kernel
set_option maxRecDepth 40000 in
theorem oku_142 : okU mt_142 := by unfold okU; rfl
theorem okw_143 : okW mt_143 := by unfold okW; decide +kernel
set_option maxRecDepth 40000 in
theorem oku_143 : okU mt_143 := by unfold okU; rfl
theorem okw_144 : okW mt_144 := by unfold okW; decide +kernel
set_option maxRecDepth 40000 in
theorem oku_144 : okU mt_144 := by unfold okU; rfl
theorem okw_145 : okW mt_145 := by unfold okW; decide +kernel
set_option maxRecDepth 40000 in
theorem oku_145 : okU mt_145 := by unfold okU; rfl
theorem okw_146 : okW mt_146 := by unfold okW; decide +kernel
set_option maxRecDepth 40000 in
theorem oku_146 : okU mt_146 := by unfold okU; rfl
theorem okw_147 : okW mt_147 := by unfold okW; decide +kernel
set_option maxRecDepth 40000 in
theorem oku_147 : okU mt_147 := by unfold okU; rfl
theorem okw_148 : okW mt_148 := by unfold okW; decide +kernel
set_option maxRecDepth 40000 in
theorem oku_148 : okU mt_148 := by unfold okU; rfl
theorem okw_149 : okW mt_149 := by unfold okW; decide +kernel
set_option maxRecDepth 40000 in
theorem oku_149 : okU mt_149 := by unfold okU; rfl
theorem okw_150 : okW mt_150 := by unfold okW; decide +kernel
set_option maxRecDepth 40000 in
theorem oku_150 : okU mt_150 := by unfold okU; rfl
theorem okw_151 : okW mt_151 := by unfold okW; decide +kernel
set_option maxRecDepth 40000 in
theorem oku_151 : okU mt_151 := by unfold okU; rfl
theorem okw_152 : okW mt_152 := by unfold okW; decide +kernel
set_option maxRecDepth 40000 in
theorem oku_152 : okU mt_152 := by unfold okU; rfl
theorem okw_153 : okW mt_153 := by unfold okW; decide +kernel
set_option maxRecDepth 40000 in
theorem oku_153 : okU mt_153 := by unfold okU; rfl
theorem okw_154 : okW mt_154 := by unfold okW; decide +kernel
set_option maxRecDepth 40000 in
theorem oku_154 : okU mt_154 := by unfold okU; rfl
theorem okw_155 : okW mt_155 := by unfold okW; decide +kernel
set_option maxRecDepth 40000 in
theorem oku_155 : okU mt_155 := by unfold okU; rfl
theorem okw_156 : okW mt_156 := by unfold okW; decide +kernel
set_option maxRecDepth 40000 in
theorem oku_156 : okU mt_156 := by unfold okU; rfl
theorem okw_157 : okW mt_157 := by unfold okW; decide +kernel
set_option maxRecDepth 40000 in
theorem oku_157 : okU mt_157 := by unfold okU; rfl
theorem okw_158 : okW mt_158 := by unfold okW; decide +kernel
set_option maxRecDepth 40000 in
theorem oku_158 : okU mt_158 := by unfold okU; rfl
theorem okw_159 : okW mt_159 := by unfold okW; decide +kernel
set_option maxRecDepth 40000 in
theorem oku_159 : okU mt_159 := by unfold okU; rfl
theorem OKW_4 : ∀ e ∈ MTL_4, okW e ∧ okU e := List.forall_mem_cons.mpr ⟨⟨okw_128, oku_128⟩, List.forall_mem_cons.mpr ⟨⟨okw_129, oku_129⟩, List.forall_mem_cons.mpr ⟨⟨okw_130, oku_130⟩, List.forall_mem_cons.mpr ⟨⟨okw_131, oku_131⟩, List.forall_mem_cons.mpr ⟨⟨okw_132, oku_132⟩, List.forall_mem_cons.mpr ⟨⟨okw_133, oku_133⟩, List.forall_mem_cons.mpr ⟨⟨okw_134, oku_134⟩, List.forall_mem_cons.mpr ⟨⟨okw_135, oku_135⟩, List.forall_mem_cons.mpr ⟨⟨okw_136, oku_136⟩, List.forall_mem_cons.mpr ⟨⟨okw_137, oku_137⟩, List.forall_mem_cons.mpr ⟨⟨okw_138, oku_138⟩, List.forall_mem_cons.mpr ⟨⟨okw_139, oku_139⟩, List.forall_mem_cons.mpr ⟨⟨okw_140, oku_140⟩, List.forall_mem_cons.mpr ⟨⟨okw_141, oku_141⟩, List.forall_mem_cons.mpr ⟨⟨okw_142, oku_142⟩, List.forall_mem_cons.mpr ⟨⟨okw_143, oku_143⟩, List.forall_mem_cons.mpr ⟨⟨okw_144, oku_144⟩, List.forall_mem_cons.mpr ⟨⟨okw_145, oku_145⟩, List.forall_mem_cons.mpr ⟨⟨okw_146, oku_146⟩, List.forall_mem_cons.mpr ⟨⟨okw_147, oku_147⟩, List.forall_mem_cons.mpr ⟨⟨okw_148, oku_148⟩, List.forall_mem_cons.mpr ⟨⟨okw_149, oku_149⟩, List.forall_mem_cons.mpr ⟨⟨okw_150, oku_150⟩, List.forall_mem_cons.mpr ⟨⟨okw_151, oku_151⟩, List.forall_mem_cons.mpr ⟨⟨okw_152, oku_152⟩, List.forall_mem_cons.mpr ⟨⟨okw_153, oku_153⟩, List.forall_mem_cons.mpr ⟨⟨okw_154, oku_154⟩, List.forall_mem_cons.mpr ⟨⟨okw_155, oku_155⟩, List.forall_mem_cons.mpr ⟨⟨okw_156, oku_156⟩, List.forall_mem_cons.mpr ⟨⟨okw_157, oku_157⟩, List.forall_mem_cons.mpr ⟨⟨okw_158, oku_158⟩, List.forall_mem_cons.mpr ⟨⟨okw_159, oku_159⟩, fun _ h => absurd h List.not_mem_nil⟩⟩⟩⟩⟩⟩⟩⟩⟩⟩⟩⟩⟩⟩⟩⟩⟩⟩⟩⟩⟩⟩⟩⟩⟩⟩⟩⟩⟩⟩⟩⟩
theorem okw_160 : okW mt_160 := by unfold okW; decide +kernel
set_option maxRecDepth 40000 in
theorem oku_160 : okU mt_160 := by unfold okU; rfl
theorem okw_161 : okW mt_161 := by unfold okW; decide +kernel
set_option maxRecDepth 40000 in
theorem oku_161 : okU mt_161 := by unfold okU; rfl
theorem okw_162 : okW mt_162 := by unfold okW; decide +kernel
set_option maxRecDepth 40000 in
theorem oku_162 : okU mt_162 := by unfold okU; rfl
theorem okw_163 : okW mt_163 := by unfold okW; decide +kernel
set_option maxRecDepth 40000 in
theorem oku_163 : okU mt_163 := by unfold okU; rfl
theorem okw_164 : okW mt_164 := by unfold okW; decide +kernel
set_option maxRecDepth 40000 in
theorem oku_164 : okU mt_164 := by unfold okU; rfl
theorem okw_165 : okW mt_165 := by unfold okW; decide +kernel
set_option maxRecDepth 40000 in
theorem oku_165 : okU mt_165 := by unfold okU; rfl
theorem okw_166 : okW mt_166 := by unfold okW; decide +kernel
set_option maxRecDepth 40000 in
theorem oku_166 : okU mt_166 := by unfold okU; rfl
theorem okw_167 : okW mt_167 := by unfold okW; decide +kernel
set_option maxRecDepth 40000 in
theorem oku_167 : okU mt_167 := by unfold okU; rfl
theorem okw_168 : okW mt_168 := by unfold okW; decide +kernel
set_option maxRecDepth 40000 in
theorem oku_168 : okU mt_168 := by unfold okU; rfl
theorem okw_169 : okW mt_169 := by unfold okW; decide +kernel
set_option maxRecDepth 40000 in
theorem oku_169 : okU mt_169 := by unfold okU; rfl
theorem okw_170 : okW mt_170 := by unfold okW; decide +kernel
set_option maxRecDepth 40000 in
theorem oku_170 : okU mt_170 := by unfold okU; rfl
theorem okw_171 : okW mt_171 := by unfold okW; decide +kernel
set_option maxRecDepth 40000 in
theorem oku_171 : okU mt_171 := by unfold okU; rfl
theorem okw_172 : okW mt_172 := by unfold okW; decide +kernel
set_option maxRecDepth 40000 in
theorem oku_172 : okU mt_172 := by unfold okU; rfl
theorem okw_173 : okW mt_173 := by unfold okW; decide +kernel
set_option maxRecDepth 40000 in
theorem oku_173 : okU mt_173 := by unfold okU; rfl
theorem okw_174 : okW mt_174 := by unfold okW; decide +kernel
set_option maxRecDepth 40000 in
theorem oku_174 : okU mt_174 := by unfold okU; rfl
theorem okw_175 : okW mt_175 := by unfold okW; decide +kernel
set_option maxRecDepth 40000 in
theorem oku_175 : okU mt_175 := by unfold okU; rfl
theorem okw_176 : okW mt_176 := by unfold okW; decide +kernel
set_option maxRecDepth 40000 in
theorem oku_176 : okU mt_176 := by unfold okU; rfl
theorem okw_177 : okW mt_177 := by unfold okW; decide +kernel
set_option maxRecDepth 40000 in
theorem oku_177 : okU mt_177 := by unfold okU; rfl
theorem okw_178 : okW mt_178 := by unfold okW; decide +kernel
set_option maxRecDepth 40000 in
theorem oku_178 : okU mt_178 := by unfold okU; rfl
theorem okw_179 : okW mt_179 := by unfold okW; decide +kernel
set_option maxRecDepth 40000 in
theorem oku_179 : okU mt_179 := by unfold okU; rfl
theorem okw_180 : okW mt_180 := by unfold okW; decide +kernel
set_option maxRecDepth 40000 in
theorem oku_180 : okU mt_180 := by unfold okU; rfl
theorem okw_181 : okW mt_181 := by unfold okW; decide +kernel
set_option maxRecDepth 40000 in
theorem oku_181 : okU mt_181 := by unfold okU; rfl
theorem okw_182 : okW mt_182 := by unfold okW; decide +kernel
set_option maxRecDepth 40000 in
theorem oku_182 : okU mt_182 := by unfold okU; rfl
theorem okw_183 : okW mt_183 := by unfold okW; decide +kernel
set_option maxRecDepth 40000 in
theorem oku_183 : okU mt_183 := by unfold okU; rfl
theorem okw_184 : okW mt_184 := by unfold okW; decide +kernel
set_option maxRecDepth 40000 in
theorem oku_184 : okU mt_184 := by unfold okU; rfl
theorem okw_185 : okW mt_185 := by unfold okW; decide +kernel
set_option maxRecDepth 40000 in
theorem oku_185 : okU mt_185 := by unfold okU; rfl
theorem okw_186 : okW mt_186 := by unfold okW; decide +kernel
set_option maxRecDepth 40000 in
theorem oku_186 : okU mt_186 := by unfold okU; rfl
theorem okw_187 : okW mt_187 := by unfold okW; decide +kernel
set_option maxRecDepth 40000 in
theorem oku_187 : okU mt_187 := by unfold okU; rfl
theorem okw_188 : okW mt_188 := by unfold okW; decide +kernel
set_option maxRecDepth 40000 in
theorem oku_188 : okU mt_188 := by unfold okU; rfl
theorem okw_189 : okW mt_189 := by unfold okW; decide +kernel
set_option maxRecDepth 40000 in
theorem oku_189 : okU mt_189 := by unfold okU; rfl
theorem okw_190 : okW mt_190 := by unfold okW; decide +kernel
set_option maxRecDepth 40000 in
theorem oku_190 : okU mt_190 := by unfold okU; rfl
theorem okw_191 : okW mt_191 := by unfold okW; decide +kernel
set_option maxRecDepth 40000 in
theorem oku_191 : okU mt_191 := by unfold okU; rfl
theorem OKW_5 : ∀ e ∈ MTL_5, okW e ∧ okU e := List.forall_mem_cons.mpr ⟨⟨okw_160, oku_160⟩, List.forall_mem_cons.mpr ⟨⟨okw_161, oku_161⟩, List.forall_mem_cons.mpr ⟨⟨okw_162, oku_162⟩, List.forall_mem_cons.mpr ⟨⟨okw_163, oku_163⟩, List.forall_mem_cons.mpr ⟨⟨okw_164, oku_164⟩, List.forall_mem_cons.mpr ⟨⟨okw_165, oku_165⟩, List.forall_mem_cons.mpr ⟨⟨okw_166, oku_166⟩, List.forall_mem_cons.mpr ⟨⟨okw_167, oku_167⟩, List.forall_mem_cons.mpr ⟨⟨okw_168, oku_168⟩, List.forall_mem_cons.mpr ⟨⟨okw_169, oku_169⟩, List.forall_mem_cons.mpr ⟨⟨okw_170, oku_170⟩, List.forall_mem_cons.mpr ⟨⟨okw_171, oku_171⟩, List.forall_mem_cons.mpr ⟨⟨okw_172, oku_172⟩, List.forall_mem_cons.mpr ⟨⟨okw_173, oku_173⟩, List.forall_mem_cons.mpr ⟨⟨okw_174, oku_174⟩, List.forall_mem_cons.mpr ⟨⟨okw_175, oku_175⟩, List.forall_mem_cons.mpr ⟨⟨okw_176, oku_176⟩, List.forall_mem_cons.mpr ⟨⟨okw_177, oku_177⟩, List.forall_mem_cons.mpr ⟨⟨okw_178, oku_178⟩, List.forall_mem_cons.mpr ⟨⟨okw_179, oku_179⟩, List.forall_mem_cons.mpr ⟨⟨okw_180, oku_180⟩, List.forall_mem_cons.mpr ⟨⟨okw_181, oku_181⟩, List.forall_mem_cons.mpr ⟨⟨okw_182, oku_182⟩, List.forall_mem_cons.mpr ⟨⟨okw_183, oku_183⟩, List.forall_mem_cons.mpr ⟨⟨okw_184, oku_184⟩, List.forall_mem_cons.mpr ⟨⟨okw_185, oku_185⟩, List.forall_mem_cons.mpr ⟨⟨okw_186, oku_186⟩, List.forall_mem_cons.mpr ⟨⟨okw_187, oku_187⟩, List.forall_mem_cons.mpr ⟨⟨okw_188, oku_188⟩, List.forall_mem_cons.mpr ⟨⟨okw_189, oku_189⟩, List.forall_mem_cons.mpr ⟨⟨okw_190, oku_190⟩, List.forall_mem_cons.mpr ⟨⟨okw_191, oku_191⟩, fun _ h => absurd h List.not_mem_nil⟩⟩⟩⟩⟩⟩⟩⟩⟩⟩⟩⟩⟩⟩⟩⟩⟩⟩⟩⟩⟩⟩⟩⟩⟩⟩⟩⟩⟩⟩⟩⟩
end
section
theorem okw_192 : okW mt_192 := by unfold okW; decide +kernel
set_option maxRecDepth 40000 in
theorem oku_192 : okU mt_192 := by unfold okU; rfl
theorem okw_193 : okW mt_193 := by unfold okW; decide +kernel
set_option maxRecDepth 40000 in
theorem oku_193 : okU mt_193 := by unfold okU; rfl
theorem okw_194 : okW mt_194 := by unfold okW; decide +kernel
set_option maxRecDepth 40000 in
theorem oku_194 : okU mt_194 := by unfold okU; rfl
theorem okw_195 : okW mt_195 := by unfold okW; decide +kernel
set_option maxRecDepth 40000 in
theorem oku_195 : okU mt_195 := by unfold okU; rfl
theorem okw_196 : okW mt_196 := by unfold okW; decide +kernel
set_option maxRecDepth 40000 in
theorem oku_196 : okU mt_196 := by unfold okU; rfl
theorem okw_197 : okW mt_197 := by unfold okW; decide +kernel
set_option maxRecDepth 40000 in
theorem oku_197 : okU mt_197 := by unfold okU; rfl
theorem okw_198 : okW mt_198 := by unfold okW; decide +kernel
set_option maxRecDepth 40000 in
theorem oku_198 : okU mt_198 := by unfold okU; rfl
theorem okw_199 : okW mt_199 := by unfold okW; decide +kernel
set_option maxRecDepth 40000 in
theorem oku_199 : okU mt_199 := by unfold okU; rfl
theorem okw_200 : okW mt_200 := by unfold okW; decide +kernel
set_option maxRecDepth 40000 in
theorem oku_200 : okU mt_200 := by unfold okU; rfl
theorem okw_201 : okW mt_201 := by unfold okW; decide +kernel
set_option maxRecDepth 40000 in
theorem oku_201 : okU mt_201 := by unfold okU; rfl
theorem okw_202 : okW mt_202 := by unfold okW; decide +kernel
set_option maxRecDepth 40000 in
theorem oku_202 : okU mt_202 := by unfold okU; rfl
theorem okw_203 : okW mt_203 := by unfold okW; decide +kernel
set_option maxRecDepth 40000 in
theorem oku_203 : okU mt_203 := by unfold okU; rfl
theorem okw_204 : okW mt_204 := by unfold okW; decide +kernel
set_option maxRecDepth 40000 in
theorem oku_204 : okU mt_204 := by unfold okU; rfl
theorem okw_205 : okW mt_205 := by unfold okW; decide +kernel
set_option maxRecDepth 40000 in
theorem oku_205 : okU mt_205 := by unfold okU; rfl
theorem okw_206 : okW mt_206 := by unfold okW; decide +kernel
set_option maxRecDepth 40000 in
theorem oku_206 : okU mt_206 := by unfold okU; rfl
theorem okw_207 : okW mt_207 := by unfold okW; decide +kernel
set_option maxRecDepth 40000 in
theorem oku_207 : okU mt_207 := by unfold okU; rfl
theorem okw_208 : okW mt_208 := by unfold okW; decide +kernel
set_option maxRecDepth 40000 in
theorem oku_208 : okU mt_208 := by unfold okU; rfl
theorem okw_209 : okW mt_209 := by unfold okW; decide +kernel
set_option maxRecDepth 40000 in
theorem oku_209 : okU mt_209 := by unfold okU; rfl
theorem okw_210 : okW mt_210 := by unfold okW; decide +kernel
set_option maxRecDepth 40000 in
theorem oku_210 : okU mt_210 := by unfold okU; rfl
theorem okw_211 : okW mt_211 := by unfold okW; decide +kernel
set_option maxRecDepth 40000 in
theorem oku_211 : okU mt_211 := by unfold okU; rfl
theorem okw_212 : okW mt_212 := by unfold okW; decide +kernel
set_option maxRecDepth 40000 in
theorem oku_212 : okU mt_212 := by unfold okU; rfl
theorem okw_213 : okW mt_213 := by unfold okW; decide +kernel
set_option maxRecDepth 40000 in
theorem oku_213 : okU mt_213 := by unfold okU; rfl
theorem okw_214 : okW mt_214 := by unfold okW; decide +kernel
set_option maxRecDepth 40000 in
theorem oku_214 : okU mt_214 := by unfold okU; rfl
theorem okw_215 : okW mt_215 := by unfold okW; decide +kernel
set_option maxRecDepth 40000 in
theorem oku_215 : okU mt_215 := by unfold okU; rfl
theorem okw_216 : okW mt_216 := by unfold okW; decide +kernel
set_option maxRecDepth 40000 in
theorem oku_216 : okU mt_216 := by unfold okU; rfl
theorem okw_217 : okW mt_217 := by unfold okW; decide +kernel
set_option maxRecDepth 40000 in
theorem oku_217 : okU mt_217 := by unfold okU; rfl
theorem okw_218 : okW mt_218 := by unfold okW; decide +kernel
set_option maxRecDepth 40000 in
theorem oku_218 : okU mt_218 := by unfold okU; rfl
theorem okw_219 : okW mt_219 := by unfold okW; decide +kernel
set_option maxRecDepth 40000 in
theorem oku_219 : okU mt_219 := by unfold okU; rfl
theorem okw_220 : okW mt_220 := by unfold okW; decide +kernel
set_option maxRecDepth 40000 in
theorem oku_220 : okU mt_220 := by unfold okU; rfl
theorem okw_221 : okW mt_221 := by unfold okW; decide +kernel
set_option maxRecDepth 40000 in
theorem oku_221 : okU mt_221 := by unfold okU; rfl
theorem okw_222 : okW mt_222 := by unfold okW; decide +kernel
set_option maxRecDepth 40000 in
theorem oku_222 : okU mt_222 := by unfold okU; rfl
theorem okw_223 : okW mt_223 := by unfold okW; decide +kernel
set_option maxRecDepth 40000 in
theorem oku_223 : okU mt_223 := by unfold okU; rfl
theorem OKW_6 : ∀ e ∈ MTL_6, okW e ∧ okU e := List.forall_mem_cons.mpr ⟨⟨okw_192, oku_192⟩, List.forall_mem_cons.mpr ⟨⟨okw_193, oku_193⟩, List.forall_mem_cons.mpr ⟨⟨okw_194, oku_194⟩, List.forall_mem_cons.mpr ⟨⟨okw_195, oku_195⟩, List.forall_mem_cons.mpr ⟨⟨okw_196, oku_196⟩, List.forall_mem_cons.mpr ⟨⟨okw_197, oku_197⟩, List.forall_mem_cons.mpr ⟨⟨okw_198, oku_198⟩, List.forall_mem_cons.mpr ⟨⟨okw_199, oku_199⟩, List.forall_mem_cons.mpr ⟨⟨okw_200, oku_200⟩, List.forall_mem_cons.mpr ⟨⟨okw_201, oku_201⟩, List.forall_mem_cons.mpr ⟨⟨okw_202, oku_202⟩, List.forall_mem_cons.mpr ⟨⟨okw_203, oku_203⟩, List.forall_mem_cons.mpr ⟨⟨okw_204, oku_204⟩, List.forall_mem_cons.mpr ⟨⟨okw_205, oku_205⟩, List.forall_mem_cons.mpr ⟨⟨okw_206, oku_206⟩, List.forall_mem_cons.mpr ⟨⟨okw_207, oku_207⟩, List.forall_mem_cons.mpr ⟨⟨okw_208, oku_208⟩, List.forall_mem_cons.mpr ⟨⟨okw_209, oku_209⟩, List.forall_mem_cons.mpr ⟨⟨okw_210, oku_210⟩, List.forall_mem_cons.mpr ⟨⟨okw_211, oku_211⟩, List.forall_mem_cons.mpr ⟨⟨okw_212, oku_212⟩, List.forall_mem_cons.mpr ⟨⟨okw_213, oku_213⟩, List.forall_mem_cons.mpr ⟨⟨okw_214, oku_214⟩, List.forall_mem_cons.mpr ⟨⟨okw_215, oku_215⟩, List.forall_mem_cons.mpr ⟨⟨okw_216, oku_216⟩, List.forall_mem_cons.mpr ⟨⟨okw_217, oku_217⟩, List.forall_mem_cons.mpr ⟨⟨okw_218, oku_218⟩, List.forall_mem_cons.mpr ⟨⟨okw_219, oku_219⟩, List.forall_mem_cons.mpr ⟨⟨okw_220, oku_220⟩, List.forall_mem_cons.mpr ⟨⟨okw_221, oku_221⟩, List.forall_mem_cons.mpr ⟨⟨okw_222, oku_222⟩, List.forall_mem_cons.mpr ⟨⟨okw_223, oku_223⟩, fun _ h => absurd h List.not_mem_nil⟩⟩⟩⟩⟩⟩⟩⟩⟩⟩⟩⟩⟩⟩⟩⟩⟩⟩⟩⟩⟩⟩⟩⟩⟩⟩⟩⟩⟩⟩⟩⟩
theorem okw_224 : okW mt_224 := by unfold okW; decide +kernel
set_option maxRecDepth 40000 in
theorem oku_224 : okU mt_224 := by unfold okU; rfl
theorem okw_225 : okW mt_225 := by unfold okW; decide +kernel
set_option maxRecDepth 40000 in
theorem oku_225 : okU mt_225 := by unfold okU; rfl
theorem okw_226 : okW mt_226 := by unfold okW; decide +kernel
set_option maxRecDepth 40000 in
theorem oku_226 : okU mt_226 := by unfold okU; rfl
theorem okw_227 : okW mt_227 := by unfold okW; decide +kernel
set_option maxRecDepth 40000 in
theorem oku_227 : okU mt_227 := by unfold okU; rfl
theorem okw_228 : okW mt_228 := by unfold okW; decide +kernel
set_option maxRecDepth 40000 in
theorem oku_228 : okU mt_228 := by unfold okU; rfl
theorem okw_229 : okW mt_229 := by unfold okW; decide +kernel
set_option maxRecDepth 40000 in
theorem oku_229 : okU mt_229 := by unfold okU; rfl
theorem okw_230 : okW mt_230 := by unfold okW; decide +kernel
set_option maxRecDepth 40000 in
theorem oku_230 : okU mt_230 := by unfold okU; rfl
theorem okw_231 : okW mt_231 := by unfold okW; decide +kernel
set_option maxRecDepth 40000 in
theorem oku_231 : okU mt_231 := by unfold okU; rfl
theorem okw_232 : okW mt_232 := by unfold okW; decide +kernel
set_option maxRecDepth 40000 in
theorem oku_232 : okU mt_232 := by unfold okU; rfl
theorem okw_233 : okW mt_233 := by unfold okW; decide +kernel
set_option maxRecDepth 40000 in
theorem oku_233 : okU mt_233 := by unfold okU; rfl
theorem okw_234 : okW mt_234 := by unfold okW; decide +kernel
set_option maxRecDepth 40000 in
theorem oku_234 : okU mt_234 := by unfold okU; rfl
theorem okw_235 : okW mt_235 := by unfold okW; decide +kernel
set_option maxRecDepth 40000 in
theorem oku_235 : okU mt_235 := by unfold okU; rfl
theorem okw_236 : okW mt_236 := by unfold okW; decide +kernel
set_option maxRecDepth 40000 in
theorem oku_236 : okU mt_236 := by unfold okU; rfl
theorem okw_237 : okW mt_237 := by unfold okW; decide +kernel
set_option maxRecDepth 40000 in
theorem oku_237 : okU mt_237 := by unfold okU; rfl
theorem okw_238 : okW mt_238 := by unfold okW; decide +kernel
set_option maxRecDepth 40000 in
theorem oku_238 : okU mt_238 := by unfold okU; rfl
theorem okw_239 : okW mt_239 := by unfold okW; decide +kernel
set_option maxRecDepth 40000 in
theorem oku_239 : okU mt_239 := by unfold okU; rfl
theorem okw_240 : okW mt_240 := by unfold okW; decide +kernel
set_option maxRecDepth 40000 in
theorem oku_240 : okU mt_240 := by unfold okU; rfl
theorem okw_241 : okW mt_241 := by unfold okW; decide +kernel
set_option maxRecDepth 40000 in
theorem oku_241 : okU mt_241 := by unfold okU; rfl
theorem okw_242 : okW mt_242 := by unfold okW; decide +kernel
set_option maxRecDepth 40000 in
theorem oku_242 : okU mt_242 := by unfold okU; rfl
theorem okw_243 : okW mt_243 := by unfold okW; decide +kernel
set_option maxRecDepth 40000 in
theorem oku_243 : okU mt_243 := by unfold okU; rfl
theorem okw_244 : okW mt_244 := by unfold okW; decide +kernel
set_option maxRecDepth 40000 in
theorem oku_244 : okU mt_244 := by unfold okU; rfl
theorem okw_245 : okW mt_245 := by unfold okW; decide +kernel
set_option maxRecDepth 40000 in
theorem oku_245 : okU mt_245 := by unfold okU; rfl
theorem okw_246 : okW mt_246 := by unfold okW; decide +kernel
set_option maxRecDepth 40000 in
theorem oku_246 : okU mt_246 := by unfold okU; rfl
theorem okw_247 : okW mt_247 := by unfold okW; decide +kernel
set_option maxRecDepth 40000 in
theorem oku_247 : okU mt_247 := by unfold okU; rfl
theorem okw_248 : okW mt_248 := by unfold okW; decide +kernel
set_option maxRecDepth 40000 in
theorem oku_248 : okU mt_248 := by unfold okU; rfl
theorem okw_249 : okW mt_249 := by unfold okW; decide +kernel
set_option maxRecDepth 40000 in
theorem oku_249 : okU mt_249 := by unfold okU; rfl
theorem okw_250 : okW mt_250 := by unfold okW; decide +kernel
set_option maxRecDepth 40000 in
theorem oku_250 : okU mt_250 := by unfold okU; rfl
theorem okw_251 : okW mt_251 := by unfold okW; decide +kernel
set_option maxRecDepth 40000 in
theorem oku_251 : okU mt_251 := by unfold okU; rfl
theorem okw_252 : okW mt_252 := by unfold okW; decide +kernel
set_option maxRecDepth 40000 in
theorem oku_252 : okU mt_252 := by unfold okU; rfl
theorem okw_253 : okW mt_253 := by unfold okW; decide +kernel
set_option maxRecDepth 40000 in
theorem oku_253 : okU mt_253 := by unfold okU; rfl
theorem okw_254 : okW mt_254 := by unfold okW; decide +kernel
set_option maxRecDepth 40000 in
theorem oku_254 : okU mt_254 := by unfold okU; rfl
theorem okw_255 : okW mt_255 := by unfold okW; decide +kernel
set_option maxRecDepth 40000 in
theorem oku_255 : okU mt_255 := by unfold okU; rfl
theorem OKW_7 : ∀ e ∈ MTL_7, okW e ∧ okU e := List.forall_mem_cons.mpr ⟨⟨okw_224, oku_224⟩, List.forall_mem_cons.mpr ⟨⟨okw_225, oku_225⟩, List.forall_mem_cons.mpr ⟨⟨okw_226, oku_226⟩, List.forall_mem_cons.mpr ⟨⟨okw_227, oku_227⟩, List.forall_mem_cons.mpr ⟨⟨okw_228, oku_228⟩, List.forall_mem_cons.mpr ⟨⟨okw_229, oku_229⟩, List.forall_mem_cons.mpr ⟨⟨okw_230, oku_230⟩, List.forall_mem_cons.mpr ⟨⟨okw_231, oku_231⟩, List.forall_mem_cons.mpr ⟨⟨okw_232, oku_232⟩, List.forall_mem_cons.mpr ⟨⟨okw_233, oku_233⟩, List.forall_mem_cons.mpr ⟨⟨okw_234, oku_234⟩, List.forall_mem_cons.mpr ⟨⟨okw_235, oku_235⟩, List.forall_mem_cons.mpr ⟨⟨okw_236, oku_236⟩, List.forall_mem_cons.mpr ⟨⟨okw_237, oku_237⟩, List.forall_mem_cons.mpr ⟨⟨okw_238, oku_238⟩, List.forall_mem_cons.mpr ⟨⟨okw_239, oku_239⟩, List.forall_mem_cons.mpr ⟨⟨okw_240, oku_240⟩, List.forall_mem_cons.mpr ⟨⟨okw_241, oku_241⟩, List.forall_mem_cons.mpr ⟨⟨okw_242, oku_242⟩, List.forall_mem_cons.mpr ⟨⟨okw_243, oku_243⟩, List.forall_mem_cons.mpr ⟨⟨okw_244, oku_244⟩, List.forall_mem_cons.mpr ⟨⟨okw_245, oku_245⟩, List.forall_mem_cons.mpr ⟨⟨okw_246, oku_246⟩, List.forall_mem_cons.mpr ⟨⟨okw_247, oku_247⟩, List.forall_mem_cons.mpr ⟨⟨okw_248, oku_248⟩, List.forall_mem_cons.mpr ⟨⟨okw_249, oku_249⟩, List.forall_mem_cons.mpr ⟨⟨okw_250, oku_250⟩, List.forall_mem_cons.mpr ⟨⟨okw_251, oku_251⟩, List.forall_mem_cons.mpr ⟨⟨okw_252, oku_252⟩, List.forall_mem_cons.mpr ⟨⟨okw_253, oku_253⟩, List.forall_mem_cons.mpr ⟨⟨okw_254, oku_254⟩, List.forall_mem_cons.mpr ⟨⟨okw_255, oku_255⟩, fun _ h => absurd h List.not_mem_nil⟩⟩⟩⟩⟩⟩⟩⟩⟩⟩⟩⟩⟩⟩⟩⟩⟩⟩⟩⟩⟩⟩⟩⟩⟩⟩⟩⟩⟩⟩⟩⟩
theorem okw_256 : okW mt_256 := by unfold okW; decide +kernel
set_option maxRecDepth 40000 in
theorem oku_256 : okU mt_256 := by unfold okU; rfl
theorem okw_257 : okW mt_257 := by unfold okW; decide +kernel
set_option maxRecDepth 40000 in
theorem oku_257 : okU mt_257 := by unfold okU; rfl
theorem okw_258 : okW mt_258 := by unfold okW; decide +kernel
set_option maxRecDepth 40000 in
theorem oku_258 : okU mt_258 := by unfold okU; rfl
theorem okw_259 : okW mt_259 := by unfold okW; decide +kernel
set_option maxRecDepth 40000 in
theorem oku_259 : okU mt_259 := by unfold okU; rfl
theorem okw_260 : okW mt_260 := by unfold okW; decide +kernel
set_option maxRecDepth 40000 in
theorem oku_260 : okU mt_260 := by unfold okU; rfl
theorem okw_261 : okW mt_261 := by unfold okW; decide +kernel
set_option maxRecDepth 40000 in
theorem oku_261 : okU mt_261 := by unfold okU; rfl
theorem okw_262 : okW mt_262 := by unfold okW; decide +kernel
set_option maxRecDepth 40000 in
theorem oku_262 : okU mt_262 := by unfold okU; rfl
theorem okw_263 : okW mt_263 := by unfold okW; decide +kernel
set_option maxRecDepth 40000 in
theorem oku_263 : okU mt_263 := by unfold okU; rfl
theorem okw_264 : okW mt_264 := by unfold okW; decide +kernel
set_option maxRecDepth 40000 in
theorem oku_264 : okU mt_264 := by unfold okU; rfl
theorem okw_265 : okW mt_265 := by unfold okW; decide +kernel
set_option maxRecDepth 40000 in
theorem oku_265 : okU mt_265 := by unfold okU; rfl
theorem okw_266 : okW mt_266 := by unfold okW; decide +kernel
set_option maxRecDepth 40000 in
theorem oku_266 : okU mt_266 := by unfold okU; rfl
theorem okw_267 : okW mt_267 := by unfold okW; decide +kernel
set_option maxRecDepth 40000 in
theorem oku_267 : okU mt_267 := by unfold okU; rfl
theorem okw_268 : okW mt_268 := by unfold okW; decide +kernel
set_option maxRecDepth 40000 in
theorem oku_268 : okU mt_268 := by unfold okU; rfl
theorem okw_269 : okW mt_269 := by unfold okW; decide +kernel
set_option maxRecDepth 40000 in
theorem oku_269 : okU mt_269 := by unfold okU; rfl
theorem okw_270 : okW mt_270 := by unfold okW; decide +kernel
set_option maxRecDepth 40000 in
theorem oku_270 : okU mt_270 := by unfold okU; rfl
theorem okw_271 : okW mt_271 := by unfold okW; decide +kernel
set_option maxRecDepth 40000 in
theorem oku_271 : okU mt_271 := by unfold okU; rfl
theorem okw_272 : okW mt_272 := by unfold okW; decide +kernel
set_option maxRecDepth 40000 in
theorem oku_272 : okU mt_272 := by unfold okU; rfl
theorem okw_273 : okW mt_273 := by unfold okW; decide +kernel
set_option maxRecDepth 40000 in
theorem oku_273 : okU mt_273 := by unfold okU; rfl
theorem okw_274 : okW mt_274 := by unfold okW; decide +kernel
set_option maxRecDepth 40000 in
theorem oku_274 : okU mt_274 := by unfold okU; rfl
theorem okw_275 : okW mt_275 := by unfold okW; decide +kernel
set_option maxRecDepth 40000 in
theorem oku_275 : okU mt_275 := by unfold okU; rfl
theorem okw_276 : okW mt_276 := by unfold okW; decide +kernel
set_option maxRecDepth 40000 in
theorem oku_276 : okU mt_276 := by unfold okU; rfl
theorem okw_277 : okW mt_277 := by unfold okW; decide +kernel
set_option maxRecDepth 40000 in
theorem oku_277 : okU mt_277 := by unfold okU; rfl
theorem okw_278 : okW mt_278 := by unfold okW; decide +kernel
set_option maxRecDepth 40000 in
theorem oku_278 : okU mt_278 := by unfold okU; rfl
theorem okw_279 : okW mt_279 := by unfold okW; decide +kernel
set_option maxRecDepth 40000 in
theorem oku_279 : okU mt_279 := by unfold okU; rfl
theorem okw_280 : okW mt_280 := by unfold okW; decide +kernel
set_option maxRecDepth 40000 in
theorem oku_280 : okU mt_280 := by unfold okU; rfl
theorem okw_281 : okW mt_281 := by unfold okW; decide +kernel
set_option maxRecDepth 40000 in
theorem oku_281 : okU mt_281 := by unfold okU; rfl
theorem okw_282 : okW mt_282 := by unfold okW; decide +kernel
set_option maxRecDepth 40000 in
theorem oku_282 : okU mt_282 := by unfold okU; rfl
theorem okw_283 : okW mt_283 := by unfold okW; decide +kernel
set_option maxRecDepth 40000 in
theorem oku_283 : okU mt_283 := by unfold okU; rfl
theorem okw_284 : okW mt_284 := by unfold okW; decide +kernel
set_option maxRecDepth 40000 in
theorem oku_284 : okU mt_284 := by unfold okU; rfl
theorem okw_285 : okW mt_285 := by unfold okW; decide +kernel
set_option maxRecDepth 40000 in
theorem oku_285 : okU mt_285 := by unfold okU; rfl
theorem okw_286 : okW mt_286 := by unfold okW; decide +kernel
set_option maxRecDepth 40000 in
theorem oku_286 : okU mt_286 := by unfold okU; rfl
theorem okw_287 : okW mt_287 := by unfold okW; decide +kernel
set_option maxRecDepth 40000 in
theorem oku_287 : okU mt_287 := by unfold okU; rfl
theorem OKW_8 : ∀ e ∈ MTL_8, okW e ∧ okU e := List.forall_mem_cons.mpr ⟨⟨okw_256, oku_256⟩, List.forall_mem_cons.mpr ⟨⟨okw_257, oku_257⟩, List.forall_mem_cons.mpr ⟨⟨okw_258, oku_258⟩, List.forall_mem_cons.mpr ⟨⟨okw_259, oku_259⟩, List.forall_mem_cons.mpr ⟨⟨okw_260, oku_260⟩, List.forall_mem_cons.mpr ⟨⟨okw_261, oku_261⟩, List.forall_mem_cons.mpr ⟨⟨okw_262, oku_262⟩, List.forall_mem_cons.mpr ⟨⟨okw_263, oku_263⟩, List.forall_mem_cons.mpr ⟨⟨okw_264, oku_264⟩, List.forall_mem_cons.mpr ⟨⟨okw_265, oku_265⟩, List.forall_mem_cons.mpr ⟨⟨okw_266, oku_266⟩, List.forall_mem_cons.mpr ⟨⟨okw_267, oku_267⟩, List.forall_mem_cons.mpr ⟨⟨okw_268, oku_268⟩, List.forall_mem_cons.mpr ⟨⟨okw_269, oku_269⟩, List.forall_mem_cons.mpr ⟨⟨okw_270, oku_270⟩, List.forall_mem_cons.mpr ⟨⟨okw_271, oku_271⟩, List.forall_mem_cons.mpr ⟨⟨okw_272, oku_272⟩, List.forall_mem_cons.mpr ⟨⟨okw_273, oku_273⟩, List.forall_mem_cons.mpr ⟨⟨okw_274, oku_274⟩, List.forall_mem_cons.mpr ⟨⟨okw_275, oku_275⟩, List.forall_mem_cons.mpr ⟨⟨okw_276, oku_276⟩, List.forall_mem_cons.mpr ⟨⟨okw_277, oku_277⟩, List.forall_mem_cons.mpr ⟨⟨okw_278, oku_278⟩, List.forall_mem_cons.mpr ⟨⟨okw_279, oku_279⟩, List.forall_mem_cons.mpr ⟨⟨okw_280, oku_280⟩, List.forall_mem_cons.mpr ⟨⟨okw_281, oku_281⟩, List.forall_mem_cons.mpr ⟨⟨okw_282, oku_282⟩, List.forall_mem_cons.mpr ⟨⟨okw_283, oku_283⟩, List.forall_mem_cons.mpr ⟨⟨okw_284, oku_284⟩, List.forall_mem_cons.mpr ⟨⟨okw_285, oku_285⟩, List.forall_mem_cons.mpr ⟨⟨okw_286, oku_286⟩, List.forall_mem_cons.mpr ⟨⟨okw_287, oku_287⟩, fun _ h => absurd h List.not_mem_nil⟩⟩⟩⟩⟩⟩⟩⟩⟩⟩⟩⟩⟩⟩⟩⟩⟩⟩⟩⟩⟩⟩⟩⟩⟩⟩⟩⟩⟩⟩⟩⟩
end
section
theorem okw_288 : okW mt_288 := by unfold okW; decide +kernel
set_option maxRecDepth 40000 in
theorem oku_288 : okU mt_288 := by unfold okU; rfl
theorem okw_289 : okW mt_289 := by unfold okW; decide +kernel
set_option maxRecDepth 40000 in
theorem oku_289 : okU mt_289 := by unfold okU; rfl
theorem okw_290 : okW mt_290 := by unfold okW; decide +kernel
set_option maxRecDepth 40000 in
theorem oku_290 : okU mt_290 := by unfold okU; rfl
theorem okw_291 : okW mt_291 := by unfold okW; decide +kernel
set_option maxRecDepth 40000 in
theorem oku_291 : okU mt_291 := by unfold okU; rfl
theorem okw_292 : okW mt_292 := by unfold okW; decide +kernel
set_option maxRecDepth 40000 in
theorem oku_292 : okU mt_292 := by unfold okU; rfl
theorem okw_293 : okW mt_293 := by unfold okW; decide +kernel
set_option maxRecDepth 40000 in
theorem oku_293 : okU mt_293 := by unfold okU; rfl
theorem okw_294 : okW mt_294 := by unfold okW; decide +kernel
set_option maxRecDepth 40000 in
theorem oku_294 : okU mt_294 := by unfold okU; rfl
theorem okw_295 : okW mt_295 := by unfold okW; decide +kernel
set_option maxRecDepth 40000 in
theorem oku_295 : okU mt_295 := by unfold okU; rfl
theorem okw_296 : okW mt_296 := by unfold okW; decide +kernel
set_option maxRecDepth 40000 in
theorem oku_296 : okU mt_296 := by unfold okU; rfl
theorem okw_297 : okW mt_297 := by unfold okW; decide +kernel
set_option maxRecDepth 40000 in
theorem oku_297 : okU mt_297 := by unfold okU; rfl
theorem okw_298 : okW mt_298 := by unfold okW; decide +kernel
set_option maxRecDepth 40000 in
theorem oku_298 : okU mt_298 := by unfold okU; rfl
theorem okw_299 : okW mt_299 := by unfold okW; decide +kernel
set_option maxRecDepth 40000 in
theorem oku_299 : okU mt_299 := by unfold okU; rfl
theorem okw_300 : okW mt_300 := by unfold okW; decide +kernel
set_option maxRecDepth 40000 in
theorem oku_300 : okU mt_300 := by unfold okU; rfl
theorem okw_301 : okW mt_301 := by unfold okW; decide +kernel
set_option maxRecDepth 40000 in
theorem oku_301 : okU mt_301 := by unfold okU; rfl
theorem okw_302 : okW mt_302 := by unfold okW; decide +kernel
set_option maxRecDepth 40000 in
theorem oku_302 : okU mt_302 := by unfold okU; rfl
theorem okw_303 : okW mt_303 := by unfold okW; decide +kernel
set_option maxRecDepth 40000 in
theorem oku_303 : okU mt_303 := by unfold okU; rfl
theorem okw_304 : okW mt_304 := by unfold okW; decide +kernel
set_option maxRecDepth 40000 in
theorem oku_304 : okU mt_304 := by unfold okU; rfl
theorem okw_305 : okW mt_305 := by unfold okW; decide +kernel
set_option maxRecDepth 40000 in
theorem oku_305 : okU mt_305 := by unfold okU; rfl
theorem okw_306 : okW mt_306 := by unfold okW; decide +kernel
set_option maxRecDepth 40000 in
theorem oku_306 : okU mt_306 := by unfold okU; rfl
theorem okw_307 : okW mt_307 := by unfold okW; decide +kernel
set_option maxRecDepth 40000 in
theorem oku_307 : okU mt_307 := by unfold okU; rfl
theorem okw_308 : okW mt_308 := by unfold okW; decide +kernel
set_option maxRecDepth 40000 in
theorem oku_308 : okU mt_308 := by unfold okU; rfl
theorem okw_309 : okW mt_309 := by unfold okW; decide +kernel
set_option maxRecDepth 40000 in
theorem oku_309 : okU mt_309 := by unfold okU; rfl
theorem okw_310 : okW mt_310 := by unfold okW; decide +kernel
set_option maxRecDepth 40000 in
theorem oku_310 : okU mt_310 := by unfold okU; rfl
theorem okw_311 : okW mt_311 := by unfold okW; decide +kernel
set_option maxRecDepth 40000 in
theorem oku_311 : okU mt_311 := by unfold okU; rfl
theorem okw_312 : okW mt_312 := by unfold okW; decide +kernel
set_option maxRecDepth 40000 in
theorem oku_312 : okU mt_312 := by unfold okU; rfl
theorem okw_313 : okW mt_313 := by unfold okW; decide +kernel
set_option maxRecDepth 40000 in
theorem oku_313 : okU mt_313 := by unfold okU; rfl
theorem okw_314 : okW mt_314 := by unfold okW; decide +kernel
set_option maxRecDepth 40000 in
theorem oku_314 : okU mt_314 := by unfold okU; rfl
theorem okw_315 : okW mt_315 := by unfold okW; decide +kernel
set_option maxRecDepth 40000 in
theorem oku_315 : okU mt_315 := by unfold okU; rfl
theorem okw_316 : okW mt_316 := by unfold okW; decide +kernel
set_option maxRecDepth 40000 in
theorem oku_316 : okU mt_316 := by unfold okU; rfl
theorem okw_317 : okW mt_317 := by unfold okW; decide +kernel
set_option maxRecDepth 40000 in
theorem oku_317 : okU mt_317 := by unfold okU; rfl
theorem okw_318 : okW mt_318 := by unfold okW; decide +kernel
set_option maxRecDepth 40000 in
theorem oku_318 : okU mt_318 := by unfold okU; rfl
theorem okw_319 : okW mt_319 := by unfold okW; decide +kernel
set_option maxRecDepth 40000 in
theorem oku_319 : okU mt_319 := by unfold okU; rfl
theorem OKW_9 : ∀ e ∈ MTL_9, okW e ∧ okU e := List.forall_mem_cons.mpr ⟨⟨okw_288, oku_288⟩, List.forall_mem_cons.mpr ⟨⟨okw_289, oku_289⟩, List.forall_mem_cons.mpr ⟨⟨okw_290, oku_290⟩, List.forall_mem_cons.mpr ⟨⟨okw_291, oku_291⟩, List.forall_mem_cons.mpr ⟨⟨okw_292, oku_292⟩, List.forall_mem_cons.mpr ⟨⟨okw_293, oku_293⟩, List.forall_mem_cons.mpr ⟨⟨okw_294, oku_294⟩, List.forall_mem_cons.mpr ⟨⟨okw_295, oku_295⟩, List.forall_mem_cons.mpr ⟨⟨okw_296, oku_296⟩, List.forall_mem_cons.mpr ⟨⟨okw_297, oku_297⟩, List.forall_mem_cons.mpr ⟨⟨okw_298, oku_298⟩, List.forall_mem_cons.mpr ⟨⟨okw_299, oku_299⟩, List.forall_mem_cons.mpr ⟨⟨okw_300, oku_300⟩, List.forall_mem_cons.mpr ⟨⟨okw_301, oku_301⟩, List.forall_mem_cons.mpr ⟨⟨okw_302, oku_302⟩, List.forall_mem_cons.mpr ⟨⟨okw_303, oku_303⟩, List.forall_mem_cons.mpr ⟨⟨okw_304, oku_304⟩, List.forall_mem_cons.mpr ⟨⟨okw_305, oku_305⟩, List.forall_mem_cons.mpr ⟨⟨okw_306, oku_306⟩, List.forall_mem_cons.mpr ⟨⟨okw_307, oku_307⟩, List.forall_mem_cons.mpr ⟨⟨okw_308, oku_308⟩, List.forall_mem_cons.mpr ⟨⟨okw_309, oku_309⟩, List.forall_mem_cons.mpr ⟨⟨okw_310, oku_310⟩, List.forall_mem_cons.mpr ⟨⟨okw_311, oku_311⟩, List.forall_mem_cons.mpr ⟨⟨okw_312, oku_312⟩, List.forall_mem_cons.mpr ⟨⟨okw_313, oku_313⟩, List.forall_mem_cons.mpr ⟨⟨okw_314, oku_314⟩, List.forall_mem_cons.mpr ⟨⟨okw_315, oku_315⟩, List.forall_mem_cons.mpr ⟨⟨okw_316, oku_316⟩, List.forall_mem_cons.mpr ⟨⟨okw_317, oku_317⟩, List.forall_mem_cons.mpr ⟨⟨okw_318, oku_318⟩, List.forall_mem_cons.mpr ⟨⟨okw_319, oku_319⟩, fun _ h => absurd h List.not_mem_nil⟩⟩⟩⟩⟩⟩⟩⟩⟩⟩⟩⟩⟩⟩⟩⟩⟩⟩⟩⟩⟩⟩⟩⟩⟩⟩⟩⟩⟩⟩⟩⟩
theorem okw_320 : okW mt_320 := by unfold okW; decide +kernel
set_option maxRecDepth 40000 in
theorem oku_320 : okU mt_320 := by unfold okU; rfl
theorem okw_321 : okW mt_321 := by unfold okW; decide +kernel
set_option maxRecDepth 40000 in
theorem oku_321 : okU mt_321 := by unfold okU; rfl
theorem okw_322 : okW mt_322 := by unfold okW; decide +kernel
set_option maxRecDepth 40000 in
theorem oku_322 : okU mt_322 := by unfold okU; rfl
theorem okw_323 : okW mt_323 := by unfold okW; decide +kernel
set_option maxRecDepth 40000 in
theorem oku_323 : okU mt_323 := by unfold okU; rfl
theorem okw_324 : okW mt_324 := by unfold okW; decide +kernel
set_option maxRecDepth 40000 in
theorem oku_324 : okU mt_324 := by unfold okU; rfl
theorem okw_325 : okW mt_325 := by unfold okW; decide +kernel
set_option maxRecDepth 40000 in
theorem oku_325 : okU mt_325 := by unfold okU; rfl
theorem okw_326 : okW mt_326 := by unfold okW; decide +kernel
set_option maxRecDepth 40000 in
theorem oku_326 : okU mt_326 := by unfold okU; rfl
theorem okw_327 : okW mt_327 := by unfold okW; decide +kernel
set_option maxRecDepth 40000 in
theorem oku_327 : okU mt_327 := by unfold okU; rfl
theorem okw_328 : okW mt_328 := by unfold okW; decide +kernel
set_option maxRecDepth 40000 in
theorem oku_328 : okU mt_328 := by unfold okU; rfl
theorem okw_329 : okW mt_329 := by unfold okW; decide +kernel
set_option maxRecDepth 40000 in
theorem oku_329 : okU mt_329 := by unfold okU; rfl
theorem okw_330 : okW mt_330 := by unfold okW; decide +kernel
set_option maxRecDepth 40000 in
theorem oku_330 : okU mt_330 := by unfold okU; rfl
theorem okw_331 : okW mt_331 := by unfold okW; decide +kernel
set_option maxRecDepth 40000 in
theorem oku_331 : okU mt_331 := by unfold okU; rfl
theorem okw_332 : okW mt_332 := by unfold okW; decide +kernel
set_option maxRecDepth 40000 in
theorem oku_332 : okU mt_332 := by unfold okU; rfl
theorem okw_333 : okW mt_333 := by unfold okW; decide +kernel
set_option maxRecDepth 40000 in
theorem oku_333 : okU mt_333 := by unfold okU; rfl
theorem okw_334 : okW mt_334 := by unfold okW; decide +kernel
set_option maxRecDepth 40000 in
theorem oku_334 : okU mt_334 := by unfold okU; rfl
theorem okw_335 : okW mt_335 := by unfold okW; decide +kernel
set_option maxRecDepth 40000 in
theorem oku_335 : okU mt_335 := by unfold okU; rfl
theorem okw_336 : okW mt_336 := by unfold okW; decide +kernel
set_option maxRecDepth 40000 in
theorem oku_336 : okU mt_336 := by unfold okU; rfl
theorem okw_337 : okW mt_337 := by unfold okW; decide +kernel
set_option maxRecDepth 40000 in
theorem oku_337 : okU mt_337 := by unfold okU; rfl
theorem okw_338 : okW mt_338 := by unfold okW; decide +kernel
set_option maxRecDepth 40000 in
theorem oku_338 : okU mt_338 := by unfold okU; rfl
theorem okw_339 : okW mt_339 := by unfold okW; decide +kernel
set_option maxRecDepth 40000 in
theorem oku_339 : okU mt_339 := by unfold okU; rfl
theorem okw_340 : okW mt_340 := by unfold okW; decide +kernel
set_option maxRecDepth 40000 in
theorem oku_340 : okU mt_340 := by unfold okU; rfl
theorem okw_341 : okW mt_341 := by unfold okW; decide +kernel
set_option maxRecDepth 40000 in
theorem oku_341 : okU mt_341 := by unfold okU; rfl
theorem okw_342 : okW mt_342 := by unfold okW; decide +kernel
set_option maxRecDepth 40000 in
theorem oku_342 : okU mt_342 := by unfold okU; rfl
theorem okw_343 : okW mt_343 := by unfold okW; decide +kernel
set_option maxRecDepth 40000 in
theorem oku_343 : okU mt_343 := by unfold okU; rfl
theorem okw_344 : okW mt_344 := by unfold okW; decide +kernel
set_option maxRecDepth 40000 in
theorem oku_344 : okU mt_344 := by unfold okU; rfl
theorem OKW_10 : ∀ e ∈ MTL_10, okW e ∧ okU e := List.forall_mem_cons.mpr ⟨⟨okw_320, oku_320⟩, List.forall_mem_cons.mpr ⟨⟨okw_321, oku_321⟩, List.forall_mem_cons.mpr ⟨⟨okw_322, oku_322⟩, List.forall_mem_cons.mpr ⟨⟨okw_323, oku_323⟩, List.forall_mem_cons.mpr ⟨⟨okw_324, oku_324⟩, List.forall_mem_cons.mpr ⟨⟨okw_325, oku_325⟩, List.forall_mem_cons.mpr ⟨⟨okw_326, oku_326⟩, List.forall_mem_cons.mpr ⟨⟨okw_327, oku_327⟩, List.forall_mem_cons.mpr ⟨⟨okw_328, oku_328⟩, List.forall_mem_cons.mpr ⟨⟨okw_329, oku_329⟩, List.forall_mem_cons.mpr ⟨⟨okw_330, oku_330⟩, List.forall_mem_cons.mpr ⟨⟨okw_331, oku_331⟩, List.forall_mem_cons.mpr ⟨⟨okw_332, oku_332⟩, List.forall_mem_cons.mpr ⟨⟨okw_333, oku_333⟩, List.forall_mem_cons.mpr ⟨⟨okw_334, oku_334⟩, List.forall_mem_cons.mpr ⟨⟨okw_335, oku_335⟩, List.forall_mem_cons.mpr ⟨⟨okw_336, oku_336⟩, List.forall_mem_cons.mpr ⟨⟨okw_337, oku_337⟩, List.forall_mem_cons.mpr ⟨⟨okw_338, oku_338⟩, List.forall_mem_cons.mpr ⟨⟨okw_339, oku_339⟩, List.forall_mem_cons.mpr ⟨⟨okw_340, oku_340⟩, List.forall_mem_cons.mpr ⟨⟨okw_341, oku_341⟩, List.forall_mem_cons.mpr ⟨⟨okw_342, oku_342⟩, List.forall_mem_cons.mpr ⟨⟨okw_343, oku_343⟩, List.forall_mem_cons.mpr ⟨⟨okw_344, oku_344⟩, fun _ h => absurd h List.not_mem_nil⟩⟩⟩⟩⟩⟩⟩⟩⟩⟩⟩⟩⟩⟩⟩⟩⟩⟩⟩⟩⟩⟩⟩⟩⟩
end
section
theorem okk_0 : okK mt_0 := by unfold okK; decide +kernel
theorem okk_1 : okK mt_1 := by unfold okK; decide +kernel
theorem okk_2 : okK mt_2 := by unfold okK; decide +kernel
theorem okk_3 : okK mt_3 := by unfold okK; decide +kernel
theorem okk_4 : okK mt_4 := by unfold okK; decide +kernel
theorem okk_5 : okK mt_5 := by unfold okK; decide +kernel
theorem okk_6 : okK mt_6 := by unfold okK; decide +kernel
theorem okk_7 : okK mt_7 := by unfold okK; decide +kernel
theorem okk_8 : okK mt_8 := by unfold okK; decide +kernel
theorem okk_9 : okK mt_9 := by unfold okK; decide +kernel
theorem okk_10 : okK mt_10 := by unfold okK; decide +kernel
theorem okk_11 : okK mt_11 := by unfold okK; decide +kernel
theorem okk_12 : okK mt_12 := by unfold okK; decide +kernel
theorem okk_13 : okK mt_13 := by unfold okK; decide +kernel
theorem okk_14 : okK mt_14 := by unfold okK; decide +kernel
theorem okk_15 : okK mt_15 := by unfold okK; decide +kernel
theorem okk_16 : okK mt_16 := by unfold okK; decide +kernel
theorem okk_17 : okK mt_17 := by unfold okK; decide +kernel
theorem okk_18 : okK mt_18 := by unfold okK; decide +kernel
theorem okk_19 : okK mt_19 := by unfold okK; decide +kernel
theorem okk_20 : okK mt_20 := by unfold okK; decide +kernel
theorem okk_21 : okK mt_21 := by unfold okK; decide +kernel
theorem okk_22 : okK mt_22 := by unfold okK; decide +kernel
theorem okk_23 : okK mt_23 := by unfold okK; decide +kernel
theorem okk_24 : okK mt_24 := by unfold okK; decide +kernel
theorem okk_25 : okK mt_25 := by unfold okK; decide +kernel
theorem okk_26 : okK mt_26 := by unfold okK; decide +kernel
theorem okk_27 : okK mt_27 := by unfold okK; decide +kernel
theorem okk_28 : okK mt_28 := by unfold okK; decide +kernel
theorem okk_29 : okK mt_29 := by unfold okK; decide +kernel
theorem okk_30 : okK mt_30 := by unfold okK; decide +kernel
theorem okk_31 : okK mt_31 := by unfold okK; decide +kernel
theorem OKK_0 : ∀ e ∈ MTL_0, okK e := List.forall_mem_cons.mpr ⟨okk_0, List.forall_mem_cons.mpr ⟨okk_1, List.forall_mem_cons.mpr ⟨okk_2, List.forall_mem_cons.mpr ⟨okk_3, List.forall_mem_cons.mpr ⟨okk_4, List.forall_mem_cons.mpr ⟨okk_5, List.forall_mem_cons.mpr ⟨okk_6, List.forall_mem_cons.mpr ⟨okk_7, List.forall_mem_cons.mpr ⟨okk_8, List.forall_mem_cons.mpr ⟨okk_9, List.forall_mem_cons.mpr ⟨okk_10, List.forall_mem_cons.mpr ⟨okk_11, List.forall_mem_cons.mpr ⟨okk_12, List.forall_mem_cons.mpr ⟨okk_13, List.forall_mem_cons.mpr ⟨okk_14, List.forall_mem_cons.mpr ⟨okk_15, List.forall_mem_cons.mpr ⟨okk_16, List.forall_mem_cons.mpr ⟨okk_17, List.forall_mem_cons.mpr ⟨okk_18, List.forall_mem_cons.mpr ⟨okk_19, List.forall_mem_cons.mpr ⟨okk_20, List.forall_mem_cons.mpr ⟨okk_21, List.forall_mem_cons.mpr ⟨okk_22, List.forall_mem_cons.mpr ⟨okk_23, List.forall_mem_cons.mpr ⟨okk_24, List.forall_mem_cons.mpr ⟨okk_25, List.forall_mem_cons.mpr ⟨okk_26, List.forall_mem_cons.mpr ⟨okk_27, List.forall_mem_cons.mpr ⟨okk_28, List.forall_mem_cons.mpr ⟨okk_29, List.forall_mem_cons.mpr ⟨okk_30, List.forall_mem_cons.mpr ⟨okk_31, fun _ h => absurd h List.not_mem_nil⟩⟩⟩⟩⟩⟩⟩⟩⟩⟩⟩⟩⟩⟩⟩⟩⟩⟩⟩⟩⟩⟩⟩⟩⟩⟩⟩⟩⟩⟩⟩⟩
theorem okk_320 : okK mt_320 := by unfold okK; decide +kernel
theorem okk_321 : okK mt_321 := by unfold okK; decide +kernel
theorem okk_322 : okK mt_322 := by unfold okK; decide +kernel
theorem okk_323 : okK mt_323 := by unfold okK; decide +kernel
theorem okk_324 : okK mt_324 := by unfold okK; decide +kernel
theorem okk_325 : okK mt_325 := by unfold okK; decide +kernel
theorem okk_326 : okK mt_326 := by unfold okK; decide +kernel
theorem okk_327 : okK mt_327 := by unfold okK; decide +kernel
theorem okk_328 : okK mt_328 := by unfold okK; decide +kernel
theorem okk_329 : okK mt_329 := by unfold okK; decide +kernel
theorem okk_330 : okK mt_330 := by unfold okK; decide +kernel
theorem okk_331 : okK mt_331 := by unfold okK; decide +kernel
theorem okk_332 : okK mt_332 := by unfold okK; decide +kernel
theorem okk_333 : okK mt_333 := by unfold okK; decide +kernel
theorem okk_334 : okK mt_334 := by unfold okK; decide +kernel
theorem okk_335 : okK mt_335 := by unfold okK; decide +kernel
theorem okk_336 : okK mt_336 := by unfold okK; decide +kernel
theorem okk_337 : okK mt_337 := by unfold okK; decide +kernel
theorem okk_338 : okK mt_338 := by unfold okK; decide +kernel
theorem okk_339 : okK mt_339 := by unfold okK; decide +kernel
theorem okk_340 : okK mt_340 := by unfold okK; decide +kernel
theorem okk_341 : okK mt_341 := by unfold okK; decide +kernel
theorem okk_342 : okK mt_342 := by unfold okK; decide +kernel
theorem okk_343 : okK mt_343 := by unfold okK; decide +kernel
theorem okk_344 : okK mt_344 := by unfold okK; decide +kernel
theorem OKK_10 : ∀ e ∈ MTL_10, okK e := List.forall_mem_cons.mpr ⟨okk_320, List.forall_mem_cons.mpr ⟨okk_321, List.forall_mem_cons.mpr ⟨okk_322, List.forall_mem_cons.mpr ⟨okk_323, List.forall_mem_cons.mpr ⟨okk_324, List.forall_mem_cons.mpr ⟨okk_325, List.forall_mem_cons.mpr ⟨okk_326, List.forall_mem_cons.mpr ⟨okk_327, List.forall_mem_cons.mpr ⟨okk_328, List.forall_mem_cons.mpr ⟨okk_329, List.forall_mem_cons.mpr ⟨okk_330, List.forall_mem_cons.mpr ⟨okk_331, List.forall_mem_cons.mpr ⟨okk_332, List.forall_mem_cons.mpr ⟨okk_333, List.forall_mem_cons.mpr ⟨okk_334, List.forall_mem_cons.mpr ⟨okk_335, List.forall_mem_cons.mpr ⟨okk_336, List.forall_mem_cons.mpr ⟨okk_337, List.forall_mem_cons.mpr ⟨okk_338, List.forall_mem_cons.mpr ⟨okk_339, List.forall_mem_cons.mpr ⟨okk_340, List.forall_mem_cons.mpr ⟨okk_341, List.forall_mem_cons.mpr ⟨okk_342, List.forall_mem_cons.mpr ⟨okk_343, List.forall_mem_cons.mpr ⟨okk_344, fun _ h => absurd h List.not_mem_nil⟩⟩⟩⟩⟩⟩⟩⟩⟩⟩⟩⟩⟩⟩⟩⟩⟩⟩⟩⟩⟩⟩⟩⟩⟩
end
section
theorem okk_32 : okK mt_32 := by unfold okK; decide +kernel
theorem okk_33 : okK mt_33 := by unfold okK; decide +kernel
theorem okk_34 : okK mt_34 := by unfold okK; decide +kernel
theorem okk_35 : okK mt_35 := by unfold okK; decide +kernel
theorem okk_36 : okK mt_36 := by unfold okK; decide +kernel
theorem okk_37 : okK mt_37 := by unfold okK; decide +kernel
theorem okk_38 : okK mt_38 := by unfold okK; decide +kernel
theorem okk_39 : okK mt_39 := by unfold okK; decide +kernel
theorem okk_40 : okK mt_40 := by unfold okK; decide +kernel
theorem okk_41 : okK mt_41 := by unfold okK; decide +kernel
theorem okk_42 : okK mt_42 := by unfold okK; decide +kernel
theorem okk_43 : okK mt_43 := by unfold okK; decide +kernel
theorem okk_44 : okK mt_44 := by unfold okK; decide +kernel
theorem okk_45 : okK mt_45 := by unfold okK; decide +kernel
theorem okk_46 : okK mt_46 := by unfold okK; decide +kernel
theorem okk_47 : okK mt_47 := by unfold okK; decide +kernel
theorem okk_48 : okK mt_48 := by unfold okK; decide +kernel
theorem okk_49 : okK mt_49 := by unfold okK; decide +kernel
theorem okk_50 : okK mt_50 := by unfold okK; decide +kernel
theorem okk_51 : okK mt_51 := by unfold okK; decide +kernel
theorem okk_52 : okK mt_52 := by unfold okK; decide +kernel
theorem okk_53 : okK mt_53 := by unfold okK; decide +kernel
theorem okk_54 : okK mt_54 := by unfold okK; decide +kernel
theorem okk_55 : okK mt_55 := by unfold okK; decide +kernel
theorem okk_56 : okK mt_56 := by unfold okK; decide +kernel
theorem okk_57 : okK mt_57 := by unfold okK; decide +kernel
theorem okk_58 : okK mt_58 := by unfold okK; decide +kernel
theorem okk_59 : okK mt_59 := by unfold okK; decide +kernel
theorem okk_60 : okK mt_60 := by unfold okK; decide +kernel
theorem okk_61 : okK mt_61 := by unfold okK; decide +kernel
theorem okk_62 : okK mt_62 := by unfold okK; decide +kernel
theorem okk_63 : okK mt_63 := by unfold okK; decide +kernel
theorem OKK_1 : ∀ e ∈ MTL_1, okK e := List.forall_mem_cons.mpr ⟨okk_32, List.forall_mem_cons.mpr ⟨okk_33, List.forall_mem_cons.mpr ⟨okk_34, List.forall_mem_cons.mpr ⟨okk_35, List.forall_mem_cons.mpr ⟨okk_36, List.forall_mem_cons.mpr ⟨okk_37, List.forall_mem_cons.mpr ⟨okk_38, List.forall_mem_cons.mpr ⟨okk_39, List.forall_mem_cons.mpr ⟨okk_40, List.forall_mem_cons.mpr ⟨okk_41, List.forall_mem_cons.mpr ⟨okk_42, List.forall_mem_cons.mpr ⟨okk_43, List.forall_mem_cons.mpr ⟨okk_44, List.forall_mem_cons.mpr ⟨okk_45, List.forall_mem_cons.mpr ⟨okk_46, List.forall_mem_cons.mpr ⟨okk_47, List.forall_mem_cons.mpr ⟨okk_48, List.forall_mem_cons.mpr ⟨okk_49, List.forall_mem_cons.mpr ⟨okk_50, List.forall_mem_cons.mpr ⟨okk_51, List.forall_mem_cons.mpr ⟨okk_52, List.forall_mem_cons.mpr ⟨okk_53, List.forall_mem_cons.mpr ⟨okk_54, List.forall_mem_cons.mpr ⟨okk_55, List.forall_mem_cons.mpr ⟨okk_56, List.forall_mem_cons.mpr ⟨okk_57, List.forall_mem_cons.mpr ⟨okk_58, List.forall_mem_cons.mpr ⟨okk_59, List.forall_mem_cons.mpr ⟨okk_60, List.forall_mem_cons.mpr ⟨okk_61, List.forall_mem_cons.mpr ⟨okk_62, List.forall_mem_cons.mpr ⟨okk_63, fun _ h => absurd h List.not_mem_nil⟩⟩⟩⟩⟩⟩⟩⟩⟩⟩⟩⟩⟩⟩⟩⟩⟩⟩⟩⟩⟩⟩⟩⟩⟩⟩⟩⟩⟩⟩⟩⟩
end
section
theorem okk_64 : okK mt_64 := by unfold okK; decide +kernel
theorem okk_65 : okK mt_65 := by unfold okK; decide +kernel
theorem okk_66 : okK mt_66 := by unfold okK; decide +kernel
theorem okk_67 : okK mt_67 := by unfold okK; decide +kernel
theorem okk_68 : okK mt_68 := by unfold okK; decide +kernel
theorem okk_69 : okK mt_69 := by unfold okK; decide +kernel
theorem okk_70 : okK mt_70 := by unfold okK; decide +kernel
theorem okk_71 : okK mt_71 := by unfold okK; decide +kernel
theorem okk_72 : okK mt_72 := by unfold okK; decide +kernel
theorem okk_73 : okK mt_73 := by unfold okK; decide +kernel
theorem okk_74 : okK mt_74 := by unfold okK; decide +kernel
theorem okk_75 : okK mt_75 := by unfold okK; decide +kernel
theorem okk_76 : okK mt_76 := by unfold okK; decide +kernel
theorem okk_77 : okK mt_77 := by unfold okK; decide +kernel
theorem okk_78 : okK mt_78 := by unfold okK; decide +kernel
theorem okk_79 : okK mt_79 := by unfold okK; decide +kernel
theorem okk_80 : okK mt_80 := by unfold okK; decide +kernel
theorem okk_81 : okK mt_81 := by unfold okK; decide +kernel
theorem okk_82 : okK mt_82 := by unfold okK; decide +kernel
theorem okk_83 : okK mt_83 := by unfold okK; decide +kernel
theorem okk_84 : okK mt_84 := by unfold okK; decide +kernel
theorem okk_85 : okK mt_85 := by unfold okK; decide +kernel
theorem okk_86 : okK mt_86 := by unfold okK; decide +kernel
theorem okk_87 : okK mt_87 := by unfold okK; decide +kernel
theorem okk_88 : okK mt_88 := by unfold okK; decide +kernel
theorem okk_89 : okK mt_89 := by unfold okK; decide +kernel
theorem okk_90 : okK mt_90 := by unfold okK; decide +kernel
theorem okk_91 : okK mt_91 := by unfold okK; decide +kernel
theorem okk_92 : okK mt_92 := by unfold okK; decide +kernel
theorem okk_93 : okK mt_93 := by unfold okK; decide +kernel
theorem okk_94 : okK mt_94 := by unfold okK; decide +kernel
theorem okk_95 : okK mt_95 := by unfold okK; decide +kernel
theorem OKK_2 : ∀ e ∈ MTL_2, okK e := List.forall_mem_cons.mpr ⟨okk_64, List.forall_mem_cons.mpr ⟨okk_65, List.forall_mem_cons.mpr ⟨okk_66, List.forall_mem_cons.mpr ⟨okk_67, List.forall_mem_cons.mpr ⟨okk_68, List.forall_mem_cons.mpr ⟨okk_69, List.forall_mem_cons.mpr ⟨okk_70, List.forall_mem_cons.mpr ⟨okk_71, List.forall_mem_cons.mpr ⟨okk_72, List.forall_mem_cons.mpr ⟨okk_73, List.forall_mem_cons.mpr ⟨okk_74, List.forall_mem_cons.mpr ⟨okk_75, List.forall_mem_cons.mpr ⟨okk_76, List.forall_mem_cons.mpr ⟨okk_77, List.forall_mem_cons.mpr ⟨okk_78, List.forall_mem_cons.mpr ⟨okk_79, List.forall_mem_cons.mpr ⟨okk_80, List.forall_mem_cons.mpr ⟨okk_81, List.forall_mem_cons.mpr ⟨okk_82, List.forall_mem_cons.mpr ⟨okk_83, List.forall_mem_cons.mpr ⟨okk_84, List.forall_mem_cons.mpr ⟨okk_85, List.forall_mem_cons.mpr ⟨okk_86, List.forall_mem_cons.mpr ⟨okk_87, List.forall_mem_cons.mpr ⟨okk_88, List.forall_mem_cons.mpr ⟨okk_89, List.forall_mem_cons.mpr ⟨okk_90, List.forall_mem_cons.mpr ⟨okk_91, List.forall_mem_cons.mpr ⟨okk_92, List.forall_mem_cons.mpr ⟨okk_93, List.forall_mem_cons.mpr ⟨okk_94, List.forall_mem_cons.mpr ⟨okk_95, fun _ h => absurd h List.not_mem_nil⟩⟩⟩⟩⟩⟩⟩⟩⟩⟩⟩⟩⟩⟩⟩⟩⟩⟩⟩⟩⟩⟩⟩⟩⟩⟩⟩⟩⟩⟩⟩⟩
end
section
theorem okk_96 : okK mt_96 := by unfold okK; decide +kernel
theorem okk_97 : okK mt_97 := by unfold okK; decide +kernel
theorem okk_98 : okK mt_98 := by unfold okK; decide +kernel
theorem okk_99 : okK mt_99 := by unfold okK; decide +kernel
theorem okk_100 : okK mt_100 := by unfold okK; decide +kernel
theorem okk_101 : okK mt_101 := by unfold okK; decide +kernel
theorem okk_102 : okK mt_102 := by unfold okK; decide +kernel
theorem okk_103 : okK mt_103 := by unfold okK; decide +kernel
theorem okk_104 : okK mt_104 := by unfold okK; decide +kernel
theorem okk_105 : okK mt_105 := by unfold okK; decide +kernel
theorem okk_106 : okK mt_106 := by unfold okK; decide +kernel
theorem okk_107 : okK mt_107 := by unfold okK; decide +kernel
theorem okk_108 : okK mt_108 := by unfold okK; decide +kernel
theorem okk_109 : okK mt_109 := by unfold okK; decide +kernel
theorem okk_110 : okK mt_110 := by unfold okK; decide +kernel
theorem okk_111 : okK mt_111 := by unfold okK; decide +kernel
theorem okk_112 : okK mt_112 := by unfold okK; decide +kernel
theorem okk_113 : okK mt_113 := by unfold okK; decide +kernel
theorem okk_114 : okK mt_114 := by unfold okK; decide +kernel
theorem okk_115 : okK mt_115 := by unfold okK; decide +kernel
theorem okk_116 : okK mt_116 := by unfold okK; decide +kernel
theorem okk_117 : okK mt_117 := by unfold okK; decide +kernel
theorem okk_118 : okK mt_118 := by unfold okK; decide +kernel
theorem okk_119 : okK mt_119 := by unfold okK; decide +kernel
theorem okk_120 : okK mt_120 := by unfold okK; decide +kernel
theorem okk_121 : okK mt_121 := by unfold okK; decide +kernel
theorem okk_122 : okK mt_122 := by unfold okK; decide +kernel
theorem okk_123 : okK mt_123 := by unfold okK; decide +kernel
theorem okk_124 : okK mt_124 := by unfold okK; decide +kernel
theorem okk_125 : okK mt_125 := by unfold okK; decide +kernel
theorem okk_126 : okK mt_126 := by unfold okK; decide +kernel
theorem okk_127 : okK mt_127 := by unfold okK; decide +kernel
theorem OKK_3 : ∀ e ∈ MTL_3, okK e := List.forall_mem_cons.mpr ⟨okk_96, List.forall_mem_cons.mpr ⟨okk_97, List.forall_mem_cons.mpr ⟨okk_98, List.forall_mem_cons.mpr ⟨okk_99, List.forall_mem_cons.mpr ⟨okk_100, List.forall_mem_cons.mpr ⟨okk_101, List.forall_mem_cons.mpr ⟨okk_102, List.forall_mem_cons.mpr ⟨okk_103, List.forall_mem_cons.mpr ⟨okk_104, List.forall_mem_cons.mpr ⟨okk_105, List.forall_mem_cons.mpr ⟨okk_106, List.forall_mem_cons.mpr ⟨okk_107, List.forall_mem_cons.mpr ⟨okk_108, List.forall_mem_cons.mpr ⟨okk_109, List.forall_mem_cons.mpr ⟨okk_110, List.forall_mem_cons.mpr ⟨okk_111, List.forall_mem_cons.mpr ⟨okk_112, List.forall_mem_cons.mpr ⟨okk_113, List.forall_mem_cons.mpr ⟨okk_114, List.forall_mem_cons.mpr ⟨okk_115, List.forall_mem_cons.mpr ⟨okk_116, List.forall_mem_cons.mpr ⟨okk_117, List.forall_mem_cons.mpr ⟨okk_118, List.forall_mem_cons.mpr ⟨okk_119, List.forall_mem_cons.mpr ⟨okk_120, List.forall_mem_cons.mpr ⟨okk_121, List.forall_mem_cons.mpr ⟨okk_122, List.forall_mem_cons.mpr ⟨okk_123, List.forall_mem_cons.mpr ⟨okk_124, List.forall_mem_cons.mpr ⟨okk_125, List.forall_mem_cons.mpr ⟨okk_126, List.forall_mem_cons.mpr ⟨okk_127, fun _ h => absurd h List.not_mem_nil⟩⟩⟩⟩⟩⟩⟩⟩⟩⟩⟩⟩⟩⟩⟩⟩⟩⟩⟩⟩⟩⟩⟩⟩⟩⟩⟩⟩⟩⟩⟩⟩
theorem okk_224 : okK mt_224 := by unfold okK; decide +kernel
theorem okk_225 : okK mt_225 := by unfold okK; decide +kernel
theorem okk_226 : okK mt_226 := by unfold okK; decide +kernel
theorem okk_227 : okK mt_227 := by unfold okK; decide +kernel
theorem okk_228 : okK mt_228 := by unfold okK; decide +kernel
theorem okk_229 : okK mt_229 := by unfold okK; decide +kernel
theorem okk_230 : okK mt_230 := by unfold okK; decide +kernel
theorem okk_231 : okK mt_231 := by unfold okK; decide +kernel
theorem okk_232 : okK mt_232 := by unfold okK; decide +kernel
theorem okk_233 : okK mt_233 := by unfold okK; decide +kernel
theorem okk_234 : okK mt_234 := by unfold okK; decide +kernel
theorem okk_235 : okK mt_235 := by unfold okK; decide +kernel
theorem okk_236 : okK mt_236 := by unfold okK; decide +kernel
theorem okk_237 : okK mt_237 := by unfold okK; decide +kernel
theorem okk_238 : okK mt_238 := by unfold okK; decide +kernel
theorem okk_239 : okK mt_239 := by unfold okK; decide +kernel
theorem okk_240 : okK mt_240 := by unfold okK; decide +kernel
theorem okk_241 : okK mt_241 := by unfold okK; decide +kernel
theorem okk_242 : okK mt_242 := by unfold okK; decide +kernel
theorem okk_243 : okK mt_243 := by unfold okK; decide +kernel
theorem okk_244 : okK mt_244 := by unfold okK; decide +kernel
theorem okk_245 : okK mt_245 := by unfold okK; decide +kernel
theorem okk_246 : okK mt_246 := by unfold okK; decide +kernel
theorem okk_247 : okK mt_247 := by unfold okK; decide +kernel
theorem okk_248 : okK mt_248 := by unfold okK; decide +kernel
theorem okk_249 : okK mt_249 := by unfold okK; decide +kernel
theorem okk_250 : okK mt_250 := by unfold okK; decide +kernel
theorem okk_251 : okK mt_251 := by unfold okK; decide +kernel
theorem okk_252 : okK mt_252 := by unfold okK; decide +kernel
theorem okk_253 : okK mt_253 := by unfold okK; decide +kernel
theorem okk_254 : okK mt_254 := by unfold okK; decide +kernel
theorem okk_255 : okK mt_255 := by unfold okK; decide +kernel
theorem OKK_7 : ∀ e ∈ MTL_7, okK e := List.forall_mem_cons.mpr ⟨okk_224, List.forall_mem_cons.mpr ⟨okk_225, List.forall_mem_cons.mpr ⟨okk_226, List.forall_mem_cons.mpr ⟨okk_227, List.forall_mem_cons.mpr ⟨okk_228, List.forall_mem_cons.mpr ⟨okk_229, List.forall_mem_cons.mpr ⟨okk_230, List.forall_mem_cons.mpr ⟨okk_231, List.forall_mem_cons.mpr ⟨okk_232, List.forall_mem_cons.mpr ⟨okk_233, List.forall_mem_cons.mpr ⟨okk_234, List.forall_mem_cons.mpr ⟨okk_235, List.forall_mem_cons.mpr ⟨okk_236, List.forall_mem_cons.mpr ⟨okk_237, List.forall_mem_cons.mpr ⟨okk_238, List.forall_mem_cons.mpr ⟨okk_239, List.forall_mem_cons.mpr ⟨okk_240, List.forall_mem_cons.mpr ⟨okk_241, List.forall_mem_cons.mpr ⟨okk_242, List.forall_mem_cons.mpr ⟨okk_243, List.forall_mem_cons.mpr ⟨okk_244, List.forall_mem_cons.mpr ⟨okk_245, List.forall_mem_cons.mpr ⟨okk_246, List.forall_mem_cons.mpr ⟨okk_247, List.forall_mem_cons.mpr ⟨okk_248, List.forall_mem_cons.mpr ⟨okk_249, List.forall_mem_cons.mpr ⟨okk_250, List.forall_mem_cons.mpr ⟨okk_251, List.forall_mem_cons.mpr ⟨okk_252, List.forall_mem_cons.mpr ⟨okk_253, List.forall_mem_cons.mpr ⟨okk_254, List.forall_mem_cons.mpr ⟨okk_255, fun _ h => absurd h List.not_mem_nil⟩⟩⟩⟩⟩⟩⟩⟩⟩⟩⟩⟩⟩⟩⟩⟩⟩⟩⟩⟩⟩⟩⟩⟩⟩⟩⟩⟩⟩⟩⟩⟩
end
section
theorem okk_128 : okK mt_128 := by unfold okK; decide +kernel
theorem okk_129 : okK mt_129 := by unfold okK; decide +kernel
theorem okk_130 : okK mt_130 := by unfold okK; decide +kernel
theorem okk_131 : okK mt_131 := by unfold okK; decide +kernel
theorem okk_132 : okK mt_132 := by unfold okK; decide +kernel
theorem okk_133 : okK mt_133 := by unfold okK; decide +kernel
theorem okk_134 : okK mt_134 := by unfold okK; decide +kernel
theorem okk_135 : okK mt_135 := by unfold okK; decide +kernel
theorem okk_136 : okK mt_136 := by unfold okK; decide +kernel
theorem okk_137 : okK mt_137 := by unfold okK; decide +kernel
theorem okk_138 : okK mt_138 := by unfold okK; decide +kernel
theorem okk_139 : okK mt_139 := by unfold okK; decide +kernel
theorem okk_140 : okK mt_140 := by unfold okK; decide +kernel
theorem okk_141 : okK mt_141 := by unfold okK; decide +kernel
theorem okk_142 : okK mt_142 := by unfold okK; decide +kernel
theorem okk_143 : okK mt_143 := by unfold okK; decide +kernel
theorem okk_144 : okK mt_144 := by unfold okK; decide +kernel
theorem okk_145 : okK mt_145 := by unfold okK; decide +kernel
theorem okk_146 : okK mt_146 := by unfold okK; decide +kernel
theorem okk_147 : okK mt_147 := by unfold okK; decide +kernel
theorem okk_148 : okK mt_148 := by unfold okK; decide +kernel
theorem okk_149 : okK mt_149 := by unfold okK; decide +kernel
theorem okk_150 : okK mt_150 := by unfold okK; decide +kernel
theorem okk_151 : okK mt_151 := by unfold okK; decide +kernel
theorem okk_152 : okK mt_152 := by unfold okK; decide +kernel
theorem okk_153 : okK mt_153 := by unfold okK; decide +kernel
theorem okk_154 : okK mt_154 := by unfold okK; decide +kernel
theorem okk_155 : okK mt_155 := by unfold okK; decide +kernel
theorem okk_156 : okK mt_156 := by unfold okK; decide +kernel
theorem okk_157 : okK mt_157 := by unfold okK; decide +kernel
theorem okk_158 : okK mt_158 := by unfold okK; decide +kernel
theorem okk_159 : okK mt_159 := by unfold okK; decide +kernel
theorem OKK_4 : ∀ e ∈ MTL_4, okK e := List.forall_mem_cons.mpr ⟨okk_128, List.forall_mem_cons.mpr ⟨okk_129, List.forall_mem_cons.mpr ⟨okk_130, List.forall_mem_cons.mpr ⟨okk_131, List.forall_mem_cons.mpr ⟨okk_132, List.forall_mem_cons.mpr ⟨okk_133, List.forall_mem_cons.mpr ⟨okk_134, List.forall_mem_cons.mpr ⟨okk_135, List.forall_mem_cons.mpr ⟨okk_136, List.forall_mem_cons.mpr ⟨okk_137, List.forall_mem_cons.mpr ⟨okk_138, List.forall_mem_cons.mpr ⟨okk_139, List.forall_mem_cons.mpr ⟨okk_140, List.forall_mem_cons.mpr ⟨okk_141, List.forall_mem_cons.mpr ⟨okk_142, List.forall_mem_cons.mpr ⟨okk_143, List.forall_mem_cons.mpr ⟨okk_144, List.forall_mem_cons.mpr ⟨okk_145, List.forall_mem_cons.mpr ⟨okk_146, List.forall_mem_cons.mpr ⟨okk_147, List.forall_mem_cons.mpr ⟨okk_148, List.forall_mem_cons.mpr ⟨okk_149, List.forall_mem_cons.mpr ⟨okk_150, List.forall_mem_cons.mpr ⟨okk_151, List.forall_mem_cons.mpr ⟨okk_152, List.forall_mem_cons.mpr ⟨okk_153, List.forall_mem_cons.mpr ⟨okk_154, List.forall_mem_cons.mpr ⟨okk_155, List.forall_mem_cons.mpr ⟨okk_156, List.forall_mem_cons.mpr ⟨okk_157, List.forall_mem_cons.mpr ⟨okk_158, List.forall_mem_cons.mpr ⟨okk_159, fun _ h => absurd h List.not_mem_nil⟩⟩⟩⟩⟩⟩⟩⟩⟩⟩⟩⟩⟩⟩⟩⟩⟩⟩⟩⟩⟩⟩⟩⟩⟩⟩⟩⟩⟩⟩⟩⟩
theorem okk_256 : okK mt_256 := by unfold okK; decide +kernel
theorem okk_257 : okK mt_257 := by unfold okK; decide +kernel
theorem okk_258 : okK mt_258 := by unfold okK; decide +kernel
theorem okk_259 : okK mt_259 := by unfold okK; decide +kernel
theorem okk_260 : okK mt_260 := by unfold okK; decide +kernel
theorem okk_261 : okK mt_261 := by unfold okK; decide +kernel
theorem okk_262 : okK mt_262 := by unfold okK; decide +kernel
theorem okk_263 : okK mt_263 := by unfold okK; decide +kernel
theorem okk_264 : okK mt_264 := by unfold okK; decide +kernel
theorem okk_265 : okK mt_265 := by unfold okK; decide +kernel
theorem okk_266 : okK mt_266 := by unfold okK; decide +kernel
theorem okk_267 : okK mt_267 := by unfold okK; decide +kernel
theorem okk_268 : okK mt_268 := by unfold okK; decide +kernel
theorem okk_269 : okK mt_269 := by unfold okK; decide +kernel
theorem okk_270 : okK mt_270 := by unfold okK; decide +kernel
theorem okk_271 : okK mt_271 := by unfold okK; decide +kernel
theorem okk_272 : okK mt_272 := by unfold okK; decide +kernel
theorem okk_273 : okK mt_273 := by unfold okK; decide +kernel
theorem okk_274 : okK mt_274 := by unfold okK; decide +kernel
theorem okk_275 : okK mt_275 := by unfold okK; decide +kernel
theorem okk_276 : okK mt_276 := by unfold okK; decide +kernel
theorem okk_277 : okK mt_277 := by unfold okK; decide +kernel
theorem okk_278 : okK mt_278 := by unfold okK; decide +kernel
theorem okk_279 : okK mt_279 := by unfold okK; decide +kernel
theorem okk_280 : okK mt_280 := by unfold okK; decide +kernel
theorem okk_281 : okK mt_281 := by unfold okK; decide +kernel
theorem okk_282 : okK mt_282 := by unfold okK; decide +kernel
theorem okk_283 : okK mt_283 := by unfold okK; decide +kernel
theorem okk_284 : okK mt_284 := by unfold okK; decide +kernel
theorem okk_285 : okK mt_285 := by unfold okK; decide +kernel
theorem okk_286 : okK mt_286 := by unfold okK; decide +kernel
theorem okk_287 : okK mt_287 := by unfold okK; decide +kernel
theorem OKK_8 : ∀ e ∈ MTL_8, okK e := List.forall_mem_cons.mpr ⟨okk_256, List.forall_mem_cons.mpr ⟨okk_257, List.forall_mem_cons.mpr ⟨okk_258, List.forall_mem_cons.mpr ⟨okk_259, List.forall_mem_cons.mpr ⟨okk_260, List.forall_mem_cons.mpr ⟨okk_261, List.forall_mem_cons.mpr ⟨okk_262, List.forall_mem_cons.mpr ⟨okk_263, List.forall_mem_cons.mpr ⟨okk_264, List.forall_mem_cons.mpr ⟨okk_265, List.forall_mem_cons.mpr ⟨okk_266, List.forall_mem_cons.mpr ⟨okk_267, List.forall_mem_cons.mpr ⟨okk_268, List.forall_mem_cons.mpr ⟨okk_269, List.forall_mem_cons.mpr ⟨okk_270, List.forall_mem_cons.mpr ⟨okk_271, List.forall_mem_cons.mpr ⟨okk_272, List.forall_mem_cons.mpr ⟨okk_273, List.forall_mem_cons.mpr ⟨okk_274, List.forall_mem_cons.mpr ⟨okk_275, List.forall_mem_cons.mpr ⟨okk_276, List.forall_mem_cons.mpr ⟨okk_277, List.forall_mem_cons.mpr ⟨okk_278, List.forall_mem_cons.mpr ⟨okk_279, List.forall_mem_cons.mpr ⟨okk_280, List.forall_mem_cons.mpr ⟨okk_281, List.forall_mem_cons.mpr ⟨okk_282, List.forall_mem_cons.mpr ⟨okk_283, List.forall_mem_cons.mpr ⟨okk_284, List.forall_mem_cons.mpr ⟨okk_285, List.forall_mem_cons.mpr ⟨okk_286, List.forall_mem_cons.mpr ⟨okk_287, fun _ h => absurd h List.not_mem_nil⟩⟩⟩⟩⟩⟩⟩⟩⟩⟩⟩⟩⟩⟩⟩⟩⟩⟩⟩⟩⟩⟩⟩⟩⟩⟩⟩⟩⟩⟩⟩⟩
end
section
theorem okk_160 : okK mt_160 := by unfold okK; decide +kernel
theorem okk_161 : okK mt_161 := by unfold okK; decide +kernel
theorem okk_162 : okK mt_162 := by unfold okK; decide +kernel
theorem okk_163 : okK mt_163 := by unfold okK; decide +kernel
theorem okk_164 : okK mt_164 := by unfold okK; decide +kernel
theorem okk_165 : okK mt_165 := by unfold okK; decide +kernel
theorem okk_166 : okK mt_166 := by unfold okK; decide +kernel
theorem okk_167 : okK mt_167 := by unfold okK; decide +kernel
theorem okk_168 : okK mt_168 := by unfold okK; decide +kernel
theorem okk_169 : okK mt_169 := by unfold okK; decide +kernel
theorem okk_170 : okK mt_170 := by unfold okK; decide +kernel
theorem okk_171 : okK mt_171 := by unfold okK; decide +kernel
theorem okk_172 : okK mt_172 := by unfold okK; decide +kernel
theorem okk_173 : okK mt_173 := by unfold okK; decide +kernel
theorem okk_174 : okK mt_174 := by unfold okK; decide +kernel
theorem okk_175 : okK mt_175 := by unfold okK; decide +kernel
theorem okk_176 : okK mt_176 := by unfold okK; decide +kernel
theorem okk_177 : okK mt_177 := by unfold okK; decide +kernel
theorem okk_178 : okK mt_178 := by unfold okK; decide +kernel
theorem okk_179 : okK mt_179 := by unfold okK; decide +kernel
theorem okk_180 : okK mt_180 := by unfold okK; decide +kernel
theorem okk_181 : okK mt_181 := by unfold okK; decide +kernel
theorem okk_182 : okK mt_182 := by unfold okK; decide +kernel
theorem okk_183 : okK mt_183 := by unfold okK; decide +kernel
theorem okk_184 : okK mt_184 := by unfold okK; decide +kernel
theorem okk_185 : okK mt_185 := by unfold okK; decide +kernel
theorem okk_186 : okK mt_186 := by unfold okK; decide +kernel
theorem okk_187 : okK mt_187 := by unfold okK; decide +kernel
theorem okk_188 : okK mt_188 := by unfold okK; decide +kernel
theorem okk_189 : okK mt_189 := by unfold okK; decide +kernel
theorem okk_190 : okK mt_190 := by unfold okK; decide +kernel
theorem okk_191 : okK mt_191 := by unfold okK; decide +kernel
theorem OKK_5 : ∀ e ∈ MTL_5, okK e := List.forall_mem_cons.mpr ⟨okk_160, List.forall_mem_cons.mpr ⟨okk_161, List.forall_mem_cons.mpr ⟨okk_162, List.forall_mem_cons.mpr ⟨okk_163, List.forall_mem_cons.mpr ⟨okk_164, List.forall_mem_cons.mpr ⟨okk_165, List.forall_mem_cons.mpr ⟨okk_166, List.forall_mem_cons.mpr ⟨okk_167, List.forall_mem_cons.mpr ⟨okk_168, List.forall_mem_cons.mpr ⟨okk_169, List.forall_mem_cons.mpr ⟨okk_170, List.forall_mem_cons.mpr ⟨okk_171, List.forall_mem_cons.mpr ⟨okk_172, List.forall_mem_cons.mpr ⟨okk_173, List.forall_mem_cons.mpr ⟨okk_174, List.forall_mem_cons.mpr ⟨okk_175, List.forall_mem_cons.mpr ⟨okk_176, List.forall_mem_cons.mpr ⟨okk_177, List.forall_mem_cons.mpr ⟨okk_178, List.forall_mem_cons.mpr ⟨okk_179, List.forall_mem_cons.mpr ⟨okk_180, List.forall_mem_cons.mpr ⟨okk_181, List.forall_mem_cons.mpr ⟨okk_182, List.forall_mem_cons.mpr ⟨okk_183, List.forall_mem_cons.mpr ⟨okk_184, List.forall_mem_cons.mpr ⟨okk_185, List.forall_mem_cons.mpr ⟨okk_186, List.forall_mem_cons.mpr ⟨okk_187, List.forall_mem_cons.mpr ⟨okk_188, List.forall_mem_cons.mpr ⟨okk_189, List.forall_mem_cons.mpr ⟨okk_190, List.forall_mem_cons.mpr ⟨okk_191, fun _ h => absurd h List.not_mem_nil⟩⟩⟩⟩⟩⟩⟩⟩⟩⟩⟩⟩⟩⟩⟩⟩⟩⟩⟩⟩⟩⟩⟩⟩⟩⟩⟩⟩⟩⟩⟩⟩
theorem okk_288 : okK mt_288 := by unfold okK; decide +kernel
theorem okk_289 : okK mt_289 := by unfold okK; decide +kernel
theorem okk_290 : okK mt_290 := by unfold okK; decide +kernel
theorem okk_291 : okK mt_291 := by unfold okK; decide +kernel
theorem okk_292 : okK mt_292 := by unfold okK; decide +kernel
theorem okk_293 : okK mt_293 := by unfold okK; decide +kernel
theorem okk_294 : okK mt_294 := by unfold okK; decide +kernel
theorem okk_295 : okK mt_295 := by unfold okK; decide +kernel
theorem okk_296 : okK mt_296 := by unfold okK; decide +kernel
theorem okk_297 : okK mt_297 := by unfold okK; decide +kernel
theorem okk_298 : okK mt_298 := by unfold okK; decide +kernel
theorem okk_299 : okK mt_299 := by unfold okK; decide +kernel
theorem okk_300 : okK mt_300 := by unfold okK; decide +kernel
theorem okk_301 : okK mt_301 := by unfold okK; decide +kernel
theorem okk_302 : okK mt_302 := by unfold okK; decide +kernel
theorem okk_303 : okK mt_303 := by unfold okK; decide +kernel
theorem okk_304 : okK mt_304 := by unfold okK; decide +kernel
theorem okk_305 : okK mt_305 := by unfold okK; decide +kernel
theorem okk_306 : okK mt_306 := by unfold okK; decide +kernel
theorem okk_307 : okK mt_307 := by unfold okK; decide +kernel
theorem okk_308 : okK mt_308 := by unfold okK; decide +kernel
theorem okk_309 : okK mt_309 := by unfold okK; decide +kernel
theorem okk_310 : okK mt_310 := by unfold okK; decide +kernel
theorem okk_311 : okK mt_311 := by unfold okK; decide +kernel
theorem okk_312 : okK mt_312 := by unfold okK; decide +kernel
theorem okk_313 : okK mt_313 := by unfold okK; decide +kernel
theorem okk_314 : okK mt_314 := by unfold okK; decide +kernel
theorem okk_315 : okK mt_315 := by unfold okK; decide +kernel
theorem okk_316 : okK mt_316 := by unfold okK; decide +kernel
theorem okk_317 : okK mt_317 := by unfold okK; decide +kernel
theorem okk_318 : okK mt_318 := by unfold okK; decide +kernel
theorem okk_319 : okK mt_319 := by unfold okK; decide +kernel
theorem OKK_9 : ∀ e ∈ MTL_9, okK e := List.forall_mem_cons.mpr ⟨okk_288, List.forall_mem_cons.mpr ⟨okk_289, List.forall_mem_cons.mpr ⟨okk_290, List.forall_mem_cons.mpr ⟨okk_291, List.forall_mem_cons.mpr ⟨okk_292, List.forall_mem_cons.mpr ⟨okk_293, List.forall_mem_cons.mpr ⟨okk_294, List.forall_mem_cons.mpr ⟨okk_295, List.forall_mem_cons.mpr ⟨okk_296, List.forall_mem_cons.mpr ⟨okk_297, List.forall_mem_cons.mpr ⟨okk_298, List.forall_mem_cons.mpr ⟨okk_299, List.forall_mem_cons.mpr ⟨okk_300, List.forall_mem_cons.mpr ⟨okk_301, List.forall_mem_cons.mpr ⟨okk_302, List.forall_mem_cons.mpr ⟨okk_303, List.forall_mem_cons.mpr ⟨okk_304, List.forall_mem_cons.mpr ⟨okk_305, List.forall_mem_cons.mpr ⟨okk_306, List.forall_mem_cons.mpr ⟨okk_307, List.forall_mem_cons.mpr ⟨okk_308, List.forall_mem_cons.mpr ⟨okk_309, List.forall_mem_cons.mpr ⟨okk_310, List.forall_mem_cons.mpr ⟨okk_311, List.forall_mem_cons.mpr ⟨okk_312, List.forall_mem_cons.mpr ⟨okk_313, List.forall_mem_cons.mpr ⟨okk_314, List.forall_mem_cons.mpr ⟨okk_315, List.forall_mem_cons.mpr ⟨okk_316, List.forall_mem_cons.mpr ⟨okk_317, List.forall_mem_cons.mpr ⟨okk_318, List.forall_mem_cons.mpr ⟨okk_319, fun _ h => absurd h List.not_mem_nil⟩⟩⟩⟩⟩⟩⟩⟩⟩⟩⟩⟩⟩⟩⟩⟩⟩⟩⟩⟩⟩⟩⟩⟩⟩⟩⟩⟩⟩⟩⟩⟩
end
section
theorem okk_192 : okK mt_192 := by unfold okK; decide +kernel
theorem okk_193 : okK mt_193 := by unfold okK; decide +kernel
theorem okk_194 : okK mt_194 := by unfold okK; decide +kernel
theorem okk_195 : okK mt_195 := by unfold okK; decide +kernel
theorem okk_196 : okK mt_196 := by unfold okK; decide +kernel
theorem okk_197 : okK mt_197 := by unfold okK; decide +kernel
theorem okk_198 : okK mt_198 := by unfold okK; decide +kernel
theorem okk_199 : okK mt_199 := by unfold okK; decide +kernel
theorem okk_200 : okK mt_200 := by unfold okK; decide +kernel
theorem okk_201 : okK mt_201 := by unfold okK; decide +kernel
theorem okk_202 : okK mt_202 := by unfold okK; decide +kernel
theorem okk_203 : okK mt_203 := by unfold okK; decide +kernel
theorem okk_204 : okK mt_204 := by unfold okK; decide +kernel
theorem okk_205 : okK mt_205 := by unfold okK; decide +kernel
theorem okk_206 : okK mt_206 := by unfold okK; decide +kernel
theorem okk_207 : okK mt_207 := by unfold okK; decide +kernel
theorem okk_208 : okK mt_208 := by unfold okK; decide +kernel
theorem okk_209 : okK mt_209 := by unfold okK; decide +kernel
theorem okk_210 : okK mt_210 := by unfold okK; decide +kernel
theorem okk_211 : okK mt_211 := by unfold okK; decide +kernel
theorem okk_212 : okK mt_212 := by unfold okK; decide +kernel
theorem okk_213 : okK mt_213 := by unfold okK; decide +kernel
theorem okk_214 : okK mt_214 := by unfold okK; decide +kernel
theorem okk_215 : okK mt_215 := by unfold okK; decide +kernel
theorem okk_216 : okK mt_216 := by unfold okK; decide +kernel
theorem okk_217 : okK mt_217 := by unfold okK; decide +kernel
theorem okk_218 : okK mt_218 := by unfold okK; decide +kernel
theorem okk_219 : okK mt_219 := by unfold okK; decide +kernel
theorem okk_220 : okK mt_220 := by unfold okK; decide +kernel
theorem okk_221 : okK mt_221 := by unfold okK; decide +kernel
theorem okk_222 : okK mt_222 := by unfold okK; decide +kernel
theorem okk_223 : okK mt_223 := by unfold okK; decide +kernel
theorem OKK_6 : ∀ e ∈ MTL_6, okK e := List.forall_mem_cons.mpr ⟨okk_192, List.forall_mem_cons.mpr ⟨okk_193, List.forall_mem_cons.mpr ⟨okk_194, List.forall_mem_cons.mpr ⟨okk_195, List.forall_mem_cons.mpr ⟨okk_196, List.forall_mem_cons.mpr ⟨okk_197, List.forall_mem_cons.mpr ⟨okk_198, List.forall_mem_cons.mpr ⟨okk_199, List.forall_mem_cons.mpr ⟨okk_200, List.forall_mem_cons.mpr ⟨okk_201, List.forall_mem_cons.mpr ⟨okk_202, List.forall_mem_cons.mpr ⟨okk_203, List.forall_mem_cons.mpr ⟨okk_204, List.forall_mem_cons.mpr ⟨okk_205, List.forall_mem_cons.mpr ⟨okk_206, List.forall_mem_cons.mpr ⟨okk_207, List.forall_mem_cons.mpr ⟨okk_208, List.forall_mem_cons.mpr ⟨okk_209, List.forall_mem_cons.mpr ⟨okk_210, List.forall_mem_cons.mpr ⟨okk_211, List.forall_mem_cons.mpr ⟨okk_212, List.forall_mem_cons.mpr ⟨okk_213, List.forall_mem_cons.mpr ⟨okk_214, List.forall_mem_cons.mpr ⟨okk_215, List.forall_mem_cons.mpr ⟨okk_216, List.forall_mem_cons.mpr ⟨okk_217, List.forall_mem_cons.mpr ⟨okk_218, List.forall_mem_cons.mpr ⟨okk_219, List.forall_mem_cons.mpr ⟨okk_220, List.forall_mem_cons.mpr ⟨okk_221, List.forall_mem_cons.mpr ⟨okk_222, List.forall_mem_cons.mpr ⟨okk_223, fun _ h => absurd h List.not_mem_nil⟩⟩⟩⟩⟩⟩⟩⟩⟩⟩⟩⟩⟩⟩⟩⟩⟩⟩⟩⟩⟩⟩⟩⟩⟩⟩⟩⟩⟩⟩⟩⟩
end
section
theorem okkl_0 : cd_345_0.all (fun q => okI ML mN mC 2 16 false code q.1 q.2 && okS 4 q.2) = true := by decide +kernel
theorem okkl_1 : cd_345_1.all (fun q => okI ML mN mC 2 16 false code q.1 q.2 && okS 4 q.2) = true := by decide +kernel
theorem okkl_2 : cd_345_2.all (fun q => okI ML mN mC 2 16 false code q.1 q.2 && okS 4 q.2) = true := by decide +kernel
theorem okkl_3 : cd_345_3.all (fun q => okI ML mN mC 2 16 false code q.1 q.2 && okS 4 q.2) = true := by decide +kernel
end
section
theorem all_take {α : Type} {f : α → Bool} {l : List α} {k : Nat} (h1 : (l.take k).all f = true) (h2 : (l.drop k).all f = true) : l.all f = true := by rw [← List.take_append_drop k l, List.all_append, h1, h2]; rfl
theorem okkl_4_0 : ((cd_345_4.drop 0).take 40).all (fun q => okI ML mN mC 2 16 false code q.1 q.2 && okS 4 q.2) = true := by decide +kernel
theorem okkl_4_1 : ((cd_345_4.drop 40).take 40).all (fun q => okI ML mN mC 2 16 false code q.1 q.2 && okS 4 q.2) = true := by decide +kernel
theorem okkl_4_2 : ((cd_345_4.drop 80).take 40).all (fun q => okI ML mN mC 2 16 false code q.1 q.2 && okS 4 q.2) = true := by decide +kernel
theorem okkl_4_3 : ((cd_345_4.drop 120).take 40).all (fun q => okI ML mN mC 2 16 false code q.1 q.2 && okS 4 q.2) = true := by decide +kernel
theorem okkl_4_4 : ((cd_345_4.drop 160).take 40).all (fun q => okI ML mN mC 2 16 false code q.1 q.2 && okS 4 q.2) = true := by decide +kernel
theorem okkl_4_5 : (cd_345_4.drop 200).all (fun q => okI ML mN mC 2 16 false code q.1 q.2 && okS 4 q.2) = true := by decide +kernel
theorem okkl_4 : cd_345_4.all (fun q => okI ML mN mC 2 16 false code q.1 q.2 && okS 4 q.2) = true := all_take okkl_4_0 (all_take okkl_4_1 (by rw [List.drop_drop]; exact all_take okkl_4_2 (by rw [List.drop_drop]; exact all_take okkl_4_3 (by rw [List.drop_drop]; exact all_take okkl_4_4 (by rw [List.drop_drop]; exact okkl_4_5)))))
end
section
theorem okkl_5_0 : ((cd_345_5.drop 0).take 40).all (fun q => okI ML mN mC 2 16 false code q.1 q.2 && okS 4 q.2) = true := by decide +kernel
theorem okkl_5_1 : ((cd_345_5.drop 40).take 40).all (fun q => okI ML mN mC 2 16 false code q.1 q.2 && okS 4 q.2) = true := by decide +kernel
theorem okkl_5_2 : ((cd_345_5.drop 80).take 40).all (fun q => okI ML mN mC 2 16 false code q.1 q.2 && okS 4 q.2) = true := by decide +kernel
theorem okkl_5_3 : ((cd_345_5.drop 120).take 40).all (fun q => okI ML mN mC 2 16 false code q.1 q.2 && okS 4 q.2) = true := by decide +kernel
theorem okkl_5_4 : ((cd_345_5.drop 160).take 40).all (fun q => okI ML mN mC 2 16 false code q.1 q.2 && okS 4 q.2) = true := by decide +kernel
theorem okkl_5_5 : (cd_345_5.drop 200).all (fun q => okI ML mN mC 2 16 false code q.1 q.2 && okS 4 q.2) = true := by decide +kernel
theorem okkl_5 : cd_345_5.all (fun q => okI ML mN mC 2 16 false code q.1 q.2 && okS 4 q.2) = true := all_take okkl_5_0 (all_take okkl_5_1 (by rw [List.drop_drop]; exact all_take okkl_5_2 (by rw [List.drop_drop]; exact all_take okkl_5_3 (by rw [List.drop_drop]; exact all_take okkl_5_4 (by rw [List.drop_drop]; exact okkl_5_5)))))
end
section
theorem okkl_6_0 : ((cd_345_6.drop 0).take 40).all (fun q => okI ML mN mC 2 16 false code q.1 q.2 && okS 4 q.2) = true := by decide +kernel
theorem okkl_6_1 : ((cd_345_6.drop 40).take 40).all (fun q => okI ML mN mC 2 16 false code q.1 q.2 && okS 4 q.2) = true := by decide +kernel
theorem okkl_6_2 : ((cd_345_6.drop 80).take 40).all (fun q => okI ML mN mC 2 16 false code q.1 q.2 && okS 4 q.2) = true := by decide +kernel
theorem okkl_6_3 : ((cd_345_6.drop 120).take 40).all (fun q => okI ML mN mC 2 16 false code q.1 q.2 && okS 4 q.2) = true := by decide +kernel
theorem okkl_6_4 : ((cd_345_6.drop 160).take 40).all (fun q => okI ML mN mC 2 16 false code q.1 q.2 && okS 4 q.2) = true := by decide +kernel
theorem okkl_6_5 : (cd_345_6.drop 200).all (fun q => okI ML mN mC 2 16 false code q.1 q.2 && okS 4 q.2) = true := by decide +kernel
theorem okkl_6 : cd_345_6.all (fun q => okI ML mN mC 2 16 false code q.1 q.2 && okS 4 q.2) = true := all_take okkl_6_0 (all_take okkl_6_1 (by rw [List.drop_drop]; exact all_take okkl_6_2 (by rw [List.drop_drop]; exact all_take okkl_6_3 (by rw [List.drop_drop]; exact all_take okkl_6_4 (by rw [List.drop_drop]; exact okkl_6_5)))))
end
section
theorem okkl_7_0 : ((cd_345_7.drop 0).take 40).all (fun q => okI ML mN mC 2 16 false code q.1 q.2 && okS 4 q.2) = true := by decide +kernel
theorem okkl_7_1 : ((cd_345_7.drop 40).take 40).all (fun q => okI ML mN mC 2 16 false code q.1 q.2 && okS 4 q.2) = true := by decide +kernel
theorem okkl_7_2 : ((cd_345_7.drop 80).take 40).all (fun q => okI ML mN mC 2 16 false code q.1 q.2 && okS 4 q.2) = true := by decide +kernel
theorem okkl_7_3 : ((cd_345_7.drop 120).take 40).all (fun q => okI ML mN mC 2 16 false code q.1 q.2 && okS 4 q.2) = true := by decide +kernel
theorem okkl_7_4 : ((cd_345_7.drop 160).take 40).all (fun q => okI ML mN mC 2 16 false code q.1 q.2 && okS 4 q.2) = true := by decide +kernel
theorem okkl_7_5 : (cd_345_7.drop 200).all (fun q => okI ML mN mC 2 16 false code q.1 q.2 && okS 4 q.2) = true := by decide +kernel
theorem okkl_7 : cd_345_7.all (fun q => okI ML mN mC 2 16 false code q.1 q.2 && okS 4 q.2) = true := all_take okkl_7_0 (all_take okkl_7_1 (by rw [List.drop_drop]; exact all_take okkl_7_2 (by rw [List.drop_drop]; exact all_take okkl_7_3 (by rw [List.drop_drop]; exact all_take okkl_7_4 (by rw [List.drop_drop]; exact okkl_7_5)))))
end
section
theorem okkl_8 : cd_345_8.all (fun q => okI ML mN mC 2 16 false code q.1 q.2 && okS 4 q.2) = true := by decide +kernel
end
section
theorem okk_345 : okK mt_345 := by
  show (cd_345).all (fun q => okI ML mN mC 2 16 false code q.1 q.2 && okS 4 q.2) = true
  unfold cd_345
  simp only [List.all_append, okkl_0, okkl_1, okkl_2, okkl_3, okkl_4, okkl_5, okkl_6, okkl_7, okkl_8, Bool.and_self]
theorem OKW : ∀ e ∈ MTL, okW e ∧ okU e := by
  unfold MTL
  simp only [List.forall_mem_append]
  exact ⟨OKW_0, OKW_1, OKW_2, OKW_3, OKW_4, OKW_5, OKW_6, OKW_7, OKW_8, OKW_9, OKW_10⟩
theorem OKK0 : ∀ e ∈ MTL, okK e := by
  unfold MTL
  simp only [List.forall_mem_append]
  exact ⟨OKK_0, OKK_1, OKK_2, OKK_3, OKK_4, OKK_5, OKK_6, OKK_7, OKK_8, OKK_9, OKK_10⟩
theorem mt_mem {m : Nat} (h : m ≠ 345) : mt m ∈ MTL := by
  unfold mt
  rw [if_neg h]
  by_cases hl : m < MTL.length
  · rw [List.getD_eq_getElem?_getD, List.getElem?_eq_getElem hl]; exact List.getElem_mem hl
  · rw [List.getD_eq_getElem?_getD, List.getElem?_eq_none (by omega)]; exact List.mem_append_left _ List.mem_cons_self
theorem OKK (m : Nat) : okK (mt m) := by
  by_cases h : m = 345
  · subst h; exact okk_345
  · exact OKK0 _ (mt_mem h)
theorem ML_ok : ∀ q ∈ ML, (tables_1[q.2.2.2.2]? = some (MLp q) ∧ (goodWord (MLp q) = true ∨ q.2.2.2.1 = 1)) ∧ q.2.2.1 < 345 := by decide +kernel
end
section
/-! calls, returns, and whole methods -/
theorem tk_spec : ∀ {n : Nat} {acc stk as r : List AV}, tk n acc stk = some (as, r) → as.reverse ++ r = acc.reverse ++ stk ∧ as.length = n + acc.length
  | 0, acc, stk, as, r, h => by
    have h : some (acc, stk) = some (as, r) := by rw [← h]; unfold tk; rfl
    cases h
    exact ⟨rfl, by omega⟩
  | n + 1, acc, [], as, r, h => by unfold tk at h; cases h
  | n + 1, acc, v :: s, as, r, h => by
    unfold tk at h
    obtain ⟨h1, h2⟩ := tk_spec h
    refine ⟨by rw [h1, List.reverse_cons, List.append_assoc]; rfl, by rw [h2, List.length_cons]; omega⟩
def LETB : List Int32 := [115, 100, 103, 109, 98, 97, 111, 119, 108, 104, 121, 113]
/-- what the tables and the old cells say, at any state -/
def Ky (base b0 sb : Nat) (av : Nat → Nat) (H00 : Heap) (sc : Nat × (Nat → Int)) (xs : Nat → Int32) (U : State) : Prop :=
  (∀ q ∈ ML, q.2.2.2.1 = 1 → va_Nw (MLp q) U) ∧ va_AO (oN 3) U ∧ va_X b0 sc.1 xs U H00 ∧ vk_R (oN 4) 118 "sdgmbaowlhyq" sb U ∧ vk_S 1 [12] [LETB] (fun _ => sb) av (fun q => base ≤ q) U H00 ∧ va_Z "java/lang/String" "COMPACT_STRINGS" "Z" (.int 1) (fun q => base ≤ q) U H00
theorem Ky_warm {base b0 sb : Nat} {av : Nat → Nat} {H00 : Heap} {sc : Nat × (Nat → Int)} {xs : Nat → Int32} {s U : State} (hW : s.WarmedH U.vm) (h : Ky base b0 sb av H00 sc xs s) : Ky base b0 sb av H00 sc xs U := by
  obtain ⟨h1, h2, h3, h4, h5, h6⟩ := h
  refine ⟨fun q hq hn => ?_, va_AO.moved hW.alike h2, va_X.moved hW.alike h3, vk_R.warm hW h4, vk_S.moved hW.alike h5, va_Z.moved hW.alike h6⟩
  have := h1 q hq hn
  unfold MLp at this ⊢
  rw [if_pos hn] at this ⊢
  exact va_Nw.warmM hW this
/-- the world at a state -/
def Wd (D : va_G) (base : Nat) (H00 : Heap) (sc : Nat × (Nat → Int)) (ad : Nat → Nat) (ca : Nat → ClassId) (tys : List (ClassId × FieldType)) (h : Hp) (U : State) : Prop :=
  va_P D classes (enW ad ca h) U.heap ∧ va_D (fun q => base ≤ q) (enW ad ca h) ∧ va_K D classes tys U ∧ (∀ a, a < h.2.2.1 → 20 ≤ (LAY a).1 → ∃ t0 : Nat, tys[t0]? = some (ca a, ety (LAY a).1)) ∧ wh h ∧ h.2.2.2 = sc ∧ base ≤ U.heap.size ∧ (∀ q, q < base → U.heap[q]? = H00[q]?)
noncomputable def rmD (d m : Nat) : Room := { frames := d + 8, cells := (mA m).1, slots := (mA m).2, locals := 64 * d + 1024 }
noncomputable def wsM (m : Nat) : List Cond := .code (mY m) (mB m) (mL m) (mR m) :: wT
def QcM (D : va_G) (base : Nat) (H00 : Heap) (sb b0 : Nat) (sc : Nat × (Nat → Int)) (ad : Nat → Nat) (h : Hp) (r : Option AV) (h' : Hp) : Array Value → State → Outcome → State → Prop := fun _ st oc t =>
  ∃ (ad' : Nat → Nat) (ca' : Nat → ClassId) (tys' : List (ClassId × FieldType)), ((∀ a, a < h.2.2.1 → ad' a = ad a) ∧ h.2.2.1 ≤ h'.2.2.1) ∧ oc = .returned (r.map (tr sb b0 ad')) ∧ Wd D base H00 sc ad' ca' tys' h' t ∧ st.heap.size ≤ t.heap.size ∧ (∀ v, r = some v → wv h'.2.2.1 v)
def Con (l : Launch) (D : va_G) (base : Nat) (H00 : Heap) (sb b0 : Nat) (av : Nat → Nat) (sc : Nat × (Nat → Int)) (xs : Nat → Int32) (d m : Nat) (as : List AV) (h : Hp) (r : Option AV) (h' : Hp) : Prop :=
  ∀ (ad : Nat → Nat) (ca : Nat → ClassId) (tys : List (ClassId × FieldType)), wvs h.2.2.1 as → argw as ≤ mL m →
    Met l (mY m) (wsM m) (rmD d m) (va_Pc (as.map (tr sb b0 ad)) (fun U => Wd D base H00 sc ad ca tys h U ∧ Ky base b0 sb av H00 sc xs U)) (QcM D base H00 sb b0 sc ad h r h') (mA m).1 (mA m).2 (fun q => base ≤ q)
theorem wT_good {w : Cond} (h : w ∈ wT) : (w.onTables && w.keeps) = true ∨ ∃ ty, w = .arrayClass ty := good_of_word (List.mem_filter.mp h).2
theorem code_good (y : MethodName) (b : ByteArray) (n : Nat) (r : Option FieldType) : goodWord (.code y b n r) = true := rfl
theorem wsM_in {m : Nat} (hm : m ≠ 345) : GoodIn wT (wsM m) := by
  intro w hw
  have hc : Cond.code (mY m) (mB m) (mL m) (mR m) ∈ wT := wT_t (OKW _ (mt_mem hm)).2 (code_good _ _ _ _)
  rcases List.mem_cons.mp hw with rfl | h
  · exact ⟨hc, wT_good hc⟩
  · exact ⟨h, wT_good h⟩
theorem z3 : ∀ a b c : Nat, a ≤ 40 → 64 * b + 1088 ≤ c → 8 + (a + 11) + (64 * b + 1024) ≤ c := fun a b c h1 h2 => by
  have h3 : 8 + (a + 11) ≤ 64 := Nat.le_trans (Nat.add_le_add_left (Nat.add_le_add_right h1 11) 8) (by decide)
  have h4 : 64 + (64 * b + 1024) = 64 * b + 1088 := by rw [Nat.add_comm, Nat.add_assoc]
  refine Nat.le_trans (Nat.add_le_add_right h3 _) ?_
  rw [h4]
  exact h2
section CALLS
variable {p : Program} {l : Launch} {e : Env} {R : Room} {s : State} {m : MethodId} {args : Array Value} {below : List Frame} {meth : Method} {c : Code} {H H0 : Heap} {locs : List Loc} {Q : State → Prop} {cc : ByteArray} {own : String} {nL : Nat} {sb b0 base : Nat} {ad : Nat → Nat} {ca : Nat → ClassId} {tys : List (ClassId × FieldType)} {D : va_G} {sc : Nat × (Nat → Int)} {xs : Nat → Int32} {av : Nat → Nat} {H00 : Heap} {o : Nat} {cells slots : Nat}
theorem call_on {mc ms pc : Nat} {ls : Array Slot} {st0 rest : List Value} {Qa : State → Outcome → State → Prop} {free : Addr → Prop} (hr : va_Run p l e R s m args below meth c H locs cells slots mc ms (F0 m pc ls st0) rest Qa free)
    (kk : ∀ (v : Option Value) (st₀ t : State) (lo : List Loc), st₀.heap = H → s.WarmedH t.vm → (∀ q ∈ lo, free q.base) → Qa st₀ (.returned v) t → W p l e R s m args below meth c t.heap (locs ++ lo) (cells + mc) (slots + ms) Q (F0 m (pc + 3) ls (v.toList ++ rest))) : W p l e R s m args below meth c H locs cells slots Q (F0 m pc ls st0) := by
  intro T hT X
  obtain ⟨v, st₀, t, T', lo, h1, X', hf, h2, h3, hq, goes⟩ := hr T hT X
  obtain ⟨t2, a1, b1⟩ := kk v st₀ t lo h1 (by rw [← h3]; exact X'.warmed) hf hq T' h2 X'
  exact ⟨t2, goes _ a1, b1⟩
/-- behind a call -/
theorem sE_on {gg : GG} {ls r : List AV} {pc k : Nat} {L : Array Slot} {h h' : Hp} {v : Option AV} {st0 : List Value} {a : Array Value}
    (hold : ∀ q, q < base → H0[q]? = H00[q]?) (hRl : Rl D base H0 s sc ad ca tys h H locs) (hl : lr sb b0 ad nL ls L) (hwr : wvs h.2.2.1 r) (hwl : wvs h.2.2.1 ls)
    (hr : va_Run p l e R s m args below meth c H locs gg.1 gg.2 (mA k).1 (mA k).2 (F0 m pc L st0) (r.map (tr sb b0 ad)) (QcM D base H00 sb b0 sc ad h v h' a) (fun q => base ≤ q))
    (K : ∀ (ad' : Nat → Nat) (ca' : Nat → ClassId) (tys' : List (ClassId × FieldType)) (H' : Heap) (locs' : List Loc), ((∀ a, a < h.2.2.1 → ad' a = ad a) ∧ h.2.2.1 ≤ h'.2.2.1) → Rl D base H0 s sc ad' ca' tys' h' H' locs' → wvs h'.2.2.1 (v.toList ++ r) → wvs h'.2.2.1 ls → lr sb b0 ad' nL ls L → W p l e R s m args below meth c H' locs' (gg.1 + (mA k).1) (gg.2 + (mA k).2) Q (F0 m (pc + 3) L ((v.toList ++ r).map (tr sb b0 ad')))) :
    W p l e R s m args below meth c H locs gg.1 gg.2 Q (F0 m pc L st0) := by
  refine call_on hr (fun v' st₀ t lo hst hW hf hq => ?_)
  obtain ⟨ad', ca', tys', hag, hoc, ⟨w1, w2, w3, w4, w5, w6, w7, w8⟩, hsz, hwv⟩ := hq
  have hv : v' = v.map (tr sb b0 ad') := by cases hoc; rfl
  subst hv
  obtain ⟨hP, hD, hK, hT, hS, hwh, hsc⟩ := hRl
  have K' := K ad' ca' tys' t.heap (locs ++ lo) hag ⟨w1, w2, va_K.moved hW.alike.symm w3, w4, ⟨Nat.le_trans hS.1 (by rw [← hst]; exact hsz), fun q h1 h2 => ?_, fun q hq => ?_⟩, w5, w6⟩ ?_ (wvs_up hwl hag.2) (lr_ad hag.1 hwl hl)
  · rw [List.map_append, trs_ad hag.1 hwr] at K'
    have : (v.map (tr sb b0 ad')).toList = v.toList.map (tr sb b0 ad') := by cases v <;> rfl
    rw [this]
    exact K'
  · have h3 : q < base := Nat.not_le.mp h2
    rw [w8 q h3, hold q h3]
  · rcases List.mem_append.mp hq with z | z
    · exact hS.2.2 q z
    · exact hf q z
  · intro z hz
    rcases List.mem_append.mp hz with z1 | z1
    · cases v with
      | none => cases z1
      | some y => rw [List.mem_singleton.mp z1]; exact hwv y rfl
    · exact (hwr z z1).up hag.2
theorem Pc_blind {as : List AV} {h : Hp} : FrameBlind (va_Pc (as.map (tr sb b0 ad)) (fun U => Wd D base H00 sc ad ca tys h U ∧ Ky base b0 sb av H00 sc xs U)) := by
  intro a U g mk hq
  obtain ⟨q1, ⟨w1, w2, w3, w4, w5, w6, w7, w8⟩, q2⟩ := hq
  exact ⟨q1, ⟨w1, w2, va_K.moved (u := U) (U := U.calling g mk a) (Vm.Alike.refl U.vm) w3, w4, w5, w6, w7, w8⟩, Ky_warm (s := U) (U := U.calling g mk a) (State.WarmedH.refl U) q2⟩
theorem Pc_at {as : List AV} {h : Hp} (hbase : base ≤ H0.size) (hold : ∀ q, q < base → H0[q]? = H00[q]?) (hRl : Rl D base H0 s sc ad ca tys h H locs) (hKy : Ky base b0 sb av H00 sc xs s) : ∀ U : State, U.heap = H → s.WarmedH U.vm → va_Pc (as.map (tr sb b0 ad)) (fun U => Wd D base H00 sc ad ca tys h U ∧ Ky base b0 sb av H00 sc xs U) (as.map (tr sb b0 ad)).toArray U := by
  intro U hU hW
  obtain ⟨hP, hD, hK, hT, hS, hwh, hsc⟩ := hRl
  refine ⟨rfl, ⟨by rw [hU]; exact hP, hD, va_K.moved hW.alike hK, hT, hwh, hsc, by rw [hU]; exact Nat.le_trans hbase hS.1, fun q hq => ?_⟩, Ky_warm hW hKy⟩
  rw [hU, hS.2.1 q (Nat.lt_of_lt_of_le hq hbase) (Nat.not_le.mpr hq)]
  exact hold q hq
/-- a call -/
theorem sE {d : Nat} {i : Ins} {gg : GG} {ls stk : List AV} {pc : Nat} {L : Array Slot} {h h' : Hp} {as r : List AV} {v : Option AV}
    (hx : p.tables.exec = Jvm.exec) (hb : c.code = cc) (hml : c.maxLocals = nL) (hown : s.vm.findClass own = some m.cls) (ho : oN o = own) (hts : ∀ w ∈ wT, w.before args s = true) (hbase : base ≤ H0.size) (hold : ∀ q, q < base → H0[q]? = H00[q]?) (hKy : Ky base b0 sb av H00 sc xs s)
    (hfr : d + 9 ≤ R.frames) (hlo : 64 * d + 1088 ≤ R.locals) (hg1 : gg.1 + (mA (i.2.2.1.headD 0)).1 ≤ R.cells) (hg2 : gg.2 + (mA (i.2.2.1.headD 0)).2 ≤ R.slots)
    (hRl : Rl D base H0 s sc ad ca tys h H locs) (hl : lr sb b0 ad nL ls L) (hws : wvs h.2.2.1 stk) (hwl : wvs h.2.2.1 ls)
    (hok : okE ML mN mC o cc pc i = true) (htk : tk (i.2.2.1.tail.headD 0) [] stk = some (as, r)) (hrc : rcv LAY (mC (i.2.2.1.headD 0)) as = true) (hr4 : r.length ≤ 4) (haw : argw as ≤ mL (i.2.2.1.headD 0))
    (IH : Con l D base H00 sb b0 av sc xs d (i.2.2.1.headD 0) as h v h')
    (K : ∀ (ad' : Nat → Nat) (ca' : Nat → ClassId) (tys' : List (ClassId × FieldType)) (H' : Heap) (locs' : List Loc), ((∀ a, a < h.2.2.1 → ad' a = ad a) ∧ h.2.2.1 ≤ h'.2.2.1) → Rl D base H0 s sc ad' ca' tys' h' H' locs' → wvs h'.2.2.1 (v.toList ++ r) → wvs h'.2.2.1 ls → lr sb b0 ad' nL ls L → W p l e R s m args below meth c H' locs' (gg.1 + (mA (i.2.2.1.headD 0)).1) (gg.2 + (mA (i.2.2.1.headD 0)).2) Q (F0 m i.2.1 L ((v.toList ++ r).map (tr sb b0 ad')))) :
    W p l e R s m args below meth c H locs gg.1 gg.2 Q (F0 m pc L (stk.map (tr sb b0 ad))) := by
  obtain ⟨hk, hok⟩ := Bool.and_eq_true_iff.mp hok
  obtain ⟨hnx, hlt, f1, f2⟩ := of_decide_eq_true hk
  have hq := ML_ok _ (getD_mem (d := (0, 0, 0, 0, 0)) hlt)
  obtain ⟨⟨hq1, hq2⟩, hq3⟩ := hq
  rw [hnx] at K
  generalize hki : i.2.2.1.headD 0 = k at *
  generalize hqi : ML.getD (i.2.2.1.tail.tail.headD 0) (0, 0, 0, 0, 0) = q at *
  have hqm : q ∈ ML := by rw [← hqi]; exact getD_mem hlt
  have hk345 : k ≠ 345 := by rw [← f2]; omega
  obtain ⟨⟨⟨u1, u2, u3⟩, ⟨g1, g2, g3⟩, ⟨y1, y2, y3⟩, y4, y5, y6, y7, y8, y9, y10, y11, y12⟩, u0⟩ := OKW _ (mt_mem hk345)
  have hmL : mL k ≤ 40 := y6
  obtain ⟨hst, hlen⟩ := tk_spec htk
  have hstk : stk = as.reverse ++ r := by rw [hst]; rfl
  have hlen : as.length = i.2.2.1.tail.headD 0 := by rw [hlen]; rfl
  have hwas : wvs h.2.2.1 as := fun z hz => hws z (by rw [hstk]; exact List.mem_append_left _ (List.mem_reverse.mpr hz))
  have hwr : wvs h.2.2.1 r := fun z hz => hws z (by rw [hstk]; exact List.mem_append_right _ hz)
  have hcs := cat_sum sb b0 ad r
  have hW8 : 2 * (F0 m pc L (stk.map (tr sb b0 ad))).monitorRoom + ((r.map (tr sb b0 ad)).map fun v => v.category).sum ≤ 8 := lv_room (by omega)
  have hM := IH ad ca tys hwas haw
  have hR : (rmD d k).frames + 1 ≤ R.frames ∧ 8 + (mL k + 11) + (rmD d k).locals ≤ R.locals := by
    have z1 : (rmD d k).frames = d + 8 := rfl
    have z2 : (rmD d k).locals = 64 * d + 1024 := rfl
    rw [z1, z2]
    exact ⟨hfr, z3 _ _ _ hmL hlo⟩
  have hF : CallFix p m c cc nL s args wT own := ⟨hx, hb, hml, hown, hts⟩
  have hLs : L.size = nL := hl.1.1
  have hinit : Cond.initialized (mY k).cls ∈ wT := wT_t u1 g1
  have hkind : (if mC k = 50 then Cond.static (mY k) else Cond.instanceMethod (mY k)) ∈ wT := wT_t u2 g2
  by_cases h100 : i.1 = 100
  · have hok : decide (decode cc pc = .ok (.invokevirtual q.2.1, 3) ∧ q.2.2.2.1 = 0 ∧ mC k < 13 ∧ i.2.2.1.tail.headD 0 = mN k + 1) = true := by rw [if_pos h100] at hok; exact hok
    obtain ⟨hd, hn0, hc13, hna⟩ := of_decide_eq_true hok
    have hlk : Cond.methodLink own q.2.1 (mY k) ∈ wT := by
      have h1 : MLp q = .methodLink own q.2.1 (mY k) := by unfold MLp; rw [if_neg (by rw [hn0]; decide), f1, ho, f2]
      rw [h1] at hq1 hq2
      exact wT_t hq1 (hq2.resolve_right (by rw [hn0]; decide))
    have hsel : Cond.selects (mY k).cls (mY k) (mY k) ∈ wT := List.mem_filter.mpr ⟨List.mem_of_getElem? (u3 hc13), g3⟩
    rw [if_neg (by omega)] at hkind
    cases as with
    | nil => rw [List.length_nil] at hlen; omega
    | cons a0 As =>
      unfold rcv at hrc
      rw [if_neg (by omega)] at hrc
      obtain ⟨t0, x0⟩ := a0
      have ht0 : t0 = 2 ∧ (LAY x0.toNat).1 = mC k := by
        split at hrc
        · next q r hz => cases hz; rw [if_neg (by omega)] at hrc; exact ⟨rfl, of_decide_eq_true hrc⟩
        · cases hrc
      obtain ⟨rfl, hcl⟩ := ht0
      have hxn := (wvs_c.mp hwas).1.2.2 rfl
      have hxl : x0.toNat < h.2.2.1 := by have h1 : 0 ≤ x0 ∧ x0 < (h.2.2.1 : Int) := hxn; omega
      have hat : (enW ad ca h)[x0.toNat]? = some (ad x0.toNat, .inr (mC k, enO ad (mC k) h x0.toNat)) := by rw [enW_at hxl, enC_obj hcl (by omega)]
      have hcw : CallW R s args own (mY k).cls q.2.1 (mY k) (mB k) (mL k) (mR k) (wsM k) (rmD d k) (mA k).1 (mA k).2 (mN k) := by
        refine cwV (mN k) hts (fun w hw => ?_) rfl rfl rfl ⟨rfl, y1, y2, y3⟩ hR
        rcases List.mem_append.mp hw with z | z
        · have hwt : w ∈ wT := by
            simp only [List.mem_cons, List.not_mem_nil, or_false] at z
            rcases z with rfl | rfl | rfl | rfl
            · exact hlk
            · exact hkind
            · exact hsel
            · exact hinit
          exact ⟨hwt, wT_good hwt⟩
        · exact wsM_in hk345 w z
      have hrcv : ∃ cell : Cell, H[ad x0.toNat]? = some cell ∧ cell.vm.isStatics = false ∧ s.vm.findClass (mY k).cls = some cell.cls := by
        have := va_recv hRl.2.2.1 hRl.1 (classes_at hc13) hat
        rw [show oN (mC k) = (mY k).cls from y7 hc13] at this
        exact this
      refine sE_on hold hRl hl hwr hwl (va_runV (As := As.map (tr sb b0 ad)) hF hM hcw ⟨Pc_blind, hrcv, Pc_at hbase hold hRl hKy⟩ rfl (by rw [List.length_map]; rw [List.length_cons] at hlen; omega) hLs ?_ hW8 hd ⟨hg1, hg2⟩) K
      show stk.map (tr sb b0 ad) = _
      rw [hstk, List.map_append, List.map_reverse, List.map_cons, List.reverse_cons, List.append_assoc]
      rfl
  · rw [if_neg h100] at hok
    by_cases h102 : i.1 = 102
    · have hok : decide (decode cc pc = .ok (.invokestatic q.2.1, 3) ∧ q.2.2.2.1 = 0 ∧ mC k = 50 ∧ i.2.2.1.tail.headD 0 = mN k) = true := by rw [if_pos h102] at hok; exact hok
      obtain ⟨hd, hn0, hc50, hna⟩ := of_decide_eq_true hok
      have hlk : Cond.methodLink own q.2.1 (mY k) ∈ wT := by
        have h1 : MLp q = .methodLink own q.2.1 (mY k) := by unfold MLp; rw [if_neg (by rw [hn0]; decide), f1, ho, f2]
        rw [h1] at hq1 hq2
        exact wT_t hq1 (hq2.resolve_right (by rw [hn0]; decide))
      rw [if_pos hc50] at hkind
      have hcw := va_cwS (R := R) (own := own) (index := q.2.1) (y := mY k) (bytes := mB k) (maxL := mL k) (mc := (mA k).1) (ms := (mA k).2) (ret := mR k) (ws := wsM k) (rm := rmD d k) (mN k) hts (fun w hw => by
        rcases List.mem_append.mp hw with z | z
        · have hwt : w ∈ wT := by
            simp only [List.mem_cons, List.not_mem_nil, or_false] at z
            rcases z with rfl | rfl | rfl
            · exact hlk
            · exact hkind
            · exact hinit
          exact ⟨hwt, wT_good hwt⟩
        · exact wsM_in hk345 w z) rfl rfl rfl ⟨y1, y2, y3⟩ hR
      refine sE_on hold hRl hl hwr hwl (va_runS (As := as.map (tr sb b0 ad)) hF hM hcw ⟨Pc_blind, Pc_at hbase hold hRl hKy⟩ rfl (by rw [List.length_map]; omega) hLs ?_ hW8 hd ⟨hg1, hg2⟩) K
      show stk.map (tr sb b0 ad) = _
      rw [hstk, List.map_append, List.map_reverse]
    · rw [if_neg h102] at hok
      by_cases h103 : i.1 = 103
      · have hok : decide (decode cc pc = .ok (.invokestatic q.2.1, 3) ∧ q.2.2.2.1 = 1 ∧ mC k = 50 ∧ i.2.2.1.tail.headD 0 = mN k) = true := by rw [if_pos h103] at hok; exact hok
        obtain ⟨hd, hn1, hc50, hna⟩ := of_decide_eq_true hok
        have hnw : va_Nw (.methodLinkNest own q.2.1 (mY k) "PitInspector") s := by
          have := hKy.1 q hqm hn1
          unfold MLp at this
          rw [if_pos hn1, f1, ho, f2] at this
          exact this
        rw [if_pos hc50] at hkind
        have hcw := va_cnB (R := R) (args := args) (own := own) (index := q.2.1) (y := mY k) (bytes := mB k) (maxL := mL k) (mc := (mA k).1) (ms := (mA k).2) (ret := mR k) (ws := wsM k) (rm := rmD d k) (mN k) hts (wsM_in hk345) rfl rfl rfl hnw (hts _ hinit) ⟨y1, y2, y3⟩ hR
        refine sE_on hold hRl hl hwr hwl (va_runSN (As := as.map (tr sb b0 ad)) hF hM ⟨hcw, hts _ hkind, trivial⟩ ⟨Pc_blind, Pc_at hbase hold hRl hKy⟩ rfl (by rw [List.length_map]; omega) hLs ?_ hW8 hd ⟨hg1, hg2⟩) K
        show stk.map (tr sb b0 ad) = _
        rw [hstk, List.map_append, List.map_reverse]
      · rw [if_neg h103] at hok
        have hspec : (decode cc pc = .ok (.invokespecial q.2.1, 3) ∧ mC k = 60 ∧ i.2.2.1.tail.headD 0 = mN k + 1) ∧ (q.2.2.2.1 = 0 ∨ q.2.2.2.1 = 1) := by
          by_cases h104 : i.1 = 104
          · rw [if_pos h104] at hok
            obtain ⟨a1, a2, a3, a4⟩ := of_decide_eq_true hok
            exact ⟨⟨a1, a3, a4⟩, Or.inl a2⟩
          · rw [if_neg h104] at hok
            by_cases h105 : i.1 = 105
            · rw [if_pos h105] at hok
              obtain ⟨a1, a2, a3, a4⟩ := of_decide_eq_true hok
              exact ⟨⟨a1, a3, a4⟩, Or.inr a2⟩
            · rw [if_neg h105] at hok; cases hok
        obtain ⟨⟨hd, hc60, hna⟩, hn01⟩ := hspec
        rw [if_neg (by omega)] at hkind
        have hret : mR k = none := y12 hc60
        have hws' : wsM k = Cond.code (mY k) (mB k) (mL k) none :: wT := by unfold wsM; rw [hret]
        cases as with
        | nil => rw [List.length_nil] at hlen; omega
        | cons a0 As =>
          unfold rcv at hrc
          rw [if_neg (by omega)] at hrc
          obtain ⟨t0, x0⟩ := a0
          have ht0 : t0 = 2 := by
            split at hrc
            · next q r hz => cases hz; rfl
            · cases hrc
          subst ht0
          have hstk' : stk.map (tr sb b0 ad) = (As.map (tr sb b0 ad)).reverse ++ .ref (ad x0.toNat) :: r.map (tr sb b0 ad) := by
            rw [hstk, List.map_append, List.map_reverse, List.map_cons, List.reverse_cons, List.append_assoc]
            rfl
          have hlenA : (As.map (tr sb b0 ad)).length = mN k := by rw [List.length_map]; rw [List.length_cons] at hlen; omega
          rcases hn01 with hn0 | hn1
          · have hlk : Cond.methodLink own q.2.1 (mY k) ∈ wT := by
              have h1 : MLp q = .methodLink own q.2.1 (mY k) := by unfold MLp; rw [if_neg (by rw [hn0]; decide), f1, ho, f2]
              rw [h1] at hq1 hq2
              exact wT_t hq1 (hq2.resolve_right (by rw [hn0]; decide))
            have hcw := cwI (R := R) (own := own) (index := q.2.1) (y := mY k) (bytes := mB k) (maxL := mL k) (mc := (mA k).1) (ms := (mA k).2) (ws := wsM k) (rm := rmD d k) (mN k) hts (wsM_in hk345) hws' rfl rfl (hts _ hinit) (hts _ hlk) (hts _ hkind) (y8 hc60) ⟨y1, y2, y3⟩ hR
            exact sE_on hold hRl hl hwr hwl (va_runI (As := As.map (tr sb b0 ad)) (b := ad x0.toNat) hF hM hcw ⟨Pc_blind, Pc_at hbase hold hRl hKy⟩ rfl hlenA hLs hstk' hW8 hd ⟨hg1, hg2⟩) K
          · have hnw : va_Nw (.methodLinkNest own q.2.1 (mY k) "PitInspector") s := by
              have := hKy.1 q hqm hn1
              unfold MLp at this
              rw [if_pos hn1, f1, ho, f2] at this
              exact this
            have hcw := va_cnB (R := R) (args := args) (own := own) (index := q.2.1) (y := mY k) (bytes := mB k) (maxL := mL k) (mc := (mA k).1) (ms := (mA k).2) (ret := none) (ws := wsM k) (rm := rmD d k) (mN k) hts (wsM_in hk345) hws' rfl rfl hnw (hts _ hinit) ⟨y1, y2, y3⟩ hR
            exact sE_on hold hRl hl hwr hwl (va_runIN (As := As.map (tr sb b0 ad)) (b := ad x0.toNat) hF hM ⟨hcw, y8 hc60, hts _ hkind⟩ ⟨Pc_blind, Pc_at hbase hold hRl hKy⟩ rfl hlenA hLs hstk' hW8 hd ⟨hg1, hg2⟩) K
end CALLS
end
section
/-! String.indexOf(int) of the letters, through the JDK's own methods -/
def JW (base sb : Nat) (av : Nat → Nat) (U : State) : Prop := vk_S 1 [12] [LETB] (fun _ => sb) av (fun q => base ≤ q) U U.heap ∧ va_Z "java/lang/String" "COMPACT_STRINGS" "Z" (.int 1) (fun q => base ≤ q) U U.heap ∧ base ≤ U.heap.size
def Qp (v : Value) : Array Value → State → Outcome → State → Prop := fun _ st oc t => oc = .returned (some v) ∧ t.heap = st.heap
def rmJ (k : Nat) : Room := { frames := k, cells := 0, slots := 0, locals := 60 * k }
theorem JW.at {base sb : Nat} {av : Nat → Nat} {s U : State} (hvm : s.vm.Alike U.vm) (hh : U.heap = s.heap) (h : JW base sb av s) : JW base sb av U := by
  unfold JW at h ⊢
  rw [hh]
  exact ⟨vk_S.moved hvm h.1, va_Z.moved hvm h.2.1, h.2.2⟩
theorem JW.S {base sb : Nat} {av : Nat → Nat} {s : State} (h : JW base sb av s) : va_T .byte (av 0) 12 (fun j => .int (LETB.getD j 0)) (fun q => base ≤ q) s s.heap := (h.1.1 0 (by decide)).2.2.2
theorem JP_blind {base sb : Nat} {av : Nat → Nat} {As : List Value} : FrameBlind (va_Pc As (JW base sb av)) := by
  intro a U g mk hq
  exact ⟨hq.1, hq.2.at (U := U.calling g mk a) (Vm.Alike.refl U.vm) rfl⟩
theorem JP_at {base sb : Nat} {av : Nat → Nat} {s : State} {H : Heap} {As : List Value} (hH : H = s.heap) (h : JW base sb av s) : ∀ U : State, U.heap = H → s.WarmedH U.vm → va_Pc As (JW base sb av) As.toArray U := fun U hU hW => ⟨rfl, h.at hW.alike (by rw [hU, hH])⟩
def yCE : MethodName := ⟨"java/lang/StringLatin1", "canEncode", "(I)Z"⟩
abbrev bCE : ByteArray := prog_19_method_4_code
def wsCE : List Cond := .code yCE bCE 1 (some .boolean) :: wT
theorem inCE : GoodIn wT wsCE := by
  intro w hw
  have hc : Cond.code yCE bCE 1 (some .boolean) ∈ wT := wT_t (i := 695) (by decide +kernel) (code_good _ _ _ _)
  rcases List.mem_cons.mp hw with rfl | h
  · exact ⟨hc, wT_good hc⟩
  · exact ⟨h, wT_good h⟩
theorem dCE_0 : decode bCE 0 = .ok (.iload_n 0, 1) := by decide +kernel
theorem dCE_1 : decode bCE 1 = .ok (.ifCond .lt (14), 3) := by decide +kernel
theorem dCE_4 : decode bCE 4 = .ok (.iload_n 0, 1) := by decide +kernel
theorem dCE_5 : decode bCE 5 = .ok (.sipush 255, 3) := by decide +kernel
theorem dCE_8 : decode bCE 8 = .ok (.if_icmp .gt (7), 3) := by decide +kernel
theorem dCE_11 : decode bCE 11 = .ok (.iconst (1), 1) := by decide +kernel
theorem dCE_12 : decode bCE 12 = .ok (.goto (4), 3) := by decide +kernel
theorem dCE_15 : decode bCE 15 = .ok (.iconst (0), 1) := by decide +kernel
theorem dCE_16 : decode bCE 16 = .ok (.ireturn, 1) := by decide +kernel
def yIC : MethodName := ⟨"java/lang/StringLatin1", "indexOfChar", "([BIII)I"⟩
abbrev bIC : ByteArray := prog_19_method_23_code
def wsIC : List Cond := .code yIC bIC 6 (some .int) :: wT
theorem inIC : GoodIn wT wsIC := by
  intro w hw
  have hc : Cond.code yIC bIC 6 (some .int) ∈ wT := wT_t (i := 702) (by decide +kernel) (code_good _ _ _ _)
  rcases List.mem_cons.mp hw with rfl | h
  · exact ⟨hc, wT_good hc⟩
  · exact ⟨h, wT_good h⟩
theorem dIC_0 : decode bIC 0 = .ok (.iload_n 1, 1) := by decide +kernel
theorem dIC_1 : decode bIC 1 = .ok (.i2b, 1) := by decide +kernel
theorem dIC_2 : decode bIC 2 = .ok (.istore 4, 2) := by decide +kernel
theorem dIC_4 : decode bIC 4 = .ok (.iload_n 2, 1) := by decide +kernel
theorem dIC_5 : decode bIC 5 = .ok (.istore 5, 2) := by decide +kernel
theorem dIC_7 : decode bIC 7 = .ok (.iload 5, 2) := by decide +kernel
theorem dIC_9 : decode bIC 9 = .ok (.iload_n 3, 1) := by decide +kernel
theorem dIC_10 : decode bIC 10 = .ok (.if_icmp .ge (21), 3) := by decide +kernel
theorem dIC_13 : decode bIC 13 = .ok (.aload_n 0, 1) := by decide +kernel
theorem dIC_14 : decode bIC 14 = .ok (.iload 5, 2) := by decide +kernel
theorem dIC_16 : decode bIC 16 = .ok (.baload, 1) := by decide +kernel
theorem dIC_17 : decode bIC 17 = .ok (.iload 4, 2) := by decide +kernel
theorem dIC_19 : decode bIC 19 = .ok (.if_icmp .ne (6), 3) := by decide +kernel
theorem dIC_22 : decode bIC 22 = .ok (.iload 5, 2) := by decide +kernel
theorem dIC_24 : decode bIC 24 = .ok (.ireturn, 1) := by decide +kernel
theorem dIC_25 : decode bIC 25 = .ok (.iinc 5 1, 3) := by decide +kernel
theorem dIC_28 : decode bIC 28 = .ok (.goto (-21), 3) := by decide +kernel
theorem dIC_31 : decode bIC 31 = .ok (.iconst (-1), 1) := by decide +kernel
theorem dIC_32 : decode bIC 32 = .ok (.ireturn, 1) := by decide +kernel
def ySI : MethodName := ⟨"java/lang/StringLatin1", "indexOf", "([BIII)I"⟩
abbrev bSI : ByteArray := prog_19_method_22_code
def wsSI : List Cond := .code ySI bSI 4 (some .int) :: wT
theorem inSI : GoodIn wT wsSI := by
  intro w hw
  have hc : Cond.code ySI bSI 4 (some .int) ∈ wT := wT_t (i := 692) (by decide +kernel) (code_good _ _ _ _)
  rcases List.mem_cons.mp hw with rfl | h
  · exact ⟨hc, wT_good hc⟩
  · exact ⟨h, wT_good h⟩
theorem dSI_0 : decode bSI 0 = .ok (.iload_n 1, 1) := by decide +kernel
theorem dSI_1 : decode bSI 1 = .ok (.invokestatic 88, 3) := by decide +kernel
theorem dSI_4 : decode bSI 4 = .ok (.ifCond .ne (5), 3) := by decide +kernel
theorem dSI_7 : decode bSI 7 = .ok (.iconst (-1), 1) := by decide +kernel
theorem dSI_8 : decode bSI 8 = .ok (.ireturn, 1) := by decide +kernel
theorem dSI_9 : decode bSI 9 = .ok (.iload_n 2, 1) := by decide +kernel
theorem dSI_10 : decode bSI 10 = .ok (.iconst (0), 1) := by decide +kernel
theorem dSI_11 : decode bSI 11 = .ok (.invokestatic 92, 3) := by decide +kernel
theorem dSI_14 : decode bSI 14 = .ok (.istore_n 2, 1) := by decide +kernel
theorem dSI_15 : decode bSI 15 = .ok (.iload_n 3, 1) := by decide +kernel
theorem dSI_16 : decode bSI 16 = .ok (.aload_n 0, 1) := by decide +kernel
theorem dSI_17 : decode bSI 17 = .ok (.arraylength, 1) := by decide +kernel
theorem dSI_18 : decode bSI 18 = .ok (.invokestatic 38, 3) := by decide +kernel
theorem dSI_21 : decode bSI 21 = .ok (.istore_n 3, 1) := by decide +kernel
theorem dSI_22 : decode bSI 22 = .ok (.iload_n 2, 1) := by decide +kernel
theorem dSI_23 : decode bSI 23 = .ok (.iload_n 3, 1) := by decide +kernel
theorem dSI_24 : decode bSI 24 = .ok (.if_icmp .lt (5), 3) := by decide +kernel
theorem dSI_27 : decode bSI 27 = .ok (.iconst (-1), 1) := by decide +kernel
theorem dSI_28 : decode bSI 28 = .ok (.ireturn, 1) := by decide +kernel
theorem dSI_29 : decode bSI 29 = .ok (.aload_n 0, 1) := by decide +kernel
theorem dSI_30 : decode bSI 30 = .ok (.iload_n 1, 1) := by decide +kernel
theorem dSI_31 : decode bSI 31 = .ok (.iload_n 2, 1) := by decide +kernel
theorem dSI_32 : decode bSI 32 = .ok (.iload_n 3, 1) := by decide +kernel
theorem dSI_33 : decode bSI 33 = .ok (.invokestatic 95, 3) := by decide +kernel
theorem dSI_36 : decode bSI 36 = .ok (.ireturn, 1) := by decide +kernel
def yCO : MethodName := ⟨"java/lang/String", "coder", "()B"⟩
abbrev bCO : ByteArray := prog_18_method_152_code
def wsCO : List Cond := .code yCO bCO 1 (some .byte) :: wT
theorem inCO : GoodIn wT wsCO := by
  intro w hw
  have hc : Cond.code yCO bCO 1 (some .byte) ∈ wT := wT_t (i := 689) (by decide +kernel) (code_good _ _ _ _)
  rcases List.mem_cons.mp hw with rfl | h
  · exact ⟨hc, wT_good hc⟩
  · exact ⟨h, wT_good h⟩
theorem dCO_0 : decode bCO 0 = .ok (.getstatic 38, 3) := by decide +kernel
theorem dCO_3 : decode bCO 3 = .ok (.ifCond .eq (10), 3) := by decide +kernel
theorem dCO_6 : decode bCO 6 = .ok (.aload_n 0, 1) := by decide +kernel
theorem dCO_7 : decode bCO 7 = .ok (.getfield 15, 3) := by decide +kernel
theorem dCO_10 : decode bCO 10 = .ok (.goto (4), 3) := by decide +kernel
theorem dCO_13 : decode bCO 13 = .ok (.iconst (1), 1) := by decide +kernel
theorem dCO_14 : decode bCO 14 = .ok (.ireturn, 1) := by decide +kernel
def yLE : MethodName := ⟨"java/lang/String", "length", "()I"⟩
abbrev bLE : ByteArray := prog_18_method_54_code
def wsLE : List Cond := .code yLE bLE 1 (some .int) :: wT
theorem inLE : GoodIn wT wsLE := by
  intro w hw
  have hc : Cond.code yLE bLE 1 (some .int) ∈ wT := wT_t (i := 685) (by decide +kernel) (code_good _ _ _ _)
  rcases List.mem_cons.mp hw with rfl | h
  · exact ⟨hc, wT_good hc⟩
  · exact ⟨h, wT_good h⟩
theorem dLE_0 : decode bLE 0 = .ok (.aload_n 0, 1) := by decide +kernel
theorem dLE_1 : decode bLE 1 = .ok (.getfield 9, 3) := by decide +kernel
theorem dLE_4 : decode bLE 4 = .ok (.arraylength, 1) := by decide +kernel
theorem dLE_5 : decode bLE 5 = .ok (.aload_n 0, 1) := by decide +kernel
theorem dLE_6 : decode bLE 6 = .ok (.invokevirtual 335, 3) := by decide +kernel
theorem dLE_9 : decode bLE 9 = .ok (.ishr, 1) := by decide +kernel
theorem dLE_10 : decode bLE 10 = .ok (.ireturn, 1) := by decide +kernel
def yIL : MethodName := ⟨"java/lang/String", "isLatin1", "()Z"⟩
abbrev bIL : ByteArray := prog_18_method_154_code
def wsIL : List Cond := .code yIL bIL 1 (some .boolean) :: wT
theorem inIL : GoodIn wT wsIL := by
  intro w hw
  have hc : Cond.code yIL bIL 1 (some .boolean) ∈ wT := wT_t (i := 679) (by decide +kernel) (code_good _ _ _ _)
  rcases List.mem_cons.mp hw with rfl | h
  · exact ⟨hc, wT_good hc⟩
  · exact ⟨h, wT_good h⟩
theorem dIL_0 : decode bIL 0 = .ok (.getstatic 38, 3) := by decide +kernel
theorem dIL_3 : decode bIL 3 = .ok (.ifCond .eq (14), 3) := by decide +kernel
theorem dIL_6 : decode bIL 6 = .ok (.aload_n 0, 1) := by decide +kernel
theorem dIL_7 : decode bIL 7 = .ok (.getfield 15, 3) := by decide +kernel
theorem dIL_10 : decode bIL 10 = .ok (.ifCond .ne (7), 3) := by decide +kernel
theorem dIL_13 : decode bIL 13 = .ok (.iconst (1), 1) := by decide +kernel
theorem dIL_14 : decode bIL 14 = .ok (.goto (4), 3) := by decide +kernel
theorem dIL_17 : decode bIL 17 = .ok (.iconst (0), 1) := by decide +kernel
theorem dIL_18 : decode bIL 18 = .ok (.ireturn, 1) := by decide +kernel
def yI2 : MethodName := ⟨"java/lang/String", "indexOf", "(II)I"⟩
abbrev bI2 : ByteArray := prog_18_method_80_code
def wsI2 : List Cond := .code yI2 bI2 3 (some .int) :: wT
theorem inI2 : GoodIn wT wsI2 := by
  intro w hw
  have hc : Cond.code yI2 bI2 3 (some .int) ∈ wT := wT_t (i := 675) (by decide +kernel) (code_good _ _ _ _)
  rcases List.mem_cons.mp hw with rfl | h
  · exact ⟨hc, wT_good hc⟩
  · exact ⟨h, wT_good h⟩
theorem dI2_0 : decode bI2 0 = .ok (.aload_n 0, 1) := by decide +kernel
theorem dI2_1 : decode bI2 1 = .ok (.invokevirtual 492, 3) := by decide +kernel
theorem dI2_4 : decode bI2 4 = .ok (.ifCond .eq (19), 3) := by decide +kernel
theorem dI2_7 : decode bI2 7 = .ok (.aload_n 0, 1) := by decide +kernel
theorem dI2_8 : decode bI2 8 = .ok (.getfield 9, 3) := by decide +kernel
theorem dI2_11 : decode bI2 11 = .ok (.iload_n 1, 1) := by decide +kernel
theorem dI2_12 : decode bI2 12 = .ok (.iload_n 2, 1) := by decide +kernel
theorem dI2_13 : decode bI2 13 = .ok (.aload_n 0, 1) := by decide +kernel
theorem dI2_14 : decode bI2 14 = .ok (.invokevirtual 505, 3) := by decide +kernel
theorem dI2_17 : decode bI2 17 = .ok (.invokestatic 637, 3) := by decide +kernel
theorem dI2_20 : decode bI2 20 = .ok (.goto (16), 3) := by decide +kernel
theorem dI2_36 : decode bI2 36 = .ok (.ireturn, 1) := by decide +kernel
def yI1 : MethodName := ⟨"java/lang/String", "indexOf", "(I)I"⟩
abbrev bI1 : ByteArray := prog_18_method_79_code
def wsI1 : List Cond := .code yI1 bI1 2 (some .int) :: wT
theorem inI1 : GoodIn wT wsI1 := by
  intro w hw
  have hc : Cond.code yI1 bI1 2 (some .int) ∈ wT := wT_t (i := 671) (by decide +kernel) (code_good _ _ _ _)
  rcases List.mem_cons.mp hw with rfl | h
  · exact ⟨hc, wT_good hc⟩
  · exact ⟨h, wT_good h⟩
theorem dI1_0 : decode bI1 0 = .ok (.aload_n 0, 1) := by decide +kernel
theorem dI1_1 : decode bI1 1 = .ok (.iload_n 1, 1) := by decide +kernel
theorem dI1_2 : decode bI1 2 = .ok (.iconst (0), 1) := by decide +kernel
theorem dI1_3 : decode bI1 3 = .ok (.invokevirtual 633, 3) := by decide +kernel
theorem dI1_6 : decode bI1 6 = .ok (.ireturn, 1) := by decide +kernel
section IDX
variable {l : Launch} {base sb : Nat} {av : Nat → Nat}
theorem J_CE {x : Int} (h0 : 0 ≤ x) (h1 : x < 256) : Met l yCE wsCE (rmJ 1) (va_Pc [.int (I3 x)] (JW base sb av)) (Qp (.int 1)) 0 0 (fun q => base ≤ q) := by
  refine Met.ofW (cc := bCE) (maxL := 1) (ret := some .boolean) (by decide) rfl ?_
  intro p e s m args below meth c s₁ B hml hv
  obtain ⟨rfl, hJ⟩ := hv
  have hx := B.exec
  have hb := B.bytes
  have hr := B.returns
  have hts0 := atoms_spec (ws := wsCE) B.pre
  have hts : ∀ w ∈ wT, w.before _ s = true := fun w hw => hts0 w (List.mem_cons_of_mem _ hw)
  have hown : s.vm.findClass "java/lang/StringLatin1" = some m.cls := findClass_of_methodNamed B.named
  have hlocks := B.notSynchronized
  have hF : CallFix p m c bCE 1 s _ wT "java/lang/StringLatin1" := ⟨hx, hb, hml, hown, hts⟩
  have hS : va_S (fun q => base ≤ q) s.heap s.heap [] := va_S.rf
  have hl := lv_entry ([.int (I3 x)]) (n := 1) (Nat.le_of_ble_eq_true rfl)
  rw [lg_entry_eq]
  generalize (lg_sl ([.int (I3 x)]) ++ List.replicate (1 - (lg_sl ([.int (I3 x)])).length) Slot.unset).toArray = ls at hl ⊢
  have hl : lv_has ls 1 ([(0, .int (I3 x))]) := hl
  have hxx : in32 x := by unfold in32; omega
  refine lv_iload_n hx hb dCE_0 rfl (lv_at hl 0 rfl) ?_
  refine lv_if_lt (tgt := 15) hx hb dCE_1 (by decide) (fun q => absurd ((I3_lt hxx in32_0).mp q) (by omega)) (fun _ => ?_)
  refine lv_iload_n hx hb dCE_4 rfl (lv_at hl 0 rfl) ?_
  refine lv_sipush (v := I3 255) hx hb dCE_5 (by decide) ?_
  refine lv_icmp_gt (tgt := 15) hx hb dCE_8 (by decide) (fun q => absurd ((I3_lt (x := 255) (by unfold in32; omega) hxx).mp q) (by omega)) (fun _ => ?_)
  refine lv_iconst (v := 1) hx hb dCE_11 (by decide) ?_
  refine lv_goto (tgt := 16) hx hb dCE_12 (by decide) ?_
  exact W.zret hx hb hr (by decide) (fun t ht _ => ⟨rfl, ht⟩) (fun q hq => by simp at hq) dCE_16 hlocks
theorem LET_in (j : Nat) : 0 ≤ (LETB.getD j 0).toInt ∧ (LETB.getD j 0).toInt < 128 := by
  by_cases h : j < 12
  · rcases (show j = 0 ∨ j = 1 ∨ j = 2 ∨ j = 3 ∨ j = 4 ∨ j = 5 ∨ j = 6 ∨ j = 7 ∨ j = 8 ∨ j = 9 ∨ j = 10 ∨ j = 11 by omega) with rfl | rfl | rfl | rfl | rfl | rfl | rfl | rfl | rfl | rfl | rfl | rfl <;> decide
  · rw [List.getD_eq_getElem?_getD, List.getElem?_eq_none (by show 12 ≤ j; omega)]; decide
theorem ite_sw {a b x p q : Int} (h : a = b) : (if x = a then p else q) = if b = x then p else q := by
  subst h
  by_cases e : x = a
  · rw [if_pos e, if_pos e.symm]
  · rw [if_neg e, if_neg (fun z => e z.symm)]
theorem idxOf_at : ∀ (k j : Nat), j + k = 12 → ∀ x : Int, idxOf ([115, 100, 103, 109, 98, 97, 111, 119, 108, 104, 121, 113].drop j) (j : Int) x = if k = 0 then (-1 : Int) else if (LETB.getD j 0).toInt = x then (j : Int) else idxOf ([115, 100, 103, 109, 98, 97, 111, 119, 108, 104, 121, 113].drop (j + 1)) ((j : Int) + 1) x := by
  intro k j h x
  rcases (show j = 0 ∨ j = 1 ∨ j = 2 ∨ j = 3 ∨ j = 4 ∨ j = 5 ∨ j = 6 ∨ j = 7 ∨ j = 8 ∨ j = 9 ∨ j = 10 ∨ j = 11 ∨ j = 12 by omega) with rfl | rfl | rfl | rfl | rfl | rfl | rfl | rfl | rfl | rfl | rfl | rfl | rfl
  · rw [if_neg (show ¬ k = 0 by omega)]; exact ite_sw (a := 115) (by decide)
  · rw [if_neg (show ¬ k = 0 by omega)]; exact ite_sw (a := 100) (by decide)
  · rw [if_neg (show ¬ k = 0 by omega)]; exact ite_sw (a := 103) (by decide)
  · rw [if_neg (show ¬ k = 0 by omega)]; exact ite_sw (a := 109) (by decide)
  · rw [if_neg (show ¬ k = 0 by omega)]; exact ite_sw (a := 98) (by decide)
  · rw [if_neg (show ¬ k = 0 by omega)]; exact ite_sw (a := 97) (by decide)
  · rw [if_neg (show ¬ k = 0 by omega)]; exact ite_sw (a := 111) (by decide)
  · rw [if_neg (show ¬ k = 0 by omega)]; exact ite_sw (a := 119) (by decide)
  · rw [if_neg (show ¬ k = 0 by omega)]; exact ite_sw (a := 108) (by decide)
  · rw [if_neg (show ¬ k = 0 by omega)]; exact ite_sw (a := 104) (by decide)
  · rw [if_neg (show ¬ k = 0 by omega)]; exact ite_sw (a := 121) (by decide)
  · rw [if_neg (show ¬ k = 0 by omega)]; exact ite_sw (a := 113) (by decide)
  · rw [if_pos (show k = 0 by omega)]; rfl
theorem J_IC {x : Int} (h0 : 0 ≤ x) (h1 : x < 256) : Met l yIC wsIC (rmJ 1) (va_Pc [.ref (av 0), .int (I3 x), .int 0, .int 12] (JW base sb av)) (Qp (.int (I3 (idxOf [115, 100, 103, 109, 98, 97, 111, 119, 108, 104, 121, 113] 0 x)))) 0 0 (fun q => base ≤ q) := by
  refine Met.ofW (cc := bIC) (maxL := 6) (ret := some .int) (by decide) rfl ?_
  intro p e s m args below meth c s₁ B hml hv
  obtain ⟨rfl, hJ⟩ := hv
  have hx := B.exec
  have hb := B.bytes
  have hr := B.returns
  have hts0 := atoms_spec (ws := wsIC) B.pre
  have hts : ∀ w ∈ wT, w.before _ s = true := fun w hw => hts0 w (List.mem_cons_of_mem _ hw)
  have hown : s.vm.findClass "java/lang/StringLatin1" = some m.cls := findClass_of_methodNamed B.named
  have hlocks := B.notSynchronized
  have hF : CallFix p m c bIC 6 s _ wT "java/lang/StringLatin1" := ⟨hx, hb, hml, hown, hts⟩
  have hS : va_S (fun q => base ≤ q) s.heap s.heap [] := va_S.rf
  have hl := lv_entry ([.ref (av 0), .int (I3 x), .int 0, .int 12]) (n := 6) (Nat.le_of_ble_eq_true rfl)
  rw [lg_entry_eq]
  generalize (lg_sl ([.ref (av 0), .int (I3 x), .int 0, .int 12]) ++ List.replicate (6 - (lg_sl ([.ref (av 0), .int (I3 x), .int 0, .int 12])).length) Slot.unset).toArray = ls at hl ⊢
  have hl : lv_has ls 6 ([(0, .ref (av 0)), (1, .int (I3 x)), (2, .int 0), (3, .int 12)]) := hl
  have hxx : in32 x := by unfold in32; omega
  refine lv_iload_n hx hb dIC_0 rfl (lv_at hl 1 rfl) ?_
  refine lv_i2b hx hb dIC_1 rfl ?_
  refine lv_istore (lv' := [(4, .int (I3 (Int.bmod x 256))), (0, .ref (av 0)), (1, .int (I3 x)), (2, .int 0), (3, .int 12)]) hx hb dIC_2 hl (by decide) (by rw [I3_i2b hxx]; rfl) (fun ls hl => ?_)
  refine lv_iload_n hx hb dIC_4 rfl (lv_at hl 3 rfl) ?_
  refine lv_istore (lv' := [(5, .int (I3 0)), (4, .int (I3 (Int.bmod x 256))), (0, .ref (av 0)), (1, .int (I3 x)), (2, .int 0), (3, .int 12)]) hx hb dIC_5 hl (by decide) rfl (fun ls hl => ?_)
  have loop : ∀ (k j : Nat), j + k = 12 → ∀ ls : Array Slot, lv_has ls 6 [(5, .int (I3 j)), (4, .int (I3 (Int.bmod x 256))), (0, .ref (av 0)), (1, .int (I3 x)), (2, .int 0), (3, .int 12)] → W p l e (headSpec wsIC (rmJ 1)).room s m #[.ref (av 0), .int (I3 x), .int 0, .int 12] below meth c s.heap [] 0 0 (MQ below (Qp (.int (I3 (idxOf ([115, 100, 103, 109, 98, 97, 111, 119, 108, 104, 121, 113].drop j) j x)))) #[.ref (av 0), .int (I3 x), .int 0, .int 12] s 0 0 (fun q => base ≤ q)) (F0 m 7 ls []) := by
    intro k
    induction k with
    | zero =>
      intro j hj ls hl
      have hj : j = 12 := by omega
      subst hj
      refine lv_iload hx hb dIC_7 (lv_at hl 0 rfl) ?_
      refine lv_iload_n hx hb dIC_9 rfl (lv_at hl 5 rfl) ?_
      refine lv_icmp_ge (tgt := 31) hx hb dIC_10 (by decide) (fun _ => ?_) (fun q => absurd (by decide) q)
      refine lv_iconst (v := I3 (-1)) hx hb dIC_31 (by decide) ?_
      exact W.iret hx hb hr (fun t ht _ => ⟨rfl, ht⟩) (fun q hq => by simp at hq) dIC_32 hlocks
    | succ k ih =>
      intro j hj ls hl
      have hj32 : in32 (j : Int) := by unfold in32; omega
      rw [idxOf_at (k + 1) j hj x, if_neg (Nat.succ_ne_zero k)]
      refine lv_iload hx hb dIC_7 (lv_at hl 0 rfl) ?_
      refine lv_iload_n hx hb dIC_9 rfl (lv_at hl 5 rfl) ?_
      refine lv_icmp_ge (tgt := 31) hx hb dIC_10 (by decide) (fun q => absurd ((I3_le (x := 12) (by unfold in32; omega) hj32).mp q) (by omega)) (fun _ => ?_)
      refine lv_aload_n hx hb dIC_13 rfl (lv_at hl 2 rfl) ?_
      refine lv_iload hx hb dIC_14 (lv_at hl 0 rfl) ?_
      refine va_tb hx hb hJ.S hS ((I3_vp hj32).mpr ⟨by omega, by omega⟩) (v := .int (LETB.getD j 0)) (by rw [I3_cl hj32]; rfl) dIC_16 ?_
      refine lv_iload hx hb dIC_17 (lv_at hl 1 rfl) ?_
      have hlj := LET_in j
      have hbm : in32 (Int.bmod x 256) := by unfold in32; rw [Int.bmod_def]; split <;> omega
      have he : (LETB.getD j 0 = I3 (Int.bmod x 256)) ↔ (LETB.getD j 0).toInt = x := by
        constructor
        · intro q
          rw [q, I3_to hbm] at hlj ⊢
          generalize hbx : Int.bmod x 256 = y at hlj ⊢
          rw [Int.bmod_def] at hbx
          split at hbx <;> omega
        · intro q
          have : LETB.getD j 0 = I3 ((LETB.getD j 0).toInt) := (Int32.ofInt_toInt _).symm
          rw [this, q]
          congr 1
          rw [Int.bmod_def]
          split <;> omega
      refine lv_icmp_ne (tgt := 25) hx hb dIC_19 (by decide) (fun q => ?_) (fun q => ?_)
      · rw [if_neg (fun w => q (he.mpr w))]
        refine lv_iinc (v := I3 ((j + 1 : Nat) : Int)) (lv' := [(5, .int (I3 ((j + 1 : Nat) : Int))), (4, .int (I3 (Int.bmod x 256))), (0, .ref (av 0)), (1, .int (I3 x)), (2, .int 0), (3, .int 12)]) hx hb dIC_25 hl (k := 0) rfl (by rw [Int.natCast_succ]; show I3 (j : Int) + I3 1 = _; rw [I3_add, w32_id (by unfold in32; omega)]) (by decide) rfl (fun ls hl => ?_)
        refine lv_goto (tgt := 7) hx hb dIC_28 (by decide) ?_
        exact ih (j + 1) (by omega) ls hl
      · have q : LETB.getD j 0 = I3 (Int.bmod x 256) := q
        rw [if_pos (he.mp q)]
        refine lv_iload hx hb dIC_22 (lv_at hl 0 rfl) ?_
        exact W.iret hx hb hr (fun t ht _ => ⟨rfl, ht⟩) (fun q hq => by simp at hq) dIC_24 hlocks
  exact loop 12 0 rfl ls hl
theorem J_CO : Met l yCO wsCO (rmJ 1) (va_Pc [.ref sb] (JW base sb av)) (Qp (.int 0)) 0 0 (fun q => base ≤ q) := by
  refine Met.ofW (cc := bCO) (maxL := 1) (ret := some .byte) (by decide) rfl ?_
  intro p e s m args below meth c s₁ B hml hv
  obtain ⟨rfl, hJ⟩ := hv
  have hx := B.exec
  have hb := B.bytes
  have hr := B.returns
  have hts0 := atoms_spec (ws := wsCO) B.pre
  have hts : ∀ w ∈ wT, w.before _ s = true := fun w hw => hts0 w (List.mem_cons_of_mem _ hw)
  have hown : s.vm.findClass "java/lang/String" = some m.cls := findClass_of_methodNamed B.named
  have hlocks := B.notSynchronized
  have hF : CallFix p m c bCO 1 s _ wT "java/lang/String" := ⟨hx, hb, hml, hown, hts⟩
  have hS : va_S (fun q => base ≤ q) s.heap s.heap [] := va_S.rf
  have hl := lv_entry ([.ref sb]) (n := 1) (Nat.le_of_ble_eq_true rfl)
  rw [lg_entry_eq]
  generalize (lg_sl ([.ref sb]) ++ List.replicate (1 - (lg_sl ([.ref sb])).length) Slot.unset).toArray = ls at hl ⊢
  have hl : lv_has ls 1 ([(0, .ref sb)]) := hl
  refine va_gets hx hb hJ.2.1 hS hown (hts _ (wT_t (i := 680) (by decide +kernel) (by decide +kernel))) (fun _ h => h) dCO_0 ?_
  refine lv_if_eq (tgt := 13) hx hb dCO_3 (by decide) (fun q => absurd q (by decide)) (fun _ => ?_)
  refine lv_aload_n hx hb dCO_6 rfl (lv_at hl 0 rfl) ?_
  refine vk_getf hx hb (hJ.1.1 0 (by decide)).2.1 hS hown (hts _ (wT_t (i := 2353) (by decide +kernel) (by decide +kernel))) (fun _ h => h) dCO_7 ?_
  refine lv_goto (tgt := 14) hx hb dCO_10 (by decide) ?_
  exact W.zret hx hb hr (by decide) (fun t ht _ => ⟨rfl, ht⟩) (fun q hq => by simp at hq) dCO_14 hlocks
theorem J_IL : Met l yIL wsIL (rmJ 1) (va_Pc [.ref sb] (JW base sb av)) (Qp (.int 1)) 0 0 (fun q => base ≤ q) := by
  refine Met.ofW (cc := bIL) (maxL := 1) (ret := some .boolean) (by decide) rfl ?_
  intro p e s m args below meth c s₁ B hml hv
  obtain ⟨rfl, hJ⟩ := hv
  have hx := B.exec
  have hb := B.bytes
  have hr := B.returns
  have hts0 := atoms_spec (ws := wsIL) B.pre
  have hts : ∀ w ∈ wT, w.before _ s = true := fun w hw => hts0 w (List.mem_cons_of_mem _ hw)
  have hown : s.vm.findClass "java/lang/String" = some m.cls := findClass_of_methodNamed B.named
  have hlocks := B.notSynchronized
  have hF : CallFix p m c bIL 1 s _ wT "java/lang/String" := ⟨hx, hb, hml, hown, hts⟩
  have hS : va_S (fun q => base ≤ q) s.heap s.heap [] := va_S.rf
  have hl := lv_entry ([.ref sb]) (n := 1) (Nat.le_of_ble_eq_true rfl)
  rw [lg_entry_eq]
  generalize (lg_sl ([.ref sb]) ++ List.replicate (1 - (lg_sl ([.ref sb])).length) Slot.unset).toArray = ls at hl ⊢
  have hl : lv_has ls 1 ([(0, .ref sb)]) := hl
  refine va_gets hx hb hJ.2.1 hS hown (hts _ (wT_t (i := 680) (by decide +kernel) (by decide +kernel))) (fun _ h => h) dIL_0 ?_
  refine lv_if_eq (tgt := 17) hx hb dIL_3 (by decide) (fun q => absurd q (by decide)) (fun _ => ?_)
  refine lv_aload_n hx hb dIL_6 rfl (lv_at hl 0 rfl) ?_
  refine vk_getf hx hb (hJ.1.1 0 (by decide)).2.1 hS hown (hts _ (wT_t (i := 2353) (by decide +kernel) (by decide +kernel))) (fun _ h => h) dIL_7 ?_
  refine lv_if_ne (tgt := 17) hx hb dIL_10 (by decide) (fun q => absurd rfl q) (fun _ => ?_)
  refine lv_iconst (v := 1) hx hb dIL_13 (by decide) ?_
  refine lv_goto (tgt := 18) hx hb dIL_14 (by decide) ?_
  exact W.zret hx hb hr (by decide) (fun t ht _ => ⟨rfl, ht⟩) (fun q hq => by simp at hq) dIL_18 hlocks
theorem J_LE : Met l yLE wsLE (rmJ 2) (va_Pc [.ref sb] (JW base sb av)) (Qp (.int 12)) 0 0 (fun q => base ≤ q) := by
  refine Met.ofW (cc := bLE) (maxL := 1) (ret := some .int) (by decide) rfl ?_
  intro p e s m args below meth c s₁ B hml hv
  obtain ⟨rfl, hJ⟩ := hv
  have hx := B.exec
  have hb := B.bytes
  have hr := B.returns
  have hts0 := atoms_spec (ws := wsLE) B.pre
  have hts : ∀ w ∈ wT, w.before _ s = true := fun w hw => hts0 w (List.mem_cons_of_mem _ hw)
  have hown : s.vm.findClass "java/lang/String" = some m.cls := findClass_of_methodNamed B.named
  have hlocks := B.notSynchronized
  have hF : CallFix p m c bLE 1 s _ wT "java/lang/String" := ⟨hx, hb, hml, hown, hts⟩
  have hS : va_S (fun q => base ≤ q) s.heap s.heap [] := va_S.rf
  have hl := lv_entry ([.ref sb]) (n := 1) (Nat.le_of_ble_eq_true rfl)
  rw [lg_entry_eq]
  generalize (lg_sl ([.ref sb]) ++ List.replicate (1 - (lg_sl ([.ref sb])).length) Slot.unset).toArray = ls at hl ⊢
  have hl : lv_has ls 1 ([(0, .ref sb)]) := hl
  have cwCO : CallW (headSpec wsLE (rmJ 2)).room s #[.ref sb] "java/lang/String" "java/lang/String" 335 yCO bCO 1 (some .byte) wsCO (rmJ 1) 0 0 0 := by
    refine cwV 0 hts (fun w hw => ?_) rfl rfl rfl ⟨rfl, by decide, by decide, by decide +kernel⟩ ⟨Nat.le_of_ble_eq_true rfl, Nat.le_of_ble_eq_true rfl⟩
    rcases List.mem_append.mp hw with z | z
    · simp only [List.mem_cons, List.not_mem_nil, or_false] at z
      rcases z with rfl | rfl | rfl | rfl
      · exact ⟨wT_t (i := 686) (by decide +kernel) (by decide +kernel), wT_good (wT_t (i := 686) (by decide +kernel) (by decide +kernel))⟩
      · exact ⟨wT_t (i := 687) (by decide +kernel) (by decide +kernel), wT_good (wT_t (i := 687) (by decide +kernel) (by decide +kernel))⟩
      · exact ⟨wT_t (i := 688) (by decide +kernel) (by decide +kernel), wT_good (wT_t (i := 688) (by decide +kernel) (by decide +kernel))⟩
      · exact ⟨wT_t (i := 17) (by decide +kernel) (by decide +kernel), wT_good (wT_t (i := 17) (by decide +kernel) (by decide +kernel))⟩
    · exact inCO w z
  refine lv_aload_n hx hb dLE_0 rfl (lv_at hl 0 rfl) ?_
  refine vk_getf hx hb (hJ.1.1 0 (by decide)).2.2.1 hS hown (hts _ (wT_t (i := 2354) (by decide +kernel) (by decide +kernel))) (fun _ h => h) dLE_1 ?_
  refine va_tlen hx hb hJ.S hS (v := 12) rfl dLE_4 ?_
  refine lv_aload_n hx hb dLE_5 rfl (lv_at hl 0 rfl) ?_
  refine call_on (va_runV (As := []) (rest := [.int 12]) hF (J_CO (l := l) (base := base) (sb := sb) (av := av)) cwCO ⟨JP_blind, vk_recv (i := 0) hJ.1 (by decide) hS, JP_at rfl hJ⟩ rfl rfl hl.1 rfl (lv_room (Nat.le_of_ble_eq_true rfl)) dLE_6 ⟨Nat.le_of_ble_eq_true rfl, Nat.le_of_ble_eq_true rfl⟩) (fun v1 st1 t1 lo1 e1 hW1 hlo1 hq1 => ?_)
  obtain ⟨hv1, ht1⟩ := hq1
  cases hv1
  rw [ht1, e1]
  have hS1 : va_S (fun q => base ≤ q) s.heap s.heap ([] ++ lo1) := ⟨Nat.le_refl _, fun _ _ _ => rfl, fun q hq => by
    rcases List.mem_append.mp hq with z | z
    · exact absurd z List.not_mem_nil
    · exact hlo1 q z⟩
  refine lv_ishr hx hb dLE_9 ?_
  exact W.iret hx hb hr (fun t ht _ => ⟨by decide, ht⟩) (fun q hq => hS1.2.2 q hq) dLE_10 hlocks
theorem J_SI {x : Int} (h0 : 0 ≤ x) (h1 : x < 256) : Met l ySI wsSI (rmJ 2) (va_Pc [.ref (av 0), .int (I3 x), .int 0, .int 12] (JW base sb av)) (Qp (.int (I3 (idxOf [115, 100, 103, 109, 98, 97, 111, 119, 108, 104, 121, 113] 0 x)))) 0 0 (fun q => base ≤ q) := by
  refine Met.ofW (cc := bSI) (maxL := 4) (ret := some .int) (by decide) rfl ?_
  intro p e s m args below meth c s₁ B hml hv
  obtain ⟨rfl, hJ⟩ := hv
  have hx := B.exec
  have hb := B.bytes
  have hr := B.returns
  have hts0 := atoms_spec (ws := wsSI) B.pre
  have hts : ∀ w ∈ wT, w.before _ s = true := fun w hw => hts0 w (List.mem_cons_of_mem _ hw)
  have hown : s.vm.findClass "java/lang/StringLatin1" = some m.cls := findClass_of_methodNamed B.named
  have hlocks := B.notSynchronized
  have hF : CallFix p m c bSI 4 s _ wT "java/lang/StringLatin1" := ⟨hx, hb, hml, hown, hts⟩
  have hS : va_S (fun q => base ≤ q) s.heap s.heap [] := va_S.rf
  have hl := lv_entry ([.ref (av 0), .int (I3 x), .int 0, .int 12]) (n := 4) (Nat.le_of_ble_eq_true rfl)
  rw [lg_entry_eq]
  generalize (lg_sl ([.ref (av 0), .int (I3 x), .int 0, .int 12]) ++ List.replicate (4 - (lg_sl ([.ref (av 0), .int (I3 x), .int 0, .int 12])).length) Slot.unset).toArray = ls at hl ⊢
  have hl : lv_has ls 4 ([(0, .ref (av 0)), (1, .int (I3 x)), (2, .int 0), (3, .int 12)]) := hl
  have cwCE : CallB (headSpec wsSI (rmJ 2)).room s #[.ref (av 0), .int (I3 x), .int 0, .int 12] "java/lang/StringLatin1" 88 yCE bCE 1 (some .boolean) wsCE (rmJ 1) 0 0 1 ∧ (Cond.static yCE).before #[.ref (av 0), .int (I3 x), .int 0, .int 12] s = true := by
    refine va_cwS 1 hts (fun w hw => ?_) rfl rfl rfl ⟨by decide, by decide, by decide +kernel⟩ ⟨Nat.le_of_ble_eq_true rfl, Nat.le_of_ble_eq_true rfl⟩
    rcases List.mem_append.mp hw with z | z
    · simp only [List.mem_cons, List.not_mem_nil, or_false] at z
      rcases z with rfl | rfl | rfl
      · exact ⟨wT_t (i := 693) (by decide +kernel) (by decide +kernel), wT_good (wT_t (i := 693) (by decide +kernel) (by decide +kernel))⟩
      · exact ⟨wT_t (i := 694) (by decide +kernel) (by decide +kernel), wT_good (wT_t (i := 694) (by decide +kernel) (by decide +kernel))⟩
      · exact ⟨wT_t (i := 18) (by decide +kernel) (by decide +kernel), wT_good (wT_t (i := 18) (by decide +kernel) (by decide +kernel))⟩
    · exact inCE w z
  have cwIC : CallB (headSpec wsSI (rmJ 2)).room s #[.ref (av 0), .int (I3 x), .int 0, .int 12] "java/lang/StringLatin1" 95 yIC bIC 6 (some .int) wsIC (rmJ 1) 0 0 4 ∧ (Cond.static yIC).before #[.ref (av 0), .int (I3 x), .int 0, .int 12] s = true := by
    refine va_cwS 4 hts (fun w hw => ?_) rfl rfl rfl ⟨by decide, by decide, by decide +kernel⟩ ⟨Nat.le_of_ble_eq_true rfl, Nat.le_of_ble_eq_true rfl⟩
    rcases List.mem_append.mp hw with z | z
    · simp only [List.mem_cons, List.not_mem_nil, or_false] at z
      rcases z with rfl | rfl | rfl
      · exact ⟨wT_t (i := 700) (by decide +kernel) (by decide +kernel), wT_good (wT_t (i := 700) (by decide +kernel) (by decide +kernel))⟩
      · exact ⟨wT_t (i := 701) (by decide +kernel) (by decide +kernel), wT_good (wT_t (i := 701) (by decide +kernel) (by decide +kernel))⟩
      · exact ⟨wT_t (i := 18) (by decide +kernel) (by decide +kernel), wT_good (wT_t (i := 18) (by decide +kernel) (by decide +kernel))⟩
    · exact inIC w z
  refine lv_iload_n hx hb dSI_0 rfl (lv_at hl 1 rfl) ?_
  refine call_on (va_runS (As := [.int (I3 x)]) (rest := []) hF (J_CE (l := l) (base := base) (sb := sb) (av := av) h0 h1) cwCE ⟨JP_blind, JP_at rfl hJ⟩ rfl rfl hl.1 rfl (lv_room (Nat.le_of_ble_eq_true rfl)) dSI_1 ⟨Nat.le_of_ble_eq_true rfl, Nat.le_of_ble_eq_true rfl⟩) (fun v1 st1 t1 lo1 e1 hW1 hlo1 hq1 => ?_)
  obtain ⟨hv1, ht1⟩ := hq1
  cases hv1
  rw [ht1, e1]
  have hS1 : va_S (fun q => base ≤ q) s.heap s.heap ([] ++ lo1) := ⟨Nat.le_refl _, fun _ _ _ => rfl, fun q hq => by
    rcases List.mem_append.mp hq with z | z
    · exact absurd z List.not_mem_nil
    · exact hlo1 q z⟩
  refine lv_if_ne (tgt := 9) hx hb dSI_4 (by decide) (fun _ => ?_) (fun q => absurd q (by decide))
  refine lv_iload_n hx hb dSI_9 rfl (lv_at hl 2 rfl) ?_
  refine lv_iconst (v := 0) hx hb dSI_10 (by decide) ?_
  refine va_mmax hx hb (by rw [hml]; exact hl.1.symm) hown (hts _ (wT_t (i := 696) (by decide +kernel) (by decide +kernel))) (hts _ (wT_t XI_ok.2.1.1 XI_ok.2.1.2)) (hts _ (wT_t XI_ok.1.1 XI_ok.1.2)) (hts _ (wT_t XC_ok.1.1 XC_ok.1.2)) (Nat.le_of_ble_eq_true rfl) (Nat.le_of_ble_eq_true rfl) (Nat.le_of_ble_eq_true rfl) (Nat.le_of_ble_eq_true rfl) dSI_11 ?_
  refine lv_istore_n (lv' := [(2, .int 0), (0, .ref (av 0)), (1, .int (I3 x)), (3, .int 12)]) hx hb dSI_14 rfl hl (by decide) rfl (fun ls hl => ?_)
  refine lv_iload_n hx hb dSI_15 rfl (lv_at hl 3 rfl) ?_
  refine lv_aload_n hx hb dSI_16 rfl (lv_at hl 1 rfl) ?_
  refine va_tlen hx hb hJ.S hS1 (v := 12) rfl dSI_17 ?_
  refine va_mmin hx hb (by rw [hml]; exact hl.1.symm) hown (hts _ (wT_t (i := 699) (by decide +kernel) (by decide +kernel))) (hts _ (wT_t XI_ok.2.2.1.1 XI_ok.2.2.1.2)) (hts _ (wT_t XI_ok.1.1 XI_ok.1.2)) (hts _ (wT_t XC_ok.2.1.1 XC_ok.2.1.2)) (Nat.le_of_ble_eq_true rfl) (Nat.le_of_ble_eq_true rfl) (Nat.le_of_ble_eq_true rfl) (Nat.le_of_ble_eq_true rfl) dSI_18 ?_
  refine lv_istore_n (lv' := [(3, .int 12), (2, .int 0), (0, .ref (av 0)), (1, .int (I3 x))]) hx hb dSI_21 rfl hl (by decide) rfl (fun ls hl => ?_)
  refine lv_iload_n hx hb dSI_22 rfl (lv_at hl 1 rfl) ?_
  refine lv_iload_n hx hb dSI_23 rfl (lv_at hl 0 rfl) ?_
  refine lv_icmp_lt (tgt := 29) hx hb dSI_24 (by decide) (fun _ => ?_) (fun q => absurd (by decide) q)
  refine lv_aload_n hx hb dSI_29 rfl (lv_at hl 2 rfl) ?_
  refine lv_iload_n hx hb dSI_30 rfl (lv_at hl 3 rfl) ?_
  refine lv_iload_n hx hb dSI_31 rfl (lv_at hl 1 rfl) ?_
  refine lv_iload_n hx hb dSI_32 rfl (lv_at hl 0 rfl) ?_
  refine call_on (va_runS (As := [.ref (av 0), .int (I3 x), .int 0, .int 12]) (rest := []) hF (J_IC (l := l) (base := base) (sb := sb) (av := av) h0 h1) cwIC ⟨JP_blind, JP_at rfl hJ⟩ rfl rfl hl.1 rfl (lv_room (Nat.le_of_ble_eq_true rfl)) dSI_33 ⟨Nat.le_of_ble_eq_true rfl, Nat.le_of_ble_eq_true rfl⟩) (fun v2 st2 t2 lo2 e2 hW2 hlo2 hq2 => ?_)
  obtain ⟨hv2, ht2⟩ := hq2
  cases hv2
  rw [ht2, e2]
  have hS2 : va_S (fun q => base ≤ q) s.heap s.heap (([] ++ lo1) ++ lo2) := ⟨Nat.le_refl _, fun _ _ _ => rfl, fun q hq => by
    rcases List.mem_append.mp hq with z | z
    · exact hS1.2.2 q z
    · exact hlo2 q z⟩
  exact W.iret hx hb hr (fun t ht _ => ⟨rfl, ht⟩) (fun q hq => hS2.2.2 q hq) dSI_36 hlocks
theorem J_I2 {x : Int} (h0 : 0 ≤ x) (h1 : x < 256) : Met l yI2 wsI2 (rmJ 3) (va_Pc [.ref sb, .int (I3 x), .int 0] (JW base sb av)) (Qp (.int (I3 (idxOf [115, 100, 103, 109, 98, 97, 111, 119, 108, 104, 121, 113] 0 x)))) 0 0 (fun q => base ≤ q) := by
  refine Met.ofW (cc := bI2) (maxL := 3) (ret := some .int) (by decide) rfl ?_
  intro p e s m args below meth c s₁ B hml hv
  obtain ⟨rfl, hJ⟩ := hv
  have hx := B.exec
  have hb := B.bytes
  have hr := B.returns
  have hts0 := atoms_spec (ws := wsI2) B.pre
  have hts : ∀ w ∈ wT, w.before _ s = true := fun w hw => hts0 w (List.mem_cons_of_mem _ hw)
  have hown : s.vm.findClass "java/lang/String" = some m.cls := findClass_of_methodNamed B.named
  have hlocks := B.notSynchronized
  have hF : CallFix p m c bI2 3 s _ wT "java/lang/String" := ⟨hx, hb, hml, hown, hts⟩
  have hS : va_S (fun q => base ≤ q) s.heap s.heap [] := va_S.rf
  have hl := lv_entry ([.ref sb, .int (I3 x), .int 0]) (n := 3) (Nat.le_of_ble_eq_true rfl)
  rw [lg_entry_eq]
  generalize (lg_sl ([.ref sb, .int (I3 x), .int 0]) ++ List.replicate (3 - (lg_sl ([.ref sb, .int (I3 x), .int 0])).length) Slot.unset).toArray = ls at hl ⊢
  have hl : lv_has ls 3 ([(0, .ref sb), (1, .int (I3 x)), (2, .int 0)]) := hl
  have cwIL : CallW (headSpec wsI2 (rmJ 3)).room s #[.ref sb, .int (I3 x), .int 0] "java/lang/String" "java/lang/String" 492 yIL bIL 1 (some .boolean) wsIL (rmJ 1) 0 0 0 := by
    refine cwV 0 hts (fun w hw => ?_) rfl rfl rfl ⟨rfl, by decide, by decide, by decide +kernel⟩ ⟨Nat.le_of_ble_eq_true rfl, Nat.le_of_ble_eq_true rfl⟩
    rcases List.mem_append.mp hw with z | z
    · simp only [List.mem_cons, List.not_mem_nil, or_false] at z
      rcases z with rfl | rfl | rfl | rfl
      · exact ⟨wT_t (i := 676) (by decide +kernel) (by decide +kernel), wT_good (wT_t (i := 676) (by decide +kernel) (by decide +kernel))⟩
      · exact ⟨wT_t (i := 677) (by decide +kernel) (by decide +kernel), wT_good (wT_t (i := 677) (by decide +kernel) (by decide +kernel))⟩
      · exact ⟨wT_t (i := 678) (by decide +kernel) (by decide +kernel), wT_good (wT_t (i := 678) (by decide +kernel) (by decide +kernel))⟩
      · exact ⟨wT_t (i := 17) (by decide +kernel) (by decide +kernel), wT_good (wT_t (i := 17) (by decide +kernel) (by decide +kernel))⟩
    · exact inIL w z
  have cwLE : CallW (headSpec wsI2 (rmJ 3)).room s #[.ref sb, .int (I3 x), .int 0] "java/lang/String" "java/lang/String" 505 yLE bLE 1 (some .int) wsLE (rmJ 2) 0 0 0 := by
    refine cwV 0 hts (fun w hw => ?_) rfl rfl rfl ⟨rfl, by decide, by decide, by decide +kernel⟩ ⟨Nat.le_of_ble_eq_true rfl, Nat.le_of_ble_eq_true rfl⟩
    rcases List.mem_append.mp hw with z | z
    · simp only [List.mem_cons, List.not_mem_nil, or_false] at z
      rcases z with rfl | rfl | rfl | rfl
      · exact ⟨wT_t (i := 682) (by decide +kernel) (by decide +kernel), wT_good (wT_t (i := 682) (by decide +kernel) (by decide +kernel))⟩
      · exact ⟨wT_t (i := 683) (by decide +kernel) (by decide +kernel), wT_good (wT_t (i := 683) (by decide +kernel) (by decide +kernel))⟩
      · exact ⟨wT_t (i := 684) (by decide +kernel) (by decide +kernel), wT_good (wT_t (i := 684) (by decide +kernel) (by decide +kernel))⟩
      · exact ⟨wT_t (i := 17) (by decide +kernel) (by decide +kernel), wT_good (wT_t (i := 17) (by decide +kernel) (by decide +kernel))⟩
    · exact inLE w z
  have cwSI : CallB (headSpec wsI2 (rmJ 3)).room s #[.ref sb, .int (I3 x), .int 0] "java/lang/String" 637 ySI bSI 4 (some .int) wsSI (rmJ 2) 0 0 4 ∧ (Cond.static ySI).before #[.ref sb, .int (I3 x), .int 0] s = true := by
    refine va_cwS 4 hts (fun w hw => ?_) rfl rfl rfl ⟨by decide, by decide, by decide +kernel⟩ ⟨Nat.le_of_ble_eq_true rfl, Nat.le_of_ble_eq_true rfl⟩
    rcases List.mem_append.mp hw with z | z
    · simp only [List.mem_cons, List.not_mem_nil, or_false] at z
      rcases z with rfl | rfl | rfl
      · exact ⟨wT_t (i := 690) (by decide +kernel) (by decide +kernel), wT_good (wT_t (i := 690) (by decide +kernel) (by decide +kernel))⟩
      · exact ⟨wT_t (i := 691) (by decide +kernel) (by decide +kernel), wT_good (wT_t (i := 691) (by decide +kernel) (by decide +kernel))⟩
      · exact ⟨wT_t (i := 18) (by decide +kernel) (by decide +kernel), wT_good (wT_t (i := 18) (by decide +kernel) (by decide +kernel))⟩
    · exact inSI w z
  refine lv_aload_n hx hb dI2_0 rfl (lv_at hl 0 rfl) ?_
  refine call_on (va_runV (As := []) (rest := []) hF (J_IL (l := l) (base := base) (sb := sb) (av := av)) cwIL ⟨JP_blind, vk_recv (i := 0) hJ.1 (by decide) hS, JP_at rfl hJ⟩ rfl rfl hl.1 rfl (lv_room (Nat.le_of_ble_eq_true rfl)) dI2_1 ⟨Nat.le_of_ble_eq_true rfl, Nat.le_of_ble_eq_true rfl⟩) (fun v1 st1 t1 lo1 e1 hW1 hlo1 hq1 => ?_)
  obtain ⟨hv1, ht1⟩ := hq1
  cases hv1
  rw [ht1, e1]
  have hS1 : va_S (fun q => base ≤ q) s.heap s.heap ([] ++ lo1) := ⟨Nat.le_refl _, fun _ _ _ => rfl, fun q hq => by
    rcases List.mem_append.mp hq with z | z
    · exact absurd z List.not_mem_nil
    · exact hlo1 q z⟩
  refine lv_if_eq (tgt := 23) hx hb dI2_4 (by decide) (fun q => absurd q (by decide)) (fun _ => ?_)
  refine lv_aload_n hx hb dI2_7 rfl (lv_at hl 0 rfl) ?_
  refine vk_getf hx hb (hJ.1.1 0 (by decide)).2.2.1 hS1 hown (hts _ (wT_t (i := 2354) (by decide +kernel) (by decide +kernel))) (fun _ h => h) dI2_8 ?_
  refine lv_iload_n hx hb dI2_11 rfl (lv_at hl 1 rfl) ?_
  refine lv_iload_n hx hb dI2_12 rfl (lv_at hl 2 rfl) ?_
  refine lv_aload_n hx hb dI2_13 rfl (lv_at hl 0 rfl) ?_
  refine call_on (va_runV (As := []) (rest := [.int 0, .int (I3 x), .ref (av 0)]) hF (J_LE (l := l) (base := base) (sb := sb) (av := av)) cwLE ⟨JP_blind, vk_recv (i := 0) hJ.1 (by decide) hS1, JP_at rfl hJ⟩ rfl rfl hl.1 rfl (lv_room (Nat.le_of_ble_eq_true rfl)) dI2_14 ⟨Nat.le_of_ble_eq_true rfl, Nat.le_of_ble_eq_true rfl⟩) (fun v2 st2 t2 lo2 e2 hW2 hlo2 hq2 => ?_)
  obtain ⟨hv2, ht2⟩ := hq2
  cases hv2
  rw [ht2, e2]
  have hS2 : va_S (fun q => base ≤ q) s.heap s.heap (([] ++ lo1) ++ lo2) := ⟨Nat.le_refl _, fun _ _ _ => rfl, fun q hq => by
    rcases List.mem_append.mp hq with z | z
    · exact hS1.2.2 q z
    · exact hlo2 q z⟩
  refine call_on (va_runS (As := [.ref (av 0), .int (I3 x), .int 0, .int 12]) (rest := []) hF (J_SI (l := l) (base := base) (sb := sb) (av := av) h0 h1) cwSI ⟨JP_blind, JP_at rfl hJ⟩ rfl rfl hl.1 rfl (lv_room (Nat.le_of_ble_eq_true rfl)) dI2_17 ⟨Nat.le_of_ble_eq_true rfl, Nat.le_of_ble_eq_true rfl⟩) (fun v3 st3 t3 lo3 e3 hW3 hlo3 hq3 => ?_)
  obtain ⟨hv3, ht3⟩ := hq3
  cases hv3
  rw [ht3, e3]
  have hS3 : va_S (fun q => base ≤ q) s.heap s.heap ((([] ++ lo1) ++ lo2) ++ lo3) := ⟨Nat.le_refl _, fun _ _ _ => rfl, fun q hq => by
    rcases List.mem_append.mp hq with z | z
    · exact hS2.2.2 q z
    · exact hlo3 q z⟩
  refine lv_goto (tgt := 36) hx hb dI2_20 (by decide) ?_
  exact W.iret hx hb hr (fun t ht _ => ⟨rfl, ht⟩) (fun q hq => hS3.2.2 q hq) dI2_36 hlocks
theorem J_I1 {x : Int} (h0 : 0 ≤ x) (h1 : x < 256) : Met l yI1 wsI1 (rmJ 4) (va_Pc [.ref sb, .int (I3 x)] (JW base sb av)) (Qp (.int (I3 (idxOf [115, 100, 103, 109, 98, 97, 111, 119, 108, 104, 121, 113] 0 x)))) 0 0 (fun q => base ≤ q) := by
  refine Met.ofW (cc := bI1) (maxL := 2) (ret := some .int) (by decide) rfl ?_
  intro p e s m args below meth c s₁ B hml hv
  obtain ⟨rfl, hJ⟩ := hv
  have hx := B.exec
  have hb := B.bytes
  have hr := B.returns
  have hts0 := atoms_spec (ws := wsI1) B.pre
  have hts : ∀ w ∈ wT, w.before _ s = true := fun w hw => hts0 w (List.mem_cons_of_mem _ hw)
  have hown : s.vm.findClass "java/lang/String" = some m.cls := findClass_of_methodNamed B.named
  have hlocks := B.notSynchronized
  have hF : CallFix p m c bI1 2 s _ wT "java/lang/String" := ⟨hx, hb, hml, hown, hts⟩
  have hS : va_S (fun q => base ≤ q) s.heap s.heap [] := va_S.rf
  have hl := lv_entry ([.ref sb, .int (I3 x)]) (n := 2) (Nat.le_of_ble_eq_true rfl)
  rw [lg_entry_eq]
  generalize (lg_sl ([.ref sb, .int (I3 x)]) ++ List.replicate (2 - (lg_sl ([.ref sb, .int (I3 x)])).length) Slot.unset).toArray = ls at hl ⊢
  have hl : lv_has ls 2 ([(0, .ref sb), (1, .int (I3 x))]) := hl
  have cwI2 : CallW (headSpec wsI1 (rmJ 4)).room s #[.ref sb, .int (I3 x)] "java/lang/String" "java/lang/String" 633 yI2 bI2 3 (some .int) wsI2 (rmJ 3) 0 0 2 := by
    refine cwV 2 hts (fun w hw => ?_) rfl rfl rfl ⟨rfl, by decide, by decide, by decide +kernel⟩ ⟨Nat.le_of_ble_eq_true rfl, Nat.le_of_ble_eq_true rfl⟩
    rcases List.mem_append.mp hw with z | z
    · simp only [List.mem_cons, List.not_mem_nil, or_false] at z
      rcases z with rfl | rfl | rfl | rfl
      · exact ⟨wT_t (i := 672) (by decide +kernel) (by decide +kernel), wT_good (wT_t (i := 672) (by decide +kernel) (by decide +kernel))⟩
      · exact ⟨wT_t (i := 673) (by decide +kernel) (by decide +kernel), wT_good (wT_t (i := 673) (by decide +kernel) (by decide +kernel))⟩
      · exact ⟨wT_t (i := 674) (by decide +kernel) (by decide +kernel), wT_good (wT_t (i := 674) (by decide +kernel) (by decide +kernel))⟩
      · exact ⟨wT_t (i := 17) (by decide +kernel) (by decide +kernel), wT_good (wT_t (i := 17) (by decide +kernel) (by decide +kernel))⟩
    · exact inI2 w z
  refine lv_aload_n hx hb dI1_0 rfl (lv_at hl 0 rfl) ?_
  refine lv_iload_n hx hb dI1_1 rfl (lv_at hl 1 rfl) ?_
  refine lv_iconst (v := 0) hx hb dI1_2 (by decide) ?_
  refine call_on (va_runV (As := [.int (I3 x), .int 0]) (rest := []) hF (J_I2 (l := l) (base := base) (sb := sb) (av := av) h0 h1) cwI2 ⟨JP_blind, vk_recv (i := 0) hJ.1 (by decide) hS, JP_at rfl hJ⟩ rfl rfl hl.1 rfl (lv_room (Nat.le_of_ble_eq_true rfl)) dI1_3 ⟨Nat.le_of_ble_eq_true rfl, Nat.le_of_ble_eq_true rfl⟩) (fun v1 st1 t1 lo1 e1 hW1 hlo1 hq1 => ?_)
  obtain ⟨hv1, ht1⟩ := hq1
  cases hv1
  rw [ht1, e1]
  have hS1 : va_S (fun q => base ≤ q) s.heap s.heap ([] ++ lo1) := ⟨Nat.le_refl _, fun _ _ _ => rfl, fun q hq => by
    rcases List.mem_append.mp hq with z | z
    · exact absurd z List.not_mem_nil
    · exact hlo1 q z⟩
  exact W.iret hx hb hr (fun t ht _ => ⟨rfl, ht⟩) (fun q hq => hS1.2.2 q hq) dI1_6 hlocks
end IDX
theorem idx_W {p : Program} {l : Launch} {e : Env} {R : Room} {s : State} {m : MethodId} {args : Array Value} {below : List Frame} {meth : Method} {c : Code} {H : Heap} {locs : List Loc} {Q : State → Prop} {cc : ByteArray} {nL : Nat} {sb b0 base : Nat} {sc : Nat × (Nat → Int)} {xs : Nat → Int32} {av : Nat → Nat} {H00 : Heap} {cells slots : Nat}
    (hx : p.tables.exec = Jvm.exec) (hb : c.code = cc) (hml : c.maxLocals = nL) (hown : s.vm.findClass (oN 4) = some m.cls) (hts : ∀ w ∈ wT, w.before args s = true) (hKy : Ky base b0 sb av H00 sc xs s) (hbase : base ≤ H.size) (hold : ∀ q, q < base → H[q]? = H00[q]?) (hfr : 8 ≤ R.frames) (hlo : 1024 ≤ R.locals) (hg1 : cells ≤ R.cells) (hg2 : slots ≤ R.slots)
    {x : Int} {rest : List Value} {pc : Nat} {L : Array Slot} (h0 : 0 ≤ x) (h1 : x < 256) (hr : (rest.map fun v => v.category).sum ≤ 8) (hL : L.size = nL) (hd : decode cc pc = .ok (.invokevirtual 120, 3))
    (K : ∀ locs', (∀ q ∈ locs', base ≤ q.base) → W p l e R s m args below meth c H (locs ++ locs') cells slots Q (F0 m (pc + 3) L (.int (I3 (idxOf [115, 100, 103, 109, 98, 97, 111, 119, 108, 104, 121, 113] 0 x)) :: rest))) :
    W p l e R s m args below meth c H locs cells slots Q (F0 m pc L (.int (I3 x) :: .ref sb :: rest)) := by
  have hcw : CallW R s args (oN 4) "java/lang/String" 120 yI1 bI1 2 (some .int) wsI1 (rmJ 4) 0 0 1 := by
    refine cwV 1 hts (fun w hw => ?_) rfl rfl rfl ⟨rfl, by decide, by decide, by decide +kernel⟩ ⟨by show 4 + 1 ≤ _; omega, by show 8 + (2 + 11) + 240 ≤ _; omega⟩
    rcases List.mem_append.mp hw with z | z
    · simp only [List.mem_cons, List.not_mem_nil, or_false] at z
      rcases z with rfl | rfl | rfl | rfl
      · exact ⟨wT_t (i := 668) (by decide +kernel) (by decide +kernel), wT_good (wT_t (i := 668) (by decide +kernel) (by decide +kernel))⟩
      · exact ⟨wT_t (i := 669) (by decide +kernel) (by decide +kernel), wT_good (wT_t (i := 669) (by decide +kernel) (by decide +kernel))⟩
      · exact ⟨wT_t (i := 670) (by decide +kernel) (by decide +kernel), wT_good (wT_t (i := 670) (by decide +kernel) (by decide +kernel))⟩
      · exact ⟨wT_t (i := 17) (by decide +kernel) (by decide +kernel), wT_good (wT_t (i := 17) (by decide +kernel) (by decide +kernel))⟩
    · exact inI1 w z
  have hW : ∀ U : State, U.heap = H → s.WarmedH U.vm → JW base sb av U := fun U hU hW => by
    obtain ⟨k1, k2, k3, k4, k5, k6⟩ := Ky_warm hW hKy
    refine ⟨?_, ?_, by rw [hU]; exact hbase⟩
    · refine vk_S.kept k5 (fun a _ ha => ?_)
      rw [hU]; exact hold a (Nat.not_le.mp ha)
    · refine va_Z.kept k6 (fun a _ ha => ?_)
      rw [hU]; exact hold a (Nat.not_le.mp ha)
  have hrc : ∃ cell : Cell, H[sb]? = some cell ∧ cell.vm.isStatics = false ∧ s.vm.findClass "java/lang/String" = some cell.cls := by
    obtain ⟨cell, q1, q2, q3, q4⟩ := (hKy.2.2.2.2.1.1 0 (by decide)).1.kept (H1 := H) (fun a _ ha => hold a (Nat.not_le.mp ha))
    exact ⟨cell, q1, q2, q3⟩
  refine call_on (va_runV (As := [.int (I3 x)]) (rest := rest) ⟨hx, hb, hml, hown, hts⟩ (J_I1 (l := l) (base := base) (sb := sb) (av := av) h0 h1) hcw ⟨JP_blind, hrc, fun U hU hW' => ⟨rfl, hW U hU hW'⟩⟩ rfl rfl hL rfl (lv_room hr) hd ⟨hg1, hg2⟩) (fun v1 st1 t1 lo1 e1 hW1 hlo1 hq1 => ?_)
  obtain ⟨hv1, ht1⟩ := hq1
  cases hv1
  rw [ht1, e1]
  exact K lo1 hlo1
end
section
/-! whole methods: what the small machine says of a call, the machine does -/
theorem lk_99 {l : List (Nat × Ins)} {q : Nat} (h : (lk l q).1 = 99) (hs : ∀ p ∈ l, p.2.1 ≠ 99) : lk l q = (99, 0, [], []) := by
  induction l with
  | nil => rfl
  | cons x l ih =>
    obtain ⟨p, i⟩ := x
    unfold lk at h ⊢
    by_cases e : p = q
    · rw [if_pos e] at h; exact absurd h (hs (p, i) List.mem_cons_self)
    · rw [if_neg e] at h ⊢; exact ih h (fun x hx => hs x (List.mem_cons_of_mem _ hx))
theorem OP97_0 : ∀ e ∈ MTL_0, (e.2.2.2.2.2.2.2.2.2.2).all (fun q => q.2.1 != 97 || q.2.2.2.1.headD 0 == 120) = true := by decide +kernel
theorem OP97_1 : ∀ e ∈ MTL_1, (e.2.2.2.2.2.2.2.2.2.2).all (fun q => q.2.1 != 97 || q.2.2.2.1.headD 0 == 120) = true := by decide +kernel
theorem OP97_2 : ∀ e ∈ MTL_2, (e.2.2.2.2.2.2.2.2.2.2).all (fun q => q.2.1 != 97 || q.2.2.2.1.headD 0 == 120) = true := by decide +kernel
theorem OP97_3 : ∀ e ∈ MTL_3, (e.2.2.2.2.2.2.2.2.2.2).all (fun q => q.2.1 != 97 || q.2.2.2.1.headD 0 == 120) = true := by decide +kernel
theorem OP97_4 : ∀ e ∈ MTL_4, (e.2.2.2.2.2.2.2.2.2.2).all (fun q => q.2.1 != 97 || q.2.2.2.1.headD 0 == 120) = true := by decide +kernel
theorem OP97_5 : ∀ e ∈ MTL_5, (e.2.2.2.2.2.2.2.2.2.2).all (fun q => q.2.1 != 97 || q.2.2.2.1.headD 0 == 120) = true := by decide +kernel
theorem OP97_6 : ∀ e ∈ MTL_6, (e.2.2.2.2.2.2.2.2.2.2).all (fun q => q.2.1 != 97 || q.2.2.2.1.headD 0 == 120) = true := by decide +kernel
theorem OP97_7 : ∀ e ∈ MTL_7, (e.2.2.2.2.2.2.2.2.2.2).all (fun q => q.2.1 != 97 || q.2.2.2.1.headD 0 == 120) = true := by decide +kernel
theorem OP97_8 : ∀ e ∈ MTL_8, (e.2.2.2.2.2.2.2.2.2.2).all (fun q => q.2.1 != 97 || q.2.2.2.1.headD 0 == 120) = true := by decide +kernel
theorem OP97_9 : ∀ e ∈ MTL_9, (e.2.2.2.2.2.2.2.2.2.2).all (fun q => q.2.1 != 97 || q.2.2.2.1.headD 0 == 120) = true := by decide +kernel
theorem OP97_10 : ∀ e ∈ MTL_10, (e.2.2.2.2.2.2.2.2.2.2).all (fun q => q.2.1 != 97 || q.2.2.2.1.headD 0 == 120) = true := by decide +kernel
theorem OP97_law : cd_345.all (fun q => q.2.1 != 97 || q.2.2.2.1.headD 0 == 120) = true := by decide +kernel
theorem OP97 (M : Nat) : (mK M).all (fun q => q.2.1 != 97 || q.2.2.2.1.headD 0 == 120) = true := by
  by_cases h : M = 345
  · subst h; exact OP97_law
  · have h1 : ∀ e ∈ MTL, (e.2.2.2.2.2.2.2.2.2.2).all (fun q => q.2.1 != 97 || q.2.2.2.1.headD 0 == 120) = true := by
      unfold MTL
      simp only [List.forall_mem_append]
      exact ⟨OP97_0, OP97_1, OP97_2, OP97_3, OP97_4, OP97_5, OP97_6, OP97_7, OP97_8, OP97_9, OP97_10⟩
    exact h1 _ (mt_mem h)
theorem op97_at {M pc : Nat} (h99 : (lk (mK M) pc).1 ≠ 99) : (lk (mK M) pc).1 = 97 → (lk (mK M) pc).2.2.1.headD 0 = 120 := by
  intro h
  have := List.all_eq_true.mp (OP97 M) _ (lk_mem h99)
  simp only [h] at this
  simpa using this
section SNDF
variable {p : Program} {l : Launch} {e : Env} {R : Room} {s : State} {m : MethodId} {args : Array Value} {below : List Frame} {meth : Method} {c : Code} {H H0 : Heap} {locs : List Loc} {Q : State → Prop} {cc : ByteArray} {own : String} {nL : Nat} {sb b0 base : Nat} {ad : Nat → Nat} {ca : Nat → ClassId} {tys : List (ClassId × FieldType)} {D : va_G} {sc : Nat × (Nat → Int)} {xs : Nat → Int32} {av : Nat → Nat} {H00 : Heap} {o : Nat} {ini : Bool} {al : GG}
/-- one instruction that is no call and no return -/
theorem sF_eff {i : Ins} {ls stk ls' stk' : List AV} {h h' : Hp} {gg gg' : GG} {pc pc' : Nat} {L : Array Slot}
    (hx : p.tables.exec = Jvm.exec) (hb : c.code = cc) (hml : c.maxLocals = nL) (hown : s.vm.findClass own = some m.cls) (ho : oN o = own) (hts : ∀ w ∈ wT, w.before args s = true) (hbase : base ≤ H0.size) (hold : ∀ q, q < base → H0[q]? = H00[q]?) (hKy : Ky base b0 sb av H00 sc xs s)
    (hxs : ∀ j, sc.2 j = (xs j).toInt) (hb0 : b0 < base) (hL4 : sc.1 ≤ 4096) (hin : ini = true → meth.name = "<init>")
    (hfr : 8 ≤ R.frames) (hlo : 1024 ≤ R.locals) (hgR : al.1 ≤ R.cells ∧ al.2 ≤ R.slots) (hgg : gg.1 ≤ al.1 ∧ gg.2 ≤ al.2)
    (hRl : Rl D base H0 s sc ad ca tys h H locs) (hl : lr sb b0 ad nL ls L) (hws : wvs h.2.2.1 stk) (hwl : wvs h.2.2.1 ls)
    (h97 : i.1 = 97 → i.2.2.1.headD 0 = 120) (hop : i.1 < 100) (hok : (if i.1 < 30 then okA o cc pc i else if i.1 < 60 then okB cc pc i else if i.1 < 76 then okC cc pc i else okD o ini cc pc i) = true) (hS : okS nL i = true)
    (he : eff LAY al i ls stk h gg = some (pc', ls', stk', h', gg'))
    (K : ∀ (ad' : Nat → Nat) (ca' : Nat → ClassId) (tys' : List (ClassId × FieldType)) (H' : Heap) (locs' : List Loc) (L' : Array Slot), ((∀ a, a < h.2.2.1 → ad' a = ad a) ∧ h.2.2.1 ≤ h'.2.2.1) → Rl D base H0 s sc ad' ca' tys' h' H' locs' → wvs h'.2.2.1 stk' → wvs h'.2.2.1 ls' → lr sb b0 ad' nL ls' L' → W p l e R s m args below meth c H' locs' gg'.1 gg'.2 Q (F0 m pc' L' (stk'.map (tr sb b0 ad')))) :
    W p l e R s m args below meth c H locs gg.1 gg.2 Q (F0 m pc L (stk.map (tr sb b0 ad))) := by
  obtain ⟨op, nx, ns, vs⟩ := i
  have hS := of_decide_eq_true hS
  unfold eff at he
  have hstr : o = 4 → vk_R own 118 "sdgmbaowlhyq" sb s := fun h4 => by rw [← ho, h4]; exact hKy.2.2.2.1
  have KS : ∀ (L' : Array Slot), lr sb b0 ad nL ls' L' → wvs h.2.2.1 stk' → wvs h.2.2.1 ls' → h' = h → gg' = gg → W p l e R s m args below meth c H locs gg.1 gg.2 Q (F0 m pc' L' (stk'.map (tr sb b0 ad))) := by
    intro L' h1 h2 h3 h4 h5
    subst h4; subst h5
    exact K ad ca tys H locs L' ⟨fun _ _ => rfl, Nat.le_refl _⟩ hRl h2 h3 h1
  by_cases h30 : op < 30
  · rw [if_pos h30] at hok
    rw [if_pos h30] at he
    exact sndA hx hb hown ho hts hS hstr h30 hok he hl hws hwl KS
  rw [if_neg h30] at hok
  rw [if_neg h30] at he
  by_cases h60 : op < 60
  · rw [if_pos h60] at hok
    rw [if_pos h60] at he
    exact sndB hx hb hok he hl hws hwl KS
  rw [if_neg h60] at hok
  rw [if_neg h60] at he
  by_cases h76 : op < 76
  · rw [if_pos h76] at hok
    rw [if_pos h76] at he
    exact sndC hx hb hok he hl hws hwl KS
  rw [if_neg h76] at hok
  rw [if_neg h76] at he
  have KD := fun ad' ca' tys' H' locs' h1 h2 h3 h4 h5 => K ad' ca' tys' H' locs' L h1 h2 h3 h4 h5
  have hX : va_X b0 sc.1 xs s H0 := va_X.kept hKy.2.2.1 (hold b0 hb0)
  have hg2 : gg.1 ≤ R.cells ∧ gg.2 ≤ R.slots := ⟨Nat.le_trans hgg.1 hgR.1, Nat.le_trans hgg.2 hgR.2⟩
  by_cases k76 : op = 76
  · subst k76; exact sD_76 hx hb hown ho hts hbase hRl hl hws hwl hgR hok he KD
  by_cases k77 : op = 77
  · subst k77; exact sD_77 hx hb hown ho hts hbase hRl hl hws hwl hgR hKy.2.1 hok he KD
  by_cases k78 : op = 78
  · subst k78; exact sD_78 hx hb hown ho hts hbase hRl hl hws hwl hgR hok he KD
  by_cases k79 : op = 79
  · subst k79; exact sD_79 hx hb hown ho hts hbase hRl hl hws hwl hml (by omega) (by omega) hg2 hok he KD
  by_cases k89 : op = 89
  · subst k89; exact sD_89 hx hb hown ho hts hbase hRl hl hws hwl hml (by omega) (by omega) hg2 hok he KD
  by_cases k98 : op = 98
  · subst k98; exact sD_98 hx hb hown ho hts hbase hRl hl hws hwl hml (by omega) (by omega) hg2 hok he KD
  by_cases k80 : op = 80
  · subst k80; exact sD_80 hx hb hown ho hts hbase hRl hl hws hwl hX hxs hb0 hok he KD
  by_cases k81 : op = 81
  · subst k81; exact sD_81 hx hb hown ho hts hbase hRl hl hws hwl hok he KD
  by_cases k82 : op = 82
  · subst k82; exact sD_82 hx hb hown ho hts hbase hRl hl hws hwl hok he KD
  by_cases k83 : op = 83
  · subst k83; exact sD_83 hx hb hown ho hts hbase hRl hl hws hwl hok he KD
  by_cases k84 : op = 84
  · subst k84; exact sD_84 hx hb hown ho hts hbase hRl hl hws hwl hok he KD
  by_cases k85 : op = 85
  · subst k85; exact sD_85 hx hb hown ho hts hbase hRl hl hws hwl hok he KD
  by_cases k86 : op = 86
  · subst k86; exact sD_86 hx hb hown ho hts hbase hRl hl hws hwl hok he KD
  by_cases k87 : op = 87
  · subst k87; exact sD_87 hx hb hown ho hts hbase hRl hl hws hwl hok he KD
  by_cases k88 : op = 88
  · subst k88; exact sD_88 hx hb hown ho hts hbase hRl hl hws hwl hX hL4 hb0 hok he KD
  by_cases k90 : op = 90
  · subst k90; exact sD_90 hx hb hown ho hts hbase hRl hl hws hwl hok he KD
  by_cases k91 : op = 91
  · subst k91; exact sD_91 hx hb hown ho hts hbase hRl hl hws hwl hok he KD
  by_cases k92 : op = 92
  · subst k92; exact sD_92 hx hb hown ho hts hbase hRl hl hws hwl hok he KD
  by_cases k93 : op = 93
  · subst k93; exact sD_93 hx hb hown ho hts hbase hRl hl hws hwl hin hok he KD
  by_cases k94 : op = 94
  · subst k94; exact sD_94 hx hb hown ho hts hbase hRl hl hws hwl hok he KD
  by_cases k95 : op = 95
  · subst k95; exact sD_95 hx hb hown ho hts hbase hRl hl hws hwl hml (by omega) (by omega) hok he KD
  by_cases k96 : op = 96
  · subst k96; exact sD_96 hx hb hown ho hts hbase hRl hl hws hwl hml (by omega) (by omega) hok he KD
  by_cases k97 : op = 97
  · subst k97
    have h120 : ns.headD 0 = 120 := h97 rfl
    obtain ⟨rP, rD, rK, rT, rS, rwh, rsc⟩ := hRl
    obtain ⟨rfl, hd, ho4, hvs⟩ := of_decide_eq_true (p := nx = pc + 3 ∧ decode cc pc = .ok (.invokevirtual (ns.headD 0), 3) ∧ o = 4 ∧ vs = [115, 100, 103, 109, 98, 97, 111, 119, 108, 104, 121, 113]) hok
    rw [h120] at hd
    replace he : (match (generalizing := false) stk with | (0, x) :: (5, _) :: r => if r.length ≤ 4 ∧ 0 ≤ x ∧ x < 256 then some (pc + 3, ls, (0, idxOf vs 0 x) :: r, h, gg) else none | _ => none) = some (pc', ls', stk', h', gg') := he
    rw [hvs] at he
    split at he
    · next x y r =>
      by_cases hcc : r.length ≤ 4 ∧ 0 ≤ x ∧ x < 256
      · rw [if_pos hcc] at he
        simp only [Option.some.injEq, Prod.mk.injEq] at he; obtain ⟨rfl, rfl, rfl, rfl, rfl⟩ := he
        have hw := wvs_c.mp hws
        have hw2 := wvs_c.mp hw.2
        have hr : in32 (idxOf [115, 100, 103, 109, 98, 97, 111, 119, 108, 104, 121, 113] 0 x) := by
          unfold idxOf idxOf idxOf idxOf idxOf idxOf idxOf idxOf idxOf idxOf idxOf idxOf idxOf in32
          repeat' split
          all_goals omega
        have hcs := cat_sum sb b0 ad r
        refine idx_W hx hb hml (by rw [← ho4, ho]; exact hown) hts hKy (Nat.le_trans hbase rS.1) (fun q hq => by rw [rS.2.1 q (Nat.lt_of_lt_of_le hq hbase) (Nat.not_le.mpr hq)]; exact hold q hq) hfr hlo hg2.1 hg2.2 hcc.2.1 hcc.2.2 (by omega) hl.1.1 hd (fun locs' hlc => ?_)
        exact KD ad ca tys H (locs ++ locs') ⟨fun _ _ => rfl, Nat.le_refl _⟩ ⟨rP, rD, rK, rT, ⟨rS.1, rS.2.1, fun q hq => by
          rcases List.mem_append.mp hq with z | z
          · exact rS.2.2 q z
          · exact hlc q z⟩, rwh, rsc⟩ (wvs_c.mpr ⟨wv0 hr, hw2.2⟩) hwl hl
      · rw [if_neg hcc] at he; cases he
    · cases he
  have hz : okD o ini cc pc (op, nx, ns, vs) = false := by
    unfold okD
    simp only [k76, k77, k78, k79, k89, k98, k80, k81, k82, k83, k84, k85, k86, k87, k88, k90, k91, k92, k93, k94, k95, k96, k97, if_false, or_self]
  rw [hz] at hok; cases hok
end SNDF
end
section
/-! runs and calls -/
theorem eff_99 {LY : Lay} {al : GG} {i : Ins} {ls stk : List AV} {h : Hp} {gg : GG} (hi : i.1 = 99) : eff LY al i ls stk h gg = none := by
  unfold eff
  rw [if_neg (by omega), if_neg (by omega), if_neg (by omega)]
  unfold effD
  dsimp only
  simp only [hi]
  rfl
def Pd (al : GG) (r : Option (Nat × List AV × List AV × Hp × GG)) : Prop := ∀ x, r = some x → x.2.2.2.2.1 ≤ al.1 ∧ x.2.2.2.2.2 ≤ al.2
theorem pd_none {al : GG} : Pd al none := fun _ h => by cases h
theorem pd_some {al : GG} {x : Nat × List AV × List AV × Hp × GG} (h : x.2.2.2.2.1 ≤ al.1 ∧ x.2.2.2.2.2 ≤ al.2) : Pd al (some x) := fun y e => by cases e; exact h
theorem pd_ite {al : GG} {c : Prop} [Decidable c] {a b : Option (Nat × List AV × List AV × Hp × GG)} (h1 : c → Pd al a) (h2 : ¬ c → Pd al b) : Pd al (if c then a else b) := by
  by_cases h : c
  · rw [if_pos h]; exact h1 h
  · rw [if_neg h]; exact h2 h
theorem pd_A {al : GG} {i : Ins} {ls stk : List AV} {h : Hp} {gg : GG} (hg : gg.1 ≤ al.1 ∧ gg.2 ≤ al.2) : Pd al (effA i ls stk h gg) := by
  unfold effA
  dsimp only
  repeat' (first | exact pd_none | exact pd_some hg | refine pd_ite (fun _ => ?_) (fun _ => ?_) | split)
theorem pd_B {al : GG} {i : Ins} {ls stk : List AV} {h : Hp} {gg : GG} (hg : gg.1 ≤ al.1 ∧ gg.2 ≤ al.2) : Pd al (effB i ls stk h gg) := by
  unfold effB b1 b2 b2z l2 l2z ls2
  dsimp only
  repeat' (first | exact pd_none | exact pd_some hg | refine pd_ite (fun _ => ?_) (fun _ => ?_) | split)
theorem pd_C {al : GG} {i : Ins} {ls stk : List AV} {h : Hp} {gg : GG} (hg : gg.1 ≤ al.1 ∧ gg.2 ≤ al.2) : Pd al (effC i ls stk h gg) := by
  unfold effC c1 c2
  dsimp only
  repeat' (first | exact pd_none | exact pd_some hg | refine pd_ite (fun _ => ?_) (fun _ => ?_) | split)
theorem pd_D {LY : Lay} {al : GG} {i : Ins} {ls stk : List AV} {h : Hp} {gg : GG} (hg : gg.1 ≤ al.1 ∧ gg.2 ≤ al.2) : Pd al (effD LY al i ls stk h gg) := by
  unfold effD
  dsimp only
  repeat' (first | exact pd_none | exact pd_some hg | exact pd_some ⟨hc.2.2.1, hc.2.2.2⟩ | exact pd_some ⟨hc.2.1, hc.2.2⟩ | refine pd_ite (fun hc => ?_) (fun _ => ?_) | split)
theorem eff_gg {LY : Lay} {al : GG} {i : Ins} {ls stk ls' stk' : List AV} {h h' : Hp} {gg gg' : GG} {pc' : Nat} (he : eff LY al i ls stk h gg = some (pc', ls', stk', h', gg')) (hg : gg.1 ≤ al.1 ∧ gg.2 ≤ al.2) : gg'.1 ≤ al.1 ∧ gg'.2 ≤ al.2 := by
  have key : Pd al (eff LY al i ls stk h gg) := by
    unfold eff
    exact pd_ite (fun _ => pd_A hg) (fun _ => pd_ite (fun _ => pd_B hg) (fun _ => pd_ite (fun _ => pd_C hg) (fun _ => pd_D hg)))
  exact key _ he
theorem okK_at {M pc : Nat} (h99 : (lk (mK M) pc).1 ≠ 99) : okI ML mN mC (mT M) (mO M) (mC M == 60) (mB M) pc (lk (mK M) pc) = true ∧ okS (mL M) (lk (mK M) pc) = true := by
  have h1 := OKK M
  have h2 := List.all_eq_true.mp h1 _ (lk_mem h99)
  exact Bool.and_eq_true_iff.mp h2
section SNDG
variable {p : Program} {l : Launch} {e : Env} {R : Room} {s : State} {m : MethodId} {args : Array Value} {below : List Frame} {meth : Method} {c : Code} {H0 : Heap} {Q : State → Prop} {sb b0 base : Nat} {D : va_G} {sc : Nat × (Nat → Int)} {xs : Nat → Int32} {av : Nat → Nat} {H00 : Heap}
/-- a method's stretch, to its end -/
theorem sG_run {d M : Nat} {n0 : Nat} {ad0 : Nat → Nat} {rr : Option AV} {hh : Hp}
    (IH : ∀ k as h r h', k ≠ 345 → Call PG d k as h = some (r, h') → wh h → h.2.2.2 = sc → Con l D base H00 sb b0 av sc xs d k as h r h')
    (hx : p.tables.exec = Jvm.exec) (hb : c.code = mB M) (hml : c.maxLocals = mL M) (hown : s.vm.findClass (oN (mO M)) = some m.cls) (hts : ∀ w ∈ wT, w.before args s = true) (hbase : base ≤ H0.size) (hold : ∀ q, q < base → H0[q]? = H00[q]?) (hKy : Ky base b0 sb av H00 sc xs s)
    (hxs : ∀ j, sc.2 j = (xs j).toInt) (hb0 : b0 < base) (hL4 : sc.1 ≤ 4096) (hin : (mC M == 60) = true → meth.name = "<init>")
    (hfr : d + 9 ≤ R.frames) (hlo : 64 * d + 1088 ≤ R.locals) (hgR : (mA M).1 ≤ R.cells ∧ (mA M).2 ≤ R.slots)
    (RET : ∀ (i : Ins) (pc : Nat) (ls stk : List AV) (h : Hp) (gg : GG) (ad : Nat → Nat) (ca : Nat → ClassId) (tys : List (ClassId × FieldType)) (H : Heap) (locs : List Loc) (L : Array Slot), okF (mT M) (mB M) pc i = true → goRet PG M i stk h = some (rr, hh) → ((∀ a, a < n0 → ad a = ad0 a) ∧ n0 ≤ h.2.2.1) → Rl D base H0 s sc ad ca tys h H locs → wvs h.2.2.1 stk → gg.1 ≤ (mA M).1 ∧ gg.2 ≤ (mA M).2 → W p l e R s m args below meth c H locs gg.1 gg.2 Q (F0 m pc L (stk.map (tr sb b0 ad)))) :
    ∀ (n pc : Nat) (ls stk : List AV) (h : Hp) (gg : GG), run PG (Call PG d) n M pc ls stk h gg = some (rr, hh) → ∀ (ad : Nat → Nat) (ca : Nat → ClassId) (tys : List (ClassId × FieldType)) (H : Heap) (locs : List Loc) (L : Array Slot), ((∀ a, a < n0 → ad a = ad0 a) ∧ n0 ≤ h.2.2.1) → Rl D base H0 s sc ad ca tys h H locs → lr sb b0 ad (mL M) ls L → wvs h.2.2.1 stk → wvs h.2.2.1 ls → gg.1 ≤ (mA M).1 ∧ gg.2 ≤ (mA M).2 → W p l e R s m args below meth c H locs gg.1 gg.2 Q (F0 m pc L (stk.map (tr sb b0 ad))) := by
  intro n
  induction n with
  | zero => intro pc ls stk h gg hr; cases hr
  | succ n ihn =>
    intro pc ls stk h gg hr ad ca tys H locs L hag hRl hl hws hwl hgg
    have hgo : go PG (Call PG d) (run PG (Call PG d) n M) M (lk (mK M) pc) ls stk h gg = some (rr, hh) := hr
    by_cases h99 : (lk (mK M) pc).1 = 99
    · exfalso
      unfold go at hgo
      rw [if_pos (by omega), eff_99 h99] at hgo
      cases hgo
    obtain ⟨hok, hS⟩ := okK_at h99
    have h97 := op97_at h99
    generalize lk (mK M) pc = i at hgo hok hS h97
    unfold go at hgo
    by_cases h100 : i.1 < 100
    · rw [if_pos h100] at hgo
      cases he : eff PG.1 (PG.2.2.1 M) i ls stk h gg with
      | none => rw [he] at hgo; cases hgo
      | some r =>
        obtain ⟨pc', ls', stk', h', gg'⟩ := r
        rw [he] at hgo
        have hgo : run PG (Call PG d) n M pc' ls' stk' h' gg' = some (rr, hh) := hgo
        have hok' : (if i.1 < 30 then okA (mO M) (mB M) pc i else if i.1 < 60 then okB (mB M) pc i else if i.1 < 76 then okC (mB M) pc i else okD (mO M) (mC M == 60) (mB M) pc i) = true := by
          unfold okI at hok
          rw [if_pos h100] at hok
          exact hok
        have hgg' : gg'.1 ≤ (mA M).1 ∧ gg'.2 ≤ (mA M).2 := eff_gg he hgg
        refine sF_eff hx hb hml hown rfl hts hbase hold hKy hxs hb0 hL4 hin (by omega) (by omega) hgR hgg hRl hl hws hwl h97 h100 hok' hS he (fun ad' ca' tys' H' locs' L' h1 h2 h3 h4 h5 => ?_)
        exact ihn pc' ls' stk' h' gg' hgo ad' ca' tys' H' locs' L' ⟨fun a ha => (h1.1 a (by omega)).trans (hag.1 a ha), by omega⟩ h2 h5 h3 h4 hgg'
    · rw [if_neg h100] at hgo
      by_cases h110 : i.1 < 110
      · rw [if_pos h110] at hgo
        have hokE : okE ML mN mC (mO M) (mB M) pc i = true := by
          unfold okI at hok
          rw [if_neg (by omega), if_neg (by omega), if_neg (by omega), if_neg h100, if_pos h110] at hok
          exact hok
        unfold goCall at hgo
        dsimp only at hgo
        cases htk : tk (i.2.2.1.tail.headD 0) [] stk with
        | none => rw [htk] at hgo; cases hgo
        | some q =>
          obtain ⟨as, r⟩ := q
          rw [htk] at hgo
          dsimp only at hgo
          by_cases hcnd : rcv PG.1 (PG.2.2.2.2.1 (i.2.2.1.headD 0)) as = true ∧ argw as ≤ PG.2.2.2.1 (i.2.2.1.headD 0) ∧ r.length ≤ 4 ∧ gg.1 + (PG.2.2.1 (i.2.2.1.headD 0)).1 ≤ (PG.2.2.1 M).1 ∧ gg.2 + (PG.2.2.1 (i.2.2.1.headD 0)).2 ≤ (PG.2.2.1 M).2
          · rw [if_pos hcnd] at hgo
            obtain ⟨hrc, haw, hr4, hg1, hg2⟩ := hcnd
            cases hC : Call PG d (i.2.2.1.headD 0) as h with
            | none => rw [hC] at hgo; cases hgo
            | some w =>
              obtain ⟨v, h1⟩ := w
              rw [hC] at hgo
              have hgo : run PG (Call PG d) n M i.2.1 ls (v.toList ++ r) h1 (gg.1 + (mA (i.2.2.1.headD 0)).1, gg.2 + (mA (i.2.2.1.headD 0)).2) = some (rr, hh) := hgo
              have hg1 : gg.1 + (mA (i.2.2.1.headD 0)).1 ≤ (mA M).1 := hg1
              have hg2 : gg.2 + (mA (i.2.2.1.headD 0)).2 ≤ (mA M).2 := hg2
              have hk345 : i.2.2.1.headD 0 ≠ 345 := by
                obtain ⟨hk, -⟩ := Bool.and_eq_true_iff.mp hokE
                obtain ⟨-, hlt, -, f2⟩ := of_decide_eq_true hk
                have := (ML_ok _ (getD_mem (d := (0, 0, 0, 0, 0)) hlt)).2
                rw [f2] at this
                omega
              refine sE hx hb hml hown rfl hts hbase hold hKy hfr hlo (by omega) (by omega) hRl hl hws hwl hokE htk hrc hr4 haw (IH _ _ _ _ _ hk345 hC hRl.2.2.2.2.2.1 hRl.2.2.2.2.2.2) (fun ad' ca' tys' H' locs' q1 q2 q3 q4 q5 => ?_)
              exact ihn i.2.1 ls (v.toList ++ r) h1 _ hgo ad' ca' tys' H' locs' L ⟨fun a ha => (q1.1 a (by omega)).trans (hag.1 a ha), by omega⟩ q2 q5 q3 q4 ⟨hg1, hg2⟩
          · rw [if_neg hcnd] at hgo; cases hgo
      · rw [if_neg h110] at hgo
        have hokF : okF (mT M) (mB M) pc i = true := by
          unfold okI at hok
          rw [if_neg (by omega), if_neg (by omega), if_neg (by omega), if_neg h100, if_neg h110] at hok
          exact hok
        exact RET i pc ls stk h gg ad ca tys H locs L hokF hgo hag hRl hws hgg
end SNDG
end
section
/-! contracts of all calls; the law from its start -/
theorem argw_len (sb b0 : Nat) (ad : Nat → Nat) : ∀ as : List AV, (lg_sl (as.map (tr sb b0 ad))).length = argw as
  | [] => rfl
  | v :: l => by
    have ih := argw_len sb b0 ad l
    unfold argw
    rw [List.map_cons]
    show (List.flatMap _ (tr sb b0 ad v :: l.map (tr sb b0 ad))).length = _
    rw [List.flatMap_cons, List.length_append]
    have e : (List.flatMap (fun v : Value => if v.category = 2 then [Slot.val v, .second] else [.val v]) (l.map (tr sb b0 ad))).length = argw l := ih
    rw [e, tr_cat]
    by_cases h : v.1 = 1
    · rw [if_pos h, if_pos rfl]; rfl
    · rw [if_neg h, if_neg (by decide)]; rfl
theorem ent_len : ∀ (n : Nat) (as : List AV), (ent n as).length = n
  | 0, _ => by unfold ent; rfl
  | n + 1, [] => by unfold ent; rw [List.length_cons, ent_len n []]
  | 1, (t, x) :: l => by
    unfold ent
    split
    · rfl
    · rw [List.length_cons, ent_len 0 l]
  | n + 2, (t, x) :: l => by
    unfold ent
    split
    · show (((t, x) : AV) :: (9, 0) :: ent n l).length = _
      rw [List.length_cons, List.length_cons, ent_len n l]
    · rw [List.length_cons, ent_len (n + 1) l]
theorem ent_wvs {k : Nat} : ∀ (n : Nat) (as : List AV), wvs k as → wvs k (ent n as)
  | 0, _, _ => by unfold ent; exact wvs_n
  | n + 1, [], h => by unfold ent; exact wvs_c.mpr ⟨wvk (by decide), ent_wvs n [] h⟩
  | 1, (t, x) :: l, h => by
    have hc := wvs_c.mp h
    unfold ent
    split
    · exact wvs_c.mpr ⟨hc.1, wvs_n⟩
    · exact wvs_c.mpr ⟨hc.1, ent_wvs 0 l hc.2⟩
  | n + 2, (t, x) :: l, h => by
    have hc := wvs_c.mp h
    unfold ent
    split
    · exact wvs_c.mpr ⟨hc.1, wvs_c.mpr ⟨wvk (by decide), ent_wvs n l hc.2⟩⟩
    · exact wvs_c.mpr ⟨hc.1, ent_wvs (n + 1) l hc.2⟩
theorem prs_ent (sb b0 : Nat) (ad : Nat → Nat) : ∀ (n k : Nat) (as : List AV) (q : Nat × Value), q ∈ prs sb b0 ad k (ent n as) → q ∈ lv_args k (as.map (tr sb b0 ad))
  | 0, _, _, q, h => by unfold ent at h; exact absurd h List.not_mem_nil
  | n + 1, k, [], q, h => by
    unfold ent prs at h
    rw [if_pos rfl] at h
    exact absurd (prs_ent sb b0 ad n (k + 1) [] q h) List.not_mem_nil
  | 1, k, (t, x) :: l, q, h => by
    have h1 : lv_args k (((t, x) :: l).map (tr sb b0 ad)) = (k, tr sb b0 ad (t, x)) :: lv_args (if (tr sb b0 ad (t, x)).category = 2 then k + 2 else k + 1) (l.map (tr sb b0 ad)) := rfl
    rw [h1]
    unfold ent prs at h
    by_cases h9 : t = 9
    · have h9' : ((t, x) : AV).1 = 9 := h9
      rw [if_pos h9', if_neg (by omega)] at h
      unfold ent at h
      exact absurd h List.not_mem_nil
    · have h9' : ¬ ((t, x) : AV).1 = 9 := h9
      rw [if_neg h9'] at h
      rcases List.mem_cons.mp h with e | h
      · rw [e]; exact List.mem_cons_self
      · exfalso
        split at h
        · exact absurd h List.not_mem_nil
        · unfold ent at h; exact absurd h List.not_mem_nil
  | n + 2, k, (t, x) :: l, q, h => by
    have h1 : lv_args k (((t, x) :: l).map (tr sb b0 ad)) = (k, tr sb b0 ad (t, x)) :: lv_args (if (tr sb b0 ad (t, x)).category = 2 then k + 2 else k + 1) (l.map (tr sb b0 ad)) := rfl
    rw [h1, tr_cat]
    unfold ent prs at h
    by_cases ht : t = 1
    · subst ht
      have e1 : (if ((1, x) : AV).1 = 1 then 2 else 1) = 2 := rfl
      rw [e1, if_pos rfl]
      have h9' : ¬ ((1, x) : AV).1 = 9 := fun e => absurd (show (1 : Nat) = 9 from e) (by decide)
      rw [if_neg h9', if_pos rfl] at h
      rcases List.mem_cons.mp h with e | h
      · rw [e]; exact List.mem_cons_self
      · have h : q ∈ prs sb b0 ad (k + 1) ((9, 0) :: ent n l) := h
        unfold prs at h
        rw [if_pos rfl] at h
        exact List.mem_cons_of_mem _ (prs_ent sb b0 ad n (k + 2) l q h)
    · have ht' : ¬ ((t, x) : AV).1 = 1 := ht
      rw [if_neg ht', if_neg (by decide)]
      rw [if_neg ht] at h
      by_cases h9 : t = 9
      · have h9' : ((t, x) : AV).1 = 9 := h9
        rw [if_pos h9'] at h
        exact List.mem_cons_of_mem _ (prs_ent sb b0 ad (n + 1) (k + 1) l q h)
      · have h9' : ¬ ((t, x) : AV).1 = 9 := h9
        rw [if_neg h9'] at h
        rcases List.mem_cons.mp h with e | h
        · rw [e]; exact List.mem_cons_self
        · exact List.mem_cons_of_mem _ (prs_ent sb b0 ad (n + 1) (k + 1) l q h)
theorem lr_ent (sb b0 : Nat) (ad : Nat → Nat) {n : Nat} {as : List AV} (h : argw as ≤ n) : lr sb b0 ad n (ent n as) ((lg_sl (as.map (tr sb b0 ad)) ++ List.replicate (n - (lg_sl (as.map (tr sb b0 ad))).length) Slot.unset).toArray) := by
  have h1 := lv_entry (as.map (tr sb b0 ad)) (n := n) (by rw [argw_len]; exact h)
  exact ⟨⟨h1.1, h1.2.1, fun q hq => h1.2.2 q (prs_ent sb b0 ad n 0 as q hq)⟩, ent_len n as⟩
/-- what a method returns, at its return -/
theorem ret_lem {rt M : Nat} {cc : ByteArray} {pc : Nat} {i : Ins} {stk : List AV} {h hh : Hp} {rr : Option AV} (hM : mT M = rt) (hok : okF rt cc pc i = true) (hr : goRet PG M i stk h = some (rr, hh)) :
    hh = h ∧ ((rt = 0 ∧ stk = [] ∧ rr = none ∧ decode cc pc = .ok (.return_, 1)) ∨ (∃ x, (rt = 1 ∨ (rt = 2 ∧ (x = 0 ∨ x = 1))) ∧ stk = [(0, x)] ∧ rr = some (0, x) ∧ decode cc pc = .ok (.ireturn, 1)) ∨ (∃ x, rt = 3 ∧ stk = [(1, x)] ∧ rr = some (1, x) ∧ decode cc pc = .ok (.lreturn, 1))) := by
  unfold okF at hok
  unfold goRet at hr
  by_cases h1 : i.1 = 110
  · rw [if_pos h1] at hok hr
    obtain ⟨hd, hrt⟩ := of_decide_eq_true hok
    split at hr
    · next x =>
      have hr : (if mT M = 2 then (if x = 0 ∨ x = 1 then some (some ((0 : Nat), x), h) else none) else some (some (0, x), h)) = some (rr, hh) := hr
      rw [hM] at hr
      by_cases h2 : rt = 2
      · rw [if_pos h2] at hr
        by_cases hx : x = 0 ∨ x = 1
        · rw [if_pos hx] at hr
          cases hr
          exact ⟨rfl, Or.inr (Or.inl ⟨x, Or.inr ⟨h2, hx⟩, rfl, rfl, hd⟩)⟩
        · rw [if_neg hx] at hr; cases hr
      · rw [if_neg h2] at hr
        cases hr
        exact ⟨rfl, Or.inr (Or.inl ⟨x, Or.inl (by omega), rfl, rfl, hd⟩)⟩
    · cases hr
  · rw [if_neg h1] at hok hr
    by_cases h2 : i.1 = 111
    · rw [if_pos h2] at hok hr
      obtain ⟨hd, hrt⟩ := of_decide_eq_true hok
      split at hr
      · next x => cases hr; exact ⟨rfl, Or.inr (Or.inr ⟨x, hrt, rfl, rfl, hd⟩)⟩
      · cases hr
    · rw [if_neg h2] at hok hr
      by_cases h3 : i.1 = 112
      · rw [if_pos h3] at hok
        obtain ⟨hd, hrt⟩ := of_decide_eq_true hok
        split at hr
        · cases hr; exact ⟨rfl, Or.inl ⟨hrt, rfl, rfl, hd⟩⟩
        · cases hr
      · rw [if_neg h3] at hok; cases hok
theorem Con_all {l : Launch} {D : va_G} {base : Nat} {H00 : Heap} {sb b0 : Nat} {av : Nat → Nat} {sc : Nat × (Nat → Int)} {xs : Nat → Int32} (hxs : ∀ j, sc.2 j = (xs j).toInt) (hb0 : b0 < base) (hL4 : sc.1 ≤ 4096) :
    ∀ (d k : Nat) (as : List AV) (h : Hp) (r : Option AV) (h' : Hp), k ≠ 345 → Call PG d k as h = some (r, h') → wh h → h.2.2.2 = sc → Con l D base H00 sb b0 av sc xs d k as h r h' := by
  intro d
  induction d with
  | zero => intro k as h r h' _ hc; cases hc
  | succ d ih =>
    intro k as h rr hh hk hc hwh hsc ad ca tys hwas haw
    have hc : Run PG (Call PG d) k 0 (ent (mL k) as) [] h (0, 0) = some (rr, hh) := hc
    obtain ⟨n, hn⟩ := Run_to hc
    obtain ⟨⟨⟨u1, u2, u3⟩, ⟨g1, g2, g3⟩, ⟨y1, y2, y3⟩, y4, y5, y6, y7, y8, y9, y10, y11, y12⟩, u0⟩ := OKW _ (mt_mem hk)
    refine Met.ofW (cc := mB k) (maxL := mL k) (ret := mR k) y4 rfl ?_
    intro p e s m args below meth c s₁ B hml hv
    obtain ⟨hargs, hWd, hKy⟩ := hv
    obtain ⟨w1, w2, w3, w4, w5, w6, w7, w8⟩ := hWd
    have hts0 := atoms_spec (ws := wsM k) B.pre
    have hts : ∀ w ∈ wT, w.before args s = true := fun w hw => hts0 w (List.mem_cons_of_mem _ hw)
    have hown : s.vm.findClass (oN (mO k)) = some m.cls := by
      have y5' : oN (mO k) = (mY k).cls := y5
      rw [y5']
      exact findClass_of_methodNamed B.named
    have hnm : meth.name = (mY k).name := (name_of_methodNamed B.named B.method).1
    have hlocks := B.notSynchronized
    have hx := B.exec
    have hb := B.bytes
    have hrt := B.returns
    rw [hargs]
    rw [hargs] at hts
    rw [lg_entry_eq]
    refine sG_run (H0 := s.heap) (R := (headSpec (wsM k) (rmD (d + 1) k)).room) (d := d) (M := k) (n0 := h.2.2.1) (ad0 := ad) (rr := rr) (hh := hh) ih hx hb hml hown hts w7 w8 hKy hxs hb0 hL4 (fun z => by rw [hnm]; exact y8 (eq_of_beq z)) (Nat.le_refl _) (by show 64 * d + 1088 ≤ 64 * (d + 1) + 1024; omega) ⟨Nat.le_refl _, Nat.le_refl _⟩ ?_ n 0 _ [] h (0, 0) hn ad ca tys s.heap [] _ ⟨fun _ _ => rfl, Nat.le_refl _⟩ ⟨w1, w2, w3, w4, va_S.rf, w5, w6⟩ (lr_ent sb b0 ad haw) wvs_n (ent_wvs _ _ hwas) ⟨Nat.zero_le _, Nat.zero_le _⟩
    intro i pc ls stk h2 gg ad2 ca2 tys2 H locs L hok hret hag hRl hws hgg
    obtain ⟨rfl, hcase⟩ := ret_lem rfl hok hret
    obtain ⟨r1, r2, r3, r4, r5, r6, r7⟩ := hRl
    have hq : ∀ (t : State), t.heap = H → s.WarmedH t.vm → QcM D base H00 sb b0 sc ad h rr hh (as.map (tr sb b0 ad)).toArray s (.returned (rr.map (tr sb b0 ad2))) t := by
      intro t ht hW
      refine ⟨ad2, ca2, tys2, hag, rfl, ⟨by rw [ht]; exact r1, r2, va_K.moved hW.alike r3, r4, r6, r7, by rw [ht]; exact Nat.le_trans w7 r5.1, fun q hq => ?_⟩, by rw [ht]; exact r5.1, fun v hv => ?_⟩
      · rw [ht, r5.2.1 q (Nat.lt_of_lt_of_le hq w7) (Nat.not_le.mpr hq)]
        exact w8 q hq
      · rcases hcase with ⟨_, e1, e2, _⟩ | ⟨x, _, e1, e2, _⟩ | ⟨x, _, e1, e2, _⟩
        · rw [e2] at hv; cases hv
        · rw [e2] at hv; cases hv
          rw [e1] at hws
          exact (wvs_c.mp hws).1
        · rw [e2] at hv; cases hv
          rw [e1] at hws
          exact (wvs_c.mp hws).1
    refine W.widen hgg.1 hgg.2 ?_
    have y11' : (mT k = 0 ∧ mR k = none) ∨ (mT k = 1 ∧ mR k = some .int) ∨ (mT k = 2 ∧ mR k = some .boolean) ∨ (mT k = 3 ∧ mR k = some .long) := y11
    rcases hcase with ⟨f1, e1, e2, hd⟩ | ⟨x, f1, e1, e2, hd⟩ | ⟨x, f1, e1, e2, hd⟩
    · subst e1; subst e2
      have hR : mR k = none := by rcases y11' with z | z | z | z <;> first | exact z.2 | omega
      exact W.vret hx hb (by rw [hrt, hR]) hq (fun q hq => r5.2.2 q hq) hd hlocks
    · subst e1; subst e2
      rcases f1 with f1 | ⟨f1, h01⟩
      · have hR : mR k = some .int := by rcases y11' with z | z | z | z <;> first | exact z.2 | omega
        exact W.iret hx hb (by rw [hrt, hR]) hq (fun q hq => r5.2.2 q hq) hd hlocks
      · have hR : mR k = some .boolean := by rcases y11' with z | z | z | z <;> first | exact z.2 | omega
        exact W.zret hx hb (by rw [hrt, hR]) (by rcases h01 with rfl | rfl <;> decide) hq (fun q hq => r5.2.2 q hq) hd hlocks
    · subst e1; subst e2
      have hR : mR k = some .long := by rcases y11' with z | z | z | z <;> first | exact z.2 | omega
      exact W.lret hx hb (by rw [hrt, hR]) hq (fun q hq => r5.2.2 q hq) hd hlocks
end
