theorem okw_0 : okW mt_0 := by unfold okW; decide +kernel
set_option maxRecDepth 40000 in
theorem oku_0 : okU mt_0 := by unfold okU; rfl
theorem okw_1 : okW mt_1 := by unfold okW; decide +kernel
set_option maxRecDepth 40000 in
theorem oku_1 : okU mt_1 := by unfold okU; rfl
theorem okw_2 : okW mt_2 := by unfold okW; decide +kernel
set_option maxRecDepth 40000 in
theorem oku_2 : okU mt_2 := by unfold okU; rfl
theorem okw_3 : okW mt_3 := by unfold okW; decide +kernel
set_option maxRecDepth 40000 in
theorem oku_3 : okU mt_3 := by unfold okU; rfl
theorem okw_4 : okW mt_4 := by unfold okW; decide +kernel
set_option maxRecDepth 40000 in
theorem oku_4 : okU mt_4 := by unfold okU; rfl
theorem okw_5 : okW mt_5 := by unfold okW; decide +kernel
set_option maxRecDepth 40000 in
theorem oku_5 : okU mt_5 := by unfold okU; rfl
theorem okw_6 : okW mt_6 := by unfold okW; decide +kernel
set_option maxRecDepth 40000 in
theorem oku_6 : okU mt_6 := by unfold okU; rfl
theorem okw_7 : okW mt_7 := by unfold okW; decide +kernel
set_option maxRecDepth 40000 in
theorem oku_7 : okU mt_7 := by unfold okU; rfl
theorem okw_8 : okW mt_8 := by unfold okW; decide +kernel
set_option maxRecDepth 40000 in
theorem oku_8 : okU mt_8 := by unfold okU; rfl
theorem okw_9 : okW mt_9 := by unfold okW; decide +kernel
set_option maxRecDepth 40000 in
theorem oku_9 : okU mt_9 := by unfold okU; rfl
theorem okw_10 : okW mt_10 := by unfold okW; decide +kernel
set_option maxRecDepth 40000 in
theorem oku_10 : okU mt_10 := by unfold okU; rfl
theorem okw_11 : okW mt_11 := by unfold okW; decide +kernel
set_option maxRecDepth 40000 in
theorem oku_11 : okU mt_11 := by unfold okU; rfl
theorem okw_12 : okW mt_12 := by unfold okW; decide +kernel
set_option maxRecDepth 40000 in
theorem oku_12 : okU mt_12 := by unfold okU; rfl
theorem okw_13 : okW mt_13 := by unfold okW; decide +kernel
set_option maxRecDepth 40000 in
theorem oku_13 : okU mt_13 := by unfold okU; rfl
theorem okw_14 : okW mt_14 := by unfold okW; decide +kernel
set_option maxRecDepth 40000 in
theorem oku_14 : okU mt_14 := by unfold okU; rfl
theorem okw_15 : okW mt_15 := by unfold okW; decide +kernel
set_option maxRecDepth 40000 in
theorem oku_15 : okU mt_15 := by unfold okU; rfl
theorem okw_16 : okW mt_16 := by unfold okW; decide +kernel
set_option maxRecDepth 40000 in
theorem oku_16 : okU mt_16 := by unfold okU; rfl
theorem okw_17 : okW mt_17 := by unfold okW; decide +kernel
set_option maxRecDepth 40000 in
theorem oku_17 : okU mt_17 := by unfold okU; rfl
theorem okw_18 : okW mt_18 := by unfold okW; decide +kernel
set_option maxRecDepth 40000 in
theorem oku_18 : okU mt_18 := by unfold okU; rfl
theorem okw_19 : okW mt_19 := by unfold okW; decide +kernel
set_option maxRecDepth 40000 in
theorem oku_19 : okU mt_19 := by unfold okU; rfl
theorem okw_20 : okW mt_20 := by unfold okW; decide +kernel
set_option maxRecDepth 40000 in
theorem oku_20 : okU mt_20 := by unfold okU; rfl
theorem okw_21 : okW mt_21 := by unfold okW; decide +kernel
set_option maxRecDepth 40000 in
theorem oku_21 : okU mt_21 := by unfold okU; rfl
theorem okw_22 : okW mt_22 := by unfold okW; decide +kernel
set_option maxRecDepth 40000 in
theorem oku_22 : okU mt_22 := by unfold okU; rfl
theorem okw_23 : okW mt_23 := by unfold okW; decide +kernel
set_option maxRecDepth 40000 in
theorem oku_23 : okU mt_23 := by unfold okU; rfl
theorem okw_24 : okW mt_24 := by unfold okW; decide +kernel
set_option maxRecDepth 40000 in
theorem oku_24 : okU mt_24 := by unfold okU; rfl
theorem okw_25 : okW mt_25 := by unfold okW; decide +kernel
set_option maxRecDepth 40000 in
theorem oku_25 : okU mt_25 := by unfold okU; rfl
theorem okw_26 : okW mt_26 := by unfold okW; decide +kernel
set_option maxRecDepth 40000 in
theorem oku_26 : okU mt_26 := by unfold okU; rfl
theorem okw_27 : okW mt_27 := by unfold okW; decide +kernel
set_option maxRecDepth 40000 in
theorem oku_27 : okU mt_27 := by unfold okU; rfl
theorem okw_28 : okW mt_28 := by unfold okW; decide +kernel
set_option maxRecDepth 40000 in
theorem oku_28 : okU mt_28 := by unfold okU; rfl
theorem okw_29 : okW mt_29 := by unfold okW; decide +kernel
set_option maxRecDepth 40000 in
theorem oku_29 : okU mt_29 := by unfold okU; rfl
theorem okw_30 : okW mt_30 := by unfold okW; decide +kernel
set_option maxRecDepth 40000 in
theorem oku_30 : okU mt_30 := by unfold okU; rfl
theorem okw_31 : okW mt_31 := by unfold okW; decide +kernel
set_option maxRecDepth 40000 in
theorem oku_31 : okU mt_31 := by unfold okU; rfl
theorem OKW_0 : ∀ e ∈ MTL_0, okW e ∧ okU e := List.forall_mem_cons.mpr ⟨⟨okw_0, oku_0⟩, List.forall_mem_cons.mpr ⟨⟨okw_1, oku_1⟩, List.forall_mem_cons.mpr ⟨⟨okw_2, oku_2⟩, List.forall_mem_cons.mpr ⟨⟨okw_3, oku_3⟩, List.forall_mem_cons.mpr ⟨⟨okw_4, oku_4⟩, List.forall_mem_cons.mpr ⟨⟨okw_5, oku_5⟩, List.forall_mem_cons.mpr ⟨⟨okw_6, oku_6⟩, List.forall_mem_cons.mpr ⟨⟨okw_7, oku_7⟩, List.forall_mem_cons.mpr ⟨⟨okw_8, oku_8⟩, List.forall_mem_cons.mpr ⟨⟨okw_9, oku_9⟩, List.forall_mem_cons.mpr ⟨⟨okw_10, oku_10⟩, List.forall_mem_cons.mpr ⟨⟨okw_11, oku_11⟩, List.forall_mem_cons.mpr ⟨⟨okw_12, oku_12⟩, List.forall_mem_cons.mpr ⟨⟨okw_13, oku_13⟩, List.forall_mem_cons.mpr ⟨⟨okw_14, oku_14⟩, List.forall_mem_cons.mpr ⟨⟨okw_15, oku_15⟩, List.forall_mem_cons.mpr ⟨⟨okw_16, oku_16⟩, List.forall_mem_cons.mpr ⟨⟨okw_17, oku_17⟩, List.forall_mem_cons.mpr ⟨⟨okw_18, oku_18⟩, List.forall_mem_cons.mpr ⟨⟨okw_19, oku_19⟩, List.forall_mem_cons.mpr ⟨⟨okw_20, oku_20⟩, List.forall_mem_cons.mpr ⟨⟨okw_21, oku_21⟩, List.forall_mem_cons.mpr ⟨⟨okw_22, oku_22⟩, List.forall_mem_cons.mpr ⟨⟨okw_23, oku_23⟩, List.forall_mem_cons.mpr ⟨⟨okw_24, oku_24⟩, List.forall_mem_cons.mpr ⟨⟨okw_25, oku_25⟩, List.forall_mem_cons.mpr ⟨⟨okw_26, oku_26⟩, List.forall_mem_cons.mpr ⟨⟨okw_27, oku_27⟩, List.forall_mem_cons.mpr ⟨⟨okw_28, oku_28⟩, List.forall_mem_cons.mpr ⟨⟨okw_29, oku_29⟩, List.forall_mem_cons.mpr ⟨⟨okw_30, oku_30⟩, List.forall_mem_cons.mpr ⟨⟨okw_31, oku_31⟩, fun _ h => absurd h List.not_mem_nil⟩⟩⟩⟩⟩⟩⟩⟩⟩⟩⟩⟩⟩⟩⟩⟩⟩⟩⟩⟩⟩⟩⟩⟩⟩⟩⟩⟩⟩⟩⟩⟩
theorem okw_32 : okW mt_32 := by unfold okW; decide +kernel
set_option maxRecDepth 40000 in
theorem oku_32 : okU mt_32 := by unfold okU; rfl
theorem okw_33 : okW mt_33 := by unfold okW; decide +kernel
set_option maxRecDepth 40000 in
theorem oku_33 : okU mt_33 := by unfold okU; rfl
theorem okw_34 : okW mt_34 := by unfold okW; decide +kernel
set_option maxRecDepth 40000 in
theorem oku_34 : okU mt_34 := by unfold okU; rfl
theorem okw_35 : okW mt_35 := by unfold okW; decide +kernel
set_option maxRecDepth 40000 in
theorem oku_35 : okU mt_35 := by unfold okU; rfl
theorem okw_36 : okW mt_36 := by unfold okW; decide +kernel
set_option maxRecDepth 40000 in
theorem oku_36 : okU mt_36 := by unfold okU; rfl
theorem okw_37 : okW mt_37 := by unfold okW; decide +kernel
set_option maxRecDepth 40000 in
theorem oku_37 : okU mt_37 := by unfold okU; rfl
theorem okw_38 : okW mt_38 := by unfold okW; decide +kernel
set_option maxRecDepth 40000 in
theorem oku_38 : okU mt_38 := by unfold okU; rfl
theorem okw_39 : okW mt_39 := by unfold okW; decide +kernel
set_option maxRecDepth 40000 in
theorem oku_39 : okU mt_39 := by unfold okU; rfl
theorem okw_40 : okW mt_40 := by unfold okW; decide +kernel
set_option maxRecDepth 40000 in
theorem oku_40 : okU mt_40 := by unfold okU; rfl
theorem okw_41 : okW mt_41 := by unfold okW; decide +kernel
set_option maxRecDepth 40000 in
theorem oku_41 : okU mt_41 := by unfold okU; rfl
theorem okw_42 : okW mt_42 := by unfold okW; decide +kernel
set_option maxRecDepth 40000 in
theorem oku_42 : okU mt_42 := by unfold okU; rfl
theorem okw_43 : okW mt_43 := by unfold okW; decide +kernel
set_option maxRecDepth 40000 in
theorem oku_43 : okU mt_43 := by unfold okU; rfl
theorem okw_44 : okW mt_44 := by unfold okW; decide +kernel
set_option maxRecDepth 40000 in
theorem oku_44 : okU mt_44 := by unfold okU; rfl
theorem okw_45 : okW mt_45 := by unfold okW; decide +kernel
set_option maxRecDepth 40000 in
theorem oku_45 : okU mt_45 := by unfold okU; rfl
theorem okw_46 : okW mt_46 := by unfold okW; decide +kernel
set_option maxRecDepth 40000 in
theorem oku_46 : okU mt_46 := by unfold okU; rfl
theorem okw_47 : okW mt_47 := by unfold okW; decide +kernel
set_option maxRecDepth 40000 in
theorem oku_47 : okU mt_47 := by unfold okU; rfl
theorem okw_48 : okW mt_48 := by unfold okW; decide +kernel
set_option maxRecDepth 40000 in
theorem oku_48 : okU mt_48 := by unfold okU; rfl
theorem okw_49 : okW mt_49 := by unfold okW; decide +kernel
set_option maxRecDepth 40000 in
theorem oku_49 : okU mt_49 := by unfold okU; rfl
theorem okw_50 : okW mt_50 := by unfold okW; decide +kernel
set_option maxRecDepth 40000 in
theorem oku_50 : okU mt_50 := by unfold okU; rfl
theorem okw_51 : okW mt_51 := by unfold okW; decide +kernel
set_option maxRecDepth 40000 in
theorem oku_51 : okU mt_51 := by unfold okU; rfl
theorem okw_52 : okW mt_52 := by unfold okW; decide +kernel
set_option maxRecDepth 40000 in
theorem oku_52 : okU mt_52 := by unfold okU; rfl
theorem okw_53 : okW mt_53 := by unfold okW; decide +kernel
set_option maxRecDepth 40000 in
theorem oku_53 : okU mt_53 := by unfold okU; rfl
theorem okw_54 : okW mt_54 := by unfold okW; decide +kernel
set_option maxRecDepth 40000 in
theorem oku_54 : okU mt_54 := by unfold okU; rfl
theorem okw_55 : okW mt_55 := by unfold okW; decide +kernel
set_option maxRecDepth 40000 in
theorem oku_55 : okU mt_55 := by unfold okU; rfl
theorem okw_56 : okW mt_56 := by unfold okW; decide +kernel
set_option maxRecDepth 40000 in
theorem oku_56 : okU mt_56 := by unfold okU; rfl
theorem okw_57 : okW mt_57 := by unfold okW; decide +kernel
set_option maxRecDepth 40000 in
theorem oku_57 : okU mt_57 := by unfold okU; rfl
theorem okw_58 : okW mt_58 := by unfold okW; decide +kernel
set_option maxRecDepth 40000 in
theorem oku_58 : okU mt_58 := by unfold okU; rfl
theorem okw_59 : okW mt_59 := by unfold okW; decide +kernel
set_option maxRecDepth 40000 in
theorem oku_59 : okU mt_59 := by unfold okU; rfl
theorem okw_60 : okW mt_60 := by unfold okW; decide +kernel
set_option maxRecDepth 40000 in
theorem oku_60 : okU mt_60 := by unfold okU; rfl
theorem okw_61 : okW mt_61 := by unfold okW; decide +kernel
set_option maxRecDepth 40000 in
theorem oku_61 : okU mt_61 := by unfold okU; rfl
theorem okw_62 : okW mt_62 := by unfold okW; decide +kernel
set_option maxRecDepth 40000 in
theorem oku_62 : okU mt_62 := by unfold okU; rfl
theorem okw_63 : okW mt_63 := by unfold okW; decide +kernel
set_option maxRecDepth 40000 in
theorem oku_63 : okU mt_63 := by unfold okU; rfl
theorem OKW_1 : ∀ e ∈ MTL_1, okW e ∧ okU e := List.forall_mem_cons.mpr ⟨⟨okw_32, oku_32⟩, List.forall_mem_cons.mpr ⟨⟨okw_33, oku_33⟩, List.forall_mem_cons.mpr ⟨⟨okw_34, oku_34⟩, List.forall_mem_cons.mpr ⟨⟨okw_35, oku_35⟩, List.forall_mem_cons.mpr ⟨⟨okw_36, oku_36⟩, List.forall_mem_cons.mpr ⟨⟨okw_37, oku_37⟩, List.forall_mem_cons.mpr ⟨⟨okw_38, oku_38⟩, List.forall_mem_cons.mpr ⟨⟨okw_39, oku_39⟩, List.forall_mem_cons.mpr ⟨⟨okw_40, oku_40⟩, List.forall_mem_cons.mpr ⟨⟨okw_41, oku_41⟩, List.forall_mem_cons.mpr ⟨⟨okw_42, oku_42⟩, List.forall_mem_cons.mpr ⟨⟨okw_43, oku_43⟩, List.forall_mem_cons.mpr ⟨⟨okw_44, oku_44⟩, List.forall_mem_cons.mpr ⟨⟨okw_45, oku_45⟩, List.forall_mem_cons.mpr ⟨⟨okw_46, oku_46⟩, List.forall_mem_cons.mpr ⟨⟨okw_47, oku_47⟩, List.forall_mem_cons.mpr ⟨⟨okw_48, oku_48⟩, List.forall_mem_cons.mpr ⟨⟨okw_49, oku_49⟩, List.forall_mem_cons.mpr ⟨⟨okw_50, oku_50⟩, List.forall_mem_cons.mpr ⟨⟨okw_51, oku_51⟩, List.forall_mem_cons.mpr ⟨⟨okw_52, oku_52⟩, List.forall_mem_cons.mpr ⟨⟨okw_53, oku_53⟩, List.forall_mem_cons.mpr ⟨⟨okw_54, oku_54⟩, List.forall_mem_cons.mpr ⟨⟨okw_55, oku_55⟩, List.forall_mem_cons.mpr ⟨⟨okw_56, oku_56⟩, List.forall_mem_cons.mpr ⟨⟨okw_57, oku_57⟩, List.forall_mem_cons.mpr ⟨⟨okw_58, oku_58⟩, List.forall_mem_cons.mpr ⟨⟨okw_59, oku_59⟩, List.forall_mem_cons.mpr ⟨⟨okw_60, oku_60⟩, List.forall_mem_cons.mpr ⟨⟨okw_61, oku_61⟩, List.forall_mem_cons.mpr ⟨⟨okw_62, oku_62⟩, List.forall_mem_cons.mpr ⟨⟨okw_63, oku_63⟩, fun _ h => absurd h List.not_mem_nil⟩⟩⟩⟩⟩⟩⟩⟩⟩⟩⟩⟩⟩⟩⟩⟩⟩⟩⟩⟩⟩⟩⟩⟩⟩⟩⟩⟩⟩⟩⟩⟩
theorem okw_64 : okW mt_64 := by unfold okW; decide +kernel
set_option maxRecDepth 40000 in
theorem oku_64 : okU mt_64 := by unfold okU; rfl
theorem okw_65 : okW mt_65 := by unfold okW; decide +kernel
set_option maxRecDepth 40000 in
theorem oku_65 : okU mt_65 := by unfold okU; rfl
theorem okw_66 : okW mt_66 := by unfold okW; decide +kernel
set_option maxRecDepth 40000 in
theorem oku_66 : okU mt_66 := by unfold okU; rfl
theorem okw_67 : okW mt_67 := by unfold okW; decide +kernel
set_option maxRecDepth 40000 in
theorem oku_67 : okU mt_67 := by unfold okU; rfl
theorem okw_68 : okW mt_68 := by unfold okW; decide +kernel
set_option maxRecDepth 40000 in
theorem oku_68 : okU mt_68 := by unfold okU; rfl
theorem okw_69 : okW mt_69 := by unfold okW; decide +kernel
set_option maxRecDepth 40000 in
theorem oku_69 : okU mt_69 := by unfold okU; rfl
theorem okw_70 : okW mt_70 := by unfold okW; decide +kernel
set_option maxRecDepth 40000 in
theorem oku_70 : okU mt_70 := by unfold okU; rfl
theorem okw_71 : okW mt_71 := by unfold okW; decide +kernel
set_option maxRecDepth 40000 in
theorem oku_71 : okU mt_71 := by unfold okU; rfl
theorem okw_72 : okW mt_72 := by unfold okW; decide +kernel
set_option maxRecDepth 40000 in
theorem oku_72 : okU mt_72 := by unfold okU; rfl
theorem okw_73 : okW mt_73 := by unfold okW; decide +kernel
set_option maxRecDepth 40000 in
theorem oku_73 : okU mt_73 := by unfold okU; rfl
theorem okw_74 : okW mt_74 := by unfold okW; decide +kernel
set_option maxRecDepth 40000 in
theorem oku_74 : okU mt_74 := by unfold okU; rfl
theorem okw_75 : okW mt_75 := by unfold okW; decide +kernel
set_option maxRecDepth 40000 in
theorem oku_75 : okU mt_75 := by unfold okU; rfl
theorem okw_76 : okW mt_76 := by unfold okW; decide +kernel
set_option maxRecDepth 40000 in
theorem oku_76 : okU mt_76 := by unfold okU; rfl
theorem okw_77 : okW mt_77 := by unfold okW; decide +kernel
set_option maxRecDepth 40000 in
theorem oku_77 : okU mt_77 := by unfold okU; rfl
theorem okw_78 : okW mt_78 := by unfold okW; decide +kernel
set_option maxRecDepth 40000 in
theorem oku_78 : okU mt_78 := by unfold okU; rfl
theorem okw_79 : okW mt_79 := by unfold okW; decide +kernel
set_option maxRecDepth 40000 in
theorem oku_79 : okU mt_79 := by unfold okU; rfl
theorem okw_80 : okW mt_80 := by unfold okW; decide +kernel
set_option maxRecDepth 40000 in
theorem oku_80 : okU mt_80 := by unfold okU; rfl
theorem okw_81 : okW mt_81 := by unfold okW; decide +kernel
set_option maxRecDepth 40000 in
theorem oku_81 : okU mt_81 := by unfold okU; rfl
theorem okw_82 : okW mt_82 := by unfold okW; decide +kernel
set_option maxRecDepth 40000 in
theorem oku_82 : okU mt_82 := by unfold okU; rfl
theorem okw_83 : okW mt_83 := by unfold okW; decide +kernel
set_option maxRecDepth 40000 in
theorem oku_83 : okU mt_83 := by unfold okU; rfl
theorem okw_84 : okW mt_84 := by unfold okW; decide +kernel
set_option maxRecDepth 40000 in
theorem oku_84 : okU mt_84 := by unfold okU; rfl
theorem okw_85 : okW mt_85 := by unfold okW; decide +kernel
set_option maxRecDepth 40000 in
theorem oku_85 : okU mt_85 := by unfold okU; rfl
theorem okw_86 : okW mt_86 := by unfold okW; decide +kernel
set_option maxRecDepth 40000 in
theorem oku_86 : okU mt_86 := by unfold okU; rfl
theorem okw_87 : okW mt_87 := by unfold okW; decide +kernel
set_option maxRecDepth 40000 in
theorem oku_87 : okU mt_87 := by unfold okU; rfl
theorem okw_88 : okW mt_88 := by unfold okW; decide +kernel
set_option maxRecDepth 40000 in
theorem oku_88 : okU mt_88 := by unfold okU; rfl
theorem okw_89 : okW mt_89 := by unfold okW; decide +kernel
set_option maxRecDepth 40000 in
theorem oku_89 : okU mt_89 := by unfold okU; rfl
theorem okw_90 : okW mt_90 := by unfold okW; decide +kernel
set_option maxRecDepth 40000 in
theorem oku_90 : okU mt_90 := by unfold okU; rfl
theorem okw_91 : okW mt_91 := by unfold okW; decide +kernel
set_option maxRecDepth 40000 in
theorem oku_91 : okU mt_91 := by unfold okU; rfl
theorem okw_92 : okW mt_92 := by unfold okW; decide +kernel
set_option maxRecDepth 40000 in
theorem oku_92 : okU mt_92 := by unfold okU; rfl
theorem okw_93 : okW mt_93 := by unfold okW; decide +kernel
set_option maxRecDepth 40000 in
theorem oku_93 : okU mt_93 := by unfold okU; rfl
theorem okw_94 : okW mt_94 := by unfold okW; decide +kernel
set_option maxRecDepth 40000 in
theorem oku_94 : okU mt_94 := by unfold okU; rfl
theorem okw_95 : okW mt_95 := by unfold okW; decide +kernel
set_option maxRecDepth 40000 in
theorem oku_95 : okU mt_95 := by unfold okU; rfl
theorem OKW_2 : ∀ e ∈ MTL_2, okW e ∧ okU e := List.forall_mem_cons.mpr ⟨⟨okw_64, oku_64⟩, List.forall_mem_cons.mpr ⟨⟨okw_65, oku_65⟩, List.forall_mem_cons.mpr ⟨⟨okw_66, oku_66⟩, List.forall_mem_cons.mpr ⟨⟨okw_67, oku_67⟩, List.forall_mem_cons.mpr ⟨⟨okw_68, oku_68⟩, List.forall_mem_cons.mpr ⟨⟨okw_69, oku_69⟩, List.forall_mem_cons.mpr ⟨⟨okw_70, oku_70⟩, List.forall_mem_cons.mpr ⟨⟨okw_71, oku_71⟩, List.forall_mem_cons.mpr ⟨⟨okw_72, oku_72⟩, List.forall_mem_cons.mpr ⟨⟨okw_73, oku_73⟩, List.forall_mem_cons.mpr ⟨⟨okw_74, oku_74⟩, List.forall_mem_cons.mpr ⟨⟨okw_75, oku_75⟩, List.forall_mem_cons.mpr ⟨⟨okw_76, oku_76⟩, List.forall_mem_cons.mpr ⟨⟨okw_77, oku_77⟩, List.forall_mem_cons.mpr ⟨⟨okw_78, oku_78⟩, List.forall_mem_cons.mpr ⟨⟨okw_79, oku_79⟩, List.forall_mem_cons.mpr ⟨⟨okw_80, oku_80⟩, List.forall_mem_cons.mpr ⟨⟨okw_81, oku_81⟩, List.forall_mem_cons.mpr ⟨⟨okw_82, oku_82⟩, List.forall_mem_cons.mpr ⟨⟨okw_83, oku_83⟩, List.forall_mem_cons.mpr ⟨⟨okw_84, oku_84⟩, List.forall_mem_cons.mpr ⟨⟨okw_85, oku_85⟩, List.forall_mem_cons.mpr ⟨⟨okw_86, oku_86⟩, List.forall_mem_cons.mpr ⟨⟨okw_87, oku_87⟩, List.forall_mem_cons.mpr ⟨⟨okw_88, oku_88⟩, List.forall_mem_cons.mpr ⟨⟨okw_89, oku_89⟩, List.forall_mem_cons.mpr ⟨⟨okw_90, oku_90⟩, List.forall_mem_cons.mpr ⟨⟨okw_91, oku_91⟩, List.forall_mem_cons.mpr ⟨⟨okw_92, oku_92⟩, List.forall_mem_cons.mpr ⟨⟨okw_93, oku_93⟩, List.forall_mem_cons.mpr ⟨⟨okw_94, oku_94⟩, List.forall_mem_cons.mpr ⟨⟨okw_95, oku_95⟩, fun _ h => absurd h List.not_mem_nil⟩⟩⟩⟩⟩⟩⟩⟩⟩⟩⟩⟩⟩⟩⟩⟩⟩⟩⟩⟩⟩⟩⟩⟩⟩⟩⟩⟩⟩⟩⟩⟩
