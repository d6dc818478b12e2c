theorem okk_345 : okK mt_345 := by
  show (cd_345).all (fun q => okI ML mN mC 2 16 false code q.1 q.2 && okS 4 q.2) = true
  unfold cd_345
  simp only [List.all_append, okkl_0, okkl_1, okkl_2, okkl_3, okkl_4, okkl_5, okkl_6, okkl_7, okkl_8, Bool.and_self]
theorem OKW : ∀ e ∈ MTL, okW e ∧ okU e := by
  unfold MTL
  simp only [List.forall_mem_append]
  exact ⟨OKW_0, OKW_1, OKW_2, OKW_3, OKW_4, OKW_5, OKW_6, OKW_7, OKW_8, OKW_9, OKW_10⟩
theorem OKK0 : ∀ e ∈ MTL, okK e := by
  unfold MTL
  simp only [List.forall_mem_append]
  exact ⟨OKK_0, OKK_1, OKK_2, OKK_3, OKK_4, OKK_5, OKK_6, OKK_7, OKK_8, OKK_9, OKK_10⟩
theorem mt_mem {m : Nat} (h : m ≠ 345) : mt m ∈ MTL := by
  unfold mt
  rw [if_neg h]
  by_cases hl : m < MTL.length
  · rw [List.getD_eq_getElem?_getD, List.getElem?_eq_getElem hl]; exact List.getElem_mem hl
  · rw [List.getD_eq_getElem?_getD, List.getElem?_eq_none (by omega)]; exact List.mem_append_left _ List.mem_cons_self
theorem OKK (m : Nat) : okK (mt m) := by
  by_cases h : m = 345
  · subst h; exact okk_345
  · exact OKK0 _ (mt_mem h)
theorem ML_ok : ∀ q ∈ ML, (tables_1[q.2.2.2.2]? = some (MLp q) ∧ (goodWord (MLp q) = true ∨ q.2.2.2.1 = 1)) ∧ q.2.2.1 ≠ 345 := by decide +kernel
