/-! the cells -/
theorem LAY_ok (a : Nat) : ((LAY a).1 < 13 ∧ (LAY a).2 = cN (LAY a).1) ∨ (20 ≤ (LAY a).1 ∧ (LAY a).1 ≤ 24) := by
  have h1 : ∀ q ∈ L0, (q.1 < 13 ∧ q.2 = cN q.1) ∨ (20 ≤ q.1 ∧ q.1 ≤ 24) := by decide +kernel
  have h2 : ∀ q ∈ TL, (q.1 < 13 ∧ q.2 = cN q.1) ∨ (20 ≤ q.1 ∧ q.1 ≤ 24) := by decide +kernel
  unfold LAY
  by_cases h : a < 163
  · rw [if_pos h]
    exact h1 _ (getD_mem (by show a < 163; exact h))
  · rw [if_neg h]
    exact h2 _ (getD_mem (by show _ < 10; omega))
theorem cQ {ci : Nat} (h : ci < 13) : ∀ k, k < cN ci → (FTY ci k = 0 → cT ci k = .int) ∧ (FTY ci k = 2 → cT ci k = .boolean) ∧ (FTY ci k = 1 → fits (cT ci k) (.ref 0) = true) ∧ defaultValue (cT ci k) = if FTY ci k = 1 then .null else .int 0 := by
  revert ci
  decide +kernel
theorem fits_ref {t : FieldType} {a b : Nat} (h : fits t (.ref a) = true) : fits t (.ref b) = true := by
  cases t <;> first | rfl | (cases h)
def ety (t : Nat) : FieldType := if t = 20 then .int else if t = 21 then .byte else if t = 22 then .boolean else if t = 23 then .long else .object (oN 3)
def fv (ad : Nat → Nat) (k : Nat) (x r : Int) : Value := if k = 1 then (if r = 0 then .null else .ref (ad (r - 1).toNat)) else .int (I3 x)
def enO (ad : Nat → Nat) (ci : Nat) (h : Hp) (a : Nat) : List Value := (List.range (cN ci)).map (fun j => fv ad (FTY ci j) (h.1 a j) (h.2.1 a j))
def enQ (ad : Nat → Nat) (h : Hp) (a : Nat) : Nat → Option Nat := fun j => if h.2.1 a j = 0 then none else some (ad (h.2.1 a j - 1).toNat)
def enA (ad : Nat → Nat) (t len : Nat) (h : Hp) (a : Nat) : vp_A := (len, if t = 23 then .inr (.inl (fun j => I6 (h.1 a j))) else if t = 24 then .inr (.inr (.inr (.inr (enQ ad h a)))) else .inl (fun j => I3 (h.1 a j)))
def enC (ad : Nat → Nat) (ca : Nat → ClassId) (h : Hp) (a : Nat) : va_E := if (LAY a).1 < 20 then .inr ((LAY a).1, enO ad (LAY a).1 h a) else .inl (ca a, enA ad (LAY a).1 (LAY a).2 h a)
def enW (ad : Nat → Nat) (ca : Nat → ClassId) (h : Hp) : va_W := (List.range h.2.2.1).map (fun a => (ad a, enC ad ca h a))
def wx (t : Nat) (x : Int) : Prop := if t = 23 then in64 x else if t = 21 then -128 ≤ x ∧ x < 128 else if t = 22 then x = 0 ∨ x = 1 else in32 x
def wh (h : Hp) : Prop := (∀ a j, wx (LAY a).1 (h.1 a j)) ∧ (∀ a j, 0 ≤ h.2.1 a j ∧ h.2.1 a j ≤ h.2.2.1) ∧ (∀ a j, h.2.2.1 ≤ a → h.1 a j = 0 ∧ h.2.1 a j = 0)
theorem wx_32 {t : Nat} {x : Int} (h : wx t x) (ht : t ≠ 23) : in32 x := by
  unfold wx at h
  rw [if_neg ht] at h
  by_cases h1 : t = 21
  · rw [if_pos h1] at h; unfold in32; omega
  · rw [if_neg h1] at h
    by_cases h2 : t = 22
    · rw [if_pos h2] at h; unfold in32; omega
    · rw [if_neg h2] at h; exact h
theorem wx_of32 {t : Nat} {x : Int} (h : in32 x) (h1 : t ≠ 23) (h2 : t ≠ 21) (h3 : t ≠ 22) : wx t x := by unfold wx; rw [if_neg h1, if_neg h2, if_neg h3]; exact h
theorem up2_same (f : Nat → Nat → Int) (a j : Nat) (x : Int) : up2 f a j x a j = x := by unfold up2; rw [if_pos ⟨rfl, rfl⟩]
theorem up2_row {f : Nat → Nat → Int} {a b j : Nat} {x : Int} (h : b ≠ a) : up2 f a j x b = f b := by
  funext k; unfold up2; rw [if_neg (fun q => h q.1)]
theorem up2_place {f : Nat → Nat → Int} {a j k : Nat} {x : Int} (h : k ≠ j) : up2 f a j x a k = f a k := by unfold up2; rw [if_neg (fun q => h q.2)]
theorem enW_len (ad : Nat → Nat) (ca : Nat → ClassId) (h : Hp) : (enW ad ca h).length = h.2.2.1 := by unfold enW; rw [List.length_map, List.length_range]
theorem enW_at {ad : Nat → Nat} {ca : Nat → ClassId} {h : Hp} {a : Nat} (ha : a < h.2.2.1) : (enW ad ca h)[a]? = some (ad a, enC ad ca h a) := by
  unfold enW; rw [List.getElem?_map, List.getElem?_range ha]; rfl
theorem enO_at {ad : Nat → Nat} {ci : Nat} {h : Hp} {a j : Nat} (hj : j < cN ci) : (enO ad ci h a)[j]? = some (fv ad (FTY ci j) (h.1 a j) (h.2.1 a j)) := by
  unfold enO; rw [List.getElem?_map, List.getElem?_range hj]; rfl
theorem enO_len (ad : Nat → Nat) (ci : Nat) (h : Hp) (a : Nat) : (enO ad ci h a).length = cN ci := by unfold enO; rw [List.length_map, List.length_range]
theorem enC_obj {ad : Nat → Nat} {ca : Nat → ClassId} {h : Hp} {a ci : Nat} (hc : (LAY a).1 = ci) (hi : ci < 20) : enC ad ca h a = .inr (ci, enO ad ci h a) := by unfold enC; rw [hc, if_pos hi]
theorem enC_arr {ad : Nat → Nat} {ca : Nat → ClassId} {h : Hp} {a t : Nat} (hc : (LAY a).1 = t) (hi : ¬ t < 20) : enC ad ca h a = .inl (ca a, enA ad t (LAY a).2 h a) := by unfold enC; rw [hc, if_neg hi]
theorem enC_congr {ad : Nat → Nat} {ca : Nat → ClassId} {h h' : Hp} {a : Nat} (h1 : h'.1 a = h.1 a) (h2 : h'.2.1 a = h.2.1 a) : enC ad ca h' a = enC ad ca h a := by
  unfold enC enO enA enQ
  rw [h1, h2]
theorem enW_set {ad : Nat → Nat} {ca : Nat → ClassId} {h h' : Hp} {a : Nat} {E : va_E} (hn : h'.2.2.1 = h.2.2.1) (hE : enC ad ca h' a = E) (ho : ∀ b, b ≠ a → h'.1 b = h.1 b ∧ h'.2.1 b = h.2.1 b) : (enW ad ca h).set a (ad a, E) = enW ad ca h' := by
  apply List.ext_getElem?
  intro i
  rw [List.getElem?_set]
  by_cases hi : i < h.2.2.1
  · have hi' : i < h'.2.2.1 := by rw [hn]; exact hi
    by_cases e : a = i
    · subst e
      rw [if_pos rfl, if_pos (by rw [enW_len]; exact hi), enW_at hi', hE]
    · rw [if_neg e, enW_at hi, enW_at hi', enC_congr (ho i (fun q => e q.symm)).1 (ho i (fun q => e q.symm)).2]
  · have h1 : (enW ad ca h')[i]? = none := List.getElem?_eq_none (by rw [enW_len, hn]; omega)
    have h2 : (enW ad ca h)[i]? = none := List.getElem?_eq_none (by rw [enW_len]; omega)
    rw [h1, h2]
    by_cases e : a = i
    · rw [if_pos e, if_neg (by rw [enW_len]; omega)]
    · rw [if_neg e]
theorem enO_set {ad : Nat → Nat} {ci : Nat} {h h' : Hp} {a k : Nat} {v : Value} (hk : k < cN ci) (hv : fv ad (FTY ci k) (h'.1 a k) (h'.2.1 a k) = v) (ho : ∀ j, j ≠ k → h'.1 a j = h.1 a j ∧ h'.2.1 a j = h.2.1 a j) : (enO ad ci h a).set k v = enO ad ci h' a := by
  apply List.ext_getElem?
  intro i
  rw [List.getElem?_set]
  by_cases hi : i < cN ci
  · by_cases e : k = i
    · subst e
      rw [if_pos rfl, if_pos (by rw [enO_len]; exact hi), enO_at hi, hv]
    · rw [if_neg e, enO_at hi, enO_at hi, (ho i (fun q => e q.symm)).1, (ho i (fun q => e q.symm)).2]
  · have h1 : (enO ad ci h' a)[i]? = none := List.getElem?_eq_none (by rw [enO_len]; omega)
    have h2 : (enO ad ci h a)[i]? = none := List.getElem?_eq_none (by rw [enO_len]; omega)
    rw [h1, h2, if_neg (by omega)]
/-- other addresses, for cells that aren't there yet -/
theorem fv_ad {ad ad' : Nat → Nat} {n k : Nat} {x r : Int} (h : ∀ a, a < n → ad' a = ad a) (h0 : 0 ≤ r) (hr : r ≤ n) : fv ad' k x r = fv ad k x r := by
  unfold fv
  by_cases h1 : k = 1
  · rw [if_pos h1, if_pos h1]
    by_cases h2 : r = 0
    · rw [if_pos h2, if_pos h2]
    · rw [if_neg h2, if_neg h2, h _ (by omega)]
  · rw [if_neg h1, if_neg h1]
theorem enC_ad {ad ad' : Nat → Nat} {ca ca' : Nat → ClassId} {h : Hp} {a n : Nat} (hw : ∀ a j, 0 ≤ h.2.1 a j ∧ h.2.1 a j ≤ n) (h1 : ∀ a, a < n → ad' a = ad a) (h2 : ca' a = ca a) : enC ad' ca' h a = enC ad ca h a := by
  unfold enC
  by_cases hc : (LAY a).1 < 20
  · rw [if_pos hc, if_pos hc]
    congr 2
    unfold enO
    apply List.map_congr_left
    intro j _
    exact fv_ad h1 (hw a j).1 (hw a j).2
  · rw [if_neg hc, if_neg hc, h2]
    congr 2
    unfold enA
    congr 1
    split
    · rfl
    · split
      · congr 4
        funext j
        unfold enQ
        by_cases h3 : h.2.1 a j = 0
        · rw [if_pos h3, if_pos h3]
        · have := hw a j
          rw [if_neg h3, if_neg h3, h1 _ (by omega)]
      · rfl
theorem enW_grow {ad ad' : Nat → Nat} {ca ca' : Nat → ClassId} {h : Hp} {q : Nat} {E : va_E} (hw : wh h) (h1 : ∀ a, a < h.2.2.1 → ad' a = ad a) (h2 : ∀ a, a < h.2.2.1 → ca' a = ca a) (h3 : ad' h.2.2.1 = q) (hE : enC ad' ca' h h.2.2.1 = E) : enW ad ca h ++ [(q, E)] = enW ad' ca' (h.1, h.2.1, h.2.2.1 + 1, h.2.2.2) := by
  unfold enW
  show _ = (List.range (h.2.2.1 + 1)).map _
  rw [List.range_succ, List.map_append]
  congr 1
  · apply List.map_congr_left
    intro a ha
    have ha := List.mem_range.mp ha
    show (ad a, enC ad ca h a) = (ad' a, enC ad' ca' (h.1, h.2.1, h.2.2.1 + 1, h.2.2.2) a)
    rw [h1 a ha]
    congr 1
    rw [← enC_ad (ad := ad) (ad' := ad') (ca := ca) (ca' := ca') hw.2.1 h1 (h2 a ha)]
    exact enC_congr rfl rfl
  · show [(q, E)] = [(ad' h.2.2.1, enC ad' ca' (h.1, h.2.1, h.2.2.1 + 1, h.2.2.2) h.2.2.1)]
    rw [h3, ← hE]
    congr 2
theorem tr_ad {sb b0 n : Nat} {ad ad' : Nat → Nat} {v : AV} (h : ∀ a, a < n → ad' a = ad a) (hw : wv n v) : tr sb b0 ad' v = tr sb b0 ad v := by
  unfold tr
  by_cases h2 : v.1 = 2
  · have := hw.2.2 h2
    rw [h _ (by omega)]
  · split
    · rfl
    · split
      · rfl
      · rfl
theorem trs_ad {sb b0 n : Nat} {ad ad' : Nat → Nat} {l : List AV} (h : ∀ a, a < n → ad' a = ad a) (hw : wvs n l) : l.map (tr sb b0 ad') = l.map (tr sb b0 ad) := by
  apply List.map_congr_left
  intro v hv
  exact tr_ad h (hw v hv)
theorem prs_ad {sb b0 n : Nat} {ad ad' : Nat → Nat} (h : ∀ a, a < n → ad' a = ad a) : ∀ {l : List AV} {k : Nat}, wvs n l → prs sb b0 ad' k l = prs sb b0 ad k l
  | [], _, _ => rfl
  | v :: l, k, hw => by
    unfold prs
    have := wvs_c.mp hw
    rw [prs_ad h this.2, tr_ad h this.1]
theorem lr_ad {sb b0 n nL : Nat} {ad ad' : Nat → Nat} {ls : List AV} {L : Array Slot} (h : ∀ a, a < n → ad' a = ad a) (hw : wvs n ls) (hl : lr sb b0 ad nL ls L) : lr sb b0 ad' nL ls L := ⟨by rw [prs_ad h hw]; exact hl.1, hl.2⟩
theorem wvs_up {n n' : Nat} {l : List AV} (h : wvs n l) (hn : n ≤ n') : wvs n' l := fun v hv => (h v hv).up hn
/-- the machine's heap holds the small machine's -/
def Rl (D : va_G) (base : Nat) (H0 : Heap) (s : State) (sc : Nat × (Nat → Int)) (ad : Nat → Nat) (ca : Nat → ClassId) (tys : List (ClassId × FieldType)) (h : Hp) (H : Heap) (locs : List Loc) : Prop :=
  va_P D classes (enW ad ca h) H ∧ va_D (fun q => base ≤ q) (enW ad ca h) ∧ va_K D classes tys s ∧ (∀ a, a < h.2.2.1 → 20 ≤ (LAY a).1 → ∃ t0 : Nat, tys[t0]? = some (ca a, ety (LAY a).1)) ∧ va_S (fun q => base ≤ q) H0 H locs ∧ wh h ∧ h.2.2.2 = sc
theorem cat_sum (sb b0 : Nat) (ad : Nat → Nat) : ∀ l : List AV, ((l.map (tr sb b0 ad)).map fun v => v.category).sum ≤ 2 * l.length
  | [] => Nat.le_refl 0
  | v :: l => by
    have ih := cat_sum sb b0 ad l
    rw [List.map_cons, List.map_cons, List.sum_cons, List.length_cons, tr_cat]
    split <;> omega
