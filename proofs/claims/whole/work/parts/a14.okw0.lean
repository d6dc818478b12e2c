noncomputable def MLp (q : Nat × Nat × Nat × Nat × Nat) : Cond := if q.2.2.2.1 = 1 then .methodLinkNest (oN q.1) q.2.1 (mY q.2.2.1) "PitInspector" else .methodLink (oN q.1) q.2.1 (mY q.2.2.1)
def okW (e : MTy) : Prop :=
  (tables_1[e.2.2.2.2.2.2.2.2.2.1.getD 1 0]? = some (.initialized e.1.cls) ∧ tables_1[e.2.2.2.2.2.2.2.2.2.1.getD 2 0]? = some (if e.2.2.2.2.2.1 = 50 then .static e.1 else .instanceMethod e.1) ∧ (e.2.2.2.2.2.1 < 13 → lw_tbl[e.2.2.2.2.2.2.2.2.2.1.getD 3 0]? = some (.selects e.1.cls e.1 e.1))) ∧
  (goodWord (.initialized e.1.cls) = true ∧ goodWord (if e.2.2.2.2.2.1 = 50 then .static e.1 else .instanceMethod e.1) = true ∧ goodWord (.selects e.1.cls e.1 e.1) = true) ∧
  (e.1.cls ≠ "java/lang/invoke/MethodHandle" ∧ e.1.cls ≠ "java/lang/invoke/VarHandle" ∧ (parseMethodDescriptor e.1.desc).map (fun d => d.parameters.length) = some e.2.2.2.2.2.2.2.2.1) ∧
  plainName e.1.cls = true ∧ oN e.2.2.2.2.1 = e.1.cls ∧ e.2.2.1 ≤ 40 ∧ (e.2.2.2.2.2.1 < 13 → oN e.2.2.2.2.2.1 = e.1.cls) ∧ (e.2.2.2.2.2.1 = 60 → e.1.name = "<init>") ∧ (e.2.2.2.2.2.1 < 13 ∨ e.2.2.2.2.2.1 = 50 ∨ e.2.2.2.2.2.1 = 60) ∧ (e.1.name = "<init>" → e.2.2.2.2.2.1 = 60) ∧
  ((e.2.2.2.2.2.2.1 = 0 ∧ e.2.2.2.1 = none) ∨ (e.2.2.2.2.2.2.1 = 1 ∧ e.2.2.2.1 = some .int) ∨ (e.2.2.2.2.2.2.1 = 2 ∧ e.2.2.2.1 = some .boolean) ∨ (e.2.2.2.2.2.2.1 = 3 ∧ e.2.2.2.1 = some .long)) ∧ (e.2.2.2.2.2.1 = 60 → e.2.2.2.1 = none)
def okK (e : MTy) : Prop := (e.2.2.2.2.2.2.2.2.2.2).all (fun q => okI ML mN mC e.2.2.2.2.2.2.1 e.2.2.2.2.1 (e.2.2.2.2.2.1 == 60) e.2.1 q.1 q.2 && okS e.2.2.1 q.2) = true
def okU (e : MTy) : Prop := tables_1[e.2.2.2.2.2.2.2.2.2.1.getD 0 0]? = some (.code e.1 e.2.1 e.2.2.1 e.2.2.2.1)
