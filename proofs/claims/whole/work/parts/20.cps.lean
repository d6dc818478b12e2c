/-! the small machine's steps once more, with what comes behind inside the branches -/
abbrev Zs : Type := Nat × Nat × (Nat → Int)
def bd (x : Option Res) (f : Option AV → Hp → Option Res) : Option Res := match x with
  | some (v, h) => f v h
  | none => none
theorem bd_some {x : Option Res} {v : Option AV} {h : Hp} {f : Option AV → Hp → Option Res} (e : x = some (v, h)) : bd x f = f v h := by rw [e]; rfl
def nn (r : Int) (t0 : Option Res) (f : Nat → Option Res) : Option Res := match r.toNat with
  | 0 => t0
  | n + 1 => f n
theorem nn_some {r : Int} {n : Nat} {t0 : Option Res} {f : Nat → Option Res} (e : r.toNat = n + 1) : nn r t0 f = f n := by unfold nn; rw [e]
def un (k : Kon) (e : Option (Nat × List AV × List AV × Hp × GG)) : Option Res := match e with
  | some r => k r.1 r.2.1 r.2.2.1 r.2.2.2.1 r.2.2.2.2
  | none => none
theorem un_some (k : Kon) (a : Nat) (b c : List AV) (d : Hp) (e : GG) : un k (some (a, b, c, d, e)) = k a b c d e := rfl
theorem un_ite (k : Kon) {c : Prop} [Decidable c] (a b : Option (Nat × List AV × List AV × Hp × GG)) : un k (if c then a else b) = if c then un k a else un k b := by split <;> rfl
theorem un_none (k : Kon) : un k none = none := rfl
theorem if_and2 {c d : Prop} [Decidable c] [Decidable d] {α : Type} (a b : α) : (if c ∧ d then a else b) = if c then (if d then a else b) else b := by
  by_cases h : c
  · by_cases h2 : d
    · rw [if_pos ⟨h, h2⟩, if_pos h, if_pos h2]
    · rw [if_neg (fun q => h2 q.2), if_pos h, if_neg h2]
  · rw [if_neg (fun q => h q.1), if_neg h]
theorem if_and3 {c d e : Prop} [Decidable c] [Decidable d] [Decidable e] {α : Type} (a b : α) : (if c ∧ d ∧ e then a else b) = if c ∧ d then (if e then a else b) else b := by
  by_cases h : c ∧ d
  · by_cases h2 : e
    · rw [if_pos ⟨h.1, h.2, h2⟩, if_pos h, if_pos h2]
    · rw [if_neg (fun q => h2 q.2.2), if_pos h, if_neg h2]
  · rw [if_neg (fun q => h ⟨q.1, q.2.1⟩), if_neg h]
/-- a choice that isn't reckoned -/
noncomputable def ci (c : Prop) (a b : Option Res) : Option Res := @ite _ c (Classical.propDecidable c) a b
theorem ci_eq (c : Prop) [Decidable c] (a b : Option Res) : ci c a b = if c then a else b := by
  unfold ci
  by_cases h : c
  · rw [if_pos h, if_pos h]
  · rw [if_neg h, if_neg h]
theorem rv_nn (k : AV → Option Res) (r : Int) : k (rv r) = nn r (k (3, 0)) (fun n => k (2, (n : Int))) := by
  unfold rv nn
  generalize r.toNat = n
  cases n <;> rfl
theorem rv_nn2 (k : AV → Option Res) (r : Int) : (if (rv r).1 = 2 then k (rv r) else none) = nn r none (fun n => k (2, (n : Int))) := by
  unfold rv nn
  generalize r.toNat = n
  cases n <;> rfl
def stA (k : Kon) (i : Ins) (ls stk : List AV) (h : Hp) (gg : GG) : Option Res :=
  let op := i.1; let nx := i.2.1; let a := i.2.2.1.headD 0; let v := i.2.2.2.headD 0
  if op ≤ 5 then k nx ls ((0, v) :: stk) h gg
  else if op ≤ 7 then k nx ls ((1, v) :: stk) h gg
  else if op = 8 then k nx ls ((5, 0) :: stk) h gg
  else if op ≤ 11 then (if (lg ls a).1 = 0 then k nx ls (lg ls a :: stk) h gg else none)
  else if op ≤ 13 then (if (lg ls a).1 = 1 then k nx ls (lg ls a :: stk) h gg else none)
  else if op ≤ 15 then (if (lg ls a).1 = 2 ∨ (lg ls a).1 = 4 then k nx ls (lg ls a :: stk) h gg else none)
  else if op ≤ 17 then (match stk with
    | (0, x) :: r => k nx (st1 ls a (0, x)) r h gg
    | _ => none)
  else if op ≤ 19 then (match stk with
    | (1, x) :: r => k nx (st2 ls a (1, x)) r h gg
    | _ => none)
  else if op ≤ 21 then (match stk with
    | (2, x) :: r => k nx (st1 ls a (2, x)) r h gg
    | _ => none)
  else if op = 22 then (if (lg ls a).1 = 0 then k nx (st1 ls a (0, w32 ((lg ls a).2 + v))) stk h gg else none)
  else none
theorem stA_eq (k : Kon) (i : Ins) (ls stk : List AV) (h : Hp) (gg : GG) : un k (effA i ls stk h gg) = stA k i ls stk h gg := by
  unfold effA stA
  dsimp only
  by_cases h1 : i.1 ≤ 5
  · rw [if_pos h1, if_pos h1]
    rfl
  rw [if_neg h1, if_neg h1]
  by_cases h1 : i.1 ≤ 7
  · rw [if_pos h1, if_pos h1]
    rfl
  rw [if_neg h1, if_neg h1]
  by_cases h1 : i.1 = 8
  · rw [if_pos h1, if_pos h1]
    rfl
  rw [if_neg h1, if_neg h1]
  by_cases h1 : i.1 ≤ 11
  · rw [if_pos h1, if_pos h1]
    exact un_ite _ _ _
  rw [if_neg h1, if_neg h1]
  by_cases h1 : i.1 ≤ 13
  · rw [if_pos h1, if_pos h1]
    exact un_ite _ _ _
  rw [if_neg h1, if_neg h1]
  by_cases h1 : i.1 ≤ 15
  · rw [if_pos h1, if_pos h1]
    exact un_ite _ _ _
  rw [if_neg h1, if_neg h1]
  by_cases h1 : i.1 ≤ 17
  · rw [if_pos h1, if_pos h1]
    rcases stk with _ | ⟨⟨_ | _ | _ | _ | _ | _ | t, x⟩, r⟩ <;> try rfl
  rw [if_neg h1, if_neg h1]
  by_cases h1 : i.1 ≤ 19
  · rw [if_pos h1, if_pos h1]
    rcases stk with _ | ⟨⟨_ | _ | _ | _ | _ | _ | t, x⟩, r⟩ <;> try rfl
  rw [if_neg h1, if_neg h1]
  by_cases h1 : i.1 ≤ 21
  · rw [if_pos h1, if_pos h1]
    rcases stk with _ | ⟨⟨_ | _ | _ | _ | _ | _ | t, x⟩, r⟩ <;> try rfl
  rw [if_neg h1, if_neg h1]
  by_cases h1 : i.1 = 22
  · rw [if_pos h1, if_pos h1]
    exact un_ite _ _ _
  rw [if_neg h1, if_neg h1]
  rfl
def s1 (k : Kon) (f : Int → Int) (nx : Nat) (ls stk : List AV) (h : Hp) (gg : GG) : Option Res := match stk with
  | (0, x) :: r => k nx ls ((0, f x) :: r) h gg
  | _ => none
def s2 (k : Kon) (f : Int → Int → Int) (nx : Nat) (ls stk : List AV) (h : Hp) (gg : GG) : Option Res := match stk with
  | (0, y) :: (0, x) :: r => k nx ls ((0, f x y) :: r) h gg
  | _ => none
def s2z (k : Kon) (f : Int → Int → Int) (nx : Nat) (ls stk : List AV) (h : Hp) (gg : GG) : Option Res := match stk with
  | (0, y) :: (0, x) :: r => if y = 0 then none else k nx ls ((0, f x y) :: r) h gg
  | _ => none
def t2 (k : Kon) (f : Int → Int → Int) (nx : Nat) (ls stk : List AV) (h : Hp) (gg : GG) : Option Res := match stk with
  | (1, y) :: (1, x) :: r => k nx ls ((1, f x y) :: r) h gg
  | _ => none
def t2z (k : Kon) (f : Int → Int → Int) (nx : Nat) (ls stk : List AV) (h : Hp) (gg : GG) : Option Res := match stk with
  | (1, y) :: (1, x) :: r => if y = 0 then none else k nx ls ((1, f x y) :: r) h gg
  | _ => none
def ts2 (k : Kon) (f : Int → Int → Int) (nx : Nat) (ls stk : List AV) (h : Hp) (gg : GG) : Option Res := match stk with
  | (0, y) :: (1, x) :: r => k nx ls ((1, f x y) :: r) h gg
  | _ => none
def stB (k : Kon) (i : Ins) (ls stk : List AV) (h : Hp) (gg : GG) : Option Res :=
  let op := i.1; let nx := i.2.1
  if op = 30 then s2 k (fun x y => w32 (x + y)) nx ls stk h gg
  else if op = 31 then s2 k (fun x y => w32 (x - y)) nx ls stk h gg
  else if op = 32 then s2 k (fun x y => w32 (x * y)) nx ls stk h gg
  else if op = 33 then s2z k (fun x y => w32 (Int.tdiv x y)) nx ls stk h gg
  else if op = 34 then s2z k (fun x y => Int.tmod x y) nx ls stk h gg
  else if op = 35 then s1 k (fun x => w32 (-x)) nx ls stk h gg
  else if op = 36 then s2 k shl32 nx ls stk h gg
  else if op = 37 then s2 k shr32 nx ls stk h gg
  else if op = 38 then s2 k ush32 nx ls stk h gg
  else if op = 39 then s2 k ia32 nx ls stk h gg
  else if op = 40 then s2 k io32 nx ls stk h gg
  else if op = 41 then s2 k ix32 nx ls stk h gg
  else if op = 42 then (match stk with
    | (0, x) :: r => k nx ls ((1, x) :: r) h gg
    | _ => none)
  else if op = 43 then (match stk with
    | (1, x) :: r => k nx ls ((0, w32 x) :: r) h gg
    | _ => none)
  else if op = 44 then s1 k (fun x => Int.bmod x 256) nx ls stk h gg
  else if op = 45 then s1 k (fun x => x % 65536) nx ls stk h gg
  else if op = 46 then t2 k (fun x y => w64 (x + y)) nx ls stk h gg
  else if op = 47 then t2 k (fun x y => w64 (x - y)) nx ls stk h gg
  else if op = 48 then t2 k (fun x y => w64 (x * y)) nx ls stk h gg
  else if op = 49 then t2z k (fun x y => w64 (Int.tdiv x y)) nx ls stk h gg
  else if op = 50 then t2z k (fun x y => Int.tmod x y) nx ls stk h gg
  else if op = 51 then (match stk with
    | (1, y) :: (1, x) :: r => k nx ls ((0, lcm x y) :: r) h gg
    | _ => none)
  else if op = 52 then t2 k ia64 nx ls stk h gg
  else if op = 53 then t2 k io64 nx ls stk h gg
  else if op = 54 then ts2 k shl64 nx ls stk h gg
  else if op = 55 then ts2 k shr64 nx ls stk h gg
  else if op = 56 then (match stk with
    | v :: r => if v.1 = 1 then none else k nx ls (v :: v :: r) h gg
    | _ => none)
  else if op = 57 then (match stk with
    | v :: u :: r => if v.1 = 1 ∨ u.1 = 1 then none else k nx ls (v :: u :: v :: u :: r) h gg
    | _ => none)
  else if op = 58 then (match stk with
    | v :: r => if v.1 = 1 then none else k nx ls r h gg
    | _ => none)
  else none
theorem s1_eq (k : Kon) (f : Int → Int) (nx : Nat) (ls stk : List AV) (h : Hp) (gg : GG) : un k (b1 f nx ls stk h gg) = s1 k f nx ls stk h gg := by
  unfold b1 s1
  rcases stk with _ | ⟨⟨_ | _ | _ | _ | _ | _ | t, x⟩, r⟩ <;> try rfl
theorem s2_eq (k : Kon) (f : Int → Int → Int) (nx : Nat) (ls stk : List AV) (h : Hp) (gg : GG) : un k (b2 f nx ls stk h gg) = s2 k f nx ls stk h gg := by
  unfold b2 s2
  rcases stk with _ | ⟨⟨_ | _ | _ | _ | _ | _ | t, x⟩, r⟩ <;> try rfl
  all_goals (rcases r with _ | ⟨⟨_ | _ | _ | _ | _ | _ | t, x⟩, r⟩ <;> try rfl)
theorem s2z_eq (k : Kon) (f : Int → Int → Int) (nx : Nat) (ls stk : List AV) (h : Hp) (gg : GG) : un k (b2z f nx ls stk h gg) = s2z k f nx ls stk h gg := by
  unfold b2z s2z
  rcases stk with _ | ⟨⟨_ | _ | _ | _ | _ | _ | t, x⟩, r⟩ <;> try rfl
  all_goals (rcases r with _ | ⟨⟨_ | _ | _ | _ | _ | _ | t, x⟩, r⟩ <;> try rfl)
  all_goals (first | rfl | (simp only [un_ite, un_some, un_none, if_and2, ci_eq]; done) | (dsimp only; simp only [un_ite, un_some, un_none, if_and2, ci_eq]; done))
theorem t2_eq (k : Kon) (f : Int → Int → Int) (nx : Nat) (ls stk : List AV) (h : Hp) (gg : GG) : un k (l2 f nx ls stk h gg) = t2 k f nx ls stk h gg := by
  unfold l2 t2
  rcases stk with _ | ⟨⟨_ | _ | _ | _ | _ | _ | t, x⟩, r⟩ <;> try rfl
  all_goals (rcases r with _ | ⟨⟨_ | _ | _ | _ | _ | _ | t, x⟩, r⟩ <;> try rfl)
theorem t2z_eq (k : Kon) (f : Int → Int → Int) (nx : Nat) (ls stk : List AV) (h : Hp) (gg : GG) : un k (l2z f nx ls stk h gg) = t2z k f nx ls stk h gg := by
  unfold l2z t2z
  rcases stk with _ | ⟨⟨_ | _ | _ | _ | _ | _ | t, x⟩, r⟩ <;> try rfl
  all_goals (rcases r with _ | ⟨⟨_ | _ | _ | _ | _ | _ | t, x⟩, r⟩ <;> try rfl)
  all_goals (first | rfl | (simp only [un_ite, un_some, un_none, if_and2, ci_eq]; done) | (dsimp only; simp only [un_ite, un_some, un_none, if_and2, ci_eq]; done))
theorem ts2_eq (k : Kon) (f : Int → Int → Int) (nx : Nat) (ls stk : List AV) (h : Hp) (gg : GG) : un k (ls2 f nx ls stk h gg) = ts2 k f nx ls stk h gg := by
  unfold ls2 ts2
  rcases stk with _ | ⟨⟨_ | _ | _ | _ | _ | _ | t, x⟩, r⟩ <;> try rfl
  all_goals (rcases r with _ | ⟨⟨_ | _ | _ | _ | _ | _ | t, x⟩, r⟩ <;> try rfl)
theorem stB_eq (k : Kon) (i : Ins) (ls stk : List AV) (h : Hp) (gg : GG) : un k (effB i ls stk h gg) = stB k i ls stk h gg := by
  unfold effB stB
  dsimp only
  by_cases h1 : i.1 = 30
  · rw [if_pos h1, if_pos h1]
    exact s2_eq _ _ _ _ _ _ _
  rw [if_neg h1, if_neg h1]
  by_cases h1 : i.1 = 31
  · rw [if_pos h1, if_pos h1]
    exact s2_eq _ _ _ _ _ _ _
  rw [if_neg h1, if_neg h1]
  by_cases h1 : i.1 = 32
  · rw [if_pos h1, if_pos h1]
    exact s2_eq _ _ _ _ _ _ _
  rw [if_neg h1, if_neg h1]
  by_cases h1 : i.1 = 33
  · rw [if_pos h1, if_pos h1]
    exact s2z_eq _ _ _ _ _ _ _
  rw [if_neg h1, if_neg h1]
  by_cases h1 : i.1 = 34
  · rw [if_pos h1, if_pos h1]
    exact s2z_eq _ _ _ _ _ _ _
  rw [if_neg h1, if_neg h1]
  by_cases h1 : i.1 = 35
  · rw [if_pos h1, if_pos h1]
    exact s1_eq _ _ _ _ _ _ _
  rw [if_neg h1, if_neg h1]
  by_cases h1 : i.1 = 36
  · rw [if_pos h1, if_pos h1]
    exact s2_eq _ _ _ _ _ _ _
  rw [if_neg h1, if_neg h1]
  by_cases h1 : i.1 = 37
  · rw [if_pos h1, if_pos h1]
    exact s2_eq _ _ _ _ _ _ _
  rw [if_neg h1, if_neg h1]
  by_cases h1 : i.1 = 38
  · rw [if_pos h1, if_pos h1]
    exact s2_eq _ _ _ _ _ _ _
  rw [if_neg h1, if_neg h1]
  by_cases h1 : i.1 = 39
  · rw [if_pos h1, if_pos h1]
    exact s2_eq _ _ _ _ _ _ _
  rw [if_neg h1, if_neg h1]
  by_cases h1 : i.1 = 40
  · rw [if_pos h1, if_pos h1]
    exact s2_eq _ _ _ _ _ _ _
  rw [if_neg h1, if_neg h1]
  by_cases h1 : i.1 = 41
  · rw [if_pos h1, if_pos h1]
    exact s2_eq _ _ _ _ _ _ _
  rw [if_neg h1, if_neg h1]
  by_cases h1 : i.1 = 42
  · rw [if_pos h1, if_pos h1]
    rcases stk with _ | ⟨⟨_ | _ | _ | _ | _ | _ | t, x⟩, r⟩ <;> try rfl
  rw [if_neg h1, if_neg h1]
  by_cases h1 : i.1 = 43
  · rw [if_pos h1, if_pos h1]
    rcases stk with _ | ⟨⟨_ | _ | _ | _ | _ | _ | t, x⟩, r⟩ <;> try rfl
  rw [if_neg h1, if_neg h1]
  by_cases h1 : i.1 = 44
  · rw [if_pos h1, if_pos h1]
    exact s1_eq _ _ _ _ _ _ _
  rw [if_neg h1, if_neg h1]
  by_cases h1 : i.1 = 45
  · rw [if_pos h1, if_pos h1]
    exact s1_eq _ _ _ _ _ _ _
  rw [if_neg h1, if_neg h1]
  by_cases h1 : i.1 = 46
  · rw [if_pos h1, if_pos h1]
    exact t2_eq _ _ _ _ _ _ _
  rw [if_neg h1, if_neg h1]
  by_cases h1 : i.1 = 47
  · rw [if_pos h1, if_pos h1]
    exact t2_eq _ _ _ _ _ _ _
  rw [if_neg h1, if_neg h1]
  by_cases h1 : i.1 = 48
  · rw [if_pos h1, if_pos h1]
    exact t2_eq _ _ _ _ _ _ _
  rw [if_neg h1, if_neg h1]
  by_cases h1 : i.1 = 49
  · rw [if_pos h1, if_pos h1]
    exact t2z_eq _ _ _ _ _ _ _
  rw [if_neg h1, if_neg h1]
  by_cases h1 : i.1 = 50
  · rw [if_pos h1, if_pos h1]
    exact t2z_eq _ _ _ _ _ _ _
  rw [if_neg h1, if_neg h1]
  by_cases h1 : i.1 = 51
  · rw [if_pos h1, if_pos h1]
    rcases stk with _ | ⟨⟨_ | _ | _ | _ | _ | _ | t, x⟩, r⟩ <;> try rfl
    all_goals (rcases r with _ | ⟨⟨_ | _ | _ | _ | _ | _ | t, x⟩, r⟩ <;> try rfl)
  rw [if_neg h1, if_neg h1]
  by_cases h1 : i.1 = 52
  · rw [if_pos h1, if_pos h1]
    exact t2_eq _ _ _ _ _ _ _
  rw [if_neg h1, if_neg h1]
  by_cases h1 : i.1 = 53
  · rw [if_pos h1, if_pos h1]
    exact t2_eq _ _ _ _ _ _ _
  rw [if_neg h1, if_neg h1]
  by_cases h1 : i.1 = 54
  · rw [if_pos h1, if_pos h1]
    exact ts2_eq _ _ _ _ _ _ _
  rw [if_neg h1, if_neg h1]
  by_cases h1 : i.1 = 55
  · rw [if_pos h1, if_pos h1]
    exact ts2_eq _ _ _ _ _ _ _
  rw [if_neg h1, if_neg h1]
  by_cases h1 : i.1 = 56
  · rw [if_pos h1, if_pos h1]
    rcases stk with _ | ⟨v, r⟩
    · rfl
    · exact un_ite _ _ _
  rw [if_neg h1, if_neg h1]
  by_cases h1 : i.1 = 57
  · rw [if_pos h1, if_pos h1]
    rcases stk with _ | ⟨v, _ | ⟨u, r⟩⟩
    · rfl
    · rfl
    · exact un_ite _ _ _
  rw [if_neg h1, if_neg h1]
  by_cases h1 : i.1 = 58
  · rw [if_pos h1, if_pos h1]
    rcases stk with _ | ⟨v, r⟩
    · rfl
    · exact un_ite _ _ _
  rw [if_neg h1, if_neg h1]
  rfl
noncomputable def stC (k : Kon) (i : Ins) (ls stk : List AV) (h : Hp) (gg : GG) : Option Res :=
  let op := i.1; let nx := i.2.1; let t := i.2.2.1.headD 0
  if op = 60 then (match stk with
    | (0, x) :: r => ci (x = 0) (k t ls r h gg) (k nx ls r h gg)
    | _ => none)
  else if op = 61 then (match stk with
    | (0, x) :: r => ci (x = 0) (k nx ls r h gg) (k t ls r h gg)
    | _ => none)
  else if op = 62 then (match stk with
    | (0, x) :: r => ci (x < 0) (k t ls r h gg) (k nx ls r h gg)
    | _ => none)
  else if op = 63 then (match stk with
    | (0, x) :: r => ci (x < 0) (k nx ls r h gg) (k t ls r h gg)
    | _ => none)
  else if op = 64 then (match stk with
    | (0, x) :: r => ci (x ≤ 0) (k nx ls r h gg) (k t ls r h gg)
    | _ => none)
  else if op = 65 then (match stk with
    | (0, x) :: r => ci (x ≤ 0) (k t ls r h gg) (k nx ls r h gg)
    | _ => none)
  else if op = 66 then (match stk with
    | (0, y) :: (0, x) :: r => ci (x = y) (k t ls r h gg) (k nx ls r h gg)
    | _ => none)
  else if op = 67 then (match stk with
    | (0, y) :: (0, x) :: r => ci (x = y) (k nx ls r h gg) (k t ls r h gg)
    | _ => none)
  else if op = 68 then (match stk with
    | (0, y) :: (0, x) :: r => ci (x < y) (k t ls r h gg) (k nx ls r h gg)
    | _ => none)
  else if op = 69 then (match stk with
    | (0, y) :: (0, x) :: r => ci (x < y) (k nx ls r h gg) (k t ls r h gg)
    | _ => none)
  else if op = 70 then (match stk with
    | (0, y) :: (0, x) :: r => ci (x ≤ y) (k nx ls r h gg) (k t ls r h gg)
    | _ => none)
  else if op = 71 then (match stk with
    | (0, y) :: (0, x) :: r => ci (x ≤ y) (k t ls r h gg) (k nx ls r h gg)
    | _ => none)
  else if op = 72 then (match stk with
    | (3, _) :: r => k t ls r h gg
    | (2, _) :: r => k nx ls r h gg
    | _ => none)
  else if op = 73 then k t ls stk h gg
  else if op ≤ 75 then (match stk with
    | (0, x) :: r => k (swt i.2.2.2 i.2.2.1.tail t x) ls r h gg
    | _ => none)
  else none
theorem c1_eq (k : Kon) (q : Int → Bool) (t nx : Nat) (ls stk : List AV) (h : Hp) (gg : GG) : un k (c1 q t nx ls stk h gg) = (match (generalizing := false) stk with
    | (0, x) :: r => if q x = true then k t ls r h gg else k nx ls r h gg
    | _ => none) := by
  unfold c1
  rcases stk with _ | ⟨⟨_ | _ | _ | _ | _ | _ | t, x0⟩, r⟩ <;> try rfl
  show un k (some (if q x0 = true then t else nx, ls, r, h, gg)) = if q x0 = true then k t ls r h gg else k nx ls r h gg
  cases q x0 <;> rfl
theorem c2_eq (k : Kon) (q : Int → Int → Bool) (t nx : Nat) (ls stk : List AV) (h : Hp) (gg : GG) : un k (c2 q t nx ls stk h gg) = (match (generalizing := false) stk with
    | (0, y) :: (0, x) :: r => if q x y = true then k t ls r h gg else k nx ls r h gg
    | _ => none) := by
  unfold c2
  rcases stk with _ | ⟨⟨_ | _ | _ | _ | _ | _ | t, x0⟩, r⟩ <;> try rfl
  rcases r with _ | ⟨⟨_ | _ | _ | _ | _ | _ | t, x1⟩, r⟩ <;> try rfl
  show un k (some (if q x1 x0 = true then t else nx, ls, r, h, gg)) = if q x1 x0 = true then k t ls r h gg else k nx ls r h gg
  cases q x1 x0 <;> rfl
theorem if_dt {c : Prop} [Decidable c] {α : Type} {a b : α} : (if decide c = true then a else b) = if c then a else b := by
  by_cases h : c
  · rw [if_pos h, if_pos (decide_eq_true h)]
  · rw [if_neg h, if_neg (fun q => h (of_decide_eq_true q))]
theorem if_df {c d : Prop} [Decidable c] [Decidable d] (e : d ↔ ¬ c) {α : Type} {a b : α} : (if decide d = true then a else b) = if c then b else a := by
  by_cases h : c
  · rw [if_pos h, if_neg (fun q => (e.mp (of_decide_eq_true q)) h)]
  · rw [if_neg h, if_pos (decide_eq_true (e.mpr h))]
theorem stC_eq (k : Kon) (i : Ins) (ls stk : List AV) (h : Hp) (gg : GG) : un k (effC i ls stk h gg) = stC k i ls stk h gg := by
  unfold effC stC
  dsimp only
  by_cases h1 : i.1 = 60
  · rw [if_pos h1, if_pos h1]
    rw [c1_eq]
    rcases stk with _ | ⟨⟨_ | _ | _ | _ | _ | _ | t, x⟩, r⟩ <;> try rfl
    all_goals (exact if_dt.trans (ci_eq _ _ _).symm)
  rw [if_neg h1, if_neg h1]
  by_cases h1 : i.1 = 61
  · rw [if_pos h1, if_pos h1]
    rw [c1_eq]
    rcases stk with _ | ⟨⟨_ | _ | _ | _ | _ | _ | t, x⟩, r⟩ <;> try rfl
    all_goals (exact (if_df (by omega)).trans (ci_eq _ _ _).symm)
  rw [if_neg h1, if_neg h1]
  by_cases h1 : i.1 = 62
  · rw [if_pos h1, if_pos h1]
    rw [c1_eq]
    rcases stk with _ | ⟨⟨_ | _ | _ | _ | _ | _ | t, x⟩, r⟩ <;> try rfl
    all_goals (exact if_dt.trans (ci_eq _ _ _).symm)
  rw [if_neg h1, if_neg h1]
  by_cases h1 : i.1 = 63
  · rw [if_pos h1, if_pos h1]
    rw [c1_eq]
    rcases stk with _ | ⟨⟨_ | _ | _ | _ | _ | _ | t, x⟩, r⟩ <;> try rfl
    all_goals (exact (if_df (by omega)).trans (ci_eq _ _ _).symm)
  rw [if_neg h1, if_neg h1]
  by_cases h1 : i.1 = 64
  · rw [if_pos h1, if_pos h1]
    rw [c1_eq]
    rcases stk with _ | ⟨⟨_ | _ | _ | _ | _ | _ | t, x⟩, r⟩ <;> try rfl
    all_goals (exact (if_df (by omega)).trans (ci_eq _ _ _).symm)
  rw [if_neg h1, if_neg h1]
  by_cases h1 : i.1 = 65
  · rw [if_pos h1, if_pos h1]
    rw [c1_eq]
    rcases stk with _ | ⟨⟨_ | _ | _ | _ | _ | _ | t, x⟩, r⟩ <;> try rfl
    all_goals (exact if_dt.trans (ci_eq _ _ _).symm)
  rw [if_neg h1, if_neg h1]
  by_cases h1 : i.1 = 66
  · rw [if_pos h1, if_pos h1]
    rw [c2_eq]
    rcases stk with _ | ⟨⟨_ | _ | _ | _ | _ | _ | t, x⟩, r⟩ <;> try rfl
    all_goals (rcases r with _ | ⟨⟨_ | _ | _ | _ | _ | _ | t, x⟩, r⟩ <;> try rfl)
    all_goals (exact if_dt.trans (ci_eq _ _ _).symm)
  rw [if_neg h1, if_neg h1]
  by_cases h1 : i.1 = 67
  · rw [if_pos h1, if_pos h1]
    rw [c2_eq]
    rcases stk with _ | ⟨⟨_ | _ | _ | _ | _ | _ | t, x⟩, r⟩ <;> try rfl
    all_goals (rcases r with _ | ⟨⟨_ | _ | _ | _ | _ | _ | t, x⟩, r⟩ <;> try rfl)
    all_goals (exact (if_df (by omega)).trans (ci_eq _ _ _).symm)
  rw [if_neg h1, if_neg h1]
  by_cases h1 : i.1 = 68
  · rw [if_pos h1, if_pos h1]
    rw [c2_eq]
    rcases stk with _ | ⟨⟨_ | _ | _ | _ | _ | _ | t, x⟩, r⟩ <;> try rfl
    all_goals (rcases r with _ | ⟨⟨_ | _ | _ | _ | _ | _ | t, x⟩, r⟩ <;> try rfl)
    all_goals (exact if_dt.trans (ci_eq _ _ _).symm)
  rw [if_neg h1, if_neg h1]
  by_cases h1 : i.1 = 69
  · rw [if_pos h1, if_pos h1]
    rw [c2_eq]
    rcases stk with _ | ⟨⟨_ | _ | _ | _ | _ | _ | t, x⟩, r⟩ <;> try rfl
    all_goals (rcases r with _ | ⟨⟨_ | _ | _ | _ | _ | _ | t, x⟩, r⟩ <;> try rfl)
    all_goals (exact (if_df (by omega)).trans (ci_eq _ _ _).symm)
  rw [if_neg h1, if_neg h1]
  by_cases h1 : i.1 = 70
  · rw [if_pos h1, if_pos h1]
    rw [c2_eq]
    rcases stk with _ | ⟨⟨_ | _ | _ | _ | _ | _ | t, x⟩, r⟩ <;> try rfl
    all_goals (rcases r with _ | ⟨⟨_ | _ | _ | _ | _ | _ | t, x⟩, r⟩ <;> try rfl)
    all_goals (exact (if_df (by omega)).trans (ci_eq _ _ _).symm)
  rw [if_neg h1, if_neg h1]
  by_cases h1 : i.1 = 71
  · rw [if_pos h1, if_pos h1]
    rw [c2_eq]
    rcases stk with _ | ⟨⟨_ | _ | _ | _ | _ | _ | t, x⟩, r⟩ <;> try rfl
    all_goals (rcases r with _ | ⟨⟨_ | _ | _ | _ | _ | _ | t, x⟩, r⟩ <;> try rfl)
    all_goals (exact if_dt.trans (ci_eq _ _ _).symm)
  rw [if_neg h1, if_neg h1]
  by_cases h1 : i.1 = 72
  · rw [if_pos h1, if_pos h1]
    rcases stk with _ | ⟨⟨_ | _ | _ | _ | _ | _ | t, x⟩, r⟩ <;> try rfl
  rw [if_neg h1, if_neg h1]
  by_cases h1 : i.1 = 73
  · rw [if_pos h1, if_pos h1]
    rfl
  rw [if_neg h1, if_neg h1]
  by_cases h1 : i.1 ≤ 75
  · rw [if_pos h1, if_pos h1]
    rcases stk with _ | ⟨⟨_ | _ | _ | _ | _ | _ | t, x⟩, r⟩ <;> try rfl
  rw [if_neg h1, if_neg h1]
  rfl
noncomputable def stD (LY : Lay) (al : GG) (k : Kon) (i : Ins) (ls stk : List AV) (h : Hp) (gg : GG) : Option Res :=
  let op := i.1; let nx := i.2.1; let a := i.2.2.1.headD 0; let b := i.2.2.1.tail.headD 0
  if op ≤ 77 then (match stk with
    | (0, x) :: r => if 0 ≤ x ∧ LY h.2.2.1 = (a, x.toNat) ∧ gg.1 + 1 ≤ al.1 ∧ gg.2 + x.toNat ≤ al.2 then k nx ls ((2, (h.2.2.1 : Int)) :: r) (h.1, h.2.1, h.2.2.1 + 1, h.2.2.2) (gg.1 + 1, gg.2 + x.toNat) else none
    | _ => none)
  else if op = 78 then (if (LY h.2.2.1).1 = a ∧ gg.1 + 1 ≤ al.1 ∧ gg.2 + (LY h.2.2.1).2 ≤ al.2 then k nx ls ((2, (h.2.2.1 : Int)) :: stk) (h.1, h.2.1, h.2.2.1 + 1, h.2.2.2) (gg.1 + 1, gg.2 + (LY h.2.2.1).2) else none)
  else if op = 79 then (match stk with
    | (0, y) :: (0, x) :: r => if r.length ≤ 4 then k nx ls ((0, if x < y then y else x) :: r) h gg else none
    | _ => none)
  else if op = 89 then (match stk with
    | (0, y) :: (0, x) :: r => if r.length ≤ 4 then k nx ls ((0, if y < x then y else x) :: r) h gg else none
    | _ => none)
  else if op = 98 then (match stk with
    | (0, x) :: r => if r.length ≤ 4 then k nx ls ((0, if 0 ≤ x then x else w32 (0 - x)) :: r) h gg else none
    | _ => none)
  else if op = 80 then (match stk with
    | (0, x) :: (2, q) :: r => if (LY q.toNat).1 = 20 then (ci (0 ≤ x ∧ x < ((LY q.toNat).2 : Int)) (k nx ls ((0, h.1 q.toNat x.toNat) :: r) h gg) none) else none
    | (0, x) :: (4, _) :: r => ci (0 ≤ x ∧ x < (h.2.2.2.1 : Int)) (k nx ls ((0, h.2.2.2.2 x.toNat) :: r) h gg) none
    | _ => none)
  else if op = 81 then (match stk with
    | (0, x) :: (2, q) :: r => if ((LY q.toNat).1 = 21 ∨ (LY q.toNat).1 = 22) then (ci (0 ≤ x ∧ x < ((LY q.toNat).2 : Int)) (k nx ls ((0, h.1 q.toNat x.toNat) :: r) h gg) none) else none
    | _ => none)
  else if op = 82 then (match stk with
    | (0, x) :: (2, q) :: r => if (LY q.toNat).1 = 23 then (ci (0 ≤ x ∧ x < ((LY q.toNat).2 : Int)) (k nx ls ((1, h.1 q.toNat x.toNat) :: r) h gg) none) else none
    | _ => none)
  else if op = 83 then (match stk with
    | (0, x) :: (2, q) :: r => if (LY q.toNat).1 = 24 then (ci (0 ≤ x ∧ x < ((LY q.toNat).2 : Int)) (nn (h.2.1 q.toNat x.toNat) none (fun n => k nx ls ((2, (n : Int)) :: r) h gg)) none) else none
    | _ => none)
  else if op = 84 then (match stk with
    | (0, v) :: (0, x) :: (2, q) :: r => if (LY q.toNat).1 = 20 then (ci (0 ≤ x ∧ x < ((LY q.toNat).2 : Int)) (k nx ls r (up2 h.1 q.toNat x.toNat v, h.2) gg) none) else none
    | _ => none)
  else if op = 85 then (match stk with
    | (0, v) :: (0, x) :: (2, q) :: r => ci (0 ≤ x ∧ x < ((LY q.toNat).2 : Int)) ((if (LY q.toNat).1 = 21 then k nx ls r (up2 h.1 q.toNat x.toNat (Int.bmod v 256), h.2) gg else (if (LY q.toNat).1 = 22 then (if v = 0 ∨ v = 1 then k nx ls r (up2 h.1 q.toNat x.toNat v, h.2) gg else none) else none))) none
    | _ => none)
  else if op = 86 then (match stk with
    | (1, v) :: (0, x) :: (2, q) :: r => if (LY q.toNat).1 = 23 then (ci (0 ≤ x ∧ x < ((LY q.toNat).2 : Int)) (k nx ls r (up2 h.1 q.toNat x.toNat v, h.2) gg) none) else none
    | _ => none)
  else if op = 87 then (match stk with
    | (2, v) :: (0, x) :: (2, q) :: r => if (LY q.toNat).1 = 24 then (if (LY v.toNat).1 = b then (ci (0 ≤ x ∧ x < ((LY q.toNat).2 : Int)) (k nx ls r (h.1, up2 h.2.1 q.toNat x.toNat (v + 1), h.2.2) gg) none) else none) else none
    | _ => none)
  else if op = 88 then (match stk with
    | (2, q) :: r => if 20 ≤ (LY q.toNat).1 ∧ (LY q.toNat).1 ≤ 24 then k nx ls ((0, ((LY q.toNat).2 : Int)) :: r) h gg else none
    | (4, _) :: r => k nx ls ((0, (h.2.2.2.1 : Int)) :: r) h gg
    | _ => none)
  else if op = 90 then (match stk with
    | (2, q) :: r => if (LY q.toNat).1 = a then k nx ls ((0, h.1 q.toNat b) :: r) h gg else none
    | _ => none)
  else if op = 91 then (match stk with
    | (2, q) :: r => if (LY q.toNat).1 = a then nn (h.2.1 q.toNat b) (k nx ls ((3, 0) :: r) h gg) (fun n => k nx ls ((2, (n : Int)) :: r) h gg) else none
    | _ => none)
  else if op = 92 then (match stk with
    | (0, v) :: (2, q) :: r => if (LY q.toNat).1 = a then k nx ls r (up2 h.1 q.toNat b v, h.2) gg else none
    | _ => none)
  else if op = 93 then (match stk with
    | (2, v) :: (2, q) :: r => if (LY q.toNat).1 = a then k nx ls r (h.1, up2 h.2.1 q.toNat b (v + 1), h.2.2) gg else none
    | _ => none)
  else if op = 94 then (match stk with
    | (0, v) :: (2, q) :: r => if (LY q.toNat).1 = a then (if v = 0 ∨ v = 1 then k nx ls r (up2 h.1 q.toNat b v, h.2) gg else none) else none
    | _ => none)
  else if op = 95 then (match stk with
    | (2, _) :: r => if r.length ≤ 4 then k nx ls r h gg else none
    | _ => none)
  else if op = 96 then (match stk with
    | (0, n) :: (0, dp) :: (2, q) :: (0, sp) :: (2, p) :: r => if ((LY p.toNat).1 = 20 ∨ (LY p.toNat).1 = 21) ∧ (LY q.toNat).1 = (LY p.toNat).1 ∧ 0 ≤ sp ∧ 0 ≤ dp ∧ 0 ≤ n ∧ sp + n ≤ ((LY p.toNat).2 : Int) ∧ dp + n ≤ ((LY q.toNat).2 : Int) ∧ r.length ≤ 4 then k nx ls r (cp2 h.1 p.toNat sp.toNat q.toNat dp.toNat n.toNat, h.2) gg else none
    | _ => none)
  else if op = 97 then (match stk with
    | (0, x) :: (5, _) :: r => if r.length ≤ 4 ∧ 0 ≤ x ∧ x < 256 then k nx ls ((0, idxOf i.2.2.2 0 x) :: r) h gg else none
    | _ => none)
  else none
theorem stD_eq (LY : Lay) (al : GG) (k : Kon) (i : Ins) (ls stk : List AV) (h : Hp) (gg : GG) : un k (effD LY al i ls stk h gg) = stD LY al k i ls stk h gg := by
  unfold effD stD
  dsimp only
  by_cases h1 : i.1 ≤ 77
  · rw [if_pos h1, if_pos h1]
    rcases stk with _ | ⟨⟨_ | _ | _ | _ | _ | _ | t, x⟩, r⟩ <;> try rfl
    all_goals (first | rfl | (simp only [un_ite, un_some, un_none, if_and2, ci_eq]; done) | (dsimp only; simp only [un_ite, un_some, un_none, if_and2, ci_eq]; done))
  rw [if_neg h1, if_neg h1]
  by_cases h1 : i.1 = 78
  · rw [if_pos h1, if_pos h1]
    exact un_ite _ _ _
  rw [if_neg h1, if_neg h1]
  by_cases h1 : i.1 = 79
  · rw [if_pos h1, if_pos h1]
    rcases stk with _ | ⟨⟨_ | _ | _ | _ | _ | _ | t, x⟩, r⟩ <;> try rfl
    all_goals (rcases r with _ | ⟨⟨_ | _ | _ | _ | _ | _ | t, x⟩, r⟩ <;> try rfl)
    all_goals (first | rfl | (simp only [un_ite, un_some, un_none, if_and2, ci_eq]; done) | (dsimp only; simp only [un_ite, un_some, un_none, if_and2, ci_eq]; done))
  rw [if_neg h1, if_neg h1]
  by_cases h1 : i.1 = 89
  · rw [if_pos h1, if_pos h1]
    rcases stk with _ | ⟨⟨_ | _ | _ | _ | _ | _ | t, x⟩, r⟩ <;> try rfl
    all_goals (rcases r with _ | ⟨⟨_ | _ | _ | _ | _ | _ | t, x⟩, r⟩ <;> try rfl)
    all_goals (first | rfl | (simp only [un_ite, un_some, un_none, if_and2, ci_eq]; done) | (dsimp only; simp only [un_ite, un_some, un_none, if_and2, ci_eq]; done))
  rw [if_neg h1, if_neg h1]
  by_cases h1 : i.1 = 98
  · rw [if_pos h1, if_pos h1]
    rcases stk with _ | ⟨⟨_ | _ | _ | _ | _ | _ | t, x⟩, r⟩ <;> try rfl
    all_goals (first | rfl | (simp only [un_ite, un_some, un_none, if_and2, ci_eq]; done) | (dsimp only; simp only [un_ite, un_some, un_none, if_and2, ci_eq]; done))
  rw [if_neg h1, if_neg h1]
  by_cases h1 : i.1 = 80
  · rw [if_pos h1, if_pos h1]
    rcases stk with _ | ⟨⟨_ | _ | _ | _ | _ | _ | t, x⟩, r⟩ <;> try rfl
    all_goals (rcases r with _ | ⟨⟨_ | _ | _ | _ | _ | _ | t, x⟩, r⟩ <;> try rfl)
    all_goals (first | rfl | (simp only [un_ite, un_some, un_none, if_and2, ci_eq]; done) | (dsimp only; simp only [un_ite, un_some, un_none, if_and2, ci_eq]; done))
  rw [if_neg h1, if_neg h1]
  by_cases h1 : i.1 = 81
  · rw [if_pos h1, if_pos h1]
    rcases stk with _ | ⟨⟨_ | _ | _ | _ | _ | _ | t, x⟩, r⟩ <;> try rfl
    all_goals (rcases r with _ | ⟨⟨_ | _ | _ | _ | _ | _ | t, x⟩, r⟩ <;> try rfl)
    all_goals (first | rfl | (simp only [un_ite, un_some, un_none, if_and2, ci_eq]; done) | (dsimp only; simp only [un_ite, un_some, un_none, if_and2, ci_eq]; done))
  rw [if_neg h1, if_neg h1]
  by_cases h1 : i.1 = 82
  · rw [if_pos h1, if_pos h1]
    rcases stk with _ | ⟨⟨_ | _ | _ | _ | _ | _ | t, x⟩, r⟩ <;> try rfl
    all_goals (rcases r with _ | ⟨⟨_ | _ | _ | _ | _ | _ | t, x⟩, r⟩ <;> try rfl)
    all_goals (first | rfl | (simp only [un_ite, un_some, un_none, if_and2, ci_eq]; done) | (dsimp only; simp only [un_ite, un_some, un_none, if_and2, ci_eq]; done))
  rw [if_neg h1, if_neg h1]
  by_cases h1 : i.1 = 83
  · rw [if_pos h1, if_pos h1]
    rcases stk with _ | ⟨⟨_ | _ | _ | _ | _ | _ | t, x0⟩, r⟩ <;> try rfl
    all_goals (rcases r with _ | ⟨⟨_ | _ | _ | _ | _ | _ | t, x1⟩, r⟩ <;> try rfl)
    show un k (if (LY x1.toNat).1 = 24 ∧ 0 ≤ x0 ∧ x0 < ((LY x1.toNat).2 : Int) ∧ (rv (h.2.1 x1.toNat x0.toNat)).1 = 2 then some (i.2.1, ls, rv (h.2.1 x1.toNat x0.toNat) :: r, h, gg) else none) = if (LY x1.toNat).1 = 24 then (ci (0 ≤ x0 ∧ x0 < ((LY x1.toNat).2 : Int)) (nn (h.2.1 x1.toNat x0.toNat) none (fun n => k i.2.1 ls ((2, (n : Int)) :: r) h gg)) none) else none
    rw [if_and2, un_ite, ci_eq]
    congr 1
    rw [if_and3, un_ite]
    congr 1
    rw [un_ite, un_some, un_none]
    exact rv_nn2 (fun v => k _ _ (v :: _) _ _) _
  rw [if_neg h1, if_neg h1]
  by_cases h1 : i.1 = 84
  · rw [if_pos h1, if_pos h1]
    rcases stk with _ | ⟨⟨_ | _ | _ | _ | _ | _ | t, x⟩, r⟩ <;> try rfl
    all_goals (rcases r with _ | ⟨⟨_ | _ | _ | _ | _ | _ | t, x⟩, r⟩ <;> try rfl)
    all_goals (rcases r with _ | ⟨⟨_ | _ | _ | _ | _ | _ | t, x⟩, r⟩ <;> try rfl)
    all_goals (first | rfl | (simp only [un_ite, un_some, un_none, if_and2, ci_eq]; done) | (dsimp only; simp only [un_ite, un_some, un_none, if_and2, ci_eq]; done))
  rw [if_neg h1, if_neg h1]
  by_cases h1 : i.1 = 85
  · rw [if_pos h1, if_pos h1]
    rcases stk with _ | ⟨⟨_ | _ | _ | _ | _ | _ | t, x⟩, r⟩ <;> try rfl
    all_goals (rcases r with _ | ⟨⟨_ | _ | _ | _ | _ | _ | t, x⟩, r⟩ <;> try rfl)
    all_goals (rcases r with _ | ⟨⟨_ | _ | _ | _ | _ | _ | t, x⟩, r⟩ <;> try rfl)
    all_goals (first | rfl | (simp only [un_ite, un_some, un_none, if_and2, ci_eq]; done) | (dsimp only; simp only [un_ite, un_some, un_none, if_and2, ci_eq]; done))
  rw [if_neg h1, if_neg h1]
  by_cases h1 : i.1 = 86
  · rw [if_pos h1, if_pos h1]
    rcases stk with _ | ⟨⟨_ | _ | _ | _ | _ | _ | t, x⟩, r⟩ <;> try rfl
    all_goals (rcases r with _ | ⟨⟨_ | _ | _ | _ | _ | _ | t, x⟩, r⟩ <;> try rfl)
    all_goals (rcases r with _ | ⟨⟨_ | _ | _ | _ | _ | _ | t, x⟩, r⟩ <;> try rfl)
    all_goals (first | rfl | (simp only [un_ite, un_some, un_none, if_and2, ci_eq]; done) | (dsimp only; simp only [un_ite, un_some, un_none, if_and2, ci_eq]; done))
  rw [if_neg h1, if_neg h1]
  by_cases h1 : i.1 = 87
  · rw [if_pos h1, if_pos h1]
    rcases stk with _ | ⟨⟨_ | _ | _ | _ | _ | _ | t, x⟩, r⟩ <;> try rfl
    all_goals (rcases r with _ | ⟨⟨_ | _ | _ | _ | _ | _ | t, x⟩, r⟩ <;> try rfl)
    all_goals (rcases r with _ | ⟨⟨_ | _ | _ | _ | _ | _ | t, x⟩, r⟩ <;> try rfl)
    all_goals (first | rfl | (simp only [un_ite, un_some, un_none, if_and2, ci_eq]; done) | (dsimp only; simp only [un_ite, un_some, un_none, if_and2, ci_eq]; done))
  rw [if_neg h1, if_neg h1]
  by_cases h1 : i.1 = 88
  · rw [if_pos h1, if_pos h1]
    rcases stk with _ | ⟨⟨_ | _ | _ | _ | _ | _ | t, x⟩, r⟩ <;> try rfl
    all_goals (first | rfl | (simp only [un_ite, un_some, un_none, if_and2, ci_eq]; done) | (dsimp only; simp only [un_ite, un_some, un_none, if_and2, ci_eq]; done))
  rw [if_neg h1, if_neg h1]
  by_cases h1 : i.1 = 90
  · rw [if_pos h1, if_pos h1]
    rcases stk with _ | ⟨⟨_ | _ | _ | _ | _ | _ | t, x⟩, r⟩ <;> try rfl
    all_goals (first | rfl | (simp only [un_ite, un_some, un_none, if_and2, ci_eq]; done) | (dsimp only; simp only [un_ite, un_some, un_none, if_and2, ci_eq]; done))
  rw [if_neg h1, if_neg h1]
  by_cases h1 : i.1 = 91
  · rw [if_pos h1, if_pos h1]
    rcases stk with _ | ⟨⟨_ | _ | _ | _ | _ | _ | t, x⟩, r⟩ <;> try rfl
    show un k (if (LY x.toNat).1 = i.2.2.1.headD 0 then some (i.2.1, ls, rv (h.2.1 x.toNat (i.2.2.1.tail.headD 0)) :: r, h, gg) else none) = if (LY x.toNat).1 = i.2.2.1.headD 0 then nn (h.2.1 x.toNat (i.2.2.1.tail.headD 0)) (k i.2.1 ls ((3, 0) :: r) h gg) (fun n => k i.2.1 ls ((2, (n : Int)) :: r) h gg) else none
    rw [un_ite, un_some, un_none]
    congr 1
    exact rv_nn (fun v => k _ _ (v :: _) _ _) _
  rw [if_neg h1, if_neg h1]
  by_cases h1 : i.1 = 92
  · rw [if_pos h1, if_pos h1]
    rcases stk with _ | ⟨⟨_ | _ | _ | _ | _ | _ | t, x⟩, r⟩ <;> try rfl
    all_goals (rcases r with _ | ⟨⟨_ | _ | _ | _ | _ | _ | t, x⟩, r⟩ <;> try rfl)
    all_goals (first | rfl | (simp only [un_ite, un_some, un_none, if_and2, ci_eq]; done) | (dsimp only; simp only [un_ite, un_some, un_none, if_and2, ci_eq]; done))
  rw [if_neg h1, if_neg h1]
  by_cases h1 : i.1 = 93
  · rw [if_pos h1, if_pos h1]
    rcases stk with _ | ⟨⟨_ | _ | _ | _ | _ | _ | t, x⟩, r⟩ <;> try rfl
    all_goals (rcases r with _ | ⟨⟨_ | _ | _ | _ | _ | _ | t, x⟩, r⟩ <;> try rfl)
    all_goals (first | rfl | (simp only [un_ite, un_some, un_none, if_and2, ci_eq]; done) | (dsimp only; simp only [un_ite, un_some, un_none, if_and2, ci_eq]; done))
  rw [if_neg h1, if_neg h1]
  by_cases h1 : i.1 = 94
  · rw [if_pos h1, if_pos h1]
    rcases stk with _ | ⟨⟨_ | _ | _ | _ | _ | _ | t, x⟩, r⟩ <;> try rfl
    all_goals (rcases r with _ | ⟨⟨_ | _ | _ | _ | _ | _ | t, x⟩, r⟩ <;> try rfl)
    all_goals (first | rfl | (simp only [un_ite, un_some, un_none, if_and2, ci_eq]; done) | (dsimp only; simp only [un_ite, un_some, un_none, if_and2, ci_eq]; done))
  rw [if_neg h1, if_neg h1]
  by_cases h1 : i.1 = 95
  · rw [if_pos h1, if_pos h1]
    rcases stk with _ | ⟨⟨_ | _ | _ | _ | _ | _ | t, x⟩, r⟩ <;> try rfl
    all_goals (first | rfl | (simp only [un_ite, un_some, un_none, if_and2, ci_eq]; done) | (dsimp only; simp only [un_ite, un_some, un_none, if_and2, ci_eq]; done))
  rw [if_neg h1, if_neg h1]
  by_cases h1 : i.1 = 96
  · rw [if_pos h1, if_pos h1]
    rcases stk with _ | ⟨⟨_ | _ | _ | _ | _ | _ | t, x⟩, r⟩ <;> try rfl
    all_goals (rcases r with _ | ⟨⟨_ | _ | _ | _ | _ | _ | t, x⟩, r⟩ <;> try rfl)
    all_goals (rcases r with _ | ⟨⟨_ | _ | _ | _ | _ | _ | t, x⟩, r⟩ <;> try rfl)
    all_goals (rcases r with _ | ⟨⟨_ | _ | _ | _ | _ | _ | t, x⟩, r⟩ <;> try rfl)
    all_goals (rcases r with _ | ⟨⟨_ | _ | _ | _ | _ | _ | t, x⟩, r⟩ <;> try rfl)
    all_goals (first | rfl | (simp only [un_ite, un_some, un_none, if_and2, ci_eq]; done) | (dsimp only; simp only [un_ite, un_some, un_none, if_and2, ci_eq]; done))
  rw [if_neg h1, if_neg h1]
  by_cases h1 : i.1 = 97
  · rw [if_pos h1, if_pos h1]
    rcases stk with _ | ⟨⟨_ | _ | _ | _ | _ | _ | t, x⟩, r⟩ <;> try rfl
    all_goals (rcases r with _ | ⟨⟨_ | _ | _ | _ | _ | _ | t, x⟩, r⟩ <;> try rfl)
    all_goals (first | rfl | (simp only [un_ite, un_some, un_none, if_and2, ci_eq]; done) | (dsimp only; simp only [un_ite, un_some, un_none, if_and2, ci_eq]; done))
  rw [if_neg h1, if_neg h1]
  rfl
noncomputable def st (LY : Lay) (al : GG) (k : Kon) (i : Ins) (ls stk : List AV) (h : Hp) (gg : GG) : Option Res :=
  if i.1 < 30 then stA k i ls stk h gg else if i.1 < 60 then stB k i ls stk h gg else if i.1 < 76 then stC k i ls stk h gg else stD LY al k i ls stk h gg
theorem st_eq (LY : Lay) (al : GG) (k : Kon) (i : Ins) (ls stk : List AV) (h : Hp) (gg : GG) : un k (eff LY al i ls stk h gg) = st LY al k i ls stk h gg := by
  unfold eff st
  split
  · exact stA_eq _ _ _ _ _ _
  · split
    · exact stB_eq _ _ _ _ _ _
    · split
      · exact stC_eq _ _ _ _ _ _
      · exact stD_eq _ _ _ _ _ _ _ _
noncomputable def stCall (P : Prg) (C : Cal) (k : Kon) (m : Nat) (i : Ins) (ls stk : List AV) (h : Hp) (gg : GG) : Option Res :=
  let c := i.2.2.1.headD 0; let na := i.2.2.1.tail.headD 0
  match tk na [] stk with
  | some (as, r) => if rcv P.1 (P.2.2.2.2.1 c) as = true then (if argw as ≤ P.2.2.2.1 c then (if r.length ≤ 4 then (if gg.1 + (P.2.2.1 c).1 ≤ (P.2.2.1 m).1 ∧ gg.2 + (P.2.2.1 c).2 ≤ (P.2.2.1 m).2 then bd (C c as h) (fun v h' => k i.2.1 ls (v.toList ++ r) h' (gg.1 + (P.2.2.1 c).1, gg.2 + (P.2.2.1 c).2)) else none) else none) else none) else none
  | none => none
theorem stCall_eq (P : Prg) (C : Cal) (k : Kon) (m : Nat) (i : Ins) (ls stk : List AV) (h : Hp) (gg : GG) : goCall P C k m i ls stk h gg = stCall P C k m i ls stk h gg := by
  unfold goCall stCall
  dsimp only
  cases tk (i.2.2.1.tail.headD 0) [] stk with
  | none => rfl
  | some q =>
    obtain ⟨as, r⟩ := q
    dsimp only
    by_cases h1 : rcv P.1 (P.2.2.2.2.1 (i.2.2.1.headD 0)) as = true
    · rw [if_pos h1]
      by_cases h0 : argw as ≤ P.2.2.2.1 (i.2.2.1.headD 0)
      · rw [if_pos h0]
        by_cases h2 : r.length ≤ 4
        · rw [if_pos h2]
          by_cases h3 : gg.1 + (P.2.2.1 (i.2.2.1.headD 0)).1 ≤ (P.2.2.1 m).1 ∧ gg.2 + (P.2.2.1 (i.2.2.1.headD 0)).2 ≤ (P.2.2.1 m).2
          · rw [if_pos h3, if_pos ⟨h1, h0, h2, h3⟩]
            cases C (i.2.2.1.headD 0) as h with
            | none => rfl
            | some q => rfl
          · rw [if_neg h3, if_neg (fun q => h3 q.2.2.2)]
        · rw [if_neg h2, if_neg (fun q => h2 q.2.2.1)]
      · rw [if_neg h0, if_neg (fun q => h0 q.2.1)]
    · rw [if_neg h1, if_neg (fun q => h1 q.1)]
noncomputable def stp (P : Prg) (C : Cal) (k : Kon) (m : Nat) (i : Ins) (ls stk : List AV) (h : Hp) (gg : GG) : Option Res :=
  if i.1 < 100 then st P.1 (P.2.2.1 m) k i ls stk h gg else if i.1 < 110 then stCall P C k m i ls stk h gg else goRet P m i stk h
theorem stp_eq (P : Prg) (C : Cal) (k : Kon) (m : Nat) (i : Ins) (ls stk : List AV) (h : Hp) (gg : GG) : go P C k m i ls stk h gg = stp P C k m i ls stk h gg := by
  unfold go stp
  split
  · exact st_eq _ _ _ _ _ _ _ _
  · split
    · exact stCall_eq _ _ _ _ _ _ _ _ _
    · rfl
/-- an instruction looked up, by recursors alone: quick to reckon -/
noncomputable def lkb (l : List (Nat × Ins)) (q : Nat) : Ins := List.rec (motive := fun _ => Ins) (99, 0, [], []) (fun a _ r => Bool.rec (motive := fun _ => Ins) r a.2 (Nat.beq a.1 q)) l
theorem lkb_eq : ∀ (l : List (Nat × Ins)) (q : Nat), lk l q = lkb l q
  | [], _ => rfl
  | (p, i) :: l, q => by
    show (if p = q then i else lk l q) = Bool.rec (motive := fun _ => Ins) (lkb l q) i (Nat.beq p q)
    cases hb : Nat.beq p q with
    | true => exact if_pos (Nat.eq_of_beq_eq_true hb)
    | false => exact (if_neg (Nat.ne_of_beq_eq_false hb)).trans (lkb_eq l q)
theorem lk_none : ∀ {l : List (Nat × Ins)} {q : Nat}, (∀ x, x ∈ l → ¬ x.1 = q) → lk l q = (99, 0, [], [])
  | [], _, _ => rfl
  | (p, i) :: l, q, h => (if_neg (h (p, i) List.mem_cons_self)).trans (lk_none (fun x hx => h x (List.mem_cons_of_mem _ hx)))
theorem lk_apl : ∀ {a b : List (Nat × Ins)} {q : Nat}, lk b q = (99, 0, [], []) → lk (a ++ b) q = lk a q
  | [], _, _, h => h
  | (p, i) :: a, b, q, h => by
    show (if p = q then i else lk (a ++ b) q) = (if p = q then i else lk a q)
    rw [lk_apl h]
theorem lk_apr : ∀ {a b : List (Nat × Ins)} {q : Nat}, (∀ x, x ∈ a → ¬ x.1 = q) → lk (a ++ b) q = lk b q
  | [], _, _, _ => rfl
  | (p, i) :: a, b, q, h => (if_neg (h (p, i) List.mem_cons_self)).trans (lk_apr (a := a) (fun x hx => h x (List.mem_cons_of_mem _ hx)))
theorem lk_ap {a b : List (Nat × Ins)} {c q : Nat} {r : Ins} (ha : a.all (fun x => Nat.blt x.1 c) = true) (hb : b.all (fun x => Nat.ble c x.1) = true) (hr : lk b q = r) : lk (a ++ b) q = Bool.rec (motive := fun _ => Ins) (lkb a q) r (Nat.ble c q) := by
  have ha2 := List.all_eq_true.mp ha
  have hb2 := List.all_eq_true.mp hb
  cases hc : Nat.ble c q with
  | true =>
    have hcq := Nat.le_of_ble_eq_true hc
    refine (lk_apr (fun x hx e => ?_)).trans hr
    have h1 : x.1 + 1 ≤ c := Nat.le_of_ble_eq_true (ha2 x hx)
    omega
  | false =>
    have hcq := Nat.not_le_of_not_ble_eq_true (fun h => by rw [hc] at h; cases h)
    refine (lk_apl (lk_none (fun x hx e => ?_))).trans (lkb_eq a q)
    have h1 : c ≤ x.1 := Nat.le_of_ble_eq_true (hb2 x hx)
    omega
/-- some steps on, up to places of 'stop' -/
noncomputable def rt (P : Prg) (C : Cal) (m : Nat) (K : Kon) (F : Nat → Ins) (stop : List Nat) : Nat → Kon
  | 0 => K
  | n + 1 => fun pc ls stk h gg => stp P C (fun pc' ls' stk' h' gg' => if stop.contains pc' = true then K pc' ls' stk' h' gg' else rt P C m K F stop n pc' ls' stk' h' gg') m (F pc) ls stk h gg
theorem rt_eq {P : Prg} {C : Cal} {m : Nat} {F : Nat → Ins} (hc : ∀ pc, P.2.1 m pc = F pc) (stop : List Nat) : ∀ (n pc : Nat) (ls stk : List AV) (h : Hp) (gg : GG), Run P C m pc ls stk h gg = rt P C m (Run P C m) F stop n pc ls stk h gg
  | 0, _, _, _, _, _ => rfl
  | n + 1, pc, ls, stk, h, gg => by
    rw [Run_eq, hc, stp_eq]
    have : (fun pc' ls' stk' h' gg' => if stop.contains pc' = true then Run P C m pc' ls' stk' h' gg' else rt P C m (Run P C m) F stop n pc' ls' stk' h' gg') = Run P C m := by
      funext pc' ls' stk' h' gg'
      split
      · rfl
      · exact (rt_eq hc stop n pc' ls' stk' h' gg').symm
    show _ = stp P C (fun pc' ls' stk' h' gg' => if stop.contains pc' = true then Run P C m pc' ls' stk' h' gg' else rt P C m (Run P C m) F stop n pc' ls' stk' h' gg') m (F pc) ls stk h gg
    rw [this]
theorem Call_s (d m : Nat) (as : List AV) (h : Hp) : Call PG (d + 1) m as h = Run PG (Call PG d) m 0 (ent (mL m) as) [] h (0, 0) := rfl
