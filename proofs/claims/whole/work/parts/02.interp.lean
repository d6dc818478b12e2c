/-! A SMALL MACHINE over a pure heap: what the program's bytecode does, as a function.
values: (0,x) an int, (1,x) a long, (2,a) the object or array number a, (3,0) null, (4,0) the script, (5,0) the text of letters, (9,0) nothing known.
a heap: the number that place j of cell a holds; the references (a cell's number + 1; null as 0), how many cells there are, the script's length, the script. -/
abbrev AV : Type := Nat × Int
abbrev Zt : Type := (Nat → Nat → Int) × Nat × Nat × (Nat → Int)
abbrev Hp : Type := (Nat → Nat → Int) × Zt
abbrev Ins : Type := Nat × Nat × List Nat × List Int
abbrev Res : Type := Option AV × Hp
abbrev GG : Type := Nat × Nat
def w32 (x : Int) : Int := Int.bmod x 4294967296
def w64 (x : Int) : Int := Int.bmod x 18446744073709551616
def ia32 (x y : Int) : Int := (Int32.ofInt x &&& Int32.ofInt y).toInt
def io32 (x y : Int) : Int := (Int32.ofInt x ||| Int32.ofInt y).toInt
def ix32 (x y : Int) : Int := (Int32.ofInt x ^^^ Int32.ofInt y).toInt
def ia64 (x y : Int) : Int := (Int64.ofInt x &&& Int64.ofInt y).toInt
def io64 (x y : Int) : Int := (Int64.ofInt x ||| Int64.ofInt y).toInt
def shl32 (x y : Int) : Int := w32 (x * 2 ^ (y % 32).toNat)
def shr32 (x y : Int) : Int := x / 2 ^ (y % 32).toNat
def ush32 (x y : Int) : Int := w32 ((x % 4294967296) / 2 ^ (y % 32).toNat)
def shl64 (x y : Int) : Int := w64 (x * 2 ^ (y % 64).toNat)
def shr64 (x y : Int) : Int := x / 2 ^ (y % 64).toNat
def lcm (x y : Int) : Int := if x < y then -1 else if x = y then 0 else 1
def up2 (f : Nat → Nat → Int) (a j : Nat) (x : Int) : Nat → Nat → Int := fun a' j' => if a' = a ∧ j' = j then x else f a' j'
def cp2 (f : Nat → Nat → Int) (a sp b dp n : Nat) : Nat → Nat → Int := fun a' j' => if a' = b ∧ dp ≤ j' ∧ j' < dp + n then f a (sp + (j' - dp)) else f a' j'
def lg : List AV → Nat → AV
  | [], _ => (9, 0)
  | v :: _, 0 => v
  | _ :: l, n + 1 => lg l n
def lset : List AV → Nat → AV → List AV
  | [], _, _ => []
  | _ :: l, 0, v => v :: l
  | u :: l, n + 1, v => u :: lset l n v
def lkill (ls : List AV) (a : Nat) : List AV := if 0 < a ∧ (lg ls (a - 1)).1 = 1 then lset ls (a - 1) (9, 0) else ls
def st1 (ls : List AV) (a : Nat) (v : AV) : List AV := lset (lkill ls a) a v
def st2 (ls : List AV) (a : Nat) (v : AV) : List AV := lset (lset (lkill ls a) a v) (a + 1) (9, 0)
def tk : Nat → List AV → List AV → Option (List AV × List AV)
  | 0, acc, s => some (acc, s)
  | _ + 1, _, [] => none
  | n + 1, acc, v :: s => tk n (v :: acc) s
def ent : Nat → List AV → List AV
  | 0, _ => []
  | n + 1, [] => (9, 0) :: ent n []
  | n + 1, (t, x) :: l => (t, x) :: (if t = 1 then (match n with | 0 => [] | n' + 1 => (9, 0) :: ent n' l) else ent n l)
def swt : List Int → List Nat → Nat → Int → Nat
  | k :: ks, t :: ts, d, x => if x = k then t else swt ks ts d x
  | _, _, d, _ => d
def idxOf : List Int → Int → Int → Int
  | [], _, _ => -1
  | k :: ks, n, x => if x = k then n else idxOf ks (n + 1) x
/-- how the cells lie: what each is (below 20 an object of that class; 20 ints, 21 bytes, 22 booleans, 23 longs, 24 texts) and how long -/
abbrev Lay : Type := Nat → Nat × Nat
def b1 (f : Int → Int) (nx : Nat) (ls stk : List AV) (h : Hp) (gg : GG) : Option (Nat × List AV × List AV × Hp × GG) := match stk with
  | (0, x) :: r => some (nx, ls, (0, f x) :: r, h, gg)
  | _ => none
def b2 (f : Int → Int → Int) (nx : Nat) (ls stk : List AV) (h : Hp) (gg : GG) : Option (Nat × List AV × List AV × Hp × GG) := match stk with
  | (0, y) :: (0, x) :: r => some (nx, ls, (0, f x y) :: r, h, gg)
  | _ => none
def b2z (f : Int → Int → Int) (nx : Nat) (ls stk : List AV) (h : Hp) (gg : GG) : Option (Nat × List AV × List AV × Hp × GG) := match stk with
  | (0, y) :: (0, x) :: r => if y = 0 then none else some (nx, ls, (0, f x y) :: r, h, gg)
  | _ => none
def l2 (f : Int → Int → Int) (nx : Nat) (ls stk : List AV) (h : Hp) (gg : GG) : Option (Nat × List AV × List AV × Hp × GG) := match stk with
  | (1, y) :: (1, x) :: r => some (nx, ls, (1, f x y) :: r, h, gg)
  | _ => none
def l2z (f : Int → Int → Int) (nx : Nat) (ls stk : List AV) (h : Hp) (gg : GG) : Option (Nat × List AV × List AV × Hp × GG) := match stk with
  | (1, y) :: (1, x) :: r => if y = 0 then none else some (nx, ls, (1, f x y) :: r, h, gg)
  | _ => none
def ls2 (f : Int → Int → Int) (nx : Nat) (ls stk : List AV) (h : Hp) (gg : GG) : Option (Nat × List AV × List AV × Hp × GG) := match stk with
  | (0, y) :: (1, x) :: r => some (nx, ls, (1, f x y) :: r, h, gg)
  | _ => none
/-- constants, locals -/
def effA (i : Ins) (ls stk : List AV) (h : Hp) (gg : GG) : Option (Nat × List AV × List AV × Hp × GG) :=
  let op := i.1; let nx := i.2.1; let a := i.2.2.1.headD 0; let v := i.2.2.2.headD 0
  if op ≤ 5 then some (nx, ls, (0, v) :: stk, h, gg)
  else if op ≤ 7 then some (nx, ls, (1, v) :: stk, h, gg)
  else if op = 8 then some (nx, ls, (5, 0) :: stk, h, gg)
  else if op ≤ 11 then (if (lg ls a).1 = 0 then some (nx, ls, lg ls a :: stk, h, gg) else none)
  else if op ≤ 13 then (if (lg ls a).1 = 1 then some (nx, ls, lg ls a :: stk, h, gg) else none)
  else if op ≤ 15 then (if (lg ls a).1 = 2 ∨ (lg ls a).1 = 4 then some (nx, ls, lg ls a :: stk, h, gg) else none)
  else if op ≤ 17 then (match stk with
    | (0, x) :: r => some (nx, st1 ls a (0, x), r, h, gg)
    | _ => none)
  else if op ≤ 19 then (match stk with
    | (1, x) :: r => some (nx, st2 ls a (1, x), r, h, gg)
    | _ => none)
  else if op ≤ 21 then (match stk with
    | (2, x) :: r => some (nx, st1 ls a (2, x), r, h, gg)
    | _ => none)
  else if op = 22 then (if (lg ls a).1 = 0 then some (nx, st1 ls a (0, w32 ((lg ls a).2 + v)), stk, h, gg) else none)
  else none
/-- reckoning -/
def effB (i : Ins) (ls stk : List AV) (h : Hp) (gg : GG) : Option (Nat × List AV × List AV × Hp × GG) :=
  let op := i.1; let nx := i.2.1
  if op = 30 then b2 (fun x y => w32 (x + y)) nx ls stk h gg
  else if op = 31 then b2 (fun x y => w32 (x - y)) nx ls stk h gg
  else if op = 32 then b2 (fun x y => w32 (x * y)) nx ls stk h gg
  else if op = 33 then b2z (fun x y => w32 (Int.tdiv x y)) nx ls stk h gg
  else if op = 34 then b2z (fun x y => Int.tmod x y) nx ls stk h gg
  else if op = 35 then b1 (fun x => w32 (-x)) nx ls stk h gg
  else if op = 36 then b2 shl32 nx ls stk h gg
  else if op = 37 then b2 shr32 nx ls stk h gg
  else if op = 38 then b2 ush32 nx ls stk h gg
  else if op = 39 then b2 ia32 nx ls stk h gg
  else if op = 40 then b2 io32 nx ls stk h gg
  else if op = 41 then b2 ix32 nx ls stk h gg
  else if op = 42 then (match stk with
    | (0, x) :: r => some (nx, ls, (1, x) :: r, h, gg)
    | _ => none)
  else if op = 43 then (match stk with
    | (1, x) :: r => some (nx, ls, (0, w32 x) :: r, h, gg)
    | _ => none)
  else if op = 44 then b1 (fun x => Int.bmod x 256) nx ls stk h gg
  else if op = 45 then b1 (fun x => x % 65536) nx ls stk h gg
  else if op = 46 then l2 (fun x y => w64 (x + y)) nx ls stk h gg
  else if op = 47 then l2 (fun x y => w64 (x - y)) nx ls stk h gg
  else if op = 48 then l2 (fun x y => w64 (x * y)) nx ls stk h gg
  else if op = 49 then l2z (fun x y => w64 (Int.tdiv x y)) nx ls stk h gg
  else if op = 50 then l2z (fun x y => Int.tmod x y) nx ls stk h gg
  else if op = 51 then (match stk with
    | (1, y) :: (1, x) :: r => some (nx, ls, (0, lcm x y) :: r, h, gg)
    | _ => none)
  else if op = 52 then l2 ia64 nx ls stk h gg
  else if op = 53 then l2 io64 nx ls stk h gg
  else if op = 54 then ls2 shl64 nx ls stk h gg
  else if op = 55 then ls2 shr64 nx ls stk h gg
  else if op = 56 then (match stk with
    | v :: r => if v.1 = 1 then none else some (nx, ls, v :: v :: r, h, gg)
    | _ => none)
  else if op = 57 then (match stk with
    | v :: u :: r => if v.1 = 1 ∨ u.1 = 1 then none else some (nx, ls, v :: u :: v :: u :: r, h, gg)
    | _ => none)
  else if op = 58 then (match stk with
    | v :: r => if v.1 = 1 then none else some (nx, ls, r, h, gg)
    | _ => none)
  else none
def c1 (q : Int → Bool) (t nx : Nat) (ls stk : List AV) (h : Hp) (gg : GG) : Option (Nat × List AV × List AV × Hp × GG) := match stk with
  | (0, x) :: r => some (if q x = true then t else nx, ls, r, h, gg)
  | _ => none
def c2 (q : Int → Int → Bool) (t nx : Nat) (ls stk : List AV) (h : Hp) (gg : GG) : Option (Nat × List AV × List AV × Hp × GG) := match stk with
  | (0, y) :: (0, x) :: r => some (if q x y = true then t else nx, ls, r, h, gg)
  | _ => none
/-- branches -/
def effC (i : Ins) (ls stk : List AV) (h : Hp) (gg : GG) : Option (Nat × List AV × List AV × Hp × GG) :=
  let op := i.1; let nx := i.2.1; let t := i.2.2.1.headD 0
  if op = 60 then c1 (fun x => decide (x = 0)) t nx ls stk h gg
  else if op = 61 then c1 (fun x => decide (¬ x = 0)) t nx ls stk h gg
  else if op = 62 then c1 (fun x => decide (x < 0)) t nx ls stk h gg
  else if op = 63 then c1 (fun x => decide (0 ≤ x)) t nx ls stk h gg
  else if op = 64 then c1 (fun x => decide (0 < x)) t nx ls stk h gg
  else if op = 65 then c1 (fun x => decide (x ≤ 0)) t nx ls stk h gg
  else if op = 66 then c2 (fun x y => decide (x = y)) t nx ls stk h gg
  else if op = 67 then c2 (fun x y => decide (¬ x = y)) t nx ls stk h gg
  else if op = 68 then c2 (fun x y => decide (x < y)) t nx ls stk h gg
  else if op = 69 then c2 (fun x y => decide (y ≤ x)) t nx ls stk h gg
  else if op = 70 then c2 (fun x y => decide (y < x)) t nx ls stk h gg
  else if op = 71 then c2 (fun x y => decide (x ≤ y)) t nx ls stk h gg
  else if op = 72 then (match stk with
    | (3, _) :: r => some (t, ls, r, h, gg)
    | (2, _) :: r => some (nx, ls, r, h, gg)
    | _ => none)
  else if op = 73 then some (t, ls, stk, h, gg)
  else if op ≤ 75 then (match stk with
    | (0, x) :: r => some (swt i.2.2.2 i.2.2.1.tail t x, ls, r, h, gg)
    | _ => none)
  else none
/-- a reference's number: null, or a cell -/
def rv (r : Int) : AV := match r.toNat with
  | 0 => (3, 0)
  | n + 1 => (2, (n : Int))
theorem rv_eq {r : Int} (h : 0 ≤ r) : rv r = if r = 0 then (3, 0) else (2, r - 1) := by
  obtain ⟨n, rfl⟩ := Int.eq_ofNat_of_zero_le h
  cases n with
  | zero => rfl
  | succ n =>
    have h1 : rv ((n + 1 : Nat) : Int) = (2, (n : Int)) := rfl
    rw [h1, if_neg (by omega)]
    congr 1
    omega
/-- cells -/
def effD (LY : Lay) (al : GG) (i : Ins) (ls stk : List AV) (h : Hp) (gg : GG) : Option (Nat × List AV × List AV × Hp × GG) :=
  let op := i.1; let nx := i.2.1; let a := i.2.2.1.headD 0; let b := i.2.2.1.tail.headD 0
  if op ≤ 77 then (match stk with
    | (0, x) :: r => if 0 ≤ x ∧ LY h.2.2.1 = (a, x.toNat) ∧ gg.1 + 1 ≤ al.1 ∧ gg.2 + x.toNat ≤ al.2 then some (nx, ls, (2, (h.2.2.1 : Int)) :: r, (h.1, h.2.1, h.2.2.1 + 1, h.2.2.2), (gg.1 + 1, gg.2 + x.toNat)) else none
    | _ => none)
  else if op = 78 then (if (LY h.2.2.1).1 = a ∧ gg.1 + 1 ≤ al.1 ∧ gg.2 + (LY h.2.2.1).2 ≤ al.2 then some (nx, ls, (2, (h.2.2.1 : Int)) :: stk, (h.1, h.2.1, h.2.2.1 + 1, h.2.2.2), (gg.1 + 1, gg.2 + (LY h.2.2.1).2)) else none)
  else if op = 79 then (match stk with
    | (0, y) :: (0, x) :: r => if r.length ≤ 4 then some (nx, ls, (0, if x < y then y else x) :: r, h, gg) else none
    | _ => none)
  else if op = 89 then (match stk with
    | (0, y) :: (0, x) :: r => if r.length ≤ 4 then some (nx, ls, (0, if y < x then y else x) :: r, h, gg) else none
    | _ => none)
  else if op = 98 then (match stk with
    | (0, x) :: r => if r.length ≤ 4 then some (nx, ls, (0, if 0 ≤ x then x else w32 (0 - x)) :: r, h, gg) else none
    | _ => none)
  else if op = 80 then (match stk with
    | (0, x) :: (2, q) :: r => if (LY q.toNat).1 = 20 ∧ 0 ≤ x ∧ x < ((LY q.toNat).2 : Int) then some (nx, ls, (0, h.1 q.toNat x.toNat) :: r, h, gg) else none
    | (0, x) :: (4, _) :: r => if 0 ≤ x ∧ x < (h.2.2.2.1 : Int) then some (nx, ls, (0, h.2.2.2.2 x.toNat) :: r, h, gg) else none
    | _ => none)
  else if op = 81 then (match stk with
    | (0, x) :: (2, q) :: r => if ((LY q.toNat).1 = 21 ∨ (LY q.toNat).1 = 22) ∧ 0 ≤ x ∧ x < ((LY q.toNat).2 : Int) then some (nx, ls, (0, h.1 q.toNat x.toNat) :: r, h, gg) else none
    | _ => none)
  else if op = 82 then (match stk with
    | (0, x) :: (2, q) :: r => if (LY q.toNat).1 = 23 ∧ 0 ≤ x ∧ x < ((LY q.toNat).2 : Int) then some (nx, ls, (1, h.1 q.toNat x.toNat) :: r, h, gg) else none
    | _ => none)
  else if op = 83 then (match stk with
    | (0, x) :: (2, q) :: r => if (LY q.toNat).1 = 24 ∧ 0 ≤ x ∧ x < ((LY q.toNat).2 : Int) ∧ (rv (h.2.1 q.toNat x.toNat)).1 = 2 then some (nx, ls, rv (h.2.1 q.toNat x.toNat) :: r, h, gg) else none
    | _ => none)
  else if op = 84 then (match stk with
    | (0, v) :: (0, x) :: (2, q) :: r => if (LY q.toNat).1 = 20 ∧ 0 ≤ x ∧ x < ((LY q.toNat).2 : Int) then some (nx, ls, r, (up2 h.1 q.toNat x.toNat v, h.2), gg) else none
    | _ => none)
  else if op = 85 then (match stk with
    | (0, v) :: (0, x) :: (2, q) :: r => if 0 ≤ x ∧ x < ((LY q.toNat).2 : Int) then (if (LY q.toNat).1 = 21 then some (nx, ls, r, (up2 h.1 q.toNat x.toNat (Int.bmod v 256), h.2), gg) else if (LY q.toNat).1 = 22 ∧ (v = 0 ∨ v = 1) then some (nx, ls, r, (up2 h.1 q.toNat x.toNat v, h.2), gg) else none) else none
    | _ => none)
  else if op = 86 then (match stk with
    | (1, v) :: (0, x) :: (2, q) :: r => if (LY q.toNat).1 = 23 ∧ 0 ≤ x ∧ x < ((LY q.toNat).2 : Int) then some (nx, ls, r, (up2 h.1 q.toNat x.toNat v, h.2), gg) else none
    | _ => none)
  else if op = 87 then (match stk with
    | (2, v) :: (0, x) :: (2, q) :: r => if (LY q.toNat).1 = 24 ∧ (LY v.toNat).1 = b ∧ 0 ≤ x ∧ x < ((LY q.toNat).2 : Int) then some (nx, ls, r, (h.1, up2 h.2.1 q.toNat x.toNat (v + 1), h.2.2), gg) else none
    | _ => none)
  else if op = 88 then (match stk with
    | (2, q) :: r => if 20 ≤ (LY q.toNat).1 ∧ (LY q.toNat).1 ≤ 24 then some (nx, ls, (0, ((LY q.toNat).2 : Int)) :: r, h, gg) else none
    | (4, _) :: r => some (nx, ls, (0, (h.2.2.2.1 : Int)) :: r, h, gg)
    | _ => none)
  else if op = 90 then (match stk with
    | (2, q) :: r => if (LY q.toNat).1 = a then some (nx, ls, (0, h.1 q.toNat b) :: r, h, gg) else none
    | _ => none)
  else if op = 91 then (match stk with
    | (2, q) :: r => if (LY q.toNat).1 = a then some (nx, ls, rv (h.2.1 q.toNat b) :: r, h, gg) else none
    | _ => none)
  else if op = 92 then (match stk with
    | (0, v) :: (2, q) :: r => if (LY q.toNat).1 = a then some (nx, ls, r, (up2 h.1 q.toNat b v, h.2), gg) else none
    | _ => none)
  else if op = 93 then (match stk with
    | (2, v) :: (2, q) :: r => if (LY q.toNat).1 = a then some (nx, ls, r, (h.1, up2 h.2.1 q.toNat b (v + 1), h.2.2), gg) else none
    | _ => none)
  else if op = 94 then (match stk with
    | (0, v) :: (2, q) :: r => if (LY q.toNat).1 = a ∧ (v = 0 ∨ v = 1) then some (nx, ls, r, (up2 h.1 q.toNat b v, h.2), gg) else none
    | _ => none)
  else if op = 95 then (match stk with
    | (2, _) :: r => if r.length ≤ 4 then some (nx, ls, r, h, gg) else none
    | _ => none)
  else if op = 96 then (match stk with
    | (0, n) :: (0, dp) :: (2, q) :: (0, sp) :: (2, p) :: r => if ((LY p.toNat).1 = 20 ∨ (LY p.toNat).1 = 21) ∧ (LY q.toNat).1 = (LY p.toNat).1 ∧ 0 ≤ sp ∧ 0 ≤ dp ∧ 0 ≤ n ∧ sp + n ≤ ((LY p.toNat).2 : Int) ∧ dp + n ≤ ((LY q.toNat).2 : Int) ∧ r.length ≤ 4 then some (nx, ls, r, (cp2 h.1 p.toNat sp.toNat q.toNat dp.toNat n.toNat, h.2), gg) else none
    | _ => none)
  else if op = 97 then (match stk with
    | (0, x) :: (5, _) :: r => if r.length ≤ 4 ∧ 0 ≤ x ∧ x < 256 then some (nx, ls, (0, idxOf i.2.2.2 0 x) :: r, h, gg) else none
    | _ => none)
  else none
def eff (LY : Lay) (al : GG) (i : Ins) (ls stk : List AV) (h : Hp) (gg : GG) : Option (Nat × List AV × List AV × Hp × GG) :=
  if i.1 < 30 then effA i ls stk h gg else if i.1 < 60 then effB i ls stk h gg else if i.1 < 76 then effC i ls stk h gg else effD LY al i ls stk h gg
/-- what the program is: how cells lie; its code, by method and place; a method's room for new cells and their places; its locals; its class (50: static; 60: a constructor); what it returns (0 nothing, 1 an int, 2 a boolean, 3 a long) -/
abbrev Prg : Type := Lay × (Nat → Nat → Ins) × (Nat → GG) × (Nat → Nat) × (Nat → Nat) × (Nat → Nat)
abbrev Cal : Type := Nat → List AV → Hp → Option Res
abbrev Kon : Type := Nat → List AV → List AV → Hp → GG → Option Res
def goRet (P : Prg) (m : Nat) (i : Ins) (stk : List AV) (h : Hp) : Option Res :=
  if i.1 = 110 then (match stk with
    | [(0, x)] => if P.2.2.2.2.2 m = 2 then (if x = 0 ∨ x = 1 then some (some (0, x), h) else none) else some (some (0, x), h)
    | _ => none)
  else if i.1 = 111 then (match stk with
    | [(1, x)] => some (some (1, x), h)
    | _ => none)
  else (match stk with
    | [] => some (none, h)
    | _ => none)
def rcv (LY : Lay) (c : Nat) (as : List AV) : Bool := if c = 50 then true else match as with
  | (2, q) :: _ => if c = 60 then true else decide ((LY q.toNat).1 = c)
  | _ => false
/-- how many places the arguments take -/
def argw : List AV → Nat
  | [] => 0
  | v :: l => (if v.1 = 1 then 2 else 1) + argw l
def goCall (P : Prg) (C : Cal) (k : Kon) (m : Nat) (i : Ins) (ls stk : List AV) (h : Hp) (gg : GG) : Option Res :=
  let c := i.2.2.1.headD 0; let na := i.2.2.1.tail.headD 0
  match tk na [] stk with
  | some (as, r) => (match (if rcv P.1 (P.2.2.2.2.1 c) as = true ∧ argw as ≤ P.2.2.2.1 c ∧ r.length ≤ 4 ∧ gg.1 + (P.2.2.1 c).1 ≤ (P.2.2.1 m).1 ∧ gg.2 + (P.2.2.1 c).2 ≤ (P.2.2.1 m).2 then C c as h else none) with
    | some (v, h') => k i.2.1 ls (v.toList ++ r) h' (gg.1 + (P.2.2.1 c).1, gg.2 + (P.2.2.1 c).2)
    | none => none)
  | none => none
def go (P : Prg) (C : Cal) (k : Kon) (m : Nat) (i : Ins) (ls stk : List AV) (h : Hp) (gg : GG) : Option Res :=
  if i.1 < 100 then (match eff P.1 (P.2.2.1 m) i ls stk h gg with
    | some r => k r.1 r.2.1 r.2.2.1 r.2.2.2.1 r.2.2.2.2
    | none => none)
  else if i.1 < 110 then goCall P C k m i ls stk h gg
  else goRet P m i stk h
def run (P : Prg) (C : Cal) : Nat → Nat → Kon
  | 0, _ => fun _ _ _ _ _ => none
  | n + 1, m => fun pc ls stk h gg => go P C (run P C n m) m (P.2.1 m pc) ls stk h gg
noncomputable def Run (P : Prg) (C : Cal) (m : Nat) : Kon := fun pc ls stk h gg =>
  @dite (Option Res) (∃ x n, run P C n m pc ls stk h gg = some x) (Classical.propDecidable _) (fun hx => some hx.choose) (fun _ => none)
noncomputable def Call (P : Prg) : Nat → Cal
  | 0 => fun _ _ _ => none
  | d + 1 => fun m as h => Run P (Call P d) m 0 (ent (P.2.2.2.1 m) as) [] h (0, 0)
/-- what k says is used at one place at most -/
theorem go_local (P : Prg) (C : Cal) (m : Nat) (i : Ins) (ls stk : List AV) (h : Hp) (gg : GG) : (∃ r : Option Res, ∀ k, go P C k m i ls stk h gg = r) ∨ (∃ pc ls' stk' h' gg', ∀ k : Kon, go P C k m i ls stk h gg = k pc ls' stk' h' gg') := by
  unfold go
  split
  · cases eff P.1 (P.2.2.1 m) i ls stk h gg with
    | none => exact Or.inl ⟨none, fun _ => rfl⟩
    | some r => exact Or.inr ⟨_, _, _, _, _, fun _ => rfl⟩
  · split
    · unfold goCall
      dsimp only
      cases tk (i.2.2.1.tail.headD 0) [] stk with
      | none => exact Or.inl ⟨none, fun _ => rfl⟩
      | some q =>
        obtain ⟨as, r⟩ := q
        dsimp only
        generalize (if rcv P.1 (P.2.2.2.2.1 (i.2.2.1.headD 0)) as = true ∧ argw as ≤ P.2.2.2.1 (i.2.2.1.headD 0) ∧ r.length ≤ 4 ∧ gg.1 + (P.2.2.1 (i.2.2.1.headD 0)).1 ≤ (P.2.2.1 m).1 ∧ gg.2 + (P.2.2.1 (i.2.2.1.headD 0)).2 ≤ (P.2.2.1 m).2 then C (i.2.2.1.headD 0) as h else none) = z
        cases z with
        | none => exact Or.inl ⟨none, fun _ => rfl⟩
        | some q => exact Or.inr ⟨_, _, _, _, _, fun _ => rfl⟩
    · exact Or.inl ⟨_, fun _ => rfl⟩
theorem run_up {P : Prg} {C : Cal} {m : Nat} : ∀ {n pc ls stk h gg x}, run P C n m pc ls stk h gg = some x → run P C (n + 1) m pc ls stk h gg = some x := by
  intro n
  induction n with
  | zero => intro pc ls stk h gg x hx; cases hx
  | succ n ih =>
    intro pc ls stk h gg x hx
    show go P C (run P C (n + 1) m) m (P.2.1 m pc) ls stk h gg = some x
    have hx' : go P C (run P C n m) m (P.2.1 m pc) ls stk h gg = some x := hx
    rcases go_local P C m (P.2.1 m pc) ls stk h gg with ⟨r, hr⟩ | ⟨pc', ls', stk', h', gg', hr⟩
    · rw [hr] at hx' ⊢; exact hx'
    · rw [hr] at hx' ⊢; exact ih hx'
theorem run_le {P : Prg} {C : Cal} {m : Nat} {n n' pc ls stk h gg x} (hn : n ≤ n') (hx : run P C n m pc ls stk h gg = some x) : run P C n' m pc ls stk h gg = some x := by
  induction hn with
  | refl => exact hx
  | step _ ih => exact run_up ih
theorem run_det {P : Prg} {C : Cal} {m : Nat} {n n' pc ls stk h gg x y} (hx : run P C n m pc ls stk h gg = some x) (hy : run P C n' m pc ls stk h gg = some y) : x = y := by
  have h1 := run_le (Nat.le_max_left n n') hx
  have h2 := run_le (Nat.le_max_right n n') hy
  rw [h1] at h2
  exact Option.some.inj h2
theorem Run_of {P : Prg} {C : Cal} {m : Nat} {n pc ls stk h gg x} (hx : run P C n m pc ls stk h gg = some x) : Run P C m pc ls stk h gg = some x := by
  unfold Run
  have he : ∃ x n, run P C n m pc ls stk h gg = some x := ⟨x, n, hx⟩
  rw [dif_pos he]
  obtain ⟨n', hn'⟩ := he.choose_spec
  rw [run_det hn' hx]
theorem Run_to {P : Prg} {C : Cal} {m : Nat} {pc ls stk h gg x} (hx : Run P C m pc ls stk h gg = some x) : ∃ n, run P C n m pc ls stk h gg = some x := by
  unfold Run at hx
  by_cases he : ∃ x n, run P C n m pc ls stk h gg = some x
  · rw [dif_pos he] at hx
    rw [← Option.some.inj hx]
    exact he.choose_spec
  · rw [dif_neg he] at hx; cases hx
/-- THE STEP -/
theorem Run_eq (P : Prg) (C : Cal) (m pc : Nat) (ls stk : List AV) (h : Hp) (gg : GG) : Run P C m pc ls stk h gg = go P C (Run P C m) m (P.2.1 m pc) ls stk h gg := by
  have key : ∀ x, Run P C m pc ls stk h gg = some x ↔ go P C (Run P C m) m (P.2.1 m pc) ls stk h gg = some x := by
    intro x
    constructor
    · intro hx
      obtain ⟨n, hn⟩ := Run_to hx
      cases n with
      | zero => cases hn
      | succ n =>
        have hn' : go P C (run P C n m) m (P.2.1 m pc) ls stk h gg = some x := hn
        rcases go_local P C m (P.2.1 m pc) ls stk h gg with ⟨r, hr⟩ | ⟨pc', ls', stk', h', gg', hr⟩
        · rw [hr] at hn' ⊢; exact hn'
        · rw [hr] at hn' ⊢; exact Run_of hn'
    · intro hx
      rcases go_local P C m (P.2.1 m pc) ls stk h gg with ⟨r, hr⟩ | ⟨pc', ls', stk', h', gg', hr⟩
      · rw [hr] at hx
        exact Run_of (n := 1) (by show go P C (run P C 0 m) m (P.2.1 m pc) ls stk h gg = some x; rw [hr]; exact hx)
      · rw [hr] at hx
        obtain ⟨n, hn⟩ := Run_to hx
        exact Run_of (n := n + 1) (by show go P C (run P C n m) m (P.2.1 m pc) ls stk h gg = some x; rw [hr]; exact hn)
  cases h1 : go P C (Run P C m) m (P.2.1 m pc) ls stk h gg with
  | some x => exact (key x).mpr h1
  | none =>
    cases h2 : Run P C m pc ls stk h gg with
    | none => rfl
    | some x => rw [(key x).mp h2] at h1; cases h1
