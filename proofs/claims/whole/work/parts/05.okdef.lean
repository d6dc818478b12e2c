/-! what is checked of each instruction of the small machine against the bytes -/
def okA (o : Nat) (cc : ByteArray) (pc : Nat) (i : Ins) : Bool :=
  let op := i.1; let nx := i.2.1; let a := i.2.2.1.headD 0; let v := i.2.2.2.headD 0
  if op = 1 then decide (decode cc pc = .ok (.iconst v, 1) ∧ nx = pc + 1 ∧ -2147483648 ≤ v ∧ v < 2147483648)
  else if op = 2 then decide (decode cc pc = .ok (.bipush v, 2) ∧ nx = pc + 2 ∧ (Int8.ofInt v).toInt32 = Int32.ofInt v ∧ -2147483648 ≤ v ∧ v < 2147483648)
  else if op = 3 then decide (decode cc pc = .ok (.sipush v, 3) ∧ nx = pc + 3 ∧ (Int16.ofInt v).toInt32 = Int32.ofInt v ∧ -2147483648 ≤ v ∧ v < 2147483648)
  else if op = 4 then decide (decode cc pc = .ok (.ldc (KT.getD a (0, 0, 0, 0)).2.1, 2) ∧ nx = pc + 2 ∧ a < KT.length ∧ (KT.getD a (0, 0, 0, 0)).1 = o ∧ (KT.getD a (0, 0, 0, 0)).2.2.1 = v ∧ -2147483648 ≤ v ∧ v < 2147483648)
  else if op = 5 then decide (decode cc pc = .ok (.ldc_w (KT.getD a (0, 0, 0, 0)).2.1, 3) ∧ nx = pc + 3 ∧ a < KT.length ∧ (KT.getD a (0, 0, 0, 0)).1 = o ∧ (KT.getD a (0, 0, 0, 0)).2.2.1 = v ∧ -2147483648 ≤ v ∧ v < 2147483648)
  else if op = 6 then decide (nx = pc + 1 ∧ ((decode cc pc = .ok (.lconst 0, 1) ∧ v = 0) ∨ (decode cc pc = .ok (.lconst 1, 1) ∧ v = 1)))
  else if op = 7 then decide (decode cc pc = .ok (.ldc2_w (KL.getD a (0, 0, 0, 0)).2.1, 3) ∧ nx = pc + 3 ∧ a < KL.length ∧ (KL.getD a (0, 0, 0, 0)).1 = o ∧ (KL.getD a (0, 0, 0, 0)).2.2.1 = v ∧ -9223372036854775808 ≤ v ∧ v < 9223372036854775808)
  else if op = 8 then decide (decode cc pc = .ok (.ldc 121, 2) ∧ nx = pc + 2 ∧ o = 4)
  else if op = 10 then decide (decode cc pc = .ok (.iload a, 2) ∧ nx = pc + 2)
  else if op = 11 then decide (decode cc pc = .ok (.iload_n (Fin.ofNat 4 a), 1) ∧ nx = pc + 1 ∧ a < 4)
  else if op = 12 then decide (decode cc pc = .ok (.lload a, 2) ∧ nx = pc + 2)
  else if op = 13 then decide (decode cc pc = .ok (.lload_n (Fin.ofNat 4 a), 1) ∧ nx = pc + 1 ∧ a < 4)
  else if op = 14 then decide (decode cc pc = .ok (.aload a, 2) ∧ nx = pc + 2)
  else if op = 15 then decide (decode cc pc = .ok (.aload_n (Fin.ofNat 4 a), 1) ∧ nx = pc + 1 ∧ a < 4)
  else if op = 16 then decide (decode cc pc = .ok (.istore a, 2) ∧ nx = pc + 2)
  else if op = 17 then decide (decode cc pc = .ok (.istore_n (Fin.ofNat 4 a), 1) ∧ nx = pc + 1 ∧ a < 4)
  else if op = 18 then decide (decode cc pc = .ok (.lstore a, 2) ∧ nx = pc + 2)
  else if op = 19 then decide (decode cc pc = .ok (.lstore_n (Fin.ofNat 4 a), 1) ∧ nx = pc + 1 ∧ a < 4)
  else if op = 20 then decide (decode cc pc = .ok (.astore a, 2) ∧ nx = pc + 2)
  else if op = 21 then decide (decode cc pc = .ok (.astore_n (Fin.ofNat 4 a), 1) ∧ nx = pc + 1 ∧ a < 4)
  else if op = 22 then decide (decode cc pc = .ok (.iinc a v, 3) ∧ nx = pc + 3)
  else false
def okB (cc : ByteArray) (pc : Nat) (i : Ins) : Bool :=
  let op := i.1
  decide (i.2.1 = pc + 1) && (
  if op = 30 then decide (decode cc pc = .ok (.iadd, 1))
  else if op = 31 then decide (decode cc pc = .ok (.isub, 1))
  else if op = 32 then decide (decode cc pc = .ok (.imul, 1))
  else if op = 33 then decide (decode cc pc = .ok (.idiv, 1))
  else if op = 34 then decide (decode cc pc = .ok (.irem, 1))
  else if op = 35 then decide (decode cc pc = .ok (.ineg, 1))
  else if op = 36 then decide (decode cc pc = .ok (.ishl, 1))
  else if op = 37 then decide (decode cc pc = .ok (.ishr, 1))
  else if op = 38 then decide (decode cc pc = .ok (.iushr, 1))
  else if op = 39 then decide (decode cc pc = .ok (.iand, 1))
  else if op = 40 then decide (decode cc pc = .ok (.ior, 1))
  else if op = 41 then decide (decode cc pc = .ok (.ixor, 1))
  else if op = 42 then decide (decode cc pc = .ok (.i2l, 1))
  else if op = 43 then decide (decode cc pc = .ok (.l2i, 1))
  else if op = 44 then decide (decode cc pc = .ok (.i2b, 1))
  else if op = 45 then decide (decode cc pc = .ok (.i2c, 1))
  else if op = 46 then decide (decode cc pc = .ok (.ladd, 1))
  else if op = 47 then decide (decode cc pc = .ok (.lsub, 1))
  else if op = 48 then decide (decode cc pc = .ok (.lmul, 1))
  else if op = 49 then decide (decode cc pc = .ok (.ldiv, 1))
  else if op = 50 then decide (decode cc pc = .ok (.lrem, 1))
  else if op = 51 then decide (decode cc pc = .ok (.lcmp, 1))
  else if op = 52 then decide (decode cc pc = .ok (.land, 1))
  else if op = 53 then decide (decode cc pc = .ok (.lor, 1))
  else if op = 54 then decide (decode cc pc = .ok (.lshl, 1))
  else if op = 55 then decide (decode cc pc = .ok (.lshr, 1))
  else if op = 56 then decide (decode cc pc = .ok (.dup, 1))
  else if op = 57 then decide (decode cc pc = .ok (.dup2, 1))
  else if op = 58 then decide (decode cc pc = .ok (.pop, 1))
  else false)
def okC (cc : ByteArray) (pc : Nat) (i : Ins) : Bool :=
  let op := i.1; let nx := i.2.1; let t := i.2.2.1.headD 0
  if op = 60 then decide (decode cc pc = .ok (.ifCond .eq ((t : Int) - pc), 3) ∧ nx = pc + 3)
  else if op = 61 then decide (decode cc pc = .ok (.ifCond .ne ((t : Int) - pc), 3) ∧ nx = pc + 3)
  else if op = 62 then decide (decode cc pc = .ok (.ifCond .lt ((t : Int) - pc), 3) ∧ nx = pc + 3)
  else if op = 63 then decide (decode cc pc = .ok (.ifCond .ge ((t : Int) - pc), 3) ∧ nx = pc + 3)
  else if op = 64 then decide (decode cc pc = .ok (.ifCond .gt ((t : Int) - pc), 3) ∧ nx = pc + 3)
  else if op = 65 then decide (decode cc pc = .ok (.ifCond .le ((t : Int) - pc), 3) ∧ nx = pc + 3)
  else if op = 66 then decide (decode cc pc = .ok (.if_icmp .eq ((t : Int) - pc), 3) ∧ nx = pc + 3)
  else if op = 67 then decide (decode cc pc = .ok (.if_icmp .ne ((t : Int) - pc), 3) ∧ nx = pc + 3)
  else if op = 68 then decide (decode cc pc = .ok (.if_icmp .lt ((t : Int) - pc), 3) ∧ nx = pc + 3)
  else if op = 69 then decide (decode cc pc = .ok (.if_icmp .ge ((t : Int) - pc), 3) ∧ nx = pc + 3)
  else if op = 70 then decide (decode cc pc = .ok (.if_icmp .gt ((t : Int) - pc), 3) ∧ nx = pc + 3)
  else if op = 71 then decide (decode cc pc = .ok (.if_icmp .le ((t : Int) - pc), 3) ∧ nx = pc + 3)
  else if op = 72 then decide (decode cc pc = .ok (.ifnull ((t : Int) - pc), 3) ∧ nx = pc + 3)
  else if op = 73 then decide (decode cc pc = .ok (.goto ((t : Int) - pc), 3))
  else if op = 74 then (match decode cc pc with
    | .ok (.tableswitch d lo hi offs, _) => decide ((pc : Int) + d = t ∧ hi + 1 = lo + offs.size ∧ i.2.2.2 = (List.range offs.size).map (fun (j : Nat) => lo + (j : Int)) ∧ offs.toList = i.2.2.1.tail.map (fun (u : Nat) => (u : Int) - pc))
    | _ => false)
  else if op = 75 then (match decode cc pc with
    | .ok (.lookupswitch d ps, _) => decide ((pc : Int) + d = t ∧ ps.toList = i.2.2.2.zip (i.2.2.1.tail.map (fun (u : Nat) => (u : Int) - pc)) ∧ i.2.2.2.length = i.2.2.1.tail.length ∧ (ps.toList.zip (ps.toList.drop 1)).all (fun (a, next) => a.1 < next.1) = true)
    | _ => false)
  else false
def okD (o : Nat) (ini : Bool) (cc : ByteArray) (pc : Nat) (i : Ins) : Bool :=
  let op := i.1; let nx := i.2.1; let a := i.2.2.1.headD 0; let b := i.2.2.1.tail.headD 0; let e := i.2.2.1.tail.tail.headD 0
  if op = 76 then decide (nx = pc + 2 ∧ ((a = 20 ∧ decode cc pc = .ok (.newarray .int, 2)) ∨ (a = 21 ∧ decode cc pc = .ok (.newarray .byte, 2)) ∨ (a = 22 ∧ decode cc pc = .ok (.newarray .boolean, 2)) ∨ (a = 23 ∧ decode cc pc = .ok (.newarray .long, 2))))
  else if op = 77 then decide (nx = pc + 3 ∧ a = 24 ∧ b < CT.length ∧ decode cc pc = .ok (.anewarray (CT.getD b (0, 0, 0, 0)).2.1, 3) ∧ (CT.getD b (0, 0, 0, 0)).1 = o ∧ (CT.getD b (0, 0, 0, 0)).2.2.1 = 3)
  else if op = 78 then decide (nx = pc + 3 ∧ b < CT.length ∧ decode cc pc = .ok (.new (CT.getD b (0, 0, 0, 0)).2.1, 3) ∧ (CT.getD b (0, 0, 0, 0)).1 = o ∧ (CT.getD b (0, 0, 0, 0)).2.2.1 = a)
  else if op = 80 then decide (decode cc pc = .ok (.iaload, 1) ∧ nx = pc + 1)
  else if op = 81 then decide (decode cc pc = .ok (.baload, 1) ∧ nx = pc + 1)
  else if op = 82 then decide (decode cc pc = .ok (.laload, 1) ∧ nx = pc + 1)
  else if op = 83 then decide (decode cc pc = .ok (.aaload, 1) ∧ nx = pc + 1)
  else if op = 84 then decide (decode cc pc = .ok (.iastore, 1) ∧ nx = pc + 1)
  else if op = 85 then decide (decode cc pc = .ok (.bastore, 1) ∧ nx = pc + 1)
  else if op = 86 then decide (decode cc pc = .ok (.lastore, 1) ∧ nx = pc + 1)
  else if op = 87 then decide (decode cc pc = .ok (.aastore, 1) ∧ nx = pc + 1 ∧ b = 3)
  else if op = 88 then decide (decode cc pc = .ok (.arraylength, 1) ∧ nx = pc + 1)
  else if op = 90 then decide (nx = pc + 3 ∧ e < FT.length ∧ decode cc pc = .ok (.getfield (FT.getD e (0, 0, 0, 0, 0)).2.1, 3) ∧ (FT.getD e (0, 0, 0, 0, 0)).1 = o ∧ (FT.getD e (0, 0, 0, 0, 0)).2.2.1 = a ∧ (FT.getD e (0, 0, 0, 0, 0)).2.2.2.1 = b ∧ FTY a b ≠ 1)
  else if op = 91 then decide (nx = pc + 3 ∧ e < FT.length ∧ decode cc pc = .ok (.getfield (FT.getD e (0, 0, 0, 0, 0)).2.1, 3) ∧ (FT.getD e (0, 0, 0, 0, 0)).1 = o ∧ (FT.getD e (0, 0, 0, 0, 0)).2.2.1 = a ∧ (FT.getD e (0, 0, 0, 0, 0)).2.2.2.1 = b ∧ FTY a b = 1)
  else if op = 92 then decide (nx = pc + 3 ∧ e < FT.length ∧ decode cc pc = .ok (.putfield (FT.getD e (0, 0, 0, 0, 0)).2.1, 3) ∧ (FT.getD e (0, 0, 0, 0, 0)).1 = o ∧ (FT.getD e (0, 0, 0, 0, 0)).2.2.1 = a ∧ (FT.getD e (0, 0, 0, 0, 0)).2.2.2.1 = b ∧ FTY a b = 0 ∧ (cF a b).2.2.2 = false)
  else if op = 93 then decide (nx = pc + 3 ∧ e < FT.length ∧ decode cc pc = .ok (.putfield (FT.getD e (0, 0, 0, 0, 0)).2.1, 3) ∧ (FT.getD e (0, 0, 0, 0, 0)).1 = o ∧ (FT.getD e (0, 0, 0, 0, 0)).2.2.1 = a ∧ (FT.getD e (0, 0, 0, 0, 0)).2.2.2.1 = b ∧ FTY a b = 1 ∧ ((cF a b).2.2.2 = false ∨ (ini = true ∧ a = o)))
  else if op = 94 then decide (nx = pc + 3 ∧ e < FT.length ∧ decode cc pc = .ok (.putfield (FT.getD e (0, 0, 0, 0, 0)).2.1, 3) ∧ (FT.getD e (0, 0, 0, 0, 0)).1 = o ∧ (FT.getD e (0, 0, 0, 0, 0)).2.2.1 = a ∧ (FT.getD e (0, 0, 0, 0, 0)).2.2.2.1 = b ∧ FTY a b = 2 ∧ (cF a b).2.2.2 = false)
  else if op = 95 then decide (nx = pc + 3 ∧ decode cc pc = .ok (.invokespecial a, 3)) && OT.any (fun q => q.1 == o && q.2.1 == a)
  else if op = 96 then decide (nx = pc + 3 ∧ decode cc pc = .ok (.invokestatic a, 3)) && AT.any (fun q => q.1 == o && q.2.1 == a)
  else if op = 79 ∨ op = 89 ∨ op = 98 then decide (nx = pc + 3 ∧ decode cc pc = .ok (.invokestatic a, 3)) && XT.any (fun q => q.1 == o && (q.2.1 == a && q.2.2.1 == op))
  else if op = 97 then decide (nx = pc + 3 ∧ decode cc pc = .ok (.invokevirtual a, 3) ∧ o = 4 ∧ i.2.2.2 = [115, 100, 103, 109, 98, 97, 111, 119, 108, 104, 121, 113])
  else false
/-- calls: ML has (owner, pool entry, method, of a nest mate, place in the tables) -/
def okE (ML : List (Nat × Nat × Nat × Nat × Nat)) (np cl : Nat → Nat) (o : Nat) (cc : ByteArray) (pc : Nat) (i : Ins) : Bool :=
  let op := i.1; let a := i.2.2.1.headD 0; let b := i.2.2.1.tail.headD 0; let e := i.2.2.1.tail.tail.headD 0
  let q := ML.getD e (0, 0, 0, 0, 0)
  decide (i.2.1 = pc + 3 ∧ e < ML.length ∧ q.1 = o ∧ q.2.2.1 = a) && (
  if op = 100 then decide (decode cc pc = .ok (.invokevirtual q.2.1, 3) ∧ q.2.2.2.1 = 0 ∧ cl a < 13 ∧ b = np a + 1)
  else if op = 102 then decide (decode cc pc = .ok (.invokestatic q.2.1, 3) ∧ q.2.2.2.1 = 0 ∧ cl a = 50 ∧ b = np a)
  else if op = 103 then decide (decode cc pc = .ok (.invokestatic q.2.1, 3) ∧ q.2.2.2.1 = 1 ∧ cl a = 50 ∧ b = np a)
  else if op = 104 then decide (decode cc pc = .ok (.invokespecial q.2.1, 3) ∧ q.2.2.2.1 = 0 ∧ cl a = 60 ∧ b = np a + 1)
  else if op = 105 then decide (decode cc pc = .ok (.invokespecial q.2.1, 3) ∧ q.2.2.2.1 = 1 ∧ cl a = 60 ∧ b = np a + 1)
  else false)
def okF (rt : Nat) (cc : ByteArray) (pc : Nat) (i : Ins) : Bool :=
  let op := i.1
  if op = 110 then decide (decode cc pc = .ok (.ireturn, 1) ∧ (rt = 1 ∨ rt = 2))
  else if op = 111 then decide (decode cc pc = .ok (.lreturn, 1) ∧ rt = 3)
  else if op = 112 then decide (decode cc pc = .ok (.return_, 1) ∧ rt = 0)
  else false
def okI (ML : List (Nat × Nat × Nat × Nat × Nat)) (np cl : Nat → Nat) (rt o : Nat) (ini : Bool) (cc : ByteArray) (pc : Nat) (i : Ins) : Bool :=
  if i.1 < 30 then okA o cc pc i else if i.1 < 60 then okB cc pc i else if i.1 < 76 then okC cc pc i else if i.1 < 100 then okD o ini cc pc i else if i.1 < 110 then okE ML np cl o cc pc i else okF rt cc pc i
/-- a method: name, bytes, locals, what it returns (as the tables say), owner, class, what it returns, room for cells, parameters, places of its words, code -/
abbrev MTy : Type := MethodName × ByteArray × Nat × Option FieldType × Nat × Nat × Nat × GG × Nat × List Nat × List (Nat × Ins)
def lk : List (Nat × Ins) → Nat → Ins
  | [], _ => (99, 0, [], [])
  | (p, i) :: l, q => if p = q then i else lk l q
theorem lk_mem : ∀ {l : List (Nat × Ins)} {pc : Nat}, (lk l pc).1 ≠ 99 → (pc, lk l pc) ∈ l
  | [], _, h => absurd rfl h
  | (p, i) :: l, q, h => by
    unfold lk at h ⊢
    by_cases e : p = q
    · rw [if_pos e] at h ⊢; rw [e]; exact List.mem_cons_self
    · rw [if_neg e] at h ⊢; exact List.mem_cons_of_mem _ (lk_mem h)
/-- a store's place is a local's -/
def okS (nl : Nat) (i : Ins) : Bool := decide ((16 ≤ i.1 ∧ i.1 ≤ 22 → i.2.2.1.headD 0 < nl) ∧ (i.1 = 18 ∨ i.1 = 19 → i.2.2.1.headD 0 + 1 < nl))
