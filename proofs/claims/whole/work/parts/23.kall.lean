/-! a call is a run -/
theorem K_12 (d : Nat) (x1 : Int) (h : Hp) : Call PG (d + 1) 12 [(2, 0), (0, x1)] h = Run PG (Call PG d) 12 0 [(2, 0), (0, x1)] [] h (0, 0) := rfl
theorem K_13 (d : Nat) (x0 : Int) (x1 : Int) (x2 : Int) (h : Hp) : Call PG (d + 1) 13 [(0, x0), (0, x1), (0, x2)] h = Run PG (Call PG d) 13 0 [(0, x0), (0, x1), (0, x2)] [] h (0, 0) := rfl
theorem K_14 (d : Nat) (x1 : Int) (x2 : Int) (x3 : Int) (x4 : Int) (h : Hp) : Call PG (d + 1) 14 [(2, 0), (0, x1), (0, x2), (0, x3), (0, x4)] h = Run PG (Call PG d) 14 0 [(2, 0), (0, x1), (0, x2), (0, x3), (0, x4)] [] h (0, 0) := rfl
theorem K_15 (d : Nat) (x1 : Int) (x2 : Int) (x3 : Int) (x4 : Int) (h : Hp) : Call PG (d + 1) 15 [(2, 2), (0, x1), (0, x2), (0, x3), (0, x4)] h = Run PG (Call PG d) 15 0 [(2, 2), (0, x1), (0, x2), (0, x3), (0, x4)] [] h (0, 0) := rfl
theorem K_16 (d : Nat) (x1 : Int) (x2 : Int) (x3 : Int) (h : Hp) : Call PG (d + 1) 16 [(2, 0), (0, x1), (0, x2), (0, x3)] h = Run PG (Call PG d) 16 0 [(2, 0), (0, x1), (0, x2), (0, x3)] [] h (0, 0) := rfl
theorem K_17 (d : Nat) (x1 : Int) (x2 : Int) (x3 : Int) (h : Hp) : Call PG (d + 1) 17 [(2, 2), (0, x1), (0, x2), (0, x3)] h = Run PG (Call PG d) 17 0 [(2, 2), (0, x1), (0, x2), (0, x3)] [] h (0, 0) := rfl
theorem K_18 (d : Nat) (x1 : Int) (h : Hp) : Call PG (d + 1) 18 [(2, 2), (0, x1)] h = Run PG (Call PG d) 18 0 [(2, 2), (0, x1)] [] h (0, 0) := rfl
theorem K_19 (d : Nat) (x1 : Int) (x2 : Int) (h : Hp) : Call PG (d + 1) 19 [(2, 0), (0, x1), (0, x2)] h = Run PG (Call PG d) 19 0 [(2, 0), (0, x1), (0, x2)] [] h (0, 0) := rfl
theorem K_20 (d : Nat) (x1 : Int) (x2 : Int) (h : Hp) : Call PG (d + 1) 20 [(2, 55), (0, x1), (0, x2)] h = Run PG (Call PG d) 20 0 [(2, 55), (0, x1), (0, x2)] [] h (0, 0) := rfl
theorem K_21 (d : Nat) (x1 : Int) (x2 : Int) (x3 : Int) (x4 : Int) (x5 : Int) (h : Hp) : Call PG (d + 1) 21 [(2, 0), (0, x1), (0, x2), (0, x3), (0, x4), (0, x5)] h = Run PG (Call PG d) 21 0 [(2, 0), (0, x1), (0, x2), (0, x3), (0, x4), (0, x5)] [] h (0, 0) := rfl
theorem K_22 (d : Nat) (x1 : Int) (h : Hp) : Call PG (d + 1) 22 [(2, 0), (0, x1)] h = Run PG (Call PG d) 22 0 [(2, 0), (0, x1), (9, 0)] [] h (0, 0) := rfl
theorem K_23 (d : Nat) (x1 : Int) (x2 : Int) (x3 : Int) (x4 : Int) (h : Hp) : Call PG (d + 1) 23 [(2, 0), (0, x1), (0, x2), (0, x3), (0, x4)] h = Run PG (Call PG d) 23 0 [(2, 0), (0, x1), (0, x2), (0, x3), (0, x4)] [] h (0, 0) := rfl
theorem K_24 (d : Nat)  (h : Hp) : Call PG (d + 1) 24 [(2, 9)] h = Run PG (Call PG d) 24 0 [(2, 9)] [] h (0, 0) := rfl
theorem K_26 (d : Nat) (x0 : Nat) (x2 : Int) (h : Hp) : Call PG (d + 1) 26 [(2, ((x0 : Nat) : Int)), (2, 1), (0, x2)] h = Run PG (Call PG d) 26 0 [(2, ((x0 : Nat) : Int)), (2, 1), (0, x2)] [] h (0, 0) := rfl
theorem K_27 (d : Nat) (x1 : Nat) (h : Hp) : Call PG (d + 1) 27 [(2, 22), (2, ((x1 : Nat) : Int))] h = Run PG (Call PG d) 27 0 [(2, 22), (2, ((x1 : Nat) : Int)), (9, 0)] [] h (0, 0) := rfl
theorem K_28 (d : Nat) (x1 : Int) (h : Hp) : Call PG (d + 1) 28 [(2, 22), (0, x1)] h = Run PG (Call PG d) 28 0 [(2, 22), (0, x1), (9, 0)] [] h (0, 0) := rfl
theorem K_29 (d : Nat)  (h : Hp) : Call PG (d + 1) 29 [(2, 22)] h = Run PG (Call PG d) 29 0 [(2, 22)] [] h (0, 0) := rfl
theorem K_30 (d : Nat) (x1 : Int) (x2 : Int) (h : Hp) : Call PG (d + 1) 30 [(2, 22), (0, x1), (0, x2)] h = Run PG (Call PG d) 30 0 [(2, 22), (0, x1), (0, x2)] [] h (0, 0) := rfl
theorem K_31 (d : Nat) (x1 : Int) (h : Hp) : Call PG (d + 1) 31 [(2, 22), (0, x1)] h = Run PG (Call PG d) 31 0 [(2, 22), (0, x1)] [] h (0, 0) := rfl
theorem K_32 (d : Nat) (x1 : Int) (h : Hp) : Call PG (d + 1) 32 [(2, 22), (0, x1)] h = Run PG (Call PG d) 32 0 [(2, 22), (0, x1), (9, 0)] [] h (0, 0) := rfl
theorem K_33 (d : Nat)  (h : Hp) : Call PG (d + 1) 33 [(2, 22)] h = Run PG (Call PG d) 33 0 [(2, 22), (9, 0), (9, 0)] [] h (0, 0) := rfl
theorem K_34 (d : Nat) (x0 : Int) (h : Hp) : Call PG (d + 1) 34 [(0, x0)] h = Run PG (Call PG d) 34 0 [(0, x0)] [] h (0, 0) := rfl
theorem K_35 (d : Nat) (x1 : Int) (h : Hp) : Call PG (d + 1) 35 [(2, 22), (0, x1)] h = Run PG (Call PG d) 35 0 [(2, 22), (0, x1)] [] h (0, 0) := rfl
theorem K_36 (d : Nat) (x1 : Int) (h : Hp) : Call PG (d + 1) 36 [(2, 22), (0, x1)] h = Run PG (Call PG d) 36 0 [(2, 22), (0, x1), (9, 0), (9, 0)] [] h (0, 0) := rfl
theorem K_37 (d : Nat) (x1 : Int) (h : Hp) : Call PG (d + 1) 37 [(2, 22), (0, x1)] h = Run PG (Call PG d) 37 0 [(2, 22), (0, x1), (9, 0), (9, 0)] [] h (0, 0) := rfl
theorem K_38 (d : Nat) (x1 : Int) (h : Hp) : Call PG (d + 1) 38 [(2, 22), (0, x1)] h = Run PG (Call PG d) 38 0 [(2, 22), (0, x1), (9, 0), (9, 0)] [] h (0, 0) := rfl
theorem K_39 (d : Nat) (x1 : Int) (x2 : Int) (h : Hp) : Call PG (d + 1) 39 [(2, 22), (0, x1), (0, x2)] h = Run PG (Call PG d) 39 0 [(2, 22), (0, x1), (0, x2)] [] h (0, 0) := rfl
theorem K_40 (d : Nat) (x1 : Int) (h : Hp) : Call PG (d + 1) 40 [(2, 22), (0, x1)] h = Run PG (Call PG d) 40 0 [(2, 22), (0, x1), (9, 0), (9, 0)] [] h (0, 0) := rfl
theorem K_41 (d : Nat) (x1 : Int) (h : Hp) : Call PG (d + 1) 41 [(2, 22), (0, x1)] h = Run PG (Call PG d) 41 0 [(2, 22), (0, x1), (9, 0), (9, 0)] [] h (0, 0) := rfl
theorem K_42 (d : Nat) (x1 : Int) (h : Hp) : Call PG (d + 1) 42 [(2, 22), (0, x1)] h = Run PG (Call PG d) 42 0 [(2, 22), (0, x1), (9, 0), (9, 0)] [] h (0, 0) := rfl
theorem K_43 (d : Nat) (x1 : Int) (h : Hp) : Call PG (d + 1) 43 [(2, 22), (0, x1)] h = Run PG (Call PG d) 43 0 [(2, 22), (0, x1), (9, 0), (9, 0), (9, 0)] [] h (0, 0) := rfl
theorem K_44 (d : Nat) (x1 : Int) (x2 : Int) (h : Hp) : Call PG (d + 1) 44 [(2, 22), (0, x1), (0, x2)] h = Run PG (Call PG d) 44 0 [(2, 22), (0, x1), (0, x2)] [] h (0, 0) := rfl
theorem K_45 (d : Nat) (x1 : Int) (x2 : Int) (h : Hp) : Call PG (d + 1) 45 [(2, 0), (0, x1), (0, x2)] h = Run PG (Call PG d) 45 0 [(2, 0), (0, x1), (0, x2)] [] h (0, 0) := rfl
theorem K_46 (d : Nat) (x1 : Int) (h : Hp) : Call PG (d + 1) 46 [(2, 9), (0, x1)] h = Run PG (Call PG d) 46 0 [(2, 9), (0, x1)] [] h (0, 0) := rfl
theorem K_47 (d : Nat)  (h : Hp) : Call PG (d + 1) 47 [(2, 0)] h = Run PG (Call PG d) 47 0 [(2, 0)] [] h (0, 0) := rfl
theorem K_48 (d : Nat) (x1 : Int) (x2 : Int) (x3 : Int) (h : Hp) : Call PG (d + 1) 48 [(2, 9), (0, x1), (0, x2), (0, x3)] h = Run PG (Call PG d) 48 0 [(2, 9), (0, x1), (0, x2), (0, x3), (9, 0), (9, 0)] [] h (0, 0) := rfl
theorem K_49 (d : Nat) (x0 : Nat) (x1 : Int) (x2 : Int) (h : Hp) : Call PG (d + 1) 49 [(2, ((x0 : Nat) : Int)), (0, x1), (0, x2)] h = Run PG (Call PG d) 49 0 [(2, ((x0 : Nat) : Int)), (0, x1), (0, x2)] [] h (0, 0) := rfl
theorem K_50 (d : Nat) (x0 : Nat) (x1 : Int) (h : Hp) : Call PG (d + 1) 50 [(2, ((x0 : Nat) : Int)), (0, x1)] h = Run PG (Call PG d) 50 0 [(2, ((x0 : Nat) : Int)), (0, x1)] [] h (0, 0) := rfl
theorem K_51 (d : Nat) (x1 : Int) (x2 : Int) (h : Hp) : Call PG (d + 1) 51 [(2, 9), (0, x1), (0, x2)] h = Run PG (Call PG d) 51 0 [(2, 9), (0, x1), (0, x2), (9, 0), (9, 0), (9, 0)] [] h (0, 0) := rfl
theorem K_52 (d : Nat) (x0 : Nat) (x1 : Int) (h : Hp) : Call PG (d + 1) 52 [(2, ((x0 : Nat) : Int)), (0, x1)] h = Run PG (Call PG d) 52 0 [(2, ((x0 : Nat) : Int)), (0, x1)] [] h (0, 0) := rfl
theorem K_53 (d : Nat) (x1 : Int) (x2 : Int) (h : Hp) : Call PG (d + 1) 53 [(2, 9), (0, x1), (0, x2)] h = Run PG (Call PG d) 53 0 [(2, 9), (0, x1), (0, x2), (9, 0)] [] h (0, 0) := rfl
theorem K_54 (d : Nat) (x1 : Int) (x2 : Int) (x3 : Int) (h : Hp) : Call PG (d + 1) 54 [(2, 0), (0, x1), (0, x2), (0, x3)] h = Run PG (Call PG d) 54 0 [(2, 0), (0, x1), (0, x2), (0, x3)] [] h (0, 0) := rfl
theorem K_55 (d : Nat) (x1 : Int) (x2 : Int) (h : Hp) : Call PG (d + 1) 55 [(2, 9), (0, x1), (0, x2)] h = Run PG (Call PG d) 55 0 [(2, 9), (0, x1), (0, x2)] [] h (0, 0) := rfl
theorem K_56 (d : Nat) (x1 : Int) (h : Hp) : Call PG (d + 1) 56 [(2, 0), (0, x1)] h = Run PG (Call PG d) 56 0 [(2, 0), (0, x1), (9, 0)] [] h (0, 0) := rfl
theorem K_57 (d : Nat) (x1 : Int) (h : Hp) : Call PG (d + 1) 57 [(2, 9), (0, x1)] h = Run PG (Call PG d) 57 0 [(2, 9), (0, x1)] [] h (0, 0) := rfl
theorem K_58 (d : Nat) (x2 : Int) (h : Hp) : Call PG (d + 1) 58 [(2, 38), (2, 25), (0, x2)] h = Run PG (Call PG d) 58 0 [(2, 38), (2, 25), (0, x2)] [] h (0, 0) := rfl
theorem K_59 (d : Nat) (x2 : Int) (h : Hp) : Call PG (d + 1) 59 [(2, 38), (2, 25), (0, x2)] h = Run PG (Call PG d) 59 0 [(2, 38), (2, 25), (0, x2), (9, 0)] [] h (0, 0) := rfl
theorem K_60 (d : Nat) (x1 : Int) (h : Hp) : Call PG (d + 1) 60 [(2, 25), (0, x1)] h = Run PG (Call PG d) 60 0 [(2, 25), (0, x1)] [] h (0, 0) := rfl
theorem K_61 (d : Nat) (x1 : Int) (x2 : Int) (h : Hp) : Call PG (d + 1) 61 [(2, 25), (0, x1), (0, x2)] h = Run PG (Call PG d) 61 0 [(2, 25), (0, x1), (0, x2), (9, 0), (9, 0), (9, 0), (9, 0)] [] h (0, 0) := rfl
theorem K_62 (d : Nat) (x1 : Int) (h : Hp) : Call PG (d + 1) 62 [(2, 25), (0, x1)] h = Run PG (Call PG d) 62 0 [(2, 25), (0, x1)] [] h (0, 0) := rfl
theorem K_63 (d : Nat) (x2 : Int) (h : Hp) : Call PG (d + 1) 63 [(2, 38), (2, 25), (0, x2)] h = Run PG (Call PG d) 63 0 [(2, 38), (2, 25), (0, x2), (9, 0), (9, 0), (9, 0), (9, 0)] [] h (0, 0) := rfl
theorem K_64 (d : Nat) (x1 : Int) (x2 : Int) (h : Hp) : Call PG (d + 1) 64 [(2, 25), (0, x1), (0, x2)] h = Run PG (Call PG d) 64 0 [(2, 25), (0, x1), (0, x2)] [] h (0, 0) := rfl
theorem K_65 (d : Nat) (x2 : Int) (h : Hp) : Call PG (d + 1) 65 [(2, 38), (2, 25), (0, x2)] h = Run PG (Call PG d) 65 0 [(2, 38), (2, 25), (0, x2), (9, 0), (9, 0)] [] h (0, 0) := rfl
theorem K_66 (d : Nat) (x1 : Int) (h : Hp) : Call PG (d + 1) 66 [(2, 25), (0, x1)] h = Run PG (Call PG d) 66 0 [(2, 25), (0, x1), (9, 0), (9, 0)] [] h (0, 0) := rfl
theorem K_67 (d : Nat) (x1 : Int) (h : Hp) : Call PG (d + 1) 67 [(2, 25), (0, x1)] h = Run PG (Call PG d) 67 0 [(2, 25), (0, x1)] [] h (0, 0) := rfl
theorem K_68 (d : Nat) (x1 : Int) (x2 : Int) (h : Hp) : Call PG (d + 1) 68 [(2, 25), (0, x1), (0, x2)] h = Run PG (Call PG d) 68 0 [(2, 25), (0, x1), (0, x2), (9, 0)] [] h (0, 0) := rfl
theorem K_69 (d : Nat) (x1 : Int) (x2 : Int) (h : Hp) : Call PG (d + 1) 69 [(2, 25), (0, x1), (0, x2)] h = Run PG (Call PG d) 69 0 [(2, 25), (0, x1), (0, x2), (9, 0), (9, 0), (9, 0)] [] h (0, 0) := rfl
theorem K_70 (d : Nat) (x1 : Int) (x2 : Int) (h : Hp) : Call PG (d + 1) 70 [(2, 25), (0, x1), (0, x2)] h = Run PG (Call PG d) 70 0 [(2, 25), (0, x1), (0, x2), (9, 0), (9, 0), (9, 0), (9, 0), (9, 0)] [] h (0, 0) := rfl
theorem K_71 (d : Nat) (x0 : Int) (h : Hp) : Call PG (d + 1) 71 [(0, x0)] h = Run PG (Call PG d) 71 0 [(0, x0)] [] h (0, 0) := rfl
theorem K_72 (d : Nat) (x1 : Int) (h : Hp) : Call PG (d + 1) 72 [(2, 45), (0, x1)] h = Run PG (Call PG d) 72 0 [(2, 45), (0, x1), (9, 0), (9, 0), (9, 0)] [] h (0, 0) := rfl
theorem K_73 (d : Nat) (x1 : Int) (h : Hp) : Call PG (d + 1) 73 [(2, 45), (0, x1)] h = Run PG (Call PG d) 73 0 [(2, 45), (0, x1), (9, 0), (9, 0)] [] h (0, 0) := rfl
theorem K_74 (d : Nat) (x1 : Int) (x2 : Int) (h : Hp) : Call PG (d + 1) 74 [(2, 45), (0, x1), (0, x2)] h = Run PG (Call PG d) 74 0 [(2, 45), (0, x1), (0, x2)] [] h (0, 0) := rfl
theorem K_75 (d : Nat) (x1 : Int) (x2 : Int) (h : Hp) : Call PG (d + 1) 75 [(2, 45), (0, x1), (0, x2)] h = Run PG (Call PG d) 75 0 [(2, 45), (0, x1), (0, x2)] [] h (0, 0) := rfl
theorem K_76 (d : Nat) (x1 : Int) (h : Hp) : Call PG (d + 1) 76 [(2, 45), (0, x1)] h = Run PG (Call PG d) 76 0 [(2, 45), (0, x1), (9, 0)] [] h (0, 0) := rfl
theorem K_77 (d : Nat) (x1 : Int) (h : Hp) : Call PG (d + 1) 77 [(2, 45), (0, x1)] h = Run PG (Call PG d) 77 0 [(2, 45), (0, x1), (9, 0)] [] h (0, 0) := rfl
theorem K_78 (d : Nat) (x1 : Int) (x2 : Int) (h : Hp) : Call PG (d + 1) 78 [(2, 45), (0, x1), (0, x2)] h = Run PG (Call PG d) 78 0 [(2, 45), (0, x1), (0, x2), (9, 0)] [] h (0, 0) := rfl
theorem K_79 (d : Nat) (x1 : Int) (x2 : Int) (h : Hp) : Call PG (d + 1) 79 [(2, 55), (0, x1), (0, x2)] h = Run PG (Call PG d) 79 0 [(2, 55), (0, x1), (0, x2), (9, 0), (9, 0)] [] h (0, 0) := rfl
theorem K_80 (d : Nat) (x1 : Int) (x2 : Int) (h : Hp) : Call PG (d + 1) 80 [(2, 9), (0, x1), (0, x2)] h = Run PG (Call PG d) 80 0 [(2, 9), (0, x1), (0, x2), (9, 0)] [] h (0, 0) := rfl
theorem K_81 (d : Nat) (x1 : Nat) (x2 : Int) (h : Hp) : Call PG (d + 1) 81 [(2, 9), (2, ((x1 : Nat) : Int)), (0, x2)] h = Run PG (Call PG d) 81 0 [(2, 9), (2, ((x1 : Nat) : Int)), (0, x2), (9, 0), (9, 0), (9, 0), (9, 0), (9, 0)] [] h (0, 0) := rfl
theorem K_82 (d : Nat) (x0 : Int) (x1 : Int) (x3 : Int) (h : Hp) : Call PG (d + 1) 82 [(0, x0), (1, x1), (1, x3)] h = Run PG (Call PG d) 82 0 [(0, x0), (1, x1), (9, 0), (1, x3), (9, 0)] [] h (0, 0) := rfl
theorem K_83 (d : Nat) (x1 : Int) (h : Hp) : Call PG (d + 1) 83 [(2, 0), (0, x1)] h = Run PG (Call PG d) 83 0 [(2, 0), (0, x1)] [] h (0, 0) := rfl
theorem K_84 (d : Nat) (x1 : Int) (h : Hp) : Call PG (d + 1) 84 [(2, 0), (0, x1)] h = Run PG (Call PG d) 84 0 [(2, 0), (0, x1)] [] h (0, 0) := rfl
theorem K_85 (d : Nat) (x1 : Int) (x2 : Int) (h : Hp) : Call PG (d + 1) 85 [(2, 9), (0, x1), (0, x2)] h = Run PG (Call PG d) 85 0 [(2, 9), (0, x1), (0, x2), (9, 0), (9, 0)] [] h (0, 0) := rfl
theorem K_86 (d : Nat) (x1 : Nat) (x2 : Int) (h : Hp) : Call PG (d + 1) 86 [(2, 9), (2, ((x1 : Nat) : Int)), (0, x2)] h = Run PG (Call PG d) 86 0 [(2, 9), (2, ((x1 : Nat) : Int)), (0, x2)] [] h (0, 0) := rfl
theorem K_87 (d : Nat) (x1 : Int) (x2 : Int) (x3 : Int) (h : Hp) : Call PG (d + 1) 87 [(2, 0), (0, x1), (0, x2), (0, x3)] h = Run PG (Call PG d) 87 0 [(2, 0), (0, x1), (0, x2), (0, x3)] [] h (0, 0) := rfl
theorem K_88 (d : Nat) (x1 : Int) (h : Hp) : Call PG (d + 1) 88 [(2, 9), (0, x1)] h = Run PG (Call PG d) 88 0 [(2, 9), (0, x1)] [] h (0, 0) := rfl
theorem K_89 (d : Nat) (x1 : Int) (h : Hp) : Call PG (d + 1) 89 [(2, 9), (0, x1)] h = Run PG (Call PG d) 89 0 [(2, 9), (0, x1)] [] h (0, 0) := rfl
theorem K_90 (d : Nat) (x1 : Int) (h : Hp) : Call PG (d + 1) 90 [(2, 0), (0, x1)] h = Run PG (Call PG d) 90 0 [(2, 0), (0, x1)] [] h (0, 0) := rfl
theorem K_91 (d : Nat)  (h : Hp) : Call PG (d + 1) 91 [(2, 9)] h = Run PG (Call PG d) 91 0 [(2, 9), (9, 0), (9, 0), (9, 0)] [] h (0, 0) := rfl
theorem K_92 (d : Nat) (x0 : Nat) (h : Hp) : Call PG (d + 1) 92 [(2, ((x0 : Nat) : Int))] h = Run PG (Call PG d) 92 0 [(2, ((x0 : Nat) : Int)), (9, 0)] [] h (0, 0) := rfl
theorem K_93 (d : Nat) (x1 : Int) (h : Hp) : Call PG (d + 1) 93 [(2, 0), (0, x1)] h = Run PG (Call PG d) 93 0 [(2, 0), (0, x1)] [] h (0, 0) := rfl
theorem K_94 (d : Nat) (x1 : Int) (h : Hp) : Call PG (d + 1) 94 [(2, 9), (0, x1)] h = Run PG (Call PG d) 94 0 [(2, 9), (0, x1)] [] h (0, 0) := rfl
theorem K_95 (d : Nat) (x1 : Int) (x2 : Int) (h : Hp) : Call PG (d + 1) 95 [(2, 9), (0, x1), (0, x2)] h = Run PG (Call PG d) 95 0 [(2, 9), (0, x1), (0, x2), (9, 0)] [] h (0, 0) := rfl
theorem K_96 (d : Nat) (x0 : Nat) (x1 : Nat) (h : Hp) : Call PG (d + 1) 96 [(2, ((x0 : Nat) : Int)), (2, ((x1 : Nat) : Int))] h = Run PG (Call PG d) 96 0 [(2, ((x0 : Nat) : Int)), (2, ((x1 : Nat) : Int)), (9, 0), (9, 0), (9, 0)] [] h (0, 0) := rfl
theorem K_97 (d : Nat) (x0 : Nat) (x1 : Int) (x2 : Nat) (x3 : Int) (h : Hp) : Call PG (d + 1) 97 [(2, ((x0 : Nat) : Int)), (0, x1), (2, ((x2 : Nat) : Int)), (0, x3)] h = Run PG (Call PG d) 97 0 [(2, ((x0 : Nat) : Int)), (0, x1), (2, ((x2 : Nat) : Int)), (0, x3), (9, 0), (9, 0)] [] h (0, 0) := rfl
theorem K_98 (d : Nat) (x1 : Int) (h : Hp) : Call PG (d + 1) 98 [(2, 0), (0, x1)] h = Run PG (Call PG d) 98 0 [(2, 0), (0, x1)] [] h (0, 0) := rfl
theorem K_99 (d : Nat) (x1 : Int) (h : Hp) : Call PG (d + 1) 99 [(2, 25), (0, x1)] h = Run PG (Call PG d) 99 0 [(2, 25), (0, x1)] [] h (0, 0) := rfl
theorem K_100 (d : Nat) (x1 : Int) (x2 : Int) (x3 : Int) (x4 : Int) (h : Hp) : Call PG (d + 1) 100 [(2, 0), (0, x1), (0, x2), (0, x3), (0, x4)] h = Run PG (Call PG d) 100 0 [(2, 0), (0, x1), (0, x2), (0, x3), (0, x4), (9, 0)] [] h (0, 0) := rfl
theorem K_101 (d : Nat) (x1 : Int) (x2 : Int) (x3 : Int) (x4 : Int) (h : Hp) : Call PG (d + 1) 101 [(2, 25), (0, x1), (0, x2), (0, x3), (0, x4)] h = Run PG (Call PG d) 101 0 [(2, 25), (0, x1), (0, x2), (0, x3), (0, x4), (9, 0)] [] h (0, 0) := rfl
theorem K_102 (d : Nat) (x1 : Int) (h : Hp) : Call PG (d + 1) 102 [(2, 25), (0, x1)] h = Run PG (Call PG d) 102 0 [(2, 25), (0, x1)] [] h (0, 0) := rfl
theorem K_103 (d : Nat) (x1 : Int) (x2 : Int) (h : Hp) : Call PG (d + 1) 103 [(2, 25), (0, x1), (0, x2)] h = Run PG (Call PG d) 103 0 [(2, 25), (0, x1), (0, x2)] [] h (0, 0) := rfl
theorem K_104 (d : Nat) (x1 : Int) (x2 : Int) (h : Hp) : Call PG (d + 1) 104 [(2, 25), (0, x1), (0, x2)] h = Run PG (Call PG d) 104 0 [(2, 25), (0, x1), (0, x2), (9, 0), (9, 0)] [] h (0, 0) := rfl
theorem K_105 (d : Nat) (x1 : Int) (h : Hp) : Call PG (d + 1) 105 [(2, 38), (0, x1)] h = Run PG (Call PG d) 105 0 [(2, 38), (0, x1)] [] h (0, 0) := rfl
theorem K_106 (d : Nat) (x1 : Int) (x2 : Int) (h : Hp) : Call PG (d + 1) 106 [(2, 0), (0, x1), (0, x2)] h = Run PG (Call PG d) 106 0 [(2, 0), (0, x1), (0, x2)] [] h (0, 0) := rfl
theorem K_107 (d : Nat) (x1 : Int) (h : Hp) : Call PG (d + 1) 107 [(2, 25), (0, x1)] h = Run PG (Call PG d) 107 0 [(2, 25), (0, x1)] [] h (0, 0) := rfl
theorem K_108 (d : Nat) (x1 : Int) (h : Hp) : Call PG (d + 1) 108 [(2, 25), (0, x1)] h = Run PG (Call PG d) 108 0 [(2, 25), (0, x1)] [] h (0, 0) := rfl
theorem K_109 (d : Nat) (x1 : Int) (x2 : Int) (h : Hp) : Call PG (d + 1) 109 [(2, 25), (0, x1), (0, x2)] h = Run PG (Call PG d) 109 0 [(2, 25), (0, x1), (0, x2)] [] h (0, 0) := rfl
theorem K_110 (d : Nat) (x1 : Int) (x2 : Int) (x3 : Int) (x4 : Int) (h : Hp) : Call PG (d + 1) 110 [(2, 0), (0, x1), (0, x2), (0, x3), (0, x4)] h = Run PG (Call PG d) 110 0 [(2, 0), (0, x1), (0, x2), (0, x3), (0, x4)] [] h (0, 0) := rfl
theorem K_111 (d : Nat) (x1 : Int) (x2 : Int) (x3 : Int) (x4 : Int) (h : Hp) : Call PG (d + 1) 111 [(2, 38), (0, x1), (0, x2), (0, x3), (0, x4)] h = Run PG (Call PG d) 111 0 [(2, 38), (0, x1), (0, x2), (0, x3), (0, x4)] [] h (0, 0) := rfl
theorem K_112 (d : Nat) (x1 : Int) (h : Hp) : Call PG (d + 1) 112 [(2, 0), (0, x1)] h = Run PG (Call PG d) 112 0 [(2, 0), (0, x1)] [] h (0, 0) := rfl
theorem K_113 (d : Nat) (x2 : Int) (h : Hp) : Call PG (d + 1) 113 [(2, 38), (2, 25), (0, x2)] h = Run PG (Call PG d) 113 0 [(2, 38), (2, 25), (0, x2)] [] h (0, 0) := rfl
theorem K_114 (d : Nat) (x1 : Int) (h : Hp) : Call PG (d + 1) 114 [(2, 0), (0, x1)] h = Run PG (Call PG d) 114 0 [(2, 0), (0, x1)] [] h (0, 0) := rfl
theorem K_115 (d : Nat) (x1 : Int) (h : Hp) : Call PG (d + 1) 115 [(2, 0), (0, x1)] h = Run PG (Call PG d) 115 0 [(2, 0), (0, x1)] [] h (0, 0) := rfl
theorem K_116 (d : Nat) (x2 : Int) (h : Hp) : Call PG (d + 1) 116 [(2, 38), (2, 25), (0, x2)] h = Run PG (Call PG d) 116 0 [(2, 38), (2, 25), (0, x2), (9, 0), (9, 0)] [] h (0, 0) := rfl
theorem K_117 (d : Nat) (x1 : Int) (h : Hp) : Call PG (d + 1) 117 [(2, 0), (0, x1)] h = Run PG (Call PG d) 117 0 [(2, 0), (0, x1)] [] h (0, 0) := rfl
theorem K_118 (d : Nat) (x2 : Int) (h : Hp) : Call PG (d + 1) 118 [(2, 38), (2, 25), (0, x2)] h = Run PG (Call PG d) 118 0 [(2, 38), (2, 25), (0, x2), (9, 0), (9, 0), (9, 0), (9, 0)] [] h (0, 0) := rfl
theorem K_119 (d : Nat) (x1 : Int) (h : Hp) : Call PG (d + 1) 119 [(2, 0), (0, x1)] h = Run PG (Call PG d) 119 0 [(2, 0), (0, x1)] [] h (0, 0) := rfl
theorem K_120 (d : Nat) (x1 : Int) (h : Hp) : Call PG (d + 1) 120 [(2, 0), (0, x1)] h = Run PG (Call PG d) 120 0 [(2, 0), (0, x1)] [] h (0, 0) := rfl
theorem K_121 (d : Nat) (x1 : Int) (x2 : Int) (x3 : Int) (x4 : Int) (h : Hp) : Call PG (d + 1) 121 [(2, 0), (0, x1), (0, x2), (0, x3), (0, x4)] h = Run PG (Call PG d) 121 0 [(2, 0), (0, x1), (0, x2), (0, x3), (0, x4)] [] h (0, 0) := rfl
theorem K_122 (d : Nat) (x1 : Int) (x2 : Int) (x3 : Int) (x4 : Int) (h : Hp) : Call PG (d + 1) 122 [(2, 45), (0, x1), (0, x2), (0, x3), (0, x4)] h = Run PG (Call PG d) 122 0 [(2, 45), (0, x1), (0, x2), (0, x3), (0, x4)] [] h (0, 0) := rfl
theorem K_123 (d : Nat) (x0 : Int) (x1 : Int) (h : Hp) : Call PG (d + 1) 123 [(0, x0), (0, x1)] h = Run PG (Call PG d) 123 0 [(0, x0), (0, x1)] [] h (0, 0) := rfl
theorem K_124 (d : Nat) (x1 : Int) (x2 : Int) (x3 : Int) (h : Hp) : Call PG (d + 1) 124 [(2, 0), (0, x1), (0, x2), (0, x3)] h = Run PG (Call PG d) 124 0 [(2, 0), (0, x1), (0, x2), (0, x3)] [] h (0, 0) := rfl
theorem K_125 (d : Nat) (x1 : Int) (x2 : Int) (x3 : Int) (h : Hp) : Call PG (d + 1) 125 [(2, 45), (0, x1), (0, x2), (0, x3)] h = Run PG (Call PG d) 125 0 [(2, 45), (0, x1), (0, x2), (0, x3)] [] h (0, 0) := rfl
theorem K_126 (d : Nat) (x1 : Int) (x2 : Int) (x3 : Int) (h : Hp) : Call PG (d + 1) 126 [(2, 45), (0, x1), (0, x2), (0, x3)] h = Run PG (Call PG d) 126 0 [(2, 45), (0, x1), (0, x2), (0, x3)] [] h (0, 0) := rfl
theorem K_127 (d : Nat) (x1 : Int) (x2 : Int) (x3 : Int) (h : Hp) : Call PG (d + 1) 127 [(2, 0), (0, x1), (0, x2), (0, x3)] h = Run PG (Call PG d) 127 0 [(2, 0), (0, x1), (0, x2), (0, x3)] [] h (0, 0) := rfl
theorem K_128 (d : Nat) (x1 : Int) (x2 : Int) (x3 : Int) (h : Hp) : Call PG (d + 1) 128 [(2, 45), (0, x1), (0, x2), (0, x3)] h = Run PG (Call PG d) 128 0 [(2, 45), (0, x1), (0, x2), (0, x3)] [] h (0, 0) := rfl
theorem K_129 (d : Nat) (x1 : Int) (x2 : Int) (x3 : Int) (x4 : Int) (h : Hp) : Call PG (d + 1) 129 [(2, 45), (0, x1), (0, x2), (0, x3), (0, x4)] h = Run PG (Call PG d) 129 0 [(2, 45), (0, x1), (0, x2), (0, x3), (0, x4)] [] h (0, 0) := rfl
theorem K_130 (d : Nat) (x1 : Int) (x2 : Int) (x3 : Int) (x4 : Int) (h : Hp) : Call PG (d + 1) 130 [(2, 0), (0, x1), (0, x2), (0, x3), (0, x4)] h = Run PG (Call PG d) 130 0 [(2, 0), (0, x1), (0, x2), (0, x3), (0, x4)] [] h (0, 0) := rfl
theorem K_131 (d : Nat) (x1 : Int) (x2 : Int) (x3 : Int) (x4 : Int) (h : Hp) : Call PG (d + 1) 131 [(2, 45), (0, x1), (0, x2), (0, x3), (0, x4)] h = Run PG (Call PG d) 131 0 [(2, 45), (0, x1), (0, x2), (0, x3), (0, x4)] [] h (0, 0) := rfl
theorem K_132 (d : Nat) (x1 : Int) (x2 : Int) (x3 : Int) (h : Hp) : Call PG (d + 1) 132 [(2, 0), (0, x1), (0, x2), (0, x3)] h = Run PG (Call PG d) 132 0 [(2, 0), (0, x1), (0, x2), (0, x3)] [] h (0, 0) := rfl
theorem K_133 (d : Nat) (x1 : Int) (h : Hp) : Call PG (d + 1) 133 [(2, 45), (0, x1)] h = Run PG (Call PG d) 133 0 [(2, 45), (0, x1)] [] h (0, 0) := rfl
theorem K_134 (d : Nat) (x1 : Int) (h : Hp) : Call PG (d + 1) 134 [(2, 45), (0, x1)] h = Run PG (Call PG d) 134 0 [(2, 45), (0, x1)] [] h (0, 0) := rfl
theorem K_135 (d : Nat) (x1 : Int) (x2 : Int) (h : Hp) : Call PG (d + 1) 135 [(2, 45), (0, x1), (0, x2)] h = Run PG (Call PG d) 135 0 [(2, 45), (0, x1), (0, x2)] [] h (0, 0) := rfl
theorem K_136 (d : Nat) (x1 : Int) (x2 : Int) (h : Hp) : Call PG (d + 1) 136 [(2, 0), (0, x1), (0, x2)] h = Run PG (Call PG d) 136 0 [(2, 0), (0, x1), (0, x2)] [] h (0, 0) := rfl
theorem K_137 (d : Nat) (x1 : Int) (x2 : Int) (x3 : Int) (x4 : Int) (h : Hp) : Call PG (d + 1) 137 [(2, 0), (0, x1), (0, x2), (0, x3), (0, x4)] h = Run PG (Call PG d) 137 0 [(2, 0), (0, x1), (0, x2), (0, x3), (0, x4)] [] h (0, 0) := rfl
theorem K_138 (d : Nat) (x1 : Int) (x2 : Int) (x3 : Int) (x4 : Int) (h : Hp) : Call PG (d + 1) 138 [(2, 45), (0, x1), (0, x2), (0, x3), (0, x4)] h = Run PG (Call PG d) 138 0 [(2, 45), (0, x1), (0, x2), (0, x3), (0, x4), (9, 0), (9, 0), (9, 0), (9, 0)] [] h (0, 0) := rfl
theorem K_139 (d : Nat) (x1 : Int) (h : Hp) : Call PG (d + 1) 139 [(2, 45), (0, x1)] h = Run PG (Call PG d) 139 0 [(2, 45), (0, x1), (9, 0), (9, 0)] [] h (0, 0) := rfl
theorem K_140 (d : Nat) (x1 : Int) (x2 : Int) (x3 : Int) (x4 : Int) (x5 : Int) (x6 : Int) (x7 : Int) (h : Hp) : Call PG (d + 1) 140 [(2, 0), (0, x1), (0, x2), (0, x3), (0, x4), (0, x5), (0, x6), (0, x7)] h = Run PG (Call PG d) 140 0 [(2, 0), (0, x1), (0, x2), (0, x3), (0, x4), (0, x5), (0, x6), (0, x7), (9, 0)] [] h (0, 0) := rfl
theorem K_141 (d : Nat) (x1 : Int) (h : Hp) : Call PG (d + 1) 141 [(2, 45), (0, x1)] h = Run PG (Call PG d) 141 0 [(2, 45), (0, x1)] [] h (0, 0) := rfl
theorem K_142 (d : Nat) (x1 : Int) (x2 : Int) (x3 : Int) (x4 : Int) (x5 : Int) (h : Hp) : Call PG (d + 1) 142 [(2, 45), (0, x1), (0, x2), (0, x3), (0, x4), (0, x5)] h = Run PG (Call PG d) 142 0 [(2, 45), (0, x1), (0, x2), (0, x3), (0, x4), (0, x5)] [] h (0, 0) := rfl
theorem K_143 (d : Nat)  (h : Hp) : Call PG (d + 1) 143 [(2, 0)] h = Run PG (Call PG d) 143 0 [(2, 0)] [] h (0, 0) := rfl
theorem K_144 (d : Nat)  (h : Hp) : Call PG (d + 1) 144 [(2, 45)] h = Run PG (Call PG d) 144 0 [(2, 45), (9, 0), (9, 0)] [] h (0, 0) := rfl
theorem K_145 (d : Nat) (x1 : Int) (h : Hp) : Call PG (d + 1) 145 [(2, 0), (0, x1)] h = Run PG (Call PG d) 145 0 [(2, 0), (0, x1)] [] h (0, 0) := rfl
theorem K_146 (d : Nat) (x1 : Int) (h : Hp) : Call PG (d + 1) 146 [(2, 55), (0, x1)] h = Run PG (Call PG d) 146 0 [(2, 55), (0, x1)] [] h (0, 0) := rfl
theorem K_147 (d : Nat) (x1 : Int) (x2 : Int) (h : Hp) : Call PG (d + 1) 147 [(2, 0), (0, x1), (0, x2)] h = Run PG (Call PG d) 147 0 [(2, 0), (0, x1), (0, x2)] [] h (0, 0) := rfl
theorem K_148 (d : Nat) (x1 : Int) (x2 : Int) (h : Hp) : Call PG (d + 1) 148 [(2, 55), (0, x1), (0, x2)] h = Run PG (Call PG d) 148 0 [(2, 55), (0, x1), (0, x2)] [] h (0, 0) := rfl
theorem K_149 (d : Nat) (x1 : Int) (h : Hp) : Call PG (d + 1) 149 [(2, 55), (0, x1)] h = Run PG (Call PG d) 149 0 [(2, 55), (0, x1)] [] h (0, 0) := rfl
theorem K_150 (d : Nat) (x1 : Int) (h : Hp) : Call PG (d + 1) 150 [(2, 55), (0, x1)] h = Run PG (Call PG d) 150 0 [(2, 55), (0, x1)] [] h (0, 0) := rfl
theorem K_151 (d : Nat) (x1 : Int) (h : Hp) : Call PG (d + 1) 151 [(2, 0), (0, x1)] h = Run PG (Call PG d) 151 0 [(2, 0), (0, x1)] [] h (0, 0) := rfl
theorem K_152 (d : Nat) (x1 : Int) (x2 : Int) (h : Hp) : Call PG (d + 1) 152 [(2, 55), (0, x1), (0, x2)] h = Run PG (Call PG d) 152 0 [(2, 55), (0, x1), (0, x2), (9, 0)] [] h (0, 0) := rfl
theorem K_153 (d : Nat) (x1 : Int) (h : Hp) : Call PG (d + 1) 153 [(2, 55), (0, x1)] h = Run PG (Call PG d) 153 0 [(2, 55), (0, x1)] [] h (0, 0) := rfl
theorem K_154 (d : Nat) (x1 : Int) (h : Hp) : Call PG (d + 1) 154 [(2, 0), (0, x1)] h = Run PG (Call PG d) 154 0 [(2, 0), (0, x1)] [] h (0, 0) := rfl
theorem K_155 (d : Nat) (x1 : Int) (x2 : Int) (h : Hp) : Call PG (d + 1) 155 [(2, 0), (0, x1), (0, x2)] h = Run PG (Call PG d) 155 0 [(2, 0), (0, x1), (0, x2)] [] h (0, 0) := rfl
theorem K_156 (d : Nat) (x1 : Int) (x2 : Int) (h : Hp) : Call PG (d + 1) 156 [(2, 2), (0, x1), (0, x2)] h = Run PG (Call PG d) 156 0 [(2, 2), (0, x1), (0, x2)] [] h (0, 0) := rfl
theorem K_157 (d : Nat) (x1 : Int) (x2 : Int) (x3 : Int) (h : Hp) : Call PG (d + 1) 157 [(2, 0), (0, x1), (0, x2), (0, x3)] h = Run PG (Call PG d) 157 0 [(2, 0), (0, x1), (0, x2), (0, x3)] [] h (0, 0) := rfl
theorem K_158 (d : Nat) (x1 : Int) (x2 : Int) (x3 : Int) (h : Hp) : Call PG (d + 1) 158 [(2, 55), (0, x1), (0, x2), (0, x3)] h = Run PG (Call PG d) 158 0 [(2, 55), (0, x1), (0, x2), (0, x3), (9, 0), (9, 0), (9, 0), (9, 0)] [] h (0, 0) := rfl
theorem K_159 (d : Nat) (x1 : Int) (h : Hp) : Call PG (d + 1) 159 [(2, 0), (0, x1)] h = Run PG (Call PG d) 159 0 [(2, 0), (0, x1)] [] h (0, 0) := rfl
theorem K_160 (d : Nat) (x1 : Int) (x2 : Int) (h : Hp) : Call PG (d + 1) 160 [(2, 55), (0, x1), (0, x2)] h = Run PG (Call PG d) 160 0 [(2, 55), (0, x1), (0, x2)] [] h (0, 0) := rfl
theorem K_161 (d : Nat) (x1 : Int) (x2 : Int) (x3 : Int) (h : Hp) : Call PG (d + 1) 161 [(2, 0), (0, x1), (0, x2), (0, x3)] h = Run PG (Call PG d) 161 0 [(2, 0), (0, x1), (0, x2), (0, x3)] [] h (0, 0) := rfl
theorem K_162 (d : Nat) (x1 : Int) (x2 : Int) (x3 : Int) (h : Hp) : Call PG (d + 1) 162 [(2, 55), (0, x1), (0, x2), (0, x3)] h = Run PG (Call PG d) 162 0 [(2, 55), (0, x1), (0, x2), (0, x3), (9, 0), (9, 0), (9, 0)] [] h (0, 0) := rfl
theorem K_163 (d : Nat) (x1 : Int) (h : Hp) : Call PG (d + 1) 163 [(2, 0), (0, x1)] h = Run PG (Call PG d) 163 0 [(2, 0), (0, x1)] [] h (0, 0) := rfl
theorem K_164 (d : Nat) (x1 : Int) (x2 : Int) (x3 : Int) (h : Hp) : Call PG (d + 1) 164 [(2, 68), (0, x1), (0, x2), (0, x3)] h = Run PG (Call PG d) 164 0 [(2, 68), (0, x1), (0, x2), (0, x3)] [] h (0, 0) := rfl
theorem K_165 (d : Nat) (x1 : Int) (x2 : Int) (x3 : Int) (h : Hp) : Call PG (d + 1) 165 [(2, 0), (0, x1), (0, x2), (0, x3)] h = Run PG (Call PG d) 165 0 [(2, 0), (0, x1), (0, x2), (0, x3)] [] h (0, 0) := rfl
theorem K_166 (d : Nat) (x1 : Int) (h : Hp) : Call PG (d + 1) 166 [(2, 68), (0, x1)] h = Run PG (Call PG d) 166 0 [(2, 68), (0, x1)] [] h (0, 0) := rfl
theorem K_167 (d : Nat) (x1 : Int) (x2 : Int) (x3 : Int) (x4 : Int) (h : Hp) : Call PG (d + 1) 167 [(2, 68), (0, x1), (0, x2), (0, x3), (0, x4)] h = Run PG (Call PG d) 167 0 [(2, 68), (0, x1), (0, x2), (0, x3), (0, x4)] [] h (0, 0) := rfl
theorem K_168 (d : Nat) (x1 : Int) (x2 : Int) (h : Hp) : Call PG (d + 1) 168 [(2, 68), (0, x1), (0, x2)] h = Run PG (Call PG d) 168 0 [(2, 68), (0, x1), (0, x2)] [] h (0, 0) := rfl
theorem K_169 (d : Nat) (x1 : Int) (x2 : Int) (h : Hp) : Call PG (d + 1) 169 [(2, 0), (0, x1), (0, x2)] h = Run PG (Call PG d) 169 0 [(2, 0), (0, x1), (0, x2)] [] h (0, 0) := rfl
theorem K_170 (d : Nat) (x1 : Int) (x2 : Int) (h : Hp) : Call PG (d + 1) 170 [(2, 68), (0, x1), (0, x2)] h = Run PG (Call PG d) 170 0 [(2, 68), (0, x1), (0, x2)] [] h (0, 0) := rfl
theorem K_171 (d : Nat) (x1 : Int) (x2 : Int) (h : Hp) : Call PG (d + 1) 171 [(2, 68), (0, x1), (0, x2)] h = Run PG (Call PG d) 171 0 [(2, 68), (0, x1), (0, x2)] [] h (0, 0) := rfl
theorem K_172 (d : Nat) (x1 : Int) (x2 : Int) (x3 : Int) (h : Hp) : Call PG (d + 1) 172 [(2, 0), (0, x1), (0, x2), (0, x3)] h = Run PG (Call PG d) 172 0 [(2, 0), (0, x1), (0, x2), (0, x3)] [] h (0, 0) := rfl
theorem K_173 (d : Nat) (x1 : Int) (x2 : Int) (x3 : Int) (h : Hp) : Call PG (d + 1) 173 [(2, 68), (0, x1), (0, x2), (0, x3)] h = Run PG (Call PG d) 173 0 [(2, 68), (0, x1), (0, x2), (0, x3), (9, 0), (9, 0), (9, 0)] [] h (0, 0) := rfl
theorem K_174 (d : Nat) (x1 : Int) (x2 : Int) (h : Hp) : Call PG (d + 1) 174 [(2, 0), (0, x1), (0, x2)] h = Run PG (Call PG d) 174 0 [(2, 0), (0, x1), (0, x2), (9, 0), (9, 0)] [] h (0, 0) := rfl
theorem K_175 (d : Nat) (x1 : Int) (x2 : Int) (h : Hp) : Call PG (d + 1) 175 [(2, 9), (0, x1), (0, x2)] h = Run PG (Call PG d) 175 0 [(2, 9), (0, x1), (0, x2), (9, 0), (9, 0), (9, 0)] [] h (0, 0) := rfl
theorem K_176 (d : Nat) (x1 : Int) (x2 : Int) (x3 : Int) (h : Hp) : Call PG (d + 1) 176 [(2, 68), (0, x1), (0, x2), (0, x3), (2, 55)] h = Run PG (Call PG d) 176 0 [(2, 68), (0, x1), (0, x2), (0, x3), (2, 55), (9, 0), (9, 0), (9, 0), (9, 0)] [] h (0, 0) := rfl
theorem K_177 (d : Nat) (x1 : Int) (h : Hp) : Call PG (d + 1) 177 [(2, 0), (0, x1)] h = Run PG (Call PG d) 177 0 [(2, 0), (0, x1)] [] h (0, 0) := rfl
theorem K_178 (d : Nat) (x1 : Int) (h : Hp) : Call PG (d + 1) 178 [(2, 2), (0, x1)] h = Run PG (Call PG d) 178 0 [(2, 2), (0, x1)] [] h (0, 0) := rfl
theorem K_179 (d : Nat) (x1 : Int) (h : Hp) : Call PG (d + 1) 179 [(2, 0), (0, x1)] h = Run PG (Call PG d) 179 0 [(2, 0), (0, x1)] [] h (0, 0) := rfl
theorem K_180 (d : Nat) (x1 : Int) (h : Hp) : Call PG (d + 1) 180 [(2, 2), (0, x1)] h = Run PG (Call PG d) 180 0 [(2, 2), (0, x1), (9, 0), (9, 0), (9, 0), (9, 0), (9, 0), (9, 0), (9, 0), (9, 0), (9, 0), (9, 0)] [] h (0, 0) := rfl
theorem K_181 (d : Nat) (x1 : Int) (h : Hp) : Call PG (d + 1) 181 [(2, 0), (0, x1)] h = Run PG (Call PG d) 181 0 [(2, 0), (0, x1)] [] h (0, 0) := rfl
theorem K_182 (d : Nat) (x1 : Int) (h : Hp) : Call PG (d + 1) 182 [(2, 72), (0, x1)] h = Run PG (Call PG d) 182 0 [(2, 72), (0, x1)] [] h (0, 0) := rfl
theorem K_183 (d : Nat) (x1 : Int) (h : Hp) : Call PG (d + 1) 183 [(2, 0), (0, x1)] h = Run PG (Call PG d) 183 0 [(2, 0), (0, x1)] [] h (0, 0) := rfl
theorem K_184 (d : Nat) (x1 : Int) (h : Hp) : Call PG (d + 1) 184 [(2, 0), (0, x1)] h = Run PG (Call PG d) 184 0 [(2, 0), (0, x1)] [] h (0, 0) := rfl
theorem K_185 (d : Nat) (x1 : Int) (x2 : Int) (x3 : Int) (h : Hp) : Call PG (d + 1) 185 [(2, 0), (0, x1), (0, x2), (0, x3)] h = Run PG (Call PG d) 185 0 [(2, 0), (0, x1), (0, x2), (0, x3), (9, 0)] [] h (0, 0) := rfl
theorem K_186 (d : Nat) (x1 : Int) (x2 : Int) (x3 : Int) (x4 : Int) (h : Hp) : Call PG (d + 1) 186 [(2, 72), (0, x1), (0, x2), (0, x3), (0, x4)] h = Run PG (Call PG d) 186 0 [(2, 72), (0, x1), (0, x2), (0, x3), (0, x4), (9, 0), (9, 0)] [] h (0, 0) := rfl
theorem K_187 (d : Nat) (x1 : Int) (x2 : Int) (x3 : Int) (h : Hp) : Call PG (d + 1) 187 [(2, 72), (0, x1), (0, x2), (0, x3)] h = Run PG (Call PG d) 187 0 [(2, 72), (0, x1), (0, x2), (0, x3), (9, 0), (9, 0), (9, 0)] [] h (0, 0) := rfl
theorem K_188 (d : Nat) (x1 : Int) (h : Hp) : Call PG (d + 1) 188 [(2, 72), (0, x1)] h = Run PG (Call PG d) 188 0 [(2, 72), (0, x1)] [] h (0, 0) := rfl
theorem K_189 (d : Nat) (x1 : Int) (h : Hp) : Call PG (d + 1) 189 [(2, 72), (0, x1)] h = Run PG (Call PG d) 189 0 [(2, 72), (0, x1), (9, 0)] [] h (0, 0) := rfl
theorem K_190 (d : Nat) (x1 : Int) (h : Hp) : Call PG (d + 1) 190 [(2, 72), (0, x1)] h = Run PG (Call PG d) 190 0 [(2, 72), (0, x1), (9, 0), (9, 0)] [] h (0, 0) := rfl
theorem K_191 (d : Nat) (x1 : Int) (x2 : Int) (h : Hp) : Call PG (d + 1) 191 [(2, 0), (0, x1), (0, x2)] h = Run PG (Call PG d) 191 0 [(2, 0), (0, x1), (0, x2)] [] h (0, 0) := rfl
theorem K_192 (d : Nat) (x1 : Int) (x2 : Int) (h : Hp) : Call PG (d + 1) 192 [(2, 72), (0, x1), (0, x2)] h = Run PG (Call PG d) 192 0 [(2, 72), (0, x1), (0, x2)] [] h (0, 0) := rfl
theorem K_193 (d : Nat) (x1 : Int) (x2 : Int) (x3 : Int) (h : Hp) : Call PG (d + 1) 193 [(2, 0), (0, x1), (0, x2), (0, x3)] h = Run PG (Call PG d) 193 0 [(2, 0), (0, x1), (0, x2), (0, x3)] [] h (0, 0) := rfl
theorem K_194 (d : Nat) (x1 : Int) (x2 : Int) (x3 : Int) (h : Hp) : Call PG (d + 1) 194 [(2, 77), (0, x1), (0, x2), (0, x3)] h = Run PG (Call PG d) 194 0 [(2, 77), (0, x1), (0, x2), (0, x3)] [] h (0, 0) := rfl
theorem K_195 (d : Nat) (x1 : Int) (h : Hp) : Call PG (d + 1) 195 [(2, 0), (0, x1)] h = Run PG (Call PG d) 195 0 [(2, 0), (0, x1)] [] h (0, 0) := rfl
theorem K_196 (d : Nat) (x1 : Int) (h : Hp) : Call PG (d + 1) 196 [(2, 77), (0, x1)] h = Run PG (Call PG d) 196 0 [(2, 77), (0, x1)] [] h (0, 0) := rfl
theorem K_197 (d : Nat) (x1 : Int) (h : Hp) : Call PG (d + 1) 197 [(2, 0), (0, x1)] h = Run PG (Call PG d) 197 0 [(2, 0), (0, x1)] [] h (0, 0) := rfl
theorem K_198 (d : Nat) (x1 : Int) (h : Hp) : Call PG (d + 1) 198 [(2, 77), (0, x1)] h = Run PG (Call PG d) 198 0 [(2, 77), (0, x1)] [] h (0, 0) := rfl
theorem K_199 (d : Nat)  (h : Hp) : Call PG (d + 1) 199 [(2, 77), (2, 25)] h = Run PG (Call PG d) 199 0 [(2, 77), (2, 25), (9, 0), (9, 0)] [] h (0, 0) := rfl
theorem K_200 (d : Nat) (x1 : Int) (x2 : Int) (x3 : Int) (h : Hp) : Call PG (d + 1) 200 [(2, 77), (0, x1), (0, x2), (0, x3)] h = Run PG (Call PG d) 200 0 [(2, 77), (0, x1), (0, x2), (0, x3)] [] h (0, 0) := rfl
theorem K_201 (d : Nat) (x1 : Int) (h : Hp) : Call PG (d + 1) 201 [(2, 77), (0, x1)] h = Run PG (Call PG d) 201 0 [(2, 77), (0, x1), (9, 0)] [] h (0, 0) := rfl
theorem K_202 (d : Nat)  (h : Hp) : Call PG (d + 1) 202 [(2, 0)] h = Run PG (Call PG d) 202 0 [(2, 0)] [] h (0, 0) := rfl
theorem K_203 (d : Nat)  (h : Hp) : Call PG (d + 1) 203 [(2, 77)] h = Run PG (Call PG d) 203 0 [(2, 77)] [] h (0, 0) := rfl
theorem K_204 (d : Nat) (x0 : Int) (x1 : Int) (x2 : Int) (x3 : Int) (h : Hp) : Call PG (d + 1) 204 [(0, x0), (0, x1), (0, x2), (0, x3), (2, 81)] h = Run PG (Call PG d) 204 0 [(0, x0), (0, x1), (0, x2), (0, x3), (2, 81), (9, 0), (9, 0)] [] h (0, 0) := rfl
theorem K_205 (d : Nat) (x1 : Int) (x2 : Int) (h : Hp) : Call PG (d + 1) 205 [(2, 0), (0, x1), (0, x2)] h = Run PG (Call PG d) 205 0 [(2, 0), (0, x1), (0, x2)] [] h (0, 0) := rfl
theorem K_206 (d : Nat) (x1 : Int) (h : Hp) : Call PG (d + 1) 206 [(2, 0), (0, x1)] h = Run PG (Call PG d) 206 0 [(2, 0), (0, x1)] [] h (0, 0) := rfl
theorem K_208 (d : Nat) (x1 : Int) (h : Hp) : Call PG (d + 1) 208 [(2, 82), (0, x1)] h = Run PG (Call PG d) 208 0 [(2, 82), (0, x1)] [] h (0, 0) := rfl
theorem K_209 (d : Nat) (x0 : Int) (x2 : Int) (x4 : Int) (h : Hp) : Call PG (d + 1) 209 [(1, x0), (1, x2), (1, x4)] h = Run PG (Call PG d) 209 0 [(1, x0), (9, 0), (1, x2), (9, 0), (1, x4), (9, 0)] [] h (0, 0) := rfl
theorem K_210 (d : Nat) (x1 : Int) (x2 : Int) (x3 : Int) (x4 : Int) (h : Hp) : Call PG (d + 1) 210 [(2, 82), (0, x1), (0, x2), (0, x3), (0, x4)] h = Run PG (Call PG d) 210 0 [(2, 82), (0, x1), (0, x2), (0, x3), (0, x4)] [] h (0, 0) := rfl
theorem K_211 (d : Nat) (x1 : Int) (x2 : Int) (x3 : Int) (h : Hp) : Call PG (d + 1) 211 [(2, 82), (0, x1), (0, x2), (0, x3)] h = Run PG (Call PG d) 211 0 [(2, 82), (0, x1), (0, x2), (0, x3)] [] h (0, 0) := rfl
theorem K_212 (d : Nat) (x1 : Int) (h : Hp) : Call PG (d + 1) 212 [(2, 82), (0, x1)] h = Run PG (Call PG d) 212 0 [(2, 82), (0, x1)] [] h (0, 0) := rfl
theorem K_213 (d : Nat) (x1 : Int) (x2 : Int) (h : Hp) : Call PG (d + 1) 213 [(2, 82), (0, x1), (0, x2)] h = Run PG (Call PG d) 213 0 [(2, 82), (0, x1), (0, x2)] [] h (0, 0) := rfl
theorem K_214 (d : Nat) (x1 : Int) (x2 : Int) (x3 : Int) (x4 : Int) (x5 : Int) (h : Hp) : Call PG (d + 1) 214 [(2, 82), (0, x1), (0, x2), (0, x3), (0, x4), (0, x5)] h = Run PG (Call PG d) 214 0 [(2, 82), (0, x1), (0, x2), (0, x3), (0, x4), (0, x5)] [] h (0, 0) := rfl
theorem K_215 (d : Nat) (x1 : Int) (h : Hp) : Call PG (d + 1) 215 [(2, 82), (0, x1)] h = Run PG (Call PG d) 215 0 [(2, 82), (0, x1), (9, 0)] [] h (0, 0) := rfl
theorem K_216 (d : Nat) (x1 : Int) (x2 : Int) (x3 : Int) (x4 : Int) (h : Hp) : Call PG (d + 1) 216 [(2, 82), (0, x1), (0, x2), (0, x3), (0, x4)] h = Run PG (Call PG d) 216 0 [(2, 82), (0, x1), (0, x2), (0, x3), (0, x4), (9, 0), (9, 0)] [] h (0, 0) := rfl
theorem K_217 (d : Nat)  (h : Hp) : Call PG (d + 1) 217 [(2, 82)] h = Run PG (Call PG d) 217 0 [(2, 82)] [] h (0, 0) := rfl
theorem K_218 (d : Nat)  (h : Hp) : Call PG (d + 1) 218 [(2, 82)] h = Run PG (Call PG d) 218 0 [(2, 82), (9, 0), (9, 0)] [] h (0, 0) := rfl
theorem K_219 (d : Nat)  (h : Hp) : Call PG (d + 1) 219 [(2, 82)] h = Run PG (Call PG d) 219 0 [(2, 82)] [] h (0, 0) := rfl
theorem K_220 (d : Nat) (x1 : Int) (x2 : Int) (h : Hp) : Call PG (d + 1) 220 [(2, 82), (0, x1), (0, x2)] h = Run PG (Call PG d) 220 0 [(2, 82), (0, x1), (0, x2)] [] h (0, 0) := rfl
theorem K_221 (d : Nat) (x1 : Int) (h : Hp) : Call PG (d + 1) 221 [(2, 82), (0, x1)] h = Run PG (Call PG d) 221 0 [(2, 82), (0, x1), (9, 0)] [] h (0, 0) := rfl
theorem K_222 (d : Nat)  (h : Hp) : Call PG (d + 1) 222 [(2, 82)] h = Run PG (Call PG d) 222 0 [(2, 82)] [] h (0, 0) := rfl
theorem K_223 (d : Nat) (x1 : Int) (h : Hp) : Call PG (d + 1) 223 [(2, 82), (0, x1)] h = Run PG (Call PG d) 223 0 [(2, 82), (0, x1)] [] h (0, 0) := rfl
theorem K_224 (d : Nat)  (h : Hp) : Call PG (d + 1) 224 [(2, 82)] h = Run PG (Call PG d) 224 0 [(2, 82), (9, 0)] [] h (0, 0) := rfl
theorem K_225 (d : Nat)  (h : Hp) : Call PG (d + 1) 225 [(2, 82)] h = Run PG (Call PG d) 225 0 [(2, 82)] [] h (0, 0) := rfl
theorem K_226 (d : Nat)  (h : Hp) : Call PG (d + 1) 226 [(2, 82)] h = Run PG (Call PG d) 226 0 [(2, 82)] [] h (0, 0) := rfl
theorem K_227 (d : Nat) (x1 : Int) (h : Hp) : Call PG (d + 1) 227 [(2, 82), (0, x1)] h = Run PG (Call PG d) 227 0 [(2, 82), (0, x1), (9, 0), (9, 0)] [] h (0, 0) := rfl
theorem K_228 (d : Nat) (x1 : Int) (x2 : Int) (h : Hp) : Call PG (d + 1) 228 [(2, 82), (0, x1), (0, x2)] h = Run PG (Call PG d) 228 0 [(2, 82), (0, x1), (0, x2)] [] h (0, 0) := rfl
theorem K_229 (d : Nat) (x0 : Int) (h : Hp) : Call PG (d + 1) 229 [(0, x0)] h = Run PG (Call PG d) 229 0 [(0, x0)] [] h (0, 0) := rfl
theorem K_230 (d : Nat)  (h : Hp) : Call PG (d + 1) 230 [(2, 82)] h = Run PG (Call PG d) 230 0 [(2, 82), (9, 0)] [] h (0, 0) := rfl
theorem K_231 (d : Nat) (x0 : Int) (h : Hp) : Call PG (d + 1) 231 [(0, x0)] h = Run PG (Call PG d) 231 0 [(0, x0)] [] h (0, 0) := rfl
theorem K_232 (d : Nat) (x0 : Int) (h : Hp) : Call PG (d + 1) 232 [(0, x0)] h = Run PG (Call PG d) 232 0 [(0, x0)] [] h (0, 0) := rfl
theorem K_233 (d : Nat) (x1 : Int) (h : Hp) : Call PG (d + 1) 233 [(2, 82), (0, x1)] h = Run PG (Call PG d) 233 0 [(2, 82), (0, x1)] [] h (0, 0) := rfl
theorem K_234 (d : Nat)  (h : Hp) : Call PG (d + 1) 234 [(2, 82)] h = Run PG (Call PG d) 234 0 [(2, 82)] [] h (0, 0) := rfl
theorem K_235 (d : Nat) (x0 : Int) (h : Hp) : Call PG (d + 1) 235 [(0, x0)] h = Run PG (Call PG d) 235 0 [(0, x0)] [] h (0, 0) := rfl
theorem K_236 (d : Nat)  (h : Hp) : Call PG (d + 1) 236 [(2, 82)] h = Run PG (Call PG d) 236 0 [(2, 82)] [] h (0, 0) := rfl
theorem K_237 (d : Nat)  (h : Hp) : Call PG (d + 1) 237 [(2, 82)] h = Run PG (Call PG d) 237 0 [(2, 82), (9, 0)] [] h (0, 0) := rfl
theorem K_238 (d : Nat) (x1 : Int) (h : Hp) : Call PG (d + 1) 238 [(2, 82), (0, x1)] h = Run PG (Call PG d) 238 0 [(2, 82), (0, x1)] [] h (0, 0) := rfl
theorem K_239 (d : Nat) (x1 : Int) (h : Hp) : Call PG (d + 1) 239 [(2, 82), (0, x1)] h = Run PG (Call PG d) 239 0 [(2, 82), (0, x1)] [] h (0, 0) := rfl
theorem K_240 (d : Nat) (x1 : Int) (x2 : Int) (h : Hp) : Call PG (d + 1) 240 [(2, 82), (0, x1), (0, x2)] h = Run PG (Call PG d) 240 0 [(2, 82), (0, x1), (0, x2), (9, 0), (9, 0)] [] h (0, 0) := rfl
theorem K_241 (d : Nat) (x1 : Int) (h : Hp) : Call PG (d + 1) 241 [(2, 82), (0, x1)] h = Run PG (Call PG d) 241 0 [(2, 82), (0, x1)] [] h (0, 0) := rfl
theorem K_242 (d : Nat) (x1 : Int) (h : Hp) : Call PG (d + 1) 242 [(2, 82), (0, x1)] h = Run PG (Call PG d) 242 0 [(2, 82), (0, x1), (9, 0), (9, 0)] [] h (0, 0) := rfl
theorem K_243 (d : Nat) (x1 : Int) (x2 : Int) (h : Hp) : Call PG (d + 1) 243 [(2, 82), (0, x1), (0, x2)] h = Run PG (Call PG d) 243 0 [(2, 82), (0, x1), (0, x2)] [] h (0, 0) := rfl
theorem K_244 (d : Nat) (x1 : Int) (h : Hp) : Call PG (d + 1) 244 [(2, 82), (0, x1)] h = Run PG (Call PG d) 244 0 [(2, 82), (0, x1)] [] h (0, 0) := rfl
theorem K_245 (d : Nat) (x1 : Int) (x2 : Int) (h : Hp) : Call PG (d + 1) 245 [(2, 82), (0, x1), (0, x2)] h = Run PG (Call PG d) 245 0 [(2, 82), (0, x1), (0, x2)] [] h (0, 0) := rfl
theorem K_246 (d : Nat) (x1 : Int) (x2 : Int) (x3 : Int) (h : Hp) : Call PG (d + 1) 246 [(2, 82), (0, x1), (0, x2), (0, x3)] h = Run PG (Call PG d) 246 0 [(2, 82), (0, x1), (0, x2), (0, x3)] [] h (0, 0) := rfl
theorem K_247 (d : Nat) (x1 : Int) (h : Hp) : Call PG (d + 1) 247 [(2, 82), (0, x1)] h = Run PG (Call PG d) 247 0 [(2, 82), (0, x1), (9, 0)] [] h (0, 0) := rfl
theorem K_248 (d : Nat) (x1 : Int) (h : Hp) : Call PG (d + 1) 248 [(2, 82), (0, x1)] h = Run PG (Call PG d) 248 0 [(2, 82), (0, x1), (9, 0), (9, 0), (9, 0)] [] h (0, 0) := rfl
theorem K_249 (d : Nat) (x1 : Int) (x2 : Int) (h : Hp) : Call PG (d + 1) 249 [(2, 82), (0, x1), (0, x2)] h = Run PG (Call PG d) 249 0 [(2, 82), (0, x1), (0, x2), (9, 0)] [] h (0, 0) := rfl
theorem K_250 (d : Nat) (x0 : Int) (x1 : Int) (x3 : Int) (h : Hp) : Call PG (d + 1) 250 [(0, x0), (1, x1), (1, x3)] h = Run PG (Call PG d) 250 0 [(0, x0), (1, x1), (9, 0), (1, x3), (9, 0)] [] h (0, 0) := rfl
theorem K_251 (d : Nat) (x1 : Int) (h : Hp) : Call PG (d + 1) 251 [(2, 82), (0, x1)] h = Run PG (Call PG d) 251 0 [(2, 82), (0, x1)] [] h (0, 0) := rfl
theorem K_252 (d : Nat) (x1 : Int) (h : Hp) : Call PG (d + 1) 252 [(2, 82), (0, x1)] h = Run PG (Call PG d) 252 0 [(2, 82), (0, x1), (9, 0)] [] h (0, 0) := rfl
theorem K_253 (d : Nat) (x1 : Int) (h : Hp) : Call PG (d + 1) 253 [(2, 82), (0, x1)] h = Run PG (Call PG d) 253 0 [(2, 82), (0, x1), (9, 0), (9, 0)] [] h (0, 0) := rfl
theorem K_254 (d : Nat) (x1 : Int) (x2 : Int) (h : Hp) : Call PG (d + 1) 254 [(2, 82), (0, x1), (0, x2)] h = Run PG (Call PG d) 254 0 [(2, 82), (0, x1), (0, x2), (9, 0), (9, 0)] [] h (0, 0) := rfl
theorem K_255 (d : Nat) (x1 : Int) (x2 : Int) (h : Hp) : Call PG (d + 1) 255 [(2, 82), (0, x1), (0, x2)] h = Run PG (Call PG d) 255 0 [(2, 82), (0, x1), (0, x2), (9, 0), (9, 0)] [] h (0, 0) := rfl
theorem K_256 (d : Nat) (x1 : Int) (x2 : Int) (x3 : Int) (h : Hp) : Call PG (d + 1) 256 [(2, 82), (0, x1), (0, x2), (0, x3)] h = Run PG (Call PG d) 256 0 [(2, 82), (0, x1), (0, x2), (0, x3), (9, 0), (9, 0), (9, 0), (9, 0)] [] h (0, 0) := rfl
theorem K_257 (d : Nat) (x1 : Int) (x2 : Int) (h : Hp) : Call PG (d + 1) 257 [(2, 82), (0, x1), (0, x2)] h = Run PG (Call PG d) 257 0 [(2, 82), (0, x1), (0, x2)] [] h (0, 0) := rfl
theorem K_258 (d : Nat) (x1 : Int) (x2 : Int) (h : Hp) : Call PG (d + 1) 258 [(2, 82), (0, x1), (0, x2)] h = Run PG (Call PG d) 258 0 [(2, 82), (0, x1), (0, x2)] [] h (0, 0) := rfl
theorem K_259 (d : Nat) (x1 : Int) (x2 : Int) (h : Hp) : Call PG (d + 1) 259 [(2, 82), (0, x1), (0, x2)] h = Run PG (Call PG d) 259 0 [(2, 82), (0, x1), (0, x2), (9, 0), (9, 0), (9, 0)] [] h (0, 0) := rfl
theorem K_260 (d : Nat) (x1 : Int) (x2 : Int) (x3 : Int) (h : Hp) : Call PG (d + 1) 260 [(2, 82), (0, x1), (0, x2), (0, x3)] h = Run PG (Call PG d) 260 0 [(2, 82), (0, x1), (0, x2), (0, x3), (9, 0)] [] h (0, 0) := rfl
theorem K_261 (d : Nat) (x1 : Int) (h : Hp) : Call PG (d + 1) 261 [(2, 82), (0, x1)] h = Run PG (Call PG d) 261 0 [(2, 82), (0, x1), (9, 0), (9, 0), (9, 0)] [] h (0, 0) := rfl
theorem K_262 (d : Nat) (x1 : Int) (h : Hp) : Call PG (d + 1) 262 [(2, 82), (0, x1)] h = Run PG (Call PG d) 262 0 [(2, 82), (0, x1)] [] h (0, 0) := rfl
theorem K_263 (d : Nat) (x1 : Int) (h : Hp) : Call PG (d + 1) 263 [(2, 82), (0, x1)] h = Run PG (Call PG d) 263 0 [(2, 82), (0, x1), (9, 0), (9, 0)] [] h (0, 0) := rfl
theorem K_264 (d : Nat) (x1 : Int) (x2 : Int) (h : Hp) : Call PG (d + 1) 264 [(2, 82), (0, x1), (0, x2)] h = Run PG (Call PG d) 264 0 [(2, 82), (0, x1), (0, x2), (9, 0), (9, 0), (9, 0), (9, 0)] [] h (0, 0) := rfl
theorem K_265 (d : Nat) (x1 : Int) (x2 : Int) (h : Hp) : Call PG (d + 1) 265 [(2, 82), (0, x1), (0, x2)] h = Run PG (Call PG d) 265 0 [(2, 82), (0, x1), (0, x2)] [] h (0, 0) := rfl
theorem K_266 (d : Nat) (x1 : Int) (h : Hp) : Call PG (d + 1) 266 [(2, 82), (0, x1)] h = Run PG (Call PG d) 266 0 [(2, 82), (0, x1), (9, 0), (9, 0), (9, 0)] [] h (0, 0) := rfl
theorem K_267 (d : Nat) (x1 : Int) (h : Hp) : Call PG (d + 1) 267 [(2, 82), (0, x1)] h = Run PG (Call PG d) 267 0 [(2, 82), (0, x1), (9, 0), (9, 0), (9, 0)] [] h (0, 0) := rfl
theorem K_268 (d : Nat) (x1 : Int) (x2 : Int) (x3 : Int) (h : Hp) : Call PG (d + 1) 268 [(2, 82), (0, x1), (0, x2), (0, x3)] h = Run PG (Call PG d) 268 0 [(2, 82), (0, x1), (0, x2), (0, x3), (9, 0), (9, 0)] [] h (0, 0) := rfl
theorem K_269 (d : Nat) (x1 : Int) (x2 : Int) (x3 : Int) (x4 : Int) (x5 : Int) (x6 : Int) (h : Hp) : Call PG (d + 1) 269 [(2, 82), (0, x1), (0, x2), (0, x3), (0, x4), (0, x5), (0, x6)] h = Run PG (Call PG d) 269 0 [(2, 82), (0, x1), (0, x2), (0, x3), (0, x4), (0, x5), (0, x6), (9, 0), (9, 0)] [] h (0, 0) := rfl
theorem K_270 (d : Nat) (x1 : Int) (x2 : Int) (x3 : Int) (h : Hp) : Call PG (d + 1) 270 [(2, 82), (0, x1), (0, x2), (0, x3)] h = Run PG (Call PG d) 270 0 [(2, 82), (0, x1), (0, x2), (0, x3)] [] h (0, 0) := rfl
theorem K_271 (d : Nat) (x0 : Int) (h : Hp) : Call PG (d + 1) 271 [(0, x0)] h = Run PG (Call PG d) 271 0 [(0, x0)] [] h (0, 0) := rfl
theorem K_272 (d : Nat) (x1 : Int) (x2 : Int) (x3 : Int) (h : Hp) : Call PG (d + 1) 272 [(2, 82), (0, x1), (0, x2), (0, x3)] h = Run PG (Call PG d) 272 0 [(2, 82), (0, x1), (0, x2), (0, x3)] [] h (0, 0) := rfl
theorem K_273 (d : Nat) (x1 : Int) (x2 : Int) (h : Hp) : Call PG (d + 1) 273 [(2, 82), (0, x1), (0, x2)] h = Run PG (Call PG d) 273 0 [(2, 82), (0, x1), (0, x2)] [] h (0, 0) := rfl
theorem K_274 (d : Nat) (x1 : Int) (h : Hp) : Call PG (d + 1) 274 [(2, 82), (0, x1)] h = Run PG (Call PG d) 274 0 [(2, 82), (0, x1), (9, 0), (9, 0)] [] h (0, 0) := rfl
theorem K_275 (d : Nat) (x1 : Int) (h : Hp) : Call PG (d + 1) 275 [(2, 82), (0, x1)] h = Run PG (Call PG d) 275 0 [(2, 82), (0, x1), (9, 0), (9, 0)] [] h (0, 0) := rfl
theorem K_276 (d : Nat) (x1 : Int) (h : Hp) : Call PG (d + 1) 276 [(2, 82), (0, x1)] h = Run PG (Call PG d) 276 0 [(2, 82), (0, x1)] [] h (0, 0) := rfl
theorem K_277 (d : Nat) (x1 : Int) (x2 : Int) (h : Hp) : Call PG (d + 1) 277 [(2, 82), (0, x1), (0, x2)] h = Run PG (Call PG d) 277 0 [(2, 82), (0, x1), (0, x2), (9, 0), (9, 0), (9, 0)] [] h (0, 0) := rfl
theorem K_278 (d : Nat) (x1 : Int) (x2 : Int) (x3 : Int) (h : Hp) : Call PG (d + 1) 278 [(2, 82), (0, x1), (0, x2), (0, x3)] h = Run PG (Call PG d) 278 0 [(2, 82), (0, x1), (0, x2), (0, x3)] [] h (0, 0) := rfl
theorem K_279 (d : Nat) (x1 : Int) (h : Hp) : Call PG (d + 1) 279 [(2, 82), (0, x1)] h = Run PG (Call PG d) 279 0 [(2, 82), (0, x1), (9, 0), (9, 0), (9, 0), (9, 0), (9, 0)] [] h (0, 0) := rfl
theorem K_280 (d : Nat) (x1 : Int) (x2 : Int) (h : Hp) : Call PG (d + 1) 280 [(2, 82), (0, x1), (0, x2)] h = Run PG (Call PG d) 280 0 [(2, 82), (0, x1), (0, x2), (9, 0), (9, 0)] [] h (0, 0) := rfl
theorem K_281 (d : Nat) (x1 : Int) (h : Hp) : Call PG (d + 1) 281 [(2, 82), (0, x1)] h = Run PG (Call PG d) 281 0 [(2, 82), (0, x1), (9, 0), (9, 0), (9, 0)] [] h (0, 0) := rfl
theorem K_282 (d : Nat) (x1 : Int) (x2 : Int) (h : Hp) : Call PG (d + 1) 282 [(2, 82), (0, x1), (0, x2)] h = Run PG (Call PG d) 282 0 [(2, 82), (0, x1), (0, x2), (9, 0)] [] h (0, 0) := rfl
theorem K_283 (d : Nat) (x1 : Int) (x2 : Int) (h : Hp) : Call PG (d + 1) 283 [(2, 82), (0, x1), (0, x2)] h = Run PG (Call PG d) 283 0 [(2, 82), (0, x1), (0, x2), (9, 0), (9, 0)] [] h (0, 0) := rfl
theorem K_284 (d : Nat) (x1 : Int) (h : Hp) : Call PG (d + 1) 284 [(2, 82), (0, x1)] h = Run PG (Call PG d) 284 0 [(2, 82), (0, x1)] [] h (0, 0) := rfl
theorem K_285 (d : Nat) (x1 : Int) (x2 : Int) (x3 : Int) (x4 : Int) (h : Hp) : Call PG (d + 1) 285 [(2, 82), (0, x1), (0, x2), (0, x3), (0, x4)] h = Run PG (Call PG d) 285 0 [(2, 82), (0, x1), (0, x2), (0, x3), (0, x4)] [] h (0, 0) := rfl
theorem K_286 (d : Nat) (x1 : Int) (h : Hp) : Call PG (d + 1) 286 [(2, 82), (0, x1)] h = Run PG (Call PG d) 286 0 [(2, 82), (0, x1)] [] h (0, 0) := rfl
theorem K_287 (d : Nat) (x1 : Int) (x2 : Int) (h : Hp) : Call PG (d + 1) 287 [(2, 82), (0, x1), (0, x2)] h = Run PG (Call PG d) 287 0 [(2, 82), (0, x1), (0, x2)] [] h (0, 0) := rfl
theorem K_288 (d : Nat) (x1 : Int) (h : Hp) : Call PG (d + 1) 288 [(2, 82), (0, x1)] h = Run PG (Call PG d) 288 0 [(2, 82), (0, x1)] [] h (0, 0) := rfl
theorem K_289 (d : Nat) (x1 : Int) (x2 : Int) (x3 : Int) (x4 : Int) (h : Hp) : Call PG (d + 1) 289 [(2, 82), (0, x1), (0, x2), (0, x3), (0, x4)] h = Run PG (Call PG d) 289 0 [(2, 82), (0, x1), (0, x2), (0, x3), (0, x4)] [] h (0, 0) := rfl
theorem K_290 (d : Nat) (x1 : Int) (h : Hp) : Call PG (d + 1) 290 [(2, 82), (0, x1)] h = Run PG (Call PG d) 290 0 [(2, 82), (0, x1)] [] h (0, 0) := rfl
theorem K_291 (d : Nat) (x1 : Int) (h : Hp) : Call PG (d + 1) 291 [(2, 82), (0, x1)] h = Run PG (Call PG d) 291 0 [(2, 82), (0, x1)] [] h (0, 0) := rfl
theorem K_292 (d : Nat) (x1 : Int) (h : Hp) : Call PG (d + 1) 292 [(2, 82), (0, x1)] h = Run PG (Call PG d) 292 0 [(2, 82), (0, x1)] [] h (0, 0) := rfl
theorem K_293 (d : Nat) (x1 : Int) (h : Hp) : Call PG (d + 1) 293 [(2, 82), (0, x1)] h = Run PG (Call PG d) 293 0 [(2, 82), (0, x1), (9, 0), (9, 0), (9, 0), (9, 0)] [] h (0, 0) := rfl
theorem K_294 (d : Nat) (x1 : Int) (h : Hp) : Call PG (d + 1) 294 [(2, 82), (0, x1)] h = Run PG (Call PG d) 294 0 [(2, 82), (0, x1)] [] h (0, 0) := rfl
theorem K_295 (d : Nat) (x1 : Int) (h : Hp) : Call PG (d + 1) 295 [(2, 82), (0, x1)] h = Run PG (Call PG d) 295 0 [(2, 82), (0, x1)] [] h (0, 0) := rfl
theorem K_296 (d : Nat) (x1 : Int) (x2 : Int) (x3 : Int) (x4 : Int) (h : Hp) : Call PG (d + 1) 296 [(2, 82), (0, x1), (0, x2), (0, x3), (0, x4)] h = Run PG (Call PG d) 296 0 [(2, 82), (0, x1), (0, x2), (0, x3), (0, x4)] [] h (0, 0) := rfl
theorem K_297 (d : Nat) (x0 : Int) (x1 : Int) (h : Hp) : Call PG (d + 1) 297 [(0, x0), (0, x1)] h = Run PG (Call PG d) 297 0 [(0, x0), (0, x1)] [] h (0, 0) := rfl
theorem K_298 (d : Nat) (x1 : Int) (x2 : Int) (x3 : Int) (h : Hp) : Call PG (d + 1) 298 [(2, 82), (0, x1), (0, x2), (0, x3)] h = Run PG (Call PG d) 298 0 [(2, 82), (0, x1), (0, x2), (0, x3)] [] h (0, 0) := rfl
theorem K_299 (d : Nat) (x1 : Int) (h : Hp) : Call PG (d + 1) 299 [(2, 82), (0, x1)] h = Run PG (Call PG d) 299 0 [(2, 82), (0, x1)] [] h (0, 0) := rfl
theorem K_300 (d : Nat) (x1 : Int) (x2 : Int) (x3 : Int) (h : Hp) : Call PG (d + 1) 300 [(2, 82), (0, x1), (0, x2), (0, x3)] h = Run PG (Call PG d) 300 0 [(2, 82), (0, x1), (0, x2), (0, x3)] [] h (0, 0) := rfl
theorem K_301 (d : Nat) (x1 : Int) (x2 : Int) (x3 : Int) (x4 : Int) (h : Hp) : Call PG (d + 1) 301 [(2, 82), (0, x1), (0, x2), (0, x3), (0, x4)] h = Run PG (Call PG d) 301 0 [(2, 82), (0, x1), (0, x2), (0, x3), (0, x4)] [] h (0, 0) := rfl
theorem K_302 (d : Nat) (x1 : Int) (x2 : Int) (x3 : Int) (h : Hp) : Call PG (d + 1) 302 [(2, 82), (0, x1), (0, x2), (0, x3)] h = Run PG (Call PG d) 302 0 [(2, 82), (0, x1), (0, x2), (0, x3)] [] h (0, 0) := rfl
theorem K_303 (d : Nat) (x1 : Int) (x2 : Int) (h : Hp) : Call PG (d + 1) 303 [(2, 82), (0, x1), (0, x2)] h = Run PG (Call PG d) 303 0 [(2, 82), (0, x1), (0, x2)] [] h (0, 0) := rfl
theorem K_304 (d : Nat) (x1 : Int) (x2 : Int) (x3 : Int) (x4 : Int) (h : Hp) : Call PG (d + 1) 304 [(2, 82), (0, x1), (0, x2), (0, x3), (0, x4)] h = Run PG (Call PG d) 304 0 [(2, 82), (0, x1), (0, x2), (0, x3), (0, x4), (9, 0), (9, 0), (9, 0), (9, 0)] [] h (0, 0) := rfl
theorem K_305 (d : Nat) (x1 : Int) (h : Hp) : Call PG (d + 1) 305 [(2, 82), (0, x1)] h = Run PG (Call PG d) 305 0 [(2, 82), (0, x1), (9, 0), (9, 0)] [] h (0, 0) := rfl
theorem K_306 (d : Nat) (x1 : Int) (x2 : Int) (x3 : Int) (x4 : Int) (x5 : Int) (x6 : Int) (x7 : Int) (h : Hp) : Call PG (d + 1) 306 [(2, 82), (0, x1), (0, x2), (0, x3), (0, x4), (0, x5), (0, x6), (0, x7)] h = Run PG (Call PG d) 306 0 [(2, 82), (0, x1), (0, x2), (0, x3), (0, x4), (0, x5), (0, x6), (0, x7)] [] h (0, 0) := rfl
theorem K_307 (d : Nat)  (h : Hp) : Call PG (d + 1) 307 [(2, 82)] h = Run PG (Call PG d) 307 0 [(2, 82), (9, 0), (9, 0), (9, 0)] [] h (0, 0) := rfl
theorem K_308 (d : Nat) (x1 : Int) (h : Hp) : Call PG (d + 1) 308 [(2, 82), (0, x1)] h = Run PG (Call PG d) 308 0 [(2, 82), (0, x1)] [] h (0, 0) := rfl
theorem K_309 (d : Nat) (x1 : Int) (x2 : Int) (h : Hp) : Call PG (d + 1) 309 [(2, 82), (0, x1), (0, x2)] h = Run PG (Call PG d) 309 0 [(2, 82), (0, x1), (0, x2)] [] h (0, 0) := rfl
theorem K_310 (d : Nat) (x1 : Int) (h : Hp) : Call PG (d + 1) 310 [(2, 82), (0, x1)] h = Run PG (Call PG d) 310 0 [(2, 82), (0, x1)] [] h (0, 0) := rfl
theorem K_311 (d : Nat) (x1 : Int) (h : Hp) : Call PG (d + 1) 311 [(2, 82), (0, x1)] h = Run PG (Call PG d) 311 0 [(2, 82), (0, x1), (9, 0)] [] h (0, 0) := rfl
theorem K_312 (d : Nat) (x1 : Int) (h : Hp) : Call PG (d + 1) 312 [(2, 82), (0, x1)] h = Run PG (Call PG d) 312 0 [(2, 82), (0, x1)] [] h (0, 0) := rfl
theorem K_313 (d : Nat) (x1 : Int) (x2 : Int) (h : Hp) : Call PG (d + 1) 313 [(2, 82), (0, x1), (0, x2)] h = Run PG (Call PG d) 313 0 [(2, 82), (0, x1), (0, x2)] [] h (0, 0) := rfl
theorem K_314 (d : Nat) (x1 : Int) (x2 : Int) (x3 : Int) (h : Hp) : Call PG (d + 1) 314 [(2, 82), (0, x1), (0, x2), (0, x3)] h = Run PG (Call PG d) 314 0 [(2, 82), (0, x1), (0, x2), (0, x3), (9, 0), (9, 0)] [] h (0, 0) := rfl
theorem K_315 (d : Nat) (x0 : Int) (x1 : Int) (h : Hp) : Call PG (d + 1) 315 [(0, x0), (0, x1)] h = Run PG (Call PG d) 315 0 [(0, x0), (0, x1)] [] h (0, 0) := rfl
theorem K_316 (d : Nat) (x1 : Int) (h : Hp) : Call PG (d + 1) 316 [(2, 82), (0, x1)] h = Run PG (Call PG d) 316 0 [(2, 82), (0, x1)] [] h (0, 0) := rfl
theorem K_317 (d : Nat) (x1 : Int) (x2 : Int) (x3 : Int) (h : Hp) : Call PG (d + 1) 317 [(2, 82), (0, x1), (0, x2), (0, x3)] h = Run PG (Call PG d) 317 0 [(2, 82), (0, x1), (0, x2), (0, x3), (9, 0), (9, 0)] [] h (0, 0) := rfl
theorem K_318 (d : Nat) (x1 : Int) (h : Hp) : Call PG (d + 1) 318 [(2, 82), (0, x1)] h = Run PG (Call PG d) 318 0 [(2, 82), (0, x1), (9, 0)] [] h (0, 0) := rfl
theorem K_319 (d : Nat) (x1 : Int) (x2 : Int) (x3 : Int) (h : Hp) : Call PG (d + 1) 319 [(2, 82), (0, x1), (0, x2), (0, x3)] h = Run PG (Call PG d) 319 0 [(2, 82), (0, x1), (0, x2), (0, x3)] [] h (0, 0) := rfl
theorem K_320 (d : Nat) (x1 : Int) (h : Hp) : Call PG (d + 1) 320 [(2, 82), (0, x1)] h = Run PG (Call PG d) 320 0 [(2, 82), (0, x1)] [] h (0, 0) := rfl
theorem K_321 (d : Nat) (x1 : Int) (x2 : Int) (h : Hp) : Call PG (d + 1) 321 [(2, 82), (0, x1), (0, x2)] h = Run PG (Call PG d) 321 0 [(2, 82), (0, x1), (0, x2)] [] h (0, 0) := rfl
theorem K_322 (d : Nat) (x1 : Int) (x2 : Int) (x3 : Int) (h : Hp) : Call PG (d + 1) 322 [(2, 82), (0, x1), (0, x2), (0, x3)] h = Run PG (Call PG d) 322 0 [(2, 82), (0, x1), (0, x2), (0, x3), (9, 0), (9, 0)] [] h (0, 0) := rfl
theorem K_323 (d : Nat) (x1 : Int) (x2 : Int) (h : Hp) : Call PG (d + 1) 323 [(2, 82), (0, x1), (0, x2)] h = Run PG (Call PG d) 323 0 [(2, 82), (0, x1), (0, x2), (9, 0), (9, 0), (9, 0), (9, 0)] [] h (0, 0) := rfl
theorem K_324 (d : Nat) (x1 : Int) (h : Hp) : Call PG (d + 1) 324 [(2, 82), (0, x1)] h = Run PG (Call PG d) 324 0 [(2, 82), (0, x1), (9, 0), (9, 0)] [] h (0, 0) := rfl
theorem K_325 (d : Nat) (x1 : Int) (h : Hp) : Call PG (d + 1) 325 [(2, 82), (0, x1)] h = Run PG (Call PG d) 325 0 [(2, 82), (0, x1)] [] h (0, 0) := rfl
theorem K_326 (d : Nat) (x1 : Int) (h : Hp) : Call PG (d + 1) 326 [(2, 82), (0, x1)] h = Run PG (Call PG d) 326 0 [(2, 82), (0, x1), (9, 0), (9, 0), (9, 0), (9, 0), (9, 0), (9, 0), (9, 0), (9, 0)] [] h (0, 0) := rfl
theorem K_327 (d : Nat) (x1 : Int) (h : Hp) : Call PG (d + 1) 327 [(2, 82), (0, x1)] h = Run PG (Call PG d) 327 0 [(2, 82), (0, x1)] [] h (0, 0) := rfl
theorem K_328 (d : Nat) (x1 : Int) (h : Hp) : Call PG (d + 1) 328 [(2, 82), (0, x1)] h = Run PG (Call PG d) 328 0 [(2, 82), (0, x1)] [] h (0, 0) := rfl
theorem K_329 (d : Nat) (x1 : Int) (h : Hp) : Call PG (d + 1) 329 [(2, 82), (0, x1)] h = Run PG (Call PG d) 329 0 [(2, 82), (0, x1)] [] h (0, 0) := rfl
theorem K_330 (d : Nat) (x1 : Int) (x2 : Int) (x3 : Int) (h : Hp) : Call PG (d + 1) 330 [(2, 82), (0, x1), (0, x2), (0, x3)] h = Run PG (Call PG d) 330 0 [(2, 82), (0, x1), (0, x2), (0, x3), (9, 0), (9, 0), (9, 0), (9, 0), (9, 0)] [] h (0, 0) := rfl
theorem K_331 (d : Nat) (x1 : Int) (h : Hp) : Call PG (d + 1) 331 [(2, 82), (0, x1)] h = Run PG (Call PG d) 331 0 [(2, 82), (0, x1), (9, 0)] [] h (0, 0) := rfl
theorem K_332 (d : Nat) (x1 : Int) (x2 : Int) (h : Hp) : Call PG (d + 1) 332 [(2, 82), (0, x1), (0, x2)] h = Run PG (Call PG d) 332 0 [(2, 82), (0, x1), (0, x2)] [] h (0, 0) := rfl
theorem K_333 (d : Nat) (x1 : Int) (x2 : Int) (x3 : Int) (h : Hp) : Call PG (d + 1) 333 [(2, 82), (0, x1), (0, x2), (0, x3)] h = Run PG (Call PG d) 333 0 [(2, 82), (0, x1), (0, x2), (0, x3)] [] h (0, 0) := rfl
theorem K_334 (d : Nat) (x1 : Int) (h : Hp) : Call PG (d + 1) 334 [(2, 82), (0, x1)] h = Run PG (Call PG d) 334 0 [(2, 82), (0, x1)] [] h (0, 0) := rfl
theorem K_335 (d : Nat) (x1 : Int) (h : Hp) : Call PG (d + 1) 335 [(2, 82), (0, x1)] h = Run PG (Call PG d) 335 0 [(2, 82), (0, x1)] [] h (0, 0) := rfl
theorem K_336 (d : Nat)  (h : Hp) : Call PG (d + 1) 336 [(2, 82)] h = Run PG (Call PG d) 336 0 [(2, 82), (9, 0), (9, 0), (9, 0)] [] h (0, 0) := rfl
theorem K_337 (d : Nat) (x1 : Int) (h : Hp) : Call PG (d + 1) 337 [(2, 82), (0, x1)] h = Run PG (Call PG d) 337 0 [(2, 82), (0, x1), (9, 0)] [] h (0, 0) := rfl
theorem K_338 (d : Nat) (x0 : Int) (x1 : Int) (h : Hp) : Call PG (d + 1) 338 [(0, x0), (0, x1)] h = Run PG (Call PG d) 338 0 [(0, x0), (0, x1)] [] h (0, 0) := rfl
theorem K_339 (d : Nat)  (h : Hp) : Call PG (d + 1) 339 [(2, 82)] h = Run PG (Call PG d) 339 0 [(2, 82), (9, 0), (9, 0)] [] h (0, 0) := rfl
theorem K_340 (d : Nat) (x0 : Int) (h : Hp) : Call PG (d + 1) 340 [(0, x0)] h = Run PG (Call PG d) 340 0 [(0, x0), (9, 0), (9, 0)] [] h (0, 0) := rfl
theorem K_341 (d : Nat) (x1 : Int) (x2 : Int) (h : Hp) : Call PG (d + 1) 341 [(2, 82), (0, x1), (0, x2)] h = Run PG (Call PG d) 341 0 [(2, 82), (0, x1), (0, x2)] [] h (0, 0) := rfl
theorem K_342 (d : Nat) (x1 : Int) (h : Hp) : Call PG (d + 1) 342 [(2, 82), (0, x1)] h = Run PG (Call PG d) 342 0 [(2, 82), (0, x1)] [] h (0, 0) := rfl
theorem K_343 (d : Nat) (x0 : Int) (h : Hp) : Call PG (d + 1) 343 [(0, x0)] h = Run PG (Call PG d) 343 0 [(0, x0)] [] h (0, 0) := rfl
theorem K_344 (d : Nat) (x0 : Nat) (x1 : Int) (h : Hp) : Call PG (d + 1) 344 [(2, ((x0 : Nat) : Int)), (0, x1)] h = Run PG (Call PG d) 344 0 [(2, ((x0 : Nat) : Int)), (0, x1), (9, 0), (9, 0)] [] h (0, 0) := rfl
theorem K_346 (d : Nat) (x1 : Int) (x2 : Int) (h : Hp) : Call PG (d + 1) 346 [(2, 22), (0, x1), (0, x2)] h = Run PG (Call PG d) 346 0 [(2, 22), (0, x1), (0, x2)] [] h (0, 0) := rfl
