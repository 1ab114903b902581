abbrev fcg (x y : UInt32) : Int32 := Op.cmpValue (FP.fcmp x y) CmpOp.g
abbrev fcl (x y : UInt32) : Int32 := Op.cmpValue (FP.fcmp x y) CmpOp.l
/-- a truth value as an int -/
def bz (x : Int32) : Prop := x = 0 ∨ x = 1
theorem bz_nar {x : Int32} (h : bz x) : narrow .boolean (.int x) = .int x := by rcases h with rfl | rfl <;> decide +kernel
theorem bz_fit {x : Int32} (h : bz x) : fits .boolean (.int x) = true := by rcases h with rfl | rfl <;> decide +kernel
theorem hp_at {G : va_G} {ws : va_W} {H : Heap} {t : State} (ht : t.heap = H) (hP : va_P G vwCl ws H) : va_P G vwCl ws t.heap := by rw [ht]; exact hP
theorem vin_of {i : Int32} {n j : Nat} (h0 : ¬ i < 0) (hj : i.toNatClampNeg = j) (hn : j < n) : vp_in i n := by
  unfold vp_in
  rintro (h | h)
  · exact h0 h
  · omega
theorem vin_lt {i : Int32} {n : Nat} (h : vp_in i n) : Int32.toNatClampNeg i < n := Nat.not_le.mp fun q => h (Or.inr q)
theorem tc_0 : Int32.toNatClampNeg (0 : Int32) = 0 := by decide +kernel
theorem vi_0 {n : Nat} (h : 0 < n) : vp_in (0 : Int32) n := vin_of (by decide +kernel) tc_0 h
theorem tc_1 : Int32.toNatClampNeg (1 : Int32) = 1 := by decide +kernel
theorem vi_1 {n : Nat} (h : 1 < n) : vp_in (1 : Int32) n := vin_of (by decide +kernel) tc_1 h
theorem tc_2 : Int32.toNatClampNeg (2 : Int32) = 2 := by decide +kernel
theorem vi_2 {n : Nat} (h : 2 < n) : vp_in (2 : Int32) n := vin_of (by decide +kernel) tc_2 h
theorem tc_3 : Int32.toNatClampNeg (3 : Int32) = 3 := by decide +kernel
theorem vi_3 {n : Nat} (h : 3 < n) : vp_in (3 : Int32) n := vin_of (by decide +kernel) tc_3 h
theorem tc_4 : Int32.toNatClampNeg (4 : Int32) = 4 := by decide +kernel
theorem vi_4 {n : Nat} (h : 4 < n) : vp_in (4 : Int32) n := vin_of (by decide +kernel) tc_4 h
theorem tc_5 : Int32.toNatClampNeg (5 : Int32) = 5 := by decide +kernel
theorem vi_5 {n : Nat} (h : 5 < n) : vp_in (5 : Int32) n := vin_of (by decide +kernel) tc_5 h
theorem tc_6 : Int32.toNatClampNeg (6 : Int32) = 6 := by decide +kernel
theorem vi_6 {n : Nat} (h : 6 < n) : vp_in (6 : Int32) n := vin_of (by decide +kernel) tc_6 h
theorem tc_7 : Int32.toNatClampNeg (7 : Int32) = 7 := by decide +kernel
theorem vi_7 {n : Nat} (h : 7 < n) : vp_in (7 : Int32) n := vin_of (by decide +kernel) tc_7 h
theorem tc_8 : Int32.toNatClampNeg (8 : Int32) = 8 := by decide +kernel
theorem vi_8 {n : Nat} (h : 8 < n) : vp_in (8 : Int32) n := vin_of (by decide +kernel) tc_8 h
theorem tc_9 : Int32.toNatClampNeg (9 : Int32) = 9 := by decide +kernel
theorem vi_9 {n : Nat} (h : 9 < n) : vp_in (9 : Int32) n := vin_of (by decide +kernel) tc_9 h
theorem tc_10 : Int32.toNatClampNeg (10 : Int32) = 10 := by decide +kernel
theorem vi_10 {n : Nat} (h : 10 < n) : vp_in (10 : Int32) n := vin_of (by decide +kernel) tc_10 h
theorem tc_11 : Int32.toNatClampNeg (11 : Int32) = 11 := by decide +kernel
theorem vi_11 {n : Nat} (h : 11 < n) : vp_in (11 : Int32) n := vin_of (by decide +kernel) tc_11 h
theorem tc_12 : Int32.toNatClampNeg (12 : Int32) = 12 := by decide +kernel
theorem vi_12 {n : Nat} (h : 12 < n) : vp_in (12 : Int32) n := vin_of (by decide +kernel) tc_12 h
theorem tc_13 : Int32.toNatClampNeg (13 : Int32) = 13 := by decide +kernel
theorem vi_13 {n : Nat} (h : 13 < n) : vp_in (13 : Int32) n := vin_of (by decide +kernel) tc_13 h
theorem tc_14 : Int32.toNatClampNeg (14 : Int32) = 14 := by decide +kernel
theorem vi_14 {n : Nat} (h : 14 < n) : vp_in (14 : Int32) n := vin_of (by decide +kernel) tc_14 h
theorem tc_15 : Int32.toNatClampNeg (15 : Int32) = 15 := by decide +kernel
theorem vi_15 {n : Nat} (h : 15 < n) : vp_in (15 : Int32) n := vin_of (by decide +kernel) tc_15 h
theorem tc_16 : Int32.toNatClampNeg (16 : Int32) = 16 := by decide +kernel
theorem vi_16 {n : Nat} (h : 16 < n) : vp_in (16 : Int32) n := vin_of (by decide +kernel) tc_16 h
theorem tc_17 : Int32.toNatClampNeg (17 : Int32) = 17 := by decide +kernel
theorem vi_17 {n : Nat} (h : 17 < n) : vp_in (17 : Int32) n := vin_of (by decide +kernel) tc_17 h
theorem tc_18 : Int32.toNatClampNeg (18 : Int32) = 18 := by decide +kernel
theorem vi_18 {n : Nat} (h : 18 < n) : vp_in (18 : Int32) n := vin_of (by decide +kernel) tc_18 h
theorem tc_19 : Int32.toNatClampNeg (19 : Int32) = 19 := by decide +kernel
theorem vi_19 {n : Nat} (h : 19 < n) : vp_in (19 : Int32) n := vin_of (by decide +kernel) tc_19 h
theorem tc_20 : Int32.toNatClampNeg (20 : Int32) = 20 := by decide +kernel
theorem vi_20 {n : Nat} (h : 20 < n) : vp_in (20 : Int32) n := vin_of (by decide +kernel) tc_20 h
theorem tc_21 : Int32.toNatClampNeg (21 : Int32) = 21 := by decide +kernel
theorem vi_21 {n : Nat} (h : 21 < n) : vp_in (21 : Int32) n := vin_of (by decide +kernel) tc_21 h
theorem tc_22 : Int32.toNatClampNeg (22 : Int32) = 22 := by decide +kernel
theorem vi_22 {n : Nat} (h : 22 < n) : vp_in (22 : Int32) n := vin_of (by decide +kernel) tc_22 h
theorem tc_23 : Int32.toNatClampNeg (23 : Int32) = 23 := by decide +kernel
theorem vi_23 {n : Nat} (h : 23 < n) : vp_in (23 : Int32) n := vin_of (by decide +kernel) tc_23 h
theorem tc_24 : Int32.toNatClampNeg (24 : Int32) = 24 := by decide +kernel
theorem vi_24 {n : Nat} (h : 24 < n) : vp_in (24 : Int32) n := vin_of (by decide +kernel) tc_24 h
theorem tc_25 : Int32.toNatClampNeg (25 : Int32) = 25 := by decide +kernel
theorem vi_25 {n : Nat} (h : 25 < n) : vp_in (25 : Int32) n := vin_of (by decide +kernel) tc_25 h
theorem tc_26 : Int32.toNatClampNeg (26 : Int32) = 26 := by decide +kernel
theorem vi_26 {n : Nat} (h : 26 < n) : vp_in (26 : Int32) n := vin_of (by decide +kernel) tc_26 h
theorem tc_27 : Int32.toNatClampNeg (27 : Int32) = 27 := by decide +kernel
theorem vi_27 {n : Nat} (h : 27 < n) : vp_in (27 : Int32) n := vin_of (by decide +kernel) tc_27 h
theorem tc_28 : Int32.toNatClampNeg (28 : Int32) = 28 := by decide +kernel
theorem vi_28 {n : Nat} (h : 28 < n) : vp_in (28 : Int32) n := vin_of (by decide +kernel) tc_28 h
theorem tc_29 : Int32.toNatClampNeg (29 : Int32) = 29 := by decide +kernel
theorem vi_29 {n : Nat} (h : 29 < n) : vp_in (29 : Int32) n := vin_of (by decide +kernel) tc_29 h
theorem tc_30 : Int32.toNatClampNeg (30 : Int32) = 30 := by decide +kernel
theorem vi_30 {n : Nat} (h : 30 < n) : vp_in (30 : Int32) n := vin_of (by decide +kernel) tc_30 h
theorem tc_31 : Int32.toNatClampNeg (31 : Int32) = 31 := by decide +kernel
theorem vi_31 {n : Nat} (h : 31 < n) : vp_in (31 : Int32) n := vin_of (by decide +kernel) tc_31 h
theorem tc_32 : Int32.toNatClampNeg (32 : Int32) = 32 := by decide +kernel
theorem vi_32 {n : Nat} (h : 32 < n) : vp_in (32 : Int32) n := vin_of (by decide +kernel) tc_32 h
theorem tc_33 : Int32.toNatClampNeg (33 : Int32) = 33 := by decide +kernel
theorem vi_33 {n : Nat} (h : 33 < n) : vp_in (33 : Int32) n := vin_of (by decide +kernel) tc_33 h
theorem tc_34 : Int32.toNatClampNeg (34 : Int32) = 34 := by decide +kernel
theorem vi_34 {n : Nat} (h : 34 < n) : vp_in (34 : Int32) n := vin_of (by decide +kernel) tc_34 h
theorem tc_35 : Int32.toNatClampNeg (35 : Int32) = 35 := by decide +kernel
theorem vi_35 {n : Nat} (h : 35 < n) : vp_in (35 : Int32) n := vin_of (by decide +kernel) tc_35 h
theorem tc_36 : Int32.toNatClampNeg (36 : Int32) = 36 := by decide +kernel
theorem vi_36 {n : Nat} (h : 36 < n) : vp_in (36 : Int32) n := vin_of (by decide +kernel) tc_36 h
theorem tc_37 : Int32.toNatClampNeg (37 : Int32) = 37 := by decide +kernel
theorem vi_37 {n : Nat} (h : 37 < n) : vp_in (37 : Int32) n := vin_of (by decide +kernel) tc_37 h
theorem tc_38 : Int32.toNatClampNeg (38 : Int32) = 38 := by decide +kernel
theorem vi_38 {n : Nat} (h : 38 < n) : vp_in (38 : Int32) n := vin_of (by decide +kernel) tc_38 h
theorem tc_39 : Int32.toNatClampNeg (39 : Int32) = 39 := by decide +kernel
theorem vi_39 {n : Nat} (h : 39 < n) : vp_in (39 : Int32) n := vin_of (by decide +kernel) tc_39 h
theorem tc_40 : Int32.toNatClampNeg (40 : Int32) = 40 := by decide +kernel
theorem vi_40 {n : Nat} (h : 40 < n) : vp_in (40 : Int32) n := vin_of (by decide +kernel) tc_40 h
theorem tc_41 : Int32.toNatClampNeg (41 : Int32) = 41 := by decide +kernel
theorem vi_41 {n : Nat} (h : 41 < n) : vp_in (41 : Int32) n := vin_of (by decide +kernel) tc_41 h
theorem tc_42 : Int32.toNatClampNeg (42 : Int32) = 42 := by decide +kernel
theorem vi_42 {n : Nat} (h : 42 < n) : vp_in (42 : Int32) n := vin_of (by decide +kernel) tc_42 h
theorem tc_43 : Int32.toNatClampNeg (43 : Int32) = 43 := by decide +kernel
theorem vi_43 {n : Nat} (h : 43 < n) : vp_in (43 : Int32) n := vin_of (by decide +kernel) tc_43 h
theorem tc_44 : Int32.toNatClampNeg (44 : Int32) = 44 := by decide +kernel
theorem vi_44 {n : Nat} (h : 44 < n) : vp_in (44 : Int32) n := vin_of (by decide +kernel) tc_44 h
theorem tc_45 : Int32.toNatClampNeg (45 : Int32) = 45 := by decide +kernel
theorem vi_45 {n : Nat} (h : 45 < n) : vp_in (45 : Int32) n := vin_of (by decide +kernel) tc_45 h
theorem tc_46 : Int32.toNatClampNeg (46 : Int32) = 46 := by decide +kernel
theorem vi_46 {n : Nat} (h : 46 < n) : vp_in (46 : Int32) n := vin_of (by decide +kernel) tc_46 h
theorem tc_47 : Int32.toNatClampNeg (47 : Int32) = 47 := by decide +kernel
theorem vi_47 {n : Nat} (h : 47 < n) : vp_in (47 : Int32) n := vin_of (by decide +kernel) tc_47 h
theorem tc_48 : Int32.toNatClampNeg (48 : Int32) = 48 := by decide +kernel
theorem vi_48 {n : Nat} (h : 48 < n) : vp_in (48 : Int32) n := vin_of (by decide +kernel) tc_48 h
theorem tc_49 : Int32.toNatClampNeg (49 : Int32) = 49 := by decide +kernel
theorem vi_49 {n : Nat} (h : 49 < n) : vp_in (49 : Int32) n := vin_of (by decide +kernel) tc_49 h
theorem tc_50 : Int32.toNatClampNeg (50 : Int32) = 50 := by decide +kernel
theorem vi_50 {n : Nat} (h : 50 < n) : vp_in (50 : Int32) n := vin_of (by decide +kernel) tc_50 h
theorem tc_51 : Int32.toNatClampNeg (51 : Int32) = 51 := by decide +kernel
theorem vi_51 {n : Nat} (h : 51 < n) : vp_in (51 : Int32) n := vin_of (by decide +kernel) tc_51 h
theorem tc_52 : Int32.toNatClampNeg (52 : Int32) = 52 := by decide +kernel
theorem vi_52 {n : Nat} (h : 52 < n) : vp_in (52 : Int32) n := vin_of (by decide +kernel) tc_52 h
theorem tc_53 : Int32.toNatClampNeg (53 : Int32) = 53 := by decide +kernel
theorem vi_53 {n : Nat} (h : 53 < n) : vp_in (53 : Int32) n := vin_of (by decide +kernel) tc_53 h
theorem tc_54 : Int32.toNatClampNeg (54 : Int32) = 54 := by decide +kernel
theorem vi_54 {n : Nat} (h : 54 < n) : vp_in (54 : Int32) n := vin_of (by decide +kernel) tc_54 h
theorem tc_55 : Int32.toNatClampNeg (55 : Int32) = 55 := by decide +kernel
theorem vi_55 {n : Nat} (h : 55 < n) : vp_in (55 : Int32) n := vin_of (by decide +kernel) tc_55 h
theorem tc_56 : Int32.toNatClampNeg (56 : Int32) = 56 := by decide +kernel
theorem vi_56 {n : Nat} (h : 56 < n) : vp_in (56 : Int32) n := vin_of (by decide +kernel) tc_56 h
theorem tc_57 : Int32.toNatClampNeg (57 : Int32) = 57 := by decide +kernel
theorem vi_57 {n : Nat} (h : 57 < n) : vp_in (57 : Int32) n := vin_of (by decide +kernel) tc_57 h
theorem tc_58 : Int32.toNatClampNeg (58 : Int32) = 58 := by decide +kernel
theorem vi_58 {n : Nat} (h : 58 < n) : vp_in (58 : Int32) n := vin_of (by decide +kernel) tc_58 h
theorem tc_59 : Int32.toNatClampNeg (59 : Int32) = 59 := by decide +kernel
theorem vi_59 {n : Nat} (h : 59 < n) : vp_in (59 : Int32) n := vin_of (by decide +kernel) tc_59 h
theorem tc_60 : Int32.toNatClampNeg (60 : Int32) = 60 := by decide +kernel
theorem vi_60 {n : Nat} (h : 60 < n) : vp_in (60 : Int32) n := vin_of (by decide +kernel) tc_60 h
theorem tc_61 : Int32.toNatClampNeg (61 : Int32) = 61 := by decide +kernel
theorem vi_61 {n : Nat} (h : 61 < n) : vp_in (61 : Int32) n := vin_of (by decide +kernel) tc_61 h
theorem tc_62 : Int32.toNatClampNeg (62 : Int32) = 62 := by decide +kernel
theorem vi_62 {n : Nat} (h : 62 < n) : vp_in (62 : Int32) n := vin_of (by decide +kernel) tc_62 h
theorem tc_63 : Int32.toNatClampNeg (63 : Int32) = 63 := by decide +kernel
theorem vi_63 {n : Nat} (h : 63 < n) : vp_in (63 : Int32) n := vin_of (by decide +kernel) tc_63 h
theorem tc_64 : Int32.toNatClampNeg (64 : Int32) = 64 := by decide +kernel
theorem vi_64 {n : Nat} (h : 64 < n) : vp_in (64 : Int32) n := vin_of (by decide +kernel) tc_64 h
theorem tc_65 : Int32.toNatClampNeg (65 : Int32) = 65 := by decide +kernel
theorem vi_65 {n : Nat} (h : 65 < n) : vp_in (65 : Int32) n := vin_of (by decide +kernel) tc_65 h
theorem tc_66 : Int32.toNatClampNeg (66 : Int32) = 66 := by decide +kernel
theorem vi_66 {n : Nat} (h : 66 < n) : vp_in (66 : Int32) n := vin_of (by decide +kernel) tc_66 h
theorem tc_67 : Int32.toNatClampNeg (67 : Int32) = 67 := by decide +kernel
theorem vi_67 {n : Nat} (h : 67 < n) : vp_in (67 : Int32) n := vin_of (by decide +kernel) tc_67 h
theorem tc_68 : Int32.toNatClampNeg (68 : Int32) = 68 := by decide +kernel
theorem vi_68 {n : Nat} (h : 68 < n) : vp_in (68 : Int32) n := vin_of (by decide +kernel) tc_68 h
theorem tc_69 : Int32.toNatClampNeg (69 : Int32) = 69 := by decide +kernel
theorem vi_69 {n : Nat} (h : 69 < n) : vp_in (69 : Int32) n := vin_of (by decide +kernel) tc_69 h
theorem tc_70 : Int32.toNatClampNeg (70 : Int32) = 70 := by decide +kernel
theorem vi_70 {n : Nat} (h : 70 < n) : vp_in (70 : Int32) n := vin_of (by decide +kernel) tc_70 h
theorem tc_71 : Int32.toNatClampNeg (71 : Int32) = 71 := by decide +kernel
theorem vi_71 {n : Nat} (h : 71 < n) : vp_in (71 : Int32) n := vin_of (by decide +kernel) tc_71 h
theorem tc_72 : Int32.toNatClampNeg (72 : Int32) = 72 := by decide +kernel
theorem vi_72 {n : Nat} (h : 72 < n) : vp_in (72 : Int32) n := vin_of (by decide +kernel) tc_72 h
theorem tc_73 : Int32.toNatClampNeg (73 : Int32) = 73 := by decide +kernel
theorem vi_73 {n : Nat} (h : 73 < n) : vp_in (73 : Int32) n := vin_of (by decide +kernel) tc_73 h
theorem tc_74 : Int32.toNatClampNeg (74 : Int32) = 74 := by decide +kernel
theorem vi_74 {n : Nat} (h : 74 < n) : vp_in (74 : Int32) n := vin_of (by decide +kernel) tc_74 h
theorem tc_75 : Int32.toNatClampNeg (75 : Int32) = 75 := by decide +kernel
theorem vi_75 {n : Nat} (h : 75 < n) : vp_in (75 : Int32) n := vin_of (by decide +kernel) tc_75 h
theorem tc_76 : Int32.toNatClampNeg (76 : Int32) = 76 := by decide +kernel
theorem vi_76 {n : Nat} (h : 76 < n) : vp_in (76 : Int32) n := vin_of (by decide +kernel) tc_76 h
theorem tc_77 : Int32.toNatClampNeg (77 : Int32) = 77 := by decide +kernel
theorem vi_77 {n : Nat} (h : 77 < n) : vp_in (77 : Int32) n := vin_of (by decide +kernel) tc_77 h
theorem tc_78 : Int32.toNatClampNeg (78 : Int32) = 78 := by decide +kernel
theorem vi_78 {n : Nat} (h : 78 < n) : vp_in (78 : Int32) n := vin_of (by decide +kernel) tc_78 h
theorem tc_79 : Int32.toNatClampNeg (79 : Int32) = 79 := by decide +kernel
theorem vi_79 {n : Nat} (h : 79 < n) : vp_in (79 : Int32) n := vin_of (by decide +kernel) tc_79 h
theorem tc_80 : Int32.toNatClampNeg (80 : Int32) = 80 := by decide +kernel
theorem vi_80 {n : Nat} (h : 80 < n) : vp_in (80 : Int32) n := vin_of (by decide +kernel) tc_80 h
theorem tc_160 : Int32.toNatClampNeg (160 : Int32) = 160 := by decide +kernel
theorem tc_320 : Int32.toNatClampNeg (320 : Int32) = 320 := by decide +kernel
theorem ydL_any : yL_any.cls ≠ "java/lang/invoke/MethodHandle" ∧ yL_any.cls ≠ "java/lang/invoke/VarHandle" ∧ (parseMethodDescriptor yL_any.desc).map (fun d => d.parameters.length) = some 3 := by decide +kernel
theorem ydL_cell : yL_cell.cls ≠ "java/lang/invoke/MethodHandle" ∧ yL_cell.cls ≠ "java/lang/invoke/VarHandle" ∧ (parseMethodDescriptor yL_cell.desc).map (fun d => d.parameters.length) = some 2 := by decide +kernel
theorem ydL_comesTrue : yL_comesTrue.cls ≠ "java/lang/invoke/MethodHandle" ∧ yL_comesTrue.cls ≠ "java/lang/invoke/VarHandle" ∧ (parseMethodDescriptor yL_comesTrue.desc).map (fun d => d.parameters.length) = some 3 := by decide +kernel
theorem ydL_isRight : yL_isRight.cls ≠ "java/lang/invoke/MethodHandle" ∧ yL_isRight.cls ≠ "java/lang/invoke/VarHandle" ∧ (parseMethodDescriptor yL_isRight.desc).map (fun d => d.parameters.length) = some 1 := by decide +kernel
theorem ydL_isSaved : yL_isSaved.cls ≠ "java/lang/invoke/MethodHandle" ∧ yL_isSaved.cls ≠ "java/lang/invoke/VarHandle" ∧ (parseMethodDescriptor yL_isSaved.desc).map (fun d => d.parameters.length) = some 3 := by decide +kernel
theorem ydL_isUndone : yL_isUndone.cls ≠ "java/lang/invoke/MethodHandle" ∧ yL_isUndone.cls ≠ "java/lang/invoke/VarHandle" ∧ (parseMethodDescriptor yL_isUndone.desc).map (fun d => d.parameters.length) = some 6 := by decide +kernel
theorem ydL_law : yL_law.cls ≠ "java/lang/invoke/MethodHandle" ∧ yL_law.cls ≠ "java/lang/invoke/VarHandle" ∧ (parseMethodDescriptor yL_law.desc).map (fun d => d.parameters.length) = some 1 := by decide +kernel
theorem ydL_turn : yL_turn.cls ≠ "java/lang/invoke/MethodHandle" ∧ yL_turn.cls ≠ "java/lang/invoke/VarHandle" ∧ (parseMethodDescriptor yL_turn.desc).map (fun d => d.parameters.length) = some 4 := by decide +kernel
theorem ydL_up : yL_up.cls ≠ "java/lang/invoke/MethodHandle" ∧ yL_up.cls ≠ "java/lang/invoke/VarHandle" ∧ (parseMethodDescriptor yL_up.desc).map (fun d => d.parameters.length) = some 2 := by decide +kernel
theorem ydL_view : yL_view.cls ≠ "java/lang/invoke/MethodHandle" ∧ yL_view.cls ≠ "java/lang/invoke/VarHandle" ∧ (parseMethodDescriptor yL_view.desc).map (fun d => d.parameters.length) = some 1 := by decide +kernel
theorem ydX0_init : yX0_init.cls ≠ "java/lang/invoke/MethodHandle" ∧ yX0_init.cls ≠ "java/lang/invoke/VarHandle" ∧ (parseMethodDescriptor yX0_init.desc).map (fun d => d.parameters.length) = some 0 := by decide +kernel
theorem ydX1_dropOldest : yX1_dropOldest.cls ≠ "java/lang/invoke/MethodHandle" ∧ yX1_dropOldest.cls ≠ "java/lang/invoke/VarHandle" ∧ (parseMethodDescriptor yX1_dropOldest.desc).map (fun d => d.parameters.length) = some 0 := by decide +kernel
theorem ydX1_init : yX1_init.cls ≠ "java/lang/invoke/MethodHandle" ∧ yX1_init.cls ≠ "java/lang/invoke/VarHandle" ∧ (parseMethodDescriptor yX1_init.desc).map (fun d => d.parameters.length) = some 0 := by decide +kernel
theorem ydX1_keep : yX1_keep.cls ≠ "java/lang/invoke/MethodHandle" ∧ yX1_keep.cls ≠ "java/lang/invoke/VarHandle" ∧ (parseMethodDescriptor yX1_keep.desc).map (fun d => d.parameters.length) = some 1 := by decide +kernel
theorem ydX1_takeLatest : yX1_takeLatest.cls ≠ "java/lang/invoke/MethodHandle" ∧ yX1_takeLatest.cls ≠ "java/lang/invoke/VarHandle" ∧ (parseMethodDescriptor yX1_takeLatest.desc).map (fun d => d.parameters.length) = some 1 := by decide +kernel
theorem ydX2_copyFrom : yX2_copyFrom.cls ≠ "java/lang/invoke/MethodHandle" ∧ yX2_copyFrom.cls ≠ "java/lang/invoke/VarHandle" ∧ (parseMethodDescriptor yX2_copyFrom.desc).map (fun d => d.parameters.length) = some 1 := by decide +kernel
theorem ydX2_hasRoomFor : yX2_hasRoomFor.cls ≠ "java/lang/invoke/MethodHandle" ∧ yX2_hasRoomFor.cls ≠ "java/lang/invoke/VarHandle" ∧ (parseMethodDescriptor yX2_hasRoomFor.desc).map (fun d => d.parameters.length) = some 1 := by decide +kernel
theorem ydX2_indexFor : yX2_indexFor.cls ≠ "java/lang/invoke/MethodHandle" ∧ yX2_indexFor.cls ≠ "java/lang/invoke/VarHandle" ∧ (parseMethodDescriptor yX2_indexFor.desc).map (fun d => d.parameters.length) = some 1 := by decide +kernel
theorem ydX2_init : yX2_init.cls ≠ "java/lang/invoke/MethodHandle" ∧ yX2_init.cls ≠ "java/lang/invoke/VarHandle" ∧ (parseMethodDescriptor yX2_init.desc).map (fun d => d.parameters.length) = some 0 := by decide +kernel
theorem ydX2_limitAt : yX2_limitAt.cls ≠ "java/lang/invoke/MethodHandle" ∧ yX2_limitAt.cls ≠ "java/lang/invoke/VarHandle" ∧ (parseMethodDescriptor yX2_limitAt.desc).map (fun d => d.parameters.length) = some 1 := by decide +kernel
theorem ydX2_put : yX2_put.cls ≠ "java/lang/invoke/MethodHandle" ∧ yX2_put.cls ≠ "java/lang/invoke/VarHandle" ∧ (parseMethodDescriptor yX2_put.desc).map (fun d => d.parameters.length) = some 2 := by decide +kernel
theorem ydX3_compare : yX3_compare.cls ≠ "java/lang/invoke/MethodHandle" ∧ yX3_compare.cls ≠ "java/lang/invoke/VarHandle" ∧ (parseMethodDescriptor yX3_compare.desc).map (fun d => d.parameters.length) = some 1 := by decide +kernel
theorem ydX3_copyFrom : yX3_copyFrom.cls ≠ "java/lang/invoke/MethodHandle" ∧ yX3_copyFrom.cls ≠ "java/lang/invoke/VarHandle" ∧ (parseMethodDescriptor yX3_copyFrom.desc).map (fun d => d.parameters.length) = some 1 := by decide +kernel
theorem ydX3_farMeasured : yX3_farMeasured.cls ≠ "java/lang/invoke/MethodHandle" ∧ yX3_farMeasured.cls ≠ "java/lang/invoke/VarHandle" ∧ (parseMethodDescriptor yX3_farMeasured.desc).map (fun d => d.parameters.length) = some 1 := by decide +kernel
theorem ydX3_init : yX3_init.cls ≠ "java/lang/invoke/MethodHandle" ∧ yX3_init.cls ≠ "java/lang/invoke/VarHandle" ∧ (parseMethodDescriptor yX3_init.desc).map (fun d => d.parameters.length) = some 0 := by decide +kernel
theorem ydX3_measured : yX3_measured.cls ≠ "java/lang/invoke/MethodHandle" ∧ yX3_measured.cls ≠ "java/lang/invoke/VarHandle" ∧ (parseMethodDescriptor yX3_measured.desc).map (fun d => d.parameters.length) = some 1 := by decide +kernel
theorem ydX3_nearMeasured : yX3_nearMeasured.cls ≠ "java/lang/invoke/MethodHandle" ∧ yX3_nearMeasured.cls ≠ "java/lang/invoke/VarHandle" ∧ (parseMethodDescriptor yX3_nearMeasured.desc).map (fun d => d.parameters.length) = some 1 := by decide +kernel
theorem ydX3_startFar : yX3_startFar.cls ≠ "java/lang/invoke/MethodHandle" ∧ yX3_startFar.cls ≠ "java/lang/invoke/VarHandle" ∧ (parseMethodDescriptor yX3_startFar.desc).map (fun d => d.parameters.length) = some 0 := by decide +kernel
theorem ydX4_accelerationAcross : yX4_accelerationAcross.cls ≠ "java/lang/invoke/MethodHandle" ∧ yX4_accelerationAcross.cls ≠ "java/lang/invoke/VarHandle" ∧ (parseMethodDescriptor yX4_accelerationAcross.desc).map (fun d => d.parameters.length) = some 0 := by decide +kernel
theorem ydX4_accelerationAlong : yX4_accelerationAlong.cls ≠ "java/lang/invoke/MethodHandle" ∧ yX4_accelerationAlong.cls ≠ "java/lang/invoke/VarHandle" ∧ (parseMethodDescriptor yX4_accelerationAlong.desc).map (fun d => d.parameters.length) = some 1 := by decide +kernel
theorem ydX4_arrive : yX4_arrive.cls ≠ "java/lang/invoke/MethodHandle" ∧ yX4_arrive.cls ≠ "java/lang/invoke/VarHandle" ∧ (parseMethodDescriptor yX4_arrive.desc).map (fun d => d.parameters.length) = some 0 := by decide +kernel
theorem ydX4_carryOut : yX4_carryOut.cls ≠ "java/lang/invoke/MethodHandle" ∧ yX4_carryOut.cls ≠ "java/lang/invoke/VarHandle" ∧ (parseMethodDescriptor yX4_carryOut.desc).map (fun d => d.parameters.length) = some 2 := by decide +kernel
theorem ydX4_copyFrom : yX4_copyFrom.cls ≠ "java/lang/invoke/MethodHandle" ∧ yX4_copyFrom.cls ≠ "java/lang/invoke/VarHandle" ∧ (parseMethodDescriptor yX4_copyFrom.desc).map (fun d => d.parameters.length) = some 1 := by decide +kernel
theorem ydX4_countStrikes : yX4_countStrikes.cls ≠ "java/lang/invoke/MethodHandle" ∧ yX4_countStrikes.cls ≠ "java/lang/invoke/VarHandle" ∧ (parseMethodDescriptor yX4_countStrikes.desc).map (fun d => d.parameters.length) = some 1 := by decide +kernel
theorem ydX4_enter : yX4_enter.cls ≠ "java/lang/invoke/MethodHandle" ∧ yX4_enter.cls ≠ "java/lang/invoke/VarHandle" ∧ (parseMethodDescriptor yX4_enter.desc).map (fun d => d.parameters.length) = some 1 := by decide +kernel
theorem ydX4_errorOf : yX4_errorOf.cls ≠ "java/lang/invoke/MethodHandle" ∧ yX4_errorOf.cls ≠ "java/lang/invoke/VarHandle" ∧ (parseMethodDescriptor yX4_errorOf.desc).map (fun d => d.parameters.length) = some 2 := by decide +kernel
theorem ydX4_hasArrived : yX4_hasArrived.cls ≠ "java/lang/invoke/MethodHandle" ∧ yX4_hasArrived.cls ≠ "java/lang/invoke/VarHandle" ∧ (parseMethodDescriptor yX4_hasArrived.desc).map (fun d => d.parameters.length) = some 0 := by decide +kernel
theorem ydX4_hasUnsafeDrift : yX4_hasUnsafeDrift.cls ≠ "java/lang/invoke/MethodHandle" ∧ yX4_hasUnsafeDrift.cls ≠ "java/lang/invoke/VarHandle" ∧ (parseMethodDescriptor yX4_hasUnsafeDrift.desc).map (fun d => d.parameters.length) = some 1 := by decide +kernel
theorem ydX4_heldToGreatest : yX4_heldToGreatest.cls ≠ "java/lang/invoke/MethodHandle" ∧ yX4_heldToGreatest.cls ≠ "java/lang/invoke/VarHandle" ∧ (parseMethodDescriptor yX4_heldToGreatest.desc).map (fun d => d.parameters.length) = some 1 := by decide +kernel
theorem ydX4_hold : yX4_hold.cls ≠ "java/lang/invoke/MethodHandle" ∧ yX4_hold.cls ≠ "java/lang/invoke/VarHandle" ∧ (parseMethodDescriptor yX4_hold.desc).map (fun d => d.parameters.length) = some 2 := by decide +kernel
theorem ydX4_holdAtStopReached : yX4_holdAtStopReached.cls ≠ "java/lang/invoke/MethodHandle" ∧ yX4_holdAtStopReached.cls ≠ "java/lang/invoke/VarHandle" ∧ (parseMethodDescriptor yX4_holdAtStopReached.desc).map (fun d => d.parameters.length) = some 0 := by decide +kernel
theorem ydX4_init : yX4_init.cls ≠ "java/lang/invoke/MethodHandle" ∧ yX4_init.cls ≠ "java/lang/invoke/VarHandle" ∧ (parseMethodDescriptor yX4_init.desc).map (fun d => d.parameters.length) = some 0 := by decide +kernel
theorem ydX4_isTooFast : yX4_isTooFast.cls ≠ "java/lang/invoke/MethodHandle" ∧ yX4_isTooFast.cls ≠ "java/lang/invoke/VarHandle" ∧ (parseMethodDescriptor yX4_isTooFast.desc).map (fun d => d.parameters.length) = some 1 := by decide +kernel
theorem ydX4_judge : yX4_judge.cls ≠ "java/lang/invoke/MethodHandle" ∧ yX4_judge.cls ≠ "java/lang/invoke/VarHandle" ∧ (parseMethodDescriptor yX4_judge.desc).map (fun d => d.parameters.length) = some 0 := by decide +kernel
theorem ydX4_passSecond : yX4_passSecond.cls ≠ "java/lang/invoke/MethodHandle" ∧ yX4_passSecond.cls ≠ "java/lang/invoke/VarHandle" ∧ (parseMethodDescriptor yX4_passSecond.desc).map (fun d => d.parameters.length) = some 0 := by decide +kernel
theorem ydX4_putShip : yX4_putShip.cls ≠ "java/lang/invoke/MethodHandle" ∧ yX4_putShip.cls ≠ "java/lang/invoke/VarHandle" ∧ (parseMethodDescriptor yX4_putShip.desc).map (fun d => d.parameters.length) = some 4 := by decide +kernel
theorem ydX4_startApproach : yX4_startApproach.cls ≠ "java/lang/invoke/MethodHandle" ∧ yX4_startApproach.cls ≠ "java/lang/invoke/VarHandle" ∧ (parseMethodDescriptor yX4_startApproach.desc).map (fun d => d.parameters.length) = some 0 := by decide +kernel
theorem ydX4_wantedSpeed : yX4_wantedSpeed.cls ≠ "java/lang/invoke/MethodHandle" ∧ yX4_wantedSpeed.cls ≠ "java/lang/invoke/VarHandle" ∧ (parseMethodDescriptor yX4_wantedSpeed.desc).map (fun d => d.parameters.length) = some 0 := by decide +kernel
theorem ydX5_addClosed : yX5_addClosed.cls ≠ "java/lang/invoke/MethodHandle" ∧ yX5_addClosed.cls ≠ "java/lang/invoke/VarHandle" ∧ (parseMethodDescriptor yX5_addClosed.desc).map (fun d => d.parameters.length) = some 1 := by decide +kernel
theorem ydX5_closedNear : yX5_closedNear.cls ≠ "java/lang/invoke/MethodHandle" ∧ yX5_closedNear.cls ≠ "java/lang/invoke/VarHandle" ∧ (parseMethodDescriptor yX5_closedNear.desc).map (fun d => d.parameters.length) = some 1 := by decide +kernel
theorem ydX5_copyFrom : yX5_copyFrom.cls ≠ "java/lang/invoke/MethodHandle" ∧ yX5_copyFrom.cls ≠ "java/lang/invoke/VarHandle" ∧ (parseMethodDescriptor yX5_copyFrom.desc).map (fun d => d.parameters.length) = some 1 := by decide +kernel
theorem ydX5_countClosed : yX5_countClosed.cls ≠ "java/lang/invoke/MethodHandle" ∧ yX5_countClosed.cls ≠ "java/lang/invoke/VarHandle" ∧ (parseMethodDescriptor yX5_countClosed.desc).map (fun d => d.parameters.length) = some 0 := by decide +kernel
theorem ydX5_errorOfOpening : yX5_errorOfOpening.cls ≠ "java/lang/invoke/MethodHandle" ∧ yX5_errorOfOpening.cls ≠ "java/lang/invoke/VarHandle" ∧ (parseMethodDescriptor yX5_errorOfOpening.desc).map (fun d => d.parameters.length) = some 1 := by decide +kernel
theorem ydX5_has : yX5_has.cls ≠ "java/lang/invoke/MethodHandle" ∧ yX5_has.cls ≠ "java/lang/invoke/VarHandle" ∧ (parseMethodDescriptor yX5_has.desc).map (fun d => d.parameters.length) = some 1 := by decide +kernel
theorem ydX5_init : yX5_init.cls ≠ "java/lang/invoke/MethodHandle" ∧ yX5_init.cls ≠ "java/lang/invoke/VarHandle" ∧ (parseMethodDescriptor yX5_init.desc).map (fun d => d.parameters.length) = some 0 := by decide +kernel
theorem ydX5_markOpen : yX5_markOpen.cls ≠ "java/lang/invoke/MethodHandle" ∧ yX5_markOpen.cls ≠ "java/lang/invoke/VarHandle" ∧ (parseMethodDescriptor yX5_markOpen.desc).map (fun d => d.parameters.length) = some 1 := by decide +kernel
theorem ydX5_metres : yX5_metres.cls ≠ "java/lang/invoke/MethodHandle" ∧ yX5_metres.cls ≠ "java/lang/invoke/VarHandle" ∧ (parseMethodDescriptor yX5_metres.desc).map (fun d => d.parameters.length) = some 1 := by decide +kernel
theorem ydX5_nextBelow : yX5_nextBelow.cls ≠ "java/lang/invoke/MethodHandle" ∧ yX5_nextBelow.cls ≠ "java/lang/invoke/VarHandle" ∧ (parseMethodDescriptor yX5_nextBelow.desc).map (fun d => d.parameters.length) = some 1 := by decide +kernel
theorem ydX6_actRecorded : yX6_actRecorded.cls ≠ "java/lang/invoke/MethodHandle" ∧ yX6_actRecorded.cls ≠ "java/lang/invoke/VarHandle" ∧ (parseMethodDescriptor yX6_actRecorded.desc).map (fun d => d.parameters.length) = some 2 := by decide +kernel
theorem ydX6_addStop : yX6_addStop.cls ≠ "java/lang/invoke/MethodHandle" ∧ yX6_addStop.cls ≠ "java/lang/invoke/VarHandle" ∧ (parseMethodDescriptor yX6_addStop.desc).map (fun d => d.parameters.length) = some 1 := by decide +kernel
theorem ydX6_approach : yX6_approach.cls ≠ "java/lang/invoke/MethodHandle" ∧ yX6_approach.cls ≠ "java/lang/invoke/VarHandle" ∧ (parseMethodDescriptor yX6_approach.desc).map (fun d => d.parameters.length) = some 0 := by decide +kernel
theorem ydX6_bits : yX6_bits.cls ≠ "java/lang/invoke/MethodHandle" ∧ yX6_bits.cls ≠ "java/lang/invoke/VarHandle" ∧ (parseMethodDescriptor yX6_bits.desc).map (fun d => d.parameters.length) = some 1 := by decide +kernel
theorem ydX6_bitsOf : yX6_bitsOf.cls ≠ "java/lang/invoke/MethodHandle" ∧ yX6_bitsOf.cls ≠ "java/lang/invoke/VarHandle" ∧ (parseMethodDescriptor yX6_bitsOf.desc).map (fun d => d.parameters.length) = some 1 := by decide +kernel
theorem ydX6_init : yX6_init.cls ≠ "java/lang/invoke/MethodHandle" ∧ yX6_init.cls ≠ "java/lang/invoke/VarHandle" ∧ (parseMethodDescriptor yX6_init.desc).map (fun d => d.parameters.length) = some 0 := by decide +kernel
theorem ydX6_isBeyond : yX6_isBeyond.cls ≠ "java/lang/invoke/MethodHandle" ∧ yX6_isBeyond.cls ≠ "java/lang/invoke/VarHandle" ∧ (parseMethodDescriptor yX6_isBeyond.desc).map (fun d => d.parameters.length) = some 2 := by decide +kernel
theorem ydX6_judgement : yX6_judgement.cls ≠ "java/lang/invoke/MethodHandle" ∧ yX6_judgement.cls ≠ "java/lang/invoke/VarHandle" ∧ (parseMethodDescriptor yX6_judgement.desc).map (fun d => d.parameters.length) = some 0 := by decide +kernel
theorem ydX6_modeIn : yX6_modeIn.cls ≠ "java/lang/invoke/MethodHandle" ∧ yX6_modeIn.cls ≠ "java/lang/invoke/VarHandle" ∧ (parseMethodDescriptor yX6_modeIn.desc).map (fun d => d.parameters.length) = some 1 := by decide +kernel
theorem ydX6_numberOfShip : yX6_numberOfShip.cls ≠ "java/lang/invoke/MethodHandle" ∧ yX6_numberOfShip.cls ≠ "java/lang/invoke/VarHandle" ∧ (parseMethodDescriptor yX6_numberOfShip.desc).map (fun d => d.parameters.length) = some 1 := by decide +kernel
theorem ydX6_open : yX6_open.cls ≠ "java/lang/invoke/MethodHandle" ∧ yX6_open.cls ≠ "java/lang/invoke/VarHandle" ∧ (parseMethodDescriptor yX6_open.desc).map (fun d => d.parameters.length) = some 1 := by decide +kernel
theorem ydX6_pass : yX6_pass.cls ≠ "java/lang/invoke/MethodHandle" ∧ yX6_pass.cls ≠ "java/lang/invoke/VarHandle" ∧ (parseMethodDescriptor yX6_pass.desc).map (fun d => d.parameters.length) = some 1 := by decide +kernel
theorem ydX6_place : yX6_place.cls ≠ "java/lang/invoke/MethodHandle" ∧ yX6_place.cls ≠ "java/lang/invoke/VarHandle" ∧ (parseMethodDescriptor yX6_place.desc).map (fun d => d.parameters.length) = some 4 := by decide +kernel
theorem ydX6_point : yX6_point.cls ≠ "java/lang/invoke/MethodHandle" ∧ yX6_point.cls ≠ "java/lang/invoke/VarHandle" ∧ (parseMethodDescriptor yX6_point.desc).map (fun d => d.parameters.length) = some 2 := by decide +kernel
theorem ydX6_release : yX6_release.cls ≠ "java/lang/invoke/MethodHandle" ∧ yX6_release.cls ≠ "java/lang/invoke/VarHandle" ∧ (parseMethodDescriptor yX6_release.desc).map (fun d => d.parameters.length) = some 0 := by decide +kernel
theorem ydX6_restore : yX6_restore.cls ≠ "java/lang/invoke/MethodHandle" ∧ yX6_restore.cls ≠ "java/lang/invoke/VarHandle" ∧ (parseMethodDescriptor yX6_restore.desc).map (fun d => d.parameters.length) = some 1 := by decide +kernel
theorem ydX6_retreat : yX6_retreat.cls ≠ "java/lang/invoke/MethodHandle" ∧ yX6_retreat.cls ≠ "java/lang/invoke/VarHandle" ∧ (parseMethodDescriptor yX6_retreat.desc).map (fun d => d.parameters.length) = some 0 := by decide +kernel
theorem ydX6_save : yX6_save.cls ≠ "java/lang/invoke/MethodHandle" ∧ yX6_save.cls ≠ "java/lang/invoke/VarHandle" ∧ (parseMethodDescriptor yX6_save.desc).map (fun d => d.parameters.length) = some 1 := by decide +kernel
theorem ydX6_secondsTo : yX6_secondsTo.cls ≠ "java/lang/invoke/MethodHandle" ∧ yX6_secondsTo.cls ≠ "java/lang/invoke/VarHandle" ∧ (parseMethodDescriptor yX6_secondsTo.desc).map (fun d => d.parameters.length) = some 1 := by decide +kernel
theorem ydX6_set : yX6_set.cls ≠ "java/lang/invoke/MethodHandle" ∧ yX6_set.cls ≠ "java/lang/invoke/VarHandle" ∧ (parseMethodDescriptor yX6_set.desc).map (fun d => d.parameters.length) = some 2 := by decide +kernel
theorem ydX6_setBias : yX6_setBias.cls ≠ "java/lang/invoke/MethodHandle" ∧ yX6_setBias.cls ≠ "java/lang/invoke/VarHandle" ∧ (parseMethodDescriptor yX6_setBias.desc).map (fun d => d.parameters.length) = some 2 := by decide +kernel
theorem ydX6_setPoint : yX6_setPoint.cls ≠ "java/lang/invoke/MethodHandle" ∧ yX6_setPoint.cls ≠ "java/lang/invoke/VarHandle" ∧ (parseMethodDescriptor yX6_setPoint.desc).map (fun d => d.parameters.length) = some 2 := by decide +kernel
theorem ydX6_settingAt : yX6_settingAt.cls ≠ "java/lang/invoke/MethodHandle" ∧ yX6_settingAt.cls ≠ "java/lang/invoke/VarHandle" ∧ (parseMethodDescriptor yX6_settingAt.desc).map (fun d => d.parameters.length) = some 1 := by decide +kernel
theorem ydX6_size : yX6_size.cls ≠ "java/lang/invoke/MethodHandle" ∧ yX6_size.cls ≠ "java/lang/invoke/VarHandle" ∧ (parseMethodDescriptor yX6_size.desc).map (fun d => d.parameters.length) = some 1 := by decide +kernel
theorem ydX6_stop : yX6_stop.cls ≠ "java/lang/invoke/MethodHandle" ∧ yX6_stop.cls ≠ "java/lang/invoke/VarHandle" ∧ (parseMethodDescriptor yX6_stop.desc).map (fun d => d.parameters.length) = some 2 := by decide +kernel
theorem ydX6_total : yX6_total.cls ≠ "java/lang/invoke/MethodHandle" ∧ yX6_total.cls ≠ "java/lang/invoke/VarHandle" ∧ (parseMethodDescriptor yX6_total.desc).map (fun d => d.parameters.length) = some 1 := by decide +kernel
theorem ydX6_undo : yX6_undo.cls ≠ "java/lang/invoke/MethodHandle" ∧ yX6_undo.cls ≠ "java/lang/invoke/VarHandle" ∧ (parseMethodDescriptor yX6_undo.desc).map (fun d => d.parameters.length) = some 0 := by decide +kernel
section KA
variable {p : Program} {l : Launch} {e : Env} {R : Room} {s : State} {m : MethodId} {args : Array Value} {below : List Frame} {meth : Method} {c : Code} {H : Heap} {locs : List Loc} {cells slots : Nat} {Q : State → Prop}
variable {G : va_G} {cy : Nat → ClassId} {own : String} {nL n : Nat} {cc : ByteArray} {rest : List Value} {pc : Nat} {ls : Array Slot} {ws : va_W} {H0 : Heap} {A : Nat → Prop} {a : Nat}
theorem kail (S : CallFix p m c cc nL s args wsL_law own) (hE : EV G cy s) (hP : va_P G vwCl ws H) (q0 : Nat) {f : Nat → Int32} (ha : ws[q0]? = some (a, .inl (cy 0, n, .inl f))) {i : Int32} (hin : vp_in i n) {j : Nat} (hj : i.toNatClampNeg = j) {v : Int32} (hv : f j = v) (hdg : decode cc pc = .ok (.iaload, 1))
    (kk : W p l e R s m args below meth c H locs cells slots Q (F0 m (pc + 1) ls (.int v :: rest))) : W p l e R s m args below meth c H locs cells slots Q (F0 m pc ls (.int i :: .ref a :: rest)) := by
  subst hj; subst hv
  exact va_iald S.1 S.2.1 hE.1 hP q0 0 ha rfl hin hdg kk
theorem kais (S : CallFix p m c cc nL s args wsL_law own) (hE : EV G cy s) (hP : va_P G vwCl ws H) (hD : va_D A ws) (hS : va_S A H0 H locs) (q0 : Nat) {f : Nat → Int32} (ha : ws[q0]? = some (a, .inl (cy 0, n, .inl f))) {i : Int32} {x : Int32} (hin : vp_in i n) {j : Nat} (hj : i.toNatClampNeg = j) (hdg : decode cc pc = .ok (.iastore, 1))
    (kk : ∀ (H1 : Heap) (locs1 : List Loc), va_P G vwCl (ws.set q0 (a, .inl (cy 0, n, .inl (upd f j x)))) H1 → va_D A (ws.set q0 (a, .inl (cy 0, n, .inl (upd f j x)))) → va_S A H0 H1 locs1 → W p l e R s m args below meth c H1 locs1 cells slots Q (F0 m (pc + 1) ls rest)) : W p l e R s m args below meth c H locs cells slots Q (F0 m pc ls (.int x :: .int i :: .ref a :: rest)) := by
  subst hj
  exact va_iast S.1 S.2.1 hE.1 hP hD hS q0 0 ha rfl hin hdg kk
theorem kabl (S : CallFix p m c cc nL s args wsL_law own) (hE : EV G cy s) (hP : va_P G vwCl ws H) (q0 : Nat) {f : Nat → Int32} (ha : ws[q0]? = some (a, .inl (cy 2, n, .inl f))) {i : Int32} (hin : vp_in i n) {j : Nat} (hj : i.toNatClampNeg = j) {v : Int32} (hv : f j = v) (hdg : decode cc pc = .ok (.baload, 1))
    (kk : W p l e R s m args below meth c H locs cells slots Q (F0 m (pc + 1) ls (.int v :: rest))) : W p l e R s m args below meth c H locs cells slots Q (F0 m pc ls (.int i :: .ref a :: rest)) := by
  subst hj; subst hv
  exact va_bald S.1 S.2.1 hE.1 hP q0 2 ha rfl hin hdg kk
theorem kabs (S : CallFix p m c cc nL s args wsL_law own) (hE : EV G cy s) (hP : va_P G vwCl ws H) (hD : va_D A ws) (hS : va_S A H0 H locs) (q0 : Nat) {f : Nat → Int32} (ha : ws[q0]? = some (a, .inl (cy 2, n, .inl f))) {i : Int32} {x : Int32} (hin : vp_in i n) {j : Nat} (hj : i.toNatClampNeg = j) (hdg : decode cc pc = .ok (.bastore, 1))
    (kk : ∀ (H1 : Heap) (locs1 : List Loc), va_P G vwCl (ws.set q0 (a, .inl (cy 2, n, .inl (upd f j (vp_nar .byte x))))) H1 → va_D A (ws.set q0 (a, .inl (cy 2, n, .inl (upd f j (vp_nar .byte x))))) → va_S A H0 H1 locs1 → W p l e R s m args below meth c H1 locs1 cells slots Q (F0 m (pc + 1) ls rest)) : W p l e R s m args below meth c H locs cells slots Q (F0 m pc ls (.int x :: .int i :: .ref a :: rest)) := by
  subst hj
  exact va_bast S.1 S.2.1 hE.1 hP hD hS q0 2 ha rfl hin hdg kk
theorem kazl (S : CallFix p m c cc nL s args wsL_law own) (hE : EV G cy s) (hP : va_P G vwCl ws H) (q0 : Nat) {f : Nat → Int32} (ha : ws[q0]? = some (a, .inl (cy 3, n, .inl f))) {i : Int32} (hin : vp_in i n) {j : Nat} (hj : i.toNatClampNeg = j) {v : Int32} (hv : f j = v) (hdg : decode cc pc = .ok (.baload, 1))
    (kk : W p l e R s m args below meth c H locs cells slots Q (F0 m (pc + 1) ls (.int v :: rest))) : W p l e R s m args below meth c H locs cells slots Q (F0 m pc ls (.int i :: .ref a :: rest)) := by
  subst hj; subst hv
  exact va_zald S.1 S.2.1 hE.1 hP q0 3 ha rfl hin hdg kk
theorem kazs (S : CallFix p m c cc nL s args wsL_law own) (hE : EV G cy s) (hP : va_P G vwCl ws H) (hD : va_D A ws) (hS : va_S A H0 H locs) (q0 : Nat) {f : Nat → Int32} (ha : ws[q0]? = some (a, .inl (cy 3, n, .inl f))) {i : Int32} {x : Int32} (hin : vp_in i n) {j : Nat} (hj : i.toNatClampNeg = j) (hdg : decode cc pc = .ok (.bastore, 1))
    (kk : ∀ (H1 : Heap) (locs1 : List Loc), va_P G vwCl (ws.set q0 (a, .inl (cy 3, n, .inl (upd f j (vp_nar .boolean x))))) H1 → va_D A (ws.set q0 (a, .inl (cy 3, n, .inl (upd f j (vp_nar .boolean x))))) → va_S A H0 H1 locs1 → W p l e R s m args below meth c H1 locs1 cells slots Q (F0 m (pc + 1) ls rest)) : W p l e R s m args below meth c H locs cells slots Q (F0 m pc ls (.int x :: .int i :: .ref a :: rest)) := by
  subst hj
  exact va_zast S.1 S.2.1 hE.1 hP hD hS q0 3 ha rfl hin hdg kk
theorem kacp (S : CallFix p m c cc nL s args wsL_law own) (hE : EV G cy s) (hP : va_P G vwCl ws H) (hD : va_D A ws) (hS : va_S A H0 H locs) (hsz : ls.size = nL) {index : Nat} (hlink : Cond.methodLink own index arraycopyName ∈ wsL_law) (q0 q1 : Nat) {a0 n0 n1 : Nat} {f g : Nat → Int32} (ha0 : ws[q0]? = some (a0, .inl (cy 0, n0, .inl f))) (ha1 : ws[q1]? = some (a, .inl (cy 0, n1, .inl g))) {x : Int32} {k : Nat} (hx0 : ¬ x < 0) (hk : x.toNatClampNeg = k) (hk0 : k ≤ n0) (hk1 : k ≤ n1) (hframes : 1 ≤ R.frames) (hlocals : (rest.map fun v => v.category).sum + (nativeFrameWords "java/lang/System" "arraycopy" 5 + 11) ≤ R.locals) (hdg : decode cc pc = .ok (.invokestatic index, 3))
    (kk : ∀ (H1 : Heap) (locs1 : List Loc), va_P G vwCl (ws.set q1 (a, .inl (cy 0, n1, .inl (va_cpy f g 0 0 k)))) H1 → va_D A (ws.set q1 (a, .inl (cy 0, n1, .inl (va_cpy f g 0 0 k)))) → va_S A H0 H1 locs1 → W p l e R s m args below meth c H1 locs1 cells slots Q (F0 m (pc + 3) ls rest)) : W p l e R s m args below meth c H locs cells slots Q (F0 m pc ls (.int x :: .int 0 :: .ref a :: .int 0 :: .ref a0 :: rest)) := by
  subst hk
  have e0 : Int32.toNatClampNeg 0 = 0 := tc_0
  refine va_copyi (sp := 0) (dp := 0) S.1 S.2.1 (S.2.2.1.trans hsz.symm) S.2.2.2.1 (S.2.2.2.2 _ hlink) (S.2.2.2.2 _ q_2_11) (S.2.2.2.2 _ q_2_12) (S.2.2.2.2 _ q_2_13) hE.1 hP hD hS q0 q1 0 0 ha0 ha1 rfl rfl (by decide +kernel) (by decide +kernel) (by decide +kernel) hx0 (by rw [e0]; omega) (by rw [e0]; omega) (fun _ _ => rfl) hframes hlocals hdg (fun H1 locs1 h1 h2 h3 => ?_)
  rw [e0] at h1 h2
  exact kk H1 locs1 h1 h2 h3
end KA
