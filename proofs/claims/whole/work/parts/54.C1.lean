/-! RationalForms (the class): checks, diagonalOf -/
abbrev cC_checkForm : ByteArray := prog_1_method_13_code
abbrev yC_checkForm : MethodName := ⟨"RationalForms", "checkForm", "(I)V"⟩
abbrev wsC_checkForm : List Cond := .code yC_checkForm cC_checkForm 2 none :: GG
theorem dC_checkForm_0 : decode cC_checkForm 0 = .ok (.iload_n 1, 1) := by decide +kernel
theorem dC_checkForm_1 : decode cC_checkForm 1 = .ok (.ifCond .lt 8, 3) := by decide +kernel
theorem dC_checkForm_4 : decode cC_checkForm 4 = .ok (.iload_n 1, 1) := by decide +kernel
theorem dC_checkForm_5 : decode cC_checkForm 5 = .ok (.iconst 2, 1) := by decide +kernel
theorem dC_checkForm_6 : decode cC_checkForm 6 = .ok (.if_icmp .lt 13, 3) := by decide +kernel
theorem dC_checkForm_9 : decode cC_checkForm 9 = .ok (.new 38, 3) := by decide +kernel
theorem dC_checkForm_12 : decode cC_checkForm 12 = .ok (.dup, 1) := by decide +kernel
theorem dC_checkForm_13 : decode cC_checkForm 13 = .ok (.ldc 133, 2) := by decide +kernel
theorem dC_checkForm_15 : decode cC_checkForm 15 = .ok (.invokespecial 42, 3) := by decide +kernel
theorem dC_checkForm_18 : decode cC_checkForm 18 = .ok (.athrow, 1) := by decide +kernel
theorem dC_checkForm_19 : decode cC_checkForm 19 = .ok (.return_, 1) := by decide +kernel
abbrev cC_checkPlace : ByteArray := prog_1_method_14_code
abbrev yC_checkPlace : MethodName := ⟨"RationalForms", "checkPlace", "(I)V"⟩
abbrev wsC_checkPlace : List Cond := .code yC_checkPlace cC_checkPlace 2 none :: GG
theorem dC_checkPlace_0 : decode cC_checkPlace 0 = .ok (.iload_n 1, 1) := by decide +kernel
theorem dC_checkPlace_1 : decode cC_checkPlace 1 = .ok (.ifCond .eq 27, 3) := by decide +kernel
theorem dC_checkPlace_4 : decode cC_checkPlace 4 = .ok (.iload_n 1, 1) := by decide +kernel
theorem dC_checkPlace_5 : decode cC_checkPlace 5 = .ok (.sipush 1000, 3) := by decide +kernel
theorem dC_checkPlace_8 : decode cC_checkPlace 8 = .ok (.if_icmp .gt 10, 3) := by decide +kernel
theorem dC_checkPlace_11 : decode cC_checkPlace 11 = .ok (.iload_n 1, 1) := by decide +kernel
theorem dC_checkPlace_12 : decode cC_checkPlace 12 = .ok (.invokestatic 135, 3) := by decide +kernel
theorem dC_checkPlace_15 : decode cC_checkPlace 15 = .ok (.ifCond .ne 13, 3) := by decide +kernel
theorem dC_checkPlace_18 : decode cC_checkPlace 18 = .ok (.new 38, 3) := by decide +kernel
theorem dC_checkPlace_21 : decode cC_checkPlace 21 = .ok (.dup, 1) := by decide +kernel
theorem dC_checkPlace_22 : decode cC_checkPlace 22 = .ok (.ldc 140, 2) := by decide +kernel
theorem dC_checkPlace_24 : decode cC_checkPlace 24 = .ok (.invokespecial 42, 3) := by decide +kernel
theorem dC_checkPlace_27 : decode cC_checkPlace 27 = .ok (.athrow, 1) := by decide +kernel
theorem dC_checkPlace_28 : decode cC_checkPlace 28 = .ok (.return_, 1) := by decide +kernel
abbrev cC_checkArgument : ByteArray := prog_1_method_15_code
abbrev yC_checkArgument : MethodName := ⟨"RationalForms", "checkArgument", "(I)V"⟩
abbrev wsC_checkArgument : List Cond := .code yC_checkArgument cC_checkArgument 2 none :: GG
theorem dC_checkArgument_0 : decode cC_checkArgument 0 = .ok (.iload_n 1, 1) := by decide +kernel
theorem dC_checkArgument_1 : decode cC_checkArgument 1 = .ok (.sipush (-1000), 3) := by decide +kernel
theorem dC_checkArgument_4 : decode cC_checkArgument 4 = .ok (.if_icmp .lt 10, 3) := by decide +kernel
theorem dC_checkArgument_7 : decode cC_checkArgument 7 = .ok (.iload_n 1, 1) := by decide +kernel
theorem dC_checkArgument_8 : decode cC_checkArgument 8 = .ok (.sipush 1000, 3) := by decide +kernel
theorem dC_checkArgument_11 : decode cC_checkArgument 11 = .ok (.if_icmp .le 13, 3) := by decide +kernel
theorem dC_checkArgument_14 : decode cC_checkArgument 14 = .ok (.new 38, 3) := by decide +kernel
theorem dC_checkArgument_17 : decode cC_checkArgument 17 = .ok (.dup, 1) := by decide +kernel
theorem dC_checkArgument_18 : decode cC_checkArgument 18 = .ok (.ldc 142, 2) := by decide +kernel
theorem dC_checkArgument_20 : decode cC_checkArgument 20 = .ok (.invokespecial 42, 3) := by decide +kernel
theorem dC_checkArgument_23 : decode cC_checkArgument 23 = .ok (.athrow, 1) := by decide +kernel
theorem dC_checkArgument_24 : decode cC_checkArgument 24 = .ok (.return_, 1) := by decide +kernel
abbrev cC_diagonalOf : ByteArray := prog_1_method_16_code
abbrev yC_diagonalOf : MethodName := ⟨"RationalForms", "diagonalOf", "(I)LRationalForms$Diagonal;"⟩
abbrev wsC_diagonalOf : List Cond := .code yC_diagonalOf cC_diagonalOf 2 (some (.object "RationalForms$Diagonal")) :: GG
theorem dC_diagonalOf_0 : decode cC_diagonalOf 0 = .ok (.aload_n 0, 1) := by decide +kernel
theorem dC_diagonalOf_1 : decode cC_diagonalOf 1 = .ok (.getfield 24, 3) := by decide +kernel
theorem dC_diagonalOf_4 : decode cC_diagonalOf 4 = .ok (.aload_n 0, 1) := by decide +kernel
theorem dC_diagonalOf_5 : decode cC_diagonalOf 5 = .ok (.getfield 11, 3) := by decide +kernel
theorem dC_diagonalOf_8 : decode cC_diagonalOf 8 = .ok (.iload_n 1, 1) := by decide +kernel
theorem dC_diagonalOf_9 : decode cC_diagonalOf 9 = .ok (.aaload, 1) := by decide +kernel
theorem dC_diagonalOf_10 : decode cC_diagonalOf 10 = .ok (.aload_n 0, 1) := by decide +kernel
theorem dC_diagonalOf_11 : decode cC_diagonalOf 11 = .ok (.getfield 17, 3) := by decide +kernel
theorem dC_diagonalOf_14 : decode cC_diagonalOf 14 = .ok (.iload_n 1, 1) := by decide +kernel
theorem dC_diagonalOf_15 : decode cC_diagonalOf 15 = .ok (.aaload, 1) := by decide +kernel
theorem dC_diagonalOf_16 : decode cC_diagonalOf 16 = .ok (.invokevirtual 144, 3) := by decide +kernel
theorem dC_diagonalOf_19 : decode cC_diagonalOf 19 = .ok (.aload_n 0, 1) := by decide +kernel
theorem dC_diagonalOf_20 : decode cC_diagonalOf 20 = .ok (.getfield 17, 3) := by decide +kernel
theorem dC_diagonalOf_23 : decode cC_diagonalOf 23 = .ok (.iload_n 1, 1) := by decide +kernel
theorem dC_diagonalOf_24 : decode cC_diagonalOf 24 = .ok (.aaload, 1) := by decide +kernel
theorem dC_diagonalOf_25 : decode cC_diagonalOf 25 = .ok (.areturn, 1) := by decide +kernel
abbrev cC_begin : ByteArray := prog_1_method_2_code
abbrev yC_begin : MethodName := ⟨"RationalForms", "begin", "(II)V"⟩
abbrev wsC_begin : List Cond := .code yC_begin cC_begin 3 none :: GG
theorem dC_begin_0 : decode cC_begin 0 = .ok (.aload_n 0, 1) := by decide +kernel
theorem dC_begin_1 : decode cC_begin 1 = .ok (.iload_n 1, 1) := by decide +kernel
theorem dC_begin_2 : decode cC_begin 2 = .ok (.invokevirtual 34, 3) := by decide +kernel
theorem dC_begin_5 : decode cC_begin 5 = .ok (.iload_n 2, 1) := by decide +kernel
theorem dC_begin_6 : decode cC_begin 6 = .ok (.iconst 1, 1) := by decide +kernel
theorem dC_begin_7 : decode cC_begin 7 = .ok (.if_icmp .lt 8, 3) := by decide +kernel
theorem dC_begin_10 : decode cC_begin 10 = .ok (.iload_n 2, 1) := by decide +kernel
theorem dC_begin_11 : decode cC_begin 11 = .ok (.iconst 4, 1) := by decide +kernel
theorem dC_begin_12 : decode cC_begin 12 = .ok (.if_icmp .le 13, 3) := by decide +kernel
theorem dC_begin_15 : decode cC_begin 15 = .ok (.new 38, 3) := by decide +kernel
theorem dC_begin_18 : decode cC_begin 18 = .ok (.dup, 1) := by decide +kernel
theorem dC_begin_19 : decode cC_begin 19 = .ok (.ldc 40, 2) := by decide +kernel
theorem dC_begin_21 : decode cC_begin 21 = .ok (.invokespecial 42, 3) := by decide +kernel
theorem dC_begin_24 : decode cC_begin 24 = .ok (.athrow, 1) := by decide +kernel
theorem dC_begin_25 : decode cC_begin 25 = .ok (.aload_n 0, 1) := by decide +kernel
theorem dC_begin_26 : decode cC_begin 26 = .ok (.getfield 11, 3) := by decide +kernel
theorem dC_begin_29 : decode cC_begin 29 = .ok (.iload_n 1, 1) := by decide +kernel
theorem dC_begin_30 : decode cC_begin 30 = .ok (.aaload, 1) := by decide +kernel
theorem dC_begin_31 : decode cC_begin 31 = .ok (.iload_n 2, 1) := by decide +kernel
theorem dC_begin_32 : decode cC_begin 32 = .ok (.invokevirtual 45, 3) := by decide +kernel
theorem dC_begin_35 : decode cC_begin 35 = .ok (.return_, 1) := by decide +kernel
abbrev cC_put : ByteArray := prog_1_method_3_code
abbrev yC_put : MethodName := ⟨"RationalForms", "put", "(IIII)I"⟩
abbrev wsC_put : List Cond := .code yC_put cC_put 6 (some .int) :: GG
theorem dC_put_0 : decode cC_put 0 = .ok (.aload_n 0, 1) := by decide +kernel
theorem dC_put_1 : decode cC_put 1 = .ok (.iload_n 1, 1) := by decide +kernel
theorem dC_put_2 : decode cC_put 2 = .ok (.invokevirtual 34, 3) := by decide +kernel
theorem dC_put_5 : decode cC_put 5 = .ok (.iload 4, 2) := by decide +kernel
theorem dC_put_7 : decode cC_put 7 = .ok (.bipush (-6), 2) := by decide +kernel
theorem dC_put_9 : decode cC_put 9 = .ok (.if_icmp .lt 10, 3) := by decide +kernel
theorem dC_put_12 : decode cC_put 12 = .ok (.iload 4, 2) := by decide +kernel
theorem dC_put_14 : decode cC_put 14 = .ok (.bipush 6, 2) := by decide +kernel
theorem dC_put_16 : decode cC_put 16 = .ok (.if_icmp .le 13, 3) := by decide +kernel
theorem dC_put_19 : decode cC_put 19 = .ok (.new 38, 3) := by decide +kernel
theorem dC_put_22 : decode cC_put 22 = .ok (.dup, 1) := by decide +kernel
theorem dC_put_23 : decode cC_put 23 = .ok (.ldc 48, 2) := by decide +kernel
theorem dC_put_25 : decode cC_put 25 = .ok (.invokespecial 42, 3) := by decide +kernel
theorem dC_put_28 : decode cC_put 28 = .ok (.athrow, 1) := by decide +kernel
theorem dC_put_29 : decode cC_put 29 = .ok (.aload_n 0, 1) := by decide +kernel
theorem dC_put_30 : decode cC_put 30 = .ok (.getfield 11, 3) := by decide +kernel
theorem dC_put_33 : decode cC_put 33 = .ok (.iload_n 1, 1) := by decide +kernel
theorem dC_put_34 : decode cC_put 34 = .ok (.aaload, 1) := by decide +kernel
theorem dC_put_35 : decode cC_put 35 = .ok (.astore 5, 2) := by decide +kernel
theorem dC_put_37 : decode cC_put 37 = .ok (.aload 5, 2) := by decide +kernel
theorem dC_put_39 : decode cC_put 39 = .ok (.iload_n 2, 1) := by decide +kernel
theorem dC_put_40 : decode cC_put 40 = .ok (.invokevirtual 50, 3) := by decide +kernel
theorem dC_put_43 : decode cC_put 43 = .ok (.ifCond .eq 12, 3) := by decide +kernel
theorem dC_put_46 : decode cC_put 46 = .ok (.aload 5, 2) := by decide +kernel
theorem dC_put_48 : decode cC_put 48 = .ok (.iload_n 3, 1) := by decide +kernel
theorem dC_put_49 : decode cC_put 49 = .ok (.invokevirtual 50, 3) := by decide +kernel
theorem dC_put_52 : decode cC_put 52 = .ok (.ifCond .ne 13, 3) := by decide +kernel
theorem dC_put_55 : decode cC_put 55 = .ok (.new 54, 3) := by decide +kernel
theorem dC_put_58 : decode cC_put 58 = .ok (.dup, 1) := by decide +kernel
theorem dC_put_59 : decode cC_put 59 = .ok (.ldc 56, 2) := by decide +kernel
theorem dC_put_61 : decode cC_put 61 = .ok (.invokespecial 58, 3) := by decide +kernel
theorem dC_put_64 : decode cC_put 64 = .ok (.athrow, 1) := by decide +kernel
theorem dC_put_65 : decode cC_put 65 = .ok (.aload 5, 2) := by decide +kernel
theorem dC_put_67 : decode cC_put 67 = .ok (.iload_n 2, 1) := by decide +kernel
theorem dC_put_68 : decode cC_put 68 = .ok (.iload_n 3, 1) := by decide +kernel
theorem dC_put_69 : decode cC_put 69 = .ok (.iload 4, 2) := by decide +kernel
theorem dC_put_71 : decode cC_put 71 = .ok (.invokevirtual 59, 3) := by decide +kernel
theorem dC_put_74 : decode cC_put 74 = .ok (.ireturn, 1) := by decide +kernel
abbrev cC_about : ByteArray := prog_1_method_4_code
abbrev yC_about : MethodName := ⟨"RationalForms", "about", "(II)I"⟩
abbrev wsC_about : List Cond := .code yC_about cC_about 4 (some .int) :: GG
theorem dC_about_0 : decode cC_about 0 = .ok (.aload_n 0, 1) := by decide +kernel
theorem dC_about_1 : decode cC_about 1 = .ok (.iload_n 1, 1) := by decide +kernel
theorem dC_about_2 : decode cC_about 2 = .ok (.invokevirtual 34, 3) := by decide +kernel
theorem dC_about_5 : decode cC_about 5 = .ok (.iload_n 2, 1) := by decide +kernel
theorem dC_about_6 : decode cC_about 6 = .ok (.ifCond .lt 8, 3) := by decide +kernel
theorem dC_about_9 : decode cC_about 9 = .ok (.iload_n 2, 1) := by decide +kernel
theorem dC_about_10 : decode cC_about 10 = .ok (.iconst 4, 1) := by decide +kernel
theorem dC_about_11 : decode cC_about 11 = .ok (.if_icmp .le 13, 3) := by decide +kernel
theorem dC_about_14 : decode cC_about 14 = .ok (.new 38, 3) := by decide +kernel
theorem dC_about_17 : decode cC_about 17 = .ok (.dup, 1) := by decide +kernel
theorem dC_about_18 : decode cC_about 18 = .ok (.ldc 63, 2) := by decide +kernel
theorem dC_about_20 : decode cC_about 20 = .ok (.invokespecial 42, 3) := by decide +kernel
theorem dC_about_23 : decode cC_about 23 = .ok (.athrow, 1) := by decide +kernel
theorem dC_about_24 : decode cC_about 24 = .ok (.aload_n 0, 1) := by decide +kernel
theorem dC_about_25 : decode cC_about 25 = .ok (.iload_n 1, 1) := by decide +kernel
theorem dC_about_26 : decode cC_about 26 = .ok (.invokevirtual 65, 3) := by decide +kernel
theorem dC_about_29 : decode cC_about 29 = .ok (.astore_n 3, 1) := by decide +kernel
theorem dC_about_30 : decode cC_about 30 = .ok (.iload_n 2, 1) := by decide +kernel
theorem dC_about_31 : decode cC_about 31 = .ok (.tableswitch 49 0 3 #[29, 34, 39, 44], 29) := by decide +kernel
theorem dC_about_60 : decode cC_about 60 = .ok (.aload_n 3, 1) := by decide +kernel
theorem dC_about_61 : decode cC_about 61 = .ok (.getfield 69, 3) := by decide +kernel
theorem dC_about_64 : decode cC_about 64 = .ok (.ireturn, 1) := by decide +kernel
theorem dC_about_65 : decode cC_about 65 = .ok (.aload_n 3, 1) := by decide +kernel
theorem dC_about_66 : decode cC_about 66 = .ok (.getfield 73, 3) := by decide +kernel
theorem dC_about_69 : decode cC_about 69 = .ok (.ireturn, 1) := by decide +kernel
theorem dC_about_70 : decode cC_about 70 = .ok (.aload_n 3, 1) := by decide +kernel
theorem dC_about_71 : decode cC_about 71 = .ok (.getfield 76, 3) := by decide +kernel
theorem dC_about_74 : decode cC_about 74 = .ok (.ireturn, 1) := by decide +kernel
theorem dC_about_75 : decode cC_about 75 = .ok (.aload_n 3, 1) := by decide +kernel
theorem dC_about_76 : decode cC_about 76 = .ok (.getfield 79, 3) := by decide +kernel
theorem dC_about_79 : decode cC_about 79 = .ok (.ireturn, 1) := by decide +kernel
theorem dC_about_80 : decode cC_about 80 = .ok (.aload_n 3, 1) := by decide +kernel
theorem dC_about_81 : decode cC_about 81 = .ok (.getfield 82, 3) := by decide +kernel
theorem dC_about_84 : decode cC_about 84 = .ok (.l2i, 1) := by decide +kernel
theorem dC_about_85 : decode cC_about 85 = .ok (.ireturn, 1) := by decide +kernel
abbrev cC_symbol : ByteArray := prog_1_method_5_code
abbrev yC_symbol : MethodName := ⟨"RationalForms", "symbol", "(III)I"⟩
abbrev wsC_symbol : List Cond := .code yC_symbol cC_symbol 4 (some .int) :: GG
theorem dC_symbol_0 : decode cC_symbol 0 = .ok (.iload_n 1, 1) := by decide +kernel
theorem dC_symbol_1 : decode cC_symbol 1 = .ok (.ifCond .eq 7, 3) := by decide +kernel
theorem dC_symbol_4 : decode cC_symbol 4 = .ok (.iload_n 2, 1) := by decide +kernel
theorem dC_symbol_5 : decode cC_symbol 5 = .ok (.ifCond .ne 13, 3) := by decide +kernel
theorem dC_symbol_8 : decode cC_symbol 8 = .ok (.new 86, 3) := by decide +kernel
theorem dC_symbol_11 : decode cC_symbol 11 = .ok (.dup, 1) := by decide +kernel
theorem dC_symbol_12 : decode cC_symbol 12 = .ok (.ldc 88, 2) := by decide +kernel
theorem dC_symbol_14 : decode cC_symbol 14 = .ok (.invokespecial 90, 3) := by decide +kernel
theorem dC_symbol_17 : decode cC_symbol 17 = .ok (.athrow, 1) := by decide +kernel
theorem dC_symbol_18 : decode cC_symbol 18 = .ok (.aload_n 0, 1) := by decide +kernel
theorem dC_symbol_19 : decode cC_symbol 19 = .ok (.iload_n 3, 1) := by decide +kernel
theorem dC_symbol_20 : decode cC_symbol 20 = .ok (.invokevirtual 91, 3) := by decide +kernel
theorem dC_symbol_23 : decode cC_symbol 23 = .ok (.iload_n 1, 1) := by decide +kernel
theorem dC_symbol_24 : decode cC_symbol 24 = .ok (.i2l, 1) := by decide +kernel
theorem dC_symbol_25 : decode cC_symbol 25 = .ok (.iload_n 2, 1) := by decide +kernel
theorem dC_symbol_26 : decode cC_symbol 26 = .ok (.i2l, 1) := by decide +kernel
theorem dC_symbol_27 : decode cC_symbol 27 = .ok (.iload_n 3, 1) := by decide +kernel
theorem dC_symbol_28 : decode cC_symbol 28 = .ok (.invokestatic 94, 3) := by decide +kernel
theorem dC_symbol_31 : decode cC_symbol 31 = .ok (.ireturn, 1) := by decide +kernel
abbrev cC_hasse : ByteArray := prog_1_method_6_code
abbrev yC_hasse : MethodName := ⟨"RationalForms", "hasse", "(II)I"⟩
abbrev wsC_hasse : List Cond := .code yC_hasse cC_hasse 3 (some .int) :: GG
theorem dC_hasse_0 : decode cC_hasse 0 = .ok (.aload_n 0, 1) := by decide +kernel
theorem dC_hasse_1 : decode cC_hasse 1 = .ok (.iload_n 1, 1) := by decide +kernel
theorem dC_hasse_2 : decode cC_hasse 2 = .ok (.invokevirtual 34, 3) := by decide +kernel
theorem dC_hasse_5 : decode cC_hasse 5 = .ok (.aload_n 0, 1) := by decide +kernel
theorem dC_hasse_6 : decode cC_hasse 6 = .ok (.iload_n 2, 1) := by decide +kernel
theorem dC_hasse_7 : decode cC_hasse 7 = .ok (.invokevirtual 91, 3) := by decide +kernel
theorem dC_hasse_10 : decode cC_hasse 10 = .ok (.aload_n 0, 1) := by decide +kernel
theorem dC_hasse_11 : decode cC_hasse 11 = .ok (.iload_n 1, 1) := by decide +kernel
theorem dC_hasse_12 : decode cC_hasse 12 = .ok (.invokevirtual 65, 3) := by decide +kernel
theorem dC_hasse_15 : decode cC_hasse 15 = .ok (.iload_n 2, 1) := by decide +kernel
theorem dC_hasse_16 : decode cC_hasse 16 = .ok (.invokevirtual 100, 3) := by decide +kernel
theorem dC_hasse_19 : decode cC_hasse 19 = .ok (.ireturn, 1) := by decide +kernel
abbrev cC_isotropicAt : ByteArray := prog_1_method_7_code
abbrev yC_isotropicAt : MethodName := ⟨"RationalForms", "isotropicAt", "(II)Z"⟩
abbrev wsC_isotropicAt : List Cond := .code yC_isotropicAt cC_isotropicAt 3 (some .boolean) :: GG
theorem dC_isotropicAt_0 : decode cC_isotropicAt 0 = .ok (.aload_n 0, 1) := by decide +kernel
theorem dC_isotropicAt_1 : decode cC_isotropicAt 1 = .ok (.iload_n 1, 1) := by decide +kernel
theorem dC_isotropicAt_2 : decode cC_isotropicAt 2 = .ok (.invokevirtual 34, 3) := by decide +kernel
theorem dC_isotropicAt_5 : decode cC_isotropicAt 5 = .ok (.aload_n 0, 1) := by decide +kernel
theorem dC_isotropicAt_6 : decode cC_isotropicAt 6 = .ok (.iload_n 2, 1) := by decide +kernel
theorem dC_isotropicAt_7 : decode cC_isotropicAt 7 = .ok (.invokevirtual 91, 3) := by decide +kernel
theorem dC_isotropicAt_10 : decode cC_isotropicAt 10 = .ok (.aload_n 0, 1) := by decide +kernel
theorem dC_isotropicAt_11 : decode cC_isotropicAt 11 = .ok (.iload_n 1, 1) := by decide +kernel
theorem dC_isotropicAt_12 : decode cC_isotropicAt 12 = .ok (.invokevirtual 65, 3) := by decide +kernel
theorem dC_isotropicAt_15 : decode cC_isotropicAt 15 = .ok (.iload_n 2, 1) := by decide +kernel
theorem dC_isotropicAt_16 : decode cC_isotropicAt 16 = .ok (.invokevirtual 104, 3) := by decide +kernel
theorem dC_isotropicAt_19 : decode cC_isotropicAt 19 = .ok (.ireturn, 1) := by decide +kernel
abbrev cC_obstacle : ByteArray := prog_1_method_8_code
abbrev yC_obstacle : MethodName := ⟨"RationalForms", "obstacle", "(I)I"⟩
abbrev wsC_obstacle : List Cond := .code yC_obstacle cC_obstacle 2 (some .int) :: GG
theorem dC_obstacle_0 : decode cC_obstacle 0 = .ok (.aload_n 0, 1) := by decide +kernel
theorem dC_obstacle_1 : decode cC_obstacle 1 = .ok (.iload_n 1, 1) := by decide +kernel
theorem dC_obstacle_2 : decode cC_obstacle 2 = .ok (.invokevirtual 34, 3) := by decide +kernel
theorem dC_obstacle_5 : decode cC_obstacle 5 = .ok (.aload_n 0, 1) := by decide +kernel
theorem dC_obstacle_6 : decode cC_obstacle 6 = .ok (.iload_n 1, 1) := by decide +kernel
theorem dC_obstacle_7 : decode cC_obstacle 7 = .ok (.invokevirtual 65, 3) := by decide +kernel
theorem dC_obstacle_10 : decode cC_obstacle 10 = .ok (.invokevirtual 107, 3) := by decide +kernel
theorem dC_obstacle_13 : decode cC_obstacle 13 = .ok (.ireturn, 1) := by decide +kernel
abbrev cC_takes : ByteArray := prog_1_method_9_code
abbrev yC_takes : MethodName := ⟨"RationalForms", "takes", "(II)Z"⟩
abbrev wsC_takes : List Cond := .code yC_takes cC_takes 4 (some .boolean) :: GG
theorem dC_takes_0 : decode cC_takes 0 = .ok (.aload_n 0, 1) := by decide +kernel
theorem dC_takes_1 : decode cC_takes 1 = .ok (.iload_n 1, 1) := by decide +kernel
theorem dC_takes_2 : decode cC_takes 2 = .ok (.invokevirtual 34, 3) := by decide +kernel
theorem dC_takes_5 : decode cC_takes 5 = .ok (.aload_n 0, 1) := by decide +kernel
theorem dC_takes_6 : decode cC_takes 6 = .ok (.iload_n 2, 1) := by decide +kernel
theorem dC_takes_7 : decode cC_takes 7 = .ok (.invokevirtual 111, 3) := by decide +kernel
theorem dC_takes_10 : decode cC_takes 10 = .ok (.iload_n 2, 1) := by decide +kernel
theorem dC_takes_11 : decode cC_takes 11 = .ok (.ifCond .ne 13, 3) := by decide +kernel
theorem dC_takes_14 : decode cC_takes 14 = .ok (.new 86, 3) := by decide +kernel
theorem dC_takes_17 : decode cC_takes 17 = .ok (.dup, 1) := by decide +kernel
theorem dC_takes_18 : decode cC_takes 18 = .ok (.ldc 114, 2) := by decide +kernel
theorem dC_takes_20 : decode cC_takes 20 = .ok (.invokespecial 90, 3) := by decide +kernel
theorem dC_takes_23 : decode cC_takes 23 = .ok (.athrow, 1) := by decide +kernel
theorem dC_takes_24 : decode cC_takes 24 = .ok (.aload_n 0, 1) := by decide +kernel
theorem dC_takes_25 : decode cC_takes 25 = .ok (.iload_n 1, 1) := by decide +kernel
theorem dC_takes_26 : decode cC_takes 26 = .ok (.invokevirtual 65, 3) := by decide +kernel
theorem dC_takes_29 : decode cC_takes 29 = .ok (.astore_n 3, 1) := by decide +kernel
theorem dC_takes_30 : decode cC_takes 30 = .ok (.aload_n 3, 1) := by decide +kernel
theorem dC_takes_31 : decode cC_takes 31 = .ok (.getfield 73, 3) := by decide +kernel
theorem dC_takes_34 : decode cC_takes 34 = .ok (.ifCond .ne 5, 3) := by decide +kernel
theorem dC_takes_37 : decode cC_takes 37 = .ok (.iconst 0, 1) := by decide +kernel
theorem dC_takes_38 : decode cC_takes 38 = .ok (.ireturn, 1) := by decide +kernel
theorem dC_takes_39 : decode cC_takes 39 = .ok (.aload_n 3, 1) := by decide +kernel
theorem dC_takes_40 : decode cC_takes 40 = .ok (.iload_n 2, 1) := by decide +kernel
theorem dC_takes_41 : decode cC_takes 41 = .ok (.ineg, 1) := by decide +kernel
theorem dC_takes_42 : decode cC_takes 42 = .ok (.invokevirtual 116, 3) := by decide +kernel
theorem dC_takes_45 : decode cC_takes 45 = .ok (.aload_n 3, 1) := by decide +kernel
theorem dC_takes_46 : decode cC_takes 46 = .ok (.invokevirtual 107, 3) := by decide +kernel
theorem dC_takes_49 : decode cC_takes 49 = .ok (.iconst (-1), 1) := by decide +kernel
theorem dC_takes_50 : decode cC_takes 50 = .ok (.if_icmp .ne 7, 3) := by decide +kernel
theorem dC_takes_53 : decode cC_takes 53 = .ok (.iconst 1, 1) := by decide +kernel
theorem dC_takes_54 : decode cC_takes 54 = .ok (.goto 4, 3) := by decide +kernel
theorem dC_takes_57 : decode cC_takes 57 = .ok (.iconst 0, 1) := by decide +kernel
theorem dC_takes_58 : decode cC_takes 58 = .ok (.ireturn, 1) := by decide +kernel
abbrev cC_equivalent : ByteArray := prog_1_method_10_code
abbrev yC_equivalent : MethodName := ⟨"RationalForms", "equivalent", "()Z"⟩
abbrev wsC_equivalent : List Cond := .code yC_equivalent cC_equivalent 3 (some .boolean) :: GG
theorem dC_equivalent_0 : decode cC_equivalent 0 = .ok (.aload_n 0, 1) := by decide +kernel
theorem dC_equivalent_1 : decode cC_equivalent 1 = .ok (.iconst 0, 1) := by decide +kernel
theorem dC_equivalent_2 : decode cC_equivalent 2 = .ok (.invokevirtual 65, 3) := by decide +kernel
theorem dC_equivalent_5 : decode cC_equivalent 5 = .ok (.astore_n 1, 1) := by decide +kernel
theorem dC_equivalent_6 : decode cC_equivalent 6 = .ok (.aload_n 0, 1) := by decide +kernel
theorem dC_equivalent_7 : decode cC_equivalent 7 = .ok (.iconst 1, 1) := by decide +kernel
theorem dC_equivalent_8 : decode cC_equivalent 8 = .ok (.invokevirtual 65, 3) := by decide +kernel
theorem dC_equivalent_11 : decode cC_equivalent 11 = .ok (.astore_n 2, 1) := by decide +kernel
theorem dC_equivalent_12 : decode cC_equivalent 12 = .ok (.aload_n 1, 1) := by decide +kernel
theorem dC_equivalent_13 : decode cC_equivalent 13 = .ok (.getfield 69, 3) := by decide +kernel
theorem dC_equivalent_16 : decode cC_equivalent 16 = .ok (.aload_n 2, 1) := by decide +kernel
theorem dC_equivalent_17 : decode cC_equivalent 17 = .ok (.getfield 69, 3) := by decide +kernel
theorem dC_equivalent_20 : decode cC_equivalent 20 = .ok (.if_icmp .ne 70, 3) := by decide +kernel
theorem dC_equivalent_23 : decode cC_equivalent 23 = .ok (.aload_n 1, 1) := by decide +kernel
theorem dC_equivalent_24 : decode cC_equivalent 24 = .ok (.getfield 73, 3) := by decide +kernel
theorem dC_equivalent_27 : decode cC_equivalent 27 = .ok (.aload_n 2, 1) := by decide +kernel
theorem dC_equivalent_28 : decode cC_equivalent 28 = .ok (.getfield 73, 3) := by decide +kernel
theorem dC_equivalent_31 : decode cC_equivalent 31 = .ok (.if_icmp .ne 59, 3) := by decide +kernel
theorem dC_equivalent_34 : decode cC_equivalent 34 = .ok (.aload_n 1, 1) := by decide +kernel
theorem dC_equivalent_35 : decode cC_equivalent 35 = .ok (.getfield 76, 3) := by decide +kernel
theorem dC_equivalent_38 : decode cC_equivalent 38 = .ok (.aload_n 2, 1) := by decide +kernel
theorem dC_equivalent_39 : decode cC_equivalent 39 = .ok (.getfield 76, 3) := by decide +kernel
theorem dC_equivalent_42 : decode cC_equivalent 42 = .ok (.if_icmp .ne 48, 3) := by decide +kernel
theorem dC_equivalent_45 : decode cC_equivalent 45 = .ok (.aload_n 1, 1) := by decide +kernel
theorem dC_equivalent_46 : decode cC_equivalent 46 = .ok (.getfield 82, 3) := by decide +kernel
theorem dC_equivalent_49 : decode cC_equivalent 49 = .ok (.aload_n 2, 1) := by decide +kernel
theorem dC_equivalent_50 : decode cC_equivalent 50 = .ok (.getfield 82, 3) := by decide +kernel
theorem dC_equivalent_53 : decode cC_equivalent 53 = .ok (.lcmp, 1) := by decide +kernel
theorem dC_equivalent_54 : decode cC_equivalent 54 = .ok (.ifCond .ne 36, 3) := by decide +kernel
theorem dC_equivalent_57 : decode cC_equivalent 57 = .ok (.aload_n 1, 1) := by decide +kernel
theorem dC_equivalent_58 : decode cC_equivalent 58 = .ok (.iconst 0, 1) := by decide +kernel
theorem dC_equivalent_59 : decode cC_equivalent 59 = .ok (.invokevirtual 100, 3) := by decide +kernel
theorem dC_equivalent_62 : decode cC_equivalent 62 = .ok (.aload_n 2, 1) := by decide +kernel
theorem dC_equivalent_63 : decode cC_equivalent 63 = .ok (.iconst 0, 1) := by decide +kernel
theorem dC_equivalent_64 : decode cC_equivalent 64 = .ok (.invokevirtual 100, 3) := by decide +kernel
theorem dC_equivalent_67 : decode cC_equivalent 67 = .ok (.if_icmp .ne 23, 3) := by decide +kernel
theorem dC_equivalent_70 : decode cC_equivalent 70 = .ok (.aload_n 1, 1) := by decide +kernel
theorem dC_equivalent_71 : decode cC_equivalent 71 = .ok (.aload_n 2, 1) := by decide +kernel
theorem dC_equivalent_72 : decode cC_equivalent 72 = .ok (.invokevirtual 119, 3) := by decide +kernel
theorem dC_equivalent_75 : decode cC_equivalent 75 = .ok (.ifCond .eq 15, 3) := by decide +kernel
theorem dC_equivalent_78 : decode cC_equivalent 78 = .ok (.aload_n 2, 1) := by decide +kernel
theorem dC_equivalent_79 : decode cC_equivalent 79 = .ok (.aload_n 1, 1) := by decide +kernel
theorem dC_equivalent_80 : decode cC_equivalent 80 = .ok (.invokevirtual 119, 3) := by decide +kernel
theorem dC_equivalent_83 : decode cC_equivalent 83 = .ok (.ifCond .eq 7, 3) := by decide +kernel
theorem dC_equivalent_86 : decode cC_equivalent 86 = .ok (.iconst 1, 1) := by decide +kernel
theorem dC_equivalent_87 : decode cC_equivalent 87 = .ok (.goto 4, 3) := by decide +kernel
theorem dC_equivalent_90 : decode cC_equivalent 90 = .ok (.iconst 0, 1) := by decide +kernel
theorem dC_equivalent_91 : decode cC_equivalent 91 = .ok (.ireturn, 1) := by decide +kernel
abbrev cC_value : ByteArray := prog_1_method_11_code
abbrev yC_value : MethodName := ⟨"RationalForms", "value", "(IIIII)J"⟩
abbrev wsC_value : List Cond := .code yC_value cC_value 8 (some .long) :: GG
theorem dC_value_0 : decode cC_value 0 = .ok (.aload_n 0, 1) := by decide +kernel
theorem dC_value_1 : decode cC_value 1 = .ok (.iload_n 1, 1) := by decide +kernel
theorem dC_value_2 : decode cC_value 2 = .ok (.invokevirtual 34, 3) := by decide +kernel
theorem dC_value_5 : decode cC_value 5 = .ok (.aload_n 0, 1) := by decide +kernel
theorem dC_value_6 : decode cC_value 6 = .ok (.getfield 28, 3) := by decide +kernel
theorem dC_value_9 : decode cC_value 9 = .ok (.iconst 0, 1) := by decide +kernel
theorem dC_value_10 : decode cC_value 10 = .ok (.iload_n 2, 1) := by decide +kernel
theorem dC_value_11 : decode cC_value 11 = .ok (.iastore, 1) := by decide +kernel
theorem dC_value_12 : decode cC_value 12 = .ok (.aload_n 0, 1) := by decide +kernel
theorem dC_value_13 : decode cC_value 13 = .ok (.getfield 28, 3) := by decide +kernel
theorem dC_value_16 : decode cC_value 16 = .ok (.iconst 1, 1) := by decide +kernel
theorem dC_value_17 : decode cC_value 17 = .ok (.iload_n 3, 1) := by decide +kernel
theorem dC_value_18 : decode cC_value 18 = .ok (.iastore, 1) := by decide +kernel
theorem dC_value_19 : decode cC_value 19 = .ok (.aload_n 0, 1) := by decide +kernel
theorem dC_value_20 : decode cC_value 20 = .ok (.getfield 28, 3) := by decide +kernel
theorem dC_value_23 : decode cC_value 23 = .ok (.iconst 2, 1) := by decide +kernel
theorem dC_value_24 : decode cC_value 24 = .ok (.iload 4, 2) := by decide +kernel
theorem dC_value_26 : decode cC_value 26 = .ok (.iastore, 1) := by decide +kernel
theorem dC_value_27 : decode cC_value 27 = .ok (.aload_n 0, 1) := by decide +kernel
theorem dC_value_28 : decode cC_value 28 = .ok (.getfield 28, 3) := by decide +kernel
theorem dC_value_31 : decode cC_value 31 = .ok (.iconst 3, 1) := by decide +kernel
theorem dC_value_32 : decode cC_value 32 = .ok (.iload 5, 2) := by decide +kernel
theorem dC_value_34 : decode cC_value 34 = .ok (.iastore, 1) := by decide +kernel
theorem dC_value_35 : decode cC_value 35 = .ok (.aload_n 0, 1) := by decide +kernel
theorem dC_value_36 : decode cC_value 36 = .ok (.getfield 11, 3) := by decide +kernel
theorem dC_value_39 : decode cC_value 39 = .ok (.iload_n 1, 1) := by decide +kernel
theorem dC_value_40 : decode cC_value 40 = .ok (.aaload, 1) := by decide +kernel
theorem dC_value_41 : decode cC_value 41 = .ok (.astore 6, 2) := by decide +kernel
theorem dC_value_43 : decode cC_value 43 = .ok (.iconst 0, 1) := by decide +kernel
theorem dC_value_44 : decode cC_value 44 = .ok (.istore 7, 2) := by decide +kernel
theorem dC_value_46 : decode cC_value 46 = .ok (.iload 7, 2) := by decide +kernel
theorem dC_value_48 : decode cC_value 48 = .ok (.aload 6, 2) := by decide +kernel
theorem dC_value_50 : decode cC_value 50 = .ok (.getfield 123, 3) := by decide +kernel
theorem dC_value_53 : decode cC_value 53 = .ok (.if_icmp .ge 20, 3) := by decide +kernel
theorem dC_value_56 : decode cC_value 56 = .ok (.aload_n 0, 1) := by decide +kernel
theorem dC_value_57 : decode cC_value 57 = .ok (.aload_n 0, 1) := by decide +kernel
theorem dC_value_58 : decode cC_value 58 = .ok (.getfield 28, 3) := by decide +kernel
theorem dC_value_61 : decode cC_value 61 = .ok (.iload 7, 2) := by decide +kernel
theorem dC_value_63 : decode cC_value 63 = .ok (.iaload, 1) := by decide +kernel
theorem dC_value_64 : decode cC_value 64 = .ok (.invokevirtual 111, 3) := by decide +kernel
theorem dC_value_67 : decode cC_value 67 = .ok (.iinc 7 1, 3) := by decide +kernel
theorem dC_value_70 : decode cC_value 70 = .ok (.goto (-24), 3) := by decide +kernel
theorem dC_value_73 : decode cC_value 73 = .ok (.aload 6, 2) := by decide +kernel
theorem dC_value_75 : decode cC_value 75 = .ok (.aload_n 0, 1) := by decide +kernel
theorem dC_value_76 : decode cC_value 76 = .ok (.getfield 28, 3) := by decide +kernel
theorem dC_value_79 : decode cC_value 79 = .ok (.invokevirtual 124, 3) := by decide +kernel
theorem dC_value_82 : decode cC_value 82 = .ok (.lreturn, 1) := by decide +kernel
abbrev cC_sign : ByteArray := prog_1_method_12_code
abbrev yC_sign : MethodName := ⟨"RationalForms", "sign", "(II)I"⟩
abbrev wsC_sign : List Cond := .code yC_sign cC_sign 4 (some .int) :: GG
theorem dC_sign_0 : decode cC_sign 0 = .ok (.aload_n 0, 1) := by decide +kernel
theorem dC_sign_1 : decode cC_sign 1 = .ok (.iload_n 1, 1) := by decide +kernel
theorem dC_sign_2 : decode cC_sign 2 = .ok (.invokevirtual 34, 3) := by decide +kernel
theorem dC_sign_5 : decode cC_sign 5 = .ok (.aload_n 0, 1) := by decide +kernel
theorem dC_sign_6 : decode cC_sign 6 = .ok (.iload_n 1, 1) := by decide +kernel
theorem dC_sign_7 : decode cC_sign 7 = .ok (.invokevirtual 65, 3) := by decide +kernel
theorem dC_sign_10 : decode cC_sign 10 = .ok (.iload_n 2, 1) := by decide +kernel
theorem dC_sign_11 : decode cC_sign 11 = .ok (.invokevirtual 128, 3) := by decide +kernel
theorem dC_sign_14 : decode cC_sign 14 = .ok (.istore_n 3, 1) := by decide +kernel
theorem dC_sign_15 : decode cC_sign 15 = .ok (.iload_n 3, 1) := by decide +kernel
theorem dC_sign_16 : decode cC_sign 16 = .ok (.iconst (-1), 1) := by decide +kernel
theorem dC_sign_17 : decode cC_sign 17 = .ok (.if_icmp .ne 13, 3) := by decide +kernel
theorem dC_sign_20 : decode cC_sign 20 = .ok (.new 54, 3) := by decide +kernel
theorem dC_sign_23 : decode cC_sign 23 = .ok (.dup, 1) := by decide +kernel
theorem dC_sign_24 : decode cC_sign 24 = .ok (.ldc 131, 2) := by decide +kernel
theorem dC_sign_26 : decode cC_sign 26 = .ok (.invokespecial 58, 3) := by decide +kernel
theorem dC_sign_29 : decode cC_sign 29 = .ok (.athrow, 1) := by decide +kernel
theorem dC_sign_30 : decode cC_sign 30 = .ok (.iload_n 3, 1) := by decide +kernel
theorem dC_sign_31 : decode cC_sign 31 = .ok (.ireturn, 1) := by decide +kernel
set_option maxRecDepth 20000 in
theorem wd117 : Cond.methodLink "RationalForms" 144 yR_reduce ∈ GG := GG_t 117 rfl rfl
set_option maxRecDepth 20000 in
theorem wd118 : Cond.instanceMethod yR_reduce ∈ GG := GG_t 118 rfl rfl
set_option maxRecDepth 20000 in
theorem wd119 : Cond.selects "RationalForms$Reduction" yR_reduce yR_reduce ∈ GG := GG_t 119 rfl rfl
set_option maxRecDepth 20000 in
theorem wd120 : Cond.code yR_reduce cR_reduce 8 none ∈ GG := GG_t 120 rfl rfl
set_option maxRecDepth 20000 in
theorem wd224 : Cond.classLink "RationalForms" 38 "java/lang/IllegalArgumentException" ∈ GG := GG_t 224 rfl rfl
set_option maxRecDepth 20000 in
theorem wd225 : Cond.instantiable "java/lang/IllegalArgumentException" 6 ∈ GG := GG_t 225 rfl rfl
set_option maxRecDepth 20000 in
theorem wd265 : Cond.stringRef "RationalForms" 133 "a form is 0 or 1" ∈ GG := GG_t 265 rfl rfl
set_option maxRecDepth 20000 in
theorem wd366 : Cond.methodLink "RationalForms" 135 yW_isPrime ∈ GG := GG_t 366 rfl rfl
set_option maxRecDepth 20000 in
theorem wd369 : Cond.stringRef "RationalForms" 140 "a place is 0 or a prime up to 1000" ∈ GG := GG_t 369 rfl rfl
set_option maxRecDepth 20000 in
theorem wd421 : Cond.stringRef "RationalForms" 142 "an argument is -1000 to 1000" ∈ GG := GG_t 421 rfl rfl
set_option maxRecDepth 20000 in
theorem wd9 : Cond.initialized "java/lang/IllegalArgumentException" ∈ GG := GG_t 9 rfl rfl
set_option maxRecDepth 20000 in
theorem wd96 : Cond.fieldLink "RationalForms" 11 "RationalForms" "forms" "[LRationalForms$Form;" ∈ GG := GG_t 96 rfl rfl
set_option maxRecDepth 20000 in
theorem wd97 : Cond.fieldLink "RationalForms" 17 "RationalForms" "diagonals" "[LRationalForms$Diagonal;" ∈ GG := GG_t 97 rfl rfl
set_option maxRecDepth 20000 in
theorem wd98 : Cond.fieldLink "RationalForms" 24 "RationalForms" "reduction" "LRationalForms$Reduction;" ∈ GG := GG_t 98 rfl rfl
set_option maxRecDepth 100000 in
set_option maxHeartbeats 4000000 in
theorem kC_checkForm (l : Launch) (hlf : l.flags = pinnedFlags ++ [noTraceFlag]) (E : En) (M : Me) (f : Int) (hf : b32 f) : CK l yC_checkForm wsC_checkForm (rmt 0) E M [.ref (E.2.1 0), .int (ji f)] (fo f) "java/lang/IllegalArgumentException" := by
  refine CK.ofG (by decide +kernel) (Nat.le_of_ble_eq_true rfl) ?_
  intro p_ e_ s_ m_ a_ b_ t_ c_ hx hb hml hr hk hg hown hK hP hS hth hnx ls hl
  have hl : lv_has ls 2 [(0, .ref (E.2.1 0)), (1, .int (ji f))] := hl
  refine lv_iload_n hx hb dC_checkForm_0 rfl (lv_at hl 1 rfl) ?_
  refine j_if_lt hx hb (by omega) dC_checkForm_1 rfl (fun h1 => ?_) (fun h1 => ?_)
  · exact ck_thr hx hb hml hlf hl hk hnx hown hg hth oa_IAE (by decide +kernel) (by decide +kernel) wd224 wd225 wd9 wd265 dC_checkForm_9 dC_checkForm_12 dC_checkForm_13 dC_checkForm_15 dC_checkForm_18 (by decide) (by omega)
  · refine lv_iload_n hx hb dC_checkForm_4 rfl (lv_at hl 1 rfl) ?_
    refine j_iconst hx hb dC_checkForm_5 ?_
    refine j_icmp_lt hx hb (by omega) (by omega) dC_checkForm_6 rfl (fun h2 => ?_) (fun h2 => ?_)
    · exact ck_ret hx hb hr hk dC_checkForm_19 (by omega)
    · exact ck_thr hx hb hml hlf hl hk hnx hown hg hth oa_IAE (by decide +kernel) (by decide +kernel) wd224 wd225 wd9 wd265 dC_checkForm_9 dC_checkForm_12 dC_checkForm_13 dC_checkForm_15 dC_checkForm_18 (by decide) (by omega)

set_option maxRecDepth 100000 in
set_option maxHeartbeats 4000000 in
theorem kC_checkPlace (l : Launch) (hlf : l.flags = pinnedFlags ++ [noTraceFlag]) (E : En) (M : Me) (q : Int) (hq : b32 q) : CK l yC_checkPlace wsC_checkPlace (rmt 0) E M [.ref (E.2.1 0), .int (ji q)] (pl0 q) "java/lang/IllegalArgumentException" := by
  refine CK.ofG (by decide +kernel) (Nat.le_of_ble_eq_true rfl) ?_
  intro p_ e_ s_ m_ a_ b_ t_ c_ hx hb hml hr hk hg hown hK hP hS hth hnx ls hl
  have hl : lv_has ls 2 [(0, .ref (E.2.1 0)), (1, .int (ji q))] := hl
  refine lv_iload_n hx hb dC_checkPlace_0 rfl (lv_at hl 1 rfl) ?_
  refine j_if_eq hx hb (by omega) dC_checkPlace_1 rfl (fun h1 => ?_) (fun h1 => ?_)
  · exact ck_ret hx hb hr hk dC_checkPlace_28 (Or.inl h1)
  · refine lv_iload_n hx hb dC_checkPlace_4 rfl (lv_at hl 1 rfl) ?_
    refine j_sipush hx hb dC_checkPlace_5 rfl ?_
    refine j_icmp_gt hx hb (by omega) (by omega) dC_checkPlace_8 rfl (fun h2 => ?_) (fun h2 => ?_)
    · exact ck_thr hx hb hml hlf hl hk hnx hown hg hth oa_IAE (by decide +kernel) (by decide +kernel) wd224 wd225 wd9 wd369 dC_checkPlace_18 dC_checkPlace_21 dC_checkPlace_22 dC_checkPlace_24 dC_checkPlace_27 (by decide) (fun z => by rcases z with z | z <;> omega)
    · refine lv_iload_n hx hb dC_checkPlace_11 rfl (lv_at hl 1 rfl) ?_
      refine pm_G (As := [.int (ji q)]) (rest := []) hx hb hml hown hg hl (kW_isPrime l q hq) wd366 wd367 wd11 wd368 ⟨rfl, rfl⟩ (n := 1) (by decide +kernel) rfl ⟨by decide, by decide⟩ rfl (Nat.le_of_ble_eq_true rfl) dC_checkPlace_12 ⟨Nat.zero_le _, Nat.zero_le _⟩ (fun r hr9 => ?_)
      subst hr9
      refine j_if_ne hx hb (bi_b32 _) dC_checkPlace_15 rfl (fun h3 => ?_) (fun h3 => ?_)
      · have hp := bi_ne h3
        exact ck_ret hx hb hr hk dC_checkPlace_28 (Or.inr ⟨h2, hp⟩)
      · have hp := bi_eq h3
        exact ck_thr hx hb hml hlf hl hk hnx hown hg hth oa_IAE (by decide +kernel) (by decide +kernel) wd224 wd225 wd9 wd369 dC_checkPlace_18 dC_checkPlace_21 dC_checkPlace_22 dC_checkPlace_24 dC_checkPlace_27 (by decide) (fun z => z.elim h1 (fun z => hp z.2))

set_option maxRecDepth 100000 in
set_option maxHeartbeats 4000000 in
theorem kC_checkArgument (l : Launch) (hlf : l.flags = pinnedFlags ++ [noTraceFlag]) (E : En) (M : Me) (v : Int) (hv : b32 v) : CK l yC_checkArgument wsC_checkArgument (rmt 0) E M [.ref (E.2.1 0), .int (ji v)] (-1000 ≤ v ∧ v ≤ 1000) "java/lang/IllegalArgumentException" := by
  refine CK.ofG (by decide +kernel) (Nat.le_of_ble_eq_true rfl) ?_
  intro p_ e_ s_ m_ a_ b_ t_ c_ hx hb hml hr hk hg hown hK hP hS hth hnx ls hl
  have hl : lv_has ls 2 [(0, .ref (E.2.1 0)), (1, .int (ji v))] := hl
  refine lv_iload_n hx hb dC_checkArgument_0 rfl (lv_at hl 1 rfl) ?_
  refine j_sipush hx hb dC_checkArgument_1 rfl ?_
  refine j_icmp_lt hx hb (by omega) (by omega) dC_checkArgument_4 rfl (fun h1 => ?_) (fun h1 => ?_)
  · exact ck_thr hx hb hml hlf hl hk hnx hown hg hth oa_IAE (by decide +kernel) (by decide +kernel) wd224 wd225 wd9 wd421 dC_checkArgument_14 dC_checkArgument_17 dC_checkArgument_18 dC_checkArgument_20 dC_checkArgument_23 (by decide) (by omega)
  · refine lv_iload_n hx hb dC_checkArgument_7 rfl (lv_at hl 1 rfl) ?_
    refine j_sipush hx hb dC_checkArgument_8 rfl ?_
    refine j_icmp_le hx hb (by omega) (by omega) dC_checkArgument_11 rfl (fun h2 => ?_) (fun h2 => ?_)
    · exact ck_ret hx hb hr hk dC_checkArgument_24 ⟨h1, h2⟩
    · exact ck_thr hx hb hml hlf hl hk hnx hown hg hth oa_IAE (by decide +kernel) (by decide +kernel) wd224 wd225 wd9 wd421 dC_checkArgument_14 dC_checkArgument_17 dC_checkArgument_18 dC_checkArgument_20 dC_checkArgument_23 (by decide) (by omega)

set_option maxRecDepth 100000 in
set_option maxHeartbeats 4000000 in
theorem kC_diagonalOf (l : Launch) (E : En) (hJ : wJ E) (M : Me) (f : Nat) (hf : f < 2) (n : Nat) (hn0 : M (5 + f) 0 = n) (hn1 : 1 ≤ n) (hn4 : n ≤ 4) (hA : sb 0 4 6 (fun i j => M (9 + 4 * f + i) j)) : MM l yC_diagonalOf wsC_diagonalOf (rmd 5) E M [.ref (E.2.1 0), .int (ji ((f:Int)))] (fun v M9 => v = some (.ref (E.2.1 (17 + f))) ∧ (∃ (r : Nat) (p : Nat → Int) (c : Nat), fpv n (fun i j => M (9 + 4 * f + i) j) r p ∧ c ≤ cB r ∧ DgS M9 f n r p c) ∧ (∀ q, q ≠ 3 → q ≠ 17 + f → q ≠ 19 + f → q ≠ 21 + f → (q < 24 ∨ 28 ≤ q) → M9 q = M q)) := by
  refine MM.ofG (by decide +kernel) (Nat.le_of_ble_eq_true rfl) ?_
  intro p_ e_ s_ m_ a_ b_ t_ c_ hx hb hml hr hk hg hown hK hP hS ls hl
  have hl : lv_has ls 2 [(0, .ref (E.2.1 0)), (1, .int (ji ((f:Int))))] := hl
  refine lv_aload_n hx hb dC_diagonalOf_0 rfl (lv_at hl 0 rfl) ?_
  refine m_get (C := "RationalForms") (T := TxC) (N := 4) hx hb hg uwC hown hK hP (by omega) (sh_C E _) rfl 2 (by decide) wd98 rfl dC_diagonalOf_1 ?_
  refine lv_aload_n hx hb dC_diagonalOf_4 rfl (lv_at hl 0 rfl) ?_
  refine m_get (C := "RationalForms") (T := TxC) (N := 4) hx hb hg uwC hown hK hP (by omega) (sh_C E _) rfl 0 (by decide) wd96 rfl dC_diagonalOf_5 ?_
  refine lv_iload_n hx hb dC_diagonalOf_8 rfl (lv_at hl 1 rfl) ?_
  refine m_aald (t0 := 4) (n := f) hx hb hK hP (by omega) (sh_fs E _) rfl rfl rfl (by omega) (by decide) dC_diagonalOf_9 ?_
  refine lv_aload_n hx hb dC_diagonalOf_10 rfl (lv_at hl 0 rfl) ?_
  refine m_get (C := "RationalForms") (T := TxC) (N := 4) hx hb hg uwC hown hK hP (by omega) (sh_C E _) rfl 1 (by decide) wd97 rfl dC_diagonalOf_11 ?_
  refine lv_iload_n hx hb dC_diagonalOf_14 rfl (lv_at hl 1 rfl) ?_
  refine m_aald (t0 := 5) (n := f) hx hb hK hP (by omega) (sh_ds E _) rfl rfl rfl (by omega) (by decide) dC_diagonalOf_15 ?_
  refine mm_V (As := [.ref (E.2.1 (5 + f)), .ref (E.2.1 (17 + f))]) (rest := []) hx hb hml hown hg hl hK hP hS (by omega) (sh_R E _) rfl (kR_reduce l E hJ M f hf n hn0 hn1 hn4 hA) wd117 wd118 wd119 wd2 wd120 ⟨rfl, rfl⟩ (n := 2) (by decide +kernel) rfl ⟨by decide, by decide⟩ rfl (Nat.le_of_ble_eq_true rfl) dC_diagonalOf_16 ⟨Nat.zero_le _, Nat.zero_le _⟩ (fun v M1 H locs hq hP hS => ?_)
  obtain ⟨rfl, ⟨r, p, c, x1, x2, x3, x4, x5⟩, x6⟩ := hq
  refine lv_aload_n hx hb dC_diagonalOf_19 rfl (lv_at hl 0 rfl) ?_
  refine m_get (C := "RationalForms") (T := TxC) (N := 4) hx hb hg uwC hown hK hP (by omega) (sh_C E _) rfl 1 (by decide) wd97 rfl dC_diagonalOf_20 ?_
  refine lv_iload_n hx hb dC_diagonalOf_23 rfl (lv_at hl 1 rfl) ?_
  refine m_aald (t0 := 5) (n := f) hx hb hK hP (by omega) (sh_ds E _) rfl rfl rfl (by omega) (by decide) dC_diagonalOf_24 ?_
  exact mm_aret hx hb hr hk hP hS dC_diagonalOf_25 ⟨rfl, ⟨r, p, c, ⟨x1, x2, x3⟩, x4, x5⟩, x6⟩
