/-! Places (the class) and Math.floorMod: names, contracts -/
abbrev cJ_floorMod : ByteArray := prog_13_method_52_code
abbrev yJ_floorMod : MethodName := ⟨"java/lang/Math", "floorMod", "(JJ)J"⟩
abbrev wsJ_floorMod : List Cond := .code yJ_floorMod cJ_floorMod 6 (some .long) :: GG
theorem dJ_floorMod_0 : decode cJ_floorMod 0 = .ok (.lload_n 0, 1) := by decide +kernel
theorem dJ_floorMod_1 : decode cJ_floorMod 1 = .ok (.lload_n 2, 1) := by decide +kernel
theorem dJ_floorMod_2 : decode cJ_floorMod 2 = .ok (.lrem, 1) := by decide +kernel
theorem dJ_floorMod_3 : decode cJ_floorMod 3 = .ok (.lstore 4, 2) := by decide +kernel
theorem dJ_floorMod_5 : decode cJ_floorMod 5 = .ok (.lload_n 0, 1) := by decide +kernel
theorem dJ_floorMod_6 : decode cJ_floorMod 6 = .ok (.lload_n 2, 1) := by decide +kernel
theorem dJ_floorMod_7 : decode cJ_floorMod 7 = .ok (.lxor, 1) := by decide +kernel
theorem dJ_floorMod_8 : decode cJ_floorMod 8 = .ok (.lconst 0, 1) := by decide +kernel
theorem dJ_floorMod_9 : decode cJ_floorMod 9 = .ok (.lcmp, 1) := by decide +kernel
theorem dJ_floorMod_10 : decode cJ_floorMod 10 = .ok (.ifCond .ge 15, 3) := by decide +kernel
theorem dJ_floorMod_13 : decode cJ_floorMod 13 = .ok (.lload 4, 2) := by decide +kernel
theorem dJ_floorMod_15 : decode cJ_floorMod 15 = .ok (.lconst 0, 1) := by decide +kernel
theorem dJ_floorMod_16 : decode cJ_floorMod 16 = .ok (.lcmp, 1) := by decide +kernel
theorem dJ_floorMod_17 : decode cJ_floorMod 17 = .ok (.ifCond .eq 8, 3) := by decide +kernel
theorem dJ_floorMod_20 : decode cJ_floorMod 20 = .ok (.lload 4, 2) := by decide +kernel
theorem dJ_floorMod_22 : decode cJ_floorMod 22 = .ok (.lload_n 2, 1) := by decide +kernel
theorem dJ_floorMod_23 : decode cJ_floorMod 23 = .ok (.ladd, 1) := by decide +kernel
theorem dJ_floorMod_24 : decode cJ_floorMod 24 = .ok (.lreturn, 1) := by decide +kernel
theorem dJ_floorMod_25 : decode cJ_floorMod 25 = .ok (.lload 4, 2) := by decide +kernel
theorem dJ_floorMod_27 : decode cJ_floorMod 27 = .ok (.lreturn, 1) := by decide +kernel
abbrev cP_orderOf : ByteArray := prog_4_method_6_code
abbrev yP_orderOf : MethodName := ⟨"RationalForms$Places", "orderOf", "(JI)I"⟩
abbrev wsP_orderOf : List Cond := .code yP_orderOf cP_orderOf 6 (some .int) :: GG
theorem dP_orderOf_0 : decode cP_orderOf 0 = .ok (.lload_n 0, 1) := by decide +kernel
theorem dP_orderOf_1 : decode cP_orderOf 1 = .ok (.lstore_n 3, 1) := by decide +kernel
theorem dP_orderOf_2 : decode cP_orderOf 2 = .ok (.iconst 0, 1) := by decide +kernel
theorem dP_orderOf_3 : decode cP_orderOf 3 = .ok (.istore 5, 2) := by decide +kernel
theorem dP_orderOf_5 : decode cP_orderOf 5 = .ok (.iload 5, 2) := by decide +kernel
theorem dP_orderOf_7 : decode cP_orderOf 7 = .ok (.bipush 64, 2) := by decide +kernel
theorem dP_orderOf_9 : decode cP_orderOf 9 = .ok (.if_icmp .ge 23, 3) := by decide +kernel
theorem dP_orderOf_12 : decode cP_orderOf 12 = .ok (.lload_n 3, 1) := by decide +kernel
theorem dP_orderOf_13 : decode cP_orderOf 13 = .ok (.iload_n 2, 1) := by decide +kernel
theorem dP_orderOf_14 : decode cP_orderOf 14 = .ok (.i2l, 1) := by decide +kernel
theorem dP_orderOf_15 : decode cP_orderOf 15 = .ok (.lrem, 1) := by decide +kernel
theorem dP_orderOf_16 : decode cP_orderOf 16 = .ok (.lconst 0, 1) := by decide +kernel
theorem dP_orderOf_17 : decode cP_orderOf 17 = .ok (.lcmp, 1) := by decide +kernel
theorem dP_orderOf_18 : decode cP_orderOf 18 = .ok (.ifCond .ne 14, 3) := by decide +kernel
theorem dP_orderOf_21 : decode cP_orderOf 21 = .ok (.lload_n 3, 1) := by decide +kernel
theorem dP_orderOf_22 : decode cP_orderOf 22 = .ok (.iload_n 2, 1) := by decide +kernel
theorem dP_orderOf_23 : decode cP_orderOf 23 = .ok (.i2l, 1) := by decide +kernel
theorem dP_orderOf_24 : decode cP_orderOf 24 = .ok (.ldiv, 1) := by decide +kernel
theorem dP_orderOf_25 : decode cP_orderOf 25 = .ok (.lstore_n 3, 1) := by decide +kernel
theorem dP_orderOf_26 : decode cP_orderOf 26 = .ok (.iinc 5 1, 3) := by decide +kernel
theorem dP_orderOf_29 : decode cP_orderOf 29 = .ok (.goto (-24), 3) := by decide +kernel
theorem dP_orderOf_32 : decode cP_orderOf 32 = .ok (.iload 5, 2) := by decide +kernel
theorem dP_orderOf_34 : decode cP_orderOf 34 = .ok (.ireturn, 1) := by decide +kernel
abbrev cP_unitOf : ByteArray := prog_4_method_7_code
abbrev yP_unitOf : MethodName := ⟨"RationalForms$Places", "unitOf", "(JI)I"⟩
abbrev wsP_unitOf : List Cond := .code yP_unitOf cP_unitOf 5 (some .int) :: GG
theorem dP_unitOf_0 : decode cP_unitOf 0 = .ok (.lload_n 0, 1) := by decide +kernel
theorem dP_unitOf_1 : decode cP_unitOf 1 = .ok (.iload_n 2, 1) := by decide +kernel
theorem dP_unitOf_2 : decode cP_unitOf 2 = .ok (.i2l, 1) := by decide +kernel
theorem dP_unitOf_3 : decode cP_unitOf 3 = .ok (.invokestatic 32, 3) := by decide +kernel
theorem dP_unitOf_6 : decode cP_unitOf 6 = .ok (.lstore_n 3, 1) := by decide +kernel
theorem dP_unitOf_7 : decode cP_unitOf 7 = .ok (.lload_n 3, 1) := by decide +kernel
theorem dP_unitOf_8 : decode cP_unitOf 8 = .ok (.iload_n 2, 1) := by decide +kernel
theorem dP_unitOf_9 : decode cP_unitOf 9 = .ok (.iconst 2, 1) := by decide +kernel
theorem dP_unitOf_10 : decode cP_unitOf 10 = .ok (.if_icmp .ne 9, 3) := by decide +kernel
theorem dP_unitOf_13 : decode cP_unitOf 13 = .ok (.ldc2_w 36, 3) := by decide +kernel
theorem dP_unitOf_16 : decode cP_unitOf 16 = .ok (.goto 5, 3) := by decide +kernel
theorem dP_unitOf_19 : decode cP_unitOf 19 = .ok (.iload_n 2, 1) := by decide +kernel
theorem dP_unitOf_20 : decode cP_unitOf 20 = .ok (.i2l, 1) := by decide +kernel
theorem dP_unitOf_21 : decode cP_unitOf 21 = .ok (.invokestatic 38, 3) := by decide +kernel
theorem dP_unitOf_24 : decode cP_unitOf 24 = .ok (.l2i, 1) := by decide +kernel
theorem dP_unitOf_25 : decode cP_unitOf 25 = .ok (.ireturn, 1) := by decide +kernel
abbrev cP_isRemainder : ByteArray := prog_4_method_8_code
abbrev yP_isRemainder : MethodName := ⟨"RationalForms$Places", "isRemainder", "(II)Z"⟩
abbrev wsP_isRemainder : List Cond := .code yP_isRemainder cP_isRemainder 8 (some .boolean) :: GG
theorem dP_isRemainder_0 : decode cP_isRemainder 0 = .ok (.iload_n 1, 1) := by decide +kernel
theorem dP_isRemainder_1 : decode cP_isRemainder 1 = .ok (.iconst 1, 1) := by decide +kernel
theorem dP_isRemainder_2 : decode cP_isRemainder 2 = .ok (.isub, 1) := by decide +kernel
theorem dP_isRemainder_3 : decode cP_isRemainder 3 = .ok (.iconst 2, 1) := by decide +kernel
theorem dP_isRemainder_4 : decode cP_isRemainder 4 = .ok (.idiv, 1) := by decide +kernel
theorem dP_isRemainder_5 : decode cP_isRemainder 5 = .ok (.istore_n 2, 1) := by decide +kernel
theorem dP_isRemainder_6 : decode cP_isRemainder 6 = .ok (.lconst 1, 1) := by decide +kernel
theorem dP_isRemainder_7 : decode cP_isRemainder 7 = .ok (.lstore_n 3, 1) := by decide +kernel
theorem dP_isRemainder_8 : decode cP_isRemainder 8 = .ok (.iload_n 0, 1) := by decide +kernel
theorem dP_isRemainder_9 : decode cP_isRemainder 9 = .ok (.i2l, 1) := by decide +kernel
theorem dP_isRemainder_10 : decode cP_isRemainder 10 = .ok (.lstore 5, 2) := by decide +kernel
theorem dP_isRemainder_12 : decode cP_isRemainder 12 = .ok (.iconst 0, 1) := by decide +kernel
theorem dP_isRemainder_13 : decode cP_isRemainder 13 = .ok (.istore 7, 2) := by decide +kernel
theorem dP_isRemainder_15 : decode cP_isRemainder 15 = .ok (.iload 7, 2) := by decide +kernel
theorem dP_isRemainder_17 : decode cP_isRemainder 17 = .ok (.bipush 31, 2) := by decide +kernel
theorem dP_isRemainder_19 : decode cP_isRemainder 19 = .ok (.if_icmp .ge 37, 3) := by decide +kernel
theorem dP_isRemainder_22 : decode cP_isRemainder 22 = .ok (.iload_n 2, 1) := by decide +kernel
theorem dP_isRemainder_23 : decode cP_isRemainder 23 = .ok (.iload 7, 2) := by decide +kernel
theorem dP_isRemainder_25 : decode cP_isRemainder 25 = .ok (.ishr, 1) := by decide +kernel
theorem dP_isRemainder_26 : decode cP_isRemainder 26 = .ok (.iconst 2, 1) := by decide +kernel
theorem dP_isRemainder_27 : decode cP_isRemainder 27 = .ok (.irem, 1) := by decide +kernel
theorem dP_isRemainder_28 : decode cP_isRemainder 28 = .ok (.iconst 1, 1) := by decide +kernel
theorem dP_isRemainder_29 : decode cP_isRemainder 29 = .ok (.if_icmp .ne 11, 3) := by decide +kernel
theorem dP_isRemainder_32 : decode cP_isRemainder 32 = .ok (.lload_n 3, 1) := by decide +kernel
theorem dP_isRemainder_33 : decode cP_isRemainder 33 = .ok (.lload 5, 2) := by decide +kernel
theorem dP_isRemainder_35 : decode cP_isRemainder 35 = .ok (.lmul, 1) := by decide +kernel
theorem dP_isRemainder_36 : decode cP_isRemainder 36 = .ok (.iload_n 1, 1) := by decide +kernel
theorem dP_isRemainder_37 : decode cP_isRemainder 37 = .ok (.i2l, 1) := by decide +kernel
theorem dP_isRemainder_38 : decode cP_isRemainder 38 = .ok (.lrem, 1) := by decide +kernel
theorem dP_isRemainder_39 : decode cP_isRemainder 39 = .ok (.lstore_n 3, 1) := by decide +kernel
theorem dP_isRemainder_40 : decode cP_isRemainder 40 = .ok (.lload 5, 2) := by decide +kernel
theorem dP_isRemainder_42 : decode cP_isRemainder 42 = .ok (.lload 5, 2) := by decide +kernel
theorem dP_isRemainder_44 : decode cP_isRemainder 44 = .ok (.lmul, 1) := by decide +kernel
theorem dP_isRemainder_45 : decode cP_isRemainder 45 = .ok (.iload_n 1, 1) := by decide +kernel
theorem dP_isRemainder_46 : decode cP_isRemainder 46 = .ok (.i2l, 1) := by decide +kernel
theorem dP_isRemainder_47 : decode cP_isRemainder 47 = .ok (.lrem, 1) := by decide +kernel
theorem dP_isRemainder_48 : decode cP_isRemainder 48 = .ok (.lstore 5, 2) := by decide +kernel
theorem dP_isRemainder_50 : decode cP_isRemainder 50 = .ok (.iinc 7 1, 3) := by decide +kernel
theorem dP_isRemainder_53 : decode cP_isRemainder 53 = .ok (.goto (-38), 3) := by decide +kernel
theorem dP_isRemainder_56 : decode cP_isRemainder 56 = .ok (.lload_n 3, 1) := by decide +kernel
theorem dP_isRemainder_57 : decode cP_isRemainder 57 = .ok (.lconst 1, 1) := by decide +kernel
theorem dP_isRemainder_58 : decode cP_isRemainder 58 = .ok (.lcmp, 1) := by decide +kernel
theorem dP_isRemainder_59 : decode cP_isRemainder 59 = .ok (.ifCond .ne 7, 3) := by decide +kernel
theorem dP_isRemainder_62 : decode cP_isRemainder 62 = .ok (.iconst 1, 1) := by decide +kernel
theorem dP_isRemainder_63 : decode cP_isRemainder 63 = .ok (.goto 4, 3) := by decide +kernel
theorem dP_isRemainder_66 : decode cP_isRemainder 66 = .ok (.iconst 0, 1) := by decide +kernel
theorem dP_isRemainder_67 : decode cP_isRemainder 67 = .ok (.ireturn, 1) := by decide +kernel
abbrev cP_symbolAtTwo : ByteArray := prog_4_method_3_code
abbrev yP_symbolAtTwo : MethodName := ⟨"RationalForms$Places", "symbolAtTwo", "(IIII)I"⟩
abbrev wsP_symbolAtTwo : List Cond := .code yP_symbolAtTwo cP_symbolAtTwo 5 (some .int) :: GG
theorem dP_symbolAtTwo_0 : decode cP_symbolAtTwo 0 = .ok (.iload_n 2, 1) := by decide +kernel
theorem dP_symbolAtTwo_1 : decode cP_symbolAtTwo 1 = .ok (.iconst 1, 1) := by decide +kernel
theorem dP_symbolAtTwo_2 : decode cP_symbolAtTwo 2 = .ok (.isub, 1) := by decide +kernel
theorem dP_symbolAtTwo_3 : decode cP_symbolAtTwo 3 = .ok (.iconst 2, 1) := by decide +kernel
theorem dP_symbolAtTwo_4 : decode cP_symbolAtTwo 4 = .ok (.idiv, 1) := by decide +kernel
theorem dP_symbolAtTwo_5 : decode cP_symbolAtTwo 5 = .ok (.iload_n 3, 1) := by decide +kernel
theorem dP_symbolAtTwo_6 : decode cP_symbolAtTwo 6 = .ok (.iconst 1, 1) := by decide +kernel
theorem dP_symbolAtTwo_7 : decode cP_symbolAtTwo 7 = .ok (.isub, 1) := by decide +kernel
theorem dP_symbolAtTwo_8 : decode cP_symbolAtTwo 8 = .ok (.iconst 2, 1) := by decide +kernel
theorem dP_symbolAtTwo_9 : decode cP_symbolAtTwo 9 = .ok (.idiv, 1) := by decide +kernel
theorem dP_symbolAtTwo_10 : decode cP_symbolAtTwo 10 = .ok (.imul, 1) := by decide +kernel
theorem dP_symbolAtTwo_11 : decode cP_symbolAtTwo 11 = .ok (.iload_n 0, 1) := by decide +kernel
theorem dP_symbolAtTwo_12 : decode cP_symbolAtTwo 12 = .ok (.iload_n 3, 1) := by decide +kernel
theorem dP_symbolAtTwo_13 : decode cP_symbolAtTwo 13 = .ok (.iload_n 3, 1) := by decide +kernel
theorem dP_symbolAtTwo_14 : decode cP_symbolAtTwo 14 = .ok (.imul, 1) := by decide +kernel
theorem dP_symbolAtTwo_15 : decode cP_symbolAtTwo 15 = .ok (.iconst 1, 1) := by decide +kernel
theorem dP_symbolAtTwo_16 : decode cP_symbolAtTwo 16 = .ok (.isub, 1) := by decide +kernel
theorem dP_symbolAtTwo_17 : decode cP_symbolAtTwo 17 = .ok (.bipush 8, 2) := by decide +kernel
theorem dP_symbolAtTwo_19 : decode cP_symbolAtTwo 19 = .ok (.idiv, 1) := by decide +kernel
theorem dP_symbolAtTwo_20 : decode cP_symbolAtTwo 20 = .ok (.imul, 1) := by decide +kernel
theorem dP_symbolAtTwo_21 : decode cP_symbolAtTwo 21 = .ok (.iadd, 1) := by decide +kernel
theorem dP_symbolAtTwo_22 : decode cP_symbolAtTwo 22 = .ok (.iload_n 1, 1) := by decide +kernel
theorem dP_symbolAtTwo_23 : decode cP_symbolAtTwo 23 = .ok (.iload_n 2, 1) := by decide +kernel
theorem dP_symbolAtTwo_24 : decode cP_symbolAtTwo 24 = .ok (.iload_n 2, 1) := by decide +kernel
theorem dP_symbolAtTwo_25 : decode cP_symbolAtTwo 25 = .ok (.imul, 1) := by decide +kernel
theorem dP_symbolAtTwo_26 : decode cP_symbolAtTwo 26 = .ok (.iconst 1, 1) := by decide +kernel
theorem dP_symbolAtTwo_27 : decode cP_symbolAtTwo 27 = .ok (.isub, 1) := by decide +kernel
theorem dP_symbolAtTwo_28 : decode cP_symbolAtTwo 28 = .ok (.bipush 8, 2) := by decide +kernel
theorem dP_symbolAtTwo_30 : decode cP_symbolAtTwo 30 = .ok (.idiv, 1) := by decide +kernel
theorem dP_symbolAtTwo_31 : decode cP_symbolAtTwo 31 = .ok (.imul, 1) := by decide +kernel
theorem dP_symbolAtTwo_32 : decode cP_symbolAtTwo 32 = .ok (.iadd, 1) := by decide +kernel
theorem dP_symbolAtTwo_33 : decode cP_symbolAtTwo 33 = .ok (.istore 4, 2) := by decide +kernel
theorem dP_symbolAtTwo_35 : decode cP_symbolAtTwo 35 = .ok (.iload 4, 2) := by decide +kernel
theorem dP_symbolAtTwo_37 : decode cP_symbolAtTwo 37 = .ok (.iconst 2, 1) := by decide +kernel
theorem dP_symbolAtTwo_38 : decode cP_symbolAtTwo 38 = .ok (.irem, 1) := by decide +kernel
theorem dP_symbolAtTwo_39 : decode cP_symbolAtTwo 39 = .ok (.ifCond .ne 7, 3) := by decide +kernel
theorem dP_symbolAtTwo_42 : decode cP_symbolAtTwo 42 = .ok (.iconst 1, 1) := by decide +kernel
theorem dP_symbolAtTwo_43 : decode cP_symbolAtTwo 43 = .ok (.goto 4, 3) := by decide +kernel
theorem dP_symbolAtTwo_46 : decode cP_symbolAtTwo 46 = .ok (.iconst (-1), 1) := by decide +kernel
theorem dP_symbolAtTwo_47 : decode cP_symbolAtTwo 47 = .ok (.ireturn, 1) := by decide +kernel
abbrev cP_symbolAtOdd : ByteArray := prog_4_method_4_code
abbrev yP_symbolAtOdd : MethodName := ⟨"RationalForms$Places", "symbolAtOdd", "(IIIII)I"⟩
abbrev wsP_symbolAtOdd : List Cond := .code yP_symbolAtOdd cP_symbolAtOdd 6 (some .int) :: GG
theorem dP_symbolAtOdd_0 : decode cP_symbolAtOdd 0 = .ok (.iload_n 0, 1) := by decide +kernel
theorem dP_symbolAtOdd_1 : decode cP_symbolAtOdd 1 = .ok (.iload_n 1, 1) := by decide +kernel
theorem dP_symbolAtOdd_2 : decode cP_symbolAtOdd 2 = .ok (.imul, 1) := by decide +kernel
theorem dP_symbolAtOdd_3 : decode cP_symbolAtOdd 3 = .ok (.iload 4, 2) := by decide +kernel
theorem dP_symbolAtOdd_5 : decode cP_symbolAtOdd 5 = .ok (.iconst 1, 1) := by decide +kernel
theorem dP_symbolAtOdd_6 : decode cP_symbolAtOdd 6 = .ok (.isub, 1) := by decide +kernel
theorem dP_symbolAtOdd_7 : decode cP_symbolAtOdd 7 = .ok (.iconst 2, 1) := by decide +kernel
theorem dP_symbolAtOdd_8 : decode cP_symbolAtOdd 8 = .ok (.idiv, 1) := by decide +kernel
theorem dP_symbolAtOdd_9 : decode cP_symbolAtOdd 9 = .ok (.imul, 1) := by decide +kernel
theorem dP_symbolAtOdd_10 : decode cP_symbolAtOdd 10 = .ok (.iconst 2, 1) := by decide +kernel
theorem dP_symbolAtOdd_11 : decode cP_symbolAtOdd 11 = .ok (.irem, 1) := by decide +kernel
theorem dP_symbolAtOdd_12 : decode cP_symbolAtOdd 12 = .ok (.ifCond .ne 7, 3) := by decide +kernel
theorem dP_symbolAtOdd_15 : decode cP_symbolAtOdd 15 = .ok (.iconst 1, 1) := by decide +kernel
theorem dP_symbolAtOdd_16 : decode cP_symbolAtOdd 16 = .ok (.goto 4, 3) := by decide +kernel
theorem dP_symbolAtOdd_19 : decode cP_symbolAtOdd 19 = .ok (.iconst (-1), 1) := by decide +kernel
theorem dP_symbolAtOdd_20 : decode cP_symbolAtOdd 20 = .ok (.istore 5, 2) := by decide +kernel
theorem dP_symbolAtOdd_22 : decode cP_symbolAtOdd 22 = .ok (.iload_n 1, 1) := by decide +kernel
theorem dP_symbolAtOdd_23 : decode cP_symbolAtOdd 23 = .ok (.iconst 1, 1) := by decide +kernel
theorem dP_symbolAtOdd_24 : decode cP_symbolAtOdd 24 = .ok (.if_icmp .ne 17, 3) := by decide +kernel
theorem dP_symbolAtOdd_27 : decode cP_symbolAtOdd 27 = .ok (.iload_n 2, 1) := by decide +kernel
theorem dP_symbolAtOdd_28 : decode cP_symbolAtOdd 28 = .ok (.iload 4, 2) := by decide +kernel
theorem dP_symbolAtOdd_30 : decode cP_symbolAtOdd 30 = .ok (.invokestatic 26, 3) := by decide +kernel
theorem dP_symbolAtOdd_33 : decode cP_symbolAtOdd 33 = .ok (.ifCond .ne 8, 3) := by decide +kernel
theorem dP_symbolAtOdd_36 : decode cP_symbolAtOdd 36 = .ok (.iload 5, 2) := by decide +kernel
theorem dP_symbolAtOdd_38 : decode cP_symbolAtOdd 38 = .ok (.ineg, 1) := by decide +kernel
theorem dP_symbolAtOdd_39 : decode cP_symbolAtOdd 39 = .ok (.istore 5, 2) := by decide +kernel
theorem dP_symbolAtOdd_41 : decode cP_symbolAtOdd 41 = .ok (.iload_n 0, 1) := by decide +kernel
theorem dP_symbolAtOdd_42 : decode cP_symbolAtOdd 42 = .ok (.iconst 1, 1) := by decide +kernel
theorem dP_symbolAtOdd_43 : decode cP_symbolAtOdd 43 = .ok (.if_icmp .ne 17, 3) := by decide +kernel
theorem dP_symbolAtOdd_46 : decode cP_symbolAtOdd 46 = .ok (.iload_n 3, 1) := by decide +kernel
theorem dP_symbolAtOdd_47 : decode cP_symbolAtOdd 47 = .ok (.iload 4, 2) := by decide +kernel
theorem dP_symbolAtOdd_49 : decode cP_symbolAtOdd 49 = .ok (.invokestatic 26, 3) := by decide +kernel
theorem dP_symbolAtOdd_52 : decode cP_symbolAtOdd 52 = .ok (.ifCond .ne 8, 3) := by decide +kernel
theorem dP_symbolAtOdd_55 : decode cP_symbolAtOdd 55 = .ok (.iload 5, 2) := by decide +kernel
theorem dP_symbolAtOdd_57 : decode cP_symbolAtOdd 57 = .ok (.ineg, 1) := by decide +kernel
theorem dP_symbolAtOdd_58 : decode cP_symbolAtOdd 58 = .ok (.istore 5, 2) := by decide +kernel
theorem dP_symbolAtOdd_60 : decode cP_symbolAtOdd 60 = .ok (.iload 5, 2) := by decide +kernel
theorem dP_symbolAtOdd_62 : decode cP_symbolAtOdd 62 = .ok (.ireturn, 1) := by decide +kernel
abbrev cP_isSquare : ByteArray := prog_4_method_5_code
abbrev yP_isSquare : MethodName := ⟨"RationalForms$Places", "isSquare", "(JI)Z"⟩
abbrev wsP_isSquare : List Cond := .code yP_isSquare cP_isSquare 4 (some .boolean) :: GG
theorem dP_isSquare_0 : decode cP_isSquare 0 = .ok (.iload_n 2, 1) := by decide +kernel
theorem dP_isSquare_1 : decode cP_isSquare 1 = .ok (.ifCond .ne 15, 3) := by decide +kernel
theorem dP_isSquare_4 : decode cP_isSquare 4 = .ok (.lload_n 0, 1) := by decide +kernel
theorem dP_isSquare_5 : decode cP_isSquare 5 = .ok (.lconst 0, 1) := by decide +kernel
theorem dP_isSquare_6 : decode cP_isSquare 6 = .ok (.lcmp, 1) := by decide +kernel
theorem dP_isSquare_7 : decode cP_isSquare 7 = .ok (.ifCond .le 7, 3) := by decide +kernel
theorem dP_isSquare_10 : decode cP_isSquare 10 = .ok (.iconst 1, 1) := by decide +kernel
theorem dP_isSquare_11 : decode cP_isSquare 11 = .ok (.goto 4, 3) := by decide +kernel
theorem dP_isSquare_14 : decode cP_isSquare 14 = .ok (.iconst 0, 1) := by decide +kernel
theorem dP_isSquare_15 : decode cP_isSquare 15 = .ok (.ireturn, 1) := by decide +kernel
theorem dP_isSquare_16 : decode cP_isSquare 16 = .ok (.lload_n 0, 1) := by decide +kernel
theorem dP_isSquare_17 : decode cP_isSquare 17 = .ok (.iload_n 2, 1) := by decide +kernel
theorem dP_isSquare_18 : decode cP_isSquare 18 = .ok (.invokestatic 9, 3) := by decide +kernel
theorem dP_isSquare_21 : decode cP_isSquare 21 = .ok (.iconst 2, 1) := by decide +kernel
theorem dP_isSquare_22 : decode cP_isSquare 22 = .ok (.irem, 1) := by decide +kernel
theorem dP_isSquare_23 : decode cP_isSquare 23 = .ok (.ifCond .eq 5, 3) := by decide +kernel
theorem dP_isSquare_26 : decode cP_isSquare 26 = .ok (.iconst 0, 1) := by decide +kernel
theorem dP_isSquare_27 : decode cP_isSquare 27 = .ok (.ireturn, 1) := by decide +kernel
theorem dP_isSquare_28 : decode cP_isSquare 28 = .ok (.lload_n 0, 1) := by decide +kernel
theorem dP_isSquare_29 : decode cP_isSquare 29 = .ok (.iload_n 2, 1) := by decide +kernel
theorem dP_isSquare_30 : decode cP_isSquare 30 = .ok (.invokestatic 15, 3) := by decide +kernel
theorem dP_isSquare_33 : decode cP_isSquare 33 = .ok (.istore_n 3, 1) := by decide +kernel
theorem dP_isSquare_34 : decode cP_isSquare 34 = .ok (.iload_n 2, 1) := by decide +kernel
theorem dP_isSquare_35 : decode cP_isSquare 35 = .ok (.iconst 2, 1) := by decide +kernel
theorem dP_isSquare_36 : decode cP_isSquare 36 = .ok (.if_icmp .ne 16, 3) := by decide +kernel
theorem dP_isSquare_39 : decode cP_isSquare 39 = .ok (.iload_n 3, 1) := by decide +kernel
theorem dP_isSquare_40 : decode cP_isSquare 40 = .ok (.iconst 1, 1) := by decide +kernel
theorem dP_isSquare_41 : decode cP_isSquare 41 = .ok (.if_icmp .ne 7, 3) := by decide +kernel
theorem dP_isSquare_44 : decode cP_isSquare 44 = .ok (.iconst 1, 1) := by decide +kernel
theorem dP_isSquare_45 : decode cP_isSquare 45 = .ok (.goto 12, 3) := by decide +kernel
theorem dP_isSquare_48 : decode cP_isSquare 48 = .ok (.iconst 0, 1) := by decide +kernel
theorem dP_isSquare_49 : decode cP_isSquare 49 = .ok (.goto 8, 3) := by decide +kernel
theorem dP_isSquare_52 : decode cP_isSquare 52 = .ok (.iload_n 3, 1) := by decide +kernel
theorem dP_isSquare_53 : decode cP_isSquare 53 = .ok (.iload_n 2, 1) := by decide +kernel
theorem dP_isSquare_54 : decode cP_isSquare 54 = .ok (.invokestatic 26, 3) := by decide +kernel
theorem dP_isSquare_57 : decode cP_isSquare 57 = .ok (.ireturn, 1) := by decide +kernel
abbrev cP_symbolOf : ByteArray := prog_4_method_2_code
abbrev yP_symbolOf : MethodName := ⟨"RationalForms$Places", "symbolOf", "(JJI)I"⟩
abbrev wsP_symbolOf : List Cond := .code yP_symbolOf cP_symbolOf 9 (some .int) :: GG
theorem dP_symbolOf_0 : decode cP_symbolOf 0 = .ok (.iload 4, 2) := by decide +kernel
theorem dP_symbolOf_2 : decode cP_symbolOf 2 = .ok (.ifCond .ne 21, 3) := by decide +kernel
theorem dP_symbolOf_5 : decode cP_symbolOf 5 = .ok (.lload_n 0, 1) := by decide +kernel
theorem dP_symbolOf_6 : decode cP_symbolOf 6 = .ok (.lconst 0, 1) := by decide +kernel
theorem dP_symbolOf_7 : decode cP_symbolOf 7 = .ok (.lcmp, 1) := by decide +kernel
theorem dP_symbolOf_8 : decode cP_symbolOf 8 = .ok (.ifCond .ge 13, 3) := by decide +kernel
theorem dP_symbolOf_11 : decode cP_symbolOf 11 = .ok (.lload_n 2, 1) := by decide +kernel
theorem dP_symbolOf_12 : decode cP_symbolOf 12 = .ok (.lconst 0, 1) := by decide +kernel
theorem dP_symbolOf_13 : decode cP_symbolOf 13 = .ok (.lcmp, 1) := by decide +kernel
theorem dP_symbolOf_14 : decode cP_symbolOf 14 = .ok (.ifCond .ge 7, 3) := by decide +kernel
theorem dP_symbolOf_17 : decode cP_symbolOf 17 = .ok (.iconst (-1), 1) := by decide +kernel
theorem dP_symbolOf_18 : decode cP_symbolOf 18 = .ok (.goto 4, 3) := by decide +kernel
theorem dP_symbolOf_21 : decode cP_symbolOf 21 = .ok (.iconst 1, 1) := by decide +kernel
theorem dP_symbolOf_22 : decode cP_symbolOf 22 = .ok (.ireturn, 1) := by decide +kernel
theorem dP_symbolOf_23 : decode cP_symbolOf 23 = .ok (.lload_n 0, 1) := by decide +kernel
theorem dP_symbolOf_24 : decode cP_symbolOf 24 = .ok (.iload 4, 2) := by decide +kernel
theorem dP_symbolOf_26 : decode cP_symbolOf 26 = .ok (.invokestatic 9, 3) := by decide +kernel
theorem dP_symbolOf_29 : decode cP_symbolOf 29 = .ok (.iconst 2, 1) := by decide +kernel
theorem dP_symbolOf_30 : decode cP_symbolOf 30 = .ok (.irem, 1) := by decide +kernel
theorem dP_symbolOf_31 : decode cP_symbolOf 31 = .ok (.istore 5, 2) := by decide +kernel
theorem dP_symbolOf_33 : decode cP_symbolOf 33 = .ok (.lload_n 2, 1) := by decide +kernel
theorem dP_symbolOf_34 : decode cP_symbolOf 34 = .ok (.iload 4, 2) := by decide +kernel
theorem dP_symbolOf_36 : decode cP_symbolOf 36 = .ok (.invokestatic 9, 3) := by decide +kernel
theorem dP_symbolOf_39 : decode cP_symbolOf 39 = .ok (.iconst 2, 1) := by decide +kernel
theorem dP_symbolOf_40 : decode cP_symbolOf 40 = .ok (.irem, 1) := by decide +kernel
theorem dP_symbolOf_41 : decode cP_symbolOf 41 = .ok (.istore 6, 2) := by decide +kernel
theorem dP_symbolOf_43 : decode cP_symbolOf 43 = .ok (.lload_n 0, 1) := by decide +kernel
theorem dP_symbolOf_44 : decode cP_symbolOf 44 = .ok (.iload 4, 2) := by decide +kernel
theorem dP_symbolOf_46 : decode cP_symbolOf 46 = .ok (.invokestatic 15, 3) := by decide +kernel
theorem dP_symbolOf_49 : decode cP_symbolOf 49 = .ok (.istore 7, 2) := by decide +kernel
theorem dP_symbolOf_51 : decode cP_symbolOf 51 = .ok (.lload_n 2, 1) := by decide +kernel
theorem dP_symbolOf_52 : decode cP_symbolOf 52 = .ok (.iload 4, 2) := by decide +kernel
theorem dP_symbolOf_54 : decode cP_symbolOf 54 = .ok (.invokestatic 15, 3) := by decide +kernel
theorem dP_symbolOf_57 : decode cP_symbolOf 57 = .ok (.istore 8, 2) := by decide +kernel
theorem dP_symbolOf_59 : decode cP_symbolOf 59 = .ok (.iload 4, 2) := by decide +kernel
theorem dP_symbolOf_61 : decode cP_symbolOf 61 = .ok (.iconst 2, 1) := by decide +kernel
theorem dP_symbolOf_62 : decode cP_symbolOf 62 = .ok (.if_icmp .ne 17, 3) := by decide +kernel
theorem dP_symbolOf_65 : decode cP_symbolOf 65 = .ok (.iload 5, 2) := by decide +kernel
theorem dP_symbolOf_67 : decode cP_symbolOf 67 = .ok (.iload 6, 2) := by decide +kernel
theorem dP_symbolOf_69 : decode cP_symbolOf 69 = .ok (.iload 7, 2) := by decide +kernel
theorem dP_symbolOf_71 : decode cP_symbolOf 71 = .ok (.iload 8, 2) := by decide +kernel
theorem dP_symbolOf_73 : decode cP_symbolOf 73 = .ok (.invokestatic 18, 3) := by decide +kernel
theorem dP_symbolOf_76 : decode cP_symbolOf 76 = .ok (.goto 16, 3) := by decide +kernel
theorem dP_symbolOf_79 : decode cP_symbolOf 79 = .ok (.iload 5, 2) := by decide +kernel
theorem dP_symbolOf_81 : decode cP_symbolOf 81 = .ok (.iload 6, 2) := by decide +kernel
theorem dP_symbolOf_83 : decode cP_symbolOf 83 = .ok (.iload 7, 2) := by decide +kernel
theorem dP_symbolOf_85 : decode cP_symbolOf 85 = .ok (.iload 8, 2) := by decide +kernel
theorem dP_symbolOf_87 : decode cP_symbolOf 87 = .ok (.iload 4, 2) := by decide +kernel
theorem dP_symbolOf_89 : decode cP_symbolOf 89 = .ok (.invokestatic 22, 3) := by decide +kernel
theorem dP_symbolOf_92 : decode cP_symbolOf 92 = .ok (.ireturn, 1) := by decide +kernel
theorem wd12 : Cond.initialized "java/lang/Math" ∈ GG := GG_t 12 rfl rfl
theorem wd14 : Cond.initialized "RationalForms$Places" ∈ GG := GG_t 14 rfl rfl
theorem wd187 : Cond.methodLink "RationalForms$Places" 9 yP_orderOf ∈ GG := GG_t 187 rfl rfl
theorem wd188 : Cond.static yP_orderOf ∈ GG := GG_t 188 rfl rfl
theorem wd189 : Cond.code yP_orderOf cP_orderOf 6 (some .int) ∈ GG := GG_t 189 rfl rfl
theorem wd190 : Cond.methodLink "RationalForms$Places" 15 yP_unitOf ∈ GG := GG_t 190 rfl rfl
theorem wd191 : Cond.static yP_unitOf ∈ GG := GG_t 191 rfl rfl
theorem wd192 : Cond.code yP_unitOf cP_unitOf 5 (some .int) ∈ GG := GG_t 192 rfl rfl
theorem wd193 : Cond.methodLink "RationalForms$Places" 32 yW_withoutFactor ∈ GG := GG_t 193 rfl rfl
theorem wd194 : Cond.constantLong "RationalForms$Places" 36 (8) ∈ GG := GG_t 194 rfl rfl
theorem wd195 : Cond.methodLink "RationalForms$Places" 38 yJ_floorMod ∈ GG := GG_t 195 rfl rfl
theorem wd196 : Cond.static yJ_floorMod ∈ GG := GG_t 196 rfl rfl
theorem wd197 : Cond.code yJ_floorMod cJ_floorMod 6 (some .long) ∈ GG := GG_t 197 rfl rfl
theorem wd198 : Cond.methodLink "RationalForms$Places" 18 yP_symbolAtTwo ∈ GG := GG_t 198 rfl rfl
theorem wd199 : Cond.static yP_symbolAtTwo ∈ GG := GG_t 199 rfl rfl
theorem wd200 : Cond.code yP_symbolAtTwo cP_symbolAtTwo 5 (some .int) ∈ GG := GG_t 200 rfl rfl
theorem wd201 : Cond.methodLink "RationalForms$Places" 22 yP_symbolAtOdd ∈ GG := GG_t 201 rfl rfl
theorem wd202 : Cond.static yP_symbolAtOdd ∈ GG := GG_t 202 rfl rfl
theorem wd203 : Cond.code yP_symbolAtOdd cP_symbolAtOdd 6 (some .int) ∈ GG := GG_t 203 rfl rfl
theorem wd204 : Cond.methodLink "RationalForms$Places" 26 yP_isRemainder ∈ GG := GG_t 204 rfl rfl
theorem wd205 : Cond.static yP_isRemainder ∈ GG := GG_t 205 rfl rfl
theorem wd206 : Cond.code yP_isRemainder cP_isRemainder 8 (some .boolean) ∈ GG := GG_t 206 rfl rfl
set_option maxRecDepth 100000 in
set_option maxHeartbeats 4000000 in
theorem kJ_floorMod (l : Launch) (x y : Int) (h1 : b64 x) (h2 : b64 y) (h3 : 0 < y) : PM l yJ_floorMod wsJ_floorMod (rmd 0) [.long (jl x), .long (jl y)] (fun r => r = .long (jl (x % y))) := by
  refine PM.ofG (by decide +kernel) (Nat.le_of_ble_eq_true rfl) ?_
  intro p_ e_ s_ m_ a_ b_ t_ c_ hx hb hml hr hk hg hown ls hl
  have hl : lv_has ls 6 [(0, .long (jl x)), (2, .long (jl y))] := hl
  refine lv_lload_n hx hb dJ_floorMod_0 rfl (lv_at hl 0 rfl) ?_
  refine lv_lload_n hx hb dJ_floorMod_1 rfl (lv_at hl 1 rfl) ?_
  refine j_lrem hx hb (by omega) (by omega) (by omega) dJ_floorMod_2 ?_
  refine lv_lstore hx hb dJ_floorMod_3 hl (by decide) rfl (fun ls hl => ?_)
  have hl : lv_has ls 6 [(4, .long (jl (x.tmod y))), (0, .long (jl x)), (2, .long (jl y))] := hl
  refine lv_lload_n hx hb dJ_floorMod_5 rfl (lv_at hl 1 rfl) ?_
  refine lv_lload_n hx hb dJ_floorMod_6 rfl (lv_at hl 2 rfl) ?_
  refine j_xge hx hb (by omega) (by omega) (by omega) dJ_floorMod_7 dJ_floorMod_8 dJ_floorMod_9 dJ_floorMod_10 rfl (fun h4 => ?_) (fun h4 => ?_)
  · refine lv_lload hx hb dJ_floorMod_25 (lv_at hl 0 rfl) ?_
    exact pm_lret hx hb hr hk dJ_floorMod_27 (by rw [tm_nn h4])
  · refine lv_lload hx hb dJ_floorMod_13 (lv_at hl 0 rfl) ?_
    refine j_lconst0 hx hb dJ_floorMod_15 ?_
    refine j_lc_eq hx hb (tm_b64 h1) (by decide) dJ_floorMod_16 dJ_floorMod_17 rfl (fun h5 => ?_) (fun h5 => ?_)
    · refine lv_lload hx hb dJ_floorMod_25 (lv_at hl 0 rfl) ?_
      exact pm_lret hx hb hr hk dJ_floorMod_27 (by rw [h5, mod0_of_tm h5])
    · refine lv_lload hx hb dJ_floorMod_20 (lv_at hl 0 rfl) ?_
      refine lv_lload_n hx hb dJ_floorMod_22 rfl (lv_at hl 2 rfl) ?_
      refine j_ladd hx hb dJ_floorMod_23 ?_
      exact pm_lret hx hb hr hk dJ_floorMod_24 (by rw [fm_neg h4 h3 h5])

set_option maxRecDepth 100000 in
set_option maxHeartbeats 4000000 in
theorem kP_orderOf (l : Launch) (a p : Int) (ha : b64 a) (hp : 1 < p) (hp2 : p ≤ 2147483647) : PM l yP_orderOf wsP_orderOf (rmd 0) [.long (jl a), .int (ji p)] (fun r => r = .int (ji (od 64 a p : Int))) := by
  refine PM.ofG (by decide +kernel) (Nat.le_of_ble_eq_true rfl) ?_
  intro p_ e_ s_ m_ a_ b_ t_ c_ hx hb hml hr hk hg hown ls hl
  have hl : lv_has ls 6 [(0, .long (jl a)), (2, .int (ji p))] := hl
  have loop : ∀ (n : Nat) (k r : Int) (ls : Array Slot), k + n = 64 → 0 ≤ k → b64 r → k + (od n r p : Int) = (od 64 a p : Int) → lv_has ls 6 [(5, .int (ji k)), (3, .long (jl r)), (0, .long (jl a)), (2, .int (ji p))] → W p_ l e_ (rmd 0) s_ m_ a_ b_ t_ c_ s_.heap [] 0 0 (XQ b_ (pmQ (fun r => r = .int (ji (od 64 a p : Int)))) a_ s_ 0 0 (fun _ => False)) (F0 m_ 5 ls []) := by
    intro n
    induction n with
    | zero =>
      intro k r ls h0 hk0 hr0 hw hl
      refine lv_iload hx hb dP_orderOf_5 (lv_at hl 0 rfl) ?_
      refine j_bipush hx hb dP_orderOf_7 rfl ?_
      refine j_icmp_ge hx hb (by omega) (by omega) dP_orderOf_9 rfl (fun h1 => ?_) (fun h1 => ?_)
      · refine lv_iload hx hb dP_orderOf_32 (lv_at hl 0 rfl) ?_
        exact pm_iret hx hb hr hk dP_orderOf_34 (by rw [← hw]; simp [od])
      · omega
    | succ n ih =>
      intro k r ls h0 hk0 hr0 hw hl
      have hod : od (n + 1) r p = if p ∣ r then od n (r / p) p + 1 else 0 := rfl
      refine lv_iload hx hb dP_orderOf_5 (lv_at hl 0 rfl) ?_
      refine j_bipush hx hb dP_orderOf_7 rfl ?_
      refine j_icmp_ge hx hb (by omega) (by omega) dP_orderOf_9 rfl (fun h1 => ?_) (fun h1 => ?_)
      · omega
      · refine lv_lload_n hx hb dP_orderOf_12 rfl (lv_at hl 1 rfl) ?_
        refine lv_iload_n hx hb dP_orderOf_13 rfl (lv_at hl 3 rfl) ?_
        refine j_i2l hx hb (by omega) dP_orderOf_14 ?_
        refine j_lrem hx hb (by omega) (by omega) (by omega) dP_orderOf_15 ?_
        refine j_lconst0 hx hb dP_orderOf_16 ?_
        refine j_lc_ne hx hb (tm_b64 hr0) (by decide) dP_orderOf_17 dP_orderOf_18 rfl (fun h2 => ?_) (fun h2 => ?_)
        · have hn : ¬ p ∣ r := fun q => h2 (tm_0.mpr q)
          rw [hod, if_neg hn] at hw
          refine lv_iload hx hb dP_orderOf_32 (lv_at hl 0 rfl) ?_
          exact pm_iret hx hb hr hk dP_orderOf_34 (by rw [← hw]; simp)
        · have hn : p ∣ r := tm_0.mp h2
          rw [hod, if_pos hn] at hw
          refine lv_lload_n hx hb dP_orderOf_21 rfl (lv_at hl 1 rfl) ?_
          refine lv_iload_n hx hb dP_orderOf_22 rfl (lv_at hl 3 rfl) ?_
          refine j_i2l hx hb (by omega) dP_orderOf_23 ?_
          refine j_ldiv hx hb (by omega) (by omega) (by omega) dP_orderOf_24 ?_
          refine lv_lstore_n hx hb dP_orderOf_25 rfl hl (by decide) rfl (fun ls hl => ?_)
          have hl : lv_has ls 6 [(3, .long (jl (r.tdiv p))), (5, .int (ji k)), (0, .long (jl a)), (2, .int (ji p))] := hl
          refine lv_iinc (k := 1) (v := ji (k + 1)) hx hb dP_orderOf_26 hl rfl (Int32.ofInt_add _ _).symm (by decide) rfl (fun ls hl => ?_)
          have hl : lv_has ls 6 [(5, .int (ji (k + 1))), (3, .long (jl (r.tdiv p))), (0, .long (jl a)), (2, .int (ji p))] := hl
          refine lv_goto hx hb dP_orderOf_29 rfl ?_
          have e1 : r.tdiv p = r / p := td_e hn
          rw [e1] at hl
          exact ih (k + 1) (r / p) ls (by omega) (by omega) (div_b64 hr0 hp) (by omega) hl
  refine lv_lload_n hx hb dP_orderOf_0 rfl (lv_at hl 0 rfl) ?_
  refine lv_lstore_n hx hb dP_orderOf_1 rfl hl (by decide) rfl (fun ls hl => ?_)
  have hl : lv_has ls 6 [(3, .long (jl a)), (0, .long (jl a)), (2, .int (ji p))] := hl
  refine j_iconst hx hb dP_orderOf_2 ?_
  refine lv_istore hx hb dP_orderOf_3 hl (by decide) rfl (fun ls hl => ?_)
  have hl : lv_has ls 6 [(5, .int (ji 0)), (3, .long (jl a)), (0, .long (jl a)), (2, .int (ji p))] := hl
  exact loop 64 0 a ls (by omega) (by omega) ha (by omega) hl

set_option maxRecDepth 100000 in
set_option maxHeartbeats 4000000 in
theorem kP_unitOf (l : Launch) (a p : Int) (ha : b64 a) (hp : 1 < p) (hp2 : p ≤ 2147483647) : PM l yP_unitOf wsP_unitOf (rmd 1) [.long (jl a), .int (ji p)] (fun r => r = .int (ji (un a p))) := by
  refine PM.ofG (by decide +kernel) (Nat.le_of_ble_eq_true rfl) ?_
  intro p_ e_ s_ m_ a_ b_ t_ c_ hx hb hml hr hk hg hown ls hl
  have hl : lv_has ls 5 [(0, .long (jl a)), (2, .int (ji p))] := hl
  have hw : b64 (wo 64 a p) := by
    have h1 := Int.natAbs_dvd_natAbs.mpr (wo_dvd 64 a p)
    have h2 := wo_sgn 64 a p (by omega)
    by_cases h0 : a = 0
    · have h3 : wo 64 a p = 0 := by
        have h4 : ¬ 0 < wo 64 a p := fun q => by have := h2.1.mpr q; omega
        have h5 : ¬ wo 64 a p < 0 := fun q => by have := h2.2.mpr q; omega
        omega
      rw [h3]; decide
    · have h3 := Nat.le_of_dvd (by omega) h1
      omega
  refine lv_lload_n hx hb dP_unitOf_0 rfl (lv_at hl 0 rfl) ?_
  refine lv_iload_n hx hb dP_unitOf_1 rfl (lv_at hl 1 rfl) ?_
  refine j_i2l hx hb (by omega) dP_unitOf_2 ?_
  refine pm_G (As := [.long (jl a), .long (jl p)]) (rest := []) hx hb hml hown hg hl (kW_withoutFactor l a p ha hp (by omega)) wd193 wd153 wd11 wd154 ⟨rfl, rfl⟩ (n := 2) (by decide +kernel) rfl ⟨by decide, by decide⟩ rfl (Nat.le_of_ble_eq_true rfl) dP_unitOf_3 ⟨Nat.zero_le _, Nat.zero_le _⟩ (fun r hr9 => ?_)
  subst hr9
  refine lv_lstore_n hx hb dP_unitOf_6 rfl hl (by decide) rfl (fun ls hl => ?_)
  have hl : lv_has ls 5 [(3, .long (jl (wo 64 a p))), (0, .long (jl a)), (2, .int (ji p))] := hl
  refine lv_lload_n hx hb dP_unitOf_7 rfl (lv_at hl 0 rfl) ?_
  refine lv_iload_n hx hb dP_unitOf_8 rfl (lv_at hl 2 rfl) ?_
  refine j_iconst hx hb dP_unitOf_9 ?_
  refine j_icmp_ne hx hb (by omega) (by omega) dP_unitOf_10 rfl (fun h1 => ?_) (fun h1 => ?_)
  · refine lv_iload_n hx hb dP_unitOf_19 rfl (lv_at hl 2 rfl) ?_
    refine j_i2l hx hb (by omega) dP_unitOf_20 ?_
    refine pm_G (As := [.long (jl (wo 64 a p)), .long (jl p)]) (rest := []) hx hb hml hown hg hl (kJ_floorMod l (wo 64 a p) p hw (by omega) (by omega)) wd195 wd196 wd12 wd197 ⟨rfl, rfl⟩ (n := 2) (by decide +kernel) rfl ⟨by decide, by decide⟩ rfl (Nat.le_of_ble_eq_true rfl) dP_unitOf_21 ⟨Nat.zero_le _, Nat.zero_le _⟩ (fun r hr9 => ?_)
    subst hr9
    refine j_l2i hx hb dP_unitOf_24 ?_
    exact pm_iret hx hb hr hk dP_unitOf_25 (by rw [un, um, if_neg h1])
  · refine j_ldc2 (z := 8) hx hb hown hg wd194 rfl dP_unitOf_13 ?_
    refine lv_goto hx hb dP_unitOf_16 rfl ?_
    refine pm_G (As := [.long (jl (wo 64 a p)), .long (jl 8)]) (rest := []) hx hb hml hown hg hl (kJ_floorMod l (wo 64 a p) 8 hw (by decide) (by decide)) wd195 wd196 wd12 wd197 ⟨rfl, rfl⟩ (n := 2) (by decide +kernel) rfl ⟨by decide, by decide⟩ rfl (Nat.le_of_ble_eq_true rfl) dP_unitOf_21 ⟨Nat.zero_le _, Nat.zero_le _⟩ (fun r hr9 => ?_)
    subst hr9
    refine j_l2i hx hb dP_unitOf_24 ?_
    exact pm_iret hx hb hr hk dP_unitOf_25 (by rw [un, um, if_pos h1])

set_option maxRecDepth 100000 in
set_option maxHeartbeats 4000000 in
theorem kP_isRemainder (l : Launch) (u p : Nat) (hu : u < p) (hp : 1 < p) (hp2 : p ≤ 2147483647) : PM l yP_isRemainder wsP_isRemainder (rmd 0) [.int (ji ((u:Int))), .int (ji ((p:Int)))] (fun r => r = .int (ji (bi (qr u p)))) := by
  refine PM.ofG (by decide +kernel) (Nat.le_of_ble_eq_true rfl) ?_
  intro p_ e_ s_ m_ a_ b_ t_ c_ hx hb hml hr hk hg hown ls hl
  have hl : lv_has ls 8 [(0, .int (ji ((u:Int)))), (1, .int (ji ((p:Int))))] := hl
  have loop : ∀ (n k : Nat) (ls : Array Slot), k + n = 31 → lv_has ls 8 [(7, .int (ji ((k:Int)))), (5, .long (jl (((u^2^k%p:Nat):Int)))), (3, .long (jl (((u^((p-1)/2%2^k)%p:Nat):Int)))), (2, .int (ji ((((p-1)/2:Nat):Int)))), (0, .int (ji ((u:Int)))), (1, .int (ji ((p:Int))))] → W p_ l e_ (rmd 0) s_ m_ a_ b_ t_ c_ s_.heap [] 0 0 (XQ b_ (pmQ (fun r => r = .int (ji (bi (qr u p))))) a_ s_ 0 0 (fun _ => False)) (F0 m_ 15 ls []) := by
    intro n
    induction n with
    | zero =>
      intro k ls h0 hl
      have hk0 : k = 31 := by omega
      subst hk0
      have e9 : (p - 1) / 2 % 2 ^ 31 = (p - 1) / 2 := Nat.mod_eq_of_lt (by omega)
      rw [e9] at hl
      have hlt := Nat.mod_lt (u ^ ((p - 1) / 2)) (show 0 < p by omega)
      generalize hX : u ^ ((p - 1) / 2) % p = X at hl hlt
      refine lv_iload hx hb dP_isRemainder_15 (lv_at hl 0 rfl) ?_
      refine j_bipush hx hb dP_isRemainder_17 rfl ?_
      refine j_icmp_ge hx hb (by omega) (by decide) dP_isRemainder_19 rfl (fun h1 => ?_) (fun h1 => ?_)
      · refine lv_lload_n hx hb dP_isRemainder_56 rfl (lv_at hl 2 rfl) ?_
        refine j_lconst1 hx hb dP_isRemainder_57 ?_
        refine j_lc_ne hx hb (by omega) (by decide) dP_isRemainder_58 dP_isRemainder_59 rfl (fun h2 => ?_) (fun h2 => ?_)
        · have hq : ¬ qr u p := fun q => h2 (by rw [qr, hX] at q; omega)
          refine j_iconst hx hb dP_isRemainder_66 ?_
          exact pm_zret hx hb hr hk dP_isRemainder_67 nar_0 (by rw [bi_f hq])
        · have hq : qr u p := by rw [qr, hX]; omega
          refine j_iconst hx hb dP_isRemainder_62 ?_
          refine lv_goto hx hb dP_isRemainder_63 rfl ?_
          exact pm_zret hx hb hr hk dP_isRemainder_67 nar_1 (by rw [bi_t hq])
      · omega
    | succ n ih =>
      intro k ls h0 hl
      have hs := Nat.mod_lt (u ^ 2 ^ k) (show 0 < p by omega)
      have hw := Nat.mod_lt (u ^ ((p - 1) / 2 % 2 ^ k)) (show 0 < p by omega)
      have hd := pw_dbl u k p
      have hb1 := @pw_bit1 u ((p - 1) / 2) k p
      have hb0 := @pw_bit0 ((p - 1) / 2) k
      have hih := ih (k + 1)
      generalize u ^ 2 ^ k % p = S at *
      generalize u ^ 2 ^ (k + 1) % p = S2 at *
      generalize hE : (p - 1) / 2 = E at *
      have hss : S * S < 4611686018427387904 := by
        have : S * S ≤ 2147483647 * 2147483647 := Nat.mul_le_mul (by omega) (by omega)
        omega
      refine lv_iload hx hb dP_isRemainder_15 (lv_at hl 0 rfl) ?_
      refine j_bipush hx hb dP_isRemainder_17 rfl ?_
      refine j_icmp_ge hx hb (by omega) (by decide) dP_isRemainder_19 rfl (fun h1 => ?_) (fun h1 => ?_)
      · omega
      · refine lv_iload_n hx hb dP_isRemainder_22 rfl (lv_at hl 3 rfl) ?_
        refine lv_iload hx hb dP_isRemainder_23 (lv_at hl 0 rfl) ?_
        refine j_ishr hx hb (by omega) (by omega) dP_isRemainder_25 ?_
        have hq := Nat.div_le_self E (2 ^ k)
        refine j_iconst hx hb dP_isRemainder_26 ?_
        refine j_irem hx hb (dv_b32 (by omega)) (by decide) (by decide) dP_isRemainder_27 ?_
        refine j_iconst hx hb dP_isRemainder_28 ?_
        have e2 : ((E / 2 ^ k : Nat) : Int).tmod 2 = ((E / 2 ^ k % 2 : Nat) : Int) := tm_nat _ 2
        refine j_icmp_ne hx hb (tm_b32 (dv_b32 (by omega))) (by decide) dP_isRemainder_29 rfl (fun h2 => ?_) (fun h2 => ?_)
        · rw [e2] at h2
          have e3 := hb0 (by omega)
          rw [e3] at hih
          have e4 : ((S : Int) * (S : Int)).tmod (p : Int) = (S2 : Int) := by rw [← Int.natCast_mul, tm_nat, hd]
          refine lv_lload hx hb dP_isRemainder_40 (lv_at hl 1 rfl) ?_
          refine lv_lload hx hb dP_isRemainder_42 (lv_at hl 1 rfl) ?_
          refine j_lmul hx hb dP_isRemainder_44 ?_
          refine lv_iload_n hx hb dP_isRemainder_45 rfl (lv_at hl 5 rfl) ?_
          refine j_i2l hx hb (by omega) dP_isRemainder_46 ?_
          refine j_lrem hx hb (by omega) (by omega) (by omega) dP_isRemainder_47 ?_
          refine lv_lstore hx hb dP_isRemainder_48 hl (by decide) rfl (fun ls hl => ?_)
          have hl : lv_has ls 8 [(5, .long (jl ((((S:Int)) * ((S:Int))).tmod ((p:Int))))), (7, .int (ji ((k:Int)))), (3, .long (jl (((u^(E%2^k)%p:Nat):Int)))), (2, .int (ji ((E:Int)))), (0, .int (ji ((u:Int)))), (1, .int (ji ((p:Int))))] := hl
          refine lv_iinc (k := 1) (v := ji (((k:Int)) + 1)) hx hb dP_isRemainder_50 hl rfl (Int32.ofInt_add _ _).symm (by decide) rfl (fun ls hl => ?_)
          have hl : lv_has ls 8 [(7, .int (ji (((k:Int)) + 1))), (5, .long (jl ((((S:Int)) * ((S:Int))).tmod ((p:Int))))), (3, .long (jl (((u^(E%2^k)%p:Nat):Int)))), (2, .int (ji ((E:Int)))), (0, .int (ji ((u:Int)))), (1, .int (ji ((p:Int))))] := hl
          refine lv_goto hx hb dP_isRemainder_53 rfl ?_
          rw [e4] at hl
          exact hih ls (by omega) (lv_sub hl [0, 1, 2, 3, 4, 5] rfl)
        · rw [e2] at h2
          have e3 := hb1 (by omega)
          rw [← e3] at hih
          generalize u ^ (E % 2 ^ k) % p = X at *
          have hxs : X * S < 4611686018427387904 := by
            have : X * S ≤ 2147483647 * 2147483647 := Nat.mul_le_mul (by omega) (by omega)
            omega
          have e4 : ((S : Int) * (S : Int)).tmod (p : Int) = (S2 : Int) := by rw [← Int.natCast_mul, tm_nat, hd]
          have e5 : ((X : Int) * (S : Int)).tmod (p : Int) = ((X * S % p : Nat) : Int) := by rw [← Int.natCast_mul, tm_nat]
          have hss' : (S : Int) * (S : Int) = ((S * S : Nat) : Int) := (Int.natCast_mul S S).symm
          have hxs' : (X : Int) * (S : Int) = ((X * S : Nat) : Int) := (Int.natCast_mul X S).symm
          refine lv_lload_n hx hb dP_isRemainder_32 rfl (lv_at hl 2 rfl) ?_
          refine lv_lload hx hb dP_isRemainder_33 (lv_at hl 1 rfl) ?_
          refine j_lmul hx hb dP_isRemainder_35 ?_
          refine lv_iload_n hx hb dP_isRemainder_36 rfl (lv_at hl 5 rfl) ?_
          refine j_i2l hx hb (by omega) dP_isRemainder_37 ?_
          refine j_lrem hx hb (by omega) (by omega) (by omega) dP_isRemainder_38 ?_
          refine lv_lstore_n hx hb dP_isRemainder_39 rfl hl (by decide) rfl (fun ls hl => ?_)
          have hl : lv_has ls 8 [(3, .long (jl ((((X:Int)) * ((S:Int))).tmod ((p:Int))))), (7, .int (ji ((k:Int)))), (5, .long (jl ((S:Int)))), (2, .int (ji ((E:Int)))), (0, .int (ji ((u:Int)))), (1, .int (ji ((p:Int))))] := hl
          refine lv_lload hx hb dP_isRemainder_40 (lv_at hl 2 rfl) ?_
          refine lv_lload hx hb dP_isRemainder_42 (lv_at hl 2 rfl) ?_
          refine j_lmul hx hb dP_isRemainder_44 ?_
          refine lv_iload_n hx hb dP_isRemainder_45 rfl (lv_at hl 5 rfl) ?_
          refine j_i2l hx hb (by omega) dP_isRemainder_46 ?_
          refine j_lrem hx hb (by omega) (by omega) (by omega) dP_isRemainder_47 ?_
          refine lv_lstore hx hb dP_isRemainder_48 hl (by decide) rfl (fun ls hl => ?_)
          have hl : lv_has ls 8 [(5, .long (jl ((((S:Int)) * ((S:Int))).tmod ((p:Int))))), (3, .long (jl ((((X:Int)) * ((S:Int))).tmod ((p:Int))))), (7, .int (ji ((k:Int)))), (2, .int (ji ((E:Int)))), (0, .int (ji ((u:Int)))), (1, .int (ji ((p:Int))))] := hl
          refine lv_iinc (k := 2) (v := ji (((k:Int)) + 1)) hx hb dP_isRemainder_50 hl rfl (Int32.ofInt_add _ _).symm (by decide) rfl (fun ls hl => ?_)
          have hl : lv_has ls 8 [(7, .int (ji (((k:Int)) + 1))), (5, .long (jl ((((S:Int)) * ((S:Int))).tmod ((p:Int))))), (3, .long (jl ((((X:Int)) * ((S:Int))).tmod ((p:Int))))), (2, .int (ji ((E:Int)))), (0, .int (ji ((u:Int)))), (1, .int (ji ((p:Int))))] := hl
          refine lv_goto hx hb dP_isRemainder_53 rfl ?_
          rw [e4, e5] at hl
          exact hih ls (by omega) (lv_sub hl [0, 1, 2, 3, 4, 5] rfl)
  have e1 : ((p : Int) - 1).tdiv 2 = (((p - 1) / 2 : Nat) : Int) := by rw [show (p : Int) - 1 = ((p - 1 : Nat) : Int) by omega]; exact td_nat (p - 1) 2
  refine lv_iload_n hx hb dP_isRemainder_0 rfl (lv_at hl 1 rfl) ?_
  refine j_iconst hx hb dP_isRemainder_1 ?_
  refine j_isub hx hb dP_isRemainder_2 ?_
  refine j_iconst hx hb dP_isRemainder_3 ?_
  refine j_idiv hx hb (by omega) (by decide) (by decide) dP_isRemainder_4 ?_
  refine lv_istore_n hx hb dP_isRemainder_5 rfl hl (by decide) rfl (fun ls hl => ?_)
  have hl : lv_has ls 8 [(2, .int (ji ((((p:Int)) - 1).tdiv 2))), (0, .int (ji ((u:Int)))), (1, .int (ji ((p:Int))))] := hl
  refine j_lconst1 hx hb dP_isRemainder_6 ?_
  refine lv_lstore_n hx hb dP_isRemainder_7 rfl hl (by decide) rfl (fun ls hl => ?_)
  have hl : lv_has ls 8 [(3, .long (jl 1)), (2, .int (ji ((((p:Int)) - 1).tdiv 2))), (0, .int (ji ((u:Int)))), (1, .int (ji ((p:Int))))] := hl
  refine lv_iload_n hx hb dP_isRemainder_8 rfl (lv_at hl 2 rfl) ?_
  refine j_i2l hx hb (by omega) dP_isRemainder_9 ?_
  refine lv_lstore hx hb dP_isRemainder_10 hl (by decide) rfl (fun ls hl => ?_)
  have hl : lv_has ls 8 [(5, .long (jl ((u:Int)))), (3, .long (jl 1)), (2, .int (ji ((((p:Int)) - 1).tdiv 2))), (0, .int (ji ((u:Int)))), (1, .int (ji ((p:Int))))] := hl
  refine j_iconst hx hb dP_isRemainder_12 ?_
  refine lv_istore hx hb dP_isRemainder_13 hl (by decide) rfl (fun ls hl => ?_)
  have hl : lv_has ls 8 [(7, .int (ji 0)), (5, .long (jl ((u:Int)))), (3, .long (jl 1)), (2, .int (ji ((((p:Int)) - 1).tdiv 2))), (0, .int (ji ((u:Int)))), (1, .int (ji ((p:Int))))] := hl
  rw [e1] at hl
  have e2 : u ^ 2 ^ 0 % p = u := by rw [Nat.pow_zero, Nat.pow_one]; exact Nat.mod_eq_of_lt hu
  have e3 : u ^ ((p - 1) / 2 % 2 ^ 0) % p = 1 := by rw [Nat.pow_zero, Nat.mod_one, Nat.pow_zero]; exact Nat.mod_eq_of_lt hp
  refine loop 31 0 ls (by omega) ?_
  rw [e2, e3]
  exact hl

set_option maxRecDepth 100000 in
set_option maxHeartbeats 4000000 in
theorem kP_symbolAtTwo (l : Launch) (e9 f9 u w : Int) (he : 0 ≤ e9 ∧ e9 ≤ 1) (hf : 0 ≤ f9 ∧ f9 ≤ 1) (hu : 1 ≤ u ∧ u ≤ 7) (hw : 1 ≤ w ∧ w ≤ 7) : PM l yP_symbolAtTwo wsP_symbolAtTwo (rmd 0) [.int (ji e9), .int (ji f9), .int (ji u), .int (ji w)] (fun r => r = .int (ji (s2 e9 f9 u w))) := by
  refine PM.ofG (by decide +kernel) (Nat.le_of_ble_eq_true rfl) ?_
  intro p_ e_ s_ m_ a_ b_ t_ c_ hx hb hml hr hk hg hown ls hl
  have hl : lv_has ls 5 [(0, .int (ji e9)), (1, .int (ji f9)), (2, .int (ji u)), (3, .int (ji w))] := hl
  obtain ⟨hA, hB, hC⟩ := s2_all he hf hu hw
  have hww : 1 ≤ w * w ∧ w * w ≤ 49 := ⟨by have := Int.mul_le_mul hw.1 hw.1 (by decide) (by omega); omega, by have := Int.mul_le_mul hw.2 hw.2 (by omega) (by decide); omega⟩
  have huu : 1 ≤ u * u ∧ u * u ≤ 49 := ⟨by have := Int.mul_le_mul hu.1 hu.1 (by decide) (by omega); omega, by have := Int.mul_le_mul hu.2 hu.2 (by omega) (by decide); omega⟩
  refine lv_iload_n hx hb dP_symbolAtTwo_0 rfl (lv_at hl 2 rfl) ?_
  refine j_iconst hx hb dP_symbolAtTwo_1 ?_
  refine j_isub hx hb dP_symbolAtTwo_2 ?_
  refine j_iconst hx hb dP_symbolAtTwo_3 ?_
  refine j_idiv hx hb (by omega) (by omega) (by omega) dP_symbolAtTwo_4 ?_
  refine lv_iload_n hx hb dP_symbolAtTwo_5 rfl (lv_at hl 3 rfl) ?_
  refine j_iconst hx hb dP_symbolAtTwo_6 ?_
  refine j_isub hx hb dP_symbolAtTwo_7 ?_
  refine j_iconst hx hb dP_symbolAtTwo_8 ?_
  refine j_idiv hx hb (by omega) (by omega) (by omega) dP_symbolAtTwo_9 ?_
  refine j_imul hx hb dP_symbolAtTwo_10 ?_
  refine lv_iload_n hx hb dP_symbolAtTwo_11 rfl (lv_at hl 0 rfl) ?_
  refine lv_iload_n hx hb dP_symbolAtTwo_12 rfl (lv_at hl 3 rfl) ?_
  refine lv_iload_n hx hb dP_symbolAtTwo_13 rfl (lv_at hl 3 rfl) ?_
  refine j_imul hx hb dP_symbolAtTwo_14 ?_
  refine j_iconst hx hb dP_symbolAtTwo_15 ?_
  refine j_isub hx hb dP_symbolAtTwo_16 ?_
  refine j_bipush hx hb dP_symbolAtTwo_17 rfl ?_
  refine j_idiv hx hb (by omega) (by omega) (by omega) dP_symbolAtTwo_19 ?_
  refine j_imul hx hb dP_symbolAtTwo_20 ?_
  refine j_iadd hx hb dP_symbolAtTwo_21 ?_
  refine lv_iload_n hx hb dP_symbolAtTwo_22 rfl (lv_at hl 1 rfl) ?_
  refine lv_iload_n hx hb dP_symbolAtTwo_23 rfl (lv_at hl 2 rfl) ?_
  refine lv_iload_n hx hb dP_symbolAtTwo_24 rfl (lv_at hl 2 rfl) ?_
  refine j_imul hx hb dP_symbolAtTwo_25 ?_
  refine j_iconst hx hb dP_symbolAtTwo_26 ?_
  refine j_isub hx hb dP_symbolAtTwo_27 ?_
  refine j_bipush hx hb dP_symbolAtTwo_28 rfl ?_
  refine j_idiv hx hb (by omega) (by omega) (by omega) dP_symbolAtTwo_30 ?_
  refine j_imul hx hb dP_symbolAtTwo_31 ?_
  refine j_iadd hx hb dP_symbolAtTwo_32 ?_
  refine lv_istore hx hb dP_symbolAtTwo_33 hl (by decide) rfl (fun ls hl => ?_)
  have hl : lv_has ls 5 [(4, .int (ji (((((u - 1).tdiv 2) * ((w - 1).tdiv 2)) + (e9 * (((w * w) - 1).tdiv 8))) + (f9 * (((u * u) - 1).tdiv 8))))), (0, .int (ji e9)), (1, .int (ji f9)), (2, .int (ji u)), (3, .int (ji w))] := hl
  rw [hA] at hl
  have hs : s2 e9 f9 u w = if ((u - 1) / 2 * ((w - 1) / 2) + e9 * ((w * w - 1) / 8) + f9 * ((u * u - 1) / 8)) % 2 = 0 then 1 else -1 := rfl
  generalize (u - 1) / 2 * ((w - 1) / 2) + e9 * ((w * w - 1) / 8) + f9 * ((u * u - 1) / 8) = Z at *
  refine lv_iload hx hb dP_symbolAtTwo_35 (lv_at hl 0 rfl) ?_
  refine j_iconst hx hb dP_symbolAtTwo_37 ?_
  refine j_irem hx hb (by omega) (by omega) (by omega) dP_symbolAtTwo_38 ?_
  refine j_if_ne hx hb (tm_b32 (by omega)) dP_symbolAtTwo_39 rfl (fun h1 => ?_) (fun h1 => ?_)
  · rw [tm_nn hB] at h1
    rw [if_neg h1] at hs
    refine j_iconst hx hb dP_symbolAtTwo_46 ?_
    exact pm_iret hx hb hr hk dP_symbolAtTwo_47 (by rw [hs])
  · rw [tm_nn hB] at h1
    rw [if_pos h1] at hs
    refine j_iconst hx hb dP_symbolAtTwo_42 ?_
    refine lv_goto hx hb dP_symbolAtTwo_43 rfl ?_
    exact pm_iret hx hb hr hk dP_symbolAtTwo_47 (by rw [hs])

set_option maxRecDepth 100000 in
set_option maxHeartbeats 4000000 in
theorem kP_symbolAtOdd (l : Launch) (e9 f9 : Int) (u w p9 : Nat) (he : 0 ≤ e9 ∧ e9 ≤ 1) (hf : 0 ≤ f9 ∧ f9 ≤ 1) (hu : u < p9) (hw : w < p9) (hp : 1 < p9) (hp2 : p9 ≤ 2147483647) : PM l yP_symbolAtOdd wsP_symbolAtOdd (rmd 1) [.int (ji e9), .int (ji f9), .int (ji ((u:Int))), .int (ji ((w:Int))), .int (ji ((p9:Int)))] (fun r => r = .int (ji (so e9 f9 u w p9))) := by
  refine PM.ofG (by decide +kernel) (Nat.le_of_ble_eq_true rfl) ?_
  intro p_ e_ s_ m_ a_ b_ t_ c_ hx hb hml hr hk hg hown ls hl
  have hl : lv_has ls 6 [(0, .int (ji e9)), (1, .int (ji f9)), (2, .int (ji ((u:Int)))), (3, .int (ji ((w:Int)))), (4, .int (ji ((p9:Int))))] := hl
  have hso : so e9 f9 u w p9 = (if e9 * f9 * (((p9 : Int) - 1) / 2) % 2 = 0 then 1 else -1) * (1 - 2 * bi (f9 = 1 ∧ ¬ qr u p9)) * (1 - 2 * bi (e9 = 1 ∧ ¬ qr w p9)) := rfl
  have k60 : ∀ (z : Int) (ls : Array Slot), z = so e9 f9 u w p9 → lv_has ls 6 [(5, .int (ji z)), (0, .int (ji e9)), (1, .int (ji f9)), (2, .int (ji ((u:Int)))), (3, .int (ji ((w:Int)))), (4, .int (ji ((p9:Int))))] → W p_ l e_ (rmd 1) s_ m_ a_ b_ t_ c_ s_.heap [] 0 0 (XQ b_ (pmQ (fun r => r = .int (ji (so e9 f9 u w p9)))) a_ s_ 0 0 (fun _ => False)) (F0 m_ 60 ls []) := by
    intro z ls hz hl
    refine lv_iload hx hb dP_symbolAtOdd_60 (lv_at hl 0 rfl) ?_
    exact pm_iret hx hb hr hk dP_symbolAtOdd_62 (by rw [hz])
  have k41 : ∀ (z : Int) (ls : Array Slot), b32 z → z * (1 - 2 * bi (e9 = 1 ∧ ¬ qr w p9)) = so e9 f9 u w p9 → lv_has ls 6 [(5, .int (ji z)), (0, .int (ji e9)), (1, .int (ji f9)), (2, .int (ji ((u:Int)))), (3, .int (ji ((w:Int)))), (4, .int (ji ((p9:Int))))] → W p_ l e_ (rmd 1) s_ m_ a_ b_ t_ c_ s_.heap [] 0 0 (XQ b_ (pmQ (fun r => r = .int (ji (so e9 f9 u w p9)))) a_ s_ 0 0 (fun _ => False)) (F0 m_ 41 ls []) := by
    intro z ls hb9 hz hl
    refine lv_iload_n hx hb dP_symbolAtOdd_41 rfl (lv_at hl 1 rfl) ?_
    refine j_iconst hx hb dP_symbolAtOdd_42 ?_
    refine j_icmp_ne hx hb (by omega) (by omega) dP_symbolAtOdd_43 rfl (fun h1 => ?_) (fun h1 => ?_)
    · rw [bi_f (fun q => h1 q.1)] at hz
      exact k60 z ls (by omega) hl
    · refine lv_iload_n hx hb dP_symbolAtOdd_46 rfl (lv_at hl 4 rfl) ?_
      refine lv_iload hx hb dP_symbolAtOdd_47 (lv_at hl 5 rfl) ?_
      refine pm_G (As := [.int (ji ((w:Int))), .int (ji ((p9:Int)))]) (rest := []) hx hb hml hown hg hl (kP_isRemainder l w p9 hw hp hp2) wd204 wd205 wd14 wd206 ⟨rfl, rfl⟩ (n := 2) (by decide +kernel) rfl ⟨by decide, by decide⟩ rfl (Nat.le_of_ble_eq_true rfl) dP_symbolAtOdd_49 ⟨Nat.zero_le _, Nat.zero_le _⟩ (fun r hr9 => ?_)
      subst hr9
      refine j_if_ne hx hb (bi_b32 _) dP_symbolAtOdd_52 rfl (fun h2 => ?_) (fun h2 => ?_)
      · rw [bi_f (fun q => q.2 (bi_ne h2))] at hz
        exact k60 z ls (by omega) hl
      · rw [bi_t ⟨h1, bi_eq h2⟩] at hz
        refine lv_iload hx hb dP_symbolAtOdd_55 (lv_at hl 0 rfl) ?_
        refine j_ineg hx hb dP_symbolAtOdd_57 ?_
        refine lv_istore hx hb dP_symbolAtOdd_58 hl (by decide) rfl (fun ls hl => ?_)
        have hl : lv_has ls 6 [(5, .int (ji (-z))), (0, .int (ji e9)), (1, .int (ji f9)), (2, .int (ji ((u:Int)))), (3, .int (ji ((w:Int)))), (4, .int (ji ((p9:Int))))] := hl
        exact k60 (-z) ls (by omega) (lv_sub hl [0, 1, 2, 3, 4, 5] rfl)
  have k22 : ∀ (z : Int) (ls : Array Slot), (z = 1 ∨ z = -1) → z * (1 - 2 * bi (f9 = 1 ∧ ¬ qr u p9)) * (1 - 2 * bi (e9 = 1 ∧ ¬ qr w p9)) = so e9 f9 u w p9 → lv_has ls 6 [(5, .int (ji z)), (0, .int (ji e9)), (1, .int (ji f9)), (2, .int (ji ((u:Int)))), (3, .int (ji ((w:Int)))), (4, .int (ji ((p9:Int))))] → W p_ l e_ (rmd 1) s_ m_ a_ b_ t_ c_ s_.heap [] 0 0 (XQ b_ (pmQ (fun r => r = .int (ji (so e9 f9 u w p9)))) a_ s_ 0 0 (fun _ => False)) (F0 m_ 22 ls []) := by
    intro z ls hb9 hz hl
    refine lv_iload_n hx hb dP_symbolAtOdd_22 rfl (lv_at hl 2 rfl) ?_
    refine j_iconst hx hb dP_symbolAtOdd_23 ?_
    refine j_icmp_ne hx hb (by omega) (by omega) dP_symbolAtOdd_24 rfl (fun h1 => ?_) (fun h1 => ?_)
    · rw [bi_f (fun q => h1 q.1)] at hz
      exact k41 z ls (by omega) (by rw [← hz]; simp) hl
    · refine lv_iload_n hx hb dP_symbolAtOdd_27 rfl (lv_at hl 3 rfl) ?_
      refine lv_iload hx hb dP_symbolAtOdd_28 (lv_at hl 5 rfl) ?_
      refine pm_G (As := [.int (ji ((u:Int))), .int (ji ((p9:Int)))]) (rest := []) hx hb hml hown hg hl (kP_isRemainder l u p9 hu hp hp2) wd204 wd205 wd14 wd206 ⟨rfl, rfl⟩ (n := 2) (by decide +kernel) rfl ⟨by decide, by decide⟩ rfl (Nat.le_of_ble_eq_true rfl) dP_symbolAtOdd_30 ⟨Nat.zero_le _, Nat.zero_le _⟩ (fun r hr9 => ?_)
      subst hr9
      refine j_if_ne hx hb (bi_b32 _) dP_symbolAtOdd_33 rfl (fun h2 => ?_) (fun h2 => ?_)
      · rw [bi_f (fun q => q.2 (bi_ne h2))] at hz
        exact k41 z ls (by omega) (by rw [← hz]; simp) hl
      · rw [bi_t ⟨h1, bi_eq h2⟩] at hz
        refine lv_iload hx hb dP_symbolAtOdd_36 (lv_at hl 0 rfl) ?_
        refine j_ineg hx hb dP_symbolAtOdd_38 ?_
        refine lv_istore hx hb dP_symbolAtOdd_39 hl (by decide) rfl (fun ls hl => ?_)
        have hl : lv_has ls 6 [(5, .int (ji (-z))), (0, .int (ji e9)), (1, .int (ji f9)), (2, .int (ji ((u:Int)))), (3, .int (ji ((w:Int)))), (4, .int (ji ((p9:Int))))] := hl
        exact k41 (-z) ls (by omega) (by rw [← hz]; simp) (lv_sub hl [0, 1, 2, 3, 4, 5] rfl)
  have hef := bit_mul he hf
  have hh : ((p9 : Int) - 1).tdiv 2 = ((p9 : Int) - 1) / 2 := td_nn (by omega)
  have hE := bit_mulb hef (show 0 ≤ ((p9 : Int) - 1) / 2 by omega)
  rw [← hh] at hE hso
  generalize hz : e9 * f9 * ((p9 : Int) - 1).tdiv 2 = Z at hE hso
  refine lv_iload_n hx hb dP_symbolAtOdd_0 rfl (lv_at hl 0 rfl) ?_
  refine lv_iload_n hx hb dP_symbolAtOdd_1 rfl (lv_at hl 1 rfl) ?_
  refine j_imul hx hb dP_symbolAtOdd_2 ?_
  refine lv_iload hx hb dP_symbolAtOdd_3 (lv_at hl 4 rfl) ?_
  refine j_iconst hx hb dP_symbolAtOdd_5 ?_
  refine j_isub hx hb dP_symbolAtOdd_6 ?_
  refine j_iconst hx hb dP_symbolAtOdd_7 ?_
  refine j_idiv hx hb (by omega) (by decide) (by decide) dP_symbolAtOdd_8 ?_
  refine j_imul hx hb dP_symbolAtOdd_9 ?_
  refine W.eq (g2 := F0 m_ 10 ls (.int (ji Z) :: [])) (by rw [hz]) ?_
  refine j_iconst hx hb dP_symbolAtOdd_10 ?_
  refine j_irem hx hb (by omega) (by decide) (by decide) dP_symbolAtOdd_11 ?_
  refine j_if_ne hx hb (tm_b32 (by omega)) dP_symbolAtOdd_12 rfl (fun h1 => ?_) (fun h1 => ?_)
  · rw [tm_nn hE.1] at h1
    rw [if_neg h1] at hso
    refine j_iconst hx hb dP_symbolAtOdd_19 ?_
    refine lv_istore hx hb dP_symbolAtOdd_20 hl (by decide) rfl (fun ls hl => ?_)
    have hl : lv_has ls 6 [(5, .int (ji (-1))), (0, .int (ji e9)), (1, .int (ji f9)), (2, .int (ji ((u:Int)))), (3, .int (ji ((w:Int)))), (4, .int (ji ((p9:Int))))] := hl
    exact k22 (-1) ls (Or.inr rfl) hso.symm hl
  · rw [tm_nn hE.1] at h1
    rw [if_pos h1] at hso
    refine j_iconst hx hb dP_symbolAtOdd_15 ?_
    refine lv_goto hx hb dP_symbolAtOdd_16 rfl ?_
    refine lv_istore hx hb dP_symbolAtOdd_20 hl (by decide) rfl (fun ls hl => ?_)
    have hl : lv_has ls 6 [(5, .int (ji 1)), (0, .int (ji e9)), (1, .int (ji f9)), (2, .int (ji ((u:Int)))), (3, .int (ji ((w:Int)))), (4, .int (ji ((p9:Int))))] := hl
    exact k22 1 ls (Or.inl rfl) hso.symm hl

set_option maxRecDepth 100000 in
set_option maxHeartbeats 4000000 in
theorem kP_isSquare (l : Launch) (a p9 : Int) (ha : b64 a) (h0 : a ≠ 0) (hp : p9 = 0 ∨ (1 < p9 ∧ p9 ≤ 2147483647)) : PM l yP_isSquare wsP_isSquare (rmd 2) [.long (jl a), .int (ji p9)] (fun r => r = .int (ji (bi (sq a p9)))) := by
  refine PM.ofG (by decide +kernel) (Nat.le_of_ble_eq_true rfl) ?_
  intro p_ e_ s_ m_ a_ b_ t_ c_ hx hb hml hr hk hg hown ls hl
  have hl : lv_has ls 4 [(0, .long (jl a)), (2, .int (ji p9))] := hl
  have hsq : sq a p9 = (if p9 = 0 then 0 < a else od 64 a p9 % 2 = 0 ∧ (if p9 = 2 then un a p9 = 1 else qr (un a p9).toNat p9.toNat)) := rfl
  refine lv_iload_n hx hb dP_isSquare_0 rfl (lv_at hl 1 rfl) ?_
  refine j_if_ne hx hb (by omega) dP_isSquare_1 rfl (fun h1 => ?_) (fun h1 => ?_)
  · rw [if_neg h1] at hsq
    refine lv_lload_n hx hb dP_isSquare_16 rfl (lv_at hl 0 rfl) ?_
    refine lv_iload_n hx hb dP_isSquare_17 rfl (lv_at hl 1 rfl) ?_
    refine pm_G (As := [.long (jl a), .int (ji p9)]) (rest := []) hx hb hml hown hg hl (kP_orderOf l a p9 ha (by omega) (by omega)) wd187 wd188 wd14 wd189 ⟨rfl, rfl⟩ (n := 2) (by decide +kernel) rfl ⟨by decide, by decide⟩ rfl (Nat.le_of_ble_eq_true rfl) dP_isSquare_18 ⟨Nat.zero_le _, Nat.zero_le _⟩ (fun r hr9 => ?_)
    subst hr9
    have hod := od_le 64 a p9
    refine j_iconst hx hb dP_isSquare_21 ?_
    refine j_irem hx hb (by have := od_le 64 a p9; omega) (by decide) (by decide) dP_isSquare_22 ?_
    refine j_if_eq hx hb (tm_b32 (by have := od_le 64 a p9; omega)) dP_isSquare_23 rfl (fun h2 => ?_) (fun h2 => ?_)
    · have h3 : od 64 a p9 % 2 = 0 := by
        have := tm_nat (od 64 a p9) 2
        rw [show ((2 : Nat) : Int) = 2 from rfl] at this
        omega
      refine lv_lload_n hx hb dP_isSquare_28 rfl (lv_at hl 0 rfl) ?_
      refine lv_iload_n hx hb dP_isSquare_29 rfl (lv_at hl 1 rfl) ?_
      refine pm_G (As := [.long (jl a), .int (ji p9)]) (rest := []) hx hb hml hown hg hl (kP_unitOf l a p9 ha (by omega) (by omega)) wd190 wd191 wd14 wd192 ⟨rfl, rfl⟩ (n := 2) (by decide +kernel) rfl ⟨by decide, by decide⟩ rfl (Nat.le_of_ble_eq_true rfl) dP_isSquare_30 ⟨Nat.zero_le _, Nat.zero_le _⟩ (fun r hr9 => ?_)
      subst hr9
      have hun := un_lt (a := a) (p := p9) (by omega)
      refine lv_istore_n hx hb dP_isSquare_33 rfl hl (by decide) rfl (fun ls hl => ?_)
      have hl : lv_has ls 4 [(3, .int (ji (un a p9))), (0, .long (jl a)), (2, .int (ji p9))] := hl
      refine lv_iload_n hx hb dP_isSquare_34 rfl (lv_at hl 2 rfl) ?_
      refine j_iconst hx hb dP_isSquare_35 ?_
      refine j_icmp_ne hx hb (by omega) (by omega) dP_isSquare_36 rfl (fun h4 => ?_) (fun h4 => ?_)
      · rw [if_neg h4] at hsq
        have hum : um p9 = p9 := if_neg h4
        obtain ⟨U, hU⟩ := Int.eq_ofNat_of_zero_le hun.1
        obtain ⟨P, rfl⟩ := Int.eq_ofNat_of_zero_le (show 0 ≤ p9 by omega)
        rw [hU] at hl hsq hun
        refine lv_iload_n hx hb dP_isSquare_52 rfl (lv_at hl 0 rfl) ?_
        refine lv_iload_n hx hb dP_isSquare_53 rfl (lv_at hl 2 rfl) ?_
        refine pm_G (As := [.int (ji ((U:Int))), .int (ji ((P:Int)))]) (rest := []) hx hb hml hown hg hl (kP_isRemainder l U P (by omega) (by omega) (by omega)) wd204 wd205 wd14 wd206 ⟨rfl, rfl⟩ (n := 2) (by decide +kernel) rfl ⟨by decide, by decide⟩ rfl (Nat.le_of_ble_eq_true rfl) dP_isSquare_54 ⟨Nat.zero_le _, Nat.zero_le _⟩ (fun r hr9 => ?_)
        subst hr9
        have he : sq a (P : Int) ↔ qr U P := by rw [hsq]; exact ⟨fun q => q.2, fun q => ⟨h3, q⟩⟩
        exact pm_zret hx hb hr hk dP_isSquare_57 (nar_bi _) (by rw [bi_iff he])
      · rw [if_pos h4] at hsq
        have h8 : um p9 = 8 := if_pos h4
        refine lv_iload_n hx hb dP_isSquare_39 rfl (lv_at hl 0 rfl) ?_
        refine j_iconst hx hb dP_isSquare_40 ?_
        refine j_icmp_ne hx hb (by omega) (by omega) dP_isSquare_41 rfl (fun h5 => ?_) (fun h5 => ?_)
        · refine j_iconst hx hb dP_isSquare_48 ?_
          refine lv_goto hx hb dP_isSquare_49 rfl ?_
          exact pm_zret hx hb hr hk dP_isSquare_57 nar_0 (by rw [bi_f (fun q => h5 (by rw [hsq] at q; exact q.2))])
        · refine j_iconst hx hb dP_isSquare_44 ?_
          refine lv_goto hx hb dP_isSquare_45 rfl ?_
          exact pm_zret hx hb hr hk dP_isSquare_57 nar_1 (by rw [bi_t (by rw [hsq]; exact ⟨h3, h5⟩)])
    · have h3 : ¬ od 64 a p9 % 2 = 0 := by
        have := tm_nat (od 64 a p9) 2
        rw [show ((2 : Nat) : Int) = 2 from rfl] at this
        omega
      refine j_iconst hx hb dP_isSquare_26 ?_
      exact pm_zret hx hb hr hk dP_isSquare_27 nar_0 (by rw [bi_f (fun q => h3 (by rw [hsq] at q; exact q.1))])
  · rw [if_pos h1] at hsq
    refine lv_lload_n hx hb dP_isSquare_4 rfl (lv_at hl 0 rfl) ?_
    refine j_lconst0 hx hb dP_isSquare_5 ?_
    refine j_lc_le hx hb (by omega) (by omega) dP_isSquare_6 dP_isSquare_7 rfl (fun h2 => ?_) (fun h2 => ?_)
    · refine j_iconst hx hb dP_isSquare_14 ?_
      exact pm_zret hx hb hr hk dP_isSquare_15 nar_0 (by rw [bi_f (fun q => by rw [hsq] at q; omega)])
    · refine j_iconst hx hb dP_isSquare_10 ?_
      refine lv_goto hx hb dP_isSquare_11 rfl ?_
      exact pm_zret hx hb hr hk dP_isSquare_15 nar_1 (by rw [bi_t (by rw [hsq]; omega)])

set_option maxRecDepth 100000 in
set_option maxHeartbeats 4000000 in
theorem kP_symbolOf (l : Launch) (a b p9 : Int) (ha : b64 a) (hb9 : b64 b) (h0 : a ≠ 0) (h9 : b ≠ 0) (hp : p9 = 0 ∨ (1 < p9 ∧ p9 ≤ 2147483647)) : PM l yP_symbolOf wsP_symbolOf (rmd 2) [.long (jl a), .long (jl b), .int (ji p9)] (fun r => r = .int (ji (sy a b p9))) := by
  refine PM.ofG (by decide +kernel) (Nat.le_of_ble_eq_true rfl) ?_
  intro p_ e_ s_ m_ a_ b_ t_ c_ hx hb hml hr hk hg hown ls hl
  have hl : lv_has ls 9 [(0, .long (jl a)), (2, .long (jl b)), (4, .int (ji p9))] := hl
  have hsy : sy a b p9 = if p9 = 0 then (if a < 0 ∧ b < 0 then -1 else 1) else sF (od 64 a p9 % 2 : Nat) (od 64 b p9 % 2 : Nat) (un a p9) (un b p9) p9 := rfl
  refine lv_iload hx hb dP_symbolOf_0 (lv_at hl 2 rfl) ?_
  refine j_if_ne hx hb (by omega) dP_symbolOf_2 rfl (fun h1 => ?_) (fun h1 => ?_)
  · rw [if_neg h1] at hsy
    refine lv_lload_n hx hb dP_symbolOf_23 rfl (lv_at hl 0 rfl) ?_
    refine lv_iload hx hb dP_symbolOf_24 (lv_at hl 2 rfl) ?_
    refine pm_G (As := [.long (jl a), .int (ji p9)]) (rest := []) hx hb hml hown hg hl (kP_orderOf l a p9 ha (by omega) (by omega)) wd187 wd188 wd14 wd189 ⟨rfl, rfl⟩ (n := 2) (by decide +kernel) rfl ⟨by decide, by decide⟩ rfl (Nat.le_of_ble_eq_true rfl) dP_symbolOf_26 ⟨Nat.zero_le _, Nat.zero_le _⟩ (fun r hr9 => ?_)
    subst hr9
    have e1 : (od 64 a p9 : Int).tmod 2 = ((od 64 a p9 % 2 : Nat) : Int) := tm_nat _ 2
    refine j_iconst hx hb dP_symbolOf_29 ?_
    refine j_irem hx hb (by have := od_le 64 a p9; omega) (by decide) (by decide) dP_symbolOf_30 ?_
    refine lv_istore hx hb dP_symbolOf_31 hl (by decide) rfl (fun ls hl => ?_)
    have hl : lv_has ls 9 [(5, .int (ji (((od 64 a p9:Int)).tmod 2))), (0, .long (jl a)), (2, .long (jl b)), (4, .int (ji p9))] := hl
    rw [e1] at hl
    refine lv_lload_n hx hb dP_symbolOf_33 rfl (lv_at hl 2 rfl) ?_
    refine lv_iload hx hb dP_symbolOf_34 (lv_at hl 3 rfl) ?_
    refine pm_G (As := [.long (jl b), .int (ji p9)]) (rest := []) hx hb hml hown hg hl (kP_orderOf l b p9 hb9 (by omega) (by omega)) wd187 wd188 wd14 wd189 ⟨rfl, rfl⟩ (n := 2) (by decide +kernel) rfl ⟨by decide, by decide⟩ rfl (Nat.le_of_ble_eq_true rfl) dP_symbolOf_36 ⟨Nat.zero_le _, Nat.zero_le _⟩ (fun r hr9 => ?_)
    subst hr9
    have e2 : (od 64 b p9 : Int).tmod 2 = ((od 64 b p9 % 2 : Nat) : Int) := tm_nat _ 2
    refine j_iconst hx hb dP_symbolOf_39 ?_
    refine j_irem hx hb (by have := od_le 64 b p9; omega) (by decide) (by decide) dP_symbolOf_40 ?_
    refine lv_istore hx hb dP_symbolOf_41 hl (by decide) rfl (fun ls hl => ?_)
    have hl : lv_has ls 9 [(6, .int (ji (((od 64 b p9:Int)).tmod 2))), (5, .int (ji (((od 64 a p9%2:Nat):Int)))), (0, .long (jl a)), (2, .long (jl b)), (4, .int (ji p9))] := hl
    rw [e2] at hl
    generalize hE : od 64 a p9 % 2 = E at *
    generalize hF : od 64 b p9 % 2 = F at *
    refine lv_lload_n hx hb dP_symbolOf_43 rfl (lv_at hl 2 rfl) ?_
    refine lv_iload hx hb dP_symbolOf_44 (lv_at hl 4 rfl) ?_
    refine pm_G (As := [.long (jl a), .int (ji p9)]) (rest := []) hx hb hml hown hg hl (kP_unitOf l a p9 ha (by omega) (by omega)) wd190 wd191 wd14 wd192 ⟨rfl, rfl⟩ (n := 2) (by decide +kernel) rfl ⟨by decide, by decide⟩ rfl (Nat.le_of_ble_eq_true rfl) dP_symbolOf_46 ⟨Nat.zero_le _, Nat.zero_le _⟩ (fun r hr9 => ?_)
    subst hr9
    refine lv_istore hx hb dP_symbolOf_49 hl (by decide) rfl (fun ls hl => ?_)
    have hl : lv_has ls 9 [(7, .int (ji (un a p9))), (6, .int (ji ((F:Int)))), (5, .int (ji ((E:Int)))), (0, .long (jl a)), (2, .long (jl b)), (4, .int (ji p9))] := hl
    refine lv_lload_n hx hb dP_symbolOf_51 rfl (lv_at hl 4 rfl) ?_
    refine lv_iload hx hb dP_symbolOf_52 (lv_at hl 5 rfl) ?_
    refine pm_G (As := [.long (jl b), .int (ji p9)]) (rest := []) hx hb hml hown hg hl (kP_unitOf l b p9 hb9 (by omega) (by omega)) wd190 wd191 wd14 wd192 ⟨rfl, rfl⟩ (n := 2) (by decide +kernel) rfl ⟨by decide, by decide⟩ rfl (Nat.le_of_ble_eq_true rfl) dP_symbolOf_54 ⟨Nat.zero_le _, Nat.zero_le _⟩ (fun r hr9 => ?_)
    subst hr9
    have hua := un_lt (a := a) (p := p9) (by omega)
    have hub := un_lt (a := b) (p := p9) (by omega)
    refine lv_istore hx hb dP_symbolOf_57 hl (by decide) rfl (fun ls hl => ?_)
    have hl : lv_has ls 9 [(8, .int (ji (un b p9))), (7, .int (ji (un a p9))), (6, .int (ji ((F:Int)))), (5, .int (ji ((E:Int)))), (0, .long (jl a)), (2, .long (jl b)), (4, .int (ji p9))] := hl
    refine lv_iload hx hb dP_symbolOf_59 (lv_at hl 6 rfl) ?_
    refine j_iconst hx hb dP_symbolOf_61 ?_
    refine j_icmp_ne hx hb (by omega) (by omega) dP_symbolOf_62 rfl (fun h2 => ?_) (fun h2 => ?_)
    · have hum : um p9 = p9 := if_neg h2
      have hsF : sF E F (un a p9) (un b p9) p9 = so E F (un a p9) (un b p9) p9 := if_neg h2
      rw [hsF] at hsy
      obtain ⟨U, hU⟩ := Int.eq_ofNat_of_zero_le hua.1
      obtain ⟨V, hV⟩ := Int.eq_ofNat_of_zero_le hub.1
      obtain ⟨P, rfl⟩ := Int.eq_ofNat_of_zero_le (show 0 ≤ p9 by omega)
      rw [hU] at hl hsy hua
      rw [hV] at hl hsy hub
      refine lv_iload hx hb dP_symbolOf_79 (lv_at hl 3 rfl) ?_
      refine lv_iload hx hb dP_symbolOf_81 (lv_at hl 2 rfl) ?_
      refine lv_iload hx hb dP_symbolOf_83 (lv_at hl 1 rfl) ?_
      refine lv_iload hx hb dP_symbolOf_85 (lv_at hl 0 rfl) ?_
      refine lv_iload hx hb dP_symbolOf_87 (lv_at hl 6 rfl) ?_
      refine pm_G (As := [.int (ji ((E:Int))), .int (ji ((F:Int))), .int (ji ((U:Int))), .int (ji ((V:Int))), .int (ji ((P:Int)))]) (rest := []) hx hb hml hown hg hl (kP_symbolAtOdd l E F U V P (by omega) (by omega) (by omega) (by omega) (by omega) (by omega)) wd201 wd202 wd14 wd203 ⟨rfl, rfl⟩ (n := 5) (by decide +kernel) rfl ⟨by decide, by decide⟩ rfl (Nat.le_of_ble_eq_true rfl) dP_symbolOf_89 ⟨Nat.zero_le _, Nat.zero_le _⟩ (fun r hr9 => ?_)
      subst hr9
      exact pm_iret hx hb hr hk dP_symbolOf_92 (by rw [hsy])
    · have hum : um p9 = 8 := if_pos h2
      have hsF : sF E F (un a p9) (un b p9) p9 = s2 E F (un a p9) (un b p9) := if_pos h2
      rw [hsF] at hsy
      have h3 : un a p9 % 2 = 1 := by rw [h2]; exact un_odd h0 ha
      have h4 : un b p9 % 2 = 1 := by rw [h2]; exact un_odd h9 hb9
      refine lv_iload hx hb dP_symbolOf_65 (lv_at hl 3 rfl) ?_
      refine lv_iload hx hb dP_symbolOf_67 (lv_at hl 2 rfl) ?_
      refine lv_iload hx hb dP_symbolOf_69 (lv_at hl 1 rfl) ?_
      refine lv_iload hx hb dP_symbolOf_71 (lv_at hl 0 rfl) ?_
      refine pm_G (As := [.int (ji ((E:Int))), .int (ji ((F:Int))), .int (ji (un a p9)), .int (ji (un b p9))]) (rest := []) hx hb hml hown hg hl (kP_symbolAtTwo l E F (un a p9) (un b p9) (by omega) (by omega) (by omega) (by omega)) wd198 wd199 wd14 wd200 ⟨rfl, rfl⟩ (n := 4) (by decide +kernel) rfl ⟨by decide, by decide⟩ rfl (Nat.le_of_ble_eq_true rfl) dP_symbolOf_73 ⟨Nat.zero_le _, Nat.zero_le _⟩ (fun r hr9 => ?_)
      subst hr9
      refine lv_goto hx hb dP_symbolOf_76 rfl ?_
      exact pm_iret hx hb hr hk dP_symbolOf_92 (by rw [hsy])
  · rw [if_pos h1] at hsy
    refine lv_lload_n hx hb dP_symbolOf_5 rfl (lv_at hl 0 rfl) ?_
    refine j_lconst0 hx hb dP_symbolOf_6 ?_
    refine j_lc_ge hx hb (by omega) (by omega) dP_symbolOf_7 dP_symbolOf_8 rfl (fun h2 => ?_) (fun h2 => ?_)
    · refine j_iconst hx hb dP_symbolOf_21 ?_
      exact pm_iret hx hb hr hk dP_symbolOf_22 (by rw [hsy, if_neg (by omega)])
    · refine lv_lload_n hx hb dP_symbolOf_11 rfl (lv_at hl 1 rfl) ?_
      refine j_lconst0 hx hb dP_symbolOf_12 ?_
      refine j_lc_ge hx hb (by omega) (by omega) dP_symbolOf_13 dP_symbolOf_14 rfl (fun h3 => ?_) (fun h3 => ?_)
      · refine j_iconst hx hb dP_symbolOf_21 ?_
        exact pm_iret hx hb hr hk dP_symbolOf_22 (by rw [hsy, if_neg (by omega)])
      · refine j_iconst hx hb dP_symbolOf_17 ?_
        refine lv_goto hx hb dP_symbolOf_18 rfl ?_
        exact pm_iret hx hb hr hk dP_symbolOf_22 (by rw [hsy, if_pos (by omega)])
