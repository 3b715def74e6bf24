/-! the reference, its static methods: names, contracts -/
abbrev cM_isForm : ByteArray := prog_8_method_3_code
abbrev yM_isForm : MethodName := ⟨"RationalFormsModel", "isForm", "(I)Z"⟩
abbrev wsM_isForm : List Cond := .code yM_isForm cM_isForm 1 (some .boolean) :: GG
theorem dM_isForm_0 : decode cM_isForm 0 = .ok (.iload_n 0, 1) := by decide +kernel
theorem dM_isForm_1 : decode cM_isForm 1 = .ok (.ifCond .eq 8, 3) := by decide +kernel
theorem dM_isForm_4 : decode cM_isForm 4 = .ok (.iload_n 0, 1) := by decide +kernel
theorem dM_isForm_5 : decode cM_isForm 5 = .ok (.iconst 1, 1) := by decide +kernel
theorem dM_isForm_6 : decode cM_isForm 6 = .ok (.if_icmp .ne 7, 3) := by decide +kernel
theorem dM_isForm_9 : decode cM_isForm 9 = .ok (.iconst 1, 1) := by decide +kernel
theorem dM_isForm_10 : decode cM_isForm 10 = .ok (.goto 4, 3) := by decide +kernel
theorem dM_isForm_13 : decode cM_isForm 13 = .ok (.iconst 0, 1) := by decide +kernel
theorem dM_isForm_14 : decode cM_isForm 14 = .ok (.ireturn, 1) := by decide +kernel
abbrev cM_classOf : ByteArray := prog_8_method_6_code
abbrev yM_classOf : MethodName := ⟨"RationalFormsModel", "classOf", "(J)J"⟩
abbrev wsM_classOf : List Cond := .code yM_classOf cM_classOf 9 (some .long) :: GG
theorem dM_classOf_0 : decode cM_classOf 0 = .ok (.lload_n 0, 1) := by decide +kernel
theorem dM_classOf_1 : decode cM_classOf 1 = .ok (.lconst 0, 1) := by decide +kernel
theorem dM_classOf_2 : decode cM_classOf 2 = .ok (.lcmp, 1) := by decide +kernel
theorem dM_classOf_3 : decode cM_classOf 3 = .ok (.ifCond .ge 8, 3) := by decide +kernel
theorem dM_classOf_6 : decode cM_classOf 6 = .ok (.lload_n 0, 1) := by decide +kernel
theorem dM_classOf_7 : decode cM_classOf 7 = .ok (.lneg, 1) := by decide +kernel
theorem dM_classOf_8 : decode cM_classOf 8 = .ok (.goto 4, 3) := by decide +kernel
theorem dM_classOf_11 : decode cM_classOf 11 = .ok (.lload_n 0, 1) := by decide +kernel
theorem dM_classOf_12 : decode cM_classOf 12 = .ok (.lstore_n 2, 1) := by decide +kernel
theorem dM_classOf_13 : decode cM_classOf 13 = .ok (.lload_n 0, 1) := by decide +kernel
theorem dM_classOf_14 : decode cM_classOf 14 = .ok (.lconst 0, 1) := by decide +kernel
theorem dM_classOf_15 : decode cM_classOf 15 = .ok (.lcmp, 1) := by decide +kernel
theorem dM_classOf_16 : decode cM_classOf 16 = .ok (.ifCond .ge 9, 3) := by decide +kernel
theorem dM_classOf_19 : decode cM_classOf 19 = .ok (.ldc2_w 37, 3) := by decide +kernel
theorem dM_classOf_22 : decode cM_classOf 22 = .ok (.goto 4, 3) := by decide +kernel
theorem dM_classOf_25 : decode cM_classOf 25 = .ok (.lconst 1, 1) := by decide +kernel
theorem dM_classOf_26 : decode cM_classOf 26 = .ok (.lstore 4, 2) := by decide +kernel
theorem dM_classOf_28 : decode cM_classOf 28 = .ok (.ldc2_w 39, 3) := by decide +kernel
theorem dM_classOf_31 : decode cM_classOf 31 = .ok (.lstore 6, 2) := by decide +kernel
theorem dM_classOf_33 : decode cM_classOf 33 = .ok (.lload 6, 2) := by decide +kernel
theorem dM_classOf_35 : decode cM_classOf 35 = .ok (.lload 6, 2) := by decide +kernel
theorem dM_classOf_37 : decode cM_classOf 37 = .ok (.lmul, 1) := by decide +kernel
theorem dM_classOf_38 : decode cM_classOf 38 = .ok (.lload_n 2, 1) := by decide +kernel
theorem dM_classOf_39 : decode cM_classOf 39 = .ok (.lcmp, 1) := by decide +kernel
theorem dM_classOf_40 : decode cM_classOf 40 = .ok (.ifCond .gt 61, 3) := by decide +kernel
theorem dM_classOf_43 : decode cM_classOf 43 = .ok (.iconst 0, 1) := by decide +kernel
theorem dM_classOf_44 : decode cM_classOf 44 = .ok (.istore 8, 2) := by decide +kernel
theorem dM_classOf_46 : decode cM_classOf 46 = .ok (.lload_n 2, 1) := by decide +kernel
theorem dM_classOf_47 : decode cM_classOf 47 = .ok (.lload 6, 2) := by decide +kernel
theorem dM_classOf_49 : decode cM_classOf 49 = .ok (.lrem, 1) := by decide +kernel
theorem dM_classOf_50 : decode cM_classOf 50 = .ok (.lconst 0, 1) := by decide +kernel
theorem dM_classOf_51 : decode cM_classOf 51 = .ok (.lcmp, 1) := by decide +kernel
theorem dM_classOf_52 : decode cM_classOf 52 = .ok (.ifCond .ne 23, 3) := by decide +kernel
theorem dM_classOf_55 : decode cM_classOf 55 = .ok (.lload_n 2, 1) := by decide +kernel
theorem dM_classOf_56 : decode cM_classOf 56 = .ok (.lload 6, 2) := by decide +kernel
theorem dM_classOf_58 : decode cM_classOf 58 = .ok (.ldiv, 1) := by decide +kernel
theorem dM_classOf_59 : decode cM_classOf 59 = .ok (.lstore_n 2, 1) := by decide +kernel
theorem dM_classOf_60 : decode cM_classOf 60 = .ok (.iload 8, 2) := by decide +kernel
theorem dM_classOf_62 : decode cM_classOf 62 = .ok (.ifCond .ne 7, 3) := by decide +kernel
theorem dM_classOf_65 : decode cM_classOf 65 = .ok (.iconst 1, 1) := by decide +kernel
theorem dM_classOf_66 : decode cM_classOf 66 = .ok (.goto 4, 3) := by decide +kernel
theorem dM_classOf_69 : decode cM_classOf 69 = .ok (.iconst 0, 1) := by decide +kernel
theorem dM_classOf_70 : decode cM_classOf 70 = .ok (.istore 8, 2) := by decide +kernel
theorem dM_classOf_72 : decode cM_classOf 72 = .ok (.goto (-26), 3) := by decide +kernel
theorem dM_classOf_75 : decode cM_classOf 75 = .ok (.iload 8, 2) := by decide +kernel
theorem dM_classOf_77 : decode cM_classOf 77 = .ok (.ifCond .eq 11, 3) := by decide +kernel
theorem dM_classOf_80 : decode cM_classOf 80 = .ok (.lload 4, 2) := by decide +kernel
theorem dM_classOf_82 : decode cM_classOf 82 = .ok (.lload 6, 2) := by decide +kernel
theorem dM_classOf_84 : decode cM_classOf 84 = .ok (.lmul, 1) := by decide +kernel
theorem dM_classOf_85 : decode cM_classOf 85 = .ok (.goto 5, 3) := by decide +kernel
theorem dM_classOf_88 : decode cM_classOf 88 = .ok (.lload 4, 2) := by decide +kernel
theorem dM_classOf_90 : decode cM_classOf 90 = .ok (.lstore 4, 2) := by decide +kernel
theorem dM_classOf_92 : decode cM_classOf 92 = .ok (.lload 6, 2) := by decide +kernel
theorem dM_classOf_94 : decode cM_classOf 94 = .ok (.lconst 1, 1) := by decide +kernel
theorem dM_classOf_95 : decode cM_classOf 95 = .ok (.ladd, 1) := by decide +kernel
theorem dM_classOf_96 : decode cM_classOf 96 = .ok (.lstore 6, 2) := by decide +kernel
theorem dM_classOf_98 : decode cM_classOf 98 = .ok (.goto (-65), 3) := by decide +kernel
theorem dM_classOf_101 : decode cM_classOf 101 = .ok (.lload 4, 2) := by decide +kernel
theorem dM_classOf_103 : decode cM_classOf 103 = .ok (.lload_n 2, 1) := by decide +kernel
theorem dM_classOf_104 : decode cM_classOf 104 = .ok (.lmul, 1) := by decide +kernel
theorem dM_classOf_105 : decode cM_classOf 105 = .ok (.lreturn, 1) := by decide +kernel
abbrev cM_common : ByteArray := prog_8_method_7_code
abbrev yM_common : MethodName := ⟨"RationalFormsModel", "common", "(JJ)J"⟩
abbrev wsM_common : List Cond := .code yM_common cM_common 10 (some .long) :: GG
theorem dM_common_0 : decode cM_common 0 = .ok (.lload_n 0, 1) := by decide +kernel
theorem dM_common_1 : decode cM_common 1 = .ok (.lconst 0, 1) := by decide +kernel
theorem dM_common_2 : decode cM_common 2 = .ok (.lcmp, 1) := by decide +kernel
theorem dM_common_3 : decode cM_common 3 = .ok (.ifCond .ge 8, 3) := by decide +kernel
theorem dM_common_6 : decode cM_common 6 = .ok (.lload_n 0, 1) := by decide +kernel
theorem dM_common_7 : decode cM_common 7 = .ok (.lneg, 1) := by decide +kernel
theorem dM_common_8 : decode cM_common 8 = .ok (.goto 4, 3) := by decide +kernel
theorem dM_common_11 : decode cM_common 11 = .ok (.lload_n 0, 1) := by decide +kernel
theorem dM_common_12 : decode cM_common 12 = .ok (.lstore 4, 2) := by decide +kernel
theorem dM_common_14 : decode cM_common 14 = .ok (.lload_n 2, 1) := by decide +kernel
theorem dM_common_15 : decode cM_common 15 = .ok (.lconst 0, 1) := by decide +kernel
theorem dM_common_16 : decode cM_common 16 = .ok (.lcmp, 1) := by decide +kernel
theorem dM_common_17 : decode cM_common 17 = .ok (.ifCond .ge 8, 3) := by decide +kernel
theorem dM_common_20 : decode cM_common 20 = .ok (.lload_n 2, 1) := by decide +kernel
theorem dM_common_21 : decode cM_common 21 = .ok (.lneg, 1) := by decide +kernel
theorem dM_common_22 : decode cM_common 22 = .ok (.goto 4, 3) := by decide +kernel
theorem dM_common_25 : decode cM_common 25 = .ok (.lload_n 2, 1) := by decide +kernel
theorem dM_common_26 : decode cM_common 26 = .ok (.lstore 6, 2) := by decide +kernel
theorem dM_common_28 : decode cM_common 28 = .ok (.lload 6, 2) := by decide +kernel
theorem dM_common_30 : decode cM_common 30 = .ok (.lconst 0, 1) := by decide +kernel
theorem dM_common_31 : decode cM_common 31 = .ok (.lcmp, 1) := by decide +kernel
theorem dM_common_32 : decode cM_common 32 = .ok (.ifCond .eq 21, 3) := by decide +kernel
theorem dM_common_35 : decode cM_common 35 = .ok (.lload 4, 2) := by decide +kernel
theorem dM_common_37 : decode cM_common 37 = .ok (.lload 6, 2) := by decide +kernel
theorem dM_common_39 : decode cM_common 39 = .ok (.lrem, 1) := by decide +kernel
theorem dM_common_40 : decode cM_common 40 = .ok (.lstore 8, 2) := by decide +kernel
theorem dM_common_42 : decode cM_common 42 = .ok (.lload 6, 2) := by decide +kernel
theorem dM_common_44 : decode cM_common 44 = .ok (.lstore 4, 2) := by decide +kernel
theorem dM_common_46 : decode cM_common 46 = .ok (.lload 8, 2) := by decide +kernel
theorem dM_common_48 : decode cM_common 48 = .ok (.lstore 6, 2) := by decide +kernel
theorem dM_common_50 : decode cM_common 50 = .ok (.goto (-22), 3) := by decide +kernel
theorem dM_common_53 : decode cM_common 53 = .ok (.lload 4, 2) := by decide +kernel
theorem dM_common_55 : decode cM_common 55 = .ok (.lreturn, 1) := by decide +kernel
abbrev cM_times : ByteArray := prog_8_method_8_code
abbrev yM_times : MethodName := ⟨"RationalFormsModel", "times", "(JJ)J"⟩
abbrev wsM_times : List Cond := .code yM_times cM_times 6 (some .long) :: GG
theorem dM_times_0 : decode cM_times 0 = .ok (.lload_n 0, 1) := by decide +kernel
theorem dM_times_1 : decode cM_times 1 = .ok (.lload_n 2, 1) := by decide +kernel
theorem dM_times_2 : decode cM_times 2 = .ok (.invokestatic 41, 3) := by decide +kernel
theorem dM_times_5 : decode cM_times 5 = .ok (.lstore 4, 2) := by decide +kernel
theorem dM_times_7 : decode cM_times 7 = .ok (.lload_n 0, 1) := by decide +kernel
theorem dM_times_8 : decode cM_times 8 = .ok (.lload 4, 2) := by decide +kernel
theorem dM_times_10 : decode cM_times 10 = .ok (.ldiv, 1) := by decide +kernel
theorem dM_times_11 : decode cM_times 11 = .ok (.lload_n 2, 1) := by decide +kernel
theorem dM_times_12 : decode cM_times 12 = .ok (.lload 4, 2) := by decide +kernel
theorem dM_times_14 : decode cM_times 14 = .ok (.ldiv, 1) := by decide +kernel
theorem dM_times_15 : decode cM_times 15 = .ok (.lmul, 1) := by decide +kernel
theorem dM_times_16 : decode cM_times 16 = .ok (.lreturn, 1) := by decide +kernel
abbrev cM_order : ByteArray := prog_8_method_14_code
abbrev yM_order : MethodName := ⟨"RationalFormsModel", "order", "(JJ)I"⟩
abbrev wsM_order : List Cond := .code yM_order cM_order 4 (some .int) :: GG
theorem dM_order_0 : decode cM_order 0 = .ok (.lload_n 0, 1) := by decide +kernel
theorem dM_order_1 : decode cM_order 1 = .ok (.lload_n 2, 1) := by decide +kernel
theorem dM_order_2 : decode cM_order 2 = .ok (.lrem, 1) := by decide +kernel
theorem dM_order_3 : decode cM_order 3 = .ok (.lconst 0, 1) := by decide +kernel
theorem dM_order_4 : decode cM_order 4 = .ok (.lcmp, 1) := by decide +kernel
theorem dM_order_5 : decode cM_order 5 = .ok (.ifCond .ne 7, 3) := by decide +kernel
theorem dM_order_8 : decode cM_order 8 = .ok (.iconst 1, 1) := by decide +kernel
theorem dM_order_9 : decode cM_order 9 = .ok (.goto 4, 3) := by decide +kernel
theorem dM_order_12 : decode cM_order 12 = .ok (.iconst 0, 1) := by decide +kernel
theorem dM_order_13 : decode cM_order 13 = .ok (.ireturn, 1) := by decide +kernel
abbrev cM_unit : ByteArray := prog_8_method_15_code
abbrev yM_unit : MethodName := ⟨"RationalFormsModel", "unit", "(JJ)J"⟩
abbrev wsM_unit : List Cond := .code yM_unit cM_unit 10 (some .long) :: GG
theorem dM_unit_0 : decode cM_unit 0 = .ok (.lload_n 0, 1) := by decide +kernel
theorem dM_unit_1 : decode cM_unit 1 = .ok (.lload_n 2, 1) := by decide +kernel
theorem dM_unit_2 : decode cM_unit 2 = .ok (.lrem, 1) := by decide +kernel
theorem dM_unit_3 : decode cM_unit 3 = .ok (.lconst 0, 1) := by decide +kernel
theorem dM_unit_4 : decode cM_unit 4 = .ok (.lcmp, 1) := by decide +kernel
theorem dM_unit_5 : decode cM_unit 5 = .ok (.ifCond .ne 9, 3) := by decide +kernel
theorem dM_unit_8 : decode cM_unit 8 = .ok (.lload_n 0, 1) := by decide +kernel
theorem dM_unit_9 : decode cM_unit 9 = .ok (.lload_n 2, 1) := by decide +kernel
theorem dM_unit_10 : decode cM_unit 10 = .ok (.ldiv, 1) := by decide +kernel
theorem dM_unit_11 : decode cM_unit 11 = .ok (.goto 4, 3) := by decide +kernel
theorem dM_unit_14 : decode cM_unit 14 = .ok (.lload_n 0, 1) := by decide +kernel
theorem dM_unit_15 : decode cM_unit 15 = .ok (.lstore 4, 2) := by decide +kernel
theorem dM_unit_17 : decode cM_unit 17 = .ok (.lload_n 2, 1) := by decide +kernel
theorem dM_unit_18 : decode cM_unit 18 = .ok (.ldc2_w 39, 3) := by decide +kernel
theorem dM_unit_21 : decode cM_unit 21 = .ok (.lcmp, 1) := by decide +kernel
theorem dM_unit_22 : decode cM_unit 22 = .ok (.ifCond .ne 9, 3) := by decide +kernel
theorem dM_unit_25 : decode cM_unit 25 = .ok (.ldc2_w 83, 3) := by decide +kernel
theorem dM_unit_28 : decode cM_unit 28 = .ok (.goto 4, 3) := by decide +kernel
theorem dM_unit_31 : decode cM_unit 31 = .ok (.lload_n 2, 1) := by decide +kernel
theorem dM_unit_32 : decode cM_unit 32 = .ok (.lstore 6, 2) := by decide +kernel
theorem dM_unit_34 : decode cM_unit 34 = .ok (.lload 4, 2) := by decide +kernel
theorem dM_unit_36 : decode cM_unit 36 = .ok (.lload 6, 2) := by decide +kernel
theorem dM_unit_38 : decode cM_unit 38 = .ok (.lrem, 1) := by decide +kernel
theorem dM_unit_39 : decode cM_unit 39 = .ok (.lstore 8, 2) := by decide +kernel
theorem dM_unit_41 : decode cM_unit 41 = .ok (.lload 8, 2) := by decide +kernel
theorem dM_unit_43 : decode cM_unit 43 = .ok (.lconst 0, 1) := by decide +kernel
theorem dM_unit_44 : decode cM_unit 44 = .ok (.lcmp, 1) := by decide +kernel
theorem dM_unit_45 : decode cM_unit 45 = .ok (.ifCond .ge 11, 3) := by decide +kernel
theorem dM_unit_48 : decode cM_unit 48 = .ok (.lload 8, 2) := by decide +kernel
theorem dM_unit_50 : decode cM_unit 50 = .ok (.lload 6, 2) := by decide +kernel
theorem dM_unit_52 : decode cM_unit 52 = .ok (.ladd, 1) := by decide +kernel
theorem dM_unit_53 : decode cM_unit 53 = .ok (.goto 5, 3) := by decide +kernel
theorem dM_unit_56 : decode cM_unit 56 = .ok (.lload 8, 2) := by decide +kernel
theorem dM_unit_58 : decode cM_unit 58 = .ok (.lreturn, 1) := by decide +kernel
abbrev cM_isRemainder : ByteArray := prog_8_method_16_code
abbrev yM_isRemainder : MethodName := ⟨"RationalFormsModel", "isRemainder", "(JJ)Z"⟩
abbrev wsM_isRemainder : List Cond := .code yM_isRemainder cM_isRemainder 10 (some .boolean) :: GG
theorem dM_isRemainder_0 : decode cM_isRemainder 0 = .ok (.lload_n 0, 1) := by decide +kernel
theorem dM_isRemainder_1 : decode cM_isRemainder 1 = .ok (.lload_n 2, 1) := by decide +kernel
theorem dM_isRemainder_2 : decode cM_isRemainder 2 = .ok (.lrem, 1) := by decide +kernel
theorem dM_isRemainder_3 : decode cM_isRemainder 3 = .ok (.lstore 4, 2) := by decide +kernel
theorem dM_isRemainder_5 : decode cM_isRemainder 5 = .ok (.lconst 1, 1) := by decide +kernel
theorem dM_isRemainder_6 : decode cM_isRemainder 6 = .ok (.lstore 6, 2) := by decide +kernel
theorem dM_isRemainder_8 : decode cM_isRemainder 8 = .ok (.lload_n 2, 1) := by decide +kernel
theorem dM_isRemainder_9 : decode cM_isRemainder 9 = .ok (.lconst 1, 1) := by decide +kernel
theorem dM_isRemainder_10 : decode cM_isRemainder 10 = .ok (.lsub, 1) := by decide +kernel
theorem dM_isRemainder_11 : decode cM_isRemainder 11 = .ok (.ldc2_w 39, 3) := by decide +kernel
theorem dM_isRemainder_14 : decode cM_isRemainder 14 = .ok (.ldiv, 1) := by decide +kernel
theorem dM_isRemainder_15 : decode cM_isRemainder 15 = .ok (.lstore 8, 2) := by decide +kernel
theorem dM_isRemainder_17 : decode cM_isRemainder 17 = .ok (.lload 8, 2) := by decide +kernel
theorem dM_isRemainder_19 : decode cM_isRemainder 19 = .ok (.lconst 0, 1) := by decide +kernel
theorem dM_isRemainder_20 : decode cM_isRemainder 20 = .ok (.lcmp, 1) := by decide +kernel
theorem dM_isRemainder_21 : decode cM_isRemainder 21 = .ok (.ifCond .le 44, 3) := by decide +kernel
theorem dM_isRemainder_24 : decode cM_isRemainder 24 = .ok (.lload 8, 2) := by decide +kernel
theorem dM_isRemainder_26 : decode cM_isRemainder 26 = .ok (.lconst 1, 1) := by decide +kernel
theorem dM_isRemainder_27 : decode cM_isRemainder 27 = .ok (.land, 1) := by decide +kernel
theorem dM_isRemainder_28 : decode cM_isRemainder 28 = .ok (.lconst 1, 1) := by decide +kernel
theorem dM_isRemainder_29 : decode cM_isRemainder 29 = .ok (.lcmp, 1) := by decide +kernel
theorem dM_isRemainder_30 : decode cM_isRemainder 30 = .ok (.ifCond .ne 13, 3) := by decide +kernel
theorem dM_isRemainder_33 : decode cM_isRemainder 33 = .ok (.lload 6, 2) := by decide +kernel
theorem dM_isRemainder_35 : decode cM_isRemainder 35 = .ok (.lload 4, 2) := by decide +kernel
theorem dM_isRemainder_37 : decode cM_isRemainder 37 = .ok (.lmul, 1) := by decide +kernel
theorem dM_isRemainder_38 : decode cM_isRemainder 38 = .ok (.lload_n 2, 1) := by decide +kernel
theorem dM_isRemainder_39 : decode cM_isRemainder 39 = .ok (.lrem, 1) := by decide +kernel
theorem dM_isRemainder_40 : decode cM_isRemainder 40 = .ok (.goto 5, 3) := by decide +kernel
theorem dM_isRemainder_43 : decode cM_isRemainder 43 = .ok (.lload 6, 2) := by decide +kernel
theorem dM_isRemainder_45 : decode cM_isRemainder 45 = .ok (.lstore 6, 2) := by decide +kernel
theorem dM_isRemainder_47 : decode cM_isRemainder 47 = .ok (.lload 4, 2) := by decide +kernel
theorem dM_isRemainder_49 : decode cM_isRemainder 49 = .ok (.lload 4, 2) := by decide +kernel
theorem dM_isRemainder_51 : decode cM_isRemainder 51 = .ok (.lmul, 1) := by decide +kernel
theorem dM_isRemainder_52 : decode cM_isRemainder 52 = .ok (.lload_n 2, 1) := by decide +kernel
theorem dM_isRemainder_53 : decode cM_isRemainder 53 = .ok (.lrem, 1) := by decide +kernel
theorem dM_isRemainder_54 : decode cM_isRemainder 54 = .ok (.lstore 4, 2) := by decide +kernel
theorem dM_isRemainder_56 : decode cM_isRemainder 56 = .ok (.lload 8, 2) := by decide +kernel
theorem dM_isRemainder_58 : decode cM_isRemainder 58 = .ok (.iconst 1, 1) := by decide +kernel
theorem dM_isRemainder_59 : decode cM_isRemainder 59 = .ok (.lshr, 1) := by decide +kernel
theorem dM_isRemainder_60 : decode cM_isRemainder 60 = .ok (.lstore 8, 2) := by decide +kernel
theorem dM_isRemainder_62 : decode cM_isRemainder 62 = .ok (.goto (-45), 3) := by decide +kernel
theorem dM_isRemainder_65 : decode cM_isRemainder 65 = .ok (.lload 6, 2) := by decide +kernel
theorem dM_isRemainder_67 : decode cM_isRemainder 67 = .ok (.lconst 1, 1) := by decide +kernel
theorem dM_isRemainder_68 : decode cM_isRemainder 68 = .ok (.lcmp, 1) := by decide +kernel
theorem dM_isRemainder_69 : decode cM_isRemainder 69 = .ok (.ifCond .ne 7, 3) := by decide +kernel
theorem dM_isRemainder_72 : decode cM_isRemainder 72 = .ok (.iconst 1, 1) := by decide +kernel
theorem dM_isRemainder_73 : decode cM_isRemainder 73 = .ok (.goto 4, 3) := by decide +kernel
theorem dM_isRemainder_76 : decode cM_isRemainder 76 = .ok (.iconst 0, 1) := by decide +kernel
theorem dM_isRemainder_77 : decode cM_isRemainder 77 = .ok (.ireturn, 1) := by decide +kernel
abbrev cM_isSquare : ByteArray := prog_8_method_17_code
abbrev yM_isSquare : MethodName := ⟨"RationalFormsModel", "isSquare", "(JJ)Z"⟩
abbrev wsM_isSquare : List Cond := .code yM_isSquare cM_isSquare 4 (some .boolean) :: GG
theorem dM_isSquare_0 : decode cM_isSquare 0 = .ok (.lload_n 2, 1) := by decide +kernel
theorem dM_isSquare_1 : decode cM_isSquare 1 = .ok (.lconst 0, 1) := by decide +kernel
theorem dM_isSquare_2 : decode cM_isSquare 2 = .ok (.lcmp, 1) := by decide +kernel
theorem dM_isSquare_3 : decode cM_isSquare 3 = .ok (.ifCond .ne 15, 3) := by decide +kernel
theorem dM_isSquare_6 : decode cM_isSquare 6 = .ok (.lload_n 0, 1) := by decide +kernel
theorem dM_isSquare_7 : decode cM_isSquare 7 = .ok (.lconst 0, 1) := by decide +kernel
theorem dM_isSquare_8 : decode cM_isSquare 8 = .ok (.lcmp, 1) := by decide +kernel
theorem dM_isSquare_9 : decode cM_isSquare 9 = .ok (.ifCond .le 7, 3) := by decide +kernel
theorem dM_isSquare_12 : decode cM_isSquare 12 = .ok (.iconst 1, 1) := by decide +kernel
theorem dM_isSquare_13 : decode cM_isSquare 13 = .ok (.goto 4, 3) := by decide +kernel
theorem dM_isSquare_16 : decode cM_isSquare 16 = .ok (.iconst 0, 1) := by decide +kernel
theorem dM_isSquare_17 : decode cM_isSquare 17 = .ok (.ireturn, 1) := by decide +kernel
theorem dM_isSquare_18 : decode cM_isSquare 18 = .ok (.lload_n 0, 1) := by decide +kernel
theorem dM_isSquare_19 : decode cM_isSquare 19 = .ok (.lload_n 2, 1) := by decide +kernel
theorem dM_isSquare_20 : decode cM_isSquare 20 = .ok (.invokestatic 85, 3) := by decide +kernel
theorem dM_isSquare_23 : decode cM_isSquare 23 = .ok (.iconst 1, 1) := by decide +kernel
theorem dM_isSquare_24 : decode cM_isSquare 24 = .ok (.if_icmp .ne 5, 3) := by decide +kernel
theorem dM_isSquare_27 : decode cM_isSquare 27 = .ok (.iconst 0, 1) := by decide +kernel
theorem dM_isSquare_28 : decode cM_isSquare 28 = .ok (.ireturn, 1) := by decide +kernel
theorem dM_isSquare_29 : decode cM_isSquare 29 = .ok (.lload_n 2, 1) := by decide +kernel
theorem dM_isSquare_30 : decode cM_isSquare 30 = .ok (.ldc2_w 39, 3) := by decide +kernel
theorem dM_isSquare_33 : decode cM_isSquare 33 = .ok (.lcmp, 1) := by decide +kernel
theorem dM_isSquare_34 : decode cM_isSquare 34 = .ok (.ifCond .ne 21, 3) := by decide +kernel
theorem dM_isSquare_37 : decode cM_isSquare 37 = .ok (.lload_n 0, 1) := by decide +kernel
theorem dM_isSquare_38 : decode cM_isSquare 38 = .ok (.lload_n 2, 1) := by decide +kernel
theorem dM_isSquare_39 : decode cM_isSquare 39 = .ok (.invokestatic 89, 3) := by decide +kernel
theorem dM_isSquare_42 : decode cM_isSquare 42 = .ok (.lconst 1, 1) := by decide +kernel
theorem dM_isSquare_43 : decode cM_isSquare 43 = .ok (.lcmp, 1) := by decide +kernel
theorem dM_isSquare_44 : decode cM_isSquare 44 = .ok (.ifCond .ne 7, 3) := by decide +kernel
theorem dM_isSquare_47 : decode cM_isSquare 47 = .ok (.iconst 1, 1) := by decide +kernel
theorem dM_isSquare_48 : decode cM_isSquare 48 = .ok (.goto 16, 3) := by decide +kernel
theorem dM_isSquare_51 : decode cM_isSquare 51 = .ok (.iconst 0, 1) := by decide +kernel
theorem dM_isSquare_52 : decode cM_isSquare 52 = .ok (.goto 12, 3) := by decide +kernel
theorem dM_isSquare_55 : decode cM_isSquare 55 = .ok (.lload_n 0, 1) := by decide +kernel
theorem dM_isSquare_56 : decode cM_isSquare 56 = .ok (.lload_n 2, 1) := by decide +kernel
theorem dM_isSquare_57 : decode cM_isSquare 57 = .ok (.invokestatic 89, 3) := by decide +kernel
theorem dM_isSquare_60 : decode cM_isSquare 60 = .ok (.lload_n 2, 1) := by decide +kernel
theorem dM_isSquare_61 : decode cM_isSquare 61 = .ok (.invokestatic 92, 3) := by decide +kernel
theorem dM_isSquare_64 : decode cM_isSquare 64 = .ok (.ireturn, 1) := by decide +kernel
abbrev cM_symbolOf : ByteArray := prog_8_method_18_code
abbrev yM_symbolOf : MethodName := ⟨"RationalFormsModel", "symbolOf", "(JJJ)I"⟩
abbrev wsM_symbolOf : List Cond := .code yM_symbolOf cM_symbolOf 14 (some .int) :: GG
theorem dM_symbolOf_0 : decode cM_symbolOf 0 = .ok (.lload 4, 2) := by decide +kernel
theorem dM_symbolOf_2 : decode cM_symbolOf 2 = .ok (.lconst 0, 1) := by decide +kernel
theorem dM_symbolOf_3 : decode cM_symbolOf 3 = .ok (.lcmp, 1) := by decide +kernel
theorem dM_symbolOf_4 : decode cM_symbolOf 4 = .ok (.ifCond .ne 21, 3) := by decide +kernel
theorem dM_symbolOf_7 : decode cM_symbolOf 7 = .ok (.lload_n 0, 1) := by decide +kernel
theorem dM_symbolOf_8 : decode cM_symbolOf 8 = .ok (.lconst 0, 1) := by decide +kernel
theorem dM_symbolOf_9 : decode cM_symbolOf 9 = .ok (.lcmp, 1) := by decide +kernel
theorem dM_symbolOf_10 : decode cM_symbolOf 10 = .ok (.ifCond .ge 13, 3) := by decide +kernel
theorem dM_symbolOf_13 : decode cM_symbolOf 13 = .ok (.lload_n 2, 1) := by decide +kernel
theorem dM_symbolOf_14 : decode cM_symbolOf 14 = .ok (.lconst 0, 1) := by decide +kernel
theorem dM_symbolOf_15 : decode cM_symbolOf 15 = .ok (.lcmp, 1) := by decide +kernel
theorem dM_symbolOf_16 : decode cM_symbolOf 16 = .ok (.ifCond .ge 7, 3) := by decide +kernel
theorem dM_symbolOf_19 : decode cM_symbolOf 19 = .ok (.iconst (-1), 1) := by decide +kernel
theorem dM_symbolOf_20 : decode cM_symbolOf 20 = .ok (.goto 4, 3) := by decide +kernel
theorem dM_symbolOf_23 : decode cM_symbolOf 23 = .ok (.iconst 1, 1) := by decide +kernel
theorem dM_symbolOf_24 : decode cM_symbolOf 24 = .ok (.ireturn, 1) := by decide +kernel
theorem dM_symbolOf_25 : decode cM_symbolOf 25 = .ok (.lload_n 0, 1) := by decide +kernel
theorem dM_symbolOf_26 : decode cM_symbolOf 26 = .ok (.lload 4, 2) := by decide +kernel
theorem dM_symbolOf_28 : decode cM_symbolOf 28 = .ok (.invokestatic 85, 3) := by decide +kernel
theorem dM_symbolOf_31 : decode cM_symbolOf 31 = .ok (.istore 6, 2) := by decide +kernel
theorem dM_symbolOf_33 : decode cM_symbolOf 33 = .ok (.lload_n 2, 1) := by decide +kernel
theorem dM_symbolOf_34 : decode cM_symbolOf 34 = .ok (.lload 4, 2) := by decide +kernel
theorem dM_symbolOf_36 : decode cM_symbolOf 36 = .ok (.invokestatic 85, 3) := by decide +kernel
theorem dM_symbolOf_39 : decode cM_symbolOf 39 = .ok (.istore 7, 2) := by decide +kernel
theorem dM_symbolOf_41 : decode cM_symbolOf 41 = .ok (.lload_n 0, 1) := by decide +kernel
theorem dM_symbolOf_42 : decode cM_symbolOf 42 = .ok (.lload 4, 2) := by decide +kernel
theorem dM_symbolOf_44 : decode cM_symbolOf 44 = .ok (.invokestatic 89, 3) := by decide +kernel
theorem dM_symbolOf_47 : decode cM_symbolOf 47 = .ok (.lstore 8, 2) := by decide +kernel
theorem dM_symbolOf_49 : decode cM_symbolOf 49 = .ok (.lload_n 2, 1) := by decide +kernel
theorem dM_symbolOf_50 : decode cM_symbolOf 50 = .ok (.lload 4, 2) := by decide +kernel
theorem dM_symbolOf_52 : decode cM_symbolOf 52 = .ok (.invokestatic 89, 3) := by decide +kernel
theorem dM_symbolOf_55 : decode cM_symbolOf 55 = .ok (.lstore 10, 2) := by decide +kernel
theorem dM_symbolOf_57 : decode cM_symbolOf 57 = .ok (.lload 4, 2) := by decide +kernel
theorem dM_symbolOf_59 : decode cM_symbolOf 59 = .ok (.ldc2_w 39, 3) := by decide +kernel
theorem dM_symbolOf_62 : decode cM_symbolOf 62 = .ok (.lcmp, 1) := by decide +kernel
theorem dM_symbolOf_63 : decode cM_symbolOf 63 = .ok (.ifCond .ne 69, 3) := by decide +kernel
theorem dM_symbolOf_66 : decode cM_symbolOf 66 = .ok (.lload 8, 2) := by decide +kernel
theorem dM_symbolOf_68 : decode cM_symbolOf 68 = .ok (.lconst 1, 1) := by decide +kernel
theorem dM_symbolOf_69 : decode cM_symbolOf 69 = .ok (.lsub, 1) := by decide +kernel
theorem dM_symbolOf_70 : decode cM_symbolOf 70 = .ok (.ldc2_w 39, 3) := by decide +kernel
theorem dM_symbolOf_73 : decode cM_symbolOf 73 = .ok (.ldiv, 1) := by decide +kernel
theorem dM_symbolOf_74 : decode cM_symbolOf 74 = .ok (.lload 10, 2) := by decide +kernel
theorem dM_symbolOf_76 : decode cM_symbolOf 76 = .ok (.lconst 1, 1) := by decide +kernel
theorem dM_symbolOf_77 : decode cM_symbolOf 77 = .ok (.lsub, 1) := by decide +kernel
theorem dM_symbolOf_78 : decode cM_symbolOf 78 = .ok (.ldc2_w 39, 3) := by decide +kernel
theorem dM_symbolOf_81 : decode cM_symbolOf 81 = .ok (.ldiv, 1) := by decide +kernel
theorem dM_symbolOf_82 : decode cM_symbolOf 82 = .ok (.lmul, 1) := by decide +kernel
theorem dM_symbolOf_83 : decode cM_symbolOf 83 = .ok (.iload 6, 2) := by decide +kernel
theorem dM_symbolOf_85 : decode cM_symbolOf 85 = .ok (.i2l, 1) := by decide +kernel
theorem dM_symbolOf_86 : decode cM_symbolOf 86 = .ok (.lload 10, 2) := by decide +kernel
theorem dM_symbolOf_88 : decode cM_symbolOf 88 = .ok (.lload 10, 2) := by decide +kernel
theorem dM_symbolOf_90 : decode cM_symbolOf 90 = .ok (.lmul, 1) := by decide +kernel
theorem dM_symbolOf_91 : decode cM_symbolOf 91 = .ok (.lconst 1, 1) := by decide +kernel
theorem dM_symbolOf_92 : decode cM_symbolOf 92 = .ok (.lsub, 1) := by decide +kernel
theorem dM_symbolOf_93 : decode cM_symbolOf 93 = .ok (.ldc2_w 83, 3) := by decide +kernel
theorem dM_symbolOf_96 : decode cM_symbolOf 96 = .ok (.ldiv, 1) := by decide +kernel
theorem dM_symbolOf_97 : decode cM_symbolOf 97 = .ok (.lmul, 1) := by decide +kernel
theorem dM_symbolOf_98 : decode cM_symbolOf 98 = .ok (.ladd, 1) := by decide +kernel
theorem dM_symbolOf_99 : decode cM_symbolOf 99 = .ok (.iload 7, 2) := by decide +kernel
theorem dM_symbolOf_101 : decode cM_symbolOf 101 = .ok (.i2l, 1) := by decide +kernel
theorem dM_symbolOf_102 : decode cM_symbolOf 102 = .ok (.lload 8, 2) := by decide +kernel
theorem dM_symbolOf_104 : decode cM_symbolOf 104 = .ok (.lload 8, 2) := by decide +kernel
theorem dM_symbolOf_106 : decode cM_symbolOf 106 = .ok (.lmul, 1) := by decide +kernel
theorem dM_symbolOf_107 : decode cM_symbolOf 107 = .ok (.lconst 1, 1) := by decide +kernel
theorem dM_symbolOf_108 : decode cM_symbolOf 108 = .ok (.lsub, 1) := by decide +kernel
theorem dM_symbolOf_109 : decode cM_symbolOf 109 = .ok (.ldc2_w 83, 3) := by decide +kernel
theorem dM_symbolOf_112 : decode cM_symbolOf 112 = .ok (.ldiv, 1) := by decide +kernel
theorem dM_symbolOf_113 : decode cM_symbolOf 113 = .ok (.lmul, 1) := by decide +kernel
theorem dM_symbolOf_114 : decode cM_symbolOf 114 = .ok (.ladd, 1) := by decide +kernel
theorem dM_symbolOf_115 : decode cM_symbolOf 115 = .ok (.lstore 12, 2) := by decide +kernel
theorem dM_symbolOf_117 : decode cM_symbolOf 117 = .ok (.lload 12, 2) := by decide +kernel
theorem dM_symbolOf_119 : decode cM_symbolOf 119 = .ok (.lconst 1, 1) := by decide +kernel
theorem dM_symbolOf_120 : decode cM_symbolOf 120 = .ok (.land, 1) := by decide +kernel
theorem dM_symbolOf_121 : decode cM_symbolOf 121 = .ok (.lconst 1, 1) := by decide +kernel
theorem dM_symbolOf_122 : decode cM_symbolOf 122 = .ok (.lcmp, 1) := by decide +kernel
theorem dM_symbolOf_123 : decode cM_symbolOf 123 = .ok (.ifCond .ne 7, 3) := by decide +kernel
theorem dM_symbolOf_126 : decode cM_symbolOf 126 = .ok (.iconst (-1), 1) := by decide +kernel
theorem dM_symbolOf_127 : decode cM_symbolOf 127 = .ok (.goto 4, 3) := by decide +kernel
theorem dM_symbolOf_130 : decode cM_symbolOf 130 = .ok (.iconst 1, 1) := by decide +kernel
theorem dM_symbolOf_131 : decode cM_symbolOf 131 = .ok (.ireturn, 1) := by decide +kernel
theorem dM_symbolOf_132 : decode cM_symbolOf 132 = .ok (.iload 6, 2) := by decide +kernel
theorem dM_symbolOf_134 : decode cM_symbolOf 134 = .ok (.iload 7, 2) := by decide +kernel
theorem dM_symbolOf_136 : decode cM_symbolOf 136 = .ok (.imul, 1) := by decide +kernel
theorem dM_symbolOf_137 : decode cM_symbolOf 137 = .ok (.iconst 1, 1) := by decide +kernel
theorem dM_symbolOf_138 : decode cM_symbolOf 138 = .ok (.if_icmp .ne 24, 3) := by decide +kernel
theorem dM_symbolOf_141 : decode cM_symbolOf 141 = .ok (.lload 4, 2) := by decide +kernel
theorem dM_symbolOf_143 : decode cM_symbolOf 143 = .ok (.lconst 1, 1) := by decide +kernel
theorem dM_symbolOf_144 : decode cM_symbolOf 144 = .ok (.lsub, 1) := by decide +kernel
theorem dM_symbolOf_145 : decode cM_symbolOf 145 = .ok (.ldc2_w 39, 3) := by decide +kernel
theorem dM_symbolOf_148 : decode cM_symbolOf 148 = .ok (.ldiv, 1) := by decide +kernel
theorem dM_symbolOf_149 : decode cM_symbolOf 149 = .ok (.ldc2_w 39, 3) := by decide +kernel
theorem dM_symbolOf_152 : decode cM_symbolOf 152 = .ok (.lrem, 1) := by decide +kernel
theorem dM_symbolOf_153 : decode cM_symbolOf 153 = .ok (.lconst 1, 1) := by decide +kernel
theorem dM_symbolOf_154 : decode cM_symbolOf 154 = .ok (.lcmp, 1) := by decide +kernel
theorem dM_symbolOf_155 : decode cM_symbolOf 155 = .ok (.ifCond .ne 7, 3) := by decide +kernel
theorem dM_symbolOf_158 : decode cM_symbolOf 158 = .ok (.iconst (-1), 1) := by decide +kernel
theorem dM_symbolOf_159 : decode cM_symbolOf 159 = .ok (.goto 4, 3) := by decide +kernel
theorem dM_symbolOf_162 : decode cM_symbolOf 162 = .ok (.iconst 1, 1) := by decide +kernel
theorem dM_symbolOf_163 : decode cM_symbolOf 163 = .ok (.istore 12, 2) := by decide +kernel
theorem dM_symbolOf_165 : decode cM_symbolOf 165 = .ok (.iload 7, 2) := by decide +kernel
theorem dM_symbolOf_167 : decode cM_symbolOf 167 = .ok (.iconst 1, 1) := by decide +kernel
theorem dM_symbolOf_168 : decode cM_symbolOf 168 = .ok (.if_icmp .ne 19, 3) := by decide +kernel
theorem dM_symbolOf_171 : decode cM_symbolOf 171 = .ok (.lload 8, 2) := by decide +kernel
theorem dM_symbolOf_173 : decode cM_symbolOf 173 = .ok (.lload 4, 2) := by decide +kernel
theorem dM_symbolOf_175 : decode cM_symbolOf 175 = .ok (.invokestatic 92, 3) := by decide +kernel
theorem dM_symbolOf_178 : decode cM_symbolOf 178 = .ok (.ifCond .ne 9, 3) := by decide +kernel
theorem dM_symbolOf_181 : decode cM_symbolOf 181 = .ok (.iload 12, 2) := by decide +kernel
theorem dM_symbolOf_183 : decode cM_symbolOf 183 = .ok (.ineg, 1) := by decide +kernel
theorem dM_symbolOf_184 : decode cM_symbolOf 184 = .ok (.goto 5, 3) := by decide +kernel
theorem dM_symbolOf_187 : decode cM_symbolOf 187 = .ok (.iload 12, 2) := by decide +kernel
theorem dM_symbolOf_189 : decode cM_symbolOf 189 = .ok (.istore 12, 2) := by decide +kernel
theorem dM_symbolOf_191 : decode cM_symbolOf 191 = .ok (.iload 6, 2) := by decide +kernel
theorem dM_symbolOf_193 : decode cM_symbolOf 193 = .ok (.iconst 1, 1) := by decide +kernel
theorem dM_symbolOf_194 : decode cM_symbolOf 194 = .ok (.if_icmp .ne 19, 3) := by decide +kernel
theorem dM_symbolOf_197 : decode cM_symbolOf 197 = .ok (.lload 10, 2) := by decide +kernel
theorem dM_symbolOf_199 : decode cM_symbolOf 199 = .ok (.lload 4, 2) := by decide +kernel
theorem dM_symbolOf_201 : decode cM_symbolOf 201 = .ok (.invokestatic 92, 3) := by decide +kernel
theorem dM_symbolOf_204 : decode cM_symbolOf 204 = .ok (.ifCond .ne 9, 3) := by decide +kernel
theorem dM_symbolOf_207 : decode cM_symbolOf 207 = .ok (.iload 12, 2) := by decide +kernel
theorem dM_symbolOf_209 : decode cM_symbolOf 209 = .ok (.ineg, 1) := by decide +kernel
theorem dM_symbolOf_210 : decode cM_symbolOf 210 = .ok (.goto 5, 3) := by decide +kernel
theorem dM_symbolOf_213 : decode cM_symbolOf 213 = .ok (.iload 12, 2) := by decide +kernel
theorem dM_symbolOf_215 : decode cM_symbolOf 215 = .ok (.ireturn, 1) := by decide +kernel
abbrev cM_isPrime : ByteArray := prog_8_method_22_code
abbrev yM_isPrime : MethodName := ⟨"RationalFormsModel", "isPrime", "(J)Z"⟩
abbrev wsM_isPrime : List Cond := .code yM_isPrime cM_isPrime 4 (some .boolean) :: GG
theorem dM_isPrime_0 : decode cM_isPrime 0 = .ok (.ldc2_w 39, 3) := by decide +kernel
theorem dM_isPrime_3 : decode cM_isPrime 3 = .ok (.lstore_n 2, 1) := by decide +kernel
theorem dM_isPrime_4 : decode cM_isPrime 4 = .ok (.lload_n 2, 1) := by decide +kernel
theorem dM_isPrime_5 : decode cM_isPrime 5 = .ok (.lload_n 2, 1) := by decide +kernel
theorem dM_isPrime_6 : decode cM_isPrime 6 = .ok (.lmul, 1) := by decide +kernel
theorem dM_isPrime_7 : decode cM_isPrime 7 = .ok (.lload_n 0, 1) := by decide +kernel
theorem dM_isPrime_8 : decode cM_isPrime 8 = .ok (.lcmp, 1) := by decide +kernel
theorem dM_isPrime_9 : decode cM_isPrime 9 = .ok (.ifCond .gt 20, 3) := by decide +kernel
theorem dM_isPrime_12 : decode cM_isPrime 12 = .ok (.lload_n 0, 1) := by decide +kernel
theorem dM_isPrime_13 : decode cM_isPrime 13 = .ok (.lload_n 2, 1) := by decide +kernel
theorem dM_isPrime_14 : decode cM_isPrime 14 = .ok (.lrem, 1) := by decide +kernel
theorem dM_isPrime_15 : decode cM_isPrime 15 = .ok (.lconst 0, 1) := by decide +kernel
theorem dM_isPrime_16 : decode cM_isPrime 16 = .ok (.lcmp, 1) := by decide +kernel
theorem dM_isPrime_17 : decode cM_isPrime 17 = .ok (.ifCond .ne 5, 3) := by decide +kernel
theorem dM_isPrime_20 : decode cM_isPrime 20 = .ok (.iconst 0, 1) := by decide +kernel
theorem dM_isPrime_21 : decode cM_isPrime 21 = .ok (.ireturn, 1) := by decide +kernel
theorem dM_isPrime_22 : decode cM_isPrime 22 = .ok (.lload_n 2, 1) := by decide +kernel
theorem dM_isPrime_23 : decode cM_isPrime 23 = .ok (.lconst 1, 1) := by decide +kernel
theorem dM_isPrime_24 : decode cM_isPrime 24 = .ok (.ladd, 1) := by decide +kernel
theorem dM_isPrime_25 : decode cM_isPrime 25 = .ok (.lstore_n 2, 1) := by decide +kernel
theorem dM_isPrime_26 : decode cM_isPrime 26 = .ok (.goto (-22), 3) := by decide +kernel
theorem dM_isPrime_29 : decode cM_isPrime 29 = .ok (.lload_n 0, 1) := by decide +kernel
theorem dM_isPrime_30 : decode cM_isPrime 30 = .ok (.lconst 1, 1) := by decide +kernel
theorem dM_isPrime_31 : decode cM_isPrime 31 = .ok (.lcmp, 1) := by decide +kernel
theorem dM_isPrime_32 : decode cM_isPrime 32 = .ok (.ifCond .le 7, 3) := by decide +kernel
theorem dM_isPrime_35 : decode cM_isPrime 35 = .ok (.iconst 1, 1) := by decide +kernel
theorem dM_isPrime_36 : decode cM_isPrime 36 = .ok (.goto 4, 3) := by decide +kernel
theorem dM_isPrime_39 : decode cM_isPrime 39 = .ok (.iconst 0, 1) := by decide +kernel
theorem dM_isPrime_40 : decode cM_isPrime 40 = .ok (.ireturn, 1) := by decide +kernel
abbrev cM_isPlace : ByteArray := prog_8_method_23_code
abbrev yM_isPlace : MethodName := ⟨"RationalFormsModel", "isPlace", "(I)Z"⟩
abbrev wsM_isPlace : List Cond := .code yM_isPlace cM_isPlace 1 (some .boolean) :: GG
theorem dM_isPlace_0 : decode cM_isPlace 0 = .ok (.iload_n 0, 1) := by decide +kernel
theorem dM_isPlace_1 : decode cM_isPlace 1 = .ok (.ifCond .eq 18, 3) := by decide +kernel
theorem dM_isPlace_4 : decode cM_isPlace 4 = .ok (.iload_n 0, 1) := by decide +kernel
theorem dM_isPlace_5 : decode cM_isPlace 5 = .ok (.sipush 1000, 3) := by decide +kernel
theorem dM_isPlace_8 : decode cM_isPlace 8 = .ok (.if_icmp .gt 15, 3) := by decide +kernel
theorem dM_isPlace_11 : decode cM_isPlace 11 = .ok (.iload_n 0, 1) := by decide +kernel
theorem dM_isPlace_12 : decode cM_isPlace 12 = .ok (.i2l, 1) := by decide +kernel
theorem dM_isPlace_13 : decode cM_isPlace 13 = .ok (.invokestatic 111, 3) := by decide +kernel
theorem dM_isPlace_16 : decode cM_isPlace 16 = .ok (.ifCond .eq 7, 3) := by decide +kernel
theorem dM_isPlace_19 : decode cM_isPlace 19 = .ok (.iconst 1, 1) := by decide +kernel
theorem dM_isPlace_20 : decode cM_isPlace 20 = .ok (.goto 4, 3) := by decide +kernel
theorem dM_isPlace_23 : decode cM_isPlace 23 = .ok (.iconst 0, 1) := by decide +kernel
theorem dM_isPlace_24 : decode cM_isPlace 24 = .ok (.ireturn, 1) := by decide +kernel
set_option maxRecDepth 20000 in
theorem wd5 : Cond.initialized "RationalFormsModel" ∈ GG := GG_t 5 rfl rfl
set_option maxRecDepth 20000 in
theorem wd522 : Cond.constantLong "RationalFormsModel" 39 (2) ∈ GG := GG_t 522 rfl rfl
set_option maxRecDepth 20000 in
theorem wd538 : Cond.constantLong "RationalFormsModel" 37 (-1) ∈ GG := GG_t 538 rfl rfl
set_option maxRecDepth 20000 in
theorem wd546 : Cond.methodLink "RationalFormsModel" 41 yM_common ∈ GG := GG_t 546 rfl rfl
set_option maxRecDepth 20000 in
theorem wd547 : Cond.static yM_common ∈ GG := GG_t 547 rfl rfl
set_option maxRecDepth 20000 in
theorem wd548 : Cond.code yM_common cM_common 10 (some .long) ∈ GG := GG_t 548 rfl rfl
set_option maxRecDepth 20000 in
theorem wd556 : Cond.methodLink "RationalFormsModel" 111 yM_isPrime ∈ GG := GG_t 556 rfl rfl
set_option maxRecDepth 20000 in
theorem wd557 : Cond.static yM_isPrime ∈ GG := GG_t 557 rfl rfl
set_option maxRecDepth 20000 in
theorem wd558 : Cond.code yM_isPrime cM_isPrime 4 (some .boolean) ∈ GG := GG_t 558 rfl rfl
set_option maxRecDepth 20000 in
theorem wd562 : Cond.methodLink "RationalFormsModel" 85 yM_order ∈ GG := GG_t 562 rfl rfl
set_option maxRecDepth 20000 in
theorem wd563 : Cond.static yM_order ∈ GG := GG_t 563 rfl rfl
set_option maxRecDepth 20000 in
theorem wd564 : Cond.code yM_order cM_order 4 (some .int) ∈ GG := GG_t 564 rfl rfl
set_option maxRecDepth 20000 in
theorem wd565 : Cond.methodLink "RationalFormsModel" 89 yM_unit ∈ GG := GG_t 565 rfl rfl
set_option maxRecDepth 20000 in
theorem wd566 : Cond.static yM_unit ∈ GG := GG_t 566 rfl rfl
set_option maxRecDepth 20000 in
theorem wd567 : Cond.code yM_unit cM_unit 10 (some .long) ∈ GG := GG_t 567 rfl rfl
set_option maxRecDepth 20000 in
theorem wd568 : Cond.constantLong "RationalFormsModel" 83 (8) ∈ GG := GG_t 568 rfl rfl
set_option maxRecDepth 20000 in
theorem wd569 : Cond.methodLink "RationalFormsModel" 92 yM_isRemainder ∈ GG := GG_t 569 rfl rfl
set_option maxRecDepth 20000 in
theorem wd570 : Cond.static yM_isRemainder ∈ GG := GG_t 570 rfl rfl
set_option maxRecDepth 20000 in
theorem wd571 : Cond.code yM_isRemainder cM_isRemainder 10 (some .boolean) ∈ GG := GG_t 571 rfl rfl
set_option maxRecDepth 100000 in
set_option maxHeartbeats 4000000 in
theorem kM_isForm (l : Launch) (f : Int) (hf : b32 f) : PM l yM_isForm wsM_isForm (rmd 0) [.int (ji f)] (fun r => r = .int (ji (bi (f = 0 ∨ f = 1)))) := by
  refine PM.ofG (by decide +kernel) (Nat.le_of_ble_eq_true rfl) ?_
  intro p_ e_ s_ m_ a_ b_ t_ c_ hx hb hml hr hk hg hown ls hl
  have hl : lv_has ls 1 [(0, .int (ji f))] := hl
  refine lv_iload_n hx hb dM_isForm_0 rfl (lv_at hl 0 rfl) ?_
  refine j_if_eq hx hb (by omega) dM_isForm_1 rfl (fun h1 => ?_) (fun h1 => ?_)
  · refine j_iconst hx hb dM_isForm_9 ?_
    refine lv_goto hx hb dM_isForm_10 rfl ?_
    exact pm_zret hx hb hr hk dM_isForm_14 nar_1 (by rw [bi_t (Or.inl h1)])
  · refine lv_iload_n hx hb dM_isForm_4 rfl (lv_at hl 0 rfl) ?_
    refine j_iconst hx hb dM_isForm_5 ?_
    refine j_icmp_ne hx hb (by omega) (by omega) dM_isForm_6 rfl (fun h2 => ?_) (fun h2 => ?_)
    · refine j_iconst hx hb dM_isForm_13 ?_
      exact pm_zret hx hb hr hk dM_isForm_14 nar_0 (by rw [bi_f (by omega)])
    · refine j_iconst hx hb dM_isForm_9 ?_
      refine lv_goto hx hb dM_isForm_10 rfl ?_
      exact pm_zret hx hb hr hk dM_isForm_14 nar_1 (by rw [bi_t (Or.inr h2)])

set_option maxRecDepth 100000 in
set_option maxHeartbeats 4000000 in
theorem kM_isPrime (l : Launch) (n : Int) (hn : -4611686018427387904 ≤ n ∧ n ≤ 4611686018427387904) : PM l yM_isPrime wsM_isPrime (rmd 0) [.long (jl n)] (fun r => r = .int (ji (bi (prm n.toNat)))) := by
  refine PM.ofG (by decide +kernel) (Nat.le_of_ble_eq_true rfl) ?_
  intro p_ e_ s_ m_ a_ b_ t_ c_ hx hb hml hr hk hg hown ls hl
  have hl : lv_has ls 4 [(0, .long (jl n))] := hl
  have loop : ∀ (N : Nat) (d : Int) (ls : Array Slot), 2147483650 - d < N → d ≤ 2147483649 → 2 ≤ d → (∀ e : Nat, 1 < e → (e : Int) < d → ¬ e ∣ n.toNat) → lv_has ls 4 [(2, .long (jl d)), (0, .long (jl n))] → W p_ l e_ (rmd 0) s_ m_ a_ b_ t_ c_ s_.heap [] 0 0 (XQ b_ (pmQ (fun r => r = .int (ji (bi (prm n.toNat))))) a_ s_ 0 0 (fun _ => False)) (F0 m_ 4 ls []) := by
    intro N
    induction N with
    | zero => intro d ls hm h2; omega
    | succ N ih =>
      intro d ls hm h2 h3 h4 hl
      refine lv_lload_n hx hb dM_isPrime_4 rfl (lv_at hl 0 rfl) ?_
      refine lv_lload_n hx hb dM_isPrime_5 rfl (lv_at hl 0 rfl) ?_
      refine j_lmul hx hb dM_isPrime_6 ?_
      refine lv_lload_n hx hb dM_isPrime_7 rfl (lv_at hl 1 rfl) ?_
      refine j_lc_gt hx hb (sq_b64 (by omega) (by omega)) (by omega) dM_isPrime_8 dM_isPrime_9 rfl (fun h5 => ?_) (fun h5 => ?_)
      · refine lv_lload_n hx hb dM_isPrime_29 rfl (lv_at hl 1 rfl) ?_
        refine j_lconst1 hx hb dM_isPrime_30 ?_
        refine j_lc_le hx hb (by omega) (by omega) dM_isPrime_31 dM_isPrime_32 rfl (fun h6 => ?_) (fun h6 => ?_)
        · have hp : ¬ prm n.toNat := fun q => by have := q.1; omega
          refine j_iconst hx hb dM_isPrime_39 ?_
          exact pm_zret hx hb hr hk dM_isPrime_40 nar_0 (by rw [bi_f hp])
        · have h9 : ((d.toNat * d.toNat : Nat) : Int) = d * d := by rw [Int.natCast_mul, Int.toNat_of_nonneg (by omega)]
          have hp : prm n.toNat := prm_of (d := d.toNat) (by omega) (fun e e1 e2 => h4 e e1 (by omega)) (by omega)
          refine j_iconst hx hb dM_isPrime_35 ?_
          refine lv_goto hx hb dM_isPrime_36 rfl ?_
          exact pm_zret hx hb hr hk dM_isPrime_40 nar_1 (by rw [bi_t hp])
      · have h8 := sq_ge h3
        refine lv_lload_n hx hb dM_isPrime_12 rfl (lv_at hl 1 rfl) ?_
        refine lv_lload_n hx hb dM_isPrime_13 rfl (lv_at hl 0 rfl) ?_
        refine j_lrem hx hb (by omega) (by omega) (by omega) dM_isPrime_14 ?_
        refine j_lconst0 hx hb dM_isPrime_15 ?_
        refine j_lc_ne hx hb (tm_b64 (by omega)) (by decide) dM_isPrime_16 dM_isPrime_17 rfl (fun h7 => ?_) (fun h7 => ?_)
        · have hd : ¬ d.toNat ∣ n.toNat := fun q => h7 (tm_0.mpr ((nd_int (by omega) (by omega)).mp q))
          refine lv_lload_n hx hb dM_isPrime_22 rfl (lv_at hl 0 rfl) ?_
          refine j_lconst1 hx hb dM_isPrime_23 ?_
          refine j_ladd hx hb dM_isPrime_24 ?_
          refine lv_lstore_n hx hb dM_isPrime_25 rfl hl (by decide) rfl (fun ls hl => ?_)
          have hl : lv_has ls 4 [(2, .long (jl (d + 1))), (0, .long (jl n))] := hl
          refine lv_goto hx hb dM_isPrime_26 rfl ?_
          refine ih (d + 1) ls (by omega) ?_ (by omega) (fun e e1 e2 => ?_) hl
          · rcases Int.lt_or_le d 2147483649 with h9 | h9
            · omega
            · have : 2147483649 * 2147483649 ≤ d * d := Int.mul_le_mul h9 h9 (by omega) (by omega)
              omega
          · rcases Int.lt_or_le (e : Int) d with h9 | h9
            · exact h4 e e1 h9
            · have : e = d.toNat := by omega
              rw [this]; exact hd
        · have hd : d.toNat ∣ n.toNat := (nd_int (by omega) (by omega)).mpr (tm_0.mp h7)
          have hp : ¬ prm n.toNat := fun q => q.2 d.toNat (by omega) (by omega) hd
          refine j_iconst hx hb dM_isPrime_20 ?_
          exact pm_zret hx hb hr hk dM_isPrime_21 nar_0 (by rw [bi_f hp])
  refine j_ldc2 (z := 2) hx hb hown hg wd522 rfl dM_isPrime_0 ?_
  refine lv_lstore_n hx hb dM_isPrime_3 rfl hl (by decide) rfl (fun ls hl => ?_)
  have hl : lv_has ls 4 [(2, .long (jl 2)), (0, .long (jl n))] := hl
  exact loop 2147483649 2 ls (by omega) (by omega) (by omega) (fun e e1 e2 => by omega) hl

set_option maxRecDepth 100000 in
set_option maxHeartbeats 4000000 in
theorem kM_isPlace (l : Launch) (n : Int) (hn : b32 n) : PM l yM_isPlace wsM_isPlace (rmd 1) [.int (ji n)] (fun r => r = .int (ji (bi (n = 0 ∨ (n ≤ 1000 ∧ prm n.toNat))))) := by
  refine PM.ofG (by decide +kernel) (Nat.le_of_ble_eq_true rfl) ?_
  intro p_ e_ s_ m_ a_ b_ t_ c_ hx hb hml hr hk hg hown ls hl
  have hl : lv_has ls 1 [(0, .int (ji n))] := hl
  refine lv_iload_n hx hb dM_isPlace_0 rfl (lv_at hl 0 rfl) ?_
  refine j_if_eq hx hb (by omega) dM_isPlace_1 rfl (fun h1 => ?_) (fun h1 => ?_)
  · refine j_iconst hx hb dM_isPlace_19 ?_
    refine lv_goto hx hb dM_isPlace_20 rfl ?_
    exact pm_zret hx hb hr hk dM_isPlace_24 nar_1 (by rw [bi_t (Or.inl h1)])
  · refine lv_iload_n hx hb dM_isPlace_4 rfl (lv_at hl 0 rfl) ?_
    refine j_sipush hx hb dM_isPlace_5 rfl ?_
    refine j_icmp_gt hx hb (by omega) (by omega) dM_isPlace_8 rfl (fun h2 => ?_) (fun h2 => ?_)
    · refine j_iconst hx hb dM_isPlace_23 ?_
      exact pm_zret hx hb hr hk dM_isPlace_24 nar_0 (by rw [bi_f (by omega)])
    · refine lv_iload_n hx hb dM_isPlace_11 rfl (lv_at hl 0 rfl) ?_
      refine j_i2l hx hb (by omega) dM_isPlace_12 ?_
      refine pm_G (As := [.long (jl n)]) (rest := []) hx hb hml hown hg hl (kM_isPrime l n (by omega)) wd556 wd557 wd5 wd558 ⟨rfl, rfl⟩ (n := 1) (by decide +kernel) rfl ⟨by decide, by decide⟩ rfl (Nat.le_of_ble_eq_true rfl) dM_isPlace_13 ⟨Nat.zero_le _, Nat.zero_le _⟩ (fun r hr9 => ?_)
      subst hr9
      refine j_if_eq hx hb (bi_b32 _) dM_isPlace_16 rfl (fun h3 => ?_) (fun h3 => ?_)
      · have := bi_eq h3
        refine j_iconst hx hb dM_isPlace_23 ?_
        exact pm_zret hx hb hr hk dM_isPlace_24 nar_0 (by rw [bi_f (fun q => by rcases q with q | q; exact h1 q; exact this q.2)])
      · have := bi_ne h3
        refine j_iconst hx hb dM_isPlace_19 ?_
        refine lv_goto hx hb dM_isPlace_20 rfl ?_
        exact pm_zret hx hb hr hk dM_isPlace_24 nar_1 (by rw [bi_t (Or.inr ⟨h2, this⟩)])

set_option maxRecDepth 100000 in
set_option maxHeartbeats 4000000 in
theorem kM_common (l : Launch) (a b : Int) (ha : -9223372036854775807 ≤ a ∧ a ≤ 9223372036854775807) (hb9 : -9223372036854775807 ≤ b ∧ b ≤ 9223372036854775807) : PM l yM_common wsM_common (rmd 0) [.long (jl a), .long (jl b)] (fun r => r = .long (jl (Int.gcd a b : Int))) := by
  refine PM.ofG (by decide +kernel) (Nat.le_of_ble_eq_true rfl) ?_
  intro p_ e_ s_ m_ a_ b_ t_ c_ hx hb hml hr hk hg hown ls hl
  have hl : lv_has ls 10 [(0, .long (jl a)), (2, .long (jl b))] := hl
  have loop : ∀ (N x y : Nat) (ls : Array Slot), y < N → x < 9223372036854775808 → y < 9223372036854775808 → Nat.gcd x y = Int.gcd a b → lv_has ls 10 [(6, .long (jl ((y:Int)))), (4, .long (jl ((x:Int)))), (0, .long (jl a)), (2, .long (jl b))] → W p_ l e_ (rmd 0) s_ m_ a_ b_ t_ c_ s_.heap [] 0 0 (XQ b_ (pmQ (fun r => r = .long (jl (Int.gcd a b : Int)))) a_ s_ 0 0 (fun _ => False)) (F0 m_ 28 ls []) := by
    intro N
    induction N with
    | zero => intro x y ls hm; omega
    | succ N ih =>
      intro x y ls hm hx0 hy0 hw hl
      refine lv_lload hx hb dM_common_28 (lv_at hl 0 rfl) ?_
      refine j_lconst0 hx hb dM_common_30 ?_
      refine j_lc_eq hx hb (by omega) (by omega) dM_common_31 dM_common_32 rfl (fun h1 => ?_) (fun h1 => ?_)
      · have hy : y = 0 := by omega
        subst hy
        rw [Nat.gcd_zero_right] at hw
        refine lv_lload hx hb dM_common_53 (lv_at hl 1 rfl) ?_
        exact pm_lret hx hb hr hk dM_common_55 (by rw [hw])
      · have hlt := Nat.mod_lt x (show 0 < y by omega)
        refine lv_lload hx hb dM_common_35 (lv_at hl 1 rfl) ?_
        refine lv_lload hx hb dM_common_37 (lv_at hl 0 rfl) ?_
        refine j_lrem hx hb (by omega) (by omega) (by omega) dM_common_39 ?_
        refine lv_lstore hx hb dM_common_40 hl (by decide) rfl (fun ls hl => ?_)
        have hl : lv_has ls 10 [(8, .long (jl (((x:Int)).tmod ((y:Int))))), (6, .long (jl ((y:Int)))), (4, .long (jl ((x:Int)))), (0, .long (jl a)), (2, .long (jl b))] := hl
        refine lv_lload hx hb dM_common_42 (lv_at hl 1 rfl) ?_
        refine lv_lstore hx hb dM_common_44 hl (by decide) rfl (fun ls hl => ?_)
        have hl : lv_has ls 10 [(4, .long (jl ((y:Int)))), (8, .long (jl (((x:Int)).tmod ((y:Int))))), (6, .long (jl ((y:Int)))), (0, .long (jl a)), (2, .long (jl b))] := hl
        refine lv_lload hx hb dM_common_46 (lv_at hl 1 rfl) ?_
        refine lv_lstore hx hb dM_common_48 hl (by decide) rfl (fun ls hl => ?_)
        have hl : lv_has ls 10 [(6, .long (jl (((x:Int)).tmod ((y:Int))))), (4, .long (jl ((y:Int)))), (8, .long (jl (((x:Int)).tmod ((y:Int))))), (0, .long (jl a)), (2, .long (jl b))] := hl
        refine lv_goto hx hb dM_common_50 rfl ?_
        rw [tm_nat] at hl
        refine ih y (x % y) ls (by omega) hy0 (by omega) ?_ (lv_sub hl [0, 1, 3, 4] rfl)
        rw [← hw, Nat.gcd_comm x y, Nat.gcd_rec y x, Nat.gcd_comm]
  have k14 : ∀ (ls : Array Slot), lv_has ls 10 [(4, .long (jl ((a.natAbs:Int)))), (0, .long (jl a)), (2, .long (jl b))] → W p_ l e_ (rmd 0) s_ m_ a_ b_ t_ c_ s_.heap [] 0 0 (XQ b_ (pmQ (fun r => r = .long (jl (Int.gcd a b : Int)))) a_ s_ 0 0 (fun _ => False)) (F0 m_ 14 ls []) := by
    intro ls hl
    refine lv_lload_n hx hb dM_common_14 rfl (lv_at hl 2 rfl) ?_
    refine j_lconst0 hx hb dM_common_15 ?_
    refine j_lc_ge hx hb (by omega) (by omega) dM_common_16 dM_common_17 rfl (fun h1 => ?_) (fun h1 => ?_)
    · refine lv_lload_n hx hb dM_common_25 rfl (lv_at hl 2 rfl) ?_
      refine lv_lstore hx hb dM_common_26 hl (by decide) rfl (fun ls hl => ?_)
      have hl : lv_has ls 10 [(6, .long (jl b)), (4, .long (jl ((a.natAbs:Int)))), (0, .long (jl a)), (2, .long (jl b))] := hl
      have e1 : b = (b.natAbs : Int) := by omega
      exact loop (b.natAbs + 1) a.natAbs b.natAbs ls (by omega) (by omega) (by omega) rfl (by rw [← e1]; exact hl)
    · refine lv_lload_n hx hb dM_common_20 rfl (lv_at hl 2 rfl) ?_
      refine j_lneg hx hb dM_common_21 ?_
      refine lv_goto hx hb dM_common_22 rfl ?_
      refine lv_lstore hx hb dM_common_26 hl (by decide) rfl (fun ls hl => ?_)
      have hl : lv_has ls 10 [(6, .long (jl (-b))), (4, .long (jl ((a.natAbs:Int)))), (0, .long (jl a)), (2, .long (jl b))] := hl
      have e1 : -b = (b.natAbs : Int) := by omega
      rw [e1] at hl
      exact loop (b.natAbs + 1) a.natAbs b.natAbs ls (by omega) (by omega) (by omega) rfl hl
  refine lv_lload_n hx hb dM_common_0 rfl (lv_at hl 0 rfl) ?_
  refine j_lconst0 hx hb dM_common_1 ?_
  refine j_lc_ge hx hb (by omega) (by omega) dM_common_2 dM_common_3 rfl (fun h1 => ?_) (fun h1 => ?_)
  · refine lv_lload_n hx hb dM_common_11 rfl (lv_at hl 0 rfl) ?_
    refine lv_lstore hx hb dM_common_12 hl (by decide) rfl (fun ls hl => ?_)
    have hl : lv_has ls 10 [(4, .long (jl a)), (0, .long (jl a)), (2, .long (jl b))] := hl
    have e1 : a = (a.natAbs : Int) := by omega
    exact k14 ls (by rw [← e1]; exact hl)
  · refine lv_lload_n hx hb dM_common_6 rfl (lv_at hl 0 rfl) ?_
    refine j_lneg hx hb dM_common_7 ?_
    refine lv_goto hx hb dM_common_8 rfl ?_
    refine lv_lstore hx hb dM_common_12 hl (by decide) rfl (fun ls hl => ?_)
    have hl : lv_has ls 10 [(4, .long (jl (-a))), (0, .long (jl a)), (2, .long (jl b))] := hl
    have e1 : -a = (a.natAbs : Int) := by omega
    rw [e1] at hl
    exact k14 ls hl

set_option maxRecDepth 100000 in
set_option maxHeartbeats 4000000 in
theorem kM_times (l : Launch) (a b : Int) (ha : -9223372036854775807 ≤ a ∧ a ≤ 9223372036854775807) (hb9 : -9223372036854775807 ≤ b ∧ b ≤ 9223372036854775807) (h0 : a ≠ 0) : PM l yM_times wsM_times (rmd 1) [.long (jl a), .long (jl b)] (fun r => r = .long (jl (pr a b))) := by
  refine PM.ofG (by decide +kernel) (Nat.le_of_ble_eq_true rfl) ?_
  intro p_ e_ s_ m_ a_ b_ t_ c_ hx hb hml hr hk hg hown ls hl
  have hl : lv_has ls 6 [(0, .long (jl a)), (2, .long (jl b))] := hl
  have hgp : 0 < Int.gcd a b := Nat.gcd_pos_of_pos_left _ (by omega)
  have hgle : Int.gcd a b ≤ a.natAbs := Nat.gcd_le_left _ (by omega)
  have d1 : (Int.gcd a b : Int) ∣ a := Int.gcd_dvd_left ..
  have d2 : (Int.gcd a b : Int) ∣ b := Int.gcd_dvd_right ..
  refine lv_lload_n hx hb dM_times_0 rfl (lv_at hl 0 rfl) ?_
  refine lv_lload_n hx hb dM_times_1 rfl (lv_at hl 1 rfl) ?_
  refine pm_G (As := [.long (jl a), .long (jl b)]) (rest := []) hx hb hml hown hg hl (kM_common l a b ha hb9) wd546 wd547 wd5 wd548 ⟨rfl, rfl⟩ (n := 2) (by decide +kernel) rfl ⟨by decide, by decide⟩ rfl (Nat.le_of_ble_eq_true rfl) dM_times_2 ⟨Nat.zero_le _, Nat.zero_le _⟩ (fun r hr9 => ?_)
  subst hr9
  refine lv_lstore hx hb dM_times_5 hl (by decide) rfl (fun ls hl => ?_)
  have hl : lv_has ls 6 [(4, .long (jl ((Int.gcd a b:Int)))), (0, .long (jl a)), (2, .long (jl b))] := hl
  refine lv_lload_n hx hb dM_times_7 rfl (lv_at hl 1 rfl) ?_
  refine lv_lload hx hb dM_times_8 (lv_at hl 0 rfl) ?_
  refine j_ldiv hx hb (by omega) (by omega) (by omega) dM_times_10 ?_
  refine lv_lload_n hx hb dM_times_11 rfl (lv_at hl 2 rfl) ?_
  refine lv_lload hx hb dM_times_12 (lv_at hl 0 rfl) ?_
  refine j_ldiv hx hb (by omega) (by omega) (by omega) dM_times_14 ?_
  refine j_lmul hx hb dM_times_15 ?_
  exact pm_lret hx hb hr hk dM_times_16 (by rw [td_e d1, td_e d2]; rfl)

set_option maxRecDepth 100000 in
set_option maxHeartbeats 4000000 in
theorem kM_order (l : Launch) (a p9 : Int) (ha : b64 a) (hp : 1 < p9) (hp2 : p9 ≤ 2147483647) : PM l yM_order wsM_order (rmd 0) [.long (jl a), .long (jl p9)] (fun r => r = .int (ji (oM a p9))) := by
  refine PM.ofG (by decide +kernel) (Nat.le_of_ble_eq_true rfl) ?_
  intro p_ e_ s_ m_ a_ b_ t_ c_ hx hb hml hr hk hg hown ls hl
  have hl : lv_has ls 4 [(0, .long (jl a)), (2, .long (jl p9))] := hl
  refine lv_lload_n hx hb dM_order_0 rfl (lv_at hl 0 rfl) ?_
  refine lv_lload_n hx hb dM_order_1 rfl (lv_at hl 1 rfl) ?_
  refine j_lrem hx hb (by omega) (by omega) (by omega) dM_order_2 ?_
  refine j_lconst0 hx hb dM_order_3 ?_
  refine j_lc_ne hx hb (tm_b64 ha) (by decide) dM_order_4 dM_order_5 rfl (fun h1 => ?_) (fun h1 => ?_)
  · refine j_iconst hx hb dM_order_12 ?_
    exact pm_iret hx hb hr hk dM_order_13 (by rw [oM, if_neg (fun q => h1 (tm_0.mpr q))])
  · refine j_iconst hx hb dM_order_8 ?_
    refine lv_goto hx hb dM_order_9 rfl ?_
    exact pm_iret hx hb hr hk dM_order_13 (by rw [oM, if_pos (tm_0.mp h1)])

set_option maxRecDepth 100000 in
set_option maxHeartbeats 4000000 in
theorem kM_unit (l : Launch) (a p9 : Int) (ha : b64 a) (hp : 1 < p9) (hp2 : p9 ≤ 2147483647) : PM l yM_unit wsM_unit (rmd 0) [.long (jl a), .long (jl p9)] (fun r => r = .long (jl (uM a p9))) := by
  refine PM.ofG (by decide +kernel) (Nat.le_of_ble_eq_true rfl) ?_
  intro p_ e_ s_ m_ a_ b_ t_ c_ hx hb hml hr hk hg hown ls hl
  have hl : lv_has ls 10 [(0, .long (jl a)), (2, .long (jl p9))] := hl
  have k34 : ∀ (v q : Int) (ls : Array Slot), b64 v → b64 q → 1 < q → v % q = uM a p9 → lv_has ls 10 [(6, .long (jl q)), (4, .long (jl v)), (0, .long (jl a)), (2, .long (jl p9))] → W p_ l e_ (rmd 0) s_ m_ a_ b_ t_ c_ s_.heap [] 0 0 (XQ b_ (pmQ (fun r => r = .long (jl (uM a p9)))) a_ s_ 0 0 (fun _ => False)) (F0 m_ 34 ls []) := by
    intro v q ls hv hq h1 hw hl
    refine lv_lload hx hb dM_unit_34 (lv_at hl 1 rfl) ?_
    refine lv_lload hx hb dM_unit_36 (lv_at hl 0 rfl) ?_
    refine j_lrem hx hb (by omega) (by omega) (by omega) dM_unit_38 ?_
    refine lv_lstore hx hb dM_unit_39 hl (by decide) rfl (fun ls hl => ?_)
    have hl : lv_has ls 10 [(8, .long (jl (v.tmod q))), (6, .long (jl q)), (4, .long (jl v)), (0, .long (jl a)), (2, .long (jl p9))] := hl
    refine lv_lload hx hb dM_unit_41 (lv_at hl 0 rfl) ?_
    refine j_lconst0 hx hb dM_unit_43 ?_
    refine j_lc_ge hx hb (tm_b64 (by omega)) (by decide) dM_unit_44 dM_unit_45 rfl (fun h2 => ?_) (fun h2 => ?_)
    · have hv0 : 0 ≤ v ∨ v.tmod q = 0 := by
        rcases Int.lt_or_le v 0 with h3 | h3
        · have := (tm_sgn v q).2 (by omega)
          omega
        · exact Or.inl h3
      have e1 : v.tmod q = v % q := by
        rcases hv0 with h3 | h3
        · exact tm_nn h3
        · rw [h3, mod0_of_tm h3]
      refine lv_lload hx hb dM_unit_56 (lv_at hl 0 rfl) ?_
      exact pm_lret hx hb hr hk dM_unit_58 (by rw [e1, hw])
    · have h3 : v < 0 := by
        rcases Int.lt_or_le v 0 with h3 | h3
        · exact h3
        · have := (tm_sgn v q).1 h3
          omega
      refine lv_lload hx hb dM_unit_48 (lv_at hl 0 rfl) ?_
      refine lv_lload hx hb dM_unit_50 (lv_at hl 1 rfl) ?_
      refine j_ladd hx hb dM_unit_52 ?_
      refine lv_goto hx hb dM_unit_53 rfl ?_
      exact pm_lret hx hb hr hk dM_unit_58 (by rw [fm_neg h3 (by omega) (by omega), hw])
  have k17 : ∀ (v : Int) (ls : Array Slot), b64 v → v = (if p9 ∣ a then a / p9 else a) → lv_has ls 10 [(4, .long (jl v)), (0, .long (jl a)), (2, .long (jl p9))] → W p_ l e_ (rmd 0) s_ m_ a_ b_ t_ c_ s_.heap [] 0 0 (XQ b_ (pmQ (fun r => r = .long (jl (uM a p9)))) a_ s_ 0 0 (fun _ => False)) (F0 m_ 17 ls []) := by
    intro v ls hv hw hl
    refine lv_lload_n hx hb dM_unit_17 rfl (lv_at hl 2 rfl) ?_
    refine j_ldc2 (z := 2) hx hb hown hg wd522 rfl dM_unit_18 ?_
    refine j_lc_ne hx hb (by omega) (by omega) dM_unit_21 dM_unit_22 rfl (fun h1 => ?_) (fun h1 => ?_)
    · refine lv_lload_n hx hb dM_unit_31 rfl (lv_at hl 2 rfl) ?_
      refine lv_lstore hx hb dM_unit_32 hl (by decide) rfl (fun ls hl => ?_)
      have hl : lv_has ls 10 [(6, .long (jl p9)), (4, .long (jl v)), (0, .long (jl a)), (2, .long (jl p9))] := hl
      exact k34 v p9 ls hv (by omega) hp (by rw [uM, ← hw, um, if_neg h1]) hl
    · refine j_ldc2 (z := 8) hx hb hown hg wd568 rfl dM_unit_25 ?_
      refine lv_goto hx hb dM_unit_28 rfl ?_
      refine lv_lstore hx hb dM_unit_32 hl (by decide) rfl (fun ls hl => ?_)
      have hl : lv_has ls 10 [(6, .long (jl 8)), (4, .long (jl v)), (0, .long (jl a)), (2, .long (jl p9))] := hl
      exact k34 v 8 ls hv (by decide) (by decide) (by rw [uM, ← hw, um, if_pos h1]) hl
  refine lv_lload_n hx hb dM_unit_0 rfl (lv_at hl 0 rfl) ?_
  refine lv_lload_n hx hb dM_unit_1 rfl (lv_at hl 1 rfl) ?_
  refine j_lrem hx hb (by omega) (by omega) (by omega) dM_unit_2 ?_
  refine j_lconst0 hx hb dM_unit_3 ?_
  refine j_lc_ne hx hb (tm_b64 ha) (by decide) dM_unit_4 dM_unit_5 rfl (fun h1 => ?_) (fun h1 => ?_)
  · refine lv_lload_n hx hb dM_unit_14 rfl (lv_at hl 0 rfl) ?_
    refine lv_lstore hx hb dM_unit_15 hl (by decide) rfl (fun ls hl => ?_)
    have hl : lv_has ls 10 [(4, .long (jl a)), (0, .long (jl a)), (2, .long (jl p9))] := hl
    exact k17 a ls ha (by rw [if_neg (fun q => h1 (tm_0.mpr q))]) hl
  · refine lv_lload_n hx hb dM_unit_8 rfl (lv_at hl 0 rfl) ?_
    refine lv_lload_n hx hb dM_unit_9 rfl (lv_at hl 1 rfl) ?_
    refine j_ldiv hx hb (by omega) (by omega) (by omega) dM_unit_10 ?_
    refine lv_goto hx hb dM_unit_11 rfl ?_
    refine lv_lstore hx hb dM_unit_15 hl (by decide) rfl (fun ls hl => ?_)
    have hl : lv_has ls 10 [(4, .long (jl (a.tdiv p9))), (0, .long (jl a)), (2, .long (jl p9))] := hl
    have h2 := tm_0.mp h1
    rw [td_e h2] at hl
    exact k17 (a / p9) ls (div_b64 ha hp) (by rw [if_pos h2]) hl

set_option maxRecDepth 100000 in
set_option maxHeartbeats 4000000 in
theorem kM_isRemainder (l : Launch) (u p9 : Nat) (hu : u < p9) (hp : 1 < p9) (hp2 : p9 ≤ 2147483647) : PM l yM_isRemainder wsM_isRemainder (rmd 0) [.long (jl ((u:Int))), .long (jl ((p9:Int)))] (fun r => r = .int (ji (bi (qr u p9)))) := by
  refine PM.ofG (by decide +kernel) (Nat.le_of_ble_eq_true rfl) ?_
  intro p_ e_ s_ m_ a_ b_ t_ c_ hx hb hml hr hk hg hown ls hl
  have hl : lv_has ls 10 [(0, .long (jl ((u:Int)))), (2, .long (jl ((p9:Int))))] := hl
  have loop : ∀ (N e w x : Nat) (ls : Array Slot), e < N → e < 4611686018427387904 → w < p9 → x < p9 → w * x ^ e % p9 = u ^ ((p9 - 1) / 2) % p9 → lv_has ls 10 [(8, .long (jl ((e:Int)))), (6, .long (jl ((w:Int)))), (4, .long (jl ((x:Int)))), (0, .long (jl ((u:Int)))), (2, .long (jl ((p9:Int))))] → W p_ l e_ (rmd 0) s_ m_ a_ b_ t_ c_ s_.heap [] 0 0 (XQ b_ (pmQ (fun r => r = .int (ji (bi (qr u p9))))) a_ s_ 0 0 (fun _ => False)) (F0 m_ 17 ls []) := by
    intro N
    induction N with
    | zero => intro e w x ls hm; omega
    | succ N ih =>
      intro e w x ls hm he hw hx0 hq hl
      have hxx : x * x < 4611686018427387904 := by
        have : x * x ≤ 2147483647 * 2147483647 := Nat.mul_le_mul (by omega) (by omega)
        omega
      have hwx : w * x < 4611686018427387904 := by
        have : w * x ≤ 2147483647 * 2147483647 := Nat.mul_le_mul (by omega) (by omega)
        omega
      have hxx' : (x : Int) * (x : Int) = ((x * x : Nat) : Int) := (Int.natCast_mul x x).symm
      have hwx' : (w : Int) * (x : Int) = ((w * x : Nat) : Int) := (Int.natCast_mul w x).symm
      have e4 : ((x : Int) * (x : Int)).tmod (p9 : Int) = ((x * x % p9 : Nat) : Int) := by rw [← Int.natCast_mul, tm_nat]
      have e5 : ((w : Int) * (x : Int)).tmod (p9 : Int) = ((w * x % p9 : Nat) : Int) := by rw [← Int.natCast_mul, tm_nat]
      have l1 := Nat.mod_lt (x * x) (show 0 < p9 by omega)
      have l2 := Nat.mod_lt (w * x) (show 0 < p9 by omega)
      refine lv_lload hx hb dM_isRemainder_17 (lv_at hl 0 rfl) ?_
      refine j_lconst0 hx hb dM_isRemainder_19 ?_
      refine j_lc_le hx hb (by omega) (by omega) dM_isRemainder_20 dM_isRemainder_21 rfl (fun h1 => ?_) (fun h1 => ?_)
      · have he0 : e = 0 := by omega
        subst he0
        rw [Nat.pow_zero, Nat.mul_one, Nat.mod_eq_of_lt hw] at hq
        refine lv_lload hx hb dM_isRemainder_65 (lv_at hl 1 rfl) ?_
        refine j_lconst1 hx hb dM_isRemainder_67 ?_
        refine j_lc_ne hx hb (by omega) (by omega) dM_isRemainder_68 dM_isRemainder_69 rfl (fun h2 => ?_) (fun h2 => ?_)
        · have hqq : ¬ qr u p9 := fun q => h2 (by rw [qr, ← hq] at q; omega)
          refine j_iconst hx hb dM_isRemainder_76 ?_
          exact pm_zret hx hb hr hk dM_isRemainder_77 nar_0 (by rw [bi_f hqq])
        · have hqq : qr u p9 := by rw [qr, ← hq]; omega
          refine j_iconst hx hb dM_isRemainder_72 ?_
          refine lv_goto hx hb dM_isRemainder_73 rfl ?_
          exact pm_zret hx hb hr hk dM_isRemainder_77 nar_1 (by rw [bi_t hqq])
      · refine lv_lload hx hb dM_isRemainder_24 (lv_at hl 0 rfl) ?_
        refine j_lconst1 hx hb dM_isRemainder_26 ?_
        refine j_land1 hx hb dM_isRemainder_27 ?_
        refine j_lconst1 hx hb dM_isRemainder_28 ?_
        refine j_lc_ne hx hb (by omega) (by decide) dM_isRemainder_29 dM_isRemainder_30 rfl (fun h2 => ?_) (fun h2 => ?_)
        · have h3 := pw_step0 hq (by omega)
          refine lv_lload hx hb dM_isRemainder_43 (lv_at hl 1 rfl) ?_
          refine lv_lstore hx hb dM_isRemainder_45 hl (by decide) rfl (fun ls hl => ?_)
          have hl : lv_has ls 10 [(6, .long (jl ((w:Int)))), (8, .long (jl ((e:Int)))), (4, .long (jl ((x:Int)))), (0, .long (jl ((u:Int)))), (2, .long (jl ((p9:Int))))] := hl
          refine lv_lload hx hb dM_isRemainder_47 (lv_at hl 2 rfl) ?_
          refine lv_lload hx hb dM_isRemainder_49 (lv_at hl 2 rfl) ?_
          refine j_lmul hx hb dM_isRemainder_51 ?_
          refine lv_lload_n hx hb dM_isRemainder_52 rfl (lv_at hl 4 rfl) ?_
          refine j_lrem hx hb (by omega) (by omega) (by omega) dM_isRemainder_53 ?_
          refine lv_lstore hx hb dM_isRemainder_54 hl (by decide) rfl (fun ls hl => ?_)
          have hl : lv_has ls 10 [(4, .long (jl ((((x:Int)) * ((x:Int))).tmod ((p9:Int))))), (6, .long (jl ((w:Int)))), (8, .long (jl ((e:Int)))), (0, .long (jl ((u:Int)))), (2, .long (jl ((p9:Int))))] := hl
          refine lv_lload hx hb dM_isRemainder_56 (lv_at hl 2 rfl) ?_
          refine j_iconst hx hb dM_isRemainder_58 ?_
          refine j_lshr1 hx hb he dM_isRemainder_59 ?_
          refine lv_lstore hx hb dM_isRemainder_60 hl (by decide) rfl (fun ls hl => ?_)
          have hl : lv_has ls 10 [(8, .long (jl (((e/2:Nat):Int)))), (4, .long (jl ((((x:Int)) * ((x:Int))).tmod ((p9:Int))))), (6, .long (jl ((w:Int)))), (0, .long (jl ((u:Int)))), (2, .long (jl ((p9:Int))))] := hl
          refine lv_goto hx hb dM_isRemainder_62 rfl ?_
          rw [e4] at hl
          exact ih (e / 2) w (x * x % p9) ls (by omega) (by omega) hw l1 h3 (lv_sub hl [0, 2, 1, 3, 4] rfl)
        · have h3 := pw_step1 hq (by omega)
          refine lv_lload hx hb dM_isRemainder_33 (lv_at hl 1 rfl) ?_
          refine lv_lload hx hb dM_isRemainder_35 (lv_at hl 2 rfl) ?_
          refine j_lmul hx hb dM_isRemainder_37 ?_
          refine lv_lload_n hx hb dM_isRemainder_38 rfl (lv_at hl 4 rfl) ?_
          refine j_lrem hx hb (by omega) (by omega) (by omega) dM_isRemainder_39 ?_
          refine lv_goto hx hb dM_isRemainder_40 rfl ?_
          refine lv_lstore hx hb dM_isRemainder_45 hl (by decide) rfl (fun ls hl => ?_)
          have hl : lv_has ls 10 [(6, .long (jl ((((w:Int)) * ((x:Int))).tmod ((p9:Int))))), (8, .long (jl ((e:Int)))), (4, .long (jl ((x:Int)))), (0, .long (jl ((u:Int)))), (2, .long (jl ((p9:Int))))] := hl
          refine lv_lload hx hb dM_isRemainder_47 (lv_at hl 2 rfl) ?_
          refine lv_lload hx hb dM_isRemainder_49 (lv_at hl 2 rfl) ?_
          refine j_lmul hx hb dM_isRemainder_51 ?_
          refine lv_lload_n hx hb dM_isRemainder_52 rfl (lv_at hl 4 rfl) ?_
          refine j_lrem hx hb (by omega) (by omega) (by omega) dM_isRemainder_53 ?_
          refine lv_lstore hx hb dM_isRemainder_54 hl (by decide) rfl (fun ls hl => ?_)
          have hl : lv_has ls 10 [(4, .long (jl ((((x:Int)) * ((x:Int))).tmod ((p9:Int))))), (6, .long (jl ((((w:Int)) * ((x:Int))).tmod ((p9:Int))))), (8, .long (jl ((e:Int)))), (0, .long (jl ((u:Int)))), (2, .long (jl ((p9:Int))))] := hl
          refine lv_lload hx hb dM_isRemainder_56 (lv_at hl 2 rfl) ?_
          refine j_iconst hx hb dM_isRemainder_58 ?_
          refine j_lshr1 hx hb he dM_isRemainder_59 ?_
          refine lv_lstore hx hb dM_isRemainder_60 hl (by decide) rfl (fun ls hl => ?_)
          have hl : lv_has ls 10 [(8, .long (jl (((e/2:Nat):Int)))), (4, .long (jl ((((x:Int)) * ((x:Int))).tmod ((p9:Int))))), (6, .long (jl ((((w:Int)) * ((x:Int))).tmod ((p9:Int))))), (0, .long (jl ((u:Int)))), (2, .long (jl ((p9:Int))))] := hl
          refine lv_goto hx hb dM_isRemainder_62 rfl ?_
          rw [e4, e5] at hl
          exact ih (e / 2) (w * x % p9) (x * x % p9) ls (by omega) (by omega) l2 l1 h3 (lv_sub hl [0, 2, 1, 3, 4] rfl)
  have e1 : ((p9 : Int) - 1).tdiv 2 = (((p9 - 1) / 2 : Nat) : Int) := by rw [show (p9 : Int) - 1 = ((p9 - 1 : Nat) : Int) by omega]; exact td_nat (p9 - 1) 2
  refine lv_lload_n hx hb dM_isRemainder_0 rfl (lv_at hl 0 rfl) ?_
  refine lv_lload_n hx hb dM_isRemainder_1 rfl (lv_at hl 1 rfl) ?_
  refine j_lrem hx hb (by omega) (by omega) (by omega) dM_isRemainder_2 ?_
  refine lv_lstore hx hb dM_isRemainder_3 hl (by decide) rfl (fun ls hl => ?_)
  have hl : lv_has ls 10 [(4, .long (jl (((u:Int)).tmod ((p9:Int))))), (0, .long (jl ((u:Int)))), (2, .long (jl ((p9:Int))))] := hl
  refine j_lconst1 hx hb dM_isRemainder_5 ?_
  refine lv_lstore hx hb dM_isRemainder_6 hl (by decide) rfl (fun ls hl => ?_)
  have hl : lv_has ls 10 [(6, .long (jl 1)), (4, .long (jl (((u:Int)).tmod ((p9:Int))))), (0, .long (jl ((u:Int)))), (2, .long (jl ((p9:Int))))] := hl
  refine lv_lload_n hx hb dM_isRemainder_8 rfl (lv_at hl 3 rfl) ?_
  refine j_lconst1 hx hb dM_isRemainder_9 ?_
  refine j_lsub hx hb dM_isRemainder_10 ?_
  refine j_ldc2 (z := 2) hx hb hown hg wd522 rfl dM_isRemainder_11 ?_
  refine j_ldiv hx hb (by omega) (by omega) (by omega) dM_isRemainder_14 ?_
  refine lv_lstore hx hb dM_isRemainder_15 hl (by decide) rfl (fun ls hl => ?_)
  have hl : lv_has ls 10 [(8, .long (jl ((((p9:Int)) - 1).tdiv 2))), (6, .long (jl 1)), (4, .long (jl (((u:Int)).tmod ((p9:Int))))), (0, .long (jl ((u:Int)))), (2, .long (jl ((p9:Int))))] := hl
  rw [e1, tm_nat, Nat.mod_eq_of_lt hu] at hl
  exact loop ((p9 - 1) / 2 + 1) ((p9 - 1) / 2) 1 u ls (by omega) (by omega) hp hu (by rw [Nat.one_mul]) hl

set_option maxRecDepth 100000 in
set_option maxHeartbeats 4000000 in
theorem kM_classOf (l : Launch) (a : Int) (ha : -4611686018427387904 ≤ a ∧ a ≤ 4611686018427387904) (h0 : a ≠ 0) : PM l yM_classOf wsM_classOf (rmd 0) [.long (jl a)] (fun r => r = .long (jl (sf a))) := by
  refine PM.ofG (by decide +kernel) (Nat.le_of_ble_eq_true rfl) ?_
  intro p_ e_ s_ m_ a_ b_ t_ c_ hx hb hml hr hk hg hown ls hl
  have hl : lv_has ls 9 [(0, .long (jl a))] := hl
  have outer : ∀ (N C L P : Nat) (z : Int) (ls : Array Slot), 2147483650 - P < N → P ≤ 2147483649 → 2 ≤ P → L ≤ 4611686018427387904 → ci a.natAbs C L P → z = (if a < 0 then -(C : Int) else (C : Int)) → lv_has ls 9 [(6, .long (jl ((P:Int)))), (4, .long (jl z)), (2, .long (jl ((L:Int)))), (0, .long (jl a))] → W p_ l e_ (rmd 0) s_ m_ a_ b_ t_ c_ s_.heap [] 0 0 (XQ b_ (pmQ (fun r => r = .long (jl (sf a)))) a_ s_ 0 0 (fun _ => False)) (F0 m_ 33 ls []) := by
    intro N
    induction N with
    | zero => intro C L P z ls hm h2; omega
    | succ N ih =>
      intro C L P z ls hm h2 h3 hL hc hz hl
      have inner : ∀ (K k L' : Nat) (ls : Array Slot), L' < K → 0 < L' → L' ≤ L → L = L' * P ^ k → P * P ≤ L → lv_has ls 9 [(8, .int (ji (((k%2:Nat):Int)))), (6, .long (jl ((P:Int)))), (4, .long (jl z)), (2, .long (jl ((L':Int)))), (0, .long (jl a))] → W p_ l e_ (rmd 0) s_ m_ a_ b_ t_ c_ s_.heap [] 0 0 (XQ b_ (pmQ (fun r => r = .long (jl (sf a)))) a_ s_ 0 0 (fun _ => False)) (F0 m_ 46 ls []) := by
        intro K
        induction K with
        | zero => intro k L' ls hm; omega
        | succ K ihK =>
          intro k L' ls hm1 hpos hle hk1 hPP hl
          refine lv_lload_n hx hb dM_classOf_46 rfl (lv_at hl 3 rfl) ?_
          refine lv_lload hx hb dM_classOf_47 (lv_at hl 1 rfl) ?_
          refine j_lrem hx hb (by omega) (by omega) (by omega) dM_classOf_49 ?_
          refine j_lconst0 hx hb dM_classOf_50 ?_
          refine j_lc_ne hx hb (tm_b64 (by omega)) (by decide) dM_classOf_51 dM_classOf_52 rfl (fun h5 => ?_) (fun h5 => ?_)
          · have hn : ¬ P ∣ L' := fun q => h5 (by rw [tm_nat]; exact_mod_cast Nat.mod_eq_zero_of_dvd q)
            have hc2 := ci_step hc h3 hk1 hn
            have hPm : P + 1 ≤ 2147483649 := by
              rcases Nat.lt_or_ge P 2147483649 with h9 | h9
              · omega
              · have : 2147483649 * 2147483649 ≤ P * P := Nat.mul_le_mul h9 h9
                omega
            refine lv_iload hx hb dM_classOf_75 (lv_at hl 0 rfl) ?_
            refine j_if_eq hx hb (by omega) dM_classOf_77 rfl (fun h6 => ?_) (fun h6 => ?_)
            · have h7 : ¬ k % 2 = 1 := by omega
              rw [if_neg h7] at hc2
              refine lv_lload hx hb dM_classOf_88 (lv_at hl 2 rfl) ?_
              refine lv_lstore hx hb dM_classOf_90 hl (by decide) rfl (fun ls hl => ?_)
              have hl : lv_has ls 9 [(4, .long (jl z)), (8, .int (ji (((k%2:Nat):Int)))), (6, .long (jl ((P:Int)))), (2, .long (jl ((L':Int)))), (0, .long (jl a))] := hl
              refine lv_lload hx hb dM_classOf_92 (lv_at hl 2 rfl) ?_
              refine j_lconst1 hx hb dM_classOf_94 ?_
              refine j_ladd hx hb dM_classOf_95 ?_
              refine lv_lstore hx hb dM_classOf_96 hl (by decide) rfl (fun ls hl => ?_)
              have hl : lv_has ls 9 [(6, .long (jl (((P:Int)) + 1))), (4, .long (jl z)), (8, .int (ji (((k%2:Nat):Int)))), (2, .long (jl ((L':Int)))), (0, .long (jl a))] := hl
              refine lv_goto hx hb dM_classOf_98 rfl ?_
              exact ih C L' (P + 1) z ls (by omega) hPm (by omega) (by omega) hc2 hz (lv_sub hl [0, 1, 3, 4] rfl)
            · have h7 : k % 2 = 1 := by omega
              rw [if_pos h7] at hc2
              refine lv_lload hx hb dM_classOf_80 (lv_at hl 2 rfl) ?_
              refine lv_lload hx hb dM_classOf_82 (lv_at hl 1 rfl) ?_
              refine j_lmul hx hb dM_classOf_84 ?_
              refine lv_goto hx hb dM_classOf_85 rfl ?_
              refine lv_lstore hx hb dM_classOf_90 hl (by decide) rfl (fun ls hl => ?_)
              have hl : lv_has ls 9 [(4, .long (jl (z * ((P:Int))))), (8, .int (ji (((k%2:Nat):Int)))), (6, .long (jl ((P:Int)))), (2, .long (jl ((L':Int)))), (0, .long (jl a))] := hl
              refine lv_lload hx hb dM_classOf_92 (lv_at hl 2 rfl) ?_
              refine j_lconst1 hx hb dM_classOf_94 ?_
              refine j_ladd hx hb dM_classOf_95 ?_
              refine lv_lstore hx hb dM_classOf_96 hl (by decide) rfl (fun ls hl => ?_)
              have hl : lv_has ls 9 [(6, .long (jl (((P:Int)) + 1))), (4, .long (jl (z * ((P:Int))))), (8, .int (ji (((k%2:Nat):Int)))), (2, .long (jl ((L':Int)))), (0, .long (jl a))] := hl
              refine lv_goto hx hb dM_classOf_98 rfl ?_
              refine ih (C * P) L' (P + 1) (z * (P : Int)) ls (by omega) hPm (by omega) (by omega) hc2 ?_ (lv_sub hl [0, 1, 3, 4] rfl)
              rw [hz]
              by_cases h8 : a < 0
              · rw [if_pos h8, if_pos h8, Int.neg_mul, Int.natCast_mul]
              · rw [if_neg h8, if_neg h8, Int.natCast_mul]
          · have hn : P ∣ L' := Nat.dvd_of_mod_eq_zero (by rw [tm_nat] at h5; omega)
            have hlt : L' / P < L' := Nat.div_lt_self hpos (by omega)
            have hpos2 : 0 < L' / P := Nat.div_pos (Nat.le_of_dvd hpos hn) (by omega)
            have e1 : L = L' / P * P ^ (k + 1) := by rw [Nat.pow_succ, Nat.mul_comm (P ^ k) P, ← Nat.mul_assoc, Nat.div_mul_cancel hn]; exact hk1
            refine lv_lload_n hx hb dM_classOf_55 rfl (lv_at hl 3 rfl) ?_
            refine lv_lload hx hb dM_classOf_56 (lv_at hl 1 rfl) ?_
            refine j_ldiv hx hb (by omega) (by omega) (by omega) dM_classOf_58 ?_
            refine lv_lstore_n hx hb dM_classOf_59 rfl hl (by decide) rfl (fun ls hl => ?_)
            have hl : lv_has ls 9 [(2, .long (jl (((L':Int)).tdiv ((P:Int))))), (8, .int (ji (((k%2:Nat):Int)))), (6, .long (jl ((P:Int)))), (4, .long (jl z)), (0, .long (jl a))] := hl
            rw [td_nat] at hl
            refine lv_iload hx hb dM_classOf_60 (lv_at hl 1 rfl) ?_
            refine j_if_ne hx hb (by omega) dM_classOf_62 rfl (fun h6 => ?_) (fun h6 => ?_)
            · have e2 : (k + 1) % 2 = 0 := by omega
              refine j_iconst hx hb dM_classOf_69 ?_
              refine lv_istore hx hb dM_classOf_70 hl (by decide) rfl (fun ls hl => ?_)
              have hl : lv_has ls 9 [(8, .int (ji 0)), (2, .long (jl (((L'/P:Nat):Int)))), (6, .long (jl ((P:Int)))), (4, .long (jl z)), (0, .long (jl a))] := hl
              refine lv_goto hx hb dM_classOf_72 rfl ?_
              exact ihK (k + 1) (L' / P) ls (by omega) hpos2 (by omega) e1 hPP (by rw [e2]; exact lv_sub hl [0, 2, 3, 1, 4] rfl)
            · have e2 : (k + 1) % 2 = 1 := by omega
              refine j_iconst hx hb dM_classOf_65 ?_
              refine lv_goto hx hb dM_classOf_66 rfl ?_
              refine lv_istore hx hb dM_classOf_70 hl (by decide) rfl (fun ls hl => ?_)
              have hl : lv_has ls 9 [(8, .int (ji 1)), (2, .long (jl (((L'/P:Nat):Int)))), (6, .long (jl ((P:Int)))), (4, .long (jl z)), (0, .long (jl a))] := hl
              refine lv_goto hx hb dM_classOf_72 rfl ?_
              exact ihK (k + 1) (L' / P) ls (by omega) hpos2 (by omega) e1 hPP (by rw [e2]; exact lv_sub hl [0, 2, 3, 1, 4] rfl)
      have hPP : ((P * P : Nat) : Int) = (P : Int) * (P : Int) := Int.natCast_mul P P
      refine lv_lload hx hb dM_classOf_33 (lv_at hl 0 rfl) ?_
      refine lv_lload hx hb dM_classOf_35 (lv_at hl 0 rfl) ?_
      refine j_lmul hx hb dM_classOf_37 ?_
      refine lv_lload_n hx hb dM_classOf_38 rfl (lv_at hl 2 rfl) ?_
      refine j_lc_gt hx hb (sq_b64 (by omega) (by omega)) (by omega) dM_classOf_39 dM_classOf_40 rfl (fun h5 => ?_) (fun h5 => ?_)
      · have hs := ci_end hc (by omega)
        have hI : sfI a (z * (L : Int)) := by
          have hCL : 0 < C * L := Nat.mul_pos hc.2.1 hc.1
          have hCL' : ((C * L : Nat) : Int) = (C : Int) * (L : Int) := Int.natCast_mul C L
          by_cases h8 : a < 0
          · rw [hz, if_pos h8, Int.neg_mul, ← hCL']
            refine ⟨?_, by omega, by omega⟩
            rw [Int.natAbs_neg, Int.natAbs_natCast]; exact hs
          · rw [hz, if_neg h8, ← hCL']
            refine ⟨?_, by omega, by omega⟩
            rw [Int.natAbs_natCast]; exact hs
        refine lv_lload hx hb dM_classOf_101 (lv_at hl 1 rfl) ?_
        refine lv_lload_n hx hb dM_classOf_103 rfl (lv_at hl 2 rfl) ?_
        refine j_lmul hx hb dM_classOf_104 ?_
        exact pm_lret hx hb hr hk dM_classOf_105 (by rw [sf_eq hI])
      · refine j_iconst hx hb dM_classOf_43 ?_
        refine lv_istore hx hb dM_classOf_44 hl (by decide) rfl (fun ls hl => ?_)
        have hl : lv_has ls 9 [(8, .int (ji 0)), (6, .long (jl ((P:Int)))), (4, .long (jl z)), (2, .long (jl ((L:Int)))), (0, .long (jl a))] := hl
        exact inner (L + 1) 0 L ls (by omega) hc.1 (by omega) (by simp) (by omega) hl
  have k13 : ∀ (ls : Array Slot), lv_has ls 9 [(2, .long (jl ((a.natAbs:Int)))), (0, .long (jl a))] → W p_ l e_ (rmd 0) s_ m_ a_ b_ t_ c_ s_.heap [] 0 0 (XQ b_ (pmQ (fun r => r = .long (jl (sf a)))) a_ s_ 0 0 (fun _ => False)) (F0 m_ 13 ls []) := by
    intro ls hl
    refine lv_lload_n hx hb dM_classOf_13 rfl (lv_at hl 1 rfl) ?_
    refine j_lconst0 hx hb dM_classOf_14 ?_
    refine j_lc_ge hx hb (by omega) (by omega) dM_classOf_15 dM_classOf_16 rfl (fun h1 => ?_) (fun h1 => ?_)
    · refine j_lconst1 hx hb dM_classOf_25 ?_
      refine lv_lstore hx hb dM_classOf_26 hl (by decide) rfl (fun ls hl => ?_)
      have hl : lv_has ls 9 [(4, .long (jl 1)), (2, .long (jl ((a.natAbs:Int)))), (0, .long (jl a))] := hl
      refine j_ldc2 (z := 2) hx hb hown hg wd522 rfl dM_classOf_28 ?_
      refine lv_lstore hx hb dM_classOf_31 hl (by decide) rfl (fun ls hl => ?_)
      have hl : lv_has ls 9 [(6, .long (jl 2)), (4, .long (jl 1)), (2, .long (jl ((a.natAbs:Int)))), (0, .long (jl a))] := hl
      exact outer 2147483649 1 a.natAbs 2 1 ls (by omega) (by omega) (by omega) (by omega) (ci_0 (by omega)) (by rw [if_neg (by omega)]; rfl) hl
    · refine j_ldc2 (z := -1) hx hb hown hg wd538 rfl dM_classOf_19 ?_
      refine lv_goto hx hb dM_classOf_22 rfl ?_
      refine lv_lstore hx hb dM_classOf_26 hl (by decide) rfl (fun ls hl => ?_)
      have hl : lv_has ls 9 [(4, .long (jl (-1))), (2, .long (jl ((a.natAbs:Int)))), (0, .long (jl a))] := hl
      refine j_ldc2 (z := 2) hx hb hown hg wd522 rfl dM_classOf_28 ?_
      refine lv_lstore hx hb dM_classOf_31 hl (by decide) rfl (fun ls hl => ?_)
      have hl : lv_has ls 9 [(6, .long (jl 2)), (4, .long (jl (-1))), (2, .long (jl ((a.natAbs:Int)))), (0, .long (jl a))] := hl
      exact outer 2147483649 1 a.natAbs 2 (-1) ls (by omega) (by omega) (by omega) (by omega) (ci_0 (by omega)) (by rw [if_pos (by omega)]; rfl) hl
  refine lv_lload_n hx hb dM_classOf_0 rfl (lv_at hl 0 rfl) ?_
  refine j_lconst0 hx hb dM_classOf_1 ?_
  refine j_lc_ge hx hb (by omega) (by omega) dM_classOf_2 dM_classOf_3 rfl (fun h1 => ?_) (fun h1 => ?_)
  · refine lv_lload_n hx hb dM_classOf_11 rfl (lv_at hl 0 rfl) ?_
    refine lv_lstore_n hx hb dM_classOf_12 rfl hl (by decide) rfl (fun ls hl => ?_)
    have hl : lv_has ls 9 [(2, .long (jl a)), (0, .long (jl a))] := hl
    have e1 : a = (a.natAbs : Int) := by omega
    exact k13 ls (by rw [← e1]; exact hl)
  · refine lv_lload_n hx hb dM_classOf_6 rfl (lv_at hl 0 rfl) ?_
    refine j_lneg hx hb dM_classOf_7 ?_
    refine lv_goto hx hb dM_classOf_8 rfl ?_
    refine lv_lstore_n hx hb dM_classOf_12 rfl hl (by decide) rfl (fun ls hl => ?_)
    have hl : lv_has ls 9 [(2, .long (jl (-a))), (0, .long (jl a))] := hl
    have e1 : -a = (a.natAbs : Int) := by omega
    rw [e1] at hl
    exact k13 ls hl

set_option maxRecDepth 100000 in
set_option maxHeartbeats 4000000 in
theorem kM_isSquare (l : Launch) (a p9 : Int) (ha : b64 a) (hp : p9 = 0 ∨ (1 < p9 ∧ p9 ≤ 2147483647)) : PM l yM_isSquare wsM_isSquare (rmd 1) [.long (jl a), .long (jl p9)] (fun r => r = .int (ji (bi (sqM a p9)))) := by
  refine PM.ofG (by decide +kernel) (Nat.le_of_ble_eq_true rfl) ?_
  intro p_ e_ s_ m_ a_ b_ t_ c_ hx hb hml hr hk hg hown ls hl
  have hl : lv_has ls 4 [(0, .long (jl a)), (2, .long (jl p9))] := hl
  have hsq : sqM a p9 = (if p9 = 0 then 0 < a else ¬ p9 ∣ a ∧ (if p9 = 2 then uM a p9 = 1 else qr (uM a p9).toNat p9.toNat)) := rfl
  refine lv_lload_n hx hb dM_isSquare_0 rfl (lv_at hl 1 rfl) ?_
  refine j_lconst0 hx hb dM_isSquare_1 ?_
  refine j_lc_ne hx hb (by omega) (by omega) dM_isSquare_2 dM_isSquare_3 rfl (fun h1 => ?_) (fun h1 => ?_)
  · rw [if_neg h1] at hsq
    refine lv_lload_n hx hb dM_isSquare_18 rfl (lv_at hl 0 rfl) ?_
    refine lv_lload_n hx hb dM_isSquare_19 rfl (lv_at hl 1 rfl) ?_
    refine pm_G (As := [.long (jl a), .long (jl p9)]) (rest := []) hx hb hml hown hg hl (kM_order l a p9 ha (by omega) (by omega)) wd562 wd563 wd5 wd564 ⟨rfl, rfl⟩ (n := 2) (by decide +kernel) rfl ⟨by decide, by decide⟩ rfl (Nat.le_of_ble_eq_true rfl) dM_isSquare_20 ⟨Nat.zero_le _, Nat.zero_le _⟩ (fun r hr9 => ?_)
    subst hr9
    have hun := uM_lt (a := a) (p := p9) (by omega)
    refine j_iconst hx hb dM_isSquare_23 ?_
    refine j_icmp_ne hx hb (by have := oM_bd a p9; omega) (by decide) dM_isSquare_24 rfl (fun h2 => ?_) (fun h2 => ?_)
    · have h3 : ¬ p9 ∣ a := fun q => h2 (if_pos q)
      refine lv_lload_n hx hb dM_isSquare_29 rfl (lv_at hl 1 rfl) ?_
      refine j_ldc2 (z := 2) hx hb hown hg wd522 rfl dM_isSquare_30 ?_
      refine j_lc_ne hx hb (by omega) (by omega) dM_isSquare_33 dM_isSquare_34 rfl (fun h4 => ?_) (fun h4 => ?_)
      · rw [if_neg h4] at hsq
        have hum : um p9 = p9 := if_neg h4
        obtain ⟨U, hU⟩ := Int.eq_ofNat_of_zero_le hun.1
        obtain ⟨P, rfl⟩ := Int.eq_ofNat_of_zero_le (show 0 ≤ p9 by omega)
        rw [hU] at hsq hun
        refine lv_lload_n hx hb dM_isSquare_55 rfl (lv_at hl 0 rfl) ?_
        refine lv_lload_n hx hb dM_isSquare_56 rfl (lv_at hl 1 rfl) ?_
        refine pm_G (As := [.long (jl a), .long (jl ((P:Int)))]) (rest := []) hx hb hml hown hg hl (kM_unit l a P ha (by omega) (by omega)) wd565 wd566 wd5 wd567 ⟨rfl, rfl⟩ (n := 2) (by decide +kernel) rfl ⟨by decide, by decide⟩ rfl (Nat.le_of_ble_eq_true rfl) dM_isSquare_57 ⟨Nat.zero_le _, Nat.zero_le _⟩ (fun r hr9 => ?_)
        subst hr9
        rw [hU]
        refine lv_lload_n hx hb dM_isSquare_60 rfl (lv_at hl 1 rfl) ?_
        refine pm_G (As := [.long (jl ((U:Int))), .long (jl ((P:Int)))]) (rest := []) hx hb hml hown hg hl (kM_isRemainder l U P (by omega) (by omega) (by omega)) wd569 wd570 wd5 wd571 ⟨rfl, rfl⟩ (n := 2) (by decide +kernel) rfl ⟨by decide, by decide⟩ rfl (Nat.le_of_ble_eq_true rfl) dM_isSquare_61 ⟨Nat.zero_le _, Nat.zero_le _⟩ (fun r hr9 => ?_)
        subst hr9
        have he : sqM a (P : Int) ↔ qr U P := by rw [hsq]; exact ⟨fun q => q.2, fun q => ⟨h3, q⟩⟩
        exact pm_zret hx hb hr hk dM_isSquare_64 (nar_bi _) (by rw [bi_iff he])
      · rw [if_pos h4] at hsq
        have h8 : um p9 = 8 := if_pos h4
        refine lv_lload_n hx hb dM_isSquare_37 rfl (lv_at hl 0 rfl) ?_
        refine lv_lload_n hx hb dM_isSquare_38 rfl (lv_at hl 1 rfl) ?_
        refine pm_G (As := [.long (jl a), .long (jl p9)]) (rest := []) hx hb hml hown hg hl (kM_unit l a p9 ha (by omega) (by omega)) wd565 wd566 wd5 wd567 ⟨rfl, rfl⟩ (n := 2) (by decide +kernel) rfl ⟨by decide, by decide⟩ rfl (Nat.le_of_ble_eq_true rfl) dM_isSquare_39 ⟨Nat.zero_le _, Nat.zero_le _⟩ (fun r hr9 => ?_)
        subst hr9
        refine j_lconst1 hx hb dM_isSquare_42 ?_
        refine j_lc_ne hx hb (by omega) (by decide) dM_isSquare_43 dM_isSquare_44 rfl (fun h5 => ?_) (fun h5 => ?_)
        · refine j_iconst hx hb dM_isSquare_51 ?_
          refine lv_goto hx hb dM_isSquare_52 rfl ?_
          exact pm_zret hx hb hr hk dM_isSquare_64 nar_0 (by rw [bi_f (fun q => h5 (by rw [hsq] at q; exact q.2))])
        · refine j_iconst hx hb dM_isSquare_47 ?_
          refine lv_goto hx hb dM_isSquare_48 rfl ?_
          exact pm_zret hx hb hr hk dM_isSquare_64 nar_1 (by rw [bi_t (by rw [hsq]; exact ⟨h3, h5⟩)])
    · have h3 : p9 ∣ a := Classical.byContradiction fun q => by rw [oM, if_neg q] at h2; omega
      refine j_iconst hx hb dM_isSquare_27 ?_
      exact pm_zret hx hb hr hk dM_isSquare_28 nar_0 (by rw [bi_f (fun q => by rw [hsq] at q; exact q.1 h3)])
  · rw [if_pos h1] at hsq
    refine lv_lload_n hx hb dM_isSquare_6 rfl (lv_at hl 0 rfl) ?_
    refine j_lconst0 hx hb dM_isSquare_7 ?_
    refine j_lc_le hx hb (by omega) (by omega) dM_isSquare_8 dM_isSquare_9 rfl (fun h2 => ?_) (fun h2 => ?_)
    · refine j_iconst hx hb dM_isSquare_16 ?_
      exact pm_zret hx hb hr hk dM_isSquare_17 nar_0 (by rw [bi_f (fun q => by rw [hsq] at q; omega)])
    · refine j_iconst hx hb dM_isSquare_12 ?_
      refine lv_goto hx hb dM_isSquare_13 rfl ?_
      exact pm_zret hx hb hr hk dM_isSquare_17 nar_1 (by rw [bi_t (by rw [hsq]; omega)])

set_option maxRecDepth 100000 in
set_option maxHeartbeats 4000000 in
theorem kM_symbolOf (l : Launch) (a b p9 : Int) (ha : b64 a) (hb9 : b64 b) (hp : p9 = 0 ∨ (1 < p9 ∧ p9 ≤ 2147483647)) (h4a : ¬ (4 : Int) ∣ a) (h4b : ¬ (4 : Int) ∣ b) : PM l yM_symbolOf wsM_symbolOf (rmd 1) [.long (jl a), .long (jl b), .long (jl p9)] (fun r => r = .int (ji (syM a b p9))) := by
  refine PM.ofG (by decide +kernel) (Nat.le_of_ble_eq_true rfl) ?_
  intro p_ e_ s_ m_ a_ b_ t_ c_ hx hb hml hr hk hg hown ls hl
  have hl : lv_has ls 14 [(0, .long (jl a)), (2, .long (jl b)), (4, .long (jl p9))] := hl
  have hsy : syM a b p9 = if p9 = 0 then (if a < 0 ∧ b < 0 then -1 else 1) else sF (oM a p9) (oM b p9) (uM a p9) (uM b p9) p9 := rfl
  refine lv_lload hx hb dM_symbolOf_0 (lv_at hl 2 rfl) ?_
  refine j_lconst0 hx hb dM_symbolOf_2 ?_
  refine j_lc_ne hx hb (by omega) (by omega) dM_symbolOf_3 dM_symbolOf_4 rfl (fun h1 => ?_) (fun h1 => ?_)
  · rw [if_neg h1] at hsy
    refine lv_lload_n hx hb dM_symbolOf_25 rfl (lv_at hl 0 rfl) ?_
    refine lv_lload hx hb dM_symbolOf_26 (lv_at hl 2 rfl) ?_
    refine pm_G (As := [.long (jl a), .long (jl p9)]) (rest := []) hx hb hml hown hg hl (kM_order l a p9 ha (by omega) (by omega)) wd562 wd563 wd5 wd564 ⟨rfl, rfl⟩ (n := 2) (by decide +kernel) rfl ⟨by decide, by decide⟩ rfl (Nat.le_of_ble_eq_true rfl) dM_symbolOf_28 ⟨Nat.zero_le _, Nat.zero_le _⟩ (fun r hr9 => ?_)
    subst hr9
    refine lv_istore hx hb dM_symbolOf_31 hl (by decide) rfl (fun ls hl => ?_)
    have hl : lv_has ls 14 [(6, .int (ji (oM a p9))), (0, .long (jl a)), (2, .long (jl b)), (4, .long (jl p9))] := hl
    refine lv_lload_n hx hb dM_symbolOf_33 rfl (lv_at hl 2 rfl) ?_
    refine lv_lload hx hb dM_symbolOf_34 (lv_at hl 3 rfl) ?_
    refine pm_G (As := [.long (jl b), .long (jl p9)]) (rest := []) hx hb hml hown hg hl (kM_order l b p9 hb9 (by omega) (by omega)) wd562 wd563 wd5 wd564 ⟨rfl, rfl⟩ (n := 2) (by decide +kernel) rfl ⟨by decide, by decide⟩ rfl (Nat.le_of_ble_eq_true rfl) dM_symbolOf_36 ⟨Nat.zero_le _, Nat.zero_le _⟩ (fun r hr9 => ?_)
    subst hr9
    refine lv_istore hx hb dM_symbolOf_39 hl (by decide) rfl (fun ls hl => ?_)
    have hl : lv_has ls 14 [(7, .int (ji (oM b p9))), (6, .int (ji (oM a p9))), (0, .long (jl a)), (2, .long (jl b)), (4, .long (jl p9))] := hl
    refine lv_lload_n hx hb dM_symbolOf_41 rfl (lv_at hl 2 rfl) ?_
    refine lv_lload hx hb dM_symbolOf_42 (lv_at hl 4 rfl) ?_
    refine pm_G (As := [.long (jl a), .long (jl p9)]) (rest := []) hx hb hml hown hg hl (kM_unit l a p9 ha (by omega) (by omega)) wd565 wd566 wd5 wd567 ⟨rfl, rfl⟩ (n := 2) (by decide +kernel) rfl ⟨by decide, by decide⟩ rfl (Nat.le_of_ble_eq_true rfl) dM_symbolOf_44 ⟨Nat.zero_le _, Nat.zero_le _⟩ (fun r hr9 => ?_)
    subst hr9
    refine lv_lstore hx hb dM_symbolOf_47 hl (by decide) rfl (fun ls hl => ?_)
    have hl : lv_has ls 14 [(8, .long (jl (uM a p9))), (7, .int (ji (oM b p9))), (6, .int (ji (oM a p9))), (0, .long (jl a)), (2, .long (jl b)), (4, .long (jl p9))] := hl
    refine lv_lload_n hx hb dM_symbolOf_49 rfl (lv_at hl 4 rfl) ?_
    refine lv_lload hx hb dM_symbolOf_50 (lv_at hl 5 rfl) ?_
    refine pm_G (As := [.long (jl b), .long (jl p9)]) (rest := []) hx hb hml hown hg hl (kM_unit l b p9 hb9 (by omega) (by omega)) wd565 wd566 wd5 wd567 ⟨rfl, rfl⟩ (n := 2) (by decide +kernel) rfl ⟨by decide, by decide⟩ rfl (Nat.le_of_ble_eq_true rfl) dM_symbolOf_52 ⟨Nat.zero_le _, Nat.zero_le _⟩ (fun r hr9 => ?_)
    subst hr9
    refine lv_lstore hx hb dM_symbolOf_55 hl (by decide) rfl (fun ls hl => ?_)
    have hl : lv_has ls 14 [(10, .long (jl (uM b p9))), (8, .long (jl (uM a p9))), (7, .int (ji (oM b p9))), (6, .int (ji (oM a p9))), (0, .long (jl a)), (2, .long (jl b)), (4, .long (jl p9))] := hl
    have hua := uM_lt (a := a) (p := p9) (by omega)
    have hub := uM_lt (a := b) (p := p9) (by omega)
    have hE := oM_bd a p9
    have hF := oM_bd b p9
    refine lv_lload hx hb dM_symbolOf_57 (lv_at hl 6 rfl) ?_
    refine j_ldc2 (z := 2) hx hb hown hg wd522 rfl dM_symbolOf_59 ?_
    refine j_lc_ne hx hb (by omega) (by omega) dM_symbolOf_62 dM_symbolOf_63 rfl (fun h2 => ?_) (fun h2 => ?_)
    · have hum : um p9 = p9 := if_neg h2
      have hsF : sF (oM a p9) (oM b p9) (uM a p9) (uM b p9) p9 = so (oM a p9) (oM b p9) (uM a p9) (uM b p9) p9 := if_neg h2
      rw [hsF] at hsy
      obtain ⟨U, hU⟩ := Int.eq_ofNat_of_zero_le hua.1
      obtain ⟨V, hV⟩ := Int.eq_ofNat_of_zero_le hub.1
      obtain ⟨P, rfl⟩ := Int.eq_ofNat_of_zero_le (show 0 ≤ p9 by omega)
      rw [hU] at hl hsy hua
      rw [hV] at hl hsy hub
      generalize oM a P = E at *
      generalize oM b P = F at *
      have hso : so E F U V P = (if E * F * (((P : Int) - 1) / 2) % 2 = 0 then 1 else -1) * (1 - 2 * bi (F = 1 ∧ ¬ qr U P)) * (1 - 2 * bi (E = 1 ∧ ¬ qr V P)) := rfl
      rw [hso] at hsy
      have k191 : ∀ (z : Int) (ls : Array Slot), (z = 1 ∨ z = -1) → z * (1 - 2 * bi (E = 1 ∧ ¬ qr V P)) = syM a b P → lv_has ls 14 [(12, .int (ji z)), (6, .int (ji E)), (7, .int (ji F)), (8, .long (jl ((U:Int)))), (10, .long (jl ((V:Int)))), (4, .long (jl ((P:Int)))), (0, .long (jl a)), (2, .long (jl b))] → W p_ l e_ (rmd 1) s_ m_ a_ b_ t_ c_ s_.heap [] 0 0 (XQ b_ (pmQ (fun r => r = .int (ji (syM a b (P : Int))))) a_ s_ 0 0 (fun _ => False)) (F0 m_ 191 ls []) := by
        intro z ls hb9 hz hl
        refine lv_iload hx hb dM_symbolOf_191 (lv_at hl 1 rfl) ?_
        refine j_iconst hx hb dM_symbolOf_193 ?_
        refine j_icmp_ne hx hb (by omega) (by omega) dM_symbolOf_194 rfl (fun h3 => ?_) (fun h3 => ?_)
        · rw [bi_f (fun q => h3 q.1)] at hz
          refine lv_iload hx hb dM_symbolOf_213 (lv_at hl 0 rfl) ?_
          exact pm_iret hx hb hr hk dM_symbolOf_215 (by rw [← hz]; simp)
        · refine lv_lload hx hb dM_symbolOf_197 (lv_at hl 4 rfl) ?_
          refine lv_lload hx hb dM_symbolOf_199 (lv_at hl 5 rfl) ?_
          refine pm_G (As := [.long (jl ((V:Int))), .long (jl ((P:Int)))]) (rest := []) hx hb hml hown hg hl (kM_isRemainder l V P (by omega) (by omega) (by omega)) wd569 wd570 wd5 wd571 ⟨rfl, rfl⟩ (n := 2) (by decide +kernel) rfl ⟨by decide, by decide⟩ rfl (Nat.le_of_ble_eq_true rfl) dM_symbolOf_201 ⟨Nat.zero_le _, Nat.zero_le _⟩ (fun r hr9 => ?_)
          subst hr9
          refine j_if_ne hx hb (bi_b32 _) dM_symbolOf_204 rfl (fun h5 => ?_) (fun h5 => ?_)
          · rw [bi_f (fun q => q.2 (bi_ne h5))] at hz
            refine lv_iload hx hb dM_symbolOf_213 (lv_at hl 0 rfl) ?_
            exact pm_iret hx hb hr hk dM_symbolOf_215 (by rw [← hz]; simp)
          · rw [bi_t ⟨h3, bi_eq h5⟩] at hz
            refine lv_iload hx hb dM_symbolOf_207 (lv_at hl 0 rfl) ?_
            refine j_ineg hx hb dM_symbolOf_209 ?_
            refine lv_goto hx hb dM_symbolOf_210 rfl ?_
            exact pm_iret hx hb hr hk dM_symbolOf_215 (by rw [← hz]; simp)
      have k165 : ∀ (z : Int) (ls : Array Slot), (z = 1 ∨ z = -1) → z * (1 - 2 * bi (F = 1 ∧ ¬ qr U P)) * (1 - 2 * bi (E = 1 ∧ ¬ qr V P)) = syM a b P → lv_has ls 14 [(12, .int (ji z)), (6, .int (ji E)), (7, .int (ji F)), (8, .long (jl ((U:Int)))), (10, .long (jl ((V:Int)))), (4, .long (jl ((P:Int)))), (0, .long (jl a)), (2, .long (jl b))] → W p_ l e_ (rmd 1) s_ m_ a_ b_ t_ c_ s_.heap [] 0 0 (XQ b_ (pmQ (fun r => r = .int (ji (syM a b (P : Int))))) a_ s_ 0 0 (fun _ => False)) (F0 m_ 165 ls []) := by
        intro z ls hb9 hz hl
        refine lv_iload hx hb dM_symbolOf_165 (lv_at hl 2 rfl) ?_
        refine j_iconst hx hb dM_symbolOf_167 ?_
        refine j_icmp_ne hx hb (by omega) (by omega) dM_symbolOf_168 rfl (fun h3 => ?_) (fun h3 => ?_)
        · rw [bi_f (fun q => h3 q.1)] at hz
          refine lv_iload hx hb dM_symbolOf_187 (lv_at hl 0 rfl) ?_
          refine lv_istore hx hb dM_symbolOf_189 hl (by decide) rfl (fun ls hl => ?_)
          have hl : lv_has ls 14 [(12, .int (ji z)), (6, .int (ji E)), (7, .int (ji F)), (8, .long (jl ((U:Int)))), (10, .long (jl ((V:Int)))), (4, .long (jl ((P:Int)))), (0, .long (jl a)), (2, .long (jl b))] := hl
          exact k191 z ls hb9 (by rw [← hz]; simp) (lv_sub hl [0, 1, 2, 3, 4, 5, 6, 7] rfl)
        · refine lv_lload hx hb dM_symbolOf_171 (lv_at hl 3 rfl) ?_
          refine lv_lload hx hb dM_symbolOf_173 (lv_at hl 5 rfl) ?_
          refine pm_G (As := [.long (jl ((U:Int))), .long (jl ((P:Int)))]) (rest := []) hx hb hml hown hg hl (kM_isRemainder l U P (by omega) (by omega) (by omega)) wd569 wd570 wd5 wd571 ⟨rfl, rfl⟩ (n := 2) (by decide +kernel) rfl ⟨by decide, by decide⟩ rfl (Nat.le_of_ble_eq_true rfl) dM_symbolOf_175 ⟨Nat.zero_le _, Nat.zero_le _⟩ (fun r hr9 => ?_)
          subst hr9
          refine j_if_ne hx hb (bi_b32 _) dM_symbolOf_178 rfl (fun h5 => ?_) (fun h5 => ?_)
          · rw [bi_f (fun q => q.2 (bi_ne h5))] at hz
            refine lv_iload hx hb dM_symbolOf_187 (lv_at hl 0 rfl) ?_
            refine lv_istore hx hb dM_symbolOf_189 hl (by decide) rfl (fun ls hl => ?_)
            have hl : lv_has ls 14 [(12, .int (ji z)), (6, .int (ji E)), (7, .int (ji F)), (8, .long (jl ((U:Int)))), (10, .long (jl ((V:Int)))), (4, .long (jl ((P:Int)))), (0, .long (jl a)), (2, .long (jl b))] := hl
            exact k191 z ls hb9 (by rw [← hz]; simp) (lv_sub hl [0, 1, 2, 3, 4, 5, 6, 7] rfl)
          · rw [bi_t ⟨h3, bi_eq h5⟩] at hz
            refine lv_iload hx hb dM_symbolOf_181 (lv_at hl 0 rfl) ?_
            refine j_ineg hx hb dM_symbolOf_183 ?_
            refine lv_goto hx hb dM_symbolOf_184 rfl ?_
            refine lv_istore hx hb dM_symbolOf_189 hl (by decide) rfl (fun ls hl => ?_)
            have hl : lv_has ls 14 [(12, .int (ji (-z))), (6, .int (ji E)), (7, .int (ji F)), (8, .long (jl ((U:Int)))), (10, .long (jl ((V:Int)))), (4, .long (jl ((P:Int)))), (0, .long (jl a)), (2, .long (jl b))] := hl
            exact k191 (-z) ls (by omega) (by rw [← hz]; simp) (lv_sub hl [0, 1, 2, 3, 4, 5, 6, 7] rfl)
      have hef := bit_mul hE hF
      have hl : lv_has ls 14 [(6, .int (ji E)), (7, .int (ji F)), (8, .long (jl ((U:Int)))), (10, .long (jl ((V:Int)))), (4, .long (jl ((P:Int)))), (0, .long (jl a)), (2, .long (jl b))] := lv_sub hl [3, 2, 1, 0, 6, 4, 5] rfl
      refine lv_iload hx hb dM_symbolOf_132 (lv_at hl 0 rfl) ?_
      refine lv_iload hx hb dM_symbolOf_134 (lv_at hl 1 rfl) ?_
      refine j_imul hx hb dM_symbolOf_136 ?_
      refine j_iconst hx hb dM_symbolOf_137 ?_
      refine j_icmp_ne hx hb (by omega) (by omega) dM_symbolOf_138 rfl (fun h3 => ?_) (fun h3 => ?_)
      · have h4 : E * F = 0 := by omega
        rw [if_pos (by rw [h4, Int.zero_mul]; rfl)] at hsy
        refine j_iconst hx hb dM_symbolOf_162 ?_
        refine lv_istore hx hb dM_symbolOf_163 hl (by decide) rfl (fun ls hl => ?_)
        have hl : lv_has ls 14 [(12, .int (ji 1)), (6, .int (ji E)), (7, .int (ji F)), (8, .long (jl ((U:Int)))), (10, .long (jl ((V:Int)))), (4, .long (jl ((P:Int)))), (0, .long (jl a)), (2, .long (jl b))] := hl
        exact k165 1 ls (Or.inl rfl) hsy.symm hl
      · have e1 : ((P : Int) - 1).tdiv 2 = ((P : Int) - 1) / 2 := td_nn (by omega)
        have e2 : (((P : Int) - 1).tdiv 2).tmod 2 = ((P : Int) - 1) / 2 % 2 := by rw [e1]; exact tm_nn (by omega)
        rw [h3, Int.one_mul] at hsy
        refine lv_lload hx hb dM_symbolOf_141 (lv_at hl 4 rfl) ?_
        refine j_lconst1 hx hb dM_symbolOf_143 ?_
        refine j_lsub hx hb dM_symbolOf_144 ?_
        refine j_ldc2 (z := 2) hx hb hown hg wd522 rfl dM_symbolOf_145 ?_
        refine j_ldiv hx hb (by omega) (by omega) (by omega) dM_symbolOf_148 ?_
        refine j_ldc2 (z := 2) hx hb hown hg wd522 rfl dM_symbolOf_149 ?_
        refine j_lrem hx hb (by omega) (by omega) (by omega) dM_symbolOf_152 ?_
        refine j_lconst1 hx hb dM_symbolOf_153 ?_
        refine j_lc_ne hx hb (by omega) (by decide) dM_symbolOf_154 dM_symbolOf_155 rfl (fun h5 => ?_) (fun h5 => ?_)
        · rw [e2] at h5
          rw [if_pos (by omega)] at hsy
          refine j_iconst hx hb dM_symbolOf_162 ?_
          refine lv_istore hx hb dM_symbolOf_163 hl (by decide) rfl (fun ls hl => ?_)
          have hl : lv_has ls 14 [(12, .int (ji 1)), (6, .int (ji E)), (7, .int (ji F)), (8, .long (jl ((U:Int)))), (10, .long (jl ((V:Int)))), (4, .long (jl ((P:Int)))), (0, .long (jl a)), (2, .long (jl b))] := hl
          exact k165 1 ls (Or.inl rfl) hsy.symm hl
        · rw [e2] at h5
          rw [if_neg (by omega)] at hsy
          refine j_iconst hx hb dM_symbolOf_158 ?_
          refine lv_goto hx hb dM_symbolOf_159 rfl ?_
          refine lv_istore hx hb dM_symbolOf_163 hl (by decide) rfl (fun ls hl => ?_)
          have hl : lv_has ls 14 [(12, .int (ji (-1))), (6, .int (ji E)), (7, .int (ji F)), (8, .long (jl ((U:Int)))), (10, .long (jl ((V:Int)))), (4, .long (jl ((P:Int)))), (0, .long (jl a)), (2, .long (jl b))] := hl
          exact k165 (-1) ls (Or.inr rfl) hsy.symm hl
    · have hum : um p9 = 8 := if_pos h2
      have hsF : sF (oM a p9) (oM b p9) (uM a p9) (uM b p9) p9 = s2 (oM a p9) (oM b p9) (uM a p9) (uM b p9) := if_pos h2
      rw [hsF] at hsy
      have h3 : uM a p9 % 2 = 1 := by rw [h2]; exact uM_odd h4a
      have h4 : uM b p9 % 2 = 1 := by rw [h2]; exact uM_odd h4b
      generalize oM a p9 = E at *
      generalize oM b p9 = F at *
      generalize uM a p9 = U at *
      generalize uM b p9 = V at *
      have hl : lv_has ls 14 [(6, .int (ji E)), (7, .int (ji F)), (8, .long (jl U)), (10, .long (jl V)), (4, .long (jl p9)), (0, .long (jl a)), (2, .long (jl b))] := lv_sub hl [3, 2, 1, 0, 6, 4, 5] rfl
      obtain ⟨hA, hB, hC⟩ := s2_all hE hF (show 1 ≤ U ∧ U ≤ 7 by omega) (show 1 ≤ V ∧ V ≤ 7 by omega)
      have hvv : 1 ≤ V * V ∧ V * V ≤ 49 := ⟨by have := Int.mul_le_mul (show 1 ≤ V by omega) (show 1 ≤ V by omega) (by decide) (by omega); omega, by have := Int.mul_le_mul (show V ≤ 7 by omega) (show V ≤ 7 by omega) (by omega) (by decide); omega⟩
      have huu : 1 ≤ U * U ∧ U * U ≤ 49 := ⟨by have := Int.mul_le_mul (show 1 ≤ U by omega) (show 1 ≤ U by omega) (by decide) (by omega); omega, by have := Int.mul_le_mul (show U ≤ 7 by omega) (show U ≤ 7 by omega) (by omega) (by decide); omega⟩
      refine lv_lload hx hb dM_symbolOf_66 (lv_at hl 2 rfl) ?_
      refine j_lconst1 hx hb dM_symbolOf_68 ?_
      refine j_lsub hx hb dM_symbolOf_69 ?_
      refine j_ldc2 (z := 2) hx hb hown hg wd522 rfl dM_symbolOf_70 ?_
      refine j_ldiv hx hb (by omega) (by omega) (by omega) dM_symbolOf_73 ?_
      refine lv_lload hx hb dM_symbolOf_74 (lv_at hl 3 rfl) ?_
      refine j_lconst1 hx hb dM_symbolOf_76 ?_
      refine j_lsub hx hb dM_symbolOf_77 ?_
      refine j_ldc2 (z := 2) hx hb hown hg wd522 rfl dM_symbolOf_78 ?_
      refine j_ldiv hx hb (by omega) (by omega) (by omega) dM_symbolOf_81 ?_
      refine j_lmul hx hb dM_symbolOf_82 ?_
      refine lv_iload hx hb dM_symbolOf_83 (lv_at hl 0 rfl) ?_
      refine j_i2l hx hb (by have := oM_bd a p9; omega) dM_symbolOf_85 ?_
      refine lv_lload hx hb dM_symbolOf_86 (lv_at hl 3 rfl) ?_
      refine lv_lload hx hb dM_symbolOf_88 (lv_at hl 3 rfl) ?_
      refine j_lmul hx hb dM_symbolOf_90 ?_
      refine j_lconst1 hx hb dM_symbolOf_91 ?_
      refine j_lsub hx hb dM_symbolOf_92 ?_
      refine j_ldc2 (z := 8) hx hb hown hg wd568 rfl dM_symbolOf_93 ?_
      refine j_ldiv hx hb (by omega) (by omega) (by omega) dM_symbolOf_96 ?_
      refine j_lmul hx hb dM_symbolOf_97 ?_
      refine j_ladd hx hb dM_symbolOf_98 ?_
      refine lv_iload hx hb dM_symbolOf_99 (lv_at hl 1 rfl) ?_
      refine j_i2l hx hb (by have := oM_bd b p9; omega) dM_symbolOf_101 ?_
      refine lv_lload hx hb dM_symbolOf_102 (lv_at hl 2 rfl) ?_
      refine lv_lload hx hb dM_symbolOf_104 (lv_at hl 2 rfl) ?_
      refine j_lmul hx hb dM_symbolOf_106 ?_
      refine j_lconst1 hx hb dM_symbolOf_107 ?_
      refine j_lsub hx hb dM_symbolOf_108 ?_
      refine j_ldc2 (z := 8) hx hb hown hg wd568 rfl dM_symbolOf_109 ?_
      refine j_ldiv hx hb (by omega) (by omega) (by omega) dM_symbolOf_112 ?_
      refine j_lmul hx hb dM_symbolOf_113 ?_
      refine j_ladd hx hb dM_symbolOf_114 ?_
      refine lv_lstore hx hb dM_symbolOf_115 hl (by decide) rfl (fun ls hl => ?_)
      have hl : lv_has ls 14 [(12, .long (jl (((((U - 1).tdiv 2) * ((V - 1).tdiv 2)) + (E * (((V * V) - 1).tdiv 8))) + (F * (((U * U) - 1).tdiv 8))))), (6, .int (ji E)), (7, .int (ji F)), (8, .long (jl U)), (10, .long (jl V)), (4, .long (jl p9)), (0, .long (jl a)), (2, .long (jl b))] := hl
      rw [hA] at hl
      have hs : s2 E F U V = if ((U - 1) / 2 * ((V - 1) / 2) + E * ((V * V - 1) / 8) + F * ((U * U - 1) / 8)) % 2 = 0 then 1 else -1 := rfl
      generalize (U - 1) / 2 * ((V - 1) / 2) + E * ((V * V - 1) / 8) + F * ((U * U - 1) / 8) = Z0 at *
      obtain ⟨Z, rfl⟩ := Int.eq_ofNat_of_zero_le hB
      refine lv_lload hx hb dM_symbolOf_117 (lv_at hl 0 rfl) ?_
      refine j_lconst1 hx hb dM_symbolOf_119 ?_
      refine j_land1 hx hb dM_symbolOf_120 ?_
      refine j_lconst1 hx hb dM_symbolOf_121 ?_
      refine j_lc_ne hx hb (by omega) (by decide) dM_symbolOf_122 dM_symbolOf_123 rfl (fun h5 => ?_) (fun h5 => ?_)
      · rw [if_pos (by omega)] at hs
        refine j_iconst hx hb dM_symbolOf_130 ?_
        exact pm_iret hx hb hr hk dM_symbolOf_131 (by rw [hsy, hs])
      · rw [if_neg (by omega)] at hs
        refine j_iconst hx hb dM_symbolOf_126 ?_
        refine lv_goto hx hb dM_symbolOf_127 rfl ?_
        exact pm_iret hx hb hr hk dM_symbolOf_131 (by rw [hsy, hs])
  · rw [if_pos h1] at hsy
    refine lv_lload_n hx hb dM_symbolOf_7 rfl (lv_at hl 0 rfl) ?_
    refine j_lconst0 hx hb dM_symbolOf_8 ?_
    refine j_lc_ge hx hb (by omega) (by omega) dM_symbolOf_9 dM_symbolOf_10 rfl (fun h2 => ?_) (fun h2 => ?_)
    · refine j_iconst hx hb dM_symbolOf_23 ?_
      exact pm_iret hx hb hr hk dM_symbolOf_24 (by rw [hsy, if_neg (by omega)])
    · refine lv_lload_n hx hb dM_symbolOf_13 rfl (lv_at hl 1 rfl) ?_
      refine j_lconst0 hx hb dM_symbolOf_14 ?_
      refine j_lc_ge hx hb (by omega) (by omega) dM_symbolOf_15 dM_symbolOf_16 rfl (fun h3 => ?_) (fun h3 => ?_)
      · refine j_iconst hx hb dM_symbolOf_23 ?_
        exact pm_iret hx hb hr hk dM_symbolOf_24 (by rw [hsy, if_neg (by omega)])
      · refine j_iconst hx hb dM_symbolOf_19 ?_
        refine lv_goto hx hb dM_symbolOf_20 rfl ?_
        exact pm_iret hx hb hr hk dM_symbolOf_24 (by rw [hsy, if_pos (by omega)])
