/-! Diagonal (the class), the reading methods: names, contracts -/
abbrev cD_hasseSign : ByteArray := prog_2_method_7_code
abbrev yD_hasseSign : MethodName := ⟨"RationalForms$Diagonal", "hasseSign", "(I)I"⟩
abbrev wsD_hasseSign : List Cond := .code yD_hasseSign cD_hasseSign 5 (some .int) :: GG
theorem dD_hasseSign_0 : decode cD_hasseSign 0 = .ok (.iconst 1, 1) := by decide +kernel
theorem dD_hasseSign_1 : decode cD_hasseSign 1 = .ok (.istore_n 2, 1) := by decide +kernel
theorem dD_hasseSign_2 : decode cD_hasseSign 2 = .ok (.iconst 0, 1) := by decide +kernel
theorem dD_hasseSign_3 : decode cD_hasseSign 3 = .ok (.istore_n 3, 1) := by decide +kernel
theorem dD_hasseSign_4 : decode cD_hasseSign 4 = .ok (.iload_n 3, 1) := by decide +kernel
theorem dD_hasseSign_5 : decode cD_hasseSign 5 = .ok (.aload_n 0, 1) := by decide +kernel
theorem dD_hasseSign_6 : decode cD_hasseSign 6 = .ok (.getfield 23, 3) := by decide +kernel
theorem dD_hasseSign_9 : decode cD_hasseSign 9 = .ok (.if_icmp .ge 49, 3) := by decide +kernel
theorem dD_hasseSign_12 : decode cD_hasseSign 12 = .ok (.iload_n 3, 1) := by decide +kernel
theorem dD_hasseSign_13 : decode cD_hasseSign 13 = .ok (.iconst 1, 1) := by decide +kernel
theorem dD_hasseSign_14 : decode cD_hasseSign 14 = .ok (.iadd, 1) := by decide +kernel
theorem dD_hasseSign_15 : decode cD_hasseSign 15 = .ok (.istore 4, 2) := by decide +kernel
theorem dD_hasseSign_17 : decode cD_hasseSign 17 = .ok (.iload 4, 2) := by decide +kernel
theorem dD_hasseSign_19 : decode cD_hasseSign 19 = .ok (.aload_n 0, 1) := by decide +kernel
theorem dD_hasseSign_20 : decode cD_hasseSign 20 = .ok (.getfield 23, 3) := by decide +kernel
theorem dD_hasseSign_23 : decode cD_hasseSign 23 = .ok (.if_icmp .ge 29, 3) := by decide +kernel
theorem dD_hasseSign_26 : decode cD_hasseSign 26 = .ok (.iload_n 2, 1) := by decide +kernel
theorem dD_hasseSign_27 : decode cD_hasseSign 27 = .ok (.aload_n 0, 1) := by decide +kernel
theorem dD_hasseSign_28 : decode cD_hasseSign 28 = .ok (.getfield 11, 3) := by decide +kernel
theorem dD_hasseSign_31 : decode cD_hasseSign 31 = .ok (.iload_n 3, 1) := by decide +kernel
theorem dD_hasseSign_32 : decode cD_hasseSign 32 = .ok (.laload, 1) := by decide +kernel
theorem dD_hasseSign_33 : decode cD_hasseSign 33 = .ok (.aload_n 0, 1) := by decide +kernel
theorem dD_hasseSign_34 : decode cD_hasseSign 34 = .ok (.getfield 11, 3) := by decide +kernel
theorem dD_hasseSign_37 : decode cD_hasseSign 37 = .ok (.iload 4, 2) := by decide +kernel
theorem dD_hasseSign_39 : decode cD_hasseSign 39 = .ok (.laload, 1) := by decide +kernel
theorem dD_hasseSign_40 : decode cD_hasseSign 40 = .ok (.iload_n 1, 1) := by decide +kernel
theorem dD_hasseSign_41 : decode cD_hasseSign 41 = .ok (.invokestatic 70, 3) := by decide +kernel
theorem dD_hasseSign_44 : decode cD_hasseSign 44 = .ok (.imul, 1) := by decide +kernel
theorem dD_hasseSign_45 : decode cD_hasseSign 45 = .ok (.istore_n 2, 1) := by decide +kernel
theorem dD_hasseSign_46 : decode cD_hasseSign 46 = .ok (.iinc 4 1, 3) := by decide +kernel
theorem dD_hasseSign_49 : decode cD_hasseSign 49 = .ok (.goto (-32), 3) := by decide +kernel
theorem dD_hasseSign_52 : decode cD_hasseSign 52 = .ok (.iinc 3 1, 3) := by decide +kernel
theorem dD_hasseSign_55 : decode cD_hasseSign 55 = .ok (.goto (-51), 3) := by decide +kernel
theorem dD_hasseSign_58 : decode cD_hasseSign 58 = .ok (.iload_n 2, 1) := by decide +kernel
theorem dD_hasseSign_59 : decode cD_hasseSign 59 = .ok (.ireturn, 1) := by decide +kernel
abbrev cD_hasZeroAt : ByteArray := prog_2_method_8_code
abbrev yD_hasZeroAt : MethodName := ⟨"RationalForms$Diagonal", "hasZeroAt", "(I)Z"⟩
abbrev wsD_hasZeroAt : List Cond := .code yD_hasZeroAt cD_hasZeroAt 2 (some .boolean) :: GG
theorem dD_hasZeroAt_0 : decode cD_hasZeroAt 0 = .ok (.aload_n 0, 1) := by decide +kernel
theorem dD_hasZeroAt_1 : decode cD_hasZeroAt 1 = .ok (.getfield 23, 3) := by decide +kernel
theorem dD_hasZeroAt_4 : decode cD_hasZeroAt 4 = .ok (.aload_n 0, 1) := by decide +kernel
theorem dD_hasZeroAt_5 : decode cD_hasZeroAt 5 = .ok (.getfield 19, 3) := by decide +kernel
theorem dD_hasZeroAt_8 : decode cD_hasZeroAt 8 = .ok (.if_icmp .ge 5, 3) := by decide +kernel
theorem dD_hasZeroAt_11 : decode cD_hasZeroAt 11 = .ok (.iconst 1, 1) := by decide +kernel
theorem dD_hasZeroAt_12 : decode cD_hasZeroAt 12 = .ok (.ireturn, 1) := by decide +kernel
theorem dD_hasZeroAt_13 : decode cD_hasZeroAt 13 = .ok (.aload_n 0, 1) := by decide +kernel
theorem dD_hasZeroAt_14 : decode cD_hasZeroAt 14 = .ok (.getfield 23, 3) := by decide +kernel
theorem dD_hasZeroAt_17 : decode cD_hasZeroAt 17 = .ok (.tableswitch 104 1 4 #[31, 33, 43, 69], 31) := by decide +kernel
theorem dD_hasZeroAt_48 : decode cD_hasZeroAt 48 = .ok (.iconst 0, 1) := by decide +kernel
theorem dD_hasZeroAt_49 : decode cD_hasZeroAt 49 = .ok (.ireturn, 1) := by decide +kernel
theorem dD_hasZeroAt_50 : decode cD_hasZeroAt 50 = .ok (.aload_n 0, 1) := by decide +kernel
theorem dD_hasZeroAt_51 : decode cD_hasZeroAt 51 = .ok (.getfield 32, 3) := by decide +kernel
theorem dD_hasZeroAt_54 : decode cD_hasZeroAt 54 = .ok (.lneg, 1) := by decide +kernel
theorem dD_hasZeroAt_55 : decode cD_hasZeroAt 55 = .ok (.iload_n 1, 1) := by decide +kernel
theorem dD_hasZeroAt_56 : decode cD_hasZeroAt 56 = .ok (.invokestatic 76, 3) := by decide +kernel
theorem dD_hasZeroAt_59 : decode cD_hasZeroAt 59 = .ok (.ireturn, 1) := by decide +kernel
theorem dD_hasZeroAt_60 : decode cD_hasZeroAt 60 = .ok (.aload_n 0, 1) := by decide +kernel
theorem dD_hasZeroAt_61 : decode cD_hasZeroAt 61 = .ok (.iload_n 1, 1) := by decide +kernel
theorem dD_hasZeroAt_62 : decode cD_hasZeroAt 62 = .ok (.invokevirtual 80, 3) := by decide +kernel
theorem dD_hasZeroAt_65 : decode cD_hasZeroAt 65 = .ok (.ldc2_w 84, 3) := by decide +kernel
theorem dD_hasZeroAt_68 : decode cD_hasZeroAt 68 = .ok (.aload_n 0, 1) := by decide +kernel
theorem dD_hasZeroAt_69 : decode cD_hasZeroAt 69 = .ok (.getfield 32, 3) := by decide +kernel
theorem dD_hasZeroAt_72 : decode cD_hasZeroAt 72 = .ok (.lneg, 1) := by decide +kernel
theorem dD_hasZeroAt_73 : decode cD_hasZeroAt 73 = .ok (.iload_n 1, 1) := by decide +kernel
theorem dD_hasZeroAt_74 : decode cD_hasZeroAt 74 = .ok (.invokestatic 70, 3) := by decide +kernel
theorem dD_hasZeroAt_77 : decode cD_hasZeroAt 77 = .ok (.if_icmp .ne 7, 3) := by decide +kernel
theorem dD_hasZeroAt_80 : decode cD_hasZeroAt 80 = .ok (.iconst 1, 1) := by decide +kernel
theorem dD_hasZeroAt_81 : decode cD_hasZeroAt 81 = .ok (.goto 4, 3) := by decide +kernel
theorem dD_hasZeroAt_84 : decode cD_hasZeroAt 84 = .ok (.iconst 0, 1) := by decide +kernel
theorem dD_hasZeroAt_85 : decode cD_hasZeroAt 85 = .ok (.ireturn, 1) := by decide +kernel
theorem dD_hasZeroAt_86 : decode cD_hasZeroAt 86 = .ok (.aload_n 0, 1) := by decide +kernel
theorem dD_hasZeroAt_87 : decode cD_hasZeroAt 87 = .ok (.getfield 32, 3) := by decide +kernel
theorem dD_hasZeroAt_90 : decode cD_hasZeroAt 90 = .ok (.iload_n 1, 1) := by decide +kernel
theorem dD_hasZeroAt_91 : decode cD_hasZeroAt 91 = .ok (.invokestatic 76, 3) := by decide +kernel
theorem dD_hasZeroAt_94 : decode cD_hasZeroAt 94 = .ok (.ifCond .eq 21, 3) := by decide +kernel
theorem dD_hasZeroAt_97 : decode cD_hasZeroAt 97 = .ok (.aload_n 0, 1) := by decide +kernel
theorem dD_hasZeroAt_98 : decode cD_hasZeroAt 98 = .ok (.iload_n 1, 1) := by decide +kernel
theorem dD_hasZeroAt_99 : decode cD_hasZeroAt 99 = .ok (.invokevirtual 80, 3) := by decide +kernel
theorem dD_hasZeroAt_102 : decode cD_hasZeroAt 102 = .ok (.ldc2_w 84, 3) := by decide +kernel
theorem dD_hasZeroAt_105 : decode cD_hasZeroAt 105 = .ok (.ldc2_w 84, 3) := by decide +kernel
theorem dD_hasZeroAt_108 : decode cD_hasZeroAt 108 = .ok (.iload_n 1, 1) := by decide +kernel
theorem dD_hasZeroAt_109 : decode cD_hasZeroAt 109 = .ok (.invokestatic 70, 3) := by decide +kernel
theorem dD_hasZeroAt_112 : decode cD_hasZeroAt 112 = .ok (.if_icmp .ne 7, 3) := by decide +kernel
theorem dD_hasZeroAt_115 : decode cD_hasZeroAt 115 = .ok (.iconst 1, 1) := by decide +kernel
theorem dD_hasZeroAt_116 : decode cD_hasZeroAt 116 = .ok (.goto 4, 3) := by decide +kernel
theorem dD_hasZeroAt_119 : decode cD_hasZeroAt 119 = .ok (.iconst 0, 1) := by decide +kernel
theorem dD_hasZeroAt_120 : decode cD_hasZeroAt 120 = .ok (.ireturn, 1) := by decide +kernel
theorem dD_hasZeroAt_121 : decode cD_hasZeroAt 121 = .ok (.iload_n 1, 1) := by decide +kernel
theorem dD_hasZeroAt_122 : decode cD_hasZeroAt 122 = .ok (.ifCond .ne 17, 3) := by decide +kernel
theorem dD_hasZeroAt_125 : decode cD_hasZeroAt 125 = .ok (.aload_n 0, 1) := by decide +kernel
theorem dD_hasZeroAt_126 : decode cD_hasZeroAt 126 = .ok (.getfield 26, 3) := by decide +kernel
theorem dD_hasZeroAt_129 : decode cD_hasZeroAt 129 = .ok (.ifCond .le 14, 3) := by decide +kernel
theorem dD_hasZeroAt_132 : decode cD_hasZeroAt 132 = .ok (.aload_n 0, 1) := by decide +kernel
theorem dD_hasZeroAt_133 : decode cD_hasZeroAt 133 = .ok (.getfield 29, 3) := by decide +kernel
theorem dD_hasZeroAt_136 : decode cD_hasZeroAt 136 = .ok (.ifCond .le 7, 3) := by decide +kernel
theorem dD_hasZeroAt_139 : decode cD_hasZeroAt 139 = .ok (.iconst 1, 1) := by decide +kernel
theorem dD_hasZeroAt_140 : decode cD_hasZeroAt 140 = .ok (.goto 4, 3) := by decide +kernel
theorem dD_hasZeroAt_143 : decode cD_hasZeroAt 143 = .ok (.iconst 0, 1) := by decide +kernel
theorem dD_hasZeroAt_144 : decode cD_hasZeroAt 144 = .ok (.ireturn, 1) := by decide +kernel
abbrev cD_lowestPlaceWithoutZero : ByteArray := prog_2_method_9_code
abbrev yD_lowestPlaceWithoutZero : MethodName := ⟨"RationalForms$Diagonal", "lowestPlaceWithoutZero", "()I"⟩
abbrev wsD_lowestPlaceWithoutZero : List Cond := .code yD_lowestPlaceWithoutZero cD_lowestPlaceWithoutZero 2 (some .int) :: GG
theorem dD_lowestPlaceWithoutZero_0 : decode cD_lowestPlaceWithoutZero 0 = .ok (.aload_n 0, 1) := by decide +kernel
theorem dD_lowestPlaceWithoutZero_1 : decode cD_lowestPlaceWithoutZero 1 = .ok (.iconst 0, 1) := by decide +kernel
theorem dD_lowestPlaceWithoutZero_2 : decode cD_lowestPlaceWithoutZero 2 = .ok (.invokevirtual 86, 3) := by decide +kernel
theorem dD_lowestPlaceWithoutZero_5 : decode cD_lowestPlaceWithoutZero 5 = .ok (.ifCond .ne 5, 3) := by decide +kernel
theorem dD_lowestPlaceWithoutZero_8 : decode cD_lowestPlaceWithoutZero 8 = .ok (.iconst 0, 1) := by decide +kernel
theorem dD_lowestPlaceWithoutZero_9 : decode cD_lowestPlaceWithoutZero 9 = .ok (.ireturn, 1) := by decide +kernel
theorem dD_lowestPlaceWithoutZero_10 : decode cD_lowestPlaceWithoutZero 10 = .ok (.iconst 0, 1) := by decide +kernel
theorem dD_lowestPlaceWithoutZero_11 : decode cD_lowestPlaceWithoutZero 11 = .ok (.istore_n 1, 1) := by decide +kernel
theorem dD_lowestPlaceWithoutZero_12 : decode cD_lowestPlaceWithoutZero 12 = .ok (.iload_n 1, 1) := by decide +kernel
theorem dD_lowestPlaceWithoutZero_13 : decode cD_lowestPlaceWithoutZero 13 = .ok (.aload_n 0, 1) := by decide +kernel
theorem dD_lowestPlaceWithoutZero_14 : decode cD_lowestPlaceWithoutZero 14 = .ok (.getfield 36, 3) := by decide +kernel
theorem dD_lowestPlaceWithoutZero_17 : decode cD_lowestPlaceWithoutZero 17 = .ok (.if_icmp .ge 50, 3) := by decide +kernel
theorem dD_lowestPlaceWithoutZero_20 : decode cD_lowestPlaceWithoutZero 20 = .ok (.aload_n 0, 1) := by decide +kernel
theorem dD_lowestPlaceWithoutZero_21 : decode cD_lowestPlaceWithoutZero 21 = .ok (.aload_n 0, 1) := by decide +kernel
theorem dD_lowestPlaceWithoutZero_22 : decode cD_lowestPlaceWithoutZero 22 = .ok (.getfield 15, 3) := by decide +kernel
theorem dD_lowestPlaceWithoutZero_25 : decode cD_lowestPlaceWithoutZero 25 = .ok (.iload_n 1, 1) := by decide +kernel
theorem dD_lowestPlaceWithoutZero_26 : decode cD_lowestPlaceWithoutZero 26 = .ok (.iaload, 1) := by decide +kernel
theorem dD_lowestPlaceWithoutZero_27 : decode cD_lowestPlaceWithoutZero 27 = .ok (.invokevirtual 86, 3) := by decide +kernel
theorem dD_lowestPlaceWithoutZero_30 : decode cD_lowestPlaceWithoutZero 30 = .ok (.ifCond .ne 31, 3) := by decide +kernel
theorem dD_lowestPlaceWithoutZero_33 : decode cD_lowestPlaceWithoutZero 33 = .ok (.aload_n 0, 1) := by decide +kernel
theorem dD_lowestPlaceWithoutZero_34 : decode cD_lowestPlaceWithoutZero 34 = .ok (.getfield 23, 3) := by decide +kernel
theorem dD_lowestPlaceWithoutZero_37 : decode cD_lowestPlaceWithoutZero 37 = .ok (.iconst 2, 1) := by decide +kernel
theorem dD_lowestPlaceWithoutZero_38 : decode cD_lowestPlaceWithoutZero 38 = .ok (.if_icmp .ne 16, 3) := by decide +kernel
theorem dD_lowestPlaceWithoutZero_41 : decode cD_lowestPlaceWithoutZero 41 = .ok (.aload_n 0, 1) := by decide +kernel
theorem dD_lowestPlaceWithoutZero_42 : decode cD_lowestPlaceWithoutZero 42 = .ok (.aload_n 0, 1) := by decide +kernel
theorem dD_lowestPlaceWithoutZero_43 : decode cD_lowestPlaceWithoutZero 43 = .ok (.getfield 15, 3) := by decide +kernel
theorem dD_lowestPlaceWithoutZero_46 : decode cD_lowestPlaceWithoutZero 46 = .ok (.iload_n 1, 1) := by decide +kernel
theorem dD_lowestPlaceWithoutZero_47 : decode cD_lowestPlaceWithoutZero 47 = .ok (.iaload, 1) := by decide +kernel
theorem dD_lowestPlaceWithoutZero_48 : decode cD_lowestPlaceWithoutZero 48 = .ok (.invokevirtual 90, 3) := by decide +kernel
theorem dD_lowestPlaceWithoutZero_51 : decode cD_lowestPlaceWithoutZero 51 = .ok (.goto 9, 3) := by decide +kernel
theorem dD_lowestPlaceWithoutZero_54 : decode cD_lowestPlaceWithoutZero 54 = .ok (.aload_n 0, 1) := by decide +kernel
theorem dD_lowestPlaceWithoutZero_55 : decode cD_lowestPlaceWithoutZero 55 = .ok (.getfield 15, 3) := by decide +kernel
theorem dD_lowestPlaceWithoutZero_58 : decode cD_lowestPlaceWithoutZero 58 = .ok (.iload_n 1, 1) := by decide +kernel
theorem dD_lowestPlaceWithoutZero_59 : decode cD_lowestPlaceWithoutZero 59 = .ok (.iaload, 1) := by decide +kernel
theorem dD_lowestPlaceWithoutZero_60 : decode cD_lowestPlaceWithoutZero 60 = .ok (.ireturn, 1) := by decide +kernel
theorem dD_lowestPlaceWithoutZero_61 : decode cD_lowestPlaceWithoutZero 61 = .ok (.iinc 1 1, 3) := by decide +kernel
theorem dD_lowestPlaceWithoutZero_64 : decode cD_lowestPlaceWithoutZero 64 = .ok (.goto (-52), 3) := by decide +kernel
theorem dD_lowestPlaceWithoutZero_67 : decode cD_lowestPlaceWithoutZero 67 = .ok (.iconst (-1), 1) := by decide +kernel
theorem dD_lowestPlaceWithoutZero_68 : decode cD_lowestPlaceWithoutZero 68 = .ok (.ireturn, 1) := by decide +kernel
abbrev cD_lowestPrimeWithoutRoot : ByteArray := prog_2_method_10_code
abbrev yD_lowestPrimeWithoutRoot : MethodName := ⟨"RationalForms$Diagonal", "lowestPrimeWithoutRoot", "(I)I"⟩
abbrev wsD_lowestPrimeWithoutRoot : List Cond := .code yD_lowestPrimeWithoutRoot cD_lowestPrimeWithoutRoot 3 (some .int) :: GG
theorem dD_lowestPrimeWithoutRoot_0 : decode cD_lowestPrimeWithoutRoot 0 = .ok (.iconst 2, 1) := by decide +kernel
theorem dD_lowestPrimeWithoutRoot_1 : decode cD_lowestPrimeWithoutRoot 1 = .ok (.istore_n 2, 1) := by decide +kernel
theorem dD_lowestPrimeWithoutRoot_2 : decode cD_lowestPrimeWithoutRoot 2 = .ok (.iload_n 2, 1) := by decide +kernel
theorem dD_lowestPrimeWithoutRoot_3 : decode cD_lowestPrimeWithoutRoot 3 = .ok (.iload_n 1, 1) := by decide +kernel
theorem dD_lowestPrimeWithoutRoot_4 : decode cD_lowestPrimeWithoutRoot 4 = .ok (.if_icmp .ge 30, 3) := by decide +kernel
theorem dD_lowestPrimeWithoutRoot_7 : decode cD_lowestPrimeWithoutRoot 7 = .ok (.iload_n 2, 1) := by decide +kernel
theorem dD_lowestPrimeWithoutRoot_8 : decode cD_lowestPrimeWithoutRoot 8 = .ok (.invokestatic 93, 3) := by decide +kernel
theorem dD_lowestPrimeWithoutRoot_11 : decode cD_lowestPrimeWithoutRoot 11 = .ok (.ifCond .eq 17, 3) := by decide +kernel
theorem dD_lowestPrimeWithoutRoot_14 : decode cD_lowestPrimeWithoutRoot 14 = .ok (.aload_n 0, 1) := by decide +kernel
theorem dD_lowestPrimeWithoutRoot_15 : decode cD_lowestPrimeWithoutRoot 15 = .ok (.getfield 32, 3) := by decide +kernel
theorem dD_lowestPrimeWithoutRoot_18 : decode cD_lowestPrimeWithoutRoot 18 = .ok (.lneg, 1) := by decide +kernel
theorem dD_lowestPrimeWithoutRoot_19 : decode cD_lowestPrimeWithoutRoot 19 = .ok (.iload_n 2, 1) := by decide +kernel
theorem dD_lowestPrimeWithoutRoot_20 : decode cD_lowestPrimeWithoutRoot 20 = .ok (.invokestatic 76, 3) := by decide +kernel
theorem dD_lowestPrimeWithoutRoot_23 : decode cD_lowestPrimeWithoutRoot 23 = .ok (.ifCond .ne 5, 3) := by decide +kernel
theorem dD_lowestPrimeWithoutRoot_26 : decode cD_lowestPrimeWithoutRoot 26 = .ok (.iload_n 2, 1) := by decide +kernel
theorem dD_lowestPrimeWithoutRoot_27 : decode cD_lowestPrimeWithoutRoot 27 = .ok (.ireturn, 1) := by decide +kernel
theorem dD_lowestPrimeWithoutRoot_28 : decode cD_lowestPrimeWithoutRoot 28 = .ok (.iinc 2 1, 3) := by decide +kernel
theorem dD_lowestPrimeWithoutRoot_31 : decode cD_lowestPrimeWithoutRoot 31 = .ok (.goto (-29), 3) := by decide +kernel
theorem dD_lowestPrimeWithoutRoot_34 : decode cD_lowestPrimeWithoutRoot 34 = .ok (.iload_n 1, 1) := by decide +kernel
theorem dD_lowestPrimeWithoutRoot_35 : decode cD_lowestPrimeWithoutRoot 35 = .ok (.ireturn, 1) := by decide +kernel
abbrev cD_agreesAtOwnPrimes : ByteArray := prog_2_method_11_code
abbrev yD_agreesAtOwnPrimes : MethodName := ⟨"RationalForms$Diagonal", "agreesAtOwnPrimes", "(LRationalForms$Diagonal;)Z"⟩
abbrev wsD_agreesAtOwnPrimes : List Cond := .code yD_agreesAtOwnPrimes cD_agreesAtOwnPrimes 3 (some .boolean) :: GG
theorem dD_agreesAtOwnPrimes_0 : decode cD_agreesAtOwnPrimes 0 = .ok (.iconst 0, 1) := by decide +kernel
theorem dD_agreesAtOwnPrimes_1 : decode cD_agreesAtOwnPrimes 1 = .ok (.istore_n 2, 1) := by decide +kernel
theorem dD_agreesAtOwnPrimes_2 : decode cD_agreesAtOwnPrimes 2 = .ok (.iload_n 2, 1) := by decide +kernel
theorem dD_agreesAtOwnPrimes_3 : decode cD_agreesAtOwnPrimes 3 = .ok (.aload_n 0, 1) := by decide +kernel
theorem dD_agreesAtOwnPrimes_4 : decode cD_agreesAtOwnPrimes 4 = .ok (.getfield 36, 3) := by decide +kernel
theorem dD_agreesAtOwnPrimes_7 : decode cD_agreesAtOwnPrimes 7 = .ok (.if_icmp .ge 34, 3) := by decide +kernel
theorem dD_agreesAtOwnPrimes_10 : decode cD_agreesAtOwnPrimes 10 = .ok (.aload_n 0, 1) := by decide +kernel
theorem dD_agreesAtOwnPrimes_11 : decode cD_agreesAtOwnPrimes 11 = .ok (.aload_n 0, 1) := by decide +kernel
theorem dD_agreesAtOwnPrimes_12 : decode cD_agreesAtOwnPrimes 12 = .ok (.getfield 15, 3) := by decide +kernel
theorem dD_agreesAtOwnPrimes_15 : decode cD_agreesAtOwnPrimes 15 = .ok (.iload_n 2, 1) := by decide +kernel
theorem dD_agreesAtOwnPrimes_16 : decode cD_agreesAtOwnPrimes 16 = .ok (.iaload, 1) := by decide +kernel
theorem dD_agreesAtOwnPrimes_17 : decode cD_agreesAtOwnPrimes 17 = .ok (.invokevirtual 80, 3) := by decide +kernel
theorem dD_agreesAtOwnPrimes_20 : decode cD_agreesAtOwnPrimes 20 = .ok (.aload_n 1, 1) := by decide +kernel
theorem dD_agreesAtOwnPrimes_21 : decode cD_agreesAtOwnPrimes 21 = .ok (.aload_n 0, 1) := by decide +kernel
theorem dD_agreesAtOwnPrimes_22 : decode cD_agreesAtOwnPrimes 22 = .ok (.getfield 15, 3) := by decide +kernel
theorem dD_agreesAtOwnPrimes_25 : decode cD_agreesAtOwnPrimes 25 = .ok (.iload_n 2, 1) := by decide +kernel
theorem dD_agreesAtOwnPrimes_26 : decode cD_agreesAtOwnPrimes 26 = .ok (.iaload, 1) := by decide +kernel
theorem dD_agreesAtOwnPrimes_27 : decode cD_agreesAtOwnPrimes 27 = .ok (.invokevirtual 80, 3) := by decide +kernel
theorem dD_agreesAtOwnPrimes_30 : decode cD_agreesAtOwnPrimes 30 = .ok (.if_icmp .eq 5, 3) := by decide +kernel
theorem dD_agreesAtOwnPrimes_33 : decode cD_agreesAtOwnPrimes 33 = .ok (.iconst 0, 1) := by decide +kernel
theorem dD_agreesAtOwnPrimes_34 : decode cD_agreesAtOwnPrimes 34 = .ok (.ireturn, 1) := by decide +kernel
theorem dD_agreesAtOwnPrimes_35 : decode cD_agreesAtOwnPrimes 35 = .ok (.iinc 2 1, 3) := by decide +kernel
theorem dD_agreesAtOwnPrimes_38 : decode cD_agreesAtOwnPrimes 38 = .ok (.goto (-36), 3) := by decide +kernel
theorem dD_agreesAtOwnPrimes_41 : decode cD_agreesAtOwnPrimes 41 = .ok (.iconst 1, 1) := by decide +kernel
theorem dD_agreesAtOwnPrimes_42 : decode cD_agreesAtOwnPrimes 42 = .ok (.ireturn, 1) := by decide +kernel
abbrev cD_primeOfMinusSign : ByteArray := prog_2_method_12_code
abbrev yD_primeOfMinusSign : MethodName := ⟨"RationalForms$Diagonal", "primeOfMinusSign", "(I)I"⟩
abbrev wsD_primeOfMinusSign : List Cond := .code yD_primeOfMinusSign cD_primeOfMinusSign 4 (some .int) :: GG
theorem dD_primeOfMinusSign_0 : decode cD_primeOfMinusSign 0 = .ok (.iconst 0, 1) := by decide +kernel
theorem dD_primeOfMinusSign_1 : decode cD_primeOfMinusSign 1 = .ok (.istore_n 2, 1) := by decide +kernel
theorem dD_primeOfMinusSign_2 : decode cD_primeOfMinusSign 2 = .ok (.iconst 0, 1) := by decide +kernel
theorem dD_primeOfMinusSign_3 : decode cD_primeOfMinusSign 3 = .ok (.istore_n 3, 1) := by decide +kernel
theorem dD_primeOfMinusSign_4 : decode cD_primeOfMinusSign 4 = .ok (.iload_n 3, 1) := by decide +kernel
theorem dD_primeOfMinusSign_5 : decode cD_primeOfMinusSign 5 = .ok (.aload_n 0, 1) := by decide +kernel
theorem dD_primeOfMinusSign_6 : decode cD_primeOfMinusSign 6 = .ok (.getfield 36, 3) := by decide +kernel
theorem dD_primeOfMinusSign_9 : decode cD_primeOfMinusSign 9 = .ok (.if_icmp .ge 38, 3) := by decide +kernel
theorem dD_primeOfMinusSign_12 : decode cD_primeOfMinusSign 12 = .ok (.aload_n 0, 1) := by decide +kernel
theorem dD_primeOfMinusSign_13 : decode cD_primeOfMinusSign 13 = .ok (.aload_n 0, 1) := by decide +kernel
theorem dD_primeOfMinusSign_14 : decode cD_primeOfMinusSign 14 = .ok (.getfield 15, 3) := by decide +kernel
theorem dD_primeOfMinusSign_17 : decode cD_primeOfMinusSign 17 = .ok (.iload_n 3, 1) := by decide +kernel
theorem dD_primeOfMinusSign_18 : decode cD_primeOfMinusSign 18 = .ok (.iaload, 1) := by decide +kernel
theorem dD_primeOfMinusSign_19 : decode cD_primeOfMinusSign 19 = .ok (.invokevirtual 80, 3) := by decide +kernel
theorem dD_primeOfMinusSign_22 : decode cD_primeOfMinusSign 22 = .ok (.iconst (-1), 1) := by decide +kernel
theorem dD_primeOfMinusSign_23 : decode cD_primeOfMinusSign 23 = .ok (.if_icmp .ne 18, 3) := by decide +kernel
theorem dD_primeOfMinusSign_26 : decode cD_primeOfMinusSign 26 = .ok (.iload_n 2, 1) := by decide +kernel
theorem dD_primeOfMinusSign_27 : decode cD_primeOfMinusSign 27 = .ok (.iload_n 1, 1) := by decide +kernel
theorem dD_primeOfMinusSign_28 : decode cD_primeOfMinusSign 28 = .ok (.if_icmp .ne 10, 3) := by decide +kernel
theorem dD_primeOfMinusSign_31 : decode cD_primeOfMinusSign 31 = .ok (.aload_n 0, 1) := by decide +kernel
theorem dD_primeOfMinusSign_32 : decode cD_primeOfMinusSign 32 = .ok (.getfield 15, 3) := by decide +kernel
theorem dD_primeOfMinusSign_35 : decode cD_primeOfMinusSign 35 = .ok (.iload_n 3, 1) := by decide +kernel
theorem dD_primeOfMinusSign_36 : decode cD_primeOfMinusSign 36 = .ok (.iaload, 1) := by decide +kernel
theorem dD_primeOfMinusSign_37 : decode cD_primeOfMinusSign 37 = .ok (.ireturn, 1) := by decide +kernel
theorem dD_primeOfMinusSign_38 : decode cD_primeOfMinusSign 38 = .ok (.iinc 2 1, 3) := by decide +kernel
theorem dD_primeOfMinusSign_41 : decode cD_primeOfMinusSign 41 = .ok (.iinc 3 1, 3) := by decide +kernel
theorem dD_primeOfMinusSign_44 : decode cD_primeOfMinusSign 44 = .ok (.goto (-40), 3) := by decide +kernel
theorem dD_primeOfMinusSign_47 : decode cD_primeOfMinusSign 47 = .ok (.iconst (-1), 1) := by decide +kernel
theorem dD_primeOfMinusSign_48 : decode cD_primeOfMinusSign 48 = .ok (.ireturn, 1) := by decide +kernel
def DG (M : Me) (f r : Nat) : Prop := r ≤ 5 ∧ M (17 + f) 3 = r ∧ ∀ i, i < r → M (19 + f) i ≠ 0 ∧ b64 (M (19 + f) i)
def DF (M : Me) (f dim r : Nat) : Prop := DG M f r ∧ r ≤ dim ∧ M (17 + f) 2 = dim ∧ 1 ≤ dim ∧ dim ≤ 5 ∧ M (17 + f) 6 ≠ 0 ∧ (-9223372036854775807 ≤ M (17 + f) 6 ∧ M (17 + f) 6 ≤ 9223372036854775807) ∧ b32 (M (17 + f) 4) ∧ b32 (M (17 + f) 5)
abbrev plc (p : Int) : Prop := p = 0 ∨ (1 < p ∧ p ≤ 2147483647)
noncomputable abbrev hsC (M : Me) (f r : Nat) (p : Int) : Int := hs (fun a b => sy a b p) (M (19 + f)) r
abbrev zrC (M : Me) (f dim r : Nat) (p : Int) : Prop := zr dim r (M (17 + f) 6) (M (19 + f)) (M (17 + f) 4) (M (17 + f) 5) p
/-- the lowest prime below h where -D is no square, else h -/
def lpr (D : Int) (h q : Nat) : Prop := (q < h ∧ prm q ∧ ¬ sq (-D) q ∧ ∀ m, m < q → prm m → sq (-D) m) ∨ (q = h ∧ ∀ m, m < h → prm m → sq (-D) m)
/-- what lowestPlaceWithoutZero answers -/
def lpz (S : Nat → Prop) (Z : Int → Prop) (r : Nat) (D v : Int) : Prop := (¬ Z 0 → v = 0) ∧ (Z 0 → (∀ q, S q → Z q) → v = -1) ∧ (Z 0 → ∀ q : Nat, S q → ¬ Z q → (∀ m : Nat, S m → m < q → Z m) → (r ≠ 2 → v = q) ∧ (r = 2 → ∃ w : Nat, v = w ∧ lpr D q w))
def nth (T : Nat → Prop) (k v : Int) : Prop := (∃ q : Nat, T q ∧ cnt T q = k ∧ v = q) ∨ (v = -1 ∧ ∀ q, T q → cnt T q ≠ k)
set_option maxRecDepth 20000 in
theorem wd181 : Cond.instanceMethod yD_hasseSign ∈ GG := GG_t 181 rfl rfl
set_option maxRecDepth 20000 in
theorem wd182 : Cond.selects "RationalForms$Diagonal" yD_hasseSign yD_hasseSign ∈ GG := GG_t 182 rfl rfl
set_option maxRecDepth 20000 in
theorem wd183 : Cond.code yD_hasseSign cD_hasseSign 5 (some .int) ∈ GG := GG_t 183 rfl rfl
set_option maxRecDepth 20000 in
theorem wd184 : Cond.methodLink "RationalForms$Diagonal" 70 yP_symbolOf ∈ GG := GG_t 184 rfl rfl
set_option maxRecDepth 20000 in
theorem wd185 : Cond.static yP_symbolOf ∈ GG := GG_t 185 rfl rfl
set_option maxRecDepth 20000 in
theorem wd186 : Cond.code yP_symbolOf cP_symbolOf 9 (some .int) ∈ GG := GG_t 186 rfl rfl
set_option maxRecDepth 20000 in
theorem wd211 : Cond.methodLink "RationalForms$Diagonal" 80 yD_hasseSign ∈ GG := GG_t 211 rfl rfl
set_option maxRecDepth 20000 in
theorem wd367 : Cond.static yW_isPrime ∈ GG := GG_t 367 rfl rfl
set_option maxRecDepth 20000 in
theorem wd368 : Cond.code yW_isPrime cW_isPrime 3 (some .boolean) ∈ GG := GG_t 368 rfl rfl
set_option maxRecDepth 20000 in
theorem wd386 : Cond.instanceMethod yD_hasZeroAt ∈ GG := GG_t 386 rfl rfl
set_option maxRecDepth 20000 in
theorem wd387 : Cond.selects "RationalForms$Diagonal" yD_hasZeroAt yD_hasZeroAt ∈ GG := GG_t 387 rfl rfl
set_option maxRecDepth 20000 in
theorem wd388 : Cond.code yD_hasZeroAt cD_hasZeroAt 2 (some .boolean) ∈ GG := GG_t 388 rfl rfl
set_option maxRecDepth 20000 in
theorem wd389 : Cond.methodLink "RationalForms$Diagonal" 76 yP_isSquare ∈ GG := GG_t 389 rfl rfl
set_option maxRecDepth 20000 in
theorem wd390 : Cond.static yP_isSquare ∈ GG := GG_t 390 rfl rfl
set_option maxRecDepth 20000 in
theorem wd391 : Cond.code yP_isSquare cP_isSquare 4 (some .boolean) ∈ GG := GG_t 391 rfl rfl
set_option maxRecDepth 20000 in
theorem wd392 : Cond.constantLong "RationalForms$Diagonal" 84 (-1) ∈ GG := GG_t 392 rfl rfl
set_option maxRecDepth 20000 in
theorem wd404 : Cond.methodLink "RationalForms$Diagonal" 86 yD_hasZeroAt ∈ GG := GG_t 404 rfl rfl
set_option maxRecDepth 20000 in
theorem wd405 : Cond.methodLink "RationalForms$Diagonal" 90 yD_lowestPrimeWithoutRoot ∈ GG := GG_t 405 rfl rfl
set_option maxRecDepth 20000 in
theorem wd407 : Cond.instanceMethod yD_lowestPrimeWithoutRoot ∈ GG := GG_t 407 rfl rfl
set_option maxRecDepth 20000 in
theorem wd408 : Cond.code yD_lowestPrimeWithoutRoot cD_lowestPrimeWithoutRoot 3 (some .int) ∈ GG := GG_t 408 rfl rfl
set_option maxRecDepth 20000 in
theorem wd409 : Cond.methodLink "RationalForms$Diagonal" 93 yW_isPrime ∈ GG := GG_t 409 rfl rfl
set_option maxRecDepth 20000 in
theorem wds10 : Cond.selects "RationalForms$Diagonal" yD_lowestPrimeWithoutRoot yD_lowestPrimeWithoutRoot ∈ GG := GG_s 10 rfl rfl
set_option maxRecDepth 100000 in
set_option maxHeartbeats 4000000 in
theorem kD_hasseSign (l : Launch) (E : En) (hJ : wJ E) (M : Me) (f : Nat) (hf : f < 2) (r : Nat) (hG : DG M f r) (p9 : Int) (hp : plc p9) : MM l yD_hasseSign wsD_hasseSign (rmd 3) E M [.ref (E.2.1 (17 + f)), .int (ji p9)] (fun v M9 => v = some (.int (ji (hsC M f r p9))) ∧ M9 = M) := by
  refine MM.ofG (by decide +kernel) (Nat.le_of_ble_eq_true rfl) ?_
  intro p_ e_ s_ m_ a_ b_ t_ c_ hx hb hml hr hk hg hown hK hP hS ls hl
  have hl : lv_has ls 5 [(0, .ref (E.2.1 (17 + f))), (1, .int (ji p9))] := hl
  obtain ⟨hr5, hr3, ht⟩ := hG
  have outer : ∀ (N i : Nat) (z : Int) (ls : Array Slot), i + N = r → z = hO (fun a b => sy a b p9) (M (19 + f)) r i → lv_has ls 5 [(3, .int (ji ((i:Int)))), (2, .int (ji z)), (0, .ref (E.2.1 (17 + f))), (1, .int (ji p9))] → W p_ l e_ (rmd 3) s_ m_ a_ b_ t_ c_ s_.heap [] 0 0 (XQ b_ (mmQ E (fun v M9 => v = some (.int (ji (hsC M f r p9))) ∧ M9 = M)) a_ s_ 0 0 (wA E)) (F0 m_ 4 ls []) := by
    intro N
    induction N with
    | zero =>
      intro i z ls h0 hz hl
      refine lv_iload_n hx hb dD_hasseSign_4 rfl (lv_at hl 0 rfl) ?_
      refine lv_aload_n hx hb dD_hasseSign_5 rfl (lv_at hl 2 rfl) ?_
      refine m_get (C := "RationalForms$Diagonal") (T := TxD) (N := 8) hx hb hg uwD hown hK hP (by omega) (sh_D E _ (by omega)) rfl 3 (by decide) wd70 rfl dD_hasseSign_6 ?_
      refine j_icmp_ge hx hb (by omega) (by rw [hr3]; omega) dD_hasseSign_9 rfl (fun h1 => ?_) (fun h1 => ?_)
      · have hir : i = r := by omega
        subst hir
        refine lv_iload_n hx hb dD_hasseSign_58 rfl (lv_at hl 1 rfl) ?_
        exact mm_iret hx hb hr hk hP hS dD_hasseSign_59 ⟨by rw [hz]; rfl, rfl⟩
      · omega
    | succ N ih =>
      intro i z ls h0 hz hl
      have inner : ∀ (K n : Nat) (z : Int) (ls : Array Slot), i + 1 + n + K = r → z = hO (fun a b => sy a b p9) (M (19 + f)) r i * hI (fun a b => sy a b p9) (M (19 + f)) i n → lv_has ls 5 [(4, .int (ji (((i+1+n:Nat):Int)))), (3, .int (ji ((i:Int)))), (2, .int (ji z)), (0, .ref (E.2.1 (17 + f))), (1, .int (ji p9))] → W p_ l e_ (rmd 3) s_ m_ a_ b_ t_ c_ s_.heap [] 0 0 (XQ b_ (mmQ E (fun v M9 => v = some (.int (ji (hsC M f r p9))) ∧ M9 = M)) a_ s_ 0 0 (wA E)) (F0 m_ 17 ls []) := by
        intro K
        induction K with
        | zero =>
          intro n z ls h1 hz hl
          refine lv_iload hx hb dD_hasseSign_17 (lv_at hl 0 rfl) ?_
          refine lv_aload_n hx hb dD_hasseSign_19 rfl (lv_at hl 3 rfl) ?_
          refine m_get (C := "RationalForms$Diagonal") (T := TxD) (N := 8) hx hb hg uwD hown hK hP (by omega) (sh_D E _ (by omega)) rfl 3 (by decide) wd70 rfl dD_hasseSign_20 ?_
          refine j_icmp_ge hx hb (by omega) (by rw [hr3]; omega) dD_hasseSign_23 rfl (fun h2 => ?_) (fun h2 => ?_)
          · refine lv_iinc (k := 1) (v := ji (((i:Int)) + 1)) hx hb dD_hasseSign_52 hl rfl (Int32.ofInt_add _ _).symm (by decide) rfl (fun ls hl => ?_)
            have hl : lv_has ls 5 [(3, .int (ji (((i:Int)) + 1))), (4, .int (ji (((i+1+n:Nat):Int)))), (2, .int (ji z)), (0, .ref (E.2.1 (17 + f))), (1, .int (ji p9))] := hl
            refine lv_goto hx hb dD_hasseSign_55 rfl ?_
            refine ih (i + 1) z ls (by omega) ?_ (lv_sub hl [0, 2, 3, 4] rfl)
            rw [hz, show n = r - (i + 1) by omega]; rfl
          · omega
        | succ K ihK =>
          intro n z ls h1 hz hl
          have ta := ht i (by omega)
          have tb := ht (i + 1 + n) (by omega)
          refine lv_iload hx hb dD_hasseSign_17 (lv_at hl 0 rfl) ?_
          refine lv_aload_n hx hb dD_hasseSign_19 rfl (lv_at hl 3 rfl) ?_
          refine m_get (C := "RationalForms$Diagonal") (T := TxD) (N := 8) hx hb hg uwD hown hK hP (by omega) (sh_D E _ (by omega)) rfl 3 (by decide) wd70 rfl dD_hasseSign_20 ?_
          refine j_icmp_ge hx hb (by omega) (by rw [hr3]; omega) dD_hasseSign_23 rfl (fun h2 => ?_) (fun h2 => ?_)
          · omega
          · refine lv_iload_n hx hb dD_hasseSign_26 rfl (lv_at hl 2 rfl) ?_
            refine lv_aload_n hx hb dD_hasseSign_27 rfl (lv_at hl 3 rfl) ?_
            refine m_get (C := "RationalForms$Diagonal") (T := TxD) (N := 8) hx hb hg uwD hown hK hP (by omega) (sh_D E _ (by omega)) rfl 0 (by decide) wd66 rfl dD_hasseSign_28 ?_
            refine lv_iload_n hx hb dD_hasseSign_31 rfl (lv_at hl 1 rfl) ?_
            refine m_lald (n := i) hx hb hK hP (by omega) (sh_t E _ (by omega)) rfl (by omega) (by decide) dD_hasseSign_32 ?_
            refine lv_aload_n hx hb dD_hasseSign_33 rfl (lv_at hl 3 rfl) ?_
            refine m_get (C := "RationalForms$Diagonal") (T := TxD) (N := 8) hx hb hg uwD hown hK hP (by omega) (sh_D E _ (by omega)) rfl 0 (by decide) wd66 rfl dD_hasseSign_34 ?_
            refine lv_iload hx hb dD_hasseSign_37 (lv_at hl 0 rfl) ?_
            refine m_lald (n := i+1+n) hx hb hK hP (by omega) (sh_t E _ (by omega)) rfl (by omega) (by decide) dD_hasseSign_39 ?_
            refine lv_iload_n hx hb dD_hasseSign_40 rfl (lv_at hl 4 rfl) ?_
            refine pm_G (As := [.long (jl (M (19 + f) i)), .long (jl (M (19 + f) (i+1+n))), .int (ji p9)]) (rest := [.int (ji z)]) hx hb hml hown hg hl (kP_symbolOf l (M (19 + f) i) (M (19 + f) (i + 1 + n)) p9 ta.2 tb.2 ta.1 tb.1 hp) wd184 wd185 wd14 wd186 ⟨rfl, rfl⟩ (n := 3) (by decide +kernel) rfl ⟨by decide, by decide⟩ rfl (Nat.le_of_ble_eq_true rfl) dD_hasseSign_41 ⟨Nat.zero_le _, Nat.zero_le _⟩ (fun r hr9 => ?_)
            subst hr9
            refine j_imul hx hb dD_hasseSign_44 ?_
            refine lv_istore_n hx hb dD_hasseSign_45 rfl hl (by decide) rfl (fun ls hl => ?_)
            have hl : lv_has ls 5 [(2, .int (ji (z * (sy (M (19 + f) i) (M (19 + f) (i + 1 + n)) p9)))), (4, .int (ji (((i+1+n:Nat):Int)))), (3, .int (ji ((i:Int)))), (0, .ref (E.2.1 (17 + f))), (1, .int (ji p9))] := hl
            refine lv_iinc (k := 1) (v := ji ((((i+1+n:Nat):Int)) + 1)) hx hb dD_hasseSign_46 hl rfl (Int32.ofInt_add _ _).symm (by decide) rfl (fun ls hl => ?_)
            have hl : lv_has ls 5 [(4, .int (ji ((((i+1+n:Nat):Int)) + 1))), (2, .int (ji (z * (sy (M (19 + f) i) (M (19 + f) (i + 1 + n)) p9)))), (3, .int (ji ((i:Int)))), (0, .ref (E.2.1 (17 + f))), (1, .int (ji p9))] := hl
            refine lv_goto hx hb dD_hasseSign_49 rfl ?_
            exact ihK (n + 1) _ ls (by omega) (by rw [hz, Int.mul_assoc]; rfl) (lv_sub hl [0, 2, 1, 3, 4] rfl)
      refine lv_iload_n hx hb dD_hasseSign_4 rfl (lv_at hl 0 rfl) ?_
      refine lv_aload_n hx hb dD_hasseSign_5 rfl (lv_at hl 2 rfl) ?_
      refine m_get (C := "RationalForms$Diagonal") (T := TxD) (N := 8) hx hb hg uwD hown hK hP (by omega) (sh_D E _ (by omega)) rfl 3 (by decide) wd70 rfl dD_hasseSign_6 ?_
      refine j_icmp_ge hx hb (by omega) (by rw [hr3]; omega) dD_hasseSign_9 rfl (fun h1 => ?_) (fun h1 => ?_)
      · omega
      · refine lv_iload_n hx hb dD_hasseSign_12 rfl (lv_at hl 0 rfl) ?_
        refine j_iconst hx hb dD_hasseSign_13 ?_
        refine j_iadd hx hb dD_hasseSign_14 ?_
        refine lv_istore hx hb dD_hasseSign_15 hl (by decide) rfl (fun ls hl => ?_)
        have hl : lv_has ls 5 [(4, .int (ji (((i:Int)) + 1))), (3, .int (ji ((i:Int)))), (2, .int (ji z)), (0, .ref (E.2.1 (17 + f))), (1, .int (ji p9))] := hl
        exact inner (r - (i + 1)) 0 z ls (by omega) (by rw [hz]; show _ = _ * 1; rw [Int.mul_one]) hl
  refine j_iconst hx hb dD_hasseSign_0 ?_
  refine lv_istore_n hx hb dD_hasseSign_1 rfl hl (by decide) rfl (fun ls hl => ?_)
  have hl : lv_has ls 5 [(2, .int (ji 1)), (0, .ref (E.2.1 (17 + f))), (1, .int (ji p9))] := hl
  refine j_iconst hx hb dD_hasseSign_2 ?_
  refine lv_istore_n hx hb dD_hasseSign_3 rfl hl (by decide) rfl (fun ls hl => ?_)
  have hl : lv_has ls 5 [(3, .int (ji 0)), (2, .int (ji 1)), (0, .ref (E.2.1 (17 + f))), (1, .int (ji p9))] := hl
  exact outer r 0 1 ls (by omega) rfl hl

set_option maxRecDepth 100000 in
set_option maxHeartbeats 4000000 in
theorem kD_hasZeroAt (l : Launch) (E : En) (hJ : wJ E) (M : Me) (f : Nat) (hf : f < 2) (dim r : Nat) (hD : DF M f dim r) (p9 : Int) (hp : plc p9) : MM l yD_hasZeroAt wsD_hasZeroAt (rmd 4) E M [.ref (E.2.1 (17 + f)), .int (ji p9)] (fun v M9 => v = some (.int (ji (bi (zrC M f dim r p9)))) ∧ M9 = M) := by
  refine MM.ofG (by decide +kernel) (Nat.le_of_ble_eq_true rfl) ?_
  intro p_ e_ s_ m_ a_ b_ t_ c_ hx hb hml hr hk hg hown hK hP hS ls hl
  have hl : lv_has ls 2 [(0, .ref (E.2.1 (17 + f))), (1, .int (ji p9))] := hl
  obtain ⟨hG, hle, hdm, hd1, hd5, hD0, hDb, hpo, hne⟩ := id hD
  have hr5 := hG.1
  have hr3 := hG.2.1
  refine lv_aload_n hx hb dD_hasZeroAt_0 rfl (lv_at hl 0 rfl) ?_
  refine m_get (C := "RationalForms$Diagonal") (T := TxD) (N := 8) hx hb hg uwD hown hK hP (by omega) (sh_D E _ (by omega)) rfl 3 (by decide) wd70 rfl dD_hasZeroAt_1 ?_
  refine lv_aload_n hx hb dD_hasZeroAt_4 rfl (lv_at hl 0 rfl) ?_
  refine m_get (C := "RationalForms$Diagonal") (T := TxD) (N := 8) hx hb hg uwD hown hK hP (by omega) (sh_D E _ (by omega)) rfl 2 (by decide) wd68 rfl dD_hasZeroAt_5 ?_
  refine j_icmp_ge hx hb (by rw [hr3]; omega) (by rw [hdm]; omega) dD_hasZeroAt_8 rfl (fun h1 => ?_) (fun h1 => ?_)
  · have hrd : r = dim := by
      rw [hr3, hdm] at h1
      omega
    have hr1 : 1 ≤ r := by omega
    refine lv_aload_n hx hb dD_hasZeroAt_13 rfl (lv_at hl 0 rfl) ?_
    refine m_get (C := "RationalForms$Diagonal") (T := TxD) (N := 8) hx hb hg uwD hown hK hP (by omega) (sh_D E _ (by omega)) rfl 3 (by decide) wd70 rfl dD_hasZeroAt_14 ?_
    rw [hr3]
    have hcase : r = 1 ∨ r = 2 ∨ r = 3 ∨ r = 4 ∨ r = 5 := by omega
    rcases hcase with hc | hc | hc | hc | hc
    · skip
      refine j_tabI (z := (r : Int)) hx hb (by omega) (by omega) (by omega) (by rw [hc]; rfl) dD_hasZeroAt_17 rfl ?_
      refine j_iconst hx hb dD_hasZeroAt_48 ?_
      exact mm_zret hx hb hr hk hP hS dD_hasZeroAt_49 nar_0 ⟨by rw [bi_f (show ¬ zrC M f dim r p9 from fun q => by unfold zrC zr at q; omega)], rfl⟩
    · skip
      refine j_tabI (z := (r : Int)) hx hb (by omega) (by omega) (by omega) (by rw [hc]; rfl) dD_hasZeroAt_17 rfl ?_
      refine lv_aload_n hx hb dD_hasZeroAt_50 rfl (lv_at hl 0 rfl) ?_
      refine m_get (C := "RationalForms$Diagonal") (T := TxD) (N := 8) hx hb hg uwD hown hK hP (by omega) (sh_D E _ (by omega)) rfl 6 (by decide) wd76 rfl dD_hasZeroAt_51 ?_
      refine j_lneg hx hb dD_hasZeroAt_54 ?_
      refine lv_iload_n hx hb dD_hasZeroAt_55 rfl (lv_at hl 1 rfl) ?_
      refine pm_G (As := [.long (jl (-(M (17 + f) 6))), .int (ji p9)]) (rest := []) hx hb hml hown hg hl (kP_isSquare l (-(M (17 + f) 6)) p9 (by omega) (by omega) hp) wd389 wd390 wd14 wd391 ⟨rfl, rfl⟩ (n := 2) (by decide +kernel) rfl ⟨by decide, by decide⟩ rfl (Nat.le_of_ble_eq_true rfl) dD_hasZeroAt_56 ⟨Nat.zero_le _, Nat.zero_le _⟩ (fun r hr9 => ?_)
      subst hr9
      have he : sq (-(M (17 + f) 6)) p9 ↔ zrC M f dim r p9 := ⟨fun q => Or.inr (Or.inl ⟨hc, q⟩), fun q => by rcases q with q | q | q | q | q; omega; exact q.2; omega; omega; omega⟩
      exact mm_zret hx hb hr hk hP hS dD_hasZeroAt_59 (nar_bi _) ⟨by rw [bi_iff he], rfl⟩
    · skip
      refine j_tabI (z := (r : Int)) hx hb (by omega) (by omega) (by omega) (by rw [hc]; rfl) dD_hasZeroAt_17 rfl ?_
      refine lv_aload_n hx hb dD_hasZeroAt_60 rfl (lv_at hl 0 rfl) ?_
      refine lv_iload_n hx hb dD_hasZeroAt_61 rfl (lv_at hl 1 rfl) ?_
      refine mm_V (As := [.int (ji p9)]) (rest := []) hx hb hml hown hg hl hK hP hS (by omega) (sh_D E _ (by omega)) rfl (kD_hasseSign l E hJ M f hf r hG p9 hp) wd211 wd181 wd182 wd4 wd183 ⟨rfl, rfl⟩ (n := 1) (by decide +kernel) rfl ⟨by decide, by decide⟩ rfl (Nat.le_of_ble_eq_true rfl) dD_hasZeroAt_62 ⟨Nat.zero_le _, Nat.zero_le _⟩ (fun v M2 H locs hq hP hS => ?_)
      obtain ⟨rfl, hM2⟩ := hq
      rw [hM2] at hP
      refine j_ldc2 (z := -1) hx hb hown hg wd392 rfl dD_hasZeroAt_65 ?_
      refine lv_aload_n hx hb dD_hasZeroAt_68 rfl (lv_at hl 0 rfl) ?_
      refine m_get (C := "RationalForms$Diagonal") (T := TxD) (N := 8) hx hb hg uwD hown hK hP (by omega) (sh_D E _ (by omega)) rfl 6 (by decide) wd76 rfl dD_hasZeroAt_69 ?_
      refine j_lneg hx hb dD_hasZeroAt_72 ?_
      refine lv_iload_n hx hb dD_hasZeroAt_73 rfl (lv_at hl 1 rfl) ?_
      refine pm_G (As := [.long (jl (-1)), .long (jl (-(M (17 + f) 6))), .int (ji p9)]) (rest := [.int (ji (hsC M f r p9))]) hx hb hml hown hg hl (kP_symbolOf l (-1) (-(M (17 + f) 6)) p9 (by decide) (by omega) (by decide) (by omega) hp) wd184 wd185 wd14 wd186 ⟨rfl, rfl⟩ (n := 3) (by decide +kernel) rfl ⟨by decide, by decide⟩ rfl (Nat.le_of_ble_eq_true rfl) dD_hasZeroAt_74 ⟨Nat.zero_le _, Nat.zero_le _⟩ (fun r hr9 => ?_)
      subst hr9
      refine j_icmp_ne hx hb (pm1_b32 (hs_pm (fun a b => sy_pm a b p9) _ _)) (pm1_b32 (sy_pm _ _ _)) dD_hasZeroAt_77 rfl (fun h2 => ?_) (fun h2 => ?_)
      · refine j_iconst hx hb dD_hasZeroAt_84 ?_
        exact mm_zret hx hb hr hk hP hS dD_hasZeroAt_85 nar_0 ⟨by rw [bi_f (show ¬ zrC M f dim r p9 from fun q => by rcases q with q | q | q | q | q; omega; omega; exact h2 q.2; omega; omega)], rfl⟩
      · refine j_iconst hx hb dD_hasZeroAt_80 ?_
        refine lv_goto hx hb dD_hasZeroAt_81 rfl ?_
        exact mm_zret hx hb hr hk hP hS dD_hasZeroAt_85 nar_1 ⟨by rw [bi_t (show zrC M f dim r p9 from Or.inr (Or.inr (Or.inl ⟨hc, h2⟩)))], rfl⟩
    · skip
      refine j_tabI (z := (r : Int)) hx hb (by omega) (by omega) (by omega) (by rw [hc]; rfl) dD_hasZeroAt_17 rfl ?_
      refine lv_aload_n hx hb dD_hasZeroAt_86 rfl (lv_at hl 0 rfl) ?_
      refine m_get (C := "RationalForms$Diagonal") (T := TxD) (N := 8) hx hb hg uwD hown hK hP (by omega) (sh_D E _ (by omega)) rfl 6 (by decide) wd76 rfl dD_hasZeroAt_87 ?_
      refine lv_iload_n hx hb dD_hasZeroAt_90 rfl (lv_at hl 1 rfl) ?_
      refine pm_G (As := [.long (jl (M (17 + f) 6)), .int (ji p9)]) (rest := []) hx hb hml hown hg hl (kP_isSquare l (M (17 + f) 6) p9 (by omega) hD0 hp) wd389 wd390 wd14 wd391 ⟨rfl, rfl⟩ (n := 2) (by decide +kernel) rfl ⟨by decide, by decide⟩ rfl (Nat.le_of_ble_eq_true rfl) dD_hasZeroAt_91 ⟨Nat.zero_le _, Nat.zero_le _⟩ (fun r hr9 => ?_)
      subst hr9
      refine j_if_eq hx hb (bi_b32 _) dD_hasZeroAt_94 rfl (fun h2 => ?_) (fun h2 => ?_)
      · refine j_iconst hx hb dD_hasZeroAt_115 ?_
        refine lv_goto hx hb dD_hasZeroAt_116 rfl ?_
        exact mm_zret hx hb hr hk hP hS dD_hasZeroAt_120 nar_1 ⟨by rw [bi_t (show zrC M f dim r p9 from Or.inr (Or.inr (Or.inr (Or.inl ⟨hc, Or.inl (bi_eq h2)⟩))))], rfl⟩
      · have hsq := bi_ne h2
        refine lv_aload_n hx hb dD_hasZeroAt_97 rfl (lv_at hl 0 rfl) ?_
        refine lv_iload_n hx hb dD_hasZeroAt_98 rfl (lv_at hl 1 rfl) ?_
        refine mm_V (As := [.int (ji p9)]) (rest := []) hx hb hml hown hg hl hK hP hS (by omega) (sh_D E _ (by omega)) rfl (kD_hasseSign l E hJ M f hf r hG p9 hp) wd211 wd181 wd182 wd4 wd183 ⟨rfl, rfl⟩ (n := 1) (by decide +kernel) rfl ⟨by decide, by decide⟩ rfl (Nat.le_of_ble_eq_true rfl) dD_hasZeroAt_99 ⟨Nat.zero_le _, Nat.zero_le _⟩ (fun v M2 H locs hq hP hS => ?_)
        obtain ⟨rfl, hM2⟩ := hq
        rw [hM2] at hP
        refine j_ldc2 (z := -1) hx hb hown hg wd392 rfl dD_hasZeroAt_102 ?_
        refine j_ldc2 (z := -1) hx hb hown hg wd392 rfl dD_hasZeroAt_105 ?_
        refine lv_iload_n hx hb dD_hasZeroAt_108 rfl (lv_at hl 1 rfl) ?_
        refine pm_G (As := [.long (jl (-1)), .long (jl (-1)), .int (ji p9)]) (rest := [.int (ji (hsC M f r p9))]) hx hb hml hown hg hl (kP_symbolOf l (-1) (-1) p9 (by decide) (by decide) (by decide) (by decide) hp) wd184 wd185 wd14 wd186 ⟨rfl, rfl⟩ (n := 3) (by decide +kernel) rfl ⟨by decide, by decide⟩ rfl (Nat.le_of_ble_eq_true rfl) dD_hasZeroAt_109 ⟨Nat.zero_le _, Nat.zero_le _⟩ (fun r hr9 => ?_)
        subst hr9
        refine j_icmp_ne hx hb (pm1_b32 (hs_pm (fun a b => sy_pm a b p9) _ _)) (pm1_b32 (sy_pm _ _ _)) dD_hasZeroAt_112 rfl (fun h3 => ?_) (fun h3 => ?_)
        · refine j_iconst hx hb dD_hasZeroAt_119 ?_
          exact mm_zret hx hb hr hk hP hS dD_hasZeroAt_120 nar_0 ⟨by rw [bi_f (show ¬ zrC M f dim r p9 from fun q => by rcases q with q | q | q | q | q; omega; omega; omega; exact q.2.elim (fun z => z hsq) h3; omega)], rfl⟩
        · refine j_iconst hx hb dD_hasZeroAt_115 ?_
          refine lv_goto hx hb dD_hasZeroAt_116 rfl ?_
          exact mm_zret hx hb hr hk hP hS dD_hasZeroAt_120 nar_1 ⟨by rw [bi_t (show zrC M f dim r p9 from Or.inr (Or.inr (Or.inr (Or.inl ⟨hc, Or.inr h3⟩))))], rfl⟩
    · skip
      refine j_tabO (z := (r : Int)) hx hb (by omega) (by omega) dD_hasZeroAt_17 rfl ?_
      refine lv_iload_n hx hb dD_hasZeroAt_121 rfl (lv_at hl 1 rfl) ?_
      refine j_if_ne hx hb (by omega) dD_hasZeroAt_122 rfl (fun h2 => ?_) (fun h2 => ?_)
      · refine j_iconst hx hb dD_hasZeroAt_139 ?_
        refine lv_goto hx hb dD_hasZeroAt_140 rfl ?_
        exact mm_zret hx hb hr hk hP hS dD_hasZeroAt_144 nar_1 ⟨by rw [bi_t (show zrC M f dim r p9 from Or.inr (Or.inr (Or.inr (Or.inr ⟨by omega, Or.inl h2⟩))))], rfl⟩
      · refine lv_aload_n hx hb dD_hasZeroAt_125 rfl (lv_at hl 0 rfl) ?_
        refine m_get (C := "RationalForms$Diagonal") (T := TxD) (N := 8) hx hb hg uwD hown hK hP (by omega) (sh_D E _ (by omega)) rfl 4 (by decide) wd72 rfl dD_hasZeroAt_126 ?_
        refine j_if_le hx hb hpo dD_hasZeroAt_129 rfl (fun h3 => ?_) (fun h3 => ?_)
        · refine j_iconst hx hb dD_hasZeroAt_143 ?_
          exact mm_zret hx hb hr hk hP hS dD_hasZeroAt_144 nar_0 ⟨by rw [bi_f (show ¬ zrC M f dim r p9 from fun q => by rcases q with q | q | q | q | q; omega; omega; omega; omega; omega)], rfl⟩
        · refine lv_aload_n hx hb dD_hasZeroAt_132 rfl (lv_at hl 0 rfl) ?_
          refine m_get (C := "RationalForms$Diagonal") (T := TxD) (N := 8) hx hb hg uwD hown hK hP (by omega) (sh_D E _ (by omega)) rfl 5 (by decide) wd74 rfl dD_hasZeroAt_133 ?_
          refine j_if_le hx hb hne dD_hasZeroAt_136 rfl (fun h4 => ?_) (fun h4 => ?_)
          · refine j_iconst hx hb dD_hasZeroAt_143 ?_
            exact mm_zret hx hb hr hk hP hS dD_hasZeroAt_144 nar_0 ⟨by rw [bi_f (show ¬ zrC M f dim r p9 from fun q => by rcases q with q | q | q | q | q; omega; omega; omega; omega; omega)], rfl⟩
          · refine j_iconst hx hb dD_hasZeroAt_139 ?_
            refine lv_goto hx hb dD_hasZeroAt_140 rfl ?_
            exact mm_zret hx hb hr hk hP hS dD_hasZeroAt_144 nar_1 ⟨by rw [bi_t (show zrC M f dim r p9 from Or.inr (Or.inr (Or.inr (Or.inr ⟨by omega, Or.inr ⟨h3, h4⟩⟩))))], rfl⟩
  · rw [hr3, hdm] at h1
    refine j_iconst hx hb dD_hasZeroAt_11 ?_
    exact mm_zret hx hb hr hk hP hS dD_hasZeroAt_12 nar_1 ⟨by rw [bi_t (show zrC M f dim r p9 from Or.inl (by omega))], rfl⟩

set_option maxRecDepth 100000 in
set_option maxHeartbeats 4000000 in
theorem kD_lowestPrimeWithoutRoot (l : Launch) (E : En) (hJ : wJ E) (M : Me) (f : Nat) (hf : f < 2) (hD0 : M (17 + f) 6 ≠ 0) (hDb : -9223372036854775807 ≤ M (17 + f) 6 ∧ M (17 + f) 6 ≤ 9223372036854775807) (h : Nat) (hh : h ≤ 2147483647) (h2 : 2 ≤ h) : MM l yD_lowestPrimeWithoutRoot wsD_lowestPrimeWithoutRoot (rmd 3) E M [.ref (E.2.1 (17 + f)), .int (ji ((h:Int)))] (fun v M9 => (∃ w : Nat, v = some (.int (ji w)) ∧ lpr (M (17 + f) 6) h w) ∧ M9 = M) := by
  refine MM.ofG (by decide +kernel) (Nat.le_of_ble_eq_true rfl) ?_
  intro p_ e_ s_ m_ a_ b_ t_ c_ hx hb hml hr hk hg hown hK hP hS ls hl
  have hl : lv_has ls 3 [(0, .ref (E.2.1 (17 + f))), (1, .int (ji ((h:Int))))] := hl
  have loop : ∀ (N i : Nat) (ls : Array Slot), i + N = h → 2 ≤ i → (∀ m : Nat, m < i → prm m → sq (-(M (17 + f) 6)) m) → lv_has ls 3 [(2, .int (ji ((i:Int)))), (0, .ref (E.2.1 (17 + f))), (1, .int (ji ((h:Int))))] → W p_ l e_ (rmd 3) s_ m_ a_ b_ t_ c_ s_.heap [] 0 0 (XQ b_ (mmQ E (fun v M9 => (∃ w : Nat, v = some (.int (ji w)) ∧ lpr (M (17 + f) 6) h w) ∧ M9 = M)) a_ s_ 0 0 (wA E)) (F0 m_ 2 ls []) := by
    intro N
    induction N with
    | zero =>
      intro i ls h0 hi2 hz hl
      refine lv_iload_n hx hb dD_lowestPrimeWithoutRoot_2 rfl (lv_at hl 0 rfl) ?_
      refine lv_iload_n hx hb dD_lowestPrimeWithoutRoot_3 rfl (lv_at hl 2 rfl) ?_
      refine j_icmp_ge hx hb (by omega) (by omega) dD_lowestPrimeWithoutRoot_4 rfl (fun h1 => ?_) (fun h1 => ?_)
      · have hih : i = h := by omega
        refine lv_iload_n hx hb dD_lowestPrimeWithoutRoot_34 rfl (lv_at hl 2 rfl) ?_
        exact mm_iret hx hb hr hk hP hS dD_lowestPrimeWithoutRoot_35 ⟨⟨h, rfl, Or.inr ⟨rfl, by rw [← hih]; exact hz⟩⟩, rfl⟩
      · omega
    | succ N ih =>
      intro i ls h0 hi2 hz hl
      refine lv_iload_n hx hb dD_lowestPrimeWithoutRoot_2 rfl (lv_at hl 0 rfl) ?_
      refine lv_iload_n hx hb dD_lowestPrimeWithoutRoot_3 rfl (lv_at hl 2 rfl) ?_
      refine j_icmp_ge hx hb (by omega) (by omega) dD_lowestPrimeWithoutRoot_4 rfl (fun h1 => ?_) (fun h1 => ?_)
      · omega
      · refine lv_iload_n hx hb dD_lowestPrimeWithoutRoot_7 rfl (lv_at hl 0 rfl) ?_
        refine pm_G (As := [.int (ji ((i:Int)))]) (rest := []) hx hb hml hown hg hl (kW_isPrime l (i : Int) (by omega)) wd409 wd367 wd11 wd368 ⟨rfl, rfl⟩ (n := 1) (by decide +kernel) rfl ⟨by decide, by decide⟩ rfl (Nat.le_of_ble_eq_true rfl) dD_lowestPrimeWithoutRoot_8 ⟨Nat.zero_le _, Nat.zero_le _⟩ (fun r hr9 => ?_)
        subst hr9
        refine j_if_eq hx hb (bi_b32 _) dD_lowestPrimeWithoutRoot_11 rfl (fun h3 => ?_) (fun h3 => ?_)
        · refine lv_iinc (k := 0) (v := ji (((i:Int)) + 1)) hx hb dD_lowestPrimeWithoutRoot_28 hl rfl (Int32.ofInt_add _ _).symm (by decide) rfl (fun ls hl => ?_)
          have hl : lv_has ls 3 [(2, .int (ji (((i:Int)) + 1))), (0, .ref (E.2.1 (17 + f))), (1, .int (ji ((h:Int))))] := hl
          refine lv_goto hx hb dD_lowestPrimeWithoutRoot_31 rfl ?_
          refine ih (i + 1) ls (by omega) (by omega) (fun m hm hp => ?_) hl
          rcases Nat.lt_or_ge m i with g | g
          · exact hz m g hp
          · have hmi : m = i := by omega
            subst hmi
            exact absurd hp (by have := bi_eq h3; rwa [Int.toNat_natCast] at this)
        · have hpi : prm i := by have := bi_ne h3; rwa [Int.toNat_natCast] at this
          refine lv_aload_n hx hb dD_lowestPrimeWithoutRoot_14 rfl (lv_at hl 1 rfl) ?_
          refine m_get (C := "RationalForms$Diagonal") (T := TxD) (N := 8) hx hb hg uwD hown hK hP (by omega) (sh_D E _ (by omega)) rfl 6 (by decide) wd76 rfl dD_lowestPrimeWithoutRoot_15 ?_
          refine j_lneg hx hb dD_lowestPrimeWithoutRoot_18 ?_
          refine lv_iload_n hx hb dD_lowestPrimeWithoutRoot_19 rfl (lv_at hl 0 rfl) ?_
          refine pm_G (As := [.long (jl (-(M (17 + f) 6))), .int (ji ((i:Int)))]) (rest := []) hx hb hml hown hg hl (kP_isSquare l (-(M (17 + f) 6)) (i : Int) (by omega) (by omega) (Or.inr (by omega))) wd389 wd390 wd14 wd391 ⟨rfl, rfl⟩ (n := 2) (by decide +kernel) rfl ⟨by decide, by decide⟩ rfl (Nat.le_of_ble_eq_true rfl) dD_lowestPrimeWithoutRoot_20 ⟨Nat.zero_le _, Nat.zero_le _⟩ (fun r hr9 => ?_)
          subst hr9
          refine j_if_ne hx hb (bi_b32 _) dD_lowestPrimeWithoutRoot_23 rfl (fun h4 => ?_) (fun h4 => ?_)
          · have hs4 := bi_ne h4
            refine lv_iinc (k := 0) (v := ji (((i:Int)) + 1)) hx hb dD_lowestPrimeWithoutRoot_28 hl rfl (Int32.ofInt_add _ _).symm (by decide) rfl (fun ls hl => ?_)
            have hl : lv_has ls 3 [(2, .int (ji (((i:Int)) + 1))), (0, .ref (E.2.1 (17 + f))), (1, .int (ji ((h:Int))))] := hl
            refine lv_goto hx hb dD_lowestPrimeWithoutRoot_31 rfl ?_
            refine ih (i + 1) ls (by omega) (by omega) (fun m hm hp => ?_) hl
            rcases Nat.lt_or_ge m i with g | g
            · exact hz m g hp
            · have hmi : m = i := by omega
              subst hmi
              exact hs4
          · have hs4 := bi_eq h4
            refine lv_iload_n hx hb dD_lowestPrimeWithoutRoot_26 rfl (lv_at hl 0 rfl) ?_
            exact mm_iret hx hb hr hk hP hS dD_lowestPrimeWithoutRoot_27 ⟨⟨i, rfl, Or.inl ⟨by omega, hpi, hs4, hz⟩⟩, rfl⟩
  refine j_iconst hx hb dD_lowestPrimeWithoutRoot_0 ?_
  refine lv_istore_n hx hb dD_lowestPrimeWithoutRoot_1 rfl hl (by decide) rfl (fun ls hl => ?_)
  have hl : lv_has ls 3 [(2, .int (ji 2)), (0, .ref (E.2.1 (17 + f))), (1, .int (ji ((h:Int))))] := hl
  exact loop (h - 2) 2 ls (by omega) (by omega) (fun m hm hp => absurd hp.1 (by omega)) hl

set_option maxRecDepth 100000 in
set_option maxHeartbeats 4000000 in
theorem kD_lowestPlaceWithoutZero (l : Launch) (E : En) (hJ : wJ E) (M : Me) (f : Nat) (hf : f < 2) (dim r : Nat) (hD : DF M f dim r) (c : Nat) (hc : M (17 + f) 7 = c) (hc2 : c ≤ 32) (S : Nat → Prop) (hS0 : SL c (M (21 + f)) S) (hb0 : ∀ q, S q → 2 ≤ q ∧ q ≤ 2147483647) : MM l yD_lowestPlaceWithoutZero wsD_lowestPlaceWithoutZero (rmd 5) E M [.ref (E.2.1 (17 + f))] (fun v M9 => (∃ z : Int, v = some (.int (ji z)) ∧ b32 z ∧ lpz S (zrC M f dim r) r (M (17 + f) 6) z) ∧ M9 = M) := by
  refine MM.ofG (by decide +kernel) (Nat.le_of_ble_eq_true rfl) ?_
  intro p_ e_ s_ m_ a_ b_ t_ c_ hx hb hml hr hk hg hown hK hP hS ls hl
  have hl : lv_has ls 2 [(0, .ref (E.2.1 (17 + f)))] := hl
  have hr3 := hD.1.2.1
  have hr5 := hD.1.1
  refine lv_aload_n hx hb dD_lowestPlaceWithoutZero_0 rfl (lv_at hl 0 rfl) ?_
  refine j_iconst hx hb dD_lowestPlaceWithoutZero_1 ?_
  refine mm_V (As := [.int (ji 0)]) (rest := []) hx hb hml hown hg hl hK hP hS (by omega) (sh_D E _ (by omega)) rfl (kD_hasZeroAt l E hJ M f hf dim r hD 0 (Or.inl rfl)) wd404 wd386 wd387 wd4 wd388 ⟨rfl, rfl⟩ (n := 1) (by decide +kernel) rfl ⟨by decide, by decide⟩ rfl (Nat.le_of_ble_eq_true rfl) dD_lowestPlaceWithoutZero_2 ⟨Nat.zero_le _, Nat.zero_le _⟩ (fun v M2 H locs hq hP hS => ?_)
  obtain ⟨rfl, hM2⟩ := hq
  rw [hM2] at hP
  refine j_if_ne hx hb (bi_b32 _) dD_lowestPlaceWithoutZero_5 rfl (fun h1 => ?_) (fun h1 => ?_)
  · have hz0 := bi_ne h1
    have loop : ∀ (N i : Nat) (ls : Array Slot) (H : Heap) (locs : List Loc), i + N = c → (∀ q, S q → (∃ j, j < i ∧ M (21 + f) j = q) → zrC M f dim r q) → lv_has ls 2 [(1, .int (ji ((i:Int)))), (0, .ref (E.2.1 (17 + f)))] → wP E M H → va_S (wA E) s_.heap H locs → W p_ l e_ (rmd 5) s_ m_ a_ b_ t_ c_ H locs 0 0 (XQ b_ (mmQ E (fun v M9 => (∃ z : Int, v = some (.int (ji z)) ∧ b32 z ∧ lpz S (zrC M f dim r) r (M (17 + f) 6) z) ∧ M9 = M)) a_ s_ 0 0 (wA E)) (F0 m_ 12 ls []) := by
      intro N
      induction N with
      | zero =>
        intro i ls H locs h0 hz hl hP hS
        refine lv_iload_n hx hb dD_lowestPlaceWithoutZero_12 rfl (lv_at hl 0 rfl) ?_
        refine lv_aload_n hx hb dD_lowestPlaceWithoutZero_13 rfl (lv_at hl 1 rfl) ?_
        refine m_get (C := "RationalForms$Diagonal") (T := TxD) (N := 8) hx hb hg uwD hown hK hP (by omega) (sh_D E _ (by omega)) rfl 7 (by decide) wd78 rfl dD_lowestPlaceWithoutZero_14 ?_
        refine j_icmp_ge hx hb (by omega) (by rw [hc]; omega) dD_lowestPlaceWithoutZero_17 rfl (fun h2 => ?_) (fun h2 => ?_)
        · have hall : ∀ q : Nat, S q → zrC M f dim r q := fun q hq => by
            obtain ⟨j, j1, j2⟩ := hS0.2.2 q hq
            exact hz q hq ⟨j, by omega, j2⟩
          refine j_iconst hx hb dD_lowestPlaceWithoutZero_67 ?_
          exact mm_iret hx hb hr hk hP hS dD_lowestPlaceWithoutZero_68 ⟨⟨-1, rfl, by decide, fun g => absurd hz0 g, fun _ _ => rfl, fun _ q g1 g2 => absurd (hall q g1) g2⟩, rfl⟩
        · rw [hc] at h2
          omega
      | succ N ih =>
        intro i ls H locs h0 hz hl hP hS
        obtain ⟨q, q1, q2⟩ := hS0.2.1 i (by omega)
        have hpl : plc (M (21 + f) i) := by rw [q1]; have := hb0 q q2; right; omega
        have hbq := hb0 q q2
        refine lv_iload_n hx hb dD_lowestPlaceWithoutZero_12 rfl (lv_at hl 0 rfl) ?_
        refine lv_aload_n hx hb dD_lowestPlaceWithoutZero_13 rfl (lv_at hl 1 rfl) ?_
        refine m_get (C := "RationalForms$Diagonal") (T := TxD) (N := 8) hx hb hg uwD hown hK hP (by omega) (sh_D E _ (by omega)) rfl 7 (by decide) wd78 rfl dD_lowestPlaceWithoutZero_14 ?_
        refine j_icmp_ge hx hb (by omega) (by rw [hc]; omega) dD_lowestPlaceWithoutZero_17 rfl (fun h2 => ?_) (fun h2 => ?_)
        · rw [hc] at h2
          omega
        · refine lv_aload_n hx hb dD_lowestPlaceWithoutZero_20 rfl (lv_at hl 1 rfl) ?_
          refine lv_aload_n hx hb dD_lowestPlaceWithoutZero_21 rfl (lv_at hl 1 rfl) ?_
          refine m_get (C := "RationalForms$Diagonal") (T := TxD) (N := 8) hx hb hg uwD hown hK hP (by omega) (sh_D E _ (by omega)) rfl 1 (by decide) wd67 rfl dD_lowestPlaceWithoutZero_22 ?_
          refine lv_iload_n hx hb dD_lowestPlaceWithoutZero_25 rfl (lv_at hl 0 rfl) ?_
          refine m_iald (n := i) hx hb hK hP (by omega) (sh_p E _ (by omega)) rfl (by omega) (by decide) dD_lowestPlaceWithoutZero_26 ?_
          refine mm_V (As := [.int (ji (M (21 + f) i))]) (rest := []) hx hb hml hown hg hl hK hP hS (by omega) (sh_D E _ (by omega)) rfl (kD_hasZeroAt l E hJ M f hf dim r hD (M (21 + f) i) hpl) wd404 wd386 wd387 wd4 wd388 ⟨rfl, rfl⟩ (n := 1) (by decide +kernel) rfl ⟨by decide, by decide⟩ rfl (Nat.le_of_ble_eq_true rfl) dD_lowestPlaceWithoutZero_27 ⟨Nat.zero_le _, Nat.zero_le _⟩ (fun v M3 H locs hq3 hP hS => ?_)
          obtain ⟨rfl, hM3⟩ := hq3
          rw [hM3] at hP
          refine j_if_ne hx hb (bi_b32 _) dD_lowestPlaceWithoutZero_30 rfl (fun h3 => ?_) (fun h3 => ?_)
          · have hz3 := bi_ne h3
            refine lv_iinc (k := 0) (v := ji (((i:Int)) + 1)) hx hb dD_lowestPlaceWithoutZero_61 hl rfl (Int32.ofInt_add _ _).symm (by decide) rfl (fun ls hl => ?_)
            have hl : lv_has ls 2 [(1, .int (ji (((i:Int)) + 1))), (0, .ref (E.2.1 (17 + f)))] := hl
            refine lv_goto hx hb dD_lowestPlaceWithoutZero_64 rfl ?_
            refine ih (i + 1) ls H locs (by omega) (fun m hm hj => ?_) hl hP hS
            obtain ⟨j, j1, j2⟩ := hj
            rcases Nat.lt_or_ge j i with g | g
            · exact hz m hm ⟨j, g, j2⟩
            · have hji : j = i := by omega
              rw [hji] at j2
              rw [← j2]
              exact hz3
          · have hz3 := bi_eq h3
            rw [q1] at hz3
            have hlow : ∀ m : Nat, S m → m < q → zrC M f dim r m := fun m hm hlt => by
              obtain ⟨j, j1, j2⟩ := hS0.2.2 m hm
              refine hz m hm ⟨j, ?_, j2⟩
              rcases Nat.lt_or_ge j i with g | g
              · exact g
              · rcases Nat.lt_or_ge i j with g4 | g4
                · have := hS0.1 i j g4 j1
                  omega
                · have hji : j = i := by omega
                  rw [hji] at j2
                  omega
            have huq : ∀ q' : Nat, S q' → ¬ zrC M f dim r q' → (∀ m : Nat, S m → m < q' → zrC M f dim r m) → q' = q := fun q' g1 g2 g3 => by
              rcases Nat.lt_trichotomy q' q with g | g | g
              · exact absurd (hlow q' g1 g) g2
              · exact g
              · exact absurd (g3 q q2 g) hz3
            refine lv_aload_n hx hb dD_lowestPlaceWithoutZero_33 rfl (lv_at hl 1 rfl) ?_
            refine m_get (C := "RationalForms$Diagonal") (T := TxD) (N := 8) hx hb hg uwD hown hK hP (by omega) (sh_D E _ (by omega)) rfl 3 (by decide) wd70 rfl dD_lowestPlaceWithoutZero_34 ?_
            refine j_iconst hx hb dD_lowestPlaceWithoutZero_37 ?_
            refine j_icmp_ne hx hb (by rw [hr3]; omega) (by decide) dD_lowestPlaceWithoutZero_38 rfl (fun h4 => ?_) (fun h4 => ?_)
            · refine lv_aload_n hx hb dD_lowestPlaceWithoutZero_54 rfl (lv_at hl 1 rfl) ?_
              refine m_get (C := "RationalForms$Diagonal") (T := TxD) (N := 8) hx hb hg uwD hown hK hP (by omega) (sh_D E _ (by omega)) rfl 1 (by decide) wd67 rfl dD_lowestPlaceWithoutZero_55 ?_
              refine lv_iload_n hx hb dD_lowestPlaceWithoutZero_58 rfl (lv_at hl 0 rfl) ?_
              refine m_iald (n := i) hx hb hK hP (by omega) (sh_p E _ (by omega)) rfl (by omega) (by decide) dD_lowestPlaceWithoutZero_59 ?_
              exact mm_iret hx hb hr hk hP hS dD_lowestPlaceWithoutZero_60 ⟨⟨M (21 + f) i, rfl, by omega, fun g => absurd hz0 g, fun _ g => absurd (g q q2) hz3, fun _ q' g1 g2 g3 => ⟨fun _ => by rw [huq q' g1 g2 g3]; exact q1, fun g => absurd (show M (17 + f) 3 = 2 by rw [hr3, g]; rfl) h4⟩⟩, rfl⟩
            · refine lv_aload_n hx hb dD_lowestPlaceWithoutZero_41 rfl (lv_at hl 1 rfl) ?_
              refine lv_aload_n hx hb dD_lowestPlaceWithoutZero_42 rfl (lv_at hl 1 rfl) ?_
              refine m_get (C := "RationalForms$Diagonal") (T := TxD) (N := 8) hx hb hg uwD hown hK hP (by omega) (sh_D E _ (by omega)) rfl 1 (by decide) wd67 rfl dD_lowestPlaceWithoutZero_43 ?_
              refine lv_iload_n hx hb dD_lowestPlaceWithoutZero_46 rfl (lv_at hl 0 rfl) ?_
              refine m_iald (n := i) hx hb hK hP (by omega) (sh_p E _ (by omega)) rfl (by omega) (by decide) dD_lowestPlaceWithoutZero_47 ?_
              rw [q1]
              refine mm_V (As := [.int (ji ((q:Int)))]) (rest := []) hx hb hml hown hg hl hK hP hS (by omega) (sh_D E _ (by omega)) rfl (kD_lowestPrimeWithoutRoot l E hJ M f hf hD.2.2.2.2.2.1 hD.2.2.2.2.2.2.1 q (by omega) (by omega)) wd405 wd407 wds10 wd4 wd408 ⟨rfl, rfl⟩ (n := 1) (by decide +kernel) rfl ⟨by decide, by decide⟩ rfl (Nat.le_of_ble_eq_true rfl) dD_lowestPlaceWithoutZero_48 ⟨Nat.zero_le _, Nat.zero_le _⟩ (fun v M4 H locs hq4 hP hS => ?_)
              obtain ⟨⟨w, rfl, hw⟩, hM4⟩ := hq4
              rw [hM4] at hP
              refine lv_goto hx hb dD_lowestPlaceWithoutZero_51 rfl ?_
              exact mm_iret hx hb hr hk hP hS dD_lowestPlaceWithoutZero_60 ⟨⟨w, rfl, by rcases hw with hw | hw <;> omega, fun g => absurd hz0 g, fun _ g => absurd (g q q2) hz3, fun _ q' g1 g2 g3 => ⟨fun g => absurd (show r = 2 by rw [hr3] at h4; omega) g, fun _ => ⟨w, rfl, by rw [huq q' g1 g2 g3]; exact hw⟩⟩⟩, rfl⟩
    refine j_iconst hx hb dD_lowestPlaceWithoutZero_10 ?_
    refine lv_istore_n hx hb dD_lowestPlaceWithoutZero_11 rfl hl (by decide) rfl (fun ls hl => ?_)
    have hl : lv_has ls 2 [(1, .int (ji 0)), (0, .ref (E.2.1 (17 + f)))] := hl
    exact loop c 0 ls H locs (by omega) (fun q _ hj => by obtain ⟨j, j1, _⟩ := hj; omega) hl hP hS
  · have hz0 := bi_eq h1
    refine j_iconst hx hb dD_lowestPlaceWithoutZero_8 ?_
    exact mm_iret hx hb hr hk hP hS dD_lowestPlaceWithoutZero_9 ⟨⟨0, rfl, by decide, fun _ => rfl, fun g => absurd g hz0, fun g => absurd g hz0⟩, rfl⟩

set_option maxRecDepth 100000 in
set_option maxHeartbeats 4000000 in
theorem kD_agreesAtOwnPrimes (l : Launch) (E : En) (hJ : wJ E) (M : Me) (f f9 : Nat) (hf : f < 2) (hf9 : f9 < 2) (r r9 : Nat) (hG : DG M f r) (hG9 : DG M f9 r9) (c : Nat) (hc : M (17 + f) 7 = c) (hc2 : c ≤ 32) (S : Nat → Prop) (hS0 : SL c (M (21 + f)) S) (hb0 : ∀ q, S q → 2 ≤ q ∧ q ≤ 2147483647) : MM l yD_agreesAtOwnPrimes wsD_agreesAtOwnPrimes (rmd 4) E M [.ref (E.2.1 (17 + f)), .ref (E.2.1 (17 + f9))] (fun v M9 => v = some (.int (ji (bi (∀ q : Nat, S q → hsC M f r q = hsC M f9 r9 q)))) ∧ M9 = M) := by
  refine MM.ofG (by decide +kernel) (Nat.le_of_ble_eq_true rfl) ?_
  intro p_ e_ s_ m_ a_ b_ t_ c_ hx hb hml hr hk hg hown hK hP hS ls hl
  have hl : lv_has ls 3 [(0, .ref (E.2.1 (17 + f))), (1, .ref (E.2.1 (17 + f9)))] := hl
  have loop : ∀ (N i : Nat) (ls : Array Slot) (H : Heap) (locs : List Loc), i + N = c → (∀ q : Nat, S q → (∃ j, j < i ∧ M (21 + f) j = q) → hsC M f r q = hsC M f9 r9 q) → lv_has ls 3 [(2, .int (ji ((i:Int)))), (0, .ref (E.2.1 (17 + f))), (1, .ref (E.2.1 (17 + f9)))] → wP E M H → va_S (wA E) s_.heap H locs → W p_ l e_ (rmd 4) s_ m_ a_ b_ t_ c_ H locs 0 0 (XQ b_ (mmQ E (fun v M9 => v = some (.int (ji (bi (∀ q : Nat, S q → hsC M f r q = hsC M f9 r9 q)))) ∧ M9 = M)) a_ s_ 0 0 (wA E)) (F0 m_ 2 ls []) := by
    intro N
    induction N with
    | zero =>
      intro i ls H locs h0 hz hl hP hS
      refine lv_iload_n hx hb dD_agreesAtOwnPrimes_2 rfl (lv_at hl 0 rfl) ?_
      refine lv_aload_n hx hb dD_agreesAtOwnPrimes_3 rfl (lv_at hl 1 rfl) ?_
      refine m_get (C := "RationalForms$Diagonal") (T := TxD) (N := 8) hx hb hg uwD hown hK hP (by omega) (sh_D E _ (by omega)) rfl 7 (by decide) wd78 rfl dD_agreesAtOwnPrimes_4 ?_
      refine j_icmp_ge hx hb (by omega) (by rw [hc]; omega) dD_agreesAtOwnPrimes_7 rfl (fun h2 => ?_) (fun h2 => ?_)
      · have hall : ∀ q : Nat, S q → hsC M f r q = hsC M f9 r9 q := fun q hq => by
          obtain ⟨j, j1, j2⟩ := hS0.2.2 q hq
          exact hz q hq ⟨j, by omega, j2⟩
        refine j_iconst hx hb dD_agreesAtOwnPrimes_41 ?_
        exact mm_zret hx hb hr hk hP hS dD_agreesAtOwnPrimes_42 nar_1 ⟨by rw [bi_t hall], rfl⟩
      · rw [hc] at h2
        omega
    | succ N ih =>
      intro i ls H locs h0 hz hl hP hS
      obtain ⟨q, q1, q2⟩ := hS0.2.1 i (by omega)
      have hpl : plc (M (21 + f) i) := by rw [q1]; have := hb0 q q2; right; omega
      refine lv_iload_n hx hb dD_agreesAtOwnPrimes_2 rfl (lv_at hl 0 rfl) ?_
      refine lv_aload_n hx hb dD_agreesAtOwnPrimes_3 rfl (lv_at hl 1 rfl) ?_
      refine m_get (C := "RationalForms$Diagonal") (T := TxD) (N := 8) hx hb hg uwD hown hK hP (by omega) (sh_D E _ (by omega)) rfl 7 (by decide) wd78 rfl dD_agreesAtOwnPrimes_4 ?_
      refine j_icmp_ge hx hb (by omega) (by rw [hc]; omega) dD_agreesAtOwnPrimes_7 rfl (fun h2 => ?_) (fun h2 => ?_)
      · rw [hc] at h2
        omega
      · refine lv_aload_n hx hb dD_agreesAtOwnPrimes_10 rfl (lv_at hl 1 rfl) ?_
        refine lv_aload_n hx hb dD_agreesAtOwnPrimes_11 rfl (lv_at hl 1 rfl) ?_
        refine m_get (C := "RationalForms$Diagonal") (T := TxD) (N := 8) hx hb hg uwD hown hK hP (by omega) (sh_D E _ (by omega)) rfl 1 (by decide) wd67 rfl dD_agreesAtOwnPrimes_12 ?_
        refine lv_iload_n hx hb dD_agreesAtOwnPrimes_15 rfl (lv_at hl 0 rfl) ?_
        refine m_iald (n := i) hx hb hK hP (by omega) (sh_p E _ (by omega)) rfl (by omega) (by decide) dD_agreesAtOwnPrimes_16 ?_
        refine mm_V (As := [.int (ji (M (21 + f) i))]) (rest := []) hx hb hml hown hg hl hK hP hS (by omega) (sh_D E _ (by omega)) rfl (kD_hasseSign l E hJ M f hf r hG (M (21 + f) i) hpl) wd211 wd181 wd182 wd4 wd183 ⟨rfl, rfl⟩ (n := 1) (by decide +kernel) rfl ⟨by decide, by decide⟩ rfl (Nat.le_of_ble_eq_true rfl) dD_agreesAtOwnPrimes_17 ⟨Nat.zero_le _, Nat.zero_le _⟩ (fun v M3 H locs hq3 hP hS => ?_)
        obtain ⟨rfl, hM3⟩ := hq3
        rw [hM3] at hP
        refine lv_aload_n hx hb dD_agreesAtOwnPrimes_20 rfl (lv_at hl 2 rfl) ?_
        refine lv_aload_n hx hb dD_agreesAtOwnPrimes_21 rfl (lv_at hl 1 rfl) ?_
        refine m_get (C := "RationalForms$Diagonal") (T := TxD) (N := 8) hx hb hg uwD hown hK hP (by omega) (sh_D E _ (by omega)) rfl 1 (by decide) wd67 rfl dD_agreesAtOwnPrimes_22 ?_
        refine lv_iload_n hx hb dD_agreesAtOwnPrimes_25 rfl (lv_at hl 0 rfl) ?_
        refine m_iald (n := i) hx hb hK hP (by omega) (sh_p E _ (by omega)) rfl (by omega) (by decide) dD_agreesAtOwnPrimes_26 ?_
        refine mm_V (As := [.int (ji (M (21 + f) i))]) (rest := [.int (ji (hsC M f r (M (21 + f) i)))]) hx hb hml hown hg hl hK hP hS (by omega) (sh_D E _ (by omega)) rfl (kD_hasseSign l E hJ M f9 hf9 r9 hG9 (M (21 + f) i) hpl) wd211 wd181 wd182 wd4 wd183 ⟨rfl, rfl⟩ (n := 1) (by decide +kernel) rfl ⟨by decide, by decide⟩ rfl (Nat.le_of_ble_eq_true rfl) dD_agreesAtOwnPrimes_27 ⟨Nat.zero_le _, Nat.zero_le _⟩ (fun v M4 H locs hq4 hP hS => ?_)
        obtain ⟨rfl, hM4⟩ := hq4
        rw [hM4] at hP
        refine j_icmp_eq hx hb (pm1_b32 (hs_pm (fun a b => sy_pm a b _) _ _)) (pm1_b32 (hs_pm (fun a b => sy_pm a b _) _ _)) dD_agreesAtOwnPrimes_30 rfl (fun h3 => ?_) (fun h3 => ?_)
        · refine lv_iinc (k := 0) (v := ji (((i:Int)) + 1)) hx hb dD_agreesAtOwnPrimes_35 hl rfl (Int32.ofInt_add _ _).symm (by decide) rfl (fun ls hl => ?_)
          have hl : lv_has ls 3 [(2, .int (ji (((i:Int)) + 1))), (0, .ref (E.2.1 (17 + f))), (1, .ref (E.2.1 (17 + f9)))] := hl
          refine lv_goto hx hb dD_agreesAtOwnPrimes_38 rfl ?_
          refine ih (i + 1) ls H locs (by omega) (fun m hm hj => ?_) hl hP hS
          obtain ⟨j, j1, j2⟩ := hj
          rcases Nat.lt_or_ge j i with g | g
          · exact hz m hm ⟨j, g, j2⟩
          · have hji : j = i := by omega
            rw [hji] at j2
            rw [← j2]
            exact h3
        · rw [q1] at h3
          refine j_iconst hx hb dD_agreesAtOwnPrimes_33 ?_
          exact mm_zret hx hb hr hk hP hS dD_agreesAtOwnPrimes_34 nar_0 ⟨by rw [bi_f (fun g => h3 (g q q2))], rfl⟩
  refine j_iconst hx hb dD_agreesAtOwnPrimes_0 ?_
  refine lv_istore_n hx hb dD_agreesAtOwnPrimes_1 rfl hl (by decide) rfl (fun ls hl => ?_)
  have hl : lv_has ls 3 [(2, .int (ji 0)), (0, .ref (E.2.1 (17 + f))), (1, .ref (E.2.1 (17 + f9)))] := hl
  exact loop c 0 ls s_.heap [] (by omega) (fun q _ hj => by obtain ⟨j, j1, _⟩ := hj; omega) hl hP hS

set_option maxRecDepth 100000 in
set_option maxHeartbeats 4000000 in
theorem kD_primeOfMinusSign (l : Launch) (E : En) (hJ : wJ E) (M : Me) (f : Nat) (hf : f < 2) (r : Nat) (hG : DG M f r) (c : Nat) (hc : M (17 + f) 7 = c) (hc2 : c ≤ 32) (S : Nat → Prop) (hS0 : SL c (M (21 + f)) S) (hb0 : ∀ q, S q → 2 ≤ q ∧ q ≤ 2147483647) (k : Int) (hk9 : b32 k) : MM l yD_primeOfMinusSign wsD_primeOfMinusSign (rmd 4) E M [.ref (E.2.1 (17 + f)), .int (ji k)] (fun v M9 => (∃ z : Int, v = some (.int (ji z)) ∧ b32 z ∧ nth (fun q => S q ∧ hsC M f r q = -1) k z) ∧ M9 = M) := by
  refine MM.ofG (by decide +kernel) (Nat.le_of_ble_eq_true rfl) ?_
  intro p_ e_ s_ m_ a_ b_ t_ c_ hx hb hml hr hk hg hown hK hP hS ls hl
  have hl : lv_has ls 4 [(0, .ref (E.2.1 (17 + f))), (1, .int (ji k))] := hl
  have loop : ∀ (N i : Nat) (z : Int) (ls : Array Slot) (H : Heap) (locs : List Loc), i + N = c → (0 ≤ z ∧ z ≤ i) → met (fun q => S q ∧ hsC M f r q = -1) c (M (21 + f)) i z → (∀ q : Nat, (S q ∧ hsC M f r q = -1) → (∃ j, j < i ∧ M (21 + f) j = q) → cnt (fun q => S q ∧ hsC M f r q = -1) q ≠ k) → lv_has ls 4 [(3, .int (ji ((i:Int)))), (2, .int (ji z)), (0, .ref (E.2.1 (17 + f))), (1, .int (ji k))] → wP E M H → va_S (wA E) s_.heap H locs → W p_ l e_ (rmd 4) s_ m_ a_ b_ t_ c_ H locs 0 0 (XQ b_ (mmQ E (fun v M9 => (∃ z : Int, v = some (.int (ji z)) ∧ b32 z ∧ nth (fun q => S q ∧ hsC M f r q = -1) k z) ∧ M9 = M)) a_ s_ 0 0 (wA E)) (F0 m_ 4 ls []) := by
    intro N
    induction N with
    | zero =>
      intro i z ls H locs h0 hzi hm hz hl hP hS
      refine lv_iload_n hx hb dD_primeOfMinusSign_4 rfl (lv_at hl 0 rfl) ?_
      refine lv_aload_n hx hb dD_primeOfMinusSign_5 rfl (lv_at hl 2 rfl) ?_
      refine m_get (C := "RationalForms$Diagonal") (T := TxD) (N := 8) hx hb hg uwD hown hK hP (by omega) (sh_D E _ (by omega)) rfl 7 (by decide) wd78 rfl dD_primeOfMinusSign_6 ?_
      refine j_icmp_ge hx hb (by omega) (by rw [hc]; omega) dD_primeOfMinusSign_9 rfl (fun h2 => ?_) (fun h2 => ?_)
      · have hall : ∀ q : Nat, (S q ∧ hsC M f r q = -1) → cnt (fun q => S q ∧ hsC M f r q = -1) q ≠ k := fun q hq => by
          obtain ⟨j, j1, j2⟩ := hS0.2.2 q hq.1
          exact hz q hq ⟨j, by omega, j2⟩
        refine j_iconst hx hb dD_primeOfMinusSign_47 ?_
        exact mm_iret hx hb hr hk hP hS dD_primeOfMinusSign_48 ⟨⟨-1, rfl, by decide, Or.inr ⟨rfl, hall⟩⟩, rfl⟩
      · rw [hc] at h2
        omega
    | succ N ih =>
      intro i z ls H locs h0 hzi hm hz hl hP hS
      obtain ⟨q, q1, q2⟩ := hS0.2.1 i (by omega)
      have hpl : plc (M (21 + f) i) := by rw [q1]; have := hb0 q q2; right; omega
      have hbq := hb0 q q2
      have hms := met_s hS0 (fun q g => g.1) hm (by omega : i < c) q1
      refine lv_iload_n hx hb dD_primeOfMinusSign_4 rfl (lv_at hl 0 rfl) ?_
      refine lv_aload_n hx hb dD_primeOfMinusSign_5 rfl (lv_at hl 2 rfl) ?_
      refine m_get (C := "RationalForms$Diagonal") (T := TxD) (N := 8) hx hb hg uwD hown hK hP (by omega) (sh_D E _ (by omega)) rfl 7 (by decide) wd78 rfl dD_primeOfMinusSign_6 ?_
      refine j_icmp_ge hx hb (by omega) (by rw [hc]; omega) dD_primeOfMinusSign_9 rfl (fun h2 => ?_) (fun h2 => ?_)
      · rw [hc] at h2
        omega
      · refine lv_aload_n hx hb dD_primeOfMinusSign_12 rfl (lv_at hl 2 rfl) ?_
        refine lv_aload_n hx hb dD_primeOfMinusSign_13 rfl (lv_at hl 2 rfl) ?_
        refine m_get (C := "RationalForms$Diagonal") (T := TxD) (N := 8) hx hb hg uwD hown hK hP (by omega) (sh_D E _ (by omega)) rfl 1 (by decide) wd67 rfl dD_primeOfMinusSign_14 ?_
        refine lv_iload_n hx hb dD_primeOfMinusSign_17 rfl (lv_at hl 0 rfl) ?_
        refine m_iald (n := i) hx hb hK hP (by omega) (sh_p E _ (by omega)) rfl (by omega) (by decide) dD_primeOfMinusSign_18 ?_
        refine mm_V (As := [.int (ji (M (21 + f) i))]) (rest := []) hx hb hml hown hg hl hK hP hS (by omega) (sh_D E _ (by omega)) rfl (kD_hasseSign l E hJ M f hf r hG (M (21 + f) i) hpl) wd211 wd181 wd182 wd4 wd183 ⟨rfl, rfl⟩ (n := 1) (by decide +kernel) rfl ⟨by decide, by decide⟩ rfl (Nat.le_of_ble_eq_true rfl) dD_primeOfMinusSign_19 ⟨Nat.zero_le _, Nat.zero_le _⟩ (fun v M3 H locs hq3 hP hS => ?_)
        obtain ⟨rfl, hM3⟩ := hq3
        rw [hM3] at hP
        refine j_iconst hx hb dD_primeOfMinusSign_22 ?_
        refine j_icmp_ne hx hb (pm1_b32 (hs_pm (fun a b => sy_pm a b _) _ _)) (by decide) dD_primeOfMinusSign_23 rfl (fun h3 => ?_) (fun h3 => ?_)
        · rw [q1] at h3
          have hb9 : bi (S q ∧ hsC M f r q = -1) = 0 := bi_f (fun g => h3 g.2)
          rw [hb9, Int.add_zero] at hms
          refine lv_iinc (k := 0) (v := ji (((i:Int)) + 1)) hx hb dD_primeOfMinusSign_41 hl rfl (Int32.ofInt_add _ _).symm (by decide) rfl (fun ls hl => ?_)
          have hl : lv_has ls 4 [(3, .int (ji (((i:Int)) + 1))), (2, .int (ji z)), (0, .ref (E.2.1 (17 + f))), (1, .int (ji k))] := hl
          refine lv_goto hx hb dD_primeOfMinusSign_44 rfl ?_
          refine ih (i + 1) z ls H locs (by omega) (by omega) hms.2 (fun m hm hj => ?_) (lv_sub hl [0, 1, 2, 3] rfl) hP hS
          obtain ⟨j, j1, j2⟩ := hj
          rcases Nat.lt_or_ge j i with g | g
          · exact hz m hm ⟨j, g, j2⟩
          · have hji : j = i := by omega
            rw [hji] at j2
            have hmq : m = q := by omega
            rw [hmq] at hm
            exact absurd hm.2 h3
        · rw [q1] at h3
          have hb9 : bi (S q ∧ hsC M f r q = -1) = 1 := bi_t ⟨q2, h3⟩
          rw [hb9] at hms
          refine lv_iload_n hx hb dD_primeOfMinusSign_26 rfl (lv_at hl 1 rfl) ?_
          refine lv_iload_n hx hb dD_primeOfMinusSign_27 rfl (lv_at hl 3 rfl) ?_
          refine j_icmp_ne hx hb (by omega) hk9 dD_primeOfMinusSign_28 rfl (fun h4 => ?_) (fun h4 => ?_)
          · refine lv_iinc (k := 1) (v := ji (z + 1)) hx hb dD_primeOfMinusSign_38 hl rfl (Int32.ofInt_add _ _).symm (by decide) rfl (fun ls hl => ?_)
            have hl : lv_has ls 4 [(2, .int (ji (z + 1))), (3, .int (ji ((i:Int)))), (0, .ref (E.2.1 (17 + f))), (1, .int (ji k))] := hl
            refine lv_iinc (k := 1) (v := ji (((i:Int)) + 1)) hx hb dD_primeOfMinusSign_41 hl rfl (Int32.ofInt_add _ _).symm (by decide) rfl (fun ls hl => ?_)
            have hl : lv_has ls 4 [(3, .int (ji (((i:Int)) + 1))), (2, .int (ji (z + 1))), (0, .ref (E.2.1 (17 + f))), (1, .int (ji k))] := hl
            refine lv_goto hx hb dD_primeOfMinusSign_44 rfl ?_
            refine ih (i + 1) (z + 1) ls H locs (by omega) (by omega) hms.2 (fun m hm hj => ?_) (lv_sub hl [0, 1, 2, 3] rfl) hP hS
            obtain ⟨j, j1, j2⟩ := hj
            rcases Nat.lt_or_ge j i with g | g
            · exact hz m hm ⟨j, g, j2⟩
            · have hji : j = i := by omega
              rw [hji] at j2
              have hmq : m = q := by omega
              rw [hmq, hms.1]
              exact h4
          · refine lv_aload_n hx hb dD_primeOfMinusSign_31 rfl (lv_at hl 2 rfl) ?_
            refine m_get (C := "RationalForms$Diagonal") (T := TxD) (N := 8) hx hb hg uwD hown hK hP (by omega) (sh_D E _ (by omega)) rfl 1 (by decide) wd67 rfl dD_primeOfMinusSign_32 ?_
            refine lv_iload_n hx hb dD_primeOfMinusSign_35 rfl (lv_at hl 0 rfl) ?_
            refine m_iald (n := i) hx hb hK hP (by omega) (sh_p E _ (by omega)) rfl (by omega) (by decide) dD_primeOfMinusSign_36 ?_
            exact mm_iret hx hb hr hk hP hS dD_primeOfMinusSign_37 ⟨⟨M (21 + f) i, rfl, by omega, Or.inl ⟨q, ⟨q2, h3⟩, by rw [hms.1]; exact h4, q1⟩⟩, rfl⟩
  refine j_iconst hx hb dD_primeOfMinusSign_0 ?_
  refine lv_istore_n hx hb dD_primeOfMinusSign_1 rfl hl (by decide) rfl (fun ls hl => ?_)
  have hl : lv_has ls 4 [(2, .int (ji 0)), (0, .ref (E.2.1 (17 + f))), (1, .int (ji k))] := hl
  refine j_iconst hx hb dD_primeOfMinusSign_2 ?_
  refine lv_istore_n hx hb dD_primeOfMinusSign_3 rfl hl (by decide) rfl (fun ls hl => ?_)
  have hl : lv_has ls 4 [(3, .int (ji 0)), (2, .int (ji 0)), (0, .ref (E.2.1 (17 + f))), (1, .int (ji k))] := hl
  exact loop c 0 0 ls s_.heap [] (by omega) (by omega) (met_0 hS0 (fun q g => g.1)) (fun q _ hj => by obtain ⟨j, j1, _⟩ := hj; omega) hl hP hS
