/-! the reference: primes, adding, bringing a pivot -/
abbrev cM_addPrime : ByteArray := prog_8_method_9_code
abbrev yM_addPrime : MethodName := ⟨"RationalFormsModel", "addPrime", "(J)V"⟩
abbrev wsM_addPrime : List Cond := .code yM_addPrime cM_addPrime 5 none :: GG
theorem dM_addPrime_0 : decode cM_addPrime 0 = .ok (.iconst 0, 1) := by decide +kernel
theorem dM_addPrime_1 : decode cM_addPrime 1 = .ok (.istore_n 3, 1) := by decide +kernel
theorem dM_addPrime_2 : decode cM_addPrime 2 = .ok (.iload_n 3, 1) := by decide +kernel
theorem dM_addPrime_3 : decode cM_addPrime 3 = .ok (.aload_n 0, 1) := by decide +kernel
theorem dM_addPrime_4 : decode cM_addPrime 4 = .ok (.getfield 45, 3) := by decide +kernel
theorem dM_addPrime_7 : decode cM_addPrime 7 = .ok (.if_icmp .ge 20, 3) := by decide +kernel
theorem dM_addPrime_10 : decode cM_addPrime 10 = .ok (.aload_n 0, 1) := by decide +kernel
theorem dM_addPrime_11 : decode cM_addPrime 11 = .ok (.getfield 23, 3) := by decide +kernel
theorem dM_addPrime_14 : decode cM_addPrime 14 = .ok (.iload_n 3, 1) := by decide +kernel
theorem dM_addPrime_15 : decode cM_addPrime 15 = .ok (.laload, 1) := by decide +kernel
theorem dM_addPrime_16 : decode cM_addPrime 16 = .ok (.lload_n 1, 1) := by decide +kernel
theorem dM_addPrime_17 : decode cM_addPrime 17 = .ok (.lcmp, 1) := by decide +kernel
theorem dM_addPrime_18 : decode cM_addPrime 18 = .ok (.ifCond .ge 9, 3) := by decide +kernel
theorem dM_addPrime_21 : decode cM_addPrime 21 = .ok (.iinc 3 1, 3) := by decide +kernel
theorem dM_addPrime_24 : decode cM_addPrime 24 = .ok (.goto (-22), 3) := by decide +kernel
theorem dM_addPrime_27 : decode cM_addPrime 27 = .ok (.iload_n 3, 1) := by decide +kernel
theorem dM_addPrime_28 : decode cM_addPrime 28 = .ok (.aload_n 0, 1) := by decide +kernel
theorem dM_addPrime_29 : decode cM_addPrime 29 = .ok (.getfield 45, 3) := by decide +kernel
theorem dM_addPrime_32 : decode cM_addPrime 32 = .ok (.if_icmp .ge 15, 3) := by decide +kernel
theorem dM_addPrime_35 : decode cM_addPrime 35 = .ok (.aload_n 0, 1) := by decide +kernel
theorem dM_addPrime_36 : decode cM_addPrime 36 = .ok (.getfield 23, 3) := by decide +kernel
theorem dM_addPrime_39 : decode cM_addPrime 39 = .ok (.iload_n 3, 1) := by decide +kernel
theorem dM_addPrime_40 : decode cM_addPrime 40 = .ok (.laload, 1) := by decide +kernel
theorem dM_addPrime_41 : decode cM_addPrime 41 = .ok (.lload_n 1, 1) := by decide +kernel
theorem dM_addPrime_42 : decode cM_addPrime 42 = .ok (.lcmp, 1) := by decide +kernel
theorem dM_addPrime_43 : decode cM_addPrime 43 = .ok (.ifCond .ne 4, 3) := by decide +kernel
theorem dM_addPrime_46 : decode cM_addPrime 46 = .ok (.return_, 1) := by decide +kernel
theorem dM_addPrime_47 : decode cM_addPrime 47 = .ok (.aload_n 0, 1) := by decide +kernel
theorem dM_addPrime_48 : decode cM_addPrime 48 = .ok (.getfield 45, 3) := by decide +kernel
theorem dM_addPrime_51 : decode cM_addPrime 51 = .ok (.istore 4, 2) := by decide +kernel
theorem dM_addPrime_53 : decode cM_addPrime 53 = .ok (.iload 4, 2) := by decide +kernel
theorem dM_addPrime_55 : decode cM_addPrime 55 = .ok (.iload_n 3, 1) := by decide +kernel
theorem dM_addPrime_56 : decode cM_addPrime 56 = .ok (.if_icmp .le 25, 3) := by decide +kernel
theorem dM_addPrime_59 : decode cM_addPrime 59 = .ok (.aload_n 0, 1) := by decide +kernel
theorem dM_addPrime_60 : decode cM_addPrime 60 = .ok (.getfield 23, 3) := by decide +kernel
theorem dM_addPrime_63 : decode cM_addPrime 63 = .ok (.iload 4, 2) := by decide +kernel
theorem dM_addPrime_65 : decode cM_addPrime 65 = .ok (.aload_n 0, 1) := by decide +kernel
theorem dM_addPrime_66 : decode cM_addPrime 66 = .ok (.getfield 23, 3) := by decide +kernel
theorem dM_addPrime_69 : decode cM_addPrime 69 = .ok (.iload 4, 2) := by decide +kernel
theorem dM_addPrime_71 : decode cM_addPrime 71 = .ok (.iconst 1, 1) := by decide +kernel
theorem dM_addPrime_72 : decode cM_addPrime 72 = .ok (.isub, 1) := by decide +kernel
theorem dM_addPrime_73 : decode cM_addPrime 73 = .ok (.laload, 1) := by decide +kernel
theorem dM_addPrime_74 : decode cM_addPrime 74 = .ok (.lastore, 1) := by decide +kernel
theorem dM_addPrime_75 : decode cM_addPrime 75 = .ok (.iinc 4 (-1), 3) := by decide +kernel
theorem dM_addPrime_78 : decode cM_addPrime 78 = .ok (.goto (-25), 3) := by decide +kernel
theorem dM_addPrime_81 : decode cM_addPrime 81 = .ok (.aload_n 0, 1) := by decide +kernel
theorem dM_addPrime_82 : decode cM_addPrime 82 = .ok (.getfield 23, 3) := by decide +kernel
theorem dM_addPrime_85 : decode cM_addPrime 85 = .ok (.iload_n 3, 1) := by decide +kernel
theorem dM_addPrime_86 : decode cM_addPrime 86 = .ok (.lload_n 1, 1) := by decide +kernel
theorem dM_addPrime_87 : decode cM_addPrime 87 = .ok (.lastore, 1) := by decide +kernel
theorem dM_addPrime_88 : decode cM_addPrime 88 = .ok (.aload_n 0, 1) := by decide +kernel
theorem dM_addPrime_89 : decode cM_addPrime 89 = .ok (.dup, 1) := by decide +kernel
theorem dM_addPrime_90 : decode cM_addPrime 90 = .ok (.getfield 45, 3) := by decide +kernel
theorem dM_addPrime_93 : decode cM_addPrime 93 = .ok (.iconst 1, 1) := by decide +kernel
theorem dM_addPrime_94 : decode cM_addPrime 94 = .ok (.iadd, 1) := by decide +kernel
theorem dM_addPrime_95 : decode cM_addPrime 95 = .ok (.putfield 45, 3) := by decide +kernel
theorem dM_addPrime_98 : decode cM_addPrime 98 = .ok (.return_, 1) := by decide +kernel
abbrev cM_addPrimes : ByteArray := prog_8_method_10_code
abbrev yM_addPrimes : MethodName := ⟨"RationalFormsModel", "addPrimes", "(J)V"⟩
abbrev wsM_addPrimes : List Cond := .code yM_addPrimes cM_addPrimes 7 none :: GG
theorem dM_addPrimes_0 : decode cM_addPrimes 0 = .ok (.lload_n 1, 1) := by decide +kernel
theorem dM_addPrimes_1 : decode cM_addPrimes 1 = .ok (.lconst 0, 1) := by decide +kernel
theorem dM_addPrimes_2 : decode cM_addPrimes 2 = .ok (.lcmp, 1) := by decide +kernel
theorem dM_addPrimes_3 : decode cM_addPrimes 3 = .ok (.ifCond .ge 8, 3) := by decide +kernel
theorem dM_addPrimes_6 : decode cM_addPrimes 6 = .ok (.lload_n 1, 1) := by decide +kernel
theorem dM_addPrimes_7 : decode cM_addPrimes 7 = .ok (.lneg, 1) := by decide +kernel
theorem dM_addPrimes_8 : decode cM_addPrimes 8 = .ok (.goto 4, 3) := by decide +kernel
theorem dM_addPrimes_11 : decode cM_addPrimes 11 = .ok (.lload_n 1, 1) := by decide +kernel
theorem dM_addPrimes_12 : decode cM_addPrimes 12 = .ok (.lstore_n 3, 1) := by decide +kernel
theorem dM_addPrimes_13 : decode cM_addPrimes 13 = .ok (.ldc2_w 39, 3) := by decide +kernel
theorem dM_addPrimes_16 : decode cM_addPrimes 16 = .ok (.lstore 5, 2) := by decide +kernel
theorem dM_addPrimes_18 : decode cM_addPrimes 18 = .ok (.lload 5, 2) := by decide +kernel
theorem dM_addPrimes_20 : decode cM_addPrimes 20 = .ok (.lload 5, 2) := by decide +kernel
theorem dM_addPrimes_22 : decode cM_addPrimes 22 = .ok (.lmul, 1) := by decide +kernel
theorem dM_addPrimes_23 : decode cM_addPrimes 23 = .ok (.lload_n 3, 1) := by decide +kernel
theorem dM_addPrimes_24 : decode cM_addPrimes 24 = .ok (.lcmp, 1) := by decide +kernel
theorem dM_addPrimes_25 : decode cM_addPrimes 25 = .ok (.ifCond .gt 32, 3) := by decide +kernel
theorem dM_addPrimes_28 : decode cM_addPrimes 28 = .ok (.lload_n 3, 1) := by decide +kernel
theorem dM_addPrimes_29 : decode cM_addPrimes 29 = .ok (.lload 5, 2) := by decide +kernel
theorem dM_addPrimes_31 : decode cM_addPrimes 31 = .ok (.lrem, 1) := by decide +kernel
theorem dM_addPrimes_32 : decode cM_addPrimes 32 = .ok (.lconst 0, 1) := by decide +kernel
theorem dM_addPrimes_33 : decode cM_addPrimes 33 = .ok (.lcmp, 1) := by decide +kernel
theorem dM_addPrimes_34 : decode cM_addPrimes 34 = .ok (.ifCond .ne 14, 3) := by decide +kernel
theorem dM_addPrimes_37 : decode cM_addPrimes 37 = .ok (.aload_n 0, 1) := by decide +kernel
theorem dM_addPrimes_38 : decode cM_addPrimes 38 = .ok (.lload 5, 2) := by decide +kernel
theorem dM_addPrimes_40 : decode cM_addPrimes 40 = .ok (.invokevirtual 48, 3) := by decide +kernel
theorem dM_addPrimes_43 : decode cM_addPrimes 43 = .ok (.lload_n 3, 1) := by decide +kernel
theorem dM_addPrimes_44 : decode cM_addPrimes 44 = .ok (.lload 5, 2) := by decide +kernel
theorem dM_addPrimes_46 : decode cM_addPrimes 46 = .ok (.ldiv, 1) := by decide +kernel
theorem dM_addPrimes_47 : decode cM_addPrimes 47 = .ok (.lstore_n 3, 1) := by decide +kernel
theorem dM_addPrimes_48 : decode cM_addPrimes 48 = .ok (.lload 5, 2) := by decide +kernel
theorem dM_addPrimes_50 : decode cM_addPrimes 50 = .ok (.lconst 1, 1) := by decide +kernel
theorem dM_addPrimes_51 : decode cM_addPrimes 51 = .ok (.ladd, 1) := by decide +kernel
theorem dM_addPrimes_52 : decode cM_addPrimes 52 = .ok (.lstore 5, 2) := by decide +kernel
theorem dM_addPrimes_54 : decode cM_addPrimes 54 = .ok (.goto (-36), 3) := by decide +kernel
theorem dM_addPrimes_57 : decode cM_addPrimes 57 = .ok (.lload_n 3, 1) := by decide +kernel
theorem dM_addPrimes_58 : decode cM_addPrimes 58 = .ok (.lconst 1, 1) := by decide +kernel
theorem dM_addPrimes_59 : decode cM_addPrimes 59 = .ok (.lcmp, 1) := by decide +kernel
theorem dM_addPrimes_60 : decode cM_addPrimes 60 = .ok (.ifCond .le 8, 3) := by decide +kernel
theorem dM_addPrimes_63 : decode cM_addPrimes 63 = .ok (.aload_n 0, 1) := by decide +kernel
theorem dM_addPrimes_64 : decode cM_addPrimes 64 = .ok (.lload_n 3, 1) := by decide +kernel
theorem dM_addPrimes_65 : decode cM_addPrimes 65 = .ok (.invokevirtual 48, 3) := by decide +kernel
theorem dM_addPrimes_68 : decode cM_addPrimes 68 = .ok (.return_, 1) := by decide +kernel
abbrev cM_addTo : ByteArray := prog_8_method_12_code
abbrev yM_addTo : MethodName := ⟨"RationalFormsModel", "addTo", "(IIII)V"⟩
abbrev wsM_addTo : List Cond := .code yM_addTo cM_addTo 6 none :: GG
theorem dM_addTo_0 : decode cM_addTo 0 = .ok (.iload_n 3, 1) := by decide +kernel
theorem dM_addTo_1 : decode cM_addTo 1 = .ok (.istore 5, 2) := by decide +kernel
theorem dM_addTo_3 : decode cM_addTo 3 = .ok (.iload 5, 2) := by decide +kernel
theorem dM_addTo_5 : decode cM_addTo 5 = .ok (.iload 4, 2) := by decide +kernel
theorem dM_addTo_7 : decode cM_addTo 7 = .ok (.if_icmp .ge 34, 3) := by decide +kernel
theorem dM_addTo_10 : decode cM_addTo 10 = .ok (.aload_n 0, 1) := by decide +kernel
theorem dM_addTo_11 : decode cM_addTo 11 = .ok (.getfield 16, 3) := by decide +kernel
theorem dM_addTo_14 : decode cM_addTo 14 = .ok (.iconst 4, 1) := by decide +kernel
theorem dM_addTo_15 : decode cM_addTo 15 = .ok (.iload_n 1, 1) := by decide +kernel
theorem dM_addTo_16 : decode cM_addTo 16 = .ok (.imul, 1) := by decide +kernel
theorem dM_addTo_17 : decode cM_addTo 17 = .ok (.iload 5, 2) := by decide +kernel
theorem dM_addTo_19 : decode cM_addTo 19 = .ok (.iadd, 1) := by decide +kernel
theorem dM_addTo_20 : decode cM_addTo 20 = .ok (.dup2, 1) := by decide +kernel
theorem dM_addTo_21 : decode cM_addTo 21 = .ok (.laload, 1) := by decide +kernel
theorem dM_addTo_22 : decode cM_addTo 22 = .ok (.aload_n 0, 1) := by decide +kernel
theorem dM_addTo_23 : decode cM_addTo 23 = .ok (.getfield 16, 3) := by decide +kernel
theorem dM_addTo_26 : decode cM_addTo 26 = .ok (.iconst 4, 1) := by decide +kernel
theorem dM_addTo_27 : decode cM_addTo 27 = .ok (.iload_n 2, 1) := by decide +kernel
theorem dM_addTo_28 : decode cM_addTo 28 = .ok (.imul, 1) := by decide +kernel
theorem dM_addTo_29 : decode cM_addTo 29 = .ok (.iload 5, 2) := by decide +kernel
theorem dM_addTo_31 : decode cM_addTo 31 = .ok (.iadd, 1) := by decide +kernel
theorem dM_addTo_32 : decode cM_addTo 32 = .ok (.laload, 1) := by decide +kernel
theorem dM_addTo_33 : decode cM_addTo 33 = .ok (.ladd, 1) := by decide +kernel
theorem dM_addTo_34 : decode cM_addTo 34 = .ok (.lastore, 1) := by decide +kernel
theorem dM_addTo_35 : decode cM_addTo 35 = .ok (.iinc 5 1, 3) := by decide +kernel
theorem dM_addTo_38 : decode cM_addTo 38 = .ok (.goto (-35), 3) := by decide +kernel
theorem dM_addTo_41 : decode cM_addTo 41 = .ok (.iload_n 3, 1) := by decide +kernel
theorem dM_addTo_42 : decode cM_addTo 42 = .ok (.istore 5, 2) := by decide +kernel
theorem dM_addTo_44 : decode cM_addTo 44 = .ok (.iload 5, 2) := by decide +kernel
theorem dM_addTo_46 : decode cM_addTo 46 = .ok (.iload 4, 2) := by decide +kernel
theorem dM_addTo_48 : decode cM_addTo 48 = .ok (.if_icmp .ge 34, 3) := by decide +kernel
theorem dM_addTo_51 : decode cM_addTo 51 = .ok (.aload_n 0, 1) := by decide +kernel
theorem dM_addTo_52 : decode cM_addTo 52 = .ok (.getfield 16, 3) := by decide +kernel
theorem dM_addTo_55 : decode cM_addTo 55 = .ok (.iconst 4, 1) := by decide +kernel
theorem dM_addTo_56 : decode cM_addTo 56 = .ok (.iload 5, 2) := by decide +kernel
theorem dM_addTo_58 : decode cM_addTo 58 = .ok (.imul, 1) := by decide +kernel
theorem dM_addTo_59 : decode cM_addTo 59 = .ok (.iload_n 1, 1) := by decide +kernel
theorem dM_addTo_60 : decode cM_addTo 60 = .ok (.iadd, 1) := by decide +kernel
theorem dM_addTo_61 : decode cM_addTo 61 = .ok (.dup2, 1) := by decide +kernel
theorem dM_addTo_62 : decode cM_addTo 62 = .ok (.laload, 1) := by decide +kernel
theorem dM_addTo_63 : decode cM_addTo 63 = .ok (.aload_n 0, 1) := by decide +kernel
theorem dM_addTo_64 : decode cM_addTo 64 = .ok (.getfield 16, 3) := by decide +kernel
theorem dM_addTo_67 : decode cM_addTo 67 = .ok (.iconst 4, 1) := by decide +kernel
theorem dM_addTo_68 : decode cM_addTo 68 = .ok (.iload 5, 2) := by decide +kernel
theorem dM_addTo_70 : decode cM_addTo 70 = .ok (.imul, 1) := by decide +kernel
theorem dM_addTo_71 : decode cM_addTo 71 = .ok (.iload_n 2, 1) := by decide +kernel
theorem dM_addTo_72 : decode cM_addTo 72 = .ok (.iadd, 1) := by decide +kernel
theorem dM_addTo_73 : decode cM_addTo 73 = .ok (.laload, 1) := by decide +kernel
theorem dM_addTo_74 : decode cM_addTo 74 = .ok (.ladd, 1) := by decide +kernel
theorem dM_addTo_75 : decode cM_addTo 75 = .ok (.lastore, 1) := by decide +kernel
theorem dM_addTo_76 : decode cM_addTo 76 = .ok (.iinc 5 1, 3) := by decide +kernel
theorem dM_addTo_79 : decode cM_addTo 79 = .ok (.goto (-35), 3) := by decide +kernel
theorem dM_addTo_82 : decode cM_addTo 82 = .ok (.return_, 1) := by decide +kernel
abbrev cM_bring : ByteArray := prog_8_method_11_code
abbrev yM_bring : MethodName := ⟨"RationalFormsModel", "bring", "(II)Z"⟩
abbrev wsM_bring : List Cond := .code yM_bring cM_bring 7 (some .boolean) :: GG
theorem dM_bring_0 : decode cM_bring 0 = .ok (.iconst (-1), 1) := by decide +kernel
theorem dM_bring_1 : decode cM_bring 1 = .ok (.istore_n 3, 1) := by decide +kernel
theorem dM_bring_2 : decode cM_bring 2 = .ok (.iload_n 2, 1) := by decide +kernel
theorem dM_bring_3 : decode cM_bring 3 = .ok (.iconst 1, 1) := by decide +kernel
theorem dM_bring_4 : decode cM_bring 4 = .ok (.isub, 1) := by decide +kernel
theorem dM_bring_5 : decode cM_bring 5 = .ok (.istore 4, 2) := by decide +kernel
theorem dM_bring_7 : decode cM_bring 7 = .ok (.iload 4, 2) := by decide +kernel
theorem dM_bring_9 : decode cM_bring 9 = .ok (.iload_n 1, 1) := by decide +kernel
theorem dM_bring_10 : decode cM_bring 10 = .ok (.if_icmp .lt 30, 3) := by decide +kernel
theorem dM_bring_13 : decode cM_bring 13 = .ok (.aload_n 0, 1) := by decide +kernel
theorem dM_bring_14 : decode cM_bring 14 = .ok (.getfield 16, 3) := by decide +kernel
theorem dM_bring_17 : decode cM_bring 17 = .ok (.iconst 5, 1) := by decide +kernel
theorem dM_bring_18 : decode cM_bring 18 = .ok (.iload 4, 2) := by decide +kernel
theorem dM_bring_20 : decode cM_bring 20 = .ok (.imul, 1) := by decide +kernel
theorem dM_bring_21 : decode cM_bring 21 = .ok (.laload, 1) := by decide +kernel
theorem dM_bring_22 : decode cM_bring 22 = .ok (.lconst 0, 1) := by decide +kernel
theorem dM_bring_23 : decode cM_bring 23 = .ok (.lcmp, 1) := by decide +kernel
theorem dM_bring_24 : decode cM_bring 24 = .ok (.ifCond .eq 8, 3) := by decide +kernel
theorem dM_bring_27 : decode cM_bring 27 = .ok (.iload 4, 2) := by decide +kernel
theorem dM_bring_29 : decode cM_bring 29 = .ok (.goto 4, 3) := by decide +kernel
theorem dM_bring_32 : decode cM_bring 32 = .ok (.iload_n 3, 1) := by decide +kernel
theorem dM_bring_33 : decode cM_bring 33 = .ok (.istore_n 3, 1) := by decide +kernel
theorem dM_bring_34 : decode cM_bring 34 = .ok (.iinc 4 (-1), 3) := by decide +kernel
theorem dM_bring_37 : decode cM_bring 37 = .ok (.goto (-30), 3) := by decide +kernel
theorem dM_bring_40 : decode cM_bring 40 = .ok (.iload_n 3, 1) := by decide +kernel
theorem dM_bring_41 : decode cM_bring 41 = .ok (.ifCond .ge 70, 3) := by decide +kernel
theorem dM_bring_44 : decode cM_bring 44 = .ok (.iload_n 1, 1) := by decide +kernel
theorem dM_bring_45 : decode cM_bring 45 = .ok (.istore 4, 2) := by decide +kernel
theorem dM_bring_47 : decode cM_bring 47 = .ok (.iload 4, 2) := by decide +kernel
theorem dM_bring_49 : decode cM_bring 49 = .ok (.iload_n 2, 1) := by decide +kernel
theorem dM_bring_50 : decode cM_bring 50 = .ok (.if_icmp .ge 61, 3) := by decide +kernel
theorem dM_bring_53 : decode cM_bring 53 = .ok (.iload 4, 2) := by decide +kernel
theorem dM_bring_55 : decode cM_bring 55 = .ok (.iconst 1, 1) := by decide +kernel
theorem dM_bring_56 : decode cM_bring 56 = .ok (.iadd, 1) := by decide +kernel
theorem dM_bring_57 : decode cM_bring 57 = .ok (.istore 5, 2) := by decide +kernel
theorem dM_bring_59 : decode cM_bring 59 = .ok (.iload 5, 2) := by decide +kernel
theorem dM_bring_61 : decode cM_bring 61 = .ok (.iload_n 2, 1) := by decide +kernel
theorem dM_bring_62 : decode cM_bring 62 = .ok (.if_icmp .ge 43, 3) := by decide +kernel
theorem dM_bring_65 : decode cM_bring 65 = .ok (.iload_n 3, 1) := by decide +kernel
theorem dM_bring_66 : decode cM_bring 66 = .ok (.ifCond .ge 33, 3) := by decide +kernel
theorem dM_bring_69 : decode cM_bring 69 = .ok (.aload_n 0, 1) := by decide +kernel
theorem dM_bring_70 : decode cM_bring 70 = .ok (.getfield 16, 3) := by decide +kernel
theorem dM_bring_73 : decode cM_bring 73 = .ok (.iconst 4, 1) := by decide +kernel
theorem dM_bring_74 : decode cM_bring 74 = .ok (.iload 4, 2) := by decide +kernel
theorem dM_bring_76 : decode cM_bring 76 = .ok (.imul, 1) := by decide +kernel
theorem dM_bring_77 : decode cM_bring 77 = .ok (.iload 5, 2) := by decide +kernel
theorem dM_bring_79 : decode cM_bring 79 = .ok (.iadd, 1) := by decide +kernel
theorem dM_bring_80 : decode cM_bring 80 = .ok (.laload, 1) := by decide +kernel
theorem dM_bring_81 : decode cM_bring 81 = .ok (.lconst 0, 1) := by decide +kernel
theorem dM_bring_82 : decode cM_bring 82 = .ok (.lcmp, 1) := by decide +kernel
theorem dM_bring_83 : decode cM_bring 83 = .ok (.ifCond .eq 16, 3) := by decide +kernel
theorem dM_bring_86 : decode cM_bring 86 = .ok (.iload 4, 2) := by decide +kernel
theorem dM_bring_88 : decode cM_bring 88 = .ok (.istore_n 3, 1) := by decide +kernel
theorem dM_bring_89 : decode cM_bring 89 = .ok (.aload_n 0, 1) := by decide +kernel
theorem dM_bring_90 : decode cM_bring 90 = .ok (.iload 4, 2) := by decide +kernel
theorem dM_bring_92 : decode cM_bring 92 = .ok (.iload 5, 2) := by decide +kernel
theorem dM_bring_94 : decode cM_bring 94 = .ok (.iload_n 1, 1) := by decide +kernel
theorem dM_bring_95 : decode cM_bring 95 = .ok (.iload_n 2, 1) := by decide +kernel
theorem dM_bring_96 : decode cM_bring 96 = .ok (.invokevirtual 52, 3) := by decide +kernel
theorem dM_bring_99 : decode cM_bring 99 = .ok (.iinc 5 1, 3) := by decide +kernel
theorem dM_bring_102 : decode cM_bring 102 = .ok (.goto (-43), 3) := by decide +kernel
theorem dM_bring_105 : decode cM_bring 105 = .ok (.iinc 4 1, 3) := by decide +kernel
theorem dM_bring_108 : decode cM_bring 108 = .ok (.goto (-61), 3) := by decide +kernel
theorem dM_bring_111 : decode cM_bring 111 = .ok (.iload_n 3, 1) := by decide +kernel
theorem dM_bring_112 : decode cM_bring 112 = .ok (.iload_n 1, 1) := by decide +kernel
theorem dM_bring_113 : decode cM_bring 113 = .ok (.if_icmp .le 129, 3) := by decide +kernel
theorem dM_bring_116 : decode cM_bring 116 = .ok (.iconst 0, 1) := by decide +kernel
theorem dM_bring_117 : decode cM_bring 117 = .ok (.istore 4, 2) := by decide +kernel
theorem dM_bring_119 : decode cM_bring 119 = .ok (.iload 4, 2) := by decide +kernel
theorem dM_bring_121 : decode cM_bring 121 = .ok (.iload_n 2, 1) := by decide +kernel
theorem dM_bring_122 : decode cM_bring 122 = .ok (.if_icmp .ge 57, 3) := by decide +kernel
theorem dM_bring_125 : decode cM_bring 125 = .ok (.aload_n 0, 1) := by decide +kernel
theorem dM_bring_126 : decode cM_bring 126 = .ok (.getfield 16, 3) := by decide +kernel
theorem dM_bring_129 : decode cM_bring 129 = .ok (.iconst 4, 1) := by decide +kernel
theorem dM_bring_130 : decode cM_bring 130 = .ok (.iload_n 1, 1) := by decide +kernel
theorem dM_bring_131 : decode cM_bring 131 = .ok (.imul, 1) := by decide +kernel
theorem dM_bring_132 : decode cM_bring 132 = .ok (.iload 4, 2) := by decide +kernel
theorem dM_bring_134 : decode cM_bring 134 = .ok (.iadd, 1) := by decide +kernel
theorem dM_bring_135 : decode cM_bring 135 = .ok (.laload, 1) := by decide +kernel
theorem dM_bring_136 : decode cM_bring 136 = .ok (.lstore 5, 2) := by decide +kernel
theorem dM_bring_138 : decode cM_bring 138 = .ok (.aload_n 0, 1) := by decide +kernel
theorem dM_bring_139 : decode cM_bring 139 = .ok (.getfield 16, 3) := by decide +kernel
theorem dM_bring_142 : decode cM_bring 142 = .ok (.iconst 4, 1) := by decide +kernel
theorem dM_bring_143 : decode cM_bring 143 = .ok (.iload_n 1, 1) := by decide +kernel
theorem dM_bring_144 : decode cM_bring 144 = .ok (.imul, 1) := by decide +kernel
theorem dM_bring_145 : decode cM_bring 145 = .ok (.iload 4, 2) := by decide +kernel
theorem dM_bring_147 : decode cM_bring 147 = .ok (.iadd, 1) := by decide +kernel
theorem dM_bring_148 : decode cM_bring 148 = .ok (.aload_n 0, 1) := by decide +kernel
theorem dM_bring_149 : decode cM_bring 149 = .ok (.getfield 16, 3) := by decide +kernel
theorem dM_bring_152 : decode cM_bring 152 = .ok (.iconst 4, 1) := by decide +kernel
theorem dM_bring_153 : decode cM_bring 153 = .ok (.iload_n 3, 1) := by decide +kernel
theorem dM_bring_154 : decode cM_bring 154 = .ok (.imul, 1) := by decide +kernel
theorem dM_bring_155 : decode cM_bring 155 = .ok (.iload 4, 2) := by decide +kernel
theorem dM_bring_157 : decode cM_bring 157 = .ok (.iadd, 1) := by decide +kernel
theorem dM_bring_158 : decode cM_bring 158 = .ok (.laload, 1) := by decide +kernel
theorem dM_bring_159 : decode cM_bring 159 = .ok (.lastore, 1) := by decide +kernel
theorem dM_bring_160 : decode cM_bring 160 = .ok (.aload_n 0, 1) := by decide +kernel
theorem dM_bring_161 : decode cM_bring 161 = .ok (.getfield 16, 3) := by decide +kernel
theorem dM_bring_164 : decode cM_bring 164 = .ok (.iconst 4, 1) := by decide +kernel
theorem dM_bring_165 : decode cM_bring 165 = .ok (.iload_n 3, 1) := by decide +kernel
theorem dM_bring_166 : decode cM_bring 166 = .ok (.imul, 1) := by decide +kernel
theorem dM_bring_167 : decode cM_bring 167 = .ok (.iload 4, 2) := by decide +kernel
theorem dM_bring_169 : decode cM_bring 169 = .ok (.iadd, 1) := by decide +kernel
theorem dM_bring_170 : decode cM_bring 170 = .ok (.lload 5, 2) := by decide +kernel
theorem dM_bring_172 : decode cM_bring 172 = .ok (.lastore, 1) := by decide +kernel
theorem dM_bring_173 : decode cM_bring 173 = .ok (.iinc 4 1, 3) := by decide +kernel
theorem dM_bring_176 : decode cM_bring 176 = .ok (.goto (-57), 3) := by decide +kernel
theorem dM_bring_179 : decode cM_bring 179 = .ok (.iconst 0, 1) := by decide +kernel
theorem dM_bring_180 : decode cM_bring 180 = .ok (.istore 4, 2) := by decide +kernel
theorem dM_bring_182 : decode cM_bring 182 = .ok (.iload 4, 2) := by decide +kernel
theorem dM_bring_184 : decode cM_bring 184 = .ok (.iload_n 2, 1) := by decide +kernel
theorem dM_bring_185 : decode cM_bring 185 = .ok (.if_icmp .ge 57, 3) := by decide +kernel
theorem dM_bring_188 : decode cM_bring 188 = .ok (.aload_n 0, 1) := by decide +kernel
theorem dM_bring_189 : decode cM_bring 189 = .ok (.getfield 16, 3) := by decide +kernel
theorem dM_bring_192 : decode cM_bring 192 = .ok (.iconst 4, 1) := by decide +kernel
theorem dM_bring_193 : decode cM_bring 193 = .ok (.iload 4, 2) := by decide +kernel
theorem dM_bring_195 : decode cM_bring 195 = .ok (.imul, 1) := by decide +kernel
theorem dM_bring_196 : decode cM_bring 196 = .ok (.iload_n 1, 1) := by decide +kernel
theorem dM_bring_197 : decode cM_bring 197 = .ok (.iadd, 1) := by decide +kernel
theorem dM_bring_198 : decode cM_bring 198 = .ok (.laload, 1) := by decide +kernel
theorem dM_bring_199 : decode cM_bring 199 = .ok (.lstore 5, 2) := by decide +kernel
theorem dM_bring_201 : decode cM_bring 201 = .ok (.aload_n 0, 1) := by decide +kernel
theorem dM_bring_202 : decode cM_bring 202 = .ok (.getfield 16, 3) := by decide +kernel
theorem dM_bring_205 : decode cM_bring 205 = .ok (.iconst 4, 1) := by decide +kernel
theorem dM_bring_206 : decode cM_bring 206 = .ok (.iload 4, 2) := by decide +kernel
theorem dM_bring_208 : decode cM_bring 208 = .ok (.imul, 1) := by decide +kernel
theorem dM_bring_209 : decode cM_bring 209 = .ok (.iload_n 1, 1) := by decide +kernel
theorem dM_bring_210 : decode cM_bring 210 = .ok (.iadd, 1) := by decide +kernel
theorem dM_bring_211 : decode cM_bring 211 = .ok (.aload_n 0, 1) := by decide +kernel
theorem dM_bring_212 : decode cM_bring 212 = .ok (.getfield 16, 3) := by decide +kernel
theorem dM_bring_215 : decode cM_bring 215 = .ok (.iconst 4, 1) := by decide +kernel
theorem dM_bring_216 : decode cM_bring 216 = .ok (.iload 4, 2) := by decide +kernel
theorem dM_bring_218 : decode cM_bring 218 = .ok (.imul, 1) := by decide +kernel
theorem dM_bring_219 : decode cM_bring 219 = .ok (.iload_n 3, 1) := by decide +kernel
theorem dM_bring_220 : decode cM_bring 220 = .ok (.iadd, 1) := by decide +kernel
theorem dM_bring_221 : decode cM_bring 221 = .ok (.laload, 1) := by decide +kernel
theorem dM_bring_222 : decode cM_bring 222 = .ok (.lastore, 1) := by decide +kernel
theorem dM_bring_223 : decode cM_bring 223 = .ok (.aload_n 0, 1) := by decide +kernel
theorem dM_bring_224 : decode cM_bring 224 = .ok (.getfield 16, 3) := by decide +kernel
theorem dM_bring_227 : decode cM_bring 227 = .ok (.iconst 4, 1) := by decide +kernel
theorem dM_bring_228 : decode cM_bring 228 = .ok (.iload 4, 2) := by decide +kernel
theorem dM_bring_230 : decode cM_bring 230 = .ok (.imul, 1) := by decide +kernel
theorem dM_bring_231 : decode cM_bring 231 = .ok (.iload_n 3, 1) := by decide +kernel
theorem dM_bring_232 : decode cM_bring 232 = .ok (.iadd, 1) := by decide +kernel
theorem dM_bring_233 : decode cM_bring 233 = .ok (.lload 5, 2) := by decide +kernel
theorem dM_bring_235 : decode cM_bring 235 = .ok (.lastore, 1) := by decide +kernel
theorem dM_bring_236 : decode cM_bring 236 = .ok (.iinc 4 1, 3) := by decide +kernel
theorem dM_bring_239 : decode cM_bring 239 = .ok (.goto (-57), 3) := by decide +kernel
theorem dM_bring_242 : decode cM_bring 242 = .ok (.iload_n 3, 1) := by decide +kernel
theorem dM_bring_243 : decode cM_bring 243 = .ok (.ifCond .lt 7, 3) := by decide +kernel
theorem dM_bring_246 : decode cM_bring 246 = .ok (.iconst 1, 1) := by decide +kernel
theorem dM_bring_247 : decode cM_bring 247 = .ok (.goto 4, 3) := by decide +kernel
theorem dM_bring_250 : decode cM_bring 250 = .ok (.iconst 0, 1) := by decide +kernel
theorem dM_bring_251 : decode cM_bring 251 = .ok (.ireturn, 1) := by decide +kernel
abbrev cM_look : ByteArray := prog_8_method_13_code
abbrev yM_look : MethodName := ⟨"RationalFormsModel", "look", "(I)V"⟩
abbrev wsM_look : List Cond := .code yM_look cM_look 14 none :: GG
theorem dM_look_0 : decode cM_look 0 = .ok (.aload_n 0, 1) := by decide +kernel
theorem dM_look_1 : decode cM_look 1 = .ok (.getfield 7, 3) := by decide +kernel
theorem dM_look_4 : decode cM_look 4 = .ok (.iload_n 1, 1) := by decide +kernel
theorem dM_look_5 : decode cM_look 5 = .ok (.iaload, 1) := by decide +kernel
theorem dM_look_6 : decode cM_look 6 = .ok (.istore_n 2, 1) := by decide +kernel
theorem dM_look_7 : decode cM_look 7 = .ok (.iconst 0, 1) := by decide +kernel
theorem dM_look_8 : decode cM_look 8 = .ok (.istore_n 3, 1) := by decide +kernel
theorem dM_look_9 : decode cM_look 9 = .ok (.iload_n 3, 1) := by decide +kernel
theorem dM_look_10 : decode cM_look 10 = .ok (.bipush 16, 2) := by decide +kernel
theorem dM_look_12 : decode cM_look 12 = .ok (.if_icmp .ge 27, 3) := by decide +kernel
theorem dM_look_15 : decode cM_look 15 = .ok (.aload_n 0, 1) := by decide +kernel
theorem dM_look_16 : decode cM_look 16 = .ok (.getfield 16, 3) := by decide +kernel
theorem dM_look_19 : decode cM_look 19 = .ok (.iload_n 3, 1) := by decide +kernel
theorem dM_look_20 : decode cM_look 20 = .ok (.aload_n 0, 1) := by decide +kernel
theorem dM_look_21 : decode cM_look 21 = .ok (.getfield 13, 3) := by decide +kernel
theorem dM_look_24 : decode cM_look 24 = .ok (.bipush 16, 2) := by decide +kernel
theorem dM_look_26 : decode cM_look 26 = .ok (.iload_n 1, 1) := by decide +kernel
theorem dM_look_27 : decode cM_look 27 = .ok (.imul, 1) := by decide +kernel
theorem dM_look_28 : decode cM_look 28 = .ok (.iload_n 3, 1) := by decide +kernel
theorem dM_look_29 : decode cM_look 29 = .ok (.iadd, 1) := by decide +kernel
theorem dM_look_30 : decode cM_look 30 = .ok (.iaload, 1) := by decide +kernel
theorem dM_look_31 : decode cM_look 31 = .ok (.i2l, 1) := by decide +kernel
theorem dM_look_32 : decode cM_look 32 = .ok (.lastore, 1) := by decide +kernel
theorem dM_look_33 : decode cM_look 33 = .ok (.iinc 3 1, 3) := by decide +kernel
theorem dM_look_36 : decode cM_look 36 = .ok (.goto (-27), 3) := by decide +kernel
theorem dM_look_39 : decode cM_look 39 = .ok (.aload_n 0, 1) := by decide +kernel
theorem dM_look_40 : decode cM_look 40 = .ok (.iconst 0, 1) := by decide +kernel
theorem dM_look_41 : decode cM_look 41 = .ok (.putfield 56, 3) := by decide +kernel
theorem dM_look_44 : decode cM_look 44 = .ok (.aload_n 0, 1) := by decide +kernel
theorem dM_look_45 : decode cM_look 45 = .ok (.iconst 0, 1) := by decide +kernel
theorem dM_look_46 : decode cM_look 46 = .ok (.putfield 59, 3) := by decide +kernel
theorem dM_look_49 : decode cM_look 49 = .ok (.aload_n 0, 1) := by decide +kernel
theorem dM_look_50 : decode cM_look 50 = .ok (.iconst 0, 1) := by decide +kernel
theorem dM_look_51 : decode cM_look 51 = .ok (.putfield 62, 3) := by decide +kernel
theorem dM_look_54 : decode cM_look 54 = .ok (.aload_n 0, 1) := by decide +kernel
theorem dM_look_55 : decode cM_look 55 = .ok (.iconst 0, 1) := by decide +kernel
theorem dM_look_56 : decode cM_look 56 = .ok (.putfield 45, 3) := by decide +kernel
theorem dM_look_59 : decode cM_look 59 = .ok (.aload_n 0, 1) := by decide +kernel
theorem dM_look_60 : decode cM_look 60 = .ok (.ldc2_w 39, 3) := by decide +kernel
theorem dM_look_63 : decode cM_look 63 = .ok (.invokevirtual 48, 3) := by decide +kernel
theorem dM_look_66 : decode cM_look 66 = .ok (.lconst 1, 1) := by decide +kernel
theorem dM_look_67 : decode cM_look 67 = .ok (.lstore_n 3, 1) := by decide +kernel
theorem dM_look_68 : decode cM_look 68 = .ok (.lconst 1, 1) := by decide +kernel
theorem dM_look_69 : decode cM_look 69 = .ok (.lstore 5, 2) := by decide +kernel
theorem dM_look_71 : decode cM_look 71 = .ok (.aload_n 0, 1) := by decide +kernel
theorem dM_look_72 : decode cM_look 72 = .ok (.getfield 56, 3) := by decide +kernel
theorem dM_look_75 : decode cM_look 75 = .ok (.iload_n 2, 1) := by decide +kernel
theorem dM_look_76 : decode cM_look 76 = .ok (.if_icmp .ge 228, 3) := by decide +kernel
theorem dM_look_79 : decode cM_look 79 = .ok (.aload_n 0, 1) := by decide +kernel
theorem dM_look_80 : decode cM_look 80 = .ok (.aload_n 0, 1) := by decide +kernel
theorem dM_look_81 : decode cM_look 81 = .ok (.getfield 56, 3) := by decide +kernel
theorem dM_look_84 : decode cM_look 84 = .ok (.iload_n 2, 1) := by decide +kernel
theorem dM_look_85 : decode cM_look 85 = .ok (.invokevirtual 65, 3) := by decide +kernel
theorem dM_look_88 : decode cM_look 88 = .ok (.ifCond .eq 216, 3) := by decide +kernel
theorem dM_look_91 : decode cM_look 91 = .ok (.aload_n 0, 1) := by decide +kernel
theorem dM_look_92 : decode cM_look 92 = .ok (.getfield 56, 3) := by decide +kernel
theorem dM_look_95 : decode cM_look 95 = .ok (.istore 7, 2) := by decide +kernel
theorem dM_look_97 : decode cM_look 97 = .ok (.aload_n 0, 1) := by decide +kernel
theorem dM_look_98 : decode cM_look 98 = .ok (.getfield 16, 3) := by decide +kernel
theorem dM_look_101 : decode cM_look 101 = .ok (.iconst 5, 1) := by decide +kernel
theorem dM_look_102 : decode cM_look 102 = .ok (.iload 7, 2) := by decide +kernel
theorem dM_look_104 : decode cM_look 104 = .ok (.imul, 1) := by decide +kernel
theorem dM_look_105 : decode cM_look 105 = .ok (.laload, 1) := by decide +kernel
theorem dM_look_106 : decode cM_look 106 = .ok (.lstore 8, 2) := by decide +kernel
theorem dM_look_108 : decode cM_look 108 = .ok (.lload 8, 2) := by decide +kernel
theorem dM_look_110 : decode cM_look 110 = .ok (.invokestatic 69, 3) := by decide +kernel
theorem dM_look_113 : decode cM_look 113 = .ok (.lstore 10, 2) := by decide +kernel
theorem dM_look_115 : decode cM_look 115 = .ok (.aload_n 0, 1) := by decide +kernel
theorem dM_look_116 : decode cM_look 116 = .ok (.lload 10, 2) := by decide +kernel
theorem dM_look_118 : decode cM_look 118 = .ok (.invokevirtual 73, 3) := by decide +kernel
theorem dM_look_121 : decode cM_look 121 = .ok (.aload_n 0, 1) := by decide +kernel
theorem dM_look_122 : decode cM_look 122 = .ok (.getfield 20, 3) := by decide +kernel
theorem dM_look_125 : decode cM_look 125 = .ok (.iload 7, 2) := by decide +kernel
theorem dM_look_127 : decode cM_look 127 = .ok (.lload 10, 2) := by decide +kernel
theorem dM_look_129 : decode cM_look 129 = .ok (.lload 5, 2) := by decide +kernel
theorem dM_look_131 : decode cM_look 131 = .ok (.invokestatic 76, 3) := by decide +kernel
theorem dM_look_134 : decode cM_look 134 = .ok (.lastore, 1) := by decide +kernel
theorem dM_look_135 : decode cM_look 135 = .ok (.aload_n 0, 1) := by decide +kernel
theorem dM_look_136 : decode cM_look 136 = .ok (.aload_n 0, 1) := by decide +kernel
theorem dM_look_137 : decode cM_look 137 = .ok (.getfield 20, 3) := by decide +kernel
theorem dM_look_140 : decode cM_look 140 = .ok (.iload 7, 2) := by decide +kernel
theorem dM_look_142 : decode cM_look 142 = .ok (.laload, 1) := by decide +kernel
theorem dM_look_143 : decode cM_look 143 = .ok (.lconst 0, 1) := by decide +kernel
theorem dM_look_144 : decode cM_look 144 = .ok (.lcmp, 1) := by decide +kernel
theorem dM_look_145 : decode cM_look 145 = .ok (.ifCond .le 12, 3) := by decide +kernel
theorem dM_look_148 : decode cM_look 148 = .ok (.aload_n 0, 1) := by decide +kernel
theorem dM_look_149 : decode cM_look 149 = .ok (.getfield 59, 3) := by decide +kernel
theorem dM_look_152 : decode cM_look 152 = .ok (.iconst 1, 1) := by decide +kernel
theorem dM_look_153 : decode cM_look 153 = .ok (.iadd, 1) := by decide +kernel
theorem dM_look_154 : decode cM_look 154 = .ok (.goto 7, 3) := by decide +kernel
theorem dM_look_157 : decode cM_look 157 = .ok (.aload_n 0, 1) := by decide +kernel
theorem dM_look_158 : decode cM_look 158 = .ok (.getfield 59, 3) := by decide +kernel
theorem dM_look_161 : decode cM_look 161 = .ok (.putfield 59, 3) := by decide +kernel
theorem dM_look_164 : decode cM_look 164 = .ok (.aload_n 0, 1) := by decide +kernel
theorem dM_look_165 : decode cM_look 165 = .ok (.aload_n 0, 1) := by decide +kernel
theorem dM_look_166 : decode cM_look 166 = .ok (.getfield 20, 3) := by decide +kernel
theorem dM_look_169 : decode cM_look 169 = .ok (.iload 7, 2) := by decide +kernel
theorem dM_look_171 : decode cM_look 171 = .ok (.laload, 1) := by decide +kernel
theorem dM_look_172 : decode cM_look 172 = .ok (.lconst 0, 1) := by decide +kernel
theorem dM_look_173 : decode cM_look 173 = .ok (.lcmp, 1) := by decide +kernel
theorem dM_look_174 : decode cM_look 174 = .ok (.ifCond .ge 12, 3) := by decide +kernel
theorem dM_look_177 : decode cM_look 177 = .ok (.aload_n 0, 1) := by decide +kernel
theorem dM_look_178 : decode cM_look 178 = .ok (.getfield 62, 3) := by decide +kernel
theorem dM_look_181 : decode cM_look 181 = .ok (.iconst 1, 1) := by decide +kernel
theorem dM_look_182 : decode cM_look 182 = .ok (.iadd, 1) := by decide +kernel
theorem dM_look_183 : decode cM_look 183 = .ok (.goto 7, 3) := by decide +kernel
theorem dM_look_186 : decode cM_look 186 = .ok (.aload_n 0, 1) := by decide +kernel
theorem dM_look_187 : decode cM_look 187 = .ok (.getfield 62, 3) := by decide +kernel
theorem dM_look_190 : decode cM_look 190 = .ok (.putfield 62, 3) := by decide +kernel
theorem dM_look_193 : decode cM_look 193 = .ok (.iload 7, 2) := by decide +kernel
theorem dM_look_195 : decode cM_look 195 = .ok (.iconst 1, 1) := by decide +kernel
theorem dM_look_196 : decode cM_look 196 = .ok (.iadd, 1) := by decide +kernel
theorem dM_look_197 : decode cM_look 197 = .ok (.istore 12, 2) := by decide +kernel
theorem dM_look_199 : decode cM_look 199 = .ok (.iload 12, 2) := by decide +kernel
theorem dM_look_201 : decode cM_look 201 = .ok (.iload_n 2, 1) := by decide +kernel
theorem dM_look_202 : decode cM_look 202 = .ok (.if_icmp .ge 82, 3) := by decide +kernel
theorem dM_look_205 : decode cM_look 205 = .ok (.iload 7, 2) := by decide +kernel
theorem dM_look_207 : decode cM_look 207 = .ok (.iconst 1, 1) := by decide +kernel
theorem dM_look_208 : decode cM_look 208 = .ok (.iadd, 1) := by decide +kernel
theorem dM_look_209 : decode cM_look 209 = .ok (.istore 13, 2) := by decide +kernel
theorem dM_look_211 : decode cM_look 211 = .ok (.iload 13, 2) := by decide +kernel
theorem dM_look_213 : decode cM_look 213 = .ok (.iload_n 2, 1) := by decide +kernel
theorem dM_look_214 : decode cM_look 214 = .ok (.if_icmp .ge 64, 3) := by decide +kernel
theorem dM_look_217 : decode cM_look 217 = .ok (.aload_n 0, 1) := by decide +kernel
theorem dM_look_218 : decode cM_look 218 = .ok (.getfield 16, 3) := by decide +kernel
theorem dM_look_221 : decode cM_look 221 = .ok (.iconst 4, 1) := by decide +kernel
theorem dM_look_222 : decode cM_look 222 = .ok (.iload 12, 2) := by decide +kernel
theorem dM_look_224 : decode cM_look 224 = .ok (.imul, 1) := by decide +kernel
theorem dM_look_225 : decode cM_look 225 = .ok (.iload 13, 2) := by decide +kernel
theorem dM_look_227 : decode cM_look 227 = .ok (.iadd, 1) := by decide +kernel
theorem dM_look_228 : decode cM_look 228 = .ok (.lload 8, 2) := by decide +kernel
theorem dM_look_230 : decode cM_look 230 = .ok (.aload_n 0, 1) := by decide +kernel
theorem dM_look_231 : decode cM_look 231 = .ok (.getfield 16, 3) := by decide +kernel
theorem dM_look_234 : decode cM_look 234 = .ok (.iconst 4, 1) := by decide +kernel
theorem dM_look_235 : decode cM_look 235 = .ok (.iload 12, 2) := by decide +kernel
theorem dM_look_237 : decode cM_look 237 = .ok (.imul, 1) := by decide +kernel
theorem dM_look_238 : decode cM_look 238 = .ok (.iload 13, 2) := by decide +kernel
theorem dM_look_240 : decode cM_look 240 = .ok (.iadd, 1) := by decide +kernel
theorem dM_look_241 : decode cM_look 241 = .ok (.laload, 1) := by decide +kernel
theorem dM_look_242 : decode cM_look 242 = .ok (.lmul, 1) := by decide +kernel
theorem dM_look_243 : decode cM_look 243 = .ok (.aload_n 0, 1) := by decide +kernel
theorem dM_look_244 : decode cM_look 244 = .ok (.getfield 16, 3) := by decide +kernel
theorem dM_look_247 : decode cM_look 247 = .ok (.iconst 4, 1) := by decide +kernel
theorem dM_look_248 : decode cM_look 248 = .ok (.iload 12, 2) := by decide +kernel
theorem dM_look_250 : decode cM_look 250 = .ok (.imul, 1) := by decide +kernel
theorem dM_look_251 : decode cM_look 251 = .ok (.iload 7, 2) := by decide +kernel
theorem dM_look_253 : decode cM_look 253 = .ok (.iadd, 1) := by decide +kernel
theorem dM_look_254 : decode cM_look 254 = .ok (.laload, 1) := by decide +kernel
theorem dM_look_255 : decode cM_look 255 = .ok (.aload_n 0, 1) := by decide +kernel
theorem dM_look_256 : decode cM_look 256 = .ok (.getfield 16, 3) := by decide +kernel
theorem dM_look_259 : decode cM_look 259 = .ok (.iconst 4, 1) := by decide +kernel
theorem dM_look_260 : decode cM_look 260 = .ok (.iload 7, 2) := by decide +kernel
theorem dM_look_262 : decode cM_look 262 = .ok (.imul, 1) := by decide +kernel
theorem dM_look_263 : decode cM_look 263 = .ok (.iload 13, 2) := by decide +kernel
theorem dM_look_265 : decode cM_look 265 = .ok (.iadd, 1) := by decide +kernel
theorem dM_look_266 : decode cM_look 266 = .ok (.laload, 1) := by decide +kernel
theorem dM_look_267 : decode cM_look 267 = .ok (.lmul, 1) := by decide +kernel
theorem dM_look_268 : decode cM_look 268 = .ok (.lsub, 1) := by decide +kernel
theorem dM_look_269 : decode cM_look 269 = .ok (.lload_n 3, 1) := by decide +kernel
theorem dM_look_270 : decode cM_look 270 = .ok (.ldiv, 1) := by decide +kernel
theorem dM_look_271 : decode cM_look 271 = .ok (.lastore, 1) := by decide +kernel
theorem dM_look_272 : decode cM_look 272 = .ok (.iinc 13 1, 3) := by decide +kernel
theorem dM_look_275 : decode cM_look 275 = .ok (.goto (-64), 3) := by decide +kernel
theorem dM_look_278 : decode cM_look 278 = .ok (.iinc 12 1, 3) := by decide +kernel
theorem dM_look_281 : decode cM_look 281 = .ok (.goto (-82), 3) := by decide +kernel
theorem dM_look_284 : decode cM_look 284 = .ok (.lload 8, 2) := by decide +kernel
theorem dM_look_286 : decode cM_look 286 = .ok (.lstore_n 3, 1) := by decide +kernel
theorem dM_look_287 : decode cM_look 287 = .ok (.lload 10, 2) := by decide +kernel
theorem dM_look_289 : decode cM_look 289 = .ok (.lstore 5, 2) := by decide +kernel
theorem dM_look_291 : decode cM_look 291 = .ok (.aload_n 0, 1) := by decide +kernel
theorem dM_look_292 : decode cM_look 292 = .ok (.dup, 1) := by decide +kernel
theorem dM_look_293 : decode cM_look 293 = .ok (.getfield 56, 3) := by decide +kernel
theorem dM_look_296 : decode cM_look 296 = .ok (.iconst 1, 1) := by decide +kernel
theorem dM_look_297 : decode cM_look 297 = .ok (.iadd, 1) := by decide +kernel
theorem dM_look_298 : decode cM_look 298 = .ok (.putfield 56, 3) := by decide +kernel
theorem dM_look_301 : decode cM_look 301 = .ok (.goto (-230), 3) := by decide +kernel
theorem dM_look_304 : decode cM_look 304 = .ok (.aload_n 0, 1) := by decide +kernel
theorem dM_look_305 : decode cM_look 305 = .ok (.lload 5, 2) := by decide +kernel
theorem dM_look_307 : decode cM_look 307 = .ok (.putfield 79, 3) := by decide +kernel
theorem dM_look_310 : decode cM_look 310 = .ok (.return_, 1) := by decide +kernel
abbrev cM_hasseOf : ByteArray := prog_8_method_19_code
abbrev yM_hasseOf : MethodName := ⟨"RationalFormsModel", "hasseOf", "(IJ)I"⟩
abbrev wsM_hasseOf : List Cond := .code yM_hasseOf cM_hasseOf 7 (some .int) :: GG
theorem dM_hasseOf_0 : decode cM_hasseOf 0 = .ok (.iconst 1, 1) := by decide +kernel
theorem dM_hasseOf_1 : decode cM_hasseOf 1 = .ok (.istore 4, 2) := by decide +kernel
theorem dM_hasseOf_3 : decode cM_hasseOf 3 = .ok (.iconst 0, 1) := by decide +kernel
theorem dM_hasseOf_4 : decode cM_hasseOf 4 = .ok (.istore 5, 2) := by decide +kernel
theorem dM_hasseOf_6 : decode cM_hasseOf 6 = .ok (.iload 5, 2) := by decide +kernel
theorem dM_hasseOf_8 : decode cM_hasseOf 8 = .ok (.iload_n 1, 1) := by decide +kernel
theorem dM_hasseOf_9 : decode cM_hasseOf 9 = .ok (.if_icmp .ge 50, 3) := by decide +kernel
theorem dM_hasseOf_12 : decode cM_hasseOf 12 = .ok (.iload 5, 2) := by decide +kernel
theorem dM_hasseOf_14 : decode cM_hasseOf 14 = .ok (.iconst 1, 1) := by decide +kernel
theorem dM_hasseOf_15 : decode cM_hasseOf 15 = .ok (.iadd, 1) := by decide +kernel
theorem dM_hasseOf_16 : decode cM_hasseOf 16 = .ok (.istore 6, 2) := by decide +kernel
theorem dM_hasseOf_18 : decode cM_hasseOf 18 = .ok (.iload 6, 2) := by decide +kernel
theorem dM_hasseOf_20 : decode cM_hasseOf 20 = .ok (.iload_n 1, 1) := by decide +kernel
theorem dM_hasseOf_21 : decode cM_hasseOf 21 = .ok (.if_icmp .ge 32, 3) := by decide +kernel
theorem dM_hasseOf_24 : decode cM_hasseOf 24 = .ok (.iload 4, 2) := by decide +kernel
theorem dM_hasseOf_26 : decode cM_hasseOf 26 = .ok (.aload_n 0, 1) := by decide +kernel
theorem dM_hasseOf_27 : decode cM_hasseOf 27 = .ok (.getfield 20, 3) := by decide +kernel
theorem dM_hasseOf_30 : decode cM_hasseOf 30 = .ok (.iload 5, 2) := by decide +kernel
theorem dM_hasseOf_32 : decode cM_hasseOf 32 = .ok (.laload, 1) := by decide +kernel
theorem dM_hasseOf_33 : decode cM_hasseOf 33 = .ok (.aload_n 0, 1) := by decide +kernel
theorem dM_hasseOf_34 : decode cM_hasseOf 34 = .ok (.getfield 20, 3) := by decide +kernel
theorem dM_hasseOf_37 : decode cM_hasseOf 37 = .ok (.iload 6, 2) := by decide +kernel
theorem dM_hasseOf_39 : decode cM_hasseOf 39 = .ok (.laload, 1) := by decide +kernel
theorem dM_hasseOf_40 : decode cM_hasseOf 40 = .ok (.lload_n 2, 1) := by decide +kernel
theorem dM_hasseOf_41 : decode cM_hasseOf 41 = .ok (.invokestatic 96, 3) := by decide +kernel
theorem dM_hasseOf_44 : decode cM_hasseOf 44 = .ok (.imul, 1) := by decide +kernel
theorem dM_hasseOf_45 : decode cM_hasseOf 45 = .ok (.istore 4, 2) := by decide +kernel
theorem dM_hasseOf_47 : decode cM_hasseOf 47 = .ok (.iinc 6 1, 3) := by decide +kernel
theorem dM_hasseOf_50 : decode cM_hasseOf 50 = .ok (.goto (-32), 3) := by decide +kernel
theorem dM_hasseOf_53 : decode cM_hasseOf 53 = .ok (.iinc 5 1, 3) := by decide +kernel
theorem dM_hasseOf_56 : decode cM_hasseOf 56 = .ok (.goto (-50), 3) := by decide +kernel
theorem dM_hasseOf_59 : decode cM_hasseOf 59 = .ok (.iload 4, 2) := by decide +kernel
theorem dM_hasseOf_61 : decode cM_hasseOf 61 = .ok (.ireturn, 1) := by decide +kernel
abbrev cM_isZeroAt : ByteArray := prog_8_method_20_code
abbrev yM_isZeroAt : MethodName := ⟨"RationalFormsModel", "isZeroAt", "(IJZJ)Z"⟩
abbrev wsM_isZeroAt : List Cond := .code yM_isZeroAt cM_isZeroAt 8 (some .boolean) :: GG
theorem dM_isZeroAt_0 : decode cM_isZeroAt 0 = .ok (.iload_n 1, 1) := by decide +kernel
theorem dM_isZeroAt_1 : decode cM_isZeroAt 1 = .ok (.iconst 2, 1) := by decide +kernel
theorem dM_isZeroAt_2 : decode cM_isZeroAt 2 = .ok (.if_icmp .ge 5, 3) := by decide +kernel
theorem dM_isZeroAt_5 : decode cM_isZeroAt 5 = .ok (.iconst 0, 1) := by decide +kernel
theorem dM_isZeroAt_6 : decode cM_isZeroAt 6 = .ok (.ireturn, 1) := by decide +kernel
theorem dM_isZeroAt_7 : decode cM_isZeroAt 7 = .ok (.aload_n 0, 1) := by decide +kernel
theorem dM_isZeroAt_8 : decode cM_isZeroAt 8 = .ok (.iload_n 1, 1) := by decide +kernel
theorem dM_isZeroAt_9 : decode cM_isZeroAt 9 = .ok (.lload 5, 2) := by decide +kernel
theorem dM_isZeroAt_11 : decode cM_isZeroAt 11 = .ok (.invokevirtual 100, 3) := by decide +kernel
theorem dM_isZeroAt_14 : decode cM_isZeroAt 14 = .ok (.istore 7, 2) := by decide +kernel
theorem dM_isZeroAt_16 : decode cM_isZeroAt 16 = .ok (.iload_n 1, 1) := by decide +kernel
theorem dM_isZeroAt_17 : decode cM_isZeroAt 17 = .ok (.iconst 2, 1) := by decide +kernel
theorem dM_isZeroAt_18 : decode cM_isZeroAt 18 = .ok (.if_icmp .ne 11, 3) := by decide +kernel
theorem dM_isZeroAt_21 : decode cM_isZeroAt 21 = .ok (.lload_n 2, 1) := by decide +kernel
theorem dM_isZeroAt_22 : decode cM_isZeroAt 22 = .ok (.lneg, 1) := by decide +kernel
theorem dM_isZeroAt_23 : decode cM_isZeroAt 23 = .ok (.lload 5, 2) := by decide +kernel
theorem dM_isZeroAt_25 : decode cM_isZeroAt 25 = .ok (.invokestatic 104, 3) := by decide +kernel
theorem dM_isZeroAt_28 : decode cM_isZeroAt 28 = .ok (.ireturn, 1) := by decide +kernel
theorem dM_isZeroAt_29 : decode cM_isZeroAt 29 = .ok (.iload_n 1, 1) := by decide +kernel
theorem dM_isZeroAt_30 : decode cM_isZeroAt 30 = .ok (.iconst 3, 1) := by decide +kernel
theorem dM_isZeroAt_31 : decode cM_isZeroAt 31 = .ok (.if_icmp .ne 24, 3) := by decide +kernel
theorem dM_isZeroAt_34 : decode cM_isZeroAt 34 = .ok (.iload 7, 2) := by decide +kernel
theorem dM_isZeroAt_36 : decode cM_isZeroAt 36 = .ok (.ldc2_w 37, 3) := by decide +kernel
theorem dM_isZeroAt_39 : decode cM_isZeroAt 39 = .ok (.lload_n 2, 1) := by decide +kernel
theorem dM_isZeroAt_40 : decode cM_isZeroAt 40 = .ok (.lneg, 1) := by decide +kernel
theorem dM_isZeroAt_41 : decode cM_isZeroAt 41 = .ok (.lload 5, 2) := by decide +kernel
theorem dM_isZeroAt_43 : decode cM_isZeroAt 43 = .ok (.invokestatic 96, 3) := by decide +kernel
theorem dM_isZeroAt_46 : decode cM_isZeroAt 46 = .ok (.if_icmp .ne 7, 3) := by decide +kernel
theorem dM_isZeroAt_49 : decode cM_isZeroAt 49 = .ok (.iconst 1, 1) := by decide +kernel
theorem dM_isZeroAt_50 : decode cM_isZeroAt 50 = .ok (.goto 4, 3) := by decide +kernel
theorem dM_isZeroAt_53 : decode cM_isZeroAt 53 = .ok (.iconst 0, 1) := by decide +kernel
theorem dM_isZeroAt_54 : decode cM_isZeroAt 54 = .ok (.ireturn, 1) := by decide +kernel
theorem dM_isZeroAt_55 : decode cM_isZeroAt 55 = .ok (.iload_n 1, 1) := by decide +kernel
theorem dM_isZeroAt_56 : decode cM_isZeroAt 56 = .ok (.iconst 4, 1) := by decide +kernel
theorem dM_isZeroAt_57 : decode cM_isZeroAt 57 = .ok (.if_icmp .ne 34, 3) := by decide +kernel
theorem dM_isZeroAt_60 : decode cM_isZeroAt 60 = .ok (.lload_n 2, 1) := by decide +kernel
theorem dM_isZeroAt_61 : decode cM_isZeroAt 61 = .ok (.lload 5, 2) := by decide +kernel
theorem dM_isZeroAt_63 : decode cM_isZeroAt 63 = .ok (.invokestatic 104, 3) := by decide +kernel
theorem dM_isZeroAt_66 : decode cM_isZeroAt 66 = .ok (.ifCond .eq 19, 3) := by decide +kernel
theorem dM_isZeroAt_69 : decode cM_isZeroAt 69 = .ok (.iload 7, 2) := by decide +kernel
theorem dM_isZeroAt_71 : decode cM_isZeroAt 71 = .ok (.ldc2_w 37, 3) := by decide +kernel
theorem dM_isZeroAt_74 : decode cM_isZeroAt 74 = .ok (.ldc2_w 37, 3) := by decide +kernel
theorem dM_isZeroAt_77 : decode cM_isZeroAt 77 = .ok (.lload 5, 2) := by decide +kernel
theorem dM_isZeroAt_79 : decode cM_isZeroAt 79 = .ok (.invokestatic 96, 3) := by decide +kernel
theorem dM_isZeroAt_82 : decode cM_isZeroAt 82 = .ok (.if_icmp .ne 7, 3) := by decide +kernel
theorem dM_isZeroAt_85 : decode cM_isZeroAt 85 = .ok (.iconst 1, 1) := by decide +kernel
theorem dM_isZeroAt_86 : decode cM_isZeroAt 86 = .ok (.goto 4, 3) := by decide +kernel
theorem dM_isZeroAt_89 : decode cM_isZeroAt 89 = .ok (.iconst 0, 1) := by decide +kernel
theorem dM_isZeroAt_90 : decode cM_isZeroAt 90 = .ok (.ireturn, 1) := by decide +kernel
theorem dM_isZeroAt_91 : decode cM_isZeroAt 91 = .ok (.lload 5, 2) := by decide +kernel
theorem dM_isZeroAt_93 : decode cM_isZeroAt 93 = .ok (.lconst 0, 1) := by decide +kernel
theorem dM_isZeroAt_94 : decode cM_isZeroAt 94 = .ok (.lcmp, 1) := by decide +kernel
theorem dM_isZeroAt_95 : decode cM_isZeroAt 95 = .ok (.ifCond .ne 8, 3) := by decide +kernel
theorem dM_isZeroAt_98 : decode cM_isZeroAt 98 = .ok (.iload 4, 2) := by decide +kernel
theorem dM_isZeroAt_100 : decode cM_isZeroAt 100 = .ok (.ifCond .eq 7, 3) := by decide +kernel
theorem dM_isZeroAt_103 : decode cM_isZeroAt 103 = .ok (.iconst 1, 1) := by decide +kernel
theorem dM_isZeroAt_104 : decode cM_isZeroAt 104 = .ok (.goto 4, 3) := by decide +kernel
theorem dM_isZeroAt_107 : decode cM_isZeroAt 107 = .ok (.iconst 0, 1) := by decide +kernel
theorem dM_isZeroAt_108 : decode cM_isZeroAt 108 = .ok (.ireturn, 1) := by decide +kernel
abbrev cM_obstacleOf : ByteArray := prog_8_method_21_code
abbrev yM_obstacleOf : MethodName := ⟨"RationalFormsModel", "obstacleOf", "(IJZ)I"⟩
abbrev wsM_obstacleOf : List Cond := .code yM_obstacleOf cM_obstacleOf 7 (some .int) :: GG
theorem dM_obstacleOf_0 : decode cM_obstacleOf 0 = .ok (.aload_n 0, 1) := by decide +kernel
theorem dM_obstacleOf_1 : decode cM_obstacleOf 1 = .ok (.iload_n 1, 1) := by decide +kernel
theorem dM_obstacleOf_2 : decode cM_obstacleOf 2 = .ok (.lload_n 2, 1) := by decide +kernel
theorem dM_obstacleOf_3 : decode cM_obstacleOf 3 = .ok (.iload 4, 2) := by decide +kernel
theorem dM_obstacleOf_5 : decode cM_obstacleOf 5 = .ok (.lconst 0, 1) := by decide +kernel
theorem dM_obstacleOf_6 : decode cM_obstacleOf 6 = .ok (.invokevirtual 107, 3) := by decide +kernel
theorem dM_obstacleOf_9 : decode cM_obstacleOf 9 = .ok (.ifCond .ne 5, 3) := by decide +kernel
theorem dM_obstacleOf_12 : decode cM_obstacleOf 12 = .ok (.iconst 0, 1) := by decide +kernel
theorem dM_obstacleOf_13 : decode cM_obstacleOf 13 = .ok (.ireturn, 1) := by decide +kernel
theorem dM_obstacleOf_14 : decode cM_obstacleOf 14 = .ok (.iload_n 1, 1) := by decide +kernel
theorem dM_obstacleOf_15 : decode cM_obstacleOf 15 = .ok (.iconst 2, 1) := by decide +kernel
theorem dM_obstacleOf_16 : decode cM_obstacleOf 16 = .ok (.if_icmp .ne 13, 3) := by decide +kernel
theorem dM_obstacleOf_19 : decode cM_obstacleOf 19 = .ok (.lload_n 2, 1) := by decide +kernel
theorem dM_obstacleOf_20 : decode cM_obstacleOf 20 = .ok (.ldc2_w 37, 3) := by decide +kernel
theorem dM_obstacleOf_23 : decode cM_obstacleOf 23 = .ok (.lcmp, 1) := by decide +kernel
theorem dM_obstacleOf_24 : decode cM_obstacleOf 24 = .ok (.ifCond .ne 5, 3) := by decide +kernel
theorem dM_obstacleOf_27 : decode cM_obstacleOf 27 = .ok (.iconst (-1), 1) := by decide +kernel
theorem dM_obstacleOf_28 : decode cM_obstacleOf 28 = .ok (.ireturn, 1) := by decide +kernel
theorem dM_obstacleOf_29 : decode cM_obstacleOf 29 = .ok (.iload_n 1, 1) := by decide +kernel
theorem dM_obstacleOf_30 : decode cM_obstacleOf 30 = .ok (.iconst 2, 1) := by decide +kernel
theorem dM_obstacleOf_31 : decode cM_obstacleOf 31 = .ok (.if_icmp .ne 39, 3) := by decide +kernel
theorem dM_obstacleOf_34 : decode cM_obstacleOf 34 = .ok (.ldc2_w 39, 3) := by decide +kernel
theorem dM_obstacleOf_37 : decode cM_obstacleOf 37 = .ok (.lstore 5, 2) := by decide +kernel
theorem dM_obstacleOf_39 : decode cM_obstacleOf 39 = .ok (.lload 5, 2) := by decide +kernel
theorem dM_obstacleOf_41 : decode cM_obstacleOf 41 = .ok (.invokestatic 111, 3) := by decide +kernel
theorem dM_obstacleOf_44 : decode cM_obstacleOf 44 = .ok (.ifCond .eq 13, 3) := by decide +kernel
theorem dM_obstacleOf_47 : decode cM_obstacleOf 47 = .ok (.lload_n 2, 1) := by decide +kernel
theorem dM_obstacleOf_48 : decode cM_obstacleOf 48 = .ok (.lneg, 1) := by decide +kernel
theorem dM_obstacleOf_49 : decode cM_obstacleOf 49 = .ok (.lload 5, 2) := by decide +kernel
theorem dM_obstacleOf_51 : decode cM_obstacleOf 51 = .ok (.invokestatic 104, 3) := by decide +kernel
theorem dM_obstacleOf_54 : decode cM_obstacleOf 54 = .ok (.ifCond .eq 12, 3) := by decide +kernel
theorem dM_obstacleOf_57 : decode cM_obstacleOf 57 = .ok (.lload 5, 2) := by decide +kernel
theorem dM_obstacleOf_59 : decode cM_obstacleOf 59 = .ok (.lconst 1, 1) := by decide +kernel
theorem dM_obstacleOf_60 : decode cM_obstacleOf 60 = .ok (.ladd, 1) := by decide +kernel
theorem dM_obstacleOf_61 : decode cM_obstacleOf 61 = .ok (.lstore 5, 2) := by decide +kernel
theorem dM_obstacleOf_63 : decode cM_obstacleOf 63 = .ok (.goto (-24), 3) := by decide +kernel
theorem dM_obstacleOf_66 : decode cM_obstacleOf 66 = .ok (.lload 5, 2) := by decide +kernel
theorem dM_obstacleOf_68 : decode cM_obstacleOf 68 = .ok (.l2i, 1) := by decide +kernel
theorem dM_obstacleOf_69 : decode cM_obstacleOf 69 = .ok (.ireturn, 1) := by decide +kernel
theorem dM_obstacleOf_70 : decode cM_obstacleOf 70 = .ok (.iconst 0, 1) := by decide +kernel
theorem dM_obstacleOf_71 : decode cM_obstacleOf 71 = .ok (.istore 5, 2) := by decide +kernel
theorem dM_obstacleOf_73 : decode cM_obstacleOf 73 = .ok (.iload 5, 2) := by decide +kernel
theorem dM_obstacleOf_75 : decode cM_obstacleOf 75 = .ok (.aload_n 0, 1) := by decide +kernel
theorem dM_obstacleOf_76 : decode cM_obstacleOf 76 = .ok (.getfield 45, 3) := by decide +kernel
theorem dM_obstacleOf_79 : decode cM_obstacleOf 79 = .ok (.if_icmp .ge 36, 3) := by decide +kernel
theorem dM_obstacleOf_82 : decode cM_obstacleOf 82 = .ok (.aload_n 0, 1) := by decide +kernel
theorem dM_obstacleOf_83 : decode cM_obstacleOf 83 = .ok (.iload_n 1, 1) := by decide +kernel
theorem dM_obstacleOf_84 : decode cM_obstacleOf 84 = .ok (.lload_n 2, 1) := by decide +kernel
theorem dM_obstacleOf_85 : decode cM_obstacleOf 85 = .ok (.iload 4, 2) := by decide +kernel
theorem dM_obstacleOf_87 : decode cM_obstacleOf 87 = .ok (.aload_n 0, 1) := by decide +kernel
theorem dM_obstacleOf_88 : decode cM_obstacleOf 88 = .ok (.getfield 23, 3) := by decide +kernel
theorem dM_obstacleOf_91 : decode cM_obstacleOf 91 = .ok (.iload 5, 2) := by decide +kernel
theorem dM_obstacleOf_93 : decode cM_obstacleOf 93 = .ok (.laload, 1) := by decide +kernel
theorem dM_obstacleOf_94 : decode cM_obstacleOf 94 = .ok (.invokevirtual 107, 3) := by decide +kernel
theorem dM_obstacleOf_97 : decode cM_obstacleOf 97 = .ok (.ifCond .ne 12, 3) := by decide +kernel
theorem dM_obstacleOf_100 : decode cM_obstacleOf 100 = .ok (.aload_n 0, 1) := by decide +kernel
theorem dM_obstacleOf_101 : decode cM_obstacleOf 101 = .ok (.getfield 23, 3) := by decide +kernel
theorem dM_obstacleOf_104 : decode cM_obstacleOf 104 = .ok (.iload 5, 2) := by decide +kernel
theorem dM_obstacleOf_106 : decode cM_obstacleOf 106 = .ok (.laload, 1) := by decide +kernel
theorem dM_obstacleOf_107 : decode cM_obstacleOf 107 = .ok (.l2i, 1) := by decide +kernel
theorem dM_obstacleOf_108 : decode cM_obstacleOf 108 = .ok (.ireturn, 1) := by decide +kernel
theorem dM_obstacleOf_109 : decode cM_obstacleOf 109 = .ok (.iinc 5 1, 3) := by decide +kernel
theorem dM_obstacleOf_112 : decode cM_obstacleOf 112 = .ok (.goto (-39), 3) := by decide +kernel
theorem dM_obstacleOf_115 : decode cM_obstacleOf 115 = .ok (.iconst (-1), 1) := by decide +kernel
theorem dM_obstacleOf_116 : decode cM_obstacleOf 116 = .ok (.ireturn, 1) := by decide +kernel
abbrev cM_noteSigns : ByteArray := prog_8_method_30_code
abbrev yM_noteSigns : MethodName := ⟨"RationalFormsModel", "noteSigns", "()V"⟩
abbrev wsM_noteSigns : List Cond := .code yM_noteSigns cM_noteSigns 2 none :: GG
theorem dM_noteSigns_0 : decode cM_noteSigns 0 = .ok (.aload_n 0, 1) := by decide +kernel
theorem dM_noteSigns_1 : decode cM_noteSigns 1 = .ok (.iconst 0, 1) := by decide +kernel
theorem dM_noteSigns_2 : decode cM_noteSigns 2 = .ok (.putfield 126, 3) := by decide +kernel
theorem dM_noteSigns_5 : decode cM_noteSigns 5 = .ok (.iconst 0, 1) := by decide +kernel
theorem dM_noteSigns_6 : decode cM_noteSigns 6 = .ok (.istore_n 1, 1) := by decide +kernel
theorem dM_noteSigns_7 : decode cM_noteSigns 7 = .ok (.iload_n 1, 1) := by decide +kernel
theorem dM_noteSigns_8 : decode cM_noteSigns 8 = .ok (.aload_n 0, 1) := by decide +kernel
theorem dM_noteSigns_9 : decode cM_noteSigns 9 = .ok (.getfield 45, 3) := by decide +kernel
theorem dM_noteSigns_12 : decode cM_noteSigns 12 = .ok (.if_icmp .ge 52, 3) := by decide +kernel
theorem dM_noteSigns_15 : decode cM_noteSigns 15 = .ok (.aload_n 0, 1) := by decide +kernel
theorem dM_noteSigns_16 : decode cM_noteSigns 16 = .ok (.aload_n 0, 1) := by decide +kernel
theorem dM_noteSigns_17 : decode cM_noteSigns 17 = .ok (.getfield 56, 3) := by decide +kernel
theorem dM_noteSigns_20 : decode cM_noteSigns 20 = .ok (.aload_n 0, 1) := by decide +kernel
theorem dM_noteSigns_21 : decode cM_noteSigns 21 = .ok (.getfield 23, 3) := by decide +kernel
theorem dM_noteSigns_24 : decode cM_noteSigns 24 = .ok (.iload_n 1, 1) := by decide +kernel
theorem dM_noteSigns_25 : decode cM_noteSigns 25 = .ok (.laload, 1) := by decide +kernel
theorem dM_noteSigns_26 : decode cM_noteSigns 26 = .ok (.invokevirtual 100, 3) := by decide +kernel
theorem dM_noteSigns_29 : decode cM_noteSigns 29 = .ok (.ifCond .ge 29, 3) := by decide +kernel
theorem dM_noteSigns_32 : decode cM_noteSigns 32 = .ok (.aload_n 0, 1) := by decide +kernel
theorem dM_noteSigns_33 : decode cM_noteSigns 33 = .ok (.getfield 26, 3) := by decide +kernel
theorem dM_noteSigns_36 : decode cM_noteSigns 36 = .ok (.aload_n 0, 1) := by decide +kernel
theorem dM_noteSigns_37 : decode cM_noteSigns 37 = .ok (.getfield 126, 3) := by decide +kernel
theorem dM_noteSigns_40 : decode cM_noteSigns 40 = .ok (.aload_n 0, 1) := by decide +kernel
theorem dM_noteSigns_41 : decode cM_noteSigns 41 = .ok (.getfield 23, 3) := by decide +kernel
theorem dM_noteSigns_44 : decode cM_noteSigns 44 = .ok (.iload_n 1, 1) := by decide +kernel
theorem dM_noteSigns_45 : decode cM_noteSigns 45 = .ok (.laload, 1) := by decide +kernel
theorem dM_noteSigns_46 : decode cM_noteSigns 46 = .ok (.l2i, 1) := by decide +kernel
theorem dM_noteSigns_47 : decode cM_noteSigns 47 = .ok (.iastore, 1) := by decide +kernel
theorem dM_noteSigns_48 : decode cM_noteSigns 48 = .ok (.aload_n 0, 1) := by decide +kernel
theorem dM_noteSigns_49 : decode cM_noteSigns 49 = .ok (.dup, 1) := by decide +kernel
theorem dM_noteSigns_50 : decode cM_noteSigns 50 = .ok (.getfield 126, 3) := by decide +kernel
theorem dM_noteSigns_53 : decode cM_noteSigns 53 = .ok (.iconst 1, 1) := by decide +kernel
theorem dM_noteSigns_54 : decode cM_noteSigns 54 = .ok (.iadd, 1) := by decide +kernel
theorem dM_noteSigns_55 : decode cM_noteSigns 55 = .ok (.putfield 126, 3) := by decide +kernel
theorem dM_noteSigns_58 : decode cM_noteSigns 58 = .ok (.iinc 1 1, 3) := by decide +kernel
theorem dM_noteSigns_61 : decode cM_noteSigns 61 = .ok (.goto (-54), 3) := by decide +kernel
theorem dM_noteSigns_64 : decode cM_noteSigns 64 = .ok (.return_, 1) := by decide +kernel
abbrev cM_thrown : ByteArray := prog_8_method_2_code
abbrev yM_thrown : MethodName := ⟨"RationalFormsModel", "thrown", "()I"⟩
abbrev wsM_thrown : List Cond := .code yM_thrown cM_thrown 1 (some .int) :: GG
theorem dM_thrown_0 : decode cM_thrown 0 = .ok (.aload_n 0, 1) := by decide +kernel
theorem dM_thrown_1 : decode cM_thrown 1 = .ok (.getfield 29, 3) := by decide +kernel
theorem dM_thrown_4 : decode cM_thrown 4 = .ok (.ireturn, 1) := by decide +kernel
def FrP (M M9 : Me) : Prop := (∀ k, k ≠ 28 → k ≠ 33 → M9 k = M k) ∧ ∀ j, j ≠ 8 → M9 28 j = M 28 j
theorem FrP.rf (M : Me) : FrP M M := ⟨fun _ _ _ => rfl, fun _ _ => rfl⟩
theorem FrP.tr {M M1 M2 : Me} (h1 : FrP M M1) (h2 : FrP M1 M2) : FrP M M2 := ⟨fun k a b => (h2.1 k a b).trans (h1.1 k a b), fun j a => (h2.2 j a).trans (h1.2 j a)⟩
def FrW (M M9 : Me) : Prop := ∀ q, q ≠ 31 → M9 q = M q
theorem FrW.rf (M : Me) : FrW M M := fun _ _ => rfl
theorem FrW.tr {M M1 M2 : Me} (h1 : FrW M M1) (h2 : FrW M1 M2) : FrW M M2 := fun q h => (h2 q h).trans (h1 q h)
theorem FrW.mu {M M1 : Me} (h : FrW M M1) (j : Nat) (v : Int) : FrW M (mu M1 31 j v) := fun q hq => by rw [mu_k hq]; exact h q hq
theorem ut_eq4 {A B : Mt} (h : eq4 A B) (i j : Nat) (v : Int) : eq4 (ut A i j v) (ut B i j v) := fun a b ha hb => by
  unfold ut
  rw [h a b ha hb]
theorem wr_mu2 {M : Me} {i j i' j' : Nat} (v v' : Int) (hj : j < 4) (hj' : j' < 4) : eq4 (wr (mu (mu M 31 (4 * i + j) v) 31 (4 * i' + j') v')) (ut (ut (wr M) i j v) i' j' v') :=
  (wr_mu v' hj').tr (ut_eq4 (wr_mu v hj) i' j' v')
set_option maxRecDepth 20000 in
theorem wd461 : Cond.fieldLink "RationalFormsModel" 16 "RationalFormsModel" "work" "[J" ∈ GG := GG_t 461 rfl rfl
set_option maxRecDepth 20000 in
theorem wd467 : Cond.fieldLink "RationalFormsModel" 45 "RationalFormsModel" "primes" "I" ∈ GG := GG_t 467 rfl rfl
set_option maxRecDepth 20000 in
theorem wd468 : Cond.fieldLink "RationalFormsModel" 23 "RationalFormsModel" "prime" "[J" ∈ GG := GG_t 468 rfl rfl
set_option maxRecDepth 20000 in
theorem wd523 : Cond.methodLink "RationalFormsModel" 48 yM_addPrime ∈ GG := GG_t 523 rfl rfl
set_option maxRecDepth 20000 in
theorem wd525 : Cond.instanceMethod yM_addPrime ∈ GG := GG_t 525 rfl rfl
set_option maxRecDepth 20000 in
theorem wd526 : Cond.code yM_addPrime cM_addPrime 5 none ∈ GG := GG_t 526 rfl rfl
set_option maxRecDepth 20000 in
theorem wd531 : Cond.methodLink "RationalFormsModel" 52 yM_addTo ∈ GG := GG_t 531 rfl rfl
set_option maxRecDepth 20000 in
theorem wd533 : Cond.instanceMethod yM_addTo ∈ GG := GG_t 533 rfl rfl
set_option maxRecDepth 20000 in
theorem wd534 : Cond.code yM_addTo cM_addTo 6 none ∈ GG := GG_t 534 rfl rfl
set_option maxRecDepth 20000 in
theorem wds13 : Cond.selects "RationalFormsModel" yM_addPrime yM_addPrime ∈ GG := GG_s 13 rfl rfl
set_option maxRecDepth 20000 in
theorem wds15 : Cond.selects "RationalFormsModel" yM_addTo yM_addTo ∈ GG := GG_s 15 rfl rfl
set_option maxRecDepth 100000 in
set_option maxHeartbeats 4000000 in
theorem kM_addPrime (l : Launch) (E : En) (hJ : wJ E) (M : Me) (p : Nat) (hp : p ≤ 2147483647) (c : Nat) (hc : M 28 8 = c) (hc2 : c < 60) (S : Nat → Prop) (hS0 : SL c (M 33) S) (hb0 : ∀ q, S q → q ≤ 2147483647) : MM l yM_addPrime wsM_addPrime (rmd 0) E M [.ref (E.2.1 28), .long (jl ((p:Int)))] (fun r M9 => r = none ∧ (∃ c9 : Nat, c9 ≤ c + 1 ∧ M9 28 8 = c9 ∧ SL c9 (M9 33) (fun q => q = p ∨ S q)) ∧ FrP M M9) := by
  refine MM.ofG (by decide +kernel) (Nat.le_of_ble_eq_true rfl) ?_
  intro p_ e_ s_ m_ a_ b_ t_ c_ hx hb hml hr hk hg hown hK hP hS ls hl
  have hl : lv_has ls 5 [(0, .ref (E.2.1 28)), (1, .long (jl ((p:Int))))] := hl
  have k47 : ∀ (a : Nat) (ls : Array Slot), a ≤ c → (∀ i, i < a → M 33 i < p) → (∀ i, a ≤ i → i < c → (p : Int) < M 33 i) → lv_has ls 5 [(3, .int (ji ((a:Int)))), (0, .ref (E.2.1 28)), (1, .long (jl ((p:Int))))] → W p_ l e_ (rmd 0) s_ m_ a_ b_ t_ c_ s_.heap [] 0 0 (XQ b_ (mmQ E (fun r M9 => r = none ∧ (∃ c9 : Nat, c9 ≤ c + 1 ∧ M9 28 8 = c9 ∧ SL c9 (M9 33) (fun q => q = p ∨ S q)) ∧ FrP M M9)) a_ s_ 0 0 (wA E)) (F0 m_ 47 ls []) := by
    intro a ls ha hlo hhi hl
    have loop : ∀ (N k : Nat) (M1 : Me) (H : Heap) (locs : List Loc) (ls : Array Slot), k = a + N → k ≤ c → (∀ i, i < k → M1 33 i = M 33 i) → (∀ i, k < i → i ≤ c → M1 33 i = M 33 (i - 1)) → (∀ j, j ≠ 33 → M1 j = M j) → wP E M1 H → va_S (wA E) s_.heap H locs → lv_has ls 5 [(4, .int (ji ((k:Int)))), (3, .int (ji ((a:Int)))), (0, .ref (E.2.1 28)), (1, .long (jl ((p:Int))))] → W p_ l e_ (rmd 0) s_ m_ a_ b_ t_ c_ H locs 0 0 (XQ b_ (mmQ E (fun r M9 => r = none ∧ (∃ c9 : Nat, c9 ≤ c + 1 ∧ M9 28 8 = c9 ∧ SL c9 (M9 33) (fun q => q = p ∨ S q)) ∧ FrP M M9)) a_ s_ 0 0 (wA E)) (F0 m_ 53 ls []) := by
      intro N
      induction N with
      | zero =>
        intro k M1 H locs ls hk0 hkc h1 h2 h3 hP hS hl
        refine lv_iload hx hb dM_addPrime_53 (lv_at hl 0 rfl) ?_
        refine lv_iload_n hx hb dM_addPrime_55 rfl (lv_at hl 1 rfl) ?_
        refine j_icmp_le hx hb (by omega) (by omega) dM_addPrime_56 rfl (fun h4 => ?_) (fun h4 => ?_)
        · refine lv_aload_n hx hb dM_addPrime_81 rfl (lv_at hl 2 rfl) ?_
          refine m_get (C := "RationalFormsModel") (T := TxM) (N := 13) hx hb hg uwM hown hK hP (by omega) (sh_M E _) rfl 9 (by decide) wd468 rfl dM_addPrime_82 ?_
          refine lv_iload_n hx hb dM_addPrime_85 rfl (lv_at hl 1 rfl) ?_
          refine lv_lload_n hx hb dM_addPrime_86 rfl (lv_at hl 3 rfl) ?_
          refine m_last (n := a) hx hb hK hJ hP hS (by omega) (fun r => sh_33 E r) rfl (by omega) (by decide) dM_addPrime_87 (fun H locs hP hS => ?_)
          refine lv_aload_n hx hb dM_addPrime_88 rfl (lv_at hl 2 rfl) ?_
          refine lv_dup hx hb dM_addPrime_89 rfl ?_
          refine m_get (C := "RationalFormsModel") (T := TxM) (N := 13) hx hb hg uwM hown hK hP (by omega) (sh_M E _) rfl 8 (by decide) wd467 rfl dM_addPrime_90 ?_
          refine j_iconst hx hb dM_addPrime_93 ?_
          refine j_iadd hx hb dM_addPrime_94 ?_
          refine m_put (C := "RationalFormsModel") (T := TxM) (N := 13) (ty := .int) (z := ((mu M1 33 a ((p:Int))) 28 8) + 1) hx hb hg uwM txM txM_ok nmM hown hK hJ hP hS (by omega) (sh_M E _) rfl 8 (by decide) wd467 rfl rfl rfl rfl (Nat.le_of_ble_eq_true rfl) (by rw [sh_M E _]; simp [mu]) dM_addPrime_95 (fun H locs hP hS => ?_)
          have hcM : M1 28 8 = c := by rw [h3 28 (by omega)]; exact hc
          exact mm_vret hx hb hr hk hP hS dM_addPrime_98 ⟨rfl, ⟨c + 1, Nat.le_refl _, by rw [mu_s, mu_k (by omega), hcM]; rfl, SL.ins (at9 := a) hS0 ha hlo hhi (fun i hi => by rw [mu_k (by omega), mu_j (by omega)]; exact h1 i (by omega)) (by rw [mu_k (by omega)]; exact mu_s _ _ _ _) (fun i i1 i2 => by rw [mu_k (by omega), mu_j (by omega)]; exact h2 i (by omega) i2)⟩, fun k' q1 q2 => by rw [mu_k q1, mu_k q2]; exact h3 k' q2, fun j hj => by rw [mu_j hj, mu_k (by omega), h3 28 (by omega)]⟩
        · omega
      | succ N ih =>
        intro k M1 H locs ls hk0 hkc h1 h2 h3 hP hS hl
        refine lv_iload hx hb dM_addPrime_53 (lv_at hl 0 rfl) ?_
        refine lv_iload_n hx hb dM_addPrime_55 rfl (lv_at hl 1 rfl) ?_
        refine j_icmp_le hx hb (by omega) (by omega) dM_addPrime_56 rfl (fun h4 => ?_) (fun h4 => ?_)
        · omega
        · refine lv_aload_n hx hb dM_addPrime_59 rfl (lv_at hl 2 rfl) ?_
          refine m_get (C := "RationalFormsModel") (T := TxM) (N := 13) hx hb hg uwM hown hK hP (by omega) (sh_M E _) rfl 9 (by decide) wd468 rfl dM_addPrime_60 ?_
          refine lv_iload hx hb dM_addPrime_63 (lv_at hl 0 rfl) ?_
          refine lv_aload_n hx hb dM_addPrime_65 rfl (lv_at hl 2 rfl) ?_
          refine m_get (C := "RationalFormsModel") (T := TxM) (N := 13) hx hb hg uwM hown hK hP (by omega) (sh_M E _) rfl 9 (by decide) wd468 rfl dM_addPrime_66 ?_
          refine lv_iload hx hb dM_addPrime_69 (lv_at hl 0 rfl) ?_
          refine j_iconst hx hb dM_addPrime_71 ?_
          refine j_isub hx hb dM_addPrime_72 ?_
          refine m_lald (n := k - 1) hx hb hK hP (by omega) (sh_33 E _) (by omega) (by omega) (by decide) dM_addPrime_73 ?_
          refine m_last (n := k) hx hb hK hJ hP hS (by omega) (fun r => sh_33 E r) rfl (by omega) (by decide) dM_addPrime_74 (fun H locs hP hS => ?_)
          refine lv_iinc (k := 0) (v := ji (((k:Int)) + (-1))) hx hb dM_addPrime_75 hl rfl (Int32.ofInt_add _ _).symm (by decide) rfl (fun ls hl => ?_)
          have hl : lv_has ls 5 [(4, .int (ji (((k:Int)) + (-1)))), (3, .int (ji ((a:Int)))), (0, .ref (E.2.1 28)), (1, .long (jl ((p:Int))))] := hl
          refine lv_goto hx hb dM_addPrime_78 rfl ?_
          refine ih (k - 1) _ H locs ls (by omega) (by omega) (fun i hi => ?_) (fun i i1 i2 => ?_) (fun j hj => ?_) hP hS (by rw [show (((k - 1 : Nat)) : Int) = (k : Int) + (-1) by omega]; exact hl)
          · rw [mu_j (by omega)]; exact h1 i (by omega)
          · by_cases hik : i = k
            · subst hik
              rw [mu_s]; exact h1 (i - 1) (by omega)
            · rw [mu_j hik]; exact h2 i (by omega) i2
          · rw [mu_k hj]; exact h3 j hj
    refine lv_aload_n hx hb dM_addPrime_47 rfl (lv_at hl 1 rfl) ?_
    refine m_get (C := "RationalFormsModel") (T := TxM) (N := 13) hx hb hg uwM hown hK hP (by omega) (sh_M E _) rfl 8 (by decide) wd467 rfl dM_addPrime_48 ?_
    refine lv_istore hx hb dM_addPrime_51 hl (by decide) rfl (fun ls hl => ?_)
    have hl : lv_has ls 5 [(4, .int (ji (M 28 8))), (3, .int (ji ((a:Int)))), (0, .ref (E.2.1 28)), (1, .long (jl ((p:Int))))] := hl
    rw [hc] at hl
    exact loop (c - a) c M s_.heap [] ls (by omega) (Nat.le_refl _) (fun _ _ => rfl) (fun i i1 i2 => by omega) (fun _ _ => rfl) hP hS hl
  have k27 : ∀ (a : Nat) (ls : Array Slot), a ≤ c → (∀ i, i < a → M 33 i < p) → (a < c → (p : Int) ≤ M 33 a) → lv_has ls 5 [(3, .int (ji ((a:Int)))), (0, .ref (E.2.1 28)), (1, .long (jl ((p:Int))))] → W p_ l e_ (rmd 0) s_ m_ a_ b_ t_ c_ s_.heap [] 0 0 (XQ b_ (mmQ E (fun r M9 => r = none ∧ (∃ c9 : Nat, c9 ≤ c + 1 ∧ M9 28 8 = c9 ∧ SL c9 (M9 33) (fun q => q = p ∨ S q)) ∧ FrP M M9)) a_ s_ 0 0 (wA E)) (F0 m_ 27 ls []) := by
    intro a ls ha hlo hge hl
    have hup : a < c → M 33 a ≠ p → ∀ i, a ≤ i → i < c → (p : Int) < M 33 i := by
      intro h1 h2 i i1 i2
      have h3 := hge h1
      rcases Nat.lt_or_ge a i with h4 | h4
      · have := hS0.1 a i h4 i2
        omega
      · have : i = a := by omega
        subst this
        omega
    refine lv_iload_n hx hb dM_addPrime_27 rfl (lv_at hl 0 rfl) ?_
    refine lv_aload_n hx hb dM_addPrime_28 rfl (lv_at hl 1 rfl) ?_
    refine m_get (C := "RationalFormsModel") (T := TxM) (N := 13) hx hb hg uwM hown hK hP (by omega) (sh_M E _) rfl 8 (by decide) wd467 rfl dM_addPrime_29 ?_
    refine j_icmp_ge hx hb (by omega) (by rw [hc]; omega) dM_addPrime_32 rfl (fun h1 => ?_) (fun h1 => ?_)
    · exact k47 a ls ha hlo (fun i i1 i2 => by omega) hl
    · refine lv_aload_n hx hb dM_addPrime_35 rfl (lv_at hl 1 rfl) ?_
      refine m_get (C := "RationalFormsModel") (T := TxM) (N := 13) hx hb hg uwM hown hK hP (by omega) (sh_M E _) rfl 9 (by decide) wd468 rfl dM_addPrime_36 ?_
      refine lv_iload_n hx hb dM_addPrime_39 rfl (lv_at hl 0 rfl) ?_
      refine m_lald (n := a) hx hb hK hP (by omega) (sh_33 E _) rfl (by omega) (by decide) dM_addPrime_40 ?_
      refine lv_lload_n hx hb dM_addPrime_41 rfl (lv_at hl 2 rfl) ?_
      refine j_lc_ne hx hb (by have := hS0.bd hb0 (i := a) (by omega); omega) (by omega) dM_addPrime_42 dM_addPrime_43 rfl (fun h2 => ?_) (fun h2 => ?_)
      · exact k47 a ls ha hlo (hup (by omega) h2) hl
      · obtain ⟨q, q1, q2⟩ := hS0.2.1 a (by omega)
        have hqp : q = p := by omega
        exact mm_vret hx hb hr hk hP hS dM_addPrime_46 ⟨rfl, ⟨c, Nat.le_succ c, hc, hS0.old (by rw [← hqp]; exact q2)⟩, FrP.rf M⟩
  have loop : ∀ (N a : Nat) (ls : Array Slot), a + N = c → (∀ i, i < a → M 33 i < p) → lv_has ls 5 [(3, .int (ji ((a:Int)))), (0, .ref (E.2.1 28)), (1, .long (jl ((p:Int))))] → W p_ l e_ (rmd 0) s_ m_ a_ b_ t_ c_ s_.heap [] 0 0 (XQ b_ (mmQ E (fun r M9 => r = none ∧ (∃ c9 : Nat, c9 ≤ c + 1 ∧ M9 28 8 = c9 ∧ SL c9 (M9 33) (fun q => q = p ∨ S q)) ∧ FrP M M9)) a_ s_ 0 0 (wA E)) (F0 m_ 2 ls []) := by
    intro N
    induction N with
    | zero =>
      intro a ls ha hlo hl
      refine lv_iload_n hx hb dM_addPrime_2 rfl (lv_at hl 0 rfl) ?_
      refine lv_aload_n hx hb dM_addPrime_3 rfl (lv_at hl 1 rfl) ?_
      refine m_get (C := "RationalFormsModel") (T := TxM) (N := 13) hx hb hg uwM hown hK hP (by omega) (sh_M E _) rfl 8 (by decide) wd467 rfl dM_addPrime_4 ?_
      refine j_icmp_ge hx hb (by omega) (by rw [hc]; omega) dM_addPrime_7 rfl (fun h1 => ?_) (fun h1 => ?_)
      · exact k27 a ls (by omega) hlo (fun q => by omega) hl
      · omega
    | succ N ih =>
      intro a ls ha hlo hl
      refine lv_iload_n hx hb dM_addPrime_2 rfl (lv_at hl 0 rfl) ?_
      refine lv_aload_n hx hb dM_addPrime_3 rfl (lv_at hl 1 rfl) ?_
      refine m_get (C := "RationalFormsModel") (T := TxM) (N := 13) hx hb hg uwM hown hK hP (by omega) (sh_M E _) rfl 8 (by decide) wd467 rfl dM_addPrime_4 ?_
      refine j_icmp_ge hx hb (by omega) (by rw [hc]; omega) dM_addPrime_7 rfl (fun h1 => ?_) (fun h1 => ?_)
      · omega
      · refine lv_aload_n hx hb dM_addPrime_10 rfl (lv_at hl 1 rfl) ?_
        refine m_get (C := "RationalFormsModel") (T := TxM) (N := 13) hx hb hg uwM hown hK hP (by omega) (sh_M E _) rfl 9 (by decide) wd468 rfl dM_addPrime_11 ?_
        refine lv_iload_n hx hb dM_addPrime_14 rfl (lv_at hl 0 rfl) ?_
        refine m_lald (n := a) hx hb hK hP (by omega) (sh_33 E _) rfl (by omega) (by decide) dM_addPrime_15 ?_
        refine lv_lload_n hx hb dM_addPrime_16 rfl (lv_at hl 2 rfl) ?_
        refine j_lc_ge hx hb (by have := hS0.bd hb0 (i := a) (by omega); omega) (by omega) dM_addPrime_17 dM_addPrime_18 rfl (fun h2 => ?_) (fun h2 => ?_)
        · exact k27 a ls (by omega) hlo (fun q => h2) hl
        · refine lv_iinc (k := 0) (v := ji (((a:Int)) + 1)) hx hb dM_addPrime_21 hl rfl (Int32.ofInt_add _ _).symm (by decide) rfl (fun ls hl => ?_)
          have hl : lv_has ls 5 [(3, .int (ji (((a:Int)) + 1))), (0, .ref (E.2.1 28)), (1, .long (jl ((p:Int))))] := hl
          refine lv_goto hx hb dM_addPrime_24 rfl ?_
          refine ih (a + 1) ls (by omega) (fun i hi => ?_) hl
          rcases Nat.lt_or_ge i a with h3 | h3
          · exact hlo i h3
          · have : i = a := by omega
            subst this
            exact h2
  refine j_iconst hx hb dM_addPrime_0 ?_
  refine lv_istore_n hx hb dM_addPrime_1 rfl hl (by decide) rfl (fun ls hl => ?_)
  have hl : lv_has ls 5 [(3, .int (ji 0)), (0, .ref (E.2.1 28)), (1, .long (jl ((p:Int))))] := hl
  exact loop c 0 ls (by omega) (fun i hi => by omega) hl

set_option maxRecDepth 100000 in
set_option maxHeartbeats 4000000 in
theorem kM_addPrimes (l : Launch) (E : En) (hJ : wJ E) (M : Me) (a : Int) (h0 : a ≠ 0) (hsq9 : ∀ d, 1 < d → ¬ d * d ∣ a.natAbs) (ha : a.natAbs ≤ 2147483647) (c j : Nat) (hc : M 28 8 = c) (hcj : c + j ≤ 60) (S0 : Nat → Prop) (hS0 : SL c (M 33) S0) (hb0 : ∀ q, S0 q → q ≤ 2147483647) (hj : a.natAbs < fac (j + 2)) : MM l yM_addPrimes wsM_addPrimes (rmd 1) E M [.ref (E.2.1 28), .long (jl a)] (fun v M9 => v = none ∧ (∃ c9 : Nat, c9 ≤ c + j ∧ M9 28 8 = c9 ∧ SL c9 (M9 33) (fun q => S0 q ∨ (prm q ∧ q ∣ a.natAbs))) ∧ FrP M M9) := by
  refine MM.ofG (by decide +kernel) (Nat.le_of_ble_eq_true rfl) ?_
  intro p_ e_ s_ m_ a_ b_ t_ c_ hx hb hml hr hk hg hown hK hP hS ls hl
  have hl : lv_has ls 7 [(0, .ref (E.2.1 28)), (1, .long (jl a))] := hl
  have loop : ∀ (N : Nat) (d r t c1 : Nat) (S : Nat → Prop) (M1 : Me) (H : Heap) (locs : List Loc) (ls : Array Slot), 46342 - d < N → d ≤ 46341 → 2 ≤ d → r ≤ 2147483647 → pf a.natAbs S S0 r d → t + 2 ≤ d → fac (t + 1) * r ≤ a.natAbs → c1 ≤ c + t → t ≤ j → M1 28 8 = c1 → SL c1 (M1 33) S → FrP M M1 → wP E M1 H → va_S (wA E) s_.heap H locs → lv_has ls 7 [(5, .long (jl ((d:Int)))), (3, .long (jl ((r:Int)))), (0, .ref (E.2.1 28)), (1, .long (jl a))] → W p_ l e_ (rmd 1) s_ m_ a_ b_ t_ c_ H locs 0 0 (XQ b_ (mmQ E (fun v M9 => v = none ∧ (∃ c9 : Nat, c9 ≤ c + j ∧ M9 28 8 = c9 ∧ SL c9 (M9 33) (fun q => S0 q ∨ (prm q ∧ q ∣ a.natAbs))) ∧ FrP M M9)) a_ s_ 0 0 (wA E)) (F0 m_ 18 ls []) := by
    intro N
    induction N with
    | zero => intro d r t c1 S M1 H locs ls hm; omega
    | succ N ih =>
      intro d r t c1 S M1 H locs ls hm hd hd2 hr0 hpf ht hfac hc1 htj hM hSL hFr hP hS hl
      have hdd : ((d * d : Nat) : Int) = (d : Int) * (d : Int) := Int.natCast_mul d d
      have hbS : ∀ q, S q → q ≤ 2147483647 := fun q hq => by
        rcases (hpf.2.2.2 q).mp hq with g | ⟨-, g, -⟩
        · exact hb0 q g
        · have := Nat.le_of_dvd (by omega) g
          omega
      have hnext : (∃ t2, t2 + 1 ≤ r ∧ t2 = t + 1) → c1 < 60 := fun ⟨t2, g1, g2⟩ => by
        have h1 : fac (t + 2) ≤ a.natAbs := by
          calc fac (t + 2) = fac (t + 1) * (t + 2) := by show (t + 1 + 1) * fac (t + 1) = _; rw [Nat.mul_comm]
            _ ≤ fac (t + 1) * r := Nat.mul_le_mul_left _ (by omega)
            _ ≤ a.natAbs := hfac
        have h2 := fac_lt (Nat.lt_of_le_of_lt h1 hj)
        omega
      have htj2 : t + 2 ≤ r → t + 1 ≤ j := fun g => by
        have h1 : fac (t + 2) ≤ a.natAbs := by
          calc fac (t + 2) = fac (t + 1) * (t + 2) := by show (t + 1 + 1) * fac (t + 1) = _; rw [Nat.mul_comm]
            _ ≤ fac (t + 1) * r := Nat.mul_le_mul_left _ (by omega)
            _ ≤ a.natAbs := hfac
        have h2 := fac_lt (Nat.lt_of_le_of_lt h1 hj)
        omega
      refine lv_lload hx hb dM_addPrimes_18 (lv_at hl 0 rfl) ?_
      refine lv_lload hx hb dM_addPrimes_20 (lv_at hl 0 rfl) ?_
      refine j_lmul hx hb dM_addPrimes_22 ?_
      refine lv_lload_n hx hb dM_addPrimes_23 rfl (lv_at hl 1 rfl) ?_
      refine j_lc_gt hx hb (sq_b64 (by omega) (by omega)) (by omega) dM_addPrimes_24 dM_addPrimes_25 rfl (fun h1 => ?_) (fun h1 => ?_)
      · have hend := pf_end hpf (by omega)
        refine lv_lload_n hx hb dM_addPrimes_57 rfl (lv_at hl 1 rfl) ?_
        refine j_lconst1 hx hb dM_addPrimes_58 ?_
        refine j_lc_le hx hb (by omega) (by omega) dM_addPrimes_59 dM_addPrimes_60 rfl (fun h2 => ?_) (fun h2 => ?_)
        · have hr1 : r = 1 := by have := hpf.1; omega
          exact mm_vret hx hb hr hk hP hS dM_addPrimes_68 ⟨rfl, ⟨c1, by omega, hM, hSL.to (hend.1 hr1)⟩, hFr⟩
        · obtain ⟨g1, g2⟩ := hend.2 (by omega)
          have hrd : d ≤ r := by
            rcases Nat.lt_or_ge r d with g3 | g3
            · exact absurd (Nat.dvd_refl r) (hpf.2.2.1 r (by omega) g3)
            · exact g3
          refine lv_aload_n hx hb dM_addPrimes_63 rfl (lv_at hl 2 rfl) ?_
          refine lv_lload_n hx hb dM_addPrimes_64 rfl (lv_at hl 1 rfl) ?_
          refine mm_V (As := [.long (jl ((r:Int)))]) (rest := []) hx hb hml hown hg hl hK hP hS (by omega) (sh_M E _) rfl (kM_addPrime l E hJ M1 r (by omega) c1 hM (hnext ⟨t + 1, by omega, rfl⟩) S hSL hbS) wd523 wd525 wds13 wd5 wd526 ⟨rfl, rfl⟩ (n := 1) (by decide +kernel) rfl ⟨by decide, by decide⟩ rfl (Nat.le_of_ble_eq_true rfl) dM_addPrimes_65 ⟨Nat.zero_le _, Nat.zero_le _⟩ (fun v M2 H locs hq hP hS => ?_)
          obtain ⟨rfl, ⟨c9, q1, q2, q3⟩, q4⟩ := hq
          have := htj2 (by omega)
          exact mm_vret hx hb hr hk hP hS dM_addPrimes_68 ⟨rfl, ⟨c9, by omega, q2, q3.to g2⟩, hFr.tr q4⟩
      · have hsq := Nat.mul_le_mul hd2 (Nat.le_refl d)
        have hdm : d + 1 ≤ 46341 := by
          rcases Nat.lt_or_ge d 46341 with g | g
          · omega
          · have : 46341 * 46341 ≤ d * d := Nat.mul_le_mul g g
            omega
        refine lv_lload_n hx hb dM_addPrimes_28 rfl (lv_at hl 1 rfl) ?_
        refine lv_lload hx hb dM_addPrimes_29 (lv_at hl 0 rfl) ?_
        refine j_lrem hx hb (by omega) (by omega) (by omega) dM_addPrimes_31 ?_
        refine j_lconst0 hx hb dM_addPrimes_32 ?_
        refine j_lc_ne hx hb (tm_b64 (by omega)) (by decide) dM_addPrimes_33 dM_addPrimes_34 rfl (fun h2 => ?_) (fun h2 => ?_)
        · have hn : ¬ d ∣ r := fun q => h2 (by rw [tm_nat]; exact_mod_cast Nat.mod_eq_zero_of_dvd q)
          refine lv_lload hx hb dM_addPrimes_48 (lv_at hl 0 rfl) ?_
          refine j_lconst1 hx hb dM_addPrimes_50 ?_
          refine j_ladd hx hb dM_addPrimes_51 ?_
          refine lv_lstore hx hb dM_addPrimes_52 hl (by decide) rfl (fun ls hl => ?_)
          have hl : lv_has ls 7 [(5, .long (jl (((d:Int)) + 1))), (3, .long (jl ((r:Int)))), (0, .ref (E.2.1 28)), (1, .long (jl a))] := hl
          refine lv_goto hx hb dM_addPrimes_54 rfl ?_
          exact ih (d + 1) r t c1 S M1 H locs ls (by omega) hdm (by omega) hr0 (pf_skip hpf hn) (by omega) hfac hc1 htj hM hSL hFr hP hS (lv_sub hl [0, 1, 2, 3] rfl)
        · have hn : d ∣ r := Nat.dvd_of_mod_eq_zero (by rw [tm_nat] at h2; omega)
          have := htj2 (by omega)
          refine lv_aload_n hx hb dM_addPrimes_37 rfl (lv_at hl 2 rfl) ?_
          refine lv_lload hx hb dM_addPrimes_38 (lv_at hl 0 rfl) ?_
          refine mm_V (As := [.long (jl ((d:Int)))]) (rest := []) hx hb hml hown hg hl hK hP hS (by omega) (sh_M E _) rfl (kM_addPrime l E hJ M1 d (by omega) c1 hM (hnext ⟨t + 1, by omega, rfl⟩) S hSL hbS) wd523 wd525 wds13 wd5 wd526 ⟨rfl, rfl⟩ (n := 1) (by decide +kernel) rfl ⟨by decide, by decide⟩ rfl (Nat.le_of_ble_eq_true rfl) dM_addPrimes_40 ⟨Nat.zero_le _, Nat.zero_le _⟩ (fun v M2 H locs hq hP hS => ?_)
          obtain ⟨rfl, ⟨c9, q1, q2, q3⟩, q4⟩ := hq
          obtain ⟨r9, w2⟩ := hn
          have w3 : ¬ d ∣ r9 := fun ⟨z, hz⟩ => hsq9 d (by omega) (Nat.dvd_trans ⟨z, by rw [w2, hz, Nat.mul_assoc]⟩ hpf.2.1)
          have w2' : r = r9 * d ^ 1 := by rw [w2, Nat.pow_one, Nat.mul_comm]
          have w5 : r9 ≤ r := by rw [w2]; exact Nat.le_mul_of_pos_left _ (by omega)
          refine lv_lload_n hx hb dM_addPrimes_43 rfl (lv_at hl 1 rfl) ?_
          refine lv_lload hx hb dM_addPrimes_44 (lv_at hl 0 rfl) ?_
          refine j_ldiv hx hb (by omega) (by omega) (by omega) dM_addPrimes_46 ?_
          refine lv_lstore_n hx hb dM_addPrimes_47 rfl hl (by decide) rfl (fun ls hl => ?_)
          have hl : lv_has ls 7 [(3, .long (jl (((r:Int)).tdiv ((d:Int))))), (5, .long (jl ((d:Int)))), (0, .ref (E.2.1 28)), (1, .long (jl a))] := hl
          refine lv_lload hx hb dM_addPrimes_48 (lv_at hl 1 rfl) ?_
          refine j_lconst1 hx hb dM_addPrimes_50 ?_
          refine j_ladd hx hb dM_addPrimes_51 ?_
          refine lv_lstore hx hb dM_addPrimes_52 hl (by decide) rfl (fun ls hl => ?_)
          have hl : lv_has ls 7 [(5, .long (jl (((d:Int)) + 1))), (3, .long (jl (((r:Int)).tdiv ((d:Int))))), (0, .ref (E.2.1 28)), (1, .long (jl a))] := hl
          refine lv_goto hx hb dM_addPrimes_54 rfl ?_
          rw [show ((r : Nat) : Int).tdiv (d : Int) = (r9 : Int) by rw [td_nat, w2, Nat.mul_div_cancel_left _ (by omega)]] at hl
          exact ih (d + 1) r9 (t + 1) c9 (fun q => q = d ∨ S q) M2 H locs ls (by omega) hdm (by omega) (by omega) (pf_take hpf hd2 ⟨r9, w2⟩ w2' w3) (by omega) (fac_take hfac w2' (by omega) (by omega) hpf.1) (by omega) (by omega) q2 q3 (hFr.tr q4) hP hS (lv_sub hl [0, 1, 2, 3] rfl)
  have start : ∀ (ls : Array Slot), lv_has ls 7 [(0, .ref (E.2.1 28)), (1, .long (jl a))] → W p_ l e_ (rmd 1) s_ m_ a_ b_ t_ c_ s_.heap [] 0 0 (XQ b_ (mmQ E (fun v M9 => v = none ∧ (∃ c9 : Nat, c9 ≤ c + j ∧ M9 28 8 = c9 ∧ SL c9 (M9 33) (fun q => S0 q ∨ (prm q ∧ q ∣ a.natAbs))) ∧ FrP M M9)) a_ s_ 0 0 (wA E)) (F0 m_ 12 ls [.long (jl (a.natAbs : Int))]) := by
    intro ls hl
    refine lv_lstore_n hx hb dM_addPrimes_12 rfl hl (by decide) rfl (fun ls hl => ?_)
    have hl : lv_has ls 7 [(3, .long (jl ((a.natAbs : Int)))), (0, .ref (E.2.1 28)), (1, .long (jl a))] := hl
    refine j_ldc2 (z := 2) hx hb hown hg wd522 rfl dM_addPrimes_13 ?_
    refine lv_lstore hx hb dM_addPrimes_16 hl (by decide) rfl (fun ls hl => ?_)
    have hl : lv_has ls 7 [(5, .long (jl 2)), (3, .long (jl ((a.natAbs : Int)))), (0, .ref (E.2.1 28)), (1, .long (jl a))] := hl
    exact loop 46342 2 a.natAbs 0 c S0 M s_.heap [] ls (by omega) (by omega) (by omega) (by omega) (pf_0 (by omega) S0) (by omega) (by show 1 * 1 * a.natAbs ≤ a.natAbs; omega) (by omega) (by omega) hc hS0 (FrP.rf M) hP hS hl
  refine lv_lload_n hx hb dM_addPrimes_0 rfl (lv_at hl 1 rfl) ?_
  refine j_lconst0 hx hb dM_addPrimes_1 ?_
  refine j_lc_ge hx hb (by omega) (by omega) dM_addPrimes_2 dM_addPrimes_3 rfl (fun h1 => ?_) (fun h1 => ?_)
  · refine lv_lload_n hx hb dM_addPrimes_11 rfl (lv_at hl 1 rfl) ?_
    have e9 : (a.natAbs : Int) = a := by omega
    have := start ls hl
    rw [e9] at this
    exact this
  · refine lv_lload_n hx hb dM_addPrimes_6 rfl (lv_at hl 1 rfl) ?_
    refine j_lneg hx hb dM_addPrimes_7 ?_
    refine lv_goto hx hb dM_addPrimes_8 rfl ?_
    have e9 : (a.natAbs : Int) = -a := by omega
    have := start ls hl
    rw [e9] at this
    exact this

set_option maxRecDepth 100000 in
set_option maxHeartbeats 4000000 in
theorem kM_addTo (l : Launch) (E : En) (hJ : wJ E) (M : Me) (n : Nat) (hn4 : n ≤ 4) (fr to st : Nat) (hf0 : fr < n) (ht0 : to < n) (hs0 : st ≤ n) (hne : fr ≠ to) : MM l yM_addTo wsM_addTo (rmd 0) E M [.ref (E.2.1 28), .int (ji ((to:Int))), .int (ji ((fr:Int))), .int (ji ((st:Int))), .int (ji ((n:Int)))] (fun r M9 => r = none ∧ eqn n (wr M9) (adT fr to st n (wr M)) ∧ FrW M M9) := by
  refine MM.ofG (by decide +kernel) (Nat.le_of_ble_eq_true rfl) ?_
  intro p_ e_ s_ m_ a_ b_ t_ c_ hx hb hml hr hk hg hown hK hP hS ls hl
  have hl : lv_has ls 6 [(0, .ref (E.2.1 28)), (1, .int (ji ((to:Int)))), (2, .int (ji ((fr:Int)))), (3, .int (ji ((st:Int)))), (4, .int (ji ((n:Int))))] := hl
  have loop2 : ∀ (T1 : Mt) (_ : eq4 T1 (rad fr to st n (wr M))) (N J : Nat) (M1 : Me) (H : Heap) (locs : List Loc) (ls : Array Slot), J + N = n → st ≤ J → eq4 (wr M1) (cad fr to st J T1) → FrW M M1 → wP E M1 H → va_S (wA E) s_.heap H locs → lv_has ls 6 [(5, .int (ji ((J:Int)))), (0, .ref (E.2.1 28)), (1, .int (ji ((to:Int)))), (2, .int (ji ((fr:Int)))), (3, .int (ji ((st:Int)))), (4, .int (ji ((n:Int))))] → W p_ l e_ (rmd 0) s_ m_ a_ b_ t_ c_ H locs 0 0 (XQ b_ (mmQ E (fun r M9 => r = none ∧ eqn n (wr M9) (adT fr to st n (wr M)) ∧ FrW M M9)) a_ s_ 0 0 (wA E)) (F0 m_ 44 ls []) := by
    intro T1 hT1 N
    induction N with
    | zero =>
      intro J M1 H locs ls h0 hsJ hT hF hP hS hl
      refine lv_iload hx hb dM_addTo_44 (lv_at hl 0 rfl) ?_
      refine lv_iload hx hb dM_addTo_46 (lv_at hl 5 rfl) ?_
      refine j_icmp_ge hx hb (by omega) (by omega) dM_addTo_48 rfl (fun h1 => ?_) (fun h1 => ?_)
      · exact mm_vret hx hb hr hk hP hS dM_addTo_82 ⟨rfl, ad_end hT1 (by rw [show n = J by omega]; exact hT) hn4 hf0 ht0, hF⟩
      · omega
    | succ N ih =>
      intro J M1 H locs ls h0 hsJ hT hF hP hS hl
      refine lv_iload hx hb dM_addTo_44 (lv_at hl 0 rfl) ?_
      refine lv_iload hx hb dM_addTo_46 (lv_at hl 5 rfl) ?_
      refine j_icmp_ge hx hb (by omega) (by omega) dM_addTo_48 rfl (fun h1 => ?_) (fun h1 => ?_)
      · omega
      · refine lv_aload_n hx hb dM_addTo_51 rfl (lv_at hl 1 rfl) ?_
        refine m_get (C := "RationalFormsModel") (T := TxM) (N := 13) hx hb hg uwM hown hK hP (by omega) (sh_M E _) rfl 2 (by decide) wd461 rfl dM_addTo_52 ?_
        refine j_iconst hx hb dM_addTo_55 ?_
        refine lv_iload hx hb dM_addTo_56 (lv_at hl 0 rfl) ?_
        refine j_imul hx hb dM_addTo_58 ?_
        refine lv_iload_n hx hb dM_addTo_59 rfl (lv_at hl 2 rfl) ?_
        refine j_iadd hx hb dM_addTo_60 ?_
        refine lv_dup2_11 hx hb dM_addTo_61 rfl rfl ?_
        refine m_lald (n := 4 * J + to) hx hb hK hP (by omega) (sh_31 E _) (by omega) (by omega) (by decide) dM_addTo_62 ?_
        refine lv_aload_n hx hb dM_addTo_63 rfl (lv_at hl 1 rfl) ?_
        refine m_get (C := "RationalFormsModel") (T := TxM) (N := 13) hx hb hg uwM hown hK hP (by omega) (sh_M E _) rfl 2 (by decide) wd461 rfl dM_addTo_64 ?_
        refine j_iconst hx hb dM_addTo_67 ?_
        refine lv_iload hx hb dM_addTo_68 (lv_at hl 0 rfl) ?_
        refine j_imul hx hb dM_addTo_70 ?_
        refine lv_iload_n hx hb dM_addTo_71 rfl (lv_at hl 3 rfl) ?_
        refine j_iadd hx hb dM_addTo_72 ?_
        refine m_lald (n := 4 * J + fr) hx hb hK hP (by omega) (sh_31 E _) (by omega) (by omega) (by decide) dM_addTo_73 ?_
        refine j_ladd hx hb dM_addTo_74 ?_
        refine m_last (n := 4 * J + to) hx hb hK hJ hP hS (by omega) (fun r => sh_31 E r) (by omega) (by omega) (by decide) dM_addTo_75 (fun H locs hP hS => ?_)
        refine lv_iinc (k := 0) (v := ji (((J:Int)) + 1)) hx hb dM_addTo_76 hl rfl (Int32.ofInt_add _ _).symm (by decide) rfl (fun ls hl => ?_)
        have hl : lv_has ls 6 [(5, .int (ji (((J:Int)) + 1))), (0, .ref (E.2.1 28)), (1, .int (ji ((to:Int)))), (2, .int (ji ((fr:Int)))), (3, .int (ji ((st:Int)))), (4, .int (ji ((n:Int))))] := hl
        refine lv_goto hx hb dM_addTo_79 rfl ?_
        exact ih (J + 1) _ H locs ls (by omega) (by omega) ((wr_mu _ (by omega)).tr (cad_s hT (by omega) (by omega) hne hsJ (by omega))) (hF.mu _ _) hP hS hl
  have loop1 : ∀ (N J : Nat) (M1 : Me) (H : Heap) (locs : List Loc) (ls : Array Slot), J + N = n → st ≤ J → eq4 (wr M1) (rad fr to st J (wr M)) → FrW M M1 → wP E M1 H → va_S (wA E) s_.heap H locs → lv_has ls 6 [(5, .int (ji ((J:Int)))), (0, .ref (E.2.1 28)), (1, .int (ji ((to:Int)))), (2, .int (ji ((fr:Int)))), (3, .int (ji ((st:Int)))), (4, .int (ji ((n:Int))))] → W p_ l e_ (rmd 0) s_ m_ a_ b_ t_ c_ H locs 0 0 (XQ b_ (mmQ E (fun r M9 => r = none ∧ eqn n (wr M9) (adT fr to st n (wr M)) ∧ FrW M M9)) a_ s_ 0 0 (wA E)) (F0 m_ 3 ls []) := by
    intro N
    induction N with
    | zero =>
      intro J M1 H locs ls h0 hsJ hT hF hP hS hl
      refine lv_iload hx hb dM_addTo_3 (lv_at hl 0 rfl) ?_
      refine lv_iload hx hb dM_addTo_5 (lv_at hl 5 rfl) ?_
      refine j_icmp_ge hx hb (by omega) (by omega) dM_addTo_7 rfl (fun h1 => ?_) (fun h1 => ?_)
      · refine lv_iload_n hx hb dM_addTo_41 rfl (lv_at hl 4 rfl) ?_
        refine lv_istore hx hb dM_addTo_42 hl (by decide) rfl (fun ls hl => ?_)
        have hl : lv_has ls 6 [(5, .int (ji ((st:Int)))), (0, .ref (E.2.1 28)), (1, .int (ji ((to:Int)))), (2, .int (ji ((fr:Int)))), (3, .int (ji ((st:Int)))), (4, .int (ji ((n:Int))))] := hl
        exact loop2 (wr M1) (by rw [show n = J by omega]; exact hT) (n - st) st M1 H locs ls (by omega) (by omega) (cad_0 fr to st _) hF hP hS hl
      · omega
    | succ N ih =>
      intro J M1 H locs ls h0 hsJ hT hF hP hS hl
      refine lv_iload hx hb dM_addTo_3 (lv_at hl 0 rfl) ?_
      refine lv_iload hx hb dM_addTo_5 (lv_at hl 5 rfl) ?_
      refine j_icmp_ge hx hb (by omega) (by omega) dM_addTo_7 rfl (fun h1 => ?_) (fun h1 => ?_)
      · omega
      · refine lv_aload_n hx hb dM_addTo_10 rfl (lv_at hl 1 rfl) ?_
        refine m_get (C := "RationalFormsModel") (T := TxM) (N := 13) hx hb hg uwM hown hK hP (by omega) (sh_M E _) rfl 2 (by decide) wd461 rfl dM_addTo_11 ?_
        refine j_iconst hx hb dM_addTo_14 ?_
        refine lv_iload_n hx hb dM_addTo_15 rfl (lv_at hl 2 rfl) ?_
        refine j_imul hx hb dM_addTo_16 ?_
        refine lv_iload hx hb dM_addTo_17 (lv_at hl 0 rfl) ?_
        refine j_iadd hx hb dM_addTo_19 ?_
        refine lv_dup2_11 hx hb dM_addTo_20 rfl rfl ?_
        refine m_lald (n := 4 * to + J) hx hb hK hP (by omega) (sh_31 E _) (by omega) (by omega) (by decide) dM_addTo_21 ?_
        refine lv_aload_n hx hb dM_addTo_22 rfl (lv_at hl 1 rfl) ?_
        refine m_get (C := "RationalFormsModel") (T := TxM) (N := 13) hx hb hg uwM hown hK hP (by omega) (sh_M E _) rfl 2 (by decide) wd461 rfl dM_addTo_23 ?_
        refine j_iconst hx hb dM_addTo_26 ?_
        refine lv_iload_n hx hb dM_addTo_27 rfl (lv_at hl 3 rfl) ?_
        refine j_imul hx hb dM_addTo_28 ?_
        refine lv_iload hx hb dM_addTo_29 (lv_at hl 0 rfl) ?_
        refine j_iadd hx hb dM_addTo_31 ?_
        refine m_lald (n := 4 * fr + J) hx hb hK hP (by omega) (sh_31 E _) (by omega) (by omega) (by decide) dM_addTo_32 ?_
        refine j_ladd hx hb dM_addTo_33 ?_
        refine m_last (n := 4 * to + J) hx hb hK hJ hP hS (by omega) (fun r => sh_31 E r) (by omega) (by omega) (by decide) dM_addTo_34 (fun H locs hP hS => ?_)
        refine lv_iinc (k := 0) (v := ji (((J:Int)) + 1)) hx hb dM_addTo_35 hl rfl (Int32.ofInt_add _ _).symm (by decide) rfl (fun ls hl => ?_)
        have hl : lv_has ls 6 [(5, .int (ji (((J:Int)) + 1))), (0, .ref (E.2.1 28)), (1, .int (ji ((to:Int)))), (2, .int (ji ((fr:Int)))), (3, .int (ji ((st:Int)))), (4, .int (ji ((n:Int))))] := hl
        refine lv_goto hx hb dM_addTo_38 rfl ?_
        exact ih (J + 1) _ H locs ls (by omega) (by omega) ((wr_mu _ (by omega)).tr (rad_s hT (by omega) (by omega) hne hsJ (by omega))) (hF.mu _ _) hP hS hl
  refine lv_iload_n hx hb dM_addTo_0 rfl (lv_at hl 3 rfl) ?_
  refine lv_istore hx hb dM_addTo_1 hl (by decide) rfl (fun ls hl => ?_)
  have hl : lv_has ls 6 [(5, .int (ji ((st:Int)))), (0, .ref (E.2.1 28)), (1, .int (ji ((to:Int)))), (2, .int (ji ((fr:Int)))), (3, .int (ji ((st:Int)))), (4, .int (ji ((n:Int))))] := hl
  exact loop1 (n - st) st M s_.heap [] ls (by omega) (by omega) (rad_0 fr to st _) (FrW.rf M) hP hS hl

set_option maxRecDepth 100000 in
set_option maxHeartbeats 4000000 in
theorem kM_bring (l : Launch) (E : En) (hJ : wJ E) (M : Me) (n : Nat) (hn4 : n ≤ 4) (k : Nat) (hk9 : k < n) (hT0 : ∀ a b, k ≤ a → a < n → k ≤ b → b < n → b64 (wr M a b)) : MM l yM_bring wsM_bring (rmd 1) E M [.ref (E.2.1 28), .int (ji ((k:Int))), .int (ji ((n:Int)))] (fun v M9 => (∃ r : Prop, v = some (.int (ji (bi r))) ∧ bpR n k (wr M) r (wr M9)) ∧ FrW M M9) := by
  refine MM.ofG (by decide +kernel) (Nat.le_of_ble_eq_true rfl) ?_
  intro p_ e_ s_ m_ a_ b_ t_ c_ hx hb hml hr hk hg hown hK hP hS ls hl
  have hl : lv_has ls 7 [(0, .ref (E.2.1 28)), (1, .int (ji ((k:Int)))), (2, .int (ji ((n:Int))))] := hl
  have hd64 : ∀ i, k ≤ i → i < n → b64 (M 31 (5 * i)) := fun i h1 h2 => by
    have := hT0 i i h1 h2 h1 h2
    unfold wr at this
    rw [show 4 * i + i = 5 * i by omega] at this
    exact this
  have hdg : ∀ i, M 31 (5 * i) = wr M i i := fun i => by
    unfold wr
    rw [show 4 * i + i = 5 * i by omega]
  -- the end: the pivot is at t
  have k111 : ∀ (t : Nat) (M1 : Me) (H : Heap) (locs : List Loc) (ls : Array Slot), k ≤ t → t < n → (∀ B, eqn n B (swT t k (wr M1)) → bpR n k (wr M) True B) → FrW M M1 → wP E M1 H → va_S (wA E) s_.heap H locs → lv_has ls 7 [(3, .int (ji ((t:Int)))), (0, .ref (E.2.1 28)), (1, .int (ji ((k:Int)))), (2, .int (ji ((n:Int))))] → W p_ l e_ (rmd 1) s_ m_ a_ b_ t_ c_ H locs 0 0 (XQ b_ (mmQ E (fun v M9 => (∃ r : Prop, v = some (.int (ji (bi r))) ∧ bpR n k (wr M) r (wr M9)) ∧ FrW M M9)) a_ s_ 0 0 (wA E)) (F0 m_ 111 ls []) := by
    intro t M1 H locs ls hkt htn hpost hF1 hP hS hl
    have k242 : ∀ (M2 : Me) (H : Heap) (locs : List Loc) (ls : Array Slot), eqn n (wr M2) (swT t k (wr M1)) → FrW M M2 → wP E M2 H → va_S (wA E) s_.heap H locs → lv_has ls 7 [(3, .int (ji ((t:Int)))), (0, .ref (E.2.1 28)), (1, .int (ji ((k:Int)))), (2, .int (ji ((n:Int))))] → W p_ l e_ (rmd 1) s_ m_ a_ b_ t_ c_ H locs 0 0 (XQ b_ (mmQ E (fun v M9 => (∃ r : Prop, v = some (.int (ji (bi r))) ∧ bpR n k (wr M) r (wr M9)) ∧ FrW M M9)) a_ s_ 0 0 (wA E)) (F0 m_ 242 ls []) := by
      intro M2 H locs ls hT hF hP hS hl
      refine lv_iload_n hx hb dM_bring_242 rfl (lv_at hl 0 rfl) ?_
      refine j_if_lt hx hb (by omega) dM_bring_243 rfl (fun h1 => ?_) (fun h1 => ?_)
      · omega
      · refine j_iconst hx hb dM_bring_246 ?_
        refine lv_goto hx hb dM_bring_247 rfl ?_
        exact mm_zret hx hb hr hk hP hS dM_bring_251 nar_1 ⟨⟨True, by rw [bi_t trivial], hpost _ hT⟩, hF⟩
    refine lv_iload_n hx hb dM_bring_111 rfl (lv_at hl 0 rfl) ?_
    refine lv_iload_n hx hb dM_bring_112 rfl (lv_at hl 2 rfl) ?_
    refine j_icmp_le hx hb (by omega) (by omega) dM_bring_113 rfl (fun h1 => ?_) (fun h1 => ?_)
    · refine k242 M1 H locs ls ?_ hF1 hP hS hl
      rw [show t = k by omega, swT_id]
      exact eqn.rf _ _
    · have loop2 : ∀ (T1 : Mt) (_ : eq4 T1 (rsw k t n (wr M1))) (N J : Nat) (M2 : Me) (H : Heap) (locs : List Loc) (ls : Array Slot), J + N = n → eq4 (wr M2) (csw k t J T1) → FrW M M2 → wP E M2 H → va_S (wA E) s_.heap H locs → lv_has ls 7 [(4, .int (ji ((J:Int)))), (3, .int (ji ((t:Int)))), (0, .ref (E.2.1 28)), (1, .int (ji ((k:Int)))), (2, .int (ji ((n:Int))))] → W p_ l e_ (rmd 1) s_ m_ a_ b_ t_ c_ H locs 0 0 (XQ b_ (mmQ E (fun v M9 => (∃ r : Prop, v = some (.int (ji (bi r))) ∧ bpR n k (wr M) r (wr M9)) ∧ FrW M M9)) a_ s_ 0 0 (wA E)) (F0 m_ 182 ls []) := by
        intro T1 hT1 N
        induction N with
        | zero =>
          intro J M2 H locs ls h0 hT hF hP hS hl
          refine lv_iload hx hb dM_bring_182 (lv_at hl 0 rfl) ?_
          refine lv_iload_n hx hb dM_bring_184 rfl (lv_at hl 4 rfl) ?_
          refine j_icmp_ge hx hb (by omega) (by omega) dM_bring_185 rfl (fun h2 => ?_) (fun h2 => ?_)
          · exact k242 M2 H locs ls (by rw [swT_cm]; exact sw_end hT1 (by rw [show n = J by omega]; exact hT) hn4 hk9 htn) hF hP hS (lv_sub hl [1, 2, 3, 4] rfl)
          · omega
        | succ N ih =>
          intro J M2 H locs ls h0 hT hF hP hS hl
          refine lv_iload hx hb dM_bring_182 (lv_at hl 0 rfl) ?_
          refine lv_iload_n hx hb dM_bring_184 rfl (lv_at hl 4 rfl) ?_
          refine j_icmp_ge hx hb (by omega) (by omega) dM_bring_185 rfl (fun h2 => ?_) (fun h2 => ?_)
          · omega
          · refine lv_aload_n hx hb dM_bring_188 rfl (lv_at hl 2 rfl) ?_
            refine m_get (C := "RationalFormsModel") (T := TxM) (N := 13) hx hb hg uwM hown hK hP (by omega) (sh_M E _) rfl 2 (by decide) wd461 rfl dM_bring_189 ?_
            refine j_iconst hx hb dM_bring_192 ?_
            refine lv_iload hx hb dM_bring_193 (lv_at hl 0 rfl) ?_
            refine j_imul hx hb dM_bring_195 ?_
            refine lv_iload_n hx hb dM_bring_196 rfl (lv_at hl 3 rfl) ?_
            refine j_iadd hx hb dM_bring_197 ?_
            refine m_lald (n := 4 * J + k) hx hb hK hP (by omega) (sh_31 E _) (by omega) (by omega) (by decide) dM_bring_198 ?_
            refine lv_lstore hx hb dM_bring_199 hl (by decide) rfl (fun ls hl => ?_)
            have hl : lv_has ls 7 [(5, .long (jl (M2 31 (4 * J + k)))), (4, .int (ji ((J:Int)))), (3, .int (ji ((t:Int)))), (0, .ref (E.2.1 28)), (1, .int (ji ((k:Int)))), (2, .int (ji ((n:Int))))] := hl
            refine lv_aload_n hx hb dM_bring_201 rfl (lv_at hl 3 rfl) ?_
            refine m_get (C := "RationalFormsModel") (T := TxM) (N := 13) hx hb hg uwM hown hK hP (by omega) (sh_M E _) rfl 2 (by decide) wd461 rfl dM_bring_202 ?_
            refine j_iconst hx hb dM_bring_205 ?_
            refine lv_iload hx hb dM_bring_206 (lv_at hl 1 rfl) ?_
            refine j_imul hx hb dM_bring_208 ?_
            refine lv_iload_n hx hb dM_bring_209 rfl (lv_at hl 4 rfl) ?_
            refine j_iadd hx hb dM_bring_210 ?_
            refine lv_aload_n hx hb dM_bring_211 rfl (lv_at hl 3 rfl) ?_
            refine m_get (C := "RationalFormsModel") (T := TxM) (N := 13) hx hb hg uwM hown hK hP (by omega) (sh_M E _) rfl 2 (by decide) wd461 rfl dM_bring_212 ?_
            refine j_iconst hx hb dM_bring_215 ?_
            refine lv_iload hx hb dM_bring_216 (lv_at hl 1 rfl) ?_
            refine j_imul hx hb dM_bring_218 ?_
            refine lv_iload_n hx hb dM_bring_219 rfl (lv_at hl 2 rfl) ?_
            refine j_iadd hx hb dM_bring_220 ?_
            refine m_lald (n := 4 * J + t) hx hb hK hP (by omega) (sh_31 E _) (by omega) (by omega) (by decide) dM_bring_221 ?_
            refine m_last (n := 4 * J + k) hx hb hK hJ hP hS (by omega) (fun r => sh_31 E r) (by omega) (by omega) (by decide) dM_bring_222 (fun H locs hP hS => ?_)
            refine lv_aload_n hx hb dM_bring_223 rfl (lv_at hl 3 rfl) ?_
            refine m_get (C := "RationalFormsModel") (T := TxM) (N := 13) hx hb hg uwM hown hK hP (by omega) (sh_M E _) rfl 2 (by decide) wd461 rfl dM_bring_224 ?_
            refine j_iconst hx hb dM_bring_227 ?_
            refine lv_iload hx hb dM_bring_228 (lv_at hl 1 rfl) ?_
            refine j_imul hx hb dM_bring_230 ?_
            refine lv_iload_n hx hb dM_bring_231 rfl (lv_at hl 2 rfl) ?_
            refine j_iadd hx hb dM_bring_232 ?_
            refine lv_lload hx hb dM_bring_233 (lv_at hl 0 rfl) ?_
            refine m_last (n := 4 * J + t) hx hb hK hJ hP hS (by omega) (fun r => sh_31 E r) (by omega) (by omega) (by decide) dM_bring_235 (fun H locs hP hS => ?_)
            refine lv_iinc (k := 1) (v := ji (((J:Int)) + 1)) hx hb dM_bring_236 hl rfl (Int32.ofInt_add _ _).symm (by decide) rfl (fun ls hl => ?_)
            have hl : lv_has ls 7 [(4, .int (ji (((J:Int)) + 1))), (5, .long (jl (M2 31 (4 * J + k)))), (3, .int (ji ((t:Int)))), (0, .ref (E.2.1 28)), (1, .int (ji ((k:Int)))), (2, .int (ji ((n:Int))))] := hl
            refine lv_goto hx hb dM_bring_239 rfl ?_
            exact ih (J + 1) _ H locs ls (by omega) ((wr_mu2 _ _ (by omega) (by omega)).tr (csw_s hT (by omega) (by omega) (by omega))) ((hF.mu _ _).mu _ _) hP hS (lv_sub hl [0, 2, 3, 4, 5] rfl)
      have loop1 : ∀ (N J : Nat) (M2 : Me) (H : Heap) (locs : List Loc) (ls : Array Slot), J + N = n → eq4 (wr M2) (rsw k t J (wr M1)) → FrW M M2 → wP E M2 H → va_S (wA E) s_.heap H locs → lv_has ls 7 [(4, .int (ji ((J:Int)))), (3, .int (ji ((t:Int)))), (0, .ref (E.2.1 28)), (1, .int (ji ((k:Int)))), (2, .int (ji ((n:Int))))] → W p_ l e_ (rmd 1) s_ m_ a_ b_ t_ c_ H locs 0 0 (XQ b_ (mmQ E (fun v M9 => (∃ r : Prop, v = some (.int (ji (bi r))) ∧ bpR n k (wr M) r (wr M9)) ∧ FrW M M9)) a_ s_ 0 0 (wA E)) (F0 m_ 119 ls []) := by
        intro N
        induction N with
        | zero =>
          intro J M2 H locs ls h0 hT hF hP hS hl
          refine lv_iload hx hb dM_bring_119 (lv_at hl 0 rfl) ?_
          refine lv_iload_n hx hb dM_bring_121 rfl (lv_at hl 4 rfl) ?_
          refine j_icmp_ge hx hb (by omega) (by omega) dM_bring_122 rfl (fun h2 => ?_) (fun h2 => ?_)
          · refine j_iconst hx hb dM_bring_179 ?_
            refine lv_istore hx hb dM_bring_180 hl (by decide) rfl (fun ls hl => ?_)
            have hl : lv_has ls 7 [(4, .int (ji 0)), (3, .int (ji ((t:Int)))), (0, .ref (E.2.1 28)), (1, .int (ji ((k:Int)))), (2, .int (ji ((n:Int))))] := hl
            exact loop2 (wr M2) (by rw [show n = J by omega]; exact hT) n 0 M2 H locs ls (by omega) (csw_0 k t _) hF hP hS hl
          · omega
        | succ N ih =>
          intro J M2 H locs ls h0 hT hF hP hS hl
          refine lv_iload hx hb dM_bring_119 (lv_at hl 0 rfl) ?_
          refine lv_iload_n hx hb dM_bring_121 rfl (lv_at hl 4 rfl) ?_
          refine j_icmp_ge hx hb (by omega) (by omega) dM_bring_122 rfl (fun h2 => ?_) (fun h2 => ?_)
          · omega
          · refine lv_aload_n hx hb dM_bring_125 rfl (lv_at hl 2 rfl) ?_
            refine m_get (C := "RationalFormsModel") (T := TxM) (N := 13) hx hb hg uwM hown hK hP (by omega) (sh_M E _) rfl 2 (by decide) wd461 rfl dM_bring_126 ?_
            refine j_iconst hx hb dM_bring_129 ?_
            refine lv_iload_n hx hb dM_bring_130 rfl (lv_at hl 3 rfl) ?_
            refine j_imul hx hb dM_bring_131 ?_
            refine lv_iload hx hb dM_bring_132 (lv_at hl 0 rfl) ?_
            refine j_iadd hx hb dM_bring_134 ?_
            refine m_lald (n := 4 * k + J) hx hb hK hP (by omega) (sh_31 E _) (by omega) (by omega) (by decide) dM_bring_135 ?_
            refine lv_lstore hx hb dM_bring_136 hl (by decide) rfl (fun ls hl => ?_)
            have hl : lv_has ls 7 [(5, .long (jl (M2 31 (4 * k + J)))), (4, .int (ji ((J:Int)))), (3, .int (ji ((t:Int)))), (0, .ref (E.2.1 28)), (1, .int (ji ((k:Int)))), (2, .int (ji ((n:Int))))] := hl
            refine lv_aload_n hx hb dM_bring_138 rfl (lv_at hl 3 rfl) ?_
            refine m_get (C := "RationalFormsModel") (T := TxM) (N := 13) hx hb hg uwM hown hK hP (by omega) (sh_M E _) rfl 2 (by decide) wd461 rfl dM_bring_139 ?_
            refine j_iconst hx hb dM_bring_142 ?_
            refine lv_iload_n hx hb dM_bring_143 rfl (lv_at hl 4 rfl) ?_
            refine j_imul hx hb dM_bring_144 ?_
            refine lv_iload hx hb dM_bring_145 (lv_at hl 1 rfl) ?_
            refine j_iadd hx hb dM_bring_147 ?_
            refine lv_aload_n hx hb dM_bring_148 rfl (lv_at hl 3 rfl) ?_
            refine m_get (C := "RationalFormsModel") (T := TxM) (N := 13) hx hb hg uwM hown hK hP (by omega) (sh_M E _) rfl 2 (by decide) wd461 rfl dM_bring_149 ?_
            refine j_iconst hx hb dM_bring_152 ?_
            refine lv_iload_n hx hb dM_bring_153 rfl (lv_at hl 2 rfl) ?_
            refine j_imul hx hb dM_bring_154 ?_
            refine lv_iload hx hb dM_bring_155 (lv_at hl 1 rfl) ?_
            refine j_iadd hx hb dM_bring_157 ?_
            refine m_lald (n := 4 * t + J) hx hb hK hP (by omega) (sh_31 E _) (by omega) (by omega) (by decide) dM_bring_158 ?_
            refine m_last (n := 4 * k + J) hx hb hK hJ hP hS (by omega) (fun r => sh_31 E r) (by omega) (by omega) (by decide) dM_bring_159 (fun H locs hP hS => ?_)
            refine lv_aload_n hx hb dM_bring_160 rfl (lv_at hl 3 rfl) ?_
            refine m_get (C := "RationalFormsModel") (T := TxM) (N := 13) hx hb hg uwM hown hK hP (by omega) (sh_M E _) rfl 2 (by decide) wd461 rfl dM_bring_161 ?_
            refine j_iconst hx hb dM_bring_164 ?_
            refine lv_iload_n hx hb dM_bring_165 rfl (lv_at hl 2 rfl) ?_
            refine j_imul hx hb dM_bring_166 ?_
            refine lv_iload hx hb dM_bring_167 (lv_at hl 1 rfl) ?_
            refine j_iadd hx hb dM_bring_169 ?_
            refine lv_lload hx hb dM_bring_170 (lv_at hl 0 rfl) ?_
            refine m_last (n := 4 * t + J) hx hb hK hJ hP hS (by omega) (fun r => sh_31 E r) (by omega) (by omega) (by decide) dM_bring_172 (fun H locs hP hS => ?_)
            refine lv_iinc (k := 1) (v := ji (((J:Int)) + 1)) hx hb dM_bring_173 hl rfl (Int32.ofInt_add _ _).symm (by decide) rfl (fun ls hl => ?_)
            have hl : lv_has ls 7 [(4, .int (ji (((J:Int)) + 1))), (5, .long (jl (M2 31 (4 * k + J)))), (3, .int (ji ((t:Int)))), (0, .ref (E.2.1 28)), (1, .int (ji ((k:Int)))), (2, .int (ji ((n:Int))))] := hl
            refine lv_goto hx hb dM_bring_176 rfl ?_
            exact ih (J + 1) _ H locs ls (by omega) ((wr_mu2 _ _ (by omega) (by omega)).tr (rsw_s hT (by omega) (by omega) (by omega))) ((hF.mu _ _).mu _ _) hP hS (lv_sub hl [0, 2, 3, 4, 5] rfl)
      refine j_iconst hx hb dM_bring_116 ?_
      refine lv_istore hx hb dM_bring_117 hl (by decide) rfl (fun ls hl => ?_)
      have hl : lv_has ls 7 [(4, .int (ji 0)), (3, .int (ji ((t:Int)))), (0, .ref (E.2.1 28)), (1, .int (ji ((k:Int)))), (2, .int (ji ((n:Int))))] := hl
      exact loop1 n 0 M1 H locs ls (by omega) (rsw_0 k t _) hF1 hP hS hl
  -- a pivot has been found: the loops run out
  have spin : ∀ (t : Nat) (M1 : Me) (H : Heap) (locs : List Loc), k ≤ t → t < n → (∀ B, eqn n B (swT t k (wr M1)) → bpR n k (wr M) True B) → FrW M M1 → wP E M1 H → va_S (wA E) s_.heap H locs → ∀ (N i : Nat) (ls : Array Slot), i + N = n → (∀ (j : Nat) (ls : Array Slot), j ≤ n → lv_has ls 7 [(5, .int (ji ((j:Int)))), (4, .int (ji ((i:Int)))), (3, .int (ji ((t:Int)))), (0, .ref (E.2.1 28)), (1, .int (ji ((k:Int)))), (2, .int (ji ((n:Int))))] → W p_ l e_ (rmd 1) s_ m_ a_ b_ t_ c_ H locs 0 0 (XQ b_ (mmQ E (fun v M9 => (∃ r : Prop, v = some (.int (ji (bi r))) ∧ bpR n k (wr M) r (wr M9)) ∧ FrW M M9)) a_ s_ 0 0 (wA E)) (F0 m_ 59 ls [])) ∧ (lv_has ls 7 [(4, .int (ji ((i:Int)))), (3, .int (ji ((t:Int)))), (0, .ref (E.2.1 28)), (1, .int (ji ((k:Int)))), (2, .int (ji ((n:Int))))] → W p_ l e_ (rmd 1) s_ m_ a_ b_ t_ c_ H locs 0 0 (XQ b_ (mmQ E (fun v M9 => (∃ r : Prop, v = some (.int (ji (bi r))) ∧ bpR n k (wr M) r (wr M9)) ∧ FrW M M9)) a_ s_ 0 0 (wA E)) (F0 m_ 47 ls [])) := by
    intro t M1 H locs hkt htn hpost hF1 hP hS N
    have inner : ∀ (i : Nat) (_ : i ≤ 4) (_ : ∀ ls, lv_has ls 7 [(4, .int (ji ((i:Int) + 1))), (3, .int (ji ((t:Int)))), (0, .ref (E.2.1 28)), (1, .int (ji ((k:Int)))), (2, .int (ji ((n:Int))))] → W p_ l e_ (rmd 1) s_ m_ a_ b_ t_ c_ H locs 0 0 (XQ b_ (mmQ E (fun v M9 => (∃ r : Prop, v = some (.int (ji (bi r))) ∧ bpR n k (wr M) r (wr M9)) ∧ FrW M M9)) a_ s_ 0 0 (wA E)) (F0 m_ 47 ls [])) (K j : Nat) (ls : Array Slot), j + K = n → lv_has ls 7 [(5, .int (ji ((j:Int)))), (4, .int (ji ((i:Int)))), (3, .int (ji ((t:Int)))), (0, .ref (E.2.1 28)), (1, .int (ji ((k:Int)))), (2, .int (ji ((n:Int))))] → W p_ l e_ (rmd 1) s_ m_ a_ b_ t_ c_ H locs 0 0 (XQ b_ (mmQ E (fun v M9 => (∃ r : Prop, v = some (.int (ji (bi r))) ∧ bpR n k (wr M) r (wr M9)) ∧ FrW M M9)) a_ s_ 0 0 (wA E)) (F0 m_ 59 ls []) := by
      intro i hi4 hnx K
      induction K with
      | zero =>
        intro j ls h1 hl
        refine lv_iload hx hb dM_bring_59 (lv_at hl 0 rfl) ?_
        refine lv_iload_n hx hb dM_bring_61 rfl (lv_at hl 5 rfl) ?_
        refine j_icmp_ge hx hb (by omega) (by omega) dM_bring_62 rfl (fun h2 => ?_) (fun h2 => ?_)
        · refine lv_iinc (k := 1) (v := ji (((i:Int)) + 1)) hx hb dM_bring_105 hl rfl (Int32.ofInt_add _ _).symm (by decide) rfl (fun ls hl => ?_)
          have hl : lv_has ls 7 [(4, .int (ji (((i:Int)) + 1))), (5, .int (ji ((j:Int)))), (3, .int (ji ((t:Int)))), (0, .ref (E.2.1 28)), (1, .int (ji ((k:Int)))), (2, .int (ji ((n:Int))))] := hl
          refine lv_goto hx hb dM_bring_108 rfl ?_
          exact hnx ls (lv_sub hl [0, 2, 3, 4, 5] rfl)
        · omega
      | succ K ihK =>
        intro j ls h1 hl
        refine lv_iload hx hb dM_bring_59 (lv_at hl 0 rfl) ?_
        refine lv_iload_n hx hb dM_bring_61 rfl (lv_at hl 5 rfl) ?_
        refine j_icmp_ge hx hb (by omega) (by omega) dM_bring_62 rfl (fun h2 => ?_) (fun h2 => ?_)
        · omega
        · refine lv_iload_n hx hb dM_bring_65 rfl (lv_at hl 2 rfl) ?_
          refine j_if_ge hx hb (by omega) dM_bring_66 rfl (fun h3 => ?_) (fun h3 => ?_)
          · refine lv_iinc (k := 0) (v := ji (((j:Int)) + 1)) hx hb dM_bring_99 hl rfl (Int32.ofInt_add _ _).symm (by decide) rfl (fun ls hl => ?_)
            have hl : lv_has ls 7 [(5, .int (ji (((j:Int)) + 1))), (4, .int (ji ((i:Int)))), (3, .int (ji ((t:Int)))), (0, .ref (E.2.1 28)), (1, .int (ji ((k:Int)))), (2, .int (ji ((n:Int))))] := hl
            refine lv_goto hx hb dM_bring_102 rfl ?_
            exact ihK (j + 1) ls (by omega) hl
          · omega
    induction N with
    | zero =>
      intro i ls h0
      have a47 : ∀ ls, lv_has ls 7 [(4, .int (ji ((i:Int)))), (3, .int (ji ((t:Int)))), (0, .ref (E.2.1 28)), (1, .int (ji ((k:Int)))), (2, .int (ji ((n:Int))))] → W p_ l e_ (rmd 1) s_ m_ a_ b_ t_ c_ H locs 0 0 (XQ b_ (mmQ E (fun v M9 => (∃ r : Prop, v = some (.int (ji (bi r))) ∧ bpR n k (wr M) r (wr M9)) ∧ FrW M M9)) a_ s_ 0 0 (wA E)) (F0 m_ 47 ls []) := by
        intro ls hl
        refine lv_iload hx hb dM_bring_47 (lv_at hl 0 rfl) ?_
        refine lv_iload_n hx hb dM_bring_49 rfl (lv_at hl 4 rfl) ?_
        refine j_icmp_ge hx hb (by omega) (by omega) dM_bring_50 rfl (fun h1 => ?_) (fun h1 => ?_)
        · exact k111 t M1 H locs ls hkt htn hpost hF1 hP hS (lv_sub hl [1, 2, 3, 4] rfl)
        · omega
      have b47 : ∀ ls, lv_has ls 7 [(4, .int (ji ((i:Int) + 1))), (3, .int (ji ((t:Int)))), (0, .ref (E.2.1 28)), (1, .int (ji ((k:Int)))), (2, .int (ji ((n:Int))))] → W p_ l e_ (rmd 1) s_ m_ a_ b_ t_ c_ H locs 0 0 (XQ b_ (mmQ E (fun v M9 => (∃ r : Prop, v = some (.int (ji (bi r))) ∧ bpR n k (wr M) r (wr M9)) ∧ FrW M M9)) a_ s_ 0 0 (wA E)) (F0 m_ 47 ls []) := by
        intro ls hl
        refine lv_iload hx hb dM_bring_47 (lv_at hl 0 rfl) ?_
        refine lv_iload_n hx hb dM_bring_49 rfl (lv_at hl 4 rfl) ?_
        refine j_icmp_ge hx hb (by omega) (by omega) dM_bring_50 rfl (fun h1 => ?_) (fun h1 => ?_)
        · exact k111 t M1 H locs ls hkt htn hpost hF1 hP hS (lv_sub hl [1, 2, 3, 4] rfl)
        · omega
      exact ⟨fun j ls hj hl => inner i (by omega) b47 (n - j) j ls (by omega) hl, a47 ls⟩
    | succ N ih =>
      intro i ls h0
      have a47 : ∀ ls, lv_has ls 7 [(4, .int (ji ((i:Int)))), (3, .int (ji ((t:Int)))), (0, .ref (E.2.1 28)), (1, .int (ji ((k:Int)))), (2, .int (ji ((n:Int))))] → W p_ l e_ (rmd 1) s_ m_ a_ b_ t_ c_ H locs 0 0 (XQ b_ (mmQ E (fun v M9 => (∃ r : Prop, v = some (.int (ji (bi r))) ∧ bpR n k (wr M) r (wr M9)) ∧ FrW M M9)) a_ s_ 0 0 (wA E)) (F0 m_ 47 ls []) := by
        intro ls hl
        refine lv_iload hx hb dM_bring_47 (lv_at hl 0 rfl) ?_
        refine lv_iload_n hx hb dM_bring_49 rfl (lv_at hl 4 rfl) ?_
        refine j_icmp_ge hx hb (by omega) (by omega) dM_bring_50 rfl (fun h1 => ?_) (fun h1 => ?_)
        · omega
        · refine lv_iload hx hb dM_bring_53 (lv_at hl 0 rfl) ?_
          refine j_iconst hx hb dM_bring_55 ?_
          refine j_iadd hx hb dM_bring_56 ?_
          refine lv_istore hx hb dM_bring_57 hl (by decide) rfl (fun ls hl => ?_)
          have hl : lv_has ls 7 [(5, .int (ji (((i:Int)) + 1))), (4, .int (ji ((i:Int)))), (3, .int (ji ((t:Int)))), (0, .ref (E.2.1 28)), (1, .int (ji ((k:Int)))), (2, .int (ji ((n:Int))))] := hl
          exact inner i (by omega) (fun ls hl => (ih (i + 1) ls (by omega)).2 hl) (n - (i + 1)) (i + 1) ls (by omega) hl
      exact ⟨fun j ls hj hl => inner i (by omega) (fun ls hl => (ih (i + 1) ls (by omega)).2 hl) (n - j) j ls (by omega) hl, a47 ls⟩
  have outer : ∀ (hd : ∀ m, k ≤ m → m < n → wr M m m = 0) (N i : Nat) (ls : Array Slot), i + N = n → k ≤ i → (∀ x y, k ≤ x → x < y → y < n → x < i → wr M x y = 0) → lv_has ls 7 [(4, .int (ji ((i:Int)))), (3, .int (ji (-1))), (0, .ref (E.2.1 28)), (1, .int (ji ((k:Int)))), (2, .int (ji ((n:Int))))] → W p_ l e_ (rmd 1) s_ m_ a_ b_ t_ c_ s_.heap [] 0 0 (XQ b_ (mmQ E (fun v M9 => (∃ r : Prop, v = some (.int (ji (bi r))) ∧ bpR n k (wr M) r (wr M9)) ∧ FrW M M9)) a_ s_ 0 0 (wA E)) (F0 m_ 47 ls []) := by
    intro hd N
    induction N with
    | zero =>
      intro i ls h0 hki hz hl
      refine lv_iload hx hb dM_bring_47 (lv_at hl 0 rfl) ?_
      refine lv_iload_n hx hb dM_bring_49 rfl (lv_at hl 4 rfl) ?_
      refine j_icmp_ge hx hb (by omega) (by omega) dM_bring_50 rfl (fun h1 => ?_) (fun h1 => ?_)
      · refine lv_iload_n hx hb dM_bring_111 rfl (lv_at hl 1 rfl) ?_
        refine lv_iload_n hx hb dM_bring_112 rfl (lv_at hl 3 rfl) ?_
        refine j_icmp_le hx hb (by omega) (by omega) dM_bring_113 rfl (fun h2 => ?_) (fun h2 => ?_)
        · refine lv_iload_n hx hb dM_bring_242 rfl (lv_at hl 1 rfl) ?_
          refine j_if_lt hx hb (by omega) dM_bring_243 rfl (fun h3 => ?_) (fun h3 => ?_)
          · refine j_iconst hx hb dM_bring_250 ?_
            exact mm_zret hx hb hr hk hP hS dM_bring_251 nar_0 ⟨⟨False, by rw [bi_f id], Or.inr (Or.inr ⟨hd, fun x y x1 x2 x3 => hz x y x1 x2 x3 (by omega), id, eqn.rf _ _⟩)⟩, FrW.rf M⟩
          · omega
        · omega
      · omega
    | succ N ih =>
      intro i ls h0 hki hz hl
      have inner : ∀ (K j : Nat) (ls : Array Slot), j + K = n → i < j → (∀ y, i < y → y < j → wr M i y = 0) → lv_has ls 7 [(5, .int (ji ((j:Int)))), (4, .int (ji ((i:Int)))), (3, .int (ji (-1))), (0, .ref (E.2.1 28)), (1, .int (ji ((k:Int)))), (2, .int (ji ((n:Int))))] → W p_ l e_ (rmd 1) s_ m_ a_ b_ t_ c_ s_.heap [] 0 0 (XQ b_ (mmQ E (fun v M9 => (∃ r : Prop, v = some (.int (ji (bi r))) ∧ bpR n k (wr M) r (wr M9)) ∧ FrW M M9)) a_ s_ 0 0 (wA E)) (F0 m_ 59 ls []) := by
        intro K
        induction K with
        | zero =>
          intro j ls h1 hij hz2 hl
          refine lv_iload hx hb dM_bring_59 (lv_at hl 0 rfl) ?_
          refine lv_iload_n hx hb dM_bring_61 rfl (lv_at hl 5 rfl) ?_
          refine j_icmp_ge hx hb (by omega) (by omega) dM_bring_62 rfl (fun h2 => ?_) (fun h2 => ?_)
          · refine lv_iinc (k := 1) (v := ji (((i:Int)) + 1)) hx hb dM_bring_105 hl rfl (Int32.ofInt_add _ _).symm (by decide) rfl (fun ls hl => ?_)
            have hl : lv_has ls 7 [(4, .int (ji (((i:Int)) + 1))), (5, .int (ji ((j:Int)))), (3, .int (ji (-1))), (0, .ref (E.2.1 28)), (1, .int (ji ((k:Int)))), (2, .int (ji ((n:Int))))] := hl
            refine lv_goto hx hb dM_bring_108 rfl ?_
            refine ih (i + 1) ls (by omega) (by omega) (fun x y x1 x2 x3 x4 => ?_) (lv_sub hl [0, 2, 3, 4, 5] rfl)
            by_cases hxi : x = i
            · rw [hxi]; exact hz2 y (by omega) (by omega)
            · exact hz x y x1 x2 x3 (by omega)
          · omega
        | succ K ihK =>
          intro j ls h1 hij hz2 hl
          refine lv_iload hx hb dM_bring_59 (lv_at hl 0 rfl) ?_
          refine lv_iload_n hx hb dM_bring_61 rfl (lv_at hl 5 rfl) ?_
          refine j_icmp_ge hx hb (by omega) (by omega) dM_bring_62 rfl (fun h2 => ?_) (fun h2 => ?_)
          · omega
          · refine lv_iload_n hx hb dM_bring_65 rfl (lv_at hl 2 rfl) ?_
            refine j_if_ge hx hb (by omega) dM_bring_66 rfl (fun h3 => ?_) (fun h3 => ?_)
            · omega
            · refine lv_aload_n hx hb dM_bring_69 rfl (lv_at hl 3 rfl) ?_
              refine m_get (C := "RationalFormsModel") (T := TxM) (N := 13) hx hb hg uwM hown hK hP (by omega) (sh_M E _) rfl 2 (by decide) wd461 rfl dM_bring_70 ?_
              refine j_iconst hx hb dM_bring_73 ?_
              refine lv_iload hx hb dM_bring_74 (lv_at hl 1 rfl) ?_
              refine j_imul hx hb dM_bring_76 ?_
              refine lv_iload hx hb dM_bring_77 (lv_at hl 0 rfl) ?_
              refine j_iadd hx hb dM_bring_79 ?_
              refine m_lald (n := 4 * i + j) hx hb hK hP (by omega) (sh_31 E _) (by omega) (by omega) (by decide) dM_bring_80 ?_
              refine j_lconst0 hx hb dM_bring_81 ?_
              refine j_lc_eq hx hb (hT0 i j (by omega) (by omega) (by omega) (by omega)) (by decide) dM_bring_82 dM_bring_83 rfl (fun h4 => ?_) (fun h4 => ?_)
              · refine lv_iinc (k := 0) (v := ji (((j:Int)) + 1)) hx hb dM_bring_99 hl rfl (Int32.ofInt_add _ _).symm (by decide) rfl (fun ls hl => ?_)
                have hl : lv_has ls 7 [(5, .int (ji (((j:Int)) + 1))), (4, .int (ji ((i:Int)))), (3, .int (ji (-1))), (0, .ref (E.2.1 28)), (1, .int (ji ((k:Int)))), (2, .int (ji ((n:Int))))] := hl
                refine lv_goto hx hb dM_bring_102 rfl ?_
                refine ihK (j + 1) ls (by omega) (by omega) (fun y y1 y2 => ?_) hl
                by_cases hyj : y = j
                · rw [hyj]; exact h4
                · exact hz2 y y1 (by omega)
              · refine lv_iload hx hb dM_bring_86 (lv_at hl 1 rfl) ?_
                refine lv_istore_n hx hb dM_bring_88 rfl hl (by decide) rfl (fun ls hl => ?_)
                have hl : lv_has ls 7 [(3, .int (ji ((i:Int)))), (5, .int (ji ((j:Int)))), (4, .int (ji ((i:Int)))), (0, .ref (E.2.1 28)), (1, .int (ji ((k:Int)))), (2, .int (ji ((n:Int))))] := hl
                refine lv_aload_n hx hb dM_bring_89 rfl (lv_at hl 3 rfl) ?_
                refine lv_iload hx hb dM_bring_90 (lv_at hl 2 rfl) ?_
                refine lv_iload hx hb dM_bring_92 (lv_at hl 1 rfl) ?_
                refine lv_iload_n hx hb dM_bring_94 rfl (lv_at hl 4 rfl) ?_
                refine lv_iload_n hx hb dM_bring_95 rfl (lv_at hl 5 rfl) ?_
                refine mm_V (As := [.int (ji ((i:Int))), .int (ji ((j:Int))), .int (ji ((k:Int))), .int (ji ((n:Int)))]) (rest := []) hx hb hml hown hg hl hK hP hS (by omega) (sh_M E _) rfl (kM_addTo l E hJ M n hn4 j i k (by omega) (by omega) (by omega) (by omega)) wd531 wd533 wds15 wd5 wd534 ⟨rfl, rfl⟩ (n := 4) (by decide +kernel) rfl ⟨by decide, by decide⟩ rfl (Nat.le_of_ble_eq_true rfl) dM_bring_96 ⟨Nat.zero_le _, Nat.zero_le _⟩ (fun v M3 H locs hq3 hP hS => ?_)
                obtain ⟨rfl, hq4, hq5⟩ := hq3
                refine lv_iinc (k := 1) (v := ji (((j:Int)) + 1)) hx hb dM_bring_99 hl rfl (Int32.ofInt_add _ _).symm (by decide) rfl (fun ls hl => ?_)
                have hl : lv_has ls 7 [(5, .int (ji (((j:Int)) + 1))), (3, .int (ji ((i:Int)))), (4, .int (ji ((i:Int)))), (0, .ref (E.2.1 28)), (1, .int (ji ((k:Int)))), (2, .int (ji ((n:Int))))] := hl
                refine lv_goto hx hb dM_bring_102 rfl ?_
                refine (spin i M3 H locs hki (by omega) (fun B hB => Or.inr (Or.inl ⟨hd, i, j, hki, hij, by omega, h4, fun x y x1 x2 x3 x4 => x4.elim (fun x4 => hz x y x1 x2 x3 x4) (fun x4 => by rw [x4.1]; exact hz2 y (by omega) x4.2), trivial, hB.tr (swT_eqn hq4 (by omega) hk9)⟩)) hq5 hP hS (n - i) i ls (by omega)).1 (j + 1) ls (by omega) (lv_sub hl [0, 2, 1, 3, 4, 5] rfl)
      refine lv_iload hx hb dM_bring_47 (lv_at hl 0 rfl) ?_
      refine lv_iload_n hx hb dM_bring_49 rfl (lv_at hl 4 rfl) ?_
      refine j_icmp_ge hx hb (by omega) (by omega) dM_bring_50 rfl (fun h1 => ?_) (fun h1 => ?_)
      · omega
      · refine lv_iload hx hb dM_bring_53 (lv_at hl 0 rfl) ?_
        refine j_iconst hx hb dM_bring_55 ?_
        refine j_iadd hx hb dM_bring_56 ?_
        refine lv_istore hx hb dM_bring_57 hl (by decide) rfl (fun ls hl => ?_)
        have hl : lv_has ls 7 [(5, .int (ji (((i:Int)) + 1))), (4, .int (ji ((i:Int)))), (3, .int (ji (-1))), (0, .ref (E.2.1 28)), (1, .int (ji ((k:Int)))), (2, .int (ji ((n:Int))))] := hl
        exact inner (n - (i + 1)) (i + 1) ls (by omega) (by omega) (fun y y1 y2 => by omega) hl
  have diag : ∀ (N i : Nat) (z : Int) (ls : Array Slot), i = k + N → i ≤ n → ((z = -1 ∧ ∀ m, i ≤ m → m < n → wr M m m = 0) ∨ (∃ t : Nat, z = t ∧ i ≤ t ∧ t < n ∧ wr M t t ≠ 0 ∧ ∀ m, i ≤ m → m < t → wr M m m = 0)) → lv_has ls 7 [(4, .int (ji ((i:Int) + (-1)))), (3, .int (ji z)), (0, .ref (E.2.1 28)), (1, .int (ji ((k:Int)))), (2, .int (ji ((n:Int))))] → W p_ l e_ (rmd 1) s_ m_ a_ b_ t_ c_ s_.heap [] 0 0 (XQ b_ (mmQ E (fun v M9 => (∃ r : Prop, v = some (.int (ji (bi r))) ∧ bpR n k (wr M) r (wr M9)) ∧ FrW M M9)) a_ s_ 0 0 (wA E)) (F0 m_ 7 ls []) := by
    intro N
    induction N with
    | zero =>
      intro i z ls h0 hin hz hl
      have hzb : -1 ≤ z ∧ z ≤ 4 := by rcases hz with ⟨rfl, _⟩ | ⟨t, rfl, t1, t2, _⟩ <;> omega
      refine lv_iload hx hb dM_bring_7 (lv_at hl 0 rfl) ?_
      refine lv_iload_n hx hb dM_bring_9 rfl (lv_at hl 3 rfl) ?_
      refine j_icmp_lt hx hb (by omega) (by omega) dM_bring_10 rfl (fun h1 => ?_) (fun h1 => ?_)
      · have hik : i = k := by omega
        rw [hik] at hz
        refine lv_iload_n hx hb dM_bring_40 rfl (lv_at hl 1 rfl) ?_
        refine j_if_ge hx hb (by clear hz; omega) dM_bring_41 rfl (fun h2 => ?_) (fun h2 => ?_)
        · rcases hz with hz | ⟨t, rfl, t1, t2, t3, t4⟩
          · omega
          · exact k111 t M _ _ ls t1 t2 (fun B hB => Or.inl ⟨t, t1, t2, t3, t4, trivial, hB⟩) (FrW.rf M) hP hS (lv_sub hl [1, 2, 3, 4] rfl)
        · rcases hz with ⟨rfl, hz⟩ | ⟨t, rfl, t1, t2, t3, t4⟩
          · skip
            refine lv_iload_n hx hb dM_bring_44 rfl (lv_at hl 3 rfl) ?_
            refine lv_istore hx hb dM_bring_45 hl (by decide) rfl (fun ls hl => ?_)
            have hl : lv_has ls 7 [(4, .int (ji ((k:Int)))), (3, .int (ji (-1))), (0, .ref (E.2.1 28)), (1, .int (ji ((k:Int)))), (2, .int (ji ((n:Int))))] := hl
            exact outer hz (n - k) k ls (by omega) (Nat.le_refl _) (fun x y x1 x2 x3 x4 => by omega) hl
          · omega
      · omega
    | succ N ih =>
      intro i' z ls h0 hin hz hl
      obtain ⟨i, rfl⟩ : ∃ i, i' = i + 1 := ⟨k + N, by omega⟩
      rw [show ((i + 1 : Nat) : Int) + (-1) = (i : Int) by omega] at hl
      refine lv_iload hx hb dM_bring_7 (lv_at hl 0 rfl) ?_
      refine lv_iload_n hx hb dM_bring_9 rfl (lv_at hl 3 rfl) ?_
      refine j_icmp_lt hx hb (by omega) (by omega) dM_bring_10 rfl (fun h1 => ?_) (fun h1 => ?_)
      · omega
      · refine lv_aload_n hx hb dM_bring_13 rfl (lv_at hl 2 rfl) ?_
        refine m_get (C := "RationalFormsModel") (T := TxM) (N := 13) hx hb hg uwM hown hK hP (by omega) (sh_M E _) rfl 2 (by decide) wd461 rfl dM_bring_14 ?_
        refine j_iconst hx hb dM_bring_17 ?_
        refine lv_iload hx hb dM_bring_18 (lv_at hl 0 rfl) ?_
        refine j_imul hx hb dM_bring_20 ?_
        refine m_lald (n := 5 * i) hx hb hK hP (by omega) (sh_31 E _) (by omega) (by omega) (by decide) dM_bring_21 ?_
        refine j_lconst0 hx hb dM_bring_22 ?_
        refine j_lc_eq hx hb (hd64 i (by omega) (by omega)) (by decide) dM_bring_23 dM_bring_24 rfl (fun h2 => ?_) (fun h2 => ?_)
        · rw [hdg] at h2
          refine lv_iload_n hx hb dM_bring_32 rfl (lv_at hl 1 rfl) ?_
          refine lv_istore_n hx hb dM_bring_33 rfl hl (by decide) rfl (fun ls hl => ?_)
          have hl : lv_has ls 7 [(3, .int (ji z)), (4, .int (ji ((i:Int)))), (0, .ref (E.2.1 28)), (1, .int (ji ((k:Int)))), (2, .int (ji ((n:Int))))] := hl
          refine lv_iinc (k := 1) (v := ji (((i:Int)) + (-1))) hx hb dM_bring_34 hl rfl (Int32.ofInt_add _ _).symm (by decide) rfl (fun ls hl => ?_)
          have hl : lv_has ls 7 [(4, .int (ji (((i:Int)) + (-1)))), (3, .int (ji z)), (0, .ref (E.2.1 28)), (1, .int (ji ((k:Int)))), (2, .int (ji ((n:Int))))] := hl
          refine lv_goto hx hb dM_bring_37 rfl ?_
          refine ih i z ls (by omega) (by omega) ?_ (lv_sub hl [0, 1, 2, 3, 4] rfl)
          rcases hz with ⟨rfl, hz⟩ | ⟨t, rfl, t1, t2, t3, t4⟩
          · refine Or.inl ⟨rfl, fun m m1 m2 => ?_⟩
            by_cases hmi : m = i
            · rw [hmi]; exact h2
            · exact hz m (by omega) m2
          · refine Or.inr ⟨t, rfl, by omega, t2, t3, fun m m1 m2 => ?_⟩
            by_cases hmi : m = i
            · rw [hmi]; exact h2
            · exact t4 m (by omega) m2
        · rw [hdg] at h2
          refine lv_iload hx hb dM_bring_27 (lv_at hl 0 rfl) ?_
          refine lv_goto hx hb dM_bring_29 rfl ?_
          refine lv_istore_n hx hb dM_bring_33 rfl hl (by decide) rfl (fun ls hl => ?_)
          have hl : lv_has ls 7 [(3, .int (ji ((i:Int)))), (4, .int (ji ((i:Int)))), (0, .ref (E.2.1 28)), (1, .int (ji ((k:Int)))), (2, .int (ji ((n:Int))))] := hl
          refine lv_iinc (k := 1) (v := ji (((i:Int)) + (-1))) hx hb dM_bring_34 hl rfl (Int32.ofInt_add _ _).symm (by decide) rfl (fun ls hl => ?_)
          have hl : lv_has ls 7 [(4, .int (ji (((i:Int)) + (-1)))), (3, .int (ji ((i:Int)))), (0, .ref (E.2.1 28)), (1, .int (ji ((k:Int)))), (2, .int (ji ((n:Int))))] := hl
          refine lv_goto hx hb dM_bring_37 rfl ?_
          exact ih i i ls (by omega) (by omega) (Or.inr ⟨i, rfl, Nat.le_refl _, by omega, h2, fun m m1 m2 => by omega⟩) (lv_sub hl [0, 1, 2, 3, 4] rfl)
  refine j_iconst hx hb dM_bring_0 ?_
  refine lv_istore_n hx hb dM_bring_1 rfl hl (by decide) rfl (fun ls hl => ?_)
  have hl : lv_has ls 7 [(3, .int (ji (-1))), (0, .ref (E.2.1 28)), (1, .int (ji ((k:Int)))), (2, .int (ji ((n:Int))))] := hl
  refine lv_iload_n hx hb dM_bring_2 rfl (lv_at hl 3 rfl) ?_
  refine j_iconst hx hb dM_bring_3 ?_
  refine j_isub hx hb dM_bring_4 ?_
  refine lv_istore hx hb dM_bring_5 hl (by decide) rfl (fun ls hl => ?_)
  have hl : lv_has ls 7 [(4, .int (ji (((n:Int)) - 1))), (3, .int (ji (-1))), (0, .ref (E.2.1 28)), (1, .int (ji ((k:Int)))), (2, .int (ji ((n:Int))))] := hl
  refine diag (n - k) n (-1) ls (by omega) (Nat.le_refl _) (Or.inl ⟨rfl, fun m m1 m2 => by omega⟩) ?_
  rw [show (n : Int) + (-1) = (n : Int) - 1 by omega]
  exact hl
