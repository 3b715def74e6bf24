/-! Diagonal (the class), the writing methods: names, contracts -/
abbrev cD_restart : ByteArray := prog_2_method_2_code
abbrev yD_restart : MethodName := ⟨"RationalForms$Diagonal", "restart", "(I)V"⟩
abbrev wsD_restart : List Cond := .code yD_restart cD_restart 2 none :: GG
theorem dD_restart_0 : decode cD_restart 0 = .ok (.aload_n 0, 1) := by decide +kernel
theorem dD_restart_1 : decode cD_restart 1 = .ok (.iload_n 1, 1) := by decide +kernel
theorem dD_restart_2 : decode cD_restart 2 = .ok (.putfield 19, 3) := by decide +kernel
theorem dD_restart_5 : decode cD_restart 5 = .ok (.aload_n 0, 1) := by decide +kernel
theorem dD_restart_6 : decode cD_restart 6 = .ok (.iconst 0, 1) := by decide +kernel
theorem dD_restart_7 : decode cD_restart 7 = .ok (.putfield 23, 3) := by decide +kernel
theorem dD_restart_10 : decode cD_restart 10 = .ok (.aload_n 0, 1) := by decide +kernel
theorem dD_restart_11 : decode cD_restart 11 = .ok (.iconst 0, 1) := by decide +kernel
theorem dD_restart_12 : decode cD_restart 12 = .ok (.putfield 26, 3) := by decide +kernel
theorem dD_restart_15 : decode cD_restart 15 = .ok (.aload_n 0, 1) := by decide +kernel
theorem dD_restart_16 : decode cD_restart 16 = .ok (.iconst 0, 1) := by decide +kernel
theorem dD_restart_17 : decode cD_restart 17 = .ok (.putfield 29, 3) := by decide +kernel
theorem dD_restart_20 : decode cD_restart 20 = .ok (.aload_n 0, 1) := by decide +kernel
theorem dD_restart_21 : decode cD_restart 21 = .ok (.lconst 1, 1) := by decide +kernel
theorem dD_restart_22 : decode cD_restart 22 = .ok (.putfield 32, 3) := by decide +kernel
theorem dD_restart_25 : decode cD_restart 25 = .ok (.aload_n 0, 1) := by decide +kernel
theorem dD_restart_26 : decode cD_restart 26 = .ok (.iconst 0, 1) := by decide +kernel
theorem dD_restart_27 : decode cD_restart 27 = .ok (.putfield 36, 3) := by decide +kernel
theorem dD_restart_30 : decode cD_restart 30 = .ok (.aload_n 0, 1) := by decide +kernel
theorem dD_restart_31 : decode cD_restart 31 = .ok (.iconst 2, 1) := by decide +kernel
theorem dD_restart_32 : decode cD_restart 32 = .ok (.invokevirtual 39, 3) := by decide +kernel
theorem dD_restart_35 : decode cD_restart 35 = .ok (.return_, 1) := by decide +kernel
abbrev cD_addTerm : ByteArray := prog_2_method_3_code
abbrev yD_addTerm : MethodName := ⟨"RationalForms$Diagonal", "addTerm", "(J)V"⟩
abbrev wsD_addTerm : List Cond := .code yD_addTerm cD_addTerm 3 none :: GG
theorem dD_addTerm_0 : decode cD_addTerm 0 = .ok (.aload_n 0, 1) := by decide +kernel
theorem dD_addTerm_1 : decode cD_addTerm 1 = .ok (.getfield 23, 3) := by decide +kernel
theorem dD_addTerm_4 : decode cD_addTerm 4 = .ok (.iconst 5, 1) := by decide +kernel
theorem dD_addTerm_5 : decode cD_addTerm 5 = .ok (.if_icmp .lt 4, 3) := by decide +kernel
theorem dD_addTerm_8 : decode cD_addTerm 8 = .ok (.return_, 1) := by decide +kernel
theorem dD_addTerm_9 : decode cD_addTerm 9 = .ok (.aload_n 0, 1) := by decide +kernel
theorem dD_addTerm_10 : decode cD_addTerm 10 = .ok (.getfield 11, 3) := by decide +kernel
theorem dD_addTerm_13 : decode cD_addTerm 13 = .ok (.aload_n 0, 1) := by decide +kernel
theorem dD_addTerm_14 : decode cD_addTerm 14 = .ok (.getfield 23, 3) := by decide +kernel
theorem dD_addTerm_17 : decode cD_addTerm 17 = .ok (.lload_n 1, 1) := by decide +kernel
theorem dD_addTerm_18 : decode cD_addTerm 18 = .ok (.lastore, 1) := by decide +kernel
theorem dD_addTerm_19 : decode cD_addTerm 19 = .ok (.aload_n 0, 1) := by decide +kernel
theorem dD_addTerm_20 : decode cD_addTerm 20 = .ok (.dup, 1) := by decide +kernel
theorem dD_addTerm_21 : decode cD_addTerm 21 = .ok (.getfield 23, 3) := by decide +kernel
theorem dD_addTerm_24 : decode cD_addTerm 24 = .ok (.iconst 1, 1) := by decide +kernel
theorem dD_addTerm_25 : decode cD_addTerm 25 = .ok (.iadd, 1) := by decide +kernel
theorem dD_addTerm_26 : decode cD_addTerm 26 = .ok (.putfield 23, 3) := by decide +kernel
theorem dD_addTerm_29 : decode cD_addTerm 29 = .ok (.lload_n 1, 1) := by decide +kernel
theorem dD_addTerm_30 : decode cD_addTerm 30 = .ok (.lconst 0, 1) := by decide +kernel
theorem dD_addTerm_31 : decode cD_addTerm 31 = .ok (.lcmp, 1) := by decide +kernel
theorem dD_addTerm_32 : decode cD_addTerm 32 = .ok (.ifCond .le 16, 3) := by decide +kernel
theorem dD_addTerm_35 : decode cD_addTerm 35 = .ok (.aload_n 0, 1) := by decide +kernel
theorem dD_addTerm_36 : decode cD_addTerm 36 = .ok (.dup, 1) := by decide +kernel
theorem dD_addTerm_37 : decode cD_addTerm 37 = .ok (.getfield 26, 3) := by decide +kernel
theorem dD_addTerm_40 : decode cD_addTerm 40 = .ok (.iconst 1, 1) := by decide +kernel
theorem dD_addTerm_41 : decode cD_addTerm 41 = .ok (.iadd, 1) := by decide +kernel
theorem dD_addTerm_42 : decode cD_addTerm 42 = .ok (.putfield 26, 3) := by decide +kernel
theorem dD_addTerm_45 : decode cD_addTerm 45 = .ok (.goto 13, 3) := by decide +kernel
theorem dD_addTerm_48 : decode cD_addTerm 48 = .ok (.aload_n 0, 1) := by decide +kernel
theorem dD_addTerm_49 : decode cD_addTerm 49 = .ok (.dup, 1) := by decide +kernel
theorem dD_addTerm_50 : decode cD_addTerm 50 = .ok (.getfield 29, 3) := by decide +kernel
theorem dD_addTerm_53 : decode cD_addTerm 53 = .ok (.iconst 1, 1) := by decide +kernel
theorem dD_addTerm_54 : decode cD_addTerm 54 = .ok (.iadd, 1) := by decide +kernel
theorem dD_addTerm_55 : decode cD_addTerm 55 = .ok (.putfield 29, 3) := by decide +kernel
theorem dD_addTerm_58 : decode cD_addTerm 58 = .ok (.aload_n 0, 1) := by decide +kernel
theorem dD_addTerm_59 : decode cD_addTerm 59 = .ok (.aload_n 0, 1) := by decide +kernel
theorem dD_addTerm_60 : decode cD_addTerm 60 = .ok (.getfield 32, 3) := by decide +kernel
theorem dD_addTerm_63 : decode cD_addTerm 63 = .ok (.lload_n 1, 1) := by decide +kernel
theorem dD_addTerm_64 : decode cD_addTerm 64 = .ok (.invokestatic 43, 3) := by decide +kernel
theorem dD_addTerm_67 : decode cD_addTerm 67 = .ok (.putfield 32, 3) := by decide +kernel
theorem dD_addTerm_70 : decode cD_addTerm 70 = .ok (.return_, 1) := by decide +kernel
abbrev cD_addPrimesOf : ByteArray := prog_2_method_4_code
abbrev yD_addPrimesOf : MethodName := ⟨"RationalForms$Diagonal", "addPrimesOf", "(J)V"⟩
abbrev wsD_addPrimesOf : List Cond := .code yD_addPrimesOf cD_addPrimesOf 7 none :: GG
theorem dD_addPrimesOf_0 : decode cD_addPrimesOf 0 = .ok (.lload_n 1, 1) := by decide +kernel
theorem dD_addPrimesOf_1 : decode cD_addPrimesOf 1 = .ok (.invokestatic 49, 3) := by decide +kernel
theorem dD_addPrimesOf_4 : decode cD_addPrimesOf 4 = .ok (.lstore_n 3, 1) := by decide +kernel
theorem dD_addPrimesOf_5 : decode cD_addPrimesOf 5 = .ok (.ldc2_w 55, 3) := by decide +kernel
theorem dD_addPrimesOf_8 : decode cD_addPrimesOf 8 = .ok (.lstore 5, 2) := by decide +kernel
theorem dD_addPrimesOf_10 : decode cD_addPrimesOf 10 = .ok (.lload 5, 2) := by decide +kernel
theorem dD_addPrimesOf_12 : decode cD_addPrimesOf 12 = .ok (.lload 5, 2) := by decide +kernel
theorem dD_addPrimesOf_14 : decode cD_addPrimesOf 14 = .ok (.lmul, 1) := by decide +kernel
theorem dD_addPrimesOf_15 : decode cD_addPrimesOf 15 = .ok (.lload_n 3, 1) := by decide +kernel
theorem dD_addPrimesOf_16 : decode cD_addPrimesOf 16 = .ok (.lcmp, 1) := by decide +kernel
theorem dD_addPrimesOf_17 : decode cD_addPrimesOf 17 = .ok (.ifCond .gt 35, 3) := by decide +kernel
theorem dD_addPrimesOf_20 : decode cD_addPrimesOf 20 = .ok (.lload_n 3, 1) := by decide +kernel
theorem dD_addPrimesOf_21 : decode cD_addPrimesOf 21 = .ok (.lload 5, 2) := by decide +kernel
theorem dD_addPrimesOf_23 : decode cD_addPrimesOf 23 = .ok (.lrem, 1) := by decide +kernel
theorem dD_addPrimesOf_24 : decode cD_addPrimesOf 24 = .ok (.lconst 0, 1) := by decide +kernel
theorem dD_addPrimesOf_25 : decode cD_addPrimesOf 25 = .ok (.lcmp, 1) := by decide +kernel
theorem dD_addPrimesOf_26 : decode cD_addPrimesOf 26 = .ok (.ifCond .ne 17, 3) := by decide +kernel
theorem dD_addPrimesOf_29 : decode cD_addPrimesOf 29 = .ok (.aload_n 0, 1) := by decide +kernel
theorem dD_addPrimesOf_30 : decode cD_addPrimesOf 30 = .ok (.lload 5, 2) := by decide +kernel
theorem dD_addPrimesOf_32 : decode cD_addPrimesOf 32 = .ok (.l2i, 1) := by decide +kernel
theorem dD_addPrimesOf_33 : decode cD_addPrimesOf 33 = .ok (.invokevirtual 39, 3) := by decide +kernel
theorem dD_addPrimesOf_36 : decode cD_addPrimesOf 36 = .ok (.lload_n 3, 1) := by decide +kernel
theorem dD_addPrimesOf_37 : decode cD_addPrimesOf 37 = .ok (.lload 5, 2) := by decide +kernel
theorem dD_addPrimesOf_39 : decode cD_addPrimesOf 39 = .ok (.invokestatic 57, 3) := by decide +kernel
theorem dD_addPrimesOf_42 : decode cD_addPrimesOf 42 = .ok (.lstore_n 3, 1) := by decide +kernel
theorem dD_addPrimesOf_43 : decode cD_addPrimesOf 43 = .ok (.lload 5, 2) := by decide +kernel
theorem dD_addPrimesOf_45 : decode cD_addPrimesOf 45 = .ok (.lconst 1, 1) := by decide +kernel
theorem dD_addPrimesOf_46 : decode cD_addPrimesOf 46 = .ok (.ladd, 1) := by decide +kernel
theorem dD_addPrimesOf_47 : decode cD_addPrimesOf 47 = .ok (.lstore 5, 2) := by decide +kernel
theorem dD_addPrimesOf_49 : decode cD_addPrimesOf 49 = .ok (.goto (-39), 3) := by decide +kernel
theorem dD_addPrimesOf_52 : decode cD_addPrimesOf 52 = .ok (.lload_n 3, 1) := by decide +kernel
theorem dD_addPrimesOf_53 : decode cD_addPrimesOf 53 = .ok (.lconst 1, 1) := by decide +kernel
theorem dD_addPrimesOf_54 : decode cD_addPrimesOf 54 = .ok (.lcmp, 1) := by decide +kernel
theorem dD_addPrimesOf_55 : decode cD_addPrimesOf 55 = .ok (.ifCond .le 9, 3) := by decide +kernel
theorem dD_addPrimesOf_58 : decode cD_addPrimesOf 58 = .ok (.aload_n 0, 1) := by decide +kernel
theorem dD_addPrimesOf_59 : decode cD_addPrimesOf 59 = .ok (.lload_n 3, 1) := by decide +kernel
theorem dD_addPrimesOf_60 : decode cD_addPrimesOf 60 = .ok (.l2i, 1) := by decide +kernel
theorem dD_addPrimesOf_61 : decode cD_addPrimesOf 61 = .ok (.invokevirtual 39, 3) := by decide +kernel
theorem dD_addPrimesOf_64 : decode cD_addPrimesOf 64 = .ok (.return_, 1) := by decide +kernel
abbrev cD_addPrime : ByteArray := prog_2_method_5_code
abbrev yD_addPrime : MethodName := ⟨"RationalForms$Diagonal", "addPrime", "(I)V"⟩
abbrev wsD_addPrime : List Cond := .code yD_addPrime cD_addPrime 5 none :: GG
theorem dD_addPrime_0 : decode cD_addPrime 0 = .ok (.iconst 0, 1) := by decide +kernel
theorem dD_addPrime_1 : decode cD_addPrime 1 = .ok (.istore_n 2, 1) := by decide +kernel
theorem dD_addPrime_2 : decode cD_addPrime 2 = .ok (.iload_n 2, 1) := by decide +kernel
theorem dD_addPrime_3 : decode cD_addPrime 3 = .ok (.aload_n 0, 1) := by decide +kernel
theorem dD_addPrime_4 : decode cD_addPrime 4 = .ok (.getfield 36, 3) := by decide +kernel
theorem dD_addPrime_7 : decode cD_addPrime 7 = .ok (.if_icmp .ge 19, 3) := by decide +kernel
theorem dD_addPrime_10 : decode cD_addPrime 10 = .ok (.aload_n 0, 1) := by decide +kernel
theorem dD_addPrime_11 : decode cD_addPrime 11 = .ok (.getfield 15, 3) := by decide +kernel
theorem dD_addPrime_14 : decode cD_addPrime 14 = .ok (.iload_n 2, 1) := by decide +kernel
theorem dD_addPrime_15 : decode cD_addPrime 15 = .ok (.iaload, 1) := by decide +kernel
theorem dD_addPrime_16 : decode cD_addPrime 16 = .ok (.iload_n 1, 1) := by decide +kernel
theorem dD_addPrime_17 : decode cD_addPrime 17 = .ok (.if_icmp .ge 9, 3) := by decide +kernel
theorem dD_addPrime_20 : decode cD_addPrime 20 = .ok (.iinc 2 1, 3) := by decide +kernel
theorem dD_addPrime_23 : decode cD_addPrime 23 = .ok (.goto (-21), 3) := by decide +kernel
theorem dD_addPrime_26 : decode cD_addPrime 26 = .ok (.iload_n 2, 1) := by decide +kernel
theorem dD_addPrime_27 : decode cD_addPrime 27 = .ok (.aload_n 0, 1) := by decide +kernel
theorem dD_addPrime_28 : decode cD_addPrime 28 = .ok (.getfield 36, 3) := by decide +kernel
theorem dD_addPrime_31 : decode cD_addPrime 31 = .ok (.if_icmp .ge 17, 3) := by decide +kernel
theorem dD_addPrime_34 : decode cD_addPrime 34 = .ok (.aload_n 0, 1) := by decide +kernel
theorem dD_addPrime_35 : decode cD_addPrime 35 = .ok (.getfield 15, 3) := by decide +kernel
theorem dD_addPrime_38 : decode cD_addPrime 38 = .ok (.iload_n 2, 1) := by decide +kernel
theorem dD_addPrime_39 : decode cD_addPrime 39 = .ok (.iaload, 1) := by decide +kernel
theorem dD_addPrime_40 : decode cD_addPrime 40 = .ok (.iload_n 1, 1) := by decide +kernel
theorem dD_addPrime_41 : decode cD_addPrime 41 = .ok (.if_icmp .ne 7, 3) := by decide +kernel
theorem dD_addPrime_44 : decode cD_addPrime 44 = .ok (.iconst 1, 1) := by decide +kernel
theorem dD_addPrime_45 : decode cD_addPrime 45 = .ok (.goto 4, 3) := by decide +kernel
theorem dD_addPrime_48 : decode cD_addPrime 48 = .ok (.iconst 0, 1) := by decide +kernel
theorem dD_addPrime_49 : decode cD_addPrime 49 = .ok (.istore_n 3, 1) := by decide +kernel
theorem dD_addPrime_50 : decode cD_addPrime 50 = .ok (.iload_n 3, 1) := by decide +kernel
theorem dD_addPrime_51 : decode cD_addPrime 51 = .ok (.ifCond .ne 12, 3) := by decide +kernel
theorem dD_addPrime_54 : decode cD_addPrime 54 = .ok (.aload_n 0, 1) := by decide +kernel
theorem dD_addPrime_55 : decode cD_addPrime 55 = .ok (.getfield 36, 3) := by decide +kernel
theorem dD_addPrime_58 : decode cD_addPrime 58 = .ok (.bipush 32, 2) := by decide +kernel
theorem dD_addPrime_60 : decode cD_addPrime 60 = .ok (.if_icmp .lt 4, 3) := by decide +kernel
theorem dD_addPrime_63 : decode cD_addPrime 63 = .ok (.return_, 1) := by decide +kernel
theorem dD_addPrime_64 : decode cD_addPrime 64 = .ok (.aload_n 0, 1) := by decide +kernel
theorem dD_addPrime_65 : decode cD_addPrime 65 = .ok (.getfield 36, 3) := by decide +kernel
theorem dD_addPrime_68 : decode cD_addPrime 68 = .ok (.istore 4, 2) := by decide +kernel
theorem dD_addPrime_70 : decode cD_addPrime 70 = .ok (.iload 4, 2) := by decide +kernel
theorem dD_addPrime_72 : decode cD_addPrime 72 = .ok (.iload_n 2, 1) := by decide +kernel
theorem dD_addPrime_73 : decode cD_addPrime 73 = .ok (.if_icmp .le 25, 3) := by decide +kernel
theorem dD_addPrime_76 : decode cD_addPrime 76 = .ok (.aload_n 0, 1) := by decide +kernel
theorem dD_addPrime_77 : decode cD_addPrime 77 = .ok (.getfield 15, 3) := by decide +kernel
theorem dD_addPrime_80 : decode cD_addPrime 80 = .ok (.iload 4, 2) := by decide +kernel
theorem dD_addPrime_82 : decode cD_addPrime 82 = .ok (.aload_n 0, 1) := by decide +kernel
theorem dD_addPrime_83 : decode cD_addPrime 83 = .ok (.getfield 15, 3) := by decide +kernel
theorem dD_addPrime_86 : decode cD_addPrime 86 = .ok (.iload 4, 2) := by decide +kernel
theorem dD_addPrime_88 : decode cD_addPrime 88 = .ok (.iconst 1, 1) := by decide +kernel
theorem dD_addPrime_89 : decode cD_addPrime 89 = .ok (.isub, 1) := by decide +kernel
theorem dD_addPrime_90 : decode cD_addPrime 90 = .ok (.iaload, 1) := by decide +kernel
theorem dD_addPrime_91 : decode cD_addPrime 91 = .ok (.iastore, 1) := by decide +kernel
theorem dD_addPrime_92 : decode cD_addPrime 92 = .ok (.iinc 4 (-1), 3) := by decide +kernel
theorem dD_addPrime_95 : decode cD_addPrime 95 = .ok (.goto (-25), 3) := by decide +kernel
theorem dD_addPrime_98 : decode cD_addPrime 98 = .ok (.aload_n 0, 1) := by decide +kernel
theorem dD_addPrime_99 : decode cD_addPrime 99 = .ok (.getfield 15, 3) := by decide +kernel
theorem dD_addPrime_102 : decode cD_addPrime 102 = .ok (.iload_n 2, 1) := by decide +kernel
theorem dD_addPrime_103 : decode cD_addPrime 103 = .ok (.iload_n 1, 1) := by decide +kernel
theorem dD_addPrime_104 : decode cD_addPrime 104 = .ok (.iastore, 1) := by decide +kernel
theorem dD_addPrime_105 : decode cD_addPrime 105 = .ok (.aload_n 0, 1) := by decide +kernel
theorem dD_addPrime_106 : decode cD_addPrime 106 = .ok (.dup, 1) := by decide +kernel
theorem dD_addPrime_107 : decode cD_addPrime 107 = .ok (.getfield 36, 3) := by decide +kernel
theorem dD_addPrime_110 : decode cD_addPrime 110 = .ok (.iconst 1, 1) := by decide +kernel
theorem dD_addPrime_111 : decode cD_addPrime 111 = .ok (.iadd, 1) := by decide +kernel
theorem dD_addPrime_112 : decode cD_addPrime 112 = .ok (.putfield 36, 3) := by decide +kernel
theorem dD_addPrime_115 : decode cD_addPrime 115 = .ok (.return_, 1) := by decide +kernel
abbrev cD_extendBy : ByteArray := prog_2_method_6_code
abbrev yD_extendBy : MethodName := ⟨"RationalForms$Diagonal", "extendBy", "(I)V"⟩
abbrev wsD_extendBy : List Cond := .code yD_extendBy cD_extendBy 2 none :: GG
theorem dD_extendBy_0 : decode cD_extendBy 0 = .ok (.aload_n 0, 1) := by decide +kernel
theorem dD_extendBy_1 : decode cD_extendBy 1 = .ok (.iload_n 1, 1) := by decide +kernel
theorem dD_extendBy_2 : decode cD_extendBy 2 = .ok (.i2l, 1) := by decide +kernel
theorem dD_extendBy_3 : decode cD_extendBy 3 = .ok (.invokestatic 60, 3) := by decide +kernel
theorem dD_extendBy_6 : decode cD_extendBy 6 = .ok (.invokevirtual 63, 3) := by decide +kernel
theorem dD_extendBy_9 : decode cD_extendBy 9 = .ok (.aload_n 0, 1) := by decide +kernel
theorem dD_extendBy_10 : decode cD_extendBy 10 = .ok (.iload_n 1, 1) := by decide +kernel
theorem dD_extendBy_11 : decode cD_extendBy 11 = .ok (.i2l, 1) := by decide +kernel
theorem dD_extendBy_12 : decode cD_extendBy 12 = .ok (.invokevirtual 67, 3) := by decide +kernel
theorem dD_extendBy_15 : decode cD_extendBy 15 = .ok (.aload_n 0, 1) := by decide +kernel
theorem dD_extendBy_16 : decode cD_extendBy 16 = .ok (.aload_n 0, 1) := by decide +kernel
theorem dD_extendBy_17 : decode cD_extendBy 17 = .ok (.getfield 23, 3) := by decide +kernel
theorem dD_extendBy_20 : decode cD_extendBy 20 = .ok (.putfield 19, 3) := by decide +kernel
theorem dD_extendBy_23 : decode cD_extendBy 23 = .ok (.return_, 1) := by decide +kernel
def FrD (f : Nat) (M M9 : Me) : Prop := (∀ k, k ≠ 17 + f → k ≠ 21 + f → M9 k = M k) ∧ ∀ j, j ≠ 7 → M9 (17 + f) j = M (17 + f) j
theorem FrD.rf (f : Nat) (M : Me) : FrD f M M := ⟨fun _ _ _ => rfl, fun _ _ => rfl⟩
theorem FrD.tr {f : Nat} {M M1 M2 : Me} (h1 : FrD f M M1) (h2 : FrD f M1 M2) : FrD f M M2 := ⟨fun k a b => (h2.1 k a b).trans (h1.1 k a b), fun j a => (h2.2 j a).trans (h1.2 j a)⟩
set_option maxRecDepth 20000 in
theorem wd129 : Cond.methodLink "RationalForms$Diagonal" 39 yD_addPrime ∈ GG := GG_t 129 rfl rfl
set_option maxRecDepth 20000 in
theorem wd131 : Cond.instanceMethod yD_addPrime ∈ GG := GG_t 131 rfl rfl
set_option maxRecDepth 20000 in
theorem wd132 : Cond.code yD_addPrime cD_addPrime 5 none ∈ GG := GG_t 132 rfl rfl
set_option maxRecDepth 20000 in
theorem wd146 : Cond.static yW_classOf ∈ GG := GG_t 146 rfl rfl
set_option maxRecDepth 20000 in
theorem wd147 : Cond.code yW_classOf cW_classOf 6 (some .long) ∈ GG := GG_t 147 rfl rfl
set_option maxRecDepth 20000 in
theorem wd156 : Cond.static yW_classOfProduct ∈ GG := GG_t 156 rfl rfl
set_option maxRecDepth 20000 in
theorem wd157 : Cond.code yW_classOfProduct cW_classOfProduct 6 (some .long) ∈ GG := GG_t 157 rfl rfl
set_option maxRecDepth 20000 in
theorem wd165 : Cond.instanceMethod yD_addTerm ∈ GG := GG_t 165 rfl rfl
set_option maxRecDepth 20000 in
theorem wd166 : Cond.selects "RationalForms$Diagonal" yD_addTerm yD_addTerm ∈ GG := GG_t 166 rfl rfl
set_option maxRecDepth 20000 in
theorem wd167 : Cond.code yD_addTerm cD_addTerm 3 none ∈ GG := GG_t 167 rfl rfl
set_option maxRecDepth 20000 in
theorem wd168 : Cond.methodLink "RationalForms$Diagonal" 43 yW_classOfProduct ∈ GG := GG_t 168 rfl rfl
set_option maxRecDepth 20000 in
theorem wd170 : Cond.instanceMethod yD_addPrimesOf ∈ GG := GG_t 170 rfl rfl
set_option maxRecDepth 20000 in
theorem wd171 : Cond.selects "RationalForms$Diagonal" yD_addPrimesOf yD_addPrimesOf ∈ GG := GG_t 171 rfl rfl
set_option maxRecDepth 20000 in
theorem wd172 : Cond.code yD_addPrimesOf cD_addPrimesOf 7 none ∈ GG := GG_t 172 rfl rfl
set_option maxRecDepth 20000 in
theorem wd173 : Cond.methodLink "RationalForms$Diagonal" 49 Lib.MathLoose.abs_long.x ∈ GG := GG_t 173 rfl rfl
set_option maxRecDepth 20000 in
theorem wd174 : Cond.constantLong "RationalForms$Diagonal" 55 (2) ∈ GG := GG_t 174 rfl rfl
set_option maxRecDepth 20000 in
theorem wd175 : Cond.methodLink "RationalForms$Diagonal" 57 yW_withoutFactor ∈ GG := GG_t 175 rfl rfl
set_option maxRecDepth 20000 in
theorem wd4 : Cond.initialized "RationalForms$Diagonal" ∈ GG := GG_t 4 rfl rfl
set_option maxRecDepth 20000 in
theorem wd427 : Cond.methodLink "RationalForms$Diagonal" 60 yW_classOf ∈ GG := GG_t 427 rfl rfl
set_option maxRecDepth 20000 in
theorem wd428 : Cond.methodLink "RationalForms$Diagonal" 63 yD_addTerm ∈ GG := GG_t 428 rfl rfl
set_option maxRecDepth 20000 in
theorem wd429 : Cond.methodLink "RationalForms$Diagonal" 67 yD_addPrimesOf ∈ GG := GG_t 429 rfl rfl
set_option maxRecDepth 20000 in
theorem wd66 : Cond.fieldLink "RationalForms$Diagonal" 11 "RationalForms$Diagonal" "terms" "[J" ∈ GG := GG_t 66 rfl rfl
set_option maxRecDepth 20000 in
theorem wd67 : Cond.fieldLink "RationalForms$Diagonal" 15 "RationalForms$Diagonal" "primes" "[I" ∈ GG := GG_t 67 rfl rfl
set_option maxRecDepth 20000 in
theorem wd68 : Cond.fieldLink "RationalForms$Diagonal" 19 "RationalForms$Diagonal" "dimension" "I" ∈ GG := GG_t 68 rfl rfl
set_option maxRecDepth 20000 in
theorem wd70 : Cond.fieldLink "RationalForms$Diagonal" 23 "RationalForms$Diagonal" "rank" "I" ∈ GG := GG_t 70 rfl rfl
set_option maxRecDepth 20000 in
theorem wd72 : Cond.fieldLink "RationalForms$Diagonal" 26 "RationalForms$Diagonal" "positive" "I" ∈ GG := GG_t 72 rfl rfl
set_option maxRecDepth 20000 in
theorem wd74 : Cond.fieldLink "RationalForms$Diagonal" 29 "RationalForms$Diagonal" "negative" "I" ∈ GG := GG_t 74 rfl rfl
set_option maxRecDepth 20000 in
theorem wd76 : Cond.fieldLink "RationalForms$Diagonal" 32 "RationalForms$Diagonal" "discriminant" "J" ∈ GG := GG_t 76 rfl rfl
set_option maxRecDepth 20000 in
theorem wd78 : Cond.fieldLink "RationalForms$Diagonal" 36 "RationalForms$Diagonal" "primeCount" "I" ∈ GG := GG_t 78 rfl rfl
set_option maxRecDepth 20000 in
theorem wds2 : Cond.selects "RationalForms$Diagonal" yD_addPrime yD_addPrime ∈ GG := GG_s 2 rfl rfl
set_option maxRecDepth 100000 in
set_option maxHeartbeats 4000000 in
theorem kD_addPrime (l : Launch) (E : En) (hJ : wJ E) (M : Me) (f : Nat) (hf : f < 2) (p : Nat) (hp : p ≤ 2147483647) (c : Nat) (hc : M (17 + f) 7 = c) (hc2 : c < 32) (S : Nat → Prop) (hS0 : SL c (M (21 + f)) S) (hb0 : ∀ q, S q → q ≤ 2147483647) : MM l yD_addPrime wsD_addPrime (rmd 0) E M [.ref (E.2.1 (17 + f)), .int (ji ((p:Int)))] (fun r M9 => r = none ∧ (∃ c9 : Nat, c9 ≤ c + 1 ∧ M9 (17 + f) 7 = c9 ∧ SL c9 (M9 (21 + f)) (fun q => q = p ∨ S q)) ∧ FrD f M M9) := by
  refine MM.ofG (by decide +kernel) (Nat.le_of_ble_eq_true rfl) ?_
  intro p_ e_ s_ m_ a_ b_ t_ c_ hx hb hml hr hk hg hown hK hP hS ls hl
  have hl : lv_has ls 5 [(0, .ref (E.2.1 (17 + f))), (1, .int (ji ((p:Int))))] := hl
  have k64 : ∀ (a : Nat) (ls : Array Slot), a ≤ c → (∀ i, i < a → M (21 + f) i < p) → (∀ i, a ≤ i → i < c → (p : Int) < M (21 + f) i) → lv_has ls 5 [(2, .int (ji ((a:Int)))), (0, .ref (E.2.1 (17 + f))), (1, .int (ji ((p:Int))))] → W p_ l e_ (rmd 0) s_ m_ a_ b_ t_ c_ s_.heap [] 0 0 (XQ b_ (mmQ E (fun r M9 => r = none ∧ (∃ c9 : Nat, c9 ≤ c + 1 ∧ M9 (17 + f) 7 = c9 ∧ SL c9 (M9 (21 + f)) (fun q => q = p ∨ S q)) ∧ FrD f M M9)) a_ s_ 0 0 (wA E)) (F0 m_ 64 ls []) := by
    intro a ls ha hlo hhi hl
    have loop : ∀ (N k : Nat) (M1 : Me) (H : Heap) (locs : List Loc) (ls : Array Slot), k = a + N → k ≤ c → (∀ i, i < k → M1 (21 + f) i = M (21 + f) i) → (∀ i, k < i → i ≤ c → M1 (21 + f) i = M (21 + f) (i - 1)) → (∀ j, j ≠ 21 + f → M1 j = M j) → wP E M1 H → va_S (wA E) s_.heap H locs → lv_has ls 5 [(4, .int (ji ((k:Int)))), (2, .int (ji ((a:Int)))), (0, .ref (E.2.1 (17 + f))), (1, .int (ji ((p:Int))))] → W p_ l e_ (rmd 0) s_ m_ a_ b_ t_ c_ H locs 0 0 (XQ b_ (mmQ E (fun r M9 => r = none ∧ (∃ c9 : Nat, c9 ≤ c + 1 ∧ M9 (17 + f) 7 = c9 ∧ SL c9 (M9 (21 + f)) (fun q => q = p ∨ S q)) ∧ FrD f M M9)) a_ s_ 0 0 (wA E)) (F0 m_ 70 ls []) := by
      intro N
      induction N with
      | zero =>
        intro k M1 H locs ls hk0 hkc h1 h2 h3 hP hS hl
        refine lv_iload hx hb dD_addPrime_70 (lv_at hl 0 rfl) ?_
        refine lv_iload_n hx hb dD_addPrime_72 rfl (lv_at hl 1 rfl) ?_
        refine j_icmp_le hx hb (by omega) (by omega) dD_addPrime_73 rfl (fun h4 => ?_) (fun h4 => ?_)
        · refine lv_aload_n hx hb dD_addPrime_98 rfl (lv_at hl 2 rfl) ?_
          refine m_get (C := "RationalForms$Diagonal") (T := TxD) (N := 8) hx hb hg uwD hown hK hP (by omega) (sh_D E _ (by omega)) rfl 1 (by decide) wd67 rfl dD_addPrime_99 ?_
          refine lv_iload_n hx hb dD_addPrime_102 rfl (lv_at hl 1 rfl) ?_
          refine lv_iload_n hx hb dD_addPrime_103 rfl (lv_at hl 3 rfl) ?_
          refine m_iast (n := a) hx hb hK hJ hP hS (by omega) (fun r => sh_p E r (by omega)) rfl (by omega) (by decide) dD_addPrime_104 (fun H locs hP hS => ?_)
          refine lv_aload_n hx hb dD_addPrime_105 rfl (lv_at hl 2 rfl) ?_
          refine lv_dup hx hb dD_addPrime_106 rfl ?_
          refine m_get (C := "RationalForms$Diagonal") (T := TxD) (N := 8) hx hb hg uwD hown hK hP (by omega) (sh_D E _ (by omega)) rfl 7 (by decide) wd78 rfl dD_addPrime_107 ?_
          refine j_iconst hx hb dD_addPrime_110 ?_
          refine j_iadd hx hb dD_addPrime_111 ?_
          refine m_put (C := "RationalForms$Diagonal") (T := TxD) (N := 8) (ty := .int) (z := ((mu M1 (21 + f) a ((p:Int))) (17 + f) 7) + 1) hx hb hg uwD txD txD_ok nmD hown hK hJ hP hS (by omega) (sh_D E _ (by omega)) rfl 7 (by decide) wd78 rfl rfl rfl rfl (Nat.le_of_ble_eq_true rfl) (by rw [sh_D E _ (by omega)]; simp [mu]) dD_addPrime_112 (fun H locs hP hS => ?_)
          have hcM : M1 (17 + f) 7 = c := by rw [h3 (17 + f) (by omega)]; exact hc
          exact mm_vret hx hb hr hk hP hS dD_addPrime_115 ⟨rfl, ⟨c + 1, Nat.le_refl _, by rw [mu_s, mu_k (by omega), hcM]; rfl, SL.ins (at9 := a) hS0 ha hlo hhi (fun i hi => by rw [mu_k (by omega), mu_j (by omega)]; exact h1 i (by omega)) (by rw [mu_k (by omega)]; exact mu_s _ _ _ _) (fun i i1 i2 => by rw [mu_k (by omega), mu_j (by omega)]; exact h2 i (by omega) i2)⟩, fun k' q1 q2 => by rw [mu_k q1, mu_k q2]; exact h3 k' q2, fun j hj => by rw [mu_j hj, mu_k (by omega), h3 (17 + f) (by omega)]⟩
        · omega
      | succ N ih =>
        intro k M1 H locs ls hk0 hkc h1 h2 h3 hP hS hl
        refine lv_iload hx hb dD_addPrime_70 (lv_at hl 0 rfl) ?_
        refine lv_iload_n hx hb dD_addPrime_72 rfl (lv_at hl 1 rfl) ?_
        refine j_icmp_le hx hb (by omega) (by omega) dD_addPrime_73 rfl (fun h4 => ?_) (fun h4 => ?_)
        · omega
        · refine lv_aload_n hx hb dD_addPrime_76 rfl (lv_at hl 2 rfl) ?_
          refine m_get (C := "RationalForms$Diagonal") (T := TxD) (N := 8) hx hb hg uwD hown hK hP (by omega) (sh_D E _ (by omega)) rfl 1 (by decide) wd67 rfl dD_addPrime_77 ?_
          refine lv_iload hx hb dD_addPrime_80 (lv_at hl 0 rfl) ?_
          refine lv_aload_n hx hb dD_addPrime_82 rfl (lv_at hl 2 rfl) ?_
          refine m_get (C := "RationalForms$Diagonal") (T := TxD) (N := 8) hx hb hg uwD hown hK hP (by omega) (sh_D E _ (by omega)) rfl 1 (by decide) wd67 rfl dD_addPrime_83 ?_
          refine lv_iload hx hb dD_addPrime_86 (lv_at hl 0 rfl) ?_
          refine j_iconst hx hb dD_addPrime_88 ?_
          refine j_isub hx hb dD_addPrime_89 ?_
          refine m_iald (n := k - 1) hx hb hK hP (by omega) (sh_p E _ (by omega)) (by omega) (by omega) (by decide) dD_addPrime_90 ?_
          refine m_iast (n := k) hx hb hK hJ hP hS (by omega) (fun r => sh_p E r (by omega)) rfl (by omega) (by decide) dD_addPrime_91 (fun H locs hP hS => ?_)
          refine lv_iinc (k := 0) (v := ji (((k:Int)) + (-1))) hx hb dD_addPrime_92 hl rfl (Int32.ofInt_add _ _).symm (by decide) rfl (fun ls hl => ?_)
          have hl : lv_has ls 5 [(4, .int (ji (((k:Int)) + (-1)))), (2, .int (ji ((a:Int)))), (0, .ref (E.2.1 (17 + f))), (1, .int (ji ((p:Int))))] := hl
          refine lv_goto hx hb dD_addPrime_95 rfl ?_
          refine ih (k - 1) _ H locs ls (by omega) (by omega) (fun i hi => ?_) (fun i i1 i2 => ?_) (fun j hj => ?_) hP hS (by rw [show (((k - 1 : Nat)) : Int) = (k : Int) + (-1) by omega]; exact hl)
          · rw [mu_j (by omega)]; exact h1 i (by omega)
          · by_cases hik : i = k
            · subst hik
              rw [mu_s]; exact h1 (i - 1) (by omega)
            · rw [mu_j hik]; exact h2 i (by omega) i2
          · rw [mu_k hj]; exact h3 j hj
    refine lv_aload_n hx hb dD_addPrime_64 rfl (lv_at hl 1 rfl) ?_
    refine m_get (C := "RationalForms$Diagonal") (T := TxD) (N := 8) hx hb hg uwD hown hK hP (by omega) (sh_D E _ (by omega)) rfl 7 (by decide) wd78 rfl dD_addPrime_65 ?_
    refine lv_istore hx hb dD_addPrime_68 hl (by decide) rfl (fun ls hl => ?_)
    have hl : lv_has ls 5 [(4, .int (ji (M (17 + f) 7))), (2, .int (ji ((a:Int)))), (0, .ref (E.2.1 (17 + f))), (1, .int (ji ((p:Int))))] := hl
    rw [hc] at hl
    exact loop (c - a) c M s_.heap [] ls (by omega) (Nat.le_refl _) (fun _ _ => rfl) (fun i i1 i2 => by omega) (fun _ _ => rfl) hP hS hl
  have k26 : ∀ (a : Nat) (ls : Array Slot), a ≤ c → (∀ i, i < a → M (21 + f) i < p) → (a < c → (p : Int) ≤ M (21 + f) a) → lv_has ls 5 [(2, .int (ji ((a:Int)))), (0, .ref (E.2.1 (17 + f))), (1, .int (ji ((p:Int))))] → W p_ l e_ (rmd 0) s_ m_ a_ b_ t_ c_ s_.heap [] 0 0 (XQ b_ (mmQ E (fun r M9 => r = none ∧ (∃ c9 : Nat, c9 ≤ c + 1 ∧ M9 (17 + f) 7 = c9 ∧ SL c9 (M9 (21 + f)) (fun q => q = p ∨ S q)) ∧ FrD f M M9)) a_ s_ 0 0 (wA E)) (F0 m_ 26 ls []) := by
    intro a ls ha hlo hge hl
    have hup : a < c → M (21 + f) a ≠ p → ∀ i, a ≤ i → i < c → (p : Int) < M (21 + f) i := by
      intro h1 h2 i i1 i2
      have h3 := hge h1
      rcases Nat.lt_or_ge a i with h4 | h4
      · have := hS0.1 a i h4 i2
        omega
      · have : i = a := by omega
        subst this
        omega
    refine lv_iload_n hx hb dD_addPrime_26 rfl (lv_at hl 0 rfl) ?_
    refine lv_aload_n hx hb dD_addPrime_27 rfl (lv_at hl 1 rfl) ?_
    refine m_get (C := "RationalForms$Diagonal") (T := TxD) (N := 8) hx hb hg uwD hown hK hP (by omega) (sh_D E _ (by omega)) rfl 7 (by decide) wd78 rfl dD_addPrime_28 ?_
    refine j_icmp_ge hx hb (by omega) (by rw [hc]; omega) dD_addPrime_31 rfl (fun h1 => ?_) (fun h1 => ?_)
    · refine j_iconst hx hb dD_addPrime_48 ?_
      refine lv_istore_n hx hb dD_addPrime_49 rfl hl (by decide) rfl (fun ls hl => ?_)
      have hl : lv_has ls 5 [(3, .int (ji 0)), (2, .int (ji ((a:Int)))), (0, .ref (E.2.1 (17 + f))), (1, .int (ji ((p:Int))))] := hl
      refine lv_iload_n hx hb dD_addPrime_50 rfl (lv_at hl 0 rfl) ?_
      refine j_if_ne hx hb (by omega) dD_addPrime_51 rfl (fun h2 => ?_) (fun h2 => ?_)
      · exact absurd rfl h2
      · refine lv_aload_n hx hb dD_addPrime_54 rfl (lv_at hl 2 rfl) ?_
        refine m_get (C := "RationalForms$Diagonal") (T := TxD) (N := 8) hx hb hg uwD hown hK hP (by omega) (sh_D E _ (by omega)) rfl 7 (by decide) wd78 rfl dD_addPrime_55 ?_
        refine j_bipush hx hb dD_addPrime_58 rfl ?_
        refine j_icmp_lt hx hb (by rw [hc]; omega) (by decide) dD_addPrime_60 rfl (fun h3 => ?_) (fun h3 => ?_)
        · exact k64 a ls ha hlo (fun i i1 i2 => by omega) (lv_sub hl [1, 2, 3] rfl)
        · omega
    · refine lv_aload_n hx hb dD_addPrime_34 rfl (lv_at hl 1 rfl) ?_
      refine m_get (C := "RationalForms$Diagonal") (T := TxD) (N := 8) hx hb hg uwD hown hK hP (by omega) (sh_D E _ (by omega)) rfl 1 (by decide) wd67 rfl dD_addPrime_35 ?_
      refine lv_iload_n hx hb dD_addPrime_38 rfl (lv_at hl 0 rfl) ?_
      refine m_iald (n := a) hx hb hK hP (by omega) (sh_p E _ (by omega)) rfl (by omega) (by decide) dD_addPrime_39 ?_
      refine lv_iload_n hx hb dD_addPrime_40 rfl (lv_at hl 2 rfl) ?_
      refine j_icmp_ne hx hb (by have := hS0.bd hb0 (i := a) (by omega); omega) (by omega) dD_addPrime_41 rfl (fun h2 => ?_) (fun h2 => ?_)
      · refine j_iconst hx hb dD_addPrime_48 ?_
        refine lv_istore_n hx hb dD_addPrime_49 rfl hl (by decide) rfl (fun ls hl => ?_)
        have hl : lv_has ls 5 [(3, .int (ji 0)), (2, .int (ji ((a:Int)))), (0, .ref (E.2.1 (17 + f))), (1, .int (ji ((p:Int))))] := hl
        refine lv_iload_n hx hb dD_addPrime_50 rfl (lv_at hl 0 rfl) ?_
        refine j_if_ne hx hb (by omega) dD_addPrime_51 rfl (fun h3 => ?_) (fun h3 => ?_)
        · exact absurd rfl h3
        · refine lv_aload_n hx hb dD_addPrime_54 rfl (lv_at hl 2 rfl) ?_
          refine m_get (C := "RationalForms$Diagonal") (T := TxD) (N := 8) hx hb hg uwD hown hK hP (by omega) (sh_D E _ (by omega)) rfl 7 (by decide) wd78 rfl dD_addPrime_55 ?_
          refine j_bipush hx hb dD_addPrime_58 rfl ?_
          refine j_icmp_lt hx hb (by rw [hc]; omega) (by decide) dD_addPrime_60 rfl (fun h4 => ?_) (fun h4 => ?_)
          · exact k64 a ls ha hlo (hup (by omega) h2) (lv_sub hl [1, 2, 3] rfl)
          · omega
      · refine j_iconst hx hb dD_addPrime_44 ?_
        refine lv_goto hx hb dD_addPrime_45 rfl ?_
        refine lv_istore_n hx hb dD_addPrime_49 rfl hl (by decide) rfl (fun ls hl => ?_)
        have hl : lv_has ls 5 [(3, .int (ji 1)), (2, .int (ji ((a:Int)))), (0, .ref (E.2.1 (17 + f))), (1, .int (ji ((p:Int))))] := hl
        refine lv_iload_n hx hb dD_addPrime_50 rfl (lv_at hl 0 rfl) ?_
        refine j_if_ne hx hb (by omega) dD_addPrime_51 rfl (fun h3 => ?_) (fun h3 => ?_)
        · obtain ⟨q, q1, q2⟩ := hS0.2.1 a (by omega)
          have hqp : q = p := by omega
          exact mm_vret hx hb hr hk hP hS dD_addPrime_63 ⟨rfl, ⟨c, Nat.le_succ c, hc, hS0.old (by rw [← hqp]; exact q2)⟩, FrD.rf f M⟩
        · exact absurd h3 (by decide)
  have loop : ∀ (N a : Nat) (ls : Array Slot), a + N = c → (∀ i, i < a → M (21 + f) i < p) → lv_has ls 5 [(2, .int (ji ((a:Int)))), (0, .ref (E.2.1 (17 + f))), (1, .int (ji ((p:Int))))] → W p_ l e_ (rmd 0) s_ m_ a_ b_ t_ c_ s_.heap [] 0 0 (XQ b_ (mmQ E (fun r M9 => r = none ∧ (∃ c9 : Nat, c9 ≤ c + 1 ∧ M9 (17 + f) 7 = c9 ∧ SL c9 (M9 (21 + f)) (fun q => q = p ∨ S q)) ∧ FrD f M M9)) a_ s_ 0 0 (wA E)) (F0 m_ 2 ls []) := by
    intro N
    induction N with
    | zero =>
      intro a ls ha hlo hl
      refine lv_iload_n hx hb dD_addPrime_2 rfl (lv_at hl 0 rfl) ?_
      refine lv_aload_n hx hb dD_addPrime_3 rfl (lv_at hl 1 rfl) ?_
      refine m_get (C := "RationalForms$Diagonal") (T := TxD) (N := 8) hx hb hg uwD hown hK hP (by omega) (sh_D E _ (by omega)) rfl 7 (by decide) wd78 rfl dD_addPrime_4 ?_
      refine j_icmp_ge hx hb (by omega) (by rw [hc]; omega) dD_addPrime_7 rfl (fun h1 => ?_) (fun h1 => ?_)
      · exact k26 a ls (by omega) hlo (fun q => by omega) hl
      · omega
    | succ N ih =>
      intro a ls ha hlo hl
      refine lv_iload_n hx hb dD_addPrime_2 rfl (lv_at hl 0 rfl) ?_
      refine lv_aload_n hx hb dD_addPrime_3 rfl (lv_at hl 1 rfl) ?_
      refine m_get (C := "RationalForms$Diagonal") (T := TxD) (N := 8) hx hb hg uwD hown hK hP (by omega) (sh_D E _ (by omega)) rfl 7 (by decide) wd78 rfl dD_addPrime_4 ?_
      refine j_icmp_ge hx hb (by omega) (by rw [hc]; omega) dD_addPrime_7 rfl (fun h1 => ?_) (fun h1 => ?_)
      · omega
      · refine lv_aload_n hx hb dD_addPrime_10 rfl (lv_at hl 1 rfl) ?_
        refine m_get (C := "RationalForms$Diagonal") (T := TxD) (N := 8) hx hb hg uwD hown hK hP (by omega) (sh_D E _ (by omega)) rfl 1 (by decide) wd67 rfl dD_addPrime_11 ?_
        refine lv_iload_n hx hb dD_addPrime_14 rfl (lv_at hl 0 rfl) ?_
        refine m_iald (n := a) hx hb hK hP (by omega) (sh_p E _ (by omega)) rfl (by omega) (by decide) dD_addPrime_15 ?_
        refine lv_iload_n hx hb dD_addPrime_16 rfl (lv_at hl 2 rfl) ?_
        refine j_icmp_ge hx hb (by have := hS0.bd hb0 (i := a) (by omega); omega) (by omega) dD_addPrime_17 rfl (fun h2 => ?_) (fun h2 => ?_)
        · exact k26 a ls (by omega) hlo (fun q => h2) hl
        · refine lv_iinc (k := 0) (v := ji (((a:Int)) + 1)) hx hb dD_addPrime_20 hl rfl (Int32.ofInt_add _ _).symm (by decide) rfl (fun ls hl => ?_)
          have hl : lv_has ls 5 [(2, .int (ji (((a:Int)) + 1))), (0, .ref (E.2.1 (17 + f))), (1, .int (ji ((p:Int))))] := hl
          refine lv_goto hx hb dD_addPrime_23 rfl ?_
          refine ih (a + 1) ls (by omega) (fun i hi => ?_) hl
          rcases Nat.lt_or_ge i a with h3 | h3
          · exact hlo i h3
          · have : i = a := by omega
            subst this
            exact h2
  refine j_iconst hx hb dD_addPrime_0 ?_
  refine lv_istore_n hx hb dD_addPrime_1 rfl hl (by decide) rfl (fun ls hl => ?_)
  have hl : lv_has ls 5 [(2, .int (ji 0)), (0, .ref (E.2.1 (17 + f))), (1, .int (ji ((p:Int))))] := hl
  exact loop c 0 ls (by omega) (fun i hi => by omega) hl

set_option maxRecDepth 100000 in
set_option maxHeartbeats 4000000 in
theorem kD_restart (l : Launch) (E : En) (hJ : wJ E) (M : Me) (f : Nat) (hf : f < 2) (n : Int) : MM l yD_restart wsD_restart (rmd 1) E M [.ref (E.2.1 (17 + f)), .int (ji n)] (fun r M9 => r = none ∧ M9 (17 + f) 2 = n ∧ M9 (17 + f) 3 = 0 ∧ M9 (17 + f) 4 = 0 ∧ M9 (17 + f) 5 = 0 ∧ M9 (17 + f) 6 = 1 ∧ (∃ c9 : Nat, c9 ≤ 1 ∧ M9 (17 + f) 7 = c9 ∧ SL c9 (M9 (21 + f)) (fun q => q = 2)) ∧ ∀ k, k ≠ 17 + f → k ≠ 21 + f → M9 k = M k) := by
  refine MM.ofG (by decide +kernel) (Nat.le_of_ble_eq_true rfl) ?_
  intro p_ e_ s_ m_ a_ b_ t_ c_ hx hb hml hr hk hg hown hK hP hS ls hl
  have hl : lv_has ls 2 [(0, .ref (E.2.1 (17 + f))), (1, .int (ji n))] := hl
  refine lv_aload_n hx hb dD_restart_0 rfl (lv_at hl 0 rfl) ?_
  refine lv_iload_n hx hb dD_restart_1 rfl (lv_at hl 1 rfl) ?_
  refine m_put (C := "RationalForms$Diagonal") (T := TxD) (N := 8) (ty := .int) (z := n) hx hb hg uwD txD txD_ok nmD hown hK hJ hP hS (by omega) (sh_D E _ (by omega)) rfl 2 (by decide) wd68 rfl rfl rfl rfl (Nat.le_of_ble_eq_true rfl) (by rw [sh_D E _ (by omega)]; simp [mu]) dD_restart_2 (fun H locs hP hS => ?_)
  refine lv_aload_n hx hb dD_restart_5 rfl (lv_at hl 0 rfl) ?_
  refine j_iconst hx hb dD_restart_6 ?_
  refine m_put (C := "RationalForms$Diagonal") (T := TxD) (N := 8) (ty := .int) (z := 0) hx hb hg uwD txD txD_ok nmD hown hK hJ hP hS (by omega) (sh_D E _ (by omega)) rfl 3 (by decide) wd70 rfl rfl rfl rfl (Nat.le_of_ble_eq_true rfl) (by rw [sh_D E _ (by omega)]; simp [mu]) dD_restart_7 (fun H locs hP hS => ?_)
  refine lv_aload_n hx hb dD_restart_10 rfl (lv_at hl 0 rfl) ?_
  refine j_iconst hx hb dD_restart_11 ?_
  refine m_put (C := "RationalForms$Diagonal") (T := TxD) (N := 8) (ty := .int) (z := 0) hx hb hg uwD txD txD_ok nmD hown hK hJ hP hS (by omega) (sh_D E _ (by omega)) rfl 4 (by decide) wd72 rfl rfl rfl rfl (Nat.le_of_ble_eq_true rfl) (by rw [sh_D E _ (by omega)]; simp [mu]) dD_restart_12 (fun H locs hP hS => ?_)
  refine lv_aload_n hx hb dD_restart_15 rfl (lv_at hl 0 rfl) ?_
  refine j_iconst hx hb dD_restart_16 ?_
  refine m_put (C := "RationalForms$Diagonal") (T := TxD) (N := 8) (ty := .int) (z := 0) hx hb hg uwD txD txD_ok nmD hown hK hJ hP hS (by omega) (sh_D E _ (by omega)) rfl 5 (by decide) wd74 rfl rfl rfl rfl (Nat.le_of_ble_eq_true rfl) (by rw [sh_D E _ (by omega)]; simp [mu]) dD_restart_17 (fun H locs hP hS => ?_)
  refine lv_aload_n hx hb dD_restart_20 rfl (lv_at hl 0 rfl) ?_
  refine j_lconst1 hx hb dD_restart_21 ?_
  refine m_put (C := "RationalForms$Diagonal") (T := TxD) (N := 8) (ty := .long) (z := 1) hx hb hg uwD txD txD_ok nmD hown hK hJ hP hS (by omega) (sh_D E _ (by omega)) rfl 6 (by decide) wd76 rfl rfl rfl rfl (Nat.le_of_ble_eq_true rfl) (by rw [sh_D E _ (by omega)]; simp [mu]) dD_restart_22 (fun H locs hP hS => ?_)
  refine lv_aload_n hx hb dD_restart_25 rfl (lv_at hl 0 rfl) ?_
  refine j_iconst hx hb dD_restart_26 ?_
  refine m_put (C := "RationalForms$Diagonal") (T := TxD) (N := 8) (ty := .int) (z := 0) hx hb hg uwD txD txD_ok nmD hown hK hJ hP hS (by omega) (sh_D E _ (by omega)) rfl 7 (by decide) wd78 rfl rfl rfl rfl (Nat.le_of_ble_eq_true rfl) (by rw [sh_D E _ (by omega)]; simp [mu]) dD_restart_27 (fun H locs hP hS => ?_)
  obtain ⟨M1, e1⟩ : ∃ X, X = mu (mu (mu (mu (mu (mu M (17 + f) 2 n) (17 + f) 3 0) (17 + f) 4 0) (17 + f) 5 0) (17 + f) 6 1) (17 + f) 7 0 := ⟨_, rfl⟩
  rw [← e1] at hP
  have hs : ∀ k, k ≠ 17 + f → M1 k = M k := fun k hk => by rw [e1]; repeat rw [mu_k hk]
  have hv : M1 (17 + f) 2 = n ∧ M1 (17 + f) 3 = 0 ∧ M1 (17 + f) 4 = 0 ∧ M1 (17 + f) 5 = 0 ∧ M1 (17 + f) 6 = 1 ∧ M1 (17 + f) 7 = 0 := by rw [e1]; simp [mu]
  refine lv_aload_n hx hb dD_restart_30 rfl (lv_at hl 0 rfl) ?_
  refine j_iconst hx hb dD_restart_31 ?_
  refine mm_V (As := [.int (ji 2)]) (rest := []) hx hb hml hown hg hl hK hP hS (by omega) (sh_D E _ (by omega)) rfl (kD_addPrime l E hJ M1 f hf 2 (by decide) 0 hv.2.2.2.2.2 (by decide) (fun _ => False) ⟨fun i j h1 h2 => by omega, fun i h => by omega, fun q h => h.elim⟩ (fun q h => h.elim)) wd129 wd131 wds2 wd4 wd132 ⟨rfl, rfl⟩ (n := 1) (by decide +kernel) rfl ⟨by decide, by decide⟩ rfl (Nat.le_of_ble_eq_true rfl) dD_restart_32 ⟨Nat.zero_le _, Nat.zero_le _⟩ (fun v M2 H locs hq hP hS => ?_)
  obtain ⟨rfl, ⟨c9, q1, q2, q3⟩, q4, q5⟩ := hq
  exact mm_vret hx hb hr hk hP hS dD_restart_35 ⟨rfl, by rw [q5 2 (by decide)]; exact hv.1, by rw [q5 3 (by decide)]; exact hv.2.1, by rw [q5 4 (by decide)]; exact hv.2.2.1, by rw [q5 5 (by decide)]; exact hv.2.2.2.1, by rw [q5 6 (by decide)]; exact hv.2.2.2.2.1, ⟨c9, by omega, q2, q3.to (fun q => by simp)⟩, fun k h1 h2 => (q4 k h1 h2).trans (hs k h1)⟩

set_option maxRecDepth 100000 in
set_option maxHeartbeats 4000000 in
theorem kD_addTerm (l : Launch) (E : En) (hJ : wJ E) (M : Me) (f : Nat) (hf : f < 2) (t : Int) (r : Nat) (hr0 : M (17 + f) 3 = r) (hr5 : r < 5) (ht : -9223372036854775807 ≤ t ∧ t ≤ 9223372036854775807) (hd0 : M (17 + f) 6 ≠ 0) (hd1 : -9223372036854775807 ≤ M (17 + f) 6 ∧ M (17 + f) 6 ≤ 9223372036854775807) : MM l yD_addTerm wsD_addTerm (rmd 3) E M [.ref (E.2.1 (17 + f)), .long (jl t)] (fun v M9 => v = none ∧ M9 (17 + f) 3 = r + 1 ∧ M9 (19 + f) r = t ∧ (∀ i, i ≠ r → M9 (19 + f) i = M (19 + f) i) ∧ M9 (17 + f) 4 = M (17 + f) 4 + (if 0 < t then 1 else 0) ∧ M9 (17 + f) 5 = M (17 + f) 5 + (if 0 < t then 0 else 1) ∧ M9 (17 + f) 6 = pr (M (17 + f) 6) t ∧ M9 (17 + f) 2 = M (17 + f) 2 ∧ M9 (17 + f) 7 = M (17 + f) 7 ∧ ∀ k, k ≠ 17 + f → k ≠ 19 + f → M9 k = M k) := by
  refine MM.ofG (by decide +kernel) (Nat.le_of_ble_eq_true rfl) ?_
  intro p_ e_ s_ m_ a_ b_ t_ c_ hx hb hml hr hk hg hown hK hP hS ls hl
  have hl : lv_has ls 3 [(0, .ref (E.2.1 (17 + f))), (1, .long (jl t))] := hl
  refine lv_aload_n hx hb dD_addTerm_0 rfl (lv_at hl 0 rfl) ?_
  refine m_get (C := "RationalForms$Diagonal") (T := TxD) (N := 8) hx hb hg uwD hown hK hP (by omega) (sh_D E _ (by omega)) rfl 3 (by decide) wd70 rfl dD_addTerm_1 ?_
  refine j_iconst hx hb dD_addTerm_4 ?_
  refine j_icmp_lt hx hb (by rw [hr0]; omega) (by decide) dD_addTerm_5 rfl (fun h1 => ?_) (fun h1 => ?_)
  · refine lv_aload_n hx hb dD_addTerm_9 rfl (lv_at hl 0 rfl) ?_
    refine m_get (C := "RationalForms$Diagonal") (T := TxD) (N := 8) hx hb hg uwD hown hK hP (by omega) (sh_D E _ (by omega)) rfl 0 (by decide) wd66 rfl dD_addTerm_10 ?_
    refine lv_aload_n hx hb dD_addTerm_13 rfl (lv_at hl 0 rfl) ?_
    refine m_get (C := "RationalForms$Diagonal") (T := TxD) (N := 8) hx hb hg uwD hown hK hP (by omega) (sh_D E _ (by omega)) rfl 3 (by decide) wd70 rfl dD_addTerm_14 ?_
    refine lv_lload_n hx hb dD_addTerm_17 rfl (lv_at hl 1 rfl) ?_
    refine m_last (n := r) hx hb hK hJ hP hS (by omega) (fun r => sh_t E r (by omega)) (by omega) (by omega) (by decide) dD_addTerm_18 (fun H locs hP hS => ?_)
    refine lv_aload_n hx hb dD_addTerm_19 rfl (lv_at hl 0 rfl) ?_
    refine lv_dup hx hb dD_addTerm_20 rfl ?_
    refine m_get (C := "RationalForms$Diagonal") (T := TxD) (N := 8) hx hb hg uwD hown hK hP (by omega) (sh_D E _ (by omega)) rfl 3 (by decide) wd70 rfl dD_addTerm_21 ?_
    refine j_iconst hx hb dD_addTerm_24 ?_
    refine j_iadd hx hb dD_addTerm_25 ?_
    refine m_put (C := "RationalForms$Diagonal") (T := TxD) (N := 8) (ty := .int) (z := ((mu M (19 + f) r t) (17 + f) 3) + 1) hx hb hg uwD txD txD_ok nmD hown hK hJ hP hS (by omega) (sh_D E _ (by omega)) rfl 3 (by decide) wd70 rfl rfl rfl rfl (Nat.le_of_ble_eq_true rfl) (by rw [sh_D E _ (by omega)]; simp [mu]) dD_addTerm_26 (fun H locs hP hS => ?_)
    obtain ⟨M1, e1⟩ : ∃ X, X = mu (mu M (19 + f) r t) (17 + f) 3 (((mu M (19 + f) r t) (17 + f) 3) + 1) := ⟨_, rfl⟩
    rw [← e1] at hP
    have v3 : M1 (17 + f) 3 = r + 1 := by rw [e1]; simp [mu, hr0]
    have vt : M1 (19 + f) r = t := by rw [e1]; simp [mu]
    have vo : ∀ i, i ≠ r → M1 (19 + f) i = M (19 + f) i := fun i hi => by rw [e1]; simp [mu, hi]
    have vj : ∀ j, j ≠ 3 → M1 (17 + f) j = M (17 + f) j := fun j hj => by rw [e1]; simp [mu, hj]
    have vk : ∀ k, k ≠ 17 + f → k ≠ 19 + f → M1 k = M k := fun k q1 q2 => by rw [e1, mu_k q1, mu_k q2]
    refine lv_lload_n hx hb dD_addTerm_29 rfl (lv_at hl 1 rfl) ?_
    refine j_lconst0 hx hb dD_addTerm_30 ?_
    refine j_lc_le hx hb (by omega) (by omega) dD_addTerm_31 dD_addTerm_32 rfl (fun h2 => ?_) (fun h2 => ?_)
    · refine lv_aload_n hx hb dD_addTerm_48 rfl (lv_at hl 0 rfl) ?_
      refine lv_dup hx hb dD_addTerm_49 rfl ?_
      refine m_get (C := "RationalForms$Diagonal") (T := TxD) (N := 8) hx hb hg uwD hown hK hP (by omega) (sh_D E _ (by omega)) rfl 5 (by decide) wd74 rfl dD_addTerm_50 ?_
      refine j_iconst hx hb dD_addTerm_53 ?_
      refine j_iadd hx hb dD_addTerm_54 ?_
      refine m_put (C := "RationalForms$Diagonal") (T := TxD) (N := 8) (ty := .int) (z := (M1 (17 + f) 5) + 1) hx hb hg uwD txD txD_ok nmD hown hK hJ hP hS (by omega) (sh_D E _ (by omega)) rfl 5 (by decide) wd74 rfl rfl rfl rfl (Nat.le_of_ble_eq_true rfl) (by rw [sh_D E _ (by omega)]; simp [mu]) dD_addTerm_55 (fun H locs hP hS => ?_)
      refine lv_aload_n hx hb dD_addTerm_58 rfl (lv_at hl 0 rfl) ?_
      refine lv_aload_n hx hb dD_addTerm_59 rfl (lv_at hl 0 rfl) ?_
      refine m_get (C := "RationalForms$Diagonal") (T := TxD) (N := 8) hx hb hg uwD hown hK hP (by omega) (sh_D E _ (by omega)) rfl 6 (by decide) wd76 rfl dD_addTerm_60 ?_
      refine lv_lload_n hx hb dD_addTerm_63 rfl (lv_at hl 1 rfl) ?_
      have e6 : mu M1 (17 + f) 5 (M1 (17 + f) 5 + 1) (17 + f) 6 = M (17 + f) 6 := by rw [mu_j (by decide)]; exact vj 6 (by decide)
      refine pm_G (As := [.long (jl ((mu M1 (17 + f) 5 ((M1 (17 + f) 5) + 1)) (17 + f) 6)), .long (jl t)]) (rest := [.ref (E.2.1 (17 + f))]) hx hb hml hown hg hl (kW_classOfProduct l _ t (by rw [e6]; exact hd1) ht (by rw [e6]; exact hd0)) wd168 wd156 wd11 wd157 ⟨rfl, rfl⟩ (n := 2) (by decide +kernel) rfl ⟨by decide, by decide⟩ rfl (Nat.le_of_ble_eq_true rfl) dD_addTerm_64 ⟨Nat.zero_le _, Nat.zero_le _⟩ (fun r hr9 => ?_)
      subst hr9
      rw [e6]
      refine m_put (C := "RationalForms$Diagonal") (T := TxD) (N := 8) (ty := .long) (z := pr (M (17 + f) 6) t) hx hb hg uwD txD txD_ok nmD hown hK hJ hP hS (by omega) (sh_D E _ (by omega)) rfl 6 (by decide) wd76 rfl rfl rfl rfl (Nat.le_of_ble_eq_true rfl) (by rw [sh_D E _ (by omega)]; simp [mu]) dD_addTerm_67 (fun H locs hP hS => ?_)
      exact mm_vret hx hb hr hk hP hS dD_addTerm_70 ⟨rfl, by rw [mu_j (by decide), mu_j (by decide)]; exact v3, by rw [mu_k (by omega), mu_k (by omega)]; exact vt, fun i hi => by rw [mu_k (by omega), mu_k (by omega)]; exact vo i hi, by rw [mu_j (by decide), mu_j (by decide), vj 4 (by decide), if_neg (by omega)]; omega, by rw [mu_j (by decide), mu_s, vj 5 (by decide), if_neg (by omega)], mu_s _ _ _ _, by rw [mu_j (by decide), mu_j (by decide)]; exact vj 2 (by decide), by rw [mu_j (by decide), mu_j (by decide)]; exact vj 7 (by decide), fun k q1 q2 => by rw [mu_k q1, mu_k q1]; exact vk k q1 q2⟩
    · refine lv_aload_n hx hb dD_addTerm_35 rfl (lv_at hl 0 rfl) ?_
      refine lv_dup hx hb dD_addTerm_36 rfl ?_
      refine m_get (C := "RationalForms$Diagonal") (T := TxD) (N := 8) hx hb hg uwD hown hK hP (by omega) (sh_D E _ (by omega)) rfl 4 (by decide) wd72 rfl dD_addTerm_37 ?_
      refine j_iconst hx hb dD_addTerm_40 ?_
      refine j_iadd hx hb dD_addTerm_41 ?_
      refine m_put (C := "RationalForms$Diagonal") (T := TxD) (N := 8) (ty := .int) (z := (M1 (17 + f) 4) + 1) hx hb hg uwD txD txD_ok nmD hown hK hJ hP hS (by omega) (sh_D E _ (by omega)) rfl 4 (by decide) wd72 rfl rfl rfl rfl (Nat.le_of_ble_eq_true rfl) (by rw [sh_D E _ (by omega)]; simp [mu]) dD_addTerm_42 (fun H locs hP hS => ?_)
      refine lv_goto hx hb dD_addTerm_45 rfl ?_
      refine lv_aload_n hx hb dD_addTerm_58 rfl (lv_at hl 0 rfl) ?_
      refine lv_aload_n hx hb dD_addTerm_59 rfl (lv_at hl 0 rfl) ?_
      refine m_get (C := "RationalForms$Diagonal") (T := TxD) (N := 8) hx hb hg uwD hown hK hP (by omega) (sh_D E _ (by omega)) rfl 6 (by decide) wd76 rfl dD_addTerm_60 ?_
      refine lv_lload_n hx hb dD_addTerm_63 rfl (lv_at hl 1 rfl) ?_
      have e6 : mu M1 (17 + f) 4 (M1 (17 + f) 4 + 1) (17 + f) 6 = M (17 + f) 6 := by rw [mu_j (by decide)]; exact vj 6 (by decide)
      refine pm_G (As := [.long (jl ((mu M1 (17 + f) 4 ((M1 (17 + f) 4) + 1)) (17 + f) 6)), .long (jl t)]) (rest := [.ref (E.2.1 (17 + f))]) hx hb hml hown hg hl (kW_classOfProduct l _ t (by rw [e6]; exact hd1) ht (by rw [e6]; exact hd0)) wd168 wd156 wd11 wd157 ⟨rfl, rfl⟩ (n := 2) (by decide +kernel) rfl ⟨by decide, by decide⟩ rfl (Nat.le_of_ble_eq_true rfl) dD_addTerm_64 ⟨Nat.zero_le _, Nat.zero_le _⟩ (fun r hr9 => ?_)
      subst hr9
      rw [e6]
      refine m_put (C := "RationalForms$Diagonal") (T := TxD) (N := 8) (ty := .long) (z := pr (M (17 + f) 6) t) hx hb hg uwD txD txD_ok nmD hown hK hJ hP hS (by omega) (sh_D E _ (by omega)) rfl 6 (by decide) wd76 rfl rfl rfl rfl (Nat.le_of_ble_eq_true rfl) (by rw [sh_D E _ (by omega)]; simp [mu]) dD_addTerm_67 (fun H locs hP hS => ?_)
      exact mm_vret hx hb hr hk hP hS dD_addTerm_70 ⟨rfl, by rw [mu_j (by decide), mu_j (by decide)]; exact v3, by rw [mu_k (by omega), mu_k (by omega)]; exact vt, fun i hi => by rw [mu_k (by omega), mu_k (by omega)]; exact vo i hi, by rw [mu_j (by decide), mu_s, vj 4 (by decide), if_pos h2], by rw [mu_j (by decide), mu_j (by decide), vj 5 (by decide), if_pos h2]; omega, mu_s _ _ _ _, by rw [mu_j (by decide), mu_j (by decide)]; exact vj 2 (by decide), by rw [mu_j (by decide), mu_j (by decide)]; exact vj 7 (by decide), fun k q1 q2 => by rw [mu_k q1, mu_k q1]; exact vk k q1 q2⟩
  · omega

set_option maxRecDepth 100000 in
set_option maxHeartbeats 4000000 in
theorem kD_addPrimesOf (l : Launch) (E : En) (hJ : wJ E) (M : Me) (f : Nat) (hf : f < 2) (a : Int) (h0 : a ≠ 0) (ha : a.natAbs ≤ 2147483647) (c j : Nat) (hc : M (17 + f) 7 = c) (hcj : c + j ≤ 32) (S0 : Nat → Prop) (hS0 : SL c (M (21 + f)) S0) (hb0 : ∀ q, S0 q → q ≤ 2147483647) (hj : a.natAbs < fac (j + 2)) : MM l yD_addPrimesOf wsD_addPrimesOf (rmd 1) E M [.ref (E.2.1 (17 + f)), .long (jl a)] (fun v M9 => v = none ∧ (∃ c9 : Nat, c9 ≤ c + j ∧ M9 (17 + f) 7 = c9 ∧ SL c9 (M9 (21 + f)) (fun q => S0 q ∨ (prm q ∧ q ∣ a.natAbs))) ∧ FrD f M M9) := by
  refine MM.ofG (by decide +kernel) (Nat.le_of_ble_eq_true rfl) ?_
  intro p_ e_ s_ m_ a_ b_ t_ c_ hx hb hml hr hk hg hown hK hP hS ls hl
  have hl : lv_has ls 7 [(0, .ref (E.2.1 (17 + f))), (1, .long (jl a))] := hl
  have loop : ∀ (N : Nat) (d r t c1 : Nat) (S : Nat → Prop) (M1 : Me) (H : Heap) (locs : List Loc) (ls : Array Slot), 46342 - d < N → d ≤ 46341 → 2 ≤ d → r ≤ 2147483647 → pf a.natAbs S S0 r d → t + 2 ≤ d → fac (t + 1) * r ≤ a.natAbs → c1 ≤ c + t → t ≤ j → M1 (17 + f) 7 = c1 → SL c1 (M1 (21 + f)) S → FrD f M M1 → wP E M1 H → va_S (wA E) s_.heap H locs → lv_has ls 7 [(5, .long (jl ((d:Int)))), (3, .long (jl ((r:Int)))), (0, .ref (E.2.1 (17 + f))), (1, .long (jl a))] → W p_ l e_ (rmd 1) s_ m_ a_ b_ t_ c_ H locs 0 0 (XQ b_ (mmQ E (fun v M9 => v = none ∧ (∃ c9 : Nat, c9 ≤ c + j ∧ M9 (17 + f) 7 = c9 ∧ SL c9 (M9 (21 + f)) (fun q => S0 q ∨ (prm q ∧ q ∣ a.natAbs))) ∧ FrD f M M9)) a_ s_ 0 0 (wA E)) (F0 m_ 10 ls []) := by
    intro N
    induction N with
    | zero => intro d r t c1 S M1 H locs ls hm; omega
    | succ N ih =>
      intro d r t c1 S M1 H locs ls hm hd hd2 hr0 hpf ht hfac hc1 htj hM hSL hFr hP hS hl
      have hdd : ((d * d : Nat) : Int) = (d : Int) * (d : Int) := Int.natCast_mul d d
      have hbS : ∀ q, S q → q ≤ 2147483647 := fun q hq => by
        rcases (hpf.2.2.2 q).mp hq with g | ⟨-, g, -⟩
        · exact hb0 q g
        · have := Nat.le_of_dvd (by omega) g
          omega
      have hnext : (∃ t2, t2 + 1 ≤ r ∧ t2 = t + 1) → c1 < 32 := fun ⟨t2, g1, g2⟩ => by
        have h1 : fac (t + 2) ≤ a.natAbs := by
          calc fac (t + 2) = fac (t + 1) * (t + 2) := by show (t + 1 + 1) * fac (t + 1) = _; rw [Nat.mul_comm]
            _ ≤ fac (t + 1) * r := Nat.mul_le_mul_left _ (by omega)
            _ ≤ a.natAbs := hfac
        have h2 := fac_lt (Nat.lt_of_le_of_lt h1 hj)
        omega
      have htj2 : t + 2 ≤ r → t + 1 ≤ j := fun g => by
        have h1 : fac (t + 2) ≤ a.natAbs := by
          calc fac (t + 2) = fac (t + 1) * (t + 2) := by show (t + 1 + 1) * fac (t + 1) = _; rw [Nat.mul_comm]
            _ ≤ fac (t + 1) * r := Nat.mul_le_mul_left _ (by omega)
            _ ≤ a.natAbs := hfac
        have h2 := fac_lt (Nat.lt_of_le_of_lt h1 hj)
        omega
      refine lv_lload hx hb dD_addPrimesOf_10 (lv_at hl 0 rfl) ?_
      refine lv_lload hx hb dD_addPrimesOf_12 (lv_at hl 0 rfl) ?_
      refine j_lmul hx hb dD_addPrimesOf_14 ?_
      refine lv_lload_n hx hb dD_addPrimesOf_15 rfl (lv_at hl 1 rfl) ?_
      refine j_lc_gt hx hb (sq_b64 (by omega) (by omega)) (by omega) dD_addPrimesOf_16 dD_addPrimesOf_17 rfl (fun h1 => ?_) (fun h1 => ?_)
      · have hend := pf_end hpf (by omega)
        refine lv_lload_n hx hb dD_addPrimesOf_52 rfl (lv_at hl 1 rfl) ?_
        refine j_lconst1 hx hb dD_addPrimesOf_53 ?_
        refine j_lc_le hx hb (by omega) (by omega) dD_addPrimesOf_54 dD_addPrimesOf_55 rfl (fun h2 => ?_) (fun h2 => ?_)
        · have hr1 : r = 1 := by have := hpf.1; omega
          exact mm_vret hx hb hr hk hP hS dD_addPrimesOf_64 ⟨rfl, ⟨c1, by omega, hM, hSL.to (hend.1 hr1)⟩, hFr⟩
        · obtain ⟨g1, g2⟩ := hend.2 (by omega)
          have hrd : d ≤ r := by
            rcases Nat.lt_or_ge r d with g3 | g3
            · exact absurd (Nat.dvd_refl r) (hpf.2.2.1 r (by omega) g3)
            · exact g3
          refine lv_aload_n hx hb dD_addPrimesOf_58 rfl (lv_at hl 2 rfl) ?_
          refine lv_lload_n hx hb dD_addPrimesOf_59 rfl (lv_at hl 1 rfl) ?_
          refine j_l2i hx hb dD_addPrimesOf_60 ?_
          refine mm_V (As := [.int (ji ((r:Int)))]) (rest := []) hx hb hml hown hg hl hK hP hS (by omega) (sh_D E _ (by omega)) rfl (kD_addPrime l E hJ M1 f hf r (by omega) c1 hM (hnext ⟨t + 1, by omega, rfl⟩) S hSL hbS) wd129 wd131 wds2 wd4 wd132 ⟨rfl, rfl⟩ (n := 1) (by decide +kernel) rfl ⟨by decide, by decide⟩ rfl (Nat.le_of_ble_eq_true rfl) dD_addPrimesOf_61 ⟨Nat.zero_le _, Nat.zero_le _⟩ (fun v M2 H locs hq hP hS => ?_)
          obtain ⟨rfl, ⟨c9, q1, q2, q3⟩, q4⟩ := hq
          have := htj2 (by omega)
          exact mm_vret hx hb hr hk hP hS dD_addPrimesOf_64 ⟨rfl, ⟨c9, by omega, q2, q3.to g2⟩, hFr.tr q4⟩
      · have hsq := Nat.mul_le_mul hd2 (Nat.le_refl d)
        have hdm : d + 1 ≤ 46341 := by
          rcases Nat.lt_or_ge d 46341 with g | g
          · omega
          · have : 46341 * 46341 ≤ d * d := Nat.mul_le_mul g g
            omega
        refine lv_lload_n hx hb dD_addPrimesOf_20 rfl (lv_at hl 1 rfl) ?_
        refine lv_lload hx hb dD_addPrimesOf_21 (lv_at hl 0 rfl) ?_
        refine j_lrem hx hb (by omega) (by omega) (by omega) dD_addPrimesOf_23 ?_
        refine j_lconst0 hx hb dD_addPrimesOf_24 ?_
        refine j_lc_ne hx hb (tm_b64 (by omega)) (by decide) dD_addPrimesOf_25 dD_addPrimesOf_26 rfl (fun h2 => ?_) (fun h2 => ?_)
        · have hn : ¬ d ∣ r := fun q => h2 (by rw [tm_nat]; exact_mod_cast Nat.mod_eq_zero_of_dvd q)
          refine lv_lload hx hb dD_addPrimesOf_43 (lv_at hl 0 rfl) ?_
          refine j_lconst1 hx hb dD_addPrimesOf_45 ?_
          refine j_ladd hx hb dD_addPrimesOf_46 ?_
          refine lv_lstore hx hb dD_addPrimesOf_47 hl (by decide) rfl (fun ls hl => ?_)
          have hl : lv_has ls 7 [(5, .long (jl (((d:Int)) + 1))), (3, .long (jl ((r:Int)))), (0, .ref (E.2.1 (17 + f))), (1, .long (jl a))] := hl
          refine lv_goto hx hb dD_addPrimesOf_49 rfl ?_
          exact ih (d + 1) r t c1 S M1 H locs ls (by omega) hdm (by omega) hr0 (pf_skip hpf hn) (by omega) hfac hc1 htj hM hSL hFr hP hS hl
        · have hn : d ∣ r := Nat.dvd_of_mod_eq_zero (by rw [tm_nat] at h2; omega)
          have := htj2 (by omega)
          refine lv_aload_n hx hb dD_addPrimesOf_29 rfl (lv_at hl 2 rfl) ?_
          refine lv_lload hx hb dD_addPrimesOf_30 (lv_at hl 0 rfl) ?_
          refine j_l2i hx hb dD_addPrimesOf_32 ?_
          refine mm_V (As := [.int (ji ((d:Int)))]) (rest := []) hx hb hml hown hg hl hK hP hS (by omega) (sh_D E _ (by omega)) rfl (kD_addPrime l E hJ M1 f hf d (by omega) c1 hM (hnext ⟨t + 1, by omega, rfl⟩) S hSL hbS) wd129 wd131 wds2 wd4 wd132 ⟨rfl, rfl⟩ (n := 1) (by decide +kernel) rfl ⟨by decide, by decide⟩ rfl (Nat.le_of_ble_eq_true rfl) dD_addPrimesOf_33 ⟨Nat.zero_le _, Nat.zero_le _⟩ (fun v M2 H locs hq hP hS => ?_)
          obtain ⟨rfl, ⟨c9, q1, q2, q3⟩, q4⟩ := hq
          obtain ⟨r9, k9, w1, w2, w3, w4, w5⟩ := wo_nat (by omega) hpf.1 (by omega) hn
          refine lv_lload_n hx hb dD_addPrimesOf_36 rfl (lv_at hl 1 rfl) ?_
          refine lv_lload hx hb dD_addPrimesOf_37 (lv_at hl 0 rfl) ?_
          refine pm_G (As := [.long (jl ((r:Int))), .long (jl ((d:Int)))]) (rest := []) hx hb hml hown hg hl (kW_withoutFactor l r d (by omega) (by omega) (by omega)) wd175 wd153 wd11 wd154 ⟨rfl, rfl⟩ (n := 2) (by decide +kernel) rfl ⟨by decide, by decide⟩ rfl (Nat.le_of_ble_eq_true rfl) dD_addPrimesOf_39 ⟨Nat.zero_le _, Nat.zero_le _⟩ (fun r hr9 => ?_)
          subst hr9
          refine lv_lstore_n hx hb dD_addPrimesOf_42 rfl hl (by decide) rfl (fun ls hl => ?_)
          have hl : lv_has ls 7 [(3, .long (jl (wo 64 r d))), (5, .long (jl ((d:Int)))), (0, .ref (E.2.1 (17 + f))), (1, .long (jl a))] := hl
          refine lv_lload hx hb dD_addPrimesOf_43 (lv_at hl 1 rfl) ?_
          refine j_lconst1 hx hb dD_addPrimesOf_45 ?_
          refine j_ladd hx hb dD_addPrimesOf_46 ?_
          refine lv_lstore hx hb dD_addPrimesOf_47 hl (by decide) rfl (fun ls hl => ?_)
          have hl : lv_has ls 7 [(5, .long (jl (((d:Int)) + 1))), (3, .long (jl (wo 64 r d))), (0, .ref (E.2.1 (17 + f))), (1, .long (jl a))] := hl
          refine lv_goto hx hb dD_addPrimesOf_49 rfl ?_
          rw [w1] at hl
          exact ih (d + 1) r9 (t + 1) c9 (fun q => q = d ∨ S q) M2 H locs ls (by omega) hdm (by omega) (by omega) (pf_take hpf hd2 hn w2 w3) (by omega) (fac_take hfac w2 (by omega) w4 hpf.1) (by omega) (by omega) q2 q3 (hFr.tr q4) hP hS (lv_sub hl [0, 1, 2, 3] rfl)
  refine lv_lload_n hx hb dD_addPrimesOf_0 rfl (lv_at hl 1 rfl) ?_
  refine j_labs hx hb (hml.trans hl.1.symm) hown hg wd173 wd_abs (by omega) (by decide) (Nat.le_of_ble_eq_true rfl) (Nat.zero_le _) (Nat.zero_le _) dD_addPrimesOf_1 ?_
  refine lv_lstore_n hx hb dD_addPrimesOf_4 rfl hl (by decide) rfl (fun ls hl => ?_)
  have hl : lv_has ls 7 [(3, .long (jl ((a.natAbs : Int)))), (0, .ref (E.2.1 (17 + f))), (1, .long (jl a))] := hl
  refine j_ldc2 (z := 2) hx hb hown hg wd174 rfl dD_addPrimesOf_5 ?_
  refine lv_lstore hx hb dD_addPrimesOf_8 hl (by decide) rfl (fun ls hl => ?_)
  have hl : lv_has ls 7 [(5, .long (jl 2)), (3, .long (jl ((a.natAbs : Int)))), (0, .ref (E.2.1 (17 + f))), (1, .long (jl a))] := hl
  exact loop 46342 2 a.natAbs 0 c S0 M s_.heap [] ls (by omega) (by omega) (by omega) (by omega) (pf_0 (by omega) S0) (by omega) (by show 1 * 1 * a.natAbs ≤ a.natAbs; omega) (by omega) (by omega) hc hS0 (FrD.rf f M) hP hS hl

set_option maxRecDepth 100000 in
set_option maxHeartbeats 4000000 in
theorem kD_extendBy (l : Launch) (E : En) (hJ : wJ E) (M : Me) (f : Nat) (hf : f < 2) (v9 : Int) (h0 : v9 ≠ 0) (hv : -1000 ≤ v9 ∧ v9 ≤ 1000) (r : Nat) (hr0 : M (17 + f) 3 = r) (hr5 : r < 5) (hd0 : M (17 + f) 6 ≠ 0) (hd1 : -9223372036854775807 ≤ M (17 + f) 6 ∧ M (17 + f) 6 ≤ 9223372036854775807) (hsf : -9223372036854775807 ≤ sf v9 ∧ sf v9 ≤ 9223372036854775807) (c : Nat) (hc : M (17 + f) 7 = c) (hcj : c + 5 ≤ 32) (S0 : Nat → Prop) (hS0 : SL c (M (21 + f)) S0) (hb0 : ∀ q, S0 q → q ≤ 2147483647) : MM l yD_extendBy wsD_extendBy (rmd 4) E M [.ref (E.2.1 (17 + f)), .int (ji v9)] (fun v M9 => v = none ∧ M9 (17 + f) 3 = r + 1 ∧ M9 (17 + f) 2 = r + 1 ∧ M9 (19 + f) r = sf v9 ∧ (∀ i, i ≠ r → M9 (19 + f) i = M (19 + f) i) ∧ M9 (17 + f) 4 = M (17 + f) 4 + (if 0 < sf v9 then 1 else 0) ∧ M9 (17 + f) 5 = M (17 + f) 5 + (if 0 < sf v9 then 0 else 1) ∧ M9 (17 + f) 6 = pr (M (17 + f) 6) (sf v9) ∧ (∃ c9 : Nat, c9 ≤ c + 5 ∧ M9 (17 + f) 7 = c9 ∧ SL c9 (M9 (21 + f)) (fun q => S0 q ∨ (prm q ∧ q ∣ v9.natAbs))) ∧ ∀ k, k ≠ 17 + f → k ≠ 19 + f → k ≠ 21 + f → M9 k = M k) := by
  refine MM.ofG (by decide +kernel) (Nat.le_of_ble_eq_true rfl) ?_
  intro p_ e_ s_ m_ a_ b_ t_ c_ hx hb hml hr hk hg hown hK hP hS ls hl
  have hl : lv_has ls 2 [(0, .ref (E.2.1 (17 + f))), (1, .int (ji v9))] := hl
  refine lv_aload_n hx hb dD_extendBy_0 rfl (lv_at hl 0 rfl) ?_
  refine lv_iload_n hx hb dD_extendBy_1 rfl (lv_at hl 1 rfl) ?_
  refine j_i2l hx hb (by omega) dD_extendBy_2 ?_
  refine pm_G (As := [.long (jl v9)]) (rest := [.ref (E.2.1 (17 + f))]) hx hb hml hown hg hl (kW_classOf l v9 (by omega) h0) wd427 wd146 wd11 wd147 ⟨rfl, rfl⟩ (n := 1) (by decide +kernel) rfl ⟨by decide, by decide⟩ rfl (Nat.le_of_ble_eq_true rfl) dD_extendBy_3 ⟨Nat.zero_le _, Nat.zero_le _⟩ (fun r hr9 => ?_)
  subst hr9
  refine mm_V (As := [.long (jl (sf v9))]) (rest := []) hx hb hml hown hg hl hK hP hS (by omega) (sh_D E _ (by omega)) rfl (kD_addTerm l E hJ M f hf (sf v9) r hr0 hr5 hsf hd0 hd1) wd428 wd165 wd166 wd4 wd167 ⟨rfl, rfl⟩ (n := 1) (by decide +kernel) rfl ⟨by decide, by decide⟩ rfl (Nat.le_of_ble_eq_true rfl) dD_extendBy_6 ⟨Nat.zero_le _, Nat.zero_le _⟩ (fun v M1 H locs hq hP hS => ?_)
  obtain ⟨rfl, a1, a2, a3, a4, a5, a6, a7, a8, a9⟩ := hq
  have hf120 : v9.natAbs < fac (5 + 2) := by show v9.natAbs < 5040; omega
  refine lv_aload_n hx hb dD_extendBy_9 rfl (lv_at hl 0 rfl) ?_
  refine lv_iload_n hx hb dD_extendBy_10 rfl (lv_at hl 1 rfl) ?_
  refine j_i2l hx hb (by omega) dD_extendBy_11 ?_
  refine mm_V (As := [.long (jl v9)]) (rest := []) hx hb hml hown hg hl hK hP hS (by omega) (sh_D E _ (by omega)) rfl (kD_addPrimesOf l E hJ M1 f hf v9 h0 (by omega) c 5 (by rw [a8]; exact hc) hcj S0 (by rw [a9 (21 + f) (by omega) (by omega)]; exact hS0) hb0 hf120) wd429 wd170 wd171 wd4 wd172 ⟨rfl, rfl⟩ (n := 1) (by decide +kernel) rfl ⟨by decide, by decide⟩ rfl (Nat.le_of_ble_eq_true rfl) dD_extendBy_12 ⟨Nat.zero_le _, Nat.zero_le _⟩ (fun v M2 H locs hq hP hS => ?_)
  obtain ⟨rfl, ⟨c9, q1, q2, q3⟩, q4, q5⟩ := hq
  have e3 : M2 (17 + f) 3 = r + 1 := by rw [q5 3 (by decide)]; exact a1
  refine lv_aload_n hx hb dD_extendBy_15 rfl (lv_at hl 0 rfl) ?_
  refine lv_aload_n hx hb dD_extendBy_16 rfl (lv_at hl 0 rfl) ?_
  refine m_get (C := "RationalForms$Diagonal") (T := TxD) (N := 8) hx hb hg uwD hown hK hP (by omega) (sh_D E _ (by omega)) rfl 3 (by decide) wd70 rfl dD_extendBy_17 ?_
  refine m_put (C := "RationalForms$Diagonal") (T := TxD) (N := 8) (ty := .int) (z := M2 (17 + f) 3) hx hb hg uwD txD txD_ok nmD hown hK hJ hP hS (by omega) (sh_D E _ (by omega)) rfl 2 (by decide) wd68 rfl rfl rfl rfl (Nat.le_of_ble_eq_true rfl) (by rw [sh_D E _ (by omega)]; simp [mu]) dD_extendBy_20 (fun H locs hP hS => ?_)
  exact mm_vret hx hb hr hk hP hS dD_extendBy_23 ⟨rfl, by rw [mu_j (by decide)]; exact e3, by rw [mu_s]; exact e3, by rw [mu_k (by omega), q4 (19 + f) (by omega) (by omega)]; exact a2, fun i hi => by rw [mu_k (by omega), q4 (19 + f) (by omega) (by omega)]; exact a3 i hi, by rw [mu_j (by decide), q5 4 (by decide)]; exact a4, by rw [mu_j (by decide), q5 5 (by decide)]; exact a5, by rw [mu_j (by decide), q5 6 (by decide)]; exact a6, ⟨c9, q1, by rw [mu_j (by decide)]; exact q2, by rw [mu_k (by omega)]; exact q3⟩, fun k k1 k2 k3 => by rw [mu_k k1, q4 k k1 k3]; exact a9 k k1 k2⟩
