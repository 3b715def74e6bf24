/-! Reduction (the class): names, contracts -/
abbrev cR_copyNumbers : ByteArray := prog_5_method_3_code
abbrev yR_copyNumbers : MethodName := ⟨"RationalForms$Reduction", "copyNumbers", "(LRationalForms$Form;)V"⟩
abbrev wsR_copyNumbers : List Cond := .code yR_copyNumbers cR_copyNumbers 4 none :: GG
theorem dR_copyNumbers_0 : decode cR_copyNumbers 0 = .ok (.aload_n 0, 1) := by decide +kernel
theorem dR_copyNumbers_1 : decode cR_copyNumbers 1 = .ok (.aload_n 1, 1) := by decide +kernel
theorem dR_copyNumbers_2 : decode cR_copyNumbers 2 = .ok (.getfield 55, 3) := by decide +kernel
theorem dR_copyNumbers_5 : decode cR_copyNumbers 5 = .ok (.putfield 16, 3) := by decide +kernel
theorem dR_copyNumbers_8 : decode cR_copyNumbers 8 = .ok (.iconst 0, 1) := by decide +kernel
theorem dR_copyNumbers_9 : decode cR_copyNumbers 9 = .ok (.istore_n 2, 1) := by decide +kernel
theorem dR_copyNumbers_10 : decode cR_copyNumbers 10 = .ok (.iload_n 2, 1) := by decide +kernel
theorem dR_copyNumbers_11 : decode cR_copyNumbers 11 = .ok (.aload_n 0, 1) := by decide +kernel
theorem dR_copyNumbers_12 : decode cR_copyNumbers 12 = .ok (.getfield 16, 3) := by decide +kernel
theorem dR_copyNumbers_15 : decode cR_copyNumbers 15 = .ok (.if_icmp .ge 42, 3) := by decide +kernel
theorem dR_copyNumbers_18 : decode cR_copyNumbers 18 = .ok (.iconst 0, 1) := by decide +kernel
theorem dR_copyNumbers_19 : decode cR_copyNumbers 19 = .ok (.istore_n 3, 1) := by decide +kernel
theorem dR_copyNumbers_20 : decode cR_copyNumbers 20 = .ok (.iload_n 3, 1) := by decide +kernel
theorem dR_copyNumbers_21 : decode cR_copyNumbers 21 = .ok (.aload_n 0, 1) := by decide +kernel
theorem dR_copyNumbers_22 : decode cR_copyNumbers 22 = .ok (.getfield 16, 3) := by decide +kernel
theorem dR_copyNumbers_25 : decode cR_copyNumbers 25 = .ok (.if_icmp .ge 26, 3) := by decide +kernel
theorem dR_copyNumbers_28 : decode cR_copyNumbers 28 = .ok (.aload_n 0, 1) := by decide +kernel
theorem dR_copyNumbers_29 : decode cR_copyNumbers 29 = .ok (.getfield 11, 3) := by decide +kernel
theorem dR_copyNumbers_32 : decode cR_copyNumbers 32 = .ok (.iload_n 2, 1) := by decide +kernel
theorem dR_copyNumbers_33 : decode cR_copyNumbers 33 = .ok (.aaload, 1) := by decide +kernel
theorem dR_copyNumbers_34 : decode cR_copyNumbers 34 = .ok (.iload_n 3, 1) := by decide +kernel
theorem dR_copyNumbers_35 : decode cR_copyNumbers 35 = .ok (.aload_n 1, 1) := by decide +kernel
theorem dR_copyNumbers_36 : decode cR_copyNumbers 36 = .ok (.getfield 60, 3) := by decide +kernel
theorem dR_copyNumbers_39 : decode cR_copyNumbers 39 = .ok (.iload_n 2, 1) := by decide +kernel
theorem dR_copyNumbers_40 : decode cR_copyNumbers 40 = .ok (.aaload, 1) := by decide +kernel
theorem dR_copyNumbers_41 : decode cR_copyNumbers 41 = .ok (.iload_n 3, 1) := by decide +kernel
theorem dR_copyNumbers_42 : decode cR_copyNumbers 42 = .ok (.iaload, 1) := by decide +kernel
theorem dR_copyNumbers_43 : decode cR_copyNumbers 43 = .ok (.i2l, 1) := by decide +kernel
theorem dR_copyNumbers_44 : decode cR_copyNumbers 44 = .ok (.lastore, 1) := by decide +kernel
theorem dR_copyNumbers_45 : decode cR_copyNumbers 45 = .ok (.iinc 3 1, 3) := by decide +kernel
theorem dR_copyNumbers_48 : decode cR_copyNumbers 48 = .ok (.goto (-28), 3) := by decide +kernel
theorem dR_copyNumbers_51 : decode cR_copyNumbers 51 = .ok (.iinc 2 1, 3) := by decide +kernel
theorem dR_copyNumbers_54 : decode cR_copyNumbers 54 = .ok (.goto (-44), 3) := by decide +kernel
theorem dR_copyNumbers_57 : decode cR_copyNumbers 57 = .ok (.return_, 1) := by decide +kernel
abbrev cR_swapVariables : ByteArray := prog_5_method_5_code
abbrev yR_swapVariables : MethodName := ⟨"RationalForms$Reduction", "swapVariables", "(II)V"⟩
abbrev wsR_swapVariables : List Cond := .code yR_swapVariables cR_swapVariables 6 none :: GG
theorem dR_swapVariables_0 : decode cR_swapVariables 0 = .ok (.iconst 0, 1) := by decide +kernel
theorem dR_swapVariables_1 : decode cR_swapVariables 1 = .ok (.istore_n 3, 1) := by decide +kernel
theorem dR_swapVariables_2 : decode cR_swapVariables 2 = .ok (.iload_n 3, 1) := by decide +kernel
theorem dR_swapVariables_3 : decode cR_swapVariables 3 = .ok (.aload_n 0, 1) := by decide +kernel
theorem dR_swapVariables_4 : decode cR_swapVariables 4 = .ok (.getfield 16, 3) := by decide +kernel
theorem dR_swapVariables_7 : decode cR_swapVariables 7 = .ok (.if_icmp .ge 45, 3) := by decide +kernel
theorem dR_swapVariables_10 : decode cR_swapVariables 10 = .ok (.aload_n 0, 1) := by decide +kernel
theorem dR_swapVariables_11 : decode cR_swapVariables 11 = .ok (.getfield 11, 3) := by decide +kernel
theorem dR_swapVariables_14 : decode cR_swapVariables 14 = .ok (.iload_n 1, 1) := by decide +kernel
theorem dR_swapVariables_15 : decode cR_swapVariables 15 = .ok (.aaload, 1) := by decide +kernel
theorem dR_swapVariables_16 : decode cR_swapVariables 16 = .ok (.iload_n 3, 1) := by decide +kernel
theorem dR_swapVariables_17 : decode cR_swapVariables 17 = .ok (.laload, 1) := by decide +kernel
theorem dR_swapVariables_18 : decode cR_swapVariables 18 = .ok (.lstore 4, 2) := by decide +kernel
theorem dR_swapVariables_20 : decode cR_swapVariables 20 = .ok (.aload_n 0, 1) := by decide +kernel
theorem dR_swapVariables_21 : decode cR_swapVariables 21 = .ok (.getfield 11, 3) := by decide +kernel
theorem dR_swapVariables_24 : decode cR_swapVariables 24 = .ok (.iload_n 1, 1) := by decide +kernel
theorem dR_swapVariables_25 : decode cR_swapVariables 25 = .ok (.aaload, 1) := by decide +kernel
theorem dR_swapVariables_26 : decode cR_swapVariables 26 = .ok (.iload_n 3, 1) := by decide +kernel
theorem dR_swapVariables_27 : decode cR_swapVariables 27 = .ok (.aload_n 0, 1) := by decide +kernel
theorem dR_swapVariables_28 : decode cR_swapVariables 28 = .ok (.getfield 11, 3) := by decide +kernel
theorem dR_swapVariables_31 : decode cR_swapVariables 31 = .ok (.iload_n 2, 1) := by decide +kernel
theorem dR_swapVariables_32 : decode cR_swapVariables 32 = .ok (.aaload, 1) := by decide +kernel
theorem dR_swapVariables_33 : decode cR_swapVariables 33 = .ok (.iload_n 3, 1) := by decide +kernel
theorem dR_swapVariables_34 : decode cR_swapVariables 34 = .ok (.laload, 1) := by decide +kernel
theorem dR_swapVariables_35 : decode cR_swapVariables 35 = .ok (.lastore, 1) := by decide +kernel
theorem dR_swapVariables_36 : decode cR_swapVariables 36 = .ok (.aload_n 0, 1) := by decide +kernel
theorem dR_swapVariables_37 : decode cR_swapVariables 37 = .ok (.getfield 11, 3) := by decide +kernel
theorem dR_swapVariables_40 : decode cR_swapVariables 40 = .ok (.iload_n 2, 1) := by decide +kernel
theorem dR_swapVariables_41 : decode cR_swapVariables 41 = .ok (.aaload, 1) := by decide +kernel
theorem dR_swapVariables_42 : decode cR_swapVariables 42 = .ok (.iload_n 3, 1) := by decide +kernel
theorem dR_swapVariables_43 : decode cR_swapVariables 43 = .ok (.lload 4, 2) := by decide +kernel
theorem dR_swapVariables_45 : decode cR_swapVariables 45 = .ok (.lastore, 1) := by decide +kernel
theorem dR_swapVariables_46 : decode cR_swapVariables 46 = .ok (.iinc 3 1, 3) := by decide +kernel
theorem dR_swapVariables_49 : decode cR_swapVariables 49 = .ok (.goto (-47), 3) := by decide +kernel
theorem dR_swapVariables_52 : decode cR_swapVariables 52 = .ok (.iconst 0, 1) := by decide +kernel
theorem dR_swapVariables_53 : decode cR_swapVariables 53 = .ok (.istore_n 3, 1) := by decide +kernel
theorem dR_swapVariables_54 : decode cR_swapVariables 54 = .ok (.iload_n 3, 1) := by decide +kernel
theorem dR_swapVariables_55 : decode cR_swapVariables 55 = .ok (.aload_n 0, 1) := by decide +kernel
theorem dR_swapVariables_56 : decode cR_swapVariables 56 = .ok (.getfield 16, 3) := by decide +kernel
theorem dR_swapVariables_59 : decode cR_swapVariables 59 = .ok (.if_icmp .ge 45, 3) := by decide +kernel
theorem dR_swapVariables_62 : decode cR_swapVariables 62 = .ok (.aload_n 0, 1) := by decide +kernel
theorem dR_swapVariables_63 : decode cR_swapVariables 63 = .ok (.getfield 11, 3) := by decide +kernel
theorem dR_swapVariables_66 : decode cR_swapVariables 66 = .ok (.iload_n 3, 1) := by decide +kernel
theorem dR_swapVariables_67 : decode cR_swapVariables 67 = .ok (.aaload, 1) := by decide +kernel
theorem dR_swapVariables_68 : decode cR_swapVariables 68 = .ok (.iload_n 1, 1) := by decide +kernel
theorem dR_swapVariables_69 : decode cR_swapVariables 69 = .ok (.laload, 1) := by decide +kernel
theorem dR_swapVariables_70 : decode cR_swapVariables 70 = .ok (.lstore 4, 2) := by decide +kernel
theorem dR_swapVariables_72 : decode cR_swapVariables 72 = .ok (.aload_n 0, 1) := by decide +kernel
theorem dR_swapVariables_73 : decode cR_swapVariables 73 = .ok (.getfield 11, 3) := by decide +kernel
theorem dR_swapVariables_76 : decode cR_swapVariables 76 = .ok (.iload_n 3, 1) := by decide +kernel
theorem dR_swapVariables_77 : decode cR_swapVariables 77 = .ok (.aaload, 1) := by decide +kernel
theorem dR_swapVariables_78 : decode cR_swapVariables 78 = .ok (.iload_n 1, 1) := by decide +kernel
theorem dR_swapVariables_79 : decode cR_swapVariables 79 = .ok (.aload_n 0, 1) := by decide +kernel
theorem dR_swapVariables_80 : decode cR_swapVariables 80 = .ok (.getfield 11, 3) := by decide +kernel
theorem dR_swapVariables_83 : decode cR_swapVariables 83 = .ok (.iload_n 3, 1) := by decide +kernel
theorem dR_swapVariables_84 : decode cR_swapVariables 84 = .ok (.aaload, 1) := by decide +kernel
theorem dR_swapVariables_85 : decode cR_swapVariables 85 = .ok (.iload_n 2, 1) := by decide +kernel
theorem dR_swapVariables_86 : decode cR_swapVariables 86 = .ok (.laload, 1) := by decide +kernel
theorem dR_swapVariables_87 : decode cR_swapVariables 87 = .ok (.lastore, 1) := by decide +kernel
theorem dR_swapVariables_88 : decode cR_swapVariables 88 = .ok (.aload_n 0, 1) := by decide +kernel
theorem dR_swapVariables_89 : decode cR_swapVariables 89 = .ok (.getfield 11, 3) := by decide +kernel
theorem dR_swapVariables_92 : decode cR_swapVariables 92 = .ok (.iload_n 3, 1) := by decide +kernel
theorem dR_swapVariables_93 : decode cR_swapVariables 93 = .ok (.aaload, 1) := by decide +kernel
theorem dR_swapVariables_94 : decode cR_swapVariables 94 = .ok (.iload_n 2, 1) := by decide +kernel
theorem dR_swapVariables_95 : decode cR_swapVariables 95 = .ok (.lload 4, 2) := by decide +kernel
theorem dR_swapVariables_97 : decode cR_swapVariables 97 = .ok (.lastore, 1) := by decide +kernel
theorem dR_swapVariables_98 : decode cR_swapVariables 98 = .ok (.iinc 3 1, 3) := by decide +kernel
theorem dR_swapVariables_101 : decode cR_swapVariables 101 = .ok (.goto (-47), 3) := by decide +kernel
theorem dR_swapVariables_104 : decode cR_swapVariables 104 = .ok (.return_, 1) := by decide +kernel
abbrev cR_addVariable : ByteArray := prog_5_method_6_code
abbrev yR_addVariable : MethodName := ⟨"RationalForms$Reduction", "addVariable", "(III)V"⟩
abbrev wsR_addVariable : List Cond := .code yR_addVariable cR_addVariable 5 none :: GG
theorem dR_addVariable_0 : decode cR_addVariable 0 = .ok (.iload_n 3, 1) := by decide +kernel
theorem dR_addVariable_1 : decode cR_addVariable 1 = .ok (.istore 4, 2) := by decide +kernel
theorem dR_addVariable_3 : decode cR_addVariable 3 = .ok (.iload 4, 2) := by decide +kernel
theorem dR_addVariable_5 : decode cR_addVariable 5 = .ok (.aload_n 0, 1) := by decide +kernel
theorem dR_addVariable_6 : decode cR_addVariable 6 = .ok (.getfield 16, 3) := by decide +kernel
theorem dR_addVariable_9 : decode cR_addVariable 9 = .ok (.if_icmp .ge 30, 3) := by decide +kernel
theorem dR_addVariable_12 : decode cR_addVariable 12 = .ok (.aload_n 0, 1) := by decide +kernel
theorem dR_addVariable_13 : decode cR_addVariable 13 = .ok (.getfield 11, 3) := by decide +kernel
theorem dR_addVariable_16 : decode cR_addVariable 16 = .ok (.iload_n 2, 1) := by decide +kernel
theorem dR_addVariable_17 : decode cR_addVariable 17 = .ok (.aaload, 1) := by decide +kernel
theorem dR_addVariable_18 : decode cR_addVariable 18 = .ok (.iload 4, 2) := by decide +kernel
theorem dR_addVariable_20 : decode cR_addVariable 20 = .ok (.dup2, 1) := by decide +kernel
theorem dR_addVariable_21 : decode cR_addVariable 21 = .ok (.laload, 1) := by decide +kernel
theorem dR_addVariable_22 : decode cR_addVariable 22 = .ok (.aload_n 0, 1) := by decide +kernel
theorem dR_addVariable_23 : decode cR_addVariable 23 = .ok (.getfield 11, 3) := by decide +kernel
theorem dR_addVariable_26 : decode cR_addVariable 26 = .ok (.iload_n 1, 1) := by decide +kernel
theorem dR_addVariable_27 : decode cR_addVariable 27 = .ok (.aaload, 1) := by decide +kernel
theorem dR_addVariable_28 : decode cR_addVariable 28 = .ok (.iload 4, 2) := by decide +kernel
theorem dR_addVariable_30 : decode cR_addVariable 30 = .ok (.laload, 1) := by decide +kernel
theorem dR_addVariable_31 : decode cR_addVariable 31 = .ok (.ladd, 1) := by decide +kernel
theorem dR_addVariable_32 : decode cR_addVariable 32 = .ok (.lastore, 1) := by decide +kernel
theorem dR_addVariable_33 : decode cR_addVariable 33 = .ok (.iinc 4 1, 3) := by decide +kernel
theorem dR_addVariable_36 : decode cR_addVariable 36 = .ok (.goto (-33), 3) := by decide +kernel
theorem dR_addVariable_39 : decode cR_addVariable 39 = .ok (.iload_n 3, 1) := by decide +kernel
theorem dR_addVariable_40 : decode cR_addVariable 40 = .ok (.istore 4, 2) := by decide +kernel
theorem dR_addVariable_42 : decode cR_addVariable 42 = .ok (.iload 4, 2) := by decide +kernel
theorem dR_addVariable_44 : decode cR_addVariable 44 = .ok (.aload_n 0, 1) := by decide +kernel
theorem dR_addVariable_45 : decode cR_addVariable 45 = .ok (.getfield 16, 3) := by decide +kernel
theorem dR_addVariable_48 : decode cR_addVariable 48 = .ok (.if_icmp .ge 30, 3) := by decide +kernel
theorem dR_addVariable_51 : decode cR_addVariable 51 = .ok (.aload_n 0, 1) := by decide +kernel
theorem dR_addVariable_52 : decode cR_addVariable 52 = .ok (.getfield 11, 3) := by decide +kernel
theorem dR_addVariable_55 : decode cR_addVariable 55 = .ok (.iload 4, 2) := by decide +kernel
theorem dR_addVariable_57 : decode cR_addVariable 57 = .ok (.aaload, 1) := by decide +kernel
theorem dR_addVariable_58 : decode cR_addVariable 58 = .ok (.iload_n 2, 1) := by decide +kernel
theorem dR_addVariable_59 : decode cR_addVariable 59 = .ok (.dup2, 1) := by decide +kernel
theorem dR_addVariable_60 : decode cR_addVariable 60 = .ok (.laload, 1) := by decide +kernel
theorem dR_addVariable_61 : decode cR_addVariable 61 = .ok (.aload_n 0, 1) := by decide +kernel
theorem dR_addVariable_62 : decode cR_addVariable 62 = .ok (.getfield 11, 3) := by decide +kernel
theorem dR_addVariable_65 : decode cR_addVariable 65 = .ok (.iload 4, 2) := by decide +kernel
theorem dR_addVariable_67 : decode cR_addVariable 67 = .ok (.aaload, 1) := by decide +kernel
theorem dR_addVariable_68 : decode cR_addVariable 68 = .ok (.iload_n 1, 1) := by decide +kernel
theorem dR_addVariable_69 : decode cR_addVariable 69 = .ok (.laload, 1) := by decide +kernel
theorem dR_addVariable_70 : decode cR_addVariable 70 = .ok (.ladd, 1) := by decide +kernel
theorem dR_addVariable_71 : decode cR_addVariable 71 = .ok (.lastore, 1) := by decide +kernel
theorem dR_addVariable_72 : decode cR_addVariable 72 = .ok (.iinc 4 1, 3) := by decide +kernel
theorem dR_addVariable_75 : decode cR_addVariable 75 = .ok (.goto (-33), 3) := by decide +kernel
theorem dR_addVariable_78 : decode cR_addVariable 78 = .ok (.return_, 1) := by decide +kernel
abbrev cR_bringPivot : ByteArray := prog_5_method_4_code
abbrev yR_bringPivot : MethodName := ⟨"RationalForms$Reduction", "bringPivot", "(I)Z"⟩
abbrev wsR_bringPivot : List Cond := .code yR_bringPivot cR_bringPivot 4 (some .boolean) :: GG
theorem dR_bringPivot_0 : decode cR_bringPivot 0 = .ok (.iload_n 1, 1) := by decide +kernel
theorem dR_bringPivot_1 : decode cR_bringPivot 1 = .ok (.istore_n 2, 1) := by decide +kernel
theorem dR_bringPivot_2 : decode cR_bringPivot 2 = .ok (.iload_n 2, 1) := by decide +kernel
theorem dR_bringPivot_3 : decode cR_bringPivot 3 = .ok (.aload_n 0, 1) := by decide +kernel
theorem dR_bringPivot_4 : decode cR_bringPivot 4 = .ok (.getfield 16, 3) := by decide +kernel
theorem dR_bringPivot_7 : decode cR_bringPivot 7 = .ok (.if_icmp .ge 30, 3) := by decide +kernel
theorem dR_bringPivot_10 : decode cR_bringPivot 10 = .ok (.aload_n 0, 1) := by decide +kernel
theorem dR_bringPivot_11 : decode cR_bringPivot 11 = .ok (.getfield 11, 3) := by decide +kernel
theorem dR_bringPivot_14 : decode cR_bringPivot 14 = .ok (.iload_n 2, 1) := by decide +kernel
theorem dR_bringPivot_15 : decode cR_bringPivot 15 = .ok (.aaload, 1) := by decide +kernel
theorem dR_bringPivot_16 : decode cR_bringPivot 16 = .ok (.iload_n 2, 1) := by decide +kernel
theorem dR_bringPivot_17 : decode cR_bringPivot 17 = .ok (.laload, 1) := by decide +kernel
theorem dR_bringPivot_18 : decode cR_bringPivot 18 = .ok (.lconst 0, 1) := by decide +kernel
theorem dR_bringPivot_19 : decode cR_bringPivot 19 = .ok (.lcmp, 1) := by decide +kernel
theorem dR_bringPivot_20 : decode cR_bringPivot 20 = .ok (.ifCond .eq 11, 3) := by decide +kernel
theorem dR_bringPivot_23 : decode cR_bringPivot 23 = .ok (.aload_n 0, 1) := by decide +kernel
theorem dR_bringPivot_24 : decode cR_bringPivot 24 = .ok (.iload_n 2, 1) := by decide +kernel
theorem dR_bringPivot_25 : decode cR_bringPivot 25 = .ok (.iload_n 1, 1) := by decide +kernel
theorem dR_bringPivot_26 : decode cR_bringPivot 26 = .ok (.invokevirtual 64, 3) := by decide +kernel
theorem dR_bringPivot_29 : decode cR_bringPivot 29 = .ok (.iconst 1, 1) := by decide +kernel
theorem dR_bringPivot_30 : decode cR_bringPivot 30 = .ok (.ireturn, 1) := by decide +kernel
theorem dR_bringPivot_31 : decode cR_bringPivot 31 = .ok (.iinc 2 1, 3) := by decide +kernel
theorem dR_bringPivot_34 : decode cR_bringPivot 34 = .ok (.goto (-32), 3) := by decide +kernel
theorem dR_bringPivot_37 : decode cR_bringPivot 37 = .ok (.iload_n 1, 1) := by decide +kernel
theorem dR_bringPivot_38 : decode cR_bringPivot 38 = .ok (.istore_n 2, 1) := by decide +kernel
theorem dR_bringPivot_39 : decode cR_bringPivot 39 = .ok (.iload_n 2, 1) := by decide +kernel
theorem dR_bringPivot_40 : decode cR_bringPivot 40 = .ok (.aload_n 0, 1) := by decide +kernel
theorem dR_bringPivot_41 : decode cR_bringPivot 41 = .ok (.getfield 16, 3) := by decide +kernel
theorem dR_bringPivot_44 : decode cR_bringPivot 44 = .ok (.if_icmp .ge 55, 3) := by decide +kernel
theorem dR_bringPivot_47 : decode cR_bringPivot 47 = .ok (.iload_n 2, 1) := by decide +kernel
theorem dR_bringPivot_48 : decode cR_bringPivot 48 = .ok (.iconst 1, 1) := by decide +kernel
theorem dR_bringPivot_49 : decode cR_bringPivot 49 = .ok (.iadd, 1) := by decide +kernel
theorem dR_bringPivot_50 : decode cR_bringPivot 50 = .ok (.istore_n 3, 1) := by decide +kernel
theorem dR_bringPivot_51 : decode cR_bringPivot 51 = .ok (.iload_n 3, 1) := by decide +kernel
theorem dR_bringPivot_52 : decode cR_bringPivot 52 = .ok (.aload_n 0, 1) := by decide +kernel
theorem dR_bringPivot_53 : decode cR_bringPivot 53 = .ok (.getfield 16, 3) := by decide +kernel
theorem dR_bringPivot_56 : decode cR_bringPivot 56 = .ok (.if_icmp .ge 37, 3) := by decide +kernel
theorem dR_bringPivot_59 : decode cR_bringPivot 59 = .ok (.aload_n 0, 1) := by decide +kernel
theorem dR_bringPivot_60 : decode cR_bringPivot 60 = .ok (.getfield 11, 3) := by decide +kernel
theorem dR_bringPivot_63 : decode cR_bringPivot 63 = .ok (.iload_n 2, 1) := by decide +kernel
theorem dR_bringPivot_64 : decode cR_bringPivot 64 = .ok (.aaload, 1) := by decide +kernel
theorem dR_bringPivot_65 : decode cR_bringPivot 65 = .ok (.iload_n 3, 1) := by decide +kernel
theorem dR_bringPivot_66 : decode cR_bringPivot 66 = .ok (.laload, 1) := by decide +kernel
theorem dR_bringPivot_67 : decode cR_bringPivot 67 = .ok (.lconst 0, 1) := by decide +kernel
theorem dR_bringPivot_68 : decode cR_bringPivot 68 = .ok (.lcmp, 1) := by decide +kernel
theorem dR_bringPivot_69 : decode cR_bringPivot 69 = .ok (.ifCond .eq 18, 3) := by decide +kernel
theorem dR_bringPivot_72 : decode cR_bringPivot 72 = .ok (.aload_n 0, 1) := by decide +kernel
theorem dR_bringPivot_73 : decode cR_bringPivot 73 = .ok (.iload_n 3, 1) := by decide +kernel
theorem dR_bringPivot_74 : decode cR_bringPivot 74 = .ok (.iload_n 2, 1) := by decide +kernel
theorem dR_bringPivot_75 : decode cR_bringPivot 75 = .ok (.iload_n 1, 1) := by decide +kernel
theorem dR_bringPivot_76 : decode cR_bringPivot 76 = .ok (.invokevirtual 68, 3) := by decide +kernel
theorem dR_bringPivot_79 : decode cR_bringPivot 79 = .ok (.aload_n 0, 1) := by decide +kernel
theorem dR_bringPivot_80 : decode cR_bringPivot 80 = .ok (.iload_n 2, 1) := by decide +kernel
theorem dR_bringPivot_81 : decode cR_bringPivot 81 = .ok (.iload_n 1, 1) := by decide +kernel
theorem dR_bringPivot_82 : decode cR_bringPivot 82 = .ok (.invokevirtual 64, 3) := by decide +kernel
theorem dR_bringPivot_85 : decode cR_bringPivot 85 = .ok (.iconst 1, 1) := by decide +kernel
theorem dR_bringPivot_86 : decode cR_bringPivot 86 = .ok (.ireturn, 1) := by decide +kernel
theorem dR_bringPivot_87 : decode cR_bringPivot 87 = .ok (.iinc 3 1, 3) := by decide +kernel
theorem dR_bringPivot_90 : decode cR_bringPivot 90 = .ok (.goto (-39), 3) := by decide +kernel
theorem dR_bringPivot_93 : decode cR_bringPivot 93 = .ok (.iinc 2 1, 3) := by decide +kernel
theorem dR_bringPivot_96 : decode cR_bringPivot 96 = .ok (.goto (-57), 3) := by decide +kernel
theorem dR_bringPivot_99 : decode cR_bringPivot 99 = .ok (.iconst 0, 1) := by decide +kernel
theorem dR_bringPivot_100 : decode cR_bringPivot 100 = .ok (.ireturn, 1) := by decide +kernel
abbrev cR_eliminate : ByteArray := prog_5_method_7_code
abbrev yR_eliminate : MethodName := ⟨"RationalForms$Reduction", "eliminate", "(IJJ)V"⟩
abbrev wsR_eliminate : List Cond := .code yR_eliminate cR_eliminate 8 none :: GG
theorem dR_eliminate_0 : decode cR_eliminate 0 = .ok (.iload_n 1, 1) := by decide +kernel
theorem dR_eliminate_1 : decode cR_eliminate 1 = .ok (.iconst 1, 1) := by decide +kernel
theorem dR_eliminate_2 : decode cR_eliminate 2 = .ok (.iadd, 1) := by decide +kernel
theorem dR_eliminate_3 : decode cR_eliminate 3 = .ok (.istore 6, 2) := by decide +kernel
theorem dR_eliminate_5 : decode cR_eliminate 5 = .ok (.iload 6, 2) := by decide +kernel
theorem dR_eliminate_7 : decode cR_eliminate 7 = .ok (.aload_n 0, 1) := by decide +kernel
theorem dR_eliminate_8 : decode cR_eliminate 8 = .ok (.getfield 16, 3) := by decide +kernel
theorem dR_eliminate_11 : decode cR_eliminate 11 = .ok (.if_icmp .ge 74, 3) := by decide +kernel
theorem dR_eliminate_14 : decode cR_eliminate 14 = .ok (.iload_n 1, 1) := by decide +kernel
theorem dR_eliminate_15 : decode cR_eliminate 15 = .ok (.iconst 1, 1) := by decide +kernel
theorem dR_eliminate_16 : decode cR_eliminate 16 = .ok (.iadd, 1) := by decide +kernel
theorem dR_eliminate_17 : decode cR_eliminate 17 = .ok (.istore 7, 2) := by decide +kernel
theorem dR_eliminate_19 : decode cR_eliminate 19 = .ok (.iload 7, 2) := by decide +kernel
theorem dR_eliminate_21 : decode cR_eliminate 21 = .ok (.aload_n 0, 1) := by decide +kernel
theorem dR_eliminate_22 : decode cR_eliminate 22 = .ok (.getfield 16, 3) := by decide +kernel
theorem dR_eliminate_25 : decode cR_eliminate 25 = .ok (.if_icmp .ge 54, 3) := by decide +kernel
theorem dR_eliminate_28 : decode cR_eliminate 28 = .ok (.aload_n 0, 1) := by decide +kernel
theorem dR_eliminate_29 : decode cR_eliminate 29 = .ok (.getfield 11, 3) := by decide +kernel
theorem dR_eliminate_32 : decode cR_eliminate 32 = .ok (.iload 6, 2) := by decide +kernel
theorem dR_eliminate_34 : decode cR_eliminate 34 = .ok (.aaload, 1) := by decide +kernel
theorem dR_eliminate_35 : decode cR_eliminate 35 = .ok (.iload 7, 2) := by decide +kernel
theorem dR_eliminate_37 : decode cR_eliminate 37 = .ok (.aload_n 0, 1) := by decide +kernel
theorem dR_eliminate_38 : decode cR_eliminate 38 = .ok (.getfield 11, 3) := by decide +kernel
theorem dR_eliminate_41 : decode cR_eliminate 41 = .ok (.iload 6, 2) := by decide +kernel
theorem dR_eliminate_43 : decode cR_eliminate 43 = .ok (.aaload, 1) := by decide +kernel
theorem dR_eliminate_44 : decode cR_eliminate 44 = .ok (.iload 7, 2) := by decide +kernel
theorem dR_eliminate_46 : decode cR_eliminate 46 = .ok (.laload, 1) := by decide +kernel
theorem dR_eliminate_47 : decode cR_eliminate 47 = .ok (.lload_n 2, 1) := by decide +kernel
theorem dR_eliminate_48 : decode cR_eliminate 48 = .ok (.lmul, 1) := by decide +kernel
theorem dR_eliminate_49 : decode cR_eliminate 49 = .ok (.aload_n 0, 1) := by decide +kernel
theorem dR_eliminate_50 : decode cR_eliminate 50 = .ok (.getfield 11, 3) := by decide +kernel
theorem dR_eliminate_53 : decode cR_eliminate 53 = .ok (.iload 6, 2) := by decide +kernel
theorem dR_eliminate_55 : decode cR_eliminate 55 = .ok (.aaload, 1) := by decide +kernel
theorem dR_eliminate_56 : decode cR_eliminate 56 = .ok (.iload_n 1, 1) := by decide +kernel
theorem dR_eliminate_57 : decode cR_eliminate 57 = .ok (.laload, 1) := by decide +kernel
theorem dR_eliminate_58 : decode cR_eliminate 58 = .ok (.aload_n 0, 1) := by decide +kernel
theorem dR_eliminate_59 : decode cR_eliminate 59 = .ok (.getfield 11, 3) := by decide +kernel
theorem dR_eliminate_62 : decode cR_eliminate 62 = .ok (.iload_n 1, 1) := by decide +kernel
theorem dR_eliminate_63 : decode cR_eliminate 63 = .ok (.aaload, 1) := by decide +kernel
theorem dR_eliminate_64 : decode cR_eliminate 64 = .ok (.iload 7, 2) := by decide +kernel
theorem dR_eliminate_66 : decode cR_eliminate 66 = .ok (.laload, 1) := by decide +kernel
theorem dR_eliminate_67 : decode cR_eliminate 67 = .ok (.lmul, 1) := by decide +kernel
theorem dR_eliminate_68 : decode cR_eliminate 68 = .ok (.lsub, 1) := by decide +kernel
theorem dR_eliminate_69 : decode cR_eliminate 69 = .ok (.lload 4, 2) := by decide +kernel
theorem dR_eliminate_71 : decode cR_eliminate 71 = .ok (.ldiv, 1) := by decide +kernel
theorem dR_eliminate_72 : decode cR_eliminate 72 = .ok (.lastore, 1) := by decide +kernel
theorem dR_eliminate_73 : decode cR_eliminate 73 = .ok (.iinc 7 1, 3) := by decide +kernel
theorem dR_eliminate_76 : decode cR_eliminate 76 = .ok (.goto (-57), 3) := by decide +kernel
theorem dR_eliminate_79 : decode cR_eliminate 79 = .ok (.iinc 6 1, 3) := by decide +kernel
theorem dR_eliminate_82 : decode cR_eliminate 82 = .ok (.goto (-77), 3) := by decide +kernel
theorem dR_eliminate_85 : decode cR_eliminate 85 = .ok (.return_, 1) := by decide +kernel
abbrev cR_reduce : ByteArray := prog_5_method_2_code
abbrev yR_reduce : MethodName := ⟨"RationalForms$Reduction", "reduce", "(LRationalForms$Form;LRationalForms$Diagonal;)V"⟩
abbrev wsR_reduce : List Cond := .code yR_reduce cR_reduce 8 none :: GG
theorem dR_reduce_0 : decode cR_reduce 0 = .ok (.aload_n 0, 1) := by decide +kernel
theorem dR_reduce_1 : decode cR_reduce 1 = .ok (.aload_n 1, 1) := by decide +kernel
theorem dR_reduce_2 : decode cR_reduce 2 = .ok (.invokevirtual 20, 3) := by decide +kernel
theorem dR_reduce_5 : decode cR_reduce 5 = .ok (.aload_n 2, 1) := by decide +kernel
theorem dR_reduce_6 : decode cR_reduce 6 = .ok (.aload_n 0, 1) := by decide +kernel
theorem dR_reduce_7 : decode cR_reduce 7 = .ok (.getfield 16, 3) := by decide +kernel
theorem dR_reduce_10 : decode cR_reduce 10 = .ok (.invokevirtual 24, 3) := by decide +kernel
theorem dR_reduce_13 : decode cR_reduce 13 = .ok (.lconst 1, 1) := by decide +kernel
theorem dR_reduce_14 : decode cR_reduce 14 = .ok (.lstore_n 3, 1) := by decide +kernel
theorem dR_reduce_15 : decode cR_reduce 15 = .ok (.iconst 0, 1) := by decide +kernel
theorem dR_reduce_16 : decode cR_reduce 16 = .ok (.istore 5, 2) := by decide +kernel
theorem dR_reduce_18 : decode cR_reduce 18 = .ok (.iload 5, 2) := by decide +kernel
theorem dR_reduce_20 : decode cR_reduce 20 = .ok (.aload_n 0, 1) := by decide +kernel
theorem dR_reduce_21 : decode cR_reduce 21 = .ok (.getfield 16, 3) := by decide +kernel
theorem dR_reduce_24 : decode cR_reduce 24 = .ok (.if_icmp .ge 64, 3) := by decide +kernel
theorem dR_reduce_27 : decode cR_reduce 27 = .ok (.aload_n 0, 1) := by decide +kernel
theorem dR_reduce_28 : decode cR_reduce 28 = .ok (.iload 5, 2) := by decide +kernel
theorem dR_reduce_30 : decode cR_reduce 30 = .ok (.invokevirtual 30, 3) := by decide +kernel
theorem dR_reduce_33 : decode cR_reduce 33 = .ok (.ifCond .eq 55, 3) := by decide +kernel
theorem dR_reduce_36 : decode cR_reduce 36 = .ok (.aload_n 0, 1) := by decide +kernel
theorem dR_reduce_37 : decode cR_reduce 37 = .ok (.getfield 11, 3) := by decide +kernel
theorem dR_reduce_40 : decode cR_reduce 40 = .ok (.iload 5, 2) := by decide +kernel
theorem dR_reduce_42 : decode cR_reduce 42 = .ok (.aaload, 1) := by decide +kernel
theorem dR_reduce_43 : decode cR_reduce 43 = .ok (.iload 5, 2) := by decide +kernel
theorem dR_reduce_45 : decode cR_reduce 45 = .ok (.laload, 1) := by decide +kernel
theorem dR_reduce_46 : decode cR_reduce 46 = .ok (.lstore 6, 2) := by decide +kernel
theorem dR_reduce_48 : decode cR_reduce 48 = .ok (.aload_n 2, 1) := by decide +kernel
theorem dR_reduce_49 : decode cR_reduce 49 = .ok (.lload 6, 2) := by decide +kernel
theorem dR_reduce_51 : decode cR_reduce 51 = .ok (.invokestatic 34, 3) := by decide +kernel
theorem dR_reduce_54 : decode cR_reduce 54 = .ok (.lload_n 3, 1) := by decide +kernel
theorem dR_reduce_55 : decode cR_reduce 55 = .ok (.invokestatic 34, 3) := by decide +kernel
theorem dR_reduce_58 : decode cR_reduce 58 = .ok (.invokestatic 40, 3) := by decide +kernel
theorem dR_reduce_61 : decode cR_reduce 61 = .ok (.invokevirtual 44, 3) := by decide +kernel
theorem dR_reduce_64 : decode cR_reduce 64 = .ok (.aload_n 2, 1) := by decide +kernel
theorem dR_reduce_65 : decode cR_reduce 65 = .ok (.lload 6, 2) := by decide +kernel
theorem dR_reduce_67 : decode cR_reduce 67 = .ok (.invokevirtual 48, 3) := by decide +kernel
theorem dR_reduce_70 : decode cR_reduce 70 = .ok (.aload_n 0, 1) := by decide +kernel
theorem dR_reduce_71 : decode cR_reduce 71 = .ok (.iload 5, 2) := by decide +kernel
theorem dR_reduce_73 : decode cR_reduce 73 = .ok (.lload 6, 2) := by decide +kernel
theorem dR_reduce_75 : decode cR_reduce 75 = .ok (.lload_n 3, 1) := by decide +kernel
theorem dR_reduce_76 : decode cR_reduce 76 = .ok (.invokevirtual 51, 3) := by decide +kernel
theorem dR_reduce_79 : decode cR_reduce 79 = .ok (.lload 6, 2) := by decide +kernel
theorem dR_reduce_81 : decode cR_reduce 81 = .ok (.lstore_n 3, 1) := by decide +kernel
theorem dR_reduce_82 : decode cR_reduce 82 = .ok (.iinc 5 1, 3) := by decide +kernel
theorem dR_reduce_85 : decode cR_reduce 85 = .ok (.goto (-67), 3) := by decide +kernel
theorem dR_reduce_88 : decode cR_reduce 88 = .ok (.return_, 1) := by decide +kernel
def FrR (M M9 : Me) : Prop := ∀ q, (q < 24 ∨ 28 ≤ q) → M9 q = M q
theorem FrR.rf (M : Me) : FrR M M := fun _ _ => rfl
theorem FrR.tr {M M1 M2 : Me} (h1 : FrR M M1) (h2 : FrR M1 M2) : FrR M M2 := fun q h => (h2 q h).trans (h1 q h)
theorem FrR.mu {M M1 : Me} (h : FrR M M1) {i : Nat} (hi : i < 4) (j : Nat) (v : Int) : FrR M (mu M1 (24 + i) j v) := fun q hq => by rw [mu_k (by omega)]; exact h q hq
set_option maxRecDepth 20000 in
theorem wd137 : Cond.methodLink "RationalForms$Reduction" 64 yR_swapVariables ∈ GG := GG_t 137 rfl rfl
set_option maxRecDepth 20000 in
theorem wd139 : Cond.instanceMethod yR_swapVariables ∈ GG := GG_t 139 rfl rfl
set_option maxRecDepth 20000 in
theorem wd140 : Cond.code yR_swapVariables cR_swapVariables 6 none ∈ GG := GG_t 140 rfl rfl
set_option maxRecDepth 20000 in
theorem wd141 : Cond.methodLink "RationalForms$Reduction" 68 yR_addVariable ∈ GG := GG_t 141 rfl rfl
set_option maxRecDepth 20000 in
theorem wd143 : Cond.instanceMethod yR_addVariable ∈ GG := GG_t 143 rfl rfl
set_option maxRecDepth 20000 in
theorem wd144 : Cond.code yR_addVariable cR_addVariable 5 none ∈ GG := GG_t 144 rfl rfl
set_option maxRecDepth 20000 in
theorem wd2 : Cond.initialized "RationalForms$Reduction" ∈ GG := GG_t 2 rfl rfl
set_option maxRecDepth 20000 in
theorem wd35 : Cond.fieldLink "RationalForms$Reduction" 11 "RationalForms$Reduction" "table" "[[J" ∈ GG := GG_t 35 rfl rfl
set_option maxRecDepth 20000 in
theorem wd36 : Cond.fieldLink "RationalForms$Reduction" 16 "RationalForms$Reduction" "size" "I" ∈ GG := GG_t 36 rfl rfl
set_option maxRecDepth 20000 in
theorem wd51 : Cond.fieldLinkNest "RationalForms$Reduction" 55 "RationalForms$Form" "dimension" "I" "RationalForms" ∈ GG := GG_t 51 rfl rfl
set_option maxRecDepth 20000 in
theorem wd54 : Cond.fieldLinkNest "RationalForms$Reduction" 60 "RationalForms$Form" "numbers" "[[I" "RationalForms" ∈ GG := GG_t 54 rfl rfl
set_option maxRecDepth 20000 in
theorem wds4 : Cond.selects "RationalForms$Reduction" yR_swapVariables yR_swapVariables ∈ GG := GG_s 4 rfl rfl
set_option maxRecDepth 20000 in
theorem wds5 : Cond.selects "RationalForms$Reduction" yR_addVariable yR_addVariable ∈ GG := GG_s 5 rfl rfl
set_option maxRecDepth 100000 in
set_option maxHeartbeats 4000000 in
theorem kR_copyNumbers (l : Launch) (E : En) (hJ : wJ E) (M : Me) (f : Nat) (hf : f < 2) (n : Nat) (hn0 : M (5 + f) 0 = n) (hn4 : n ≤ 4) (hb9 : ∀ i j, i < 4 → j < 4 → b32 (M (9 + 4 * f + i) j)) : MM l yR_copyNumbers wsR_copyNumbers (rmd 0) E M [.ref (E.2.1 3), .ref (E.2.1 (5 + f))] (fun r M9 => r = none ∧ M9 3 1 = n ∧ eqn n (tb M9) (fun i j => M (9 + 4 * f + i) j) ∧ ∀ q, q ≠ 3 → (q < 24 ∨ 28 ≤ q) → M9 q = M q) := by
  refine MM.ofG (by decide +kernel) (Nat.le_of_ble_eq_true rfl) ?_
  intro p_ e_ s_ m_ a_ b_ t_ c_ hx hb hml hr hk hg hown hK hP hS ls hl
  have hl : lv_has ls 4 [(0, .ref (E.2.1 3)), (1, .ref (E.2.1 (5 + f)))] := hl
  have outer : ∀ (N i : Nat) (M1 : Me) (H : Heap) (locs : List Loc) (ls : Array Slot), i + N = n → (M1 3 1 = n ∧ (∀ q, q ≠ 3 → (q < 24 ∨ 28 ≤ q) → M1 q = M q)) → (∀ a b : Nat, a < i → b < n → tb M1 a b = M (9 + 4 * f + a) b) → wP E M1 H → va_S (wA E) s_.heap H locs → lv_has ls 4 [(2, .int (ji ((i:Int)))), (0, .ref (E.2.1 3)), (1, .ref (E.2.1 (5 + f)))] → W p_ l e_ (rmd 0) s_ m_ a_ b_ t_ c_ H locs 0 0 (XQ b_ (mmQ E (fun r M9 => r = none ∧ M9 3 1 = n ∧ eqn n (tb M9) (fun i j => M (9 + 4 * f + i) j) ∧ ∀ q, q ≠ 3 → (q < 24 ∨ 28 ≤ q) → M9 q = M q)) a_ s_ 0 0 (wA E)) (F0 m_ 10 ls []) := by
    intro N
    induction N with
    | zero =>
      intro i M1 H locs ls h0 hI hT hP hS hl
      refine lv_iload_n hx hb dR_copyNumbers_10 rfl (lv_at hl 0 rfl) ?_
      refine lv_aload_n hx hb dR_copyNumbers_11 rfl (lv_at hl 1 rfl) ?_
      refine m_get (C := "RationalForms$Reduction") (T := TxR) (N := 2) hx hb hg uwR hown hK hP (by omega) (sh_R E _) rfl 1 (by decide) wd36 rfl dR_copyNumbers_12 ?_
      refine j_icmp_ge hx hb (by omega) (by rw [hI.1]; omega) dR_copyNumbers_15 rfl (fun h1 => ?_) (fun h1 => ?_)
      · exact mm_vret hx hb hr hk hP hS dR_copyNumbers_57 ⟨rfl, hI.1, fun a b ha hb => hT a b (by omega) hb, hI.2⟩
      · rw [hI.1] at h1
        omega
    | succ N ih =>
      intro i M1 H locs ls h0 hI hT hP hS hl
      have inner : ∀ (K j : Nat) (M1 : Me) (H : Heap) (locs : List Loc) (ls : Array Slot), j + K = n → (M1 3 1 = n ∧ (∀ q, q ≠ 3 → (q < 24 ∨ 28 ≤ q) → M1 q = M q)) → (∀ a b : Nat, a < i → b < n → tb M1 a b = M (9 + 4 * f + a) b) → (∀ b : Nat, b < j → tb M1 i b = M (9 + 4 * f + i) b) → wP E M1 H → va_S (wA E) s_.heap H locs → lv_has ls 4 [(3, .int (ji ((j:Int)))), (2, .int (ji ((i:Int)))), (0, .ref (E.2.1 3)), (1, .ref (E.2.1 (5 + f)))] → W p_ l e_ (rmd 0) s_ m_ a_ b_ t_ c_ H locs 0 0 (XQ b_ (mmQ E (fun r M9 => r = none ∧ M9 3 1 = n ∧ eqn n (tb M9) (fun i j => M (9 + 4 * f + i) j) ∧ ∀ q, q ≠ 3 → (q < 24 ∨ 28 ≤ q) → M9 q = M q)) a_ s_ 0 0 (wA E)) (F0 m_ 20 ls []) := by
        intro K
        induction K with
        | zero =>
          intro j M1 H locs ls h1 hI hT hT2 hP hS hl
          refine lv_iload_n hx hb dR_copyNumbers_20 rfl (lv_at hl 0 rfl) ?_
          refine lv_aload_n hx hb dR_copyNumbers_21 rfl (lv_at hl 2 rfl) ?_
          refine m_get (C := "RationalForms$Reduction") (T := TxR) (N := 2) hx hb hg uwR hown hK hP (by omega) (sh_R E _) rfl 1 (by decide) wd36 rfl dR_copyNumbers_22 ?_
          refine j_icmp_ge hx hb (by omega) (by rw [hI.1]; omega) dR_copyNumbers_25 rfl (fun h2 => ?_) (fun h2 => ?_)
          · refine lv_iinc (k := 1) (v := ji (((i:Int)) + 1)) hx hb dR_copyNumbers_51 hl rfl (Int32.ofInt_add _ _).symm (by decide) rfl (fun ls hl => ?_)
            have hl : lv_has ls 4 [(2, .int (ji (((i:Int)) + 1))), (3, .int (ji ((j:Int)))), (0, .ref (E.2.1 3)), (1, .ref (E.2.1 (5 + f)))] := hl
            refine lv_goto hx hb dR_copyNumbers_54 rfl ?_
            refine ih (i + 1) M1 H locs ls (by omega) hI (fun a b ha hb => ?_) hP hS (lv_sub hl [0, 2, 3] rfl)
            by_cases hai : a = i
            · rw [hai]; exact hT2 b (by omega)
            · exact hT a b (by omega) hb
          · rw [hI.1] at h2
            omega
        | succ K ihK =>
          intro j M1 H locs ls h1 hI hT hT2 hP hS hl
          refine lv_iload_n hx hb dR_copyNumbers_20 rfl (lv_at hl 0 rfl) ?_
          refine lv_aload_n hx hb dR_copyNumbers_21 rfl (lv_at hl 2 rfl) ?_
          refine m_get (C := "RationalForms$Reduction") (T := TxR) (N := 2) hx hb hg uwR hown hK hP (by omega) (sh_R E _) rfl 1 (by decide) wd36 rfl dR_copyNumbers_22 ?_
          refine j_icmp_ge hx hb (by omega) (by rw [hI.1]; omega) dR_copyNumbers_25 rfl (fun h2 => ?_) (fun h2 => ?_)
          · rw [hI.1] at h2
            omega
          · refine lv_aload_n hx hb dR_copyNumbers_28 rfl (lv_at hl 2 rfl) ?_
            refine m_get (C := "RationalForms$Reduction") (T := TxR) (N := 2) hx hb hg uwR hown hK hP (by omega) (sh_R E _) rfl 0 (by decide) wd35 rfl dR_copyNumbers_29 ?_
            refine lv_iload_n hx hb dR_copyNumbers_32 rfl (lv_at hl 1 rfl) ?_
            refine m_aald (t0 := 3) (n := i) hx hb hK hP (by omega) (sh_b E _) rfl rfl rfl (by omega) (by decide) dR_copyNumbers_33 ?_
            refine lv_iload_n hx hb dR_copyNumbers_34 rfl (lv_at hl 0 rfl) ?_
            refine lv_aload_n hx hb dR_copyNumbers_35 rfl (lv_at hl 3 rfl) ?_
            refine m_getN (C := "RationalForms$Form") (T := TxF) (N := 2) hx hb hg uwF hown hK hP (by omega) (sh_F E _ (by omega)) rfl 1 (by decide) wd54 rfl dR_copyNumbers_36 ?_
            refine lv_iload_n hx hb dR_copyNumbers_39 rfl (lv_at hl 1 rfl) ?_
            refine m_aald (t0 := 2) (n := i) hx hb hK hP (by omega) (sh_o E _ (by omega)) rfl rfl rfl (by omega) (by decide) dR_copyNumbers_40 ?_
            refine lv_iload_n hx hb dR_copyNumbers_41 rfl (lv_at hl 0 rfl) ?_
            refine m_iald (n := j) hx hb hK hP (by omega) (sh_n E _ (by omega) (by omega)) rfl (by omega) (by decide) dR_copyNumbers_42 ?_
            refine j_i2l hx hb (by rw [hI.2 _ (by omega) (by omega)]; exact hb9 i j (by omega) (by omega)) dR_copyNumbers_43 ?_
            refine m_last (n := j) hx hb hK hJ hP hS (by omega) (fun r => sh_w E r (by omega)) rfl (by omega) (by decide) dR_copyNumbers_44 (fun H locs hP hS => ?_)
            refine lv_iinc (k := 0) (v := ji (((j:Int)) + 1)) hx hb dR_copyNumbers_45 hl rfl (Int32.ofInt_add _ _).symm (by decide) rfl (fun ls hl => ?_)
            have hl : lv_has ls 4 [(3, .int (ji (((j:Int)) + 1))), (2, .int (ji ((i:Int)))), (0, .ref (E.2.1 3)), (1, .ref (E.2.1 (5 + f)))] := hl
            refine lv_goto hx hb dR_copyNumbers_48 rfl ?_
            refine ihK (j + 1) _ H locs ls (by omega) ⟨?_, ?_⟩ ?_ ?_ hP hS hl
            · rw [mu_k (by omega)]; exact hI.1
            · intro q h3 h4
              rw [mu_k (by omega)]; exact hI.2 q h3 h4
            · intro a b ha hb
              rw [tb_mu, ut_k (by omega)]; exact hT a b ha hb
            · intro b hb
              rw [tb_mu]
              by_cases hbj : b = j
              · rw [hbj, ut_s, hI.2 _ (by omega) (by omega)]
              · rw [ut_k (by omega)]; exact hT2 b (by omega)
      refine lv_iload_n hx hb dR_copyNumbers_10 rfl (lv_at hl 0 rfl) ?_
      refine lv_aload_n hx hb dR_copyNumbers_11 rfl (lv_at hl 1 rfl) ?_
      refine m_get (C := "RationalForms$Reduction") (T := TxR) (N := 2) hx hb hg uwR hown hK hP (by omega) (sh_R E _) rfl 1 (by decide) wd36 rfl dR_copyNumbers_12 ?_
      refine j_icmp_ge hx hb (by omega) (by rw [hI.1]; omega) dR_copyNumbers_15 rfl (fun h1 => ?_) (fun h1 => ?_)
      · rw [hI.1] at h1
        omega
      · refine j_iconst hx hb dR_copyNumbers_18 ?_
        refine lv_istore_n hx hb dR_copyNumbers_19 rfl hl (by decide) rfl (fun ls hl => ?_)
        have hl : lv_has ls 4 [(3, .int (ji 0)), (2, .int (ji ((i:Int)))), (0, .ref (E.2.1 3)), (1, .ref (E.2.1 (5 + f)))] := hl
        exact inner n 0 M1 H locs ls (by omega) hI hT (fun b hb => by omega) hP hS hl
  refine lv_aload_n hx hb dR_copyNumbers_0 rfl (lv_at hl 0 rfl) ?_
  refine lv_aload_n hx hb dR_copyNumbers_1 rfl (lv_at hl 1 rfl) ?_
  refine m_getN (C := "RationalForms$Form") (T := TxF) (N := 2) hx hb hg uwF hown hK hP (by omega) (sh_F E _ (by omega)) rfl 0 (by decide) wd51 rfl dR_copyNumbers_2 ?_
  refine m_put (C := "RationalForms$Reduction") (T := TxR) (N := 2) (ty := .int) (z := M (5 + f) 0) hx hb hg uwR txR txR_ok nmR hown hK hJ hP hS (by omega) (sh_R E _) rfl 1 (by decide) wd36 rfl rfl rfl rfl (Nat.le_of_ble_eq_true rfl) (by rw [sh_R E _]; simp [mu]) dR_copyNumbers_5 (fun H locs hP hS => ?_)
  refine j_iconst hx hb dR_copyNumbers_8 ?_
  refine lv_istore_n hx hb dR_copyNumbers_9 rfl hl (by decide) rfl (fun ls hl => ?_)
  have hl : lv_has ls 4 [(2, .int (ji 0)), (0, .ref (E.2.1 3)), (1, .ref (E.2.1 (5 + f)))] := hl
  exact outer n 0 _ H locs ls (by omega) ⟨(mu_s _ _ _ _).trans hn0, fun q h1 h2 => mu_k h1⟩ (fun a b ha hb => by omega) hP hS hl

set_option maxRecDepth 100000 in
set_option maxHeartbeats 4000000 in
theorem kR_swapVariables (l : Launch) (E : En) (hJ : wJ E) (M : Me) (n : Nat) (hn0 : M 3 1 = n) (hn4 : n ≤ 4) (i k : Nat) (hi : i < n) (hk9 : k < n) : MM l yR_swapVariables wsR_swapVariables (rmd 0) E M [.ref (E.2.1 3), .int (ji ((i:Int))), .int (ji ((k:Int)))] (fun r M9 => r = none ∧ eqn n (tb M9) (swT i k (tb M)) ∧ FrR M M9) := by
  refine MM.ofG (by decide +kernel) (Nat.le_of_ble_eq_true rfl) ?_
  intro p_ e_ s_ m_ a_ b_ t_ c_ hx hb hml hr hk hg hown hK hP hS ls hl
  have hl : lv_has ls 6 [(0, .ref (E.2.1 3)), (1, .int (ji ((i:Int)))), (2, .int (ji ((k:Int))))] := hl
  have loop2 : ∀ (T1 : Mt) (_ : eq4 T1 (rsw i k n (tb M))) (N J : Nat) (M1 : Me) (H : Heap) (locs : List Loc) (ls : Array Slot), J + N = n → eq4 (tb M1) (csw i k J T1) → FrR M M1 → wP E M1 H → va_S (wA E) s_.heap H locs → lv_has ls 6 [(3, .int (ji ((J:Int)))), (0, .ref (E.2.1 3)), (1, .int (ji ((i:Int)))), (2, .int (ji ((k:Int))))] → W p_ l e_ (rmd 0) s_ m_ a_ b_ t_ c_ H locs 0 0 (XQ b_ (mmQ E (fun r M9 => r = none ∧ eqn n (tb M9) (swT i k (tb M)) ∧ FrR M M9)) a_ s_ 0 0 (wA E)) (F0 m_ 54 ls []) := by
    intro T1 hT1 N
    induction N with
    | zero =>
      intro J M1 H locs ls h0 hT hF hP hS hl
      refine lv_iload_n hx hb dR_swapVariables_54 rfl (lv_at hl 0 rfl) ?_
      refine lv_aload_n hx hb dR_swapVariables_55 rfl (lv_at hl 1 rfl) ?_
      refine m_get (C := "RationalForms$Reduction") (T := TxR) (N := 2) hx hb hg uwR hown hK hP (by omega) (sh_R E _) rfl 1 (by decide) wd36 rfl dR_swapVariables_56 ?_
      refine j_icmp_ge hx hb (by omega) (by rw [hF 3 (by omega), hn0]; omega) dR_swapVariables_59 rfl (fun h1 => ?_) (fun h1 => ?_)
      · exact mm_vret hx hb hr hk hP hS dR_swapVariables_104 ⟨rfl, sw_end hT1 (by rw [show n = J by omega]; exact hT) hn4 hi hk9, hF⟩
      · rw [hF 3 (by omega), hn0] at h1
        omega
    | succ N ih =>
      intro J M1 H locs ls h0 hT hF hP hS hl
      refine lv_iload_n hx hb dR_swapVariables_54 rfl (lv_at hl 0 rfl) ?_
      refine lv_aload_n hx hb dR_swapVariables_55 rfl (lv_at hl 1 rfl) ?_
      refine m_get (C := "RationalForms$Reduction") (T := TxR) (N := 2) hx hb hg uwR hown hK hP (by omega) (sh_R E _) rfl 1 (by decide) wd36 rfl dR_swapVariables_56 ?_
      refine j_icmp_ge hx hb (by omega) (by rw [hF 3 (by omega), hn0]; omega) dR_swapVariables_59 rfl (fun h1 => ?_) (fun h1 => ?_)
      · rw [hF 3 (by omega), hn0] at h1
        omega
      · refine lv_aload_n hx hb dR_swapVariables_62 rfl (lv_at hl 1 rfl) ?_
        refine m_get (C := "RationalForms$Reduction") (T := TxR) (N := 2) hx hb hg uwR hown hK hP (by omega) (sh_R E _) rfl 0 (by decide) wd35 rfl dR_swapVariables_63 ?_
        refine lv_iload_n hx hb dR_swapVariables_66 rfl (lv_at hl 0 rfl) ?_
        refine m_aald (t0 := 3) (n := J) hx hb hK hP (by omega) (sh_b E _) rfl rfl rfl (by omega) (by decide) dR_swapVariables_67 ?_
        refine lv_iload_n hx hb dR_swapVariables_68 rfl (lv_at hl 2 rfl) ?_
        refine m_lald (n := i) hx hb hK hP (by omega) (sh_w E _ (by omega)) rfl (by omega) (by decide) dR_swapVariables_69 ?_
        refine lv_lstore hx hb dR_swapVariables_70 hl (by decide) rfl (fun ls hl => ?_)
        have hl : lv_has ls 6 [(4, .long (jl (M1 (24 + J) i))), (3, .int (ji ((J:Int)))), (0, .ref (E.2.1 3)), (1, .int (ji ((i:Int)))), (2, .int (ji ((k:Int))))] := hl
        refine lv_aload_n hx hb dR_swapVariables_72 rfl (lv_at hl 2 rfl) ?_
        refine m_get (C := "RationalForms$Reduction") (T := TxR) (N := 2) hx hb hg uwR hown hK hP (by omega) (sh_R E _) rfl 0 (by decide) wd35 rfl dR_swapVariables_73 ?_
        refine lv_iload_n hx hb dR_swapVariables_76 rfl (lv_at hl 1 rfl) ?_
        refine m_aald (t0 := 3) (n := J) hx hb hK hP (by omega) (sh_b E _) rfl rfl rfl (by omega) (by decide) dR_swapVariables_77 ?_
        refine lv_iload_n hx hb dR_swapVariables_78 rfl (lv_at hl 3 rfl) ?_
        refine lv_aload_n hx hb dR_swapVariables_79 rfl (lv_at hl 2 rfl) ?_
        refine m_get (C := "RationalForms$Reduction") (T := TxR) (N := 2) hx hb hg uwR hown hK hP (by omega) (sh_R E _) rfl 0 (by decide) wd35 rfl dR_swapVariables_80 ?_
        refine lv_iload_n hx hb dR_swapVariables_83 rfl (lv_at hl 1 rfl) ?_
        refine m_aald (t0 := 3) (n := J) hx hb hK hP (by omega) (sh_b E _) rfl rfl rfl (by omega) (by decide) dR_swapVariables_84 ?_
        refine lv_iload_n hx hb dR_swapVariables_85 rfl (lv_at hl 4 rfl) ?_
        refine m_lald (n := k) hx hb hK hP (by omega) (sh_w E _ (by omega)) rfl (by omega) (by decide) dR_swapVariables_86 ?_
        refine m_last (n := i) hx hb hK hJ hP hS (by omega) (fun r => sh_w E r (by omega)) rfl (by omega) (by decide) dR_swapVariables_87 (fun H locs hP hS => ?_)
        refine lv_aload_n hx hb dR_swapVariables_88 rfl (lv_at hl 2 rfl) ?_
        refine m_get (C := "RationalForms$Reduction") (T := TxR) (N := 2) hx hb hg uwR hown hK hP (by omega) (sh_R E _) rfl 0 (by decide) wd35 rfl dR_swapVariables_89 ?_
        refine lv_iload_n hx hb dR_swapVariables_92 rfl (lv_at hl 1 rfl) ?_
        refine m_aald (t0 := 3) (n := J) hx hb hK hP (by omega) (sh_b E _) rfl rfl rfl (by omega) (by decide) dR_swapVariables_93 ?_
        refine lv_iload_n hx hb dR_swapVariables_94 rfl (lv_at hl 4 rfl) ?_
        refine lv_lload hx hb dR_swapVariables_95 (lv_at hl 0 rfl) ?_
        refine m_last (n := k) hx hb hK hJ hP hS (by omega) (fun r => sh_w E r (by omega)) rfl (by omega) (by decide) dR_swapVariables_97 (fun H locs hP hS => ?_)
        refine lv_iinc (k := 1) (v := ji (((J:Int)) + 1)) hx hb dR_swapVariables_98 hl rfl (Int32.ofInt_add _ _).symm (by decide) rfl (fun ls hl => ?_)
        have hl : lv_has ls 6 [(3, .int (ji (((J:Int)) + 1))), (4, .long (jl (M1 (24 + J) i))), (0, .ref (E.2.1 3)), (1, .int (ji ((i:Int)))), (2, .int (ji ((k:Int))))] := hl
        refine lv_goto hx hb dR_swapVariables_101 rfl ?_
        exact ih (J + 1) _ H locs ls (by omega) (by rw [tb_mu, tb_mu]; exact csw_s hT (by omega) (by omega) (by omega)) ((hF.mu (by omega) _ _).mu (by omega) _ _) hP hS (lv_sub hl [0, 2, 3, 4] rfl)
  have loop1 : ∀ (N J : Nat) (M1 : Me) (H : Heap) (locs : List Loc) (ls : Array Slot), J + N = n → eq4 (tb M1) (rsw i k J (tb M)) → FrR M M1 → wP E M1 H → va_S (wA E) s_.heap H locs → lv_has ls 6 [(3, .int (ji ((J:Int)))), (0, .ref (E.2.1 3)), (1, .int (ji ((i:Int)))), (2, .int (ji ((k:Int))))] → W p_ l e_ (rmd 0) s_ m_ a_ b_ t_ c_ H locs 0 0 (XQ b_ (mmQ E (fun r M9 => r = none ∧ eqn n (tb M9) (swT i k (tb M)) ∧ FrR M M9)) a_ s_ 0 0 (wA E)) (F0 m_ 2 ls []) := by
    intro N
    induction N with
    | zero =>
      intro J M1 H locs ls h0 hT hF hP hS hl
      refine lv_iload_n hx hb dR_swapVariables_2 rfl (lv_at hl 0 rfl) ?_
      refine lv_aload_n hx hb dR_swapVariables_3 rfl (lv_at hl 1 rfl) ?_
      refine m_get (C := "RationalForms$Reduction") (T := TxR) (N := 2) hx hb hg uwR hown hK hP (by omega) (sh_R E _) rfl 1 (by decide) wd36 rfl dR_swapVariables_4 ?_
      refine j_icmp_ge hx hb (by omega) (by rw [hF 3 (by omega), hn0]; omega) dR_swapVariables_7 rfl (fun h1 => ?_) (fun h1 => ?_)
      · refine j_iconst hx hb dR_swapVariables_52 ?_
        refine lv_istore_n hx hb dR_swapVariables_53 rfl hl (by decide) rfl (fun ls hl => ?_)
        have hl : lv_has ls 6 [(3, .int (ji 0)), (0, .ref (E.2.1 3)), (1, .int (ji ((i:Int)))), (2, .int (ji ((k:Int))))] := hl
        exact loop2 (tb M1) (by rw [show n = J by omega]; exact hT) n 0 M1 H locs ls (by omega) (csw_0 i k _) hF hP hS hl
      · rw [hF 3 (by omega), hn0] at h1
        omega
    | succ N ih =>
      intro J M1 H locs ls h0 hT hF hP hS hl
      refine lv_iload_n hx hb dR_swapVariables_2 rfl (lv_at hl 0 rfl) ?_
      refine lv_aload_n hx hb dR_swapVariables_3 rfl (lv_at hl 1 rfl) ?_
      refine m_get (C := "RationalForms$Reduction") (T := TxR) (N := 2) hx hb hg uwR hown hK hP (by omega) (sh_R E _) rfl 1 (by decide) wd36 rfl dR_swapVariables_4 ?_
      refine j_icmp_ge hx hb (by omega) (by rw [hF 3 (by omega), hn0]; omega) dR_swapVariables_7 rfl (fun h1 => ?_) (fun h1 => ?_)
      · rw [hF 3 (by omega), hn0] at h1
        omega
      · refine lv_aload_n hx hb dR_swapVariables_10 rfl (lv_at hl 1 rfl) ?_
        refine m_get (C := "RationalForms$Reduction") (T := TxR) (N := 2) hx hb hg uwR hown hK hP (by omega) (sh_R E _) rfl 0 (by decide) wd35 rfl dR_swapVariables_11 ?_
        refine lv_iload_n hx hb dR_swapVariables_14 rfl (lv_at hl 2 rfl) ?_
        refine m_aald (t0 := 3) (n := i) hx hb hK hP (by omega) (sh_b E _) rfl rfl rfl (by omega) (by decide) dR_swapVariables_15 ?_
        refine lv_iload_n hx hb dR_swapVariables_16 rfl (lv_at hl 0 rfl) ?_
        refine m_lald (n := J) hx hb hK hP (by omega) (sh_w E _ (by omega)) rfl (by omega) (by decide) dR_swapVariables_17 ?_
        refine lv_lstore hx hb dR_swapVariables_18 hl (by decide) rfl (fun ls hl => ?_)
        have hl : lv_has ls 6 [(4, .long (jl (M1 (24 + i) J))), (3, .int (ji ((J:Int)))), (0, .ref (E.2.1 3)), (1, .int (ji ((i:Int)))), (2, .int (ji ((k:Int))))] := hl
        refine lv_aload_n hx hb dR_swapVariables_20 rfl (lv_at hl 2 rfl) ?_
        refine m_get (C := "RationalForms$Reduction") (T := TxR) (N := 2) hx hb hg uwR hown hK hP (by omega) (sh_R E _) rfl 0 (by decide) wd35 rfl dR_swapVariables_21 ?_
        refine lv_iload_n hx hb dR_swapVariables_24 rfl (lv_at hl 3 rfl) ?_
        refine m_aald (t0 := 3) (n := i) hx hb hK hP (by omega) (sh_b E _) rfl rfl rfl (by omega) (by decide) dR_swapVariables_25 ?_
        refine lv_iload_n hx hb dR_swapVariables_26 rfl (lv_at hl 1 rfl) ?_
        refine lv_aload_n hx hb dR_swapVariables_27 rfl (lv_at hl 2 rfl) ?_
        refine m_get (C := "RationalForms$Reduction") (T := TxR) (N := 2) hx hb hg uwR hown hK hP (by omega) (sh_R E _) rfl 0 (by decide) wd35 rfl dR_swapVariables_28 ?_
        refine lv_iload_n hx hb dR_swapVariables_31 rfl (lv_at hl 4 rfl) ?_
        refine m_aald (t0 := 3) (n := k) hx hb hK hP (by omega) (sh_b E _) rfl rfl rfl (by omega) (by decide) dR_swapVariables_32 ?_
        refine lv_iload_n hx hb dR_swapVariables_33 rfl (lv_at hl 1 rfl) ?_
        refine m_lald (n := J) hx hb hK hP (by omega) (sh_w E _ (by omega)) rfl (by omega) (by decide) dR_swapVariables_34 ?_
        refine m_last (n := J) hx hb hK hJ hP hS (by omega) (fun r => sh_w E r (by omega)) rfl (by omega) (by decide) dR_swapVariables_35 (fun H locs hP hS => ?_)
        refine lv_aload_n hx hb dR_swapVariables_36 rfl (lv_at hl 2 rfl) ?_
        refine m_get (C := "RationalForms$Reduction") (T := TxR) (N := 2) hx hb hg uwR hown hK hP (by omega) (sh_R E _) rfl 0 (by decide) wd35 rfl dR_swapVariables_37 ?_
        refine lv_iload_n hx hb dR_swapVariables_40 rfl (lv_at hl 4 rfl) ?_
        refine m_aald (t0 := 3) (n := k) hx hb hK hP (by omega) (sh_b E _) rfl rfl rfl (by omega) (by decide) dR_swapVariables_41 ?_
        refine lv_iload_n hx hb dR_swapVariables_42 rfl (lv_at hl 1 rfl) ?_
        refine lv_lload hx hb dR_swapVariables_43 (lv_at hl 0 rfl) ?_
        refine m_last (n := J) hx hb hK hJ hP hS (by omega) (fun r => sh_w E r (by omega)) rfl (by omega) (by decide) dR_swapVariables_45 (fun H locs hP hS => ?_)
        refine lv_iinc (k := 1) (v := ji (((J:Int)) + 1)) hx hb dR_swapVariables_46 hl rfl (Int32.ofInt_add _ _).symm (by decide) rfl (fun ls hl => ?_)
        have hl : lv_has ls 6 [(3, .int (ji (((J:Int)) + 1))), (4, .long (jl (M1 (24 + i) J))), (0, .ref (E.2.1 3)), (1, .int (ji ((i:Int)))), (2, .int (ji ((k:Int))))] := hl
        refine lv_goto hx hb dR_swapVariables_49 rfl ?_
        exact ih (J + 1) _ H locs ls (by omega) (by rw [tb_mu, tb_mu]; exact rsw_s hT (by omega) (by omega) (by omega)) ((hF.mu (by omega) _ _).mu (by omega) _ _) hP hS (lv_sub hl [0, 2, 3, 4] rfl)
  refine j_iconst hx hb dR_swapVariables_0 ?_
  refine lv_istore_n hx hb dR_swapVariables_1 rfl hl (by decide) rfl (fun ls hl => ?_)
  have hl : lv_has ls 6 [(3, .int (ji 0)), (0, .ref (E.2.1 3)), (1, .int (ji ((i:Int)))), (2, .int (ji ((k:Int))))] := hl
  exact loop1 n 0 M s_.heap [] ls (by omega) (rsw_0 i k _) (FrR.rf M) hP hS hl

set_option maxRecDepth 100000 in
set_option maxHeartbeats 4000000 in
theorem kR_addVariable (l : Launch) (E : En) (hJ : wJ E) (M : Me) (n : Nat) (hn0 : M 3 1 = n) (hn4 : n ≤ 4) (fr to st : Nat) (hf0 : fr < n) (ht0 : to < n) (hs0 : st ≤ n) (hne : fr ≠ to) : MM l yR_addVariable wsR_addVariable (rmd 0) E M [.ref (E.2.1 3), .int (ji ((fr:Int))), .int (ji ((to:Int))), .int (ji ((st:Int)))] (fun r M9 => r = none ∧ eqn n (tb M9) (adT fr to st n (tb M)) ∧ FrR M M9) := by
  refine MM.ofG (by decide +kernel) (Nat.le_of_ble_eq_true rfl) ?_
  intro p_ e_ s_ m_ a_ b_ t_ c_ hx hb hml hr hk hg hown hK hP hS ls hl
  have hl : lv_has ls 5 [(0, .ref (E.2.1 3)), (1, .int (ji ((fr:Int)))), (2, .int (ji ((to:Int)))), (3, .int (ji ((st:Int))))] := hl
  have loop2 : ∀ (T1 : Mt) (_ : eq4 T1 (rad fr to st n (tb M))) (N J : Nat) (M1 : Me) (H : Heap) (locs : List Loc) (ls : Array Slot), J + N = n → st ≤ J → eq4 (tb M1) (cad fr to st J T1) → FrR M M1 → wP E M1 H → va_S (wA E) s_.heap H locs → lv_has ls 5 [(4, .int (ji ((J:Int)))), (0, .ref (E.2.1 3)), (1, .int (ji ((fr:Int)))), (2, .int (ji ((to:Int)))), (3, .int (ji ((st:Int))))] → W p_ l e_ (rmd 0) s_ m_ a_ b_ t_ c_ H locs 0 0 (XQ b_ (mmQ E (fun r M9 => r = none ∧ eqn n (tb M9) (adT fr to st n (tb M)) ∧ FrR M M9)) a_ s_ 0 0 (wA E)) (F0 m_ 42 ls []) := by
    intro T1 hT1 N
    induction N with
    | zero =>
      intro J M1 H locs ls h0 hsJ hT hF hP hS hl
      refine lv_iload hx hb dR_addVariable_42 (lv_at hl 0 rfl) ?_
      refine lv_aload_n hx hb dR_addVariable_44 rfl (lv_at hl 1 rfl) ?_
      refine m_get (C := "RationalForms$Reduction") (T := TxR) (N := 2) hx hb hg uwR hown hK hP (by omega) (sh_R E _) rfl 1 (by decide) wd36 rfl dR_addVariable_45 ?_
      refine j_icmp_ge hx hb (by omega) (by rw [hF 3 (by omega), hn0]; omega) dR_addVariable_48 rfl (fun h1 => ?_) (fun h1 => ?_)
      · exact mm_vret hx hb hr hk hP hS dR_addVariable_78 ⟨rfl, ad_end hT1 (by rw [show n = J by omega]; exact hT) hn4 hf0 ht0, hF⟩
      · rw [hF 3 (by omega), hn0] at h1
        omega
    | succ N ih =>
      intro J M1 H locs ls h0 hsJ hT hF hP hS hl
      refine lv_iload hx hb dR_addVariable_42 (lv_at hl 0 rfl) ?_
      refine lv_aload_n hx hb dR_addVariable_44 rfl (lv_at hl 1 rfl) ?_
      refine m_get (C := "RationalForms$Reduction") (T := TxR) (N := 2) hx hb hg uwR hown hK hP (by omega) (sh_R E _) rfl 1 (by decide) wd36 rfl dR_addVariable_45 ?_
      refine j_icmp_ge hx hb (by omega) (by rw [hF 3 (by omega), hn0]; omega) dR_addVariable_48 rfl (fun h1 => ?_) (fun h1 => ?_)
      · rw [hF 3 (by omega), hn0] at h1
        omega
      · refine lv_aload_n hx hb dR_addVariable_51 rfl (lv_at hl 1 rfl) ?_
        refine m_get (C := "RationalForms$Reduction") (T := TxR) (N := 2) hx hb hg uwR hown hK hP (by omega) (sh_R E _) rfl 0 (by decide) wd35 rfl dR_addVariable_52 ?_
        refine lv_iload hx hb dR_addVariable_55 (lv_at hl 0 rfl) ?_
        refine m_aald (t0 := 3) (n := J) hx hb hK hP (by omega) (sh_b E _) rfl rfl rfl (by omega) (by decide) dR_addVariable_57 ?_
        refine lv_iload_n hx hb dR_addVariable_58 rfl (lv_at hl 3 rfl) ?_
        refine lv_dup2_11 hx hb dR_addVariable_59 rfl rfl ?_
        refine m_lald (n := to) hx hb hK hP (by omega) (sh_w E _ (by omega)) rfl (by omega) (by decide) dR_addVariable_60 ?_
        refine lv_aload_n hx hb dR_addVariable_61 rfl (lv_at hl 1 rfl) ?_
        refine m_get (C := "RationalForms$Reduction") (T := TxR) (N := 2) hx hb hg uwR hown hK hP (by omega) (sh_R E _) rfl 0 (by decide) wd35 rfl dR_addVariable_62 ?_
        refine lv_iload hx hb dR_addVariable_65 (lv_at hl 0 rfl) ?_
        refine m_aald (t0 := 3) (n := J) hx hb hK hP (by omega) (sh_b E _) rfl rfl rfl (by omega) (by decide) dR_addVariable_67 ?_
        refine lv_iload_n hx hb dR_addVariable_68 rfl (lv_at hl 2 rfl) ?_
        refine m_lald (n := fr) hx hb hK hP (by omega) (sh_w E _ (by omega)) rfl (by omega) (by decide) dR_addVariable_69 ?_
        refine j_ladd hx hb dR_addVariable_70 ?_
        refine m_last (n := to) hx hb hK hJ hP hS (by omega) (fun r => sh_w E r (by omega)) rfl (by omega) (by decide) dR_addVariable_71 (fun H locs hP hS => ?_)
        refine lv_iinc (k := 0) (v := ji (((J:Int)) + 1)) hx hb dR_addVariable_72 hl rfl (Int32.ofInt_add _ _).symm (by decide) rfl (fun ls hl => ?_)
        have hl : lv_has ls 5 [(4, .int (ji (((J:Int)) + 1))), (0, .ref (E.2.1 3)), (1, .int (ji ((fr:Int)))), (2, .int (ji ((to:Int)))), (3, .int (ji ((st:Int))))] := hl
        refine lv_goto hx hb dR_addVariable_75 rfl ?_
        exact ih (J + 1) _ H locs ls (by omega) (by omega) (by rw [tb_mu]; exact cad_s hT (by omega) (by omega) hne hsJ (by omega)) (hF.mu (by omega) _ _) hP hS hl
  have loop1 : ∀ (N J : Nat) (M1 : Me) (H : Heap) (locs : List Loc) (ls : Array Slot), J + N = n → st ≤ J → eq4 (tb M1) (rad fr to st J (tb M)) → FrR M M1 → wP E M1 H → va_S (wA E) s_.heap H locs → lv_has ls 5 [(4, .int (ji ((J:Int)))), (0, .ref (E.2.1 3)), (1, .int (ji ((fr:Int)))), (2, .int (ji ((to:Int)))), (3, .int (ji ((st:Int))))] → W p_ l e_ (rmd 0) s_ m_ a_ b_ t_ c_ H locs 0 0 (XQ b_ (mmQ E (fun r M9 => r = none ∧ eqn n (tb M9) (adT fr to st n (tb M)) ∧ FrR M M9)) a_ s_ 0 0 (wA E)) (F0 m_ 3 ls []) := by
    intro N
    induction N with
    | zero =>
      intro J M1 H locs ls h0 hsJ hT hF hP hS hl
      refine lv_iload hx hb dR_addVariable_3 (lv_at hl 0 rfl) ?_
      refine lv_aload_n hx hb dR_addVariable_5 rfl (lv_at hl 1 rfl) ?_
      refine m_get (C := "RationalForms$Reduction") (T := TxR) (N := 2) hx hb hg uwR hown hK hP (by omega) (sh_R E _) rfl 1 (by decide) wd36 rfl dR_addVariable_6 ?_
      refine j_icmp_ge hx hb (by omega) (by rw [hF 3 (by omega), hn0]; omega) dR_addVariable_9 rfl (fun h1 => ?_) (fun h1 => ?_)
      · refine lv_iload_n hx hb dR_addVariable_39 rfl (lv_at hl 4 rfl) ?_
        refine lv_istore hx hb dR_addVariable_40 hl (by decide) rfl (fun ls hl => ?_)
        have hl : lv_has ls 5 [(4, .int (ji ((st:Int)))), (0, .ref (E.2.1 3)), (1, .int (ji ((fr:Int)))), (2, .int (ji ((to:Int)))), (3, .int (ji ((st:Int))))] := hl
        exact loop2 (tb M1) (by rw [show n = J by omega]; exact hT) (n - st) st M1 H locs ls (by omega) (by omega) (cad_0 fr to st _) hF hP hS hl
      · rw [hF 3 (by omega), hn0] at h1
        omega
    | succ N ih =>
      intro J M1 H locs ls h0 hsJ hT hF hP hS hl
      refine lv_iload hx hb dR_addVariable_3 (lv_at hl 0 rfl) ?_
      refine lv_aload_n hx hb dR_addVariable_5 rfl (lv_at hl 1 rfl) ?_
      refine m_get (C := "RationalForms$Reduction") (T := TxR) (N := 2) hx hb hg uwR hown hK hP (by omega) (sh_R E _) rfl 1 (by decide) wd36 rfl dR_addVariable_6 ?_
      refine j_icmp_ge hx hb (by omega) (by rw [hF 3 (by omega), hn0]; omega) dR_addVariable_9 rfl (fun h1 => ?_) (fun h1 => ?_)
      · rw [hF 3 (by omega), hn0] at h1
        omega
      · refine lv_aload_n hx hb dR_addVariable_12 rfl (lv_at hl 1 rfl) ?_
        refine m_get (C := "RationalForms$Reduction") (T := TxR) (N := 2) hx hb hg uwR hown hK hP (by omega) (sh_R E _) rfl 0 (by decide) wd35 rfl dR_addVariable_13 ?_
        refine lv_iload_n hx hb dR_addVariable_16 rfl (lv_at hl 3 rfl) ?_
        refine m_aald (t0 := 3) (n := to) hx hb hK hP (by omega) (sh_b E _) rfl rfl rfl (by omega) (by decide) dR_addVariable_17 ?_
        refine lv_iload hx hb dR_addVariable_18 (lv_at hl 0 rfl) ?_
        refine lv_dup2_11 hx hb dR_addVariable_20 rfl rfl ?_
        refine m_lald (n := J) hx hb hK hP (by omega) (sh_w E _ (by omega)) rfl (by omega) (by decide) dR_addVariable_21 ?_
        refine lv_aload_n hx hb dR_addVariable_22 rfl (lv_at hl 1 rfl) ?_
        refine m_get (C := "RationalForms$Reduction") (T := TxR) (N := 2) hx hb hg uwR hown hK hP (by omega) (sh_R E _) rfl 0 (by decide) wd35 rfl dR_addVariable_23 ?_
        refine lv_iload_n hx hb dR_addVariable_26 rfl (lv_at hl 2 rfl) ?_
        refine m_aald (t0 := 3) (n := fr) hx hb hK hP (by omega) (sh_b E _) rfl rfl rfl (by omega) (by decide) dR_addVariable_27 ?_
        refine lv_iload hx hb dR_addVariable_28 (lv_at hl 0 rfl) ?_
        refine m_lald (n := J) hx hb hK hP (by omega) (sh_w E _ (by omega)) rfl (by omega) (by decide) dR_addVariable_30 ?_
        refine j_ladd hx hb dR_addVariable_31 ?_
        refine m_last (n := J) hx hb hK hJ hP hS (by omega) (fun r => sh_w E r (by omega)) rfl (by omega) (by decide) dR_addVariable_32 (fun H locs hP hS => ?_)
        refine lv_iinc (k := 0) (v := ji (((J:Int)) + 1)) hx hb dR_addVariable_33 hl rfl (Int32.ofInt_add _ _).symm (by decide) rfl (fun ls hl => ?_)
        have hl : lv_has ls 5 [(4, .int (ji (((J:Int)) + 1))), (0, .ref (E.2.1 3)), (1, .int (ji ((fr:Int)))), (2, .int (ji ((to:Int)))), (3, .int (ji ((st:Int))))] := hl
        refine lv_goto hx hb dR_addVariable_36 rfl ?_
        exact ih (J + 1) _ H locs ls (by omega) (by omega) (by rw [tb_mu]; exact rad_s hT (by omega) (by omega) hne hsJ (by omega)) (hF.mu (by omega) _ _) hP hS hl
  refine lv_iload_n hx hb dR_addVariable_0 rfl (lv_at hl 3 rfl) ?_
  refine lv_istore hx hb dR_addVariable_1 hl (by decide) rfl (fun ls hl => ?_)
  have hl : lv_has ls 5 [(4, .int (ji ((st:Int)))), (0, .ref (E.2.1 3)), (1, .int (ji ((fr:Int)))), (2, .int (ji ((to:Int)))), (3, .int (ji ((st:Int))))] := hl
  exact loop1 (n - st) st M s_.heap [] ls (by omega) (by omega) (rad_0 fr to st _) (FrR.rf M) hP hS hl

set_option maxRecDepth 100000 in
set_option maxHeartbeats 4000000 in
theorem kR_eliminate (l : Launch) (E : En) (hJ : wJ E) (M : Me) (n : Nat) (hn0 : M 3 1 = n) (hn4 : n ≤ 4) (k : Nat) (hk9 : k < n) (p9 q9 : Int) (hp : p9.natAbs ≤ 2000000000) (hq : b64 q9) (hq0 : q9 ≠ 0) (hT0 : ∀ a b, k ≤ a → a < n → k ≤ b → b < n → (tb M a b).natAbs ≤ 2000000000) : MM l yR_eliminate wsR_eliminate (rmd 0) E M [.ref (E.2.1 3), .int (ji ((k:Int))), .long (jl p9), .long (jl q9)] (fun r M9 => r = none ∧ eqn n (tb M9) (elT k n p9 q9 (tb M)) ∧ FrR M M9) := by
  refine MM.ofG (by decide +kernel) (Nat.le_of_ble_eq_true rfl) ?_
  intro p_ e_ s_ m_ a_ b_ t_ c_ hx hb hml hr hk hg hown hK hP hS ls hl
  have hl : lv_has ls 8 [(0, .ref (E.2.1 3)), (1, .int (ji ((k:Int)))), (2, .long (jl p9)), (4, .long (jl q9))] := hl
  have outer : ∀ (N I : Nat) (M1 : Me) (H : Heap) (locs : List Loc) (ls : Array Slot), I + N = n → k < I → eqn n (tb M1) (ela k p9 q9 I (k + 1) (tb M)) → FrR M M1 → wP E M1 H → va_S (wA E) s_.heap H locs → lv_has ls 8 [(6, .int (ji ((I:Int)))), (0, .ref (E.2.1 3)), (1, .int (ji ((k:Int)))), (2, .long (jl p9)), (4, .long (jl q9))] → W p_ l e_ (rmd 0) s_ m_ a_ b_ t_ c_ H locs 0 0 (XQ b_ (mmQ E (fun r M9 => r = none ∧ eqn n (tb M9) (elT k n p9 q9 (tb M)) ∧ FrR M M9)) a_ s_ 0 0 (wA E)) (F0 m_ 5 ls []) := by
    intro N
    induction N with
    | zero =>
      intro I M1 H locs ls h0 hkI hT hF hP hS hl
      refine lv_iload hx hb dR_eliminate_5 (lv_at hl 0 rfl) ?_
      refine lv_aload_n hx hb dR_eliminate_7 rfl (lv_at hl 1 rfl) ?_
      refine m_get (C := "RationalForms$Reduction") (T := TxR) (N := 2) hx hb hg uwR hown hK hP (by omega) (sh_R E _) rfl 1 (by decide) wd36 rfl dR_eliminate_8 ?_
      refine j_icmp_ge hx hb (by omega) (by rw [hF 3 (by omega), hn0]; omega) dR_eliminate_11 rfl (fun h1 => ?_) (fun h1 => ?_)
      · exact mm_vret hx hb hr hk hP hS dR_eliminate_85 ⟨rfl, ela_e (by rw [show I = n by omega] at hT; exact hT), hF⟩
      · rw [hF 3 (by omega), hn0] at h1
        omega
    | succ N ih =>
      intro I M1 H locs ls h0 hkI hT hF hP hS hl
      have inner : ∀ (K J : Nat) (M1 : Me) (H : Heap) (locs : List Loc) (ls : Array Slot), J + K = n → k < J → eqn n (tb M1) (ela k p9 q9 I J (tb M)) → FrR M M1 → wP E M1 H → va_S (wA E) s_.heap H locs → lv_has ls 8 [(7, .int (ji ((J:Int)))), (6, .int (ji ((I:Int)))), (0, .ref (E.2.1 3)), (1, .int (ji ((k:Int)))), (2, .long (jl p9)), (4, .long (jl q9))] → W p_ l e_ (rmd 0) s_ m_ a_ b_ t_ c_ H locs 0 0 (XQ b_ (mmQ E (fun r M9 => r = none ∧ eqn n (tb M9) (elT k n p9 q9 (tb M)) ∧ FrR M M9)) a_ s_ 0 0 (wA E)) (F0 m_ 19 ls []) := by
        intro K
        induction K with
        | zero =>
          intro J M1 H locs ls h1 hkJ hT hF hP hS hl
          refine lv_iload hx hb dR_eliminate_19 (lv_at hl 0 rfl) ?_
          refine lv_aload_n hx hb dR_eliminate_21 rfl (lv_at hl 2 rfl) ?_
          refine m_get (C := "RationalForms$Reduction") (T := TxR) (N := 2) hx hb hg uwR hown hK hP (by omega) (sh_R E _) rfl 1 (by decide) wd36 rfl dR_eliminate_22 ?_
          refine j_icmp_ge hx hb (by omega) (by rw [hF 3 (by omega), hn0]; omega) dR_eliminate_25 rfl (fun h2 => ?_) (fun h2 => ?_)
          · refine lv_iinc (k := 1) (v := ji (((I:Int)) + 1)) hx hb dR_eliminate_79 hl rfl (Int32.ofInt_add _ _).symm (by decide) rfl (fun ls hl => ?_)
            have hl : lv_has ls 8 [(6, .int (ji (((I:Int)) + 1))), (7, .int (ji ((J:Int)))), (0, .ref (E.2.1 3)), (1, .int (ji ((k:Int)))), (2, .long (jl p9)), (4, .long (jl q9))] := hl
            refine lv_goto hx hb dR_eliminate_82 rfl ?_
            exact ih (I + 1) M1 H locs ls (by omega) (by omega) (ela_r (by rw [show J = n by omega] at hT; exact hT)) hF hP hS (lv_sub hl [0, 2, 3, 4, 5] rfl)
          · rw [hF 3 (by omega), hn0] at h2
            omega
        | succ K ihK =>
          intro J M1 H locs ls h1 hkJ hT hF hP hS hl
          have hz : ∀ a b, (a = I ∨ a = k) → (b = J ∨ b = k) → (M1 (24 + a) b).natAbs ≤ 2000000000 := fun a b ha hb => by
            by_cases hab : k < a ∧ k < b ∧ (a < I ∨ a = I ∧ b < J)
            · omega
            · have := hT a b (by omega) (by omega)
              unfold ela at this
              rw [if_neg hab] at this
              show (tb M1 a b).natAbs ≤ _
              rw [this]
              exact hT0 a b (by omega) (by omega) (by omega) (by omega)
          refine lv_iload hx hb dR_eliminate_19 (lv_at hl 0 rfl) ?_
          refine lv_aload_n hx hb dR_eliminate_21 rfl (lv_at hl 2 rfl) ?_
          refine m_get (C := "RationalForms$Reduction") (T := TxR) (N := 2) hx hb hg uwR hown hK hP (by omega) (sh_R E _) rfl 1 (by decide) wd36 rfl dR_eliminate_22 ?_
          refine j_icmp_ge hx hb (by omega) (by rw [hF 3 (by omega), hn0]; omega) dR_eliminate_25 rfl (fun h2 => ?_) (fun h2 => ?_)
          · rw [hF 3 (by omega), hn0] at h2
            omega
          · refine lv_aload_n hx hb dR_eliminate_28 rfl (lv_at hl 2 rfl) ?_
            refine m_get (C := "RationalForms$Reduction") (T := TxR) (N := 2) hx hb hg uwR hown hK hP (by omega) (sh_R E _) rfl 0 (by decide) wd35 rfl dR_eliminate_29 ?_
            refine lv_iload hx hb dR_eliminate_32 (lv_at hl 1 rfl) ?_
            refine m_aald (t0 := 3) (n := I) hx hb hK hP (by omega) (sh_b E _) rfl rfl rfl (by omega) (by decide) dR_eliminate_34 ?_
            refine lv_iload hx hb dR_eliminate_35 (lv_at hl 0 rfl) ?_
            refine lv_aload_n hx hb dR_eliminate_37 rfl (lv_at hl 2 rfl) ?_
            refine m_get (C := "RationalForms$Reduction") (T := TxR) (N := 2) hx hb hg uwR hown hK hP (by omega) (sh_R E _) rfl 0 (by decide) wd35 rfl dR_eliminate_38 ?_
            refine lv_iload hx hb dR_eliminate_41 (lv_at hl 1 rfl) ?_
            refine m_aald (t0 := 3) (n := I) hx hb hK hP (by omega) (sh_b E _) rfl rfl rfl (by omega) (by decide) dR_eliminate_43 ?_
            refine lv_iload hx hb dR_eliminate_44 (lv_at hl 0 rfl) ?_
            refine m_lald (n := J) hx hb hK hP (by omega) (sh_w E _ (by omega)) rfl (by omega) (by decide) dR_eliminate_46 ?_
            refine lv_lload_n hx hb dR_eliminate_47 rfl (lv_at hl 4 rfl) ?_
            refine j_lmul hx hb dR_eliminate_48 ?_
            refine lv_aload_n hx hb dR_eliminate_49 rfl (lv_at hl 2 rfl) ?_
            refine m_get (C := "RationalForms$Reduction") (T := TxR) (N := 2) hx hb hg uwR hown hK hP (by omega) (sh_R E _) rfl 0 (by decide) wd35 rfl dR_eliminate_50 ?_
            refine lv_iload hx hb dR_eliminate_53 (lv_at hl 1 rfl) ?_
            refine m_aald (t0 := 3) (n := I) hx hb hK hP (by omega) (sh_b E _) rfl rfl rfl (by omega) (by decide) dR_eliminate_55 ?_
            refine lv_iload_n hx hb dR_eliminate_56 rfl (lv_at hl 3 rfl) ?_
            refine m_lald (n := k) hx hb hK hP (by omega) (sh_w E _ (by omega)) rfl (by omega) (by decide) dR_eliminate_57 ?_
            refine lv_aload_n hx hb dR_eliminate_58 rfl (lv_at hl 2 rfl) ?_
            refine m_get (C := "RationalForms$Reduction") (T := TxR) (N := 2) hx hb hg uwR hown hK hP (by omega) (sh_R E _) rfl 0 (by decide) wd35 rfl dR_eliminate_59 ?_
            refine lv_iload_n hx hb dR_eliminate_62 rfl (lv_at hl 3 rfl) ?_
            refine m_aald (t0 := 3) (n := k) hx hb hK hP (by omega) (sh_b E _) rfl rfl rfl (by omega) (by decide) dR_eliminate_63 ?_
            refine lv_iload hx hb dR_eliminate_64 (lv_at hl 0 rfl) ?_
            refine m_lald (n := J) hx hb hK hP (by omega) (sh_w E _ (by omega)) rfl (by omega) (by decide) dR_eliminate_66 ?_
            refine j_lmul hx hb dR_eliminate_67 ?_
            refine j_lsub hx hb dR_eliminate_68 ?_
            refine lv_lload hx hb dR_eliminate_69 (lv_at hl 5 rfl) ?_
            refine j_ldiv hx hb (el64 (hz I J (by omega) (by omega)) hp (hz I k (by omega) (by omega)) (hz k J (by omega) (by omega))) hq hq0 dR_eliminate_71 ?_
            refine m_last (n := J) hx hb hK hJ hP hS (by omega) (fun r => sh_w E r (by omega)) rfl (by omega) (by decide) dR_eliminate_72 (fun H locs hP hS => ?_)
            refine lv_iinc (k := 0) (v := ji (((J:Int)) + 1)) hx hb dR_eliminate_73 hl rfl (Int32.ofInt_add _ _).symm (by decide) rfl (fun ls hl => ?_)
            have hl : lv_has ls 8 [(7, .int (ji (((J:Int)) + 1))), (6, .int (ji ((I:Int)))), (0, .ref (E.2.1 3)), (1, .int (ji ((k:Int)))), (2, .long (jl p9)), (4, .long (jl q9))] := hl
            refine lv_goto hx hb dR_eliminate_76 rfl ?_
            exact ihK (J + 1) _ H locs ls (by omega) (by omega) (by rw [tb_mu]; exact ela_n hT hkI hkJ (by omega) (by omega)) (hF.mu (by omega) _ _) hP hS hl
      refine lv_iload hx hb dR_eliminate_5 (lv_at hl 0 rfl) ?_
      refine lv_aload_n hx hb dR_eliminate_7 rfl (lv_at hl 1 rfl) ?_
      refine m_get (C := "RationalForms$Reduction") (T := TxR) (N := 2) hx hb hg uwR hown hK hP (by omega) (sh_R E _) rfl 1 (by decide) wd36 rfl dR_eliminate_8 ?_
      refine j_icmp_ge hx hb (by omega) (by rw [hF 3 (by omega), hn0]; omega) dR_eliminate_11 rfl (fun h1 => ?_) (fun h1 => ?_)
      · rw [hF 3 (by omega), hn0] at h1
        omega
      · refine lv_iload_n hx hb dR_eliminate_14 rfl (lv_at hl 2 rfl) ?_
        refine j_iconst hx hb dR_eliminate_15 ?_
        refine j_iadd hx hb dR_eliminate_16 ?_
        refine lv_istore hx hb dR_eliminate_17 hl (by decide) rfl (fun ls hl => ?_)
        have hl : lv_has ls 8 [(7, .int (ji (((k:Int)) + 1))), (6, .int (ji ((I:Int)))), (0, .ref (E.2.1 3)), (1, .int (ji ((k:Int)))), (2, .long (jl p9)), (4, .long (jl q9))] := hl
        exact inner (n - (k + 1)) (k + 1) M1 H locs ls (by omega) (by omega) hT hF hP hS hl
  refine lv_iload_n hx hb dR_eliminate_0 rfl (lv_at hl 1 rfl) ?_
  refine j_iconst hx hb dR_eliminate_1 ?_
  refine j_iadd hx hb dR_eliminate_2 ?_
  refine lv_istore hx hb dR_eliminate_3 hl (by decide) rfl (fun ls hl => ?_)
  have hl : lv_has ls 8 [(6, .int (ji (((k:Int)) + 1))), (0, .ref (E.2.1 3)), (1, .int (ji ((k:Int)))), (2, .long (jl p9)), (4, .long (jl q9))] := hl
  exact outer (n - (k + 1)) (k + 1) M s_.heap [] ls (by omega) (by omega) ((ela_0 k p9 q9 _).n hn4) (FrR.rf M) hP hS hl

set_option maxRecDepth 100000 in
set_option maxHeartbeats 4000000 in
theorem kR_bringPivot (l : Launch) (E : En) (hJ : wJ E) (M : Me) (n : Nat) (hn0 : M 3 1 = n) (hn4 : n ≤ 4) (k : Nat) (hk9 : k < n) (hT0 : ∀ a b, k ≤ a → a < n → k ≤ b → b < n → b64 (tb M a b)) : MM l yR_bringPivot wsR_bringPivot (rmd 1) E M [.ref (E.2.1 3), .int (ji ((k:Int)))] (fun v M9 => (∃ r : Prop, v = some (.int (ji (bi r))) ∧ bpR n k (tb M) r (tb M9)) ∧ FrR M M9) := by
  refine MM.ofG (by decide +kernel) (Nat.le_of_ble_eq_true rfl) ?_
  intro p_ e_ s_ m_ a_ b_ t_ c_ hx hb hml hr hk hg hown hK hP hS ls hl
  have hl : lv_has ls 4 [(0, .ref (E.2.1 3)), (1, .int (ji ((k:Int))))] := hl
  have outer : ∀ (hd : ∀ m, k ≤ m → m < n → tb M m m = 0) (N i : Nat) (ls : Array Slot), i + N = n → k ≤ i → (∀ x y, k ≤ x → x < y → y < n → x < i → tb M x y = 0) → lv_has ls 4 [(2, .int (ji ((i:Int)))), (0, .ref (E.2.1 3)), (1, .int (ji ((k:Int))))] → W p_ l e_ (rmd 1) s_ m_ a_ b_ t_ c_ s_.heap [] 0 0 (XQ b_ (mmQ E (fun v M9 => (∃ r : Prop, v = some (.int (ji (bi r))) ∧ bpR n k (tb M) r (tb M9)) ∧ FrR M M9)) a_ s_ 0 0 (wA E)) (F0 m_ 39 ls []) := by
    intro hd N
    induction N with
    | zero =>
      intro i ls h0 hki hz hl
      refine lv_iload_n hx hb dR_bringPivot_39 rfl (lv_at hl 0 rfl) ?_
      refine lv_aload_n hx hb dR_bringPivot_40 rfl (lv_at hl 1 rfl) ?_
      refine m_get (C := "RationalForms$Reduction") (T := TxR) (N := 2) hx hb hg uwR hown hK hP (by omega) (sh_R E _) rfl 1 (by decide) wd36 rfl dR_bringPivot_41 ?_
      refine j_icmp_ge hx hb (by omega) (by rw [hn0]; omega) dR_bringPivot_44 rfl (fun h1 => ?_) (fun h1 => ?_)
      · refine j_iconst hx hb dR_bringPivot_99 ?_
        exact mm_zret hx hb hr hk hP hS dR_bringPivot_100 nar_0 ⟨⟨False, by rw [bi_f id], Or.inr (Or.inr ⟨hd, fun x y x1 x2 x3 => hz x y x1 x2 x3 (by omega), id, eqn.rf _ _⟩)⟩, FrR.rf M⟩
      · rw [hn0] at h1
        omega
    | succ N ih =>
      intro i ls h0 hki hz hl
      have inner : ∀ (K j : Nat) (ls : Array Slot), j + K = n → i < j → (∀ y, i < y → y < j → tb M i y = 0) → lv_has ls 4 [(3, .int (ji ((j:Int)))), (2, .int (ji ((i:Int)))), (0, .ref (E.2.1 3)), (1, .int (ji ((k:Int))))] → W p_ l e_ (rmd 1) s_ m_ a_ b_ t_ c_ s_.heap [] 0 0 (XQ b_ (mmQ E (fun v M9 => (∃ r : Prop, v = some (.int (ji (bi r))) ∧ bpR n k (tb M) r (tb M9)) ∧ FrR M M9)) a_ s_ 0 0 (wA E)) (F0 m_ 51 ls []) := by
        intro K
        induction K with
        | zero =>
          intro j ls h1 hij hz2 hl
          refine lv_iload_n hx hb dR_bringPivot_51 rfl (lv_at hl 0 rfl) ?_
          refine lv_aload_n hx hb dR_bringPivot_52 rfl (lv_at hl 2 rfl) ?_
          refine m_get (C := "RationalForms$Reduction") (T := TxR) (N := 2) hx hb hg uwR hown hK hP (by omega) (sh_R E _) rfl 1 (by decide) wd36 rfl dR_bringPivot_53 ?_
          refine j_icmp_ge hx hb (by omega) (by rw [hn0]; omega) dR_bringPivot_56 rfl (fun h2 => ?_) (fun h2 => ?_)
          · refine lv_iinc (k := 1) (v := ji (((i:Int)) + 1)) hx hb dR_bringPivot_93 hl rfl (Int32.ofInt_add _ _).symm (by decide) rfl (fun ls hl => ?_)
            have hl : lv_has ls 4 [(2, .int (ji (((i:Int)) + 1))), (3, .int (ji ((j:Int)))), (0, .ref (E.2.1 3)), (1, .int (ji ((k:Int))))] := hl
            refine lv_goto hx hb dR_bringPivot_96 rfl ?_
            refine ih (i + 1) ls (by omega) (by omega) (fun x y x1 x2 x3 x4 => ?_) (lv_sub hl [0, 2, 3] rfl)
            by_cases hxi : x = i
            · rw [hxi]; exact hz2 y (by omega) (by omega)
            · exact hz x y x1 x2 x3 (by omega)
          · rw [hn0] at h2
            omega
        | succ K ihK =>
          intro j ls h1 hij hz2 hl
          refine lv_iload_n hx hb dR_bringPivot_51 rfl (lv_at hl 0 rfl) ?_
          refine lv_aload_n hx hb dR_bringPivot_52 rfl (lv_at hl 2 rfl) ?_
          refine m_get (C := "RationalForms$Reduction") (T := TxR) (N := 2) hx hb hg uwR hown hK hP (by omega) (sh_R E _) rfl 1 (by decide) wd36 rfl dR_bringPivot_53 ?_
          refine j_icmp_ge hx hb (by omega) (by rw [hn0]; omega) dR_bringPivot_56 rfl (fun h2 => ?_) (fun h2 => ?_)
          · rw [hn0] at h2
            omega
          · refine lv_aload_n hx hb dR_bringPivot_59 rfl (lv_at hl 2 rfl) ?_
            refine m_get (C := "RationalForms$Reduction") (T := TxR) (N := 2) hx hb hg uwR hown hK hP (by omega) (sh_R E _) rfl 0 (by decide) wd35 rfl dR_bringPivot_60 ?_
            refine lv_iload_n hx hb dR_bringPivot_63 rfl (lv_at hl 1 rfl) ?_
            refine m_aald (t0 := 3) (n := i) hx hb hK hP (by omega) (sh_b E _) rfl rfl rfl (by omega) (by decide) dR_bringPivot_64 ?_
            refine lv_iload_n hx hb dR_bringPivot_65 rfl (lv_at hl 0 rfl) ?_
            refine m_lald (n := j) hx hb hK hP (by omega) (sh_w E _ (by omega)) rfl (by omega) (by decide) dR_bringPivot_66 ?_
            refine j_lconst0 hx hb dR_bringPivot_67 ?_
            refine j_lc_eq hx hb (hT0 i j (by omega) (by omega) (by omega) (by omega)) (by decide) dR_bringPivot_68 dR_bringPivot_69 rfl (fun h3 => ?_) (fun h3 => ?_)
            · refine lv_iinc (k := 0) (v := ji (((j:Int)) + 1)) hx hb dR_bringPivot_87 hl rfl (Int32.ofInt_add _ _).symm (by decide) rfl (fun ls hl => ?_)
              have hl : lv_has ls 4 [(3, .int (ji (((j:Int)) + 1))), (2, .int (ji ((i:Int)))), (0, .ref (E.2.1 3)), (1, .int (ji ((k:Int))))] := hl
              refine lv_goto hx hb dR_bringPivot_90 rfl ?_
              refine ihK (j + 1) ls (by omega) (by omega) (fun y y1 y2 => ?_) hl
              by_cases hyj : y = j
              · rw [hyj]; exact h3
              · exact hz2 y y1 (by omega)
            · refine lv_aload_n hx hb dR_bringPivot_72 rfl (lv_at hl 2 rfl) ?_
              refine lv_iload_n hx hb dR_bringPivot_73 rfl (lv_at hl 0 rfl) ?_
              refine lv_iload_n hx hb dR_bringPivot_74 rfl (lv_at hl 1 rfl) ?_
              refine lv_iload_n hx hb dR_bringPivot_75 rfl (lv_at hl 3 rfl) ?_
              refine mm_V (As := [.int (ji ((j:Int))), .int (ji ((i:Int))), .int (ji ((k:Int)))]) (rest := []) hx hb hml hown hg hl hK hP hS (by omega) (sh_R E _) rfl (kR_addVariable l E hJ M n hn0 hn4 j i k (by omega) (by omega) (by omega) (by omega)) wd141 wd143 wds5 wd2 wd144 ⟨rfl, rfl⟩ (n := 3) (by decide +kernel) rfl ⟨by decide, by decide⟩ rfl (Nat.le_of_ble_eq_true rfl) dR_bringPivot_76 ⟨Nat.zero_le _, Nat.zero_le _⟩ (fun v M3 H locs hq3 hP hS => ?_)
              obtain ⟨rfl, hq4, hq5⟩ := hq3
              refine lv_aload_n hx hb dR_bringPivot_79 rfl (lv_at hl 2 rfl) ?_
              refine lv_iload_n hx hb dR_bringPivot_80 rfl (lv_at hl 1 rfl) ?_
              refine lv_iload_n hx hb dR_bringPivot_81 rfl (lv_at hl 3 rfl) ?_
              refine mm_V (As := [.int (ji ((i:Int))), .int (ji ((k:Int)))]) (rest := []) hx hb hml hown hg hl hK hP hS (by omega) (sh_R E _) rfl (kR_swapVariables l E hJ M3 n ((congrFun (hq5 3 (by omega)) 1).trans hn0) hn4 i k (by omega) hk9) wd137 wd139 wds4 wd2 wd140 ⟨rfl, rfl⟩ (n := 2) (by decide +kernel) rfl ⟨by decide, by decide⟩ rfl (Nat.le_of_ble_eq_true rfl) dR_bringPivot_82 ⟨Nat.zero_le _, Nat.zero_le _⟩ (fun v M4 H locs hq6 hP hS => ?_)
              obtain ⟨rfl, hq7, hq8⟩ := hq6
              refine j_iconst hx hb dR_bringPivot_85 ?_
              exact mm_zret hx hb hr hk hP hS dR_bringPivot_86 nar_1 ⟨⟨True, by rw [bi_t trivial], Or.inr (Or.inl ⟨hd, i, j, hki, hij, by omega, h3, fun x y x1 x2 x3 x4 => x4.elim (fun x4 => hz x y x1 x2 x3 x4) (fun x4 => by rw [x4.1]; exact hz2 y (by omega) x4.2), trivial, hq7.tr (swT_eqn hq4 (by omega) hk9)⟩)⟩, hq5.tr hq8⟩
      refine lv_iload_n hx hb dR_bringPivot_39 rfl (lv_at hl 0 rfl) ?_
      refine lv_aload_n hx hb dR_bringPivot_40 rfl (lv_at hl 1 rfl) ?_
      refine m_get (C := "RationalForms$Reduction") (T := TxR) (N := 2) hx hb hg uwR hown hK hP (by omega) (sh_R E _) rfl 1 (by decide) wd36 rfl dR_bringPivot_41 ?_
      refine j_icmp_ge hx hb (by omega) (by rw [hn0]; omega) dR_bringPivot_44 rfl (fun h1 => ?_) (fun h1 => ?_)
      · rw [hn0] at h1
        omega
      · refine lv_iload_n hx hb dR_bringPivot_47 rfl (lv_at hl 0 rfl) ?_
        refine j_iconst hx hb dR_bringPivot_48 ?_
        refine j_iadd hx hb dR_bringPivot_49 ?_
        refine lv_istore_n hx hb dR_bringPivot_50 rfl hl (by decide) rfl (fun ls hl => ?_)
        have hl : lv_has ls 4 [(3, .int (ji (((i:Int)) + 1))), (2, .int (ji ((i:Int)))), (0, .ref (E.2.1 3)), (1, .int (ji ((k:Int))))] := hl
        exact inner (n - (i + 1)) (i + 1) ls (by omega) (by omega) (fun y y1 y2 => by omega) hl
  have diag : ∀ (N i : Nat) (ls : Array Slot), i + N = n → k ≤ i → (∀ m, k ≤ m → m < i → tb M m m = 0) → lv_has ls 4 [(2, .int (ji ((i:Int)))), (0, .ref (E.2.1 3)), (1, .int (ji ((k:Int))))] → W p_ l e_ (rmd 1) s_ m_ a_ b_ t_ c_ s_.heap [] 0 0 (XQ b_ (mmQ E (fun v M9 => (∃ r : Prop, v = some (.int (ji (bi r))) ∧ bpR n k (tb M) r (tb M9)) ∧ FrR M M9)) a_ s_ 0 0 (wA E)) (F0 m_ 2 ls []) := by
    intro N
    induction N with
    | zero =>
      intro i ls h0 hki hz hl
      refine lv_iload_n hx hb dR_bringPivot_2 rfl (lv_at hl 0 rfl) ?_
      refine lv_aload_n hx hb dR_bringPivot_3 rfl (lv_at hl 1 rfl) ?_
      refine m_get (C := "RationalForms$Reduction") (T := TxR) (N := 2) hx hb hg uwR hown hK hP (by omega) (sh_R E _) rfl 1 (by decide) wd36 rfl dR_bringPivot_4 ?_
      refine j_icmp_ge hx hb (by omega) (by rw [hn0]; omega) dR_bringPivot_7 rfl (fun h1 => ?_) (fun h1 => ?_)
      · refine lv_iload_n hx hb dR_bringPivot_37 rfl (lv_at hl 2 rfl) ?_
        refine lv_istore_n hx hb dR_bringPivot_38 rfl hl (by decide) rfl (fun ls hl => ?_)
        have hl : lv_has ls 4 [(2, .int (ji ((k:Int)))), (0, .ref (E.2.1 3)), (1, .int (ji ((k:Int))))] := hl
        exact outer (fun m m1 m2 => hz m m1 (by omega)) (n - k) k ls (by omega) (Nat.le_refl _) (fun x y x1 x2 x3 x4 => by omega) hl
      · rw [hn0] at h1
        omega
    | succ N ih =>
      intro i ls h0 hki hz hl
      refine lv_iload_n hx hb dR_bringPivot_2 rfl (lv_at hl 0 rfl) ?_
      refine lv_aload_n hx hb dR_bringPivot_3 rfl (lv_at hl 1 rfl) ?_
      refine m_get (C := "RationalForms$Reduction") (T := TxR) (N := 2) hx hb hg uwR hown hK hP (by omega) (sh_R E _) rfl 1 (by decide) wd36 rfl dR_bringPivot_4 ?_
      refine j_icmp_ge hx hb (by omega) (by rw [hn0]; omega) dR_bringPivot_7 rfl (fun h1 => ?_) (fun h1 => ?_)
      · rw [hn0] at h1
        omega
      · refine lv_aload_n hx hb dR_bringPivot_10 rfl (lv_at hl 1 rfl) ?_
        refine m_get (C := "RationalForms$Reduction") (T := TxR) (N := 2) hx hb hg uwR hown hK hP (by omega) (sh_R E _) rfl 0 (by decide) wd35 rfl dR_bringPivot_11 ?_
        refine lv_iload_n hx hb dR_bringPivot_14 rfl (lv_at hl 0 rfl) ?_
        refine m_aald (t0 := 3) (n := i) hx hb hK hP (by omega) (sh_b E _) rfl rfl rfl (by omega) (by decide) dR_bringPivot_15 ?_
        refine lv_iload_n hx hb dR_bringPivot_16 rfl (lv_at hl 0 rfl) ?_
        refine m_lald (n := i) hx hb hK hP (by omega) (sh_w E _ (by omega)) rfl (by omega) (by decide) dR_bringPivot_17 ?_
        refine j_lconst0 hx hb dR_bringPivot_18 ?_
        refine j_lc_eq hx hb (hT0 i i (by omega) (by omega) (by omega) (by omega)) (by decide) dR_bringPivot_19 dR_bringPivot_20 rfl (fun h2 => ?_) (fun h2 => ?_)
        · refine lv_iinc (k := 0) (v := ji (((i:Int)) + 1)) hx hb dR_bringPivot_31 hl rfl (Int32.ofInt_add _ _).symm (by decide) rfl (fun ls hl => ?_)
          have hl : lv_has ls 4 [(2, .int (ji (((i:Int)) + 1))), (0, .ref (E.2.1 3)), (1, .int (ji ((k:Int))))] := hl
          refine lv_goto hx hb dR_bringPivot_34 rfl ?_
          refine ih (i + 1) ls (by omega) (by omega) (fun m m1 m2 => ?_) hl
          by_cases hmi : m = i
          · rw [hmi]; exact h2
          · exact hz m m1 (by omega)
        · refine lv_aload_n hx hb dR_bringPivot_23 rfl (lv_at hl 1 rfl) ?_
          refine lv_iload_n hx hb dR_bringPivot_24 rfl (lv_at hl 0 rfl) ?_
          refine lv_iload_n hx hb dR_bringPivot_25 rfl (lv_at hl 2 rfl) ?_
          refine mm_V (As := [.int (ji ((i:Int))), .int (ji ((k:Int)))]) (rest := []) hx hb hml hown hg hl hK hP hS (by omega) (sh_R E _) rfl (kR_swapVariables l E hJ M n hn0 hn4 i k (by omega) hk9) wd137 wd139 wds4 wd2 wd140 ⟨rfl, rfl⟩ (n := 2) (by decide +kernel) rfl ⟨by decide, by decide⟩ rfl (Nat.le_of_ble_eq_true rfl) dR_bringPivot_26 ⟨Nat.zero_le _, Nat.zero_le _⟩ (fun v M4 H locs hq6 hP hS => ?_)
          obtain ⟨rfl, hq7, hq8⟩ := hq6
          refine j_iconst hx hb dR_bringPivot_29 ?_
          exact mm_zret hx hb hr hk hP hS dR_bringPivot_30 nar_1 ⟨⟨True, by rw [bi_t trivial], Or.inl ⟨i, hki, by omega, h2, hz, trivial, hq7⟩⟩, hq8⟩
  refine lv_iload_n hx hb dR_bringPivot_0 rfl (lv_at hl 1 rfl) ?_
  refine lv_istore_n hx hb dR_bringPivot_1 rfl hl (by decide) rfl (fun ls hl => ?_)
  have hl : lv_has ls 4 [(2, .int (ji ((k:Int)))), (0, .ref (E.2.1 3)), (1, .int (ji ((k:Int))))] := hl
  exact diag (n - k) k ls (by omega) (Nat.le_refl _) (fun m m1 m2 => by omega) hl
