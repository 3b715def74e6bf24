/-! the reference: its public methods -/
abbrev cM_begin : ByteArray := prog_8_method_4_code
abbrev yM_begin : MethodName := ⟨"RationalFormsModel", "begin", "(II)V"⟩
abbrev wsM_begin : List Cond := .code yM_begin cM_begin 4 none :: GG
theorem dM_begin_0 : decode cM_begin 0 = .ok (.aload_n 0, 1) := by decide +kernel
theorem dM_begin_1 : decode cM_begin 1 = .ok (.iload_n 1, 1) := by decide +kernel
theorem dM_begin_2 : decode cM_begin 2 = .ok (.invokestatic 33, 3) := by decide +kernel
theorem dM_begin_5 : decode cM_begin 5 = .ok (.ifCond .eq 13, 3) := by decide +kernel
theorem dM_begin_8 : decode cM_begin 8 = .ok (.iload_n 2, 1) := by decide +kernel
theorem dM_begin_9 : decode cM_begin 9 = .ok (.iconst 1, 1) := by decide +kernel
theorem dM_begin_10 : decode cM_begin 10 = .ok (.if_icmp .lt 8, 3) := by decide +kernel
theorem dM_begin_13 : decode cM_begin 13 = .ok (.iload_n 2, 1) := by decide +kernel
theorem dM_begin_14 : decode cM_begin 14 = .ok (.iconst 4, 1) := by decide +kernel
theorem dM_begin_15 : decode cM_begin 15 = .ok (.if_icmp .le 7, 3) := by decide +kernel
theorem dM_begin_18 : decode cM_begin 18 = .ok (.iconst 1, 1) := by decide +kernel
theorem dM_begin_19 : decode cM_begin 19 = .ok (.goto 4, 3) := by decide +kernel
theorem dM_begin_22 : decode cM_begin 22 = .ok (.iconst 0, 1) := by decide +kernel
theorem dM_begin_23 : decode cM_begin 23 = .ok (.putfield 29, 3) := by decide +kernel
theorem dM_begin_26 : decode cM_begin 26 = .ok (.aload_n 0, 1) := by decide +kernel
theorem dM_begin_27 : decode cM_begin 27 = .ok (.getfield 29, 3) := by decide +kernel
theorem dM_begin_30 : decode cM_begin 30 = .ok (.ifCond .ne 36, 3) := by decide +kernel
theorem dM_begin_33 : decode cM_begin 33 = .ok (.aload_n 0, 1) := by decide +kernel
theorem dM_begin_34 : decode cM_begin 34 = .ok (.getfield 7, 3) := by decide +kernel
theorem dM_begin_37 : decode cM_begin 37 = .ok (.iload_n 1, 1) := by decide +kernel
theorem dM_begin_38 : decode cM_begin 38 = .ok (.iload_n 2, 1) := by decide +kernel
theorem dM_begin_39 : decode cM_begin 39 = .ok (.iastore, 1) := by decide +kernel
theorem dM_begin_40 : decode cM_begin 40 = .ok (.iconst 0, 1) := by decide +kernel
theorem dM_begin_41 : decode cM_begin 41 = .ok (.istore_n 3, 1) := by decide +kernel
theorem dM_begin_42 : decode cM_begin 42 = .ok (.iload_n 3, 1) := by decide +kernel
theorem dM_begin_43 : decode cM_begin 43 = .ok (.bipush 16, 2) := by decide +kernel
theorem dM_begin_45 : decode cM_begin 45 = .ok (.if_icmp .ge 21, 3) := by decide +kernel
theorem dM_begin_48 : decode cM_begin 48 = .ok (.aload_n 0, 1) := by decide +kernel
theorem dM_begin_49 : decode cM_begin 49 = .ok (.getfield 13, 3) := by decide +kernel
theorem dM_begin_52 : decode cM_begin 52 = .ok (.bipush 16, 2) := by decide +kernel
theorem dM_begin_54 : decode cM_begin 54 = .ok (.iload_n 1, 1) := by decide +kernel
theorem dM_begin_55 : decode cM_begin 55 = .ok (.imul, 1) := by decide +kernel
theorem dM_begin_56 : decode cM_begin 56 = .ok (.iload_n 3, 1) := by decide +kernel
theorem dM_begin_57 : decode cM_begin 57 = .ok (.iadd, 1) := by decide +kernel
theorem dM_begin_58 : decode cM_begin 58 = .ok (.iconst 0, 1) := by decide +kernel
theorem dM_begin_59 : decode cM_begin 59 = .ok (.iastore, 1) := by decide +kernel
theorem dM_begin_60 : decode cM_begin 60 = .ok (.iinc 3 1, 3) := by decide +kernel
theorem dM_begin_63 : decode cM_begin 63 = .ok (.goto (-21), 3) := by decide +kernel
theorem dM_begin_66 : decode cM_begin 66 = .ok (.return_, 1) := by decide +kernel
abbrev cM_put : ByteArray := prog_8_method_5_code
abbrev yM_put : MethodName := ⟨"RationalFormsModel", "put", "(IIII)I"⟩
abbrev wsM_put : List Cond := .code yM_put cM_put 6 (some .int) :: GG
theorem dM_put_0 : decode cM_put 0 = .ok (.aload_n 0, 1) := by decide +kernel
theorem dM_put_1 : decode cM_put 1 = .ok (.iload_n 1, 1) := by decide +kernel
theorem dM_put_2 : decode cM_put 2 = .ok (.invokestatic 33, 3) := by decide +kernel
theorem dM_put_5 : decode cM_put 5 = .ok (.ifCond .eq 17, 3) := by decide +kernel
theorem dM_put_8 : decode cM_put 8 = .ok (.iload 4, 2) := by decide +kernel
theorem dM_put_10 : decode cM_put 10 = .ok (.bipush (-6), 2) := by decide +kernel
theorem dM_put_12 : decode cM_put 12 = .ok (.if_icmp .lt 10, 3) := by decide +kernel
theorem dM_put_15 : decode cM_put 15 = .ok (.iload 4, 2) := by decide +kernel
theorem dM_put_17 : decode cM_put 17 = .ok (.bipush 6, 2) := by decide +kernel
theorem dM_put_19 : decode cM_put 19 = .ok (.if_icmp .le 7, 3) := by decide +kernel
theorem dM_put_22 : decode cM_put 22 = .ok (.iconst 1, 1) := by decide +kernel
theorem dM_put_23 : decode cM_put 23 = .ok (.goto 36, 3) := by decide +kernel
theorem dM_put_26 : decode cM_put 26 = .ok (.iload_n 2, 1) := by decide +kernel
theorem dM_put_27 : decode cM_put 27 = .ok (.ifCond .lt 27, 3) := by decide +kernel
theorem dM_put_30 : decode cM_put 30 = .ok (.iload_n 3, 1) := by decide +kernel
theorem dM_put_31 : decode cM_put 31 = .ok (.ifCond .lt 23, 3) := by decide +kernel
theorem dM_put_34 : decode cM_put 34 = .ok (.iload_n 2, 1) := by decide +kernel
theorem dM_put_35 : decode cM_put 35 = .ok (.aload_n 0, 1) := by decide +kernel
theorem dM_put_36 : decode cM_put 36 = .ok (.getfield 7, 3) := by decide +kernel
theorem dM_put_39 : decode cM_put 39 = .ok (.iload_n 1, 1) := by decide +kernel
theorem dM_put_40 : decode cM_put 40 = .ok (.iaload, 1) := by decide +kernel
theorem dM_put_41 : decode cM_put 41 = .ok (.if_icmp .ge 13, 3) := by decide +kernel
theorem dM_put_44 : decode cM_put 44 = .ok (.iload_n 3, 1) := by decide +kernel
theorem dM_put_45 : decode cM_put 45 = .ok (.aload_n 0, 1) := by decide +kernel
theorem dM_put_46 : decode cM_put 46 = .ok (.getfield 7, 3) := by decide +kernel
theorem dM_put_49 : decode cM_put 49 = .ok (.iload_n 1, 1) := by decide +kernel
theorem dM_put_50 : decode cM_put 50 = .ok (.iaload, 1) := by decide +kernel
theorem dM_put_51 : decode cM_put 51 = .ok (.if_icmp .lt 7, 3) := by decide +kernel
theorem dM_put_54 : decode cM_put 54 = .ok (.iconst 2, 1) := by decide +kernel
theorem dM_put_55 : decode cM_put 55 = .ok (.goto 4, 3) := by decide +kernel
theorem dM_put_58 : decode cM_put 58 = .ok (.iconst 0, 1) := by decide +kernel
theorem dM_put_59 : decode cM_put 59 = .ok (.putfield 29, 3) := by decide +kernel
theorem dM_put_62 : decode cM_put 62 = .ok (.aload_n 0, 1) := by decide +kernel
theorem dM_put_63 : decode cM_put 63 = .ok (.getfield 29, 3) := by decide +kernel
theorem dM_put_66 : decode cM_put 66 = .ok (.ifCond .eq 5, 3) := by decide +kernel
theorem dM_put_69 : decode cM_put 69 = .ok (.iconst 0, 1) := by decide +kernel
theorem dM_put_70 : decode cM_put 70 = .ok (.ireturn, 1) := by decide +kernel
theorem dM_put_71 : decode cM_put 71 = .ok (.aload_n 0, 1) := by decide +kernel
theorem dM_put_72 : decode cM_put 72 = .ok (.getfield 13, 3) := by decide +kernel
theorem dM_put_75 : decode cM_put 75 = .ok (.bipush 16, 2) := by decide +kernel
theorem dM_put_77 : decode cM_put 77 = .ok (.iload_n 1, 1) := by decide +kernel
theorem dM_put_78 : decode cM_put 78 = .ok (.imul, 1) := by decide +kernel
theorem dM_put_79 : decode cM_put 79 = .ok (.iconst 4, 1) := by decide +kernel
theorem dM_put_80 : decode cM_put 80 = .ok (.iload_n 2, 1) := by decide +kernel
theorem dM_put_81 : decode cM_put 81 = .ok (.imul, 1) := by decide +kernel
theorem dM_put_82 : decode cM_put 82 = .ok (.iadd, 1) := by decide +kernel
theorem dM_put_83 : decode cM_put 83 = .ok (.iload_n 3, 1) := by decide +kernel
theorem dM_put_84 : decode cM_put 84 = .ok (.iadd, 1) := by decide +kernel
theorem dM_put_85 : decode cM_put 85 = .ok (.iaload, 1) := by decide +kernel
theorem dM_put_86 : decode cM_put 86 = .ok (.istore 5, 2) := by decide +kernel
theorem dM_put_88 : decode cM_put 88 = .ok (.aload_n 0, 1) := by decide +kernel
theorem dM_put_89 : decode cM_put 89 = .ok (.getfield 13, 3) := by decide +kernel
theorem dM_put_92 : decode cM_put 92 = .ok (.bipush 16, 2) := by decide +kernel
theorem dM_put_94 : decode cM_put 94 = .ok (.iload_n 1, 1) := by decide +kernel
theorem dM_put_95 : decode cM_put 95 = .ok (.imul, 1) := by decide +kernel
theorem dM_put_96 : decode cM_put 96 = .ok (.iconst 4, 1) := by decide +kernel
theorem dM_put_97 : decode cM_put 97 = .ok (.iload_n 2, 1) := by decide +kernel
theorem dM_put_98 : decode cM_put 98 = .ok (.imul, 1) := by decide +kernel
theorem dM_put_99 : decode cM_put 99 = .ok (.iadd, 1) := by decide +kernel
theorem dM_put_100 : decode cM_put 100 = .ok (.iload_n 3, 1) := by decide +kernel
theorem dM_put_101 : decode cM_put 101 = .ok (.iadd, 1) := by decide +kernel
theorem dM_put_102 : decode cM_put 102 = .ok (.iload 4, 2) := by decide +kernel
theorem dM_put_104 : decode cM_put 104 = .ok (.iastore, 1) := by decide +kernel
theorem dM_put_105 : decode cM_put 105 = .ok (.aload_n 0, 1) := by decide +kernel
theorem dM_put_106 : decode cM_put 106 = .ok (.getfield 13, 3) := by decide +kernel
theorem dM_put_109 : decode cM_put 109 = .ok (.bipush 16, 2) := by decide +kernel
theorem dM_put_111 : decode cM_put 111 = .ok (.iload_n 1, 1) := by decide +kernel
theorem dM_put_112 : decode cM_put 112 = .ok (.imul, 1) := by decide +kernel
theorem dM_put_113 : decode cM_put 113 = .ok (.iconst 4, 1) := by decide +kernel
theorem dM_put_114 : decode cM_put 114 = .ok (.iload_n 3, 1) := by decide +kernel
theorem dM_put_115 : decode cM_put 115 = .ok (.imul, 1) := by decide +kernel
theorem dM_put_116 : decode cM_put 116 = .ok (.iadd, 1) := by decide +kernel
theorem dM_put_117 : decode cM_put 117 = .ok (.iload_n 2, 1) := by decide +kernel
theorem dM_put_118 : decode cM_put 118 = .ok (.iadd, 1) := by decide +kernel
theorem dM_put_119 : decode cM_put 119 = .ok (.iload 4, 2) := by decide +kernel
theorem dM_put_121 : decode cM_put 121 = .ok (.iastore, 1) := by decide +kernel
theorem dM_put_122 : decode cM_put 122 = .ok (.iload 5, 2) := by decide +kernel
theorem dM_put_124 : decode cM_put 124 = .ok (.ireturn, 1) := by decide +kernel
abbrev cM_about : ByteArray := prog_8_method_24_code
abbrev yM_about : MethodName := ⟨"RationalFormsModel", "about", "(II)I"⟩
abbrev wsM_about : List Cond := .code yM_about cM_about 3 (some .int) :: GG
theorem dM_about_0 : decode cM_about 0 = .ok (.aload_n 0, 1) := by decide +kernel
theorem dM_about_1 : decode cM_about 1 = .ok (.iload_n 1, 1) := by decide +kernel
theorem dM_about_2 : decode cM_about 2 = .ok (.invokestatic 33, 3) := by decide +kernel
theorem dM_about_5 : decode cM_about 5 = .ok (.ifCond .eq 12, 3) := by decide +kernel
theorem dM_about_8 : decode cM_about 8 = .ok (.iload_n 2, 1) := by decide +kernel
theorem dM_about_9 : decode cM_about 9 = .ok (.ifCond .lt 8, 3) := by decide +kernel
theorem dM_about_12 : decode cM_about 12 = .ok (.iload_n 2, 1) := by decide +kernel
theorem dM_about_13 : decode cM_about 13 = .ok (.iconst 4, 1) := by decide +kernel
theorem dM_about_14 : decode cM_about 14 = .ok (.if_icmp .le 7, 3) := by decide +kernel
theorem dM_about_17 : decode cM_about 17 = .ok (.iconst 1, 1) := by decide +kernel
theorem dM_about_18 : decode cM_about 18 = .ok (.goto 4, 3) := by decide +kernel
theorem dM_about_21 : decode cM_about 21 = .ok (.iconst 0, 1) := by decide +kernel
theorem dM_about_22 : decode cM_about 22 = .ok (.putfield 29, 3) := by decide +kernel
theorem dM_about_25 : decode cM_about 25 = .ok (.aload_n 0, 1) := by decide +kernel
theorem dM_about_26 : decode cM_about 26 = .ok (.getfield 29, 3) := by decide +kernel
theorem dM_about_29 : decode cM_about 29 = .ok (.ifCond .eq 5, 3) := by decide +kernel
theorem dM_about_32 : decode cM_about 32 = .ok (.iconst 0, 1) := by decide +kernel
theorem dM_about_33 : decode cM_about 33 = .ok (.ireturn, 1) := by decide +kernel
theorem dM_about_34 : decode cM_about 34 = .ok (.aload_n 0, 1) := by decide +kernel
theorem dM_about_35 : decode cM_about 35 = .ok (.iload_n 1, 1) := by decide +kernel
theorem dM_about_36 : decode cM_about 36 = .ok (.invokevirtual 115, 3) := by decide +kernel
theorem dM_about_39 : decode cM_about 39 = .ok (.iload_n 2, 1) := by decide +kernel
theorem dM_about_40 : decode cM_about 40 = .ok (.ifCond .ne 12, 3) := by decide +kernel
theorem dM_about_43 : decode cM_about 43 = .ok (.aload_n 0, 1) := by decide +kernel
theorem dM_about_44 : decode cM_about 44 = .ok (.getfield 7, 3) := by decide +kernel
theorem dM_about_47 : decode cM_about 47 = .ok (.iload_n 1, 1) := by decide +kernel
theorem dM_about_48 : decode cM_about 48 = .ok (.iaload, 1) := by decide +kernel
theorem dM_about_49 : decode cM_about 49 = .ok (.goto 44, 3) := by decide +kernel
theorem dM_about_52 : decode cM_about 52 = .ok (.iload_n 2, 1) := by decide +kernel
theorem dM_about_53 : decode cM_about 53 = .ok (.iconst 1, 1) := by decide +kernel
theorem dM_about_54 : decode cM_about 54 = .ok (.if_icmp .ne 10, 3) := by decide +kernel
theorem dM_about_57 : decode cM_about 57 = .ok (.aload_n 0, 1) := by decide +kernel
theorem dM_about_58 : decode cM_about 58 = .ok (.getfield 56, 3) := by decide +kernel
theorem dM_about_61 : decode cM_about 61 = .ok (.goto 32, 3) := by decide +kernel
theorem dM_about_64 : decode cM_about 64 = .ok (.iload_n 2, 1) := by decide +kernel
theorem dM_about_65 : decode cM_about 65 = .ok (.iconst 2, 1) := by decide +kernel
theorem dM_about_66 : decode cM_about 66 = .ok (.if_icmp .ne 10, 3) := by decide +kernel
theorem dM_about_69 : decode cM_about 69 = .ok (.aload_n 0, 1) := by decide +kernel
theorem dM_about_70 : decode cM_about 70 = .ok (.getfield 59, 3) := by decide +kernel
theorem dM_about_73 : decode cM_about 73 = .ok (.goto 20, 3) := by decide +kernel
theorem dM_about_76 : decode cM_about 76 = .ok (.iload_n 2, 1) := by decide +kernel
theorem dM_about_77 : decode cM_about 77 = .ok (.iconst 3, 1) := by decide +kernel
theorem dM_about_78 : decode cM_about 78 = .ok (.if_icmp .ne 10, 3) := by decide +kernel
theorem dM_about_81 : decode cM_about 81 = .ok (.aload_n 0, 1) := by decide +kernel
theorem dM_about_82 : decode cM_about 82 = .ok (.getfield 62, 3) := by decide +kernel
theorem dM_about_85 : decode cM_about 85 = .ok (.goto 8, 3) := by decide +kernel
theorem dM_about_88 : decode cM_about 88 = .ok (.aload_n 0, 1) := by decide +kernel
theorem dM_about_89 : decode cM_about 89 = .ok (.getfield 79, 3) := by decide +kernel
theorem dM_about_92 : decode cM_about 92 = .ok (.l2i, 1) := by decide +kernel
theorem dM_about_93 : decode cM_about 93 = .ok (.ireturn, 1) := by decide +kernel
abbrev cM_symbol : ByteArray := prog_8_method_25_code
abbrev yM_symbol : MethodName := ⟨"RationalFormsModel", "symbol", "(III)I"⟩
abbrev wsM_symbol : List Cond := .code yM_symbol cM_symbol 4 (some .int) :: GG
theorem dM_symbol_0 : decode cM_symbol 0 = .ok (.aload_n 0, 1) := by decide +kernel
theorem dM_symbol_1 : decode cM_symbol 1 = .ok (.iload_n 1, 1) := by decide +kernel
theorem dM_symbol_2 : decode cM_symbol 2 = .ok (.ifCond .eq 7, 3) := by decide +kernel
theorem dM_symbol_5 : decode cM_symbol 5 = .ok (.iload_n 2, 1) := by decide +kernel
theorem dM_symbol_6 : decode cM_symbol 6 = .ok (.ifCond .ne 7, 3) := by decide +kernel
theorem dM_symbol_9 : decode cM_symbol 9 = .ok (.iconst 1, 1) := by decide +kernel
theorem dM_symbol_10 : decode cM_symbol 10 = .ok (.goto 15, 3) := by decide +kernel
theorem dM_symbol_13 : decode cM_symbol 13 = .ok (.iload_n 3, 1) := by decide +kernel
theorem dM_symbol_14 : decode cM_symbol 14 = .ok (.invokestatic 119, 3) := by decide +kernel
theorem dM_symbol_17 : decode cM_symbol 17 = .ok (.ifCond .ne 7, 3) := by decide +kernel
theorem dM_symbol_20 : decode cM_symbol 20 = .ok (.iconst 2, 1) := by decide +kernel
theorem dM_symbol_21 : decode cM_symbol 21 = .ok (.goto 4, 3) := by decide +kernel
theorem dM_symbol_24 : decode cM_symbol 24 = .ok (.iconst 0, 1) := by decide +kernel
theorem dM_symbol_25 : decode cM_symbol 25 = .ok (.putfield 29, 3) := by decide +kernel
theorem dM_symbol_28 : decode cM_symbol 28 = .ok (.aload_n 0, 1) := by decide +kernel
theorem dM_symbol_29 : decode cM_symbol 29 = .ok (.getfield 29, 3) := by decide +kernel
theorem dM_symbol_32 : decode cM_symbol 32 = .ok (.ifCond .ne 21, 3) := by decide +kernel
theorem dM_symbol_35 : decode cM_symbol 35 = .ok (.iload_n 1, 1) := by decide +kernel
theorem dM_symbol_36 : decode cM_symbol 36 = .ok (.i2l, 1) := by decide +kernel
theorem dM_symbol_37 : decode cM_symbol 37 = .ok (.invokestatic 69, 3) := by decide +kernel
theorem dM_symbol_40 : decode cM_symbol 40 = .ok (.iload_n 2, 1) := by decide +kernel
theorem dM_symbol_41 : decode cM_symbol 41 = .ok (.i2l, 1) := by decide +kernel
theorem dM_symbol_42 : decode cM_symbol 42 = .ok (.invokestatic 69, 3) := by decide +kernel
theorem dM_symbol_45 : decode cM_symbol 45 = .ok (.iload_n 3, 1) := by decide +kernel
theorem dM_symbol_46 : decode cM_symbol 46 = .ok (.i2l, 1) := by decide +kernel
theorem dM_symbol_47 : decode cM_symbol 47 = .ok (.invokestatic 96, 3) := by decide +kernel
theorem dM_symbol_50 : decode cM_symbol 50 = .ok (.goto 4, 3) := by decide +kernel
theorem dM_symbol_53 : decode cM_symbol 53 = .ok (.iconst 0, 1) := by decide +kernel
theorem dM_symbol_54 : decode cM_symbol 54 = .ok (.ireturn, 1) := by decide +kernel
abbrev cM_hasse : ByteArray := prog_8_method_26_code
abbrev yM_hasse : MethodName := ⟨"RationalFormsModel", "hasse", "(II)I"⟩
abbrev wsM_hasse : List Cond := .code yM_hasse cM_hasse 3 (some .int) :: GG
theorem dM_hasse_0 : decode cM_hasse 0 = .ok (.aload_n 0, 1) := by decide +kernel
theorem dM_hasse_1 : decode cM_hasse 1 = .ok (.iload_n 1, 1) := by decide +kernel
theorem dM_hasse_2 : decode cM_hasse 2 = .ok (.invokestatic 33, 3) := by decide +kernel
theorem dM_hasse_5 : decode cM_hasse 5 = .ok (.ifCond .eq 10, 3) := by decide +kernel
theorem dM_hasse_8 : decode cM_hasse 8 = .ok (.iload_n 2, 1) := by decide +kernel
theorem dM_hasse_9 : decode cM_hasse 9 = .ok (.invokestatic 119, 3) := by decide +kernel
theorem dM_hasse_12 : decode cM_hasse 12 = .ok (.ifCond .ne 7, 3) := by decide +kernel
theorem dM_hasse_15 : decode cM_hasse 15 = .ok (.iconst 1, 1) := by decide +kernel
theorem dM_hasse_16 : decode cM_hasse 16 = .ok (.goto 4, 3) := by decide +kernel
theorem dM_hasse_19 : decode cM_hasse 19 = .ok (.iconst 0, 1) := by decide +kernel
theorem dM_hasse_20 : decode cM_hasse 20 = .ok (.putfield 29, 3) := by decide +kernel
theorem dM_hasse_23 : decode cM_hasse 23 = .ok (.aload_n 0, 1) := by decide +kernel
theorem dM_hasse_24 : decode cM_hasse 24 = .ok (.getfield 29, 3) := by decide +kernel
theorem dM_hasse_27 : decode cM_hasse 27 = .ok (.ifCond .eq 5, 3) := by decide +kernel
theorem dM_hasse_30 : decode cM_hasse 30 = .ok (.iconst 0, 1) := by decide +kernel
theorem dM_hasse_31 : decode cM_hasse 31 = .ok (.ireturn, 1) := by decide +kernel
theorem dM_hasse_32 : decode cM_hasse 32 = .ok (.aload_n 0, 1) := by decide +kernel
theorem dM_hasse_33 : decode cM_hasse 33 = .ok (.iload_n 1, 1) := by decide +kernel
theorem dM_hasse_34 : decode cM_hasse 34 = .ok (.invokevirtual 115, 3) := by decide +kernel
theorem dM_hasse_37 : decode cM_hasse 37 = .ok (.aload_n 0, 1) := by decide +kernel
theorem dM_hasse_38 : decode cM_hasse 38 = .ok (.aload_n 0, 1) := by decide +kernel
theorem dM_hasse_39 : decode cM_hasse 39 = .ok (.getfield 56, 3) := by decide +kernel
theorem dM_hasse_42 : decode cM_hasse 42 = .ok (.iload_n 2, 1) := by decide +kernel
theorem dM_hasse_43 : decode cM_hasse 43 = .ok (.i2l, 1) := by decide +kernel
theorem dM_hasse_44 : decode cM_hasse 44 = .ok (.invokevirtual 100, 3) := by decide +kernel
theorem dM_hasse_47 : decode cM_hasse 47 = .ok (.ireturn, 1) := by decide +kernel
abbrev cM_isotropicAt : ByteArray := prog_8_method_27_code
abbrev yM_isotropicAt : MethodName := ⟨"RationalFormsModel", "isotropicAt", "(II)Z"⟩
abbrev wsM_isotropicAt : List Cond := .code yM_isotropicAt cM_isotropicAt 3 (some .boolean) :: GG
theorem dM_isotropicAt_0 : decode cM_isotropicAt 0 = .ok (.aload_n 0, 1) := by decide +kernel
theorem dM_isotropicAt_1 : decode cM_isotropicAt 1 = .ok (.iload_n 1, 1) := by decide +kernel
theorem dM_isotropicAt_2 : decode cM_isotropicAt 2 = .ok (.invokestatic 33, 3) := by decide +kernel
theorem dM_isotropicAt_5 : decode cM_isotropicAt 5 = .ok (.ifCond .eq 10, 3) := by decide +kernel
theorem dM_isotropicAt_8 : decode cM_isotropicAt 8 = .ok (.iload_n 2, 1) := by decide +kernel
theorem dM_isotropicAt_9 : decode cM_isotropicAt 9 = .ok (.invokestatic 119, 3) := by decide +kernel
theorem dM_isotropicAt_12 : decode cM_isotropicAt 12 = .ok (.ifCond .ne 7, 3) := by decide +kernel
theorem dM_isotropicAt_15 : decode cM_isotropicAt 15 = .ok (.iconst 1, 1) := by decide +kernel
theorem dM_isotropicAt_16 : decode cM_isotropicAt 16 = .ok (.goto 4, 3) := by decide +kernel
theorem dM_isotropicAt_19 : decode cM_isotropicAt 19 = .ok (.iconst 0, 1) := by decide +kernel
theorem dM_isotropicAt_20 : decode cM_isotropicAt 20 = .ok (.putfield 29, 3) := by decide +kernel
theorem dM_isotropicAt_23 : decode cM_isotropicAt 23 = .ok (.aload_n 0, 1) := by decide +kernel
theorem dM_isotropicAt_24 : decode cM_isotropicAt 24 = .ok (.getfield 29, 3) := by decide +kernel
theorem dM_isotropicAt_27 : decode cM_isotropicAt 27 = .ok (.ifCond .eq 5, 3) := by decide +kernel
theorem dM_isotropicAt_30 : decode cM_isotropicAt 30 = .ok (.iconst 0, 1) := by decide +kernel
theorem dM_isotropicAt_31 : decode cM_isotropicAt 31 = .ok (.ireturn, 1) := by decide +kernel
theorem dM_isotropicAt_32 : decode cM_isotropicAt 32 = .ok (.aload_n 0, 1) := by decide +kernel
theorem dM_isotropicAt_33 : decode cM_isotropicAt 33 = .ok (.iload_n 1, 1) := by decide +kernel
theorem dM_isotropicAt_34 : decode cM_isotropicAt 34 = .ok (.invokevirtual 115, 3) := by decide +kernel
theorem dM_isotropicAt_37 : decode cM_isotropicAt 37 = .ok (.aload_n 0, 1) := by decide +kernel
theorem dM_isotropicAt_38 : decode cM_isotropicAt 38 = .ok (.getfield 56, 3) := by decide +kernel
theorem dM_isotropicAt_41 : decode cM_isotropicAt 41 = .ok (.aload_n 0, 1) := by decide +kernel
theorem dM_isotropicAt_42 : decode cM_isotropicAt 42 = .ok (.getfield 7, 3) := by decide +kernel
theorem dM_isotropicAt_45 : decode cM_isotropicAt 45 = .ok (.iload_n 1, 1) := by decide +kernel
theorem dM_isotropicAt_46 : decode cM_isotropicAt 46 = .ok (.iaload, 1) := by decide +kernel
theorem dM_isotropicAt_47 : decode cM_isotropicAt 47 = .ok (.if_icmp .lt 39, 3) := by decide +kernel
theorem dM_isotropicAt_50 : decode cM_isotropicAt 50 = .ok (.aload_n 0, 1) := by decide +kernel
theorem dM_isotropicAt_51 : decode cM_isotropicAt 51 = .ok (.aload_n 0, 1) := by decide +kernel
theorem dM_isotropicAt_52 : decode cM_isotropicAt 52 = .ok (.getfield 56, 3) := by decide +kernel
theorem dM_isotropicAt_55 : decode cM_isotropicAt 55 = .ok (.aload_n 0, 1) := by decide +kernel
theorem dM_isotropicAt_56 : decode cM_isotropicAt 56 = .ok (.getfield 79, 3) := by decide +kernel
theorem dM_isotropicAt_59 : decode cM_isotropicAt 59 = .ok (.aload_n 0, 1) := by decide +kernel
theorem dM_isotropicAt_60 : decode cM_isotropicAt 60 = .ok (.getfield 59, 3) := by decide +kernel
theorem dM_isotropicAt_63 : decode cM_isotropicAt 63 = .ok (.ifCond .le 14, 3) := by decide +kernel
theorem dM_isotropicAt_66 : decode cM_isotropicAt 66 = .ok (.aload_n 0, 1) := by decide +kernel
theorem dM_isotropicAt_67 : decode cM_isotropicAt 67 = .ok (.getfield 62, 3) := by decide +kernel
theorem dM_isotropicAt_70 : decode cM_isotropicAt 70 = .ok (.ifCond .le 7, 3) := by decide +kernel
theorem dM_isotropicAt_73 : decode cM_isotropicAt 73 = .ok (.iconst 1, 1) := by decide +kernel
theorem dM_isotropicAt_74 : decode cM_isotropicAt 74 = .ok (.goto 4, 3) := by decide +kernel
theorem dM_isotropicAt_77 : decode cM_isotropicAt 77 = .ok (.iconst 0, 1) := by decide +kernel
theorem dM_isotropicAt_78 : decode cM_isotropicAt 78 = .ok (.iload_n 2, 1) := by decide +kernel
theorem dM_isotropicAt_79 : decode cM_isotropicAt 79 = .ok (.i2l, 1) := by decide +kernel
theorem dM_isotropicAt_80 : decode cM_isotropicAt 80 = .ok (.invokevirtual 107, 3) := by decide +kernel
theorem dM_isotropicAt_83 : decode cM_isotropicAt 83 = .ok (.ifCond .eq 7, 3) := by decide +kernel
theorem dM_isotropicAt_86 : decode cM_isotropicAt 86 = .ok (.iconst 1, 1) := by decide +kernel
theorem dM_isotropicAt_87 : decode cM_isotropicAt 87 = .ok (.goto 4, 3) := by decide +kernel
theorem dM_isotropicAt_90 : decode cM_isotropicAt 90 = .ok (.iconst 0, 1) := by decide +kernel
theorem dM_isotropicAt_91 : decode cM_isotropicAt 91 = .ok (.ireturn, 1) := by decide +kernel
abbrev cM_obstacle : ByteArray := prog_8_method_28_code
abbrev yM_obstacle : MethodName := ⟨"RationalFormsModel", "obstacle", "(I)I"⟩
abbrev wsM_obstacle : List Cond := .code yM_obstacle cM_obstacle 2 (some .int) :: GG
theorem dM_obstacle_0 : decode cM_obstacle 0 = .ok (.aload_n 0, 1) := by decide +kernel
theorem dM_obstacle_1 : decode cM_obstacle 1 = .ok (.iload_n 1, 1) := by decide +kernel
theorem dM_obstacle_2 : decode cM_obstacle 2 = .ok (.invokestatic 33, 3) := by decide +kernel
theorem dM_obstacle_5 : decode cM_obstacle 5 = .ok (.ifCond .eq 7, 3) := by decide +kernel
theorem dM_obstacle_8 : decode cM_obstacle 8 = .ok (.iconst 0, 1) := by decide +kernel
theorem dM_obstacle_9 : decode cM_obstacle 9 = .ok (.goto 4, 3) := by decide +kernel
theorem dM_obstacle_12 : decode cM_obstacle 12 = .ok (.iconst 1, 1) := by decide +kernel
theorem dM_obstacle_13 : decode cM_obstacle 13 = .ok (.putfield 29, 3) := by decide +kernel
theorem dM_obstacle_16 : decode cM_obstacle 16 = .ok (.aload_n 0, 1) := by decide +kernel
theorem dM_obstacle_17 : decode cM_obstacle 17 = .ok (.getfield 29, 3) := by decide +kernel
theorem dM_obstacle_20 : decode cM_obstacle 20 = .ok (.ifCond .eq 5, 3) := by decide +kernel
theorem dM_obstacle_23 : decode cM_obstacle 23 = .ok (.iconst 0, 1) := by decide +kernel
theorem dM_obstacle_24 : decode cM_obstacle 24 = .ok (.ireturn, 1) := by decide +kernel
theorem dM_obstacle_25 : decode cM_obstacle 25 = .ok (.aload_n 0, 1) := by decide +kernel
theorem dM_obstacle_26 : decode cM_obstacle 26 = .ok (.iload_n 1, 1) := by decide +kernel
theorem dM_obstacle_27 : decode cM_obstacle 27 = .ok (.invokevirtual 115, 3) := by decide +kernel
theorem dM_obstacle_30 : decode cM_obstacle 30 = .ok (.aload_n 0, 1) := by decide +kernel
theorem dM_obstacle_31 : decode cM_obstacle 31 = .ok (.getfield 56, 3) := by decide +kernel
theorem dM_obstacle_34 : decode cM_obstacle 34 = .ok (.aload_n 0, 1) := by decide +kernel
theorem dM_obstacle_35 : decode cM_obstacle 35 = .ok (.getfield 7, 3) := by decide +kernel
theorem dM_obstacle_38 : decode cM_obstacle 38 = .ok (.iload_n 1, 1) := by decide +kernel
theorem dM_obstacle_39 : decode cM_obstacle 39 = .ok (.iaload, 1) := by decide +kernel
theorem dM_obstacle_40 : decode cM_obstacle 40 = .ok (.if_icmp .ge 7, 3) := by decide +kernel
theorem dM_obstacle_43 : decode cM_obstacle 43 = .ok (.iconst (-1), 1) := by decide +kernel
theorem dM_obstacle_44 : decode cM_obstacle 44 = .ok (.goto 34, 3) := by decide +kernel
theorem dM_obstacle_47 : decode cM_obstacle 47 = .ok (.aload_n 0, 1) := by decide +kernel
theorem dM_obstacle_48 : decode cM_obstacle 48 = .ok (.aload_n 0, 1) := by decide +kernel
theorem dM_obstacle_49 : decode cM_obstacle 49 = .ok (.getfield 56, 3) := by decide +kernel
theorem dM_obstacle_52 : decode cM_obstacle 52 = .ok (.aload_n 0, 1) := by decide +kernel
theorem dM_obstacle_53 : decode cM_obstacle 53 = .ok (.getfield 79, 3) := by decide +kernel
theorem dM_obstacle_56 : decode cM_obstacle 56 = .ok (.aload_n 0, 1) := by decide +kernel
theorem dM_obstacle_57 : decode cM_obstacle 57 = .ok (.getfield 59, 3) := by decide +kernel
theorem dM_obstacle_60 : decode cM_obstacle 60 = .ok (.ifCond .le 14, 3) := by decide +kernel
theorem dM_obstacle_63 : decode cM_obstacle 63 = .ok (.aload_n 0, 1) := by decide +kernel
theorem dM_obstacle_64 : decode cM_obstacle 64 = .ok (.getfield 62, 3) := by decide +kernel
theorem dM_obstacle_67 : decode cM_obstacle 67 = .ok (.ifCond .le 7, 3) := by decide +kernel
theorem dM_obstacle_70 : decode cM_obstacle 70 = .ok (.iconst 1, 1) := by decide +kernel
theorem dM_obstacle_71 : decode cM_obstacle 71 = .ok (.goto 4, 3) := by decide +kernel
theorem dM_obstacle_74 : decode cM_obstacle 74 = .ok (.iconst 0, 1) := by decide +kernel
theorem dM_obstacle_75 : decode cM_obstacle 75 = .ok (.invokevirtual 122, 3) := by decide +kernel
theorem dM_obstacle_78 : decode cM_obstacle 78 = .ok (.ireturn, 1) := by decide +kernel
abbrev cM_takes : ByteArray := prog_8_method_29_code
abbrev yM_takes : MethodName := ⟨"RationalFormsModel", "takes", "(II)Z"⟩
abbrev wsM_takes : List Cond := .code yM_takes cM_takes 6 (some .boolean) :: GG
theorem dM_takes_0 : decode cM_takes 0 = .ok (.aload_n 0, 1) := by decide +kernel
theorem dM_takes_1 : decode cM_takes 1 = .ok (.iload_n 1, 1) := by decide +kernel
theorem dM_takes_2 : decode cM_takes 2 = .ok (.invokestatic 33, 3) := by decide +kernel
theorem dM_takes_5 : decode cM_takes 5 = .ok (.ifCond .eq 17, 3) := by decide +kernel
theorem dM_takes_8 : decode cM_takes 8 = .ok (.iload_n 2, 1) := by decide +kernel
theorem dM_takes_9 : decode cM_takes 9 = .ok (.sipush (-1000), 3) := by decide +kernel
theorem dM_takes_12 : decode cM_takes 12 = .ok (.if_icmp .lt 10, 3) := by decide +kernel
theorem dM_takes_15 : decode cM_takes 15 = .ok (.iload_n 2, 1) := by decide +kernel
theorem dM_takes_16 : decode cM_takes 16 = .ok (.sipush 1000, 3) := by decide +kernel
theorem dM_takes_19 : decode cM_takes 19 = .ok (.if_icmp .le 7, 3) := by decide +kernel
theorem dM_takes_22 : decode cM_takes 22 = .ok (.iconst 1, 1) := by decide +kernel
theorem dM_takes_23 : decode cM_takes 23 = .ok (.goto 12, 3) := by decide +kernel
theorem dM_takes_26 : decode cM_takes 26 = .ok (.iload_n 2, 1) := by decide +kernel
theorem dM_takes_27 : decode cM_takes 27 = .ok (.ifCond .ne 7, 3) := by decide +kernel
theorem dM_takes_30 : decode cM_takes 30 = .ok (.iconst 2, 1) := by decide +kernel
theorem dM_takes_31 : decode cM_takes 31 = .ok (.goto 4, 3) := by decide +kernel
theorem dM_takes_34 : decode cM_takes 34 = .ok (.iconst 0, 1) := by decide +kernel
theorem dM_takes_35 : decode cM_takes 35 = .ok (.putfield 29, 3) := by decide +kernel
theorem dM_takes_38 : decode cM_takes 38 = .ok (.aload_n 0, 1) := by decide +kernel
theorem dM_takes_39 : decode cM_takes 39 = .ok (.getfield 29, 3) := by decide +kernel
theorem dM_takes_42 : decode cM_takes 42 = .ok (.ifCond .eq 5, 3) := by decide +kernel
theorem dM_takes_45 : decode cM_takes 45 = .ok (.iconst 0, 1) := by decide +kernel
theorem dM_takes_46 : decode cM_takes 46 = .ok (.ireturn, 1) := by decide +kernel
theorem dM_takes_47 : decode cM_takes 47 = .ok (.aload_n 0, 1) := by decide +kernel
theorem dM_takes_48 : decode cM_takes 48 = .ok (.iload_n 1, 1) := by decide +kernel
theorem dM_takes_49 : decode cM_takes 49 = .ok (.invokevirtual 115, 3) := by decide +kernel
theorem dM_takes_52 : decode cM_takes 52 = .ok (.aload_n 0, 1) := by decide +kernel
theorem dM_takes_53 : decode cM_takes 53 = .ok (.getfield 56, 3) := by decide +kernel
theorem dM_takes_56 : decode cM_takes 56 = .ok (.ifCond .ne 5, 3) := by decide +kernel
theorem dM_takes_59 : decode cM_takes 59 = .ok (.iconst 0, 1) := by decide +kernel
theorem dM_takes_60 : decode cM_takes 60 = .ok (.ireturn, 1) := by decide +kernel
theorem dM_takes_61 : decode cM_takes 61 = .ok (.iload_n 2, 1) := by decide +kernel
theorem dM_takes_62 : decode cM_takes 62 = .ok (.ineg, 1) := by decide +kernel
theorem dM_takes_63 : decode cM_takes 63 = .ok (.i2l, 1) := by decide +kernel
theorem dM_takes_64 : decode cM_takes 64 = .ok (.invokestatic 69, 3) := by decide +kernel
theorem dM_takes_67 : decode cM_takes 67 = .ok (.lstore_n 3, 1) := by decide +kernel
theorem dM_takes_68 : decode cM_takes 68 = .ok (.aload_n 0, 1) := by decide +kernel
theorem dM_takes_69 : decode cM_takes 69 = .ok (.lload_n 3, 1) := by decide +kernel
theorem dM_takes_70 : decode cM_takes 70 = .ok (.invokevirtual 73, 3) := by decide +kernel
theorem dM_takes_73 : decode cM_takes 73 = .ok (.aload_n 0, 1) := by decide +kernel
theorem dM_takes_74 : decode cM_takes 74 = .ok (.getfield 20, 3) := by decide +kernel
theorem dM_takes_77 : decode cM_takes 77 = .ok (.aload_n 0, 1) := by decide +kernel
theorem dM_takes_78 : decode cM_takes 78 = .ok (.getfield 56, 3) := by decide +kernel
theorem dM_takes_81 : decode cM_takes 81 = .ok (.lload_n 3, 1) := by decide +kernel
theorem dM_takes_82 : decode cM_takes 82 = .ok (.lastore, 1) := by decide +kernel
theorem dM_takes_83 : decode cM_takes 83 = .ok (.aload_n 0, 1) := by decide +kernel
theorem dM_takes_84 : decode cM_takes 84 = .ok (.getfield 59, 3) := by decide +kernel
theorem dM_takes_87 : decode cM_takes 87 = .ok (.ifCond .le 10, 3) := by decide +kernel
theorem dM_takes_90 : decode cM_takes 90 = .ok (.aload_n 0, 1) := by decide +kernel
theorem dM_takes_91 : decode cM_takes 91 = .ok (.getfield 62, 3) := by decide +kernel
theorem dM_takes_94 : decode cM_takes 94 = .ok (.ifCond .gt 29, 3) := by decide +kernel
theorem dM_takes_97 : decode cM_takes 97 = .ok (.aload_n 0, 1) := by decide +kernel
theorem dM_takes_98 : decode cM_takes 98 = .ok (.getfield 59, 3) := by decide +kernel
theorem dM_takes_101 : decode cM_takes 101 = .ok (.ifCond .le 9, 3) := by decide +kernel
theorem dM_takes_104 : decode cM_takes 104 = .ok (.lload_n 3, 1) := by decide +kernel
theorem dM_takes_105 : decode cM_takes 105 = .ok (.lconst 0, 1) := by decide +kernel
theorem dM_takes_106 : decode cM_takes 106 = .ok (.lcmp, 1) := by decide +kernel
theorem dM_takes_107 : decode cM_takes 107 = .ok (.ifCond .lt 16, 3) := by decide +kernel
theorem dM_takes_110 : decode cM_takes 110 = .ok (.aload_n 0, 1) := by decide +kernel
theorem dM_takes_111 : decode cM_takes 111 = .ok (.getfield 62, 3) := by decide +kernel
theorem dM_takes_114 : decode cM_takes 114 = .ok (.ifCond .le 13, 3) := by decide +kernel
theorem dM_takes_117 : decode cM_takes 117 = .ok (.lload_n 3, 1) := by decide +kernel
theorem dM_takes_118 : decode cM_takes 118 = .ok (.lconst 0, 1) := by decide +kernel
theorem dM_takes_119 : decode cM_takes 119 = .ok (.lcmp, 1) := by decide +kernel
theorem dM_takes_120 : decode cM_takes 120 = .ok (.ifCond .le 7, 3) := by decide +kernel
theorem dM_takes_123 : decode cM_takes 123 = .ok (.iconst 1, 1) := by decide +kernel
theorem dM_takes_124 : decode cM_takes 124 = .ok (.goto 4, 3) := by decide +kernel
theorem dM_takes_127 : decode cM_takes 127 = .ok (.iconst 0, 1) := by decide +kernel
theorem dM_takes_128 : decode cM_takes 128 = .ok (.istore 5, 2) := by decide +kernel
theorem dM_takes_130 : decode cM_takes 130 = .ok (.aload_n 0, 1) := by decide +kernel
theorem dM_takes_131 : decode cM_takes 131 = .ok (.aload_n 0, 1) := by decide +kernel
theorem dM_takes_132 : decode cM_takes 132 = .ok (.getfield 56, 3) := by decide +kernel
theorem dM_takes_135 : decode cM_takes 135 = .ok (.iconst 1, 1) := by decide +kernel
theorem dM_takes_136 : decode cM_takes 136 = .ok (.iadd, 1) := by decide +kernel
theorem dM_takes_137 : decode cM_takes 137 = .ok (.aload_n 0, 1) := by decide +kernel
theorem dM_takes_138 : decode cM_takes 138 = .ok (.getfield 79, 3) := by decide +kernel
theorem dM_takes_141 : decode cM_takes 141 = .ok (.lload_n 3, 1) := by decide +kernel
theorem dM_takes_142 : decode cM_takes 142 = .ok (.invokestatic 76, 3) := by decide +kernel
theorem dM_takes_145 : decode cM_takes 145 = .ok (.iload 5, 2) := by decide +kernel
theorem dM_takes_147 : decode cM_takes 147 = .ok (.invokevirtual 122, 3) := by decide +kernel
theorem dM_takes_150 : decode cM_takes 150 = .ok (.ifCond .ge 7, 3) := by decide +kernel
theorem dM_takes_153 : decode cM_takes 153 = .ok (.iconst 1, 1) := by decide +kernel
theorem dM_takes_154 : decode cM_takes 154 = .ok (.goto 4, 3) := by decide +kernel
theorem dM_takes_157 : decode cM_takes 157 = .ok (.iconst 0, 1) := by decide +kernel
theorem dM_takes_158 : decode cM_takes 158 = .ok (.ireturn, 1) := by decide +kernel
abbrev cM_equivalent : ByteArray := prog_8_method_31_code
abbrev yM_equivalent : MethodName := ⟨"RationalFormsModel", "equivalent", "()Z"⟩
abbrev wsM_equivalent : List Cond := .code yM_equivalent cM_equivalent 8 (some .boolean) :: GG
theorem dM_equivalent_0 : decode cM_equivalent 0 = .ok (.aload_n 0, 1) := by decide +kernel
theorem dM_equivalent_1 : decode cM_equivalent 1 = .ok (.iconst 0, 1) := by decide +kernel
theorem dM_equivalent_2 : decode cM_equivalent 2 = .ok (.putfield 29, 3) := by decide +kernel
theorem dM_equivalent_5 : decode cM_equivalent 5 = .ok (.aload_n 0, 1) := by decide +kernel
theorem dM_equivalent_6 : decode cM_equivalent 6 = .ok (.iconst 0, 1) := by decide +kernel
theorem dM_equivalent_7 : decode cM_equivalent 7 = .ok (.invokevirtual 115, 3) := by decide +kernel
theorem dM_equivalent_10 : decode cM_equivalent 10 = .ok (.aload_n 0, 1) := by decide +kernel
theorem dM_equivalent_11 : decode cM_equivalent 11 = .ok (.invokevirtual 129, 3) := by decide +kernel
theorem dM_equivalent_14 : decode cM_equivalent 14 = .ok (.aload_n 0, 1) := by decide +kernel
theorem dM_equivalent_15 : decode cM_equivalent 15 = .ok (.getfield 56, 3) := by decide +kernel
theorem dM_equivalent_18 : decode cM_equivalent 18 = .ok (.istore_n 1, 1) := by decide +kernel
theorem dM_equivalent_19 : decode cM_equivalent 19 = .ok (.aload_n 0, 1) := by decide +kernel
theorem dM_equivalent_20 : decode cM_equivalent 20 = .ok (.getfield 59, 3) := by decide +kernel
theorem dM_equivalent_23 : decode cM_equivalent 23 = .ok (.istore_n 2, 1) := by decide +kernel
theorem dM_equivalent_24 : decode cM_equivalent 24 = .ok (.aload_n 0, 1) := by decide +kernel
theorem dM_equivalent_25 : decode cM_equivalent 25 = .ok (.getfield 79, 3) := by decide +kernel
theorem dM_equivalent_28 : decode cM_equivalent 28 = .ok (.lstore_n 3, 1) := by decide +kernel
theorem dM_equivalent_29 : decode cM_equivalent 29 = .ok (.aload_n 0, 1) := by decide +kernel
theorem dM_equivalent_30 : decode cM_equivalent 30 = .ok (.getfield 126, 3) := by decide +kernel
theorem dM_equivalent_33 : decode cM_equivalent 33 = .ok (.istore 5, 2) := by decide +kernel
theorem dM_equivalent_35 : decode cM_equivalent 35 = .ok (.iconst 0, 1) := by decide +kernel
theorem dM_equivalent_36 : decode cM_equivalent 36 = .ok (.istore 6, 2) := by decide +kernel
theorem dM_equivalent_38 : decode cM_equivalent 38 = .ok (.iload 6, 2) := by decide +kernel
theorem dM_equivalent_40 : decode cM_equivalent 40 = .ok (.aload_n 0, 1) := by decide +kernel
theorem dM_equivalent_41 : decode cM_equivalent 41 = .ok (.getfield 126, 3) := by decide +kernel
theorem dM_equivalent_44 : decode cM_equivalent 44 = .ok (.if_icmp .ge 26, 3) := by decide +kernel
theorem dM_equivalent_47 : decode cM_equivalent 47 = .ok (.aload_n 0, 1) := by decide +kernel
theorem dM_equivalent_48 : decode cM_equivalent 48 = .ok (.getfield 26, 3) := by decide +kernel
theorem dM_equivalent_51 : decode cM_equivalent 51 = .ok (.bipush 30, 2) := by decide +kernel
theorem dM_equivalent_53 : decode cM_equivalent 53 = .ok (.iload 6, 2) := by decide +kernel
theorem dM_equivalent_55 : decode cM_equivalent 55 = .ok (.iadd, 1) := by decide +kernel
theorem dM_equivalent_56 : decode cM_equivalent 56 = .ok (.aload_n 0, 1) := by decide +kernel
theorem dM_equivalent_57 : decode cM_equivalent 57 = .ok (.getfield 26, 3) := by decide +kernel
theorem dM_equivalent_60 : decode cM_equivalent 60 = .ok (.iload 6, 2) := by decide +kernel
theorem dM_equivalent_62 : decode cM_equivalent 62 = .ok (.iaload, 1) := by decide +kernel
theorem dM_equivalent_63 : decode cM_equivalent 63 = .ok (.iastore, 1) := by decide +kernel
theorem dM_equivalent_64 : decode cM_equivalent 64 = .ok (.iinc 6 1, 3) := by decide +kernel
theorem dM_equivalent_67 : decode cM_equivalent 67 = .ok (.goto (-29), 3) := by decide +kernel
theorem dM_equivalent_70 : decode cM_equivalent 70 = .ok (.aload_n 0, 1) := by decide +kernel
theorem dM_equivalent_71 : decode cM_equivalent 71 = .ok (.iconst 1, 1) := by decide +kernel
theorem dM_equivalent_72 : decode cM_equivalent 72 = .ok (.invokevirtual 115, 3) := by decide +kernel
theorem dM_equivalent_75 : decode cM_equivalent 75 = .ok (.aload_n 0, 1) := by decide +kernel
theorem dM_equivalent_76 : decode cM_equivalent 76 = .ok (.invokevirtual 129, 3) := by decide +kernel
theorem dM_equivalent_79 : decode cM_equivalent 79 = .ok (.aload_n 0, 1) := by decide +kernel
theorem dM_equivalent_80 : decode cM_equivalent 80 = .ok (.getfield 7, 3) := by decide +kernel
theorem dM_equivalent_83 : decode cM_equivalent 83 = .ok (.iconst 0, 1) := by decide +kernel
theorem dM_equivalent_84 : decode cM_equivalent 84 = .ok (.iaload, 1) := by decide +kernel
theorem dM_equivalent_85 : decode cM_equivalent 85 = .ok (.aload_n 0, 1) := by decide +kernel
theorem dM_equivalent_86 : decode cM_equivalent 86 = .ok (.getfield 7, 3) := by decide +kernel
theorem dM_equivalent_89 : decode cM_equivalent 89 = .ok (.iconst 1, 1) := by decide +kernel
theorem dM_equivalent_90 : decode cM_equivalent 90 = .ok (.iaload, 1) := by decide +kernel
theorem dM_equivalent_91 : decode cM_equivalent 91 = .ok (.if_icmp .ne 41, 3) := by decide +kernel
theorem dM_equivalent_94 : decode cM_equivalent 94 = .ok (.aload_n 0, 1) := by decide +kernel
theorem dM_equivalent_95 : decode cM_equivalent 95 = .ok (.getfield 56, 3) := by decide +kernel
theorem dM_equivalent_98 : decode cM_equivalent 98 = .ok (.iload_n 1, 1) := by decide +kernel
theorem dM_equivalent_99 : decode cM_equivalent 99 = .ok (.if_icmp .ne 33, 3) := by decide +kernel
theorem dM_equivalent_102 : decode cM_equivalent 102 = .ok (.aload_n 0, 1) := by decide +kernel
theorem dM_equivalent_103 : decode cM_equivalent 103 = .ok (.getfield 59, 3) := by decide +kernel
theorem dM_equivalent_106 : decode cM_equivalent 106 = .ok (.iload_n 2, 1) := by decide +kernel
theorem dM_equivalent_107 : decode cM_equivalent 107 = .ok (.if_icmp .ne 25, 3) := by decide +kernel
theorem dM_equivalent_110 : decode cM_equivalent 110 = .ok (.aload_n 0, 1) := by decide +kernel
theorem dM_equivalent_111 : decode cM_equivalent 111 = .ok (.getfield 79, 3) := by decide +kernel
theorem dM_equivalent_114 : decode cM_equivalent 114 = .ok (.lload_n 3, 1) := by decide +kernel
theorem dM_equivalent_115 : decode cM_equivalent 115 = .ok (.lcmp, 1) := by decide +kernel
theorem dM_equivalent_116 : decode cM_equivalent 116 = .ok (.ifCond .ne 16, 3) := by decide +kernel
theorem dM_equivalent_119 : decode cM_equivalent 119 = .ok (.aload_n 0, 1) := by decide +kernel
theorem dM_equivalent_120 : decode cM_equivalent 120 = .ok (.getfield 126, 3) := by decide +kernel
theorem dM_equivalent_123 : decode cM_equivalent 123 = .ok (.iload 5, 2) := by decide +kernel
theorem dM_equivalent_125 : decode cM_equivalent 125 = .ok (.if_icmp .ne 7, 3) := by decide +kernel
theorem dM_equivalent_128 : decode cM_equivalent 128 = .ok (.iconst 1, 1) := by decide +kernel
theorem dM_equivalent_129 : decode cM_equivalent 129 = .ok (.goto 4, 3) := by decide +kernel
theorem dM_equivalent_132 : decode cM_equivalent 132 = .ok (.iconst 0, 1) := by decide +kernel
theorem dM_equivalent_133 : decode cM_equivalent 133 = .ok (.istore 6, 2) := by decide +kernel
theorem dM_equivalent_135 : decode cM_equivalent 135 = .ok (.iconst 0, 1) := by decide +kernel
theorem dM_equivalent_136 : decode cM_equivalent 136 = .ok (.istore 7, 2) := by decide +kernel
theorem dM_equivalent_138 : decode cM_equivalent 138 = .ok (.iload 7, 2) := by decide +kernel
theorem dM_equivalent_140 : decode cM_equivalent 140 = .ok (.aload_n 0, 1) := by decide +kernel
theorem dM_equivalent_141 : decode cM_equivalent 141 = .ok (.getfield 126, 3) := by decide +kernel
theorem dM_equivalent_144 : decode cM_equivalent 144 = .ok (.if_icmp .ge 41, 3) := by decide +kernel
theorem dM_equivalent_147 : decode cM_equivalent 147 = .ok (.iload 6, 2) := by decide +kernel
theorem dM_equivalent_149 : decode cM_equivalent 149 = .ok (.ifCond .eq 36, 3) := by decide +kernel
theorem dM_equivalent_152 : decode cM_equivalent 152 = .ok (.aload_n 0, 1) := by decide +kernel
theorem dM_equivalent_153 : decode cM_equivalent 153 = .ok (.getfield 26, 3) := by decide +kernel
theorem dM_equivalent_156 : decode cM_equivalent 156 = .ok (.iload 7, 2) := by decide +kernel
theorem dM_equivalent_158 : decode cM_equivalent 158 = .ok (.iaload, 1) := by decide +kernel
theorem dM_equivalent_159 : decode cM_equivalent 159 = .ok (.aload_n 0, 1) := by decide +kernel
theorem dM_equivalent_160 : decode cM_equivalent 160 = .ok (.getfield 26, 3) := by decide +kernel
theorem dM_equivalent_163 : decode cM_equivalent 163 = .ok (.bipush 30, 2) := by decide +kernel
theorem dM_equivalent_165 : decode cM_equivalent 165 = .ok (.iload 7, 2) := by decide +kernel
theorem dM_equivalent_167 : decode cM_equivalent 167 = .ok (.iadd, 1) := by decide +kernel
theorem dM_equivalent_168 : decode cM_equivalent 168 = .ok (.iaload, 1) := by decide +kernel
theorem dM_equivalent_169 : decode cM_equivalent 169 = .ok (.if_icmp .ne 7, 3) := by decide +kernel
theorem dM_equivalent_172 : decode cM_equivalent 172 = .ok (.iconst 1, 1) := by decide +kernel
theorem dM_equivalent_173 : decode cM_equivalent 173 = .ok (.goto 4, 3) := by decide +kernel
theorem dM_equivalent_176 : decode cM_equivalent 176 = .ok (.iconst 0, 1) := by decide +kernel
theorem dM_equivalent_177 : decode cM_equivalent 177 = .ok (.istore 6, 2) := by decide +kernel
theorem dM_equivalent_179 : decode cM_equivalent 179 = .ok (.iinc 7 1, 3) := by decide +kernel
theorem dM_equivalent_182 : decode cM_equivalent 182 = .ok (.goto (-44), 3) := by decide +kernel
theorem dM_equivalent_185 : decode cM_equivalent 185 = .ok (.iload 6, 2) := by decide +kernel
theorem dM_equivalent_187 : decode cM_equivalent 187 = .ok (.ireturn, 1) := by decide +kernel
abbrev cM_value : ByteArray := prog_8_method_32_code
abbrev yM_value : MethodName := ⟨"RationalFormsModel", "value", "(IIIII)J"⟩
abbrev wsM_value : List Cond := .code yM_value cM_value 13 (some .long) :: GG
theorem dM_value_0 : decode cM_value 0 = .ok (.iload_n 1, 1) := by decide +kernel
theorem dM_value_1 : decode cM_value 1 = .ok (.invokestatic 33, 3) := by decide +kernel
theorem dM_value_4 : decode cM_value 4 = .ok (.ifCond .ne 7, 3) := by decide +kernel
theorem dM_value_7 : decode cM_value 7 = .ok (.iconst 1, 1) := by decide +kernel
theorem dM_value_8 : decode cM_value 8 = .ok (.goto 4, 3) := by decide +kernel
theorem dM_value_11 : decode cM_value 11 = .ok (.iconst 0, 1) := by decide +kernel
theorem dM_value_12 : decode cM_value 12 = .ok (.istore 6, 2) := by decide +kernel
theorem dM_value_14 : decode cM_value 14 = .ok (.lconst 0, 1) := by decide +kernel
theorem dM_value_15 : decode cM_value 15 = .ok (.lstore 7, 2) := by decide +kernel
theorem dM_value_17 : decode cM_value 17 = .ok (.iconst 0, 1) := by decide +kernel
theorem dM_value_18 : decode cM_value 18 = .ok (.istore 9, 2) := by decide +kernel
theorem dM_value_20 : decode cM_value 20 = .ok (.iload 9, 2) := by decide +kernel
theorem dM_value_22 : decode cM_value 22 = .ok (.iconst 4, 1) := by decide +kernel
theorem dM_value_23 : decode cM_value 23 = .ok (.if_icmp .ge 162, 3) := by decide +kernel
theorem dM_value_26 : decode cM_value 26 = .ok (.iload 6, 2) := by decide +kernel
theorem dM_value_28 : decode cM_value 28 = .ok (.ifCond .ne 157, 3) := by decide +kernel
theorem dM_value_31 : decode cM_value 31 = .ok (.iload 9, 2) := by decide +kernel
theorem dM_value_33 : decode cM_value 33 = .ok (.ifCond .ne 7, 3) := by decide +kernel
theorem dM_value_36 : decode cM_value 36 = .ok (.iload_n 2, 1) := by decide +kernel
theorem dM_value_37 : decode cM_value 37 = .ok (.goto 26, 3) := by decide +kernel
theorem dM_value_40 : decode cM_value 40 = .ok (.iload 9, 2) := by decide +kernel
theorem dM_value_42 : decode cM_value 42 = .ok (.iconst 1, 1) := by decide +kernel
theorem dM_value_43 : decode cM_value 43 = .ok (.if_icmp .ne 7, 3) := by decide +kernel
theorem dM_value_46 : decode cM_value 46 = .ok (.iload_n 3, 1) := by decide +kernel
theorem dM_value_47 : decode cM_value 47 = .ok (.goto 16, 3) := by decide +kernel
theorem dM_value_50 : decode cM_value 50 = .ok (.iload 9, 2) := by decide +kernel
theorem dM_value_52 : decode cM_value 52 = .ok (.iconst 2, 1) := by decide +kernel
theorem dM_value_53 : decode cM_value 53 = .ok (.if_icmp .ne 8, 3) := by decide +kernel
theorem dM_value_56 : decode cM_value 56 = .ok (.iload 4, 2) := by decide +kernel
theorem dM_value_58 : decode cM_value 58 = .ok (.goto 5, 3) := by decide +kernel
theorem dM_value_61 : decode cM_value 61 = .ok (.iload 5, 2) := by decide +kernel
theorem dM_value_63 : decode cM_value 63 = .ok (.istore 10, 2) := by decide +kernel
theorem dM_value_65 : decode cM_value 65 = .ok (.iload 9, 2) := by decide +kernel
theorem dM_value_67 : decode cM_value 67 = .ok (.aload_n 0, 1) := by decide +kernel
theorem dM_value_68 : decode cM_value 68 = .ok (.getfield 7, 3) := by decide +kernel
theorem dM_value_71 : decode cM_value 71 = .ok (.iload_n 1, 1) := by decide +kernel
theorem dM_value_72 : decode cM_value 72 = .ok (.iaload, 1) := by decide +kernel
theorem dM_value_73 : decode cM_value 73 = .ok (.if_icmp .ge 23, 3) := by decide +kernel
theorem dM_value_76 : decode cM_value 76 = .ok (.iload 10, 2) := by decide +kernel
theorem dM_value_78 : decode cM_value 78 = .ok (.sipush (-1000), 3) := by decide +kernel
theorem dM_value_81 : decode cM_value 81 = .ok (.if_icmp .lt 11, 3) := by decide +kernel
theorem dM_value_84 : decode cM_value 84 = .ok (.iload 10, 2) := by decide +kernel
theorem dM_value_86 : decode cM_value 86 = .ok (.sipush 1000, 3) := by decide +kernel
theorem dM_value_89 : decode cM_value 89 = .ok (.if_icmp .le 7, 3) := by decide +kernel
theorem dM_value_92 : decode cM_value 92 = .ok (.iconst 1, 1) := by decide +kernel
theorem dM_value_93 : decode cM_value 93 = .ok (.goto 4, 3) := by decide +kernel
theorem dM_value_96 : decode cM_value 96 = .ok (.iconst 0, 1) := by decide +kernel
theorem dM_value_97 : decode cM_value 97 = .ok (.istore 6, 2) := by decide +kernel
theorem dM_value_99 : decode cM_value 99 = .ok (.iconst 0, 1) := by decide +kernel
theorem dM_value_100 : decode cM_value 100 = .ok (.istore 11, 2) := by decide +kernel
theorem dM_value_102 : decode cM_value 102 = .ok (.iload 11, 2) := by decide +kernel
theorem dM_value_104 : decode cM_value 104 = .ok (.iconst 4, 1) := by decide +kernel
theorem dM_value_105 : decode cM_value 105 = .ok (.if_icmp .ge 74, 3) := by decide +kernel
theorem dM_value_108 : decode cM_value 108 = .ok (.iload 11, 2) := by decide +kernel
theorem dM_value_110 : decode cM_value 110 = .ok (.ifCond .ne 7, 3) := by decide +kernel
theorem dM_value_113 : decode cM_value 113 = .ok (.iload_n 2, 1) := by decide +kernel
theorem dM_value_114 : decode cM_value 114 = .ok (.goto 26, 3) := by decide +kernel
theorem dM_value_117 : decode cM_value 117 = .ok (.iload 11, 2) := by decide +kernel
theorem dM_value_119 : decode cM_value 119 = .ok (.iconst 1, 1) := by decide +kernel
theorem dM_value_120 : decode cM_value 120 = .ok (.if_icmp .ne 7, 3) := by decide +kernel
theorem dM_value_123 : decode cM_value 123 = .ok (.iload_n 3, 1) := by decide +kernel
theorem dM_value_124 : decode cM_value 124 = .ok (.goto 16, 3) := by decide +kernel
theorem dM_value_127 : decode cM_value 127 = .ok (.iload 11, 2) := by decide +kernel
theorem dM_value_129 : decode cM_value 129 = .ok (.iconst 2, 1) := by decide +kernel
theorem dM_value_130 : decode cM_value 130 = .ok (.if_icmp .ne 8, 3) := by decide +kernel
theorem dM_value_133 : decode cM_value 133 = .ok (.iload 4, 2) := by decide +kernel
theorem dM_value_135 : decode cM_value 135 = .ok (.goto 5, 3) := by decide +kernel
theorem dM_value_138 : decode cM_value 138 = .ok (.iload 5, 2) := by decide +kernel
theorem dM_value_140 : decode cM_value 140 = .ok (.istore 12, 2) := by decide +kernel
theorem dM_value_142 : decode cM_value 142 = .ok (.lload 7, 2) := by decide +kernel
theorem dM_value_144 : decode cM_value 144 = .ok (.aload_n 0, 1) := by decide +kernel
theorem dM_value_145 : decode cM_value 145 = .ok (.getfield 13, 3) := by decide +kernel
theorem dM_value_148 : decode cM_value 148 = .ok (.bipush 16, 2) := by decide +kernel
theorem dM_value_150 : decode cM_value 150 = .ok (.iload_n 1, 1) := by decide +kernel
theorem dM_value_151 : decode cM_value 151 = .ok (.imul, 1) := by decide +kernel
theorem dM_value_152 : decode cM_value 152 = .ok (.iconst 4, 1) := by decide +kernel
theorem dM_value_153 : decode cM_value 153 = .ok (.iload 9, 2) := by decide +kernel
theorem dM_value_155 : decode cM_value 155 = .ok (.imul, 1) := by decide +kernel
theorem dM_value_156 : decode cM_value 156 = .ok (.iadd, 1) := by decide +kernel
theorem dM_value_157 : decode cM_value 157 = .ok (.iload 11, 2) := by decide +kernel
theorem dM_value_159 : decode cM_value 159 = .ok (.iadd, 1) := by decide +kernel
theorem dM_value_160 : decode cM_value 160 = .ok (.iaload, 1) := by decide +kernel
theorem dM_value_161 : decode cM_value 161 = .ok (.i2l, 1) := by decide +kernel
theorem dM_value_162 : decode cM_value 162 = .ok (.iload 10, 2) := by decide +kernel
theorem dM_value_164 : decode cM_value 164 = .ok (.i2l, 1) := by decide +kernel
theorem dM_value_165 : decode cM_value 165 = .ok (.lmul, 1) := by decide +kernel
theorem dM_value_166 : decode cM_value 166 = .ok (.iload 12, 2) := by decide +kernel
theorem dM_value_168 : decode cM_value 168 = .ok (.i2l, 1) := by decide +kernel
theorem dM_value_169 : decode cM_value 169 = .ok (.lmul, 1) := by decide +kernel
theorem dM_value_170 : decode cM_value 170 = .ok (.ladd, 1) := by decide +kernel
theorem dM_value_171 : decode cM_value 171 = .ok (.lstore 7, 2) := by decide +kernel
theorem dM_value_173 : decode cM_value 173 = .ok (.iinc 11 1, 3) := by decide +kernel
theorem dM_value_176 : decode cM_value 176 = .ok (.goto (-74), 3) := by decide +kernel
theorem dM_value_179 : decode cM_value 179 = .ok (.iinc 9 1, 3) := by decide +kernel
theorem dM_value_182 : decode cM_value 182 = .ok (.goto (-162), 3) := by decide +kernel
theorem dM_value_185 : decode cM_value 185 = .ok (.aload_n 0, 1) := by decide +kernel
theorem dM_value_186 : decode cM_value 186 = .ok (.iload 6, 2) := by decide +kernel
theorem dM_value_188 : decode cM_value 188 = .ok (.ifCond .eq 7, 3) := by decide +kernel
theorem dM_value_191 : decode cM_value 191 = .ok (.iconst 1, 1) := by decide +kernel
theorem dM_value_192 : decode cM_value 192 = .ok (.goto 4, 3) := by decide +kernel
theorem dM_value_195 : decode cM_value 195 = .ok (.iconst 0, 1) := by decide +kernel
theorem dM_value_196 : decode cM_value 196 = .ok (.putfield 29, 3) := by decide +kernel
theorem dM_value_199 : decode cM_value 199 = .ok (.aload_n 0, 1) := by decide +kernel
theorem dM_value_200 : decode cM_value 200 = .ok (.getfield 29, 3) := by decide +kernel
theorem dM_value_203 : decode cM_value 203 = .ok (.ifCond .ne 8, 3) := by decide +kernel
theorem dM_value_206 : decode cM_value 206 = .ok (.lload 7, 2) := by decide +kernel
theorem dM_value_208 : decode cM_value 208 = .ok (.goto 4, 3) := by decide +kernel
theorem dM_value_211 : decode cM_value 211 = .ok (.lconst 0, 1) := by decide +kernel
theorem dM_value_212 : decode cM_value 212 = .ok (.lreturn, 1) := by decide +kernel
abbrev cM_sign : ByteArray := prog_8_method_33_code
abbrev yM_sign : MethodName := ⟨"RationalFormsModel", "sign", "(II)I"⟩
abbrev wsM_sign : List Cond := .code yM_sign cM_sign 3 (some .int) :: GG
theorem dM_sign_0 : decode cM_sign 0 = .ok (.aload_n 0, 1) := by decide +kernel
theorem dM_sign_1 : decode cM_sign 1 = .ok (.iload_n 1, 1) := by decide +kernel
theorem dM_sign_2 : decode cM_sign 2 = .ok (.invokestatic 33, 3) := by decide +kernel
theorem dM_sign_5 : decode cM_sign 5 = .ok (.ifCond .eq 7, 3) := by decide +kernel
theorem dM_sign_8 : decode cM_sign 8 = .ok (.iconst 0, 1) := by decide +kernel
theorem dM_sign_9 : decode cM_sign 9 = .ok (.goto 4, 3) := by decide +kernel
theorem dM_sign_12 : decode cM_sign 12 = .ok (.iconst 1, 1) := by decide +kernel
theorem dM_sign_13 : decode cM_sign 13 = .ok (.putfield 29, 3) := by decide +kernel
theorem dM_sign_16 : decode cM_sign 16 = .ok (.aload_n 0, 1) := by decide +kernel
theorem dM_sign_17 : decode cM_sign 17 = .ok (.getfield 29, 3) := by decide +kernel
theorem dM_sign_20 : decode cM_sign 20 = .ok (.ifCond .eq 5, 3) := by decide +kernel
theorem dM_sign_23 : decode cM_sign 23 = .ok (.iconst 0, 1) := by decide +kernel
theorem dM_sign_24 : decode cM_sign 24 = .ok (.ireturn, 1) := by decide +kernel
theorem dM_sign_25 : decode cM_sign 25 = .ok (.aload_n 0, 1) := by decide +kernel
theorem dM_sign_26 : decode cM_sign 26 = .ok (.iload_n 1, 1) := by decide +kernel
theorem dM_sign_27 : decode cM_sign 27 = .ok (.invokevirtual 115, 3) := by decide +kernel
theorem dM_sign_30 : decode cM_sign 30 = .ok (.aload_n 0, 1) := by decide +kernel
theorem dM_sign_31 : decode cM_sign 31 = .ok (.invokevirtual 129, 3) := by decide +kernel
theorem dM_sign_34 : decode cM_sign 34 = .ok (.aload_n 0, 1) := by decide +kernel
theorem dM_sign_35 : decode cM_sign 35 = .ok (.iload_n 2, 1) := by decide +kernel
theorem dM_sign_36 : decode cM_sign 36 = .ok (.ifCond .lt 11, 3) := by decide +kernel
theorem dM_sign_39 : decode cM_sign 39 = .ok (.iload_n 2, 1) := by decide +kernel
theorem dM_sign_40 : decode cM_sign 40 = .ok (.aload_n 0, 1) := by decide +kernel
theorem dM_sign_41 : decode cM_sign 41 = .ok (.getfield 126, 3) := by decide +kernel
theorem dM_sign_44 : decode cM_sign 44 = .ok (.if_icmp .lt 7, 3) := by decide +kernel
theorem dM_sign_47 : decode cM_sign 47 = .ok (.iconst 2, 1) := by decide +kernel
theorem dM_sign_48 : decode cM_sign 48 = .ok (.goto 4, 3) := by decide +kernel
theorem dM_sign_51 : decode cM_sign 51 = .ok (.iconst 0, 1) := by decide +kernel
theorem dM_sign_52 : decode cM_sign 52 = .ok (.putfield 29, 3) := by decide +kernel
theorem dM_sign_55 : decode cM_sign 55 = .ok (.aload_n 0, 1) := by decide +kernel
theorem dM_sign_56 : decode cM_sign 56 = .ok (.getfield 29, 3) := by decide +kernel
theorem dM_sign_59 : decode cM_sign 59 = .ok (.ifCond .ne 12, 3) := by decide +kernel
theorem dM_sign_62 : decode cM_sign 62 = .ok (.aload_n 0, 1) := by decide +kernel
theorem dM_sign_63 : decode cM_sign 63 = .ok (.getfield 26, 3) := by decide +kernel
theorem dM_sign_66 : decode cM_sign 66 = .ok (.iload_n 2, 1) := by decide +kernel
theorem dM_sign_67 : decode cM_sign 67 = .ok (.iaload, 1) := by decide +kernel
theorem dM_sign_68 : decode cM_sign 68 = .ok (.goto 4, 3) := by decide +kernel
theorem dM_sign_71 : decode cM_sign 71 = .ok (.iconst 0, 1) := by decide +kernel
theorem dM_sign_72 : decode cM_sign 72 = .ok (.ireturn, 1) := by decide +kernel
abbrev aM (M : Me) (f : Nat) : Mt := fun i j => M 30 (16 * f + (4 * i + j))
def MI (M : Me) (f n : Nat) : Prop := M 29 f = n ∧ 1 ≤ n ∧ n ≤ 4 ∧ sb 0 4 6 (aM M f)
def FrQ (M M9 : Me) : Prop := ∀ q, (q < 28 ∨ q = 29 ∨ q = 30 ∨ q = 35) → M9 q = M q
abbrev fo (f : Int) : Prop := f = 0 ∨ f = 1
abbrev pl0 (p : Int) : Prop := p = 0 ∨ (p ≤ 1000 ∧ prm p.toNat)
noncomputable def abv (n r : Nat) (p : Nat → Int) (w : Int) : Int := if w = 0 then n else if w = 1 then r else if w = 2 then ps p r else if w = 3 then ng p r else sf (bef p r)
/-- a form with n variables and the table A has the r pivots p -/
def fpv (n : Nat) (A : Mt) (r : Nat) (p : Nat → Int) : Prop := PV n A r p ∧ pB p r ∧ r ≤ n
theorem fo_g {f : Int} (h : fo f) : ∃ g : Nat, g < 2 ∧ f = g := by
  rcases h with h | h
  · exact ⟨0, by omega, h⟩
  · exact ⟨1, by omega, h⟩
theorem fo_u {f : Int} {g : Nat} {P : Nat → Prop} (hfg : f = g) (h : P g) : ∀ g' : Nat, f = g' → P g' := fun g' hg' => by
  have e : g' = g := by omega
  rw [e]; exact h
theorem pl0_plc {p : Int} (h : pl0 p) : plc p := by
  rcases h with h | ⟨h1, h2⟩
  · exact Or.inl h
  · have := h2.1
    right
    omega
set_option maxRecDepth 20000 in
theorem wd507 : Cond.methodLink "RationalFormsModel" 33 yM_isForm ∈ GG := GG_t 507 rfl rfl
set_option maxRecDepth 20000 in
theorem wd508 : Cond.static yM_isForm ∈ GG := GG_t 508 rfl rfl
set_option maxRecDepth 20000 in
theorem wd509 : Cond.code yM_isForm cM_isForm 1 (some .boolean) ∈ GG := GG_t 509 rfl rfl
set_option maxRecDepth 20000 in
theorem wd518 : Cond.methodLink "RationalFormsModel" 115 yM_look ∈ GG := GG_t 518 rfl rfl
set_option maxRecDepth 20000 in
theorem wd520 : Cond.instanceMethod yM_look ∈ GG := GG_t 520 rfl rfl
set_option maxRecDepth 20000 in
theorem wd521 : Cond.code yM_look cM_look 14 none ∈ GG := GG_t 521 rfl rfl
set_option maxRecDepth 20000 in
theorem wd553 : Cond.methodLink "RationalFormsModel" 119 yM_isPlace ∈ GG := GG_t 553 rfl rfl
set_option maxRecDepth 20000 in
theorem wd554 : Cond.static yM_isPlace ∈ GG := GG_t 554 rfl rfl
set_option maxRecDepth 20000 in
theorem wd555 : Cond.code yM_isPlace cM_isPlace 1 (some .boolean) ∈ GG := GG_t 555 rfl rfl
set_option maxRecDepth 20000 in
theorem wds12 : Cond.selects "RationalFormsModel" yM_look yM_look ∈ GG := GG_s 12 rfl rfl
set_option maxRecDepth 100000 in
set_option maxHeartbeats 4000000 in
theorem kM_begin (l : Launch) (E : En) (hJ : wJ E) (M : Me) (f n : Int) (hf : b32 f) (hn : b32 n) : MM l yM_begin wsM_begin (rmd 1) E M [.ref (E.2.1 28), .int (ji f), .int (ji n)] (fun v M9 => v = none ∧ (¬ (fo f ∧ 1 ≤ n ∧ n ≤ 4) → M9 28 12 = 1 ∧ M9 29 = M 29 ∧ M9 30 = M 30) ∧ ((fo f ∧ 1 ≤ n ∧ n ≤ 4) → M9 28 12 = 0 ∧ ∀ g : Nat, f = g → M9 29 g = n ∧ (∀ h, h ≠ g → M9 29 h = M 29 h) ∧ (∀ i, i < 16 → M9 30 (16 * g + i) = 0) ∧ ∀ x, (x < 16 * g ∨ 16 * g + 16 ≤ x) → M9 30 x = M 30 x) ∧ ∀ q, (q < 28 ∨ q = 35) → M9 q = M q) := by
  refine MM.ofG (by decide +kernel) (Nat.le_of_ble_eq_true rfl) ?_
  intro p_ e_ s_ m_ a_ b_ t_ c_ hx hb hml hr hk hg hown hK hP hS ls hl
  have hl : lv_has ls 4 [(0, .ref (E.2.1 28)), (1, .int (ji f)), (2, .int (ji n))] := hl
  have bad : ∀ (ls : Array Slot), ¬ (fo f ∧ 1 ≤ n ∧ n ≤ 4) → lv_has ls 4 [(0, .ref (E.2.1 28)), (1, .int (ji f)), (2, .int (ji n))] → W p_ l e_ (rmd 1) s_ m_ a_ b_ t_ c_ s_.heap [] 0 0 (XQ b_ (mmQ E (fun v M9 => v = none ∧ (¬ (fo f ∧ 1 ≤ n ∧ n ≤ 4) → M9 28 12 = 1 ∧ M9 29 = M 29 ∧ M9 30 = M 30) ∧ ((fo f ∧ 1 ≤ n ∧ n ≤ 4) → M9 28 12 = 0 ∧ ∀ g : Nat, f = g → M9 29 g = n ∧ (∀ h, h ≠ g → M9 29 h = M 29 h) ∧ (∀ i, i < 16 → M9 30 (16 * g + i) = 0) ∧ ∀ x, (x < 16 * g ∨ 16 * g + 16 ≤ x) → M9 30 x = M 30 x) ∧ ∀ q, (q < 28 ∨ q = 35) → M9 q = M q)) a_ s_ 0 0 (wA E)) (F0 m_ 18 ls [.ref (E.2.1 28)]) := by
    intro ls hno hl
    refine j_iconst hx hb dM_begin_18 ?_
    refine lv_goto hx hb dM_begin_19 rfl ?_
    refine m_put (C := "RationalFormsModel") (T := TxM) (N := 13) (ty := .int) (z := 1) hx hb hg uwM txM txM_ok nmM hown hK hJ hP hS (by omega) (sh_M E _) rfl 12 (by decide) wd471 rfl rfl rfl rfl (Nat.le_of_ble_eq_true rfl) (by rw [sh_M E _]; simp [mu]) dM_begin_23 (fun H locs hP hS => ?_)
    refine lv_aload_n hx hb dM_begin_26 rfl (lv_at hl 0 rfl) ?_
    refine m_get (C := "RationalFormsModel") (T := TxM) (N := 13) hx hb hg uwM hown hK hP (by omega) (sh_M E _) rfl 12 (by decide) wd471 rfl dM_begin_27 ?_
    refine j_if_ne hx hb (by rw [mu_s]; decide) dM_begin_30 rfl (fun h9 => ?_) (fun h9 => ?_)
    · exact mm_vret hx hb hr hk hP hS dM_begin_66 ⟨rfl, fun _ => ⟨mu_s _ _ _ _, mu_k (by omega), mu_k (by omega)⟩, fun q => absurd q hno, fun q hq => mu_k (by omega)⟩
    · rw [mu_s] at h9
      omega
  refine lv_aload_n hx hb dM_begin_0 rfl (lv_at hl 0 rfl) ?_
  refine lv_iload_n hx hb dM_begin_1 rfl (lv_at hl 1 rfl) ?_
  refine pm_G (As := [.int (ji f)]) (rest := [.ref (E.2.1 28)]) hx hb hml hown hg hl (kM_isForm l f hf) wd507 wd508 wd5 wd509 ⟨rfl, rfl⟩ (n := 1) (by decide +kernel) rfl ⟨by decide, by decide⟩ rfl (Nat.le_of_ble_eq_true rfl) dM_begin_2 ⟨Nat.zero_le _, Nat.zero_le _⟩ (fun r hr9 => ?_)
  subst hr9
  refine j_if_eq hx hb (bi_b32 _) dM_begin_5 rfl (fun h1 => ?_) (fun h1 => ?_)
  · exact bad ls (fun q => bi_eq h1 q.1) hl
  · have hfo := bi_ne h1
    refine lv_iload_n hx hb dM_begin_8 rfl (lv_at hl 2 rfl) ?_
    refine j_iconst hx hb dM_begin_9 ?_
    refine j_icmp_lt hx hb (by omega) (by omega) dM_begin_10 rfl (fun h2 => ?_) (fun h2 => ?_)
    · exact bad ls (by omega) hl
    · refine lv_iload_n hx hb dM_begin_13 rfl (lv_at hl 2 rfl) ?_
      refine j_iconst hx hb dM_begin_14 ?_
      refine j_icmp_le hx hb (by omega) (by omega) dM_begin_15 rfl (fun h3 => ?_) (fun h3 => ?_)
      · obtain ⟨g, hg2, hfg⟩ := fo_g hfo
        have loop : ∀ (N k : Nat) (M1 : Me) (H : Heap) (locs : List Loc) (ls : Array Slot), k + N = 16 → M1 28 12 = 0 → M1 29 g = n → (∀ h, h ≠ g → M1 29 h = M 29 h) → (∀ i, i < k → M1 30 (16 * g + i) = 0) → (∀ x, (x < 16 * g ∨ 16 * g + 16 ≤ x) → M1 30 x = M 30 x) → (∀ q, (q < 28 ∨ q = 35) → M1 q = M q) → wP E M1 H → va_S (wA E) s_.heap H locs → lv_has ls 4 [(3, .int (ji ((k:Int)))), (0, .ref (E.2.1 28)), (1, .int (ji ((g:Int)))), (2, .int (ji n))] → W p_ l e_ (rmd 1) s_ m_ a_ b_ t_ c_ H locs 0 0 (XQ b_ (mmQ E (fun v M9 => v = none ∧ (¬ (fo f ∧ 1 ≤ n ∧ n ≤ 4) → M9 28 12 = 1 ∧ M9 29 = M 29 ∧ M9 30 = M 30) ∧ ((fo f ∧ 1 ≤ n ∧ n ≤ 4) → M9 28 12 = 0 ∧ ∀ g : Nat, f = g → M9 29 g = n ∧ (∀ h, h ≠ g → M9 29 h = M 29 h) ∧ (∀ i, i < 16 → M9 30 (16 * g + i) = 0) ∧ ∀ x, (x < 16 * g ∨ 16 * g + 16 ≤ x) → M9 30 x = M 30 x) ∧ ∀ q, (q < 28 ∨ q = 35) → M9 q = M q)) a_ s_ 0 0 (wA E)) (F0 m_ 42 ls []) := by
          intro N
          induction N with
          | zero =>
            intro k M1 H locs ls h0 a1 a2 a3 a4 a5 a6 hP hS hl
            refine lv_iload_n hx hb dM_begin_42 rfl (lv_at hl 0 rfl) ?_
            refine j_bipush hx hb dM_begin_43 rfl ?_
            refine j_icmp_ge hx hb (by omega) (by omega) dM_begin_45 rfl (fun h4 => ?_) (fun h4 => ?_)
            · exact mm_vret hx hb hr hk hP hS dM_begin_66 ⟨rfl, fun q => absurd (⟨hfo, by omega, by omega⟩ : (fo f ∧ 1 ≤ n ∧ n ≤ 4)) q, fun _ => ⟨a1, fo_u hfg ⟨a2, a3, fun i hi => a4 i (by omega), a5⟩⟩, a6⟩
            · omega
          | succ N ih =>
            intro k M1 H locs ls h0 a1 a2 a3 a4 a5 a6 hP hS hl
            refine lv_iload_n hx hb dM_begin_42 rfl (lv_at hl 0 rfl) ?_
            refine j_bipush hx hb dM_begin_43 rfl ?_
            refine j_icmp_ge hx hb (by omega) (by omega) dM_begin_45 rfl (fun h4 => ?_) (fun h4 => ?_)
            · omega
            · refine lv_aload_n hx hb dM_begin_48 rfl (lv_at hl 1 rfl) ?_
              refine m_get (C := "RationalFormsModel") (T := TxM) (N := 13) hx hb hg uwM hown hK hP (by omega) (sh_M E _) rfl 1 (by decide) wd460 rfl dM_begin_49 ?_
              refine j_bipush hx hb dM_begin_52 rfl ?_
              refine lv_iload_n hx hb dM_begin_54 rfl (lv_at hl 2 rfl) ?_
              refine j_imul hx hb dM_begin_55 ?_
              refine lv_iload_n hx hb dM_begin_56 rfl (lv_at hl 0 rfl) ?_
              refine j_iadd hx hb dM_begin_57 ?_
              refine j_iconst hx hb dM_begin_58 ?_
              refine m_iast (n := 16 * g + k) hx hb hK hJ hP hS (by omega) (fun r => sh_30 E r) (by omega) (by omega) (by decide) dM_begin_59 (fun H locs hP hS => ?_)
              refine lv_iinc (k := 0) (v := ji (((k:Int)) + 1)) hx hb dM_begin_60 hl rfl (Int32.ofInt_add _ _).symm (by decide) rfl (fun ls hl => ?_)
              have hl : lv_has ls 4 [(3, .int (ji (((k:Int)) + 1))), (0, .ref (E.2.1 28)), (1, .int (ji ((g:Int)))), (2, .int (ji n))] := hl
              refine lv_goto hx hb dM_begin_63 rfl ?_
              refine ih (k + 1) _ H locs ls (by omega) (by rw [mu_k (by omega)]; exact a1) (by rw [mu_k (by omega)]; exact a2) (by rw [mu_k (by omega)]; exact a3) (fun i hi => ?_) (fun x hx => ?_) (fun q hq => by rw [mu_k (by omega)]; exact a6 q hq) hP hS hl
              · by_cases hik : i = k
                · rw [hik, mu_s]
                · rw [mu_j (by omega)]; exact a4 i (by omega)
              · rw [mu_j (by omega)]; exact a5 x hx
        refine j_iconst hx hb dM_begin_22 ?_
        refine m_put (C := "RationalFormsModel") (T := TxM) (N := 13) (ty := .int) (z := 0) hx hb hg uwM txM txM_ok nmM hown hK hJ hP hS (by omega) (sh_M E _) rfl 12 (by decide) wd471 rfl rfl rfl rfl (Nat.le_of_ble_eq_true rfl) (by rw [sh_M E _]; simp [mu]) dM_begin_23 (fun H locs hP hS => ?_)
        refine lv_aload_n hx hb dM_begin_26 rfl (lv_at hl 0 rfl) ?_
        refine m_get (C := "RationalFormsModel") (T := TxM) (N := 13) hx hb hg uwM hown hK hP (by omega) (sh_M E _) rfl 12 (by decide) wd471 rfl dM_begin_27 ?_
        refine j_if_ne hx hb (by rw [mu_s]; decide) dM_begin_30 rfl (fun h9 => ?_) (fun h9 => ?_)
        · rw [mu_s] at h9
          omega
        · rw [hfg] at hl
          refine lv_aload_n hx hb dM_begin_33 rfl (lv_at hl 0 rfl) ?_
          refine m_get (C := "RationalFormsModel") (T := TxM) (N := 13) hx hb hg uwM hown hK hP (by omega) (sh_M E _) rfl 0 (by decide) wd459 rfl dM_begin_34 ?_
          refine lv_iload_n hx hb dM_begin_37 rfl (lv_at hl 1 rfl) ?_
          refine lv_iload_n hx hb dM_begin_38 rfl (lv_at hl 2 rfl) ?_
          refine m_iast (n := g) hx hb hK hJ hP hS (by omega) (fun r => sh_29 E r) (by omega) (by omega) (by decide) dM_begin_39 (fun H locs hP hS => ?_)
          refine j_iconst hx hb dM_begin_40 ?_
          refine lv_istore_n hx hb dM_begin_41 rfl hl (by decide) rfl (fun ls hl => ?_)
          have hl : lv_has ls 4 [(3, .int (ji 0)), (0, .ref (E.2.1 28)), (1, .int (ji ((g:Int)))), (2, .int (ji n))] := hl
          exact loop 16 0 _ H locs ls (by omega) (by rw [mu_k (by omega), mu_s]) (by rw [mu_s]) (fun h hh => by rw [mu_j hh, mu_k (by omega)]) (fun i hi => by omega) (fun x hx => by rw [mu_k (by omega), mu_k (by omega)]) (fun q hq => by rw [mu_k (by omega), mu_k (by omega)]) hP hS hl
      · exact bad ls (by omega) hl

set_option maxRecDepth 100000 in
set_option maxHeartbeats 4000000 in
theorem kM_about (l : Launch) (E : En) (hJ : wJ E) (M : Me) (f w : Int) (hf : b32 f) (hw : b32 w) (nn : Nat → Nat) (hI : ∀ g, g < 2 → MI M g (nn g)) : MM l yM_about wsM_about (rmd 3) E M [.ref (E.2.1 28), .int (ji f), .int (ji w)] (fun v M9 => (∃ z : Int, v = some (.int (ji z)) ∧ b32 z ∧ (¬ (fo f ∧ 0 ≤ w ∧ w ≤ 4) → M9 28 12 = 1) ∧ ((fo f ∧ 0 ≤ w ∧ w ≤ 4) → M9 28 12 = 0 ∧ ∀ g : Nat, f = g → ∃ r p, fpv (nn g) (aM M g) r p ∧ z = abv (nn g) r p w)) ∧ FrQ M M9) := by
  refine MM.ofG (by decide +kernel) (Nat.le_of_ble_eq_true rfl) ?_
  intro p_ e_ s_ m_ a_ b_ t_ c_ hx hb hml hr hk hg hown hK hP hS ls hl
  have hl : lv_has ls 3 [(0, .ref (E.2.1 28)), (1, .int (ji f)), (2, .int (ji w))] := hl
  have bad : ∀ (ls : Array Slot), ¬ (fo f ∧ 0 ≤ w ∧ w ≤ 4) → lv_has ls 3 [(0, .ref (E.2.1 28)), (1, .int (ji f)), (2, .int (ji w))] → W p_ l e_ (rmd 3) s_ m_ a_ b_ t_ c_ s_.heap [] 0 0 (XQ b_ (mmQ E (fun v M9 => (∃ z : Int, v = some (.int (ji z)) ∧ b32 z ∧ (¬ (fo f ∧ 0 ≤ w ∧ w ≤ 4) → M9 28 12 = 1) ∧ ((fo f ∧ 0 ≤ w ∧ w ≤ 4) → M9 28 12 = 0 ∧ ∀ g : Nat, f = g → ∃ r p, fpv (nn g) (aM M g) r p ∧ z = abv (nn g) r p w)) ∧ FrQ M M9)) a_ s_ 0 0 (wA E)) (F0 m_ 17 ls [.ref (E.2.1 28)]) := by
    intro ls hno hl
    refine j_iconst hx hb dM_about_17 ?_
    refine lv_goto hx hb dM_about_18 rfl ?_
    refine m_put (C := "RationalFormsModel") (T := TxM) (N := 13) (ty := .int) (z := 1) hx hb hg uwM txM txM_ok nmM hown hK hJ hP hS (by omega) (sh_M E _) rfl 12 (by decide) wd471 rfl rfl rfl rfl (Nat.le_of_ble_eq_true rfl) (by rw [sh_M E _]; simp [mu]) dM_about_22 (fun H locs hP hS => ?_)
    refine lv_aload_n hx hb dM_about_25 rfl (lv_at hl 0 rfl) ?_
    refine m_get (C := "RationalFormsModel") (T := TxM) (N := 13) hx hb hg uwM hown hK hP (by omega) (sh_M E _) rfl 12 (by decide) wd471 rfl dM_about_26 ?_
    refine j_if_eq hx hb (by first | (rw [mu_s]; decide) | (rw [h12]; decide)) dM_about_29 rfl (fun h9 => ?_) (fun h9 => ?_)
    · rw [mu_s] at h9
      omega
    · refine j_iconst hx hb dM_about_32 ?_
      exact mm_iret hx hb hr hk hP hS dM_about_33 ⟨⟨0, rfl, by decide, fun _ => mu_s _ _ _ _, fun q => absurd q hno⟩, fun q hq => mu_k (by omega)⟩
  refine lv_aload_n hx hb dM_about_0 rfl (lv_at hl 0 rfl) ?_
  refine lv_iload_n hx hb dM_about_1 rfl (lv_at hl 1 rfl) ?_
  refine pm_G (As := [.int (ji f)]) (rest := [.ref (E.2.1 28)]) hx hb hml hown hg hl (kM_isForm l f hf) wd507 wd508 wd5 wd509 ⟨rfl, rfl⟩ (n := 1) (by decide +kernel) rfl ⟨by decide, by decide⟩ rfl (Nat.le_of_ble_eq_true rfl) dM_about_2 ⟨Nat.zero_le _, Nat.zero_le _⟩ (fun r hr9 => ?_)
  subst hr9
  refine j_if_eq hx hb (bi_b32 _) dM_about_5 rfl (fun h1 => ?_) (fun h1 => ?_)
  · exact bad ls (fun q => bi_eq h1 q.1) hl
  · have hfo := bi_ne h1
    refine lv_iload_n hx hb dM_about_8 rfl (lv_at hl 2 rfl) ?_
    refine j_if_lt hx hb (by omega) dM_about_9 rfl (fun h2 => ?_) (fun h2 => ?_)
    · exact bad ls (by omega) hl
    · refine lv_iload_n hx hb dM_about_12 rfl (lv_at hl 2 rfl) ?_
      refine j_iconst hx hb dM_about_13 ?_
      refine j_icmp_le hx hb (by omega) (by omega) dM_about_14 rfl (fun h3 => ?_) (fun h3 => ?_)
      · obtain ⟨g, hg2, hfg⟩ := fo_g hfo
        refine j_iconst hx hb dM_about_21 ?_
        refine m_put (C := "RationalFormsModel") (T := TxM) (N := 13) (ty := .int) (z := 0) hx hb hg uwM txM txM_ok nmM hown hK hJ hP hS (by omega) (sh_M E _) rfl 12 (by decide) wd471 rfl rfl rfl rfl (Nat.le_of_ble_eq_true rfl) (by rw [sh_M E _]; simp [mu]) dM_about_22 (fun H locs hP hS => ?_)
        obtain ⟨M1, e1⟩ : ∃ X, X = mu M 28 12 0 := ⟨_, rfl⟩
        rw [← e1] at hP
        have h29 : M1 29 = M 29 := by rw [e1]; exact mu_k (by omega)
        have h30 : M1 30 = M 30 := by rw [e1]; exact mu_k (by omega)
        have hq1 : ∀ q, q ≠ 28 → M1 q = M q := fun q hq => by rw [e1]; exact mu_k hq
        have h12 : M1 28 12 = 0 := by rw [e1]; exact mu_s _ _ _ _
        have hI9 := hI g hg2
        refine lv_aload_n hx hb dM_about_25 rfl (lv_at hl 0 rfl) ?_
        refine m_get (C := "RationalFormsModel") (T := TxM) (N := 13) hx hb hg uwM hown hK hP (by omega) (sh_M E _) rfl 12 (by decide) wd471 rfl dM_about_26 ?_
        refine j_if_eq hx hb (by first | (rw [mu_s]; decide) | (rw [h12]; decide)) dM_about_29 rfl (fun h9 => ?_) (fun h9 => ?_)
        · rw [hfg] at hl
          refine lv_aload_n hx hb dM_about_34 rfl (lv_at hl 0 rfl) ?_
          refine lv_iload_n hx hb dM_about_35 rfl (lv_at hl 1 rfl) ?_
          refine mm_V (As := [.int (ji ((g:Int)))]) (rest := []) hx hb hml hown hg hl hK hP hS (by omega) (sh_M E _) rfl (kM_look l E hJ M1 g hg2 (nn g) (by rw [h29]; exact hI9.1) hI9.2.1 hI9.2.2.1 (by rw [h30]; exact hI9.2.2.2)) wd518 wd520 wds12 wd5 wd521 ⟨rfl, rfl⟩ (n := 1) (by decide +kernel) rfl ⟨by decide, by decide⟩ rfl (Nat.le_of_ble_eq_true rfl) dM_about_36 ⟨Nat.zero_le _, Nat.zero_le _⟩ (fun v M2 H locs hq hP hS => ?_)
          obtain ⟨rfl, ⟨r, p, c, hPV, hpB, hrn, hcB, hL, hdi⟩, hF, hFj⟩ := hq
          rw [h30] at hPV
          have hfp : fpv (nn g) (aM M g) r p := ⟨hPV, hpB, hrn⟩
          have hn4 := hI9.2.2.1
          have hr3 := hL.1
          have hFQ : FrQ M M2 := fun q hq => (hF q (by omega) (by omega) (by omega) (by omega)).trans (hq1 q (by omega))
          have h212 : M2 28 12 = 0 := (hFj 12 (by omega) (by omega) (by omega) (by omega) (by omega)).trans h12
          have h229 : M2 29 g = nn g := by rw [hFQ 29 (by omega)]; exact hI9.1
          have hc25 := cB_le (k := r) (by omega)
          have hTG := TG_of (by omega) hL hpB
          have hps := ps_bd p r
          have hng := ng_ps p r
          have hds := ds_le hpB
          have fin : ∀ z : Int, z = abv (nn g) r p w → b32 z ∧ (¬ (fo f ∧ 0 ≤ w ∧ w ≤ 4) → M2 28 12 = 1) ∧ ((fo f ∧ 0 ≤ w ∧ w ≤ 4) → M2 28 12 = 0 ∧ ∀ g : Nat, f = g → ∃ r p, fpv (nn g) (aM M g) r p ∧ z = abv (nn g) r p w) := fun z hz => by
            refine ⟨?_, fun q => absurd (⟨hfo, by omega, by omega⟩ : (fo f ∧ 0 ≤ w ∧ w ≤ 4)) q, fun _ => ⟨h212, fun g' hg' => ?_⟩⟩
            · rw [hz]
              unfold abv
              split
              · omega
              · split
                · omega
                · split
                  · omega
                  · split
                    · omega
                    · omega
            · obtain rfl : g' = g := by omega
              exact ⟨r, p, hfp, hz⟩
          refine lv_iload_n hx hb dM_about_39 rfl (lv_at hl 2 rfl) ?_
          refine j_if_ne hx hb (by omega) dM_about_40 rfl (fun k1 => ?_) (fun k1 => ?_)
          · refine lv_iload_n hx hb dM_about_52 rfl (lv_at hl 2 rfl) ?_
            refine j_iconst hx hb dM_about_53 ?_
            refine j_icmp_ne hx hb (by omega) (by omega) dM_about_54 rfl (fun k2 => ?_) (fun k2 => ?_)
            · refine lv_iload_n hx hb dM_about_64 rfl (lv_at hl 2 rfl) ?_
              refine j_iconst hx hb dM_about_65 ?_
              refine j_icmp_ne hx hb (by omega) (by omega) dM_about_66 rfl (fun k3 => ?_) (fun k3 => ?_)
              · refine lv_iload_n hx hb dM_about_76 rfl (lv_at hl 2 rfl) ?_
                refine j_iconst hx hb dM_about_77 ?_
                refine j_icmp_ne hx hb (by omega) (by omega) dM_about_78 rfl (fun k4 => ?_) (fun k4 => ?_)
                · refine lv_aload_n hx hb dM_about_88 rfl (lv_at hl 0 rfl) ?_
                  refine m_get (C := "RationalFormsModel") (T := TxM) (N := 13) hx hb hg uwM hown hK hP (by omega) (sh_M E _) rfl 7 (by decide) wd466 rfl dM_about_89 ?_
                  refine j_l2i hx hb dM_about_92 ?_
                  exact mm_iret hx hb hr hk hP hS dM_about_93 ⟨⟨_, rfl, fin _ (by rw [hdi]; unfold abv; rw [if_neg (by omega), if_neg (by omega), if_neg (by omega), if_neg (by omega)])⟩, hFQ⟩
                · refine lv_aload_n hx hb dM_about_81 rfl (lv_at hl 0 rfl) ?_
                  refine m_get (C := "RationalFormsModel") (T := TxM) (N := 13) hx hb hg uwM hown hK hP (by omega) (sh_M E _) rfl 6 (by decide) wd465 rfl dM_about_82 ?_
                  refine lv_goto hx hb dM_about_85 rfl ?_
                  exact mm_iret hx hb hr hk hP hS dM_about_93 ⟨⟨_, rfl, fin _ (by rw [hL.2.2.2.1]; unfold abv; rw [if_neg (by omega), if_neg (by omega), if_neg (by omega), if_pos (by omega)])⟩, hFQ⟩
              · refine lv_aload_n hx hb dM_about_69 rfl (lv_at hl 0 rfl) ?_
                refine m_get (C := "RationalFormsModel") (T := TxM) (N := 13) hx hb hg uwM hown hK hP (by omega) (sh_M E _) rfl 5 (by decide) wd464 rfl dM_about_70 ?_
                refine lv_goto hx hb dM_about_73 rfl ?_
                exact mm_iret hx hb hr hk hP hS dM_about_93 ⟨⟨_, rfl, fin _ (by rw [hL.2.2.1]; unfold abv; rw [if_neg (by omega), if_neg (by omega), if_pos (by omega)])⟩, hFQ⟩
            · refine lv_aload_n hx hb dM_about_57 rfl (lv_at hl 0 rfl) ?_
              refine m_get (C := "RationalFormsModel") (T := TxM) (N := 13) hx hb hg uwM hown hK hP (by omega) (sh_M E _) rfl 3 (by decide) wd462 rfl dM_about_58 ?_
              refine lv_goto hx hb dM_about_61 rfl ?_
              exact mm_iret hx hb hr hk hP hS dM_about_93 ⟨⟨_, rfl, fin _ (by rw [hr3]; unfold abv; rw [if_neg (by omega), if_pos (by omega)])⟩, hFQ⟩
          · refine lv_aload_n hx hb dM_about_43 rfl (lv_at hl 0 rfl) ?_
            refine m_get (C := "RationalFormsModel") (T := TxM) (N := 13) hx hb hg uwM hown hK hP (by omega) (sh_M E _) rfl 0 (by decide) wd459 rfl dM_about_44 ?_
            refine lv_iload_n hx hb dM_about_47 rfl (lv_at hl 1 rfl) ?_
            refine m_iald (n := g) hx hb hK hP (by omega) (sh_29 E _) (by omega) (by omega) (by decide) dM_about_48 ?_
            refine lv_goto hx hb dM_about_49 rfl ?_
            exact mm_iret hx hb hr hk hP hS dM_about_93 ⟨⟨_, rfl, fin _ (by rw [h229]; unfold abv; rw [if_pos (by omega)])⟩, hFQ⟩
        · omega
      · exact bad ls (by omega) hl

set_option maxRecDepth 100000 in
set_option maxHeartbeats 4000000 in
theorem kM_symbol (l : Launch) (E : En) (hJ : wJ E) (M : Me) (a b p9 : Int) (ha : b32 a) (hb9 : b32 b) (hp9 : b32 p9) : MM l yM_symbol wsM_symbol (rmd 2) E M [.ref (E.2.1 28), .int (ji a), .int (ji b), .int (ji p9)] (fun v M9 => (∃ z : Int, v = some (.int (ji z)) ∧ b32 z ∧ ((a = 0 ∨ b = 0) → M9 28 12 = 1) ∧ (¬ (a = 0 ∨ b = 0) → ¬ pl0 p9 → M9 28 12 = 2) ∧ (¬ (a = 0 ∨ b = 0) → pl0 p9 → M9 28 12 = 0 ∧ z = syM (sf a) (sf b) p9)) ∧ FrQ M M9) := by
  refine MM.ofG (by decide +kernel) (Nat.le_of_ble_eq_true rfl) ?_
  intro p_ e_ s_ m_ a_ b_ t_ c_ hx hb hml hr hk hg hown hK hP hS ls hl
  have hl : lv_has ls 4 [(0, .ref (E.2.1 28)), (1, .int (ji a)), (2, .int (ji b)), (3, .int (ji p9))] := hl
  have bad : ∀ (ls : Array Slot), (a = 0 ∨ b = 0) → lv_has ls 4 [(0, .ref (E.2.1 28)), (1, .int (ji a)), (2, .int (ji b)), (3, .int (ji p9))] → W p_ l e_ (rmd 2) s_ m_ a_ b_ t_ c_ s_.heap [] 0 0 (XQ b_ (mmQ E (fun v M9 => (∃ z : Int, v = some (.int (ji z)) ∧ b32 z ∧ ((a = 0 ∨ b = 0) → M9 28 12 = 1) ∧ (¬ (a = 0 ∨ b = 0) → ¬ pl0 p9 → M9 28 12 = 2) ∧ (¬ (a = 0 ∨ b = 0) → pl0 p9 → M9 28 12 = 0 ∧ z = syM (sf a) (sf b) p9)) ∧ FrQ M M9)) a_ s_ 0 0 (wA E)) (F0 m_ 9 ls [.ref (E.2.1 28)]) := by
    intro ls hno hl
    refine j_iconst hx hb dM_symbol_9 ?_
    refine lv_goto hx hb dM_symbol_10 rfl ?_
    refine m_put (C := "RationalFormsModel") (T := TxM) (N := 13) (ty := .int) (z := 1) hx hb hg uwM txM txM_ok nmM hown hK hJ hP hS (by omega) (sh_M E _) rfl 12 (by decide) wd471 rfl rfl rfl rfl (Nat.le_of_ble_eq_true rfl) (by rw [sh_M E _]; simp [mu]) dM_symbol_25 (fun H locs hP hS => ?_)
    refine lv_aload_n hx hb dM_symbol_28 rfl (lv_at hl 0 rfl) ?_
    refine m_get (C := "RationalFormsModel") (T := TxM) (N := 13) hx hb hg uwM hown hK hP (by omega) (sh_M E _) rfl 12 (by decide) wd471 rfl dM_symbol_29 ?_
    refine j_if_ne hx hb (by rw [mu_s]; decide) dM_symbol_32 rfl (fun h9 => ?_) (fun h9 => ?_)
    · refine j_iconst hx hb dM_symbol_53 ?_
      exact mm_iret hx hb hr hk hP hS dM_symbol_54 ⟨⟨0, rfl, by decide, fun _ => mu_s _ _ _ _, fun q => absurd hno q, fun q => absurd hno q⟩, fun q hq => mu_k (by omega)⟩
    · rw [mu_s] at h9
      omega
  refine lv_aload_n hx hb dM_symbol_0 rfl (lv_at hl 0 rfl) ?_
  refine lv_iload_n hx hb dM_symbol_1 rfl (lv_at hl 1 rfl) ?_
  refine j_if_eq hx hb (by omega) dM_symbol_2 rfl (fun h1 => ?_) (fun h1 => ?_)
  · exact bad ls (Or.inl h1) hl
  · refine lv_iload_n hx hb dM_symbol_5 rfl (lv_at hl 2 rfl) ?_
    refine j_if_ne hx hb (by omega) dM_symbol_6 rfl (fun h2 => ?_) (fun h2 => ?_)
    · have hok : ¬ (a = 0 ∨ b = 0) := by omega
      refine lv_iload_n hx hb dM_symbol_13 rfl (lv_at hl 3 rfl) ?_
      refine pm_G (As := [.int (ji p9)]) (rest := [.ref (E.2.1 28)]) hx hb hml hown hg hl (kM_isPlace l p9 hp9) wd553 wd554 wd5 wd555 ⟨rfl, rfl⟩ (n := 1) (by decide +kernel) rfl ⟨by decide, by decide⟩ rfl (Nat.le_of_ble_eq_true rfl) dM_symbol_14 ⟨Nat.zero_le _, Nat.zero_le _⟩ (fun r hr9 => ?_)
      subst hr9
      refine j_if_ne hx hb (bi_b32 _) dM_symbol_17 rfl (fun h3 => ?_) (fun h3 => ?_)
      · have hpl : pl0 p9 := bi_ne h3
        refine j_iconst hx hb dM_symbol_24 ?_
        refine m_put (C := "RationalFormsModel") (T := TxM) (N := 13) (ty := .int) (z := 0) hx hb hg uwM txM txM_ok nmM hown hK hJ hP hS (by omega) (sh_M E _) rfl 12 (by decide) wd471 rfl rfl rfl rfl (Nat.le_of_ble_eq_true rfl) (by rw [sh_M E _]; simp [mu]) dM_symbol_25 (fun H locs hP hS => ?_)
        refine lv_aload_n hx hb dM_symbol_28 rfl (lv_at hl 0 rfl) ?_
        refine m_get (C := "RationalFormsModel") (T := TxM) (N := 13) hx hb hg uwM hown hK hP (by omega) (sh_M E _) rfl 12 (by decide) wd471 rfl dM_symbol_29 ?_
        refine j_if_ne hx hb (by rw [mu_s]; decide) dM_symbol_32 rfl (fun h9 => ?_) (fun h9 => ?_)
        · rw [mu_s] at h9
          omega
        · have hsa := sf_le h1
          have hsb := sf_le h2
          refine lv_iload_n hx hb dM_symbol_35 rfl (lv_at hl 1 rfl) ?_
          refine j_i2l hx hb (by omega) dM_symbol_36 ?_
          refine pm_G (As := [.long (jl a)]) (rest := []) hx hb hml hown hg hl (kM_classOf l a (by omega) h1) wd535 wd536 wd5 wd537 ⟨rfl, rfl⟩ (n := 1) (by decide +kernel) rfl ⟨by decide, by decide⟩ rfl (Nat.le_of_ble_eq_true rfl) dM_symbol_37 ⟨Nat.zero_le _, Nat.zero_le _⟩ (fun r hr9 => ?_)
          subst hr9
          refine lv_iload_n hx hb dM_symbol_40 rfl (lv_at hl 2 rfl) ?_
          refine j_i2l hx hb (by omega) dM_symbol_41 ?_
          refine pm_G (As := [.long (jl b)]) (rest := [.long (jl (sf a))]) hx hb hml hown hg hl (kM_classOf l b (by omega) h2) wd535 wd536 wd5 wd537 ⟨rfl, rfl⟩ (n := 1) (by decide +kernel) rfl ⟨by decide, by decide⟩ rfl (Nat.le_of_ble_eq_true rfl) dM_symbol_42 ⟨Nat.zero_le _, Nat.zero_le _⟩ (fun r hr9 => ?_)
          subst hr9
          refine lv_iload_n hx hb dM_symbol_45 rfl (lv_at hl 3 rfl) ?_
          refine j_i2l hx hb (by omega) dM_symbol_46 ?_
          refine pm_G (As := [.long (jl (sf a)), .long (jl (sf b)), .long (jl p9)]) (rest := []) hx hb hml hown hg hl (kM_symbolOf l (sf a) (sf b) p9 (by omega) (by omega) (pl0_plc hpl) (n4 (sf_sq h1)) (n4 (sf_sq h2))) wd559 wd560 wd5 wd561 ⟨rfl, rfl⟩ (n := 3) (by decide +kernel) rfl ⟨by decide, by decide⟩ rfl (Nat.le_of_ble_eq_true rfl) dM_symbol_47 ⟨Nat.zero_le _, Nat.zero_le _⟩ (fun r hr9 => ?_)
          subst hr9
          refine lv_goto hx hb dM_symbol_50 rfl ?_
          exact mm_iret hx hb hr hk hP hS dM_symbol_54 ⟨⟨_, rfl, pm1_b32 (syM_pm _ _ _), fun q => absurd q hok, fun _ q => absurd hpl q, fun _ _ => ⟨mu_s _ _ _ _, rfl⟩⟩, fun q hq => mu_k (by omega)⟩
      · have hpl : ¬ pl0 p9 := bi_eq h3
        refine j_iconst hx hb dM_symbol_20 ?_
        refine lv_goto hx hb dM_symbol_21 rfl ?_
        refine m_put (C := "RationalFormsModel") (T := TxM) (N := 13) (ty := .int) (z := 2) hx hb hg uwM txM txM_ok nmM hown hK hJ hP hS (by omega) (sh_M E _) rfl 12 (by decide) wd471 rfl rfl rfl rfl (Nat.le_of_ble_eq_true rfl) (by rw [sh_M E _]; simp [mu]) dM_symbol_25 (fun H locs hP hS => ?_)
        refine lv_aload_n hx hb dM_symbol_28 rfl (lv_at hl 0 rfl) ?_
        refine m_get (C := "RationalFormsModel") (T := TxM) (N := 13) hx hb hg uwM hown hK hP (by omega) (sh_M E _) rfl 12 (by decide) wd471 rfl dM_symbol_29 ?_
        refine j_if_ne hx hb (by rw [mu_s]; decide) dM_symbol_32 rfl (fun h9 => ?_) (fun h9 => ?_)
        · refine j_iconst hx hb dM_symbol_53 ?_
          exact mm_iret hx hb hr hk hP hS dM_symbol_54 ⟨⟨0, rfl, by decide, fun q => absurd q hok, fun _ _ => mu_s _ _ _ _, fun _ q => absurd q hpl⟩, fun q hq => mu_k (by omega)⟩
        · rw [mu_s] at h9
          omega
    · exact bad ls (Or.inr h2) hl

set_option maxRecDepth 100000 in
set_option maxHeartbeats 4000000 in
theorem kM_hasse (l : Launch) (E : En) (hJ : wJ E) (M : Me) (f p9 : Int) (hf : b32 f) (hp9 : b32 p9) (nn : Nat → Nat) (hI : ∀ g, g < 2 → MI M g (nn g)) : MM l yM_hasse wsM_hasse (rmd 3) E M [.ref (E.2.1 28), .int (ji f), .int (ji p9)] (fun v M9 => (∃ z : Int, v = some (.int (ji z)) ∧ b32 z ∧ (¬ (fo f ∧ pl0 p9) → M9 28 12 = 1) ∧ ((fo f ∧ pl0 p9) → M9 28 12 = 0 ∧ ∀ g : Nat, f = g → ∃ r p, fpv (nn g) (aM M g) r p ∧ z = hs (fun a b => syM a b p9) (tr p) r)) ∧ FrQ M M9) := by
  refine MM.ofG (by decide +kernel) (Nat.le_of_ble_eq_true rfl) ?_
  intro p_ e_ s_ m_ a_ b_ t_ c_ hx hb hml hr hk hg hown hK hP hS ls hl
  have hl : lv_has ls 3 [(0, .ref (E.2.1 28)), (1, .int (ji f)), (2, .int (ji p9))] := hl
  have bad : ∀ (ls : Array Slot), ¬ (fo f ∧ pl0 p9) → lv_has ls 3 [(0, .ref (E.2.1 28)), (1, .int (ji f)), (2, .int (ji p9))] → W p_ l e_ (rmd 3) s_ m_ a_ b_ t_ c_ s_.heap [] 0 0 (XQ b_ (mmQ E (fun v M9 => (∃ z : Int, v = some (.int (ji z)) ∧ b32 z ∧ (¬ (fo f ∧ pl0 p9) → M9 28 12 = 1) ∧ ((fo f ∧ pl0 p9) → M9 28 12 = 0 ∧ ∀ g : Nat, f = g → ∃ r p, fpv (nn g) (aM M g) r p ∧ z = hs (fun a b => syM a b p9) (tr p) r)) ∧ FrQ M M9)) a_ s_ 0 0 (wA E)) (F0 m_ 15 ls [.ref (E.2.1 28)]) := by
    intro ls hno hl
    refine j_iconst hx hb dM_hasse_15 ?_
    refine lv_goto hx hb dM_hasse_16 rfl ?_
    refine m_put (C := "RationalFormsModel") (T := TxM) (N := 13) (ty := .int) (z := 1) hx hb hg uwM txM txM_ok nmM hown hK hJ hP hS (by omega) (sh_M E _) rfl 12 (by decide) wd471 rfl rfl rfl rfl (Nat.le_of_ble_eq_true rfl) (by rw [sh_M E _]; simp [mu]) dM_hasse_20 (fun H locs hP hS => ?_)
    refine lv_aload_n hx hb dM_hasse_23 rfl (lv_at hl 0 rfl) ?_
    refine m_get (C := "RationalFormsModel") (T := TxM) (N := 13) hx hb hg uwM hown hK hP (by omega) (sh_M E _) rfl 12 (by decide) wd471 rfl dM_hasse_24 ?_
    refine j_if_eq hx hb (by first | (rw [mu_s]; decide) | (rw [h12]; decide)) dM_hasse_27 rfl (fun h9 => ?_) (fun h9 => ?_)
    · rw [mu_s] at h9
      omega
    · refine j_iconst hx hb dM_hasse_30 ?_
      exact mm_iret hx hb hr hk hP hS dM_hasse_31 ⟨⟨0, rfl, by decide, fun _ => mu_s _ _ _ _, fun q => absurd q hno⟩, fun q hq => mu_k (by omega)⟩
  refine lv_aload_n hx hb dM_hasse_0 rfl (lv_at hl 0 rfl) ?_
  refine lv_iload_n hx hb dM_hasse_1 rfl (lv_at hl 1 rfl) ?_
  refine pm_G (As := [.int (ji f)]) (rest := [.ref (E.2.1 28)]) hx hb hml hown hg hl (kM_isForm l f hf) wd507 wd508 wd5 wd509 ⟨rfl, rfl⟩ (n := 1) (by decide +kernel) rfl ⟨by decide, by decide⟩ rfl (Nat.le_of_ble_eq_true rfl) dM_hasse_2 ⟨Nat.zero_le _, Nat.zero_le _⟩ (fun r hr9 => ?_)
  subst hr9
  refine j_if_eq hx hb (bi_b32 _) dM_hasse_5 rfl (fun h1 => ?_) (fun h1 => ?_)
  · exact bad ls (fun q => bi_eq h1 q.1) hl
  · have hfo := bi_ne h1
    refine lv_iload_n hx hb dM_hasse_8 rfl (lv_at hl 2 rfl) ?_
    refine pm_G (As := [.int (ji p9)]) (rest := [.ref (E.2.1 28)]) hx hb hml hown hg hl (kM_isPlace l p9 hp9) wd553 wd554 wd5 wd555 ⟨rfl, rfl⟩ (n := 1) (by decide +kernel) rfl ⟨by decide, by decide⟩ rfl (Nat.le_of_ble_eq_true rfl) dM_hasse_9 ⟨Nat.zero_le _, Nat.zero_le _⟩ (fun r hr9 => ?_)
    subst hr9
    refine j_if_ne hx hb (bi_b32 _) dM_hasse_12 rfl (fun h3 => ?_) (fun h3 => ?_)
    · have hpl : pl0 p9 := bi_ne h3
      obtain ⟨g, hg2, hfg⟩ := fo_g hfo
      refine j_iconst hx hb dM_hasse_19 ?_
      refine m_put (C := "RationalFormsModel") (T := TxM) (N := 13) (ty := .int) (z := 0) hx hb hg uwM txM txM_ok nmM hown hK hJ hP hS (by omega) (sh_M E _) rfl 12 (by decide) wd471 rfl rfl rfl rfl (Nat.le_of_ble_eq_true rfl) (by rw [sh_M E _]; simp [mu]) dM_hasse_20 (fun H locs hP hS => ?_)
      obtain ⟨M1, e1⟩ : ∃ X, X = mu M 28 12 0 := ⟨_, rfl⟩
      rw [← e1] at hP
      have h29 : M1 29 = M 29 := by rw [e1]; exact mu_k (by omega)
      have h30 : M1 30 = M 30 := by rw [e1]; exact mu_k (by omega)
      have hq1 : ∀ q, q ≠ 28 → M1 q = M q := fun q hq => by rw [e1]; exact mu_k hq
      have h12 : M1 28 12 = 0 := by rw [e1]; exact mu_s _ _ _ _
      have hI9 := hI g hg2
      refine lv_aload_n hx hb dM_hasse_23 rfl (lv_at hl 0 rfl) ?_
      refine m_get (C := "RationalFormsModel") (T := TxM) (N := 13) hx hb hg uwM hown hK hP (by omega) (sh_M E _) rfl 12 (by decide) wd471 rfl dM_hasse_24 ?_
      refine j_if_eq hx hb (by first | (rw [mu_s]; decide) | (rw [h12]; decide)) dM_hasse_27 rfl (fun h9 => ?_) (fun h9 => ?_)
      · rw [hfg] at hl
        refine lv_aload_n hx hb dM_hasse_32 rfl (lv_at hl 0 rfl) ?_
        refine lv_iload_n hx hb dM_hasse_33 rfl (lv_at hl 1 rfl) ?_
        refine mm_V (As := [.int (ji ((g:Int)))]) (rest := []) hx hb hml hown hg hl hK hP hS (by omega) (sh_M E _) rfl (kM_look l E hJ M1 g hg2 (nn g) (by rw [h29]; exact hI9.1) hI9.2.1 hI9.2.2.1 (by rw [h30]; exact hI9.2.2.2)) wd518 wd520 wds12 wd5 wd521 ⟨rfl, rfl⟩ (n := 1) (by decide +kernel) rfl ⟨by decide, by decide⟩ rfl (Nat.le_of_ble_eq_true rfl) dM_hasse_34 ⟨Nat.zero_le _, Nat.zero_le _⟩ (fun v M2 H locs hq hP hS => ?_)
        obtain ⟨rfl, ⟨r, p, c, hPV, hpB, hrn, hcB, hL, hdi⟩, hF, hFj⟩ := hq
        rw [h30] at hPV
        have hfp : fpv (nn g) (aM M g) r p := ⟨hPV, hpB, hrn⟩
        have hn4 := hI9.2.2.1
        have hr3 := hL.1
        have hFQ : FrQ M M2 := fun q hq => (hF q (by omega) (by omega) (by omega) (by omega)).trans (hq1 q (by omega))
        have h212 : M2 28 12 = 0 := (hFj 12 (by omega) (by omega) (by omega) (by omega) (by omega)).trans h12
        have h229 : M2 29 g = nn g := by rw [hFQ 29 (by omega)]; exact hI9.1
        have hc25 := cB_le (k := r) (by omega)
        have hTG := TG_of (by omega) hL hpB
        have hps := ps_bd p r
        have hng := ng_ps p r
        have hds := ds_le hpB

        refine lv_aload_n hx hb dM_hasse_37 rfl (lv_at hl 0 rfl) ?_
        refine lv_aload_n hx hb dM_hasse_38 rfl (lv_at hl 0 rfl) ?_
        refine m_get (C := "RationalFormsModel") (T := TxM) (N := 13) hx hb hg uwM hown hK hP (by omega) (sh_M E _) rfl 3 (by decide) wd462 rfl dM_hasse_39 ?_
        rw [hr3]
        refine lv_iload_n hx hb dM_hasse_42 rfl (lv_at hl 2 rfl) ?_
        refine j_i2l hx hb (by omega) dM_hasse_43 ?_
        refine mm_V (As := [.int (ji ((r:Int))), .long (jl p9)]) (rest := []) hx hb hml hown hg hl hK hP hS (by omega) (sh_M E _) rfl (kM_hasseOf l E hJ M2 r hTG p9 (pl0_plc hpl)) wd576 wd578 wds17 wd5 wd579 ⟨rfl, rfl⟩ (n := 2) (by decide +kernel) rfl ⟨by decide, by decide⟩ rfl (Nat.le_of_ble_eq_true rfl) dM_hasse_44 ⟨Nat.zero_le _, Nat.zero_le _⟩ (fun v M3 H locs hq3 hP hS => ?_)
        obtain ⟨rfl, hM3⟩ := hq3
        rw [hM3] at hP
        exact mm_iret hx hb hr hk hP hS dM_hasse_47 ⟨⟨_, rfl, pm1_b32 (hs_pm (fun a b => syM_pm a b p9) _ _), fun q => absurd (⟨hfo, hpl⟩ : (fo f ∧ pl0 p9)) q, fun _ => ⟨h212, fo_u hfg ⟨r, p, hfp, hs_cg hL.2.1⟩⟩⟩, hFQ⟩
      · omega
    · exact bad ls (fun q => bi_eq h3 q.2) hl

set_option maxRecDepth 100000 in
set_option maxHeartbeats 4000000 in
theorem kM_isotropicAt (l : Launch) (E : En) (hJ : wJ E) (M : Me) (f p9 : Int) (hf : b32 f) (hp9 : b32 p9) (nn : Nat → Nat) (hI : ∀ g, g < 2 → MI M g (nn g)) : MM l yM_isotropicAt wsM_isotropicAt (rmd 4) E M [.ref (E.2.1 28), .int (ji f), .int (ji p9)] (fun v M9 => (∃ z : Prop, v = some (.int (ji (bi z))) ∧ (¬ (fo f ∧ pl0 p9) → M9 28 12 = 1) ∧ ((fo f ∧ pl0 p9) → M9 28 12 = 0 ∧ ∀ g : Nat, f = g → ∃ r p, fpv (nn g) (aM M g) r p ∧ (z ↔ (r < nn g ∨ zM r (sf (bef p r)) (tr p) (0 < ps p r ∧ 0 < ng p r) p9)))) ∧ FrQ M M9) := by
  refine MM.ofG (by decide +kernel) (Nat.le_of_ble_eq_true rfl) ?_
  intro p_ e_ s_ m_ a_ b_ t_ c_ hx hb hml hr hk hg hown hK hP hS ls hl
  have hl : lv_has ls 3 [(0, .ref (E.2.1 28)), (1, .int (ji f)), (2, .int (ji p9))] := hl
  have bad : ∀ (ls : Array Slot), ¬ (fo f ∧ pl0 p9) → lv_has ls 3 [(0, .ref (E.2.1 28)), (1, .int (ji f)), (2, .int (ji p9))] → W p_ l e_ (rmd 4) s_ m_ a_ b_ t_ c_ s_.heap [] 0 0 (XQ b_ (mmQ E (fun v M9 => (∃ z : Prop, v = some (.int (ji (bi z))) ∧ (¬ (fo f ∧ pl0 p9) → M9 28 12 = 1) ∧ ((fo f ∧ pl0 p9) → M9 28 12 = 0 ∧ ∀ g : Nat, f = g → ∃ r p, fpv (nn g) (aM M g) r p ∧ (z ↔ (r < nn g ∨ zM r (sf (bef p r)) (tr p) (0 < ps p r ∧ 0 < ng p r) p9)))) ∧ FrQ M M9)) a_ s_ 0 0 (wA E)) (F0 m_ 15 ls [.ref (E.2.1 28)]) := by
    intro ls hno hl
    refine j_iconst hx hb dM_isotropicAt_15 ?_
    refine lv_goto hx hb dM_isotropicAt_16 rfl ?_
    refine m_put (C := "RationalFormsModel") (T := TxM) (N := 13) (ty := .int) (z := 1) hx hb hg uwM txM txM_ok nmM hown hK hJ hP hS (by omega) (sh_M E _) rfl 12 (by decide) wd471 rfl rfl rfl rfl (Nat.le_of_ble_eq_true rfl) (by rw [sh_M E _]; simp [mu]) dM_isotropicAt_20 (fun H locs hP hS => ?_)
    refine lv_aload_n hx hb dM_isotropicAt_23 rfl (lv_at hl 0 rfl) ?_
    refine m_get (C := "RationalFormsModel") (T := TxM) (N := 13) hx hb hg uwM hown hK hP (by omega) (sh_M E _) rfl 12 (by decide) wd471 rfl dM_isotropicAt_24 ?_
    refine j_if_eq hx hb (by first | (rw [mu_s]; decide) | (rw [h12]; decide)) dM_isotropicAt_27 rfl (fun h9 => ?_) (fun h9 => ?_)
    · rw [mu_s] at h9
      omega
    · refine j_iconst hx hb dM_isotropicAt_30 ?_
      exact mm_zret hx hb hr hk hP hS dM_isotropicAt_31 nar_0 ⟨⟨False, by rw [bi_f id], fun _ => mu_s _ _ _ _, fun q => absurd q hno⟩, fun q hq => mu_k (by omega)⟩
  refine lv_aload_n hx hb dM_isotropicAt_0 rfl (lv_at hl 0 rfl) ?_
  refine lv_iload_n hx hb dM_isotropicAt_1 rfl (lv_at hl 1 rfl) ?_
  refine pm_G (As := [.int (ji f)]) (rest := [.ref (E.2.1 28)]) hx hb hml hown hg hl (kM_isForm l f hf) wd507 wd508 wd5 wd509 ⟨rfl, rfl⟩ (n := 1) (by decide +kernel) rfl ⟨by decide, by decide⟩ rfl (Nat.le_of_ble_eq_true rfl) dM_isotropicAt_2 ⟨Nat.zero_le _, Nat.zero_le _⟩ (fun r hr9 => ?_)
  subst hr9
  refine j_if_eq hx hb (bi_b32 _) dM_isotropicAt_5 rfl (fun h1 => ?_) (fun h1 => ?_)
  · exact bad ls (fun q => bi_eq h1 q.1) hl
  · have hfo := bi_ne h1
    refine lv_iload_n hx hb dM_isotropicAt_8 rfl (lv_at hl 2 rfl) ?_
    refine pm_G (As := [.int (ji p9)]) (rest := [.ref (E.2.1 28)]) hx hb hml hown hg hl (kM_isPlace l p9 hp9) wd553 wd554 wd5 wd555 ⟨rfl, rfl⟩ (n := 1) (by decide +kernel) rfl ⟨by decide, by decide⟩ rfl (Nat.le_of_ble_eq_true rfl) dM_isotropicAt_9 ⟨Nat.zero_le _, Nat.zero_le _⟩ (fun r hr9 => ?_)
    subst hr9
    refine j_if_ne hx hb (bi_b32 _) dM_isotropicAt_12 rfl (fun h3 => ?_) (fun h3 => ?_)
    · have hpl : pl0 p9 := bi_ne h3
      obtain ⟨g, hg2, hfg⟩ := fo_g hfo
      refine j_iconst hx hb dM_isotropicAt_19 ?_
      refine m_put (C := "RationalFormsModel") (T := TxM) (N := 13) (ty := .int) (z := 0) hx hb hg uwM txM txM_ok nmM hown hK hJ hP hS (by omega) (sh_M E _) rfl 12 (by decide) wd471 rfl rfl rfl rfl (Nat.le_of_ble_eq_true rfl) (by rw [sh_M E _]; simp [mu]) dM_isotropicAt_20 (fun H locs hP hS => ?_)
      obtain ⟨M1, e1⟩ : ∃ X, X = mu M 28 12 0 := ⟨_, rfl⟩
      rw [← e1] at hP
      have h29 : M1 29 = M 29 := by rw [e1]; exact mu_k (by omega)
      have h30 : M1 30 = M 30 := by rw [e1]; exact mu_k (by omega)
      have hq1 : ∀ q, q ≠ 28 → M1 q = M q := fun q hq => by rw [e1]; exact mu_k hq
      have h12 : M1 28 12 = 0 := by rw [e1]; exact mu_s _ _ _ _
      have hI9 := hI g hg2
      refine lv_aload_n hx hb dM_isotropicAt_23 rfl (lv_at hl 0 rfl) ?_
      refine m_get (C := "RationalFormsModel") (T := TxM) (N := 13) hx hb hg uwM hown hK hP (by omega) (sh_M E _) rfl 12 (by decide) wd471 rfl dM_isotropicAt_24 ?_
      refine j_if_eq hx hb (by first | (rw [mu_s]; decide) | (rw [h12]; decide)) dM_isotropicAt_27 rfl (fun h9 => ?_) (fun h9 => ?_)
      · rw [hfg] at hl
        refine lv_aload_n hx hb dM_isotropicAt_32 rfl (lv_at hl 0 rfl) ?_
        refine lv_iload_n hx hb dM_isotropicAt_33 rfl (lv_at hl 1 rfl) ?_
        refine mm_V (As := [.int (ji ((g:Int)))]) (rest := []) hx hb hml hown hg hl hK hP hS (by omega) (sh_M E _) rfl (kM_look l E hJ M1 g hg2 (nn g) (by rw [h29]; exact hI9.1) hI9.2.1 hI9.2.2.1 (by rw [h30]; exact hI9.2.2.2)) wd518 wd520 wds12 wd5 wd521 ⟨rfl, rfl⟩ (n := 1) (by decide +kernel) rfl ⟨by decide, by decide⟩ rfl (Nat.le_of_ble_eq_true rfl) dM_isotropicAt_34 ⟨Nat.zero_le _, Nat.zero_le _⟩ (fun v M2 H locs hq hP hS => ?_)
        obtain ⟨rfl, ⟨r, p, c, hPV, hpB, hrn, hcB, hL, hdi⟩, hF, hFj⟩ := hq
        rw [h30] at hPV
        have hfp : fpv (nn g) (aM M g) r p := ⟨hPV, hpB, hrn⟩
        have hn4 := hI9.2.2.1
        have hr3 := hL.1
        have hFQ : FrQ M M2 := fun q hq => (hF q (by omega) (by omega) (by omega) (by omega)).trans (hq1 q (by omega))
        have h212 : M2 28 12 = 0 := (hFj 12 (by omega) (by omega) (by omega) (by omega) (by omega)).trans h12
        have h229 : M2 29 g = nn g := by rw [hFQ 29 (by omega)]; exact hI9.1
        have hc25 := cB_le (k := r) (by omega)
        have hTG := TG_of (by omega) hL hpB
        have hps := ps_bd p r
        have hng := ng_ps p r
        have hds := ds_le hpB

        have fin : ∀ (g' : Nat), f = g' → ∀ z : Prop, (z ↔ (r < nn g ∨ zM r (sf (bef p r)) (tr p) (0 < ps p r ∧ 0 < ng p r) p9)) → ∃ r p, fpv (nn g') (aM M g') r p ∧ (z ↔ (r < nn g' ∨ zM r (sf (bef p r)) (tr p) (0 < ps p r ∧ 0 < ng p r) p9)) := fun g' hg' z hz => by
          obtain rfl : g' = g := by omega
          exact ⟨r, p, hfp, hz⟩
        refine lv_aload_n hx hb dM_isotropicAt_37 rfl (lv_at hl 0 rfl) ?_
        refine m_get (C := "RationalFormsModel") (T := TxM) (N := 13) hx hb hg uwM hown hK hP (by omega) (sh_M E _) rfl 3 (by decide) wd462 rfl dM_isotropicAt_38 ?_
        refine lv_aload_n hx hb dM_isotropicAt_41 rfl (lv_at hl 0 rfl) ?_
        refine m_get (C := "RationalFormsModel") (T := TxM) (N := 13) hx hb hg uwM hown hK hP (by omega) (sh_M E _) rfl 0 (by decide) wd459 rfl dM_isotropicAt_42 ?_
        refine lv_iload_n hx hb dM_isotropicAt_45 rfl (lv_at hl 1 rfl) ?_
        refine m_iald (n := g) hx hb hK hP (by omega) (sh_29 E _) (by omega) (by omega) (by decide) dM_isotropicAt_46 ?_
        refine j_icmp_lt hx hb (by rw [hr3]; omega) (by rw [h229]; omega) dM_isotropicAt_47 rfl (fun h5 => ?_) (fun h5 => ?_)
        · rw [hr3, h229] at h5
          refine j_iconst hx hb dM_isotropicAt_86 ?_
          refine lv_goto hx hb dM_isotropicAt_87 rfl ?_
          exact mm_zret hx hb hr hk hP hS dM_isotropicAt_91 nar_1 ⟨⟨True, by rw [bi_t trivial], fun q => absurd (⟨hfo, hpl⟩ : (fo f ∧ pl0 p9)) q, fun _ => ⟨h212, fun g' hg' => fin g' hg' True ⟨fun _ => Or.inl (by omega), fun _ => trivial⟩⟩⟩, hFQ⟩
        · rw [hr3, h229] at h5
          refine lv_aload_n hx hb dM_isotropicAt_50 rfl (lv_at hl 0 rfl) ?_
          refine lv_aload_n hx hb dM_isotropicAt_51 rfl (lv_at hl 0 rfl) ?_
          refine m_get (C := "RationalFormsModel") (T := TxM) (N := 13) hx hb hg uwM hown hK hP (by omega) (sh_M E _) rfl 3 (by decide) wd462 rfl dM_isotropicAt_52 ?_
          refine lv_aload_n hx hb dM_isotropicAt_55 rfl (lv_at hl 0 rfl) ?_
          refine m_get (C := "RationalFormsModel") (T := TxM) (N := 13) hx hb hg uwM hown hK hP (by omega) (sh_M E _) rfl 7 (by decide) wd466 rfl dM_isotropicAt_56 ?_
          refine lv_aload_n hx hb dM_isotropicAt_59 rfl (lv_at hl 0 rfl) ?_
          refine m_get (C := "RationalFormsModel") (T := TxM) (N := 13) hx hb hg uwM hown hK hP (by omega) (sh_M E _) rfl 5 (by decide) wd464 rfl dM_isotropicAt_60 ?_
          rw [hr3, hdi]
          refine j_if_le hx hb (by rw [hL.2.2.1]; omega) dM_isotropicAt_63 rfl (fun h6 => ?_) (fun h6 => ?_)
          · rw [hL.2.2.1] at h6
            refine j_iconst hx hb dM_isotropicAt_77 ?_
            have eb : (0 : Int) = bi (0 < ps p r ∧ 0 < ng p r) := (bi_f (fun q => by omega)).symm
            rw [congrArg ji eb]
            refine lv_iload_n hx hb dM_isotropicAt_78 rfl (lv_at hl 2 rfl) ?_
            refine j_i2l hx hb (by omega) dM_isotropicAt_79 ?_
            refine mm_V (As := [.int (ji ((r:Int))), .long (jl (sf (bef p r))), .int (ji (bi (0 < ps p r ∧ 0 < ng p r))), .long (jl p9)]) (rest := []) hx hb hml hown hg hl hK hP hS (by omega) (sh_M E _) rfl (kM_isZeroAt l E hJ M2 r hTG (sf (bef p r)) (n4 (ds_sq hpB)) (by omega) (0 < ps p r ∧ 0 < ng p r) p9 (pl0_plc hpl)) wd584 wd586 wds18 wd5 wd587 ⟨rfl, rfl⟩ (n := 4) (by decide +kernel) rfl ⟨by decide, by decide⟩ rfl (Nat.le_of_ble_eq_true rfl) dM_isotropicAt_80 ⟨Nat.zero_le _, Nat.zero_le _⟩ (fun v M3 H locs hq3 hP hS => ?_)
            obtain ⟨rfl, hM3⟩ := hq3
            rw [hM3] at hP
            refine j_if_eq hx hb (bi_b32 _) dM_isotropicAt_83 rfl (fun h8 => ?_) (fun h8 => ?_)
            · have hz8 := bi_eq h8
              refine j_iconst hx hb dM_isotropicAt_90 ?_
              exact mm_zret hx hb hr hk hP hS dM_isotropicAt_91 nar_0 ⟨⟨False, by rw [bi_f id], fun q => absurd (⟨hfo, hpl⟩ : (fo f ∧ pl0 p9)) q, fun _ => ⟨h212, fun g' hg' => fin g' hg' False ⟨False.elim, fun q => q.elim (fun q => by omega) (fun q => hz8 (by rw [zM_cg hL.2.1]; exact q))⟩⟩⟩, hFQ⟩
            · have hz8 := bi_ne h8
              rw [zM_cg hL.2.1] at hz8
              refine j_iconst hx hb dM_isotropicAt_86 ?_
              refine lv_goto hx hb dM_isotropicAt_87 rfl ?_
              exact mm_zret hx hb hr hk hP hS dM_isotropicAt_91 nar_1 ⟨⟨True, by rw [bi_t trivial], fun q => absurd (⟨hfo, hpl⟩ : (fo f ∧ pl0 p9)) q, fun _ => ⟨h212, fun g' hg' => fin g' hg' True ⟨fun _ => Or.inr hz8, fun _ => trivial⟩⟩⟩, hFQ⟩
          · rw [hL.2.2.1] at h6
            refine lv_aload_n hx hb dM_isotropicAt_66 rfl (lv_at hl 0 rfl) ?_
            refine m_get (C := "RationalFormsModel") (T := TxM) (N := 13) hx hb hg uwM hown hK hP (by omega) (sh_M E _) rfl 6 (by decide) wd465 rfl dM_isotropicAt_67 ?_
            refine j_if_le hx hb (by rw [hL.2.2.2.1]; omega) dM_isotropicAt_70 rfl (fun h7 => ?_) (fun h7 => ?_)
            · rw [hL.2.2.2.1] at h7
              refine j_iconst hx hb dM_isotropicAt_77 ?_
              have eb : (0 : Int) = bi (0 < ps p r ∧ 0 < ng p r) := (bi_f (fun q => by omega)).symm
              rw [congrArg ji eb]
              refine lv_iload_n hx hb dM_isotropicAt_78 rfl (lv_at hl 2 rfl) ?_
              refine j_i2l hx hb (by omega) dM_isotropicAt_79 ?_
              refine mm_V (As := [.int (ji ((r:Int))), .long (jl (sf (bef p r))), .int (ji (bi (0 < ps p r ∧ 0 < ng p r))), .long (jl p9)]) (rest := []) hx hb hml hown hg hl hK hP hS (by omega) (sh_M E _) rfl (kM_isZeroAt l E hJ M2 r hTG (sf (bef p r)) (n4 (ds_sq hpB)) (by omega) (0 < ps p r ∧ 0 < ng p r) p9 (pl0_plc hpl)) wd584 wd586 wds18 wd5 wd587 ⟨rfl, rfl⟩ (n := 4) (by decide +kernel) rfl ⟨by decide, by decide⟩ rfl (Nat.le_of_ble_eq_true rfl) dM_isotropicAt_80 ⟨Nat.zero_le _, Nat.zero_le _⟩ (fun v M3 H locs hq3 hP hS => ?_)
              obtain ⟨rfl, hM3⟩ := hq3
              rw [hM3] at hP
              refine j_if_eq hx hb (bi_b32 _) dM_isotropicAt_83 rfl (fun h8 => ?_) (fun h8 => ?_)
              · have hz8 := bi_eq h8
                refine j_iconst hx hb dM_isotropicAt_90 ?_
                exact mm_zret hx hb hr hk hP hS dM_isotropicAt_91 nar_0 ⟨⟨False, by rw [bi_f id], fun q => absurd (⟨hfo, hpl⟩ : (fo f ∧ pl0 p9)) q, fun _ => ⟨h212, fun g' hg' => fin g' hg' False ⟨False.elim, fun q => q.elim (fun q => by omega) (fun q => hz8 (by rw [zM_cg hL.2.1]; exact q))⟩⟩⟩, hFQ⟩
              · have hz8 := bi_ne h8
                rw [zM_cg hL.2.1] at hz8
                refine j_iconst hx hb dM_isotropicAt_86 ?_
                refine lv_goto hx hb dM_isotropicAt_87 rfl ?_
                exact mm_zret hx hb hr hk hP hS dM_isotropicAt_91 nar_1 ⟨⟨True, by rw [bi_t trivial], fun q => absurd (⟨hfo, hpl⟩ : (fo f ∧ pl0 p9)) q, fun _ => ⟨h212, fun g' hg' => fin g' hg' True ⟨fun _ => Or.inr hz8, fun _ => trivial⟩⟩⟩, hFQ⟩
            · rw [hL.2.2.2.1] at h7
              refine j_iconst hx hb dM_isotropicAt_73 ?_
              refine lv_goto hx hb dM_isotropicAt_74 rfl ?_
              have eb : (1 : Int) = bi (0 < ps p r ∧ 0 < ng p r) := (bi_t (by omega)).symm
              rw [congrArg ji eb]
              refine lv_iload_n hx hb dM_isotropicAt_78 rfl (lv_at hl 2 rfl) ?_
              refine j_i2l hx hb (by omega) dM_isotropicAt_79 ?_
              refine mm_V (As := [.int (ji ((r:Int))), .long (jl (sf (bef p r))), .int (ji (bi (0 < ps p r ∧ 0 < ng p r))), .long (jl p9)]) (rest := []) hx hb hml hown hg hl hK hP hS (by omega) (sh_M E _) rfl (kM_isZeroAt l E hJ M2 r hTG (sf (bef p r)) (n4 (ds_sq hpB)) (by omega) (0 < ps p r ∧ 0 < ng p r) p9 (pl0_plc hpl)) wd584 wd586 wds18 wd5 wd587 ⟨rfl, rfl⟩ (n := 4) (by decide +kernel) rfl ⟨by decide, by decide⟩ rfl (Nat.le_of_ble_eq_true rfl) dM_isotropicAt_80 ⟨Nat.zero_le _, Nat.zero_le _⟩ (fun v M3 H locs hq3 hP hS => ?_)
              obtain ⟨rfl, hM3⟩ := hq3
              rw [hM3] at hP
              refine j_if_eq hx hb (bi_b32 _) dM_isotropicAt_83 rfl (fun h8 => ?_) (fun h8 => ?_)
              · have hz8 := bi_eq h8
                refine j_iconst hx hb dM_isotropicAt_90 ?_
                exact mm_zret hx hb hr hk hP hS dM_isotropicAt_91 nar_0 ⟨⟨False, by rw [bi_f id], fun q => absurd (⟨hfo, hpl⟩ : (fo f ∧ pl0 p9)) q, fun _ => ⟨h212, fun g' hg' => fin g' hg' False ⟨False.elim, fun q => q.elim (fun q => by omega) (fun q => hz8 (by rw [zM_cg hL.2.1]; exact q))⟩⟩⟩, hFQ⟩
              · have hz8 := bi_ne h8
                rw [zM_cg hL.2.1] at hz8
                refine j_iconst hx hb dM_isotropicAt_86 ?_
                refine lv_goto hx hb dM_isotropicAt_87 rfl ?_
                exact mm_zret hx hb hr hk hP hS dM_isotropicAt_91 nar_1 ⟨⟨True, by rw [bi_t trivial], fun q => absurd (⟨hfo, hpl⟩ : (fo f ∧ pl0 p9)) q, fun _ => ⟨h212, fun g' hg' => fin g' hg' True ⟨fun _ => Or.inr hz8, fun _ => trivial⟩⟩⟩, hFQ⟩
      · omega
    · exact bad ls (fun q => bi_eq h3 q.2) hl
