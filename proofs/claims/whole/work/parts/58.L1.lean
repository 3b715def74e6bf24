/-! the law's own methods: each calls one of the class's and catches -/
abbrev cL_begin : ByteArray := method_3_code
abbrev yL_begin : MethodName := ⟨"RationalFormsLaw", "begin", "(LRationalForms;II)I"⟩
abbrev wsL_begin : List Cond := .codeWith yL_begin cL_begin 4 (some .int) [(0, 6, 9, 13)] :: GG
theorem dL_begin_0 : decode cL_begin 0 = .ok (.aload_n 0, 1) := by decide +kernel
theorem dL_begin_1 : decode cL_begin 1 = .ok (.iload_n 1, 1) := by decide +kernel
theorem dL_begin_2 : decode cL_begin 2 = .ok (.iload_n 2, 1) := by decide +kernel
theorem dL_begin_3 : decode cL_begin 3 = .ok (.invokevirtual 7, 3) := by decide +kernel
theorem dL_begin_6 : decode cL_begin 6 = .ok (.goto 6, 3) := by decide +kernel
theorem dL_begin_9 : decode cL_begin 9 = .ok (.astore_n 3, 1) := by decide +kernel
theorem dL_begin_10 : decode cL_begin 10 = .ok (.iconst 1, 1) := by decide +kernel
theorem dL_begin_11 : decode cL_begin 11 = .ok (.ireturn, 1) := by decide +kernel
theorem dL_begin_12 : decode cL_begin 12 = .ok (.iconst 0, 1) := by decide +kernel
theorem dL_begin_13 : decode cL_begin 13 = .ok (.ireturn, 1) := by decide +kernel
abbrev cL_put : ByteArray := method_4_code
abbrev yL_put : MethodName := ⟨"RationalFormsLaw", "put", "(LRationalForms;IIII[J)I"⟩
abbrev wsL_put : List Cond := .codeWith yL_put cL_put 7 (some .int) [(0, 14, 17, 13), (0, 14, 21, 19)] :: GG
theorem dL_put_0 : decode cL_put 0 = .ok (.aload 5, 2) := by decide +kernel
theorem dL_put_2 : decode cL_put 2 = .ok (.iconst 0, 1) := by decide +kernel
theorem dL_put_3 : decode cL_put 3 = .ok (.aload_n 0, 1) := by decide +kernel
theorem dL_put_4 : decode cL_put 4 = .ok (.iload_n 1, 1) := by decide +kernel
theorem dL_put_5 : decode cL_put 5 = .ok (.iload_n 2, 1) := by decide +kernel
theorem dL_put_6 : decode cL_put 6 = .ok (.iload_n 3, 1) := by decide +kernel
theorem dL_put_7 : decode cL_put 7 = .ok (.iload 4, 2) := by decide +kernel
theorem dL_put_9 : decode cL_put 9 = .ok (.invokevirtual 15, 3) := by decide +kernel
theorem dL_put_12 : decode cL_put 12 = .ok (.i2l, 1) := by decide +kernel
theorem dL_put_13 : decode cL_put 13 = .ok (.lastore, 1) := by decide +kernel
theorem dL_put_14 : decode cL_put 14 = .ok (.goto 11, 3) := by decide +kernel
theorem dL_put_17 : decode cL_put 17 = .ok (.astore 6, 2) := by decide +kernel
theorem dL_put_19 : decode cL_put 19 = .ok (.iconst 1, 1) := by decide +kernel
theorem dL_put_20 : decode cL_put 20 = .ok (.ireturn, 1) := by decide +kernel
theorem dL_put_21 : decode cL_put 21 = .ok (.astore 6, 2) := by decide +kernel
theorem dL_put_23 : decode cL_put 23 = .ok (.iconst 2, 1) := by decide +kernel
theorem dL_put_24 : decode cL_put 24 = .ok (.ireturn, 1) := by decide +kernel
theorem dL_put_25 : decode cL_put 25 = .ok (.iconst 0, 1) := by decide +kernel
theorem dL_put_26 : decode cL_put 26 = .ok (.ireturn, 1) := by decide +kernel
abbrev cL_about : ByteArray := method_5_code
abbrev yL_about : MethodName := ⟨"RationalFormsLaw", "about", "(LRationalForms;II[J)I"⟩
abbrev wsL_about : List Cond := .codeWith yL_about cL_about 5 (some .int) [(0, 10, 13, 13)] :: GG
theorem dL_about_0 : decode cL_about 0 = .ok (.aload_n 3, 1) := by decide +kernel
theorem dL_about_1 : decode cL_about 1 = .ok (.iconst 0, 1) := by decide +kernel
theorem dL_about_2 : decode cL_about 2 = .ok (.aload_n 0, 1) := by decide +kernel
theorem dL_about_3 : decode cL_about 3 = .ok (.iload_n 1, 1) := by decide +kernel
theorem dL_about_4 : decode cL_about 4 = .ok (.iload_n 2, 1) := by decide +kernel
theorem dL_about_5 : decode cL_about 5 = .ok (.invokevirtual 21, 3) := by decide +kernel
theorem dL_about_8 : decode cL_about 8 = .ok (.i2l, 1) := by decide +kernel
theorem dL_about_9 : decode cL_about 9 = .ok (.lastore, 1) := by decide +kernel
theorem dL_about_10 : decode cL_about 10 = .ok (.goto 7, 3) := by decide +kernel
theorem dL_about_13 : decode cL_about 13 = .ok (.astore 4, 2) := by decide +kernel
theorem dL_about_15 : decode cL_about 15 = .ok (.iconst 1, 1) := by decide +kernel
theorem dL_about_16 : decode cL_about 16 = .ok (.ireturn, 1) := by decide +kernel
theorem dL_about_17 : decode cL_about 17 = .ok (.iconst 0, 1) := by decide +kernel
theorem dL_about_18 : decode cL_about 18 = .ok (.ireturn, 1) := by decide +kernel
abbrev cL_symbol : ByteArray := method_6_code
abbrev yL_symbol : MethodName := ⟨"RationalFormsLaw", "symbol", "(LRationalForms;III[J)I"⟩
abbrev wsL_symbol : List Cond := .codeWith yL_symbol cL_symbol 6 (some .int) [(0, 12, 15, 29), (0, 12, 19, 13)] :: GG
theorem dL_symbol_0 : decode cL_symbol 0 = .ok (.aload 4, 2) := by decide +kernel
theorem dL_symbol_2 : decode cL_symbol 2 = .ok (.iconst 0, 1) := by decide +kernel
theorem dL_symbol_3 : decode cL_symbol 3 = .ok (.aload_n 0, 1) := by decide +kernel
theorem dL_symbol_4 : decode cL_symbol 4 = .ok (.iload_n 1, 1) := by decide +kernel
theorem dL_symbol_5 : decode cL_symbol 5 = .ok (.iload_n 2, 1) := by decide +kernel
theorem dL_symbol_6 : decode cL_symbol 6 = .ok (.iload_n 3, 1) := by decide +kernel
theorem dL_symbol_7 : decode cL_symbol 7 = .ok (.invokevirtual 25, 3) := by decide +kernel
theorem dL_symbol_10 : decode cL_symbol 10 = .ok (.i2l, 1) := by decide +kernel
theorem dL_symbol_11 : decode cL_symbol 11 = .ok (.lastore, 1) := by decide +kernel
theorem dL_symbol_12 : decode cL_symbol 12 = .ok (.goto 11, 3) := by decide +kernel
theorem dL_symbol_15 : decode cL_symbol 15 = .ok (.astore 5, 2) := by decide +kernel
theorem dL_symbol_17 : decode cL_symbol 17 = .ok (.iconst 1, 1) := by decide +kernel
theorem dL_symbol_18 : decode cL_symbol 18 = .ok (.ireturn, 1) := by decide +kernel
theorem dL_symbol_19 : decode cL_symbol 19 = .ok (.astore 5, 2) := by decide +kernel
theorem dL_symbol_21 : decode cL_symbol 21 = .ok (.iconst 2, 1) := by decide +kernel
theorem dL_symbol_22 : decode cL_symbol 22 = .ok (.ireturn, 1) := by decide +kernel
theorem dL_symbol_23 : decode cL_symbol 23 = .ok (.iconst 0, 1) := by decide +kernel
theorem dL_symbol_24 : decode cL_symbol 24 = .ok (.ireturn, 1) := by decide +kernel
abbrev cL_hasse : ByteArray := method_7_code
abbrev yL_hasse : MethodName := ⟨"RationalFormsLaw", "hasse", "(LRationalForms;II[J)I"⟩
abbrev wsL_hasse : List Cond := .codeWith yL_hasse cL_hasse 5 (some .int) [(0, 10, 13, 13)] :: GG
theorem dL_hasse_0 : decode cL_hasse 0 = .ok (.aload_n 3, 1) := by decide +kernel
theorem dL_hasse_1 : decode cL_hasse 1 = .ok (.iconst 0, 1) := by decide +kernel
theorem dL_hasse_2 : decode cL_hasse 2 = .ok (.aload_n 0, 1) := by decide +kernel
theorem dL_hasse_3 : decode cL_hasse 3 = .ok (.iload_n 1, 1) := by decide +kernel
theorem dL_hasse_4 : decode cL_hasse 4 = .ok (.iload_n 2, 1) := by decide +kernel
theorem dL_hasse_5 : decode cL_hasse 5 = .ok (.invokevirtual 31, 3) := by decide +kernel
theorem dL_hasse_8 : decode cL_hasse 8 = .ok (.i2l, 1) := by decide +kernel
theorem dL_hasse_9 : decode cL_hasse 9 = .ok (.lastore, 1) := by decide +kernel
theorem dL_hasse_10 : decode cL_hasse 10 = .ok (.goto 7, 3) := by decide +kernel
theorem dL_hasse_13 : decode cL_hasse 13 = .ok (.astore 4, 2) := by decide +kernel
theorem dL_hasse_15 : decode cL_hasse 15 = .ok (.iconst 1, 1) := by decide +kernel
theorem dL_hasse_16 : decode cL_hasse 16 = .ok (.ireturn, 1) := by decide +kernel
theorem dL_hasse_17 : decode cL_hasse 17 = .ok (.iconst 0, 1) := by decide +kernel
theorem dL_hasse_18 : decode cL_hasse 18 = .ok (.ireturn, 1) := by decide +kernel
abbrev cL_isotropicAt : ByteArray := method_8_code
abbrev yL_isotropicAt : MethodName := ⟨"RationalFormsLaw", "isotropicAt", "(LRationalForms;II[J)I"⟩
abbrev wsL_isotropicAt : List Cond := .codeWith yL_isotropicAt cL_isotropicAt 5 (some .int) [(0, 17, 20, 13)] :: GG
theorem dL_isotropicAt_0 : decode cL_isotropicAt 0 = .ok (.aload_n 3, 1) := by decide +kernel
theorem dL_isotropicAt_1 : decode cL_isotropicAt 1 = .ok (.iconst 0, 1) := by decide +kernel
theorem dL_isotropicAt_2 : decode cL_isotropicAt 2 = .ok (.aload_n 0, 1) := by decide +kernel
theorem dL_isotropicAt_3 : decode cL_isotropicAt 3 = .ok (.iload_n 1, 1) := by decide +kernel
theorem dL_isotropicAt_4 : decode cL_isotropicAt 4 = .ok (.iload_n 2, 1) := by decide +kernel
theorem dL_isotropicAt_5 : decode cL_isotropicAt 5 = .ok (.invokevirtual 34, 3) := by decide +kernel
theorem dL_isotropicAt_8 : decode cL_isotropicAt 8 = .ok (.ifCond .eq 7, 3) := by decide +kernel
theorem dL_isotropicAt_11 : decode cL_isotropicAt 11 = .ok (.lconst 1, 1) := by decide +kernel
theorem dL_isotropicAt_12 : decode cL_isotropicAt 12 = .ok (.goto 4, 3) := by decide +kernel
theorem dL_isotropicAt_15 : decode cL_isotropicAt 15 = .ok (.lconst 0, 1) := by decide +kernel
theorem dL_isotropicAt_16 : decode cL_isotropicAt 16 = .ok (.lastore, 1) := by decide +kernel
theorem dL_isotropicAt_17 : decode cL_isotropicAt 17 = .ok (.goto 7, 3) := by decide +kernel
theorem dL_isotropicAt_20 : decode cL_isotropicAt 20 = .ok (.astore 4, 2) := by decide +kernel
theorem dL_isotropicAt_22 : decode cL_isotropicAt 22 = .ok (.iconst 1, 1) := by decide +kernel
theorem dL_isotropicAt_23 : decode cL_isotropicAt 23 = .ok (.ireturn, 1) := by decide +kernel
theorem dL_isotropicAt_24 : decode cL_isotropicAt 24 = .ok (.iconst 0, 1) := by decide +kernel
theorem dL_isotropicAt_25 : decode cL_isotropicAt 25 = .ok (.ireturn, 1) := by decide +kernel
abbrev cL_obstacle : ByteArray := method_9_code
abbrev yL_obstacle : MethodName := ⟨"RationalFormsLaw", "obstacle", "(LRationalForms;I[J)I"⟩
abbrev wsL_obstacle : List Cond := .codeWith yL_obstacle cL_obstacle 4 (some .int) [(0, 9, 12, 13)] :: GG
theorem dL_obstacle_0 : decode cL_obstacle 0 = .ok (.aload_n 2, 1) := by decide +kernel
theorem dL_obstacle_1 : decode cL_obstacle 1 = .ok (.iconst 0, 1) := by decide +kernel
theorem dL_obstacle_2 : decode cL_obstacle 2 = .ok (.aload_n 0, 1) := by decide +kernel
theorem dL_obstacle_3 : decode cL_obstacle 3 = .ok (.iload_n 1, 1) := by decide +kernel
theorem dL_obstacle_4 : decode cL_obstacle 4 = .ok (.invokevirtual 38, 3) := by decide +kernel
theorem dL_obstacle_7 : decode cL_obstacle 7 = .ok (.i2l, 1) := by decide +kernel
theorem dL_obstacle_8 : decode cL_obstacle 8 = .ok (.lastore, 1) := by decide +kernel
theorem dL_obstacle_9 : decode cL_obstacle 9 = .ok (.goto 6, 3) := by decide +kernel
theorem dL_obstacle_12 : decode cL_obstacle 12 = .ok (.astore_n 3, 1) := by decide +kernel
theorem dL_obstacle_13 : decode cL_obstacle 13 = .ok (.iconst 1, 1) := by decide +kernel
theorem dL_obstacle_14 : decode cL_obstacle 14 = .ok (.ireturn, 1) := by decide +kernel
theorem dL_obstacle_15 : decode cL_obstacle 15 = .ok (.iconst 0, 1) := by decide +kernel
theorem dL_obstacle_16 : decode cL_obstacle 16 = .ok (.ireturn, 1) := by decide +kernel
abbrev cL_takes : ByteArray := method_10_code
abbrev yL_takes : MethodName := ⟨"RationalFormsLaw", "takes", "(LRationalForms;II[J)I"⟩
abbrev wsL_takes : List Cond := .codeWith yL_takes cL_takes 5 (some .int) [(0, 17, 20, 13), (0, 17, 24, 29)] :: GG
theorem dL_takes_0 : decode cL_takes 0 = .ok (.aload_n 3, 1) := by decide +kernel
theorem dL_takes_1 : decode cL_takes 1 = .ok (.iconst 0, 1) := by decide +kernel
theorem dL_takes_2 : decode cL_takes 2 = .ok (.aload_n 0, 1) := by decide +kernel
theorem dL_takes_3 : decode cL_takes 3 = .ok (.iload_n 1, 1) := by decide +kernel
theorem dL_takes_4 : decode cL_takes 4 = .ok (.iload_n 2, 1) := by decide +kernel
theorem dL_takes_5 : decode cL_takes 5 = .ok (.invokevirtual 42, 3) := by decide +kernel
theorem dL_takes_8 : decode cL_takes 8 = .ok (.ifCond .eq 7, 3) := by decide +kernel
theorem dL_takes_11 : decode cL_takes 11 = .ok (.lconst 1, 1) := by decide +kernel
theorem dL_takes_12 : decode cL_takes 12 = .ok (.goto 4, 3) := by decide +kernel
theorem dL_takes_15 : decode cL_takes 15 = .ok (.lconst 0, 1) := by decide +kernel
theorem dL_takes_16 : decode cL_takes 16 = .ok (.lastore, 1) := by decide +kernel
theorem dL_takes_17 : decode cL_takes 17 = .ok (.goto 11, 3) := by decide +kernel
theorem dL_takes_20 : decode cL_takes 20 = .ok (.astore 4, 2) := by decide +kernel
theorem dL_takes_22 : decode cL_takes 22 = .ok (.iconst 1, 1) := by decide +kernel
theorem dL_takes_23 : decode cL_takes 23 = .ok (.ireturn, 1) := by decide +kernel
theorem dL_takes_24 : decode cL_takes 24 = .ok (.astore 4, 2) := by decide +kernel
theorem dL_takes_26 : decode cL_takes 26 = .ok (.iconst 2, 1) := by decide +kernel
theorem dL_takes_27 : decode cL_takes 27 = .ok (.ireturn, 1) := by decide +kernel
theorem dL_takes_28 : decode cL_takes 28 = .ok (.iconst 0, 1) := by decide +kernel
theorem dL_takes_29 : decode cL_takes 29 = .ok (.ireturn, 1) := by decide +kernel
abbrev cL_value : ByteArray := method_11_code
abbrev yL_value : MethodName := ⟨"RationalFormsLaw", "value", "(LRationalForms;IIIII[J)I"⟩
abbrev wsL_value : List Cond := .codeWith yL_value cL_value 8 (some .int) [(0, 15, 18, 13)] :: GG
theorem dL_value_0 : decode cL_value 0 = .ok (.aload 6, 2) := by decide +kernel
theorem dL_value_2 : decode cL_value 2 = .ok (.iconst 0, 1) := by decide +kernel
theorem dL_value_3 : decode cL_value 3 = .ok (.aload_n 0, 1) := by decide +kernel
theorem dL_value_4 : decode cL_value 4 = .ok (.iload_n 1, 1) := by decide +kernel
theorem dL_value_5 : decode cL_value 5 = .ok (.iload_n 2, 1) := by decide +kernel
theorem dL_value_6 : decode cL_value 6 = .ok (.iload_n 3, 1) := by decide +kernel
theorem dL_value_7 : decode cL_value 7 = .ok (.iload 4, 2) := by decide +kernel
theorem dL_value_9 : decode cL_value 9 = .ok (.iload 5, 2) := by decide +kernel
theorem dL_value_11 : decode cL_value 11 = .ok (.invokevirtual 45, 3) := by decide +kernel
theorem dL_value_14 : decode cL_value 14 = .ok (.lastore, 1) := by decide +kernel
theorem dL_value_15 : decode cL_value 15 = .ok (.goto 7, 3) := by decide +kernel
theorem dL_value_18 : decode cL_value 18 = .ok (.astore 7, 2) := by decide +kernel
theorem dL_value_20 : decode cL_value 20 = .ok (.iconst 1, 1) := by decide +kernel
theorem dL_value_21 : decode cL_value 21 = .ok (.ireturn, 1) := by decide +kernel
theorem dL_value_22 : decode cL_value 22 = .ok (.iconst 0, 1) := by decide +kernel
theorem dL_value_23 : decode cL_value 23 = .ok (.ireturn, 1) := by decide +kernel
abbrev cL_sign : ByteArray := method_12_code
abbrev yL_sign : MethodName := ⟨"RationalFormsLaw", "sign", "(LRationalForms;II[J)I"⟩
abbrev wsL_sign : List Cond := .codeWith yL_sign cL_sign 5 (some .int) [(0, 10, 13, 13), (0, 10, 17, 19)] :: GG
theorem dL_sign_0 : decode cL_sign 0 = .ok (.aload_n 3, 1) := by decide +kernel
theorem dL_sign_1 : decode cL_sign 1 = .ok (.iconst 0, 1) := by decide +kernel
theorem dL_sign_2 : decode cL_sign 2 = .ok (.aload_n 0, 1) := by decide +kernel
theorem dL_sign_3 : decode cL_sign 3 = .ok (.iload_n 1, 1) := by decide +kernel
theorem dL_sign_4 : decode cL_sign 4 = .ok (.iload_n 2, 1) := by decide +kernel
theorem dL_sign_5 : decode cL_sign 5 = .ok (.invokevirtual 49, 3) := by decide +kernel
theorem dL_sign_8 : decode cL_sign 8 = .ok (.i2l, 1) := by decide +kernel
theorem dL_sign_9 : decode cL_sign 9 = .ok (.lastore, 1) := by decide +kernel
theorem dL_sign_10 : decode cL_sign 10 = .ok (.goto 11, 3) := by decide +kernel
theorem dL_sign_13 : decode cL_sign 13 = .ok (.astore 4, 2) := by decide +kernel
theorem dL_sign_15 : decode cL_sign 15 = .ok (.iconst 1, 1) := by decide +kernel
theorem dL_sign_16 : decode cL_sign 16 = .ok (.ireturn, 1) := by decide +kernel
theorem dL_sign_17 : decode cL_sign 17 = .ok (.astore 4, 2) := by decide +kernel
theorem dL_sign_19 : decode cL_sign 19 = .ok (.iconst 2, 1) := by decide +kernel
theorem dL_sign_20 : decode cL_sign 20 = .ok (.ireturn, 1) := by decide +kernel
theorem dL_sign_21 : decode cL_sign 21 = .ok (.iconst 0, 1) := by decide +kernel
theorem dL_sign_22 : decode cL_sign 22 = .ok (.ireturn, 1) := by decide +kernel
abbrev pC_begin (M : Me) (f n : Int) : Option Value → Me → Prop := fun v M9 => v = none ∧ (fo f ∧ 1 ≤ n ∧ n ≤ 4) ∧ ∀ g : Nat, f = g → M9 (5 + g) 0 = n ∧ (∀ i j : Nat, i < 4 → j < 4 → M9 (9 + 4 * g + i) j = 0) ∧ ∀ k, k ≠ 5 + g → (k < 9 + 4 * g ∨ 13 + 4 * g ≤ k) → M9 k = M k
abbrev xC_begin (M : Me) (f n : Int) : String → Me → Prop := fun C M9 => C = "java/lang/IllegalArgumentException" ∧ ¬ (fo f ∧ 1 ≤ n ∧ n ≤ 4) ∧ M9 = M
def qL_begin (M : Me) (f n : Int) : Option Value → Me → Prop := fun v9 M9 => (v9 = some (.int (ji 1)) ∧ xC_begin M f n "java/lang/IllegalArgumentException" M9) ∨ (v9 = some (.int (ji 0)) ∧ pC_begin M f n none M9)
abbrev pC_put (M : Me) (f i j v : Int) (nn : Nat → Nat) : Option Value → Me → Prop := fun w M9 => (fo f ∧ -6 ≤ v ∧ v ≤ 6) ∧ (0 ≤ i ∧ 0 ≤ j ∧ ∀ g : Nat, f = g → i < nn g ∧ j < nn g) ∧ ∀ g a b : Nat, f = g → i = a → j = b → w = some (.int (ji (M (9 + 4 * g + a) b))) ∧ M9 = mu (mu M (9 + 4 * g + a) b v) (9 + 4 * g + b) a v
abbrev xC_put (M : Me) (f i j v : Int) (nn : Nat → Nat) : String → Me → Prop := fun C M9 => ((C = "java/lang/IllegalArgumentException" ∧ ¬ (fo f ∧ -6 ≤ v ∧ v ≤ 6)) ∨ (C = "java/lang/IndexOutOfBoundsException" ∧ (fo f ∧ -6 ≤ v ∧ v ≤ 6) ∧ ¬ (0 ≤ i ∧ 0 ≤ j ∧ ∀ g : Nat, f = g → i < nn g ∧ j < nn g))) ∧ M9 = M
def qL_put (M : Me) (f i j v : Int) (nn : Nat → Nat) : Option Value → Me → Prop := fun v9 M9 => (v9 = some (.int (ji 1)) ∧ xC_put M f i j v nn "java/lang/IllegalArgumentException" M9) ∨ (v9 = some (.int (ji 2)) ∧ xC_put M f i j v nn "java/lang/IndexOutOfBoundsException" M9) ∨ (v9 = some (.int (ji 0)) ∧ ∃ (u9 : Int) (M8 : Me), b32 u9 ∧ pC_put M f i j v nn (some (.int (ji u9))) M8 ∧ M9 = mu M8 35 0 u9)
abbrev pC_about (M : Me) (f w : Int) (nn : Nat → Nat) : Option Value → Me → Prop := fun v M9 => (fo f ∧ 0 ≤ w ∧ w ≤ 4) ∧ (∃ z : Int, v = some (.int (ji z)) ∧ b32 z ∧ ∀ g : Nat, f = g → ∃ r p, fpv (nn g) (aC M g) r p ∧ z = abv (nn g) r p w) ∧ FrC M M9
abbrev xC_about (M : Me) (f w : Int) (nn : Nat → Nat) : String → Me → Prop := fun C M9 => C = "java/lang/IllegalArgumentException" ∧ ¬ (fo f ∧ 0 ≤ w ∧ w ≤ 4) ∧ M9 = M
def qL_about (M : Me) (f w : Int) (nn : Nat → Nat) : Option Value → Me → Prop := fun v9 M9 => (v9 = some (.int (ji 1)) ∧ xC_about M f w nn "java/lang/IllegalArgumentException" M9) ∨ (v9 = some (.int (ji 0)) ∧ ∃ (u9 : Int) (M8 : Me), b32 u9 ∧ pC_about M f w nn (some (.int (ji u9))) M8 ∧ M9 = mu M8 35 0 u9)
abbrev pC_symbol (M : Me) (a b p9 : Int) : Option Value → Me → Prop := fun v M9 => ¬ (a = 0 ∨ b = 0) ∧ pl0 p9 ∧ v = some (.int (ji (sy a b p9))) ∧ M9 = M
abbrev xC_symbol (M : Me) (a b p9 : Int) : String → Me → Prop := fun C M9 => ((C = "java/lang/ArithmeticException" ∧ (a = 0 ∨ b = 0)) ∨ (C = "java/lang/IllegalArgumentException" ∧ ¬ (a = 0 ∨ b = 0) ∧ ¬ pl0 p9)) ∧ M9 = M
def qL_symbol (M : Me) (a b p9 : Int) : Option Value → Me → Prop := fun v9 M9 => (v9 = some (.int (ji 1)) ∧ xC_symbol M a b p9 "java/lang/ArithmeticException" M9) ∨ (v9 = some (.int (ji 2)) ∧ xC_symbol M a b p9 "java/lang/IllegalArgumentException" M9) ∨ (v9 = some (.int (ji 0)) ∧ ∃ (u9 : Int) (M8 : Me), b32 u9 ∧ pC_symbol M a b p9 (some (.int (ji u9))) M8 ∧ M9 = mu M8 35 0 u9)
abbrev pC_hasse (M : Me) (f p9 : Int) (nn : Nat → Nat) : Option Value → Me → Prop := fun v M9 => (fo f ∧ pl0 p9) ∧ (∃ z : Int, v = some (.int (ji z)) ∧ b32 z ∧ ∀ g : Nat, f = g → ∃ r p, fpv (nn g) (aC M g) r p ∧ z = hs (fun a b => sy a b p9) (tr p) r) ∧ FrC M M9
abbrev xC_hasse (M : Me) (f p9 : Int) (nn : Nat → Nat) : String → Me → Prop := fun C M9 => C = "java/lang/IllegalArgumentException" ∧ ¬ (fo f ∧ pl0 p9) ∧ M9 = M
def qL_hasse (M : Me) (f p9 : Int) (nn : Nat → Nat) : Option Value → Me → Prop := fun v9 M9 => (v9 = some (.int (ji 1)) ∧ xC_hasse M f p9 nn "java/lang/IllegalArgumentException" M9) ∨ (v9 = some (.int (ji 0)) ∧ ∃ (u9 : Int) (M8 : Me), b32 u9 ∧ pC_hasse M f p9 nn (some (.int (ji u9))) M8 ∧ M9 = mu M8 35 0 u9)
abbrev pC_isotropicAt (M : Me) (f p9 : Int) (nn : Nat → Nat) : Option Value → Me → Prop := fun v M9 => (fo f ∧ pl0 p9) ∧ (∃ z : Prop, v = some (.int (ji (bi z))) ∧ ∀ g : Nat, f = g → ∃ r p, fpv (nn g) (aC M g) r p ∧ z = zr (nn g) r (sf (bef p r)) (tr p) (ps p r) (ng p r) p9) ∧ FrC M M9
abbrev xC_isotropicAt (M : Me) (f p9 : Int) (nn : Nat → Nat) : String → Me → Prop := fun C M9 => C = "java/lang/IllegalArgumentException" ∧ ¬ (fo f ∧ pl0 p9) ∧ M9 = M
def qL_isotropicAt (M : Me) (f p9 : Int) (nn : Nat → Nat) : Option Value → Me → Prop := fun v9 M9 => (v9 = some (.int (ji 1)) ∧ xC_isotropicAt M f p9 nn "java/lang/IllegalArgumentException" M9) ∨ (v9 = some (.int (ji 0)) ∧ ∃ (u9 : Prop) (M8 : Me), pC_isotropicAt M f p9 nn (some (.int (ji (bi u9)))) M8 ∧ M9 = mu M8 35 0 (bi u9))
abbrev pC_obstacle (M : Me) (f : Int) (nn : Nat → Nat) : Option Value → Me → Prop := fun v M9 => fo f ∧ (∃ z : Int, v = some (.int (ji z)) ∧ b32 z ∧ ∀ g : Nat, f = g → ∃ r p, fpv (nn g) (aC M g) r p ∧ lpz (Sp p r) (zr (nn g) r (sf (bef p r)) (tr p) (ps p r) (ng p r)) r (sf (bef p r)) z) ∧ FrC M M9
abbrev xC_obstacle (M : Me) (f : Int) (nn : Nat → Nat) : String → Me → Prop := fun C M9 => C = "java/lang/IllegalArgumentException" ∧ ¬ fo f ∧ M9 = M
def qL_obstacle (M : Me) (f : Int) (nn : Nat → Nat) : Option Value → Me → Prop := fun v9 M9 => (v9 = some (.int (ji 1)) ∧ xC_obstacle M f nn "java/lang/IllegalArgumentException" M9) ∨ (v9 = some (.int (ji 0)) ∧ ∃ (u9 : Int) (M8 : Me), b32 u9 ∧ pC_obstacle M f nn (some (.int (ji u9))) M8 ∧ M9 = mu M8 35 0 u9)
abbrev pC_takes (M : Me) (f v : Int) (nn : Nat → Nat) : Option Value → Me → Prop := fun w M9 => (fo f ∧ -1000 ≤ v ∧ v ≤ 1000) ∧ v ≠ 0 ∧ (∃ z : Prop, w = some (.int (ji (bi z))) ∧ ∀ g : Nat, f = g → ∃ r p, fpv (nn g) (aC M g) r p ∧ tkC r p v z) ∧ FrC M M9
abbrev xC_takes (M : Me) (f v : Int) (nn : Nat → Nat) : String → Me → Prop := fun C M9 => ((C = "java/lang/IllegalArgumentException" ∧ ¬ (fo f ∧ -1000 ≤ v ∧ v ≤ 1000)) ∨ (C = "java/lang/ArithmeticException" ∧ (fo f ∧ -1000 ≤ v ∧ v ≤ 1000) ∧ v = 0)) ∧ M9 = M
def qL_takes (M : Me) (f v : Int) (nn : Nat → Nat) : Option Value → Me → Prop := fun v9 M9 => (v9 = some (.int (ji 1)) ∧ xC_takes M f v nn "java/lang/IllegalArgumentException" M9) ∨ (v9 = some (.int (ji 2)) ∧ xC_takes M f v nn "java/lang/ArithmeticException" M9) ∨ (v9 = some (.int (ji 0)) ∧ ∃ (u9 : Prop) (M8 : Me), pC_takes M f v nn (some (.int (ji (bi u9)))) M8 ∧ M9 = mu M8 35 0 (bi u9))
abbrev pC_value (M : Me) (f x y z t : Int) (nn : Nat → Nat) : Option Value → Me → Prop := fun v M9 => ¬ (¬ fo f ∨ ∃ i : Nat, i < nn f.toNat ∧ ¬ (-1000 ≤ x4 x y z t i ∧ x4 x y z t i ≤ 1000)) ∧ (∃ w : Int, v = some (.long (jl w)) ∧ ∀ g : Nat, f = g → w = vf (nn g) (aC M g) (x4 x y z t) (nn g)) ∧ FrC M M9
abbrev xC_value (M : Me) (f x y z t : Int) (nn : Nat → Nat) : String → Me → Prop := fun C M9 => C = "java/lang/IllegalArgumentException" ∧ (¬ fo f ∨ ∃ i : Nat, i < nn f.toNat ∧ ¬ (-1000 ≤ x4 x y z t i ∧ x4 x y z t i ≤ 1000)) ∧ FrC M M9
def qL_value (M : Me) (f x y z t : Int) (nn : Nat → Nat) : Option Value → Me → Prop := fun v9 M9 => (v9 = some (.int (ji 1)) ∧ xC_value M f x y z t nn "java/lang/IllegalArgumentException" M9) ∨ (v9 = some (.int (ji 0)) ∧ ∃ (u9 : Int) (M8 : Me), pC_value M f x y z t nn (some (.long (jl u9))) M8 ∧ M9 = mu M8 35 0 u9)
abbrev pC_sign (M : Me) (f k : Int) (nn : Nat → Nat) : Option Value → Me → Prop := fun v M9 => fo f ∧ (∃ z : Int, v = some (.int (ji z)) ∧ b32 z ∧ z ≠ -1 ∧ ∀ g : Nat, f = g → ∃ r p, fpv (nn g) (aC M g) r p ∧ nth (mnC p r) k z) ∧ FrC M M9
abbrev xC_sign (M : Me) (f k : Int) (nn : Nat → Nat) : String → Me → Prop := fun C M9 => (C = "java/lang/IllegalArgumentException" ∧ ¬ fo f ∧ M9 = M) ∨ (C = "java/lang/IndexOutOfBoundsException" ∧ fo f ∧ (∀ g : Nat, f = g → ∃ r p, fpv (nn g) (aC M g) r p ∧ nth (mnC p r) k (-1)) ∧ FrC M M9)
def qL_sign (M : Me) (f k : Int) (nn : Nat → Nat) : Option Value → Me → Prop := fun v9 M9 => (v9 = some (.int (ji 1)) ∧ xC_sign M f k nn "java/lang/IllegalArgumentException" M9) ∨ (v9 = some (.int (ji 2)) ∧ xC_sign M f k nn "java/lang/IndexOutOfBoundsException" M9) ∨ (v9 = some (.int (ji 0)) ∧ ∃ (u9 : Int) (M8 : Me), b32 u9 ∧ pC_sign M f k nn (some (.int (ji u9))) M8 ∧ M9 = mu M8 35 0 u9)
set_option maxRecDepth 20000 in
theorem wd215 : Cond.classLink "RationalFormsLaw" 13 "java/lang/IllegalArgumentException" ∈ GG := GG_t 215 rfl rfl
set_option maxRecDepth 20000 in
theorem wd216 : Cond.methodLink "RationalFormsLaw" 7 yC_begin ∈ GG := GG_t 216 rfl rfl
set_option maxRecDepth 20000 in
theorem wd217 : Cond.instanceMethod yC_begin ∈ GG := GG_t 217 rfl rfl
set_option maxRecDepth 20000 in
theorem wd218 : Cond.selects "RationalForms" yC_begin yC_begin ∈ GG := GG_t 218 rfl rfl
set_option maxRecDepth 20000 in
theorem wd219 : Cond.code yC_begin cC_begin 3 none ∈ GG := GG_t 219 rfl rfl
set_option maxRecDepth 20000 in
theorem wd300 : Cond.classLink "RationalFormsLaw" 19 "java/lang/IndexOutOfBoundsException" ∈ GG := GG_t 300 rfl rfl
set_option maxRecDepth 20000 in
theorem wd301 : Cond.methodLink "RationalFormsLaw" 15 yC_put ∈ GG := GG_t 301 rfl rfl
set_option maxRecDepth 20000 in
theorem wd302 : Cond.instanceMethod yC_put ∈ GG := GG_t 302 rfl rfl
set_option maxRecDepth 20000 in
theorem wd303 : Cond.selects "RationalForms" yC_put yC_put ∈ GG := GG_t 303 rfl rfl
set_option maxRecDepth 20000 in
theorem wd304 : Cond.code yC_put cC_put 6 (some .int) ∈ GG := GG_t 304 rfl rfl
set_option maxRecDepth 20000 in
theorem wd333 : Cond.methodLink "RationalFormsLaw" 21 yC_about ∈ GG := GG_t 333 rfl rfl
set_option maxRecDepth 20000 in
theorem wd334 : Cond.instanceMethod yC_about ∈ GG := GG_t 334 rfl rfl
set_option maxRecDepth 20000 in
theorem wd335 : Cond.selects "RationalForms" yC_about yC_about ∈ GG := GG_t 335 rfl rfl
set_option maxRecDepth 20000 in
theorem wd336 : Cond.code yC_about cC_about 4 (some .int) ∈ GG := GG_t 336 rfl rfl
set_option maxRecDepth 20000 in
theorem wd341 : Cond.classLink "RationalFormsLaw" 29 "java/lang/ArithmeticException" ∈ GG := GG_t 341 rfl rfl
set_option maxRecDepth 20000 in
theorem wd342 : Cond.methodLink "RationalFormsLaw" 25 yC_symbol ∈ GG := GG_t 342 rfl rfl
set_option maxRecDepth 20000 in
theorem wd343 : Cond.instanceMethod yC_symbol ∈ GG := GG_t 343 rfl rfl
set_option maxRecDepth 20000 in
theorem wd344 : Cond.selects "RationalForms" yC_symbol yC_symbol ∈ GG := GG_t 344 rfl rfl
set_option maxRecDepth 20000 in
theorem wd345 : Cond.code yC_symbol cC_symbol 4 (some .int) ∈ GG := GG_t 345 rfl rfl
set_option maxRecDepth 20000 in
theorem wd374 : Cond.methodLink "RationalFormsLaw" 31 yC_hasse ∈ GG := GG_t 374 rfl rfl
set_option maxRecDepth 20000 in
theorem wd375 : Cond.instanceMethod yC_hasse ∈ GG := GG_t 375 rfl rfl
set_option maxRecDepth 20000 in
theorem wd376 : Cond.selects "RationalForms" yC_hasse yC_hasse ∈ GG := GG_t 376 rfl rfl
set_option maxRecDepth 20000 in
theorem wd377 : Cond.code yC_hasse cC_hasse 3 (some .int) ∈ GG := GG_t 377 rfl rfl
set_option maxRecDepth 20000 in
theorem wd381 : Cond.methodLink "RationalFormsLaw" 34 yC_isotropicAt ∈ GG := GG_t 381 rfl rfl
set_option maxRecDepth 20000 in
theorem wd382 : Cond.instanceMethod yC_isotropicAt ∈ GG := GG_t 382 rfl rfl
set_option maxRecDepth 20000 in
theorem wd383 : Cond.selects "RationalForms" yC_isotropicAt yC_isotropicAt ∈ GG := GG_t 383 rfl rfl
set_option maxRecDepth 20000 in
theorem wd384 : Cond.code yC_isotropicAt cC_isotropicAt 3 (some .boolean) ∈ GG := GG_t 384 rfl rfl
set_option maxRecDepth 20000 in
theorem wd396 : Cond.methodLink "RationalFormsLaw" 38 yC_obstacle ∈ GG := GG_t 396 rfl rfl
set_option maxRecDepth 20000 in
theorem wd397 : Cond.instanceMethod yC_obstacle ∈ GG := GG_t 397 rfl rfl
set_option maxRecDepth 20000 in
theorem wd398 : Cond.selects "RationalForms" yC_obstacle yC_obstacle ∈ GG := GG_t 398 rfl rfl
set_option maxRecDepth 20000 in
theorem wd399 : Cond.code yC_obstacle cC_obstacle 2 (some .int) ∈ GG := GG_t 399 rfl rfl
set_option maxRecDepth 20000 in
theorem wd413 : Cond.methodLink "RationalFormsLaw" 42 yC_takes ∈ GG := GG_t 413 rfl rfl
set_option maxRecDepth 20000 in
theorem wd414 : Cond.instanceMethod yC_takes ∈ GG := GG_t 414 rfl rfl
set_option maxRecDepth 20000 in
theorem wd415 : Cond.selects "RationalForms" yC_takes yC_takes ∈ GG := GG_t 415 rfl rfl
set_option maxRecDepth 20000 in
theorem wd416 : Cond.code yC_takes cC_takes 4 (some .boolean) ∈ GG := GG_t 416 rfl rfl
set_option maxRecDepth 20000 in
theorem wd433 : Cond.methodLink "RationalFormsLaw" 45 yC_value ∈ GG := GG_t 433 rfl rfl
set_option maxRecDepth 20000 in
theorem wd434 : Cond.instanceMethod yC_value ∈ GG := GG_t 434 rfl rfl
set_option maxRecDepth 20000 in
theorem wd435 : Cond.selects "RationalForms" yC_value yC_value ∈ GG := GG_t 435 rfl rfl
set_option maxRecDepth 20000 in
theorem wd436 : Cond.code yC_value cC_value 8 (some .long) ∈ GG := GG_t 436 rfl rfl
set_option maxRecDepth 20000 in
theorem wd444 : Cond.methodLink "RationalFormsLaw" 49 yC_sign ∈ GG := GG_t 444 rfl rfl
set_option maxRecDepth 20000 in
theorem wd445 : Cond.instanceMethod yC_sign ∈ GG := GG_t 445 rfl rfl
set_option maxRecDepth 20000 in
theorem wd446 : Cond.selects "RationalForms" yC_sign yC_sign ∈ GG := GG_t 446 rfl rfl
set_option maxRecDepth 20000 in
theorem wd447 : Cond.code yC_sign cC_sign 4 (some .int) ∈ GG := GG_t 447 rfl rfl
set_option maxRecDepth 100000 in
set_option maxHeartbeats 4000000 in
theorem kL_begin (l : Launch) (hlf : l.flags = pinnedFlags ++ [noTraceFlag]) (E : En) (hJ : wJ E) (M : Me) (f n : Int) (hf : b32 f) (hn : b32 n) : ML l yL_begin wsL_begin (rmt 7) E M [.ref (E.2.1 0), .int (ji f), .int (ji n)] (qL_begin M f n) := by
  refine ML.ofG (by decide +kernel) (Nat.le_of_ble_eq_true rfl) ?_
  intro p_ e_ s_ m_ a_ b_ t_ c_ hx hb hml hr hk hg hown hK hP hS hth hnc hnx ls hl
  have hP0 := hP
  have hl : lv_has ls 4 [(0, .ref (E.2.1 0)), (1, .int (ji f)), (2, .int (ji n))] := hl
  refine lv_aload_n hx hb dL_begin_0 rfl (lv_at hl 0 rfl) ?_
  refine lv_iload_n hx hb dL_begin_1 rfl (lv_at hl 1 rfl) ?_
  refine lv_iload_n hx hb dL_begin_2 rfl (lv_at hl 2 rfl) ?_
  refine mt_V (As := [.int (ji f), .int (ji n)]) (rest := []) hx hb hml hown hg hl hK hth hP0 hP hS (by omega) (sh_C E _) rfl (kC_begin l hlf E hJ M f n hf hn) wd216 wd217 wd218 wd1 wd219 ⟨rfl, rfl⟩ (n := 2) (by decide +kernel) rfl ⟨by decide, by decide⟩ rfl (Nat.le_of_ble_eq_true rfl) dL_begin_3 ⟨by decide, by decide⟩ (fun v M1 H locs hq hP hS => ?_) (fun x9 C9 M1 H locs hq hP hS hex => ?_)
  · obtain rfl : v = none := hq.1
    refine lv_goto hx hb dL_begin_6 rfl ?_
    refine j_iconst hx hb dL_begin_12 ?_
    exact mm_iret hx hb hr hk hP hS dL_begin_13 (Or.inr (⟨rfl, hq⟩))
  · have hq0 := hq
    obtain ⟨rfl, -⟩ := hq
    refine WN.catch hown hg [] ⟨0, 6, 9, 13⟩ [] hnx (fun z hz => by cases hz) (by decide) (by decide) wd215 hex ?_
    refine lv_astore_n hx hb dL_begin_9 rfl hl (by decide) rfl (fun ls hl => ?_)
    have hl : lv_has ls 4 [(3, .ref x9), (0, .ref (E.2.1 0)), (1, .int (ji f)), (2, .int (ji n))] := hl
    refine j_iconst hx hb dL_begin_10 ?_
    exact mm_iret hx hb hr hk hP hS dL_begin_11 (Or.inl ⟨rfl, hq0⟩)

set_option maxRecDepth 100000 in
set_option maxHeartbeats 4000000 in
theorem kL_put (l : Launch) (hlf : l.flags = pinnedFlags ++ [noTraceFlag]) (E : En) (hJ : wJ E) (M : Me) (f i j v : Int) (hf : b32 f) (hi : b32 i) (hj : b32 j) (hv : b32 v) (nn : Nat → Nat) (hI : ∀ g, g < 2 → CI M g (nn g)) : ML l yL_put wsL_put (rmt 7) E M [.ref (E.2.1 0), .int (ji f), .int (ji i), .int (ji j), .int (ji v), .ref (E.2.1 35)] (qL_put M f i j v nn) := by
  refine ML.ofG (by decide +kernel) (Nat.le_of_ble_eq_true rfl) ?_
  intro p_ e_ s_ m_ a_ b_ t_ c_ hx hb hml hr hk hg hown hK hP hS hth hnc hnx ls hl
  have hP0 := hP
  have hl : lv_has ls 7 [(0, .ref (E.2.1 0)), (1, .int (ji f)), (2, .int (ji i)), (3, .int (ji j)), (4, .int (ji v)), (5, .ref (E.2.1 35))] := hl
  refine lv_aload hx hb dL_put_0 (lv_at hl 5 rfl) ?_
  refine j_iconst hx hb dL_put_2 ?_
  refine lv_aload_n hx hb dL_put_3 rfl (lv_at hl 0 rfl) ?_
  refine lv_iload_n hx hb dL_put_4 rfl (lv_at hl 1 rfl) ?_
  refine lv_iload_n hx hb dL_put_5 rfl (lv_at hl 2 rfl) ?_
  refine lv_iload_n hx hb dL_put_6 rfl (lv_at hl 3 rfl) ?_
  refine lv_iload hx hb dL_put_7 (lv_at hl 4 rfl) ?_
  refine mt_V (As := [.int (ji f), .int (ji i), .int (ji j), .int (ji v)]) (rest := [.int (ji 0), .ref (E.2.1 35)]) hx hb hml hown hg hl hK hth hP0 hP hS (by omega) (sh_C E _) rfl (kC_put l hlf E hJ M f i j v hf hi hj hv nn hI) wd301 wd302 wd303 wd1 wd304 ⟨rfl, rfl⟩ (n := 4) (by decide +kernel) rfl ⟨by decide, by decide⟩ rfl (Nat.le_of_ble_eq_true rfl) dL_put_9 ⟨by decide, by decide⟩ (fun v M1 H locs hq hP hS => ?_) (fun x9 C9 M1 H locs hq hP hS hex => ?_)
  · have hq0 := hq
    obtain ⟨q1, q2, q3⟩ := hq
    obtain ⟨g, hg2, hfg⟩ := fo_g q1.1
    obtain ⟨a, hia⟩ : ∃ a : Nat, i = a := ⟨i.toNat, by omega⟩
    obtain ⟨b, hjb⟩ : ∃ b : Nat, j = b := ⟨j.toNat, by omega⟩
    have q4 := q3 g a b hfg hia hjb
    have hn4 := (hI g hg2).2.2.1
    have q5 := q2.2.2 g hfg
    have hz6 := ((hI g hg2).2.2.2 a b (by omega) (by omega) (by omega) (by omega)).2
    obtain ⟨u9, hu0⟩ : ∃ u9, u9 = M (9 + 4 * g + a) b := ⟨_, rfl⟩
    have hu9 : b32 u9 := by simp only [aC] at hz6; rw [hu0]; omega
    rw [← hu0] at q4
    rw [q4.1] at hq0 ⊢
    refine j_i2l hx hb hu9 dL_put_12 ?_
    refine m_last (n := 0) hx hb hK hJ hP hS (by omega) (fun r => sh_35 E r) rfl (by omega) (by decide) dL_put_13 (fun H locs hP hS => ?_)
    refine lv_goto hx hb dL_put_14 rfl ?_
    refine j_iconst hx hb dL_put_25 ?_
    exact mm_iret hx hb hr hk hP hS dL_put_26 (Or.inr (Or.inr (⟨rfl, u9, M1, hu9, hq0, rfl⟩)))
  · have hq0 := hq
    rcases hq.1 with ⟨rfl, -⟩ | ⟨rfl, -⟩
    · refine WN.catch hown hg [] ⟨0, 14, 17, 13⟩ [⟨0, 14, 21, 19⟩] hnx (fun z hz => by cases hz) (by decide) (by decide) wd215 hex ?_
      refine lv_astore hx hb dL_put_17 hl (by decide) rfl (fun ls hl => ?_)
      have hl : lv_has ls 7 [(6, .ref x9), (0, .ref (E.2.1 0)), (1, .int (ji f)), (2, .int (ji i)), (3, .int (ji j)), (4, .int (ji v)), (5, .ref (E.2.1 35))] := hl
      refine j_iconst hx hb dL_put_19 ?_
      exact mm_iret hx hb hr hk hP hS dL_put_20 (Or.inl ⟨rfl, hq0⟩)
    · refine WN.catch hown hg [⟨0, 14, 17, 13⟩] ⟨0, 14, 21, 19⟩ [] hnx (fun z hz => by rcases List.mem_cons.mp hz with rfl | hz; exact ⟨by decide, _, wd215, hnc.1⟩; cases hz) (by decide) (by decide) wd300 hex ?_
      refine lv_astore hx hb dL_put_21 hl (by decide) rfl (fun ls hl => ?_)
      have hl : lv_has ls 7 [(6, .ref x9), (0, .ref (E.2.1 0)), (1, .int (ji f)), (2, .int (ji i)), (3, .int (ji j)), (4, .int (ji v)), (5, .ref (E.2.1 35))] := hl
      refine j_iconst hx hb dL_put_23 ?_
      exact mm_iret hx hb hr hk hP hS dL_put_24 (Or.inr (Or.inl ⟨rfl, hq0⟩))

set_option maxRecDepth 100000 in
set_option maxHeartbeats 4000000 in
theorem kL_about (l : Launch) (hlf : l.flags = pinnedFlags ++ [noTraceFlag]) (E : En) (hJ : wJ E) (M : Me) (f w : Int) (hf : b32 f) (hw : b32 w) (nn : Nat → Nat) (hI : ∀ g, g < 2 → CI M g (nn g)) : ML l yL_about wsL_about (rmt 7) E M [.ref (E.2.1 0), .int (ji f), .int (ji w), .ref (E.2.1 35)] (qL_about M f w nn) := by
  refine ML.ofG (by decide +kernel) (Nat.le_of_ble_eq_true rfl) ?_
  intro p_ e_ s_ m_ a_ b_ t_ c_ hx hb hml hr hk hg hown hK hP hS hth hnc hnx ls hl
  have hP0 := hP
  have hl : lv_has ls 5 [(0, .ref (E.2.1 0)), (1, .int (ji f)), (2, .int (ji w)), (3, .ref (E.2.1 35))] := hl
  refine lv_aload_n hx hb dL_about_0 rfl (lv_at hl 3 rfl) ?_
  refine j_iconst hx hb dL_about_1 ?_
  refine lv_aload_n hx hb dL_about_2 rfl (lv_at hl 0 rfl) ?_
  refine lv_iload_n hx hb dL_about_3 rfl (lv_at hl 1 rfl) ?_
  refine lv_iload_n hx hb dL_about_4 rfl (lv_at hl 2 rfl) ?_
  refine mt_V (As := [.int (ji f), .int (ji w)]) (rest := [.int (ji 0), .ref (E.2.1 35)]) hx hb hml hown hg hl hK hth hP0 hP hS (by omega) (sh_C E _) rfl (kC_about l hlf E hJ M f w hf hw nn hI) wd333 wd334 wd335 wd1 wd336 ⟨rfl, rfl⟩ (n := 2) (by decide +kernel) rfl ⟨by decide, by decide⟩ rfl (Nat.le_of_ble_eq_true rfl) dL_about_5 ⟨by decide, by decide⟩ (fun v M1 H locs hq hP hS => ?_) (fun x9 C9 M1 H locs hq hP hS hex => ?_)
  · have hq0 := hq
    obtain ⟨q1, ⟨u9, rfl, hu9, q2⟩, q3⟩ := hq
    refine j_i2l hx hb hu9 dL_about_8 ?_
    refine m_last (n := 0) hx hb hK hJ hP hS (by omega) (fun r => sh_35 E r) rfl (by omega) (by decide) dL_about_9 (fun H locs hP hS => ?_)
    refine lv_goto hx hb dL_about_10 rfl ?_
    refine j_iconst hx hb dL_about_17 ?_
    exact mm_iret hx hb hr hk hP hS dL_about_18 (Or.inr (⟨rfl, u9, M1, hu9, hq0, rfl⟩))
  · have hq0 := hq
    obtain ⟨rfl, -⟩ := hq
    refine WN.catch hown hg [] ⟨0, 10, 13, 13⟩ [] hnx (fun z hz => by cases hz) (by decide) (by decide) wd215 hex ?_
    refine lv_astore hx hb dL_about_13 hl (by decide) rfl (fun ls hl => ?_)
    have hl : lv_has ls 5 [(4, .ref x9), (0, .ref (E.2.1 0)), (1, .int (ji f)), (2, .int (ji w)), (3, .ref (E.2.1 35))] := hl
    refine j_iconst hx hb dL_about_15 ?_
    exact mm_iret hx hb hr hk hP hS dL_about_16 (Or.inl ⟨rfl, hq0⟩)

set_option maxRecDepth 100000 in
set_option maxHeartbeats 4000000 in
theorem kL_symbol (l : Launch) (hlf : l.flags = pinnedFlags ++ [noTraceFlag]) (E : En) (hJ : wJ E) (M : Me) (a b p9 : Int) (ha : b32 a) (hb9 : b32 b) (hp9 : b32 p9) : ML l yL_symbol wsL_symbol (rmt 7) E M [.ref (E.2.1 0), .int (ji a), .int (ji b), .int (ji p9), .ref (E.2.1 35)] (qL_symbol M a b p9) := by
  refine ML.ofG (by decide +kernel) (Nat.le_of_ble_eq_true rfl) ?_
  intro p_ e_ s_ m_ a_ b_ t_ c_ hx hb hml hr hk hg hown hK hP hS hth hnc hnx ls hl
  have hP0 := hP
  have hl : lv_has ls 6 [(0, .ref (E.2.1 0)), (1, .int (ji a)), (2, .int (ji b)), (3, .int (ji p9)), (4, .ref (E.2.1 35))] := hl
  refine lv_aload hx hb dL_symbol_0 (lv_at hl 4 rfl) ?_
  refine j_iconst hx hb dL_symbol_2 ?_
  refine lv_aload_n hx hb dL_symbol_3 rfl (lv_at hl 0 rfl) ?_
  refine lv_iload_n hx hb dL_symbol_4 rfl (lv_at hl 1 rfl) ?_
  refine lv_iload_n hx hb dL_symbol_5 rfl (lv_at hl 2 rfl) ?_
  refine lv_iload_n hx hb dL_symbol_6 rfl (lv_at hl 3 rfl) ?_
  refine mt_V (As := [.int (ji a), .int (ji b), .int (ji p9)]) (rest := [.int (ji 0), .ref (E.2.1 35)]) hx hb hml hown hg hl hK hth hP0 hP hS (by omega) (sh_C E _) rfl (kC_symbol l hlf E hJ M a b p9 ha hb9 hp9) wd342 wd343 wd344 wd1 wd345 ⟨rfl, rfl⟩ (n := 3) (by decide +kernel) rfl ⟨by decide, by decide⟩ rfl (Nat.le_of_ble_eq_true rfl) dL_symbol_7 ⟨by decide, by decide⟩ (fun v M1 H locs hq hP hS => ?_) (fun x9 C9 M1 H locs hq hP hS hex => ?_)
  · have hq0 := hq
    obtain ⟨u9, hu0⟩ : ∃ u9, u9 = sy a b p9 := ⟨_, rfl⟩
    have hu9 : b32 u9 := by rw [hu0]; exact pm1_b32 (sy_pm _ _ _)
    have q4 := hq.2.2.1
    rw [← hu0] at q4
    rw [q4] at hq0 ⊢
    refine j_i2l hx hb hu9 dL_symbol_10 ?_
    refine m_last (n := 0) hx hb hK hJ hP hS (by omega) (fun r => sh_35 E r) rfl (by omega) (by decide) dL_symbol_11 (fun H locs hP hS => ?_)
    refine lv_goto hx hb dL_symbol_12 rfl ?_
    refine j_iconst hx hb dL_symbol_23 ?_
    exact mm_iret hx hb hr hk hP hS dL_symbol_24 (Or.inr (Or.inr (⟨rfl, u9, M1, hu9, hq0, rfl⟩)))
  · have hq0 := hq
    rcases hq.1 with ⟨rfl, -⟩ | ⟨rfl, -⟩
    · refine WN.catch hown hg [] ⟨0, 12, 15, 29⟩ [⟨0, 12, 19, 13⟩] hnx (fun z hz => by cases hz) (by decide) (by decide) wd341 hex ?_
      refine lv_astore hx hb dL_symbol_15 hl (by decide) rfl (fun ls hl => ?_)
      have hl : lv_has ls 6 [(5, .ref x9), (0, .ref (E.2.1 0)), (1, .int (ji a)), (2, .int (ji b)), (3, .int (ji p9)), (4, .ref (E.2.1 35))] := hl
      refine j_iconst hx hb dL_symbol_17 ?_
      exact mm_iret hx hb hr hk hP hS dL_symbol_18 (Or.inl ⟨rfl, hq0⟩)
    · refine WN.catch hown hg [⟨0, 12, 15, 29⟩] ⟨0, 12, 19, 13⟩ [] hnx (fun z hz => by rcases List.mem_cons.mp hz with rfl | hz; exact ⟨by decide, _, wd341, hnc.2.1⟩; cases hz) (by decide) (by decide) wd215 hex ?_
      refine lv_astore hx hb dL_symbol_19 hl (by decide) rfl (fun ls hl => ?_)
      have hl : lv_has ls 6 [(5, .ref x9), (0, .ref (E.2.1 0)), (1, .int (ji a)), (2, .int (ji b)), (3, .int (ji p9)), (4, .ref (E.2.1 35))] := hl
      refine j_iconst hx hb dL_symbol_21 ?_
      exact mm_iret hx hb hr hk hP hS dL_symbol_22 (Or.inr (Or.inl ⟨rfl, hq0⟩))

set_option maxRecDepth 100000 in
set_option maxHeartbeats 4000000 in
theorem kL_hasse (l : Launch) (hlf : l.flags = pinnedFlags ++ [noTraceFlag]) (E : En) (hJ : wJ E) (M : Me) (f p9 : Int) (hf : b32 f) (hp9 : b32 p9) (nn : Nat → Nat) (hI : ∀ g, g < 2 → CI M g (nn g)) : ML l yL_hasse wsL_hasse (rmt 7) E M [.ref (E.2.1 0), .int (ji f), .int (ji p9), .ref (E.2.1 35)] (qL_hasse M f p9 nn) := by
  refine ML.ofG (by decide +kernel) (Nat.le_of_ble_eq_true rfl) ?_
  intro p_ e_ s_ m_ a_ b_ t_ c_ hx hb hml hr hk hg hown hK hP hS hth hnc hnx ls hl
  have hP0 := hP
  have hl : lv_has ls 5 [(0, .ref (E.2.1 0)), (1, .int (ji f)), (2, .int (ji p9)), (3, .ref (E.2.1 35))] := hl
  refine lv_aload_n hx hb dL_hasse_0 rfl (lv_at hl 3 rfl) ?_
  refine j_iconst hx hb dL_hasse_1 ?_
  refine lv_aload_n hx hb dL_hasse_2 rfl (lv_at hl 0 rfl) ?_
  refine lv_iload_n hx hb dL_hasse_3 rfl (lv_at hl 1 rfl) ?_
  refine lv_iload_n hx hb dL_hasse_4 rfl (lv_at hl 2 rfl) ?_
  refine mt_V (As := [.int (ji f), .int (ji p9)]) (rest := [.int (ji 0), .ref (E.2.1 35)]) hx hb hml hown hg hl hK hth hP0 hP hS (by omega) (sh_C E _) rfl (kC_hasse l hlf E hJ M f p9 hf hp9 nn hI) wd374 wd375 wd376 wd1 wd377 ⟨rfl, rfl⟩ (n := 2) (by decide +kernel) rfl ⟨by decide, by decide⟩ rfl (Nat.le_of_ble_eq_true rfl) dL_hasse_5 ⟨by decide, by decide⟩ (fun v M1 H locs hq hP hS => ?_) (fun x9 C9 M1 H locs hq hP hS hex => ?_)
  · have hq0 := hq
    obtain ⟨q1, ⟨u9, rfl, hu9, q2⟩, q3⟩ := hq
    refine j_i2l hx hb hu9 dL_hasse_8 ?_
    refine m_last (n := 0) hx hb hK hJ hP hS (by omega) (fun r => sh_35 E r) rfl (by omega) (by decide) dL_hasse_9 (fun H locs hP hS => ?_)
    refine lv_goto hx hb dL_hasse_10 rfl ?_
    refine j_iconst hx hb dL_hasse_17 ?_
    exact mm_iret hx hb hr hk hP hS dL_hasse_18 (Or.inr (⟨rfl, u9, M1, hu9, hq0, rfl⟩))
  · have hq0 := hq
    obtain ⟨rfl, -⟩ := hq
    refine WN.catch hown hg [] ⟨0, 10, 13, 13⟩ [] hnx (fun z hz => by cases hz) (by decide) (by decide) wd215 hex ?_
    refine lv_astore hx hb dL_hasse_13 hl (by decide) rfl (fun ls hl => ?_)
    have hl : lv_has ls 5 [(4, .ref x9), (0, .ref (E.2.1 0)), (1, .int (ji f)), (2, .int (ji p9)), (3, .ref (E.2.1 35))] := hl
    refine j_iconst hx hb dL_hasse_15 ?_
    exact mm_iret hx hb hr hk hP hS dL_hasse_16 (Or.inl ⟨rfl, hq0⟩)

set_option maxRecDepth 100000 in
set_option maxHeartbeats 4000000 in
theorem kL_isotropicAt (l : Launch) (hlf : l.flags = pinnedFlags ++ [noTraceFlag]) (E : En) (hJ : wJ E) (M : Me) (f p9 : Int) (hf : b32 f) (hp9 : b32 p9) (nn : Nat → Nat) (hI : ∀ g, g < 2 → CI M g (nn g)) : ML l yL_isotropicAt wsL_isotropicAt (rmt 7) E M [.ref (E.2.1 0), .int (ji f), .int (ji p9), .ref (E.2.1 35)] (qL_isotropicAt M f p9 nn) := by
  refine ML.ofG (by decide +kernel) (Nat.le_of_ble_eq_true rfl) ?_
  intro p_ e_ s_ m_ a_ b_ t_ c_ hx hb hml hr hk hg hown hK hP hS hth hnc hnx ls hl
  have hP0 := hP
  have hl : lv_has ls 5 [(0, .ref (E.2.1 0)), (1, .int (ji f)), (2, .int (ji p9)), (3, .ref (E.2.1 35))] := hl
  refine lv_aload_n hx hb dL_isotropicAt_0 rfl (lv_at hl 3 rfl) ?_
  refine j_iconst hx hb dL_isotropicAt_1 ?_
  refine lv_aload_n hx hb dL_isotropicAt_2 rfl (lv_at hl 0 rfl) ?_
  refine lv_iload_n hx hb dL_isotropicAt_3 rfl (lv_at hl 1 rfl) ?_
  refine lv_iload_n hx hb dL_isotropicAt_4 rfl (lv_at hl 2 rfl) ?_
  refine mt_V (As := [.int (ji f), .int (ji p9)]) (rest := [.int (ji 0), .ref (E.2.1 35)]) hx hb hml hown hg hl hK hth hP0 hP hS (by omega) (sh_C E _) rfl (kC_isotropicAt l hlf E hJ M f p9 hf hp9 nn hI) wd381 wd382 wd383 wd1 wd384 ⟨rfl, rfl⟩ (n := 2) (by decide +kernel) rfl ⟨by decide, by decide⟩ rfl (Nat.le_of_ble_eq_true rfl) dL_isotropicAt_5 ⟨by decide, by decide⟩ (fun v M1 H locs hq hP hS => ?_) (fun x9 C9 M1 H locs hq hP hS hex => ?_)
  · have hq0 := hq
    obtain ⟨q1, ⟨u9, rfl, q2⟩, q3⟩ := hq
    refine j_if_eq hx hb (bi_b32 _) dL_isotropicAt_8 rfl (fun b1 => ?_) (fun b1 => ?_)
    · refine j_lconst0 hx hb dL_isotropicAt_15 ?_
      refine m_last (n := 0) hx hb hK hJ hP hS (by omega) (fun r => sh_35 E r) rfl (by omega) (by decide) dL_isotropicAt_16 (fun H locs hP hS => ?_)
      refine lv_goto hx hb dL_isotropicAt_17 rfl ?_
      refine j_iconst hx hb dL_isotropicAt_24 ?_
      exact mm_iret hx hb hr hk hP hS dL_isotropicAt_25 (Or.inr (⟨rfl, u9, M1, hq0, by rw [b1]⟩))
    · refine j_lconst1 hx hb dL_isotropicAt_11 ?_
      refine lv_goto hx hb dL_isotropicAt_12 rfl ?_
      refine m_last (n := 0) hx hb hK hJ hP hS (by omega) (fun r => sh_35 E r) rfl (by omega) (by decide) dL_isotropicAt_16 (fun H locs hP hS => ?_)
      refine lv_goto hx hb dL_isotropicAt_17 rfl ?_
      refine j_iconst hx hb dL_isotropicAt_24 ?_
      exact mm_iret hx hb hr hk hP hS dL_isotropicAt_25 (Or.inr (⟨rfl, u9, M1, hq0, by rw [bi_t (bi_ne b1)]⟩))
  · have hq0 := hq
    obtain ⟨rfl, -⟩ := hq
    refine WN.catch hown hg [] ⟨0, 17, 20, 13⟩ [] hnx (fun z hz => by cases hz) (by decide) (by decide) wd215 hex ?_
    refine lv_astore hx hb dL_isotropicAt_20 hl (by decide) rfl (fun ls hl => ?_)
    have hl : lv_has ls 5 [(4, .ref x9), (0, .ref (E.2.1 0)), (1, .int (ji f)), (2, .int (ji p9)), (3, .ref (E.2.1 35))] := hl
    refine j_iconst hx hb dL_isotropicAt_22 ?_
    exact mm_iret hx hb hr hk hP hS dL_isotropicAt_23 (Or.inl ⟨rfl, hq0⟩)

set_option maxRecDepth 100000 in
set_option maxHeartbeats 4000000 in
theorem kL_obstacle (l : Launch) (hlf : l.flags = pinnedFlags ++ [noTraceFlag]) (E : En) (hJ : wJ E) (M : Me) (f : Int) (hf : b32 f) (nn : Nat → Nat) (hI : ∀ g, g < 2 → CI M g (nn g)) : ML l yL_obstacle wsL_obstacle (rmt 7) E M [.ref (E.2.1 0), .int (ji f), .ref (E.2.1 35)] (qL_obstacle M f nn) := by
  refine ML.ofG (by decide +kernel) (Nat.le_of_ble_eq_true rfl) ?_
  intro p_ e_ s_ m_ a_ b_ t_ c_ hx hb hml hr hk hg hown hK hP hS hth hnc hnx ls hl
  have hP0 := hP
  have hl : lv_has ls 4 [(0, .ref (E.2.1 0)), (1, .int (ji f)), (2, .ref (E.2.1 35))] := hl
  refine lv_aload_n hx hb dL_obstacle_0 rfl (lv_at hl 2 rfl) ?_
  refine j_iconst hx hb dL_obstacle_1 ?_
  refine lv_aload_n hx hb dL_obstacle_2 rfl (lv_at hl 0 rfl) ?_
  refine lv_iload_n hx hb dL_obstacle_3 rfl (lv_at hl 1 rfl) ?_
  refine mt_V (As := [.int (ji f)]) (rest := [.int (ji 0), .ref (E.2.1 35)]) hx hb hml hown hg hl hK hth hP0 hP hS (by omega) (sh_C E _) rfl (kC_obstacle l hlf E hJ M f hf nn hI) wd396 wd397 wd398 wd1 wd399 ⟨rfl, rfl⟩ (n := 1) (by decide +kernel) rfl ⟨by decide, by decide⟩ rfl (Nat.le_of_ble_eq_true rfl) dL_obstacle_4 ⟨by decide, by decide⟩ (fun v M1 H locs hq hP hS => ?_) (fun x9 C9 M1 H locs hq hP hS hex => ?_)
  · have hq0 := hq
    obtain ⟨q1, ⟨u9, rfl, hu9, q2⟩, q3⟩ := hq
    refine j_i2l hx hb hu9 dL_obstacle_7 ?_
    refine m_last (n := 0) hx hb hK hJ hP hS (by omega) (fun r => sh_35 E r) rfl (by omega) (by decide) dL_obstacle_8 (fun H locs hP hS => ?_)
    refine lv_goto hx hb dL_obstacle_9 rfl ?_
    refine j_iconst hx hb dL_obstacle_15 ?_
    exact mm_iret hx hb hr hk hP hS dL_obstacle_16 (Or.inr (⟨rfl, u9, M1, hu9, hq0, rfl⟩))
  · have hq0 := hq
    obtain ⟨rfl, -⟩ := hq
    refine WN.catch hown hg [] ⟨0, 9, 12, 13⟩ [] hnx (fun z hz => by cases hz) (by decide) (by decide) wd215 hex ?_
    refine lv_astore_n hx hb dL_obstacle_12 rfl hl (by decide) rfl (fun ls hl => ?_)
    have hl : lv_has ls 4 [(3, .ref x9), (0, .ref (E.2.1 0)), (1, .int (ji f)), (2, .ref (E.2.1 35))] := hl
    refine j_iconst hx hb dL_obstacle_13 ?_
    exact mm_iret hx hb hr hk hP hS dL_obstacle_14 (Or.inl ⟨rfl, hq0⟩)

set_option maxRecDepth 100000 in
set_option maxHeartbeats 4000000 in
theorem kL_takes (l : Launch) (hlf : l.flags = pinnedFlags ++ [noTraceFlag]) (E : En) (hJ : wJ E) (M : Me) (f v : Int) (hf : b32 f) (hv : b32 v) (nn : Nat → Nat) (hI : ∀ g, g < 2 → CI M g (nn g)) : ML l yL_takes wsL_takes (rmt 7) E M [.ref (E.2.1 0), .int (ji f), .int (ji v), .ref (E.2.1 35)] (qL_takes M f v nn) := by
  refine ML.ofG (by decide +kernel) (Nat.le_of_ble_eq_true rfl) ?_
  intro p_ e_ s_ m_ a_ b_ t_ c_ hx hb hml hr hk hg hown hK hP hS hth hnc hnx ls hl
  have hP0 := hP
  have hl : lv_has ls 5 [(0, .ref (E.2.1 0)), (1, .int (ji f)), (2, .int (ji v)), (3, .ref (E.2.1 35))] := hl
  refine lv_aload_n hx hb dL_takes_0 rfl (lv_at hl 3 rfl) ?_
  refine j_iconst hx hb dL_takes_1 ?_
  refine lv_aload_n hx hb dL_takes_2 rfl (lv_at hl 0 rfl) ?_
  refine lv_iload_n hx hb dL_takes_3 rfl (lv_at hl 1 rfl) ?_
  refine lv_iload_n hx hb dL_takes_4 rfl (lv_at hl 2 rfl) ?_
  refine mt_V (As := [.int (ji f), .int (ji v)]) (rest := [.int (ji 0), .ref (E.2.1 35)]) hx hb hml hown hg hl hK hth hP0 hP hS (by omega) (sh_C E _) rfl (kC_takes l hlf E hJ M f v hf hv nn hI) wd413 wd414 wd415 wd1 wd416 ⟨rfl, rfl⟩ (n := 2) (by decide +kernel) rfl ⟨by decide, by decide⟩ rfl (Nat.le_of_ble_eq_true rfl) dL_takes_5 ⟨by decide, by decide⟩ (fun v M1 H locs hq hP hS => ?_) (fun x9 C9 M1 H locs hq hP hS hex => ?_)
  · have hq0 := hq
    obtain ⟨q1, q0, ⟨u9, rfl, q2⟩, q3⟩ := hq
    refine j_if_eq hx hb (bi_b32 _) dL_takes_8 rfl (fun b1 => ?_) (fun b1 => ?_)
    · refine j_lconst0 hx hb dL_takes_15 ?_
      refine m_last (n := 0) hx hb hK hJ hP hS (by omega) (fun r => sh_35 E r) rfl (by omega) (by decide) dL_takes_16 (fun H locs hP hS => ?_)
      refine lv_goto hx hb dL_takes_17 rfl ?_
      refine j_iconst hx hb dL_takes_28 ?_
      exact mm_iret hx hb hr hk hP hS dL_takes_29 (Or.inr (Or.inr (⟨rfl, u9, M1, hq0, by rw [b1]⟩)))
    · refine j_lconst1 hx hb dL_takes_11 ?_
      refine lv_goto hx hb dL_takes_12 rfl ?_
      refine m_last (n := 0) hx hb hK hJ hP hS (by omega) (fun r => sh_35 E r) rfl (by omega) (by decide) dL_takes_16 (fun H locs hP hS => ?_)
      refine lv_goto hx hb dL_takes_17 rfl ?_
      refine j_iconst hx hb dL_takes_28 ?_
      exact mm_iret hx hb hr hk hP hS dL_takes_29 (Or.inr (Or.inr (⟨rfl, u9, M1, hq0, by rw [bi_t (bi_ne b1)]⟩)))
  · have hq0 := hq
    rcases hq.1 with ⟨rfl, -⟩ | ⟨rfl, -⟩
    · refine WN.catch hown hg [] ⟨0, 17, 20, 13⟩ [⟨0, 17, 24, 29⟩] hnx (fun z hz => by cases hz) (by decide) (by decide) wd215 hex ?_
      refine lv_astore hx hb dL_takes_20 hl (by decide) rfl (fun ls hl => ?_)
      have hl : lv_has ls 5 [(4, .ref x9), (0, .ref (E.2.1 0)), (1, .int (ji f)), (2, .int (ji v)), (3, .ref (E.2.1 35))] := hl
      refine j_iconst hx hb dL_takes_22 ?_
      exact mm_iret hx hb hr hk hP hS dL_takes_23 (Or.inl ⟨rfl, hq0⟩)
    · refine WN.catch hown hg [⟨0, 17, 20, 13⟩] ⟨0, 17, 24, 29⟩ [] hnx (fun z hz => by rcases List.mem_cons.mp hz with rfl | hz; exact ⟨by decide, _, wd215, hnc.2.2⟩; cases hz) (by decide) (by decide) wd341 hex ?_
      refine lv_astore hx hb dL_takes_24 hl (by decide) rfl (fun ls hl => ?_)
      have hl : lv_has ls 5 [(4, .ref x9), (0, .ref (E.2.1 0)), (1, .int (ji f)), (2, .int (ji v)), (3, .ref (E.2.1 35))] := hl
      refine j_iconst hx hb dL_takes_26 ?_
      exact mm_iret hx hb hr hk hP hS dL_takes_27 (Or.inr (Or.inl ⟨rfl, hq0⟩))

set_option maxRecDepth 100000 in
set_option maxHeartbeats 4000000 in
theorem kL_value (l : Launch) (hlf : l.flags = pinnedFlags ++ [noTraceFlag]) (E : En) (hJ : wJ E) (M : Me) (f x y z t : Int) (hf : b32 f) (hx9 : b32 x) (hy9 : b32 y) (hz9 : b32 z) (ht9 : b32 t) (nn : Nat → Nat) (hI : ∀ g, g < 2 → CI M g (nn g)) : ML l yL_value wsL_value (rmt 7) E M [.ref (E.2.1 0), .int (ji f), .int (ji x), .int (ji y), .int (ji z), .int (ji t), .ref (E.2.1 35)] (qL_value M f x y z t nn) := by
  refine ML.ofG (by decide +kernel) (Nat.le_of_ble_eq_true rfl) ?_
  intro p_ e_ s_ m_ a_ b_ t_ c_ hx hb hml hr hk hg hown hK hP hS hth hnc hnx ls hl
  have hP0 := hP
  have hl : lv_has ls 8 [(0, .ref (E.2.1 0)), (1, .int (ji f)), (2, .int (ji x)), (3, .int (ji y)), (4, .int (ji z)), (5, .int (ji t)), (6, .ref (E.2.1 35))] := hl
  refine lv_aload hx hb dL_value_0 (lv_at hl 6 rfl) ?_
  refine j_iconst hx hb dL_value_2 ?_
  refine lv_aload_n hx hb dL_value_3 rfl (lv_at hl 0 rfl) ?_
  refine lv_iload_n hx hb dL_value_4 rfl (lv_at hl 1 rfl) ?_
  refine lv_iload_n hx hb dL_value_5 rfl (lv_at hl 2 rfl) ?_
  refine lv_iload_n hx hb dL_value_6 rfl (lv_at hl 3 rfl) ?_
  refine lv_iload hx hb dL_value_7 (lv_at hl 4 rfl) ?_
  refine lv_iload hx hb dL_value_9 (lv_at hl 5 rfl) ?_
  refine mt_V (As := [.int (ji f), .int (ji x), .int (ji y), .int (ji z), .int (ji t)]) (rest := [.int (ji 0), .ref (E.2.1 35)]) hx hb hml hown hg hl hK hth hP0 hP hS (by omega) (sh_C E _) rfl (kC_value l hlf E hJ M f x y z t hf hx9 hy9 hz9 ht9 nn hI) wd433 wd434 wd435 wd1 wd436 ⟨rfl, rfl⟩ (n := 5) (by decide +kernel) rfl ⟨by decide, by decide⟩ rfl (Nat.le_of_ble_eq_true rfl) dL_value_11 ⟨by decide, by decide⟩ (fun v M1 H locs hq hP hS => ?_) (fun x9 C9 M1 H locs hq hP hS hex => ?_)
  · have hq0 := hq
    obtain ⟨q1, ⟨u9, rfl, q2⟩, q3⟩ := hq
    refine m_last (n := 0) hx hb hK hJ hP hS (by omega) (fun r => sh_35 E r) rfl (by omega) (by decide) dL_value_14 (fun H locs hP hS => ?_)
    refine lv_goto hx hb dL_value_15 rfl ?_
    refine j_iconst hx hb dL_value_22 ?_
    exact mm_iret hx hb hr hk hP hS dL_value_23 (Or.inr (⟨rfl, u9, M1, hq0, rfl⟩))
  · have hq0 := hq
    obtain ⟨rfl, -⟩ := hq
    refine WN.catch hown hg [] ⟨0, 15, 18, 13⟩ [] hnx (fun z hz => by cases hz) (by decide) (by decide) wd215 hex ?_
    refine lv_astore hx hb dL_value_18 hl (by decide) rfl (fun ls hl => ?_)
    have hl : lv_has ls 8 [(7, .ref x9), (0, .ref (E.2.1 0)), (1, .int (ji f)), (2, .int (ji x)), (3, .int (ji y)), (4, .int (ji z)), (5, .int (ji t)), (6, .ref (E.2.1 35))] := hl
    refine j_iconst hx hb dL_value_20 ?_
    exact mm_iret hx hb hr hk hP hS dL_value_21 (Or.inl ⟨rfl, hq0⟩)

set_option maxRecDepth 100000 in
set_option maxHeartbeats 4000000 in
theorem kL_sign (l : Launch) (hlf : l.flags = pinnedFlags ++ [noTraceFlag]) (E : En) (hJ : wJ E) (M : Me) (f k : Int) (hf : b32 f) (hk9 : b32 k) (nn : Nat → Nat) (hI : ∀ g, g < 2 → CI M g (nn g)) : ML l yL_sign wsL_sign (rmt 7) E M [.ref (E.2.1 0), .int (ji f), .int (ji k), .ref (E.2.1 35)] (qL_sign M f k nn) := by
  refine ML.ofG (by decide +kernel) (Nat.le_of_ble_eq_true rfl) ?_
  intro p_ e_ s_ m_ a_ b_ t_ c_ hx hb hml hr hk hg hown hK hP hS hth hnc hnx ls hl
  have hP0 := hP
  have hl : lv_has ls 5 [(0, .ref (E.2.1 0)), (1, .int (ji f)), (2, .int (ji k)), (3, .ref (E.2.1 35))] := hl
  refine lv_aload_n hx hb dL_sign_0 rfl (lv_at hl 3 rfl) ?_
  refine j_iconst hx hb dL_sign_1 ?_
  refine lv_aload_n hx hb dL_sign_2 rfl (lv_at hl 0 rfl) ?_
  refine lv_iload_n hx hb dL_sign_3 rfl (lv_at hl 1 rfl) ?_
  refine lv_iload_n hx hb dL_sign_4 rfl (lv_at hl 2 rfl) ?_
  refine mt_V (As := [.int (ji f), .int (ji k)]) (rest := [.int (ji 0), .ref (E.2.1 35)]) hx hb hml hown hg hl hK hth hP0 hP hS (by omega) (sh_C E _) rfl (kC_sign l hlf E hJ M f k hf hk9 nn hI) wd444 wd445 wd446 wd1 wd447 ⟨rfl, rfl⟩ (n := 2) (by decide +kernel) rfl ⟨by decide, by decide⟩ rfl (Nat.le_of_ble_eq_true rfl) dL_sign_5 ⟨by decide, by decide⟩ (fun v M1 H locs hq hP hS => ?_) (fun x9 C9 M1 H locs hq hP hS hex => ?_)
  · have hq0 := hq
    obtain ⟨q1, ⟨u9, rfl, hu9, q2⟩, q3⟩ := hq
    refine j_i2l hx hb hu9 dL_sign_8 ?_
    refine m_last (n := 0) hx hb hK hJ hP hS (by omega) (fun r => sh_35 E r) rfl (by omega) (by decide) dL_sign_9 (fun H locs hP hS => ?_)
    refine lv_goto hx hb dL_sign_10 rfl ?_
    refine j_iconst hx hb dL_sign_21 ?_
    exact mm_iret hx hb hr hk hP hS dL_sign_22 (Or.inr (Or.inr (⟨rfl, u9, M1, hu9, hq0, rfl⟩)))
  · have hq0 := hq
    rcases hq with ⟨rfl, -⟩ | ⟨rfl, -⟩
    · refine WN.catch hown hg [] ⟨0, 10, 13, 13⟩ [⟨0, 10, 17, 19⟩] hnx (fun z hz => by cases hz) (by decide) (by decide) wd215 hex ?_
      refine lv_astore hx hb dL_sign_13 hl (by decide) rfl (fun ls hl => ?_)
      have hl : lv_has ls 5 [(4, .ref x9), (0, .ref (E.2.1 0)), (1, .int (ji f)), (2, .int (ji k)), (3, .ref (E.2.1 35))] := hl
      refine j_iconst hx hb dL_sign_15 ?_
      exact mm_iret hx hb hr hk hP hS dL_sign_16 (Or.inl ⟨rfl, hq0⟩)
    · refine WN.catch hown hg [⟨0, 10, 13, 13⟩] ⟨0, 10, 17, 19⟩ [] hnx (fun z hz => by rcases List.mem_cons.mp hz with rfl | hz; exact ⟨by decide, _, wd215, hnc.1⟩; cases hz) (by decide) (by decide) wd300 hex ?_
      refine lv_astore hx hb dL_sign_17 hl (by decide) rfl (fun ls hl => ?_)
      have hl : lv_has ls 5 [(4, .ref x9), (0, .ref (E.2.1 0)), (1, .int (ji f)), (2, .int (ji k)), (3, .ref (E.2.1 35))] := hl
      refine j_iconst hx hb dL_sign_19 ?_
      exact mm_iret hx hb hr hk hP hS dL_sign_20 (Or.inr (Or.inl ⟨rfl, hq0⟩))
