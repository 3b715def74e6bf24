/-! Whole (the class): names, contracts -/
abbrev cW_isPrime : ByteArray := prog_6_method_2_code
abbrev yW_isPrime : MethodName := ⟨"RationalForms$Whole", "isPrime", "(I)Z"⟩
abbrev wsW_isPrime : List Cond := .code yW_isPrime cW_isPrime 3 (some .boolean) :: GG
theorem dW_isPrime_0 : decode cW_isPrime 0 = .ok (.iload_n 0, 1) := by decide +kernel
theorem dW_isPrime_1 : decode cW_isPrime 1 = .ok (.iconst 2, 1) := by decide +kernel
theorem dW_isPrime_2 : decode cW_isPrime 2 = .ok (.if_icmp .ge 5, 3) := by decide +kernel
theorem dW_isPrime_5 : decode cW_isPrime 5 = .ok (.iconst 0, 1) := by decide +kernel
theorem dW_isPrime_6 : decode cW_isPrime 6 = .ok (.ireturn, 1) := by decide +kernel
theorem dW_isPrime_7 : decode cW_isPrime 7 = .ok (.ldc2_w 7, 3) := by decide +kernel
theorem dW_isPrime_10 : decode cW_isPrime 10 = .ok (.lstore_n 1, 1) := by decide +kernel
theorem dW_isPrime_11 : decode cW_isPrime 11 = .ok (.lload_n 1, 1) := by decide +kernel
theorem dW_isPrime_12 : decode cW_isPrime 12 = .ok (.lload_n 1, 1) := by decide +kernel
theorem dW_isPrime_13 : decode cW_isPrime 13 = .ok (.lmul, 1) := by decide +kernel
theorem dW_isPrime_14 : decode cW_isPrime 14 = .ok (.iload_n 0, 1) := by decide +kernel
theorem dW_isPrime_15 : decode cW_isPrime 15 = .ok (.i2l, 1) := by decide +kernel
theorem dW_isPrime_16 : decode cW_isPrime 16 = .ok (.lcmp, 1) := by decide +kernel
theorem dW_isPrime_17 : decode cW_isPrime 17 = .ok (.ifCond .gt 21, 3) := by decide +kernel
theorem dW_isPrime_20 : decode cW_isPrime 20 = .ok (.iload_n 0, 1) := by decide +kernel
theorem dW_isPrime_21 : decode cW_isPrime 21 = .ok (.i2l, 1) := by decide +kernel
theorem dW_isPrime_22 : decode cW_isPrime 22 = .ok (.lload_n 1, 1) := by decide +kernel
theorem dW_isPrime_23 : decode cW_isPrime 23 = .ok (.lrem, 1) := by decide +kernel
theorem dW_isPrime_24 : decode cW_isPrime 24 = .ok (.lconst 0, 1) := by decide +kernel
theorem dW_isPrime_25 : decode cW_isPrime 25 = .ok (.lcmp, 1) := by decide +kernel
theorem dW_isPrime_26 : decode cW_isPrime 26 = .ok (.ifCond .ne 5, 3) := by decide +kernel
theorem dW_isPrime_29 : decode cW_isPrime 29 = .ok (.iconst 0, 1) := by decide +kernel
theorem dW_isPrime_30 : decode cW_isPrime 30 = .ok (.ireturn, 1) := by decide +kernel
theorem dW_isPrime_31 : decode cW_isPrime 31 = .ok (.lload_n 1, 1) := by decide +kernel
theorem dW_isPrime_32 : decode cW_isPrime 32 = .ok (.lconst 1, 1) := by decide +kernel
theorem dW_isPrime_33 : decode cW_isPrime 33 = .ok (.ladd, 1) := by decide +kernel
theorem dW_isPrime_34 : decode cW_isPrime 34 = .ok (.lstore_n 1, 1) := by decide +kernel
theorem dW_isPrime_35 : decode cW_isPrime 35 = .ok (.goto (-24), 3) := by decide +kernel
theorem dW_isPrime_38 : decode cW_isPrime 38 = .ok (.iconst 1, 1) := by decide +kernel
theorem dW_isPrime_39 : decode cW_isPrime 39 = .ok (.ireturn, 1) := by decide +kernel
abbrev cW_withoutFactor : ByteArray := prog_6_method_3_code
abbrev yW_withoutFactor : MethodName := ⟨"RationalForms$Whole", "withoutFactor", "(JJ)J"⟩
abbrev wsW_withoutFactor : List Cond := .code yW_withoutFactor cW_withoutFactor 7 (some .long) :: GG
theorem dW_withoutFactor_0 : decode cW_withoutFactor 0 = .ok (.lload_n 0, 1) := by decide +kernel
theorem dW_withoutFactor_1 : decode cW_withoutFactor 1 = .ok (.lstore 4, 2) := by decide +kernel
theorem dW_withoutFactor_3 : decode cW_withoutFactor 3 = .ok (.iconst 0, 1) := by decide +kernel
theorem dW_withoutFactor_4 : decode cW_withoutFactor 4 = .ok (.istore 6, 2) := by decide +kernel
theorem dW_withoutFactor_6 : decode cW_withoutFactor 6 = .ok (.iload 6, 2) := by decide +kernel
theorem dW_withoutFactor_8 : decode cW_withoutFactor 8 = .ok (.bipush 64, 2) := by decide +kernel
theorem dW_withoutFactor_10 : decode cW_withoutFactor 10 = .ok (.if_icmp .ge 24, 3) := by decide +kernel
theorem dW_withoutFactor_13 : decode cW_withoutFactor 13 = .ok (.lload 4, 2) := by decide +kernel
theorem dW_withoutFactor_15 : decode cW_withoutFactor 15 = .ok (.lload_n 2, 1) := by decide +kernel
theorem dW_withoutFactor_16 : decode cW_withoutFactor 16 = .ok (.lrem, 1) := by decide +kernel
theorem dW_withoutFactor_17 : decode cW_withoutFactor 17 = .ok (.lconst 0, 1) := by decide +kernel
theorem dW_withoutFactor_18 : decode cW_withoutFactor 18 = .ok (.lcmp, 1) := by decide +kernel
theorem dW_withoutFactor_19 : decode cW_withoutFactor 19 = .ok (.ifCond .ne 15, 3) := by decide +kernel
theorem dW_withoutFactor_22 : decode cW_withoutFactor 22 = .ok (.lload 4, 2) := by decide +kernel
theorem dW_withoutFactor_24 : decode cW_withoutFactor 24 = .ok (.lload_n 2, 1) := by decide +kernel
theorem dW_withoutFactor_25 : decode cW_withoutFactor 25 = .ok (.ldiv, 1) := by decide +kernel
theorem dW_withoutFactor_26 : decode cW_withoutFactor 26 = .ok (.lstore 4, 2) := by decide +kernel
theorem dW_withoutFactor_28 : decode cW_withoutFactor 28 = .ok (.iinc 6 1, 3) := by decide +kernel
theorem dW_withoutFactor_31 : decode cW_withoutFactor 31 = .ok (.goto (-25), 3) := by decide +kernel
theorem dW_withoutFactor_34 : decode cW_withoutFactor 34 = .ok (.lload 4, 2) := by decide +kernel
theorem dW_withoutFactor_36 : decode cW_withoutFactor 36 = .ok (.lreturn, 1) := by decide +kernel
abbrev cW_classOf : ByteArray := prog_6_method_4_code
abbrev yW_classOf : MethodName := ⟨"RationalForms$Whole", "classOf", "(J)J"⟩
abbrev wsW_classOf : List Cond := .code yW_classOf cW_classOf 6 (some .long) :: GG
theorem dW_classOf_0 : decode cW_classOf 0 = .ok (.lload_n 0, 1) := by decide +kernel
theorem dW_classOf_1 : decode cW_classOf 1 = .ok (.lstore_n 2, 1) := by decide +kernel
theorem dW_classOf_2 : decode cW_classOf 2 = .ok (.ldc2_w 7, 3) := by decide +kernel
theorem dW_classOf_5 : decode cW_classOf 5 = .ok (.lstore 4, 2) := by decide +kernel
theorem dW_classOf_7 : decode cW_classOf 7 = .ok (.lload 4, 2) := by decide +kernel
theorem dW_classOf_9 : decode cW_classOf 9 = .ok (.lload 4, 2) := by decide +kernel
theorem dW_classOf_11 : decode cW_classOf 11 = .ok (.lmul, 1) := by decide +kernel
theorem dW_classOf_12 : decode cW_classOf 12 = .ok (.lload_n 2, 1) := by decide +kernel
theorem dW_classOf_13 : decode cW_classOf 13 = .ok (.invokestatic 11, 3) := by decide +kernel
theorem dW_classOf_16 : decode cW_classOf 16 = .ok (.lcmp, 1) := by decide +kernel
theorem dW_classOf_17 : decode cW_classOf 17 = .ok (.ifCond .gt 22, 3) := by decide +kernel
theorem dW_classOf_20 : decode cW_classOf 20 = .ok (.lload_n 2, 1) := by decide +kernel
theorem dW_classOf_21 : decode cW_classOf 21 = .ok (.lload 4, 2) := by decide +kernel
theorem dW_classOf_23 : decode cW_classOf 23 = .ok (.lload 4, 2) := by decide +kernel
theorem dW_classOf_25 : decode cW_classOf 25 = .ok (.lmul, 1) := by decide +kernel
theorem dW_classOf_26 : decode cW_classOf 26 = .ok (.invokestatic 17, 3) := by decide +kernel
theorem dW_classOf_29 : decode cW_classOf 29 = .ok (.lstore_n 2, 1) := by decide +kernel
theorem dW_classOf_30 : decode cW_classOf 30 = .ok (.lload 4, 2) := by decide +kernel
theorem dW_classOf_32 : decode cW_classOf 32 = .ok (.lconst 1, 1) := by decide +kernel
theorem dW_classOf_33 : decode cW_classOf 33 = .ok (.ladd, 1) := by decide +kernel
theorem dW_classOf_34 : decode cW_classOf 34 = .ok (.lstore 4, 2) := by decide +kernel
theorem dW_classOf_36 : decode cW_classOf 36 = .ok (.goto (-29), 3) := by decide +kernel
theorem dW_classOf_39 : decode cW_classOf 39 = .ok (.lload_n 2, 1) := by decide +kernel
theorem dW_classOf_40 : decode cW_classOf 40 = .ok (.lreturn, 1) := by decide +kernel
abbrev cW_classOfProduct : ByteArray := prog_6_method_5_code
abbrev yW_classOfProduct : MethodName := ⟨"RationalForms$Whole", "classOfProduct", "(JJ)J"⟩
abbrev wsW_classOfProduct : List Cond := .code yW_classOfProduct cW_classOfProduct 6 (some .long) :: GG
theorem dW_classOfProduct_0 : decode cW_classOfProduct 0 = .ok (.lload_n 0, 1) := by decide +kernel
theorem dW_classOfProduct_1 : decode cW_classOfProduct 1 = .ok (.lload_n 2, 1) := by decide +kernel
theorem dW_classOfProduct_2 : decode cW_classOfProduct 2 = .ok (.invokestatic 21, 3) := by decide +kernel
theorem dW_classOfProduct_5 : decode cW_classOfProduct 5 = .ok (.lstore 4, 2) := by decide +kernel
theorem dW_classOfProduct_7 : decode cW_classOfProduct 7 = .ok (.lload_n 0, 1) := by decide +kernel
theorem dW_classOfProduct_8 : decode cW_classOfProduct 8 = .ok (.lload 4, 2) := by decide +kernel
theorem dW_classOfProduct_10 : decode cW_classOfProduct 10 = .ok (.ldiv, 1) := by decide +kernel
theorem dW_classOfProduct_11 : decode cW_classOfProduct 11 = .ok (.lload_n 2, 1) := by decide +kernel
theorem dW_classOfProduct_12 : decode cW_classOfProduct 12 = .ok (.lload 4, 2) := by decide +kernel
theorem dW_classOfProduct_14 : decode cW_classOfProduct 14 = .ok (.ldiv, 1) := by decide +kernel
theorem dW_classOfProduct_15 : decode cW_classOfProduct 15 = .ok (.lmul, 1) := by decide +kernel
theorem dW_classOfProduct_16 : decode cW_classOfProduct 16 = .ok (.lreturn, 1) := by decide +kernel
abbrev cW_sharedFactor : ByteArray := prog_6_method_6_code
abbrev yW_sharedFactor : MethodName := ⟨"RationalForms$Whole", "sharedFactor", "(JJ)J"⟩
abbrev wsW_sharedFactor : List Cond := .code yW_sharedFactor cW_sharedFactor 11 (some .long) :: GG
theorem dW_sharedFactor_0 : decode cW_sharedFactor 0 = .ok (.lload_n 0, 1) := by decide +kernel
theorem dW_sharedFactor_1 : decode cW_sharedFactor 1 = .ok (.invokestatic 11, 3) := by decide +kernel
theorem dW_sharedFactor_4 : decode cW_sharedFactor 4 = .ok (.lstore 4, 2) := by decide +kernel
theorem dW_sharedFactor_6 : decode cW_sharedFactor 6 = .ok (.lload_n 2, 1) := by decide +kernel
theorem dW_sharedFactor_7 : decode cW_sharedFactor 7 = .ok (.invokestatic 11, 3) := by decide +kernel
theorem dW_sharedFactor_10 : decode cW_sharedFactor 10 = .ok (.lstore 6, 2) := by decide +kernel
theorem dW_sharedFactor_12 : decode cW_sharedFactor 12 = .ok (.iconst 0, 1) := by decide +kernel
theorem dW_sharedFactor_13 : decode cW_sharedFactor 13 = .ok (.istore 8, 2) := by decide +kernel
theorem dW_sharedFactor_15 : decode cW_sharedFactor 15 = .ok (.iload 8, 2) := by decide +kernel
theorem dW_sharedFactor_17 : decode cW_sharedFactor 17 = .ok (.sipush 128, 3) := by decide +kernel
theorem dW_sharedFactor_20 : decode cW_sharedFactor 20 = .ok (.if_icmp .ge 31, 3) := by decide +kernel
theorem dW_sharedFactor_23 : decode cW_sharedFactor 23 = .ok (.lload 6, 2) := by decide +kernel
theorem dW_sharedFactor_25 : decode cW_sharedFactor 25 = .ok (.lconst 0, 1) := by decide +kernel
theorem dW_sharedFactor_26 : decode cW_sharedFactor 26 = .ok (.lcmp, 1) := by decide +kernel
theorem dW_sharedFactor_27 : decode cW_sharedFactor 27 = .ok (.ifCond .eq 24, 3) := by decide +kernel
theorem dW_sharedFactor_30 : decode cW_sharedFactor 30 = .ok (.lload 4, 2) := by decide +kernel
theorem dW_sharedFactor_32 : decode cW_sharedFactor 32 = .ok (.lload 6, 2) := by decide +kernel
theorem dW_sharedFactor_34 : decode cW_sharedFactor 34 = .ok (.lrem, 1) := by decide +kernel
theorem dW_sharedFactor_35 : decode cW_sharedFactor 35 = .ok (.lstore 9, 2) := by decide +kernel
theorem dW_sharedFactor_37 : decode cW_sharedFactor 37 = .ok (.lload 6, 2) := by decide +kernel
theorem dW_sharedFactor_39 : decode cW_sharedFactor 39 = .ok (.lstore 4, 2) := by decide +kernel
theorem dW_sharedFactor_41 : decode cW_sharedFactor 41 = .ok (.lload 9, 2) := by decide +kernel
theorem dW_sharedFactor_43 : decode cW_sharedFactor 43 = .ok (.lstore 6, 2) := by decide +kernel
theorem dW_sharedFactor_45 : decode cW_sharedFactor 45 = .ok (.iinc 8 1, 3) := by decide +kernel
theorem dW_sharedFactor_48 : decode cW_sharedFactor 48 = .ok (.goto (-33), 3) := by decide +kernel
theorem dW_sharedFactor_51 : decode cW_sharedFactor 51 = .ok (.lload 4, 2) := by decide +kernel
theorem dW_sharedFactor_53 : decode cW_sharedFactor 53 = .ok (.lconst 1, 1) := by decide +kernel
theorem dW_sharedFactor_54 : decode cW_sharedFactor 54 = .ok (.invokestatic 24, 3) := by decide +kernel
theorem dW_sharedFactor_57 : decode cW_sharedFactor 57 = .ok (.lreturn, 1) := by decide +kernel
theorem wd11 : Cond.initialized "RationalForms$Whole" ∈ GG := GG_t 11 rfl rfl
theorem wd148 : Cond.constantLong "RationalForms$Whole" 7 (2) ∈ GG := GG_t 148 rfl rfl
theorem wd149 : Cond.methodLink "RationalForms$Whole" 11 Lib.MathLoose.abs_long.x ∈ GG := GG_t 149 rfl rfl
theorem wd152 : Cond.methodLink "RationalForms$Whole" 17 yW_withoutFactor ∈ GG := GG_t 152 rfl rfl
theorem wd153 : Cond.static yW_withoutFactor ∈ GG := GG_t 153 rfl rfl
theorem wd154 : Cond.code yW_withoutFactor cW_withoutFactor 7 (some .long) ∈ GG := GG_t 154 rfl rfl
theorem wd158 : Cond.methodLink "RationalForms$Whole" 21 yW_sharedFactor ∈ GG := GG_t 158 rfl rfl
theorem wd159 : Cond.static yW_sharedFactor ∈ GG := GG_t 159 rfl rfl
theorem wd160 : Cond.code yW_sharedFactor cW_sharedFactor 11 (some .long) ∈ GG := GG_t 160 rfl rfl
theorem wd161 : Cond.methodLink "RationalForms$Whole" 24 Lib.MathLoose.max_long.x ∈ GG := GG_t 161 rfl rfl
set_option maxRecDepth 100000 in
set_option maxHeartbeats 4000000 in
theorem kW_withoutFactor (l : Launch) (a b : Int) (ha : b64 a) (hb0 : 1 < b) (hb1 : b64 b) : PM l yW_withoutFactor wsW_withoutFactor (rmd 0) [.long (jl a), .long (jl b)] (fun r => r = .long (jl (wo 64 a b))) := by
  refine PM.ofG (by decide) (Nat.le_of_ble_eq_true rfl) ?_
  intro p_ e_ s_ m_ a_ b_ t_ c_ hx hb hml hr hk hg hown ls hl
  have hl : lv_has ls 7 [(0, .long (jl a)), (2, .long (jl b))] := hl
  have loop : ∀ (n : Nat) (k r : Int) (ls : Array Slot), k + n = 64 → 0 ≤ k → b64 r → wo n r b = wo 64 a b → lv_has ls 7 [(6, .int (ji k)), (4, .long (jl r)), (0, .long (jl a)), (2, .long (jl b))] → W p_ l e_ (rmd 0) s_ m_ a_ b_ t_ c_ s_.heap [] 0 0 (XQ b_ (pmQ (fun r => r = .long (jl (wo 64 a b)))) a_ s_ 0 0 (fun _ => False)) (F0 m_ 6 ls []) := by
    intro n
    induction n with
    | zero =>
      intro k r ls h0 hk0 hr0 hw hl
      refine lv_iload hx hb dW_withoutFactor_6 (lv_at hl 0 rfl) ?_
      refine j_bipush hx hb dW_withoutFactor_8 rfl ?_
      refine j_icmp_ge hx hb (by omega) (by omega) dW_withoutFactor_10 rfl (fun h1 => ?_) (fun h1 => ?_)
      · refine lv_lload hx hb dW_withoutFactor_34 (lv_at hl 1 rfl) ?_
        exact pm_lret hx hb hr hk dW_withoutFactor_36 (by rw [← hw]; rfl)
      · omega
    | succ n ih =>
      intro k r ls h0 hk0 hr0 hw hl
      refine lv_iload hx hb dW_withoutFactor_6 (lv_at hl 0 rfl) ?_
      refine j_bipush hx hb dW_withoutFactor_8 rfl ?_
      refine j_icmp_ge hx hb (by omega) (by omega) dW_withoutFactor_10 rfl (fun h1 => ?_) (fun h1 => ?_)
      · omega
      · refine lv_lload hx hb dW_withoutFactor_13 (lv_at hl 1 rfl) ?_
        refine lv_lload_n hx hb dW_withoutFactor_15 rfl (lv_at hl 3 rfl) ?_
        refine j_lrem hx hb (by omega) (by omega) (by omega) dW_withoutFactor_16 ?_
        refine j_lconst0 hx hb dW_withoutFactor_17 ?_
        refine j_lc_ne hx hb (tm_b64 hr0) (by omega) dW_withoutFactor_18 dW_withoutFactor_19 rfl (fun h2 => ?_) (fun h2 => ?_)
        · have hn : ¬ b ∣ r := fun q => h2 (tm_0.mpr q)
          refine lv_lload hx hb dW_withoutFactor_34 (lv_at hl 1 rfl) ?_
          exact pm_lret hx hb hr hk dW_withoutFactor_36 (by rw [← hw, wo, if_neg hn])
        · have hn : b ∣ r := tm_0.mp h2
          refine lv_lload hx hb dW_withoutFactor_22 (lv_at hl 1 rfl) ?_
          refine lv_lload_n hx hb dW_withoutFactor_24 rfl (lv_at hl 3 rfl) ?_
          refine j_ldiv hx hb (by omega) (by omega) (by omega) dW_withoutFactor_25 ?_
          refine lv_lstore hx hb dW_withoutFactor_26 hl (by decide) rfl (fun ls hl => ?_)
          have hl : lv_has ls 7 [(4, .long (jl (r.tdiv b))), (6, .int (ji k)), (0, .long (jl a)), (2, .long (jl b))] := hl
          refine lv_iinc (k := 1) (v := ji (k + 1)) hx hb dW_withoutFactor_28 hl rfl (Int32.ofInt_add _ _).symm (by decide) rfl (fun ls hl => ?_)
          have hl : lv_has ls 7 [(6, .int (ji (k + 1))), (4, .long (jl (r.tdiv b))), (0, .long (jl a)), (2, .long (jl b))] := hl
          refine lv_goto hx hb dW_withoutFactor_31 rfl ?_
          have e1 : r.tdiv b = r / b := td_e hn
          rw [e1] at hl
          exact ih (k + 1) (r / b) ls (by omega) (by omega) (div_b64 hr0 hb0) (by rw [← hw, wo, if_pos hn]) hl
  refine lv_lload_n hx hb dW_withoutFactor_0 rfl (lv_at hl 0 rfl) ?_
  refine lv_lstore hx hb dW_withoutFactor_1 hl (by decide) rfl (fun ls hl => ?_)
  have hl : lv_has ls 7 [(4, .long (jl a)), (0, .long (jl a)), (2, .long (jl b))] := hl
  refine j_iconst hx hb dW_withoutFactor_3 ?_
  refine lv_istore hx hb dW_withoutFactor_4 hl (by decide) rfl (fun ls hl => ?_)
  have hl : lv_has ls 7 [(6, .int (ji 0)), (4, .long (jl a)), (0, .long (jl a)), (2, .long (jl b))] := hl
  exact loop 64 0 a ls (by omega) (by omega) ha rfl hl

set_option maxRecDepth 100000 in
set_option maxHeartbeats 4000000 in
theorem kW_isPrime (l : Launch) (n : Int) (hn : b32 n) : PM l yW_isPrime wsW_isPrime (rmd 0) [.int (ji n)] (fun r => r = .int (ji (bi (prm n.toNat)))) := by
  refine PM.ofG (by decide) (Nat.le_of_ble_eq_true rfl) ?_
  intro p_ e_ s_ m_ a_ b_ t_ c_ hx hb hml hr hk hg hown ls hl
  have hl : lv_has ls 3 [(0, .int (ji n))] := hl
  refine lv_iload_n hx hb dW_isPrime_0 rfl (lv_at hl 0 rfl) ?_
  refine j_iconst hx hb dW_isPrime_1 ?_
  refine j_icmp_ge hx hb (by omega) (by omega) dW_isPrime_2 rfl (fun h1 => ?_) (fun h1 => ?_)
  · refine j_ldc2 (z := 2) hx hb hown hg wd148 rfl dW_isPrime_7 ?_
    refine lv_lstore_n hx hb dW_isPrime_10 rfl hl (by decide) rfl (fun ls hl => ?_)
    have hl : lv_has ls 3 [(1, .long (jl 2)), (0, .int (ji n))] := hl
    have loop : ∀ (N : Nat) (d : Int) (ls : Array Slot), n + 1 - d < N → d ≤ n + 1 → d ≤ 46341 → 2 ≤ d → (∀ e : Nat, 1 < e → (e : Int) < d → ¬ e ∣ n.toNat) → lv_has ls 3 [(1, .long (jl d)), (0, .int (ji n))] → W p_ l e_ (rmd 0) s_ m_ a_ b_ t_ c_ s_.heap [] 0 0 (XQ b_ (pmQ (fun r => r = .int (ji (bi (prm n.toNat))))) a_ s_ 0 0 (fun _ => False)) (F0 m_ 11 ls []) := by
      intro N
      induction N with
      | zero => intro d ls hm h2; omega
      | succ N ih =>
        intro d ls hm h2 h6 h3 h4 hl
        refine lv_lload_n hx hb dW_isPrime_11 rfl (lv_at hl 0 rfl) ?_
        refine lv_lload_n hx hb dW_isPrime_12 rfl (lv_at hl 0 rfl) ?_
        refine j_lmul hx hb dW_isPrime_13 ?_
        refine lv_iload_n hx hb dW_isPrime_14 rfl (lv_at hl 1 rfl) ?_
        refine j_i2l hx hb (by omega) dW_isPrime_15 ?_
        refine j_lc_gt hx hb (sq_b64 (by omega) (by omega)) (by omega) dW_isPrime_16 dW_isPrime_17 rfl (fun h5 => ?_) (fun h5 => ?_)
        · have h9 : ((d.toNat * d.toNat : Nat) : Int) = d * d := by rw [Int.natCast_mul, Int.toNat_of_nonneg (by omega)]
          have hp : prm n.toNat := prm_of (d := d.toNat) (by omega) (fun e e1 e2 => h4 e e1 (by omega)) (by omega)
          refine j_iconst hx hb dW_isPrime_38 ?_
          exact pm_zret hx hb hr hk dW_isPrime_39 nar_1 (by rw [bi_t hp])
        · refine lv_iload_n hx hb dW_isPrime_20 rfl (lv_at hl 1 rfl) ?_
          refine j_i2l hx hb (by omega) dW_isPrime_21 ?_
          refine lv_lload_n hx hb dW_isPrime_22 rfl (lv_at hl 0 rfl) ?_
          refine j_lrem hx hb (by omega) (by omega) (by omega) dW_isPrime_23 ?_
          refine j_lconst0 hx hb dW_isPrime_24 ?_
          refine j_lc_ne hx hb (tm_b64 (by omega)) (by omega) dW_isPrime_25 dW_isPrime_26 rfl (fun h7 => ?_) (fun h7 => ?_)
          · have hd : ¬ d.toNat ∣ n.toNat := fun q => h7 (tm_0.mpr ((nd_int (by omega) (by omega)).mp q))
            have h8 := sq_ge h3
            refine lv_lload_n hx hb dW_isPrime_31 rfl (lv_at hl 0 rfl) ?_
            refine j_lconst1 hx hb dW_isPrime_32 ?_
            refine j_ladd hx hb dW_isPrime_33 ?_
            refine lv_lstore_n hx hb dW_isPrime_34 rfl hl (by decide) rfl (fun ls hl => ?_)
            have hl : lv_has ls 3 [(1, .long (jl (d + 1))), (0, .int (ji n))] := hl
            refine lv_goto hx hb dW_isPrime_35 rfl ?_
            refine ih (d + 1) ls (by omega) (by omega) ?_ (by omega) (fun e e1 e2 => ?_) hl
            · rcases Int.lt_or_le d 46341 with h9 | h9
              · omega
              · have : 46341 * 46341 ≤ d * d := Int.mul_le_mul h9 h9 (by omega) (by omega)
                omega
            · rcases Int.lt_or_le (e : Int) d with h9 | h9
              · exact h4 e e1 h9
              · have : e = d.toNat := by omega
                rw [this]; exact hd
          · have hd : d.toNat ∣ n.toNat := (nd_int (by omega) (by omega)).mpr (tm_0.mp h7)
            have h8 := sq_ge h3
            have hp : ¬ prm n.toNat := fun q => q.2 d.toNat (by omega) (by omega) hd
            refine j_iconst hx hb dW_isPrime_29 ?_
            exact pm_zret hx hb hr hk dW_isPrime_30 nar_0 (by rw [bi_f hp])
    exact loop (n + 2).toNat 2 ls (by omega) (by omega) (by omega) (by omega) (fun e e1 e2 => by omega) hl
  · have hp : ¬ prm n.toNat := fun q => by have := q.1; omega
    refine j_iconst hx hb dW_isPrime_5 ?_
    exact pm_zret hx hb hr hk dW_isPrime_6 nar_0 (by rw [bi_f hp])

set_option maxRecDepth 100000 in
set_option maxHeartbeats 4000000 in
theorem kW_classOf (l : Launch) (a : Int) (ha : -4611686018427387904 ≤ a ∧ a ≤ 4611686018427387904) (h0 : a ≠ 0) : PM l yW_classOf wsW_classOf (rmd 1) [.long (jl a)] (fun r => r = .long (jl (sf a))) := by
  refine PM.ofG (by decide) (Nat.le_of_ble_eq_true rfl) ?_
  intro p_ e_ s_ m_ a_ b_ t_ c_ hx hb hml hr hk hg hown ls hl
  have hl : lv_has ls 6 [(0, .long (jl a))] := hl
  have loop : ∀ (N : Nat) (d r : Int) (ls : Array Slot), 2147483650 - d < N → d ≤ 2147483649 → 2 ≤ d → (-4611686018427387904 ≤ r ∧ r ≤ 4611686018427387904) → co a r d → lv_has ls 6 [(4, .long (jl d)), (2, .long (jl r)), (0, .long (jl a))] → W p_ l e_ (rmd 1) s_ m_ a_ b_ t_ c_ s_.heap [] 0 0 (XQ b_ (pmQ (fun r => r = .long (jl (sf a)))) a_ s_ 0 0 (fun _ => False)) (F0 m_ 7 ls []) := by
    intro N
    induction N with
    | zero => intro d r ls hm h2; omega
    | succ N ih =>
      intro d r ls hm h2 h3 hr0 hc hl
      refine lv_lload hx hb dW_classOf_7 (lv_at hl 0 rfl) ?_
      refine lv_lload hx hb dW_classOf_9 (lv_at hl 0 rfl) ?_
      refine j_lmul hx hb dW_classOf_11 ?_
      refine lv_lload_n hx hb dW_classOf_12 rfl (lv_at hl 1 rfl) ?_
      refine j_labs hx hb (hml.trans hl.1.symm) hown hg wd149 wd_abs (by omega) (by decide) (Nat.le_of_ble_eq_true rfl) (Nat.zero_le _) (Nat.zero_le _) dW_classOf_13 ?_
      refine j_lc_gt hx hb (sq_b64 (by omega) (by omega)) (by omega) dW_classOf_16 dW_classOf_17 rfl (fun h5 => ?_) (fun h5 => ?_)
      · refine lv_lload_n hx hb dW_classOf_39 rfl (lv_at hl 1 rfl) ?_
        exact pm_lret hx hb hr hk dW_classOf_40 (by rw [sf_eq (co_end hc h3 h5)])
      · have h8 := sq_ge h3
        have h9 := sq_b64 (d := d) (by omega) (by omega)
        refine lv_lload_n hx hb dW_classOf_20 rfl (lv_at hl 1 rfl) ?_
        refine lv_lload hx hb dW_classOf_21 (lv_at hl 0 rfl) ?_
        refine lv_lload hx hb dW_classOf_23 (lv_at hl 0 rfl) ?_
        refine j_lmul hx hb dW_classOf_25 ?_
        refine pm_G (As := [.long (jl r), .long (jl (d * d))]) (rest := []) hx hb hml hown hg hl (kW_withoutFactor l r (d * d) (by omega) (by omega) h9) wd152 wd153 wd11 wd154 ⟨rfl, rfl⟩ (n := 2) (by decide +kernel) rfl ⟨by decide, by decide⟩ rfl (Nat.le_of_ble_eq_true rfl) dW_classOf_26 ⟨Nat.zero_le _, Nat.zero_le _⟩ (fun r hr9 => ?_)
        subst hr9
        refine lv_lstore_n hx hb dW_classOf_29 rfl hl (by decide) rfl (fun ls hl => ?_)
        have hl : lv_has ls 6 [(2, .long (jl (wo 64 r (d * d)))), (4, .long (jl d)), (0, .long (jl a))] := hl
        refine lv_lload hx hb dW_classOf_30 (lv_at hl 1 rfl) ?_
        refine j_lconst1 hx hb dW_classOf_32 ?_
        refine j_ladd hx hb dW_classOf_33 ?_
        refine lv_lstore hx hb dW_classOf_34 hl (by decide) rfl (fun ls hl => ?_)
        have hl : lv_has ls 6 [(4, .long (jl (d + 1))), (2, .long (jl (wo 64 r (d * d)))), (0, .long (jl a))] := hl
        refine lv_goto hx hb dW_classOf_36 rfl ?_
        have hc2 := co_step hc h3 (by omega)
        have hd2 := wo_dvd 64 r (d * d)
        have hle := Nat.le_of_dvd (by have := hc.1; omega) (Int.natAbs_dvd_natAbs.mpr hd2)
        refine ih (d + 1) (wo 64 r (d * d)) ls (by omega) ?_ (by omega) (by omega) hc2 hl
        rcases Int.lt_or_le d 2147483649 with h10 | h10
        · omega
        · have : 2147483649 * 2147483649 ≤ d * d := Int.mul_le_mul h10 h10 (by omega) (by omega)
          omega
  refine lv_lload_n hx hb dW_classOf_0 rfl (lv_at hl 0 rfl) ?_
  refine lv_lstore_n hx hb dW_classOf_1 rfl hl (by decide) rfl (fun ls hl => ?_)
  have hl : lv_has ls 6 [(2, .long (jl a)), (0, .long (jl a))] := hl
  refine j_ldc2 (z := 2) hx hb hown hg wd148 rfl dW_classOf_2 ?_
  refine lv_lstore hx hb dW_classOf_5 hl (by decide) rfl (fun ls hl => ?_)
  have hl : lv_has ls 6 [(4, .long (jl 2)), (2, .long (jl a)), (0, .long (jl a))] := hl
  exact loop 2147483649 2 a ls (by omega) (by omega) (by omega) ha (co_0 h0) hl

set_option maxRecDepth 100000 in
set_option maxHeartbeats 4000000 in
theorem kW_sharedFactor (l : Launch) (a b : Int) (ha : -9223372036854775807 ≤ a ∧ a ≤ 9223372036854775807) (hb9 : -9223372036854775807 ≤ b ∧ b ≤ 9223372036854775807) (h0 : a ≠ 0) : PM l yW_sharedFactor wsW_sharedFactor (rmd 1) [.long (jl a), .long (jl b)] (fun r => r = .long (jl (Int.gcd a b : Int))) := by
  refine PM.ofG (by decide) (Nat.le_of_ble_eq_true rfl) ?_
  intro p_ e_ s_ m_ a_ b_ t_ c_ hx hb hml hr hk hg hown ls hl
  have hl : lv_has ls 11 [(0, .long (jl a)), (2, .long (jl b))] := hl
  have hgp : 0 < Int.gcd a b := Nat.gcd_pos_of_pos_left _ (by omega)
  have hgle : Int.gcd a b ≤ a.natAbs := Nat.gcd_le_left _ (by omega)
  have loop : ∀ (n : Nat) (k : Int) (x y : Nat) (ls : Array Slot), k + n = 128 → 0 ≤ k → x < 9223372036854775808 → y < 9223372036854775808 → eu n x y = Int.gcd a b → lv_has ls 11 [(8, .int (ji k)), (6, .long (jl ((y:Int)))), (4, .long (jl ((x:Int)))), (0, .long (jl a)), (2, .long (jl b))] → W p_ l e_ (rmd 1) s_ m_ a_ b_ t_ c_ s_.heap [] 0 0 (XQ b_ (pmQ (fun r => r = .long (jl (Int.gcd a b : Int)))) a_ s_ 0 0 (fun _ => False)) (F0 m_ 15 ls []) := by
    intro n
    induction n with
    | zero =>
      intro k x y ls h1 hk0 hx0 hy0 hw hl
      refine lv_iload hx hb dW_sharedFactor_15 (lv_at hl 0 rfl) ?_
      refine j_sipush hx hb dW_sharedFactor_17 rfl ?_
      refine j_icmp_ge hx hb (by omega) (by decide) dW_sharedFactor_20 rfl (fun h2 => ?_) (fun h2 => ?_)
      · have hw : x = Int.gcd a b := hw
        refine lv_lload hx hb dW_sharedFactor_51 (lv_at hl 2 rfl) ?_
        refine j_lconst1 hx hb dW_sharedFactor_53 ?_
        refine j_lmax hx hb (hml.trans hl.1.symm) hown hg wd161 wd_max (by omega) (by decide) (by decide) (Nat.le_of_ble_eq_true rfl) (Nat.zero_le _) (Nat.zero_le _) dW_sharedFactor_54 ?_
        exact pm_lret hx hb hr hk dW_sharedFactor_57 (by rw [show max (x : Int) 1 = (Int.gcd a b : Int) by omega])
      · omega
    | succ n ih =>
      intro k x y ls h1 hk0 hx0 hy0 hw hl
      refine lv_iload hx hb dW_sharedFactor_15 (lv_at hl 0 rfl) ?_
      refine j_sipush hx hb dW_sharedFactor_17 rfl ?_
      refine j_icmp_ge hx hb (by omega) (by decide) dW_sharedFactor_20 rfl (fun h2 => ?_) (fun h2 => ?_)
      · omega
      · refine lv_lload hx hb dW_sharedFactor_23 (lv_at hl 1 rfl) ?_
        refine j_lconst0 hx hb dW_sharedFactor_25 ?_
        refine j_lc_eq hx hb (by omega) (by decide) dW_sharedFactor_26 dW_sharedFactor_27 rfl (fun h3 => ?_) (fun h3 => ?_)
        · have hw : (if y = 0 then x else eu n y (x % y)) = Int.gcd a b := hw
          rw [if_pos (by omega)] at hw
          refine lv_lload hx hb dW_sharedFactor_51 (lv_at hl 2 rfl) ?_
          refine j_lconst1 hx hb dW_sharedFactor_53 ?_
          refine j_lmax hx hb (hml.trans hl.1.symm) hown hg wd161 wd_max (by omega) (by decide) (by decide) (Nat.le_of_ble_eq_true rfl) (Nat.zero_le _) (Nat.zero_le _) dW_sharedFactor_54 ?_
          exact pm_lret hx hb hr hk dW_sharedFactor_57 (by rw [show max (x : Int) 1 = (Int.gcd a b : Int) by omega])
        · have hw : (if y = 0 then x else eu n y (x % y)) = Int.gcd a b := hw
          rw [if_neg (by omega)] at hw
          refine lv_lload hx hb dW_sharedFactor_30 (lv_at hl 2 rfl) ?_
          refine lv_lload hx hb dW_sharedFactor_32 (lv_at hl 1 rfl) ?_
          refine j_lrem hx hb (by omega) (by omega) (by omega) dW_sharedFactor_34 ?_
          refine lv_lstore hx hb dW_sharedFactor_35 hl (by decide) rfl (fun ls hl => ?_)
          have hl : lv_has ls 11 [(9, .long (jl (((x:Int)).tmod ((y:Int))))), (8, .int (ji k)), (6, .long (jl ((y:Int)))), (4, .long (jl ((x:Int)))), (0, .long (jl a)), (2, .long (jl b))] := hl
          refine lv_lload hx hb dW_sharedFactor_37 (lv_at hl 2 rfl) ?_
          refine lv_lstore hx hb dW_sharedFactor_39 hl (by decide) rfl (fun ls hl => ?_)
          have hl : lv_has ls 11 [(4, .long (jl ((y:Int)))), (9, .long (jl (((x:Int)).tmod ((y:Int))))), (8, .int (ji k)), (6, .long (jl ((y:Int)))), (0, .long (jl a)), (2, .long (jl b))] := hl
          refine lv_lload hx hb dW_sharedFactor_41 (lv_at hl 1 rfl) ?_
          refine lv_lstore hx hb dW_sharedFactor_43 hl (by decide) rfl (fun ls hl => ?_)
          have hl : lv_has ls 11 [(6, .long (jl (((x:Int)).tmod ((y:Int))))), (4, .long (jl ((y:Int)))), (9, .long (jl (((x:Int)).tmod ((y:Int))))), (8, .int (ji k)), (0, .long (jl a)), (2, .long (jl b))] := hl
          refine lv_iinc (k := 3) (v := ji (k + 1)) hx hb dW_sharedFactor_45 hl rfl (Int32.ofInt_add _ _).symm (by decide) rfl (fun ls hl => ?_)
          have hl : lv_has ls 11 [(8, .int (ji (k + 1))), (6, .long (jl (((x:Int)).tmod ((y:Int))))), (4, .long (jl ((y:Int)))), (9, .long (jl (((x:Int)).tmod ((y:Int))))), (0, .long (jl a)), (2, .long (jl b))] := hl
          refine lv_goto hx hb dW_sharedFactor_48 rfl ?_
          have e1 : (x : Int).tmod (y : Int) = ((x % y : Nat) : Int) := by rw [Int.tmod_eq_emod_of_nonneg (by omega), Int.natCast_emod]
          rw [e1] at hl
          have hlt := Nat.mod_lt x (show 0 < y by omega)
          exact ih (k + 1) y (x % y) ls (by omega) (by omega) hy0 (by omega) hw (lv_sub hl [0, 1, 2, 4, 5] rfl)
  refine lv_lload_n hx hb dW_sharedFactor_0 rfl (lv_at hl 0 rfl) ?_
  refine j_labs hx hb (hml.trans hl.1.symm) hown hg wd149 wd_abs (by omega) (by decide) (Nat.le_of_ble_eq_true rfl) (Nat.zero_le _) (Nat.zero_le _) dW_sharedFactor_1 ?_
  refine lv_lstore hx hb dW_sharedFactor_4 hl (by decide) rfl (fun ls hl => ?_)
  have hl : lv_has ls 11 [(4, .long (jl ((a.natAbs : Int)))), (0, .long (jl a)), (2, .long (jl b))] := hl
  refine lv_lload_n hx hb dW_sharedFactor_6 rfl (lv_at hl 2 rfl) ?_
  refine j_labs hx hb (hml.trans hl.1.symm) hown hg wd149 wd_abs (by omega) (by decide) (Nat.le_of_ble_eq_true rfl) (Nat.zero_le _) (Nat.zero_le _) dW_sharedFactor_7 ?_
  refine lv_lstore hx hb dW_sharedFactor_10 hl (by decide) rfl (fun ls hl => ?_)
  have hl : lv_has ls 11 [(6, .long (jl ((b.natAbs : Int)))), (4, .long (jl ((a.natAbs : Int)))), (0, .long (jl a)), (2, .long (jl b))] := hl
  refine j_iconst hx hb dW_sharedFactor_12 ?_
  refine lv_istore hx hb dW_sharedFactor_13 hl (by decide) rfl (fun ls hl => ?_)
  have hl : lv_has ls 11 [(8, .int (ji 0)), (6, .long (jl ((b.natAbs : Int)))), (4, .long (jl ((a.natAbs : Int)))), (0, .long (jl a)), (2, .long (jl b))] := hl
  exact loop 128 0 a.natAbs b.natAbs ls (by omega) (by omega) (by omega) (by omega) (eu_gcd 63 128 _ _ (Or.inr (by omega)) (by omega) (by omega)) hl

set_option maxRecDepth 100000 in
set_option maxHeartbeats 4000000 in
theorem kW_classOfProduct (l : Launch) (a b : Int) (ha : -9223372036854775807 ≤ a ∧ a ≤ 9223372036854775807) (hb9 : -9223372036854775807 ≤ b ∧ b ≤ 9223372036854775807) (h0 : a ≠ 0) : PM l yW_classOfProduct wsW_classOfProduct (rmd 2) [.long (jl a), .long (jl b)] (fun r => r = .long (jl (pr a b))) := by
  refine PM.ofG (by decide) (Nat.le_of_ble_eq_true rfl) ?_
  intro p_ e_ s_ m_ a_ b_ t_ c_ hx hb hml hr hk hg hown ls hl
  have hl : lv_has ls 6 [(0, .long (jl a)), (2, .long (jl b))] := hl
  have hgp : 0 < Int.gcd a b := Nat.gcd_pos_of_pos_left _ (by omega)
  have hgle : Int.gcd a b ≤ a.natAbs := Nat.gcd_le_left _ (by omega)
  have d1 : (Int.gcd a b : Int) ∣ a := Int.gcd_dvd_left ..
  have d2 : (Int.gcd a b : Int) ∣ b := Int.gcd_dvd_right ..
  refine lv_lload_n hx hb dW_classOfProduct_0 rfl (lv_at hl 0 rfl) ?_
  refine lv_lload_n hx hb dW_classOfProduct_1 rfl (lv_at hl 1 rfl) ?_
  refine pm_G (As := [.long (jl a), .long (jl b)]) (rest := []) hx hb hml hown hg hl (kW_sharedFactor l a b ha hb9 h0) wd158 wd159 wd11 wd160 ⟨rfl, rfl⟩ (n := 2) (by decide +kernel) rfl ⟨by decide, by decide⟩ rfl (Nat.le_of_ble_eq_true rfl) dW_classOfProduct_2 ⟨Nat.zero_le _, Nat.zero_le _⟩ (fun r hr9 => ?_)
  subst hr9
  refine lv_lstore hx hb dW_classOfProduct_5 hl (by decide) rfl (fun ls hl => ?_)
  have hl : lv_has ls 6 [(4, .long (jl ((Int.gcd a b:Int)))), (0, .long (jl a)), (2, .long (jl b))] := hl
  refine lv_lload_n hx hb dW_classOfProduct_7 rfl (lv_at hl 1 rfl) ?_
  refine lv_lload hx hb dW_classOfProduct_8 (lv_at hl 0 rfl) ?_
  refine j_ldiv hx hb (by omega) (by omega) (by omega) dW_classOfProduct_10 ?_
  refine lv_lload_n hx hb dW_classOfProduct_11 rfl (lv_at hl 2 rfl) ?_
  refine lv_lload hx hb dW_classOfProduct_12 (lv_at hl 0 rfl) ?_
  refine j_ldiv hx hb (by omega) (by omega) (by omega) dW_classOfProduct_14 ?_
  refine j_lmul hx hb dW_classOfProduct_15 ?_
  exact pm_lret hx hb hr hk dW_classOfProduct_16 (by rw [td_e d1, td_e d2]; rfl)
