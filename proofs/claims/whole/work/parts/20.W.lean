/-! names: Whole, Math -/
abbrev cW_isPrime : ByteArray := prog_6_method_2_code
abbrev yW_isPrime : MethodName := ⟨"RationalForms$Whole", "isPrime", "(I)Z"⟩
abbrev wsW_isPrime : List Cond := .code yW_isPrime cW_isPrime 3 (some .boolean) :: GG
theorem dW_isPrime_0 : decode cW_isPrime 0 = .ok (.iload_n 0, 1) := by decide +kernel
theorem dW_isPrime_1 : decode cW_isPrime 1 = .ok (.iconst 2, 1) := by decide +kernel
theorem dW_isPrime_2 : decode cW_isPrime 2 = .ok (.if_icmp .ge 5, 3) := by decide +kernel
theorem dW_isPrime_5 : decode cW_isPrime 5 = .ok (.iconst 0, 1) := by decide +kernel
theorem dW_isPrime_6 : decode cW_isPrime 6 = .ok (.ireturn, 1) := by decide +kernel
theorem dW_isPrime_7 : decode cW_isPrime 7 = .ok (.ldc2_w 7, 3) := by decide +kernel
theorem dW_isPrime_10 : decode cW_isPrime 10 = .ok (.lstore_n 1, 1) := by decide +kernel
theorem dW_isPrime_11 : decode cW_isPrime 11 = .ok (.lload_n 1, 1) := by decide +kernel
theorem dW_isPrime_12 : decode cW_isPrime 12 = .ok (.lload_n 1, 1) := by decide +kernel
theorem dW_isPrime_13 : decode cW_isPrime 13 = .ok (.lmul, 1) := by decide +kernel
theorem dW_isPrime_14 : decode cW_isPrime 14 = .ok (.iload_n 0, 1) := by decide +kernel
theorem dW_isPrime_15 : decode cW_isPrime 15 = .ok (.i2l, 1) := by decide +kernel
theorem dW_isPrime_16 : decode cW_isPrime 16 = .ok (.lcmp, 1) := by decide +kernel
theorem dW_isPrime_17 : decode cW_isPrime 17 = .ok (.ifCond .gt 21, 3) := by decide +kernel
theorem dW_isPrime_20 : decode cW_isPrime 20 = .ok (.iload_n 0, 1) := by decide +kernel
theorem dW_isPrime_21 : decode cW_isPrime 21 = .ok (.i2l, 1) := by decide +kernel
theorem dW_isPrime_22 : decode cW_isPrime 22 = .ok (.lload_n 1, 1) := by decide +kernel
theorem dW_isPrime_23 : decode cW_isPrime 23 = .ok (.lrem, 1) := by decide +kernel
theorem dW_isPrime_24 : decode cW_isPrime 24 = .ok (.lconst 0, 1) := by decide +kernel
theorem dW_isPrime_25 : decode cW_isPrime 25 = .ok (.lcmp, 1) := by decide +kernel
theorem dW_isPrime_26 : decode cW_isPrime 26 = .ok (.ifCond .ne 5, 3) := by decide +kernel
theorem dW_isPrime_29 : decode cW_isPrime 29 = .ok (.iconst 0, 1) := by decide +kernel
theorem dW_isPrime_30 : decode cW_isPrime 30 = .ok (.ireturn, 1) := by decide +kernel
theorem dW_isPrime_31 : decode cW_isPrime 31 = .ok (.lload_n 1, 1) := by decide +kernel
theorem dW_isPrime_32 : decode cW_isPrime 32 = .ok (.lconst 1, 1) := by decide +kernel
theorem dW_isPrime_33 : decode cW_isPrime 33 = .ok (.ladd, 1) := by decide +kernel
theorem dW_isPrime_34 : decode cW_isPrime 34 = .ok (.lstore_n 1, 1) := by decide +kernel
theorem dW_isPrime_35 : decode cW_isPrime 35 = .ok (.goto (-24), 3) := by decide +kernel
theorem dW_isPrime_38 : decode cW_isPrime 38 = .ok (.iconst 1, 1) := by decide +kernel
theorem dW_isPrime_39 : decode cW_isPrime 39 = .ok (.ireturn, 1) := by decide +kernel
abbrev cW_withoutFactor : ByteArray := prog_6_method_3_code
abbrev yW_withoutFactor : MethodName := ⟨"RationalForms$Whole", "withoutFactor", "(JJ)J"⟩
abbrev wsW_withoutFactor : List Cond := .code yW_withoutFactor cW_withoutFactor 7 (some .long) :: GG
theorem dW_withoutFactor_0 : decode cW_withoutFactor 0 = .ok (.lload_n 0, 1) := by decide +kernel
theorem dW_withoutFactor_1 : decode cW_withoutFactor 1 = .ok (.lstore 4, 2) := by decide +kernel
theorem dW_withoutFactor_3 : decode cW_withoutFactor 3 = .ok (.iconst 0, 1) := by decide +kernel
theorem dW_withoutFactor_4 : decode cW_withoutFactor 4 = .ok (.istore 6, 2) := by decide +kernel
theorem dW_withoutFactor_6 : decode cW_withoutFactor 6 = .ok (.iload 6, 2) := by decide +kernel
theorem dW_withoutFactor_8 : decode cW_withoutFactor 8 = .ok (.bipush 64, 2) := by decide +kernel
theorem dW_withoutFactor_10 : decode cW_withoutFactor 10 = .ok (.if_icmp .ge 24, 3) := by decide +kernel
theorem dW_withoutFactor_13 : decode cW_withoutFactor 13 = .ok (.lload 4, 2) := by decide +kernel
theorem dW_withoutFactor_15 : decode cW_withoutFactor 15 = .ok (.lload_n 2, 1) := by decide +kernel
theorem dW_withoutFactor_16 : decode cW_withoutFactor 16 = .ok (.lrem, 1) := by decide +kernel
theorem dW_withoutFactor_17 : decode cW_withoutFactor 17 = .ok (.lconst 0, 1) := by decide +kernel
theorem dW_withoutFactor_18 : decode cW_withoutFactor 18 = .ok (.lcmp, 1) := by decide +kernel
theorem dW_withoutFactor_19 : decode cW_withoutFactor 19 = .ok (.ifCond .ne 15, 3) := by decide +kernel
theorem dW_withoutFactor_22 : decode cW_withoutFactor 22 = .ok (.lload 4, 2) := by decide +kernel
theorem dW_withoutFactor_24 : decode cW_withoutFactor 24 = .ok (.lload_n 2, 1) := by decide +kernel
theorem dW_withoutFactor_25 : decode cW_withoutFactor 25 = .ok (.ldiv, 1) := by decide +kernel
theorem dW_withoutFactor_26 : decode cW_withoutFactor 26 = .ok (.lstore 4, 2) := by decide +kernel
theorem dW_withoutFactor_28 : decode cW_withoutFactor 28 = .ok (.iinc 6 1, 3) := by decide +kernel
theorem dW_withoutFactor_31 : decode cW_withoutFactor 31 = .ok (.goto (-25), 3) := by decide +kernel
theorem dW_withoutFactor_34 : decode cW_withoutFactor 34 = .ok (.lload 4, 2) := by decide +kernel
theorem dW_withoutFactor_36 : decode cW_withoutFactor 36 = .ok (.lreturn, 1) := by decide +kernel
abbrev cW_classOf : ByteArray := prog_6_method_4_code
abbrev yW_classOf : MethodName := ⟨"RationalForms$Whole", "classOf", "(J)J"⟩
abbrev wsW_classOf : List Cond := .code yW_classOf cW_classOf 6 (some .long) :: GG
theorem dW_classOf_0 : decode cW_classOf 0 = .ok (.lload_n 0, 1) := by decide +kernel
theorem dW_classOf_1 : decode cW_classOf 1 = .ok (.lstore_n 2, 1) := by decide +kernel
theorem dW_classOf_2 : decode cW_classOf 2 = .ok (.ldc2_w 7, 3) := by decide +kernel
theorem dW_classOf_5 : decode cW_classOf 5 = .ok (.lstore 4, 2) := by decide +kernel
theorem dW_classOf_7 : decode cW_classOf 7 = .ok (.lload 4, 2) := by decide +kernel
theorem dW_classOf_9 : decode cW_classOf 9 = .ok (.lload 4, 2) := by decide +kernel
theorem dW_classOf_11 : decode cW_classOf 11 = .ok (.lmul, 1) := by decide +kernel
theorem dW_classOf_12 : decode cW_classOf 12 = .ok (.lload_n 2, 1) := by decide +kernel
theorem dW_classOf_13 : decode cW_classOf 13 = .ok (.invokestatic 11, 3) := by decide +kernel
theorem dW_classOf_16 : decode cW_classOf 16 = .ok (.lcmp, 1) := by decide +kernel
theorem dW_classOf_17 : decode cW_classOf 17 = .ok (.ifCond .gt 22, 3) := by decide +kernel
theorem dW_classOf_20 : decode cW_classOf 20 = .ok (.lload_n 2, 1) := by decide +kernel
theorem dW_classOf_21 : decode cW_classOf 21 = .ok (.lload 4, 2) := by decide +kernel
theorem dW_classOf_23 : decode cW_classOf 23 = .ok (.lload 4, 2) := by decide +kernel
theorem dW_classOf_25 : decode cW_classOf 25 = .ok (.lmul, 1) := by decide +kernel
theorem dW_classOf_26 : decode cW_classOf 26 = .ok (.invokestatic 17, 3) := by decide +kernel
theorem dW_classOf_29 : decode cW_classOf 29 = .ok (.lstore_n 2, 1) := by decide +kernel
theorem dW_classOf_30 : decode cW_classOf 30 = .ok (.lload 4, 2) := by decide +kernel
theorem dW_classOf_32 : decode cW_classOf 32 = .ok (.lconst 1, 1) := by decide +kernel
theorem dW_classOf_33 : decode cW_classOf 33 = .ok (.ladd, 1) := by decide +kernel
theorem dW_classOf_34 : decode cW_classOf 34 = .ok (.lstore 4, 2) := by decide +kernel
theorem dW_classOf_36 : decode cW_classOf 36 = .ok (.goto (-29), 3) := by decide +kernel
theorem dW_classOf_39 : decode cW_classOf 39 = .ok (.lload_n 2, 1) := by decide +kernel
theorem dW_classOf_40 : decode cW_classOf 40 = .ok (.lreturn, 1) := by decide +kernel
abbrev cW_classOfProduct : ByteArray := prog_6_method_5_code
abbrev yW_classOfProduct : MethodName := ⟨"RationalForms$Whole", "classOfProduct", "(JJ)J"⟩
abbrev wsW_classOfProduct : List Cond := .code yW_classOfProduct cW_classOfProduct 6 (some .long) :: GG
theorem dW_classOfProduct_0 : decode cW_classOfProduct 0 = .ok (.lload_n 0, 1) := by decide +kernel
theorem dW_classOfProduct_1 : decode cW_classOfProduct 1 = .ok (.lload_n 2, 1) := by decide +kernel
theorem dW_classOfProduct_2 : decode cW_classOfProduct 2 = .ok (.invokestatic 21, 3) := by decide +kernel
theorem dW_classOfProduct_5 : decode cW_classOfProduct 5 = .ok (.lstore 4, 2) := by decide +kernel
theorem dW_classOfProduct_7 : decode cW_classOfProduct 7 = .ok (.lload_n 0, 1) := by decide +kernel
theorem dW_classOfProduct_8 : decode cW_classOfProduct 8 = .ok (.lload 4, 2) := by decide +kernel
theorem dW_classOfProduct_10 : decode cW_classOfProduct 10 = .ok (.ldiv, 1) := by decide +kernel
theorem dW_classOfProduct_11 : decode cW_classOfProduct 11 = .ok (.lload_n 2, 1) := by decide +kernel
theorem dW_classOfProduct_12 : decode cW_classOfProduct 12 = .ok (.lload 4, 2) := by decide +kernel
theorem dW_classOfProduct_14 : decode cW_classOfProduct 14 = .ok (.ldiv, 1) := by decide +kernel
theorem dW_classOfProduct_15 : decode cW_classOfProduct 15 = .ok (.lmul, 1) := by decide +kernel
theorem dW_classOfProduct_16 : decode cW_classOfProduct 16 = .ok (.lreturn, 1) := by decide +kernel
abbrev cW_sharedFactor : ByteArray := prog_6_method_6_code
abbrev yW_sharedFactor : MethodName := ⟨"RationalForms$Whole", "sharedFactor", "(JJ)J"⟩
abbrev wsW_sharedFactor : List Cond := .code yW_sharedFactor cW_sharedFactor 11 (some .long) :: GG
theorem dW_sharedFactor_0 : decode cW_sharedFactor 0 = .ok (.lload_n 0, 1) := by decide +kernel
theorem dW_sharedFactor_1 : decode cW_sharedFactor 1 = .ok (.invokestatic 11, 3) := by decide +kernel
theorem dW_sharedFactor_4 : decode cW_sharedFactor 4 = .ok (.lstore 4, 2) := by decide +kernel
theorem dW_sharedFactor_6 : decode cW_sharedFactor 6 = .ok (.lload_n 2, 1) := by decide +kernel
theorem dW_sharedFactor_7 : decode cW_sharedFactor 7 = .ok (.invokestatic 11, 3) := by decide +kernel
theorem dW_sharedFactor_10 : decode cW_sharedFactor 10 = .ok (.lstore 6, 2) := by decide +kernel
theorem dW_sharedFactor_12 : decode cW_sharedFactor 12 = .ok (.iconst 0, 1) := by decide +kernel
theorem dW_sharedFactor_13 : decode cW_sharedFactor 13 = .ok (.istore 8, 2) := by decide +kernel
theorem dW_sharedFactor_15 : decode cW_sharedFactor 15 = .ok (.iload 8, 2) := by decide +kernel
theorem dW_sharedFactor_17 : decode cW_sharedFactor 17 = .ok (.sipush 128, 3) := by decide +kernel
theorem dW_sharedFactor_20 : decode cW_sharedFactor 20 = .ok (.if_icmp .ge 31, 3) := by decide +kernel
theorem dW_sharedFactor_23 : decode cW_sharedFactor 23 = .ok (.lload 6, 2) := by decide +kernel
theorem dW_sharedFactor_25 : decode cW_sharedFactor 25 = .ok (.lconst 0, 1) := by decide +kernel
theorem dW_sharedFactor_26 : decode cW_sharedFactor 26 = .ok (.lcmp, 1) := by decide +kernel
theorem dW_sharedFactor_27 : decode cW_sharedFactor 27 = .ok (.ifCond .eq 24, 3) := by decide +kernel
theorem dW_sharedFactor_30 : decode cW_sharedFactor 30 = .ok (.lload 4, 2) := by decide +kernel
theorem dW_sharedFactor_32 : decode cW_sharedFactor 32 = .ok (.lload 6, 2) := by decide +kernel
theorem dW_sharedFactor_34 : decode cW_sharedFactor 34 = .ok (.lrem, 1) := by decide +kernel
theorem dW_sharedFactor_35 : decode cW_sharedFactor 35 = .ok (.lstore 9, 2) := by decide +kernel
theorem dW_sharedFactor_37 : decode cW_sharedFactor 37 = .ok (.lload 6, 2) := by decide +kernel
theorem dW_sharedFactor_39 : decode cW_sharedFactor 39 = .ok (.lstore 4, 2) := by decide +kernel
theorem dW_sharedFactor_41 : decode cW_sharedFactor 41 = .ok (.lload 9, 2) := by decide +kernel
theorem dW_sharedFactor_43 : decode cW_sharedFactor 43 = .ok (.lstore 6, 2) := by decide +kernel
theorem dW_sharedFactor_45 : decode cW_sharedFactor 45 = .ok (.iinc 8 1, 3) := by decide +kernel
theorem dW_sharedFactor_48 : decode cW_sharedFactor 48 = .ok (.goto (-33), 3) := by decide +kernel
theorem dW_sharedFactor_51 : decode cW_sharedFactor 51 = .ok (.lload 4, 2) := by decide +kernel
theorem dW_sharedFactor_53 : decode cW_sharedFactor 53 = .ok (.lconst 1, 1) := by decide +kernel
theorem dW_sharedFactor_54 : decode cW_sharedFactor 54 = .ok (.invokestatic 24, 3) := by decide +kernel
theorem dW_sharedFactor_57 : decode cW_sharedFactor 57 = .ok (.lreturn, 1) := by decide +kernel
abbrev cJ_floorMod : ByteArray := prog_13_method_52_code
abbrev yJ_floorMod : MethodName := ⟨"java/lang/Math", "floorMod", "(JJ)J"⟩
abbrev wsJ_floorMod : List Cond := .code yJ_floorMod cJ_floorMod 6 (some .long) :: GG
theorem dJ_floorMod_0 : decode cJ_floorMod 0 = .ok (.lload_n 0, 1) := by decide +kernel
theorem dJ_floorMod_1 : decode cJ_floorMod 1 = .ok (.lload_n 2, 1) := by decide +kernel
theorem dJ_floorMod_2 : decode cJ_floorMod 2 = .ok (.lrem, 1) := by decide +kernel
theorem dJ_floorMod_3 : decode cJ_floorMod 3 = .ok (.lstore 4, 2) := by decide +kernel
theorem dJ_floorMod_5 : decode cJ_floorMod 5 = .ok (.lload_n 0, 1) := by decide +kernel
theorem dJ_floorMod_6 : decode cJ_floorMod 6 = .ok (.lload_n 2, 1) := by decide +kernel
theorem dJ_floorMod_7 : decode cJ_floorMod 7 = .ok (.lxor, 1) := by decide +kernel
theorem dJ_floorMod_8 : decode cJ_floorMod 8 = .ok (.lconst 0, 1) := by decide +kernel
theorem dJ_floorMod_9 : decode cJ_floorMod 9 = .ok (.lcmp, 1) := by decide +kernel
theorem dJ_floorMod_10 : decode cJ_floorMod 10 = .ok (.ifCond .ge 15, 3) := by decide +kernel
theorem dJ_floorMod_13 : decode cJ_floorMod 13 = .ok (.lload 4, 2) := by decide +kernel
theorem dJ_floorMod_15 : decode cJ_floorMod 15 = .ok (.lconst 0, 1) := by decide +kernel
theorem dJ_floorMod_16 : decode cJ_floorMod 16 = .ok (.lcmp, 1) := by decide +kernel
theorem dJ_floorMod_17 : decode cJ_floorMod 17 = .ok (.ifCond .eq 8, 3) := by decide +kernel
theorem dJ_floorMod_20 : decode cJ_floorMod 20 = .ok (.lload 4, 2) := by decide +kernel
theorem dJ_floorMod_22 : decode cJ_floorMod 22 = .ok (.lload_n 2, 1) := by decide +kernel
theorem dJ_floorMod_23 : decode cJ_floorMod 23 = .ok (.ladd, 1) := by decide +kernel
theorem dJ_floorMod_24 : decode cJ_floorMod 24 = .ok (.lreturn, 1) := by decide +kernel
theorem dJ_floorMod_25 : decode cJ_floorMod 25 = .ok (.lload 4, 2) := by decide +kernel
theorem dJ_floorMod_27 : decode cJ_floorMod 27 = .ok (.lreturn, 1) := by decide +kernel
set_option maxRecDepth 100000 in
set_option maxHeartbeats 4000000 in
theorem kW_withoutFactor (l : Launch) (a b : Int) (ha : b64 a) (hb0 : 1 < b) (hb1 : b64 b) : PM l yW_withoutFactor wsW_withoutFactor (rmd 0) [.long (jl a), .long (jl b)] (fun r => r = .long (jl (wo 64 a b))) := by
  refine PM.ofG (by decide) (Nat.le_of_ble_eq_true rfl) ?_
  intro p e s m args below meth c hx hb hml hr hk hg hown ls hl
  have hl : lv_has ls 7 [(0, .long (jl a)), (2, .long (jl b))] := hl
  have loop : ∀ (n : Nat) (k r : Int) (ls : Array Slot), k + n = 64 → 0 ≤ k → b64 r → wo n r b = wo 64 a b → lv_has ls 7 [(6, .int (ji k)), (4, .long (jl r)), (0, .long (jl a)), (2, .long (jl b))] → W p l e (rmd 0) s m args below meth c s.heap [] 0 0 (XQ below (pmQ (fun r => r = .long (jl (wo 64 a b)))) args s 0 0 (fun _ => False)) (F0 m 6 ls []) := by
    intro n
    induction n with
    | zero =>
      intro k r ls h0 hk0 hr0 hw hl
      refine lv_iload hx hb dW_withoutFactor_6 (lv_at hl 0 rfl) ?_
      refine j_bipush hx hb dW_withoutFactor_8 rfl ?_
      refine j_icmp_ge hx hb (by omega) (by omega) dW_withoutFactor_10 rfl (fun h1 => ?_) (fun h1 => ?_)
      · refine lv_lload hx hb dW_withoutFactor_34 (lv_at hl 1 rfl) ?_
        exact pm_lret hx hb hr hk dW_withoutFactor_36 (by rw [← hw]; rfl)
      · omega
    | succ n ih =>
      intro k r ls h0 hk0 hr0 hw hl
      refine lv_iload hx hb dW_withoutFactor_6 (lv_at hl 0 rfl) ?_
      refine j_bipush hx hb dW_withoutFactor_8 rfl ?_
      refine j_icmp_ge hx hb (by omega) (by omega) dW_withoutFactor_10 rfl (fun h1 => ?_) (fun h1 => ?_)
      · omega
      · refine lv_lload hx hb dW_withoutFactor_13 (lv_at hl 1 rfl) ?_
        refine lv_lload_n hx hb dW_withoutFactor_15 rfl (lv_at hl 3 rfl) ?_
        refine j_lrem hx hb (by omega) (by omega) (by omega) dW_withoutFactor_16 ?_
        refine j_lconst0 hx hb dW_withoutFactor_17 ?_
        refine j_lc_ne hx hb (tm_b64 hr0) (by omega) dW_withoutFactor_18 dW_withoutFactor_19 rfl (fun h2 => ?_) (fun h2 => ?_)
        · have hn : ¬ b ∣ r := fun q => h2 (tm_0.mpr q)
          refine lv_lload hx hb dW_withoutFactor_34 (lv_at hl 1 rfl) ?_
          exact pm_lret hx hb hr hk dW_withoutFactor_36 (by rw [← hw, wo, if_neg hn])
        · have hn : b ∣ r := tm_0.mp h2
          refine lv_lload hx hb dW_withoutFactor_22 (lv_at hl 1 rfl) ?_
          refine lv_lload_n hx hb dW_withoutFactor_24 rfl (lv_at hl 3 rfl) ?_
          refine j_ldiv hx hb (by omega) (by omega) (by omega) dW_withoutFactor_25 ?_
          refine lv_lstore hx hb dW_withoutFactor_26 hl (by decide) rfl (fun ls hl => ?_)
          have hl : lv_has ls 7 [(4, .long (jl (r.tdiv b))), (6, .int (ji k)), (0, .long (jl a)), (2, .long (jl b))] := hl
          refine lv_iinc (k := 1) (v := ji (k + 1)) hx hb dW_withoutFactor_28 hl rfl (Int32.ofInt_add _ _).symm (by decide) rfl (fun ls hl => ?_)
          have hl : lv_has ls 7 [(6, .int (ji (k + 1))), (4, .long (jl (r.tdiv b))), (0, .long (jl a)), (2, .long (jl b))] := hl
          refine lv_goto hx hb dW_withoutFactor_31 rfl ?_
          have e1 : r.tdiv b = r / b := td_e hn
          rw [e1] at hl
          refine ih (k + 1) (r / b) ls (by omega) (by omega) ?_ (by rw [← hw, wo, if_pos hn]) hl
          exact div_b64 hr0 hb0
  refine lv_lload_n hx hb dW_withoutFactor_0 rfl (lv_at hl 0 rfl) ?_
  refine lv_lstore hx hb dW_withoutFactor_1 hl (by decide) rfl (fun ls hl => ?_)
  have hl : lv_has ls 7 [(4, .long (jl a)), (0, .long (jl a)), (2, .long (jl b))] := hl
  refine j_iconst hx hb dW_withoutFactor_3 ?_
  refine lv_istore hx hb dW_withoutFactor_4 hl (by decide) rfl (fun ls hl => ?_)
  have hl : lv_has ls 7 [(6, .int (ji 0)), (4, .long (jl a)), (0, .long (jl a)), (2, .long (jl b))] := hl
  exact loop 64 0 a ls (by omega) (by omega) ha rfl hl
