/-! Form (the class): names, contracts -/
abbrev cF_restart : ByteArray := prog_3_method_2_code
abbrev yF_restart : MethodName := ⟨"RationalForms$Form", "restart", "(I)V"⟩
abbrev wsF_restart : List Cond := .code yF_restart cF_restart 4 none :: GG
theorem dF_restart_0 : decode cF_restart 0 = .ok (.aload_n 0, 1) := by decide +kernel
theorem dF_restart_1 : decode cF_restart 1 = .ok (.iload_n 1, 1) := by decide +kernel
theorem dF_restart_2 : decode cF_restart 2 = .ok (.putfield 9, 3) := by decide +kernel
theorem dF_restart_5 : decode cF_restart 5 = .ok (.iconst 0, 1) := by decide +kernel
theorem dF_restart_6 : decode cF_restart 6 = .ok (.istore_n 2, 1) := by decide +kernel
theorem dF_restart_7 : decode cF_restart 7 = .ok (.iload_n 2, 1) := by decide +kernel
theorem dF_restart_8 : decode cF_restart 8 = .ok (.iconst 4, 1) := by decide +kernel
theorem dF_restart_9 : decode cF_restart 9 = .ok (.if_icmp .ge 31, 3) := by decide +kernel
theorem dF_restart_12 : decode cF_restart 12 = .ok (.iconst 0, 1) := by decide +kernel
theorem dF_restart_13 : decode cF_restart 13 = .ok (.istore_n 3, 1) := by decide +kernel
theorem dF_restart_14 : decode cF_restart 14 = .ok (.iload_n 3, 1) := by decide +kernel
theorem dF_restart_15 : decode cF_restart 15 = .ok (.iconst 4, 1) := by decide +kernel
theorem dF_restart_16 : decode cF_restart 16 = .ok (.if_icmp .ge 18, 3) := by decide +kernel
theorem dF_restart_19 : decode cF_restart 19 = .ok (.aload_n 0, 1) := by decide +kernel
theorem dF_restart_20 : decode cF_restart 20 = .ok (.getfield 17, 3) := by decide +kernel
theorem dF_restart_23 : decode cF_restart 23 = .ok (.iload_n 2, 1) := by decide +kernel
theorem dF_restart_24 : decode cF_restart 24 = .ok (.aaload, 1) := by decide +kernel
theorem dF_restart_25 : decode cF_restart 25 = .ok (.iload_n 3, 1) := by decide +kernel
theorem dF_restart_26 : decode cF_restart 26 = .ok (.iconst 0, 1) := by decide +kernel
theorem dF_restart_27 : decode cF_restart 27 = .ok (.iastore, 1) := by decide +kernel
theorem dF_restart_28 : decode cF_restart 28 = .ok (.iinc 3 1, 3) := by decide +kernel
theorem dF_restart_31 : decode cF_restart 31 = .ok (.goto (-17), 3) := by decide +kernel
theorem dF_restart_34 : decode cF_restart 34 = .ok (.iinc 2 1, 3) := by decide +kernel
theorem dF_restart_37 : decode cF_restart 37 = .ok (.goto (-30), 3) := by decide +kernel
theorem dF_restart_40 : decode cF_restart 40 = .ok (.return_, 1) := by decide +kernel
abbrev cF_hasVariable : ByteArray := prog_3_method_3_code
abbrev yF_hasVariable : MethodName := ⟨"RationalForms$Form", "hasVariable", "(I)Z"⟩
abbrev wsF_hasVariable : List Cond := .code yF_hasVariable cF_hasVariable 2 (some .boolean) :: GG
theorem dF_hasVariable_0 : decode cF_hasVariable 0 = .ok (.iload_n 1, 1) := by decide +kernel
theorem dF_hasVariable_1 : decode cF_hasVariable 1 = .ok (.ifCond .lt 15, 3) := by decide +kernel
theorem dF_hasVariable_4 : decode cF_hasVariable 4 = .ok (.iload_n 1, 1) := by decide +kernel
theorem dF_hasVariable_5 : decode cF_hasVariable 5 = .ok (.aload_n 0, 1) := by decide +kernel
theorem dF_hasVariable_6 : decode cF_hasVariable 6 = .ok (.getfield 9, 3) := by decide +kernel
theorem dF_hasVariable_9 : decode cF_hasVariable 9 = .ok (.if_icmp .ge 7, 3) := by decide +kernel
theorem dF_hasVariable_12 : decode cF_hasVariable 12 = .ok (.iconst 1, 1) := by decide +kernel
theorem dF_hasVariable_13 : decode cF_hasVariable 13 = .ok (.goto 4, 3) := by decide +kernel
theorem dF_hasVariable_16 : decode cF_hasVariable 16 = .ok (.iconst 0, 1) := by decide +kernel
theorem dF_hasVariable_17 : decode cF_hasVariable 17 = .ok (.ireturn, 1) := by decide +kernel
abbrev cF_replaceNumber : ByteArray := prog_3_method_4_code
abbrev yF_replaceNumber : MethodName := ⟨"RationalForms$Form", "replaceNumber", "(III)I"⟩
abbrev wsF_replaceNumber : List Cond := .code yF_replaceNumber cF_replaceNumber 5 (some .int) :: GG
theorem dF_replaceNumber_0 : decode cF_replaceNumber 0 = .ok (.aload_n 0, 1) := by decide +kernel
theorem dF_replaceNumber_1 : decode cF_replaceNumber 1 = .ok (.getfield 17, 3) := by decide +kernel
theorem dF_replaceNumber_4 : decode cF_replaceNumber 4 = .ok (.iload_n 1, 1) := by decide +kernel
theorem dF_replaceNumber_5 : decode cF_replaceNumber 5 = .ok (.aaload, 1) := by decide +kernel
theorem dF_replaceNumber_6 : decode cF_replaceNumber 6 = .ok (.iload_n 2, 1) := by decide +kernel
theorem dF_replaceNumber_7 : decode cF_replaceNumber 7 = .ok (.iaload, 1) := by decide +kernel
theorem dF_replaceNumber_8 : decode cF_replaceNumber 8 = .ok (.istore 4, 2) := by decide +kernel
theorem dF_replaceNumber_10 : decode cF_replaceNumber 10 = .ok (.aload_n 0, 1) := by decide +kernel
theorem dF_replaceNumber_11 : decode cF_replaceNumber 11 = .ok (.getfield 17, 3) := by decide +kernel
theorem dF_replaceNumber_14 : decode cF_replaceNumber 14 = .ok (.iload_n 1, 1) := by decide +kernel
theorem dF_replaceNumber_15 : decode cF_replaceNumber 15 = .ok (.aaload, 1) := by decide +kernel
theorem dF_replaceNumber_16 : decode cF_replaceNumber 16 = .ok (.iload_n 2, 1) := by decide +kernel
theorem dF_replaceNumber_17 : decode cF_replaceNumber 17 = .ok (.iload_n 3, 1) := by decide +kernel
theorem dF_replaceNumber_18 : decode cF_replaceNumber 18 = .ok (.iastore, 1) := by decide +kernel
theorem dF_replaceNumber_19 : decode cF_replaceNumber 19 = .ok (.aload_n 0, 1) := by decide +kernel
theorem dF_replaceNumber_20 : decode cF_replaceNumber 20 = .ok (.getfield 17, 3) := by decide +kernel
theorem dF_replaceNumber_23 : decode cF_replaceNumber 23 = .ok (.iload_n 2, 1) := by decide +kernel
theorem dF_replaceNumber_24 : decode cF_replaceNumber 24 = .ok (.aaload, 1) := by decide +kernel
theorem dF_replaceNumber_25 : decode cF_replaceNumber 25 = .ok (.iload_n 1, 1) := by decide +kernel
theorem dF_replaceNumber_26 : decode cF_replaceNumber 26 = .ok (.iload_n 3, 1) := by decide +kernel
theorem dF_replaceNumber_27 : decode cF_replaceNumber 27 = .ok (.iastore, 1) := by decide +kernel
theorem dF_replaceNumber_28 : decode cF_replaceNumber 28 = .ok (.iload 4, 2) := by decide +kernel
theorem dF_replaceNumber_30 : decode cF_replaceNumber 30 = .ok (.ireturn, 1) := by decide +kernel
abbrev cF_valueFor : ByteArray := prog_3_method_5_code
abbrev yF_valueFor : MethodName := ⟨"RationalForms$Form", "valueFor", "([I)J"⟩
abbrev wsF_valueFor : List Cond := .code yF_valueFor cF_valueFor 6 (some .long) :: GG
theorem dF_valueFor_0 : decode cF_valueFor 0 = .ok (.lconst 0, 1) := by decide +kernel
theorem dF_valueFor_1 : decode cF_valueFor 1 = .ok (.lstore_n 2, 1) := by decide +kernel
theorem dF_valueFor_2 : decode cF_valueFor 2 = .ok (.iconst 0, 1) := by decide +kernel
theorem dF_valueFor_3 : decode cF_valueFor 3 = .ok (.istore 4, 2) := by decide +kernel
theorem dF_valueFor_5 : decode cF_valueFor 5 = .ok (.iload 4, 2) := by decide +kernel
theorem dF_valueFor_7 : decode cF_valueFor 7 = .ok (.aload_n 0, 1) := by decide +kernel
theorem dF_valueFor_8 : decode cF_valueFor 8 = .ok (.getfield 9, 3) := by decide +kernel
theorem dF_valueFor_11 : decode cF_valueFor 11 = .ok (.if_icmp .ge 53, 3) := by decide +kernel
theorem dF_valueFor_14 : decode cF_valueFor 14 = .ok (.iconst 0, 1) := by decide +kernel
theorem dF_valueFor_15 : decode cF_valueFor 15 = .ok (.istore 5, 2) := by decide +kernel
theorem dF_valueFor_17 : decode cF_valueFor 17 = .ok (.iload 5, 2) := by decide +kernel
theorem dF_valueFor_19 : decode cF_valueFor 19 = .ok (.aload_n 0, 1) := by decide +kernel
theorem dF_valueFor_20 : decode cF_valueFor 20 = .ok (.getfield 9, 3) := by decide +kernel
theorem dF_valueFor_23 : decode cF_valueFor 23 = .ok (.if_icmp .ge 35, 3) := by decide +kernel
theorem dF_valueFor_26 : decode cF_valueFor 26 = .ok (.lload_n 2, 1) := by decide +kernel
theorem dF_valueFor_27 : decode cF_valueFor 27 = .ok (.aload_n 0, 1) := by decide +kernel
theorem dF_valueFor_28 : decode cF_valueFor 28 = .ok (.getfield 17, 3) := by decide +kernel
theorem dF_valueFor_31 : decode cF_valueFor 31 = .ok (.iload 4, 2) := by decide +kernel
theorem dF_valueFor_33 : decode cF_valueFor 33 = .ok (.aaload, 1) := by decide +kernel
theorem dF_valueFor_34 : decode cF_valueFor 34 = .ok (.iload 5, 2) := by decide +kernel
theorem dF_valueFor_36 : decode cF_valueFor 36 = .ok (.iaload, 1) := by decide +kernel
theorem dF_valueFor_37 : decode cF_valueFor 37 = .ok (.i2l, 1) := by decide +kernel
theorem dF_valueFor_38 : decode cF_valueFor 38 = .ok (.aload_n 1, 1) := by decide +kernel
theorem dF_valueFor_39 : decode cF_valueFor 39 = .ok (.iload 4, 2) := by decide +kernel
theorem dF_valueFor_41 : decode cF_valueFor 41 = .ok (.iaload, 1) := by decide +kernel
theorem dF_valueFor_42 : decode cF_valueFor 42 = .ok (.i2l, 1) := by decide +kernel
theorem dF_valueFor_43 : decode cF_valueFor 43 = .ok (.lmul, 1) := by decide +kernel
theorem dF_valueFor_44 : decode cF_valueFor 44 = .ok (.aload_n 1, 1) := by decide +kernel
theorem dF_valueFor_45 : decode cF_valueFor 45 = .ok (.iload 5, 2) := by decide +kernel
theorem dF_valueFor_47 : decode cF_valueFor 47 = .ok (.iaload, 1) := by decide +kernel
theorem dF_valueFor_48 : decode cF_valueFor 48 = .ok (.i2l, 1) := by decide +kernel
theorem dF_valueFor_49 : decode cF_valueFor 49 = .ok (.lmul, 1) := by decide +kernel
theorem dF_valueFor_50 : decode cF_valueFor 50 = .ok (.ladd, 1) := by decide +kernel
theorem dF_valueFor_51 : decode cF_valueFor 51 = .ok (.lstore_n 2, 1) := by decide +kernel
theorem dF_valueFor_52 : decode cF_valueFor 52 = .ok (.iinc 5 1, 3) := by decide +kernel
theorem dF_valueFor_55 : decode cF_valueFor 55 = .ok (.goto (-38), 3) := by decide +kernel
theorem dF_valueFor_58 : decode cF_valueFor 58 = .ok (.iinc 4 1, 3) := by decide +kernel
theorem dF_valueFor_61 : decode cF_valueFor 61 = .ok (.goto (-56), 3) := by decide +kernel
theorem dF_valueFor_64 : decode cF_valueFor 64 = .ok (.lload_n 2, 1) := by decide +kernel
theorem dF_valueFor_65 : decode cF_valueFor 65 = .ok (.lreturn, 1) := by decide +kernel
/-- the value of a form: rows i below n of the table A at x -/
def vfR (n : Nat) (A : Nat → Nat → Int) (x : Nat → Int) (i : Nat) : Nat → Int
  | 0 => 0
  | j + 1 => vfR n A x i j + A i j * x i * x j
def vf (n : Nat) (A : Nat → Nat → Int) (x : Nat → Int) : Nat → Int
  | 0 => 0
  | i + 1 => vf n A x i + vfR n A x i n
set_option maxRecDepth 20000 in
theorem wd50 : Cond.fieldLink "RationalForms$Form" 9 "RationalForms$Form" "dimension" "I" ∈ GG := GG_t 50 rfl rfl
set_option maxRecDepth 20000 in
theorem wd53 : Cond.fieldLink "RationalForms$Form" 17 "RationalForms$Form" "numbers" "[[I" ∈ GG := GG_t 53 rfl rfl
set_option maxRecDepth 100000 in
set_option maxHeartbeats 4000000 in
theorem kF_hasVariable (l : Launch) (E : En) (hJ : wJ E) (M : Me) (f : Nat) (hf : f < 2) (i : Int) (hi : b32 i) (hd0 : b32 (M (5 + f) 0)) : MM l yF_hasVariable wsF_hasVariable (rmd 0) E M [.ref (E.2.1 (5 + f)), .int (ji i)] (fun v M9 => v = some (.int (ji (bi (0 ≤ i ∧ i < M (5 + f) 0)))) ∧ M9 = M) := by
  refine MM.ofG (by decide +kernel) (Nat.le_of_ble_eq_true rfl) ?_
  intro p_ e_ s_ m_ a_ b_ t_ c_ hx hb hml hr hk hg hown hK hP hS ls hl
  have hl : lv_has ls 2 [(0, .ref (E.2.1 (5 + f))), (1, .int (ji i))] := hl
  refine lv_iload_n hx hb dF_hasVariable_0 rfl (lv_at hl 1 rfl) ?_
  refine j_if_lt hx hb (by omega) dF_hasVariable_1 rfl (fun h1 => ?_) (fun h1 => ?_)
  · refine j_iconst hx hb dF_hasVariable_16 ?_
    exact mm_zret hx hb hr hk hP hS dF_hasVariable_17 nar_0 ⟨by rw [bi_f (by omega)], rfl⟩
  · refine lv_iload_n hx hb dF_hasVariable_4 rfl (lv_at hl 1 rfl) ?_
    refine lv_aload_n hx hb dF_hasVariable_5 rfl (lv_at hl 0 rfl) ?_
    refine m_get (C := "RationalForms$Form") (T := TxF) (N := 2) hx hb hg uwF hown hK hP (by omega) (sh_F E _ (by omega)) rfl 0 (by decide) wd50 rfl dF_hasVariable_6 ?_
    refine j_icmp_ge hx hb (by omega) (by omega) dF_hasVariable_9 rfl (fun h2 => ?_) (fun h2 => ?_)
    · refine j_iconst hx hb dF_hasVariable_16 ?_
      exact mm_zret hx hb hr hk hP hS dF_hasVariable_17 nar_0 ⟨by rw [bi_f (by omega)], rfl⟩
    · refine j_iconst hx hb dF_hasVariable_12 ?_
      refine lv_goto hx hb dF_hasVariable_13 rfl ?_
      exact mm_zret hx hb hr hk hP hS dF_hasVariable_17 nar_1 ⟨by rw [bi_t (by omega)], rfl⟩

set_option maxRecDepth 100000 in
set_option maxHeartbeats 4000000 in
theorem kF_replaceNumber (l : Launch) (E : En) (hJ : wJ E) (M : Me) (f : Nat) (hf : f < 2) (i j : Nat) (hi : i < 4) (hj : j < 4) (v : Int) : MM l yF_replaceNumber wsF_replaceNumber (rmd 0) E M [.ref (E.2.1 (5 + f)), .int (ji ((i:Int))), .int (ji ((j:Int))), .int (ji v)] (fun r M9 => r = some (.int (ji (M (9 + 4 * f + i) j))) ∧ M9 = mu (mu M (9 + 4 * f + i) j v) (9 + 4 * f + j) i v) := by
  refine MM.ofG (by decide +kernel) (Nat.le_of_ble_eq_true rfl) ?_
  intro p_ e_ s_ m_ a_ b_ t_ c_ hx hb hml hr hk hg hown hK hP hS ls hl
  have hl : lv_has ls 5 [(0, .ref (E.2.1 (5 + f))), (1, .int (ji ((i:Int)))), (2, .int (ji ((j:Int)))), (3, .int (ji v))] := hl
  refine lv_aload_n hx hb dF_replaceNumber_0 rfl (lv_at hl 0 rfl) ?_
  refine m_get (C := "RationalForms$Form") (T := TxF) (N := 2) hx hb hg uwF hown hK hP (by omega) (sh_F E _ (by omega)) rfl 1 (by decide) wd53 rfl dF_replaceNumber_1 ?_
  refine lv_iload_n hx hb dF_replaceNumber_4 rfl (lv_at hl 1 rfl) ?_
  refine m_aald (t0 := 2) (n := i) hx hb hK hP (by omega) (sh_o E _ (by omega)) rfl rfl rfl (by omega) (by decide) dF_replaceNumber_5 ?_
  refine lv_iload_n hx hb dF_replaceNumber_6 rfl (lv_at hl 2 rfl) ?_
  refine m_iald (n := j) hx hb hK hP (by omega) (sh_n E _ (by omega) (by omega)) rfl (by omega) (by decide) dF_replaceNumber_7 ?_
  refine lv_istore hx hb dF_replaceNumber_8 hl (by decide) rfl (fun ls hl => ?_)
  have hl : lv_has ls 5 [(4, .int (ji (M (9 + 4 * f + i) j))), (0, .ref (E.2.1 (5 + f))), (1, .int (ji ((i:Int)))), (2, .int (ji ((j:Int)))), (3, .int (ji v))] := hl
  refine lv_aload_n hx hb dF_replaceNumber_10 rfl (lv_at hl 1 rfl) ?_
  refine m_get (C := "RationalForms$Form") (T := TxF) (N := 2) hx hb hg uwF hown hK hP (by omega) (sh_F E _ (by omega)) rfl 1 (by decide) wd53 rfl dF_replaceNumber_11 ?_
  refine lv_iload_n hx hb dF_replaceNumber_14 rfl (lv_at hl 2 rfl) ?_
  refine m_aald (t0 := 2) (n := i) hx hb hK hP (by omega) (sh_o E _ (by omega)) rfl rfl rfl (by omega) (by decide) dF_replaceNumber_15 ?_
  refine lv_iload_n hx hb dF_replaceNumber_16 rfl (lv_at hl 3 rfl) ?_
  refine lv_iload_n hx hb dF_replaceNumber_17 rfl (lv_at hl 4 rfl) ?_
  refine m_iast (n := j) hx hb hK hJ hP hS (by omega) (fun r => sh_n E r (by omega) (by omega)) rfl (by omega) (by decide) dF_replaceNumber_18 (fun H locs hP hS => ?_)
  refine lv_aload_n hx hb dF_replaceNumber_19 rfl (lv_at hl 1 rfl) ?_
  refine m_get (C := "RationalForms$Form") (T := TxF) (N := 2) hx hb hg uwF hown hK hP (by omega) (sh_F E _ (by omega)) rfl 1 (by decide) wd53 rfl dF_replaceNumber_20 ?_
  refine lv_iload_n hx hb dF_replaceNumber_23 rfl (lv_at hl 3 rfl) ?_
  refine m_aald (t0 := 2) (n := j) hx hb hK hP (by omega) (sh_o E _ (by omega)) rfl rfl rfl (by omega) (by decide) dF_replaceNumber_24 ?_
  refine lv_iload_n hx hb dF_replaceNumber_25 rfl (lv_at hl 2 rfl) ?_
  refine lv_iload_n hx hb dF_replaceNumber_26 rfl (lv_at hl 4 rfl) ?_
  refine m_iast (n := i) hx hb hK hJ hP hS (by omega) (fun r => sh_n E r (by omega) (by omega)) rfl (by omega) (by decide) dF_replaceNumber_27 (fun H locs hP hS => ?_)
  refine lv_iload hx hb dF_replaceNumber_28 (lv_at hl 0 rfl) ?_
  exact mm_iret hx hb hr hk hP hS dF_replaceNumber_30 ⟨rfl, rfl⟩

set_option maxRecDepth 100000 in
set_option maxHeartbeats 4000000 in
theorem kF_restart (l : Launch) (E : En) (hJ : wJ E) (M : Me) (f : Nat) (hf : f < 2) (n : Int) : MM l yF_restart wsF_restart (rmd 0) E M [.ref (E.2.1 (5 + f)), .int (ji n)] (fun r M9 => r = none ∧ M9 (5 + f) 0 = n ∧ (∀ i j : Nat, i < 4 → j < 4 → M9 (9 + 4 * f + i) j = 0) ∧ ∀ k, k ≠ 5 + f → (k < 9 + 4 * f ∨ 13 + 4 * f ≤ k) → M9 k = M k) := by
  refine MM.ofG (by decide +kernel) (Nat.le_of_ble_eq_true rfl) ?_
  intro p_ e_ s_ m_ a_ b_ t_ c_ hx hb hml hr hk hg hown hK hP hS ls hl
  have hl : lv_has ls 4 [(0, .ref (E.2.1 (5 + f))), (1, .int (ji n))] := hl
  have outer : ∀ (N i : Nat) (M1 : Me) (H : Heap) (locs : List Loc) (ls : Array Slot), i + N = 4 → ((M1 (5 + f) 0 = n ∧ (∀ k, k ≠ 5 + f → (k < 9 + 4 * f ∨ 13 + 4 * f ≤ k) → M1 k = M k)) ∧ ∀ a b : Nat, a < i → b < 4 → M1 (9 + 4 * f + a) b = 0) → wP E M1 H → va_S (wA E) s_.heap H locs → lv_has ls 4 [(2, .int (ji ((i:Int)))), (0, .ref (E.2.1 (5 + f))), (1, .int (ji n))] → W p_ l e_ (rmd 0) s_ m_ a_ b_ t_ c_ H locs 0 0 (XQ b_ (mmQ E (fun r M9 => r = none ∧ M9 (5 + f) 0 = n ∧ (∀ i j : Nat, i < 4 → j < 4 → M9 (9 + 4 * f + i) j = 0) ∧ ∀ k, k ≠ 5 + f → (k < 9 + 4 * f ∨ 13 + 4 * f ≤ k) → M9 k = M k)) a_ s_ 0 0 (wA E)) (F0 m_ 7 ls []) := by
    intro N
    induction N with
    | zero =>
      intro i M1 H locs ls h0 hI hP hS hl
      refine lv_iload_n hx hb dF_restart_7 rfl (lv_at hl 0 rfl) ?_
      refine j_iconst hx hb dF_restart_8 ?_
      refine j_icmp_ge hx hb (by omega) (by omega) dF_restart_9 rfl (fun h1 => ?_) (fun h1 => ?_)
      · exact mm_vret hx hb hr hk hP hS dF_restart_40 ⟨rfl, hI.1.1, fun a b ha hb => hI.2 a b (by omega) hb, hI.1.2⟩
      · omega
    | succ N ih =>
      intro i M1 H locs ls h0 hI hP hS hl
      have inner : ∀ (K j : Nat) (M1 : Me) (H : Heap) (locs : List Loc) (ls : Array Slot), j + K = 4 → ((M1 (5 + f) 0 = n ∧ (∀ k, k ≠ 5 + f → (k < 9 + 4 * f ∨ 13 + 4 * f ≤ k) → M1 k = M k)) ∧ (∀ a b : Nat, a < i → b < 4 → M1 (9 + 4 * f + a) b = 0) ∧ ∀ b : Nat, b < j → M1 (9 + 4 * f + i) b = 0) → wP E M1 H → va_S (wA E) s_.heap H locs → lv_has ls 4 [(3, .int (ji ((j:Int)))), (2, .int (ji ((i:Int)))), (0, .ref (E.2.1 (5 + f))), (1, .int (ji n))] → W p_ l e_ (rmd 0) s_ m_ a_ b_ t_ c_ H locs 0 0 (XQ b_ (mmQ E (fun r M9 => r = none ∧ M9 (5 + f) 0 = n ∧ (∀ i j : Nat, i < 4 → j < 4 → M9 (9 + 4 * f + i) j = 0) ∧ ∀ k, k ≠ 5 + f → (k < 9 + 4 * f ∨ 13 + 4 * f ≤ k) → M9 k = M k)) a_ s_ 0 0 (wA E)) (F0 m_ 14 ls []) := by
        intro K
        induction K with
        | zero =>
          intro j M1 H locs ls h1 hI hP hS hl
          refine lv_iload_n hx hb dF_restart_14 rfl (lv_at hl 0 rfl) ?_
          refine j_iconst hx hb dF_restart_15 ?_
          refine j_icmp_ge hx hb (by omega) (by omega) dF_restart_16 rfl (fun h2 => ?_) (fun h2 => ?_)
          · refine lv_iinc (k := 1) (v := ji (((i:Int)) + 1)) hx hb dF_restart_34 hl rfl (Int32.ofInt_add _ _).symm (by decide) rfl (fun ls hl => ?_)
            have hl : lv_has ls 4 [(2, .int (ji (((i:Int)) + 1))), (3, .int (ji ((j:Int)))), (0, .ref (E.2.1 (5 + f))), (1, .int (ji n))] := hl
            refine lv_goto hx hb dF_restart_37 rfl ?_
            refine ih (i + 1) M1 H locs ls (by omega) ⟨hI.1, fun a b ha hb => ?_⟩ hP hS (lv_sub hl [0, 2, 3] rfl)
            by_cases hai : a = i
            · rw [hai]; exact hI.2.2 b (by omega)
            · exact hI.2.1 a b (by omega) hb
          · omega
        | succ K ihK =>
          intro j M1 H locs ls h1 hI hP hS hl
          refine lv_iload_n hx hb dF_restart_14 rfl (lv_at hl 0 rfl) ?_
          refine j_iconst hx hb dF_restart_15 ?_
          refine j_icmp_ge hx hb (by omega) (by omega) dF_restart_16 rfl (fun h2 => ?_) (fun h2 => ?_)
          · omega
          · refine lv_aload_n hx hb dF_restart_19 rfl (lv_at hl 2 rfl) ?_
            refine m_get (C := "RationalForms$Form") (T := TxF) (N := 2) hx hb hg uwF hown hK hP (by omega) (sh_F E _ (by omega)) rfl 1 (by decide) wd53 rfl dF_restart_20 ?_
            refine lv_iload_n hx hb dF_restart_23 rfl (lv_at hl 1 rfl) ?_
            refine m_aald (t0 := 2) (n := i) hx hb hK hP (by omega) (sh_o E _ (by omega)) rfl rfl rfl (by omega) (by decide) dF_restart_24 ?_
            refine lv_iload_n hx hb dF_restart_25 rfl (lv_at hl 0 rfl) ?_
            refine j_iconst hx hb dF_restart_26 ?_
            refine m_iast (n := j) hx hb hK hJ hP hS (by omega) (fun r => sh_n E r (by omega) (by omega)) rfl (by omega) (by decide) dF_restart_27 (fun H locs hP hS => ?_)
            refine lv_iinc (k := 0) (v := ji (((j:Int)) + 1)) hx hb dF_restart_28 hl rfl (Int32.ofInt_add _ _).symm (by decide) rfl (fun ls hl => ?_)
            have hl : lv_has ls 4 [(3, .int (ji (((j:Int)) + 1))), (2, .int (ji ((i:Int)))), (0, .ref (E.2.1 (5 + f))), (1, .int (ji n))] := hl
            refine lv_goto hx hb dF_restart_31 rfl ?_
            refine ihK (j + 1) _ H locs ls (by omega) ⟨⟨?_, ?_⟩, ?_, ?_⟩ hP hS hl
            · rw [mu_k (by omega)]; exact hI.1.1
            · intro k hk1 hk2
              rw [mu_k (by omega)]; exact hI.1.2 k hk1 hk2
            · intro a b ha hb
              rw [mu_k (by omega)]; exact hI.2.1 a b ha hb
            · intro b hb
              by_cases hbj : b = j
              · rw [hbj]; exact mu_s _ _ _ _
              · rw [mu_j hbj]; exact hI.2.2 b (by omega)
      refine lv_iload_n hx hb dF_restart_7 rfl (lv_at hl 0 rfl) ?_
      refine j_iconst hx hb dF_restart_8 ?_
      refine j_icmp_ge hx hb (by omega) (by omega) dF_restart_9 rfl (fun h1 => ?_) (fun h1 => ?_)
      · omega
      · refine j_iconst hx hb dF_restart_12 ?_
        refine lv_istore_n hx hb dF_restart_13 rfl hl (by decide) rfl (fun ls hl => ?_)
        have hl : lv_has ls 4 [(3, .int (ji 0)), (2, .int (ji ((i:Int)))), (0, .ref (E.2.1 (5 + f))), (1, .int (ji n))] := hl
        exact inner 4 0 M1 H locs ls (by omega) ⟨hI.1, hI.2, fun b hb => by omega⟩ hP hS hl
  refine lv_aload_n hx hb dF_restart_0 rfl (lv_at hl 0 rfl) ?_
  refine lv_iload_n hx hb dF_restart_1 rfl (lv_at hl 1 rfl) ?_
  refine m_put (C := "RationalForms$Form") (T := TxF) (N := 2) (ty := .int) (z := n) hx hb hg uwF txF txF_ok nmF hown hK hJ hP hS (by omega) (sh_F E _ (by omega)) rfl 0 (by decide) wd50 rfl rfl rfl rfl (Nat.le_of_ble_eq_true rfl) (by rw [sh_F E _ (by omega)]; simp [mu]) dF_restart_2 (fun H locs hP hS => ?_)
  refine j_iconst hx hb dF_restart_5 ?_
  refine lv_istore_n hx hb dF_restart_6 rfl hl (by decide) rfl (fun ls hl => ?_)
  have hl : lv_has ls 4 [(2, .int (ji 0)), (0, .ref (E.2.1 (5 + f))), (1, .int (ji n))] := hl
  exact outer 4 0 _ H locs ls (by omega) ⟨⟨mu_s _ _ _ _, fun k h1 h2 => mu_k h1⟩, fun a b ha hb => by omega⟩ hP hS hl
