/-! the constructors -/
abbrev cF_init : ByteArray := prog_3_method_1_code
abbrev yF_init : MethodName := ⟨"RationalForms$Form", "<init>", "()V"⟩
abbrev wsF_init : List Cond := .code yF_init cF_init 1 none :: GG
theorem dF_init_0 : decode cF_init 0 = .ok (.aload_n 0, 1) := by decide +kernel
theorem dF_init_1 : decode cF_init 1 = .ok (.invokespecial 3, 3) := by decide +kernel
theorem dF_init_4 : decode cF_init 4 = .ok (.aload_n 0, 1) := by decide +kernel
theorem dF_init_5 : decode cF_init 5 = .ok (.iconst 1, 1) := by decide +kernel
theorem dF_init_6 : decode cF_init 6 = .ok (.putfield 9, 3) := by decide +kernel
theorem dF_init_9 : decode cF_init 9 = .ok (.aload_n 0, 1) := by decide +kernel
theorem dF_init_10 : decode cF_init 10 = .ok (.iconst 4, 1) := by decide +kernel
theorem dF_init_11 : decode cF_init 11 = .ok (.iconst 4, 1) := by decide +kernel
theorem dF_init_12 : decode cF_init 12 = .ok (.multianewarray 15 2, 4) := by decide +kernel
theorem dF_init_16 : decode cF_init 16 = .ok (.putfield 17, 3) := by decide +kernel
theorem dF_init_19 : decode cF_init 19 = .ok (.return_, 1) := by decide +kernel
abbrev cR_init : ByteArray := prog_5_method_1_code
abbrev yR_init : MethodName := ⟨"RationalForms$Reduction", "<init>", "()V"⟩
abbrev wsR_init : List Cond := .code yR_init cR_init 1 none :: GG
theorem dR_init_0 : decode cR_init 0 = .ok (.aload_n 0, 1) := by decide +kernel
theorem dR_init_1 : decode cR_init 1 = .ok (.invokespecial 3, 3) := by decide +kernel
theorem dR_init_4 : decode cR_init 4 = .ok (.aload_n 0, 1) := by decide +kernel
theorem dR_init_5 : decode cR_init 5 = .ok (.iconst 4, 1) := by decide +kernel
theorem dR_init_6 : decode cR_init 6 = .ok (.iconst 4, 1) := by decide +kernel
theorem dR_init_7 : decode cR_init 7 = .ok (.multianewarray 9 2, 4) := by decide +kernel
theorem dR_init_11 : decode cR_init 11 = .ok (.putfield 11, 3) := by decide +kernel
theorem dR_init_14 : decode cR_init 14 = .ok (.aload_n 0, 1) := by decide +kernel
theorem dR_init_15 : decode cR_init 15 = .ok (.iconst 0, 1) := by decide +kernel
theorem dR_init_16 : decode cR_init 16 = .ok (.putfield 16, 3) := by decide +kernel
theorem dR_init_19 : decode cR_init 19 = .ok (.return_, 1) := by decide +kernel
abbrev cD_init : ByteArray := prog_2_method_1_code
abbrev yD_init : MethodName := ⟨"RationalForms$Diagonal", "<init>", "()V"⟩
abbrev wsD_init : List Cond := .code yD_init cD_init 1 none :: GG
theorem dD_init_0 : decode cD_init 0 = .ok (.aload_n 0, 1) := by decide +kernel
theorem dD_init_1 : decode cD_init 1 = .ok (.invokespecial 3, 3) := by decide +kernel
theorem dD_init_4 : decode cD_init 4 = .ok (.aload_n 0, 1) := by decide +kernel
theorem dD_init_5 : decode cD_init 5 = .ok (.iconst 5, 1) := by decide +kernel
theorem dD_init_6 : decode cD_init 6 = .ok (.newarray .long, 2) := by decide +kernel
theorem dD_init_8 : decode cD_init 8 = .ok (.putfield 11, 3) := by decide +kernel
theorem dD_init_11 : decode cD_init 11 = .ok (.aload_n 0, 1) := by decide +kernel
theorem dD_init_12 : decode cD_init 12 = .ok (.bipush 32, 2) := by decide +kernel
theorem dD_init_14 : decode cD_init 14 = .ok (.newarray .int, 2) := by decide +kernel
theorem dD_init_16 : decode cD_init 16 = .ok (.putfield 15, 3) := by decide +kernel
theorem dD_init_19 : decode cD_init 19 = .ok (.aload_n 0, 1) := by decide +kernel
theorem dD_init_20 : decode cD_init 20 = .ok (.iconst 1, 1) := by decide +kernel
theorem dD_init_21 : decode cD_init 21 = .ok (.putfield 19, 3) := by decide +kernel
theorem dD_init_24 : decode cD_init 24 = .ok (.aload_n 0, 1) := by decide +kernel
theorem dD_init_25 : decode cD_init 25 = .ok (.iconst 0, 1) := by decide +kernel
theorem dD_init_26 : decode cD_init 26 = .ok (.putfield 23, 3) := by decide +kernel
theorem dD_init_29 : decode cD_init 29 = .ok (.aload_n 0, 1) := by decide +kernel
theorem dD_init_30 : decode cD_init 30 = .ok (.iconst 0, 1) := by decide +kernel
theorem dD_init_31 : decode cD_init 31 = .ok (.putfield 26, 3) := by decide +kernel
theorem dD_init_34 : decode cD_init 34 = .ok (.aload_n 0, 1) := by decide +kernel
theorem dD_init_35 : decode cD_init 35 = .ok (.iconst 0, 1) := by decide +kernel
theorem dD_init_36 : decode cD_init 36 = .ok (.putfield 29, 3) := by decide +kernel
theorem dD_init_39 : decode cD_init 39 = .ok (.aload_n 0, 1) := by decide +kernel
theorem dD_init_40 : decode cD_init 40 = .ok (.lconst 1, 1) := by decide +kernel
theorem dD_init_41 : decode cD_init 41 = .ok (.putfield 32, 3) := by decide +kernel
theorem dD_init_44 : decode cD_init 44 = .ok (.aload_n 0, 1) := by decide +kernel
theorem dD_init_45 : decode cD_init 45 = .ok (.iconst 0, 1) := by decide +kernel
theorem dD_init_46 : decode cD_init 46 = .ok (.putfield 36, 3) := by decide +kernel
theorem dD_init_49 : decode cD_init 49 = .ok (.return_, 1) := by decide +kernel
abbrev cC_init : ByteArray := prog_1_method_1_code
abbrev yC_init : MethodName := ⟨"RationalForms", "<init>", "()V"⟩
abbrev wsC_init : List Cond := .code yC_init cC_init 2 none :: GG
theorem dC_init_0 : decode cC_init 0 = .ok (.aload_n 0, 1) := by decide +kernel
theorem dC_init_1 : decode cC_init 1 = .ok (.invokespecial 1, 3) := by decide +kernel
theorem dC_init_4 : decode cC_init 4 = .ok (.aload_n 0, 1) := by decide +kernel
theorem dC_init_5 : decode cC_init 5 = .ok (.iconst 2, 1) := by decide +kernel
theorem dC_init_6 : decode cC_init 6 = .ok (.anewarray 9, 3) := by decide +kernel
theorem dC_init_9 : decode cC_init 9 = .ok (.putfield 11, 3) := by decide +kernel
theorem dC_init_12 : decode cC_init 12 = .ok (.aload_n 0, 1) := by decide +kernel
theorem dC_init_13 : decode cC_init 13 = .ok (.iconst 2, 1) := by decide +kernel
theorem dC_init_14 : decode cC_init 14 = .ok (.anewarray 15, 3) := by decide +kernel
theorem dC_init_17 : decode cC_init 17 = .ok (.putfield 17, 3) := by decide +kernel
theorem dC_init_20 : decode cC_init 20 = .ok (.aload_n 0, 1) := by decide +kernel
theorem dC_init_21 : decode cC_init 21 = .ok (.new 21, 3) := by decide +kernel
theorem dC_init_24 : decode cC_init 24 = .ok (.dup, 1) := by decide +kernel
theorem dC_init_25 : decode cC_init 25 = .ok (.invokespecial 23, 3) := by decide +kernel
theorem dC_init_28 : decode cC_init 28 = .ok (.putfield 24, 3) := by decide +kernel
theorem dC_init_31 : decode cC_init 31 = .ok (.aload_n 0, 1) := by decide +kernel
theorem dC_init_32 : decode cC_init 32 = .ok (.iconst 4, 1) := by decide +kernel
theorem dC_init_33 : decode cC_init 33 = .ok (.newarray .int, 2) := by decide +kernel
theorem dC_init_35 : decode cC_init 35 = .ok (.putfield 28, 3) := by decide +kernel
theorem dC_init_38 : decode cC_init 38 = .ok (.iconst 0, 1) := by decide +kernel
theorem dC_init_39 : decode cC_init 39 = .ok (.istore_n 1, 1) := by decide +kernel
theorem dC_init_40 : decode cC_init 40 = .ok (.iload_n 1, 1) := by decide +kernel
theorem dC_init_41 : decode cC_init 41 = .ok (.iconst 2, 1) := by decide +kernel
theorem dC_init_42 : decode cC_init 42 = .ok (.if_icmp .ge 35, 3) := by decide +kernel
theorem dC_init_45 : decode cC_init 45 = .ok (.aload_n 0, 1) := by decide +kernel
theorem dC_init_46 : decode cC_init 46 = .ok (.getfield 11, 3) := by decide +kernel
theorem dC_init_49 : decode cC_init 49 = .ok (.iload_n 1, 1) := by decide +kernel
theorem dC_init_50 : decode cC_init 50 = .ok (.new 9, 3) := by decide +kernel
theorem dC_init_53 : decode cC_init 53 = .ok (.dup, 1) := by decide +kernel
theorem dC_init_54 : decode cC_init 54 = .ok (.invokespecial 32, 3) := by decide +kernel
theorem dC_init_57 : decode cC_init 57 = .ok (.aastore, 1) := by decide +kernel
theorem dC_init_58 : decode cC_init 58 = .ok (.aload_n 0, 1) := by decide +kernel
theorem dC_init_59 : decode cC_init 59 = .ok (.getfield 17, 3) := by decide +kernel
theorem dC_init_62 : decode cC_init 62 = .ok (.iload_n 1, 1) := by decide +kernel
theorem dC_init_63 : decode cC_init 63 = .ok (.new 15, 3) := by decide +kernel
theorem dC_init_66 : decode cC_init 66 = .ok (.dup, 1) := by decide +kernel
theorem dC_init_67 : decode cC_init 67 = .ok (.invokespecial 33, 3) := by decide +kernel
theorem dC_init_70 : decode cC_init 70 = .ok (.aastore, 1) := by decide +kernel
theorem dC_init_71 : decode cC_init 71 = .ok (.iinc 1 1, 3) := by decide +kernel
theorem dC_init_74 : decode cC_init 74 = .ok (.goto (-34), 3) := by decide +kernel
theorem dC_init_77 : decode cC_init 77 = .ok (.return_, 1) := by decide +kernel
abbrev cM_init : ByteArray := prog_8_method_1_code
abbrev yM_init : MethodName := ⟨"RationalFormsModel", "<init>", "()V"⟩
abbrev wsM_init : List Cond := .code yM_init cM_init 1 none :: GG
theorem dM_init_0 : decode cM_init 0 = .ok (.aload_n 0, 1) := by decide +kernel
theorem dM_init_1 : decode cM_init 1 = .ok (.invokespecial 1, 3) := by decide +kernel
theorem dM_init_4 : decode cM_init 4 = .ok (.aload_n 0, 1) := by decide +kernel
theorem dM_init_5 : decode cM_init 5 = .ok (.iconst 2, 1) := by decide +kernel
theorem dM_init_6 : decode cM_init 6 = .ok (.newarray .int, 2) := by decide +kernel
theorem dM_init_8 : decode cM_init 8 = .ok (.putfield 7, 3) := by decide +kernel
theorem dM_init_11 : decode cM_init 11 = .ok (.aload_n 0, 1) := by decide +kernel
theorem dM_init_12 : decode cM_init 12 = .ok (.bipush 32, 2) := by decide +kernel
theorem dM_init_14 : decode cM_init 14 = .ok (.newarray .int, 2) := by decide +kernel
theorem dM_init_16 : decode cM_init 16 = .ok (.putfield 13, 3) := by decide +kernel
theorem dM_init_19 : decode cM_init 19 = .ok (.aload_n 0, 1) := by decide +kernel
theorem dM_init_20 : decode cM_init 20 = .ok (.bipush 16, 2) := by decide +kernel
theorem dM_init_22 : decode cM_init 22 = .ok (.newarray .long, 2) := by decide +kernel
theorem dM_init_24 : decode cM_init 24 = .ok (.putfield 16, 3) := by decide +kernel
theorem dM_init_27 : decode cM_init 27 = .ok (.aload_n 0, 1) := by decide +kernel
theorem dM_init_28 : decode cM_init 28 = .ok (.iconst 5, 1) := by decide +kernel
theorem dM_init_29 : decode cM_init 29 = .ok (.newarray .long, 2) := by decide +kernel
theorem dM_init_31 : decode cM_init 31 = .ok (.putfield 20, 3) := by decide +kernel
theorem dM_init_34 : decode cM_init 34 = .ok (.aload_n 0, 1) := by decide +kernel
theorem dM_init_35 : decode cM_init 35 = .ok (.bipush 60, 2) := by decide +kernel
theorem dM_init_37 : decode cM_init 37 = .ok (.newarray .long, 2) := by decide +kernel
theorem dM_init_39 : decode cM_init 39 = .ok (.putfield 23, 3) := by decide +kernel
theorem dM_init_42 : decode cM_init 42 = .ok (.aload_n 0, 1) := by decide +kernel
theorem dM_init_43 : decode cM_init 43 = .ok (.bipush 60, 2) := by decide +kernel
theorem dM_init_45 : decode cM_init 45 = .ok (.newarray .int, 2) := by decide +kernel
theorem dM_init_47 : decode cM_init 47 = .ok (.putfield 26, 3) := by decide +kernel
theorem dM_init_50 : decode cM_init 50 = .ok (.aload_n 0, 1) := by decide +kernel
theorem dM_init_51 : decode cM_init 51 = .ok (.getfield 7, 3) := by decide +kernel
theorem dM_init_54 : decode cM_init 54 = .ok (.iconst 0, 1) := by decide +kernel
theorem dM_init_55 : decode cM_init 55 = .ok (.iconst 1, 1) := by decide +kernel
theorem dM_init_56 : decode cM_init 56 = .ok (.iastore, 1) := by decide +kernel
theorem dM_init_57 : decode cM_init 57 = .ok (.aload_n 0, 1) := by decide +kernel
theorem dM_init_58 : decode cM_init 58 = .ok (.getfield 7, 3) := by decide +kernel
theorem dM_init_61 : decode cM_init 61 = .ok (.iconst 1, 1) := by decide +kernel
theorem dM_init_62 : decode cM_init 62 = .ok (.iconst 1, 1) := by decide +kernel
theorem dM_init_63 : decode cM_init 63 = .ok (.iastore, 1) := by decide +kernel
theorem dM_init_64 : decode cM_init 64 = .ok (.return_, 1) := by decide +kernel
set_option maxRecDepth 20000 in
theorem wd20 : Cond.methodLink "RationalForms" 1 Lib.objectInit ∈ GG := GG_t 20 rfl rfl
set_option maxRecDepth 20000 in
theorem wd21 : Cond.instanceMethod Lib.objectInit ∈ GG := GG_t 21 rfl rfl
set_option maxRecDepth 20000 in
theorem wd22 : Cond.code Lib.objectInit ⟨#[0xb1]⟩ 1 none ∈ GG := GG_t 22 rfl rfl
set_option maxRecDepth 20000 in
theorem wd23 : Cond.classLink "RationalForms" 9 "RationalForms$Form" ∈ GG := GG_t 23 rfl rfl
set_option maxRecDepth 20000 in
theorem wd25 : Cond.classLink "RationalForms" 15 "RationalForms$Diagonal" ∈ GG := GG_t 25 rfl rfl
set_option maxRecDepth 20000 in
theorem wd27 : Cond.classLink "RationalForms" 21 "RationalForms$Reduction" ∈ GG := GG_t 27 rfl rfl
set_option maxRecDepth 20000 in
theorem wd28 : Cond.instantiable "RationalForms$Reduction" 2 ∈ GG := GG_t 28 rfl rfl
set_option maxRecDepth 20000 in
theorem wd29 : Cond.methodLinkNest "RationalForms" 23 yR_init "RationalForms" ∈ GG := GG_t 29 rfl rfl
set_option maxRecDepth 20000 in
theorem wd30 : Cond.instanceMethod yR_init ∈ GG := GG_t 30 rfl rfl
set_option maxRecDepth 20000 in
theorem wd31 : Cond.code yR_init cR_init 1 none ∈ GG := GG_t 31 rfl rfl
set_option maxRecDepth 20000 in
theorem wd32 : Cond.methodLink "RationalForms$Reduction" 3 Lib.objectInit ∈ GG := GG_t 32 rfl rfl
set_option maxRecDepth 20000 in
theorem wd33 : Cond.classLink "RationalForms$Reduction" 9 "[[J" ∈ GG := GG_t 33 rfl rfl
set_option maxRecDepth 20000 in
theorem wd42 : Cond.arrayClass .long ∈ GG := GG_t 42 rfl rfl
set_option maxRecDepth 20000 in
theorem wd43 : Cond.instantiable "RationalForms$Form" 2 ∈ GG := GG_t 43 rfl rfl
set_option maxRecDepth 20000 in
theorem wd44 : Cond.methodLinkNest "RationalForms" 32 yF_init "RationalForms" ∈ GG := GG_t 44 rfl rfl
set_option maxRecDepth 20000 in
theorem wd45 : Cond.instanceMethod yF_init ∈ GG := GG_t 45 rfl rfl
set_option maxRecDepth 20000 in
theorem wd458 : Cond.methodLink "RationalFormsModel" 1 Lib.objectInit ∈ GG := GG_t 458 rfl rfl
set_option maxRecDepth 20000 in
theorem wd46 : Cond.code yF_init cF_init 1 none ∈ GG := GG_t 46 rfl rfl
set_option maxRecDepth 20000 in
theorem wd47 : Cond.methodLink "RationalForms$Form" 3 Lib.objectInit ∈ GG := GG_t 47 rfl rfl
set_option maxRecDepth 20000 in
theorem wd48 : Cond.classLink "RationalForms$Form" 15 "[[I" ∈ GG := GG_t 48 rfl rfl
set_option maxRecDepth 20000 in
theorem wd60 : Cond.arrayClass .int ∈ GG := GG_t 60 rfl rfl
set_option maxRecDepth 20000 in
theorem wd61 : Cond.instantiable "RationalForms$Diagonal" 8 ∈ GG := GG_t 61 rfl rfl
set_option maxRecDepth 20000 in
theorem wd62 : Cond.methodLinkNest "RationalForms" 33 yD_init "RationalForms" ∈ GG := GG_t 62 rfl rfl
set_option maxRecDepth 20000 in
theorem wd63 : Cond.instanceMethod yD_init ∈ GG := GG_t 63 rfl rfl
set_option maxRecDepth 20000 in
theorem wd64 : Cond.code yD_init cD_init 1 none ∈ GG := GG_t 64 rfl rfl
set_option maxRecDepth 20000 in
theorem wd65 : Cond.methodLink "RationalForms$Diagonal" 3 Lib.objectInit ∈ GG := GG_t 65 rfl rfl
set_option maxHeartbeats 4000000 in
set_option maxRecDepth 100000 in
theorem kF_init (l : Launch) (D : va_G) (cs : Nat → ClassId) (a : Nat) : CT l yF_init wsF_init { frames := 1, cells := 5, slots := 20, locals := 12 } D cs a (.inr (1, [.int 0, .null])) [.inr (1, [.int (ji 1), .ref (a + 1)]), qA (cs 2) 4 (fun j => some (a + 2 + j)), iA (cs 0) 4 (fun _ => 0), iA (cs 0) 4 (fun _ => 0), iA (cs 0) 4 (fun _ => 0), iA (cs 0) 4 (fun _ => 0)] 5 20 := by
  refine CT.ofG (by decide) rfl (Nat.le_of_ble_eq_true rfl) ?_
  intro p e s m args below meth c hx hb hml hr hk hin hg hown hK hAO hP hS ls hl
  have hl : lv_has ls 1 [(0, .ref a)] := hl
  refine lv_aload_n hx hb dF_init_0 rfl (lv_at hl 0 rfl) ?_
  refine W.objInit hx hb hown (hg _ wd47) (hg _ wd21) (hg _ wd22) rfl (by rw [hml]; exact hl.1) rfl dF_init_1 (Nat.le_of_ble_eq_true rfl) (Nat.le_of_ble_eq_true rfl) ?_
  refine W.eq (g2 := F0 m 4 ls []) rfl ?_
  refine lv_aload_n hx hb dF_init_4 rfl (lv_at hl 0 rfl) ?_
  refine j_iconst hx hb dF_init_5 ?_
  refine n_put (own := "RationalForms$Form") (C := "RationalForms$Form") (T := TxF) (N := 2) (ci := 1) (k := 0) (fs := [.int 0, .null]) (ty := .int) (v := .int (ji 1)) hx hb hg uwF txF txF_ok nmF hown hK hP hS rfl rfl 0 (by decide) wd50 rfl (by decide +kernel) rfl rfl (Nat.le_of_ble_eq_true rfl) dF_init_6 (fun H locs hP hS => ?_)
  have hP : nP D a [.inr (1, [.int (ji 1), .null])] H := hP
  refine lv_aload_n hx hb dF_init_9 rfl (lv_at hl 0 rfl) ?_
  refine j_iconst hx hb dF_init_10 ?_
  refine j_iconst hx hb dF_init_11 ?_
  refine n_mnaI hx hb hg hown wd48 hAO.1 wd60 hK hP hS (Nat.le_of_ble_eq_true rfl) (Nat.le_of_ble_eq_true rfl) dF_init_12 (fun H hP hS => ?_)
  have hP : nP D a [.inr (1, [.int (ji 1), .null]), qA (cs 2) 4 (fun j => some (a + 2 + j)), iA (cs 0) 4 (fun _ => 0), iA (cs 0) 4 (fun _ => 0), iA (cs 0) 4 (fun _ => 0), iA (cs 0) 4 (fun _ => 0)] H := hP
  refine W.eq (g2 := F0 m 16 ls [.ref (a + 1), .ref a]) rfl ?_
  refine n_putF (own := "RationalForms$Form") (C := "RationalForms$Form") (T := TxF) (N := 2) (ci := 1) (k := 0) (fs := [.int (ji 1), .null]) (ty := .array (.array .int)) (v := .ref (a + 1)) hx hb hg uwF txF txF_ok nmF hown hK hP hS rfl rfl 1 (by decide) wd53 rfl hin rfl (by decide +kernel) rfl rfl (Nat.le_of_ble_eq_true rfl) dF_init_16 (fun H locs hP hS => ?_)
  have hP : nP D a [.inr (1, [.int (ji 1), .ref (a + 1)]), qA (cs 2) 4 (fun j => some (a + 2 + j)), iA (cs 0) 4 (fun _ => 0), iA (cs 0) 4 (fun _ => 0), iA (cs 0) 4 (fun _ => 0), iA (cs 0) 4 (fun _ => 0)] H := hP
  exact n_vret hx hb hr hk hP hS dF_init_19

set_option maxHeartbeats 4000000 in
set_option maxRecDepth 100000 in
theorem kR_init (l : Launch) (D : va_G) (cs : Nat → ClassId) (a : Nat) : CT l yR_init wsR_init { frames := 1, cells := 5, slots := 20, locals := 12 } D cs a (.inr (2, [.null, .int 0])) [.inr (2, [.ref (a + 1), .int (ji 0)]), qA (cs 3) 4 (fun j => some (a + 2 + j)), lA (cs 1) 4 (fun _ => 0), lA (cs 1) 4 (fun _ => 0), lA (cs 1) 4 (fun _ => 0), lA (cs 1) 4 (fun _ => 0)] 5 20 := by
  refine CT.ofG (by decide) rfl (Nat.le_of_ble_eq_true rfl) ?_
  intro p e s m args below meth c hx hb hml hr hk hin hg hown hK hAO hP hS ls hl
  have hl : lv_has ls 1 [(0, .ref a)] := hl
  refine lv_aload_n hx hb dR_init_0 rfl (lv_at hl 0 rfl) ?_
  refine W.objInit hx hb hown (hg _ wd32) (hg _ wd21) (hg _ wd22) rfl (by rw [hml]; exact hl.1) rfl dR_init_1 (Nat.le_of_ble_eq_true rfl) (Nat.le_of_ble_eq_true rfl) ?_
  refine W.eq (g2 := F0 m 4 ls []) rfl ?_
  refine lv_aload_n hx hb dR_init_4 rfl (lv_at hl 0 rfl) ?_
  refine j_iconst hx hb dR_init_5 ?_
  refine j_iconst hx hb dR_init_6 ?_
  refine n_mnaL hx hb hg hown wd33 hAO.2.1 wd42 hK hP hS (Nat.le_of_ble_eq_true rfl) (Nat.le_of_ble_eq_true rfl) dR_init_7 (fun H hP hS => ?_)
  have hP : nP D a [.inr (2, [.null, .int 0]), qA (cs 3) 4 (fun j => some (a + 2 + j)), lA (cs 1) 4 (fun _ => 0), lA (cs 1) 4 (fun _ => 0), lA (cs 1) 4 (fun _ => 0), lA (cs 1) 4 (fun _ => 0)] H := hP
  refine W.eq (g2 := F0 m 11 ls [.ref (a + 1), .ref a]) rfl ?_
  refine n_putF (own := "RationalForms$Reduction") (C := "RationalForms$Reduction") (T := TxR) (N := 2) (ci := 2) (k := 0) (fs := [.null, .int 0]) (ty := .array (.array .long)) (v := .ref (a + 1)) hx hb hg uwR txR txR_ok nmR hown hK hP hS rfl rfl 0 (by decide) wd35 rfl hin rfl (by decide +kernel) rfl rfl (Nat.le_of_ble_eq_true rfl) dR_init_11 (fun H locs hP hS => ?_)
  have hP : nP D a [.inr (2, [.ref (a + 1), .int 0]), qA (cs 3) 4 (fun j => some (a + 2 + j)), lA (cs 1) 4 (fun _ => 0), lA (cs 1) 4 (fun _ => 0), lA (cs 1) 4 (fun _ => 0), lA (cs 1) 4 (fun _ => 0)] H := hP
  refine lv_aload_n hx hb dR_init_14 rfl (lv_at hl 0 rfl) ?_
  refine j_iconst hx hb dR_init_15 ?_
  refine n_put (own := "RationalForms$Reduction") (C := "RationalForms$Reduction") (T := TxR) (N := 2) (ci := 2) (k := 0) (fs := [.ref (a + 1), .int 0]) (ty := .int) (v := .int (ji 0)) hx hb hg uwR txR txR_ok nmR hown hK hP hS rfl rfl 1 (by decide) wd36 rfl (by decide +kernel) rfl rfl (Nat.le_of_ble_eq_true rfl) dR_init_16 (fun H locs hP hS => ?_)
  have hP : nP D a [.inr (2, [.ref (a + 1), .int (ji 0)]), qA (cs 3) 4 (fun j => some (a + 2 + j)), lA (cs 1) 4 (fun _ => 0), lA (cs 1) 4 (fun _ => 0), lA (cs 1) 4 (fun _ => 0), lA (cs 1) 4 (fun _ => 0)] H := hP
  exact n_vret hx hb hr hk hP hS dR_init_19

set_option maxHeartbeats 4000000 in
set_option maxRecDepth 100000 in
theorem kD_init (l : Launch) (D : va_G) (cs : Nat → ClassId) (a : Nat) : CT l yD_init wsD_init { frames := 1, cells := 2, slots := 37, locals := 12 } D cs a (.inr (0, [.null, .null, .int 0, .int 0, .int 0, .int 0, .long 0, .int 0])) [.inr (0, [.ref (a + 1), .ref (a + 2), .int (ji 1), .int (ji 0), .int (ji 0), .int (ji 0), .long (jl 1), .int (ji 0)]), lA (cs 1) 5 (fun _ => 0), iA (cs 0) 32 (fun _ => 0)] 2 37 := by
  refine CT.ofG (by decide) rfl (Nat.le_of_ble_eq_true rfl) ?_
  intro p e s m args below meth c hx hb hml hr hk hin hg hown hK hAO hP hS ls hl
  have hl : lv_has ls 1 [(0, .ref a)] := hl
  refine lv_aload_n hx hb dD_init_0 rfl (lv_at hl 0 rfl) ?_
  refine W.objInit hx hb hown (hg _ wd65) (hg _ wd21) (hg _ wd22) rfl (by rw [hml]; exact hl.1) rfl dD_init_1 (Nat.le_of_ble_eq_true rfl) (Nat.le_of_ble_eq_true rfl) ?_
  refine W.eq (g2 := F0 m 4 ls []) rfl ?_
  refine lv_aload_n hx hb dD_init_4 rfl (lv_at hl 0 rfl) ?_
  refine j_iconst hx hb dD_init_5 ?_
  refine n_newL (N := 5) hx hb hg wd42 hK hP hS (by decide) (by decide) (by decide) (Nat.le_of_ble_eq_true rfl) (Nat.le_of_ble_eq_true rfl) dD_init_6 (fun H hP hS => ?_)
  have hP : nP D a [.inr (0, [.null, .null, .int 0, .int 0, .int 0, .int 0, .long 0, .int 0]), lA (cs 1) 5 (fun _ => 0)] H := hP
  refine W.eq (g2 := F0 m 8 ls [.ref (a + 1), .ref a]) rfl ?_
  refine n_putF (own := "RationalForms$Diagonal") (C := "RationalForms$Diagonal") (T := TxD) (N := 8) (ci := 0) (k := 0) (fs := [.null, .null, .int 0, .int 0, .int 0, .int 0, .long 0, .int 0]) (ty := .array .long) (v := .ref (a + 1)) hx hb hg uwD txD txD_ok nmD hown hK hP hS rfl rfl 0 (by decide) wd66 rfl hin rfl (by decide +kernel) rfl rfl (Nat.le_of_ble_eq_true rfl) dD_init_8 (fun H locs hP hS => ?_)
  have hP : nP D a [.inr (0, [.ref (a + 1), .null, .int 0, .int 0, .int 0, .int 0, .long 0, .int 0]), lA (cs 1) 5 (fun _ => 0)] H := hP
  refine lv_aload_n hx hb dD_init_11 rfl (lv_at hl 0 rfl) ?_
  refine j_bipush hx hb dD_init_12 rfl ?_
  refine n_newI (N := 32) hx hb hg wd60 hK hP hS (by decide) (by decide) (by decide) (Nat.le_of_ble_eq_true rfl) (Nat.le_of_ble_eq_true rfl) dD_init_14 (fun H hP hS => ?_)
  have hP : nP D a [.inr (0, [.ref (a + 1), .null, .int 0, .int 0, .int 0, .int 0, .long 0, .int 0]), lA (cs 1) 5 (fun _ => 0), iA (cs 0) 32 (fun _ => 0)] H := hP
  refine W.eq (g2 := F0 m 16 ls [.ref (a + 2), .ref a]) rfl ?_
  refine n_putF (own := "RationalForms$Diagonal") (C := "RationalForms$Diagonal") (T := TxD) (N := 8) (ci := 0) (k := 0) (fs := [.ref (a + 1), .null, .int 0, .int 0, .int 0, .int 0, .long 0, .int 0]) (ty := .array .int) (v := .ref (a + 2)) hx hb hg uwD txD txD_ok nmD hown hK hP hS rfl rfl 1 (by decide) wd67 rfl hin rfl (by decide +kernel) rfl rfl (Nat.le_of_ble_eq_true rfl) dD_init_16 (fun H locs hP hS => ?_)
  have hP : nP D a [.inr (0, [.ref (a + 1), .ref (a + 2), .int 0, .int 0, .int 0, .int 0, .long 0, .int 0]), lA (cs 1) 5 (fun _ => 0), iA (cs 0) 32 (fun _ => 0)] H := hP
  refine lv_aload_n hx hb dD_init_19 rfl (lv_at hl 0 rfl) ?_
  refine j_iconst hx hb dD_init_20 ?_
  refine n_put (own := "RationalForms$Diagonal") (C := "RationalForms$Diagonal") (T := TxD) (N := 8) (ci := 0) (k := 0) (fs := [.ref (a + 1), .ref (a + 2), .int 0, .int 0, .int 0, .int 0, .long 0, .int 0]) (ty := .int) (v := .int (ji 1)) hx hb hg uwD txD txD_ok nmD hown hK hP hS rfl rfl 2 (by decide) wd68 rfl (by decide +kernel) rfl rfl (Nat.le_of_ble_eq_true rfl) dD_init_21 (fun H locs hP hS => ?_)
  have hP : nP D a [.inr (0, [.ref (a + 1), .ref (a + 2), .int (ji 1), .int 0, .int 0, .int 0, .long 0, .int 0]), lA (cs 1) 5 (fun _ => 0), iA (cs 0) 32 (fun _ => 0)] H := hP
  refine lv_aload_n hx hb dD_init_24 rfl (lv_at hl 0 rfl) ?_
  refine j_iconst hx hb dD_init_25 ?_
  refine n_put (own := "RationalForms$Diagonal") (C := "RationalForms$Diagonal") (T := TxD) (N := 8) (ci := 0) (k := 0) (fs := [.ref (a + 1), .ref (a + 2), .int (ji 1), .int 0, .int 0, .int 0, .long 0, .int 0]) (ty := .int) (v := .int (ji 0)) hx hb hg uwD txD txD_ok nmD hown hK hP hS rfl rfl 3 (by decide) wd70 rfl (by decide +kernel) rfl rfl (Nat.le_of_ble_eq_true rfl) dD_init_26 (fun H locs hP hS => ?_)
  have hP : nP D a [.inr (0, [.ref (a + 1), .ref (a + 2), .int (ji 1), .int (ji 0), .int 0, .int 0, .long 0, .int 0]), lA (cs 1) 5 (fun _ => 0), iA (cs 0) 32 (fun _ => 0)] H := hP
  refine lv_aload_n hx hb dD_init_29 rfl (lv_at hl 0 rfl) ?_
  refine j_iconst hx hb dD_init_30 ?_
  refine n_put (own := "RationalForms$Diagonal") (C := "RationalForms$Diagonal") (T := TxD) (N := 8) (ci := 0) (k := 0) (fs := [.ref (a + 1), .ref (a + 2), .int (ji 1), .int (ji 0), .int 0, .int 0, .long 0, .int 0]) (ty := .int) (v := .int (ji 0)) hx hb hg uwD txD txD_ok nmD hown hK hP hS rfl rfl 4 (by decide) wd72 rfl (by decide +kernel) rfl rfl (Nat.le_of_ble_eq_true rfl) dD_init_31 (fun H locs hP hS => ?_)
  have hP : nP D a [.inr (0, [.ref (a + 1), .ref (a + 2), .int (ji 1), .int (ji 0), .int (ji 0), .int 0, .long 0, .int 0]), lA (cs 1) 5 (fun _ => 0), iA (cs 0) 32 (fun _ => 0)] H := hP
  refine lv_aload_n hx hb dD_init_34 rfl (lv_at hl 0 rfl) ?_
  refine j_iconst hx hb dD_init_35 ?_
  refine n_put (own := "RationalForms$Diagonal") (C := "RationalForms$Diagonal") (T := TxD) (N := 8) (ci := 0) (k := 0) (fs := [.ref (a + 1), .ref (a + 2), .int (ji 1), .int (ji 0), .int (ji 0), .int 0, .long 0, .int 0]) (ty := .int) (v := .int (ji 0)) hx hb hg uwD txD txD_ok nmD hown hK hP hS rfl rfl 5 (by decide) wd74 rfl (by decide +kernel) rfl rfl (Nat.le_of_ble_eq_true rfl) dD_init_36 (fun H locs hP hS => ?_)
  have hP : nP D a [.inr (0, [.ref (a + 1), .ref (a + 2), .int (ji 1), .int (ji 0), .int (ji 0), .int (ji 0), .long 0, .int 0]), lA (cs 1) 5 (fun _ => 0), iA (cs 0) 32 (fun _ => 0)] H := hP
  refine lv_aload_n hx hb dD_init_39 rfl (lv_at hl 0 rfl) ?_
  refine j_lconst1 hx hb dD_init_40 ?_
  refine n_put (own := "RationalForms$Diagonal") (C := "RationalForms$Diagonal") (T := TxD) (N := 8) (ci := 0) (k := 0) (fs := [.ref (a + 1), .ref (a + 2), .int (ji 1), .int (ji 0), .int (ji 0), .int (ji 0), .long 0, .int 0]) (ty := .long) (v := .long (jl 1)) hx hb hg uwD txD txD_ok nmD hown hK hP hS rfl rfl 6 (by decide) wd76 rfl (by decide +kernel) rfl rfl (Nat.le_of_ble_eq_true rfl) dD_init_41 (fun H locs hP hS => ?_)
  have hP : nP D a [.inr (0, [.ref (a + 1), .ref (a + 2), .int (ji 1), .int (ji 0), .int (ji 0), .int (ji 0), .long (jl 1), .int 0]), lA (cs 1) 5 (fun _ => 0), iA (cs 0) 32 (fun _ => 0)] H := hP
  refine lv_aload_n hx hb dD_init_44 rfl (lv_at hl 0 rfl) ?_
  refine j_iconst hx hb dD_init_45 ?_
  refine n_put (own := "RationalForms$Diagonal") (C := "RationalForms$Diagonal") (T := TxD) (N := 8) (ci := 0) (k := 0) (fs := [.ref (a + 1), .ref (a + 2), .int (ji 1), .int (ji 0), .int (ji 0), .int (ji 0), .long (jl 1), .int 0]) (ty := .int) (v := .int (ji 0)) hx hb hg uwD txD txD_ok nmD hown hK hP hS rfl rfl 7 (by decide) wd78 rfl (by decide +kernel) rfl rfl (Nat.le_of_ble_eq_true rfl) dD_init_46 (fun H locs hP hS => ?_)
  have hP : nP D a [.inr (0, [.ref (a + 1), .ref (a + 2), .int (ji 1), .int (ji 0), .int (ji 0), .int (ji 0), .long (jl 1), .int (ji 0)]), lA (cs 1) 5 (fun _ => 0), iA (cs 0) 32 (fun _ => 0)] H := hP
  exact n_vret hx hb hr hk hP hS dD_init_49

set_option maxHeartbeats 4000000 in
set_option maxRecDepth 100000 in
theorem kC_init (l : Launch) (D : va_G) (cs : Nat → ClassId) (a : Nat) : CT l yC_init wsC_init { frames := 2, cells := 27, slots := 164, locals := 40 } D cs a (.inr (3, [.null, .null, .null, .null])) [.inr (3, [.ref (a + 1), .ref (a + 2), .ref (a + 3), .ref (a + 9)]), qA (cs 4) 2 (fun j => if j = 1 then some (a + 19) else if j = 0 then some (a + 10) else none), qA (cs 5) 2 (fun j => if j = 1 then some (a + 25) else if j = 0 then some (a + 16) else none), .inr (2, [.ref (a + 4), .int (ji 0)]), qA (cs 3) 4 (fun j => some (a + 5 + j)), lA (cs 1) 4 (fun _ => 0), lA (cs 1) 4 (fun _ => 0), lA (cs 1) 4 (fun _ => 0), lA (cs 1) 4 (fun _ => 0), iA (cs 0) 4 (fun _ => 0), .inr (1, [.int (ji 1), .ref (a + 11)]), qA (cs 2) 4 (fun j => some (a + 12 + j)), iA (cs 0) 4 (fun _ => 0), iA (cs 0) 4 (fun _ => 0), iA (cs 0) 4 (fun _ => 0), iA (cs 0) 4 (fun _ => 0), .inr (0, [.ref (a + 17), .ref (a + 18), .int (ji 1), .int (ji 0), .int (ji 0), .int (ji 0), .long (jl 1), .int (ji 0)]), lA (cs 1) 5 (fun _ => 0), iA (cs 0) 32 (fun _ => 0), .inr (1, [.int (ji 1), .ref (a + 20)]), qA (cs 2) 4 (fun j => some (a + 21 + j)), iA (cs 0) 4 (fun _ => 0), iA (cs 0) 4 (fun _ => 0), iA (cs 0) 4 (fun _ => 0), iA (cs 0) 4 (fun _ => 0), .inr (0, [.ref (a + 26), .ref (a + 27), .int (ji 1), .int (ji 0), .int (ji 0), .int (ji 0), .long (jl 1), .int (ji 0)]), lA (cs 1) 5 (fun _ => 0), iA (cs 0) 32 (fun _ => 0)] 27 164 := by
  refine CT.ofG (by decide) rfl (Nat.le_of_ble_eq_true rfl) ?_
  intro p e s m args below meth c hx hb hml hr hk hin hg hown hK hAO hP hS ls hl
  have hl : lv_has ls 2 [(0, .ref a)] := hl
  refine lv_aload_n hx hb dC_init_0 rfl (lv_at hl 0 rfl) ?_
  refine W.objInit hx hb hown (hg _ wd20) (hg _ wd21) (hg _ wd22) rfl (by rw [hml]; exact hl.1) rfl dC_init_1 (Nat.le_of_ble_eq_true rfl) (Nat.le_of_ble_eq_true rfl) ?_
  refine W.eq (g2 := F0 m 4 ls []) rfl ?_
  refine lv_aload_n hx hb dC_init_4 rfl (lv_at hl 0 rfl) ?_
  refine j_iconst hx hb dC_init_5 ?_
  refine n_newQ (C := "RationalForms$Form") (t0 := 4) (N := 2) hx hb hg hown wd23 hAO.2.2.1 hK rfl hP hS (by decide) (by decide) (by decide) (Nat.le_of_ble_eq_true rfl) (Nat.le_of_ble_eq_true rfl) dC_init_6 (fun H hP hS => ?_)
  have hP : nP D a [.inr (3, [.null, .null, .null, .null]), qA (cs 4) 2 (fun _ => none)] H := hP
  refine W.eq (g2 := F0 m 9 ls [.ref (a + 1), .ref a]) rfl ?_
  refine n_putF (own := "RationalForms") (C := "RationalForms") (T := TxC) (N := 4) (ci := 3) (k := 0) (fs := [.null, .null, .null, .null]) (ty := .array (.object "RationalForms$Form")) (v := .ref (a + 1)) hx hb hg uwC txC txC_ok nmC hown hK hP hS rfl rfl 0 (by decide) wd96 rfl hin rfl (by decide +kernel) rfl rfl (Nat.le_of_ble_eq_true rfl) dC_init_9 (fun H locs hP hS => ?_)
  have hP : nP D a [.inr (3, [.ref (a + 1), .null, .null, .null]), qA (cs 4) 2 (fun _ => none)] H := hP
  refine lv_aload_n hx hb dC_init_12 rfl (lv_at hl 0 rfl) ?_
  refine j_iconst hx hb dC_init_13 ?_
  refine n_newQ (C := "RationalForms$Diagonal") (t0 := 5) (N := 2) hx hb hg hown wd25 hAO.2.2.2 hK rfl hP hS (by decide) (by decide) (by decide) (Nat.le_of_ble_eq_true rfl) (Nat.le_of_ble_eq_true rfl) dC_init_14 (fun H hP hS => ?_)
  have hP : nP D a [.inr (3, [.ref (a + 1), .null, .null, .null]), qA (cs 4) 2 (fun _ => none), qA (cs 5) 2 (fun _ => none)] H := hP
  refine W.eq (g2 := F0 m 17 ls [.ref (a + 2), .ref a]) rfl ?_
  refine n_putF (own := "RationalForms") (C := "RationalForms") (T := TxC) (N := 4) (ci := 3) (k := 0) (fs := [.ref (a + 1), .null, .null, .null]) (ty := .array (.object "RationalForms$Diagonal")) (v := .ref (a + 2)) hx hb hg uwC txC txC_ok nmC hown hK hP hS rfl rfl 1 (by decide) wd97 rfl hin rfl (by decide +kernel) rfl rfl (Nat.le_of_ble_eq_true rfl) dC_init_17 (fun H locs hP hS => ?_)
  have hP : nP D a [.inr (3, [.ref (a + 1), .ref (a + 2), .null, .null]), qA (cs 4) 2 (fun _ => none), qA (cs 5) 2 (fun _ => none)] H := hP
  refine lv_aload_n hx hb dC_init_20 rfl (lv_at hl 0 rfl) ?_
  refine n_new (own := "RationalForms") (C := "RationalForms$Reduction") (T := TxR) (N := 2) (ci := 2) (fs := [.null, .int 0]) hx hb hg uwR txR txR_ok hown wd27 wd28 wd2 hK hP hS rfl (fun j hj => by rcases (show j = 0 ∨ j = 1 by omega) with rfl | rfl <;> rfl) (Nat.le_of_ble_eq_true rfl) (Nat.le_of_ble_eq_true rfl) dC_init_21 (fun H hP hS => ?_)
  have hP : nP D a [.inr (3, [.ref (a + 1), .ref (a + 2), .null, .null]), qA (cs 4) 2 (fun _ => none), qA (cs 5) 2 (fun _ => none), .inr (2, [.null, .int 0])] H := hP
  refine W.eq (g2 := F0 m 24 ls [.ref (a + 3), .ref a]) rfl ?_
  refine lv_dup hx hb dC_init_24 rfl ?_
  refine n_callN (L := [.inr (3, [.ref (a + 1), .ref (a + 2), .null, .null]), qA (cs 4) 2 (fun _ => none), qA (cs 5) 2 (fun _ => none)]) (e0 := .inr (2, [.null, .int 0])) (rest := [.ref (a + 3), .ref a]) hx hb hml hown hg hl hK hAO hP hS (kR_init l D cs (a + 3)) wd29 rfl wd30 wd2 wd31 ⟨rfl, rfl⟩ (by decide +kernel) ⟨Nat.le_of_ble_eq_true rfl, Nat.le_of_ble_eq_true rfl⟩ rfl (Nat.le_of_ble_eq_true rfl) dC_init_25 ⟨(Nat.le_of_ble_eq_true rfl), (Nat.le_of_ble_eq_true rfl)⟩ (fun H locs hP hS => ?_)
  have hP : nP D a [.inr (3, [.ref (a + 1), .ref (a + 2), .null, .null]), qA (cs 4) 2 (fun _ => none), qA (cs 5) 2 (fun _ => none), .inr (2, [.ref (a + 4), .int (ji 0)]), qA (cs 3) 4 (fun j => some (a + 5 + j)), lA (cs 1) 4 (fun _ => 0), lA (cs 1) 4 (fun _ => 0), lA (cs 1) 4 (fun _ => 0), lA (cs 1) 4 (fun _ => 0)] H := hP
  refine n_putF (own := "RationalForms") (C := "RationalForms") (T := TxC) (N := 4) (ci := 3) (k := 0) (fs := [.ref (a + 1), .ref (a + 2), .null, .null]) (ty := .object "RationalForms$Reduction") (v := .ref (a + 3)) hx hb hg uwC txC txC_ok nmC hown hK hP hS rfl rfl 2 (by decide) wd98 rfl hin rfl (by decide +kernel) rfl rfl (Nat.le_of_ble_eq_true rfl) dC_init_28 (fun H locs hP hS => ?_)
  have hP : nP D a [.inr (3, [.ref (a + 1), .ref (a + 2), .ref (a + 3), .null]), qA (cs 4) 2 (fun _ => none), qA (cs 5) 2 (fun _ => none), .inr (2, [.ref (a + 4), .int (ji 0)]), qA (cs 3) 4 (fun j => some (a + 5 + j)), lA (cs 1) 4 (fun _ => 0), lA (cs 1) 4 (fun _ => 0), lA (cs 1) 4 (fun _ => 0), lA (cs 1) 4 (fun _ => 0)] H := hP
  refine lv_aload_n hx hb dC_init_31 rfl (lv_at hl 0 rfl) ?_
  refine j_iconst hx hb dC_init_32 ?_
  refine n_newI (N := 4) hx hb hg wd60 hK hP hS (by decide) (by decide) (by decide) (Nat.le_of_ble_eq_true rfl) (Nat.le_of_ble_eq_true rfl) dC_init_33 (fun H hP hS => ?_)
  have hP : nP D a [.inr (3, [.ref (a + 1), .ref (a + 2), .ref (a + 3), .null]), qA (cs 4) 2 (fun _ => none), qA (cs 5) 2 (fun _ => none), .inr (2, [.ref (a + 4), .int (ji 0)]), qA (cs 3) 4 (fun j => some (a + 5 + j)), lA (cs 1) 4 (fun _ => 0), lA (cs 1) 4 (fun _ => 0), lA (cs 1) 4 (fun _ => 0), lA (cs 1) 4 (fun _ => 0), iA (cs 0) 4 (fun _ => 0)] H := hP
  refine W.eq (g2 := F0 m 35 ls [.ref (a + 9), .ref a]) rfl ?_
  refine n_putF (own := "RationalForms") (C := "RationalForms") (T := TxC) (N := 4) (ci := 3) (k := 0) (fs := [.ref (a + 1), .ref (a + 2), .ref (a + 3), .null]) (ty := .array .int) (v := .ref (a + 9)) hx hb hg uwC txC txC_ok nmC hown hK hP hS rfl rfl 3 (by decide) wd99 rfl hin rfl (by decide +kernel) rfl rfl (Nat.le_of_ble_eq_true rfl) dC_init_35 (fun H locs hP hS => ?_)
  have hP : nP D a [.inr (3, [.ref (a + 1), .ref (a + 2), .ref (a + 3), .ref (a + 9)]), qA (cs 4) 2 (fun _ => none), qA (cs 5) 2 (fun _ => none), .inr (2, [.ref (a + 4), .int (ji 0)]), qA (cs 3) 4 (fun j => some (a + 5 + j)), lA (cs 1) 4 (fun _ => 0), lA (cs 1) 4 (fun _ => 0), lA (cs 1) 4 (fun _ => 0), lA (cs 1) 4 (fun _ => 0), iA (cs 0) 4 (fun _ => 0)] H := hP
  refine j_iconst hx hb dC_init_38 ?_
  refine lv_istore_n hx hb dC_init_39 rfl hl (by decide) rfl (fun ls hl => ?_)
  have hl : lv_has ls 2 [(1, .int (ji 0)), (0, .ref a)] := hl
  refine lv_iload_n hx hb dC_init_40 rfl (lv_at hl 0 rfl) ?_
  refine j_iconst hx hb dC_init_41 ?_
  refine j_icmp_ge hx hb (by omega) (by omega) dC_init_42 rfl (fun b9 => by omega) (fun b9 => ?_)
  refine lv_aload_n hx hb dC_init_45 rfl (lv_at hl 1 rfl) ?_
  refine n_get (own := "RationalForms") (C := "RationalForms") (T := TxC) (N := 4) (ci := 3) (k := 0) (fs := [.ref (a + 1), .ref (a + 2), .ref (a + 3), .ref (a + 9)]) (v := .ref (a + 1)) hx hb hg uwC hown hK hP rfl rfl 0 (by decide) wd96 rfl dC_init_46 ?_
  refine lv_iload_n hx hb dC_init_49 rfl (lv_at hl 0 rfl) ?_
  refine n_new (own := "RationalForms") (C := "RationalForms$Form") (T := TxF) (N := 2) (ci := 1) (fs := [.int 0, .null]) hx hb hg uwF txF txF_ok hown wd23 wd43 wd3 hK hP hS rfl (fun j hj => by rcases (show j = 0 ∨ j = 1 by omega) with rfl | rfl <;> rfl) (Nat.le_of_ble_eq_true rfl) (Nat.le_of_ble_eq_true rfl) dC_init_50 (fun H hP hS => ?_)
  have hP : nP D a [.inr (3, [.ref (a + 1), .ref (a + 2), .ref (a + 3), .ref (a + 9)]), qA (cs 4) 2 (fun _ => none), qA (cs 5) 2 (fun _ => none), .inr (2, [.ref (a + 4), .int (ji 0)]), qA (cs 3) 4 (fun j => some (a + 5 + j)), lA (cs 1) 4 (fun _ => 0), lA (cs 1) 4 (fun _ => 0), lA (cs 1) 4 (fun _ => 0), lA (cs 1) 4 (fun _ => 0), iA (cs 0) 4 (fun _ => 0), .inr (1, [.int 0, .null])] H := hP
  refine W.eq (g2 := F0 m 53 ls [.ref (a + 10), .int (ji 0), .ref (a + 1)]) rfl ?_
  refine lv_dup hx hb dC_init_53 rfl ?_
  refine n_callN (L := [.inr (3, [.ref (a + 1), .ref (a + 2), .ref (a + 3), .ref (a + 9)]), qA (cs 4) 2 (fun _ => none), qA (cs 5) 2 (fun _ => none), .inr (2, [.ref (a + 4), .int (ji 0)]), qA (cs 3) 4 (fun j => some (a + 5 + j)), lA (cs 1) 4 (fun _ => 0), lA (cs 1) 4 (fun _ => 0), lA (cs 1) 4 (fun _ => 0), lA (cs 1) 4 (fun _ => 0), iA (cs 0) 4 (fun _ => 0)]) (e0 := .inr (1, [.int 0, .null])) (rest := [.ref (a + 10), .int (ji 0), .ref (a + 1)]) hx hb hml hown hg hl hK hAO hP hS (kF_init l D cs (a + 10)) wd44 rfl wd45 wd3 wd46 ⟨rfl, rfl⟩ (by decide +kernel) ⟨Nat.le_of_ble_eq_true rfl, Nat.le_of_ble_eq_true rfl⟩ rfl (Nat.le_of_ble_eq_true rfl) dC_init_54 ⟨(Nat.le_of_ble_eq_true rfl), (Nat.le_of_ble_eq_true rfl)⟩ (fun H locs hP hS => ?_)
  have hP : nP D a [.inr (3, [.ref (a + 1), .ref (a + 2), .ref (a + 3), .ref (a + 9)]), qA (cs 4) 2 (fun _ => none), qA (cs 5) 2 (fun _ => none), .inr (2, [.ref (a + 4), .int (ji 0)]), qA (cs 3) 4 (fun j => some (a + 5 + j)), lA (cs 1) 4 (fun _ => 0), lA (cs 1) 4 (fun _ => 0), lA (cs 1) 4 (fun _ => 0), lA (cs 1) 4 (fun _ => 0), iA (cs 0) 4 (fun _ => 0), .inr (1, [.int (ji 1), .ref (a + 11)]), qA (cs 2) 4 (fun j => some (a + 12 + j)), iA (cs 0) 4 (fun _ => 0), iA (cs 0) 4 (fun _ => 0), iA (cs 0) 4 (fun _ => 0), iA (cs 0) 4 (fun _ => 0)] H := hP
  refine n_astq (k := 1) (kv := 10) (N := 2) (ci := 1) (t0 := 4) (q := ("RationalForms$Form", TxF, 2)) (vs := [.int (ji 1), .ref (a + 11)]) (g := fun _ => none) (n := 0) hx hb hK hP hS rfl rfl rfl rfl (by omega) (by decide) (by decide) dC_init_57 (fun H locs hP hS => ?_)
  have hP : nP D a [.inr (3, [.ref (a + 1), .ref (a + 2), .ref (a + 3), .ref (a + 9)]), qA (cs 4) 2 (fun j => if j = 0 then some (a + 10) else none), qA (cs 5) 2 (fun _ => none), .inr (2, [.ref (a + 4), .int (ji 0)]), qA (cs 3) 4 (fun j => some (a + 5 + j)), lA (cs 1) 4 (fun _ => 0), lA (cs 1) 4 (fun _ => 0), lA (cs 1) 4 (fun _ => 0), lA (cs 1) 4 (fun _ => 0), iA (cs 0) 4 (fun _ => 0), .inr (1, [.int (ji 1), .ref (a + 11)]), qA (cs 2) 4 (fun j => some (a + 12 + j)), iA (cs 0) 4 (fun _ => 0), iA (cs 0) 4 (fun _ => 0), iA (cs 0) 4 (fun _ => 0), iA (cs 0) 4 (fun _ => 0)] H := hP
  refine lv_aload_n hx hb dC_init_58 rfl (lv_at hl 1 rfl) ?_
  refine n_get (own := "RationalForms") (C := "RationalForms") (T := TxC) (N := 4) (ci := 3) (k := 0) (fs := [.ref (a + 1), .ref (a + 2), .ref (a + 3), .ref (a + 9)]) (v := .ref (a + 2)) hx hb hg uwC hown hK hP rfl rfl 1 (by decide) wd97 rfl dC_init_59 ?_
  refine lv_iload_n hx hb dC_init_62 rfl (lv_at hl 0 rfl) ?_
  refine n_new (own := "RationalForms") (C := "RationalForms$Diagonal") (T := TxD) (N := 8) (ci := 0) (fs := [.null, .null, .int 0, .int 0, .int 0, .int 0, .long 0, .int 0]) hx hb hg uwD txD txD_ok hown wd25 wd61 wd4 hK hP hS rfl (fun j hj => by rcases (show j = 0 ∨ j = 1 ∨ j = 2 ∨ j = 3 ∨ j = 4 ∨ j = 5 ∨ j = 6 ∨ j = 7 by omega) with rfl | rfl | rfl | rfl | rfl | rfl | rfl | rfl <;> rfl) (Nat.le_of_ble_eq_true rfl) (Nat.le_of_ble_eq_true rfl) dC_init_63 (fun H hP hS => ?_)
  have hP : nP D a [.inr (3, [.ref (a + 1), .ref (a + 2), .ref (a + 3), .ref (a + 9)]), qA (cs 4) 2 (fun j => if j = 0 then some (a + 10) else none), qA (cs 5) 2 (fun _ => none), .inr (2, [.ref (a + 4), .int (ji 0)]), qA (cs 3) 4 (fun j => some (a + 5 + j)), lA (cs 1) 4 (fun _ => 0), lA (cs 1) 4 (fun _ => 0), lA (cs 1) 4 (fun _ => 0), lA (cs 1) 4 (fun _ => 0), iA (cs 0) 4 (fun _ => 0), .inr (1, [.int (ji 1), .ref (a + 11)]), qA (cs 2) 4 (fun j => some (a + 12 + j)), iA (cs 0) 4 (fun _ => 0), iA (cs 0) 4 (fun _ => 0), iA (cs 0) 4 (fun _ => 0), iA (cs 0) 4 (fun _ => 0), .inr (0, [.null, .null, .int 0, .int 0, .int 0, .int 0, .long 0, .int 0])] H := hP
  refine W.eq (g2 := F0 m 66 ls [.ref (a + 16), .int (ji 0), .ref (a + 2)]) rfl ?_
  refine lv_dup hx hb dC_init_66 rfl ?_
  refine n_callN (L := [.inr (3, [.ref (a + 1), .ref (a + 2), .ref (a + 3), .ref (a + 9)]), qA (cs 4) 2 (fun j => if j = 0 then some (a + 10) else none), qA (cs 5) 2 (fun _ => none), .inr (2, [.ref (a + 4), .int (ji 0)]), qA (cs 3) 4 (fun j => some (a + 5 + j)), lA (cs 1) 4 (fun _ => 0), lA (cs 1) 4 (fun _ => 0), lA (cs 1) 4 (fun _ => 0), lA (cs 1) 4 (fun _ => 0), iA (cs 0) 4 (fun _ => 0), .inr (1, [.int (ji 1), .ref (a + 11)]), qA (cs 2) 4 (fun j => some (a + 12 + j)), iA (cs 0) 4 (fun _ => 0), iA (cs 0) 4 (fun _ => 0), iA (cs 0) 4 (fun _ => 0), iA (cs 0) 4 (fun _ => 0)]) (e0 := .inr (0, [.null, .null, .int 0, .int 0, .int 0, .int 0, .long 0, .int 0])) (rest := [.ref (a + 16), .int (ji 0), .ref (a + 2)]) hx hb hml hown hg hl hK hAO hP hS (kD_init l D cs (a + 16)) wd62 rfl wd63 wd4 wd64 ⟨rfl, rfl⟩ (by decide +kernel) ⟨Nat.le_of_ble_eq_true rfl, Nat.le_of_ble_eq_true rfl⟩ rfl (Nat.le_of_ble_eq_true rfl) dC_init_67 ⟨(Nat.le_of_ble_eq_true rfl), (Nat.le_of_ble_eq_true rfl)⟩ (fun H locs hP hS => ?_)
  have hP : nP D a [.inr (3, [.ref (a + 1), .ref (a + 2), .ref (a + 3), .ref (a + 9)]), qA (cs 4) 2 (fun j => if j = 0 then some (a + 10) else none), qA (cs 5) 2 (fun _ => none), .inr (2, [.ref (a + 4), .int (ji 0)]), qA (cs 3) 4 (fun j => some (a + 5 + j)), lA (cs 1) 4 (fun _ => 0), lA (cs 1) 4 (fun _ => 0), lA (cs 1) 4 (fun _ => 0), lA (cs 1) 4 (fun _ => 0), iA (cs 0) 4 (fun _ => 0), .inr (1, [.int (ji 1), .ref (a + 11)]), qA (cs 2) 4 (fun j => some (a + 12 + j)), iA (cs 0) 4 (fun _ => 0), iA (cs 0) 4 (fun _ => 0), iA (cs 0) 4 (fun _ => 0), iA (cs 0) 4 (fun _ => 0), .inr (0, [.ref (a + 17), .ref (a + 18), .int (ji 1), .int (ji 0), .int (ji 0), .int (ji 0), .long (jl 1), .int (ji 0)]), lA (cs 1) 5 (fun _ => 0), iA (cs 0) 32 (fun _ => 0)] H := hP
  refine n_astq (k := 2) (kv := 16) (N := 2) (ci := 0) (t0 := 5) (q := ("RationalForms$Diagonal", TxD, 8)) (vs := [.ref (a + 17), .ref (a + 18), .int (ji 1), .int (ji 0), .int (ji 0), .int (ji 0), .long (jl 1), .int (ji 0)]) (g := fun _ => none) (n := 0) hx hb hK hP hS rfl rfl rfl rfl (by omega) (by decide) (by decide) dC_init_70 (fun H locs hP hS => ?_)
  have hP : nP D a [.inr (3, [.ref (a + 1), .ref (a + 2), .ref (a + 3), .ref (a + 9)]), qA (cs 4) 2 (fun j => if j = 0 then some (a + 10) else none), qA (cs 5) 2 (fun j => if j = 0 then some (a + 16) else none), .inr (2, [.ref (a + 4), .int (ji 0)]), qA (cs 3) 4 (fun j => some (a + 5 + j)), lA (cs 1) 4 (fun _ => 0), lA (cs 1) 4 (fun _ => 0), lA (cs 1) 4 (fun _ => 0), lA (cs 1) 4 (fun _ => 0), iA (cs 0) 4 (fun _ => 0), .inr (1, [.int (ji 1), .ref (a + 11)]), qA (cs 2) 4 (fun j => some (a + 12 + j)), iA (cs 0) 4 (fun _ => 0), iA (cs 0) 4 (fun _ => 0), iA (cs 0) 4 (fun _ => 0), iA (cs 0) 4 (fun _ => 0), .inr (0, [.ref (a + 17), .ref (a + 18), .int (ji 1), .int (ji 0), .int (ji 0), .int (ji 0), .long (jl 1), .int (ji 0)]), lA (cs 1) 5 (fun _ => 0), iA (cs 0) 32 (fun _ => 0)] H := hP
  refine lv_iinc (k := 0) (v := ji (0 + 1)) hx hb dC_init_71 hl rfl (Int32.ofInt_add _ _).symm (by decide) rfl (fun ls hl => ?_)
  have hl : lv_has ls 2 [(1, .int (ji (0 + 1))), (0, .ref a)] := hl
  refine lv_goto hx hb dC_init_74 rfl ?_
  refine lv_iload_n hx hb dC_init_40 rfl (lv_at hl 0 rfl) ?_
  refine j_iconst hx hb dC_init_41 ?_
  refine j_icmp_ge hx hb (by omega) (by omega) dC_init_42 rfl (fun b9 => by omega) (fun b9 => ?_)
  refine lv_aload_n hx hb dC_init_45 rfl (lv_at hl 1 rfl) ?_
  refine n_get (own := "RationalForms") (C := "RationalForms") (T := TxC) (N := 4) (ci := 3) (k := 0) (fs := [.ref (a + 1), .ref (a + 2), .ref (a + 3), .ref (a + 9)]) (v := .ref (a + 1)) hx hb hg uwC hown hK hP rfl rfl 0 (by decide) wd96 rfl dC_init_46 ?_
  refine lv_iload_n hx hb dC_init_49 rfl (lv_at hl 0 rfl) ?_
  refine n_new (own := "RationalForms") (C := "RationalForms$Form") (T := TxF) (N := 2) (ci := 1) (fs := [.int 0, .null]) hx hb hg uwF txF txF_ok hown wd23 wd43 wd3 hK hP hS rfl (fun j hj => by rcases (show j = 0 ∨ j = 1 by omega) with rfl | rfl <;> rfl) (Nat.le_of_ble_eq_true rfl) (Nat.le_of_ble_eq_true rfl) dC_init_50 (fun H hP hS => ?_)
  have hP : nP D a [.inr (3, [.ref (a + 1), .ref (a + 2), .ref (a + 3), .ref (a + 9)]), qA (cs 4) 2 (fun j => if j = 0 then some (a + 10) else none), qA (cs 5) 2 (fun j => if j = 0 then some (a + 16) else none), .inr (2, [.ref (a + 4), .int (ji 0)]), qA (cs 3) 4 (fun j => some (a + 5 + j)), lA (cs 1) 4 (fun _ => 0), lA (cs 1) 4 (fun _ => 0), lA (cs 1) 4 (fun _ => 0), lA (cs 1) 4 (fun _ => 0), iA (cs 0) 4 (fun _ => 0), .inr (1, [.int (ji 1), .ref (a + 11)]), qA (cs 2) 4 (fun j => some (a + 12 + j)), iA (cs 0) 4 (fun _ => 0), iA (cs 0) 4 (fun _ => 0), iA (cs 0) 4 (fun _ => 0), iA (cs 0) 4 (fun _ => 0), .inr (0, [.ref (a + 17), .ref (a + 18), .int (ji 1), .int (ji 0), .int (ji 0), .int (ji 0), .long (jl 1), .int (ji 0)]), lA (cs 1) 5 (fun _ => 0), iA (cs 0) 32 (fun _ => 0), .inr (1, [.int 0, .null])] H := hP
  refine W.eq (g2 := F0 m 53 ls [.ref (a + 19), .int (ji (0 + 1)), .ref (a + 1)]) rfl ?_
  refine lv_dup hx hb dC_init_53 rfl ?_
  refine n_callN (L := [.inr (3, [.ref (a + 1), .ref (a + 2), .ref (a + 3), .ref (a + 9)]), qA (cs 4) 2 (fun j => if j = 0 then some (a + 10) else none), qA (cs 5) 2 (fun j => if j = 0 then some (a + 16) else none), .inr (2, [.ref (a + 4), .int (ji 0)]), qA (cs 3) 4 (fun j => some (a + 5 + j)), lA (cs 1) 4 (fun _ => 0), lA (cs 1) 4 (fun _ => 0), lA (cs 1) 4 (fun _ => 0), lA (cs 1) 4 (fun _ => 0), iA (cs 0) 4 (fun _ => 0), .inr (1, [.int (ji 1), .ref (a + 11)]), qA (cs 2) 4 (fun j => some (a + 12 + j)), iA (cs 0) 4 (fun _ => 0), iA (cs 0) 4 (fun _ => 0), iA (cs 0) 4 (fun _ => 0), iA (cs 0) 4 (fun _ => 0), .inr (0, [.ref (a + 17), .ref (a + 18), .int (ji 1), .int (ji 0), .int (ji 0), .int (ji 0), .long (jl 1), .int (ji 0)]), lA (cs 1) 5 (fun _ => 0), iA (cs 0) 32 (fun _ => 0)]) (e0 := .inr (1, [.int 0, .null])) (rest := [.ref (a + 19), .int (ji (0 + 1)), .ref (a + 1)]) hx hb hml hown hg hl hK hAO hP hS (kF_init l D cs (a + 19)) wd44 rfl wd45 wd3 wd46 ⟨rfl, rfl⟩ (by decide +kernel) ⟨Nat.le_of_ble_eq_true rfl, Nat.le_of_ble_eq_true rfl⟩ rfl (Nat.le_of_ble_eq_true rfl) dC_init_54 ⟨(Nat.le_of_ble_eq_true rfl), (Nat.le_of_ble_eq_true rfl)⟩ (fun H locs hP hS => ?_)
  have hP : nP D a [.inr (3, [.ref (a + 1), .ref (a + 2), .ref (a + 3), .ref (a + 9)]), qA (cs 4) 2 (fun j => if j = 0 then some (a + 10) else none), qA (cs 5) 2 (fun j => if j = 0 then some (a + 16) else none), .inr (2, [.ref (a + 4), .int (ji 0)]), qA (cs 3) 4 (fun j => some (a + 5 + j)), lA (cs 1) 4 (fun _ => 0), lA (cs 1) 4 (fun _ => 0), lA (cs 1) 4 (fun _ => 0), lA (cs 1) 4 (fun _ => 0), iA (cs 0) 4 (fun _ => 0), .inr (1, [.int (ji 1), .ref (a + 11)]), qA (cs 2) 4 (fun j => some (a + 12 + j)), iA (cs 0) 4 (fun _ => 0), iA (cs 0) 4 (fun _ => 0), iA (cs 0) 4 (fun _ => 0), iA (cs 0) 4 (fun _ => 0), .inr (0, [.ref (a + 17), .ref (a + 18), .int (ji 1), .int (ji 0), .int (ji 0), .int (ji 0), .long (jl 1), .int (ji 0)]), lA (cs 1) 5 (fun _ => 0), iA (cs 0) 32 (fun _ => 0), .inr (1, [.int (ji 1), .ref (a + 20)]), qA (cs 2) 4 (fun j => some (a + 21 + j)), iA (cs 0) 4 (fun _ => 0), iA (cs 0) 4 (fun _ => 0), iA (cs 0) 4 (fun _ => 0), iA (cs 0) 4 (fun _ => 0)] H := hP
  refine n_astq (k := 1) (kv := 19) (N := 2) (ci := 1) (t0 := 4) (q := ("RationalForms$Form", TxF, 2)) (vs := [.int (ji 1), .ref (a + 20)]) (g := fun j => if j = 0 then some (a + 10) else none) (n := 1) hx hb hK hP hS rfl rfl rfl rfl (by omega) (by decide) (by decide) dC_init_57 (fun H locs hP hS => ?_)
  have hP : nP D a [.inr (3, [.ref (a + 1), .ref (a + 2), .ref (a + 3), .ref (a + 9)]), qA (cs 4) 2 (fun j => if j = 1 then some (a + 19) else if j = 0 then some (a + 10) else none), qA (cs 5) 2 (fun j => if j = 0 then some (a + 16) else none), .inr (2, [.ref (a + 4), .int (ji 0)]), qA (cs 3) 4 (fun j => some (a + 5 + j)), lA (cs 1) 4 (fun _ => 0), lA (cs 1) 4 (fun _ => 0), lA (cs 1) 4 (fun _ => 0), lA (cs 1) 4 (fun _ => 0), iA (cs 0) 4 (fun _ => 0), .inr (1, [.int (ji 1), .ref (a + 11)]), qA (cs 2) 4 (fun j => some (a + 12 + j)), iA (cs 0) 4 (fun _ => 0), iA (cs 0) 4 (fun _ => 0), iA (cs 0) 4 (fun _ => 0), iA (cs 0) 4 (fun _ => 0), .inr (0, [.ref (a + 17), .ref (a + 18), .int (ji 1), .int (ji 0), .int (ji 0), .int (ji 0), .long (jl 1), .int (ji 0)]), lA (cs 1) 5 (fun _ => 0), iA (cs 0) 32 (fun _ => 0), .inr (1, [.int (ji 1), .ref (a + 20)]), qA (cs 2) 4 (fun j => some (a + 21 + j)), iA (cs 0) 4 (fun _ => 0), iA (cs 0) 4 (fun _ => 0), iA (cs 0) 4 (fun _ => 0), iA (cs 0) 4 (fun _ => 0)] H := hP
  refine lv_aload_n hx hb dC_init_58 rfl (lv_at hl 1 rfl) ?_
  refine n_get (own := "RationalForms") (C := "RationalForms") (T := TxC) (N := 4) (ci := 3) (k := 0) (fs := [.ref (a + 1), .ref (a + 2), .ref (a + 3), .ref (a + 9)]) (v := .ref (a + 2)) hx hb hg uwC hown hK hP rfl rfl 1 (by decide) wd97 rfl dC_init_59 ?_
  refine lv_iload_n hx hb dC_init_62 rfl (lv_at hl 0 rfl) ?_
  refine n_new (own := "RationalForms") (C := "RationalForms$Diagonal") (T := TxD) (N := 8) (ci := 0) (fs := [.null, .null, .int 0, .int 0, .int 0, .int 0, .long 0, .int 0]) hx hb hg uwD txD txD_ok hown wd25 wd61 wd4 hK hP hS rfl (fun j hj => by rcases (show j = 0 ∨ j = 1 ∨ j = 2 ∨ j = 3 ∨ j = 4 ∨ j = 5 ∨ j = 6 ∨ j = 7 by omega) with rfl | rfl | rfl | rfl | rfl | rfl | rfl | rfl <;> rfl) (Nat.le_of_ble_eq_true rfl) (Nat.le_of_ble_eq_true rfl) dC_init_63 (fun H hP hS => ?_)
  have hP : nP D a [.inr (3, [.ref (a + 1), .ref (a + 2), .ref (a + 3), .ref (a + 9)]), qA (cs 4) 2 (fun j => if j = 1 then some (a + 19) else if j = 0 then some (a + 10) else none), qA (cs 5) 2 (fun j => if j = 0 then some (a + 16) else none), .inr (2, [.ref (a + 4), .int (ji 0)]), qA (cs 3) 4 (fun j => some (a + 5 + j)), lA (cs 1) 4 (fun _ => 0), lA (cs 1) 4 (fun _ => 0), lA (cs 1) 4 (fun _ => 0), lA (cs 1) 4 (fun _ => 0), iA (cs 0) 4 (fun _ => 0), .inr (1, [.int (ji 1), .ref (a + 11)]), qA (cs 2) 4 (fun j => some (a + 12 + j)), iA (cs 0) 4 (fun _ => 0), iA (cs 0) 4 (fun _ => 0), iA (cs 0) 4 (fun _ => 0), iA (cs 0) 4 (fun _ => 0), .inr (0, [.ref (a + 17), .ref (a + 18), .int (ji 1), .int (ji 0), .int (ji 0), .int (ji 0), .long (jl 1), .int (ji 0)]), lA (cs 1) 5 (fun _ => 0), iA (cs 0) 32 (fun _ => 0), .inr (1, [.int (ji 1), .ref (a + 20)]), qA (cs 2) 4 (fun j => some (a + 21 + j)), iA (cs 0) 4 (fun _ => 0), iA (cs 0) 4 (fun _ => 0), iA (cs 0) 4 (fun _ => 0), iA (cs 0) 4 (fun _ => 0), .inr (0, [.null, .null, .int 0, .int 0, .int 0, .int 0, .long 0, .int 0])] H := hP
  refine W.eq (g2 := F0 m 66 ls [.ref (a + 25), .int (ji (0 + 1)), .ref (a + 2)]) rfl ?_
  refine lv_dup hx hb dC_init_66 rfl ?_
  refine n_callN (L := [.inr (3, [.ref (a + 1), .ref (a + 2), .ref (a + 3), .ref (a + 9)]), qA (cs 4) 2 (fun j => if j = 1 then some (a + 19) else if j = 0 then some (a + 10) else none), qA (cs 5) 2 (fun j => if j = 0 then some (a + 16) else none), .inr (2, [.ref (a + 4), .int (ji 0)]), qA (cs 3) 4 (fun j => some (a + 5 + j)), lA (cs 1) 4 (fun _ => 0), lA (cs 1) 4 (fun _ => 0), lA (cs 1) 4 (fun _ => 0), lA (cs 1) 4 (fun _ => 0), iA (cs 0) 4 (fun _ => 0), .inr (1, [.int (ji 1), .ref (a + 11)]), qA (cs 2) 4 (fun j => some (a + 12 + j)), iA (cs 0) 4 (fun _ => 0), iA (cs 0) 4 (fun _ => 0), iA (cs 0) 4 (fun _ => 0), iA (cs 0) 4 (fun _ => 0), .inr (0, [.ref (a + 17), .ref (a + 18), .int (ji 1), .int (ji 0), .int (ji 0), .int (ji 0), .long (jl 1), .int (ji 0)]), lA (cs 1) 5 (fun _ => 0), iA (cs 0) 32 (fun _ => 0), .inr (1, [.int (ji 1), .ref (a + 20)]), qA (cs 2) 4 (fun j => some (a + 21 + j)), iA (cs 0) 4 (fun _ => 0), iA (cs 0) 4 (fun _ => 0), iA (cs 0) 4 (fun _ => 0), iA (cs 0) 4 (fun _ => 0)]) (e0 := .inr (0, [.null, .null, .int 0, .int 0, .int 0, .int 0, .long 0, .int 0])) (rest := [.ref (a + 25), .int (ji (0 + 1)), .ref (a + 2)]) hx hb hml hown hg hl hK hAO hP hS (kD_init l D cs (a + 25)) wd62 rfl wd63 wd4 wd64 ⟨rfl, rfl⟩ (by decide +kernel) ⟨Nat.le_of_ble_eq_true rfl, Nat.le_of_ble_eq_true rfl⟩ rfl (Nat.le_of_ble_eq_true rfl) dC_init_67 ⟨(Nat.le_of_ble_eq_true rfl), (Nat.le_of_ble_eq_true rfl)⟩ (fun H locs hP hS => ?_)
  have hP : nP D a [.inr (3, [.ref (a + 1), .ref (a + 2), .ref (a + 3), .ref (a + 9)]), qA (cs 4) 2 (fun j => if j = 1 then some (a + 19) else if j = 0 then some (a + 10) else none), qA (cs 5) 2 (fun j => if j = 0 then some (a + 16) else none), .inr (2, [.ref (a + 4), .int (ji 0)]), qA (cs 3) 4 (fun j => some (a + 5 + j)), lA (cs 1) 4 (fun _ => 0), lA (cs 1) 4 (fun _ => 0), lA (cs 1) 4 (fun _ => 0), lA (cs 1) 4 (fun _ => 0), iA (cs 0) 4 (fun _ => 0), .inr (1, [.int (ji 1), .ref (a + 11)]), qA (cs 2) 4 (fun j => some (a + 12 + j)), iA (cs 0) 4 (fun _ => 0), iA (cs 0) 4 (fun _ => 0), iA (cs 0) 4 (fun _ => 0), iA (cs 0) 4 (fun _ => 0), .inr (0, [.ref (a + 17), .ref (a + 18), .int (ji 1), .int (ji 0), .int (ji 0), .int (ji 0), .long (jl 1), .int (ji 0)]), lA (cs 1) 5 (fun _ => 0), iA (cs 0) 32 (fun _ => 0), .inr (1, [.int (ji 1), .ref (a + 20)]), qA (cs 2) 4 (fun j => some (a + 21 + j)), iA (cs 0) 4 (fun _ => 0), iA (cs 0) 4 (fun _ => 0), iA (cs 0) 4 (fun _ => 0), iA (cs 0) 4 (fun _ => 0), .inr (0, [.ref (a + 26), .ref (a + 27), .int (ji 1), .int (ji 0), .int (ji 0), .int (ji 0), .long (jl 1), .int (ji 0)]), lA (cs 1) 5 (fun _ => 0), iA (cs 0) 32 (fun _ => 0)] H := hP
  refine n_astq (k := 2) (kv := 25) (N := 2) (ci := 0) (t0 := 5) (q := ("RationalForms$Diagonal", TxD, 8)) (vs := [.ref (a + 26), .ref (a + 27), .int (ji 1), .int (ji 0), .int (ji 0), .int (ji 0), .long (jl 1), .int (ji 0)]) (g := fun j => if j = 0 then some (a + 16) else none) (n := 1) hx hb hK hP hS rfl rfl rfl rfl (by omega) (by decide) (by decide) dC_init_70 (fun H locs hP hS => ?_)
  have hP : nP D a [.inr (3, [.ref (a + 1), .ref (a + 2), .ref (a + 3), .ref (a + 9)]), qA (cs 4) 2 (fun j => if j = 1 then some (a + 19) else if j = 0 then some (a + 10) else none), qA (cs 5) 2 (fun j => if j = 1 then some (a + 25) else if j = 0 then some (a + 16) else none), .inr (2, [.ref (a + 4), .int (ji 0)]), qA (cs 3) 4 (fun j => some (a + 5 + j)), lA (cs 1) 4 (fun _ => 0), lA (cs 1) 4 (fun _ => 0), lA (cs 1) 4 (fun _ => 0), lA (cs 1) 4 (fun _ => 0), iA (cs 0) 4 (fun _ => 0), .inr (1, [.int (ji 1), .ref (a + 11)]), qA (cs 2) 4 (fun j => some (a + 12 + j)), iA (cs 0) 4 (fun _ => 0), iA (cs 0) 4 (fun _ => 0), iA (cs 0) 4 (fun _ => 0), iA (cs 0) 4 (fun _ => 0), .inr (0, [.ref (a + 17), .ref (a + 18), .int (ji 1), .int (ji 0), .int (ji 0), .int (ji 0), .long (jl 1), .int (ji 0)]), lA (cs 1) 5 (fun _ => 0), iA (cs 0) 32 (fun _ => 0), .inr (1, [.int (ji 1), .ref (a + 20)]), qA (cs 2) 4 (fun j => some (a + 21 + j)), iA (cs 0) 4 (fun _ => 0), iA (cs 0) 4 (fun _ => 0), iA (cs 0) 4 (fun _ => 0), iA (cs 0) 4 (fun _ => 0), .inr (0, [.ref (a + 26), .ref (a + 27), .int (ji 1), .int (ji 0), .int (ji 0), .int (ji 0), .long (jl 1), .int (ji 0)]), lA (cs 1) 5 (fun _ => 0), iA (cs 0) 32 (fun _ => 0)] H := hP
  refine lv_iinc (k := 0) (v := ji ((0 + 1) + 1)) hx hb dC_init_71 hl rfl (Int32.ofInt_add _ _).symm (by decide) rfl (fun ls hl => ?_)
  have hl : lv_has ls 2 [(1, .int (ji ((0 + 1) + 1))), (0, .ref a)] := hl
  refine lv_goto hx hb dC_init_74 rfl ?_
  refine lv_iload_n hx hb dC_init_40 rfl (lv_at hl 0 rfl) ?_
  refine j_iconst hx hb dC_init_41 ?_
  refine j_icmp_ge hx hb (by omega) (by omega) dC_init_42 rfl (fun b9 => ?_) (fun b9 => by omega)
  exact n_vret hx hb hr hk hP hS dC_init_77

set_option maxHeartbeats 4000000 in
set_option maxRecDepth 100000 in
theorem kM_init (l : Launch) (D : va_G) (cs : Nat → ClassId) (a : Nat) : CT l yM_init wsM_init { frames := 1, cells := 6, slots := 175, locals := 12 } D cs a (.inr (4, [.null, .null, .null, .int 0, .null, .int 0, .int 0, .long 0, .int 0, .null, .int 0, .null, .int 0])) [.inr (4, [.ref (a + 1), .ref (a + 2), .ref (a + 3), .int 0, .ref (a + 4), .int 0, .int 0, .long 0, .int 0, .ref (a + 5), .int 0, .ref (a + 6), .int 0]), iA (cs 0) 2 (fun j => if j = 1 then 1 else if j = 0 then 1 else 0), iA (cs 0) 32 (fun _ => 0), lA (cs 1) 16 (fun _ => 0), lA (cs 1) 5 (fun _ => 0), lA (cs 1) 60 (fun _ => 0), iA (cs 0) 60 (fun _ => 0)] 6 175 := by
  refine CT.ofG (by decide) rfl (Nat.le_of_ble_eq_true rfl) ?_
  intro p e s m args below meth c hx hb hml hr hk hin hg hown hK hAO hP hS ls hl
  have hl : lv_has ls 1 [(0, .ref a)] := hl
  refine lv_aload_n hx hb dM_init_0 rfl (lv_at hl 0 rfl) ?_
  refine W.objInit hx hb hown (hg _ wd458) (hg _ wd21) (hg _ wd22) rfl (by rw [hml]; exact hl.1) rfl dM_init_1 (Nat.le_of_ble_eq_true rfl) (Nat.le_of_ble_eq_true rfl) ?_
  refine W.eq (g2 := F0 m 4 ls []) rfl ?_
  refine lv_aload_n hx hb dM_init_4 rfl (lv_at hl 0 rfl) ?_
  refine j_iconst hx hb dM_init_5 ?_
  refine n_newI (N := 2) hx hb hg wd60 hK hP hS (by decide) (by decide) (by decide) (Nat.le_of_ble_eq_true rfl) (Nat.le_of_ble_eq_true rfl) dM_init_6 (fun H hP hS => ?_)
  have hP : nP D a [.inr (4, [.null, .null, .null, .int 0, .null, .int 0, .int 0, .long 0, .int 0, .null, .int 0, .null, .int 0]), iA (cs 0) 2 (fun _ => 0)] H := hP
  refine W.eq (g2 := F0 m 8 ls [.ref (a + 1), .ref a]) rfl ?_
  refine n_putF (own := "RationalFormsModel") (C := "RationalFormsModel") (T := TxM) (N := 13) (ci := 4) (k := 0) (fs := [.null, .null, .null, .int 0, .null, .int 0, .int 0, .long 0, .int 0, .null, .int 0, .null, .int 0]) (ty := .array .int) (v := .ref (a + 1)) hx hb hg uwM txM txM_ok nmM hown hK hP hS rfl rfl 0 (by decide) wd459 rfl hin rfl (by decide +kernel) rfl rfl (Nat.le_of_ble_eq_true rfl) dM_init_8 (fun H locs hP hS => ?_)
  have hP : nP D a [.inr (4, [.ref (a + 1), .null, .null, .int 0, .null, .int 0, .int 0, .long 0, .int 0, .null, .int 0, .null, .int 0]), iA (cs 0) 2 (fun _ => 0)] H := hP
  refine lv_aload_n hx hb dM_init_11 rfl (lv_at hl 0 rfl) ?_
  refine j_bipush hx hb dM_init_12 rfl ?_
  refine n_newI (N := 32) hx hb hg wd60 hK hP hS (by decide) (by decide) (by decide) (Nat.le_of_ble_eq_true rfl) (Nat.le_of_ble_eq_true rfl) dM_init_14 (fun H hP hS => ?_)
  have hP : nP D a [.inr (4, [.ref (a + 1), .null, .null, .int 0, .null, .int 0, .int 0, .long 0, .int 0, .null, .int 0, .null, .int 0]), iA (cs 0) 2 (fun _ => 0), iA (cs 0) 32 (fun _ => 0)] H := hP
  refine W.eq (g2 := F0 m 16 ls [.ref (a + 2), .ref a]) rfl ?_
  refine n_putF (own := "RationalFormsModel") (C := "RationalFormsModel") (T := TxM) (N := 13) (ci := 4) (k := 0) (fs := [.ref (a + 1), .null, .null, .int 0, .null, .int 0, .int 0, .long 0, .int 0, .null, .int 0, .null, .int 0]) (ty := .array .int) (v := .ref (a + 2)) hx hb hg uwM txM txM_ok nmM hown hK hP hS rfl rfl 1 (by decide) wd460 rfl hin rfl (by decide +kernel) rfl rfl (Nat.le_of_ble_eq_true rfl) dM_init_16 (fun H locs hP hS => ?_)
  have hP : nP D a [.inr (4, [.ref (a + 1), .ref (a + 2), .null, .int 0, .null, .int 0, .int 0, .long 0, .int 0, .null, .int 0, .null, .int 0]), iA (cs 0) 2 (fun _ => 0), iA (cs 0) 32 (fun _ => 0)] H := hP
  refine lv_aload_n hx hb dM_init_19 rfl (lv_at hl 0 rfl) ?_
  refine j_bipush hx hb dM_init_20 rfl ?_
  refine n_newL (N := 16) hx hb hg wd42 hK hP hS (by decide) (by decide) (by decide) (Nat.le_of_ble_eq_true rfl) (Nat.le_of_ble_eq_true rfl) dM_init_22 (fun H hP hS => ?_)
  have hP : nP D a [.inr (4, [.ref (a + 1), .ref (a + 2), .null, .int 0, .null, .int 0, .int 0, .long 0, .int 0, .null, .int 0, .null, .int 0]), iA (cs 0) 2 (fun _ => 0), iA (cs 0) 32 (fun _ => 0), lA (cs 1) 16 (fun _ => 0)] H := hP
  refine W.eq (g2 := F0 m 24 ls [.ref (a + 3), .ref a]) rfl ?_
  refine n_putF (own := "RationalFormsModel") (C := "RationalFormsModel") (T := TxM) (N := 13) (ci := 4) (k := 0) (fs := [.ref (a + 1), .ref (a + 2), .null, .int 0, .null, .int 0, .int 0, .long 0, .int 0, .null, .int 0, .null, .int 0]) (ty := .array .long) (v := .ref (a + 3)) hx hb hg uwM txM txM_ok nmM hown hK hP hS rfl rfl 2 (by decide) wd461 rfl hin rfl (by decide +kernel) rfl rfl (Nat.le_of_ble_eq_true rfl) dM_init_24 (fun H locs hP hS => ?_)
  have hP : nP D a [.inr (4, [.ref (a + 1), .ref (a + 2), .ref (a + 3), .int 0, .null, .int 0, .int 0, .long 0, .int 0, .null, .int 0, .null, .int 0]), iA (cs 0) 2 (fun _ => 0), iA (cs 0) 32 (fun _ => 0), lA (cs 1) 16 (fun _ => 0)] H := hP
  refine lv_aload_n hx hb dM_init_27 rfl (lv_at hl 0 rfl) ?_
  refine j_iconst hx hb dM_init_28 ?_
  refine n_newL (N := 5) hx hb hg wd42 hK hP hS (by decide) (by decide) (by decide) (Nat.le_of_ble_eq_true rfl) (Nat.le_of_ble_eq_true rfl) dM_init_29 (fun H hP hS => ?_)
  have hP : nP D a [.inr (4, [.ref (a + 1), .ref (a + 2), .ref (a + 3), .int 0, .null, .int 0, .int 0, .long 0, .int 0, .null, .int 0, .null, .int 0]), iA (cs 0) 2 (fun _ => 0), iA (cs 0) 32 (fun _ => 0), lA (cs 1) 16 (fun _ => 0), lA (cs 1) 5 (fun _ => 0)] H := hP
  refine W.eq (g2 := F0 m 31 ls [.ref (a + 4), .ref a]) rfl ?_
  refine n_putF (own := "RationalFormsModel") (C := "RationalFormsModel") (T := TxM) (N := 13) (ci := 4) (k := 0) (fs := [.ref (a + 1), .ref (a + 2), .ref (a + 3), .int 0, .null, .int 0, .int 0, .long 0, .int 0, .null, .int 0, .null, .int 0]) (ty := .array .long) (v := .ref (a + 4)) hx hb hg uwM txM txM_ok nmM hown hK hP hS rfl rfl 4 (by decide) wd463 rfl hin rfl (by decide +kernel) rfl rfl (Nat.le_of_ble_eq_true rfl) dM_init_31 (fun H locs hP hS => ?_)
  have hP : nP D a [.inr (4, [.ref (a + 1), .ref (a + 2), .ref (a + 3), .int 0, .ref (a + 4), .int 0, .int 0, .long 0, .int 0, .null, .int 0, .null, .int 0]), iA (cs 0) 2 (fun _ => 0), iA (cs 0) 32 (fun _ => 0), lA (cs 1) 16 (fun _ => 0), lA (cs 1) 5 (fun _ => 0)] H := hP
  refine lv_aload_n hx hb dM_init_34 rfl (lv_at hl 0 rfl) ?_
  refine j_bipush hx hb dM_init_35 rfl ?_
  refine n_newL (N := 60) hx hb hg wd42 hK hP hS (by decide) (by decide) (by decide) (Nat.le_of_ble_eq_true rfl) (Nat.le_of_ble_eq_true rfl) dM_init_37 (fun H hP hS => ?_)
  have hP : nP D a [.inr (4, [.ref (a + 1), .ref (a + 2), .ref (a + 3), .int 0, .ref (a + 4), .int 0, .int 0, .long 0, .int 0, .null, .int 0, .null, .int 0]), iA (cs 0) 2 (fun _ => 0), iA (cs 0) 32 (fun _ => 0), lA (cs 1) 16 (fun _ => 0), lA (cs 1) 5 (fun _ => 0), lA (cs 1) 60 (fun _ => 0)] H := hP
  refine W.eq (g2 := F0 m 39 ls [.ref (a + 5), .ref a]) rfl ?_
  refine n_putF (own := "RationalFormsModel") (C := "RationalFormsModel") (T := TxM) (N := 13) (ci := 4) (k := 0) (fs := [.ref (a + 1), .ref (a + 2), .ref (a + 3), .int 0, .ref (a + 4), .int 0, .int 0, .long 0, .int 0, .null, .int 0, .null, .int 0]) (ty := .array .long) (v := .ref (a + 5)) hx hb hg uwM txM txM_ok nmM hown hK hP hS rfl rfl 9 (by decide) wd468 rfl hin rfl (by decide +kernel) rfl rfl (Nat.le_of_ble_eq_true rfl) dM_init_39 (fun H locs hP hS => ?_)
  have hP : nP D a [.inr (4, [.ref (a + 1), .ref (a + 2), .ref (a + 3), .int 0, .ref (a + 4), .int 0, .int 0, .long 0, .int 0, .ref (a + 5), .int 0, .null, .int 0]), iA (cs 0) 2 (fun _ => 0), iA (cs 0) 32 (fun _ => 0), lA (cs 1) 16 (fun _ => 0), lA (cs 1) 5 (fun _ => 0), lA (cs 1) 60 (fun _ => 0)] H := hP
  refine lv_aload_n hx hb dM_init_42 rfl (lv_at hl 0 rfl) ?_
  refine j_bipush hx hb dM_init_43 rfl ?_
  refine n_newI (N := 60) hx hb hg wd60 hK hP hS (by decide) (by decide) (by decide) (Nat.le_of_ble_eq_true rfl) (Nat.le_of_ble_eq_true rfl) dM_init_45 (fun H hP hS => ?_)
  have hP : nP D a [.inr (4, [.ref (a + 1), .ref (a + 2), .ref (a + 3), .int 0, .ref (a + 4), .int 0, .int 0, .long 0, .int 0, .ref (a + 5), .int 0, .null, .int 0]), iA (cs 0) 2 (fun _ => 0), iA (cs 0) 32 (fun _ => 0), lA (cs 1) 16 (fun _ => 0), lA (cs 1) 5 (fun _ => 0), lA (cs 1) 60 (fun _ => 0), iA (cs 0) 60 (fun _ => 0)] H := hP
  refine W.eq (g2 := F0 m 47 ls [.ref (a + 6), .ref a]) rfl ?_
  refine n_putF (own := "RationalFormsModel") (C := "RationalFormsModel") (T := TxM) (N := 13) (ci := 4) (k := 0) (fs := [.ref (a + 1), .ref (a + 2), .ref (a + 3), .int 0, .ref (a + 4), .int 0, .int 0, .long 0, .int 0, .ref (a + 5), .int 0, .null, .int 0]) (ty := .array .int) (v := .ref (a + 6)) hx hb hg uwM txM txM_ok nmM hown hK hP hS rfl rfl 11 (by decide) wd470 rfl hin rfl (by decide +kernel) rfl rfl (Nat.le_of_ble_eq_true rfl) dM_init_47 (fun H locs hP hS => ?_)
  have hP : nP D a [.inr (4, [.ref (a + 1), .ref (a + 2), .ref (a + 3), .int 0, .ref (a + 4), .int 0, .int 0, .long 0, .int 0, .ref (a + 5), .int 0, .ref (a + 6), .int 0]), iA (cs 0) 2 (fun _ => 0), iA (cs 0) 32 (fun _ => 0), lA (cs 1) 16 (fun _ => 0), lA (cs 1) 5 (fun _ => 0), lA (cs 1) 60 (fun _ => 0), iA (cs 0) 60 (fun _ => 0)] H := hP
  refine lv_aload_n hx hb dM_init_50 rfl (lv_at hl 0 rfl) ?_
  refine n_get (own := "RationalFormsModel") (C := "RationalFormsModel") (T := TxM) (N := 13) (ci := 4) (k := 0) (fs := [.ref (a + 1), .ref (a + 2), .ref (a + 3), .int 0, .ref (a + 4), .int 0, .int 0, .long 0, .int 0, .ref (a + 5), .int 0, .ref (a + 6), .int 0]) (v := .ref (a + 1)) hx hb hg uwM hown hK hP rfl rfl 0 (by decide) wd459 rfl dM_init_51 ?_
  refine j_iconst hx hb dM_init_54 ?_
  refine j_iconst hx hb dM_init_55 ?_
  refine n_iast (k := 1) (N := 2) (r := fun _ => 0) (n := 0) hx hb hK hP hS rfl (by omega) (by decide) (by decide) dM_init_56 (fun H locs hP hS => ?_)
  have hP : nP D a [.inr (4, [.ref (a + 1), .ref (a + 2), .ref (a + 3), .int 0, .ref (a + 4), .int 0, .int 0, .long 0, .int 0, .ref (a + 5), .int 0, .ref (a + 6), .int 0]), iA (cs 0) 2 (fun j => if j = 0 then 1 else 0), iA (cs 0) 32 (fun _ => 0), lA (cs 1) 16 (fun _ => 0), lA (cs 1) 5 (fun _ => 0), lA (cs 1) 60 (fun _ => 0), iA (cs 0) 60 (fun _ => 0)] H := hP
  refine lv_aload_n hx hb dM_init_57 rfl (lv_at hl 0 rfl) ?_
  refine n_get (own := "RationalFormsModel") (C := "RationalFormsModel") (T := TxM) (N := 13) (ci := 4) (k := 0) (fs := [.ref (a + 1), .ref (a + 2), .ref (a + 3), .int 0, .ref (a + 4), .int 0, .int 0, .long 0, .int 0, .ref (a + 5), .int 0, .ref (a + 6), .int 0]) (v := .ref (a + 1)) hx hb hg uwM hown hK hP rfl rfl 0 (by decide) wd459 rfl dM_init_58 ?_
  refine j_iconst hx hb dM_init_61 ?_
  refine j_iconst hx hb dM_init_62 ?_
  refine n_iast (k := 1) (N := 2) (r := fun j => if j = 0 then 1 else 0) (n := 1) hx hb hK hP hS rfl (by omega) (by decide) (by decide) dM_init_63 (fun H locs hP hS => ?_)
  have hP : nP D a [.inr (4, [.ref (a + 1), .ref (a + 2), .ref (a + 3), .int 0, .ref (a + 4), .int 0, .int 0, .long 0, .int 0, .ref (a + 5), .int 0, .ref (a + 6), .int 0]), iA (cs 0) 2 (fun j => if j = 1 then 1 else if j = 0 then 1 else 0), iA (cs 0) 32 (fun _ => 0), lA (cs 1) 16 (fun _ => 0), lA (cs 1) 5 (fun _ => 0), lA (cs 1) 60 (fun _ => 0), iA (cs 0) 60 (fun _ => 0)] H := hP
  exact n_vret hx hb hr hk hP hS dM_init_64
