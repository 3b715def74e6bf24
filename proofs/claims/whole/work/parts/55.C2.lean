/-! RationalForms (the class): its public methods -/
abbrev aC (M : Me) (f : Nat) : Mt := fun i j => M (9 + 4 * f + i) j
def CI (M : Me) (f n : Nat) : Prop := M (5 + f) 0 = n ∧ 1 ≤ n ∧ n ≤ 4 ∧ sb 0 4 6 (aC M f)
def FrC (M M9 : Me) : Prop := ∀ q, ((5 ≤ q ∧ q < 17) ∨ 28 ≤ q) → M9 q = M q
theorem DG_of {M : Me} {f n r c : Nat} {p : Nat → Int} (hr : r ≤ 4) (h : DgS M f n r p c) (hp : pB p r) : DG M f r := ⟨by omega, h.2.1, fun i hi => by
  rw [h.2.2.1 i hi]
  have := tr_bd hp hi
  exact ⟨this.1, by omega⟩⟩
theorem DF_of {M : Me} {f n r c : Nat} {p : Nat → Int} (h1 : 1 ≤ n) (h4 : n ≤ 4) (hr : r ≤ n) (h : DgS M f n r p c) (hp : pB p r) : DF M f n r := by
  have a1 := ds_le hp
  have a2 := ds_ne hp
  have a3 := ps_bd p r
  have a4 := ng_ps p r
  refine ⟨DG_of (by omega) h hp, hr, h.1, h1, by omega, ?_, ?_, ?_, ?_⟩
  · rw [h.2.2.2.2.2.1]; exact a2
  · rw [h.2.2.2.2.2.1]; omega
  · rw [h.2.2.2.1]; omega
  · rw [h.2.2.2.2.1]; omega
theorem hsC_of {M : Me} {f n r c : Nat} {p : Nat → Int} (h : DgS M f n r p c) (q : Int) : hsC M f r q = hs (fun a b => sy a b q) (tr p) r := hs_cg h.2.2.1
theorem zr_cg {dim r : Nat} {D : Int} {t t' : Nat → Int} {a b : Int} (h : ∀ j, j < r → t j = t' j) (p : Int) : zr dim r D t a b p = zr dim r D t' a b p := by
  unfold zr
  rw [hs_cg h]
theorem zrC_of {M : Me} {f n r c : Nat} {p : Nat → Int} (h : DgS M f n r p c) : zrC M f n r = zr n r (sf (bef p r)) (tr p) (ps p r) (ng p r) := by
  funext q
  unfold zrC
  rw [h.2.2.2.2.2.1, h.2.2.2.1, h.2.2.2.2.1]
  exact zr_cg h.2.2.1 q
/-- what takes asks of the extended diagonal -/
def tkC (r : Nat) (p : Nat → Int) (v : Int) (z : Prop) : Prop := (r = 0 → ¬ z) ∧ (r ≠ 0 → ∃ w : Int, lpz (Sx (Sp p r) (-v)) (zr (r + 1) (r + 1) (pr (sf (bef p r)) (sf (-v))) (trx p r (sf (-v))) (ps p r + (if 0 < sf (-v) then 1 else 0)) (ng p r + (if 0 < sf (-v) then 0 else 1))) (r + 1) (pr (sf (bef p r)) (sf (-v))) w ∧ (z ↔ w = -1))
def mnC (p : Nat → Int) (r q : Nat) : Prop := Sp p r q ∧ hs (fun a b => sy a b q) (tr p) r = -1
set_option maxRecDepth 20000 in
theorem wd1 : Cond.initialized "RationalForms" ∈ GG := GG_t 1 rfl rfl
set_option maxRecDepth 20000 in
theorem wd10 : Cond.initialized "java/lang/IndexOutOfBoundsException" ∈ GG := GG_t 10 rfl rfl
set_option maxRecDepth 20000 in
theorem wd113 : Cond.methodLink "RationalForms" 65 yC_diagonalOf ∈ GG := GG_t 113 rfl rfl
set_option maxRecDepth 20000 in
theorem wd115 : Cond.instanceMethod yC_diagonalOf ∈ GG := GG_t 115 rfl rfl
set_option maxRecDepth 20000 in
theorem wd116 : Cond.code yC_diagonalOf cC_diagonalOf 2 (some (.object "RationalForms$Diagonal")) ∈ GG := GG_t 116 rfl rfl
set_option maxRecDepth 20000 in
theorem wd13 : Cond.initialized "java/lang/ArithmeticException" ∈ GG := GG_t 13 rfl rfl
set_option maxRecDepth 20000 in
theorem wd180 : Cond.methodLink "RationalForms" 100 yD_hasseSign ∈ GG := GG_t 180 rfl rfl
set_option maxRecDepth 20000 in
theorem wd220 : Cond.methodLink "RationalForms" 34 yC_checkForm ∈ GG := GG_t 220 rfl rfl
set_option maxRecDepth 20000 in
theorem wd222 : Cond.instanceMethod yC_checkForm ∈ GG := GG_t 222 rfl rfl
set_option maxRecDepth 20000 in
theorem wd223 : Cond.code yC_checkForm cC_checkForm 2 none ∈ GG := GG_t 223 rfl rfl
set_option maxRecDepth 20000 in
theorem wd292 : Cond.stringRef "RationalForms" 40 "a dimension is 1 to 4" ∈ GG := GG_t 292 rfl rfl
set_option maxRecDepth 20000 in
theorem wd293 : Cond.methodLink "RationalForms" 45 yF_restart ∈ GG := GG_t 293 rfl rfl
set_option maxRecDepth 20000 in
theorem wd294 : Cond.instanceMethod yF_restart ∈ GG := GG_t 294 rfl rfl
set_option maxRecDepth 20000 in
theorem wd295 : Cond.selects "RationalForms$Form" yF_restart yF_restart ∈ GG := GG_t 295 rfl rfl
set_option maxRecDepth 20000 in
theorem wd296 : Cond.code yF_restart cF_restart 4 none ∈ GG := GG_t 296 rfl rfl
set_option maxRecDepth 20000 in
theorem wd3 : Cond.initialized "RationalForms$Form" ∈ GG := GG_t 3 rfl rfl
set_option maxRecDepth 20000 in
theorem wd305 : Cond.stringRef "RationalForms" 48 "a number of a form is -6 to 6" ∈ GG := GG_t 305 rfl rfl
set_option maxRecDepth 20000 in
theorem wd306 : Cond.methodLink "RationalForms" 50 yF_hasVariable ∈ GG := GG_t 306 rfl rfl
set_option maxRecDepth 20000 in
theorem wd307 : Cond.instanceMethod yF_hasVariable ∈ GG := GG_t 307 rfl rfl
set_option maxRecDepth 20000 in
theorem wd308 : Cond.selects "RationalForms$Form" yF_hasVariable yF_hasVariable ∈ GG := GG_t 308 rfl rfl
set_option maxRecDepth 20000 in
theorem wd309 : Cond.code yF_hasVariable cF_hasVariable 2 (some .boolean) ∈ GG := GG_t 309 rfl rfl
set_option maxRecDepth 20000 in
theorem wd310 : Cond.classLink "RationalForms" 54 "java/lang/IndexOutOfBoundsException" ∈ GG := GG_t 310 rfl rfl
set_option maxRecDepth 20000 in
theorem wd311 : Cond.instantiable "java/lang/IndexOutOfBoundsException" 6 ∈ GG := GG_t 311 rfl rfl
set_option maxRecDepth 20000 in
theorem wd319 : Cond.stringRef "RationalForms" 56 "the form has no such variable" ∈ GG := GG_t 319 rfl rfl
set_option maxRecDepth 20000 in
theorem wd326 : Cond.methodLink "RationalForms" 59 yF_replaceNumber ∈ GG := GG_t 326 rfl rfl
set_option maxRecDepth 20000 in
theorem wd327 : Cond.instanceMethod yF_replaceNumber ∈ GG := GG_t 327 rfl rfl
set_option maxRecDepth 20000 in
theorem wd328 : Cond.selects "RationalForms$Form" yF_replaceNumber yF_replaceNumber ∈ GG := GG_t 328 rfl rfl
set_option maxRecDepth 20000 in
theorem wd329 : Cond.code yF_replaceNumber cF_replaceNumber 5 (some .int) ∈ GG := GG_t 329 rfl rfl
set_option maxRecDepth 20000 in
theorem wd337 : Cond.stringRef "RationalForms" 63 "what is asked about is 0 to 4" ∈ GG := GG_t 337 rfl rfl
set_option maxRecDepth 20000 in
theorem wd346 : Cond.classLink "RationalForms" 86 "java/lang/ArithmeticException" ∈ GG := GG_t 346 rfl rfl
set_option maxRecDepth 20000 in
theorem wd347 : Cond.instantiable "java/lang/ArithmeticException" 6 ∈ GG := GG_t 347 rfl rfl
set_option maxRecDepth 20000 in
theorem wd355 : Cond.stringRef "RationalForms" 88 "0 has no symbol" ∈ GG := GG_t 355 rfl rfl
set_option maxRecDepth 20000 in
theorem wd362 : Cond.methodLink "RationalForms" 91 yC_checkPlace ∈ GG := GG_t 362 rfl rfl
set_option maxRecDepth 20000 in
theorem wd364 : Cond.instanceMethod yC_checkPlace ∈ GG := GG_t 364 rfl rfl
set_option maxRecDepth 20000 in
theorem wd365 : Cond.code yC_checkPlace cC_checkPlace 2 none ∈ GG := GG_t 365 rfl rfl
set_option maxRecDepth 20000 in
theorem wd370 : Cond.methodLink "RationalForms" 94 yP_symbolOf ∈ GG := GG_t 370 rfl rfl
set_option maxRecDepth 20000 in
theorem wd385 : Cond.methodLink "RationalForms" 104 yD_hasZeroAt ∈ GG := GG_t 385 rfl rfl
set_option maxRecDepth 20000 in
theorem wd400 : Cond.methodLink "RationalForms" 107 yD_lowestPlaceWithoutZero ∈ GG := GG_t 400 rfl rfl
set_option maxRecDepth 20000 in
theorem wd401 : Cond.instanceMethod yD_lowestPlaceWithoutZero ∈ GG := GG_t 401 rfl rfl
set_option maxRecDepth 20000 in
theorem wd402 : Cond.selects "RationalForms$Diagonal" yD_lowestPlaceWithoutZero yD_lowestPlaceWithoutZero ∈ GG := GG_t 402 rfl rfl
set_option maxRecDepth 20000 in
theorem wd403 : Cond.code yD_lowestPlaceWithoutZero cD_lowestPlaceWithoutZero 2 (some .int) ∈ GG := GG_t 403 rfl rfl
set_option maxRecDepth 20000 in
theorem wd448 : Cond.methodLink "RationalForms" 128 yD_primeOfMinusSign ∈ GG := GG_t 448 rfl rfl
set_option maxRecDepth 20000 in
theorem wd449 : Cond.instanceMethod yD_primeOfMinusSign ∈ GG := GG_t 449 rfl rfl
set_option maxRecDepth 20000 in
theorem wd450 : Cond.selects "RationalForms$Diagonal" yD_primeOfMinusSign yD_primeOfMinusSign ∈ GG := GG_t 450 rfl rfl
set_option maxRecDepth 20000 in
theorem wd451 : Cond.code yD_primeOfMinusSign cD_primeOfMinusSign 4 (some .int) ∈ GG := GG_t 451 rfl rfl
set_option maxRecDepth 20000 in
theorem wd452 : Cond.stringRef "RationalForms" 131 "there are not so many primes" ∈ GG := GG_t 452 rfl rfl
set_option maxRecDepth 20000 in
theorem wd69 : Cond.fieldLinkNest "RationalForms" 69 "RationalForms$Diagonal" "dimension" "I" "RationalForms" ∈ GG := GG_t 69 rfl rfl
set_option maxRecDepth 20000 in
theorem wd71 : Cond.fieldLinkNest "RationalForms" 73 "RationalForms$Diagonal" "rank" "I" "RationalForms" ∈ GG := GG_t 71 rfl rfl
set_option maxRecDepth 20000 in
theorem wd73 : Cond.fieldLinkNest "RationalForms" 76 "RationalForms$Diagonal" "positive" "I" "RationalForms" ∈ GG := GG_t 73 rfl rfl
set_option maxRecDepth 20000 in
theorem wd75 : Cond.fieldLinkNest "RationalForms" 79 "RationalForms$Diagonal" "negative" "I" "RationalForms" ∈ GG := GG_t 75 rfl rfl
set_option maxRecDepth 20000 in
theorem wd77 : Cond.fieldLinkNest "RationalForms" 82 "RationalForms$Diagonal" "discriminant" "J" "RationalForms" ∈ GG := GG_t 77 rfl rfl
set_option maxRecDepth 20000 in
theorem wds0 : Cond.selects "RationalForms" yC_diagonalOf yC_diagonalOf ∈ GG := GG_s 0 rfl rfl
set_option maxRecDepth 20000 in
theorem wds7 : Cond.selects "RationalForms" yC_checkForm yC_checkForm ∈ GG := GG_s 7 rfl rfl
set_option maxRecDepth 20000 in
theorem wds9 : Cond.selects "RationalForms" yC_checkPlace yC_checkPlace ∈ GG := GG_s 9 rfl rfl
set_option maxRecDepth 100000 in
set_option maxHeartbeats 4000000 in
theorem kC_begin (l : Launch) (hlf : l.flags = pinnedFlags ++ [noTraceFlag]) (E : En) (hJ : wJ E) (M : Me) (f n : Int) (hf : b32 f) (hn : b32 n) : MT l yC_begin wsC_begin (rmt 2) E M [.ref (E.2.1 0), .int (ji f), .int (ji n)] (fun v M9 => v = none ∧ (fo f ∧ 1 ≤ n ∧ n ≤ 4) ∧ ∀ g : Nat, f = g → M9 (5 + g) 0 = n ∧ (∀ i j : Nat, i < 4 → j < 4 → M9 (9 + 4 * g + i) j = 0) ∧ ∀ k, k ≠ 5 + g → (k < 9 + 4 * g ∨ 13 + 4 * g ≤ k) → M9 k = M k) (fun C M9 => C = "java/lang/IllegalArgumentException" ∧ ¬ (fo f ∧ 1 ≤ n ∧ n ≤ 4) ∧ M9 = M) := by
  refine MT.ofG (by decide +kernel) (Nat.le_of_ble_eq_true rfl) ?_
  intro p_ e_ s_ m_ a_ b_ t_ c_ hx hb hml hr hk hg hown hK hP hS hth hnx ls hl
  have hP0 := hP
  have hl : lv_has ls 3 [(0, .ref (E.2.1 0)), (1, .int (ji f)), (2, .int (ji n))] := hl
  by_cases hfo : fo f
  · refine lv_aload_n hx hb dC_begin_0 rfl (lv_at hl 0 rfl) ?_
    refine lv_iload_n hx hb dC_begin_1 rfl (lv_at hl 1 rfl) ?_
    refine ck_okF (ck_run (As := [.int (ji f)]) (rest := []) hx hb hml hown hg hl hK hth hP0 hP hS (by omega) (sh_C E _) rfl (kC_checkForm l hlf E M f hf) wd220 wd222 wds7 wd1 wd223 ⟨rfl, rfl⟩ (n := 1) (by decide +kernel) rfl ⟨by decide, by decide⟩ rfl (Nat.le_of_ble_eq_true rfl) dC_begin_2 ⟨by decide, by decide⟩) hfo ?_
    obtain ⟨g, hg2, hfg⟩ := fo_g hfo
    rw [hfg] at hl
    refine lv_iload_n hx hb dC_begin_5 rfl (lv_at hl 2 rfl) ?_
    refine j_iconst hx hb dC_begin_6 ?_
    refine j_icmp_lt hx hb (by omega) (by omega) dC_begin_7 rfl (fun h1 => ?_) (fun h1 => ?_)
    · exact mt_thr hx hb hml hlf hl hk hnx hown hg hth hP0 hP hS oa_IAE (by decide +kernel) (by decide +kernel) wd224 wd225 wd9 wd292 dC_begin_15 dC_begin_18 dC_begin_19 dC_begin_21 dC_begin_24 (by decide) ⟨rfl, by omega, rfl⟩
    · refine lv_iload_n hx hb dC_begin_10 rfl (lv_at hl 2 rfl) ?_
      refine j_iconst hx hb dC_begin_11 ?_
      refine j_icmp_le hx hb (by omega) (by omega) dC_begin_12 rfl (fun h2 => ?_) (fun h2 => ?_)
      · refine lv_aload_n hx hb dC_begin_25 rfl (lv_at hl 0 rfl) ?_
        refine m_get (C := "RationalForms") (T := TxC) (N := 4) hx hb hg uwC hown hK hP (by omega) (sh_C E _) rfl 0 (by decide) wd96 rfl dC_begin_26 ?_
        refine lv_iload_n hx hb dC_begin_29 rfl (lv_at hl 1 rfl) ?_
        refine m_aald (t0 := 4) (n := g) hx hb hK hP (by omega) (sh_fs E _) rfl rfl rfl (by omega) (by decide) dC_begin_30 ?_
        refine lv_iload_n hx hb dC_begin_31 rfl (lv_at hl 2 rfl) ?_
        refine mm_V (As := [.int (ji n)]) (rest := []) hx hb hml hown hg hl hK hP hS (by omega) (sh_F E _ (by omega)) rfl (kF_restart l E hJ M g hg2 n) wd293 wd294 wd295 wd3 wd296 ⟨rfl, rfl⟩ (n := 1) (by decide +kernel) rfl ⟨by decide, by decide⟩ rfl (Nat.le_of_ble_eq_true rfl) dC_begin_32 ⟨Nat.zero_le _, Nat.zero_le _⟩ (fun v M1 H locs hq hP hS => ?_)
        obtain ⟨rfl, x1, x2, x3⟩ := hq
        exact W.mono (fun _ => XQ.mt) (mm_vret hx hb hr hk hP hS dC_begin_35 ⟨rfl, ⟨hfo, h1, h2⟩, fo_u hfg ⟨x1, x2, x3⟩⟩)
      · exact mt_thr hx hb hml hlf hl hk hnx hown hg hth hP0 hP hS oa_IAE (by decide +kernel) (by decide +kernel) wd224 wd225 wd9 wd292 dC_begin_15 dC_begin_18 dC_begin_19 dC_begin_21 dC_begin_24 (by decide) ⟨rfl, by omega, rfl⟩
  · skip
    refine lv_aload_n hx hb dC_begin_0 rfl (lv_at hl 0 rfl) ?_
    refine lv_iload_n hx hb dC_begin_1 rfl (lv_at hl 1 rfl) ?_
    exact ck_out (ck_run (As := [.int (ji f)]) (rest := []) hx hb hml hown hg hl hK hth hP0 hP hS (by omega) (sh_C E _) rfl (kC_checkForm l hlf E M f hf) wd220 wd222 wds7 wd1 wd223 ⟨rfl, rfl⟩ (n := 1) (by decide +kernel) rfl ⟨by decide, by decide⟩ rfl (Nat.le_of_ble_eq_true rfl) dC_begin_2 ⟨by decide, by decide⟩) hfo hk hnx hP hS ⟨rfl, fun q => hfo q.1, rfl⟩

set_option maxRecDepth 100000 in
set_option maxHeartbeats 4000000 in
theorem kC_put (l : Launch) (hlf : l.flags = pinnedFlags ++ [noTraceFlag]) (E : En) (hJ : wJ E) (M : Me) (f i j v : Int) (hf : b32 f) (hi : b32 i) (hj : b32 j) (hv : b32 v) (nn : Nat → Nat) (hI : ∀ g, g < 2 → CI M g (nn g)) : MT l yC_put wsC_put (rmt 2) E M [.ref (E.2.1 0), .int (ji f), .int (ji i), .int (ji j), .int (ji v)] (fun w M9 => (fo f ∧ -6 ≤ v ∧ v ≤ 6) ∧ (0 ≤ i ∧ 0 ≤ j ∧ ∀ g : Nat, f = g → i < nn g ∧ j < nn g) ∧ ∀ g a b : Nat, f = g → i = a → j = b → w = some (.int (ji (M (9 + 4 * g + a) b))) ∧ M9 = mu (mu M (9 + 4 * g + a) b v) (9 + 4 * g + b) a v) (fun C M9 => ((C = "java/lang/IllegalArgumentException" ∧ ¬ (fo f ∧ -6 ≤ v ∧ v ≤ 6)) ∨ (C = "java/lang/IndexOutOfBoundsException" ∧ (fo f ∧ -6 ≤ v ∧ v ≤ 6) ∧ ¬ (0 ≤ i ∧ 0 ≤ j ∧ ∀ g : Nat, f = g → i < nn g ∧ j < nn g))) ∧ M9 = M) := by
  refine MT.ofG (by decide +kernel) (Nat.le_of_ble_eq_true rfl) ?_
  intro p_ e_ s_ m_ a_ b_ t_ c_ hx hb hml hr hk hg hown hK hP hS hth hnx ls hl
  have hP0 := hP
  have hl : lv_has ls 6 [(0, .ref (E.2.1 0)), (1, .int (ji f)), (2, .int (ji i)), (3, .int (ji j)), (4, .int (ji v))] := hl
  by_cases hfo : fo f
  · refine lv_aload_n hx hb dC_put_0 rfl (lv_at hl 0 rfl) ?_
    refine lv_iload_n hx hb dC_put_1 rfl (lv_at hl 1 rfl) ?_
    refine ck_okF (ck_run (As := [.int (ji f)]) (rest := []) hx hb hml hown hg hl hK hth hP0 hP hS (by omega) (sh_C E _) rfl (kC_checkForm l hlf E M f hf) wd220 wd222 wds7 wd1 wd223 ⟨rfl, rfl⟩ (n := 1) (by decide +kernel) rfl ⟨by decide, by decide⟩ rfl (Nat.le_of_ble_eq_true rfl) dC_put_2 ⟨by decide, by decide⟩) hfo ?_
    obtain ⟨g, hg2, hfg⟩ := fo_g hfo
    rw [hfg] at hl
    refine lv_iload hx hb dC_put_5 (lv_at hl 4 rfl) ?_
    refine j_bipush hx hb dC_put_7 rfl ?_
    refine j_icmp_lt hx hb (by omega) (by omega) dC_put_9 rfl (fun h1 => ?_) (fun h1 => ?_)
    · exact mt_thr hx hb hml hlf hl hk hnx hown hg hth hP0 hP hS oa_IAE (by decide +kernel) (by decide +kernel) wd224 wd225 wd9 wd305 dC_put_19 dC_put_22 dC_put_23 dC_put_25 dC_put_28 (by decide) ⟨Or.inl ⟨rfl, by omega⟩, rfl⟩
    · refine lv_iload hx hb dC_put_12 (lv_at hl 4 rfl) ?_
      refine j_bipush hx hb dC_put_14 rfl ?_
      refine j_icmp_le hx hb (by omega) (by omega) dC_put_16 rfl (fun h2 => ?_) (fun h2 => ?_)
      · have hok : (fo f ∧ -6 ≤ v ∧ v ≤ 6) := ⟨hfo, h1, h2⟩
        have hI9 := hI g hg2
        have hn0 := hI9.1
        have hn4 := hI9.2.2.1
        have hb0 : b32 (M (5 + g) 0) := by rw [hn0]; omega
        refine lv_aload_n hx hb dC_put_29 rfl (lv_at hl 0 rfl) ?_
        refine m_get (C := "RationalForms") (T := TxC) (N := 4) hx hb hg uwC hown hK hP (by omega) (sh_C E _) rfl 0 (by decide) wd96 rfl dC_put_30 ?_
        refine lv_iload_n hx hb dC_put_33 rfl (lv_at hl 1 rfl) ?_
        refine m_aald (t0 := 4) (n := g) hx hb hK hP (by omega) (sh_fs E _) rfl rfl rfl (by omega) (by decide) dC_put_34 ?_
        refine lv_astore hx hb dC_put_35 hl (by decide) rfl (fun ls hl => ?_)
        have hl : lv_has ls 6 [(5, .ref (E.2.1 (5 + g))), (0, .ref (E.2.1 0)), (1, .int (ji ((g:Int)))), (2, .int (ji i)), (3, .int (ji j)), (4, .int (ji v))] := hl
        refine lv_aload hx hb dC_put_37 (lv_at hl 0 rfl) ?_
        refine lv_iload_n hx hb dC_put_39 rfl (lv_at hl 3 rfl) ?_
        refine mm_V (As := [.int (ji i)]) (rest := []) hx hb hml hown hg hl hK hP hS (by omega) (sh_F E _ (by omega)) rfl (kF_hasVariable l E hJ M g hg2 i hi hb0) wd306 wd307 wd308 wd3 wd309 ⟨rfl, rfl⟩ (n := 1) (by decide +kernel) rfl ⟨by decide, by decide⟩ rfl (Nat.le_of_ble_eq_true rfl) dC_put_40 ⟨Nat.zero_le _, Nat.zero_le _⟩ (fun v M1 H locs hq hP hS => ?_)
        obtain ⟨rfl, hM1⟩ := hq
        rw [hM1] at hP
        refine j_if_eq hx hb (bi_b32 _) dC_put_43 rfl (fun h3 => ?_) (fun h3 => ?_)
        · have h3' := bi_eq h3
          rw [hn0] at h3'
          exact mt_thr hx hb hml hlf hl hk hnx hown hg hth hP0 hP hS oa_IOE (by decide +kernel) (by decide +kernel) wd310 wd311 wd10 wd319 dC_put_55 dC_put_58 dC_put_59 dC_put_61 dC_put_64 (by decide) ⟨Or.inr ⟨rfl, hok, fun q => h3' ⟨q.1, (q.2.2 g hfg).1⟩⟩, rfl⟩
        · have h3' := bi_ne h3
          rw [hn0] at h3'
          refine lv_aload hx hb dC_put_46 (lv_at hl 0 rfl) ?_
          refine lv_iload_n hx hb dC_put_48 rfl (lv_at hl 4 rfl) ?_
          refine mm_V (As := [.int (ji j)]) (rest := []) hx hb hml hown hg hl hK hP hS (by omega) (sh_F E _ (by omega)) rfl (kF_hasVariable l E hJ M g hg2 j hj hb0) wd306 wd307 wd308 wd3 wd309 ⟨rfl, rfl⟩ (n := 1) (by decide +kernel) rfl ⟨by decide, by decide⟩ rfl (Nat.le_of_ble_eq_true rfl) dC_put_49 ⟨Nat.zero_le _, Nat.zero_le _⟩ (fun v M2 H locs hq2 hP hS => ?_)
          obtain ⟨rfl, hM2⟩ := hq2
          rw [hM2] at hP
          refine j_if_ne hx hb (bi_b32 _) dC_put_52 rfl (fun h4 => ?_) (fun h4 => ?_)
          · have h4' := bi_ne h4
            rw [hn0] at h4'
            have ho2 : (0 ≤ i ∧ 0 ≤ j ∧ ∀ g : Nat, f = g → i < nn g ∧ j < nn g) := ⟨h3'.1, h4'.1, fo_u (P := fun g => i < nn g ∧ j < nn g) hfg ⟨h3'.2, h4'.2⟩⟩
            obtain ⟨a, hia⟩ : ∃ a : Nat, i = a := ⟨i.toNat, by omega⟩
            obtain ⟨b, hjb⟩ : ∃ b : Nat, j = b := ⟨j.toNat, by omega⟩
            rw [hia, hjb] at hl
            refine lv_aload hx hb dC_put_65 (lv_at hl 0 rfl) ?_
            refine lv_iload_n hx hb dC_put_67 rfl (lv_at hl 3 rfl) ?_
            refine lv_iload_n hx hb dC_put_68 rfl (lv_at hl 4 rfl) ?_
            refine lv_iload hx hb dC_put_69 (lv_at hl 5 rfl) ?_
            refine mm_V (As := [.int (ji ((a:Int))), .int (ji ((b:Int))), .int (ji v)]) (rest := []) hx hb hml hown hg hl hK hP hS (by omega) (sh_F E _ (by omega)) rfl (kF_replaceNumber l E hJ M g hg2 a b (by omega) (by omega) v) wd326 wd327 wd328 wd3 wd329 ⟨rfl, rfl⟩ (n := 3) (by decide +kernel) rfl ⟨by decide, by decide⟩ rfl (Nat.le_of_ble_eq_true rfl) dC_put_71 ⟨Nat.zero_le _, Nat.zero_le _⟩ (fun v M3 H locs hq3 hP hS => ?_)
            obtain ⟨rfl, hM3⟩ := hq3
            exact W.mono (fun _ => XQ.mt) (mm_iret hx hb hr hk hP hS dC_put_74 ⟨hok, ho2, fun g' a' b' e1 e2 e3 => by rw [show g' = g by omega, show a' = a by omega, show b' = b by omega]; exact ⟨rfl, hM3⟩⟩)
          · have h4' := bi_eq h4
            rw [hn0] at h4'
            exact mt_thr hx hb hml hlf hl hk hnx hown hg hth hP0 hP hS oa_IOE (by decide +kernel) (by decide +kernel) wd310 wd311 wd10 wd319 dC_put_55 dC_put_58 dC_put_59 dC_put_61 dC_put_64 (by decide) ⟨Or.inr ⟨rfl, hok, fun q => h4' ⟨q.2.1, (q.2.2 g hfg).2⟩⟩, rfl⟩
      · exact mt_thr hx hb hml hlf hl hk hnx hown hg hth hP0 hP hS oa_IAE (by decide +kernel) (by decide +kernel) wd224 wd225 wd9 wd305 dC_put_19 dC_put_22 dC_put_23 dC_put_25 dC_put_28 (by decide) ⟨Or.inl ⟨rfl, by omega⟩, rfl⟩
  · skip
    refine lv_aload_n hx hb dC_put_0 rfl (lv_at hl 0 rfl) ?_
    refine lv_iload_n hx hb dC_put_1 rfl (lv_at hl 1 rfl) ?_
    exact ck_out (ck_run (As := [.int (ji f)]) (rest := []) hx hb hml hown hg hl hK hth hP0 hP hS (by omega) (sh_C E _) rfl (kC_checkForm l hlf E M f hf) wd220 wd222 wds7 wd1 wd223 ⟨rfl, rfl⟩ (n := 1) (by decide +kernel) rfl ⟨by decide, by decide⟩ rfl (Nat.le_of_ble_eq_true rfl) dC_put_2 ⟨by decide, by decide⟩) hfo hk hnx hP hS ⟨Or.inl ⟨rfl, fun q => hfo q.1⟩, rfl⟩

set_option maxRecDepth 100000 in
set_option maxHeartbeats 4000000 in
theorem kC_about (l : Launch) (hlf : l.flags = pinnedFlags ++ [noTraceFlag]) (E : En) (hJ : wJ E) (M : Me) (f w : Int) (hf : b32 f) (hw : b32 w) (nn : Nat → Nat) (hI : ∀ g, g < 2 → CI M g (nn g)) : MT l yC_about wsC_about (rmt 6) E M [.ref (E.2.1 0), .int (ji f), .int (ji w)] (fun v M9 => (fo f ∧ 0 ≤ w ∧ w ≤ 4) ∧ (∃ z : Int, v = some (.int (ji z)) ∧ b32 z ∧ ∀ g : Nat, f = g → ∃ r p, fpv (nn g) (aC M g) r p ∧ z = abv (nn g) r p w) ∧ FrC M M9) (fun C M9 => C = "java/lang/IllegalArgumentException" ∧ ¬ (fo f ∧ 0 ≤ w ∧ w ≤ 4) ∧ M9 = M) := by
  refine MT.ofG (by decide +kernel) (Nat.le_of_ble_eq_true rfl) ?_
  intro p_ e_ s_ m_ a_ b_ t_ c_ hx hb hml hr hk hg hown hK hP hS hth hnx ls hl
  have hP0 := hP
  have hl : lv_has ls 4 [(0, .ref (E.2.1 0)), (1, .int (ji f)), (2, .int (ji w))] := hl
  by_cases hfo : fo f
  · refine lv_aload_n hx hb dC_about_0 rfl (lv_at hl 0 rfl) ?_
    refine lv_iload_n hx hb dC_about_1 rfl (lv_at hl 1 rfl) ?_
    refine ck_okF (ck_run (As := [.int (ji f)]) (rest := []) hx hb hml hown hg hl hK hth hP0 hP hS (by omega) (sh_C E _) rfl (kC_checkForm l hlf E M f hf) wd220 wd222 wds7 wd1 wd223 ⟨rfl, rfl⟩ (n := 1) (by decide +kernel) rfl ⟨by decide, by decide⟩ rfl (Nat.le_of_ble_eq_true rfl) dC_about_2 ⟨by decide, by decide⟩) hfo ?_
    obtain ⟨g, hg2, hfg⟩ := fo_g hfo
    rw [hfg] at hl
    refine lv_iload_n hx hb dC_about_5 rfl (lv_at hl 2 rfl) ?_
    refine j_if_lt hx hb (by omega) dC_about_6 rfl (fun h1 => ?_) (fun h1 => ?_)
    · exact mt_thr hx hb hml hlf hl hk hnx hown hg hth hP0 hP hS oa_IAE (by decide +kernel) (by decide +kernel) wd224 wd225 wd9 wd337 dC_about_14 dC_about_17 dC_about_18 dC_about_20 dC_about_23 (by decide) ⟨rfl, by omega, rfl⟩
    · refine lv_iload_n hx hb dC_about_9 rfl (lv_at hl 2 rfl) ?_
      refine j_iconst hx hb dC_about_10 ?_
      refine j_icmp_le hx hb (by omega) (by omega) dC_about_11 rfl (fun h2 => ?_) (fun h2 => ?_)
      · have hok : (fo f ∧ 0 ≤ w ∧ w ≤ 4) := ⟨hfo, h1, h2⟩
        have hI9 := hI g hg2
        refine lv_aload_n hx hb dC_about_24 rfl (lv_at hl 0 rfl) ?_
        refine lv_iload_n hx hb dC_about_25 rfl (lv_at hl 1 rfl) ?_
        refine mm_V (As := [.int (ji ((g:Int)))]) (rest := []) hx hb hml hown hg hl hK hP hS (by omega) (sh_C E _) rfl (kC_diagonalOf l E hJ M g hg2 (nn g) hI9.1 hI9.2.1 hI9.2.2.1 hI9.2.2.2) wd113 wd115 wds0 wd1 wd116 ⟨rfl, rfl⟩ (n := 1) (by decide +kernel) rfl ⟨by decide, by decide⟩ rfl (Nat.le_of_ble_eq_true rfl) dC_about_26 ⟨Nat.zero_le _, Nat.zero_le _⟩ (fun v M1 H locs hq hP hS => ?_)
        obtain ⟨rfl, ⟨r, p, c, hfp, hcB, hD⟩, hF⟩ := hq
        have hpB := hfp.2.1
        have hrn := hfp.2.2
        have hn4 := hI9.2.2.1
        have hn1 := hI9.2.1
        have hFC : FrC M M1 := fun q hq => hF q (by omega) (by omega) (by omega) (by omega) (by omega)
        have hps := ps_bd p r
        have hng := ng_ps p r
        have hds := ds_le hpB
        have hc25 := cB_le (k := r) (by omega)
        have hDG : DG M1 g r := DG_of (by omega) hD hpB
        have hDF : DF M1 g (nn g) r := DF_of (by omega) (by omega) hrn hD hpB
        refine lv_astore_n hx hb dC_about_29 rfl hl (by decide) rfl (fun ls hl => ?_)
        have hl : lv_has ls 4 [(3, .ref (E.2.1 (17 + g))), (0, .ref (E.2.1 0)), (1, .int (ji ((g:Int)))), (2, .int (ji w))] := hl
        refine lv_iload_n hx hb dC_about_30 rfl (lv_at hl 3 rfl) ?_
        have hcase : w = 0 ∨ w = 1 ∨ w = 2 ∨ w = 3 ∨ w = 4 := by omega
        rcases hcase with hc9 | hc9 | hc9 | hc9 | hc9
        · refine j_tabI (z := w) hx hb hw (by omega) (by omega) (by rw [hc9]; rfl) dC_about_31 rfl ?_
          refine lv_aload_n hx hb dC_about_60 rfl (lv_at hl 0 rfl) ?_
          refine m_getN (C := "RationalForms$Diagonal") (T := TxD) (N := 8) hx hb hg uwD hown hK hP (by omega) (sh_D E _ (by omega)) rfl 2 (by decide) wd69 rfl dC_about_61 ?_
          exact W.mono (fun _ => XQ.mt) (mm_iret hx hb hr hk hP hS dC_about_64 ⟨hok, ⟨_, rfl, by rw [hD.1]; omega, fo_u hfg ⟨r, p, hfp, by rw [hD.1]; unfold abv; rw [if_pos (by omega)]⟩⟩, hFC⟩)
        · refine j_tabI (z := w) hx hb hw (by omega) (by omega) (by rw [hc9]; rfl) dC_about_31 rfl ?_
          refine lv_aload_n hx hb dC_about_65 rfl (lv_at hl 0 rfl) ?_
          refine m_getN (C := "RationalForms$Diagonal") (T := TxD) (N := 8) hx hb hg uwD hown hK hP (by omega) (sh_D E _ (by omega)) rfl 3 (by decide) wd71 rfl dC_about_66 ?_
          exact W.mono (fun _ => XQ.mt) (mm_iret hx hb hr hk hP hS dC_about_69 ⟨hok, ⟨_, rfl, by rw [hD.2.1]; omega, fo_u hfg ⟨r, p, hfp, by rw [hD.2.1]; unfold abv; rw [if_neg (by omega), if_pos (by omega)]⟩⟩, hFC⟩)
        · refine j_tabI (z := w) hx hb hw (by omega) (by omega) (by rw [hc9]; rfl) dC_about_31 rfl ?_
          refine lv_aload_n hx hb dC_about_70 rfl (lv_at hl 0 rfl) ?_
          refine m_getN (C := "RationalForms$Diagonal") (T := TxD) (N := 8) hx hb hg uwD hown hK hP (by omega) (sh_D E _ (by omega)) rfl 4 (by decide) wd73 rfl dC_about_71 ?_
          exact W.mono (fun _ => XQ.mt) (mm_iret hx hb hr hk hP hS dC_about_74 ⟨hok, ⟨_, rfl, by rw [hD.2.2.2.1]; omega, fo_u hfg ⟨r, p, hfp, by rw [hD.2.2.2.1]; unfold abv; rw [if_neg (by omega), if_neg (by omega), if_pos (by omega)]⟩⟩, hFC⟩)
        · refine j_tabI (z := w) hx hb hw (by omega) (by omega) (by rw [hc9]; rfl) dC_about_31 rfl ?_
          refine lv_aload_n hx hb dC_about_75 rfl (lv_at hl 0 rfl) ?_
          refine m_getN (C := "RationalForms$Diagonal") (T := TxD) (N := 8) hx hb hg uwD hown hK hP (by omega) (sh_D E _ (by omega)) rfl 5 (by decide) wd75 rfl dC_about_76 ?_
          exact W.mono (fun _ => XQ.mt) (mm_iret hx hb hr hk hP hS dC_about_79 ⟨hok, ⟨_, rfl, by rw [hD.2.2.2.2.1]; omega, fo_u hfg ⟨r, p, hfp, by rw [hD.2.2.2.2.1]; unfold abv; rw [if_neg (by omega), if_neg (by omega), if_neg (by omega), if_pos (by omega)]⟩⟩, hFC⟩)
        · refine j_tabO (z := w) hx hb hw (by omega) dC_about_31 rfl ?_
          refine lv_aload_n hx hb dC_about_80 rfl (lv_at hl 0 rfl) ?_
          refine m_getN (C := "RationalForms$Diagonal") (T := TxD) (N := 8) hx hb hg uwD hown hK hP (by omega) (sh_D E _ (by omega)) rfl 6 (by decide) wd77 rfl dC_about_81 ?_
          refine j_l2i hx hb dC_about_84 ?_
          exact W.mono (fun _ => XQ.mt) (mm_iret hx hb hr hk hP hS dC_about_85 ⟨hok, ⟨_, rfl, by rw [hD.2.2.2.2.2.1]; omega, fo_u hfg ⟨r, p, hfp, by rw [hD.2.2.2.2.2.1]; unfold abv; rw [if_neg (by omega), if_neg (by omega), if_neg (by omega), if_neg (by omega)]⟩⟩, hFC⟩)
      · exact mt_thr hx hb hml hlf hl hk hnx hown hg hth hP0 hP hS oa_IAE (by decide +kernel) (by decide +kernel) wd224 wd225 wd9 wd337 dC_about_14 dC_about_17 dC_about_18 dC_about_20 dC_about_23 (by decide) ⟨rfl, by omega, rfl⟩
  · skip
    refine lv_aload_n hx hb dC_about_0 rfl (lv_at hl 0 rfl) ?_
    refine lv_iload_n hx hb dC_about_1 rfl (lv_at hl 1 rfl) ?_
    exact ck_out (ck_run (As := [.int (ji f)]) (rest := []) hx hb hml hown hg hl hK hth hP0 hP hS (by omega) (sh_C E _) rfl (kC_checkForm l hlf E M f hf) wd220 wd222 wds7 wd1 wd223 ⟨rfl, rfl⟩ (n := 1) (by decide +kernel) rfl ⟨by decide, by decide⟩ rfl (Nat.le_of_ble_eq_true rfl) dC_about_2 ⟨by decide, by decide⟩) hfo hk hnx hP hS ⟨rfl, fun q => hfo q.1, rfl⟩

set_option maxRecDepth 100000 in
set_option maxHeartbeats 4000000 in
theorem kC_symbol (l : Launch) (hlf : l.flags = pinnedFlags ++ [noTraceFlag]) (E : En) (hJ : wJ E) (M : Me) (a b p9 : Int) (ha : b32 a) (hb9 : b32 b) (hp9 : b32 p9) : MT l yC_symbol wsC_symbol (rmt 3) E M [.ref (E.2.1 0), .int (ji a), .int (ji b), .int (ji p9)] (fun v M9 => ¬ (a = 0 ∨ b = 0) ∧ pl0 p9 ∧ v = some (.int (ji (sy a b p9))) ∧ M9 = M) (fun C M9 => ((C = "java/lang/ArithmeticException" ∧ (a = 0 ∨ b = 0)) ∨ (C = "java/lang/IllegalArgumentException" ∧ ¬ (a = 0 ∨ b = 0) ∧ ¬ pl0 p9)) ∧ M9 = M) := by
  refine MT.ofG (by decide +kernel) (Nat.le_of_ble_eq_true rfl) ?_
  intro p_ e_ s_ m_ a_ b_ t_ c_ hx hb hml hr hk hg hown hK hP hS hth hnx ls hl
  have hP0 := hP
  have hl : lv_has ls 4 [(0, .ref (E.2.1 0)), (1, .int (ji a)), (2, .int (ji b)), (3, .int (ji p9))] := hl
  refine lv_iload_n hx hb dC_symbol_0 rfl (lv_at hl 1 rfl) ?_
  refine j_if_eq hx hb (by omega) dC_symbol_1 rfl (fun h1 => ?_) (fun h1 => ?_)
  · exact mt_thr hx hb hml hlf hl hk hnx hown hg hth hP0 hP hS oa_ARE (by decide +kernel) (by decide +kernel) wd346 wd347 wd13 wd355 dC_symbol_8 dC_symbol_11 dC_symbol_12 dC_symbol_14 dC_symbol_17 (by decide) ⟨Or.inl ⟨rfl, Or.inl h1⟩, rfl⟩
  · refine lv_iload_n hx hb dC_symbol_4 rfl (lv_at hl 2 rfl) ?_
    refine j_if_ne hx hb (by omega) dC_symbol_5 rfl (fun h2 => ?_) (fun h2 => ?_)
    · have hok : ¬ (a = 0 ∨ b = 0) := by omega
      by_cases hpl : pl0 p9
      · refine lv_aload_n hx hb dC_symbol_18 rfl (lv_at hl 0 rfl) ?_
        refine lv_iload_n hx hb dC_symbol_19 rfl (lv_at hl 3 rfl) ?_
        refine ck_okF (ck_run (As := [.int (ji p9)]) (rest := []) hx hb hml hown hg hl hK hth hP0 hP hS (by omega) (sh_C E _) rfl (kC_checkPlace l hlf E M p9 hp9) wd362 wd364 wds9 wd1 wd365 ⟨rfl, rfl⟩ (n := 1) (by decide +kernel) rfl ⟨by decide, by decide⟩ rfl (Nat.le_of_ble_eq_true rfl) dC_symbol_20 ⟨by decide, by decide⟩) hpl ?_
        refine lv_iload_n hx hb dC_symbol_23 rfl (lv_at hl 1 rfl) ?_
        refine j_i2l hx hb (by omega) dC_symbol_24 ?_
        refine lv_iload_n hx hb dC_symbol_25 rfl (lv_at hl 2 rfl) ?_
        refine j_i2l hx hb (by omega) dC_symbol_26 ?_
        refine lv_iload_n hx hb dC_symbol_27 rfl (lv_at hl 3 rfl) ?_
        refine pm_G (As := [.long (jl a), .long (jl b), .int (ji p9)]) (rest := []) hx hb hml hown hg hl (kP_symbolOf l a b p9 (by omega) (by omega) h1 h2 (pl0_plc hpl)) wd370 wd185 wd14 wd186 ⟨rfl, rfl⟩ (n := 3) (by decide +kernel) rfl ⟨by decide, by decide⟩ rfl (Nat.le_of_ble_eq_true rfl) dC_symbol_28 ⟨Nat.zero_le _, Nat.zero_le _⟩ (fun r hr9 => ?_)
        subst hr9
        exact W.mono (fun _ => XQ.mt) (mm_iret hx hb hr hk hP hS dC_symbol_31 ⟨hok, hpl, rfl, rfl⟩)
      · skip
        refine lv_aload_n hx hb dC_symbol_18 rfl (lv_at hl 0 rfl) ?_
        refine lv_iload_n hx hb dC_symbol_19 rfl (lv_at hl 3 rfl) ?_
        exact ck_out (ck_run (As := [.int (ji p9)]) (rest := []) hx hb hml hown hg hl hK hth hP0 hP hS (by omega) (sh_C E _) rfl (kC_checkPlace l hlf E M p9 hp9) wd362 wd364 wds9 wd1 wd365 ⟨rfl, rfl⟩ (n := 1) (by decide +kernel) rfl ⟨by decide, by decide⟩ rfl (Nat.le_of_ble_eq_true rfl) dC_symbol_20 ⟨by decide, by decide⟩) hpl hk hnx hP hS ⟨Or.inr ⟨rfl, hok, hpl⟩, rfl⟩
    · exact mt_thr hx hb hml hlf hl hk hnx hown hg hth hP0 hP hS oa_ARE (by decide +kernel) (by decide +kernel) wd346 wd347 wd13 wd355 dC_symbol_8 dC_symbol_11 dC_symbol_12 dC_symbol_14 dC_symbol_17 (by decide) ⟨Or.inl ⟨rfl, Or.inr h2⟩, rfl⟩

set_option maxRecDepth 100000 in
set_option maxHeartbeats 4000000 in
theorem kC_hasse (l : Launch) (hlf : l.flags = pinnedFlags ++ [noTraceFlag]) (E : En) (hJ : wJ E) (M : Me) (f p9 : Int) (hf : b32 f) (hp9 : b32 p9) (nn : Nat → Nat) (hI : ∀ g, g < 2 → CI M g (nn g)) : MT l yC_hasse wsC_hasse (rmt 6) E M [.ref (E.2.1 0), .int (ji f), .int (ji p9)] (fun v M9 => (fo f ∧ pl0 p9) ∧ (∃ z : Int, v = some (.int (ji z)) ∧ b32 z ∧ ∀ g : Nat, f = g → ∃ r p, fpv (nn g) (aC M g) r p ∧ z = hs (fun a b => sy a b p9) (tr p) r) ∧ FrC M M9) (fun C M9 => C = "java/lang/IllegalArgumentException" ∧ ¬ (fo f ∧ pl0 p9) ∧ M9 = M) := by
  refine MT.ofG (by decide +kernel) (Nat.le_of_ble_eq_true rfl) ?_
  intro p_ e_ s_ m_ a_ b_ t_ c_ hx hb hml hr hk hg hown hK hP hS hth hnx ls hl
  have hP0 := hP
  have hl : lv_has ls 3 [(0, .ref (E.2.1 0)), (1, .int (ji f)), (2, .int (ji p9))] := hl
  by_cases hfo : fo f
  · refine lv_aload_n hx hb dC_hasse_0 rfl (lv_at hl 0 rfl) ?_
    refine lv_iload_n hx hb dC_hasse_1 rfl (lv_at hl 1 rfl) ?_
    refine ck_okF (ck_run (As := [.int (ji f)]) (rest := []) hx hb hml hown hg hl hK hth hP0 hP hS (by omega) (sh_C E _) rfl (kC_checkForm l hlf E M f hf) wd220 wd222 wds7 wd1 wd223 ⟨rfl, rfl⟩ (n := 1) (by decide +kernel) rfl ⟨by decide, by decide⟩ rfl (Nat.le_of_ble_eq_true rfl) dC_hasse_2 ⟨by decide, by decide⟩) hfo ?_
    by_cases hpl : pl0 p9
    · refine lv_aload_n hx hb dC_hasse_5 rfl (lv_at hl 0 rfl) ?_
      refine lv_iload_n hx hb dC_hasse_6 rfl (lv_at hl 2 rfl) ?_
      refine ck_okF (ck_run (As := [.int (ji p9)]) (rest := []) hx hb hml hown hg hl hK hth hP0 hP hS (by omega) (sh_C E _) rfl (kC_checkPlace l hlf E M p9 hp9) wd362 wd364 wds9 wd1 wd365 ⟨rfl, rfl⟩ (n := 1) (by decide +kernel) rfl ⟨by decide, by decide⟩ rfl (Nat.le_of_ble_eq_true rfl) dC_hasse_7 ⟨by decide, by decide⟩) hpl ?_
      have hok : (fo f ∧ pl0 p9) := ⟨hfo, hpl⟩
      obtain ⟨g, hg2, hfg⟩ := fo_g hfo
      rw [hfg] at hl
      have hI9 := hI g hg2
      refine lv_aload_n hx hb dC_hasse_10 rfl (lv_at hl 0 rfl) ?_
      refine lv_iload_n hx hb dC_hasse_11 rfl (lv_at hl 1 rfl) ?_
      refine mm_V (As := [.int (ji ((g:Int)))]) (rest := []) hx hb hml hown hg hl hK hP hS (by omega) (sh_C E _) rfl (kC_diagonalOf l E hJ M g hg2 (nn g) hI9.1 hI9.2.1 hI9.2.2.1 hI9.2.2.2) wd113 wd115 wds0 wd1 wd116 ⟨rfl, rfl⟩ (n := 1) (by decide +kernel) rfl ⟨by decide, by decide⟩ rfl (Nat.le_of_ble_eq_true rfl) dC_hasse_12 ⟨Nat.zero_le _, Nat.zero_le _⟩ (fun v M1 H locs hq hP hS => ?_)
      obtain ⟨rfl, ⟨r, p, c, hfp, hcB, hD⟩, hF⟩ := hq
      have hpB := hfp.2.1
      have hrn := hfp.2.2
      have hn4 := hI9.2.2.1
      have hn1 := hI9.2.1
      have hFC : FrC M M1 := fun q hq => hF q (by omega) (by omega) (by omega) (by omega) (by omega)
      have hps := ps_bd p r
      have hng := ng_ps p r
      have hds := ds_le hpB
      have hc25 := cB_le (k := r) (by omega)
      have hDG : DG M1 g r := DG_of (by omega) hD hpB
      have hDF : DF M1 g (nn g) r := DF_of (by omega) (by omega) hrn hD hpB
      refine lv_iload_n hx hb dC_hasse_15 rfl (lv_at hl 2 rfl) ?_
      refine mm_V (As := [.int (ji p9)]) (rest := []) hx hb hml hown hg hl hK hP hS (by omega) (sh_D E _ (by omega)) rfl (kD_hasseSign l E hJ M1 g hg2 r hDG p9 (pl0_plc hpl)) wd180 wd181 wd182 wd4 wd183 ⟨rfl, rfl⟩ (n := 1) (by decide +kernel) rfl ⟨by decide, by decide⟩ rfl (Nat.le_of_ble_eq_true rfl) dC_hasse_16 ⟨Nat.zero_le _, Nat.zero_le _⟩ (fun v M2 H locs hq2 hP hS => ?_)
      obtain ⟨rfl, hM2⟩ := hq2
      rw [hM2] at hP
      exact W.mono (fun _ => XQ.mt) (mm_iret hx hb hr hk hP hS dC_hasse_19 ⟨hok, ⟨_, rfl, pm1_b32 (hs_pm (fun a b => sy_pm a b p9) _ _), fo_u hfg ⟨r, p, hfp, hsC_of hD p9⟩⟩, hFC⟩)
    · skip
      refine lv_aload_n hx hb dC_hasse_5 rfl (lv_at hl 0 rfl) ?_
      refine lv_iload_n hx hb dC_hasse_6 rfl (lv_at hl 2 rfl) ?_
      exact ck_out (ck_run (As := [.int (ji p9)]) (rest := []) hx hb hml hown hg hl hK hth hP0 hP hS (by omega) (sh_C E _) rfl (kC_checkPlace l hlf E M p9 hp9) wd362 wd364 wds9 wd1 wd365 ⟨rfl, rfl⟩ (n := 1) (by decide +kernel) rfl ⟨by decide, by decide⟩ rfl (Nat.le_of_ble_eq_true rfl) dC_hasse_7 ⟨by decide, by decide⟩) hpl hk hnx hP hS ⟨rfl, fun q => hpl q.2, rfl⟩
  · skip
    refine lv_aload_n hx hb dC_hasse_0 rfl (lv_at hl 0 rfl) ?_
    refine lv_iload_n hx hb dC_hasse_1 rfl (lv_at hl 1 rfl) ?_
    exact ck_out (ck_run (As := [.int (ji f)]) (rest := []) hx hb hml hown hg hl hK hth hP0 hP hS (by omega) (sh_C E _) rfl (kC_checkForm l hlf E M f hf) wd220 wd222 wds7 wd1 wd223 ⟨rfl, rfl⟩ (n := 1) (by decide +kernel) rfl ⟨by decide, by decide⟩ rfl (Nat.le_of_ble_eq_true rfl) dC_hasse_2 ⟨by decide, by decide⟩) hfo hk hnx hP hS ⟨rfl, fun q => hfo q.1, rfl⟩

set_option maxRecDepth 100000 in
set_option maxHeartbeats 4000000 in
theorem kC_isotropicAt (l : Launch) (hlf : l.flags = pinnedFlags ++ [noTraceFlag]) (E : En) (hJ : wJ E) (M : Me) (f p9 : Int) (hf : b32 f) (hp9 : b32 p9) (nn : Nat → Nat) (hI : ∀ g, g < 2 → CI M g (nn g)) : MT l yC_isotropicAt wsC_isotropicAt (rmt 6) E M [.ref (E.2.1 0), .int (ji f), .int (ji p9)] (fun v M9 => (fo f ∧ pl0 p9) ∧ (∃ z : Prop, v = some (.int (ji (bi z))) ∧ ∀ g : Nat, f = g → ∃ r p, fpv (nn g) (aC M g) r p ∧ z = zr (nn g) r (sf (bef p r)) (tr p) (ps p r) (ng p r) p9) ∧ FrC M M9) (fun C M9 => C = "java/lang/IllegalArgumentException" ∧ ¬ (fo f ∧ pl0 p9) ∧ M9 = M) := by
  refine MT.ofG (by decide +kernel) (Nat.le_of_ble_eq_true rfl) ?_
  intro p_ e_ s_ m_ a_ b_ t_ c_ hx hb hml hr hk hg hown hK hP hS hth hnx ls hl
  have hP0 := hP
  have hl : lv_has ls 3 [(0, .ref (E.2.1 0)), (1, .int (ji f)), (2, .int (ji p9))] := hl
  by_cases hfo : fo f
  · refine lv_aload_n hx hb dC_isotropicAt_0 rfl (lv_at hl 0 rfl) ?_
    refine lv_iload_n hx hb dC_isotropicAt_1 rfl (lv_at hl 1 rfl) ?_
    refine ck_okF (ck_run (As := [.int (ji f)]) (rest := []) hx hb hml hown hg hl hK hth hP0 hP hS (by omega) (sh_C E _) rfl (kC_checkForm l hlf E M f hf) wd220 wd222 wds7 wd1 wd223 ⟨rfl, rfl⟩ (n := 1) (by decide +kernel) rfl ⟨by decide, by decide⟩ rfl (Nat.le_of_ble_eq_true rfl) dC_isotropicAt_2 ⟨by decide, by decide⟩) hfo ?_
    by_cases hpl : pl0 p9
    · refine lv_aload_n hx hb dC_isotropicAt_5 rfl (lv_at hl 0 rfl) ?_
      refine lv_iload_n hx hb dC_isotropicAt_6 rfl (lv_at hl 2 rfl) ?_
      refine ck_okF (ck_run (As := [.int (ji p9)]) (rest := []) hx hb hml hown hg hl hK hth hP0 hP hS (by omega) (sh_C E _) rfl (kC_checkPlace l hlf E M p9 hp9) wd362 wd364 wds9 wd1 wd365 ⟨rfl, rfl⟩ (n := 1) (by decide +kernel) rfl ⟨by decide, by decide⟩ rfl (Nat.le_of_ble_eq_true rfl) dC_isotropicAt_7 ⟨by decide, by decide⟩) hpl ?_
      have hok : (fo f ∧ pl0 p9) := ⟨hfo, hpl⟩
      obtain ⟨g, hg2, hfg⟩ := fo_g hfo
      rw [hfg] at hl
      have hI9 := hI g hg2
      refine lv_aload_n hx hb dC_isotropicAt_10 rfl (lv_at hl 0 rfl) ?_
      refine lv_iload_n hx hb dC_isotropicAt_11 rfl (lv_at hl 1 rfl) ?_
      refine mm_V (As := [.int (ji ((g:Int)))]) (rest := []) hx hb hml hown hg hl hK hP hS (by omega) (sh_C E _) rfl (kC_diagonalOf l E hJ M g hg2 (nn g) hI9.1 hI9.2.1 hI9.2.2.1 hI9.2.2.2) wd113 wd115 wds0 wd1 wd116 ⟨rfl, rfl⟩ (n := 1) (by decide +kernel) rfl ⟨by decide, by decide⟩ rfl (Nat.le_of_ble_eq_true rfl) dC_isotropicAt_12 ⟨Nat.zero_le _, Nat.zero_le _⟩ (fun v M1 H locs hq hP hS => ?_)
      obtain ⟨rfl, ⟨r, p, c, hfp, hcB, hD⟩, hF⟩ := hq
      have hpB := hfp.2.1
      have hrn := hfp.2.2
      have hn4 := hI9.2.2.1
      have hn1 := hI9.2.1
      have hFC : FrC M M1 := fun q hq => hF q (by omega) (by omega) (by omega) (by omega) (by omega)
      have hps := ps_bd p r
      have hng := ng_ps p r
      have hds := ds_le hpB
      have hc25 := cB_le (k := r) (by omega)
      have hDG : DG M1 g r := DG_of (by omega) hD hpB
      have hDF : DF M1 g (nn g) r := DF_of (by omega) (by omega) hrn hD hpB
      refine lv_iload_n hx hb dC_isotropicAt_15 rfl (lv_at hl 2 rfl) ?_
      refine mm_V (As := [.int (ji p9)]) (rest := []) hx hb hml hown hg hl hK hP hS (by omega) (sh_D E _ (by omega)) rfl (kD_hasZeroAt l E hJ M1 g hg2 (nn g) r hDF p9 (pl0_plc hpl)) wd385 wd386 wd387 wd4 wd388 ⟨rfl, rfl⟩ (n := 1) (by decide +kernel) rfl ⟨by decide, by decide⟩ rfl (Nat.le_of_ble_eq_true rfl) dC_isotropicAt_16 ⟨Nat.zero_le _, Nat.zero_le _⟩ (fun v M2 H locs hq2 hP hS => ?_)
      obtain ⟨rfl, hM2⟩ := hq2
      rw [hM2] at hP
      exact W.mono (fun _ => XQ.mt) (mm_zret hx hb hr hk hP hS dC_isotropicAt_19 (nar_bi _) ⟨hok, ⟨_, rfl, fo_u hfg ⟨r, p, hfp, congrFun (zrC_of hD) p9⟩⟩, hFC⟩)
    · skip
      refine lv_aload_n hx hb dC_isotropicAt_5 rfl (lv_at hl 0 rfl) ?_
      refine lv_iload_n hx hb dC_isotropicAt_6 rfl (lv_at hl 2 rfl) ?_
      exact ck_out (ck_run (As := [.int (ji p9)]) (rest := []) hx hb hml hown hg hl hK hth hP0 hP hS (by omega) (sh_C E _) rfl (kC_checkPlace l hlf E M p9 hp9) wd362 wd364 wds9 wd1 wd365 ⟨rfl, rfl⟩ (n := 1) (by decide +kernel) rfl ⟨by decide, by decide⟩ rfl (Nat.le_of_ble_eq_true rfl) dC_isotropicAt_7 ⟨by decide, by decide⟩) hpl hk hnx hP hS ⟨rfl, fun q => hpl q.2, rfl⟩
  · skip
    refine lv_aload_n hx hb dC_isotropicAt_0 rfl (lv_at hl 0 rfl) ?_
    refine lv_iload_n hx hb dC_isotropicAt_1 rfl (lv_at hl 1 rfl) ?_
    exact ck_out (ck_run (As := [.int (ji f)]) (rest := []) hx hb hml hown hg hl hK hth hP0 hP hS (by omega) (sh_C E _) rfl (kC_checkForm l hlf E M f hf) wd220 wd222 wds7 wd1 wd223 ⟨rfl, rfl⟩ (n := 1) (by decide +kernel) rfl ⟨by decide, by decide⟩ rfl (Nat.le_of_ble_eq_true rfl) dC_isotropicAt_2 ⟨by decide, by decide⟩) hfo hk hnx hP hS ⟨rfl, fun q => hfo q.1, rfl⟩

set_option maxRecDepth 100000 in
set_option maxHeartbeats 4000000 in
theorem kC_obstacle (l : Launch) (hlf : l.flags = pinnedFlags ++ [noTraceFlag]) (E : En) (hJ : wJ E) (M : Me) (f : Int) (hf : b32 f) (nn : Nat → Nat) (hI : ∀ g, g < 2 → CI M g (nn g)) : MT l yC_obstacle wsC_obstacle (rmt 6) E M [.ref (E.2.1 0), .int (ji f)] (fun v M9 => fo f ∧ (∃ z : Int, v = some (.int (ji z)) ∧ b32 z ∧ ∀ g : Nat, f = g → ∃ r p, fpv (nn g) (aC M g) r p ∧ lpz (Sp p r) (zr (nn g) r (sf (bef p r)) (tr p) (ps p r) (ng p r)) r (sf (bef p r)) z) ∧ FrC M M9) (fun C M9 => C = "java/lang/IllegalArgumentException" ∧ ¬ fo f ∧ M9 = M) := by
  refine MT.ofG (by decide +kernel) (Nat.le_of_ble_eq_true rfl) ?_
  intro p_ e_ s_ m_ a_ b_ t_ c_ hx hb hml hr hk hg hown hK hP hS hth hnx ls hl
  have hP0 := hP
  have hl : lv_has ls 2 [(0, .ref (E.2.1 0)), (1, .int (ji f))] := hl
  by_cases hfo : fo f
  · refine lv_aload_n hx hb dC_obstacle_0 rfl (lv_at hl 0 rfl) ?_
    refine lv_iload_n hx hb dC_obstacle_1 rfl (lv_at hl 1 rfl) ?_
    refine ck_okF (ck_run (As := [.int (ji f)]) (rest := []) hx hb hml hown hg hl hK hth hP0 hP hS (by omega) (sh_C E _) rfl (kC_checkForm l hlf E M f hf) wd220 wd222 wds7 wd1 wd223 ⟨rfl, rfl⟩ (n := 1) (by decide +kernel) rfl ⟨by decide, by decide⟩ rfl (Nat.le_of_ble_eq_true rfl) dC_obstacle_2 ⟨by decide, by decide⟩) hfo ?_
    obtain ⟨g, hg2, hfg⟩ := fo_g hfo
    rw [hfg] at hl
    have hI9 := hI g hg2
    refine lv_aload_n hx hb dC_obstacle_5 rfl (lv_at hl 0 rfl) ?_
    refine lv_iload_n hx hb dC_obstacle_6 rfl (lv_at hl 1 rfl) ?_
    refine mm_V (As := [.int (ji ((g:Int)))]) (rest := []) hx hb hml hown hg hl hK hP hS (by omega) (sh_C E _) rfl (kC_diagonalOf l E hJ M g hg2 (nn g) hI9.1 hI9.2.1 hI9.2.2.1 hI9.2.2.2) wd113 wd115 wds0 wd1 wd116 ⟨rfl, rfl⟩ (n := 1) (by decide +kernel) rfl ⟨by decide, by decide⟩ rfl (Nat.le_of_ble_eq_true rfl) dC_obstacle_7 ⟨Nat.zero_le _, Nat.zero_le _⟩ (fun v M1 H locs hq hP hS => ?_)
    obtain ⟨rfl, ⟨r, p, c, hfp, hcB, hD⟩, hF⟩ := hq
    have hpB := hfp.2.1
    have hrn := hfp.2.2
    have hn4 := hI9.2.2.1
    have hn1 := hI9.2.1
    have hFC : FrC M M1 := fun q hq => hF q (by omega) (by omega) (by omega) (by omega) (by omega)
    have hps := ps_bd p r
    have hng := ng_ps p r
    have hds := ds_le hpB
    have hc25 := cB_le (k := r) (by omega)
    have hDG : DG M1 g r := DG_of (by omega) hD hpB
    have hDF : DF M1 g (nn g) r := DF_of (by omega) (by omega) hrn hD hpB
    refine mm_V (As := []) (rest := []) hx hb hml hown hg hl hK hP hS (by omega) (sh_D E _ (by omega)) rfl (kD_lowestPlaceWithoutZero l E hJ M1 g hg2 (nn g) r hDF c hD.2.2.2.2.2.2.1 (by omega) (Sp p r) hD.2.2.2.2.2.2.2 (fun q hq => Sp_bd hpB hq)) wd400 wd401 wd402 wd4 wd403 ⟨rfl, rfl⟩ (n := 0) (by decide +kernel) rfl ⟨by decide, by decide⟩ rfl (Nat.le_of_ble_eq_true rfl) dC_obstacle_10 ⟨Nat.zero_le _, Nat.zero_le _⟩ (fun v M2 H locs hq2 hP hS => ?_)
    obtain ⟨⟨z9, rfl, hz9, ho9⟩, hM2⟩ := hq2
    rw [hM2] at hP
    rw [zrC_of hD, hD.2.2.2.2.2.1] at ho9
    exact W.mono (fun _ => XQ.mt) (mm_iret hx hb hr hk hP hS dC_obstacle_13 ⟨hfo, ⟨z9, rfl, hz9, fo_u hfg ⟨r, p, hfp, ho9⟩⟩, hFC⟩)
  · skip
    refine lv_aload_n hx hb dC_obstacle_0 rfl (lv_at hl 0 rfl) ?_
    refine lv_iload_n hx hb dC_obstacle_1 rfl (lv_at hl 1 rfl) ?_
    exact ck_out (ck_run (As := [.int (ji f)]) (rest := []) hx hb hml hown hg hl hK hth hP0 hP hS (by omega) (sh_C E _) rfl (kC_checkForm l hlf E M f hf) wd220 wd222 wds7 wd1 wd223 ⟨rfl, rfl⟩ (n := 1) (by decide +kernel) rfl ⟨by decide, by decide⟩ rfl (Nat.le_of_ble_eq_true rfl) dC_obstacle_2 ⟨by decide, by decide⟩) hfo hk hnx hP hS ⟨rfl, hfo, rfl⟩

set_option maxRecDepth 100000 in
set_option maxHeartbeats 4000000 in
theorem kC_sign (l : Launch) (hlf : l.flags = pinnedFlags ++ [noTraceFlag]) (E : En) (hJ : wJ E) (M : Me) (f k : Int) (hf : b32 f) (hk9 : b32 k) (nn : Nat → Nat) (hI : ∀ g, g < 2 → CI M g (nn g)) : MT l yC_sign wsC_sign (rmt 6) E M [.ref (E.2.1 0), .int (ji f), .int (ji k)] (fun v M9 => fo f ∧ (∃ z : Int, v = some (.int (ji z)) ∧ b32 z ∧ z ≠ -1 ∧ ∀ g : Nat, f = g → ∃ r p, fpv (nn g) (aC M g) r p ∧ nth (mnC p r) k z) ∧ FrC M M9) (fun C M9 => (C = "java/lang/IllegalArgumentException" ∧ ¬ fo f ∧ M9 = M) ∨ (C = "java/lang/IndexOutOfBoundsException" ∧ fo f ∧ (∀ g : Nat, f = g → ∃ r p, fpv (nn g) (aC M g) r p ∧ nth (mnC p r) k (-1)) ∧ FrC M M9)) := by
  refine MT.ofG (by decide +kernel) (Nat.le_of_ble_eq_true rfl) ?_
  intro p_ e_ s_ m_ a_ b_ t_ c_ hx hb hml hr hk hg hown hK hP hS hth hnx ls hl
  have hP0 := hP
  have hl : lv_has ls 4 [(0, .ref (E.2.1 0)), (1, .int (ji f)), (2, .int (ji k))] := hl
  by_cases hfo : fo f
  · refine lv_aload_n hx hb dC_sign_0 rfl (lv_at hl 0 rfl) ?_
    refine lv_iload_n hx hb dC_sign_1 rfl (lv_at hl 1 rfl) ?_
    refine ck_okF (ck_run (As := [.int (ji f)]) (rest := []) hx hb hml hown hg hl hK hth hP0 hP hS (by omega) (sh_C E _) rfl (kC_checkForm l hlf E M f hf) wd220 wd222 wds7 wd1 wd223 ⟨rfl, rfl⟩ (n := 1) (by decide +kernel) rfl ⟨by decide, by decide⟩ rfl (Nat.le_of_ble_eq_true rfl) dC_sign_2 ⟨by decide, by decide⟩) hfo ?_
    obtain ⟨g, hg2, hfg⟩ := fo_g hfo
    rw [hfg] at hl
    have hI9 := hI g hg2
    refine lv_aload_n hx hb dC_sign_5 rfl (lv_at hl 0 rfl) ?_
    refine lv_iload_n hx hb dC_sign_6 rfl (lv_at hl 1 rfl) ?_
    refine mm_V (As := [.int (ji ((g:Int)))]) (rest := []) hx hb hml hown hg hl hK hP hS (by omega) (sh_C E _) rfl (kC_diagonalOf l E hJ M g hg2 (nn g) hI9.1 hI9.2.1 hI9.2.2.1 hI9.2.2.2) wd113 wd115 wds0 wd1 wd116 ⟨rfl, rfl⟩ (n := 1) (by decide +kernel) rfl ⟨by decide, by decide⟩ rfl (Nat.le_of_ble_eq_true rfl) dC_sign_7 ⟨Nat.zero_le _, Nat.zero_le _⟩ (fun v M1 H locs hq hP hS => ?_)
    obtain ⟨rfl, ⟨r, p, c, hfp, hcB, hD⟩, hF⟩ := hq
    have hpB := hfp.2.1
    have hrn := hfp.2.2
    have hn4 := hI9.2.2.1
    have hn1 := hI9.2.1
    have hFC : FrC M M1 := fun q hq => hF q (by omega) (by omega) (by omega) (by omega) (by omega)
    have hps := ps_bd p r
    have hng := ng_ps p r
    have hds := ds_le hpB
    have hc25 := cB_le (k := r) (by omega)
    have hDG : DG M1 g r := DG_of (by omega) hD hpB
    have hDF : DF M1 g (nn g) r := DF_of (by omega) (by omega) hrn hD hpB
    refine lv_iload_n hx hb dC_sign_10 rfl (lv_at hl 2 rfl) ?_
    refine mm_V (As := [.int (ji k)]) (rest := []) hx hb hml hown hg hl hK hP hS (by omega) (sh_D E _ (by omega)) rfl (kD_primeOfMinusSign l E hJ M1 g hg2 r hDG c hD.2.2.2.2.2.2.1 (by omega) (Sp p r) hD.2.2.2.2.2.2.2 (fun q hq => Sp_bd hpB hq) k hk9) wd448 wd449 wd450 wd4 wd451 ⟨rfl, rfl⟩ (n := 1) (by decide +kernel) rfl ⟨by decide, by decide⟩ rfl (Nat.le_of_ble_eq_true rfl) dC_sign_11 ⟨Nat.zero_le _, Nat.zero_le _⟩ (fun v M2 H locs hq2 hP hS => ?_)
    obtain ⟨⟨z9, rfl, hz9, ho9⟩, hM2⟩ := hq2
    rw [hM2] at hP
    have e9 : (fun q => Sp p r q ∧ hsC M1 g r q = -1) = mnC p r := by
      funext q
      unfold mnC
      rw [hsC_of hD]
    rw [e9] at ho9
    refine lv_istore_n hx hb dC_sign_14 rfl hl (by decide) rfl (fun ls hl => ?_)
    have hl : lv_has ls 4 [(3, .int (ji z9)), (0, .ref (E.2.1 0)), (1, .int (ji ((g:Int)))), (2, .int (ji k))] := hl
    refine lv_iload_n hx hb dC_sign_15 rfl (lv_at hl 0 rfl) ?_
    refine j_iconst hx hb dC_sign_16 ?_
    refine j_icmp_ne hx hb hz9 (by decide) dC_sign_17 rfl (fun h3 => ?_) (fun h3 => ?_)
    · refine lv_iload_n hx hb dC_sign_30 rfl (lv_at hl 0 rfl) ?_
      exact W.mono (fun _ => XQ.mt) (mm_iret hx hb hr hk hP hS dC_sign_31 ⟨hfo, ⟨z9, rfl, hz9, h3, fo_u hfg ⟨r, p, hfp, ho9⟩⟩, hFC⟩)
    · rw [h3] at ho9
      exact mt_thr hx hb hml hlf hl hk hnx hown hg hth hP0 hP hS oa_IOE (by decide +kernel) (by decide +kernel) wd310 wd311 wd10 wd452 dC_sign_20 dC_sign_23 dC_sign_24 dC_sign_26 dC_sign_29 (by decide) (Or.inr ⟨rfl, hfo, fo_u hfg ⟨r, p, hfp, ho9⟩, hFC⟩)
  · skip
    refine lv_aload_n hx hb dC_sign_0 rfl (lv_at hl 0 rfl) ?_
    refine lv_iload_n hx hb dC_sign_1 rfl (lv_at hl 1 rfl) ?_
    exact ck_out (ck_run (As := [.int (ji f)]) (rest := []) hx hb hml hown hg hl hK hth hP0 hP hS (by omega) (sh_C E _) rfl (kC_checkForm l hlf E M f hf) wd220 wd222 wds7 wd1 wd223 ⟨rfl, rfl⟩ (n := 1) (by decide +kernel) rfl ⟨by decide, by decide⟩ rfl (Nat.le_of_ble_eq_true rfl) dC_sign_2 ⟨by decide, by decide⟩) hfo hk hnx hP hS (Or.inl ⟨rfl, hfo, rfl⟩)
