/-! RationalForms (the class): takes, equivalent, value -/
theorem vfR_cg {n : Nat} {A A' : Mt} {x x' : Nat → Int} (hA : ∀ i j, i < n → j < n → A i j = A' i j) (hx : ∀ i, i < n → x i = x' i) {i : Nat} (hi : i < n) : ∀ j, j ≤ n → vfR n A x i j = vfR n A' x' i j
  | 0, _ => rfl
  | j + 1, hj => by
    show vfR n A x i j + A i j * x i * x j = vfR n A' x' i j + A' i j * x' i * x' j
    rw [vfR_cg hA hx hi j (by omega), hA i j hi (by omega), hx i hi, hx j (by omega)]
theorem vf_cg {n : Nat} {A A' : Mt} {x x' : Nat → Int} (hA : ∀ i j, i < n → j < n → A i j = A' i j) (hx : ∀ i, i < n → x i = x' i) : ∀ k, k ≤ n → vf n A x k = vf n A' x' k
  | 0, _ => rfl
  | k + 1, hk => by
    show vf n A x k + vfR n A x k n = vf n A' x' k + vfR n A' x' k n
    rw [vf_cg hA hx k (by omega), vfR_cg hA hx (by omega : k < n) n (Nat.le_refl n)]
/-- equivalence, as the class tells it -/
def eqC (n0 n1 r : Nat) (p : Nat → Int) (r1 : Nat) (p1 : Nat → Int) : Prop := n0 = n1 ∧ r = r1 ∧ ps p r = ps p1 r1 ∧ sf (bef p r) = sf (bef p1 r1) ∧ hs (fun a b => sy a b 0) (tr p) r = hs (fun a b => sy a b 0) (tr p1) r1 ∧ (∀ q : Nat, Sp p r q → hs (fun a b => sy a b q) (tr p) r = hs (fun a b => sy a b q) (tr p1) r1) ∧ ∀ q : Nat, Sp p1 r1 q → hs (fun a b => sy a b q) (tr p1) r1 = hs (fun a b => sy a b q) (tr p) r
set_option maxRecDepth 20000 in
theorem wd207 : Cond.methodLink "RationalForms" 119 yD_agreesAtOwnPrimes ∈ GG := GG_t 207 rfl rfl
set_option maxRecDepth 20000 in
theorem wd208 : Cond.instanceMethod yD_agreesAtOwnPrimes ∈ GG := GG_t 208 rfl rfl
set_option maxRecDepth 20000 in
theorem wd209 : Cond.selects "RationalForms$Diagonal" yD_agreesAtOwnPrimes yD_agreesAtOwnPrimes ∈ GG := GG_t 209 rfl rfl
set_option maxRecDepth 20000 in
theorem wd210 : Cond.code yD_agreesAtOwnPrimes cD_agreesAtOwnPrimes 3 (some .boolean) ∈ GG := GG_t 210 rfl rfl
set_option maxRecDepth 20000 in
theorem wd417 : Cond.methodLink "RationalForms" 111 yC_checkArgument ∈ GG := GG_t 417 rfl rfl
set_option maxRecDepth 20000 in
theorem wd419 : Cond.instanceMethod yC_checkArgument ∈ GG := GG_t 419 rfl rfl
set_option maxRecDepth 20000 in
theorem wd420 : Cond.code yC_checkArgument cC_checkArgument 2 none ∈ GG := GG_t 420 rfl rfl
set_option maxRecDepth 20000 in
theorem wd422 : Cond.stringRef "RationalForms" 114 "only numbers other than 0 are taken" ∈ GG := GG_t 422 rfl rfl
set_option maxRecDepth 20000 in
theorem wd423 : Cond.methodLink "RationalForms" 116 yD_extendBy ∈ GG := GG_t 423 rfl rfl
set_option maxRecDepth 20000 in
theorem wd424 : Cond.instanceMethod yD_extendBy ∈ GG := GG_t 424 rfl rfl
set_option maxRecDepth 20000 in
theorem wd425 : Cond.selects "RationalForms$Diagonal" yD_extendBy yD_extendBy ∈ GG := GG_t 425 rfl rfl
set_option maxRecDepth 20000 in
theorem wd426 : Cond.code yD_extendBy cD_extendBy 2 none ∈ GG := GG_t 426 rfl rfl
set_option maxRecDepth 20000 in
theorem wd437 : Cond.methodLink "RationalForms" 124 yF_valueFor ∈ GG := GG_t 437 rfl rfl
set_option maxRecDepth 20000 in
theorem wd438 : Cond.instanceMethod yF_valueFor ∈ GG := GG_t 438 rfl rfl
set_option maxRecDepth 20000 in
theorem wd439 : Cond.selects "RationalForms$Form" yF_valueFor yF_valueFor ∈ GG := GG_t 439 rfl rfl
set_option maxRecDepth 20000 in
theorem wd440 : Cond.code yF_valueFor cF_valueFor 6 (some .long) ∈ GG := GG_t 440 rfl rfl
set_option maxRecDepth 20000 in
theorem wd52 : Cond.fieldLinkNest "RationalForms" 123 "RationalForms$Form" "dimension" "I" "RationalForms" ∈ GG := GG_t 52 rfl rfl
set_option maxRecDepth 20000 in
theorem wd99 : Cond.fieldLink "RationalForms" 28 "RationalForms" "point" "[I" ∈ GG := GG_t 99 rfl rfl
set_option maxRecDepth 20000 in
theorem wds11 : Cond.selects "RationalForms" yC_checkArgument yC_checkArgument ∈ GG := GG_s 11 rfl rfl
set_option maxRecDepth 100000 in
set_option maxHeartbeats 4000000 in
theorem kC_takes (l : Launch) (hlf : l.flags = pinnedFlags ++ [noTraceFlag]) (E : En) (hJ : wJ E) (M : Me) (f v : Int) (hf : b32 f) (hv : b32 v) (nn : Nat → Nat) (hI : ∀ g, g < 2 → CI M g (nn g)) : MT l yC_takes wsC_takes (rmt 6) E M [.ref (E.2.1 0), .int (ji f), .int (ji v)] (fun w M9 => (fo f ∧ -1000 ≤ v ∧ v ≤ 1000) ∧ v ≠ 0 ∧ (∃ z : Prop, w = some (.int (ji (bi z))) ∧ ∀ g : Nat, f = g → ∃ r p, fpv (nn g) (aC M g) r p ∧ tkC r p v z) ∧ FrC M M9) (fun C M9 => ((C = "java/lang/IllegalArgumentException" ∧ ¬ (fo f ∧ -1000 ≤ v ∧ v ≤ 1000)) ∨ (C = "java/lang/ArithmeticException" ∧ (fo f ∧ -1000 ≤ v ∧ v ≤ 1000) ∧ v = 0)) ∧ M9 = M) := by
  refine MT.ofG (by decide +kernel) (Nat.le_of_ble_eq_true rfl) ?_
  intro p_ e_ s_ m_ a_ b_ t_ c_ hx hb hml hr hk hg hown hK hP hS hth hnx ls hl
  have hP0 := hP
  have hl : lv_has ls 4 [(0, .ref (E.2.1 0)), (1, .int (ji f)), (2, .int (ji v))] := hl
  by_cases hfo : fo f
  · refine lv_aload_n hx hb dC_takes_0 rfl (lv_at hl 0 rfl) ?_
    refine lv_iload_n hx hb dC_takes_1 rfl (lv_at hl 1 rfl) ?_
    refine ck_okF (ck_run (As := [.int (ji f)]) (rest := []) hx hb hml hown hg hl hK hth hP0 hP hS (by omega) (sh_C E _) rfl (kC_checkForm l hlf E M f hf) wd220 wd222 wds7 wd1 wd223 ⟨rfl, rfl⟩ (n := 1) (by decide +kernel) rfl ⟨by decide, by decide⟩ rfl (Nat.le_of_ble_eq_true rfl) dC_takes_2 ⟨by decide, by decide⟩) hfo ?_
    by_cases hvr : -1000 ≤ v ∧ v ≤ 1000
    · refine lv_aload_n hx hb dC_takes_5 rfl (lv_at hl 0 rfl) ?_
      refine lv_iload_n hx hb dC_takes_6 rfl (lv_at hl 2 rfl) ?_
      refine ck_okF (ck_run (As := [.int (ji v)]) (rest := []) hx hb hml hown hg hl hK hth hP0 hP hS (by omega) (sh_C E _) rfl (kC_checkArgument l hlf E M v hv) wd417 wd419 wds11 wd1 wd420 ⟨rfl, rfl⟩ (n := 1) (by decide +kernel) rfl ⟨by decide, by decide⟩ rfl (Nat.le_of_ble_eq_true rfl) dC_takes_7 ⟨by decide, by decide⟩) hvr ?_
      have hok : (fo f ∧ -1000 ≤ v ∧ v ≤ 1000) := ⟨hfo, hvr⟩
      obtain ⟨g, hg2, hfg⟩ := fo_g hfo
      rw [hfg] at hl
      have hI9 := hI g hg2
      refine lv_iload_n hx hb dC_takes_10 rfl (lv_at hl 2 rfl) ?_
      refine j_if_ne hx hb (by omega) dC_takes_11 rfl (fun h1 => ?_) (fun h1 => ?_)
      · refine lv_aload_n hx hb dC_takes_24 rfl (lv_at hl 0 rfl) ?_
        refine lv_iload_n hx hb dC_takes_25 rfl (lv_at hl 1 rfl) ?_
        refine mm_V (As := [.int (ji ((g:Int)))]) (rest := []) hx hb hml hown hg hl hK hP hS (by omega) (sh_C E _) rfl (kC_diagonalOf l E hJ M g hg2 (nn g) hI9.1 hI9.2.1 hI9.2.2.1 hI9.2.2.2) wd113 wd115 wds0 wd1 wd116 ⟨rfl, rfl⟩ (n := 1) (by decide +kernel) rfl ⟨by decide, by decide⟩ rfl (Nat.le_of_ble_eq_true rfl) dC_takes_26 ⟨Nat.zero_le _, Nat.zero_le _⟩ (fun v M1 H locs hq hP hS => ?_)
        obtain ⟨rfl, ⟨r, p, c, hfp, hcB, hD⟩, hF⟩ := hq
        have hpB := hfp.2.1
        have hrn := hfp.2.2
        have hn4 := hI9.2.2.1
        have hn1 := hI9.2.1
        have hFC : FrC M M1 := fun q hq => hF q (by omega) (by omega) (by omega) (by omega) (by omega)
        have hps := ps_bd p r
        have hng := ng_ps p r
        have hds := ds_le hpB
        have hc25 := cB_le (k := r) (by omega)
        have hDG : DG M1 g r := DG_of (by omega) hD hpB
        have hDF : DF M1 g (nn g) r := DF_of (by omega) (by omega) hrn hD hpB
        refine lv_astore_n hx hb dC_takes_29 rfl hl (by decide) rfl (fun ls hl => ?_)
        have hl : lv_has ls 4 [(3, .ref (E.2.1 (17 + g))), (0, .ref (E.2.1 0)), (1, .int (ji ((g:Int)))), (2, .int (ji v))] := hl
        refine lv_aload_n hx hb dC_takes_30 rfl (lv_at hl 0 rfl) ?_
        refine m_getN (C := "RationalForms$Diagonal") (T := TxD) (N := 8) hx hb hg uwD hown hK hP (by omega) (sh_D E _ (by omega)) rfl 3 (by decide) wd71 rfl dC_takes_31 ?_
        refine j_if_ne hx hb (by rw [hD.2.1]; omega) dC_takes_34 rfl (fun h5 => ?_) (fun h5 => ?_)
        · rw [hD.2.1] at h5
          have hv0 : -v ≠ 0 := by omega
          have hsx := sf_le hv0
          have hsn := sf_ne hv0
          have hDl := Nat.le_trans (pr_le (b := sf (-v)) (ds_ne hpB)) (Nat.mul_le_mul hds (show (sf (-v)).natAbs ≤ 1000 by omega))
          have hD0 := pr_ne (ds_ne hpB) hsn
          refine lv_aload_n hx hb dC_takes_39 rfl (lv_at hl 0 rfl) ?_
          refine lv_iload_n hx hb dC_takes_40 rfl (lv_at hl 3 rfl) ?_
          refine j_ineg hx hb dC_takes_41 ?_
          refine mm_V (As := [.int (ji (-v))]) (rest := []) hx hb hml hown hg hl hK hP hS (by omega) (sh_D E _ (by omega)) rfl (kD_extendBy l E hJ M1 g hg2 (-v) hv0 (by omega) r hD.2.1 (by omega) (by rw [hD.2.2.2.2.2.1]; exact ds_ne hpB) (by rw [hD.2.2.2.2.2.1]; omega) (by omega) c hD.2.2.2.2.2.2.1 (by omega) (Sp p r) hD.2.2.2.2.2.2.2 (fun q hq => (Sp_bd hpB hq).2)) wd423 wd424 wd425 wd4 wd426 ⟨rfl, rfl⟩ (n := 1) (by decide +kernel) rfl ⟨by decide, by decide⟩ rfl (Nat.le_of_ble_eq_true rfl) dC_takes_42 ⟨Nat.zero_le _, Nat.zero_le _⟩ (fun v M2 H locs hq2 hP hS => ?_)
          obtain ⟨rfl, x1, x2, x3, x4', x5, x6, x7, ⟨c9, y1, y2, y3⟩, x8⟩ := hq2
          have w32 : ∀ i, i < r + 1 → M2 (19 + g) i = trx p r (sf (-v)) i := fun i hi => by
            unfold trx
            by_cases hir : i < r
            · rw [if_pos hir, x4' i (by omega)]; exact hD.2.2.1 i hir
            · rw [if_neg hir, show i = r by omega]; exact x3
          rw [hD.2.2.2.1] at x5
          rw [hD.2.2.2.2.1] at x6
          rw [hD.2.2.2.2.2.1] at x7
          have hb5 : b32 (M2 (17 + g) 4) := by rw [x5]; split <;> omega
          have hb6 : b32 (M2 (17 + g) 5) := by rw [x6]; split <;> omega
          have hDF2 : DF M2 g (r + 1) (r + 1) := ⟨⟨by omega, by rw [x1]; rfl, fun i hi => by
            rw [w32 i hi]
            unfold trx
            by_cases hir : i < r
            · rw [if_pos hir]
              have := tr_bd hpB hir
              exact ⟨this.1, by omega⟩
            · rw [if_neg hir]
              exact ⟨hsn, by omega⟩⟩, Nat.le_refl _, by rw [x2]; rfl, by omega, by omega, by rw [x7]; exact hD0, by rw [x7]; omega, hb5, hb6⟩
          have hzz : zrC M2 g (r + 1) (r + 1) = zr (r + 1) (r + 1) (pr (sf (bef p r)) (sf (-v))) (trx p r (sf (-v))) (ps p r + (if 0 < sf (-v) then 1 else 0)) (ng p r + (if 0 < sf (-v) then 0 else 1)) := by
            funext q
            unfold zrC
            rw [x7, x5, x6]
            exact zr_cg w32 q
          have hFC2 : FrC M M2 := fun q hq => (x8 q (by omega) (by omega) (by omega)).trans (hFC q hq)
          refine lv_aload_n hx hb dC_takes_45 rfl (lv_at hl 0 rfl) ?_
          refine mm_V (As := []) (rest := []) hx hb hml hown hg hl hK hP hS (by omega) (sh_D E _ (by omega)) rfl (kD_lowestPlaceWithoutZero l E hJ M2 g hg2 (r + 1) (r + 1) hDF2 c9 y2 (by omega) (Sx (Sp p r) (-v)) y3 (fun q hq => hq.elim (fun hq => Sp_bd hpB hq) (fun hq => ⟨hq.1.1, by have := Nat.le_of_dvd (by omega) hq.2; omega⟩))) wd400 wd401 wd402 wd4 wd403 ⟨rfl, rfl⟩ (n := 0) (by decide +kernel) rfl ⟨by decide, by decide⟩ rfl (Nat.le_of_ble_eq_true rfl) dC_takes_46 ⟨Nat.zero_le _, Nat.zero_le _⟩ (fun v M3 H locs hq3 hP hS => ?_)
          obtain ⟨⟨z9, rfl, hz9, ho9⟩, hM3⟩ := hq3
          rw [hM3] at hP
          rw [hzz, x7] at ho9
          refine j_iconst hx hb dC_takes_49 ?_
          refine j_icmp_ne hx hb hz9 (by decide) dC_takes_50 rfl (fun h6 => ?_) (fun h6 => ?_)
          · refine j_iconst hx hb dC_takes_57 ?_
            exact W.mono (fun _ => XQ.mt) (mm_zret hx hb hr hk hP hS dC_takes_58 nar_0 ⟨hok, h1, ⟨False, by rw [bi_f id], fo_u hfg ⟨r, p, hfp, fun q => by omega, fun _ => ⟨z9, ho9, ⟨False.elim, fun q => h6 q⟩⟩⟩⟩, hFC2⟩)
          · refine j_iconst hx hb dC_takes_53 ?_
            refine lv_goto hx hb dC_takes_54 rfl ?_
            exact W.mono (fun _ => XQ.mt) (mm_zret hx hb hr hk hP hS dC_takes_58 nar_1 ⟨hok, h1, ⟨True, by rw [bi_t trivial], fo_u hfg ⟨r, p, hfp, fun q => by omega, fun _ => ⟨z9, ho9, ⟨fun _ => h6, fun _ => trivial⟩⟩⟩⟩, hFC2⟩)
        · rw [hD.2.1] at h5
          refine j_iconst hx hb dC_takes_37 ?_
          exact W.mono (fun _ => XQ.mt) (mm_zret hx hb hr hk hP hS dC_takes_38 nar_0 ⟨hok, h1, ⟨False, by rw [bi_f id], fo_u hfg ⟨r, p, hfp, fun _ => id, fun q => by omega⟩⟩, hFC⟩)
      · exact mt_thr hx hb hml hlf hl hk hnx hown hg hth hP0 hP hS oa_ARE (by decide +kernel) (by decide +kernel) wd346 wd347 wd13 wd422 dC_takes_14 dC_takes_17 dC_takes_18 dC_takes_20 dC_takes_23 (by decide) ⟨Or.inr ⟨rfl, hok, h1⟩, rfl⟩
    · skip
      refine lv_aload_n hx hb dC_takes_5 rfl (lv_at hl 0 rfl) ?_
      refine lv_iload_n hx hb dC_takes_6 rfl (lv_at hl 2 rfl) ?_
      exact ck_out (ck_run (As := [.int (ji v)]) (rest := []) hx hb hml hown hg hl hK hth hP0 hP hS (by omega) (sh_C E _) rfl (kC_checkArgument l hlf E M v hv) wd417 wd419 wds11 wd1 wd420 ⟨rfl, rfl⟩ (n := 1) (by decide +kernel) rfl ⟨by decide, by decide⟩ rfl (Nat.le_of_ble_eq_true rfl) dC_takes_7 ⟨by decide, by decide⟩) hvr hk hnx hP hS ⟨Or.inl ⟨rfl, fun q => hvr q.2⟩, rfl⟩
  · skip
    refine lv_aload_n hx hb dC_takes_0 rfl (lv_at hl 0 rfl) ?_
    refine lv_iload_n hx hb dC_takes_1 rfl (lv_at hl 1 rfl) ?_
    exact ck_out (ck_run (As := [.int (ji f)]) (rest := []) hx hb hml hown hg hl hK hth hP0 hP hS (by omega) (sh_C E _) rfl (kC_checkForm l hlf E M f hf) wd220 wd222 wds7 wd1 wd223 ⟨rfl, rfl⟩ (n := 1) (by decide +kernel) rfl ⟨by decide, by decide⟩ rfl (Nat.le_of_ble_eq_true rfl) dC_takes_2 ⟨by decide, by decide⟩) hfo hk hnx hP hS ⟨Or.inl ⟨rfl, fun q => hfo q.1⟩, rfl⟩

set_option maxRecDepth 100000 in
set_option maxHeartbeats 4000000 in
theorem kC_value (l : Launch) (hlf : l.flags = pinnedFlags ++ [noTraceFlag]) (E : En) (hJ : wJ E) (M : Me) (f x y z t : Int) (hf : b32 f) (hx9 : b32 x) (hy9 : b32 y) (hz9 : b32 z) (ht9 : b32 t) (nn : Nat → Nat) (hI : ∀ g, g < 2 → CI M g (nn g)) : MT l yC_value wsC_value (rmt 2) E M [.ref (E.2.1 0), .int (ji f), .int (ji x), .int (ji y), .int (ji z), .int (ji t)] (fun v M9 => ¬ (¬ fo f ∨ ∃ i : Nat, i < nn f.toNat ∧ ¬ (-1000 ≤ x4 x y z t i ∧ x4 x y z t i ≤ 1000)) ∧ (∃ w : Int, v = some (.long (jl w)) ∧ ∀ g : Nat, f = g → w = vf (nn g) (aC M g) (x4 x y z t) (nn g)) ∧ FrC M M9) (fun C M9 => C = "java/lang/IllegalArgumentException" ∧ (¬ fo f ∨ ∃ i : Nat, i < nn f.toNat ∧ ¬ (-1000 ≤ x4 x y z t i ∧ x4 x y z t i ≤ 1000)) ∧ FrC M M9) := by
  refine MT.ofG (by decide +kernel) (Nat.le_of_ble_eq_true rfl) ?_
  intro p_ e_ s_ m_ a_ b_ t_ c_ hx hb hml hr hk hg hown hK hP hS hth hnx ls hl
  have hP0 := hP
  have hl : lv_has ls 8 [(0, .ref (E.2.1 0)), (1, .int (ji f)), (2, .int (ji x)), (3, .int (ji y)), (4, .int (ji z)), (5, .int (ji t))] := hl
  by_cases hfo : fo f
  · refine lv_aload_n hx hb dC_value_0 rfl (lv_at hl 0 rfl) ?_
    refine lv_iload_n hx hb dC_value_1 rfl (lv_at hl 1 rfl) ?_
    refine ck_okF (ck_run (As := [.int (ji f)]) (rest := []) hx hb hml hown hg hl hK hth hP0 hP hS (by omega) (sh_C E _) rfl (kC_checkForm l hlf E M f hf) wd220 wd222 wds7 wd1 wd223 ⟨rfl, rfl⟩ (n := 1) (by decide +kernel) rfl ⟨by decide, by decide⟩ rfl (Nat.le_of_ble_eq_true rfl) dC_value_2 ⟨by decide, by decide⟩) hfo ?_
    obtain ⟨g, hg2, hfg⟩ := fo_g hfo
    have hgt : f.toNat = g := by omega
    rw [hfg] at hl
    have hI9 := hI g hg2
    have hn4 := hI9.2.2.1
    refine lv_aload_n hx hb dC_value_5 rfl (lv_at hl 0 rfl) ?_
    refine m_get (C := "RationalForms") (T := TxC) (N := 4) hx hb hg uwC hown hK hP (by omega) (sh_C E _) rfl 3 (by decide) wd99 rfl dC_value_6 ?_
    refine j_iconst hx hb dC_value_9 ?_
    refine lv_iload_n hx hb dC_value_10 rfl (lv_at hl 2 rfl) ?_
    refine m_iast (n := 0) hx hb hK hJ hP hS (by omega) (fun r => sh_pt E r) rfl (by omega) (by decide) dC_value_11 (fun H locs hP hS => ?_)
    refine lv_aload_n hx hb dC_value_12 rfl (lv_at hl 0 rfl) ?_
    refine m_get (C := "RationalForms") (T := TxC) (N := 4) hx hb hg uwC hown hK hP (by omega) (sh_C E _) rfl 3 (by decide) wd99 rfl dC_value_13 ?_
    refine j_iconst hx hb dC_value_16 ?_
    refine lv_iload_n hx hb dC_value_17 rfl (lv_at hl 3 rfl) ?_
    refine m_iast (n := 1) hx hb hK hJ hP hS (by omega) (fun r => sh_pt E r) rfl (by omega) (by decide) dC_value_18 (fun H locs hP hS => ?_)
    refine lv_aload_n hx hb dC_value_19 rfl (lv_at hl 0 rfl) ?_
    refine m_get (C := "RationalForms") (T := TxC) (N := 4) hx hb hg uwC hown hK hP (by omega) (sh_C E _) rfl 3 (by decide) wd99 rfl dC_value_20 ?_
    refine j_iconst hx hb dC_value_23 ?_
    refine lv_iload hx hb dC_value_24 (lv_at hl 4 rfl) ?_
    refine m_iast (n := 2) hx hb hK hJ hP hS (by omega) (fun r => sh_pt E r) rfl (by omega) (by decide) dC_value_26 (fun H locs hP hS => ?_)
    refine lv_aload_n hx hb dC_value_27 rfl (lv_at hl 0 rfl) ?_
    refine m_get (C := "RationalForms") (T := TxC) (N := 4) hx hb hg uwC hown hK hP (by omega) (sh_C E _) rfl 3 (by decide) wd99 rfl dC_value_28 ?_
    refine j_iconst hx hb dC_value_31 ?_
    refine lv_iload hx hb dC_value_32 (lv_at hl 5 rfl) ?_
    refine m_iast (n := 3) hx hb hK hJ hP hS (by omega) (fun r => sh_pt E r) rfl (by omega) (by decide) dC_value_34 (fun H locs hP hS => ?_)
    obtain ⟨M1, e1⟩ : ∃ X, X = mu (mu (mu (mu M 4 0 x) 4 1 y) 4 2 z) 4 3 t := ⟨_, rfl⟩
    rw [← e1] at hP
    have h4 : ∀ i, i < 4 → M1 4 i = x4 x y z t i := fun i hi => by
      rcases (by omega : i = 0 ∨ i = 1 ∨ i = 2 ∨ i = 3) with q | q | q | q <;> subst q <;> rw [e1] <;> simp [mu, x4]
    have hk4 : ∀ q, q ≠ 4 → M1 q = M q := fun q hq => by rw [e1]; repeat rw [mu_k hq]
    have hn1 : M1 (5 + g) 0 = nn g := by rw [hk4 (5 + g) (by omega)]; exact hI9.1
    have hFC : FrC M M1 := fun q hq => hk4 q (by omega)
    have loop : ∀ (N i : Nat) (ls : Array Slot), i + N = nn g → (∀ j, j < i → (-1000 ≤ x4 x y z t j ∧ x4 x y z t j ≤ 1000)) → lv_has ls 8 [(7, .int (ji ((i:Int)))), (6, .ref (E.2.1 (5 + g))), (0, .ref (E.2.1 0)), (1, .int (ji ((g:Int)))), (2, .int (ji x)), (3, .int (ji y)), (4, .int (ji z)), (5, .int (ji t))] → W p_ l e_ (rmt 2) s_ m_ a_ b_ t_ c_ H locs 0 0 (XQ b_ (mtQ E (fun v M9 => ¬ (¬ fo f ∨ ∃ i : Nat, i < nn f.toNat ∧ ¬ (-1000 ≤ x4 x y z t i ∧ x4 x y z t i ≤ 1000)) ∧ (∃ w : Int, v = some (.long (jl w)) ∧ ∀ g : Nat, f = g → w = vf (nn g) (aC M g) (x4 x y z t) (nn g)) ∧ FrC M M9) (fun C M9 => C = "java/lang/IllegalArgumentException" ∧ (¬ fo f ∨ ∃ i : Nat, i < nn f.toNat ∧ ¬ (-1000 ≤ x4 x y z t i ∧ x4 x y z t i ≤ 1000)) ∧ FrC M M9)) a_ s_ 1 6 (wA E)) (F0 m_ 46 ls []) := by
      intro N
      induction N with
      | zero =>
        intro i ls h0 hok hl
        refine lv_iload hx hb dC_value_46 (lv_at hl 0 rfl) ?_
        refine lv_aload hx hb dC_value_48 (lv_at hl 1 rfl) ?_
        refine m_getN (C := "RationalForms$Form") (T := TxF) (N := 2) hx hb hg uwF hown hK hP (by omega) (sh_F E _ (by omega)) rfl 0 (by decide) wd52 rfl dC_value_50 ?_
        refine j_icmp_ge hx hb (by omega) (by rw [hn1]; omega) dC_value_53 rfl (fun h1 => ?_) (fun h1 => ?_)
        · have hnb : ¬ (¬ fo f ∨ ∃ i : Nat, i < nn f.toNat ∧ ¬ (-1000 ≤ x4 x y z t i ∧ x4 x y z t i ≤ 1000)) := fun q => q.elim (fun q => q hfo) (fun ⟨j, j1, j2⟩ => by rw [hgt] at j1; exact j2 (hok j (by omega)))
          have hb16 : ∀ i j, i < 4 → j < 4 → b32 (M1 (9 + 4 * g + i) j) := fun i j hi hj => by
            rw [hk4 _ (by omega)]
            have h9 : (M (9 + 4 * g + i) j).natAbs ≤ 6 := (hI9.2.2.2 i j (by omega) hi (by omega) hj).2
            omega
          refine lv_aload hx hb dC_value_73 (lv_at hl 1 rfl) ?_
          refine lv_aload_n hx hb dC_value_75 rfl (lv_at hl 2 rfl) ?_
          refine m_get (C := "RationalForms") (T := TxC) (N := 4) hx hb hg uwC hown hK hP (by omega) (sh_C E _) rfl 3 (by decide) wd99 rfl dC_value_76 ?_
          refine mm_V (As := [.ref (E.2.1 4)]) (rest := []) hx hb hml hown hg hl hK hP hS (by omega) (sh_F E _ (by omega)) rfl (kF_valueFor l E hJ M1 g hg2 (nn g) hn1 hn4 hb16 (fun i hi => by rw [h4 i (by omega)]; exact x4_b hx9 hy9 hz9 ht9 i)) wd437 wd438 wd439 wd3 wd440 ⟨rfl, rfl⟩ (n := 1) (by decide +kernel) rfl ⟨by decide, by decide⟩ rfl (Nat.le_of_ble_eq_true rfl) dC_value_79 ⟨Nat.zero_le _, Nat.zero_le _⟩ (fun v M2 H locs hq2 hP hS => ?_)
          obtain ⟨rfl, hM2⟩ := hq2
          rw [hM2] at hP
          exact W.mono (fun _ => XQ.mt) (mm_lret hx hb hr hk hP hS dC_value_82 ⟨hnb, ⟨_, rfl, fo_u (P := fun g' => vf (nn g) (fun i j => M1 (9 + 4 * g + i) j) (M1 4) (nn g) = vf (nn g') (aC M g') (x4 x y z t) (nn g')) hfg (vf_cg (fun i j hi hj => by rw [hk4 _ (by omega)]) (fun i hi => h4 i (by omega)) _ (Nat.le_refl _))⟩, hFC⟩)
        · rw [hn1] at h1
          omega
      | succ N ih =>
        intro i ls h0 hok hl
        have hb4 : b32 (M1 4 i) := by rw [h4 i (by omega)]; exact x4_b hx9 hy9 hz9 ht9 i
        refine lv_iload hx hb dC_value_46 (lv_at hl 0 rfl) ?_
        refine lv_aload hx hb dC_value_48 (lv_at hl 1 rfl) ?_
        refine m_getN (C := "RationalForms$Form") (T := TxF) (N := 2) hx hb hg uwF hown hK hP (by omega) (sh_F E _ (by omega)) rfl 0 (by decide) wd52 rfl dC_value_50 ?_
        refine j_icmp_ge hx hb (by omega) (by rw [hn1]; omega) dC_value_53 rfl (fun h1 => ?_) (fun h1 => ?_)
        · rw [hn1] at h1
          omega
        · by_cases hok2 : -1000 ≤ M1 4 i ∧ M1 4 i ≤ 1000
          · refine lv_aload_n hx hb dC_value_56 rfl (lv_at hl 2 rfl) ?_
            refine lv_aload_n hx hb dC_value_57 rfl (lv_at hl 2 rfl) ?_
            refine m_get (C := "RationalForms") (T := TxC) (N := 4) hx hb hg uwC hown hK hP (by omega) (sh_C E _) rfl 3 (by decide) wd99 rfl dC_value_58 ?_
            refine lv_iload hx hb dC_value_61 (lv_at hl 0 rfl) ?_
            refine m_iald (n := i) hx hb hK hP (by omega) (sh_pt E _) rfl (by omega) (by decide) dC_value_63 ?_
            refine ck_okF (ck_run (As := [.int (ji (M1 4 i))]) (rest := []) hx hb hml hown hg hl hK hth hP0 hP hS (by omega) (sh_C E _) rfl (kC_checkArgument l hlf E M1 (M1 4 i) hb4) wd417 wd419 wds11 wd1 wd420 ⟨rfl, rfl⟩ (n := 1) (by decide +kernel) rfl ⟨by decide, by decide⟩ rfl (Nat.le_of_ble_eq_true rfl) dC_value_64 ⟨by decide, by decide⟩) hok2 ?_
            refine lv_iinc (k := 0) (v := ji (((i:Int)) + 1)) hx hb dC_value_67 hl rfl (Int32.ofInt_add _ _).symm (by decide) rfl (fun ls hl => ?_)
            have hl : lv_has ls 8 [(7, .int (ji (((i:Int)) + 1))), (6, .ref (E.2.1 (5 + g))), (0, .ref (E.2.1 0)), (1, .int (ji ((g:Int)))), (2, .int (ji x)), (3, .int (ji y)), (4, .int (ji z)), (5, .int (ji t))] := hl
            refine lv_goto hx hb dC_value_70 rfl ?_
            refine ih (i + 1) ls (by omega) (fun j hj => ?_) hl
            by_cases hji : j = i
            · rw [hji, ← h4 i (by omega)]; exact hok2
            · exact hok j (by omega)
          · skip
            refine lv_aload_n hx hb dC_value_56 rfl (lv_at hl 2 rfl) ?_
            refine lv_aload_n hx hb dC_value_57 rfl (lv_at hl 2 rfl) ?_
            refine m_get (C := "RationalForms") (T := TxC) (N := 4) hx hb hg uwC hown hK hP (by omega) (sh_C E _) rfl 3 (by decide) wd99 rfl dC_value_58 ?_
            refine lv_iload hx hb dC_value_61 (lv_at hl 0 rfl) ?_
            refine m_iald (n := i) hx hb hK hP (by omega) (sh_pt E _) rfl (by omega) (by decide) dC_value_63 ?_
            exact ck_out (ck_run (As := [.int (ji (M1 4 i))]) (rest := []) hx hb hml hown hg hl hK hth hP0 hP hS (by omega) (sh_C E _) rfl (kC_checkArgument l hlf E M1 (M1 4 i) hb4) wd417 wd419 wds11 wd1 wd420 ⟨rfl, rfl⟩ (n := 1) (by decide +kernel) rfl ⟨by decide, by decide⟩ rfl (Nat.le_of_ble_eq_true rfl) dC_value_64 ⟨by decide, by decide⟩) hok2 hk hnx hP hS ⟨rfl, Or.inr ⟨i, by rw [hgt]; omega, by rw [← h4 i (by omega)]; exact hok2⟩, hFC⟩
    refine lv_aload_n hx hb dC_value_35 rfl (lv_at hl 0 rfl) ?_
    refine m_get (C := "RationalForms") (T := TxC) (N := 4) hx hb hg uwC hown hK hP (by omega) (sh_C E _) rfl 0 (by decide) wd96 rfl dC_value_36 ?_
    refine lv_iload_n hx hb dC_value_39 rfl (lv_at hl 1 rfl) ?_
    refine m_aald (t0 := 4) (n := g) hx hb hK hP (by omega) (sh_fs E _) rfl rfl rfl (by omega) (by decide) dC_value_40 ?_
    refine lv_astore hx hb dC_value_41 hl (by decide) rfl (fun ls hl => ?_)
    have hl : lv_has ls 8 [(6, .ref (E.2.1 (5 + g))), (0, .ref (E.2.1 0)), (1, .int (ji ((g:Int)))), (2, .int (ji x)), (3, .int (ji y)), (4, .int (ji z)), (5, .int (ji t))] := hl
    refine j_iconst hx hb dC_value_43 ?_
    refine lv_istore hx hb dC_value_44 hl (by decide) rfl (fun ls hl => ?_)
    have hl : lv_has ls 8 [(7, .int (ji 0)), (6, .ref (E.2.1 (5 + g))), (0, .ref (E.2.1 0)), (1, .int (ji ((g:Int)))), (2, .int (ji x)), (3, .int (ji y)), (4, .int (ji z)), (5, .int (ji t))] := hl
    exact loop (nn g) 0 ls (by omega) (fun j hj => by omega) hl
  · skip
    refine lv_aload_n hx hb dC_value_0 rfl (lv_at hl 0 rfl) ?_
    refine lv_iload_n hx hb dC_value_1 rfl (lv_at hl 1 rfl) ?_
    exact ck_out (ck_run (As := [.int (ji f)]) (rest := []) hx hb hml hown hg hl hK hth hP0 hP hS (by omega) (sh_C E _) rfl (kC_checkForm l hlf E M f hf) wd220 wd222 wds7 wd1 wd223 ⟨rfl, rfl⟩ (n := 1) (by decide +kernel) rfl ⟨by decide, by decide⟩ rfl (Nat.le_of_ble_eq_true rfl) dC_value_2 ⟨by decide, by decide⟩) hfo hk hnx hP hS ⟨rfl, Or.inl hfo, fun _ _ => rfl⟩

set_option maxRecDepth 100000 in
set_option maxHeartbeats 4000000 in
theorem kC_equivalent (l : Launch) (E : En) (hJ : wJ E) (M : Me) (nn : Nat → Nat) (hI : ∀ g, g < 2 → CI M g (nn g)) : MM l yC_equivalent wsC_equivalent (rmd 6) E M [.ref (E.2.1 0)] (fun v M9 => (∃ z : Prop, v = some (.int (ji (bi z))) ∧ ∃ r p r1 p1, fpv (nn 0) (aC M 0) r p ∧ fpv (nn 1) (aC M 1) r1 p1 ∧ (z ↔ eqC (nn 0) (nn 1) r p r1 p1)) ∧ FrC M M9) := by
  refine MM.ofG (by decide +kernel) (Nat.le_of_ble_eq_true rfl) ?_
  intro p_ e_ s_ m_ a_ b_ t_ c_ hx hb hml hr hk hg hown hK hP hS ls hl
  have hl : lv_has ls 3 [(0, .ref (E.2.1 0))] := hl
  refine lv_aload_n hx hb dC_equivalent_0 rfl (lv_at hl 0 rfl) ?_
  refine j_iconst hx hb dC_equivalent_1 ?_
  refine mm_V (As := [.int (ji (((0:Nat):Int)))]) (rest := []) hx hb hml hown hg hl hK hP hS (by omega) (sh_C E _) rfl (kC_diagonalOf l E hJ M 0 (by omega) (nn 0) (hI 0 (by omega)).1 (hI 0 (by omega)).2.1 (hI 0 (by omega)).2.2.1 (hI 0 (by omega)).2.2.2) wd113 wd115 wds0 wd1 wd116 ⟨rfl, rfl⟩ (n := 1) (by decide +kernel) rfl ⟨by decide, by decide⟩ rfl (Nat.le_of_ble_eq_true rfl) dC_equivalent_2 ⟨Nat.zero_le _, Nat.zero_le _⟩ (fun v M1 H locs hq hP hS => ?_)
  obtain ⟨rfl, ⟨r, p, c, hfp, hcB, hD⟩, hF⟩ := hq
  have h14 : eqn 4 (aC M1 1) (aC M 1) := fun i j hi hj => by
    show M1 (9 + 4 * 1 + i) j = M (9 + 4 * 1 + i) j
    rw [hF (9 + 4 * 1 + i) (by omega) (by omega) (by omega) (by omega) (by omega)]
  have hI1 := hI 1 (by omega)
  have hI0 := hI 0 (by omega)
  refine lv_astore_n hx hb dC_equivalent_5 rfl hl (by decide) rfl (fun ls hl => ?_)
  have hl : lv_has ls 3 [(1, .ref (E.2.1 (17 + 0))), (0, .ref (E.2.1 0))] := hl
  refine lv_aload_n hx hb dC_equivalent_6 rfl (lv_at hl 1 rfl) ?_
  refine j_iconst hx hb dC_equivalent_7 ?_
  refine mm_V (As := [.int (ji (((1:Nat):Int)))]) (rest := []) hx hb hml hown hg hl hK hP hS (by omega) (sh_C E _) rfl (kC_diagonalOf l E hJ M1 1 (by omega) (nn 1) (by rw [hF 6 (by omega) (by omega) (by omega) (by omega) (by omega)]; exact hI1.1) hI1.2.1 hI1.2.2.1 (hI1.2.2.2.cg h14)) wd113 wd115 wds0 wd1 wd116 ⟨rfl, rfl⟩ (n := 1) (by decide +kernel) rfl ⟨by decide, by decide⟩ rfl (Nat.le_of_ble_eq_true rfl) dC_equivalent_8 ⟨Nat.zero_le _, Nat.zero_le _⟩ (fun v M2 H locs hq2 hP hS => ?_)
  obtain ⟨rfl, ⟨r1, p1, c1, hfp1, hcB1, hD1⟩, hF1⟩ := hq2
  have hn4 := hI0.2.2.1
  have hn41 := hI1.2.2.1
  have hfp1' : fpv (nn 1) (aC M 1) r1 p1 := ⟨hfp1.1.tA (fun i j hi hj => h14 i j (by omega) (by omega)), hfp1.2⟩
  have hD0 : DgS M2 0 (nn 0) r p c := hD.fr (hF1 17 (by omega) (by omega) (by omega) (by omega) (by omega)) (hF1 19 (by omega) (by omega) (by omega) (by omega) (by omega)) (hF1 21 (by omega) (by omega) (by omega) (by omega) (by omega))
  have hFC : FrC M M2 := fun q hq => (hF1 q (by omega) (by omega) (by omega) (by omega) (by omega)).trans (hF q (by omega) (by omega) (by omega) (by omega) (by omega))
  have hrn := hfp.2.2
  have hrn1 := hfp1.2.2
  have hps := ps_bd p r
  have hps1 := ps_bd p1 r1
  have hds := ds_le hfp.2.1
  have hds1 := ds_le hfp1.2.1
  have hc25 := cB_le (k := r) (by omega)
  have hc251 := cB_le (k := r1) (by omega)
  have hG0 : DG M2 0 r := DG_of (by omega) hD0 hfp.2.1
  have hG1 : DG M2 1 r1 := DG_of (by omega) hD1 hfp1.2.1
  have no : ∀ (ls : Array Slot) (H : Heap) (locs : List Loc), ¬ eqC (nn 0) (nn 1) r p r1 p1 → wP E M2 H → va_S (wA E) s_.heap H locs → lv_has ls 3 [(2, .ref (E.2.1 (17 + 1))), (1, .ref (E.2.1 (17 + 0))), (0, .ref (E.2.1 0))] → W p_ l e_ (rmd 6) s_ m_ a_ b_ t_ c_ H locs 0 0 (XQ b_ (mmQ E (fun v M9 => (∃ z : Prop, v = some (.int (ji (bi z))) ∧ ∃ r p r1 p1, fpv (nn 0) (aC M 0) r p ∧ fpv (nn 1) (aC M 1) r1 p1 ∧ (z ↔ eqC (nn 0) (nn 1) r p r1 p1)) ∧ FrC M M9)) a_ s_ 0 0 (wA E)) (F0 m_ 90 ls []) := by
    intro ls H locs hno hP hS hl
    refine j_iconst hx hb dC_equivalent_90 ?_
    exact mm_zret hx hb hr hk hP hS dC_equivalent_91 nar_0 ⟨⟨False, by rw [bi_f id], r, p, r1, p1, hfp, hfp1', ⟨False.elim, hno⟩⟩, hFC⟩
  refine lv_astore_n hx hb dC_equivalent_11 rfl hl (by decide) rfl (fun ls hl => ?_)
  have hl : lv_has ls 3 [(2, .ref (E.2.1 (17 + 1))), (1, .ref (E.2.1 (17 + 0))), (0, .ref (E.2.1 0))] := hl
  refine lv_aload_n hx hb dC_equivalent_12 rfl (lv_at hl 1 rfl) ?_
  refine m_getN (C := "RationalForms$Diagonal") (T := TxD) (N := 8) hx hb hg uwD hown hK hP (by omega) (sh_D E _ (by omega)) rfl 2 (by decide) wd69 rfl dC_equivalent_13 ?_
  refine lv_aload_n hx hb dC_equivalent_16 rfl (lv_at hl 0 rfl) ?_
  refine m_getN (C := "RationalForms$Diagonal") (T := TxD) (N := 8) hx hb hg uwD hown hK hP (by omega) (sh_D E _ (by omega)) rfl 2 (by decide) wd69 rfl dC_equivalent_17 ?_
  refine j_icmp_ne hx hb (by rw [hD0.1]; omega) (by rw [hD1.1]; omega) dC_equivalent_20 rfl (fun k1 => ?_) (fun k1 => ?_)
  · rw [hD0.1, hD1.1] at k1
    exact no ls H locs (fun q => k1 (by rw [q.1])) hP hS hl
  · rw [hD0.1, hD1.1] at k1
    refine lv_aload_n hx hb dC_equivalent_23 rfl (lv_at hl 1 rfl) ?_
    refine m_getN (C := "RationalForms$Diagonal") (T := TxD) (N := 8) hx hb hg uwD hown hK hP (by omega) (sh_D E _ (by omega)) rfl 3 (by decide) wd71 rfl dC_equivalent_24 ?_
    refine lv_aload_n hx hb dC_equivalent_27 rfl (lv_at hl 0 rfl) ?_
    refine m_getN (C := "RationalForms$Diagonal") (T := TxD) (N := 8) hx hb hg uwD hown hK hP (by omega) (sh_D E _ (by omega)) rfl 3 (by decide) wd71 rfl dC_equivalent_28 ?_
    refine j_icmp_ne hx hb (by rw [hD0.2.1]; omega) (by rw [hD1.2.1]; omega) dC_equivalent_31 rfl (fun k2 => ?_) (fun k2 => ?_)
    · rw [hD0.2.1, hD1.2.1] at k2
      exact no ls H locs (fun q => k2 (by rw [q.2.1])) hP hS hl
    · rw [hD0.2.1, hD1.2.1] at k2
      refine lv_aload_n hx hb dC_equivalent_34 rfl (lv_at hl 1 rfl) ?_
      refine m_getN (C := "RationalForms$Diagonal") (T := TxD) (N := 8) hx hb hg uwD hown hK hP (by omega) (sh_D E _ (by omega)) rfl 4 (by decide) wd73 rfl dC_equivalent_35 ?_
      refine lv_aload_n hx hb dC_equivalent_38 rfl (lv_at hl 0 rfl) ?_
      refine m_getN (C := "RationalForms$Diagonal") (T := TxD) (N := 8) hx hb hg uwD hown hK hP (by omega) (sh_D E _ (by omega)) rfl 4 (by decide) wd73 rfl dC_equivalent_39 ?_
      refine j_icmp_ne hx hb (by rw [hD0.2.2.2.1]; omega) (by rw [hD1.2.2.2.1]; omega) dC_equivalent_42 rfl (fun k3 => ?_) (fun k3 => ?_)
      · rw [hD0.2.2.2.1, hD1.2.2.2.1] at k3
        exact no ls H locs (fun q => k3 q.2.2.1) hP hS hl
      · rw [hD0.2.2.2.1, hD1.2.2.2.1] at k3
        refine lv_aload_n hx hb dC_equivalent_45 rfl (lv_at hl 1 rfl) ?_
        refine m_getN (C := "RationalForms$Diagonal") (T := TxD) (N := 8) hx hb hg uwD hown hK hP (by omega) (sh_D E _ (by omega)) rfl 6 (by decide) wd77 rfl dC_equivalent_46 ?_
        refine lv_aload_n hx hb dC_equivalent_49 rfl (lv_at hl 0 rfl) ?_
        refine m_getN (C := "RationalForms$Diagonal") (T := TxD) (N := 8) hx hb hg uwD hown hK hP (by omega) (sh_D E _ (by omega)) rfl 6 (by decide) wd77 rfl dC_equivalent_50 ?_
        refine j_lc_ne hx hb (by rw [hD0.2.2.2.2.2.1]; omega) (by rw [hD1.2.2.2.2.2.1]; omega) dC_equivalent_53 dC_equivalent_54 rfl (fun k4 => ?_) (fun k4 => ?_)
        · rw [hD0.2.2.2.2.2.1, hD1.2.2.2.2.2.1] at k4
          exact no ls H locs (fun q => k4 q.2.2.2.1) hP hS hl
        · rw [hD0.2.2.2.2.2.1, hD1.2.2.2.2.2.1] at k4
          refine lv_aload_n hx hb dC_equivalent_57 rfl (lv_at hl 1 rfl) ?_
          refine j_iconst hx hb dC_equivalent_58 ?_
          refine mm_V (As := [.int (ji 0)]) (rest := []) hx hb hml hown hg hl hK hP hS (by omega) (sh_D E _ (by omega)) rfl (kD_hasseSign l E hJ M2 0 (by omega) r hG0 0 (Or.inl rfl)) wd180 wd181 wd182 wd4 wd183 ⟨rfl, rfl⟩ (n := 1) (by decide +kernel) rfl ⟨by decide, by decide⟩ rfl (Nat.le_of_ble_eq_true rfl) dC_equivalent_59 ⟨Nat.zero_le _, Nat.zero_le _⟩ (fun v M3 H locs hq3 hP hS => ?_)
          obtain ⟨rfl, hM3⟩ := hq3
          rw [hM3] at hP
          refine lv_aload_n hx hb dC_equivalent_62 rfl (lv_at hl 0 rfl) ?_
          refine j_iconst hx hb dC_equivalent_63 ?_
          refine mm_V (As := [.int (ji 0)]) (rest := [.int (ji (hsC M2 0 r 0))]) hx hb hml hown hg hl hK hP hS (by omega) (sh_D E _ (by omega)) rfl (kD_hasseSign l E hJ M2 1 (by omega) r1 hG1 0 (Or.inl rfl)) wd180 wd181 wd182 wd4 wd183 ⟨rfl, rfl⟩ (n := 1) (by decide +kernel) rfl ⟨by decide, by decide⟩ rfl (Nat.le_of_ble_eq_true rfl) dC_equivalent_64 ⟨Nat.zero_le _, Nat.zero_le _⟩ (fun v M4 H locs hq4 hP hS => ?_)
          obtain ⟨rfl, hM4⟩ := hq4
          rw [hM4] at hP
          refine j_icmp_ne hx hb (pm1_b32 (hs_pm (fun a b => sy_pm a b _) _ _)) (pm1_b32 (hs_pm (fun a b => sy_pm a b _) _ _)) dC_equivalent_67 rfl (fun k5 => ?_) (fun k5 => ?_)
          · rw [hsC_of hD0, hsC_of hD1] at k5
            exact no ls H locs (fun q => k5 q.2.2.2.2.1) hP hS hl
          · rw [hsC_of hD0, hsC_of hD1] at k5
            refine lv_aload_n hx hb dC_equivalent_70 rfl (lv_at hl 1 rfl) ?_
            refine lv_aload_n hx hb dC_equivalent_71 rfl (lv_at hl 0 rfl) ?_
            refine mm_V (As := [.ref (E.2.1 (17 + 1))]) (rest := []) hx hb hml hown hg hl hK hP hS (by omega) (sh_D E _ (by omega)) rfl (kD_agreesAtOwnPrimes l E hJ M2 0 1 (by omega) (by omega) r r1 hG0 hG1 c hD0.2.2.2.2.2.2.1 (by omega) (Sp p r) hD0.2.2.2.2.2.2.2 (fun q hq => Sp_bd hfp.2.1 hq)) wd207 wd208 wd209 wd4 wd210 ⟨rfl, rfl⟩ (n := 1) (by decide +kernel) rfl ⟨by decide, by decide⟩ rfl (Nat.le_of_ble_eq_true rfl) dC_equivalent_72 ⟨Nat.zero_le _, Nat.zero_le _⟩ (fun v M5 H locs hq5 hP hS => ?_)
            obtain ⟨rfl, hM5⟩ := hq5
            rw [hM5] at hP
            refine j_if_eq hx hb (bi_b32 _) dC_equivalent_75 rfl (fun k6 => ?_) (fun k6 => ?_)
            · have k6' := bi_eq k6
              exact no ls H locs (fun q => k6' (fun x hx => by rw [hsC_of hD0, hsC_of hD1]; exact q.2.2.2.2.2.1 x hx)) hP hS hl
            · have k6' := bi_ne k6
              refine lv_aload_n hx hb dC_equivalent_78 rfl (lv_at hl 0 rfl) ?_
              refine lv_aload_n hx hb dC_equivalent_79 rfl (lv_at hl 1 rfl) ?_
              refine mm_V (As := [.ref (E.2.1 (17 + 0))]) (rest := []) hx hb hml hown hg hl hK hP hS (by omega) (sh_D E _ (by omega)) rfl (kD_agreesAtOwnPrimes l E hJ M2 1 0 (by omega) (by omega) r1 r hG1 hG0 c1 hD1.2.2.2.2.2.2.1 (by omega) (Sp p1 r1) hD1.2.2.2.2.2.2.2 (fun q hq => Sp_bd hfp1.2.1 hq)) wd207 wd208 wd209 wd4 wd210 ⟨rfl, rfl⟩ (n := 1) (by decide +kernel) rfl ⟨by decide, by decide⟩ rfl (Nat.le_of_ble_eq_true rfl) dC_equivalent_80 ⟨Nat.zero_le _, Nat.zero_le _⟩ (fun v M6 H locs hq6 hP hS => ?_)
              obtain ⟨rfl, hM6⟩ := hq6
              rw [hM6] at hP
              refine j_if_eq hx hb (bi_b32 _) dC_equivalent_83 rfl (fun k7 => ?_) (fun k7 => ?_)
              · have k7' := bi_eq k7
                exact no ls H locs (fun q => k7' (fun x hx => by rw [hsC_of hD0, hsC_of hD1]; exact q.2.2.2.2.2.2 x hx)) hP hS hl
              · have k7' := bi_ne k7
                refine j_iconst hx hb dC_equivalent_86 ?_
                refine lv_goto hx hb dC_equivalent_87 rfl ?_
                exact mm_zret hx hb hr hk hP hS dC_equivalent_91 nar_1 ⟨⟨True, by rw [bi_t trivial], r, p, r1, p1, hfp, hfp1', ⟨fun _ => ⟨by omega, by omega, k3, k4, k5, fun x hx => by have := k6' x hx; rw [hsC_of hD0, hsC_of hD1] at this; exact this, fun x hx => by have := k7' x hx; rw [hsC_of hD0, hsC_of hD1] at this; exact this⟩, fun _ => trivial⟩⟩, hFC⟩
