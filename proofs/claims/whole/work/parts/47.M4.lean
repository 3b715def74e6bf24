/-! the reference: Hasse signs, zeros, obstacles, signs noted -/
def TG (M : Me) (r : Nat) : Prop := r ≤ 5 ∧ ∀ i, i < r → b64 (M 32 i) ∧ ¬ (4 : Int) ∣ M 32 i
noncomputable abbrev hsM (M : Me) (r : Nat) (p : Int) : Int := hs (fun a b => syM a b p) (M 32) r
def zM (r : Nat) (D : Int) (t : Nat → Int) (bo : Prop) (p : Int) : Prop := (r = 2 ∧ sqM (-D) p) ∨ (r = 3 ∧ hs (fun a b => syM a b p) t r = syM (-1) (-D) p) ∨ (r = 4 ∧ (¬ sqM D p ∨ hs (fun a b => syM a b p) t r = syM (-1) (-1) p)) ∨ (4 < r ∧ (p ≠ 0 ∨ bo))
/-- what obstacleOf answers -/
def oMs (S : Nat → Prop) (Z : Int → Prop) (r : Nat) (D v : Int) : Prop := (¬ Z 0 → v = 0) ∧ (Z 0 → r = 2 → D = -1 → v = -1) ∧ (Z 0 → r = 2 → D ≠ -1 → ∃ w : Nat, v = w ∧ prm w ∧ ¬ sqM (-D) w ∧ ∀ m : Nat, m < w → prm m → sqM (-D) m) ∧ (Z 0 → r ≠ 2 → (∀ q : Nat, S q → Z q) → v = -1) ∧ (Z 0 → r ≠ 2 → ∀ q : Nat, S q → ¬ Z q → (∀ m : Nat, S m → m < q → Z m) → v = q)
set_option maxRecDepth 20000 in
theorem wd469 : Cond.fieldLink "RationalFormsModel" 126 "RationalFormsModel" "signs" "I" ∈ GG := GG_t 469 rfl rfl
set_option maxRecDepth 20000 in
theorem wd470 : Cond.fieldLink "RationalFormsModel" 26 "RationalFormsModel" "signAt" "[I" ∈ GG := GG_t 470 rfl rfl
set_option maxRecDepth 20000 in
theorem wd471 : Cond.fieldLink "RationalFormsModel" 29 "RationalFormsModel" "thrown" "I" ∈ GG := GG_t 471 rfl rfl
set_option maxRecDepth 20000 in
theorem wd559 : Cond.methodLink "RationalFormsModel" 96 yM_symbolOf ∈ GG := GG_t 559 rfl rfl
set_option maxRecDepth 20000 in
theorem wd560 : Cond.static yM_symbolOf ∈ GG := GG_t 560 rfl rfl
set_option maxRecDepth 20000 in
theorem wd561 : Cond.code yM_symbolOf cM_symbolOf 14 (some .int) ∈ GG := GG_t 561 rfl rfl
set_option maxRecDepth 20000 in
theorem wd576 : Cond.methodLink "RationalFormsModel" 100 yM_hasseOf ∈ GG := GG_t 576 rfl rfl
set_option maxRecDepth 20000 in
theorem wd578 : Cond.instanceMethod yM_hasseOf ∈ GG := GG_t 578 rfl rfl
set_option maxRecDepth 20000 in
theorem wd579 : Cond.code yM_hasseOf cM_hasseOf 7 (some .int) ∈ GG := GG_t 579 rfl rfl
set_option maxRecDepth 20000 in
theorem wd584 : Cond.methodLink "RationalFormsModel" 107 yM_isZeroAt ∈ GG := GG_t 584 rfl rfl
set_option maxRecDepth 20000 in
theorem wd586 : Cond.instanceMethod yM_isZeroAt ∈ GG := GG_t 586 rfl rfl
set_option maxRecDepth 20000 in
theorem wd587 : Cond.code yM_isZeroAt cM_isZeroAt 8 (some .boolean) ∈ GG := GG_t 587 rfl rfl
set_option maxRecDepth 20000 in
theorem wd588 : Cond.methodLink "RationalFormsModel" 104 yM_isSquare ∈ GG := GG_t 588 rfl rfl
set_option maxRecDepth 20000 in
theorem wd589 : Cond.static yM_isSquare ∈ GG := GG_t 589 rfl rfl
set_option maxRecDepth 20000 in
theorem wd590 : Cond.code yM_isSquare cM_isSquare 4 (some .boolean) ∈ GG := GG_t 590 rfl rfl
set_option maxRecDepth 20000 in
theorem wds17 : Cond.selects "RationalFormsModel" yM_hasseOf yM_hasseOf ∈ GG := GG_s 17 rfl rfl
set_option maxRecDepth 20000 in
theorem wds18 : Cond.selects "RationalFormsModel" yM_isZeroAt yM_isZeroAt ∈ GG := GG_s 18 rfl rfl
set_option maxRecDepth 100000 in
set_option maxHeartbeats 4000000 in
theorem kM_thrown (l : Launch) (E : En) (hJ : wJ E) (M : Me)  : MM l yM_thrown wsM_thrown (rmd 0) E M [.ref (E.2.1 28)] (fun v M9 => v = some (.int (ji (M 28 12))) ∧ M9 = M) := by
  refine MM.ofG (by decide +kernel) (Nat.le_of_ble_eq_true rfl) ?_
  intro p_ e_ s_ m_ a_ b_ t_ c_ hx hb hml hr hk hg hown hK hP hS ls hl
  have hl : lv_has ls 1 [(0, .ref (E.2.1 28))] := hl
  refine lv_aload_n hx hb dM_thrown_0 rfl (lv_at hl 0 rfl) ?_
  refine m_get (C := "RationalFormsModel") (T := TxM) (N := 13) hx hb hg uwM hown hK hP (by omega) (sh_M E _) rfl 12 (by decide) wd471 rfl dM_thrown_1 ?_
  exact mm_iret hx hb hr hk hP hS dM_thrown_4 ⟨rfl, rfl⟩

set_option maxRecDepth 100000 in
set_option maxHeartbeats 4000000 in
theorem kM_hasseOf (l : Launch) (E : En) (hJ : wJ E) (M : Me) (r : Nat) (hG : TG M r) (p9 : Int) (hp : plc p9) : MM l yM_hasseOf wsM_hasseOf (rmd 2) E M [.ref (E.2.1 28), .int (ji ((r:Int))), .long (jl p9)] (fun v M9 => v = some (.int (ji (hsM M r p9))) ∧ M9 = M) := by
  refine MM.ofG (by decide +kernel) (Nat.le_of_ble_eq_true rfl) ?_
  intro p_ e_ s_ m_ a_ b_ t_ c_ hx hb hml hr hk hg hown hK hP hS ls hl
  have hl : lv_has ls 7 [(0, .ref (E.2.1 28)), (1, .int (ji ((r:Int)))), (2, .long (jl p9))] := hl
  obtain ⟨hr5, ht⟩ := hG
  have outer : ∀ (N i : Nat) (z : Int) (ls : Array Slot), i + N = r → z = hO (fun a b => syM a b p9) (M 32) r i → lv_has ls 7 [(5, .int (ji ((i:Int)))), (4, .int (ji z)), (0, .ref (E.2.1 28)), (1, .int (ji ((r:Int)))), (2, .long (jl p9))] → W p_ l e_ (rmd 2) s_ m_ a_ b_ t_ c_ s_.heap [] 0 0 (XQ b_ (mmQ E (fun v M9 => v = some (.int (ji (hsM M r p9))) ∧ M9 = M)) a_ s_ 0 0 (wA E)) (F0 m_ 6 ls []) := by
    intro N
    induction N with
    | zero =>
      intro i z ls h0 hz hl
      refine lv_iload hx hb dM_hasseOf_6 (lv_at hl 0 rfl) ?_
      refine lv_iload_n hx hb dM_hasseOf_8 rfl (lv_at hl 3 rfl) ?_
      refine j_icmp_ge hx hb (by omega) (by omega) dM_hasseOf_9 rfl (fun h1 => ?_) (fun h1 => ?_)
      · have hir : i = r := by omega
        refine lv_iload hx hb dM_hasseOf_59 (lv_at hl 1 rfl) ?_
        exact mm_iret hx hb hr hk hP hS dM_hasseOf_61 ⟨by rw [hz, hir]; rfl, rfl⟩
      · omega
    | succ N ih =>
      intro i z ls h0 hz hl
      have inner : ∀ (K n : Nat) (z : Int) (ls : Array Slot), i + 1 + n + K = r → z = hO (fun a b => syM a b p9) (M 32) r i * hI (fun a b => syM a b p9) (M 32) i n → lv_has ls 7 [(6, .int (ji (((i+1+n:Nat):Int)))), (5, .int (ji ((i:Int)))), (4, .int (ji z)), (0, .ref (E.2.1 28)), (1, .int (ji ((r:Int)))), (2, .long (jl p9))] → W p_ l e_ (rmd 2) s_ m_ a_ b_ t_ c_ s_.heap [] 0 0 (XQ b_ (mmQ E (fun v M9 => v = some (.int (ji (hsM M r p9))) ∧ M9 = M)) a_ s_ 0 0 (wA E)) (F0 m_ 18 ls []) := by
        intro K
        induction K with
        | zero =>
          intro n z ls h1 hz hl
          refine lv_iload hx hb dM_hasseOf_18 (lv_at hl 0 rfl) ?_
          refine lv_iload_n hx hb dM_hasseOf_20 rfl (lv_at hl 4 rfl) ?_
          refine j_icmp_ge hx hb (by omega) (by omega) dM_hasseOf_21 rfl (fun h2 => ?_) (fun h2 => ?_)
          · refine lv_iinc (k := 1) (v := ji (((i:Int)) + 1)) hx hb dM_hasseOf_53 hl rfl (Int32.ofInt_add _ _).symm (by decide) rfl (fun ls hl => ?_)
            have hl : lv_has ls 7 [(5, .int (ji (((i:Int)) + 1))), (6, .int (ji (((i+1+n:Nat):Int)))), (4, .int (ji z)), (0, .ref (E.2.1 28)), (1, .int (ji ((r:Int)))), (2, .long (jl p9))] := hl
            refine lv_goto hx hb dM_hasseOf_56 rfl ?_
            refine ih (i + 1) z ls (by omega) ?_ (lv_sub hl [0, 2, 3, 4, 5] rfl)
            rw [hz, show n = r - (i + 1) by omega]; rfl
          · omega
        | succ K ihK =>
          intro n z ls h1 hz hl
          have ta := ht i (by omega)
          have tb := ht (i + 1 + n) (by omega)
          refine lv_iload hx hb dM_hasseOf_18 (lv_at hl 0 rfl) ?_
          refine lv_iload_n hx hb dM_hasseOf_20 rfl (lv_at hl 4 rfl) ?_
          refine j_icmp_ge hx hb (by omega) (by omega) dM_hasseOf_21 rfl (fun h2 => ?_) (fun h2 => ?_)
          · omega
          · refine lv_iload hx hb dM_hasseOf_24 (lv_at hl 2 rfl) ?_
            refine lv_aload_n hx hb dM_hasseOf_26 rfl (lv_at hl 3 rfl) ?_
            refine m_get (C := "RationalFormsModel") (T := TxM) (N := 13) hx hb hg uwM hown hK hP (by omega) (sh_M E _) rfl 4 (by decide) wd463 rfl dM_hasseOf_27 ?_
            refine lv_iload hx hb dM_hasseOf_30 (lv_at hl 1 rfl) ?_
            refine m_lald (n := i) hx hb hK hP (by omega) (sh_32 E _) rfl (by omega) (by decide) dM_hasseOf_32 ?_
            refine lv_aload_n hx hb dM_hasseOf_33 rfl (lv_at hl 3 rfl) ?_
            refine m_get (C := "RationalFormsModel") (T := TxM) (N := 13) hx hb hg uwM hown hK hP (by omega) (sh_M E _) rfl 4 (by decide) wd463 rfl dM_hasseOf_34 ?_
            refine lv_iload hx hb dM_hasseOf_37 (lv_at hl 0 rfl) ?_
            refine m_lald (n := i+1+n) hx hb hK hP (by omega) (sh_32 E _) rfl (by omega) (by decide) dM_hasseOf_39 ?_
            refine lv_lload_n hx hb dM_hasseOf_40 rfl (lv_at hl 5 rfl) ?_
            refine pm_G (As := [.long (jl (M 32 i)), .long (jl (M 32 (i+1+n))), .long (jl p9)]) (rest := [.int (ji z)]) hx hb hml hown hg hl (kM_symbolOf l (M 32 i) (M 32 (i + 1 + n)) p9 ta.1 tb.1 hp ta.2 tb.2) wd559 wd560 wd5 wd561 ⟨rfl, rfl⟩ (n := 3) (by decide +kernel) rfl ⟨by decide, by decide⟩ rfl (Nat.le_of_ble_eq_true rfl) dM_hasseOf_41 ⟨Nat.zero_le _, Nat.zero_le _⟩ (fun r hr9 => ?_)
            subst hr9
            refine j_imul hx hb dM_hasseOf_44 ?_
            refine lv_istore hx hb dM_hasseOf_45 hl (by decide) rfl (fun ls hl => ?_)
            have hl : lv_has ls 7 [(4, .int (ji (z * (syM (M 32 i) (M 32 (i + 1 + n)) p9)))), (6, .int (ji (((i+1+n:Nat):Int)))), (5, .int (ji ((i:Int)))), (0, .ref (E.2.1 28)), (1, .int (ji ((r:Int)))), (2, .long (jl p9))] := hl
            refine lv_iinc (k := 1) (v := ji ((((i+1+n:Nat):Int)) + 1)) hx hb dM_hasseOf_47 hl rfl (Int32.ofInt_add _ _).symm (by decide) rfl (fun ls hl => ?_)
            have hl : lv_has ls 7 [(6, .int (ji ((((i+1+n:Nat):Int)) + 1))), (4, .int (ji (z * (syM (M 32 i) (M 32 (i + 1 + n)) p9)))), (5, .int (ji ((i:Int)))), (0, .ref (E.2.1 28)), (1, .int (ji ((r:Int)))), (2, .long (jl p9))] := hl
            refine lv_goto hx hb dM_hasseOf_50 rfl ?_
            exact ihK (n + 1) _ ls (by omega) (by rw [hz, Int.mul_assoc]; rfl) (lv_sub hl [0, 2, 1, 3, 4, 5] rfl)
      refine lv_iload hx hb dM_hasseOf_6 (lv_at hl 0 rfl) ?_
      refine lv_iload_n hx hb dM_hasseOf_8 rfl (lv_at hl 3 rfl) ?_
      refine j_icmp_ge hx hb (by omega) (by omega) dM_hasseOf_9 rfl (fun h1 => ?_) (fun h1 => ?_)
      · omega
      · refine lv_iload hx hb dM_hasseOf_12 (lv_at hl 0 rfl) ?_
        refine j_iconst hx hb dM_hasseOf_14 ?_
        refine j_iadd hx hb dM_hasseOf_15 ?_
        refine lv_istore hx hb dM_hasseOf_16 hl (by decide) rfl (fun ls hl => ?_)
        have hl : lv_has ls 7 [(6, .int (ji (((i:Int)) + 1))), (5, .int (ji ((i:Int)))), (4, .int (ji z)), (0, .ref (E.2.1 28)), (1, .int (ji ((r:Int)))), (2, .long (jl p9))] := hl
        exact inner (r - (i + 1)) 0 z ls (by omega) (by rw [hz]; show _ = _ * 1; rw [Int.mul_one]) hl
  refine j_iconst hx hb dM_hasseOf_0 ?_
  refine lv_istore hx hb dM_hasseOf_1 hl (by decide) rfl (fun ls hl => ?_)
  have hl : lv_has ls 7 [(4, .int (ji 1)), (0, .ref (E.2.1 28)), (1, .int (ji ((r:Int)))), (2, .long (jl p9))] := hl
  refine j_iconst hx hb dM_hasseOf_3 ?_
  refine lv_istore hx hb dM_hasseOf_4 hl (by decide) rfl (fun ls hl => ?_)
  have hl : lv_has ls 7 [(5, .int (ji 0)), (4, .int (ji 1)), (0, .ref (E.2.1 28)), (1, .int (ji ((r:Int)))), (2, .long (jl p9))] := hl
  exact outer r 0 1 ls (by omega) rfl hl

set_option maxRecDepth 100000 in
set_option maxHeartbeats 4000000 in
theorem kM_isZeroAt (l : Launch) (E : En) (hJ : wJ E) (M : Me) (r : Nat) (hG : TG M r) (D : Int) (hD4 : ¬ (4 : Int) ∣ D) (hDb : -9223372036854775807 ≤ D ∧ D ≤ 9223372036854775807) (bo : Prop) (p9 : Int) (hp : plc p9) : MM l yM_isZeroAt wsM_isZeroAt (rmd 3) E M [.ref (E.2.1 28), .int (ji ((r:Int))), .long (jl D), .int (ji (bi bo)), .long (jl p9)] (fun v M9 => v = some (.int (ji (bi (zM r D (M 32) bo p9)))) ∧ M9 = M) := by
  refine MM.ofG (by decide +kernel) (Nat.le_of_ble_eq_true rfl) ?_
  intro p_ e_ s_ m_ a_ b_ t_ c_ hx hb hml hr hk hg hown hK hP hS ls hl
  have hl : lv_has ls 8 [(0, .ref (E.2.1 28)), (1, .int (ji ((r:Int)))), (2, .long (jl D)), (4, .int (ji (bi bo))), (5, .long (jl p9))] := hl
  have hr5 := hG.1
  refine lv_iload_n hx hb dM_isZeroAt_0 rfl (lv_at hl 1 rfl) ?_
  refine j_iconst hx hb dM_isZeroAt_1 ?_
  refine j_icmp_ge hx hb (by omega) (by omega) dM_isZeroAt_2 rfl (fun h1 => ?_) (fun h1 => ?_)
  · refine lv_aload_n hx hb dM_isZeroAt_7 rfl (lv_at hl 0 rfl) ?_
    refine lv_iload_n hx hb dM_isZeroAt_8 rfl (lv_at hl 1 rfl) ?_
    refine lv_lload hx hb dM_isZeroAt_9 (lv_at hl 4 rfl) ?_
    refine mm_V (As := [.int (ji ((r:Int))), .long (jl p9)]) (rest := []) hx hb hml hown hg hl hK hP hS (by omega) (sh_M E _) rfl (kM_hasseOf l E hJ M r hG p9 hp) wd576 wd578 wds17 wd5 wd579 ⟨rfl, rfl⟩ (n := 2) (by decide +kernel) rfl ⟨by decide, by decide⟩ rfl (Nat.le_of_ble_eq_true rfl) dM_isZeroAt_11 ⟨Nat.zero_le _, Nat.zero_le _⟩ (fun v M2 H locs hq hP hS => ?_)
    obtain ⟨rfl, hM2⟩ := hq
    rw [hM2] at hP
    refine lv_istore hx hb dM_isZeroAt_14 hl (by decide) rfl (fun ls hl => ?_)
    have hl : lv_has ls 8 [(7, .int (ji (hsM M r p9))), (0, .ref (E.2.1 28)), (1, .int (ji ((r:Int)))), (2, .long (jl D)), (4, .int (ji (bi bo))), (5, .long (jl p9))] := hl
    refine lv_iload_n hx hb dM_isZeroAt_16 rfl (lv_at hl 2 rfl) ?_
    refine j_iconst hx hb dM_isZeroAt_17 ?_
    refine j_icmp_ne hx hb (by omega) (by omega) dM_isZeroAt_18 rfl (fun h2 => ?_) (fun h2 => ?_)
    · refine lv_iload_n hx hb dM_isZeroAt_29 rfl (lv_at hl 2 rfl) ?_
      refine j_iconst hx hb dM_isZeroAt_30 ?_
      refine j_icmp_ne hx hb (by omega) (by omega) dM_isZeroAt_31 rfl (fun h3 => ?_) (fun h3 => ?_)
      · refine lv_iload_n hx hb dM_isZeroAt_55 rfl (lv_at hl 2 rfl) ?_
        refine j_iconst hx hb dM_isZeroAt_56 ?_
        refine j_icmp_ne hx hb (by omega) (by omega) dM_isZeroAt_57 rfl (fun h4 => ?_) (fun h4 => ?_)
        · refine lv_lload hx hb dM_isZeroAt_91 (lv_at hl 5 rfl) ?_
          refine j_lconst0 hx hb dM_isZeroAt_93 ?_
          refine j_lc_ne hx hb (by omega) (by omega) dM_isZeroAt_94 dM_isZeroAt_95 rfl (fun h5 => ?_) (fun h5 => ?_)
          · refine j_iconst hx hb dM_isZeroAt_103 ?_
            refine lv_goto hx hb dM_isZeroAt_104 rfl ?_
            exact mm_zret hx hb hr hk hP hS dM_isZeroAt_108 nar_1 ⟨by rw [bi_t (show zM r D (M 32) bo p9 from Or.inr (Or.inr (Or.inr ⟨by omega, Or.inl h5⟩)))], rfl⟩
          · refine lv_iload hx hb dM_isZeroAt_98 (lv_at hl 4 rfl) ?_
            refine j_if_eq hx hb (bi_b32 _) dM_isZeroAt_100 rfl (fun h6 => ?_) (fun h6 => ?_)
            · have hb6 := bi_eq h6
              refine j_iconst hx hb dM_isZeroAt_107 ?_
              exact mm_zret hx hb hr hk hP hS dM_isZeroAt_108 nar_0 ⟨by rw [bi_f (show ¬ zM r D (M 32) bo p9 from fun q => by rcases q with q | q | q | q; omega; omega; omega; exact q.2.elim (fun z => z h5) hb6)], rfl⟩
            · have hb6 := bi_ne h6
              refine j_iconst hx hb dM_isZeroAt_103 ?_
              refine lv_goto hx hb dM_isZeroAt_104 rfl ?_
              exact mm_zret hx hb hr hk hP hS dM_isZeroAt_108 nar_1 ⟨by rw [bi_t (show zM r D (M 32) bo p9 from Or.inr (Or.inr (Or.inr ⟨by omega, Or.inr hb6⟩)))], rfl⟩
        · have hr4 : r = 4 := by omega
          refine lv_lload_n hx hb dM_isZeroAt_60 rfl (lv_at hl 3 rfl) ?_
          refine lv_lload hx hb dM_isZeroAt_61 (lv_at hl 5 rfl) ?_
          refine pm_G (As := [.long (jl D), .long (jl p9)]) (rest := []) hx hb hml hown hg hl (kM_isSquare l D p9 (by omega) hp) wd588 wd589 wd5 wd590 ⟨rfl, rfl⟩ (n := 2) (by decide +kernel) rfl ⟨by decide, by decide⟩ rfl (Nat.le_of_ble_eq_true rfl) dM_isZeroAt_63 ⟨Nat.zero_le _, Nat.zero_le _⟩ (fun r hr9 => ?_)
          subst hr9
          refine j_if_eq hx hb (bi_b32 _) dM_isZeroAt_66 rfl (fun h5 => ?_) (fun h5 => ?_)
          · refine j_iconst hx hb dM_isZeroAt_85 ?_
            refine lv_goto hx hb dM_isZeroAt_86 rfl ?_
            exact mm_zret hx hb hr hk hP hS dM_isZeroAt_90 nar_1 ⟨by rw [bi_t (show zM r D (M 32) bo p9 from Or.inr (Or.inr (Or.inl ⟨hr4, Or.inl (bi_eq h5)⟩)))], rfl⟩
          · have hsq := bi_ne h5
            refine lv_iload hx hb dM_isZeroAt_69 (lv_at hl 0 rfl) ?_
            refine j_ldc2 (z := -1) hx hb hown hg wd538 rfl dM_isZeroAt_71 ?_
            refine j_ldc2 (z := -1) hx hb hown hg wd538 rfl dM_isZeroAt_74 ?_
            refine lv_lload hx hb dM_isZeroAt_77 (lv_at hl 5 rfl) ?_
            refine pm_G (As := [.long (jl (-1)), .long (jl (-1)), .long (jl p9)]) (rest := [.int (ji (hsM M r p9))]) hx hb hml hown hg hl (kM_symbolOf l (-1) (-1) p9 (by decide) (by decide) hp (by decide) (by decide)) wd559 wd560 wd5 wd561 ⟨rfl, rfl⟩ (n := 3) (by decide +kernel) rfl ⟨by decide, by decide⟩ rfl (Nat.le_of_ble_eq_true rfl) dM_isZeroAt_79 ⟨Nat.zero_le _, Nat.zero_le _⟩ (fun r hr9 => ?_)
            subst hr9
            refine j_icmp_ne hx hb (pm1_b32 (hs_pm (fun a b => syM_pm a b p9) _ _)) (pm1_b32 (syM_pm _ _ _)) dM_isZeroAt_82 rfl (fun h6 => ?_) (fun h6 => ?_)
            · refine j_iconst hx hb dM_isZeroAt_89 ?_
              exact mm_zret hx hb hr hk hP hS dM_isZeroAt_90 nar_0 ⟨by rw [bi_f (show ¬ zM r D (M 32) bo p9 from fun q => by rcases q with q | q | q | q; omega; omega; exact q.2.elim (fun z => z hsq) h6; omega)], rfl⟩
            · refine j_iconst hx hb dM_isZeroAt_85 ?_
              refine lv_goto hx hb dM_isZeroAt_86 rfl ?_
              exact mm_zret hx hb hr hk hP hS dM_isZeroAt_90 nar_1 ⟨by rw [bi_t (show zM r D (M 32) bo p9 from Or.inr (Or.inr (Or.inl ⟨hr4, Or.inr h6⟩)))], rfl⟩
      · have hr3 : r = 3 := by omega
        refine lv_iload hx hb dM_isZeroAt_34 (lv_at hl 0 rfl) ?_
        refine j_ldc2 (z := -1) hx hb hown hg wd538 rfl dM_isZeroAt_36 ?_
        refine lv_lload_n hx hb dM_isZeroAt_39 rfl (lv_at hl 3 rfl) ?_
        refine j_lneg hx hb dM_isZeroAt_40 ?_
        refine lv_lload hx hb dM_isZeroAt_41 (lv_at hl 5 rfl) ?_
        refine pm_G (As := [.long (jl (-1)), .long (jl (-D)), .long (jl p9)]) (rest := [.int (ji (hsM M r p9))]) hx hb hml hown hg hl (kM_symbolOf l (-1) (-D) p9 (by decide) (by omega) hp (by decide) (by omega)) wd559 wd560 wd5 wd561 ⟨rfl, rfl⟩ (n := 3) (by decide +kernel) rfl ⟨by decide, by decide⟩ rfl (Nat.le_of_ble_eq_true rfl) dM_isZeroAt_43 ⟨Nat.zero_le _, Nat.zero_le _⟩ (fun r hr9 => ?_)
        subst hr9
        refine j_icmp_ne hx hb (pm1_b32 (hs_pm (fun a b => syM_pm a b p9) _ _)) (pm1_b32 (syM_pm _ _ _)) dM_isZeroAt_46 rfl (fun h6 => ?_) (fun h6 => ?_)
        · refine j_iconst hx hb dM_isZeroAt_53 ?_
          exact mm_zret hx hb hr hk hP hS dM_isZeroAt_54 nar_0 ⟨by rw [bi_f (show ¬ zM r D (M 32) bo p9 from fun q => by rcases q with q | q | q | q; omega; exact h6 q.2; omega; omega)], rfl⟩
        · refine j_iconst hx hb dM_isZeroAt_49 ?_
          refine lv_goto hx hb dM_isZeroAt_50 rfl ?_
          exact mm_zret hx hb hr hk hP hS dM_isZeroAt_54 nar_1 ⟨by rw [bi_t (show zM r D (M 32) bo p9 from Or.inr (Or.inl ⟨hr3, h6⟩))], rfl⟩
    · have hr2 : r = 2 := by omega
      refine lv_lload_n hx hb dM_isZeroAt_21 rfl (lv_at hl 3 rfl) ?_
      refine j_lneg hx hb dM_isZeroAt_22 ?_
      refine lv_lload hx hb dM_isZeroAt_23 (lv_at hl 5 rfl) ?_
      refine pm_G (As := [.long (jl (-D)), .long (jl p9)]) (rest := []) hx hb hml hown hg hl (kM_isSquare l (-D) p9 (by omega) hp) wd588 wd589 wd5 wd590 ⟨rfl, rfl⟩ (n := 2) (by decide +kernel) rfl ⟨by decide, by decide⟩ rfl (Nat.le_of_ble_eq_true rfl) dM_isZeroAt_25 ⟨Nat.zero_le _, Nat.zero_le _⟩ (fun r hr9 => ?_)
      subst hr9
      have he : sqM (-D) p9 ↔ zM r D (M 32) bo p9 := ⟨fun q => Or.inl ⟨hr2, q⟩, fun q => by rcases q with q | q | q | q; exact q.2; omega; omega; omega⟩
      exact mm_zret hx hb hr hk hP hS dM_isZeroAt_28 (nar_bi _) ⟨by rw [bi_iff he], rfl⟩
  · refine j_iconst hx hb dM_isZeroAt_5 ?_
    exact mm_zret hx hb hr hk hP hS dM_isZeroAt_6 nar_0 ⟨by rw [bi_f (show ¬ zM r D (M 32) bo p9 from fun q => by rcases q with q | q | q | q <;> omega)], rfl⟩

set_option maxRecDepth 100000 in
set_option maxHeartbeats 4000000 in
theorem kM_obstacleOf (l : Launch) (E : En) (hJ : wJ E) (M : Me) (r : Nat) (hG : TG M r) (D : Int) (hD4 : ¬ (4 : Int) ∣ D) (hDb : -9223372036854775807 ≤ D ∧ D ≤ 9223372036854775807) (bo : Prop) (c : Nat) (hc : M 28 8 = c) (hc2 : c ≤ 60) (S : Nat → Prop) (hS0 : SL c (M 33) S) (hb0 : ∀ q, S q → 2 ≤ q ∧ q ≤ 2147483647) (hex : zM r D (M 32) bo 0 → r = 2 → D ≠ -1 → ∃ q : Nat, prm q ∧ q ≤ 2147483647 ∧ ¬ sqM (-D) q) : MM l yM_obstacleOf wsM_obstacleOf (rmd 4) E M [.ref (E.2.1 28), .int (ji ((r:Int))), .long (jl D), .int (ji (bi bo))] (fun v M9 => (∃ z : Int, v = some (.int (ji z)) ∧ b32 z ∧ oMs S (zM r D (M 32) bo) r D z) ∧ M9 = M) := by
  refine MM.ofG (by decide +kernel) (Nat.le_of_ble_eq_true rfl) ?_
  intro p_ e_ s_ m_ a_ b_ t_ c_ hx hb hml hr hk hg hown hK hP hS ls hl
  have hl : lv_has ls 7 [(0, .ref (E.2.1 28)), (1, .int (ji ((r:Int)))), (2, .long (jl D)), (4, .int (ji (bi bo)))] := hl
  have hr5 := hG.1
  refine lv_aload_n hx hb dM_obstacleOf_0 rfl (lv_at hl 0 rfl) ?_
  refine lv_iload_n hx hb dM_obstacleOf_1 rfl (lv_at hl 1 rfl) ?_
  refine lv_lload_n hx hb dM_obstacleOf_2 rfl (lv_at hl 2 rfl) ?_
  refine lv_iload hx hb dM_obstacleOf_3 (lv_at hl 3 rfl) ?_
  refine j_lconst0 hx hb dM_obstacleOf_5 ?_
  refine mm_V (As := [.int (ji ((r:Int))), .long (jl D), .int (ji (bi bo)), .long (jl 0)]) (rest := []) hx hb hml hown hg hl hK hP hS (by omega) (sh_M E _) rfl (kM_isZeroAt l E hJ M r hG D hD4 hDb bo 0 (Or.inl rfl)) wd584 wd586 wds18 wd5 wd587 ⟨rfl, rfl⟩ (n := 4) (by decide +kernel) rfl ⟨by decide, by decide⟩ rfl (Nat.le_of_ble_eq_true rfl) dM_obstacleOf_6 ⟨Nat.zero_le _, Nat.zero_le _⟩ (fun v M2 H locs hq hP hS => ?_)
  obtain ⟨rfl, hM2⟩ := hq
  rw [hM2] at hP
  refine j_if_ne hx hb (bi_b32 _) dM_obstacleOf_9 rfl (fun h1 => ?_) (fun h1 => ?_)
  · have hz0 := bi_ne h1
    have loop : ∀ (hr2 : r ≠ 2) (N i : Nat) (ls : Array Slot) (H : Heap) (locs : List Loc), i + N = c → (∀ q : Nat, S q → (∃ j, j < i ∧ M 33 j = q) → zM r D (M 32) bo q) → lv_has ls 7 [(5, .int (ji ((i:Int)))), (0, .ref (E.2.1 28)), (1, .int (ji ((r:Int)))), (2, .long (jl D)), (4, .int (ji (bi bo)))] → wP E M H → va_S (wA E) s_.heap H locs → W p_ l e_ (rmd 4) s_ m_ a_ b_ t_ c_ H locs 0 0 (XQ b_ (mmQ E (fun v M9 => (∃ z : Int, v = some (.int (ji z)) ∧ b32 z ∧ oMs S (zM r D (M 32) bo) r D z) ∧ M9 = M)) a_ s_ 0 0 (wA E)) (F0 m_ 73 ls []) := by
      intro hr2 N
      induction N with
      | zero =>
        intro i ls H locs h0 hz hl hP hS
        refine lv_iload hx hb dM_obstacleOf_73 (lv_at hl 0 rfl) ?_
        refine lv_aload_n hx hb dM_obstacleOf_75 rfl (lv_at hl 1 rfl) ?_
        refine m_get (C := "RationalFormsModel") (T := TxM) (N := 13) hx hb hg uwM hown hK hP (by omega) (sh_M E _) rfl 8 (by decide) wd467 rfl dM_obstacleOf_76 ?_
        refine j_icmp_ge hx hb (by omega) (by rw [hc]; omega) dM_obstacleOf_79 rfl (fun h2 => ?_) (fun h2 => ?_)
        · have hall : ∀ q : Nat, S q → zM r D (M 32) bo q := fun q hq => by
            obtain ⟨j, j1, j2⟩ := hS0.2.2 q hq
            exact hz q hq ⟨j, by omega, j2⟩
          refine j_iconst hx hb dM_obstacleOf_115 ?_
          exact mm_iret hx hb hr hk hP hS dM_obstacleOf_116 ⟨⟨-1, rfl, by decide, fun g => absurd hz0 g, fun _ g => absurd g hr2, fun _ g => absurd g hr2, fun _ _ _ => rfl, fun _ _ q g1 g2 => absurd (hall q g1) g2⟩, rfl⟩
        · rw [hc] at h2
          omega
      | succ N ih =>
        intro i ls H locs h0 hz hl hP hS
        obtain ⟨q, q1, q2⟩ := hS0.2.1 i (by omega)
        have hpl : plc (M 33 i) := by rw [q1]; have := hb0 q q2; right; omega
        have hbq := hb0 q q2
        refine lv_iload hx hb dM_obstacleOf_73 (lv_at hl 0 rfl) ?_
        refine lv_aload_n hx hb dM_obstacleOf_75 rfl (lv_at hl 1 rfl) ?_
        refine m_get (C := "RationalFormsModel") (T := TxM) (N := 13) hx hb hg uwM hown hK hP (by omega) (sh_M E _) rfl 8 (by decide) wd467 rfl dM_obstacleOf_76 ?_
        refine j_icmp_ge hx hb (by omega) (by rw [hc]; omega) dM_obstacleOf_79 rfl (fun h2 => ?_) (fun h2 => ?_)
        · rw [hc] at h2
          omega
        · refine lv_aload_n hx hb dM_obstacleOf_82 rfl (lv_at hl 1 rfl) ?_
          refine lv_iload_n hx hb dM_obstacleOf_83 rfl (lv_at hl 2 rfl) ?_
          refine lv_lload_n hx hb dM_obstacleOf_84 rfl (lv_at hl 3 rfl) ?_
          refine lv_iload hx hb dM_obstacleOf_85 (lv_at hl 4 rfl) ?_
          refine lv_aload_n hx hb dM_obstacleOf_87 rfl (lv_at hl 1 rfl) ?_
          refine m_get (C := "RationalFormsModel") (T := TxM) (N := 13) hx hb hg uwM hown hK hP (by omega) (sh_M E _) rfl 9 (by decide) wd468 rfl dM_obstacleOf_88 ?_
          refine lv_iload hx hb dM_obstacleOf_91 (lv_at hl 0 rfl) ?_
          refine m_lald (n := i) hx hb hK hP (by omega) (sh_33 E _) rfl (by omega) (by decide) dM_obstacleOf_93 ?_
          refine mm_V (As := [.int (ji ((r:Int))), .long (jl D), .int (ji (bi bo)), .long (jl (M 33 i))]) (rest := []) hx hb hml hown hg hl hK hP hS (by omega) (sh_M E _) rfl (kM_isZeroAt l E hJ M r hG D hD4 hDb bo (M 33 i) hpl) wd584 wd586 wds18 wd5 wd587 ⟨rfl, rfl⟩ (n := 4) (by decide +kernel) rfl ⟨by decide, by decide⟩ rfl (Nat.le_of_ble_eq_true rfl) dM_obstacleOf_94 ⟨Nat.zero_le _, Nat.zero_le _⟩ (fun v M3 H locs hq3 hP hS => ?_)
          obtain ⟨rfl, hM3⟩ := hq3
          rw [hM3] at hP
          refine j_if_ne hx hb (bi_b32 _) dM_obstacleOf_97 rfl (fun h3 => ?_) (fun h3 => ?_)
          · have hz3 := bi_ne h3
            refine lv_iinc (k := 0) (v := ji (((i:Int)) + 1)) hx hb dM_obstacleOf_109 hl rfl (Int32.ofInt_add _ _).symm (by decide) rfl (fun ls hl => ?_)
            have hl : lv_has ls 7 [(5, .int (ji (((i:Int)) + 1))), (0, .ref (E.2.1 28)), (1, .int (ji ((r:Int)))), (2, .long (jl D)), (4, .int (ji (bi bo)))] := hl
            refine lv_goto hx hb dM_obstacleOf_112 rfl ?_
            refine ih (i + 1) ls H locs (by omega) (fun m hm hj => ?_) hl hP hS
            obtain ⟨j, j1, j2⟩ := hj
            rcases Nat.lt_or_ge j i with g | g
            · exact hz m hm ⟨j, g, j2⟩
            · have hji : j = i := by omega
              rw [hji] at j2
              rw [← j2]
              exact hz3
          · have hz3 := bi_eq h3
            rw [q1] at hz3
            have hlow : ∀ m : Nat, S m → m < q → zM r D (M 32) bo m := fun m hm hlt => by
              obtain ⟨j, j1, j2⟩ := hS0.2.2 m hm
              refine hz m hm ⟨j, ?_, j2⟩
              rcases Nat.lt_or_ge j i with g | g
              · exact g
              · rcases Nat.lt_or_ge i j with g4 | g4
                · have := hS0.1 i j g4 j1
                  omega
                · have hji : j = i := by omega
                  rw [hji] at j2
                  omega
            have huq : ∀ q' : Nat, S q' → ¬ zM r D (M 32) bo q' → (∀ m : Nat, S m → m < q' → zM r D (M 32) bo m) → q' = q := fun q' g1 g2 g3 => by
              rcases Nat.lt_trichotomy q' q with g | g | g
              · exact absurd (hlow q' g1 g) g2
              · exact g
              · exact absurd (g3 q q2 g) hz3
            refine lv_aload_n hx hb dM_obstacleOf_100 rfl (lv_at hl 1 rfl) ?_
            refine m_get (C := "RationalFormsModel") (T := TxM) (N := 13) hx hb hg uwM hown hK hP (by omega) (sh_M E _) rfl 9 (by decide) wd468 rfl dM_obstacleOf_101 ?_
            refine lv_iload hx hb dM_obstacleOf_104 (lv_at hl 0 rfl) ?_
            refine m_lald (n := i) hx hb hK hP (by omega) (sh_33 E _) rfl (by omega) (by decide) dM_obstacleOf_106 ?_
            refine j_l2i hx hb dM_obstacleOf_107 ?_
            exact mm_iret hx hb hr hk hP hS dM_obstacleOf_108 ⟨⟨M 33 i, rfl, by omega, fun g => absurd hz0 g, fun _ g => absurd g hr2, fun _ g => absurd g hr2, fun _ _ g => absurd (g q q2) hz3, fun _ _ q' g1 g2 g3 => by rw [huq q' g1 g2 g3]; exact q1⟩, rfl⟩
    have loop2 : ∀ (hr2 : r = 2) (hD1 : D ≠ -1) (B : Nat) (hB1 : prm B) (hB2 : B ≤ 2147483647) (hB3 : ¬ sqM (-D) B) (N i : Nat) (ls : Array Slot), i + N = B → 2 ≤ i → (∀ m : Nat, m < i → prm m → sqM (-D) m) → lv_has ls 7 [(5, .long (jl ((i:Int)))), (0, .ref (E.2.1 28)), (1, .int (ji ((r:Int)))), (2, .long (jl D)), (4, .int (ji (bi bo)))] → W p_ l e_ (rmd 4) s_ m_ a_ b_ t_ c_ H locs 0 0 (XQ b_ (mmQ E (fun v M9 => (∃ z : Int, v = some (.int (ji z)) ∧ b32 z ∧ oMs S (zM r D (M 32) bo) r D z) ∧ M9 = M)) a_ s_ 0 0 (wA E)) (F0 m_ 39 ls []) := by
      intro hr2 hD1 B hB1 hB2 hB3 N
      have fin : ∀ (i : Nat) (ls : Array Slot), 2 ≤ i → i ≤ B → prm i → ¬ sqM (-D) i → (∀ m : Nat, m < i → prm m → sqM (-D) m) → lv_has ls 7 [(5, .long (jl ((i:Int)))), (0, .ref (E.2.1 28)), (1, .int (ji ((r:Int)))), (2, .long (jl D)), (4, .int (ji (bi bo)))] → W p_ l e_ (rmd 4) s_ m_ a_ b_ t_ c_ H locs 0 0 (XQ b_ (mmQ E (fun v M9 => (∃ z : Int, v = some (.int (ji z)) ∧ b32 z ∧ oMs S (zM r D (M 32) bo) r D z) ∧ M9 = M)) a_ s_ 0 0 (wA E)) (F0 m_ 66 ls []) := by
        intro i ls hi2 hiB hpi hs4 hz hl
        refine lv_lload hx hb dM_obstacleOf_66 (lv_at hl 0 rfl) ?_
        refine j_l2i hx hb dM_obstacleOf_68 ?_
        exact mm_iret hx hb hr hk hP hS dM_obstacleOf_69 ⟨⟨i, rfl, by omega, fun g => absurd hz0 g, fun _ _ g => absurd g hD1, fun _ _ _ => ⟨i, rfl, hpi, hs4, hz⟩, fun _ g => absurd hr2 g, fun _ g => absurd hr2 g⟩, rfl⟩
      induction N with
      | zero =>
        intro i ls h0 hi2 hz hl
        have hiB : i = B := by omega
        rw [← hiB] at hB1 hB3
        refine lv_lload hx hb dM_obstacleOf_39 (lv_at hl 0 rfl) ?_
        refine pm_G (As := [.long (jl ((i:Int)))]) (rest := []) hx hb hml hown hg hl (kM_isPrime l (i : Int) (by omega)) wd556 wd557 wd5 wd558 ⟨rfl, rfl⟩ (n := 1) (by decide +kernel) rfl ⟨by decide, by decide⟩ rfl (Nat.le_of_ble_eq_true rfl) dM_obstacleOf_41 ⟨Nat.zero_le _, Nat.zero_le _⟩ (fun r hr9 => ?_)
        subst hr9
        refine j_if_eq hx hb (bi_b32 _) dM_obstacleOf_44 rfl (fun h3 => ?_) (fun h3 => ?_)
        · exact absurd hB1 (by have := bi_eq h3; rwa [Int.toNat_natCast] at this)
        · refine lv_lload_n hx hb dM_obstacleOf_47 rfl (lv_at hl 3 rfl) ?_
          refine j_lneg hx hb dM_obstacleOf_48 ?_
          refine lv_lload hx hb dM_obstacleOf_49 (lv_at hl 0 rfl) ?_
          refine pm_G (As := [.long (jl (-D)), .long (jl ((i:Int)))]) (rest := []) hx hb hml hown hg hl (kM_isSquare l (-D) (i : Int) (by omega) (Or.inr (by omega))) wd588 wd589 wd5 wd590 ⟨rfl, rfl⟩ (n := 2) (by decide +kernel) rfl ⟨by decide, by decide⟩ rfl (Nat.le_of_ble_eq_true rfl) dM_obstacleOf_51 ⟨Nat.zero_le _, Nat.zero_le _⟩ (fun r hr9 => ?_)
          subst hr9
          refine j_if_eq hx hb (bi_b32 _) dM_obstacleOf_54 rfl (fun h4 => ?_) (fun h4 => ?_)
          · exact fin i ls hi2 (by omega) hB1 hB3 hz hl
          · exact absurd (bi_ne h4) hB3
      | succ N ih =>
        intro i ls h0 hi2 hz hl
        refine lv_lload hx hb dM_obstacleOf_39 (lv_at hl 0 rfl) ?_
        refine pm_G (As := [.long (jl ((i:Int)))]) (rest := []) hx hb hml hown hg hl (kM_isPrime l (i : Int) (by omega)) wd556 wd557 wd5 wd558 ⟨rfl, rfl⟩ (n := 1) (by decide +kernel) rfl ⟨by decide, by decide⟩ rfl (Nat.le_of_ble_eq_true rfl) dM_obstacleOf_41 ⟨Nat.zero_le _, Nat.zero_le _⟩ (fun r hr9 => ?_)
        subst hr9
        refine j_if_eq hx hb (bi_b32 _) dM_obstacleOf_44 rfl (fun h3 => ?_) (fun h3 => ?_)
        · refine lv_lload hx hb dM_obstacleOf_57 (lv_at hl 0 rfl) ?_
          refine j_lconst1 hx hb dM_obstacleOf_59 ?_
          refine j_ladd hx hb dM_obstacleOf_60 ?_
          refine lv_lstore hx hb dM_obstacleOf_61 hl (by decide) rfl (fun ls hl => ?_)
          have hl : lv_has ls 7 [(5, .long (jl (((i:Int)) + 1))), (0, .ref (E.2.1 28)), (1, .int (ji ((r:Int)))), (2, .long (jl D)), (4, .int (ji (bi bo)))] := hl
          refine lv_goto hx hb dM_obstacleOf_63 rfl ?_
          refine ih (i + 1) ls (by omega) (by omega) (fun m hm hp => ?_) hl
          rcases Nat.lt_or_ge m i with g | g
          · exact hz m g hp
          · have hmi : m = i := by omega
            rw [hmi] at hp
            exact absurd hp (by have := bi_eq h3; rwa [Int.toNat_natCast] at this)
        · have hpi : prm i := by have := bi_ne h3; rwa [Int.toNat_natCast] at this
          refine lv_lload_n hx hb dM_obstacleOf_47 rfl (lv_at hl 3 rfl) ?_
          refine j_lneg hx hb dM_obstacleOf_48 ?_
          refine lv_lload hx hb dM_obstacleOf_49 (lv_at hl 0 rfl) ?_
          refine pm_G (As := [.long (jl (-D)), .long (jl ((i:Int)))]) (rest := []) hx hb hml hown hg hl (kM_isSquare l (-D) (i : Int) (by omega) (Or.inr (by omega))) wd588 wd589 wd5 wd590 ⟨rfl, rfl⟩ (n := 2) (by decide +kernel) rfl ⟨by decide, by decide⟩ rfl (Nat.le_of_ble_eq_true rfl) dM_obstacleOf_51 ⟨Nat.zero_le _, Nat.zero_le _⟩ (fun r hr9 => ?_)
          subst hr9
          refine j_if_eq hx hb (bi_b32 _) dM_obstacleOf_54 rfl (fun h4 => ?_) (fun h4 => ?_)
          · exact fin i ls hi2 (by omega) hpi (bi_eq h4) hz hl
          · have hs4 := bi_ne h4
            refine lv_lload hx hb dM_obstacleOf_57 (lv_at hl 0 rfl) ?_
            refine j_lconst1 hx hb dM_obstacleOf_59 ?_
            refine j_ladd hx hb dM_obstacleOf_60 ?_
            refine lv_lstore hx hb dM_obstacleOf_61 hl (by decide) rfl (fun ls hl => ?_)
            have hl : lv_has ls 7 [(5, .long (jl (((i:Int)) + 1))), (0, .ref (E.2.1 28)), (1, .int (ji ((r:Int)))), (2, .long (jl D)), (4, .int (ji (bi bo)))] := hl
            refine lv_goto hx hb dM_obstacleOf_63 rfl ?_
            refine ih (i + 1) ls (by omega) (by omega) (fun m hm hp => ?_) hl
            rcases Nat.lt_or_ge m i with g | g
            · exact hz m g hp
            · have hmi : m = i := by omega
              rw [hmi]
              exact hs4
    refine lv_iload_n hx hb dM_obstacleOf_14 rfl (lv_at hl 1 rfl) ?_
    refine j_iconst hx hb dM_obstacleOf_15 ?_
    refine j_icmp_ne hx hb (by omega) (by omega) dM_obstacleOf_16 rfl (fun h2 => ?_) (fun h2 => ?_)
    · refine lv_iload_n hx hb dM_obstacleOf_29 rfl (lv_at hl 1 rfl) ?_
      refine j_iconst hx hb dM_obstacleOf_30 ?_
      refine j_icmp_ne hx hb (by omega) (by omega) dM_obstacleOf_31 rfl (fun h5 => ?_) (fun h5 => ?_)
      · refine j_iconst hx hb dM_obstacleOf_70 ?_
        refine lv_istore hx hb dM_obstacleOf_71 hl (by decide) rfl (fun ls hl => ?_)
        have hl : lv_has ls 7 [(5, .int (ji 0)), (0, .ref (E.2.1 28)), (1, .int (ji ((r:Int)))), (2, .long (jl D)), (4, .int (ji (bi bo)))] := hl
        exact loop (by omega) c 0 ls H locs (by omega) (fun q _ hj => by obtain ⟨j, j1, _⟩ := hj; omega) hl hP hS
      · omega
    · have hr2 : r = 2 := by omega
      refine lv_lload_n hx hb dM_obstacleOf_19 rfl (lv_at hl 2 rfl) ?_
      refine j_ldc2 (z := -1) hx hb hown hg wd538 rfl dM_obstacleOf_20 ?_
      refine j_lc_ne hx hb (by omega) (by omega) dM_obstacleOf_23 dM_obstacleOf_24 rfl (fun h3 => ?_) (fun h3 => ?_)
      · refine lv_iload_n hx hb dM_obstacleOf_29 rfl (lv_at hl 1 rfl) ?_
        refine j_iconst hx hb dM_obstacleOf_30 ?_
        refine j_icmp_ne hx hb (by omega) (by omega) dM_obstacleOf_31 rfl (fun h4 => ?_) (fun h4 => ?_)
        · omega
        · obtain ⟨B, hB1, hB2, hB3⟩ := hex hz0 hr2 h3
          have hB4 := hB1.1
          refine j_ldc2 (z := 2) hx hb hown hg wd522 rfl dM_obstacleOf_34 ?_
          refine lv_lstore hx hb dM_obstacleOf_37 hl (by decide) rfl (fun ls hl => ?_)
          have hl : lv_has ls 7 [(5, .long (jl 2)), (0, .ref (E.2.1 28)), (1, .int (ji ((r:Int)))), (2, .long (jl D)), (4, .int (ji (bi bo)))] := hl
          exact loop2 hr2 h3 B hB1 hB2 hB3 (B - 2) 2 ls (by omega) (by omega) (fun m hm hp => absurd hp.1 (by omega)) hl
      · refine j_iconst hx hb dM_obstacleOf_27 ?_
        exact mm_iret hx hb hr hk hP hS dM_obstacleOf_28 ⟨⟨-1, rfl, by decide, fun g => absurd hz0 g, fun _ _ _ => rfl, fun _ _ g => absurd h3 g, fun _ g => absurd hr2 g, fun _ g => absurd hr2 g⟩, rfl⟩
  · have hz0 := bi_eq h1
    refine j_iconst hx hb dM_obstacleOf_12 ?_
    exact mm_iret hx hb hr hk hP hS dM_obstacleOf_13 ⟨⟨0, rfl, by decide, fun _ => rfl, fun g => absurd g hz0, fun g => absurd g hz0, fun g => absurd g hz0, fun g => absurd g hz0⟩, rfl⟩

set_option maxRecDepth 100000 in
set_option maxHeartbeats 4000000 in
theorem kM_noteSigns (l : Launch) (E : En) (hJ : wJ E) (M : Me) (r : Nat) (hr3 : M 28 3 = r) (hG : TG M r) (c : Nat) (hc : M 28 8 = c) (hc2 : c ≤ 60) (S : Nat → Prop) (hS0 : SL c (M 33) S) (hb0 : ∀ q, S q → 2 ≤ q ∧ q ≤ 2147483647) : MM l yM_noteSigns wsM_noteSigns (rmd 3) E M [.ref (E.2.1 28)] (fun v M9 => v = none ∧ (∃ c9 : Nat, c9 ≤ c ∧ M9 28 10 = c9 ∧ SL c9 (M9 34) (fun q => S q ∧ hsM M r q = -1) ∧ ∀ i, c9 ≤ i → M9 34 i = M 34 i) ∧ (∀ q, q ≠ 28 → q ≠ 34 → M9 q = M q) ∧ ∀ j, j ≠ 10 → M9 28 j = M 28 j) := by
  refine MM.ofG (by decide +kernel) (Nat.le_of_ble_eq_true rfl) ?_
  intro p_ e_ s_ m_ a_ b_ t_ c_ hx hb hml hr hk hg hown hK hP hS ls hl
  have hl : lv_has ls 2 [(0, .ref (E.2.1 28))] := hl
  have hr5 := hG.1
  have loop : ∀ (N i k : Nat) (M1 : Me) (ls : Array Slot) (H : Heap) (locs : List Loc), i + N = c → k ≤ i → M1 28 10 = k → SL k (M1 34) (fun q => (S q ∧ hsM M r q = -1) ∧ ∃ j, j < i ∧ M 33 j = q) → (∀ j, k ≤ j → M1 34 j = M 34 j) → ((∀ q, q ≠ 28 → q ≠ 34 → M1 q = M q) ∧ ∀ j, j ≠ 10 → M1 28 j = M 28 j) → lv_has ls 2 [(1, .int (ji ((i:Int)))), (0, .ref (E.2.1 28))] → wP E M1 H → va_S (wA E) s_.heap H locs → W p_ l e_ (rmd 3) s_ m_ a_ b_ t_ c_ H locs 0 0 (XQ b_ (mmQ E (fun v M9 => v = none ∧ (∃ c9 : Nat, c9 ≤ c ∧ M9 28 10 = c9 ∧ SL c9 (M9 34) (fun q => S q ∧ hsM M r q = -1) ∧ ∀ i, c9 ≤ i → M9 34 i = M 34 i) ∧ (∀ q, q ≠ 28 → q ≠ 34 → M9 q = M q) ∧ ∀ j, j ≠ 10 → M9 28 j = M 28 j)) a_ s_ 0 0 (wA E)) (F0 m_ 7 ls []) := by
    intro N
    induction N with
    | zero =>
      intro i k M1 ls H locs h0 hki hk7 hSL hre hF hl hP hS
      refine lv_iload_n hx hb dM_noteSigns_7 rfl (lv_at hl 0 rfl) ?_
      refine lv_aload_n hx hb dM_noteSigns_8 rfl (lv_at hl 1 rfl) ?_
      refine m_get (C := "RationalFormsModel") (T := TxM) (N := 13) hx hb hg uwM hown hK hP (by omega) (sh_M E _) rfl 8 (by decide) wd467 rfl dM_noteSigns_9 ?_
      refine j_icmp_ge hx hb (by omega) (by rw [hF.2 8 (by omega), hc]; omega) dM_noteSigns_12 rfl (fun h2 => ?_) (fun h2 => ?_)
      · exact mm_vret hx hb hr hk hP hS dM_noteSigns_64 ⟨rfl, ⟨k, by omega, hk7, hSL.to (fun q => ⟨fun h => h.1, fun h => ⟨h, by obtain ⟨j, j1, j2⟩ := hS0.2.2 q h.1; exact ⟨j, by omega, j2⟩⟩⟩), hre⟩, hF⟩
      · rw [hF.2 8 (by omega), hc] at h2
        omega
    | succ N ih =>
      intro i k M1 ls H locs h0 hki hk7 hSL hre hF hl hP hS
      obtain ⟨q, q1, q2⟩ := hS0.2.1 i (by omega)
      have hpl : plc (M 33 i) := by rw [q1]; have := hb0 q q2; right; omega
      have hbq := hb0 q q2
      have e33 : M1 33 = M 33 := hF.1 33 (by omega) (by omega)
      have e32 : M1 32 = M 32 := hF.1 32 (by omega) (by omega)
      have e3 : M1 28 3 = r := by rw [hF.2 3 (by omega)]; exact hr3
      have hG1 : TG M1 r := by unfold TG; rw [e32]; exact hG
      have hs1 : ∀ x, hsM M1 r x = hsM M r x := fun x => by unfold hsM; rw [e32]
      have hpl1 : plc (M1 33 i) := by rw [e33]; exact hpl
      refine lv_iload_n hx hb dM_noteSigns_7 rfl (lv_at hl 0 rfl) ?_
      refine lv_aload_n hx hb dM_noteSigns_8 rfl (lv_at hl 1 rfl) ?_
      refine m_get (C := "RationalFormsModel") (T := TxM) (N := 13) hx hb hg uwM hown hK hP (by omega) (sh_M E _) rfl 8 (by decide) wd467 rfl dM_noteSigns_9 ?_
      refine j_icmp_ge hx hb (by omega) (by rw [hF.2 8 (by omega), hc]; omega) dM_noteSigns_12 rfl (fun h2 => ?_) (fun h2 => ?_)
      · rw [hF.2 8 (by omega), hc] at h2
        omega
      · refine lv_aload_n hx hb dM_noteSigns_15 rfl (lv_at hl 1 rfl) ?_
        refine lv_aload_n hx hb dM_noteSigns_16 rfl (lv_at hl 1 rfl) ?_
        refine m_get (C := "RationalFormsModel") (T := TxM) (N := 13) hx hb hg uwM hown hK hP (by omega) (sh_M E _) rfl 3 (by decide) wd462 rfl dM_noteSigns_17 ?_
        refine lv_aload_n hx hb dM_noteSigns_20 rfl (lv_at hl 1 rfl) ?_
        refine m_get (C := "RationalFormsModel") (T := TxM) (N := 13) hx hb hg uwM hown hK hP (by omega) (sh_M E _) rfl 9 (by decide) wd468 rfl dM_noteSigns_21 ?_
        refine lv_iload_n hx hb dM_noteSigns_24 rfl (lv_at hl 0 rfl) ?_
        refine m_lald (n := i) hx hb hK hP (by omega) (sh_33 E _) rfl (by omega) (by decide) dM_noteSigns_25 ?_
        rw [e3]
        refine mm_V (As := [.int (ji ((r:Int))), .long (jl (M1 33 i))]) (rest := []) hx hb hml hown hg hl hK hP hS (by omega) (sh_M E _) rfl (kM_hasseOf l E hJ M1 r hG1 (M1 33 i) hpl1) wd576 wd578 wds17 wd5 wd579 ⟨rfl, rfl⟩ (n := 2) (by decide +kernel) rfl ⟨by decide, by decide⟩ rfl (Nat.le_of_ble_eq_true rfl) dM_noteSigns_26 ⟨Nat.zero_le _, Nat.zero_le _⟩ (fun v M3 H locs hq3 hP hS => ?_)
        obtain ⟨rfl, hM3⟩ := hq3
        rw [hM3] at hP
        refine j_if_ge hx hb (pm1_b32 (hs_pm (fun a b => syM_pm a b _) _ _)) dM_noteSigns_29 rfl (fun h3 => ?_) (fun h3 => ?_)
        · rw [hs1, e33, q1] at h3
          refine lv_iinc (k := 0) (v := ji (((i:Int)) + 1)) hx hb dM_noteSigns_58 hl rfl (Int32.ofInt_add _ _).symm (by decide) rfl (fun ls hl => ?_)
          have hl : lv_has ls 2 [(1, .int (ji (((i:Int)) + 1))), (0, .ref (E.2.1 28))] := hl
          refine lv_goto hx hb dM_noteSigns_61 rfl ?_
          refine ih (i + 1) k M1 ls H locs (by omega) (by omega) hk7 (hSL.to (fun x => ⟨fun h => ⟨h.1, h.2.elim fun j hj => ⟨j, by omega, hj.2⟩⟩, fun h => ⟨h.1, ?_⟩⟩)) hre hF hl hP hS
          obtain ⟨⟨x1, x2⟩, j, j1, j2⟩ := h
          rcases Nat.lt_or_ge j i with g | g
          · exact ⟨j, g, j2⟩
          · have hji : j = i := by omega
            rw [hji] at j2
            have hxq : x = q := by omega
            rw [hxq] at x2
            omega
        · rw [hs1, e33, q1] at h3
          have hm1 : hsM M r q = -1 := (hs_pm (fun a b => syM_pm a b q) (M 32) r).elim (fun g => absurd h3 (by rw [show hsM M r q = 1 from g]; omega)) id
          refine lv_aload_n hx hb dM_noteSigns_32 rfl (lv_at hl 1 rfl) ?_
          refine m_get (C := "RationalFormsModel") (T := TxM) (N := 13) hx hb hg uwM hown hK hP (by omega) (sh_M E _) rfl 11 (by decide) wd470 rfl dM_noteSigns_33 ?_
          refine lv_aload_n hx hb dM_noteSigns_36 rfl (lv_at hl 1 rfl) ?_
          refine m_get (C := "RationalFormsModel") (T := TxM) (N := 13) hx hb hg uwM hown hK hP (by omega) (sh_M E _) rfl 10 (by decide) wd469 rfl dM_noteSigns_37 ?_
          rw [hk7]
          refine lv_aload_n hx hb dM_noteSigns_40 rfl (lv_at hl 1 rfl) ?_
          refine m_get (C := "RationalFormsModel") (T := TxM) (N := 13) hx hb hg uwM hown hK hP (by omega) (sh_M E _) rfl 9 (by decide) wd468 rfl dM_noteSigns_41 ?_
          refine lv_iload_n hx hb dM_noteSigns_44 rfl (lv_at hl 0 rfl) ?_
          refine m_lald (n := i) hx hb hK hP (by omega) (sh_33 E _) rfl (by omega) (by decide) dM_noteSigns_45 ?_
          refine j_l2i hx hb dM_noteSigns_46 ?_
          refine m_iast (n := k) hx hb hK hJ hP hS (by omega) (fun r => sh_34 E r) rfl (by omega) (by decide) dM_noteSigns_47 (fun H locs hP hS => ?_)
          obtain ⟨M4, e4⟩ : ∃ X, X = mu M1 34 k (M1 33 i) := ⟨_, rfl⟩
          rw [← e4] at hP
          have h410 : M4 28 10 = k := by rw [e4, mu_k (by omega)]; exact hk7
          refine lv_aload_n hx hb dM_noteSigns_48 rfl (lv_at hl 1 rfl) ?_
          refine lv_dup hx hb dM_noteSigns_49 rfl ?_
          refine m_get (C := "RationalFormsModel") (T := TxM) (N := 13) hx hb hg uwM hown hK hP (by omega) (sh_M E _) rfl 10 (by decide) wd469 rfl dM_noteSigns_50 ?_
          refine j_iconst hx hb dM_noteSigns_53 ?_
          refine j_iadd hx hb dM_noteSigns_54 ?_
          refine m_put (C := "RationalFormsModel") (T := TxM) (N := 13) (ty := .int) (z := (M4 28 10) + 1) hx hb hg uwM txM txM_ok nmM hown hK hJ hP hS (by omega) (sh_M E _) rfl 10 (by decide) wd469 rfl rfl rfl rfl (Nat.le_of_ble_eq_true rfl) (by rw [sh_M E _]; simp [mu]) dM_noteSigns_55 (fun H locs hP hS => ?_)
          rw [h410] at hP
          refine lv_iinc (k := 0) (v := ji (((i:Int)) + 1)) hx hb dM_noteSigns_58 hl rfl (Int32.ofInt_add _ _).symm (by decide) rfl (fun ls hl => ?_)
          have hl : lv_has ls 2 [(1, .int (ji (((i:Int)) + 1))), (0, .ref (E.2.1 28))] := hl
          refine lv_goto hx hb dM_noteSigns_61 rfl ?_
          refine ih (i + 1) (k + 1) _ ls H locs (by omega) (by omega) (by rw [mu_s]; rfl) ?_ (fun j hj => ?_) ⟨fun x x1 x2 => ?_, fun j hj => ?_⟩ hl hP hS
          · rw [mu_k (by omega)]
            refine SL.to (S := fun x => x = q ∨ ((S x ∧ hsM M r x = -1) ∧ ∃ j, j < i ∧ M 33 j = x)) (SL.ins (at9 := k) hSL (Nat.le_refl _) (fun x hx => ?_) (fun x x1 x2 => by omega) (fun x hx => ?_) ?_ (fun x x1 x2 => by omega)) (fun x => ⟨fun h => ?_, fun h => ?_⟩)
            · obtain ⟨y, y1, ⟨y2, y3⟩, j, j1, j2⟩ := hSL.2.1 x hx
              rw [y1, ← j2, ← q1]
              exact hS0.1 j i j1 (by omega)
            · rw [e4, mu_j (by omega)]
            · rw [e4, mu_s, e33]; exact q1
            · rcases h with h | h
              · rw [h]; exact ⟨⟨q2, hm1⟩, i, by omega, q1⟩
              · exact ⟨h.1, h.2.elim fun j hj => ⟨j, by omega, hj.2⟩⟩
            · obtain ⟨x1, j, j1, j2⟩ := h
              rcases Nat.lt_or_ge j i with g | g
              · exact Or.inr ⟨x1, j, g, j2⟩
              · have hji : j = i := by omega
                rw [hji] at j2
                exact Or.inl (by omega)
          · rw [mu_k (by omega), e4, mu_j (by omega)]; exact hre j (by omega)
          · rw [mu_k x1, e4, mu_k x2]; exact hF.1 x x1 x2
          · rw [mu_j hj, e4, mu_k (by omega)]; exact hF.2 j hj
  refine lv_aload_n hx hb dM_noteSigns_0 rfl (lv_at hl 0 rfl) ?_
  refine j_iconst hx hb dM_noteSigns_1 ?_
  refine m_put (C := "RationalFormsModel") (T := TxM) (N := 13) (ty := .int) (z := 0) hx hb hg uwM txM txM_ok nmM hown hK hJ hP hS (by omega) (sh_M E _) rfl 10 (by decide) wd469 rfl rfl rfl rfl (Nat.le_of_ble_eq_true rfl) (by rw [sh_M E _]; simp [mu]) dM_noteSigns_2 (fun H locs hP hS => ?_)
  refine j_iconst hx hb dM_noteSigns_5 ?_
  refine lv_istore_n hx hb dM_noteSigns_6 rfl hl (by decide) rfl (fun ls hl => ?_)
  have hl : lv_has ls 2 [(1, .int (ji 0)), (0, .ref (E.2.1 28))] := hl
  exact loop c 0 0 _ ls H locs (by omega) (Nat.le_refl _) (mu_s _ _ _ _) ⟨fun i j h1 h2 => by omega, fun i h => by omega, fun q h => by obtain ⟨-, j, j1, -⟩ := h; omega⟩ (fun j _ => by rw [mu_k (by omega)]) ⟨fun q q1 q2 => mu_k q1, fun j hj => mu_j hj _⟩ hl hP hS
