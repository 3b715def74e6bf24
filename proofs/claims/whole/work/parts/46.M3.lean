/-! the reference: look -/
def Sq (p : Nat → Int) (k q : Nat) : Prop := q = 2 ∨ ∃ i, i < k ∧ prm q ∧ q ∣ (sf (p i)).natAbs
theorem Sq_cg {p p' : Nat → Int} {k : Nat} (h : ∀ i, i < k → p' i = p i) (q : Nat) : Sq p' k q ↔ Sq p k q := by
  constructor
  · rintro (h1 | ⟨i, i1, i2, i3⟩)
    · exact Or.inl h1
    · exact Or.inr ⟨i, i1, i2, by rw [← h i i1]; exact i3⟩
  · rintro (h1 | ⟨i, i1, i2, i3⟩)
    · exact Or.inl h1
    · exact Or.inr ⟨i, i1, i2, by rw [h i i1]; exact i3⟩
theorem Sq_Sp {p : Nat → Int} {k q : Nat} (h : pB p k) (hq : Sq p k q) : Sp p k q := by
  rcases hq with hq | ⟨i, i1, i2, i3⟩
  · exact Or.inl hq
  · exact Or.inr ⟨i, i1, i2, Nat.dvd_trans i3 (sf_dv (h i i1).1)⟩
/-- the reference's rows after k steps -/
def LkS (M : Me) (k : Nat) (p : Nat → Int) (c : Nat) : Prop := M 28 3 = k ∧ (∀ i, i < k → M 32 i = tr p i) ∧ M 28 5 = ps p k ∧ M 28 6 = ng p k ∧ M 28 8 = c ∧ SL c (M 33) (Sq p k)
theorem LkS.fr {M M9 : Me} {k c : Nat} {p : Nat → Int} (h : LkS M k p c) (h1 : M9 28 = M 28) (h2 : M9 32 = M 32) (h3 : M9 33 = M 33) : LkS M9 k p c := by
  unfold LkS
  rw [h1, h2, h3]
  exact h
set_option maxRecDepth 20000 in
theorem wd459 : Cond.fieldLink "RationalFormsModel" 7 "RationalFormsModel" "dimension" "[I" ∈ GG := GG_t 459 rfl rfl
set_option maxRecDepth 20000 in
theorem wd460 : Cond.fieldLink "RationalFormsModel" 13 "RationalFormsModel" "number" "[I" ∈ GG := GG_t 460 rfl rfl
set_option maxRecDepth 20000 in
theorem wd462 : Cond.fieldLink "RationalFormsModel" 56 "RationalFormsModel" "rank" "I" ∈ GG := GG_t 462 rfl rfl
set_option maxRecDepth 20000 in
theorem wd463 : Cond.fieldLink "RationalFormsModel" 20 "RationalFormsModel" "term" "[J" ∈ GG := GG_t 463 rfl rfl
set_option maxRecDepth 20000 in
theorem wd464 : Cond.fieldLink "RationalFormsModel" 59 "RationalFormsModel" "positive" "I" ∈ GG := GG_t 464 rfl rfl
set_option maxRecDepth 20000 in
theorem wd465 : Cond.fieldLink "RationalFormsModel" 62 "RationalFormsModel" "negative" "I" ∈ GG := GG_t 465 rfl rfl
set_option maxRecDepth 20000 in
theorem wd466 : Cond.fieldLink "RationalFormsModel" 79 "RationalFormsModel" "discriminant" "J" ∈ GG := GG_t 466 rfl rfl
set_option maxRecDepth 20000 in
theorem wd527 : Cond.methodLink "RationalFormsModel" 65 yM_bring ∈ GG := GG_t 527 rfl rfl
set_option maxRecDepth 20000 in
theorem wd529 : Cond.instanceMethod yM_bring ∈ GG := GG_t 529 rfl rfl
set_option maxRecDepth 20000 in
theorem wd530 : Cond.code yM_bring cM_bring 7 (some .boolean) ∈ GG := GG_t 530 rfl rfl
set_option maxRecDepth 20000 in
theorem wd535 : Cond.methodLink "RationalFormsModel" 69 yM_classOf ∈ GG := GG_t 535 rfl rfl
set_option maxRecDepth 20000 in
theorem wd536 : Cond.static yM_classOf ∈ GG := GG_t 536 rfl rfl
set_option maxRecDepth 20000 in
theorem wd537 : Cond.code yM_classOf cM_classOf 9 (some .long) ∈ GG := GG_t 537 rfl rfl
set_option maxRecDepth 20000 in
theorem wd539 : Cond.methodLink "RationalFormsModel" 73 yM_addPrimes ∈ GG := GG_t 539 rfl rfl
set_option maxRecDepth 20000 in
theorem wd541 : Cond.instanceMethod yM_addPrimes ∈ GG := GG_t 541 rfl rfl
set_option maxRecDepth 20000 in
theorem wd542 : Cond.code yM_addPrimes cM_addPrimes 7 none ∈ GG := GG_t 542 rfl rfl
set_option maxRecDepth 20000 in
theorem wd543 : Cond.methodLink "RationalFormsModel" 76 yM_times ∈ GG := GG_t 543 rfl rfl
set_option maxRecDepth 20000 in
theorem wd544 : Cond.static yM_times ∈ GG := GG_t 544 rfl rfl
set_option maxRecDepth 20000 in
theorem wd545 : Cond.code yM_times cM_times 6 (some .long) ∈ GG := GG_t 545 rfl rfl
set_option maxRecDepth 20000 in
theorem wds14 : Cond.selects "RationalFormsModel" yM_bring yM_bring ∈ GG := GG_s 14 rfl rfl
set_option maxRecDepth 20000 in
theorem wds16 : Cond.selects "RationalFormsModel" yM_addPrimes yM_addPrimes ∈ GG := GG_s 16 rfl rfl
set_option maxRecDepth 100000 in
set_option maxHeartbeats 4000000 in
theorem kM_look (l : Launch) (E : En) (hJ : wJ E) (M : Me) (f : Nat) (hf : f < 2) (n : Nat) (hn0 : M 29 f = n) (hn1 : 1 ≤ n) (hn4 : n ≤ 4) (hA : sb 0 4 6 (fun i j => M 30 (16 * f + (4 * i + j)))) : MM l yM_look wsM_look (rmd 2) E M [.ref (E.2.1 28), .int (ji ((f:Int)))] (fun v M9 => v = none ∧ (∃ (r : Nat) (p : Nat → Int) (c : Nat), PV n (fun i j => M 30 (16 * f + (4 * i + j))) r p ∧ pB p r ∧ r ≤ n ∧ c ≤ cB r ∧ LkS M9 r p c ∧ M9 28 7 = sf (bef p r)) ∧ ((∀ q, q ≠ 28 → q ≠ 31 → q ≠ 32 → q ≠ 33 → M9 q = M q) ∧ ∀ j, j ≠ 3 → j ≠ 5 → j ≠ 6 → j ≠ 7 → j ≠ 8 → M9 28 j = M 28 j)) := by
  refine MM.ofG (by decide +kernel) (Nat.le_of_ble_eq_true rfl) ?_
  intro p_ e_ s_ m_ a_ b_ t_ c_ hx hb hml hr hk hg hown hK hP hS ls hl
  have hl : lv_has ls 14 [(0, .ref (E.2.1 28)), (1, .int (ji ((f:Int))))] := hl
  have hAn : sb 0 n 6 (fun i j => M 30 (16 * f + (4 * i + j))) := fun a b a1 a2 b1 b2 => hA a b a1 (by omega) b1 (by omega)
  have hb16 : ∀ k, k < 16 → b32 (M 30 (16 * f + k)) := fun k hk => by
    have h1 := (hA (k / 4) (k % 4) (by omega) (by omega) (by omega) (by omega)).2
    simp only [] at h1
    rw [show 4 * (k / 4) + k % 4 = k by omega] at h1
    omega
  have loop : ∀ (N k : Nat) (p : Nat → Int) (c : Nat) (M1 : Me) (H : Heap) (locs : List Loc) (ls : Array Slot), k + N = n → PVs n (fun i j => M 30 (16 * f + (4 * i + j))) p k (wr M1) → pB p k → c ≤ cB k → LkS M1 k p c → ((∀ q, q ≠ 28 → q ≠ 31 → q ≠ 32 → q ≠ 33 → M1 q = M q) ∧ ∀ j, j ≠ 3 → j ≠ 5 → j ≠ 6 → j ≠ 7 → j ≠ 8 → M1 28 j = M 28 j) → wP E M1 H → va_S (wA E) s_.heap H locs → lv_has ls 14 [(3, .long (jl (bef p k))), (5, .long (jl (sf (bef p k)))), (2, .int (ji ((n:Int)))), (0, .ref (E.2.1 28)), (1, .int (ji ((f:Int))))] → W p_ l e_ (rmd 2) s_ m_ a_ b_ t_ c_ H locs 0 0 (XQ b_ (mmQ E (fun v M9 => v = none ∧ (∃ (r : Nat) (p : Nat → Int) (c : Nat), PV n (fun i j => M 30 (16 * f + (4 * i + j))) r p ∧ pB p r ∧ r ≤ n ∧ c ≤ cB r ∧ LkS M9 r p c ∧ M9 28 7 = sf (bef p r)) ∧ ((∀ q, q ≠ 28 → q ≠ 31 → q ≠ 32 → q ≠ 33 → M9 q = M q) ∧ ∀ j, j ≠ 3 → j ≠ 5 → j ≠ 6 → j ≠ 7 → j ≠ 8 → M9 28 j = M 28 j))) a_ s_ 0 0 (wA E)) (F0 m_ 71 ls []) := by
    intro N
    have fin : ∀ (k : Nat) (p : Nat → Int) (c : Nat) (M1 : Me) (H : Heap) (locs : List Loc) (ls : Array Slot), PV n (fun i j => M 30 (16 * f + (4 * i + j))) k p → pB p k → c ≤ cB k → LkS M1 k p c → ((∀ q, q ≠ 28 → q ≠ 31 → q ≠ 32 → q ≠ 33 → M1 q = M q) ∧ ∀ j, j ≠ 3 → j ≠ 5 → j ≠ 6 → j ≠ 7 → j ≠ 8 → M1 28 j = M 28 j) → wP E M1 H → va_S (wA E) s_.heap H locs → lv_has ls 14 [(3, .long (jl (bef p k))), (5, .long (jl (sf (bef p k)))), (2, .int (ji ((n:Int)))), (0, .ref (E.2.1 28)), (1, .int (ji ((f:Int))))] → W p_ l e_ (rmd 2) s_ m_ a_ b_ t_ c_ H locs 0 0 (XQ b_ (mmQ E (fun v M9 => v = none ∧ (∃ (r : Nat) (p : Nat → Int) (c : Nat), PV n (fun i j => M 30 (16 * f + (4 * i + j))) r p ∧ pB p r ∧ r ≤ n ∧ c ≤ cB r ∧ LkS M9 r p c ∧ M9 28 7 = sf (bef p r)) ∧ ((∀ q, q ≠ 28 → q ≠ 31 → q ≠ 32 → q ≠ 33 → M9 q = M q) ∧ ∀ j, j ≠ 3 → j ≠ 5 → j ≠ 6 → j ≠ 7 → j ≠ 8 → M9 28 j = M 28 j))) a_ s_ 0 0 (wA E)) (F0 m_ 304 ls []) := by
      intro k p c M1 H locs ls hPV hpB hcB hD hF hP hS hl
      obtain ⟨d1, d2, d3', d4', d5, d6⟩ := hD
      refine lv_aload_n hx hb dM_look_304 rfl (lv_at hl 3 rfl) ?_
      refine lv_lload hx hb dM_look_305 (lv_at hl 1 rfl) ?_
      refine m_put (C := "RationalFormsModel") (T := TxM) (N := 13) (ty := .long) (z := sf (bef p k)) hx hb hg uwM txM txM_ok nmM hown hK hJ hP hS (by omega) (sh_M E _) rfl 7 (by decide) wd466 rfl rfl rfl rfl (Nat.le_of_ble_eq_true rfl) (by rw [sh_M E _]; simp [mu]) dM_look_307 (fun H locs hP hS => ?_)
      exact mm_vret hx hb hr hk hP hS dM_look_310 ⟨rfl, ⟨k, p, c, hPV, hpB, hPV.1, hcB, ⟨by rw [mu_j (by decide)]; exact d1, fun i hi => by rw [mu_k (by decide)]; exact d2 i hi, by rw [mu_j (by decide)]; exact d3', by rw [mu_j (by decide)]; exact d4', by rw [mu_j (by decide)]; exact d5, by rw [mu_k (by decide)]; exact d6⟩, mu_s _ _ _ _⟩, fun q q1 q2 q3 q4 => by rw [mu_k q1]; exact hF.1 q q1 q2 q3 q4, fun j j1 j2 j3 j4 j5 => by rw [mu_j j4]; exact hF.2 j j1 j2 j3 j4 j5⟩
    induction N with
    | zero =>
      intro k p c M1 H locs ls h0 hPV hpB hcB hD hF hP hS hl
      obtain ⟨hkn⟩ : Nonempty (k = n) := ⟨by omega⟩
      have hk3 := hD.1
      refine lv_aload_n hx hb dM_look_71 rfl (lv_at hl 3 rfl) ?_
      refine m_get (C := "RationalFormsModel") (T := TxM) (N := 13) hx hb hg uwM hown hK hP (by omega) (sh_M E _) rfl 3 (by decide) wd462 rfl dM_look_72 ?_
      refine lv_iload_n hx hb dM_look_75 rfl (lv_at hl 2 rfl) ?_
      refine j_icmp_ge hx hb (by rw [hk3]; omega) (by omega) dM_look_76 rfl (fun h1 => ?_) (fun h1 => ?_)
      · exact fin k p c M1 H locs ls ⟨by omega, _, hPV, Or.inl hkn⟩ hpB hcB hD hF hP hS hl
      · rw [hk3] at h1
        omega
    | succ N ih =>
      intro k p c M1 H locs ls h0 hPV hpB hcB hD hF hP hS hl
      have hkn : k < n := by omega
      have hk3 := hD.1
      have hsb := PVs_sb hAn hPV
      have htB : tB k ≤ tB 3 := by
        rcases (by omega : k = 0 ∨ k = 1 ∨ k = 2 ∨ k = 3) with q | q | q | q <;> subst q <;> decide
      have hT0 : ∀ a b, k ≤ a → a < n → k ≤ b → b < n → b64 (wr M1 a b) := fun a b a1 a2 b1 b2 => by
        have h1 := (hsb a b a1 a2 b1 b2).2
        have h2 : tB 3 ≤ 9000000000000000000 := by decide
        omega
      refine lv_aload_n hx hb dM_look_71 rfl (lv_at hl 3 rfl) ?_
      refine m_get (C := "RationalFormsModel") (T := TxM) (N := 13) hx hb hg uwM hown hK hP (by omega) (sh_M E _) rfl 3 (by decide) wd462 rfl dM_look_72 ?_
      refine lv_iload_n hx hb dM_look_75 rfl (lv_at hl 2 rfl) ?_
      refine j_icmp_ge hx hb (by rw [hk3]; omega) (by omega) dM_look_76 rfl (fun h1 => ?_) (fun h1 => ?_)
      · rw [hk3] at h1
        omega
      · refine lv_aload_n hx hb dM_look_79 rfl (lv_at hl 3 rfl) ?_
        refine lv_aload_n hx hb dM_look_80 rfl (lv_at hl 3 rfl) ?_
        refine m_get (C := "RationalFormsModel") (T := TxM) (N := 13) hx hb hg uwM hown hK hP (by omega) (sh_M E _) rfl 3 (by decide) wd462 rfl dM_look_81 ?_
        rw [hk3]
        refine lv_iload_n hx hb dM_look_84 rfl (lv_at hl 2 rfl) ?_
        refine mm_V (As := [.int (ji ((k:Int))), .int (ji ((n:Int)))]) (rest := []) hx hb hml hown hg hl hK hP hS (by omega) (sh_M E _) rfl (kM_bring l E hJ M1 n hn4 k hkn hT0) wd527 wd529 wds14 wd5 wd530 ⟨rfl, rfl⟩ (n := 2) (by decide +kernel) rfl ⟨by decide, by decide⟩ rfl (Nat.le_of_ble_eq_true rfl) dM_look_85 ⟨Nat.zero_le _, Nat.zero_le _⟩ (fun v M2 H locs hq2 hP hS => ?_)
        obtain ⟨⟨rr, rfl, hbp⟩, hf2⟩ := hq2
        have hD2 : LkS M2 k p c := hD.fr (hf2 _ (by omega)) (hf2 _ (by omega)) (hf2 _ (by omega))
        have hF2 : (∀ q, q ≠ 28 → q ≠ 31 → q ≠ 32 → q ≠ 33 → M2 q = M q) ∧ ∀ j, j ≠ 3 → j ≠ 5 → j ≠ 6 → j ≠ 7 → j ≠ 8 → M2 28 j = M 28 j := ⟨fun q q1 q2 q3 q4 => (hf2 q q2).trans (hF.1 q q1 q2 q3 q4), fun j j1 j2 j3 j4 j5 => (congrFun (hf2 28 (by omega)) j).trans (hF.2 j j1 j2 j3 j4 j5)⟩
        refine j_if_eq hx hb (bi_b32 _) dM_look_88 rfl (fun h2 => ?_) (fun h2 => ?_)
        · have hrr : rr = False := propext ⟨fun z => bi_eq h2 z, False.elim⟩
          rw [hrr] at hbp
          exact fin k p c M2 H locs ls ⟨by omega, _, hPV, Or.inr ⟨_, hbp⟩⟩ hpB hcB hD2 hF2 hP hS hl
        · have hrr : rr = True := propext ⟨fun _ => trivial, fun _ => bi_ne h2⟩
          rw [hrr] at hbp
          have hpx := piv_pB hn4 hkn hAn hPV hbp
          have hb0 := bef_pB hpB
          have hsB := sb_bp hsb hbp hkn
          have e0 : bef (fun i => if i = k then wr M2 k k else p i) k = bef p k := bef_cg (fun i hi => by simp only [if_neg (show i ≠ k by omega)])
          have hp' : ∀ i, i < k → (fun i => if i = k then wr M2 k k else p i) i = p i := fun i hi => by simp only [if_neg (show i ≠ k by omega)]
          have hpk : (fun i => if i = k then wr M2 k k else p i) k = wr M2 k k := by simp only [if_pos]
          have hpB' := pB_s hpB hpx
          have htr := tr_bd hpB' (Nat.lt_succ_self k)
          have etr : tr (fun i => if i = k then wr M2 k k else p i) k = pr (sf (wr M2 k k)) (sf (bef p k)) := by
            unfold tr
            rw [hpk, e0]
          have hsx := sf_le hpx.1
          have hsb0 := sf_le hb0.1
          have hsn := sf_ne hpx.1
          have hxb : (wr M2 k k).natAbs ≤ 2000000000 := by have := hpx.2.1; omega
          rw [etr] at htr
          have hk32 := hD2.1
          have hdg : M2 31 (5 * k) = wr M2 k k := by
            unfold wr
            rw [show 4 * k + k = 5 * k by omega]
          refine lv_aload_n hx hb dM_look_91 rfl (lv_at hl 3 rfl) ?_
          refine m_get (C := "RationalFormsModel") (T := TxM) (N := 13) hx hb hg uwM hown hK hP (by omega) (sh_M E _) rfl 3 (by decide) wd462 rfl dM_look_92 ?_
          refine lv_istore hx hb dM_look_95 hl (by decide) rfl (fun ls hl => ?_)
          have hl : lv_has ls 14 [(7, .int (ji (M2 28 3))), (3, .long (jl (bef p k))), (5, .long (jl (sf (bef p k)))), (2, .int (ji ((n:Int)))), (0, .ref (E.2.1 28)), (1, .int (ji ((f:Int))))] := hl
          rw [hk32] at hl
          refine lv_aload_n hx hb dM_look_97 rfl (lv_at hl 4 rfl) ?_
          refine m_get (C := "RationalFormsModel") (T := TxM) (N := 13) hx hb hg uwM hown hK hP (by omega) (sh_M E _) rfl 2 (by decide) wd461 rfl dM_look_98 ?_
          refine j_iconst hx hb dM_look_101 ?_
          refine lv_iload hx hb dM_look_102 (lv_at hl 0 rfl) ?_
          refine j_imul hx hb dM_look_104 ?_
          refine m_lald (n := 5 * k) hx hb hK hP (by omega) (sh_31 E _) (by omega) (by omega) (by decide) dM_look_105 ?_
          refine lv_lstore hx hb dM_look_106 hl (by decide) rfl (fun ls hl => ?_)
          have hl : lv_has ls 14 [(8, .long (jl (M2 31 (5 * k)))), (7, .int (ji ((k:Int)))), (3, .long (jl (bef p k))), (5, .long (jl (sf (bef p k)))), (2, .int (ji ((n:Int)))), (0, .ref (E.2.1 28)), (1, .int (ji ((f:Int))))] := hl
          rw [hdg] at hl
          refine lv_lload hx hb dM_look_108 (lv_at hl 0 rfl) ?_
          refine pm_G (As := [.long (jl (wr M2 k k))]) (rest := []) hx hb hml hown hg hl (kM_classOf l (wr M2 k k) (by omega) hpx.1) wd535 wd536 wd5 wd537 ⟨rfl, rfl⟩ (n := 1) (by decide +kernel) rfl ⟨by decide, by decide⟩ rfl (Nat.le_of_ble_eq_true rfl) dM_look_110 ⟨Nat.zero_le _, Nat.zero_le _⟩ (fun r hr9 => ?_)
          subst hr9
          refine lv_lstore hx hb dM_look_113 hl (by decide) rfl (fun ls hl => ?_)
          have hl : lv_has ls 14 [(10, .long (jl (sf (wr M2 k k)))), (8, .long (jl (wr M2 k k))), (7, .int (ji ((k:Int)))), (3, .long (jl (bef p k))), (5, .long (jl (sf (bef p k)))), (2, .int (ji ((n:Int)))), (0, .ref (E.2.1 28)), (1, .int (ji ((f:Int))))] := hl
          refine lv_aload_n hx hb dM_look_115 rfl (lv_at hl 6 rfl) ?_
          refine lv_lload hx hb dM_look_116 (lv_at hl 0 rfl) ?_
          refine mm_V (As := [.long (jl (sf (wr M2 k k)))]) (rest := []) hx hb hml hown hg hl hK hP hS (by omega) (sh_M E _) rfl (kM_addPrimes l E hJ M2 (sf (wr M2 k k)) hsn (sf_sq hpx.1) (by omega) c (jB k) hD2.2.2.2.2.1 (by have := cB_le (k := k + 1) (by omega); have : cB (k + 1) = cB k + jB k := rfl; omega) (Sq p k) hD2.2.2.2.2.2 (fun q hq => (Sp_bd hpB (Sq_Sp hpB hq)).2) (Nat.lt_of_le_of_lt hsx hpx.2.2)) wd539 wd541 wds16 wd5 wd542 ⟨rfl, rfl⟩ (n := 1) (by decide +kernel) rfl ⟨by decide, by decide⟩ rfl (Nat.le_of_ble_eq_true rfl) dM_look_118 ⟨Nat.zero_le _, Nat.zero_le _⟩ (fun v M3 H locs hq3 hP hS => ?_)
          obtain ⟨rfl, ⟨c9, c1, c2, c3⟩, c4, c5⟩ := hq3
          -- the elimination, once the signs are counted
          have k193 : ∀ (M5 : Me) (H : Heap) (locs : List Loc) (ls : Array Slot), M5 28 3 = k → (∀ i, i < k + 1 → M5 32 i = tr (fun i => if i = k then wr M2 k k else p i) i) → M5 28 5 = ps (fun i => if i = k then wr M2 k k else p i) (k + 1) → M5 28 6 = ng (fun i => if i = k then wr M2 k k else p i) (k + 1) → M5 28 8 = c9 → SL c9 (M5 33) (Sq (fun i => if i = k then wr M2 k k else p i) (k + 1)) → M5 31 = M2 31 → ((∀ q, q ≠ 28 → q ≠ 31 → q ≠ 32 → q ≠ 33 → M5 q = M q) ∧ ∀ j, j ≠ 3 → j ≠ 5 → j ≠ 6 → j ≠ 7 → j ≠ 8 → M5 28 j = M 28 j) → wP E M5 H → va_S (wA E) s_.heap H locs → lv_has ls 14 [(8, .long (jl (wr M2 k k))), (10, .long (jl (sf (wr M2 k k)))), (7, .int (ji ((k:Int)))), (3, .long (jl (bef p k))), (5, .long (jl (sf (bef p k)))), (2, .int (ji ((n:Int)))), (0, .ref (E.2.1 28)), (1, .int (ji ((f:Int))))] → W p_ l e_ (rmd 2) s_ m_ a_ b_ t_ c_ H locs 0 0 (XQ b_ (mmQ E (fun v M9 => v = none ∧ (∃ (r : Nat) (p : Nat → Int) (c : Nat), PV n (fun i j => M 30 (16 * f + (4 * i + j))) r p ∧ pB p r ∧ r ≤ n ∧ c ≤ cB r ∧ LkS M9 r p c ∧ M9 28 7 = sf (bef p r)) ∧ ((∀ q, q ≠ 28 → q ≠ 31 → q ≠ 32 → q ≠ 33 → M9 q = M q) ∧ ∀ j, j ≠ 3 → j ≠ 5 → j ≠ 6 → j ≠ 7 → j ≠ 8 → M9 28 j = M 28 j))) a_ s_ 0 0 (wA E)) (F0 m_ 193 ls []) := by
            intro M5 H locs ls f1 f2 f3 f4 f5 f6 f7 hF5 hP hS hl
            have hwr : wr M5 = wr M2 := by unfold wr; rw [f7]
            have outer : ∀ (N' I : Nat) (M6 : Me) (H : Heap) (locs : List Loc) (ls : Array Slot), I + N' = n → k < I → eqn n (wr M6) (ela k (wr M2 k k) (bef p k) I (k + 1) (wr M2)) → FrW M5 M6 → wP E M6 H → va_S (wA E) s_.heap H locs → lv_has ls 14 [(12, .int (ji ((I:Int)))), (8, .long (jl (wr M2 k k))), (10, .long (jl (sf (wr M2 k k)))), (7, .int (ji ((k:Int)))), (3, .long (jl (bef p k))), (5, .long (jl (sf (bef p k)))), (2, .int (ji ((n:Int)))), (0, .ref (E.2.1 28)), (1, .int (ji ((f:Int))))] → W p_ l e_ (rmd 2) s_ m_ a_ b_ t_ c_ H locs 0 0 (XQ b_ (mmQ E (fun v M9 => v = none ∧ (∃ (r : Nat) (p : Nat → Int) (c : Nat), PV n (fun i j => M 30 (16 * f + (4 * i + j))) r p ∧ pB p r ∧ r ≤ n ∧ c ≤ cB r ∧ LkS M9 r p c ∧ M9 28 7 = sf (bef p r)) ∧ ((∀ q, q ≠ 28 → q ≠ 31 → q ≠ 32 → q ≠ 33 → M9 q = M q) ∧ ∀ j, j ≠ 3 → j ≠ 5 → j ≠ 6 → j ≠ 7 → j ≠ 8 → M9 28 j = M 28 j))) a_ s_ 0 0 (wA E)) (F0 m_ 199 ls []) := by
              intro N'
              induction N' with
              | zero =>
                intro I M6 H locs ls h0 hkI hT hF6 hP hS hl
                refine lv_iload hx hb dM_look_199 (lv_at hl 0 rfl) ?_
                refine lv_iload_n hx hb dM_look_201 rfl (lv_at hl 6 rfl) ?_
                refine j_icmp_ge hx hb (by omega) (by omega) dM_look_202 rfl (fun h1 => ?_) (fun h1 => ?_)
                · refine lv_lload hx hb dM_look_284 (lv_at hl 1 rfl) ?_
                  refine lv_lstore_n hx hb dM_look_286 rfl hl (by decide) rfl (fun ls hl => ?_)
                  have hl : lv_has ls 14 [(3, .long (jl (wr M2 k k))), (12, .int (ji ((I:Int)))), (8, .long (jl (wr M2 k k))), (10, .long (jl (sf (wr M2 k k)))), (7, .int (ji ((k:Int)))), (5, .long (jl (sf (bef p k)))), (2, .int (ji ((n:Int)))), (0, .ref (E.2.1 28)), (1, .int (ji ((f:Int))))] := hl
                  refine lv_lload hx hb dM_look_287 (lv_at hl 3 rfl) ?_
                  refine lv_lstore hx hb dM_look_289 hl (by decide) rfl (fun ls hl => ?_)
                  have hl : lv_has ls 14 [(5, .long (jl (sf (wr M2 k k)))), (3, .long (jl (wr M2 k k))), (12, .int (ji ((I:Int)))), (8, .long (jl (wr M2 k k))), (10, .long (jl (sf (wr M2 k k)))), (7, .int (ji ((k:Int)))), (2, .int (ji ((n:Int)))), (0, .ref (E.2.1 28)), (1, .int (ji ((f:Int))))] := hl
                  have g3 : M6 28 3 = k := by rw [hF6 28 (by omega)]; exact f1
                  refine lv_aload_n hx hb dM_look_291 rfl (lv_at hl 7 rfl) ?_
                  refine lv_dup hx hb dM_look_292 rfl ?_
                  refine m_get (C := "RationalFormsModel") (T := TxM) (N := 13) hx hb hg uwM hown hK hP (by omega) (sh_M E _) rfl 3 (by decide) wd462 rfl dM_look_293 ?_
                  refine j_iconst hx hb dM_look_296 ?_
                  refine j_iadd hx hb dM_look_297 ?_
                  refine m_put (C := "RationalFormsModel") (T := TxM) (N := 13) (ty := .int) (z := (M6 28 3) + 1) hx hb hg uwM txM txM_ok nmM hown hK hJ hP hS (by omega) (sh_M E _) rfl 3 (by decide) wd462 rfl rfl rfl rfl (Nat.le_of_ble_eq_true rfl) (by rw [sh_M E _]; simp [mu]) dM_look_298 (fun H locs hP hS => ?_)
                  refine lv_goto hx hb dM_look_301 rfl ?_
                  rw [g3] at hP
                  refine ih (k + 1) (fun i => if i = k then wr M2 k k else p i) c9 _ H locs ls (by omega) ⟨wr M1, wr M2, PVs.cg hp' hPV, hkn, hbp, hpk.symm, ?_⟩ hpB' (by show c9 ≤ cB k + jB k; omega) ⟨mu_s _ _ _ _, fun i hi => ?_, ?_, ?_, ?_, ?_⟩ ⟨fun q q1 q2 q3 q4 => ?_, fun j j1 j2 j3 j4 j5 => ?_⟩ hP hS ?_
                  · rw [hpk, e0]
                    have hq : wr (mu M6 28 3 ((k + 1 : Nat) : Int)) = wr M6 := by unfold wr; rw [mu_k (by omega)]
                    rw [hq]
                    exact ela_e (by rw [show I = n by omega] at hT; exact hT)
                  · rw [mu_k (by omega), hF6 32 (by omega)]; exact f2 i hi
                  · rw [mu_j (by omega), hF6 28 (by omega)]; exact f3
                  · rw [mu_j (by omega), hF6 28 (by omega)]; exact f4
                  · rw [mu_j (by omega), hF6 28 (by omega)]; exact f5
                  · rw [mu_k (by omega), hF6 33 (by omega)]; exact f6
                  · rw [mu_k q1, hF6 q q2]; exact hF5.1 q q1 q2 q3 q4
                  · rw [mu_j j1, hF6 28 (by omega)]; exact hF5.2 j j1 j2 j3 j4 j5
                  · have e9 : bef (fun i => if i = k then wr M2 k k else p i) (k + 1) = wr M2 k k := hpk
                    rw [e9]
                    exact lv_sub hl [1, 0, 6, 7, 8] rfl
                · omega
              | succ N' ihN =>
                intro I M6 H locs ls h0 hkI hT hF6 hP hS hl
                have inner : ∀ (K J : Nat) (M6 : Me) (H : Heap) (locs : List Loc) (ls : Array Slot), J + K = n → k < J → eqn n (wr M6) (ela k (wr M2 k k) (bef p k) I J (wr M2)) → FrW M5 M6 → wP E M6 H → va_S (wA E) s_.heap H locs → lv_has ls 14 [(13, .int (ji ((J:Int)))), (12, .int (ji ((I:Int)))), (8, .long (jl (wr M2 k k))), (10, .long (jl (sf (wr M2 k k)))), (7, .int (ji ((k:Int)))), (3, .long (jl (bef p k))), (5, .long (jl (sf (bef p k)))), (2, .int (ji ((n:Int)))), (0, .ref (E.2.1 28)), (1, .int (ji ((f:Int))))] → W p_ l e_ (rmd 2) s_ m_ a_ b_ t_ c_ H locs 0 0 (XQ b_ (mmQ E (fun v M9 => v = none ∧ (∃ (r : Nat) (p : Nat → Int) (c : Nat), PV n (fun i j => M 30 (16 * f + (4 * i + j))) r p ∧ pB p r ∧ r ≤ n ∧ c ≤ cB r ∧ LkS M9 r p c ∧ M9 28 7 = sf (bef p r)) ∧ ((∀ q, q ≠ 28 → q ≠ 31 → q ≠ 32 → q ≠ 33 → M9 q = M q) ∧ ∀ j, j ≠ 3 → j ≠ 5 → j ≠ 6 → j ≠ 7 → j ≠ 8 → M9 28 j = M 28 j))) a_ s_ 0 0 (wA E)) (F0 m_ 211 ls []) := by
                  intro K
                  induction K with
                  | zero =>
                    intro J M6 H locs ls h1 hkJ hT hF6 hP hS hl
                    refine lv_iload hx hb dM_look_211 (lv_at hl 0 rfl) ?_
                    refine lv_iload_n hx hb dM_look_213 rfl (lv_at hl 7 rfl) ?_
                    refine j_icmp_ge hx hb (by omega) (by omega) dM_look_214 rfl (fun h2 => ?_) (fun h2 => ?_)
                    · refine lv_iinc (k := 1) (v := ji (((I:Int)) + 1)) hx hb dM_look_278 hl rfl (Int32.ofInt_add _ _).symm (by decide) rfl (fun ls hl => ?_)
                      have hl : lv_has ls 14 [(12, .int (ji (((I:Int)) + 1))), (13, .int (ji ((J:Int)))), (8, .long (jl (wr M2 k k))), (10, .long (jl (sf (wr M2 k k)))), (7, .int (ji ((k:Int)))), (3, .long (jl (bef p k))), (5, .long (jl (sf (bef p k)))), (2, .int (ji ((n:Int)))), (0, .ref (E.2.1 28)), (1, .int (ji ((f:Int))))] := hl
                      refine lv_goto hx hb dM_look_281 rfl ?_
                      exact ihN (I + 1) M6 H locs ls (by omega) (by omega) (ela_r (by rw [show J = n by omega] at hT; exact hT)) hF6 hP hS (lv_sub hl [0, 2, 3, 4, 5, 6, 7, 8, 9] rfl)
                    · omega
                  | succ K ihK =>
                    intro J M6 H locs ls h1 hkJ hT hF6 hP hS hl
                    have hz : ∀ a b, (a = I ∨ a = k) → (b = J ∨ b = k) → (M6 31 (4 * a + b)).natAbs ≤ 2000000000 := fun a b ha hb => by
                      by_cases hab : k < a ∧ k < b ∧ (a < I ∨ a = I ∧ b < J)
                      · omega
                      · have h3 := hT a b (by omega) (by omega)
                        unfold ela at h3
                        rw [if_neg hab] at h3
                        show (wr M6 a b).natAbs ≤ _
                        rw [h3]
                        have y1 := (hsB a b (by omega) (by omega) (by omega) (by omega)).2
                        have y2 : tB k ≤ tB 2 := by
                          rcases (by omega : k = 0 ∨ k = 1 ∨ k = 2) with q | q | q <;> subst q <;> decide
                        have y3 : 4 * tB 2 ≤ 2000000000 := by decide
                        omega
                    refine lv_iload hx hb dM_look_211 (lv_at hl 0 rfl) ?_
                    refine lv_iload_n hx hb dM_look_213 rfl (lv_at hl 7 rfl) ?_
                    refine j_icmp_ge hx hb (by omega) (by omega) dM_look_214 rfl (fun h2 => ?_) (fun h2 => ?_)
                    · omega
                    · refine lv_aload_n hx hb dM_look_217 rfl (lv_at hl 8 rfl) ?_
                      refine m_get (C := "RationalFormsModel") (T := TxM) (N := 13) hx hb hg uwM hown hK hP (by omega) (sh_M E _) rfl 2 (by decide) wd461 rfl dM_look_218 ?_
                      refine j_iconst hx hb dM_look_221 ?_
                      refine lv_iload hx hb dM_look_222 (lv_at hl 1 rfl) ?_
                      refine j_imul hx hb dM_look_224 ?_
                      refine lv_iload hx hb dM_look_225 (lv_at hl 0 rfl) ?_
                      refine j_iadd hx hb dM_look_227 ?_
                      refine lv_lload hx hb dM_look_228 (lv_at hl 2 rfl) ?_
                      refine lv_aload_n hx hb dM_look_230 rfl (lv_at hl 8 rfl) ?_
                      refine m_get (C := "RationalFormsModel") (T := TxM) (N := 13) hx hb hg uwM hown hK hP (by omega) (sh_M E _) rfl 2 (by decide) wd461 rfl dM_look_231 ?_
                      refine j_iconst hx hb dM_look_234 ?_
                      refine lv_iload hx hb dM_look_235 (lv_at hl 1 rfl) ?_
                      refine j_imul hx hb dM_look_237 ?_
                      refine lv_iload hx hb dM_look_238 (lv_at hl 0 rfl) ?_
                      refine j_iadd hx hb dM_look_240 ?_
                      refine m_lald (n := 4 * I + J) hx hb hK hP (by omega) (sh_31 E _) (by omega) (by omega) (by decide) dM_look_241 ?_
                      refine j_lmul hx hb dM_look_242 ?_
                      refine lv_aload_n hx hb dM_look_243 rfl (lv_at hl 8 rfl) ?_
                      refine m_get (C := "RationalFormsModel") (T := TxM) (N := 13) hx hb hg uwM hown hK hP (by omega) (sh_M E _) rfl 2 (by decide) wd461 rfl dM_look_244 ?_
                      refine j_iconst hx hb dM_look_247 ?_
                      refine lv_iload hx hb dM_look_248 (lv_at hl 1 rfl) ?_
                      refine j_imul hx hb dM_look_250 ?_
                      refine lv_iload hx hb dM_look_251 (lv_at hl 4 rfl) ?_
                      refine j_iadd hx hb dM_look_253 ?_
                      refine m_lald (n := 4 * I + k) hx hb hK hP (by omega) (sh_31 E _) (by omega) (by omega) (by decide) dM_look_254 ?_
                      refine lv_aload_n hx hb dM_look_255 rfl (lv_at hl 8 rfl) ?_
                      refine m_get (C := "RationalFormsModel") (T := TxM) (N := 13) hx hb hg uwM hown hK hP (by omega) (sh_M E _) rfl 2 (by decide) wd461 rfl dM_look_256 ?_
                      refine j_iconst hx hb dM_look_259 ?_
                      refine lv_iload hx hb dM_look_260 (lv_at hl 4 rfl) ?_
                      refine j_imul hx hb dM_look_262 ?_
                      refine lv_iload hx hb dM_look_263 (lv_at hl 0 rfl) ?_
                      refine j_iadd hx hb dM_look_265 ?_
                      refine m_lald (n := 4 * k + J) hx hb hK hP (by omega) (sh_31 E _) (by omega) (by omega) (by decide) dM_look_266 ?_
                      refine j_lmul hx hb dM_look_267 ?_
                      refine j_lsub hx hb dM_look_268 ?_
                      refine lv_lload_n hx hb dM_look_269 rfl (lv_at hl 5 rfl) ?_
                      refine j_ldiv hx hb (el64 hxb (hz I J (by omega) (by omega)) (hz I k (by omega) (by omega)) (hz k J (by omega) (by omega))) (by omega) hb0.1 dM_look_270 ?_
                      refine m_last (n := 4 * I + J) hx hb hK hJ hP hS (by omega) (fun r => sh_31 E r) (by omega) (by omega) (by decide) dM_look_271 (fun H locs hP hS => ?_)
                      refine lv_iinc (k := 0) (v := ji (((J:Int)) + 1)) hx hb dM_look_272 hl rfl (Int32.ofInt_add _ _).symm (by decide) rfl (fun ls hl => ?_)
                      have hl : lv_has ls 14 [(13, .int (ji (((J:Int)) + 1))), (12, .int (ji ((I:Int)))), (8, .long (jl (wr M2 k k))), (10, .long (jl (sf (wr M2 k k)))), (7, .int (ji ((k:Int)))), (3, .long (jl (bef p k))), (5, .long (jl (sf (bef p k)))), (2, .int (ji ((n:Int)))), (0, .ref (E.2.1 28)), (1, .int (ji ((f:Int))))] := hl
                      refine lv_goto hx hb dM_look_275 rfl ?_
                      refine ihK (J + 1) _ H locs ls (by omega) (by omega) ?_ (hF6.mu _ _) hP hS hl
                      refine ((wr_mu _ (by omega)).n hn4).tr ?_
                      rw [Int.mul_comm (wr M2 k k) (M6 31 (4 * I + J))]
                      exact ela_n hT hkI hkJ (by omega) (by omega)
                refine lv_iload hx hb dM_look_199 (lv_at hl 0 rfl) ?_
                refine lv_iload_n hx hb dM_look_201 rfl (lv_at hl 6 rfl) ?_
                refine j_icmp_ge hx hb (by omega) (by omega) dM_look_202 rfl (fun h1 => ?_) (fun h1 => ?_)
                · omega
                · refine lv_iload hx hb dM_look_205 (lv_at hl 3 rfl) ?_
                  refine j_iconst hx hb dM_look_207 ?_
                  refine j_iadd hx hb dM_look_208 ?_
                  refine lv_istore hx hb dM_look_209 hl (by decide) rfl (fun ls hl => ?_)
                  have hl : lv_has ls 14 [(13, .int (ji (((k:Int)) + 1))), (12, .int (ji ((I:Int)))), (8, .long (jl (wr M2 k k))), (10, .long (jl (sf (wr M2 k k)))), (7, .int (ji ((k:Int)))), (3, .long (jl (bef p k))), (5, .long (jl (sf (bef p k)))), (2, .int (ji ((n:Int)))), (0, .ref (E.2.1 28)), (1, .int (ji ((f:Int))))] := hl
                  exact inner (n - (k + 1)) (k + 1) M6 H locs ls (by omega) (by omega) hT hF6 hP hS hl
            refine lv_iload hx hb dM_look_193 (lv_at hl 2 rfl) ?_
            refine j_iconst hx hb dM_look_195 ?_
            refine j_iadd hx hb dM_look_196 ?_
            refine lv_istore hx hb dM_look_197 hl (by decide) rfl (fun ls hl => ?_)
            have hl : lv_has ls 14 [(12, .int (ji (((k:Int)) + 1))), (8, .long (jl (wr M2 k k))), (10, .long (jl (sf (wr M2 k k)))), (7, .int (ji ((k:Int)))), (3, .long (jl (bef p k))), (5, .long (jl (sf (bef p k)))), (2, .int (ji ((n:Int)))), (0, .ref (E.2.1 28)), (1, .int (ji ((f:Int))))] := hl
            exact outer (n - (k + 1)) (k + 1) M5 H locs ls (by omega) (by omega) (by rw [hwr]; exact (ela_0 k _ _ _).n hn4) (FrW.rf M5) hP hS hl
          obtain ⟨d1, d2, d3', d4', d5, d6⟩ := hD2
          refine lv_aload_n hx hb dM_look_121 rfl (lv_at hl 6 rfl) ?_
          refine m_get (C := "RationalFormsModel") (T := TxM) (N := 13) hx hb hg uwM hown hK hP (by omega) (sh_M E _) rfl 4 (by decide) wd463 rfl dM_look_122 ?_
          refine lv_iload hx hb dM_look_125 (lv_at hl 2 rfl) ?_
          refine lv_lload hx hb dM_look_127 (lv_at hl 0 rfl) ?_
          refine lv_lload hx hb dM_look_129 (lv_at hl 4 rfl) ?_
          refine pm_G (As := [.long (jl (sf (wr M2 k k))), .long (jl (sf (bef p k)))]) (rest := [.int (ji ((k:Int))), .ref (E.2.1 32)]) hx hb hml hown hg hl (kM_times l (sf (wr M2 k k)) (sf (bef p k)) (by omega) (by omega) hsn) wd543 wd544 wd5 wd545 ⟨rfl, rfl⟩ (n := 2) (by decide +kernel) rfl ⟨by decide, by decide⟩ rfl (Nat.le_of_ble_eq_true rfl) dM_look_131 ⟨Nat.zero_le _, Nat.zero_le _⟩ (fun r hr9 => ?_)
          subst hr9
          refine m_last (n := k) hx hb hK hJ hP hS (by omega) (fun r => sh_32 E r) rfl (by omega) (by decide) dM_look_134 (fun H locs hP hS => ?_)
          obtain ⟨M4, e4⟩ : ∃ X, X = mu M3 32 k (pr (sf (wr M2 k k)) (sf (bef p k))) := ⟨_, rfl⟩
          rw [← e4] at hP
          have v32 : M4 32 k = pr (sf (wr M2 k k)) (sf (bef p k)) := by rw [e4]; exact mu_s _ _ _ _
          have v28 : M4 28 = M3 28 := by rw [e4]; exact mu_k (by omega)
          have v33 : M4 33 = M3 33 := by rw [e4]; exact mu_k (by omega)
          have g32 : ∀ i, i < k + 1 → M4 32 i = tr (fun i => if i = k then wr M2 k k else p i) i := fun i hi => by
            by_cases hik : i = k
            · rw [hik, v32, etr]
            · rw [e4, mu_j hik, c4 32 (by omega) (by omega), d2 i (by omega)]
              exact (tr_cg hp' (by omega)).symm
          have g33 : SL c9 (M4 33) (Sq (fun i => if i = k then wr M2 k k else p i) (k + 1)) := by
            rw [v33]
            refine c3.to (fun q => ⟨?_, ?_⟩)
            · rintro (h | h)
              · rcases h with h | ⟨i, i1, i2, i3⟩
                · exact Or.inl h
                · exact Or.inr ⟨i, by omega, i2, by rw [hp' i i1]; exact i3⟩
              · exact Or.inr ⟨k, by omega, h.1, by rw [hpk]; exact h.2⟩
            · rintro (h | ⟨i, i1, i2, i3⟩)
              · exact Or.inl (Or.inl h)
              · by_cases hik : i = k
                · rw [hik, hpk] at i3
                  exact Or.inr ⟨i2, i3⟩
                · rw [hp' i (by omega)] at i3
                  exact Or.inl (Or.inr ⟨i, by omega, i2, i3⟩)
          have g31 : M4 31 = M2 31 := by rw [e4, mu_k (by omega)]; exact c4 31 (by omega) (by omega)
          have gF : (∀ q, q ≠ 28 → q ≠ 31 → q ≠ 32 → q ≠ 33 → M4 q = M q) ∧ ∀ j, j ≠ 3 → j ≠ 5 → j ≠ 6 → j ≠ 7 → j ≠ 8 → M4 28 j = M 28 j := ⟨fun q q1 q2 q3 q4 => by rw [e4, mu_k q3, c4 q q1 q4]; exact hF2.1 q q1 q2 q3 q4, fun j j1 j2 j3 j4 j5 => by rw [v28, c5 j j5]; exact hF2.2 j j1 j2 j3 j4 j5⟩
          have eps : ps (fun i => if i = k then wr M2 k k else p i) (k + 1) = ps p k + (if 0 < pr (sf (wr M2 k k)) (sf (bef p k)) then 1 else 0) := by
            show ps (fun i => if i = k then wr M2 k k else p i) k + _ = _
            rw [ps_cg hp', etr]
          have eng : ng (fun i => if i = k then wr M2 k k else p i) (k + 1) = ng p k + (if 0 < pr (sf (wr M2 k k)) (sf (bef p k)) then 0 else 1) := by
            show ng (fun i => if i = k then wr M2 k k else p i) k + _ = _
            rw [ng_cg hp', etr]
          have w5 : M4 28 5 = ps p k := by rw [v28, c5 5 (by omega)]; exact d3'
          have w6 : M4 28 6 = ng p k := by rw [v28, c5 6 (by omega)]; exact d4'
          have w3 : M4 28 3 = k := by rw [v28, c5 3 (by omega)]; exact d1
          have w8 : M4 28 8 = c9 := by rw [v28]; exact c2
          refine lv_aload_n hx hb dM_look_135 rfl (lv_at hl 6 rfl) ?_
          refine lv_aload_n hx hb dM_look_136 rfl (lv_at hl 6 rfl) ?_
          refine m_get (C := "RationalFormsModel") (T := TxM) (N := 13) hx hb hg uwM hown hK hP (by omega) (sh_M E _) rfl 4 (by decide) wd463 rfl dM_look_137 ?_
          refine lv_iload hx hb dM_look_140 (lv_at hl 2 rfl) ?_
          refine m_lald (n := k) hx hb hK hP (by omega) (sh_32 E _) rfl (by omega) (by decide) dM_look_142 ?_
          refine j_lconst0 hx hb dM_look_143 ?_
          refine j_lc_le hx hb (by rw [v32]; omega) (by decide) dM_look_144 dM_look_145 rfl (fun h5 => ?_) (fun h5 => ?_)
          · rw [v32] at h5
            refine lv_aload_n hx hb dM_look_157 rfl (lv_at hl 6 rfl) ?_
            refine m_get (C := "RationalFormsModel") (T := TxM) (N := 13) hx hb hg uwM hown hK hP (by omega) (sh_M E _) rfl 5 (by decide) wd464 rfl dM_look_158 ?_
            refine m_put (C := "RationalFormsModel") (T := TxM) (N := 13) (ty := .int) (z := M4 28 5) hx hb hg uwM txM txM_ok nmM hown hK hJ hP hS (by omega) (sh_M E _) rfl 5 (by decide) wd464 rfl rfl rfl rfl (Nat.le_of_ble_eq_true rfl) (by rw [sh_M E _]; simp [mu]) dM_look_161 (fun H locs hP hS => ?_)
            have v32' : mu M4 28 5 (M4 28 5) 32 k = pr (sf (wr M2 k k)) (sf (bef p k)) := by rw [mu_k (by omega)]; exact v32
            refine lv_aload_n hx hb dM_look_164 rfl (lv_at hl 6 rfl) ?_
            refine lv_aload_n hx hb dM_look_165 rfl (lv_at hl 6 rfl) ?_
            refine m_get (C := "RationalFormsModel") (T := TxM) (N := 13) hx hb hg uwM hown hK hP (by omega) (sh_M E _) rfl 4 (by decide) wd463 rfl dM_look_166 ?_
            refine lv_iload hx hb dM_look_169 (lv_at hl 2 rfl) ?_
            refine m_lald (n := k) hx hb hK hP (by omega) (sh_32 E _) rfl (by omega) (by decide) dM_look_171 ?_
            refine j_lconst0 hx hb dM_look_172 ?_
            refine j_lc_ge hx hb (by rw [v32']; omega) (by decide) dM_look_173 dM_look_174 rfl (fun h6 => ?_) (fun h6 => ?_)
            · rw [v32'] at h6
              omega
            · refine lv_aload_n hx hb dM_look_177 rfl (lv_at hl 6 rfl) ?_
              refine m_get (C := "RationalFormsModel") (T := TxM) (N := 13) hx hb hg uwM hown hK hP (by omega) (sh_M E _) rfl 6 (by decide) wd465 rfl dM_look_178 ?_
              refine j_iconst hx hb dM_look_181 ?_
              refine j_iadd hx hb dM_look_182 ?_
              refine lv_goto hx hb dM_look_183 rfl ?_
              refine m_put (C := "RationalFormsModel") (T := TxM) (N := 13) (ty := .int) (z := ((mu M4 28 5 (M4 28 5)) 28 6) + 1) hx hb hg uwM txM txM_ok nmM hown hK hJ hP hS (by omega) (sh_M E _) rfl 6 (by decide) wd465 rfl rfl rfl rfl (Nat.le_of_ble_eq_true rfl) (by rw [sh_M E _]; simp [mu]) dM_look_190 (fun H locs hP hS => ?_)
              refine k193 _ H locs ls ?_ ?_ ?_ ?_ ?_ ?_ ?_ ⟨fun q q1 q2 q3 q4 => ?_, fun j j1 j2 j3 j4 j5 => ?_⟩ hP hS (lv_sub hl [1, 0, 2, 3, 4, 5, 6, 7] rfl)
              · rw [mu_j (by omega), mu_j (by omega)]; exact w3
              · rw [mu_k (by omega), mu_k (by omega)]; exact g32
              · rw [mu_j (by omega), mu_s, w5, eps, if_neg (by omega)]; omega
              · rw [mu_s, mu_j (by omega), w6, eng, if_neg (by omega)]
              · rw [mu_j (by omega), mu_j (by omega)]; exact w8
              · rw [mu_k (by omega), mu_k (by omega)]; exact g33
              · rw [mu_k (by omega), mu_k (by omega)]; exact g31
              · rw [mu_k q1, mu_k q1]; exact gF.1 q q1 q2 q3 q4
              · rw [mu_j j3, mu_j j2]; exact gF.2 j j1 j2 j3 j4 j5
          · rw [v32] at h5
            refine lv_aload_n hx hb dM_look_148 rfl (lv_at hl 6 rfl) ?_
            refine m_get (C := "RationalFormsModel") (T := TxM) (N := 13) hx hb hg uwM hown hK hP (by omega) (sh_M E _) rfl 5 (by decide) wd464 rfl dM_look_149 ?_
            refine j_iconst hx hb dM_look_152 ?_
            refine j_iadd hx hb dM_look_153 ?_
            refine lv_goto hx hb dM_look_154 rfl ?_
            refine m_put (C := "RationalFormsModel") (T := TxM) (N := 13) (ty := .int) (z := (M4 28 5) + 1) hx hb hg uwM txM txM_ok nmM hown hK hJ hP hS (by omega) (sh_M E _) rfl 5 (by decide) wd464 rfl rfl rfl rfl (Nat.le_of_ble_eq_true rfl) (by rw [sh_M E _]; simp [mu]) dM_look_161 (fun H locs hP hS => ?_)
            have v32' : mu M4 28 5 (M4 28 5 + 1) 32 k = pr (sf (wr M2 k k)) (sf (bef p k)) := by rw [mu_k (by omega)]; exact v32
            refine lv_aload_n hx hb dM_look_164 rfl (lv_at hl 6 rfl) ?_
            refine lv_aload_n hx hb dM_look_165 rfl (lv_at hl 6 rfl) ?_
            refine m_get (C := "RationalFormsModel") (T := TxM) (N := 13) hx hb hg uwM hown hK hP (by omega) (sh_M E _) rfl 4 (by decide) wd463 rfl dM_look_166 ?_
            refine lv_iload hx hb dM_look_169 (lv_at hl 2 rfl) ?_
            refine m_lald (n := k) hx hb hK hP (by omega) (sh_32 E _) rfl (by omega) (by decide) dM_look_171 ?_
            refine j_lconst0 hx hb dM_look_172 ?_
            refine j_lc_ge hx hb (by rw [v32']; omega) (by decide) dM_look_173 dM_look_174 rfl (fun h6 => ?_) (fun h6 => ?_)
            · refine lv_aload_n hx hb dM_look_186 rfl (lv_at hl 6 rfl) ?_
              refine m_get (C := "RationalFormsModel") (T := TxM) (N := 13) hx hb hg uwM hown hK hP (by omega) (sh_M E _) rfl 6 (by decide) wd465 rfl dM_look_187 ?_
              refine m_put (C := "RationalFormsModel") (T := TxM) (N := 13) (ty := .int) (z := (mu M4 28 5 ((M4 28 5) + 1)) 28 6) hx hb hg uwM txM txM_ok nmM hown hK hJ hP hS (by omega) (sh_M E _) rfl 6 (by decide) wd465 rfl rfl rfl rfl (Nat.le_of_ble_eq_true rfl) (by rw [sh_M E _]; simp [mu]) dM_look_190 (fun H locs hP hS => ?_)
              refine k193 _ H locs ls ?_ ?_ ?_ ?_ ?_ ?_ ?_ ⟨fun q q1 q2 q3 q4 => ?_, fun j j1 j2 j3 j4 j5 => ?_⟩ hP hS (lv_sub hl [1, 0, 2, 3, 4, 5, 6, 7] rfl)
              · rw [mu_j (by omega), mu_j (by omega)]; exact w3
              · rw [mu_k (by omega), mu_k (by omega)]; exact g32
              · rw [mu_j (by omega), mu_s, w5, eps, if_pos h5]
              · rw [mu_s, mu_j (by omega), w6, eng, if_pos h5]; omega
              · rw [mu_j (by omega), mu_j (by omega)]; exact w8
              · rw [mu_k (by omega), mu_k (by omega)]; exact g33
              · rw [mu_k (by omega), mu_k (by omega)]; exact g31
              · rw [mu_k q1, mu_k q1]; exact gF.1 q q1 q2 q3 q4
              · rw [mu_j j3, mu_j j2]; exact gF.2 j j1 j2 j3 j4 j5
            · rw [v32'] at h6
              omega
  have copy : ∀ (N k : Nat) (M1 : Me) (H : Heap) (locs : List Loc) (ls : Array Slot), k + N = 16 → (∀ i, i < k → M1 31 i = M 30 (16 * f + i)) → FrW M M1 → wP E M1 H → va_S (wA E) s_.heap H locs → lv_has ls 14 [(3, .int (ji ((k:Int)))), (2, .int (ji ((n:Int)))), (0, .ref (E.2.1 28)), (1, .int (ji ((f:Int))))] → W p_ l e_ (rmd 2) s_ m_ a_ b_ t_ c_ H locs 0 0 (XQ b_ (mmQ E (fun v M9 => v = none ∧ (∃ (r : Nat) (p : Nat → Int) (c : Nat), PV n (fun i j => M 30 (16 * f + (4 * i + j))) r p ∧ pB p r ∧ r ≤ n ∧ c ≤ cB r ∧ LkS M9 r p c ∧ M9 28 7 = sf (bef p r)) ∧ ((∀ q, q ≠ 28 → q ≠ 31 → q ≠ 32 → q ≠ 33 → M9 q = M q) ∧ ∀ j, j ≠ 3 → j ≠ 5 → j ≠ 6 → j ≠ 7 → j ≠ 8 → M9 28 j = M 28 j))) a_ s_ 0 0 (wA E)) (F0 m_ 9 ls []) := by
    intro N
    induction N with
    | zero =>
      intro k M1 H locs ls h0 hT hF hP hS hl
      refine lv_iload_n hx hb dM_look_9 rfl (lv_at hl 0 rfl) ?_
      refine j_bipush hx hb dM_look_10 rfl ?_
      refine j_icmp_ge hx hb (by omega) (by omega) dM_look_12 rfl (fun h1 => ?_) (fun h1 => ?_)
      · refine lv_aload_n hx hb dM_look_39 rfl (lv_at hl 2 rfl) ?_
        refine j_iconst hx hb dM_look_40 ?_
        refine m_put (C := "RationalFormsModel") (T := TxM) (N := 13) (ty := .int) (z := 0) hx hb hg uwM txM txM_ok nmM hown hK hJ hP hS (by omega) (sh_M E _) rfl 3 (by decide) wd462 rfl rfl rfl rfl (Nat.le_of_ble_eq_true rfl) (by rw [sh_M E _]; simp [mu]) dM_look_41 (fun H locs hP hS => ?_)
        refine lv_aload_n hx hb dM_look_44 rfl (lv_at hl 2 rfl) ?_
        refine j_iconst hx hb dM_look_45 ?_
        refine m_put (C := "RationalFormsModel") (T := TxM) (N := 13) (ty := .int) (z := 0) hx hb hg uwM txM txM_ok nmM hown hK hJ hP hS (by omega) (sh_M E _) rfl 5 (by decide) wd464 rfl rfl rfl rfl (Nat.le_of_ble_eq_true rfl) (by rw [sh_M E _]; simp [mu]) dM_look_46 (fun H locs hP hS => ?_)
        refine lv_aload_n hx hb dM_look_49 rfl (lv_at hl 2 rfl) ?_
        refine j_iconst hx hb dM_look_50 ?_
        refine m_put (C := "RationalFormsModel") (T := TxM) (N := 13) (ty := .int) (z := 0) hx hb hg uwM txM txM_ok nmM hown hK hJ hP hS (by omega) (sh_M E _) rfl 6 (by decide) wd465 rfl rfl rfl rfl (Nat.le_of_ble_eq_true rfl) (by rw [sh_M E _]; simp [mu]) dM_look_51 (fun H locs hP hS => ?_)
        refine lv_aload_n hx hb dM_look_54 rfl (lv_at hl 2 rfl) ?_
        refine j_iconst hx hb dM_look_55 ?_
        refine m_put (C := "RationalFormsModel") (T := TxM) (N := 13) (ty := .int) (z := 0) hx hb hg uwM txM txM_ok nmM hown hK hJ hP hS (by omega) (sh_M E _) rfl 8 (by decide) wd467 rfl rfl rfl rfl (Nat.le_of_ble_eq_true rfl) (by rw [sh_M E _]; simp [mu]) dM_look_56 (fun H locs hP hS => ?_)
        obtain ⟨M2, e2⟩ : ∃ X, X = mu (mu (mu (mu M1 28 3 0) 28 5 0) 28 6 0) 28 8 0 := ⟨_, rfl⟩
        rw [← e2] at hP
        have hs2 : ∀ q, q ≠ 28 → M2 q = M1 q := fun q hq => by rw [e2]; repeat rw [mu_k hq]
        have hv2 : M2 28 3 = 0 ∧ M2 28 5 = 0 ∧ M2 28 6 = 0 ∧ M2 28 8 = 0 := by rw [e2]; simp [mu]
        have hj2 : ∀ j, j ≠ 3 → j ≠ 5 → j ≠ 6 → j ≠ 8 → M2 28 j = M1 28 j := fun j j1 j2 j3 j4 => by rw [e2, mu_j j4, mu_j j3, mu_j j2, mu_j j1]
        refine lv_aload_n hx hb dM_look_59 rfl (lv_at hl 2 rfl) ?_
        refine j_ldc2 (z := 2) hx hb hown hg wd522 rfl dM_look_60 ?_
        refine mm_V (As := [.long (jl 2)]) (rest := []) hx hb hml hown hg hl hK hP hS (by omega) (sh_M E _) rfl (kM_addPrime l E hJ M2 2 (by decide) 0 hv2.2.2.2 (by decide) (fun _ => False) ⟨fun i j h1 h2 => by omega, fun i h => by omega, fun q h => h.elim⟩ (fun q h => h.elim)) wd523 wd525 wds13 wd5 wd526 ⟨rfl, rfl⟩ (n := 1) (by decide +kernel) rfl ⟨by decide, by decide⟩ rfl (Nat.le_of_ble_eq_true rfl) dM_look_63 ⟨Nat.zero_le _, Nat.zero_le _⟩ (fun v M3 H locs hq hP hS => ?_)
        obtain ⟨rfl, ⟨c9, q1, q2, q3⟩, q4, q5⟩ := hq
        refine j_lconst1 hx hb dM_look_66 ?_
        refine lv_lstore_n hx hb dM_look_67 rfl hl (by decide) rfl (fun ls hl => ?_)
        have hl : lv_has ls 14 [(3, .long (jl 1)), (2, .int (ji ((n:Int)))), (0, .ref (E.2.1 28)), (1, .int (ji ((f:Int))))] := hl
        refine j_lconst1 hx hb dM_look_68 ?_
        refine lv_lstore hx hb dM_look_69 hl (by decide) rfl (fun ls hl => ?_)
        have hl : lv_has ls 14 [(5, .long (jl 1)), (3, .long (jl 1)), (2, .int (ji ((n:Int)))), (0, .ref (E.2.1 28)), (1, .int (ji ((f:Int))))] := hl
        refine loop n 0 (fun _ => 0) c9 M3 H locs ls (by omega) ?_ (fun i hi => by omega) (by show c9 ≤ 1; omega) ⟨by rw [q5 3 (by omega)]; exact hv2.1, fun i hi => by omega, by rw [q5 5 (by omega)]; exact hv2.2.1, by rw [q5 6 (by omega)]; exact hv2.2.2.1, q2, q3.to (fun q => ⟨fun h => h.elim Or.inl False.elim, fun h => h.elim Or.inl (fun h => by obtain ⟨i, i1, -⟩ := h; omega)⟩)⟩ ⟨fun q a1 a2 a3 a4 => ?_, fun j j1 j2 j3 j4 j5 => ?_⟩ hP hS ?_
        · intro a b ha hb
          show M3 31 (4 * a + b) = M 30 (16 * f + (4 * a + b))
          rw [q4 31 (by omega) (by omega), hs2 31 (by omega)]
          exact hT (4 * a + b) (by omega)
        · rw [q4 q a1 a4, hs2 q a1]; exact hF q a2
        · rw [q5 j j5, hj2 j j1 j2 j3 j5]; exact congrFun (hF 28 (by omega)) j
        · have e9 : sf (bef (fun _ => 0) 0) = 1 := sf_1
          rw [e9]
          exact lv_sub hl [1, 0, 2, 3, 4] rfl
      · omega
    | succ N ih =>
      intro k M1 H locs ls h0 hT hF hP hS hl
      have h30 : M1 30 = M 30 := hF 30 (by omega)
      refine lv_iload_n hx hb dM_look_9 rfl (lv_at hl 0 rfl) ?_
      refine j_bipush hx hb dM_look_10 rfl ?_
      refine j_icmp_ge hx hb (by omega) (by omega) dM_look_12 rfl (fun h1 => ?_) (fun h1 => ?_)
      · omega
      · refine lv_aload_n hx hb dM_look_15 rfl (lv_at hl 2 rfl) ?_
        refine m_get (C := "RationalFormsModel") (T := TxM) (N := 13) hx hb hg uwM hown hK hP (by omega) (sh_M E _) rfl 2 (by decide) wd461 rfl dM_look_16 ?_
        refine lv_iload_n hx hb dM_look_19 rfl (lv_at hl 0 rfl) ?_
        refine lv_aload_n hx hb dM_look_20 rfl (lv_at hl 2 rfl) ?_
        refine m_get (C := "RationalFormsModel") (T := TxM) (N := 13) hx hb hg uwM hown hK hP (by omega) (sh_M E _) rfl 1 (by decide) wd460 rfl dM_look_21 ?_
        refine j_bipush hx hb dM_look_24 rfl ?_
        refine lv_iload_n hx hb dM_look_26 rfl (lv_at hl 3 rfl) ?_
        refine j_imul hx hb dM_look_27 ?_
        refine lv_iload_n hx hb dM_look_28 rfl (lv_at hl 0 rfl) ?_
        refine j_iadd hx hb dM_look_29 ?_
        refine m_iald (n := 16 * f + k) hx hb hK hP (by omega) (sh_30 E _) (by omega) (by omega) (by decide) dM_look_30 ?_
        refine j_i2l hx hb (by rw [h30]; exact hb16 k (by omega)) dM_look_31 ?_
        refine m_last (n := k) hx hb hK hJ hP hS (by omega) (fun r => sh_31 E r) rfl (by omega) (by decide) dM_look_32 (fun H locs hP hS => ?_)
        refine lv_iinc (k := 0) (v := ji (((k:Int)) + 1)) hx hb dM_look_33 hl rfl (Int32.ofInt_add _ _).symm (by decide) rfl (fun ls hl => ?_)
        have hl : lv_has ls 14 [(3, .int (ji (((k:Int)) + 1))), (2, .int (ji ((n:Int)))), (0, .ref (E.2.1 28)), (1, .int (ji ((f:Int))))] := hl
        refine lv_goto hx hb dM_look_36 rfl ?_
        refine ih (k + 1) _ H locs ls (by omega) (fun i hi => ?_) (hF.mu _ _) hP hS hl
        by_cases hik : i = k
        · rw [hik, mu_s, h30]
        · rw [mu_j hik]; exact hT i (by omega)
  refine lv_aload_n hx hb dM_look_0 rfl (lv_at hl 0 rfl) ?_
  refine m_get (C := "RationalFormsModel") (T := TxM) (N := 13) hx hb hg uwM hown hK hP (by omega) (sh_M E _) rfl 0 (by decide) wd459 rfl dM_look_1 ?_
  refine lv_iload_n hx hb dM_look_4 rfl (lv_at hl 1 rfl) ?_
  refine m_iald (n := f) hx hb hK hP (by omega) (sh_29 E _) rfl (by omega) (by decide) dM_look_5 ?_
  rw [hn0]
  refine lv_istore_n hx hb dM_look_6 rfl hl (by decide) rfl (fun ls hl => ?_)
  have hl : lv_has ls 14 [(2, .int (ji ((n:Int)))), (0, .ref (E.2.1 28)), (1, .int (ji ((f:Int))))] := hl
  refine j_iconst hx hb dM_look_7 ?_
  refine lv_istore_n hx hb dM_look_8 rfl hl (by decide) rfl (fun ls hl => ?_)
  have hl : lv_has ls 14 [(3, .int (ji 0)), (2, .int (ji ((n:Int)))), (0, .ref (E.2.1 28)), (1, .int (ji ((f:Int))))] := hl
  exact copy 16 0 M s_.heap [] ls (by omega) (fun i hi => by omega) (FrW.rf M) hP hS hl
