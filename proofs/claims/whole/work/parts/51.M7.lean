/-! the reference: equivalent, value -/
/-- one of four -/
def x4 (x y z t : Int) (i : Nat) : Int := if i = 0 then x else if i = 1 then y else if i = 2 then z else t
theorem x4_b {x y z t : Int} (hx : b32 x) (hy : b32 y) (hz : b32 z) (ht : b32 t) (i : Nat) : b32 (x4 x y z t i) := by
  unfold x4
  split
  · exact hx
  · split
    · exact hy
    · split
      · exact hz
      · exact ht
set_option maxRecDepth 100000 in
set_option maxHeartbeats 4000000 in
theorem kM_equivalent (l : Launch) (E : En) (hJ : wJ E) (M : Me) (nn : Nat → Nat) (hI : ∀ g, g < 2 → MI M g (nn g)) : MM l yM_equivalent wsM_equivalent (rmd 4) E M [.ref (E.2.1 28)] (fun v M9 => (∃ z : Prop, v = some (.int (ji (bi z))) ∧ M9 28 12 = 0 ∧ ∃ r p r1 p1, fpv (nn 0) (aM M 0) r p ∧ fpv (nn 1) (aM M 1) r1 p1 ∧ (z ↔ (nn 0 = nn 1 ∧ r = r1 ∧ ps p r = ps p1 r1 ∧ sf (bef p r) = sf (bef p1 r1) ∧ ∀ q, mnM p r q ↔ mnM p1 r1 q))) ∧ FrQ M M9) := by
  refine MM.ofG (by decide +kernel) (Nat.le_of_ble_eq_true rfl) ?_
  intro p_ e_ s_ m_ a_ b_ t_ c_ hx hb hml hr hk hg hown hK hP hS ls hl
  have hl : lv_has ls 8 [(0, .ref (E.2.1 28))] := hl
  refine lv_aload_n hx hb dM_equivalent_0 rfl (lv_at hl 0 rfl) ?_
  refine j_iconst hx hb dM_equivalent_1 ?_
  refine m_put (C := "RationalFormsModel") (T := TxM) (N := 13) (ty := .int) (z := 0) hx hb hg uwM txM txM_ok nmM hown hK hJ hP hS (by omega) (sh_M E _) rfl 12 (by decide) wd471 rfl rfl rfl rfl (Nat.le_of_ble_eq_true rfl) (by rw [sh_M E _]; simp [mu]) dM_equivalent_2 (fun H locs hP hS => ?_)
  obtain ⟨M1, e1⟩ : ∃ X, X = mu M 28 12 0 := ⟨_, rfl⟩
  rw [← e1] at hP
  have h29 : M1 29 = M 29 := by rw [e1]; exact mu_k (by omega)
  have h30 : M1 30 = M 30 := by rw [e1]; exact mu_k (by omega)
  have hq1 : ∀ q, q ≠ 28 → M1 q = M q := fun q hq => by rw [e1]; exact mu_k hq
  have h12 : M1 28 12 = 0 := by rw [e1]; exact mu_s _ _ _ _
  refine lv_aload_n hx hb dM_equivalent_5 rfl (lv_at hl 0 rfl) ?_
  refine j_iconst hx hb dM_equivalent_6 ?_
  refine mm_V (As := [.int (ji (((0:Nat):Int)))]) (rest := []) hx hb hml hown hg hl hK hP hS (by omega) (sh_M E _) rfl (kM_look l E hJ M1 0 (by omega) (nn 0) (by rw [h29]; exact (hI 0 (by omega)).1) (hI 0 (by omega)).2.1 (hI 0 (by omega)).2.2.1 (by rw [h30]; exact (hI 0 (by omega)).2.2.2)) wd518 wd520 wds12 wd5 wd521 ⟨rfl, rfl⟩ (n := 1) (by decide +kernel) rfl ⟨by decide, by decide⟩ rfl (Nat.le_of_ble_eq_true rfl) dM_equivalent_7 ⟨Nat.zero_le _, Nat.zero_le _⟩ (fun v M2 H locs hq hP hS => ?_)
  obtain ⟨rfl, ⟨r, p, c, hPV, hpB, hrn, hcB, hL, hdi⟩, hF, hFj⟩ := hq
  rw [h30] at hPV
  have hfp : fpv (nn 0) (aM M 0) r p := ⟨hPV, hpB, hrn⟩
  have hn4 := (hI 0 (by omega)).2.2.1
  have hc25 := cB_le (k := r) (by omega)
  have hTG := TG_of (by omega) hL hpB
  have hps := ps_bd p r
  have hds := ds_le hpB
  refine lv_aload_n hx hb dM_equivalent_10 rfl (lv_at hl 0 rfl) ?_
  refine mm_V (As := []) (rest := []) hx hb hml hown hg hl hK hP hS (by omega) (sh_M E _) rfl (kM_noteSigns l E hJ M2 r hL.1 hTG c hL.2.2.2.2.1 (by omega) (Sq p r) hL.2.2.2.2.2 (fun q hq => Sp_bd hpB (Sq_Sp hpB hq))) wd607 wd609 wds20 wd5 wd610 ⟨rfl, rfl⟩ (n := 0) (by decide +kernel) rfl ⟨by decide, by decide⟩ rfl (Nat.le_of_ble_eq_true rfl) dM_equivalent_11 ⟨Nat.zero_le _, Nat.zero_le _⟩ (fun v M3 H locs hq3 hP hS => ?_)
  obtain ⟨rfl, ⟨c9, s1, s2, s3, s4⟩, s5, s6⟩ := hq3
  have s7 : SL c9 (M3 34) (mnM p r) := s3.to (fun q => by unfold mnM hsM; rw [hs_cg hL.2.1])
  have t3 : M3 28 3 = r := by rw [s6 3 (by omega)]; exact hL.1
  have t5 : M3 28 5 = ps p r := by rw [s6 5 (by omega)]; exact hL.2.2.1
  have t7 : M3 28 7 = sf (bef p r) := by rw [s6 7 (by omega)]; exact hdi
  refine lv_aload_n hx hb dM_equivalent_14 rfl (lv_at hl 0 rfl) ?_
  refine m_get (C := "RationalFormsModel") (T := TxM) (N := 13) hx hb hg uwM hown hK hP (by omega) (sh_M E _) rfl 3 (by decide) wd462 rfl dM_equivalent_15 ?_
  refine lv_istore_n hx hb dM_equivalent_18 rfl hl (by decide) rfl (fun ls hl => ?_)
  have hl : lv_has ls 8 [(1, .int (ji (M3 28 3))), (0, .ref (E.2.1 28))] := hl
  refine lv_aload_n hx hb dM_equivalent_19 rfl (lv_at hl 1 rfl) ?_
  refine m_get (C := "RationalFormsModel") (T := TxM) (N := 13) hx hb hg uwM hown hK hP (by omega) (sh_M E _) rfl 5 (by decide) wd464 rfl dM_equivalent_20 ?_
  refine lv_istore_n hx hb dM_equivalent_23 rfl hl (by decide) rfl (fun ls hl => ?_)
  have hl : lv_has ls 8 [(2, .int (ji (M3 28 5))), (1, .int (ji (M3 28 3))), (0, .ref (E.2.1 28))] := hl
  refine lv_aload_n hx hb dM_equivalent_24 rfl (lv_at hl 2 rfl) ?_
  refine m_get (C := "RationalFormsModel") (T := TxM) (N := 13) hx hb hg uwM hown hK hP (by omega) (sh_M E _) rfl 7 (by decide) wd466 rfl dM_equivalent_25 ?_
  refine lv_lstore_n hx hb dM_equivalent_28 rfl hl (by decide) rfl (fun ls hl => ?_)
  have hl : lv_has ls 8 [(3, .long (jl (M3 28 7))), (2, .int (ji (M3 28 5))), (1, .int (ji (M3 28 3))), (0, .ref (E.2.1 28))] := hl
  refine lv_aload_n hx hb dM_equivalent_29 rfl (lv_at hl 3 rfl) ?_
  refine m_get (C := "RationalFormsModel") (T := TxM) (N := 13) hx hb hg uwM hown hK hP (by omega) (sh_M E _) rfl 10 (by decide) wd469 rfl dM_equivalent_30 ?_
  refine lv_istore hx hb dM_equivalent_33 hl (by decide) rfl (fun ls hl => ?_)
  have hl : lv_has ls 8 [(5, .int (ji (M3 28 10))), (3, .long (jl (M3 28 7))), (2, .int (ji (M3 28 5))), (1, .int (ji (M3 28 3))), (0, .ref (E.2.1 28))] := hl
  refine j_iconst hx hb dM_equivalent_35 ?_
  refine lv_istore hx hb dM_equivalent_36 hl (by decide) rfl (fun ls hl => ?_)
  have hl : lv_has ls 8 [(6, .int (ji 0)), (5, .int (ji (M3 28 10))), (3, .long (jl (M3 28 7))), (2, .int (ji (M3 28 5))), (1, .int (ji (M3 28 3))), (0, .ref (E.2.1 28))] := hl
  rw [t3, t5, t7, s2] at hl
  -- the second half, with the first signs from 30 on
  have rest : ∀ (M4 : Me) (H : Heap) (locs : List Loc) (ls : Array Slot), M4 29 = M 29 → M4 30 = M 30 → FrQ M M4 → M4 28 12 = 0 → (∀ i, i < c9 → M4 34 (30 + i) = M3 34 i) → wP E M4 H → va_S (wA E) s_.heap H locs → lv_has ls 8 [(1, .int (ji ((r:Int)))), (2, .int (ji (ps p r))), (3, .long (jl (sf (bef p r)))), (5, .int (ji ((c9:Int)))), (0, .ref (E.2.1 28))] → W p_ l e_ (rmd 4) s_ m_ a_ b_ t_ c_ H locs 0 0 (XQ b_ (mmQ E (fun v M9 => (∃ z : Prop, v = some (.int (ji (bi z))) ∧ M9 28 12 = 0 ∧ ∃ r p r1 p1, fpv (nn 0) (aM M 0) r p ∧ fpv (nn 1) (aM M 1) r1 p1 ∧ (z ↔ (nn 0 = nn 1 ∧ r = r1 ∧ ps p r = ps p1 r1 ∧ sf (bef p r) = sf (bef p1 r1) ∧ ∀ q, mnM p r q ↔ mnM p1 r1 q))) ∧ FrQ M M9)) a_ s_ 0 0 (wA E)) (F0 m_ 70 ls []) := by
    intro M4 H locs ls h29x h30x hFQ4 h12x hcp hP hS hl
    refine lv_aload_n hx hb dM_equivalent_70 rfl (lv_at hl 4 rfl) ?_
    refine j_iconst hx hb dM_equivalent_71 ?_
    refine mm_V (As := [.int (ji (((1:Nat):Int)))]) (rest := []) hx hb hml hown hg hl hK hP hS (by omega) (sh_M E _) rfl (kM_look l E hJ M4 1 (by omega) (nn 1) (by rw [h29x]; exact (hI 1 (by omega)).1) (hI 1 (by omega)).2.1 (hI 1 (by omega)).2.2.1 (by rw [h30x]; exact (hI 1 (by omega)).2.2.2)) wd518 wd520 wds12 wd5 wd521 ⟨rfl, rfl⟩ (n := 1) (by decide +kernel) rfl ⟨by decide, by decide⟩ rfl (Nat.le_of_ble_eq_true rfl) dM_equivalent_72 ⟨Nat.zero_le _, Nat.zero_le _⟩ (fun v M5 H locs hq hP hS => ?_)
    obtain ⟨rfl, ⟨rx, px, cx, hPVx, hpBx, hrnx, hcBx, hLx, hdix⟩, hFx, hFjx⟩ := hq
    rw [h30x] at hPVx
    have hfpx : fpv (nn 1) (aM M 1) rx px := ⟨hPVx, hpBx, hrnx⟩
    have hn4x := (hI 1 (by omega)).2.2.1
    have hc25x := cB_le (k := rx) (by omega)
    have hTGx := TG_of (by omega) hLx hpBx
    have hpsx := ps_bd px rx
    have hdsx := ds_le hpBx
    refine lv_aload_n hx hb dM_equivalent_75 rfl (lv_at hl 4 rfl) ?_
    refine mm_V (As := []) (rest := []) hx hb hml hown hg hl hK hP hS (by omega) (sh_M E _) rfl (kM_noteSigns l E hJ M5 rx hLx.1 hTGx cx hLx.2.2.2.2.1 (by omega) (Sq px rx) hLx.2.2.2.2.2 (fun q hq => Sp_bd hpBx (Sq_Sp hpBx hq))) wd607 wd609 wds20 wd5 wd610 ⟨rfl, rfl⟩ (n := 0) (by decide +kernel) rfl ⟨by decide, by decide⟩ rfl (Nat.le_of_ble_eq_true rfl) dM_equivalent_76 ⟨Nat.zero_le _, Nat.zero_le _⟩ (fun v M6 H locs hq6 hP hS => ?_)
    obtain ⟨rfl, ⟨c6, v1, v2, v3, v4⟩, v5, v6⟩ := hq6
    have v7 : SL c6 (M6 34) (mnM px rx) := v3.to (fun q => by unfold mnM hsM; rw [hs_cg hLx.2.1])
    have u3 : M6 28 3 = rx := by rw [v6 3 (by omega)]; exact hLx.1
    have u5 : M6 28 5 = ps px rx := by rw [v6 5 (by omega)]; exact hLx.2.2.1
    have u7 : M6 28 7 = sf (bef px rx) := by rw [v6 7 (by omega)]; exact hdix
    have u10 : M6 28 10 = c6 := v2
    have hFQ6 : FrQ M M6 := fun q hq => by rw [v5 q (by omega) (by omega), hFx q (by omega) (by omega) (by omega) (by omega)]; exact hFQ4 q hq
    have u12 : M6 28 12 = 0 := by rw [v6 12 (by omega), hFjx 12 (by omega) (by omega) (by omega) (by omega) (by omega)]; exact h12x
    have d0 : M6 29 0 = nn 0 := by rw [hFQ6 29 (by omega)]; exact (hI 0 (by omega)).1
    have d1 : M6 29 1 = nn 1 := by rw [hFQ6 29 (by omega)]; exact (hI 1 (by omega)).1
    have hcp6 : ∀ i, i < c9 → M6 34 (30 + i) = M3 34 i := fun i hi => by rw [v4 (30 + i) (by omega), hFx 34 (by omega) (by omega) (by omega) (by omega)]; exact hcp i hi
    have huq := SL_uq v7 s7
    have fin : ∀ z : Prop, (z ↔ (nn 0 = nn 1 ∧ rx = r ∧ ps px rx = ps p r ∧ sf (bef px rx) = sf (bef p r) ∧ c6 = c9 ∧ ∀ i, i < c6 → M6 34 i = M6 34 (30 + i))) → (∃ z9 : Prop, some (Value.int (ji (bi z))) = some (Value.int (ji (bi z9))) ∧ M6 28 12 = 0 ∧ ∃ r p r1 p1, fpv (nn 0) (aM M 0) r p ∧ fpv (nn 1) (aM M 1) r1 p1 ∧ (z9 ↔ (nn 0 = nn 1 ∧ r = r1 ∧ ps p r = ps p1 r1 ∧ sf (bef p r) = sf (bef p1 r1) ∧ ∀ q, mnM p r q ↔ mnM p1 r1 q))) ∧ FrQ M M6 := fun z hz => by
      refine ⟨⟨z, rfl, u12, r, p, rx, px, hfp, hfpx, hz.trans ⟨?_, ?_⟩⟩, hFQ6⟩
      · rintro ⟨a1, a2, a3, a4, a5, a6⟩
        refine ⟨a1, a2.symm, a3.symm, a4.symm, fun q => (huq.mp ⟨a5.symm, fun i hi => ?_⟩ q).symm⟩
        rw [a6 i hi]
        exact (hcp6 i (by omega)).symm
      · rintro ⟨a1, a2, a3, a4, a5⟩
        obtain ⟨b1, b2⟩ := huq.mpr (fun q => (a5 q).symm)
        exact ⟨a1, a2.symm, a3.symm, a4.symm, b1.symm, fun i hi => (b2 i hi).symm.trans (hcp6 i (by omega)).symm⟩
    have b34 : ∀ i, (i < c6 ∨ (c6 = c9 ∧ 30 ≤ i ∧ i < 30 + c6)) → b32 (M6 34 i) := fun i hi => by
      rcases hi with hi | ⟨h1, h2, h3⟩
      · obtain ⟨q, q1, q2⟩ := v7.2.1 i hi
        have := Sp_bd hpBx (Sq_Sp hpBx q2.1)
        omega
      · rw [show i = 30 + (i - 30) by omega, hcp6 (i - 30) (by omega)]
        obtain ⟨q, q1, q2⟩ := s7.2.1 (i - 30) (by omega)
        have := Sp_bd hpB (Sq_Sp hpB q2.1)
        omega
    -- comparing the signs
    have loop : ∀ (N i : Nat) (y : Prop) (ls : Array Slot), i + N = c6 → (y → nn 0 = nn 1 ∧ rx = r ∧ ps px rx = ps p r ∧ sf (bef px rx) = sf (bef p r) ∧ c6 = c9 ∧ ∀ j, j < i → M6 34 j = M6 34 (30 + j)) → (¬ y → ¬ (nn 0 = nn 1 ∧ rx = r ∧ ps px rx = ps p r ∧ sf (bef px rx) = sf (bef p r) ∧ c6 = c9 ∧ ∀ j, j < c6 → M6 34 j = M6 34 (30 + j))) → lv_has ls 8 [(7, .int (ji ((i:Int)))), (6, .int (ji (bi y))), (1, .int (ji ((r:Int)))), (2, .int (ji (ps p r))), (3, .long (jl (sf (bef p r)))), (5, .int (ji ((c9:Int)))), (0, .ref (E.2.1 28))] → W p_ l e_ (rmd 4) s_ m_ a_ b_ t_ c_ H locs 0 0 (XQ b_ (mmQ E (fun v M9 => (∃ z : Prop, v = some (.int (ji (bi z))) ∧ M9 28 12 = 0 ∧ ∃ r p r1 p1, fpv (nn 0) (aM M 0) r p ∧ fpv (nn 1) (aM M 1) r1 p1 ∧ (z ↔ (nn 0 = nn 1 ∧ r = r1 ∧ ps p r = ps p1 r1 ∧ sf (bef p r) = sf (bef p1 r1) ∧ ∀ q, mnM p r q ↔ mnM p1 r1 q))) ∧ FrQ M M9)) a_ s_ 0 0 (wA E)) (F0 m_ 138 ls []) := by
      intro N
      induction N with
      | zero =>
        intro i y ls h0 hy hn hl
        refine lv_iload hx hb dM_equivalent_138 (lv_at hl 0 rfl) ?_
        refine lv_aload_n hx hb dM_equivalent_140 rfl (lv_at hl 6 rfl) ?_
        refine m_get (C := "RationalFormsModel") (T := TxM) (N := 13) hx hb hg uwM hown hK hP (by omega) (sh_M E _) rfl 10 (by decide) wd469 rfl dM_equivalent_141 ?_
        refine j_icmp_ge hx hb (by omega) (by rw [u10]; omega) dM_equivalent_144 rfl (fun h1 => ?_) (fun h1 => ?_)
        · refine lv_iload hx hb dM_equivalent_185 (lv_at hl 1 rfl) ?_
          exact mm_zret hx hb hr hk hP hS dM_equivalent_187 (nar_bi _) (fin y ⟨fun q => by obtain ⟨a1, a2, a3, a4, a5, a6⟩ := hy q; exact ⟨a1, a2, a3, a4, a5, fun j hj => a6 j (by omega)⟩, fun q => Classical.byContradiction (fun z => hn z q)⟩)
        · rw [u10] at h1
          omega
      | succ N ih =>
        intro i y ls h0 hy hn hl
        refine lv_iload hx hb dM_equivalent_138 (lv_at hl 0 rfl) ?_
        refine lv_aload_n hx hb dM_equivalent_140 rfl (lv_at hl 6 rfl) ?_
        refine m_get (C := "RationalFormsModel") (T := TxM) (N := 13) hx hb hg uwM hown hK hP (by omega) (sh_M E _) rfl 10 (by decide) wd469 rfl dM_equivalent_141 ?_
        refine j_icmp_ge hx hb (by omega) (by rw [u10]; omega) dM_equivalent_144 rfl (fun h1 => ?_) (fun h1 => ?_)
        · rw [u10] at h1
          omega
        · refine lv_iload hx hb dM_equivalent_147 (lv_at hl 1 rfl) ?_
          refine j_if_eq hx hb (bi_b32 _) dM_equivalent_149 rfl (fun h2 => ?_) (fun h2 => ?_)
          · have hny := bi_eq h2
            refine lv_iload hx hb dM_equivalent_185 (lv_at hl 1 rfl) ?_
            exact mm_zret hx hb hr hk hP hS dM_equivalent_187 (nar_bi _) (fin y ⟨fun q => absurd q hny, fun q => absurd q (hn hny)⟩)
          · have hyy := hy (bi_ne h2)
            refine lv_aload_n hx hb dM_equivalent_152 rfl (lv_at hl 6 rfl) ?_
            refine m_get (C := "RationalFormsModel") (T := TxM) (N := 13) hx hb hg uwM hown hK hP (by omega) (sh_M E _) rfl 11 (by decide) wd470 rfl dM_equivalent_153 ?_
            refine lv_iload hx hb dM_equivalent_156 (lv_at hl 0 rfl) ?_
            refine m_iald (n := i) hx hb hK hP (by omega) (sh_34 E _) (by omega) (by omega) (by decide) dM_equivalent_158 ?_
            refine lv_aload_n hx hb dM_equivalent_159 rfl (lv_at hl 6 rfl) ?_
            refine m_get (C := "RationalFormsModel") (T := TxM) (N := 13) hx hb hg uwM hown hK hP (by omega) (sh_M E _) rfl 11 (by decide) wd470 rfl dM_equivalent_160 ?_
            refine j_bipush hx hb dM_equivalent_163 rfl ?_
            refine lv_iload hx hb dM_equivalent_165 (lv_at hl 0 rfl) ?_
            refine j_iadd hx hb dM_equivalent_167 ?_
            refine m_iald (n := 30 + i) hx hb hK hP (by omega) (sh_34 E _) (by omega) (by omega) (by decide) dM_equivalent_168 ?_
            refine j_icmp_ne hx hb (b34 i (by omega)) (b34 (30 + i) (by omega)) dM_equivalent_169 rfl (fun h3 => ?_) (fun h3 => ?_)
            · refine j_iconst hx hb dM_equivalent_176 ?_
              refine lv_istore hx hb dM_equivalent_177 hl (by decide) rfl (fun ls hl => ?_)
              have hl : lv_has ls 8 [(6, .int (ji 0)), (7, .int (ji ((i:Int)))), (1, .int (ji ((r:Int)))), (2, .int (ji (ps p r))), (3, .long (jl (sf (bef p r)))), (5, .int (ji ((c9:Int)))), (0, .ref (E.2.1 28))] := hl
              refine lv_iinc (k := 1) (v := ji (((i:Int)) + 1)) hx hb dM_equivalent_179 hl rfl (Int32.ofInt_add _ _).symm (by decide) rfl (fun ls hl => ?_)
              have hl : lv_has ls 8 [(7, .int (ji (((i:Int)) + 1))), (6, .int (ji 0)), (1, .int (ji ((r:Int)))), (2, .int (ji (ps p r))), (3, .long (jl (sf (bef p r)))), (5, .int (ji ((c9:Int)))), (0, .ref (E.2.1 28))] := hl
              refine lv_goto hx hb dM_equivalent_182 rfl ?_
              rw [← bi_f (q := False) id] at hl
              refine ih (i + 1) False ls (by omega) False.elim (fun _ q => h3 (q.2.2.2.2.2 i (by omega))) (lv_sub hl [0, 1, 2, 3, 4, 5, 6] rfl)
            · refine j_iconst hx hb dM_equivalent_172 ?_
              refine lv_goto hx hb dM_equivalent_173 rfl ?_
              refine lv_istore hx hb dM_equivalent_177 hl (by decide) rfl (fun ls hl => ?_)
              have hl : lv_has ls 8 [(6, .int (ji 1)), (7, .int (ji ((i:Int)))), (1, .int (ji ((r:Int)))), (2, .int (ji (ps p r))), (3, .long (jl (sf (bef p r)))), (5, .int (ji ((c9:Int)))), (0, .ref (E.2.1 28))] := hl
              refine lv_iinc (k := 1) (v := ji (((i:Int)) + 1)) hx hb dM_equivalent_179 hl rfl (Int32.ofInt_add _ _).symm (by decide) rfl (fun ls hl => ?_)
              have hl : lv_has ls 8 [(7, .int (ji (((i:Int)) + 1))), (6, .int (ji 1)), (1, .int (ji ((r:Int)))), (2, .int (ji (ps p r))), (3, .long (jl (sf (bef p r)))), (5, .int (ji ((c9:Int)))), (0, .ref (E.2.1 28))] := hl
              refine lv_goto hx hb dM_equivalent_182 rfl ?_
              refine ih (i + 1) True ls (by omega) (fun _ => ⟨hyy.1, hyy.2.1, hyy.2.2.1, hyy.2.2.2.1, hyy.2.2.2.2.1, fun j hj => ?_⟩) (fun q => absurd trivial q) ?_
              · by_cases hji : j = i
                · rw [hji]; exact h3
                · exact hyy.2.2.2.2.2 j (by omega)
              · rw [bi_t (q := True) trivial]
                exact lv_sub hl [0, 1, 2, 3, 4, 5, 6] rfl
    have k132 : ∀ (ls : Array Slot), ¬ (nn 0 = nn 1 ∧ rx = r ∧ ps px rx = ps p r ∧ sf (bef px rx) = sf (bef p r) ∧ c6 = c9) → lv_has ls 8 [(1, .int (ji ((r:Int)))), (2, .int (ji (ps p r))), (3, .long (jl (sf (bef p r)))), (5, .int (ji ((c9:Int)))), (0, .ref (E.2.1 28))] → W p_ l e_ (rmd 4) s_ m_ a_ b_ t_ c_ H locs 0 0 (XQ b_ (mmQ E (fun v M9 => (∃ z : Prop, v = some (.int (ji (bi z))) ∧ M9 28 12 = 0 ∧ ∃ r p r1 p1, fpv (nn 0) (aM M 0) r p ∧ fpv (nn 1) (aM M 1) r1 p1 ∧ (z ↔ (nn 0 = nn 1 ∧ r = r1 ∧ ps p r = ps p1 r1 ∧ sf (bef p r) = sf (bef p1 r1) ∧ ∀ q, mnM p r q ↔ mnM p1 r1 q))) ∧ FrQ M M9)) a_ s_ 0 0 (wA E)) (F0 m_ 132 ls []) := by
      intro ls hno hl
      refine j_iconst hx hb dM_equivalent_132 ?_
      refine lv_istore hx hb dM_equivalent_133 hl (by decide) rfl (fun ls hl => ?_)
      have hl : lv_has ls 8 [(6, .int (ji 0)), (1, .int (ji ((r:Int)))), (2, .int (ji (ps p r))), (3, .long (jl (sf (bef p r)))), (5, .int (ji ((c9:Int)))), (0, .ref (E.2.1 28))] := hl
      refine j_iconst hx hb dM_equivalent_135 ?_
      refine lv_istore hx hb dM_equivalent_136 hl (by decide) rfl (fun ls hl => ?_)
      have hl : lv_has ls 8 [(7, .int (ji 0)), (6, .int (ji 0)), (1, .int (ji ((r:Int)))), (2, .int (ji (ps p r))), (3, .long (jl (sf (bef p r)))), (5, .int (ji ((c9:Int)))), (0, .ref (E.2.1 28))] := hl
      refine loop c6 0 False ls (by omega) False.elim (fun _ q => hno ⟨q.1, q.2.1, q.2.2.1, q.2.2.2.1, q.2.2.2.2.1⟩) ?_
      rw [bi_f (q := False) id]
      exact hl
    refine lv_aload_n hx hb dM_equivalent_79 rfl (lv_at hl 4 rfl) ?_
    refine m_get (C := "RationalFormsModel") (T := TxM) (N := 13) hx hb hg uwM hown hK hP (by omega) (sh_M E _) rfl 0 (by decide) wd459 rfl dM_equivalent_80 ?_
    refine j_iconst hx hb dM_equivalent_83 ?_
    refine m_iald (n := 0) hx hb hK hP (by omega) (sh_29 E _) rfl (by omega) (by decide) dM_equivalent_84 ?_
    refine lv_aload_n hx hb dM_equivalent_85 rfl (lv_at hl 4 rfl) ?_
    refine m_get (C := "RationalFormsModel") (T := TxM) (N := 13) hx hb hg uwM hown hK hP (by omega) (sh_M E _) rfl 0 (by decide) wd459 rfl dM_equivalent_86 ?_
    refine j_iconst hx hb dM_equivalent_89 ?_
    refine m_iald (n := 1) hx hb hK hP (by omega) (sh_29 E _) rfl (by omega) (by decide) dM_equivalent_90 ?_
    refine j_icmp_ne hx hb (by rw [d0]; omega) (by rw [d1]; omega) dM_equivalent_91 rfl (fun k1 => ?_) (fun k1 => ?_)
    · rw [d0, d1] at k1
      exact k132 ls (by omega) hl
    · rw [d0, d1] at k1
      refine lv_aload_n hx hb dM_equivalent_94 rfl (lv_at hl 4 rfl) ?_
      refine m_get (C := "RationalFormsModel") (T := TxM) (N := 13) hx hb hg uwM hown hK hP (by omega) (sh_M E _) rfl 3 (by decide) wd462 rfl dM_equivalent_95 ?_
      refine lv_iload_n hx hb dM_equivalent_98 rfl (lv_at hl 0 rfl) ?_
      refine j_icmp_ne hx hb (by rw [u3]; omega) (by omega) dM_equivalent_99 rfl (fun k2 => ?_) (fun k2 => ?_)
      · rw [u3] at k2
        exact k132 ls (by omega) hl
      · rw [u3] at k2
        refine lv_aload_n hx hb dM_equivalent_102 rfl (lv_at hl 4 rfl) ?_
        refine m_get (C := "RationalFormsModel") (T := TxM) (N := 13) hx hb hg uwM hown hK hP (by omega) (sh_M E _) rfl 5 (by decide) wd464 rfl dM_equivalent_103 ?_
        refine lv_iload_n hx hb dM_equivalent_106 rfl (lv_at hl 1 rfl) ?_
        refine j_icmp_ne hx hb (by rw [u5]; omega) (by omega) dM_equivalent_107 rfl (fun k3 => ?_) (fun k3 => ?_)
        · rw [u5] at k3
          exact k132 ls (by omega) hl
        · rw [u5] at k3
          refine lv_aload_n hx hb dM_equivalent_110 rfl (lv_at hl 4 rfl) ?_
          refine m_get (C := "RationalFormsModel") (T := TxM) (N := 13) hx hb hg uwM hown hK hP (by omega) (sh_M E _) rfl 7 (by decide) wd466 rfl dM_equivalent_111 ?_
          refine lv_lload_n hx hb dM_equivalent_114 rfl (lv_at hl 2 rfl) ?_
          refine j_lc_ne hx hb (by rw [u7]; omega) (by omega) dM_equivalent_115 dM_equivalent_116 rfl (fun k4 => ?_) (fun k4 => ?_)
          · rw [u7] at k4
            exact k132 ls (by omega) hl
          · rw [u7] at k4
            refine lv_aload_n hx hb dM_equivalent_119 rfl (lv_at hl 4 rfl) ?_
            refine m_get (C := "RationalFormsModel") (T := TxM) (N := 13) hx hb hg uwM hown hK hP (by omega) (sh_M E _) rfl 10 (by decide) wd469 rfl dM_equivalent_120 ?_
            refine lv_iload hx hb dM_equivalent_123 (lv_at hl 3 rfl) ?_
            refine j_icmp_ne hx hb (by rw [u10]; omega) (by omega) dM_equivalent_125 rfl (fun k5 => ?_) (fun k5 => ?_)
            · rw [u10] at k5
              exact k132 ls (by omega) hl
            · rw [u10] at k5
              refine j_iconst hx hb dM_equivalent_128 ?_
              refine lv_goto hx hb dM_equivalent_129 rfl ?_
              refine lv_istore hx hb dM_equivalent_133 hl (by decide) rfl (fun ls hl => ?_)
              have hl : lv_has ls 8 [(6, .int (ji 1)), (1, .int (ji ((r:Int)))), (2, .int (ji (ps p r))), (3, .long (jl (sf (bef p r)))), (5, .int (ji ((c9:Int)))), (0, .ref (E.2.1 28))] := hl
              refine j_iconst hx hb dM_equivalent_135 ?_
              refine lv_istore hx hb dM_equivalent_136 hl (by decide) rfl (fun ls hl => ?_)
              have hl : lv_has ls 8 [(7, .int (ji 0)), (6, .int (ji 1)), (1, .int (ji ((r:Int)))), (2, .int (ji (ps p r))), (3, .long (jl (sf (bef p r)))), (5, .int (ji ((c9:Int)))), (0, .ref (E.2.1 28))] := hl
              refine loop c6 0 True ls (by omega) (fun _ => ⟨by omega, by omega, k3, k4, by omega, fun j hj => by omega⟩) (fun q => absurd trivial q) ?_
              rw [bi_t (q := True) trivial]
              exact hl
  have loop : ∀ (N i : Nat) (M4 : Me) (H : Heap) (locs : List Loc) (ls : Array Slot), i + N = c9 → (∀ q, q ≠ 34 → M4 q = M3 q) → (∀ j, j < c9 → M4 34 j = M3 34 j) → (∀ j, j < i → M4 34 (30 + j) = M3 34 j) → wP E M4 H → va_S (wA E) s_.heap H locs → lv_has ls 8 [(6, .int (ji ((i:Int)))), (1, .int (ji ((r:Int)))), (2, .int (ji (ps p r))), (3, .long (jl (sf (bef p r)))), (5, .int (ji ((c9:Int)))), (0, .ref (E.2.1 28))] → W p_ l e_ (rmd 4) s_ m_ a_ b_ t_ c_ H locs 0 0 (XQ b_ (mmQ E (fun v M9 => (∃ z : Prop, v = some (.int (ji (bi z))) ∧ M9 28 12 = 0 ∧ ∃ r p r1 p1, fpv (nn 0) (aM M 0) r p ∧ fpv (nn 1) (aM M 1) r1 p1 ∧ (z ↔ (nn 0 = nn 1 ∧ r = r1 ∧ ps p r = ps p1 r1 ∧ sf (bef p r) = sf (bef p1 r1) ∧ ∀ q, mnM p r q ↔ mnM p1 r1 q))) ∧ FrQ M M9)) a_ s_ 0 0 (wA E)) (F0 m_ 38 ls []) := by
    intro N
    induction N with
    | zero =>
      intro i M4 H locs ls h0 a1 a2 a3 hP hS hl
      have hs10 : M4 28 10 = c9 := by rw [a1 28 (by omega)]; exact s2
      have hFQ4 : FrQ M M4 := fun q hq => by rw [a1 q (by omega), s5 q (by omega) (by omega), hF q (by omega) (by omega) (by omega) (by omega)]; exact hq1 q (by omega)
      refine lv_iload hx hb dM_equivalent_38 (lv_at hl 0 rfl) ?_
      refine lv_aload_n hx hb dM_equivalent_40 rfl (lv_at hl 5 rfl) ?_
      refine m_get (C := "RationalFormsModel") (T := TxM) (N := 13) hx hb hg uwM hown hK hP (by omega) (sh_M E _) rfl 10 (by decide) wd469 rfl dM_equivalent_41 ?_
      refine j_icmp_ge hx hb (by omega) (by rw [hs10]; omega) dM_equivalent_44 rfl (fun h1 => ?_) (fun h1 => ?_)
      · exact rest M4 H locs ls (hFQ4 29 (by omega)) (hFQ4 30 (by omega)) hFQ4 (by rw [a1 28 (by omega), s6 12 (by omega), hFj 12 (by omega) (by omega) (by omega) (by omega) (by omega)]; exact h12) (fun j hj => a3 j (by omega)) hP hS (lv_sub hl [1, 2, 3, 4, 5] rfl)
      · rw [hs10] at h1
        omega
    | succ N ih =>
      intro i M4 H locs ls h0 a1 a2 a3 hP hS hl
      have hs10 : M4 28 10 = c9 := by rw [a1 28 (by omega)]; exact s2
      refine lv_iload hx hb dM_equivalent_38 (lv_at hl 0 rfl) ?_
      refine lv_aload_n hx hb dM_equivalent_40 rfl (lv_at hl 5 rfl) ?_
      refine m_get (C := "RationalFormsModel") (T := TxM) (N := 13) hx hb hg uwM hown hK hP (by omega) (sh_M E _) rfl 10 (by decide) wd469 rfl dM_equivalent_41 ?_
      refine j_icmp_ge hx hb (by omega) (by rw [hs10]; omega) dM_equivalent_44 rfl (fun h1 => ?_) (fun h1 => ?_)
      · rw [hs10] at h1
        omega
      · refine lv_aload_n hx hb dM_equivalent_47 rfl (lv_at hl 5 rfl) ?_
        refine m_get (C := "RationalFormsModel") (T := TxM) (N := 13) hx hb hg uwM hown hK hP (by omega) (sh_M E _) rfl 11 (by decide) wd470 rfl dM_equivalent_48 ?_
        refine j_bipush hx hb dM_equivalent_51 rfl ?_
        refine lv_iload hx hb dM_equivalent_53 (lv_at hl 0 rfl) ?_
        refine j_iadd hx hb dM_equivalent_55 ?_
        refine lv_aload_n hx hb dM_equivalent_56 rfl (lv_at hl 5 rfl) ?_
        refine m_get (C := "RationalFormsModel") (T := TxM) (N := 13) hx hb hg uwM hown hK hP (by omega) (sh_M E _) rfl 11 (by decide) wd470 rfl dM_equivalent_57 ?_
        refine lv_iload hx hb dM_equivalent_60 (lv_at hl 0 rfl) ?_
        refine m_iald (n := i) hx hb hK hP (by omega) (sh_34 E _) (by omega) (by omega) (by decide) dM_equivalent_62 ?_
        refine m_iast (n := 30 + i) hx hb hK hJ hP hS (by omega) (fun r => sh_34 E r) (by omega) (by omega) (by decide) dM_equivalent_63 (fun H locs hP hS => ?_)
        refine lv_iinc (k := 0) (v := ji (((i:Int)) + 1)) hx hb dM_equivalent_64 hl rfl (Int32.ofInt_add _ _).symm (by decide) rfl (fun ls hl => ?_)
        have hl : lv_has ls 8 [(6, .int (ji (((i:Int)) + 1))), (1, .int (ji ((r:Int)))), (2, .int (ji (ps p r))), (3, .long (jl (sf (bef p r)))), (5, .int (ji ((c9:Int)))), (0, .ref (E.2.1 28))] := hl
        refine lv_goto hx hb dM_equivalent_67 rfl ?_
        refine ih (i + 1) _ H locs ls (by omega) (fun q hq => by rw [mu_k hq]; exact a1 q hq) (fun j hj => by rw [mu_j (by omega)]; exact a2 j hj) (fun j hj => ?_) hP hS hl
        by_cases hji : j = i
        · rw [hji, mu_s]; exact a2 i (by omega)
        · rw [mu_j (by omega)]; exact a3 j (by omega)
  exact loop c9 0 M3 H locs ls (by omega) (fun _ _ => rfl) (fun _ _ => rfl) (fun j hj => by omega) hP hS (lv_sub hl [0, 4, 3, 2, 1, 5] rfl)

set_option maxRecDepth 100000 in
set_option maxHeartbeats 4000000 in
theorem kM_value (l : Launch) (E : En) (hJ : wJ E) (M : Me) (f x y z t : Int) (hf : b32 f) (hx9 : b32 x) (hy9 : b32 y) (hz9 : b32 z) (ht9 : b32 t) (nn : Nat → Nat) (hI : ∀ g, g < 2 → MI M g (nn g)) : MM l yM_value wsM_value (rmd 1) E M [.ref (E.2.1 28), .int (ji f), .int (ji x), .int (ji y), .int (ji z), .int (ji t)] (fun v M9 => (∃ w : Int, v = some (.long (jl w)) ∧ ((¬ fo f ∨ ∃ i : Nat, i < nn f.toNat ∧ ¬ (-1000 ≤ x4 x y z t i ∧ x4 x y z t i ≤ 1000)) → M9 28 12 = 1) ∧ (¬ (¬ fo f ∨ ∃ i : Nat, i < nn f.toNat ∧ ¬ (-1000 ≤ x4 x y z t i ∧ x4 x y z t i ≤ 1000)) → M9 28 12 = 0 ∧ ∀ g : Nat, f = g → w = vf 4 (aM M g) (x4 x y z t) 4)) ∧ FrQ M M9) := by
  refine MM.ofG (by decide +kernel) (Nat.le_of_ble_eq_true rfl) ?_
  intro p_ e_ s_ m_ a_ b_ t_ c_ hx hb hml hr hk hg hown hK hP hS ls hl
  have hl : lv_has ls 13 [(0, .ref (E.2.1 28)), (1, .int (ji f)), (2, .int (ji x)), (3, .int (ji y)), (4, .int (ji z)), (5, .int (ji t))] := hl
  have fin : ∀ (f9 : Int) (y9 : Prop) (s9 : Int) (ls : Array Slot), (y9 ↔ (¬ fo f ∨ ∃ i : Nat, i < nn f.toNat ∧ ¬ (-1000 ≤ x4 x y z t i ∧ x4 x y z t i ≤ 1000))) → (¬ (¬ fo f ∨ ∃ i : Nat, i < nn f.toNat ∧ ¬ (-1000 ≤ x4 x y z t i ∧ x4 x y z t i ≤ 1000)) → ∀ g : Nat, f = g → s9 = vf 4 (aM M g) (x4 x y z t) 4) → lv_has ls 13 [(6, .int (ji (bi y9))), (7, .long (jl s9)), (1, .int (ji f9)), (0, .ref (E.2.1 28)), (2, .int (ji x)), (3, .int (ji y)), (4, .int (ji z)), (5, .int (ji t))] → W p_ l e_ (rmd 1) s_ m_ a_ b_ t_ c_ s_.heap [] 0 0 (XQ b_ (mmQ E (fun v M9 => (∃ w : Int, v = some (.long (jl w)) ∧ ((¬ fo f ∨ ∃ i : Nat, i < nn f.toNat ∧ ¬ (-1000 ≤ x4 x y z t i ∧ x4 x y z t i ≤ 1000)) → M9 28 12 = 1) ∧ (¬ (¬ fo f ∨ ∃ i : Nat, i < nn f.toNat ∧ ¬ (-1000 ≤ x4 x y z t i ∧ x4 x y z t i ≤ 1000)) → M9 28 12 = 0 ∧ ∀ g : Nat, f = g → w = vf 4 (aM M g) (x4 x y z t) 4)) ∧ FrQ M M9)) a_ s_ 0 0 (wA E)) (F0 m_ 185 ls []) := by
    intro f9 y9 s9 ls hy hs hl
    refine lv_aload_n hx hb dM_value_185 rfl (lv_at hl 3 rfl) ?_
    refine lv_iload hx hb dM_value_186 (lv_at hl 0 rfl) ?_
    refine j_if_eq hx hb (bi_b32 _) dM_value_188 rfl (fun h1 => ?_) (fun h1 => ?_)
    · have hny : ¬ (¬ fo f ∨ ∃ i : Nat, i < nn f.toNat ∧ ¬ (-1000 ≤ x4 x y z t i ∧ x4 x y z t i ≤ 1000)) := fun q => bi_eq h1 (hy.mpr q)
      refine j_iconst hx hb dM_value_195 ?_
      refine m_put (C := "RationalFormsModel") (T := TxM) (N := 13) (ty := .int) (z := 0) hx hb hg uwM txM txM_ok nmM hown hK hJ hP hS (by omega) (sh_M E _) rfl 12 (by decide) wd471 rfl rfl rfl rfl (Nat.le_of_ble_eq_true rfl) (by rw [sh_M E _]; simp [mu]) dM_value_196 (fun H locs hP hS => ?_)
      refine lv_aload_n hx hb dM_value_199 rfl (lv_at hl 3 rfl) ?_
      refine m_get (C := "RationalFormsModel") (T := TxM) (N := 13) hx hb hg uwM hown hK hP (by omega) (sh_M E _) rfl 12 (by decide) wd471 rfl dM_value_200 ?_
      refine j_if_ne hx hb (by rw [mu_s]; omega) dM_value_203 rfl (fun h2 => ?_) (fun h2 => ?_)
      · exact absurd (mu_s _ _ _ _) h2
      · refine lv_lload hx hb dM_value_206 (lv_at hl 1 rfl) ?_
        refine lv_goto hx hb dM_value_208 rfl ?_
        exact mm_lret hx hb hr hk hP hS dM_value_212 ⟨⟨s9, rfl, fun q => absurd q hny, fun q => ⟨mu_s _ _ _ _, hs q⟩⟩, fun q hq => mu_k (by omega)⟩
    · have hny : (¬ fo f ∨ ∃ i : Nat, i < nn f.toNat ∧ ¬ (-1000 ≤ x4 x y z t i ∧ x4 x y z t i ≤ 1000)) := hy.mp (bi_ne h1)
      refine j_iconst hx hb dM_value_191 ?_
      refine lv_goto hx hb dM_value_192 rfl ?_
      refine m_put (C := "RationalFormsModel") (T := TxM) (N := 13) (ty := .int) (z := 1) hx hb hg uwM txM txM_ok nmM hown hK hJ hP hS (by omega) (sh_M E _) rfl 12 (by decide) wd471 rfl rfl rfl rfl (Nat.le_of_ble_eq_true rfl) (by rw [sh_M E _]; simp [mu]) dM_value_196 (fun H locs hP hS => ?_)
      refine lv_aload_n hx hb dM_value_199 rfl (lv_at hl 3 rfl) ?_
      refine m_get (C := "RationalFormsModel") (T := TxM) (N := 13) hx hb hg uwM hown hK hP (by omega) (sh_M E _) rfl 12 (by decide) wd471 rfl dM_value_200 ?_
      refine j_if_ne hx hb (by rw [mu_s]; omega) dM_value_203 rfl (fun h2 => ?_) (fun h2 => ?_)
      · refine j_lconst0 hx hb dM_value_211 ?_
        exact mm_lret hx hb hr hk hP hS dM_value_212 ⟨⟨0, rfl, fun _ => mu_s _ _ _ _, fun q => absurd hny q⟩, fun q hq => mu_k (by omega)⟩
      · rw [mu_s] at h2
        omega
  replace hl : lv_has ls 13 [(1, .int (ji f)), (0, .ref (E.2.1 28)), (2, .int (ji x)), (3, .int (ji y)), (4, .int (ji z)), (5, .int (ji t))] := lv_sub hl [1, 0, 2, 3, 4, 5] rfl
  refine lv_iload_n hx hb dM_value_0 rfl (lv_at hl 0 rfl) ?_
  refine pm_G (As := [.int (ji f)]) (rest := []) hx hb hml hown hg hl (kM_isForm l f hf) wd507 wd508 wd5 wd509 ⟨rfl, rfl⟩ (n := 1) (by decide +kernel) rfl ⟨by decide, by decide⟩ rfl (Nat.le_of_ble_eq_true rfl) dM_value_1 ⟨Nat.zero_le _, Nat.zero_le _⟩ (fun r hr9 => ?_)
  subst hr9
  refine j_if_ne hx hb (bi_b32 _) dM_value_4 rfl (fun h1 => ?_) (fun h1 => ?_)
  · have hfo : fo f := bi_ne h1
    obtain ⟨g, hg2, hfg⟩ := fo_g hfo
    have hI9 := hI g hg2
    have h29 := hI9.1
    have hn4 := hI9.2.2.1
    have hgt : f.toNat = g := by omega
    rw [hfg] at hl
    have outer : ∀ (N i : Nat) (ls : Array Slot), i + N = 4 → (∀ j, j < i → j < nn g → (-1000 ≤ x4 x y z t j ∧ x4 x y z t j ≤ 1000)) → lv_has ls 13 [(9, .int (ji ((i:Int)))), (7, .long (jl (vf 4 (aM M g) (x4 x y z t) i))), (6, .int (ji 0)), (1, .int (ji ((g:Int)))), (0, .ref (E.2.1 28)), (2, .int (ji x)), (3, .int (ji y)), (4, .int (ji z)), (5, .int (ji t))] → W p_ l e_ (rmd 1) s_ m_ a_ b_ t_ c_ s_.heap [] 0 0 (XQ b_ (mmQ E (fun v M9 => (∃ w : Int, v = some (.long (jl w)) ∧ ((¬ fo f ∨ ∃ i : Nat, i < nn f.toNat ∧ ¬ (-1000 ≤ x4 x y z t i ∧ x4 x y z t i ≤ 1000)) → M9 28 12 = 1) ∧ (¬ (¬ fo f ∨ ∃ i : Nat, i < nn f.toNat ∧ ¬ (-1000 ≤ x4 x y z t i ∧ x4 x y z t i ≤ 1000)) → M9 28 12 = 0 ∧ ∀ g : Nat, f = g → w = vf 4 (aM M g) (x4 x y z t) 4)) ∧ FrQ M M9)) a_ s_ 0 0 (wA E)) (F0 m_ 20 ls []) := by
      intro N
      induction N with
      | zero =>
        intro i ls h0 hok hl
        have hi4 : i = 4 := by omega
        have hnb : ¬ (¬ fo f ∨ ∃ i : Nat, i < nn f.toNat ∧ ¬ (-1000 ≤ x4 x y z t i ∧ x4 x y z t i ≤ 1000)) := fun q => q.elim (fun q => q hfo) (fun ⟨j, j1, j2⟩ => by rw [hgt] at j1; exact j2 (hok j (by omega) j1))
        refine lv_iload hx hb dM_value_20 (lv_at hl 0 rfl) ?_
        refine j_iconst hx hb dM_value_22 ?_
        refine j_icmp_ge hx hb (by omega) (by omega) dM_value_23 rfl (fun h2 => ?_) (fun h2 => ?_)
        · refine fin g False (vf 4 (aM M g) (x4 x y z t) i) ls ⟨False.elim, fun q => hnb q⟩ (fun _ => fo_u (P := fun g' => vf 4 (aM M g) (x4 x y z t) i = vf 4 (aM M g') (x4 x y z t) 4) hfg (by rw [hi4])) ?_
          rw [bi_f (q := False) id]
          exact lv_sub hl [2, 1, 3, 4, 5, 6, 7, 8] rfl
        · omega
      | succ N ih =>
        intro i ls h0 hok hl
        -- after one row
        have k179 : ∀ (y9 : Prop) (ls : Array Slot), (y9 ↔ (i < nn g ∧ ¬ (-1000 ≤ x4 x y z t i ∧ x4 x y z t i ≤ 1000))) → lv_has ls 13 [(7, .long (jl (vf 4 (aM M g) (x4 x y z t) i + vfR 4 (aM M g) (x4 x y z t) i 4))), (6, .int (ji (bi y9))), (9, .int (ji ((i:Int)))), (1, .int (ji ((g:Int)))), (0, .ref (E.2.1 28)), (2, .int (ji x)), (3, .int (ji y)), (4, .int (ji z)), (5, .int (ji t))] → W p_ l e_ (rmd 1) s_ m_ a_ b_ t_ c_ s_.heap [] 0 0 (XQ b_ (mmQ E (fun v M9 => (∃ w : Int, v = some (.long (jl w)) ∧ ((¬ fo f ∨ ∃ i : Nat, i < nn f.toNat ∧ ¬ (-1000 ≤ x4 x y z t i ∧ x4 x y z t i ≤ 1000)) → M9 28 12 = 1) ∧ (¬ (¬ fo f ∨ ∃ i : Nat, i < nn f.toNat ∧ ¬ (-1000 ≤ x4 x y z t i ∧ x4 x y z t i ≤ 1000)) → M9 28 12 = 0 ∧ ∀ g : Nat, f = g → w = vf 4 (aM M g) (x4 x y z t) 4)) ∧ FrQ M M9)) a_ s_ 0 0 (wA E)) (F0 m_ 179 ls []) := by
          intro y9 ls hy hl
          by_cases hyy : y9
          · rw [bi_t hyy] at hl
            refine lv_iinc (k := 2) (v := ji (((i:Int)) + 1)) hx hb dM_value_179 hl rfl (Int32.ofInt_add _ _).symm (by decide) rfl (fun ls hl => ?_)
            have hl : lv_has ls 13 [(9, .int (ji (((i:Int)) + 1))), (7, .long (jl (vf 4 (aM M g) (x4 x y z t) i + vfR 4 (aM M g) (x4 x y z t) i 4))), (6, .int (ji 1)), (1, .int (ji ((g:Int)))), (0, .ref (E.2.1 28)), (2, .int (ji x)), (3, .int (ji y)), (4, .int (ji z)), (5, .int (ji t))] := hl
            refine lv_goto hx hb dM_value_182 rfl ?_
            have hbad : (¬ fo f ∨ ∃ i : Nat, i < nn f.toNat ∧ ¬ (-1000 ≤ x4 x y z t i ∧ x4 x y z t i ≤ 1000)) := Or.inr ⟨i, by rw [hgt]; exact (hy.mp hyy).1, (hy.mp hyy).2⟩
            have k185 : ∀ (s9 : Int) (ls : Array Slot), lv_has ls 13 [(6, .int (ji 1)), (7, .long (jl s9)), (1, .int (ji ((g:Int)))), (0, .ref (E.2.1 28)), (2, .int (ji x)), (3, .int (ji y)), (4, .int (ji z)), (5, .int (ji t))] → W p_ l e_ (rmd 1) s_ m_ a_ b_ t_ c_ s_.heap [] 0 0 (XQ b_ (mmQ E (fun v M9 => (∃ w : Int, v = some (.long (jl w)) ∧ ((¬ fo f ∨ ∃ i : Nat, i < nn f.toNat ∧ ¬ (-1000 ≤ x4 x y z t i ∧ x4 x y z t i ≤ 1000)) → M9 28 12 = 1) ∧ (¬ (¬ fo f ∨ ∃ i : Nat, i < nn f.toNat ∧ ¬ (-1000 ≤ x4 x y z t i ∧ x4 x y z t i ≤ 1000)) → M9 28 12 = 0 ∧ ∀ g : Nat, f = g → w = vf 4 (aM M g) (x4 x y z t) 4)) ∧ FrQ M M9)) a_ s_ 0 0 (wA E)) (F0 m_ 185 ls []) := by
              intro s9 ls hl
              refine fin g True s9 ls ⟨fun _ => hbad, fun _ => trivial⟩ (fun q => absurd hbad q) ?_
              rw [bi_t (q := True) trivial]
              exact hl
            refine lv_iload hx hb dM_value_20 (lv_at hl 0 rfl) ?_
            refine j_iconst hx hb dM_value_22 ?_
            refine j_icmp_ge hx hb (by omega) (by omega) dM_value_23 rfl (fun h3 => ?_) (fun h3 => ?_)
            · exact k185 _ ls (lv_sub hl [2, 1, 3, 4, 5, 6, 7, 8] rfl)
            · refine lv_iload hx hb dM_value_26 (lv_at hl 2 rfl) ?_
              refine j_if_ne hx hb (by decide) dM_value_28 rfl (fun h4 => ?_) (fun h4 => ?_)
              · exact k185 _ ls (lv_sub hl [2, 1, 3, 4, 5, 6, 7, 8] rfl)
              · omega
          · rw [bi_f hyy] at hl
            refine lv_iinc (k := 2) (v := ji (((i:Int)) + 1)) hx hb dM_value_179 hl rfl (Int32.ofInt_add _ _).symm (by decide) rfl (fun ls hl => ?_)
            have hl : lv_has ls 13 [(9, .int (ji (((i:Int)) + 1))), (7, .long (jl (vf 4 (aM M g) (x4 x y z t) i + vfR 4 (aM M g) (x4 x y z t) i 4))), (6, .int (ji 0)), (1, .int (ji ((g:Int)))), (0, .ref (E.2.1 28)), (2, .int (ji x)), (3, .int (ji y)), (4, .int (ji z)), (5, .int (ji t))] := hl
            refine lv_goto hx hb dM_value_182 rfl ?_
            refine ih (i + 1) ls (by omega) (fun j j1 j2 => ?_) (lv_sub hl [0, 1, 2, 3, 4, 5, 6, 7, 8] rfl)
            by_cases hji : j = i
            · rw [hji] at j2 ⊢
              exact Classical.byContradiction (fun q => hyy (hy.mpr ⟨j2, q⟩))
            · exact hok j (by omega) j2
        have inner : ∀ (y9 : Prop) (_ : y9 ↔ (i < nn g ∧ ¬ (-1000 ≤ x4 x y z t i ∧ x4 x y z t i ≤ 1000))) (K j : Nat) (ls : Array Slot), j + K = 4 → lv_has ls 13 [(11, .int (ji ((j:Int)))), (7, .long (jl (vf 4 (aM M g) (x4 x y z t) i + vfR 4 (aM M g) (x4 x y z t) i j))), (6, .int (ji (bi y9))), (10, .int (ji (x4 x y z t i))), (9, .int (ji ((i:Int)))), (1, .int (ji ((g:Int)))), (0, .ref (E.2.1 28)), (2, .int (ji x)), (3, .int (ji y)), (4, .int (ji z)), (5, .int (ji t))] → W p_ l e_ (rmd 1) s_ m_ a_ b_ t_ c_ s_.heap [] 0 0 (XQ b_ (mmQ E (fun v M9 => (∃ w : Int, v = some (.long (jl w)) ∧ ((¬ fo f ∨ ∃ i : Nat, i < nn f.toNat ∧ ¬ (-1000 ≤ x4 x y z t i ∧ x4 x y z t i ≤ 1000)) → M9 28 12 = 1) ∧ (¬ (¬ fo f ∨ ∃ i : Nat, i < nn f.toNat ∧ ¬ (-1000 ≤ x4 x y z t i ∧ x4 x y z t i ≤ 1000)) → M9 28 12 = 0 ∧ ∀ g : Nat, f = g → w = vf 4 (aM M g) (x4 x y z t) 4)) ∧ FrQ M M9)) a_ s_ 0 0 (wA E)) (F0 m_ 102 ls []) := by
          intro y9 hy K
          induction K with
          | zero =>
            intro j ls h1 hl
            have hj4 : j = 4 := by omega
            refine lv_iload hx hb dM_value_102 (lv_at hl 0 rfl) ?_
            refine j_iconst hx hb dM_value_104 ?_
            refine j_icmp_ge hx hb (by omega) (by omega) dM_value_105 rfl (fun h2 => ?_) (fun h2 => ?_)
            · rw [hj4] at hl
              exact k179 y9 ls hy (lv_sub hl [1, 2, 4, 5, 6, 7, 8, 9, 10] rfl)
            · omega
          | succ K ihK =>
            intro j ls h1 hl
            have k140 : ∀ (ls : Array Slot) (b9 : Int), b9 = x4 x y z t j → lv_has ls 13 [(11, .int (ji ((j:Int)))), (7, .long (jl (vf 4 (aM M g) (x4 x y z t) i + vfR 4 (aM M g) (x4 x y z t) i j))), (6, .int (ji (bi y9))), (10, .int (ji (x4 x y z t i))), (9, .int (ji ((i:Int)))), (1, .int (ji ((g:Int)))), (0, .ref (E.2.1 28)), (2, .int (ji x)), (3, .int (ji y)), (4, .int (ji z)), (5, .int (ji t))] → W p_ l e_ (rmd 1) s_ m_ a_ b_ t_ c_ s_.heap [] 0 0 (XQ b_ (mmQ E (fun v M9 => (∃ w : Int, v = some (.long (jl w)) ∧ ((¬ fo f ∨ ∃ i : Nat, i < nn f.toNat ∧ ¬ (-1000 ≤ x4 x y z t i ∧ x4 x y z t i ≤ 1000)) → M9 28 12 = 1) ∧ (¬ (¬ fo f ∨ ∃ i : Nat, i < nn f.toNat ∧ ¬ (-1000 ≤ x4 x y z t i ∧ x4 x y z t i ≤ 1000)) → M9 28 12 = 0 ∧ ∀ g : Nat, f = g → w = vf 4 (aM M g) (x4 x y z t) 4)) ∧ FrQ M M9)) a_ s_ 0 0 (wA E)) (F0 m_ 140 ls [.int (ji b9)]) := by
              intro ls b9 hb9 hl
              rw [hb9]
              refine lv_istore hx hb dM_value_140 hl (by decide) rfl (fun ls hl => ?_)
              have hl : lv_has ls 13 [(12, .int (ji (x4 x y z t j))), (11, .int (ji ((j:Int)))), (7, .long (jl (vf 4 (aM M g) (x4 x y z t) i + vfR 4 (aM M g) (x4 x y z t) i j))), (6, .int (ji (bi y9))), (10, .int (ji (x4 x y z t i))), (9, .int (ji ((i:Int)))), (1, .int (ji ((g:Int)))), (0, .ref (E.2.1 28)), (2, .int (ji x)), (3, .int (ji y)), (4, .int (ji z)), (5, .int (ji t))] := hl
              refine lv_lload hx hb dM_value_142 (lv_at hl 2 rfl) ?_
              refine lv_aload_n hx hb dM_value_144 rfl (lv_at hl 7 rfl) ?_
              refine m_get (C := "RationalFormsModel") (T := TxM) (N := 13) hx hb hg uwM hown hK hP (by omega) (sh_M E _) rfl 1 (by decide) wd460 rfl dM_value_145 ?_
              refine j_bipush hx hb dM_value_148 rfl ?_
              refine lv_iload_n hx hb dM_value_150 rfl (lv_at hl 6 rfl) ?_
              refine j_imul hx hb dM_value_151 ?_
              refine j_iconst hx hb dM_value_152 ?_
              refine lv_iload hx hb dM_value_153 (lv_at hl 5 rfl) ?_
              refine j_imul hx hb dM_value_155 ?_
              refine j_iadd hx hb dM_value_156 ?_
              refine lv_iload hx hb dM_value_157 (lv_at hl 1 rfl) ?_
              refine j_iadd hx hb dM_value_159 ?_
              refine m_iald (n := 16 * g + (4 * i + j)) hx hb hK hP (by omega) (sh_30 E _) (by omega) (by omega) (by decide) dM_value_160 ?_
              refine j_i2l hx hb (by have := (hI9.2.2.2 i j (by omega) (by omega) (by omega) (by omega)).2; simp only [aM] at this; omega) dM_value_161 ?_
              refine lv_iload hx hb dM_value_162 (lv_at hl 4 rfl) ?_
              refine j_i2l hx hb (x4_b hx9 hy9 hz9 ht9 i) dM_value_164 ?_
              refine j_lmul hx hb dM_value_165 ?_
              refine lv_iload hx hb dM_value_166 (lv_at hl 0 rfl) ?_
              refine j_i2l hx hb (x4_b hx9 hy9 hz9 ht9 j) dM_value_168 ?_
              refine j_lmul hx hb dM_value_169 ?_
              refine j_ladd hx hb dM_value_170 ?_
              refine lv_lstore hx hb dM_value_171 hl (by decide) rfl (fun ls hl => ?_)
              have hl : lv_has ls 13 [(7, .long (jl ((vf 4 (aM M g) (x4 x y z t) i + vfR 4 (aM M g) (x4 x y z t) i j) + (((M 30 (16 * g + (4 * i + j))) * (x4 x y z t i)) * (x4 x y z t j))))), (12, .int (ji (x4 x y z t j))), (11, .int (ji ((j:Int)))), (6, .int (ji (bi y9))), (10, .int (ji (x4 x y z t i))), (9, .int (ji ((i:Int)))), (1, .int (ji ((g:Int)))), (0, .ref (E.2.1 28)), (2, .int (ji x)), (3, .int (ji y)), (4, .int (ji z)), (5, .int (ji t))] := hl
              refine lv_iinc (k := 2) (v := ji (((j:Int)) + 1)) hx hb dM_value_173 hl rfl (Int32.ofInt_add _ _).symm (by decide) rfl (fun ls hl => ?_)
              have hl : lv_has ls 13 [(11, .int (ji (((j:Int)) + 1))), (7, .long (jl ((vf 4 (aM M g) (x4 x y z t) i + vfR 4 (aM M g) (x4 x y z t) i j) + (((M 30 (16 * g + (4 * i + j))) * (x4 x y z t i)) * (x4 x y z t j))))), (12, .int (ji (x4 x y z t j))), (6, .int (ji (bi y9))), (10, .int (ji (x4 x y z t i))), (9, .int (ji ((i:Int)))), (1, .int (ji ((g:Int)))), (0, .ref (E.2.1 28)), (2, .int (ji x)), (3, .int (ji y)), (4, .int (ji z)), (5, .int (ji t))] := hl
              refine lv_goto hx hb dM_value_176 rfl ?_
              refine ihK (j + 1) ls (by omega) ?_
              have e9 : vf 4 (aM M g) (x4 x y z t) i + vfR 4 (aM M g) (x4 x y z t) i (j + 1) = vf 4 (aM M g) (x4 x y z t) i + vfR 4 (aM M g) (x4 x y z t) i j + M 30 (16 * g + (4 * i + j)) * x4 x y z t i * x4 x y z t j := by
                show vf 4 (aM M g) (x4 x y z t) i + (vfR 4 (aM M g) (x4 x y z t) i j + M 30 (16 * g + (4 * i + j)) * x4 x y z t i * x4 x y z t j) = _
                omega
              rw [e9]
              exact lv_sub hl [0, 1, 3, 4, 5, 6, 7, 8, 9, 10, 11] rfl
            refine lv_iload hx hb dM_value_102 (lv_at hl 0 rfl) ?_
            refine j_iconst hx hb dM_value_104 ?_
            refine j_icmp_ge hx hb (by omega) (by omega) dM_value_105 rfl (fun h2 => ?_) (fun h2 => ?_)
            · omega
            · refine lv_iload hx hb dM_value_108 (lv_at hl 0 rfl) ?_
              refine j_if_ne hx hb (by omega) dM_value_110 rfl (fun b1 => ?_) (fun b1 => ?_)
              · refine lv_iload hx hb dM_value_117 (lv_at hl 0 rfl) ?_
                refine j_iconst hx hb dM_value_119 ?_
                refine j_icmp_ne hx hb (by omega) (by omega) dM_value_120 rfl (fun b2 => ?_) (fun b2 => ?_)
                · refine lv_iload hx hb dM_value_127 (lv_at hl 0 rfl) ?_
                  refine j_iconst hx hb dM_value_129 ?_
                  refine j_icmp_ne hx hb (by omega) (by omega) dM_value_130 rfl (fun b3 => ?_) (fun b3 => ?_)
                  · refine lv_iload hx hb dM_value_138 (lv_at hl 10 rfl) ?_
                    exact k140 ls t (by unfold x4; rw [if_neg (by omega), if_neg (by omega), if_neg (by omega)]) hl
                  · refine lv_iload hx hb dM_value_133 (lv_at hl 9 rfl) ?_
                    refine lv_goto hx hb dM_value_135 rfl ?_
                    exact k140 ls z (by unfold x4; rw [if_neg (by omega), if_neg (by omega), if_pos (by omega)]) hl
                · refine lv_iload_n hx hb dM_value_123 rfl (lv_at hl 8 rfl) ?_
                  refine lv_goto hx hb dM_value_124 rfl ?_
                  exact k140 ls y (by unfold x4; rw [if_neg (by omega), if_pos (by omega)]) hl
              · refine lv_iload_n hx hb dM_value_113 rfl (lv_at hl 7 rfl) ?_
                refine lv_goto hx hb dM_value_114 rfl ?_
                exact k140 ls x (by unfold x4; rw [if_pos (by omega)]) hl
        have k97 : ∀ (ls : Array Slot) (y9 : Prop) (x9 : Int), x9 = bi y9 → (y9 ↔ (i < nn g ∧ ¬ (-1000 ≤ x4 x y z t i ∧ x4 x y z t i ≤ 1000))) → lv_has ls 13 [(10, .int (ji (x4 x y z t i))), (9, .int (ji ((i:Int)))), (7, .long (jl (vf 4 (aM M g) (x4 x y z t) i))), (6, .int (ji 0)), (1, .int (ji ((g:Int)))), (0, .ref (E.2.1 28)), (2, .int (ji x)), (3, .int (ji y)), (4, .int (ji z)), (5, .int (ji t))] → W p_ l e_ (rmd 1) s_ m_ a_ b_ t_ c_ s_.heap [] 0 0 (XQ b_ (mmQ E (fun v M9 => (∃ w : Int, v = some (.long (jl w)) ∧ ((¬ fo f ∨ ∃ i : Nat, i < nn f.toNat ∧ ¬ (-1000 ≤ x4 x y z t i ∧ x4 x y z t i ≤ 1000)) → M9 28 12 = 1) ∧ (¬ (¬ fo f ∨ ∃ i : Nat, i < nn f.toNat ∧ ¬ (-1000 ≤ x4 x y z t i ∧ x4 x y z t i ≤ 1000)) → M9 28 12 = 0 ∧ ∀ g : Nat, f = g → w = vf 4 (aM M g) (x4 x y z t) 4)) ∧ FrQ M M9)) a_ s_ 0 0 (wA E)) (F0 m_ 97 ls [.int (ji x9)]) := by
          intro ls y9 x9 hx0 hy hl
          rw [hx0]
          refine lv_istore hx hb dM_value_97 hl (by decide) rfl (fun ls hl => ?_)
          have hl : lv_has ls 13 [(6, .int (ji (bi y9))), (10, .int (ji (x4 x y z t i))), (9, .int (ji ((i:Int)))), (7, .long (jl (vf 4 (aM M g) (x4 x y z t) i))), (1, .int (ji ((g:Int)))), (0, .ref (E.2.1 28)), (2, .int (ji x)), (3, .int (ji y)), (4, .int (ji z)), (5, .int (ji t))] := hl
          refine j_iconst hx hb dM_value_99 ?_
          refine lv_istore hx hb dM_value_100 hl (by decide) rfl (fun ls hl => ?_)
          have hl : lv_has ls 13 [(11, .int (ji 0)), (6, .int (ji (bi y9))), (10, .int (ji (x4 x y z t i))), (9, .int (ji ((i:Int)))), (7, .long (jl (vf 4 (aM M g) (x4 x y z t) i))), (1, .int (ji ((g:Int)))), (0, .ref (E.2.1 28)), (2, .int (ji x)), (3, .int (ji y)), (4, .int (ji z)), (5, .int (ji t))] := hl
          refine inner y9 hy 4 0 ls (by omega) ?_
          rw [show vf 4 (aM M g) (x4 x y z t) i + vfR 4 (aM M g) (x4 x y z t) i 0 = vf 4 (aM M g) (x4 x y z t) i from Int.add_zero _]
          exact lv_sub hl [0, 4, 1, 2, 3, 5, 6, 7, 8, 9, 10] rfl
        have k63 : ∀ (ls : Array Slot) (a9 : Int), a9 = x4 x y z t i → lv_has ls 13 [(9, .int (ji ((i:Int)))), (7, .long (jl (vf 4 (aM M g) (x4 x y z t) i))), (6, .int (ji 0)), (1, .int (ji ((g:Int)))), (0, .ref (E.2.1 28)), (2, .int (ji x)), (3, .int (ji y)), (4, .int (ji z)), (5, .int (ji t))] → W p_ l e_ (rmd 1) s_ m_ a_ b_ t_ c_ s_.heap [] 0 0 (XQ b_ (mmQ E (fun v M9 => (∃ w : Int, v = some (.long (jl w)) ∧ ((¬ fo f ∨ ∃ i : Nat, i < nn f.toNat ∧ ¬ (-1000 ≤ x4 x y z t i ∧ x4 x y z t i ≤ 1000)) → M9 28 12 = 1) ∧ (¬ (¬ fo f ∨ ∃ i : Nat, i < nn f.toNat ∧ ¬ (-1000 ≤ x4 x y z t i ∧ x4 x y z t i ≤ 1000)) → M9 28 12 = 0 ∧ ∀ g : Nat, f = g → w = vf 4 (aM M g) (x4 x y z t) 4)) ∧ FrQ M M9)) a_ s_ 0 0 (wA E)) (F0 m_ 63 ls [.int (ji a9)]) := by
          intro ls a9 ha9 hl
          have hxb := x4_b hx9 hy9 hz9 ht9 i
          rw [ha9]
          refine lv_istore hx hb dM_value_63 hl (by decide) rfl (fun ls hl => ?_)
          have hl : lv_has ls 13 [(10, .int (ji (x4 x y z t i))), (9, .int (ji ((i:Int)))), (7, .long (jl (vf 4 (aM M g) (x4 x y z t) i))), (6, .int (ji 0)), (1, .int (ji ((g:Int)))), (0, .ref (E.2.1 28)), (2, .int (ji x)), (3, .int (ji y)), (4, .int (ji z)), (5, .int (ji t))] := hl
          refine lv_iload hx hb dM_value_65 (lv_at hl 1 rfl) ?_
          refine lv_aload_n hx hb dM_value_67 rfl (lv_at hl 5 rfl) ?_
          refine m_get (C := "RationalFormsModel") (T := TxM) (N := 13) hx hb hg uwM hown hK hP (by omega) (sh_M E _) rfl 0 (by decide) wd459 rfl dM_value_68 ?_
          refine lv_iload_n hx hb dM_value_71 rfl (lv_at hl 4 rfl) ?_
          refine m_iald (n := g) hx hb hK hP (by omega) (sh_29 E _) (by omega) (by omega) (by decide) dM_value_72 ?_
          refine j_icmp_ge hx hb (by omega) (by rw [h29]; omega) dM_value_73 rfl (fun b1 => ?_) (fun b1 => ?_)
          · rw [h29] at b1
            refine j_iconst hx hb dM_value_96 ?_
            exact k97 ls False 0 (bi_f id).symm ⟨False.elim, fun q => by omega⟩ hl
          · rw [h29] at b1
            refine lv_iload hx hb dM_value_76 (lv_at hl 0 rfl) ?_
            refine j_sipush hx hb dM_value_78 rfl ?_
            refine j_icmp_lt hx hb (by omega) (by omega) dM_value_81 rfl (fun b2 => ?_) (fun b2 => ?_)
            · refine j_iconst hx hb dM_value_92 ?_
              refine lv_goto hx hb dM_value_93 rfl ?_
              exact k97 ls True 1 (bi_t trivial).symm ⟨fun _ => ⟨by omega, by omega⟩, fun _ => trivial⟩ hl
            · refine lv_iload hx hb dM_value_84 (lv_at hl 0 rfl) ?_
              refine j_sipush hx hb dM_value_86 rfl ?_
              refine j_icmp_le hx hb (by omega) (by omega) dM_value_89 rfl (fun b3 => ?_) (fun b3 => ?_)
              · refine j_iconst hx hb dM_value_96 ?_
                exact k97 ls False 0 (bi_f id).symm ⟨False.elim, fun q => q.2 ⟨b2, b3⟩⟩ hl
              · refine j_iconst hx hb dM_value_92 ?_
                refine lv_goto hx hb dM_value_93 rfl ?_
                exact k97 ls True 1 (bi_t trivial).symm ⟨fun _ => ⟨by omega, by omega⟩, fun _ => trivial⟩ hl
        refine lv_iload hx hb dM_value_20 (lv_at hl 0 rfl) ?_
        refine j_iconst hx hb dM_value_22 ?_
        refine j_icmp_ge hx hb (by omega) (by omega) dM_value_23 rfl (fun h2 => ?_) (fun h2 => ?_)
        · omega
        · refine lv_iload hx hb dM_value_26 (lv_at hl 2 rfl) ?_
          refine j_if_ne hx hb (by decide) dM_value_28 rfl (fun h3 => ?_) (fun h3 => ?_)
          · omega
          · refine lv_iload hx hb dM_value_31 (lv_at hl 0 rfl) ?_
            refine j_if_ne hx hb (by omega) dM_value_33 rfl (fun b1 => ?_) (fun b1 => ?_)
            · refine lv_iload hx hb dM_value_40 (lv_at hl 0 rfl) ?_
              refine j_iconst hx hb dM_value_42 ?_
              refine j_icmp_ne hx hb (by omega) (by omega) dM_value_43 rfl (fun b2 => ?_) (fun b2 => ?_)
              · refine lv_iload hx hb dM_value_50 (lv_at hl 0 rfl) ?_
                refine j_iconst hx hb dM_value_52 ?_
                refine j_icmp_ne hx hb (by omega) (by omega) dM_value_53 rfl (fun b3 => ?_) (fun b3 => ?_)
                · refine lv_iload hx hb dM_value_61 (lv_at hl 8 rfl) ?_
                  exact k63 ls t (by unfold x4; rw [if_neg (by omega), if_neg (by omega), if_neg (by omega)]) hl
                · refine lv_iload hx hb dM_value_56 (lv_at hl 7 rfl) ?_
                  refine lv_goto hx hb dM_value_58 rfl ?_
                  exact k63 ls z (by unfold x4; rw [if_neg (by omega), if_neg (by omega), if_pos (by omega)]) hl
              · refine lv_iload_n hx hb dM_value_46 rfl (lv_at hl 6 rfl) ?_
                refine lv_goto hx hb dM_value_47 rfl ?_
                exact k63 ls y (by unfold x4; rw [if_neg (by omega), if_pos (by omega)]) hl
            · refine lv_iload_n hx hb dM_value_36 rfl (lv_at hl 5 rfl) ?_
              refine lv_goto hx hb dM_value_37 rfl ?_
              exact k63 ls x (by unfold x4; rw [if_pos (by omega)]) hl
    refine j_iconst hx hb dM_value_11 ?_
    refine lv_istore hx hb dM_value_12 hl (by decide) rfl (fun ls hl => ?_)
    have hl : lv_has ls 13 [(6, .int (ji 0)), (1, .int (ji ((g:Int)))), (0, .ref (E.2.1 28)), (2, .int (ji x)), (3, .int (ji y)), (4, .int (ji z)), (5, .int (ji t))] := hl
    refine j_lconst0 hx hb dM_value_14 ?_
    refine lv_lstore hx hb dM_value_15 hl (by decide) rfl (fun ls hl => ?_)
    have hl : lv_has ls 13 [(7, .long (jl 0)), (6, .int (ji 0)), (1, .int (ji ((g:Int)))), (0, .ref (E.2.1 28)), (2, .int (ji x)), (3, .int (ji y)), (4, .int (ji z)), (5, .int (ji t))] := hl
    refine j_iconst hx hb dM_value_17 ?_
    refine lv_istore hx hb dM_value_18 hl (by decide) rfl (fun ls hl => ?_)
    have hl : lv_has ls 13 [(9, .int (ji 0)), (7, .long (jl 0)), (6, .int (ji 0)), (1, .int (ji ((g:Int)))), (0, .ref (E.2.1 28)), (2, .int (ji x)), (3, .int (ji y)), (4, .int (ji z)), (5, .int (ji t))] := hl
    exact outer 4 0 ls (by omega) (fun j hj => by omega) (lv_sub hl [0, 1, 2, 3, 4, 5, 6, 7, 8] rfl)
  · have hfo : ¬ fo f := bi_eq h1
    refine j_iconst hx hb dM_value_7 ?_
    refine lv_goto hx hb dM_value_8 rfl ?_
    refine lv_istore hx hb dM_value_12 hl (by decide) rfl (fun ls hl => ?_)
    have hl : lv_has ls 13 [(6, .int (ji 1)), (1, .int (ji f)), (0, .ref (E.2.1 28)), (2, .int (ji x)), (3, .int (ji y)), (4, .int (ji z)), (5, .int (ji t))] := hl
    refine j_lconst0 hx hb dM_value_14 ?_
    refine lv_lstore hx hb dM_value_15 hl (by decide) rfl (fun ls hl => ?_)
    have hl : lv_has ls 13 [(7, .long (jl 0)), (6, .int (ji 1)), (1, .int (ji f)), (0, .ref (E.2.1 28)), (2, .int (ji x)), (3, .int (ji y)), (4, .int (ji z)), (5, .int (ji t))] := hl
    refine j_iconst hx hb dM_value_17 ?_
    refine lv_istore hx hb dM_value_18 hl (by decide) rfl (fun ls hl => ?_)
    have hl : lv_has ls 13 [(9, .int (ji 0)), (7, .long (jl 0)), (6, .int (ji 1)), (1, .int (ji f)), (0, .ref (E.2.1 28)), (2, .int (ji x)), (3, .int (ji y)), (4, .int (ji z)), (5, .int (ji t))] := hl
    have k185 : ∀ (ls : Array Slot), lv_has ls 13 [(6, .int (ji 1)), (7, .long (jl 0)), (1, .int (ji f)), (0, .ref (E.2.1 28)), (2, .int (ji x)), (3, .int (ji y)), (4, .int (ji z)), (5, .int (ji t))] → W p_ l e_ (rmd 1) s_ m_ a_ b_ t_ c_ s_.heap [] 0 0 (XQ b_ (mmQ E (fun v M9 => (∃ w : Int, v = some (.long (jl w)) ∧ ((¬ fo f ∨ ∃ i : Nat, i < nn f.toNat ∧ ¬ (-1000 ≤ x4 x y z t i ∧ x4 x y z t i ≤ 1000)) → M9 28 12 = 1) ∧ (¬ (¬ fo f ∨ ∃ i : Nat, i < nn f.toNat ∧ ¬ (-1000 ≤ x4 x y z t i ∧ x4 x y z t i ≤ 1000)) → M9 28 12 = 0 ∧ ∀ g : Nat, f = g → w = vf 4 (aM M g) (x4 x y z t) 4)) ∧ FrQ M M9)) a_ s_ 0 0 (wA E)) (F0 m_ 185 ls []) := by
      intro ls hl
      refine fin f True 0 ls ⟨fun _ => Or.inl hfo, fun _ => trivial⟩ (fun q => absurd (Or.inl hfo) q) ?_
      rw [bi_t (q := True) trivial]
      exact hl
    refine lv_iload hx hb dM_value_20 (lv_at hl 0 rfl) ?_
    refine j_iconst hx hb dM_value_22 ?_
    refine j_icmp_ge hx hb (by omega) (by omega) dM_value_23 rfl (fun h2 => ?_) (fun h2 => ?_)
    · exact k185 ls (lv_sub hl [2, 1, 3, 4, 5, 6, 7, 8] rfl)
    · refine lv_iload hx hb dM_value_26 (lv_at hl 2 rfl) ?_
      refine j_if_ne hx hb (by decide) dM_value_28 rfl (fun h3 => ?_) (fun h3 => ?_)
      · exact k185 ls (lv_sub hl [2, 1, 3, 4, 5, 6, 7, 8] rfl)
      · omega
