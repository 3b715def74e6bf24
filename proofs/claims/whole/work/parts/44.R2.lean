/-! Reduction.reduce, Form.valueFor -/
set_option maxRecDepth 20000 in
theorem wd121 : Cond.methodLink "RationalForms$Reduction" 20 yR_copyNumbers ∈ GG := GG_t 121 rfl rfl
set_option maxRecDepth 20000 in
theorem wd123 : Cond.instanceMethod yR_copyNumbers ∈ GG := GG_t 123 rfl rfl
set_option maxRecDepth 20000 in
theorem wd124 : Cond.code yR_copyNumbers cR_copyNumbers 4 none ∈ GG := GG_t 124 rfl rfl
set_option maxRecDepth 20000 in
theorem wd125 : Cond.methodLink "RationalForms$Reduction" 24 yD_restart ∈ GG := GG_t 125 rfl rfl
set_option maxRecDepth 20000 in
theorem wd126 : Cond.instanceMethod yD_restart ∈ GG := GG_t 126 rfl rfl
set_option maxRecDepth 20000 in
theorem wd127 : Cond.selects "RationalForms$Diagonal" yD_restart yD_restart ∈ GG := GG_t 127 rfl rfl
set_option maxRecDepth 20000 in
theorem wd128 : Cond.code yD_restart cD_restart 2 none ∈ GG := GG_t 128 rfl rfl
set_option maxRecDepth 20000 in
theorem wd133 : Cond.methodLink "RationalForms$Reduction" 30 yR_bringPivot ∈ GG := GG_t 133 rfl rfl
set_option maxRecDepth 20000 in
theorem wd135 : Cond.instanceMethod yR_bringPivot ∈ GG := GG_t 135 rfl rfl
set_option maxRecDepth 20000 in
theorem wd136 : Cond.code yR_bringPivot cR_bringPivot 4 (some .boolean) ∈ GG := GG_t 136 rfl rfl
set_option maxRecDepth 20000 in
theorem wd145 : Cond.methodLink "RationalForms$Reduction" 34 yW_classOf ∈ GG := GG_t 145 rfl rfl
set_option maxRecDepth 20000 in
theorem wd155 : Cond.methodLink "RationalForms$Reduction" 40 yW_classOfProduct ∈ GG := GG_t 155 rfl rfl
set_option maxRecDepth 20000 in
theorem wd164 : Cond.methodLink "RationalForms$Reduction" 44 yD_addTerm ∈ GG := GG_t 164 rfl rfl
set_option maxRecDepth 20000 in
theorem wd169 : Cond.methodLink "RationalForms$Reduction" 48 yD_addPrimesOf ∈ GG := GG_t 169 rfl rfl
set_option maxRecDepth 20000 in
theorem wd176 : Cond.methodLink "RationalForms$Reduction" 51 yR_eliminate ∈ GG := GG_t 176 rfl rfl
set_option maxRecDepth 20000 in
theorem wd178 : Cond.instanceMethod yR_eliminate ∈ GG := GG_t 178 rfl rfl
set_option maxRecDepth 20000 in
theorem wd179 : Cond.code yR_eliminate cR_eliminate 8 none ∈ GG := GG_t 179 rfl rfl
set_option maxRecDepth 20000 in
theorem wds1 : Cond.selects "RationalForms$Reduction" yR_copyNumbers yR_copyNumbers ∈ GG := GG_s 1 rfl rfl
set_option maxRecDepth 20000 in
theorem wds3 : Cond.selects "RationalForms$Reduction" yR_bringPivot yR_bringPivot ∈ GG := GG_s 3 rfl rfl
set_option maxRecDepth 20000 in
theorem wds6 : Cond.selects "RationalForms$Reduction" yR_eliminate yR_eliminate ∈ GG := GG_s 6 rfl rfl
set_option maxRecDepth 100000 in
set_option maxHeartbeats 4000000 in
theorem kR_reduce (l : Launch) (E : En) (hJ : wJ E) (M : Me) (f : Nat) (hf : f < 2) (n : Nat) (hn0 : M (5 + f) 0 = n) (hn1 : 1 ≤ n) (hn4 : n ≤ 4) (hA : sb 0 4 6 (fun i j => M (9 + 4 * f + i) j)) : MM l yR_reduce wsR_reduce (rmd 4) E M [.ref (E.2.1 3), .ref (E.2.1 (5 + f)), .ref (E.2.1 (17 + f))] (fun v M9 => v = none ∧ (∃ (r : Nat) (p : Nat → Int) (c : Nat), PV n (fun i j => M (9 + 4 * f + i) j) r p ∧ pB p r ∧ r ≤ n ∧ c ≤ cB r ∧ DgS M9 f n r p c) ∧ (∀ q, q ≠ 3 → q ≠ 17 + f → q ≠ 19 + f → q ≠ 21 + f → (q < 24 ∨ 28 ≤ q) → M9 q = M q)) := by
  refine MM.ofG (by decide +kernel) (Nat.le_of_ble_eq_true rfl) ?_
  intro p_ e_ s_ m_ a_ b_ t_ c_ hx hb hml hr hk hg hown hK hP hS ls hl
  have hl : lv_has ls 8 [(0, .ref (E.2.1 3)), (1, .ref (E.2.1 (5 + f))), (2, .ref (E.2.1 (17 + f)))] := hl
  have hAn : sb 0 n 6 (fun i j => M (9 + 4 * f + i) j) := fun a b a1 a2 b1 b2 => hA a b a1 (by omega) b1 (by omega)
  have loop : ∀ (N k : Nat) (p : Nat → Int) (c : Nat) (M1 : Me) (H : Heap) (locs : List Loc) (ls : Array Slot), k + N = n → M1 3 1 = n → PVs n (fun i j => M (9 + 4 * f + i) j) p k (tb M1) → pB p k → c ≤ cB k → DgS M1 f n k p c → (∀ q, q ≠ 3 → q ≠ 17 + f → q ≠ 19 + f → q ≠ 21 + f → (q < 24 ∨ 28 ≤ q) → M1 q = M q) → wP E M1 H → va_S (wA E) s_.heap H locs → lv_has ls 8 [(5, .int (ji ((k:Int)))), (3, .long (jl (bef p k))), (0, .ref (E.2.1 3)), (1, .ref (E.2.1 (5 + f))), (2, .ref (E.2.1 (17 + f)))] → W p_ l e_ (rmd 4) s_ m_ a_ b_ t_ c_ H locs 0 0 (XQ b_ (mmQ E (fun v M9 => v = none ∧ (∃ (r : Nat) (p : Nat → Int) (c : Nat), PV n (fun i j => M (9 + 4 * f + i) j) r p ∧ pB p r ∧ r ≤ n ∧ c ≤ cB r ∧ DgS M9 f n r p c) ∧ (∀ q, q ≠ 3 → q ≠ 17 + f → q ≠ 19 + f → q ≠ 21 + f → (q < 24 ∨ 28 ≤ q) → M9 q = M q))) a_ s_ 0 0 (wA E)) (F0 m_ 18 ls []) := by
    intro N
    induction N with
    | zero =>
      intro k p c M1 H locs ls h0 hs1 hPV hpB hcB hD hF hP hS hl
      obtain rfl : k = n := by omega
      refine lv_iload hx hb dR_reduce_18 (lv_at hl 0 rfl) ?_
      refine lv_aload_n hx hb dR_reduce_20 rfl (lv_at hl 2 rfl) ?_
      refine m_get (C := "RationalForms$Reduction") (T := TxR) (N := 2) hx hb hg uwR hown hK hP (by omega) (sh_R E _) rfl 1 (by decide) wd36 rfl dR_reduce_21 ?_
      refine j_icmp_ge hx hb (by omega) (by rw [hs1]; omega) dR_reduce_24 rfl (fun h1 => ?_) (fun h1 => ?_)
      · exact mm_vret hx hb hr hk hP hS dR_reduce_88 ⟨rfl, ⟨k, p, c, ⟨Nat.le_refl _, _, hPV, Or.inl rfl⟩, hpB, Nat.le_refl _, hcB, hD⟩, hF⟩
      · rw [hs1] at h1
        omega
    | succ N ih =>
      intro k p c M1 H locs ls h0 hs1 hPV hpB hcB hD hF hP hS hl
      have hkn : k < n := by omega
      have hsb := PVs_sb hAn hPV
      have htB : tB k ≤ tB 3 := by
        rcases (by omega : k = 0 ∨ k = 1 ∨ k = 2 ∨ k = 3) with q | q | q | q <;> subst q <;> decide
      have hT0 : ∀ a b, k ≤ a → a < n → k ≤ b → b < n → b64 (tb M1 a b) := fun a b a1 a2 b1 b2 => by
        have h1 := (hsb a b a1 a2 b1 b2).2
        have h2 : tB 3 ≤ 9000000000000000000 := by decide
        omega
      refine lv_iload hx hb dR_reduce_18 (lv_at hl 0 rfl) ?_
      refine lv_aload_n hx hb dR_reduce_20 rfl (lv_at hl 2 rfl) ?_
      refine m_get (C := "RationalForms$Reduction") (T := TxR) (N := 2) hx hb hg uwR hown hK hP (by omega) (sh_R E _) rfl 1 (by decide) wd36 rfl dR_reduce_21 ?_
      refine j_icmp_ge hx hb (by omega) (by rw [hs1]; omega) dR_reduce_24 rfl (fun h1 => ?_) (fun h1 => ?_)
      · rw [hs1] at h1
        omega
      · refine lv_aload_n hx hb dR_reduce_27 rfl (lv_at hl 2 rfl) ?_
        refine lv_iload hx hb dR_reduce_28 (lv_at hl 0 rfl) ?_
        refine mm_V (As := [.int (ji ((k:Int)))]) (rest := []) hx hb hml hown hg hl hK hP hS (by omega) (sh_R E _) rfl (kR_bringPivot l E hJ M1 n hs1 hn4 k hkn hT0) wd133 wd135 wds3 wd2 wd136 ⟨rfl, rfl⟩ (n := 1) (by decide +kernel) rfl ⟨by decide, by decide⟩ rfl (Nat.le_of_ble_eq_true rfl) dR_reduce_30 ⟨Nat.zero_le _, Nat.zero_le _⟩ (fun v M2 H locs hq2 hP hS => ?_)
        obtain ⟨⟨rr, rfl, hbp⟩, hf2⟩ := hq2
        have hD2 : DgS M2 f n k p c := hD.fr (hf2 _ (by omega)) (hf2 _ (by omega)) (hf2 _ (by omega))
        have hF2 : ∀ q, q ≠ 3 → q ≠ 17 + f → q ≠ 19 + f → q ≠ 21 + f → (q < 24 ∨ 28 ≤ q) → M2 q = M q := fun q q1 q2 q3 q4 q5 => (hf2 q q5).trans (hF q q1 q2 q3 q4 q5)
        refine j_if_eq hx hb (bi_b32 _) dR_reduce_33 rfl (fun h2 => ?_) (fun h2 => ?_)
        · have hrr : rr = False := propext ⟨fun z => bi_eq h2 z, False.elim⟩
          rw [hrr] at hbp
          exact mm_vret hx hb hr hk hP hS dR_reduce_88 ⟨rfl, ⟨k, p, c, ⟨by omega, _, hPV, Or.inr ⟨_, hbp⟩⟩, hpB, by omega, hcB, hD2⟩, hF2⟩
        · have hrr : rr = True := propext ⟨fun _ => trivial, fun _ => bi_ne h2⟩
          rw [hrr] at hbp
          have hpx := piv_pB hn4 hkn hAn hPV hbp
          have hb0 := bef_pB hpB
          have hsB := sb_bp hsb hbp hkn
          have e0 : bef (fun i => if i = k then tb M2 k k else p i) k = bef p k := bef_cg (fun i hi => by simp only [if_neg (show i ≠ k by omega)])
          have hp' : ∀ i, i < k → (fun i => if i = k then tb M2 k k else p i) i = p i := fun i hi => by simp only [if_neg (show i ≠ k by omega)]
          have hpk : (fun i => if i = k then tb M2 k k else p i) k = tb M2 k k := by simp only [if_pos]
          have hpB' := pB_s hpB hpx
          have htr := tr_bd hpB' (Nat.lt_succ_self k)
          have etr : tr (fun i => if i = k then tb M2 k k else p i) k = pr (sf (tb M2 k k)) (sf (bef p k)) := by
            unfold tr
            rw [hpk, e0]
          have hsx := sf_le hpx.1
          have hsb0 := sf_le hb0.1
          have hsn := sf_ne hpx.1
          rw [etr] at htr
          refine lv_aload_n hx hb dR_reduce_36 rfl (lv_at hl 2 rfl) ?_
          refine m_get (C := "RationalForms$Reduction") (T := TxR) (N := 2) hx hb hg uwR hown hK hP (by omega) (sh_R E _) rfl 0 (by decide) wd35 rfl dR_reduce_37 ?_
          refine lv_iload hx hb dR_reduce_40 (lv_at hl 0 rfl) ?_
          refine m_aald (t0 := 3) (n := k) hx hb hK hP (by omega) (sh_b E _) rfl rfl rfl (by omega) (by decide) dR_reduce_42 ?_
          refine lv_iload hx hb dR_reduce_43 (lv_at hl 0 rfl) ?_
          refine m_lald (n := k) hx hb hK hP (by omega) (sh_w E _ (by omega)) rfl (by omega) (by decide) dR_reduce_45 ?_
          refine lv_lstore hx hb dR_reduce_46 hl (by decide) rfl (fun ls hl => ?_)
          have hl : lv_has ls 8 [(6, .long (jl (M2 (24 + k) k))), (5, .int (ji ((k:Int)))), (3, .long (jl (bef p k))), (0, .ref (E.2.1 3)), (1, .ref (E.2.1 (5 + f))), (2, .ref (E.2.1 (17 + f)))] := hl
          refine lv_aload_n hx hb dR_reduce_48 rfl (lv_at hl 5 rfl) ?_
          refine lv_lload hx hb dR_reduce_49 (lv_at hl 0 rfl) ?_
          refine pm_G (As := [.long (jl (M2 (24 + k) k))]) (rest := [.ref (E.2.1 (17 + f))]) hx hb hml hown hg hl (kW_classOf l (M2 (24 + k) k) (by have := hpx.2.1; show _ ≤ tb M2 k k ∧ tb M2 k k ≤ _; omega) hpx.1) wd145 wd146 wd11 wd147 ⟨rfl, rfl⟩ (n := 1) (by decide +kernel) rfl ⟨by decide, by decide⟩ rfl (Nat.le_of_ble_eq_true rfl) dR_reduce_51 ⟨Nat.zero_le _, Nat.zero_le _⟩ (fun r hr9 => ?_)
          subst hr9
          refine lv_lload_n hx hb dR_reduce_54 rfl (lv_at hl 2 rfl) ?_
          refine pm_G (As := [.long (jl (bef p k))]) (rest := [.long (jl (sf (tb M2 k k))), .ref (E.2.1 (17 + f))]) hx hb hml hown hg hl (kW_classOf l (bef p k) (by omega) hb0.1) wd145 wd146 wd11 wd147 ⟨rfl, rfl⟩ (n := 1) (by decide +kernel) rfl ⟨by decide, by decide⟩ rfl (Nat.le_of_ble_eq_true rfl) dR_reduce_55 ⟨Nat.zero_le _, Nat.zero_le _⟩ (fun r hr9 => ?_)
          subst hr9
          refine pm_G (As := [.long (jl (sf (tb M2 k k))), .long (jl (sf (bef p k)))]) (rest := [.ref (E.2.1 (17 + f))]) hx hb hml hown hg hl (kW_classOfProduct l (sf (tb M2 k k)) (sf (bef p k)) (by omega) (by omega) hsn) wd155 wd156 wd11 wd157 ⟨rfl, rfl⟩ (n := 2) (by decide +kernel) rfl ⟨by decide, by decide⟩ rfl (Nat.le_of_ble_eq_true rfl) dR_reduce_58 ⟨Nat.zero_le _, Nat.zero_le _⟩ (fun r hr9 => ?_)
          subst hr9
          refine mm_V (As := [.long (jl (pr (sf (tb M2 k k)) (sf (bef p k))))]) (rest := []) hx hb hml hown hg hl hK hP hS (by omega) (sh_D E _ (by omega)) rfl (kD_addTerm l E hJ M2 f hf (pr (sf (tb M2 k k)) (sf (bef p k))) k hD2.2.1 (by omega) (by omega) (by rw [hD2.2.2.2.2.2.1]; exact sf_ne hb0.1) (by rw [hD2.2.2.2.2.2.1]; omega)) wd164 wd165 wd166 wd4 wd167 ⟨rfl, rfl⟩ (n := 1) (by decide +kernel) rfl ⟨by decide, by decide⟩ rfl (Nat.le_of_ble_eq_true rfl) dR_reduce_61 ⟨Nat.zero_le _, Nat.zero_le _⟩ (fun v M3 H locs hq3 hP hS => ?_)
          obtain ⟨rfl, a1, a2, a3, a4, a5, a6, a7, a8, a9⟩ := hq3
          obtain ⟨d1, d2, d3', d4', d5, d6, d7, d8⟩ := hD2
          have hSL3 : SL c (M3 (21 + f)) (Sp p k) := by rw [a9 (21 + f) (by omega) (by omega)]; exact d8
          refine lv_aload_n hx hb dR_reduce_64 rfl (lv_at hl 5 rfl) ?_
          refine lv_lload hx hb dR_reduce_65 (lv_at hl 0 rfl) ?_
          refine mm_V (As := [.long (jl (M2 (24 + k) k))]) (rest := []) hx hb hml hown hg hl hK hP hS (by omega) (sh_D E _ (by omega)) rfl (kD_addPrimesOf l E hJ M3 f hf (tb M2 k k) hpx.1 (by omega) c (jB k) (a8.trans d7) (by have := cB_le (k := k + 1) (by omega); have : cB (k + 1) = cB k + jB k := rfl; omega) (Sp p k) hSL3 (fun q hq => (Sp_bd hpB hq).2) hpx.2.2) wd169 wd170 wd171 wd4 wd172 ⟨rfl, rfl⟩ (n := 1) (by decide +kernel) rfl ⟨by decide, by decide⟩ rfl (Nat.le_of_ble_eq_true rfl) dR_reduce_67 ⟨Nat.zero_le _, Nat.zero_le _⟩ (fun v M4 H locs hq4 hP hS => ?_)
          obtain ⟨rfl, ⟨c9, c1, c2, c3⟩, c4, c5⟩ := hq4
          have hT4 : tb M4 = tb M2 := by
            funext a b
            show M4 (24 + a) b = M2 (24 + a) b
            rw [c4 (24 + a) (by omega) (by omega), a9 (24 + a) (by omega) (by omega)]
          have hs4 : M4 3 1 = n := by rw [c4 3 (by omega) (by omega), a9 3 (by omega) (by omega), hf2 3 (by omega)]; exact hs1
          have hT9 : ∀ a b, k ≤ a → a < n → k ≤ b → b < n → k + 1 < n → (tb M4 a b).natAbs ≤ 2000000000 := fun a b x1 x2 x3 x4 x5 => by
            rw [hT4]
            have y1 := (hsB a b x1 x2 x3 x4).2
            have y2 : tB k ≤ tB 2 := by
              rcases (by omega : k = 0 ∨ k = 1 ∨ k = 2) with q | q | q <;> subst q <;> decide
            have y3 : 4 * tB 2 ≤ 2000000000 := by decide
            omega
          have hT8 : ∀ a b, k ≤ a → a < n → k ≤ b → b < n → (tb M4 a b).natAbs ≤ 2000000000 := fun a b x1 x2 x3 x4 => by
            rcases Nat.lt_or_ge (k + 1) n with x5 | x5
            · exact hT9 a b x1 x2 x3 x4 x5
            · rw [show a = k by omega, show b = k by omega, hT4]
              have := hpx.2.1
              omega
          refine lv_aload_n hx hb dR_reduce_70 rfl (lv_at hl 3 rfl) ?_
          refine lv_iload hx hb dR_reduce_71 (lv_at hl 1 rfl) ?_
          refine lv_lload hx hb dR_reduce_73 (lv_at hl 0 rfl) ?_
          refine lv_lload_n hx hb dR_reduce_75 rfl (lv_at hl 2 rfl) ?_
          refine mm_V (As := [.int (ji ((k:Int))), .long (jl (M2 (24 + k) k)), .long (jl (bef p k))]) (rest := []) hx hb hml hown hg hl hK hP hS (by omega) (sh_R E _) rfl (kR_eliminate l E hJ M4 n hs4 hn4 k hkn (tb M2 k k) (bef p k) (by have := hpx.2.1; omega) (by omega) hb0.1 hT8) wd176 wd178 wds6 wd2 wd179 ⟨rfl, rfl⟩ (n := 3) (by decide +kernel) rfl ⟨by decide, by decide⟩ rfl (Nat.le_of_ble_eq_true rfl) dR_reduce_76 ⟨Nat.zero_le _, Nat.zero_le _⟩ (fun v M5 H locs hq5 hP hS => ?_)
          obtain ⟨rfl, z1, z2⟩ := hq5
          rw [hT4] at z1
          refine lv_lload hx hb dR_reduce_79 (lv_at hl 0 rfl) ?_
          refine lv_lstore_n hx hb dR_reduce_81 rfl hl (by decide) rfl (fun ls hl => ?_)
          have hl : lv_has ls 8 [(3, .long (jl (M2 (24 + k) k))), (6, .long (jl (M2 (24 + k) k))), (5, .int (ji ((k:Int)))), (0, .ref (E.2.1 3)), (1, .ref (E.2.1 (5 + f))), (2, .ref (E.2.1 (17 + f)))] := hl
          refine lv_iinc (k := 2) (v := ji (((k:Int)) + 1)) hx hb dR_reduce_82 hl rfl (Int32.ofInt_add _ _).symm (by decide) rfl (fun ls hl => ?_)
          have hl : lv_has ls 8 [(5, .int (ji (((k:Int)) + 1))), (3, .long (jl (M2 (24 + k) k))), (6, .long (jl (M2 (24 + k) k))), (0, .ref (E.2.1 3)), (1, .ref (E.2.1 (5 + f))), (2, .ref (E.2.1 (17 + f)))] := hl
          refine lv_goto hx hb dR_reduce_85 rfl ?_
          have hD5 : DgS M5 f n (k + 1) (fun i => if i = k then tb M2 k k else p i) c9 := by
            have q17 : M5 (17 + f) = M4 (17 + f) := z2 _ (by omega)
            have q19 : M5 (19 + f) = M3 (19 + f) := (z2 _ (by omega)).trans (c4 _ (by omega) (by omega))
            have q21 : M5 (21 + f) = M4 (21 + f) := z2 _ (by omega)
            refine ⟨?_, ?_, fun i hi => ?_, ?_, ?_, ?_, ?_, ?_⟩
            · rw [q17, c5 2 (by omega), a7, d1]
            · rw [q17, c5 3 (by omega), a1]; rfl
            · rw [q19]
              by_cases hik : i = k
              · rw [hik, a2, etr]
              · rw [a3 i hik, d3' i (by omega)]
                exact (tr_cg hp' (by omega)).symm
            · rw [q17, c5 4 (by omega), a4, d4']
              show _ = ps _ k + _
              rw [ps_cg hp', etr]
            · rw [q17, c5 5 (by omega), a5, d5]
              show _ = ng _ k + _
              rw [ng_cg hp', etr]
            · rw [q17, c5 6 (by omega), a6, d6, pr_pr (sf_ne hb0.1) hsn (sf_sq hpx.1)]
              show _ = sf ((fun i => if i = k then tb M2 k k else p i) k)
              rw [hpk]
            · rw [q17]; exact c2
            · rw [q21]
              refine c3.to (fun q => ⟨?_, ?_⟩)
              · rintro (h | h)
                · rcases h with h | ⟨i, i1, i2, i3⟩
                  · exact Or.inl h
                  · exact Or.inr ⟨i, by omega, i2, by rw [hp' i i1]; exact i3⟩
                · exact Or.inr ⟨k, by omega, h.1, by rw [hpk]; exact h.2⟩
              · rintro (h | ⟨i, i1, i2, i3⟩)
                · exact Or.inl (Or.inl h)
                · by_cases hik : i = k
                  · rw [hik, hpk] at i3
                    exact Or.inr ⟨i2, i3⟩
                  · rw [hp' i (by omega)] at i3
                    exact Or.inl (Or.inr ⟨i, by omega, i2, i3⟩)
          have hF5 : ∀ q, q ≠ 3 → q ≠ 17 + f → q ≠ 19 + f → q ≠ 21 + f → (q < 24 ∨ 28 ≤ q) → M5 q = M q := fun q q1 q2 q3 q4 q5 => (z2 q q5).trans ((c4 q q2 q4).trans ((a9 q q2 q3).trans (hF2 q q1 q2 q3 q4 q5)))
          refine ih (k + 1) (fun i => if i = k then tb M2 k k else p i) c9 M5 H locs ls (by omega) (by rw [z2 3 (by omega)]; exact hs4) ⟨tb M1, tb M2, PVs.cg hp' hPV, hkn, hbp, hpk.symm, ?_⟩ hpB' (by show c9 ≤ cB k + jB k; omega) hD5 hF5 hP hS ?_
          · rw [hpk, e0]; exact z1
          · have e9 : bef (fun i => if i = k then tb M2 k k else p i) (k + 1) = M2 (24 + k) k := hpk
            rw [e9]
            exact lv_sub hl [0, 1, 3, 4, 5] rfl
  refine lv_aload_n hx hb dR_reduce_0 rfl (lv_at hl 0 rfl) ?_
  refine lv_aload_n hx hb dR_reduce_1 rfl (lv_at hl 1 rfl) ?_
  refine mm_V (As := [.ref (E.2.1 (5 + f))]) (rest := []) hx hb hml hown hg hl hK hP hS (by omega) (sh_R E _) rfl (kR_copyNumbers l E hJ M f hf n hn0 hn4 (fun i j hi hj => by have h9 : (M (9 + 4 * f + i) j).natAbs ≤ 6 := (hA i j (by omega) hi (by omega) hj).2; omega)) wd121 wd123 wds1 wd2 wd124 ⟨rfl, rfl⟩ (n := 1) (by decide +kernel) rfl ⟨by decide, by decide⟩ rfl (Nat.le_of_ble_eq_true rfl) dR_reduce_2 ⟨Nat.zero_le _, Nat.zero_le _⟩ (fun v M1 H locs hq1 hP hS => ?_)
  obtain ⟨rfl, x1, x2, x3⟩ := hq1
  refine lv_aload_n hx hb dR_reduce_5 rfl (lv_at hl 2 rfl) ?_
  refine lv_aload_n hx hb dR_reduce_6 rfl (lv_at hl 0 rfl) ?_
  refine m_get (C := "RationalForms$Reduction") (T := TxR) (N := 2) hx hb hg uwR hown hK hP (by omega) (sh_R E _) rfl 1 (by decide) wd36 rfl dR_reduce_7 ?_
  rw [x1]
  refine mm_V (As := [.int (ji ((n:Int)))]) (rest := []) hx hb hml hown hg hl hK hP hS (by omega) (sh_D E _ (by omega)) rfl (kD_restart l E hJ M1 f hf (n : Int)) wd125 wd126 wd127 wd4 wd128 ⟨rfl, rfl⟩ (n := 1) (by decide +kernel) rfl ⟨by decide, by decide⟩ rfl (Nat.le_of_ble_eq_true rfl) dR_reduce_10 ⟨Nat.zero_le _, Nat.zero_le _⟩ (fun v M2 H locs hq2 hP hS => ?_)
  obtain ⟨rfl, y1, y2, y3, y4, y5, ⟨c9, y6, y7, y8⟩, y9⟩ := hq2
  refine j_lconst1 hx hb dR_reduce_13 ?_
  refine lv_lstore_n hx hb dR_reduce_14 rfl hl (by decide) rfl (fun ls hl => ?_)
  have hl : lv_has ls 8 [(3, .long (jl 1)), (0, .ref (E.2.1 3)), (1, .ref (E.2.1 (5 + f))), (2, .ref (E.2.1 (17 + f)))] := hl
  refine j_iconst hx hb dR_reduce_15 ?_
  refine lv_istore hx hb dR_reduce_16 hl (by decide) rfl (fun ls hl => ?_)
  have hl : lv_has ls 8 [(5, .int (ji 0)), (3, .long (jl 1)), (0, .ref (E.2.1 3)), (1, .ref (E.2.1 (5 + f))), (2, .ref (E.2.1 (17 + f)))] := hl
  refine loop n 0 (fun _ => 0) c9 M2 H locs ls (by omega) (by rw [y9 3 (by omega) (by omega)]; exact x1) ?_ (fun i hi => by omega) y6 ⟨y1, by rw [y2]; rfl, fun i hi => by omega, y3, y4, by rw [y5]; exact sf_1.symm, y7, y8.to (fun q => ⟨Or.inl, fun h => h.elim id (fun h => by obtain ⟨i, i1, -⟩ := h; omega)⟩)⟩ (fun q q1 q2 q3 q4 q5 => (y9 q q2 q4).trans (x3 q q1 q5)) hP hS hl
  intro a b ha hb
  show M2 (24 + a) b = _
  rw [y9 (24 + a) (by omega) (by omega)]
  exact x2 a b ha hb

set_option maxRecDepth 100000 in
set_option maxHeartbeats 4000000 in
theorem kF_valueFor (l : Launch) (E : En) (hJ : wJ E) (M : Me) (f : Nat) (hf : f < 2) (n : Nat) (hn0 : M (5 + f) 0 = n) (hn4 : n ≤ 4) (hA : ∀ i j, i < 4 → j < 4 → b32 (M (9 + 4 * f + i) j)) (hx9 : ∀ i, i < n → b32 (M 4 i)) : MM l yF_valueFor wsF_valueFor (rmd 0) E M [.ref (E.2.1 (5 + f)), .ref (E.2.1 4)] (fun v M9 => v = some (.long (jl (vf n (fun i j => M (9 + 4 * f + i) j) (M 4) n))) ∧ M9 = M) := by
  refine MM.ofG (by decide +kernel) (Nat.le_of_ble_eq_true rfl) ?_
  intro p_ e_ s_ m_ a_ b_ t_ c_ hx hb hml hr hk hg hown hK hP hS ls hl
  have hl : lv_has ls 6 [(0, .ref (E.2.1 (5 + f))), (1, .ref (E.2.1 4))] := hl
  have outer : ∀ (N i : Nat) (ls : Array Slot), i + N = n → lv_has ls 6 [(4, .int (ji ((i:Int)))), (2, .long (jl (vf n (fun i j => M (9 + 4 * f + i) j) (M 4) i))), (0, .ref (E.2.1 (5 + f))), (1, .ref (E.2.1 4))] → W p_ l e_ (rmd 0) s_ m_ a_ b_ t_ c_ s_.heap [] 0 0 (XQ b_ (mmQ E (fun v M9 => v = some (.long (jl (vf n (fun i j => M (9 + 4 * f + i) j) (M 4) n))) ∧ M9 = M)) a_ s_ 0 0 (wA E)) (F0 m_ 5 ls []) := by
    intro N
    induction N with
    | zero =>
      intro i ls h0 hl
      refine lv_iload hx hb dF_valueFor_5 (lv_at hl 0 rfl) ?_
      refine lv_aload_n hx hb dF_valueFor_7 rfl (lv_at hl 2 rfl) ?_
      refine m_get (C := "RationalForms$Form") (T := TxF) (N := 2) hx hb hg uwF hown hK hP (by omega) (sh_F E _ (by omega)) rfl 0 (by decide) wd50 rfl dF_valueFor_8 ?_
      refine j_icmp_ge hx hb (by omega) (by rw [hn0]; omega) dF_valueFor_11 rfl (fun h1 => ?_) (fun h1 => ?_)
      · have hin : i = n := by omega
        refine lv_lload_n hx hb dF_valueFor_64 rfl (lv_at hl 1 rfl) ?_
        exact mm_lret hx hb hr hk hP hS dF_valueFor_65 ⟨by rw [hin], rfl⟩
      · omega
    | succ N ih =>
      intro i ls h0 hl
      have inner : ∀ (K j : Nat) (ls : Array Slot), j + K = n → lv_has ls 6 [(5, .int (ji ((j:Int)))), (4, .int (ji ((i:Int)))), (2, .long (jl (vf n (fun i j => M (9 + 4 * f + i) j) (M 4) i + vfR n (fun i j => M (9 + 4 * f + i) j) (M 4) i j))), (0, .ref (E.2.1 (5 + f))), (1, .ref (E.2.1 4))] → W p_ l e_ (rmd 0) s_ m_ a_ b_ t_ c_ s_.heap [] 0 0 (XQ b_ (mmQ E (fun v M9 => v = some (.long (jl (vf n (fun i j => M (9 + 4 * f + i) j) (M 4) n))) ∧ M9 = M)) a_ s_ 0 0 (wA E)) (F0 m_ 17 ls []) := by
        intro K
        induction K with
        | zero =>
          intro j ls h1 hl
          refine lv_iload hx hb dF_valueFor_17 (lv_at hl 0 rfl) ?_
          refine lv_aload_n hx hb dF_valueFor_19 rfl (lv_at hl 3 rfl) ?_
          refine m_get (C := "RationalForms$Form") (T := TxF) (N := 2) hx hb hg uwF hown hK hP (by omega) (sh_F E _ (by omega)) rfl 0 (by decide) wd50 rfl dF_valueFor_20 ?_
          refine j_icmp_ge hx hb (by omega) (by rw [hn0]; omega) dF_valueFor_23 rfl (fun h2 => ?_) (fun h2 => ?_)
          · have hjn : j = n := by omega
            refine lv_iinc (k := 1) (v := ji (((i:Int)) + 1)) hx hb dF_valueFor_58 hl rfl (Int32.ofInt_add _ _).symm (by decide) rfl (fun ls hl => ?_)
            have hl : lv_has ls 6 [(4, .int (ji (((i:Int)) + 1))), (5, .int (ji ((j:Int)))), (2, .long (jl (vf n (fun i j => M (9 + 4 * f + i) j) (M 4) i + vfR n (fun i j => M (9 + 4 * f + i) j) (M 4) i j))), (0, .ref (E.2.1 (5 + f))), (1, .ref (E.2.1 4))] := hl
            refine lv_goto hx hb dF_valueFor_61 rfl ?_
            rw [hjn] at hl
            exact ih (i + 1) ls (by omega) (lv_sub hl [0, 2, 3, 4] rfl)
          · omega
        | succ K ihK =>
          intro j ls h1 hl
          refine lv_iload hx hb dF_valueFor_17 (lv_at hl 0 rfl) ?_
          refine lv_aload_n hx hb dF_valueFor_19 rfl (lv_at hl 3 rfl) ?_
          refine m_get (C := "RationalForms$Form") (T := TxF) (N := 2) hx hb hg uwF hown hK hP (by omega) (sh_F E _ (by omega)) rfl 0 (by decide) wd50 rfl dF_valueFor_20 ?_
          refine j_icmp_ge hx hb (by omega) (by rw [hn0]; omega) dF_valueFor_23 rfl (fun h2 => ?_) (fun h2 => ?_)
          · omega
          · refine lv_lload_n hx hb dF_valueFor_26 rfl (lv_at hl 2 rfl) ?_
            refine lv_aload_n hx hb dF_valueFor_27 rfl (lv_at hl 3 rfl) ?_
            refine m_get (C := "RationalForms$Form") (T := TxF) (N := 2) hx hb hg uwF hown hK hP (by omega) (sh_F E _ (by omega)) rfl 1 (by decide) wd53 rfl dF_valueFor_28 ?_
            refine lv_iload hx hb dF_valueFor_31 (lv_at hl 1 rfl) ?_
            refine m_aald (t0 := 2) (n := i) hx hb hK hP (by omega) (sh_o E _ (by omega)) rfl rfl rfl (by omega) (by decide) dF_valueFor_33 ?_
            refine lv_iload hx hb dF_valueFor_34 (lv_at hl 0 rfl) ?_
            refine m_iald (n := j) hx hb hK hP (by omega) (sh_n E _ (by omega) (by omega)) rfl (by omega) (by decide) dF_valueFor_36 ?_
            refine j_i2l hx hb (hA i j (by omega) (by omega)) dF_valueFor_37 ?_
            refine lv_aload_n hx hb dF_valueFor_38 rfl (lv_at hl 4 rfl) ?_
            refine lv_iload hx hb dF_valueFor_39 (lv_at hl 1 rfl) ?_
            refine m_iald (n := i) hx hb hK hP (by omega) (sh_pt E _) rfl (by omega) (by decide) dF_valueFor_41 ?_
            refine j_i2l hx hb (hx9 i (by omega)) dF_valueFor_42 ?_
            refine j_lmul hx hb dF_valueFor_43 ?_
            refine lv_aload_n hx hb dF_valueFor_44 rfl (lv_at hl 4 rfl) ?_
            refine lv_iload hx hb dF_valueFor_45 (lv_at hl 0 rfl) ?_
            refine m_iald (n := j) hx hb hK hP (by omega) (sh_pt E _) rfl (by omega) (by decide) dF_valueFor_47 ?_
            refine j_i2l hx hb (hx9 j (by omega)) dF_valueFor_48 ?_
            refine j_lmul hx hb dF_valueFor_49 ?_
            refine j_ladd hx hb dF_valueFor_50 ?_
            refine lv_lstore_n hx hb dF_valueFor_51 rfl hl (by decide) rfl (fun ls hl => ?_)
            have hl : lv_has ls 6 [(2, .long (jl ((vf n (fun i j => M (9 + 4 * f + i) j) (M 4) i + vfR n (fun i j => M (9 + 4 * f + i) j) (M 4) i j) + (((M (9 + 4 * f + i) j) * (M 4 i)) * (M 4 j))))), (5, .int (ji ((j:Int)))), (4, .int (ji ((i:Int)))), (0, .ref (E.2.1 (5 + f))), (1, .ref (E.2.1 4))] := hl
            refine lv_iinc (k := 1) (v := ji (((j:Int)) + 1)) hx hb dF_valueFor_52 hl rfl (Int32.ofInt_add _ _).symm (by decide) rfl (fun ls hl => ?_)
            have hl : lv_has ls 6 [(5, .int (ji (((j:Int)) + 1))), (2, .long (jl ((vf n (fun i j => M (9 + 4 * f + i) j) (M 4) i + vfR n (fun i j => M (9 + 4 * f + i) j) (M 4) i j) + (((M (9 + 4 * f + i) j) * (M 4 i)) * (M 4 j))))), (4, .int (ji ((i:Int)))), (0, .ref (E.2.1 (5 + f))), (1, .ref (E.2.1 4))] := hl
            refine lv_goto hx hb dF_valueFor_55 rfl ?_
            refine ihK (j + 1) ls (by omega) ?_
            have e9 : vf n (fun i j => M (9 + 4 * f + i) j) (M 4) i + vfR n (fun i j => M (9 + 4 * f + i) j) (M 4) i (j + 1) = vf n (fun i j => M (9 + 4 * f + i) j) (M 4) i + vfR n (fun i j => M (9 + 4 * f + i) j) (M 4) i j + M (9 + 4 * f + i) j * M 4 i * M 4 j := by
              show vf n (fun i j => M (9 + 4 * f + i) j) (M 4) i + (vfR n (fun i j => M (9 + 4 * f + i) j) (M 4) i j + M (9 + 4 * f + i) j * M 4 i * M 4 j) = _
              omega
            rw [e9]
            exact lv_sub hl [0, 2, 1, 3, 4] rfl
      refine lv_iload hx hb dF_valueFor_5 (lv_at hl 0 rfl) ?_
      refine lv_aload_n hx hb dF_valueFor_7 rfl (lv_at hl 2 rfl) ?_
      refine m_get (C := "RationalForms$Form") (T := TxF) (N := 2) hx hb hg uwF hown hK hP (by omega) (sh_F E _ (by omega)) rfl 0 (by decide) wd50 rfl dF_valueFor_8 ?_
      refine j_icmp_ge hx hb (by omega) (by rw [hn0]; omega) dF_valueFor_11 rfl (fun h1 => ?_) (fun h1 => ?_)
      · omega
      · refine j_iconst hx hb dF_valueFor_14 ?_
        refine lv_istore hx hb dF_valueFor_15 hl (by decide) rfl (fun ls hl => ?_)
        have hl : lv_has ls 6 [(5, .int (ji 0)), (4, .int (ji ((i:Int)))), (2, .long (jl (vf n (fun i j => M (9 + 4 * f + i) j) (M 4) i))), (0, .ref (E.2.1 (5 + f))), (1, .ref (E.2.1 4))] := hl
        refine inner n 0 ls (by omega) ?_
        rw [show vf n (fun i j => M (9 + 4 * f + i) j) (M 4) i + vfR n (fun i j => M (9 + 4 * f + i) j) (M 4) i 0 = vf n (fun i j => M (9 + 4 * f + i) j) (M 4) i from Int.add_zero _]
        exact hl
  refine j_lconst0 hx hb dF_valueFor_0 ?_
  refine lv_lstore_n hx hb dF_valueFor_1 rfl hl (by decide) rfl (fun ls hl => ?_)
  have hl : lv_has ls 6 [(2, .long (jl 0)), (0, .ref (E.2.1 (5 + f))), (1, .ref (E.2.1 4))] := hl
  refine j_iconst hx hb dF_valueFor_2 ?_
  refine lv_istore hx hb dF_valueFor_3 hl (by decide) rfl (fun ls hl => ?_)
  have hl : lv_has ls 6 [(4, .int (ji 0)), (2, .long (jl 0)), (0, .ref (E.2.1 (5 + f))), (1, .ref (E.2.1 4))] := hl
  exact outer n 0 ls (by omega) hl
