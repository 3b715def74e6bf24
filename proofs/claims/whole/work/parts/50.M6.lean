/-! the reference: put, obstacle, takes, sign -/
theorem zM2 {D : Int} {t : Nat → Int} {bo : Prop} (h : zM 2 D t bo 0) : 0 < -D := by
  rcases h with h | h | h | h
  · have := h.2; unfold sqM at this; rwa [if_pos rfl] at this
  · omega
  · omega
  · omega
/-- the terms with one more -/
noncomputable def trx (p : Nat → Int) (r : Nat) (c : Int) : Nat → Int := fun i => if i < r then tr p i else c
def box (p : Nat → Int) (r : Nat) (c : Int) : Prop := (0 < ps p r ∧ 0 < ng p r) ∨ (0 < ps p r ∧ c < 0) ∨ (0 < ng p r ∧ 0 < c)
def Sx (S : Nat → Prop) (c : Int) (q : Nat) : Prop := S q ∨ (prm q ∧ q ∣ c.natAbs)
def tkM (n : Nat) (r : Nat) (p : Nat → Int) (c : Int) (z : Prop) : Prop := (r = 0 → ¬ z) ∧ (r ≠ 0 → ∃ w : Int, oMs (Sx (Sq p r) c) (zM (r + 1) (pr (sf (bef p r)) c) (trx p r c) (box p r c)) (r + 1) (pr (sf (bef p r)) c) w ∧ (z ↔ w < 0))
def obM (n r : Nat) (p : Nat → Int) (z : Int) : Prop := (r < n → z = -1) ∧ (¬ r < n → oMs (Sq p r) (zM r (sf (bef p r)) (tr p) (0 < ps p r ∧ 0 < ng p r)) r (sf (bef p r)) z)
/-- the primes of minus signs -/
def mnM (p : Nat → Int) (r q : Nat) : Prop := Sq p r q ∧ hs (fun a b => syM a b q) (tr p) r = -1
set_option maxRecDepth 20000 in
theorem wd595 : Cond.methodLink "RationalFormsModel" 122 yM_obstacleOf ∈ GG := GG_t 595 rfl rfl
set_option maxRecDepth 20000 in
theorem wd597 : Cond.instanceMethod yM_obstacleOf ∈ GG := GG_t 597 rfl rfl
set_option maxRecDepth 20000 in
theorem wd598 : Cond.code yM_obstacleOf cM_obstacleOf 7 (some .int) ∈ GG := GG_t 598 rfl rfl
set_option maxRecDepth 20000 in
theorem wd607 : Cond.methodLink "RationalFormsModel" 129 yM_noteSigns ∈ GG := GG_t 607 rfl rfl
set_option maxRecDepth 20000 in
theorem wd609 : Cond.instanceMethod yM_noteSigns ∈ GG := GG_t 609 rfl rfl
set_option maxRecDepth 20000 in
theorem wd610 : Cond.code yM_noteSigns cM_noteSigns 2 none ∈ GG := GG_t 610 rfl rfl
set_option maxRecDepth 20000 in
theorem wds19 : Cond.selects "RationalFormsModel" yM_obstacleOf yM_obstacleOf ∈ GG := GG_s 19 rfl rfl
set_option maxRecDepth 20000 in
theorem wds20 : Cond.selects "RationalFormsModel" yM_noteSigns yM_noteSigns ∈ GG := GG_s 20 rfl rfl
set_option maxRecDepth 100000 in
set_option maxHeartbeats 4000000 in
theorem kM_put (l : Launch) (E : En) (hJ : wJ E) (M : Me) (f i j v : Int) (hf : b32 f) (hi : b32 i) (hj : b32 j) (hv : b32 v) (nn : Nat → Nat) (hI : ∀ g, g < 2 → MI M g (nn g)) : MM l yM_put wsM_put (rmd 1) E M [.ref (E.2.1 28), .int (ji f), .int (ji i), .int (ji j), .int (ji v)] (fun w M9 => ∃ z : Int, w = some (.int (ji z)) ∧ b32 z ∧ (¬ (fo f ∧ -6 ≤ v ∧ v ≤ 6) → M9 28 12 = 1 ∧ FrQ M M9) ∧ ((fo f ∧ -6 ≤ v ∧ v ≤ 6) → ¬ (0 ≤ i ∧ 0 ≤ j ∧ ∀ g : Nat, f = g → i < nn g ∧ j < nn g) → M9 28 12 = 2 ∧ FrQ M M9) ∧ ((fo f ∧ -6 ≤ v ∧ v ≤ 6) → (0 ≤ i ∧ 0 ≤ j ∧ ∀ g : Nat, f = g → i < nn g ∧ j < nn g) → ∀ g a b : Nat, f = g → i = a → j = b → z = M 30 (16 * g + (4 * a + b)) ∧ M9 = mu (mu (mu M 28 12 0) 30 (16 * g + (4 * a + b)) v) 30 (16 * g + (4 * b + a)) v)) := by
  refine MM.ofG (by decide +kernel) (Nat.le_of_ble_eq_true rfl) ?_
  intro p_ e_ s_ m_ a_ b_ t_ c_ hx hb hml hr hk hg hown hK hP hS ls hl
  have hl : lv_has ls 6 [(0, .ref (E.2.1 28)), (1, .int (ji f)), (2, .int (ji i)), (3, .int (ji j)), (4, .int (ji v))] := hl
  have bad : ∀ (ls : Array Slot), ¬ (fo f ∧ -6 ≤ v ∧ v ≤ 6) → lv_has ls 6 [(0, .ref (E.2.1 28)), (1, .int (ji f)), (2, .int (ji i)), (3, .int (ji j)), (4, .int (ji v))] → W p_ l e_ (rmd 1) s_ m_ a_ b_ t_ c_ s_.heap [] 0 0 (XQ b_ (mmQ E (fun w M9 => ∃ z : Int, w = some (.int (ji z)) ∧ b32 z ∧ (¬ (fo f ∧ -6 ≤ v ∧ v ≤ 6) → M9 28 12 = 1 ∧ FrQ M M9) ∧ ((fo f ∧ -6 ≤ v ∧ v ≤ 6) → ¬ (0 ≤ i ∧ 0 ≤ j ∧ ∀ g : Nat, f = g → i < nn g ∧ j < nn g) → M9 28 12 = 2 ∧ FrQ M M9) ∧ ((fo f ∧ -6 ≤ v ∧ v ≤ 6) → (0 ≤ i ∧ 0 ≤ j ∧ ∀ g : Nat, f = g → i < nn g ∧ j < nn g) → ∀ g a b : Nat, f = g → i = a → j = b → z = M 30 (16 * g + (4 * a + b)) ∧ M9 = mu (mu (mu M 28 12 0) 30 (16 * g + (4 * a + b)) v) 30 (16 * g + (4 * b + a)) v))) a_ s_ 0 0 (wA E)) (F0 m_ 22 ls [.ref (E.2.1 28)]) := by
    intro ls hno hl
    refine j_iconst hx hb dM_put_22 ?_
    refine lv_goto hx hb dM_put_23 rfl ?_
    refine m_put (C := "RationalFormsModel") (T := TxM) (N := 13) (ty := .int) (z := 1) hx hb hg uwM txM txM_ok nmM hown hK hJ hP hS (by omega) (sh_M E _) rfl 12 (by decide) wd471 rfl rfl rfl rfl (Nat.le_of_ble_eq_true rfl) (by rw [sh_M E _]; simp [mu]) dM_put_59 (fun H locs hP hS => ?_)
    refine lv_aload_n hx hb dM_put_62 rfl (lv_at hl 0 rfl) ?_
    refine m_get (C := "RationalFormsModel") (T := TxM) (N := 13) hx hb hg uwM hown hK hP (by omega) (sh_M E _) rfl 12 (by decide) wd471 rfl dM_put_63 ?_
    refine j_if_eq hx hb (by rw [mu_s]; decide) dM_put_66 rfl (fun h9 => ?_) (fun h9 => ?_)
    · rw [mu_s] at h9
      omega
    · refine j_iconst hx hb dM_put_69 ?_
      exact mm_iret hx hb hr hk hP hS dM_put_70 ⟨0, rfl, by decide, fun _ => ⟨mu_s _ _ _ _, fun q hq => mu_k (by omega)⟩, fun q => absurd q hno, fun q => absurd q hno⟩
  have bad2 : ∀ (f9 : Int) (ls : Array Slot), (fo f ∧ -6 ≤ v ∧ v ≤ 6) → ¬ (0 ≤ i ∧ 0 ≤ j ∧ ∀ g : Nat, f = g → i < nn g ∧ j < nn g) → lv_has ls 6 [(0, .ref (E.2.1 28)), (1, .int (ji f9)), (2, .int (ji i)), (3, .int (ji j)), (4, .int (ji v))] → W p_ l e_ (rmd 1) s_ m_ a_ b_ t_ c_ s_.heap [] 0 0 (XQ b_ (mmQ E (fun w M9 => ∃ z : Int, w = some (.int (ji z)) ∧ b32 z ∧ (¬ (fo f ∧ -6 ≤ v ∧ v ≤ 6) → M9 28 12 = 1 ∧ FrQ M M9) ∧ ((fo f ∧ -6 ≤ v ∧ v ≤ 6) → ¬ (0 ≤ i ∧ 0 ≤ j ∧ ∀ g : Nat, f = g → i < nn g ∧ j < nn g) → M9 28 12 = 2 ∧ FrQ M M9) ∧ ((fo f ∧ -6 ≤ v ∧ v ≤ 6) → (0 ≤ i ∧ 0 ≤ j ∧ ∀ g : Nat, f = g → i < nn g ∧ j < nn g) → ∀ g a b : Nat, f = g → i = a → j = b → z = M 30 (16 * g + (4 * a + b)) ∧ M9 = mu (mu (mu M 28 12 0) 30 (16 * g + (4 * a + b)) v) 30 (16 * g + (4 * b + a)) v))) a_ s_ 0 0 (wA E)) (F0 m_ 54 ls [.ref (E.2.1 28)]) := by
    intro f9 ls hok hno hl
    refine j_iconst hx hb dM_put_54 ?_
    refine lv_goto hx hb dM_put_55 rfl ?_
    refine m_put (C := "RationalFormsModel") (T := TxM) (N := 13) (ty := .int) (z := 2) hx hb hg uwM txM txM_ok nmM hown hK hJ hP hS (by omega) (sh_M E _) rfl 12 (by decide) wd471 rfl rfl rfl rfl (Nat.le_of_ble_eq_true rfl) (by rw [sh_M E _]; simp [mu]) dM_put_59 (fun H locs hP hS => ?_)
    refine lv_aload_n hx hb dM_put_62 rfl (lv_at hl 0 rfl) ?_
    refine m_get (C := "RationalFormsModel") (T := TxM) (N := 13) hx hb hg uwM hown hK hP (by omega) (sh_M E _) rfl 12 (by decide) wd471 rfl dM_put_63 ?_
    refine j_if_eq hx hb (by rw [mu_s]; decide) dM_put_66 rfl (fun h9 => ?_) (fun h9 => ?_)
    · rw [mu_s] at h9
      omega
    · refine j_iconst hx hb dM_put_69 ?_
      exact mm_iret hx hb hr hk hP hS dM_put_70 ⟨0, rfl, by decide, fun q => absurd hok q, fun _ _ => ⟨mu_s _ _ _ _, fun q hq => mu_k (by omega)⟩, fun _ q => absurd q hno⟩
  refine lv_aload_n hx hb dM_put_0 rfl (lv_at hl 0 rfl) ?_
  refine lv_iload_n hx hb dM_put_1 rfl (lv_at hl 1 rfl) ?_
  refine pm_G (As := [.int (ji f)]) (rest := [.ref (E.2.1 28)]) hx hb hml hown hg hl (kM_isForm l f hf) wd507 wd508 wd5 wd509 ⟨rfl, rfl⟩ (n := 1) (by decide +kernel) rfl ⟨by decide, by decide⟩ rfl (Nat.le_of_ble_eq_true rfl) dM_put_2 ⟨Nat.zero_le _, Nat.zero_le _⟩ (fun r hr9 => ?_)
  subst hr9
  refine j_if_eq hx hb (bi_b32 _) dM_put_5 rfl (fun h1 => ?_) (fun h1 => ?_)
  · exact bad ls (fun q => bi_eq h1 q.1) hl
  · have hfo := bi_ne h1
    refine lv_iload hx hb dM_put_8 (lv_at hl 4 rfl) ?_
    refine j_bipush hx hb dM_put_10 rfl ?_
    refine j_icmp_lt hx hb (by omega) (by omega) dM_put_12 rfl (fun h2 => ?_) (fun h2 => ?_)
    · exact bad ls (by omega) hl
    · refine lv_iload hx hb dM_put_15 (lv_at hl 4 rfl) ?_
      refine j_bipush hx hb dM_put_17 rfl ?_
      refine j_icmp_le hx hb (by omega) (by omega) dM_put_19 rfl (fun h3 => ?_) (fun h3 => ?_)
      · obtain ⟨g, hg2, hfg⟩ := fo_g hfo
        have hok : (fo f ∧ -6 ≤ v ∧ v ≤ 6) := ⟨hfo, h2, h3⟩
        have hI9 := hI g hg2
        have h29 := hI9.1
        have hn4 := hI9.2.2.1
        rw [hfg] at hl
        refine lv_iload_n hx hb dM_put_26 rfl (lv_at hl 2 rfl) ?_
        refine j_if_lt hx hb (by omega) dM_put_27 rfl (fun h4 => ?_) (fun h4 => ?_)
        · exact bad2 g ls hok (fun q => by omega) hl
        · refine lv_iload_n hx hb dM_put_30 rfl (lv_at hl 3 rfl) ?_
          refine j_if_lt hx hb (by omega) dM_put_31 rfl (fun h5 => ?_) (fun h5 => ?_)
          · exact bad2 g ls hok (fun q => by omega) hl
          · refine lv_iload_n hx hb dM_put_34 rfl (lv_at hl 2 rfl) ?_
            refine lv_aload_n hx hb dM_put_35 rfl (lv_at hl 0 rfl) ?_
            refine m_get (C := "RationalFormsModel") (T := TxM) (N := 13) hx hb hg uwM hown hK hP (by omega) (sh_M E _) rfl 0 (by decide) wd459 rfl dM_put_36 ?_
            refine lv_iload_n hx hb dM_put_39 rfl (lv_at hl 1 rfl) ?_
            refine m_iald (n := g) hx hb hK hP (by omega) (sh_29 E _) (by omega) (by omega) (by decide) dM_put_40 ?_
            refine j_icmp_ge hx hb hi (by rw [h29]; omega) dM_put_41 rfl (fun h6 => ?_) (fun h6 => ?_)
            · rw [h29] at h6
              exact bad2 g ls hok (fun q => by have := (q.2.2 g hfg).1; omega) hl
            · rw [h29] at h6
              refine lv_iload_n hx hb dM_put_44 rfl (lv_at hl 3 rfl) ?_
              refine lv_aload_n hx hb dM_put_45 rfl (lv_at hl 0 rfl) ?_
              refine m_get (C := "RationalFormsModel") (T := TxM) (N := 13) hx hb hg uwM hown hK hP (by omega) (sh_M E _) rfl 0 (by decide) wd459 rfl dM_put_46 ?_
              refine lv_iload_n hx hb dM_put_49 rfl (lv_at hl 1 rfl) ?_
              refine m_iald (n := g) hx hb hK hP (by omega) (sh_29 E _) (by omega) (by omega) (by decide) dM_put_50 ?_
              refine j_icmp_lt hx hb hj (by rw [h29]; omega) dM_put_51 rfl (fun h7 => ?_) (fun h7 => ?_)
              · rw [h29] at h7
                have ho2 : (0 ≤ i ∧ 0 ≤ j ∧ ∀ g : Nat, f = g → i < nn g ∧ j < nn g) := ⟨h4, h5, fo_u (P := fun g => i < nn g ∧ j < nn g) hfg ⟨h6, h7⟩⟩
                obtain ⟨a, hia⟩ : ∃ a : Nat, i = a := ⟨i.toNat, by omega⟩
                obtain ⟨b, hjb⟩ : ∃ b : Nat, j = b := ⟨j.toNat, by omega⟩
                have hz6 := (hI9.2.2.2 a b (by omega) (by omega) (by omega) (by omega)).2
                rw [hia, hjb] at hl
                refine j_iconst hx hb dM_put_58 ?_
                refine m_put (C := "RationalFormsModel") (T := TxM) (N := 13) (ty := .int) (z := 0) hx hb hg uwM txM txM_ok nmM hown hK hJ hP hS (by omega) (sh_M E _) rfl 12 (by decide) wd471 rfl rfl rfl rfl (Nat.le_of_ble_eq_true rfl) (by rw [sh_M E _]; simp [mu]) dM_put_59 (fun H locs hP hS => ?_)
                refine lv_aload_n hx hb dM_put_62 rfl (lv_at hl 0 rfl) ?_
                refine m_get (C := "RationalFormsModel") (T := TxM) (N := 13) hx hb hg uwM hown hK hP (by omega) (sh_M E _) rfl 12 (by decide) wd471 rfl dM_put_63 ?_
                refine j_if_eq hx hb (by rw [mu_s]; decide) dM_put_66 rfl (fun h9 => ?_) (fun h9 => ?_)
                · refine lv_aload_n hx hb dM_put_71 rfl (lv_at hl 0 rfl) ?_
                  refine m_get (C := "RationalFormsModel") (T := TxM) (N := 13) hx hb hg uwM hown hK hP (by omega) (sh_M E _) rfl 1 (by decide) wd460 rfl dM_put_72 ?_
                  refine j_bipush hx hb dM_put_75 rfl ?_
                  refine lv_iload_n hx hb dM_put_77 rfl (lv_at hl 1 rfl) ?_
                  refine j_imul hx hb dM_put_78 ?_
                  refine j_iconst hx hb dM_put_79 ?_
                  refine lv_iload_n hx hb dM_put_80 rfl (lv_at hl 2 rfl) ?_
                  refine j_imul hx hb dM_put_81 ?_
                  refine j_iadd hx hb dM_put_82 ?_
                  refine lv_iload_n hx hb dM_put_83 rfl (lv_at hl 3 rfl) ?_
                  refine j_iadd hx hb dM_put_84 ?_
                  refine m_iald (n := 16 * g + (4 * a + b)) hx hb hK hP (by omega) (sh_30 E _) (by omega) (by omega) (by decide) dM_put_85 ?_
                  refine lv_istore hx hb dM_put_86 hl (by decide) rfl (fun ls hl => ?_)
                  have hl : lv_has ls 6 [(5, .int (ji ((mu M 28 12 0) 30 (16 * g + (4 * a + b))))), (0, .ref (E.2.1 28)), (1, .int (ji ((g:Int)))), (2, .int (ji ((a:Int)))), (3, .int (ji ((b:Int)))), (4, .int (ji v))] := hl
                  rw [mu_k (by omega)] at hl
                  refine lv_aload_n hx hb dM_put_88 rfl (lv_at hl 1 rfl) ?_
                  refine m_get (C := "RationalFormsModel") (T := TxM) (N := 13) hx hb hg uwM hown hK hP (by omega) (sh_M E _) rfl 1 (by decide) wd460 rfl dM_put_89 ?_
                  refine j_bipush hx hb dM_put_92 rfl ?_
                  refine lv_iload_n hx hb dM_put_94 rfl (lv_at hl 2 rfl) ?_
                  refine j_imul hx hb dM_put_95 ?_
                  refine j_iconst hx hb dM_put_96 ?_
                  refine lv_iload_n hx hb dM_put_97 rfl (lv_at hl 3 rfl) ?_
                  refine j_imul hx hb dM_put_98 ?_
                  refine j_iadd hx hb dM_put_99 ?_
                  refine lv_iload_n hx hb dM_put_100 rfl (lv_at hl 4 rfl) ?_
                  refine j_iadd hx hb dM_put_101 ?_
                  refine lv_iload hx hb dM_put_102 (lv_at hl 5 rfl) ?_
                  refine m_iast (n := 16 * g + (4 * a + b)) hx hb hK hJ hP hS (by omega) (fun r => sh_30 E r) (by omega) (by omega) (by decide) dM_put_104 (fun H locs hP hS => ?_)
                  refine lv_aload_n hx hb dM_put_105 rfl (lv_at hl 1 rfl) ?_
                  refine m_get (C := "RationalFormsModel") (T := TxM) (N := 13) hx hb hg uwM hown hK hP (by omega) (sh_M E _) rfl 1 (by decide) wd460 rfl dM_put_106 ?_
                  refine j_bipush hx hb dM_put_109 rfl ?_
                  refine lv_iload_n hx hb dM_put_111 rfl (lv_at hl 2 rfl) ?_
                  refine j_imul hx hb dM_put_112 ?_
                  refine j_iconst hx hb dM_put_113 ?_
                  refine lv_iload_n hx hb dM_put_114 rfl (lv_at hl 4 rfl) ?_
                  refine j_imul hx hb dM_put_115 ?_
                  refine j_iadd hx hb dM_put_116 ?_
                  refine lv_iload_n hx hb dM_put_117 rfl (lv_at hl 3 rfl) ?_
                  refine j_iadd hx hb dM_put_118 ?_
                  refine lv_iload hx hb dM_put_119 (lv_at hl 5 rfl) ?_
                  refine m_iast (n := 16 * g + (4 * b + a)) hx hb hK hJ hP hS (by omega) (fun r => sh_30 E r) (by omega) (by omega) (by decide) dM_put_121 (fun H locs hP hS => ?_)
                  refine lv_iload hx hb dM_put_122 (lv_at hl 0 rfl) ?_
                  exact mm_iret hx hb hr hk hP hS dM_put_124 ⟨M 30 (16 * g + (4 * a + b)), rfl, by simp only [aM] at hz6; omega, fun q => absurd hok q, fun _ q => absurd ho2 q, fun _ _ g' a' b' e1 e2 e3 => by rw [show g' = g by omega, show a' = a by omega, show b' = b by omega]; exact ⟨rfl, rfl⟩⟩
                · exact absurd (mu_s _ _ _ _) h9
              · rw [h29] at h7
                exact bad2 g ls hok (fun q => by have := (q.2.2 g hfg).2; omega) hl
      · exact bad ls (by omega) hl

set_option maxRecDepth 100000 in
set_option maxHeartbeats 4000000 in
theorem kM_obstacle (l : Launch) (E : En) (hJ : wJ E) (M : Me) (f : Int) (hf : b32 f) (nn : Nat → Nat) (hI : ∀ g, g < 2 → MI M g (nn g)) : MM l yM_obstacle wsM_obstacle (rmd 5) E M [.ref (E.2.1 28), .int (ji f)] (fun v M9 => (∃ z : Int, v = some (.int (ji z)) ∧ b32 z ∧ (¬ fo f → M9 28 12 = 1) ∧ (fo f → M9 28 12 = 0 ∧ ∀ g : Nat, f = g → ∃ r p, fpv (nn g) (aM M g) r p ∧ obM (nn g) r p z)) ∧ FrQ M M9) := by
  refine MM.ofG (by decide +kernel) (Nat.le_of_ble_eq_true rfl) ?_
  intro p_ e_ s_ m_ a_ b_ t_ c_ hx hb hml hr hk hg hown hK hP hS ls hl
  have hl : lv_has ls 2 [(0, .ref (E.2.1 28)), (1, .int (ji f))] := hl
  refine lv_aload_n hx hb dM_obstacle_0 rfl (lv_at hl 0 rfl) ?_
  refine lv_iload_n hx hb dM_obstacle_1 rfl (lv_at hl 1 rfl) ?_
  refine pm_G (As := [.int (ji f)]) (rest := [.ref (E.2.1 28)]) hx hb hml hown hg hl (kM_isForm l f hf) wd507 wd508 wd5 wd509 ⟨rfl, rfl⟩ (n := 1) (by decide +kernel) rfl ⟨by decide, by decide⟩ rfl (Nat.le_of_ble_eq_true rfl) dM_obstacle_2 ⟨Nat.zero_le _, Nat.zero_le _⟩ (fun r hr9 => ?_)
  subst hr9
  refine j_if_eq hx hb (bi_b32 _) dM_obstacle_5 rfl (fun h1 => ?_) (fun h1 => ?_)
  · have hfo : ¬ fo f := bi_eq h1
    refine j_iconst hx hb dM_obstacle_12 ?_
    refine m_put (C := "RationalFormsModel") (T := TxM) (N := 13) (ty := .int) (z := 1) hx hb hg uwM txM txM_ok nmM hown hK hJ hP hS (by omega) (sh_M E _) rfl 12 (by decide) wd471 rfl rfl rfl rfl (Nat.le_of_ble_eq_true rfl) (by rw [sh_M E _]; simp [mu]) dM_obstacle_13 (fun H locs hP hS => ?_)
    refine lv_aload_n hx hb dM_obstacle_16 rfl (lv_at hl 0 rfl) ?_
    refine m_get (C := "RationalFormsModel") (T := TxM) (N := 13) hx hb hg uwM hown hK hP (by omega) (sh_M E _) rfl 12 (by decide) wd471 rfl dM_obstacle_17 ?_
    refine j_if_eq hx hb (by first | (rw [mu_s]; decide) | (rw [h12]; decide)) dM_obstacle_20 rfl (fun h9 => ?_) (fun h9 => ?_)
    · rw [mu_s] at h9
      omega
    · refine j_iconst hx hb dM_obstacle_23 ?_
      exact mm_iret hx hb hr hk hP hS dM_obstacle_24 ⟨⟨0, rfl, by decide, fun _ => mu_s _ _ _ _, fun q => absurd q hfo⟩, fun q hq => mu_k (by omega)⟩
  · have hfo : fo f := bi_ne h1
    obtain ⟨g, hg2, hfg⟩ := fo_g hfo
    refine j_iconst hx hb dM_obstacle_8 ?_
    refine lv_goto hx hb dM_obstacle_9 rfl ?_
    refine m_put (C := "RationalFormsModel") (T := TxM) (N := 13) (ty := .int) (z := 0) hx hb hg uwM txM txM_ok nmM hown hK hJ hP hS (by omega) (sh_M E _) rfl 12 (by decide) wd471 rfl rfl rfl rfl (Nat.le_of_ble_eq_true rfl) (by rw [sh_M E _]; simp [mu]) dM_obstacle_13 (fun H locs hP hS => ?_)
    obtain ⟨M1, e1⟩ : ∃ X, X = mu M 28 12 0 := ⟨_, rfl⟩
    rw [← e1] at hP
    have h29 : M1 29 = M 29 := by rw [e1]; exact mu_k (by omega)
    have h30 : M1 30 = M 30 := by rw [e1]; exact mu_k (by omega)
    have hq1 : ∀ q, q ≠ 28 → M1 q = M q := fun q hq => by rw [e1]; exact mu_k hq
    have h12 : M1 28 12 = 0 := by rw [e1]; exact mu_s _ _ _ _
    have hI9 := hI g hg2
    refine lv_aload_n hx hb dM_obstacle_16 rfl (lv_at hl 0 rfl) ?_
    refine m_get (C := "RationalFormsModel") (T := TxM) (N := 13) hx hb hg uwM hown hK hP (by omega) (sh_M E _) rfl 12 (by decide) wd471 rfl dM_obstacle_17 ?_
    refine j_if_eq hx hb (by first | (rw [mu_s]; decide) | (rw [h12]; decide)) dM_obstacle_20 rfl (fun h9 => ?_) (fun h9 => ?_)
    · rw [hfg] at hl
      refine lv_aload_n hx hb dM_obstacle_25 rfl (lv_at hl 0 rfl) ?_
      refine lv_iload_n hx hb dM_obstacle_26 rfl (lv_at hl 1 rfl) ?_
      refine mm_V (As := [.int (ji ((g:Int)))]) (rest := []) hx hb hml hown hg hl hK hP hS (by omega) (sh_M E _) rfl (kM_look l E hJ M1 g hg2 (nn g) (by rw [h29]; exact hI9.1) hI9.2.1 hI9.2.2.1 (by rw [h30]; exact hI9.2.2.2)) wd518 wd520 wds12 wd5 wd521 ⟨rfl, rfl⟩ (n := 1) (by decide +kernel) rfl ⟨by decide, by decide⟩ rfl (Nat.le_of_ble_eq_true rfl) dM_obstacle_27 ⟨Nat.zero_le _, Nat.zero_le _⟩ (fun v M2 H locs hq hP hS => ?_)
      obtain ⟨rfl, ⟨r, p, c, hPV, hpB, hrn, hcB, hL, hdi⟩, hF, hFj⟩ := hq
      rw [h30] at hPV
      have hfp : fpv (nn g) (aM M g) r p := ⟨hPV, hpB, hrn⟩
      have hn4 := hI9.2.2.1
      have hr3 := hL.1
      have hFQ : FrQ M M2 := fun q hq => (hF q (by omega) (by omega) (by omega) (by omega)).trans (hq1 q (by omega))
      have h212 : M2 28 12 = 0 := (hFj 12 (by omega) (by omega) (by omega) (by omega) (by omega)).trans h12
      have h229 : M2 29 g = nn g := by rw [hFQ 29 (by omega)]; exact hI9.1
      have hc25 := cB_le (k := r) (by omega)
      have hTG := TG_of (by omega) hL hpB
      have hps := ps_bd p r
      have hng := ng_ps p r
      have hds := ds_le hpB
      have hzz : zM r (sf (bef p r)) (M2 32) (0 < ps p r ∧ 0 < ng p r) = zM r (sf (bef p r)) (tr p) (0 < ps p r ∧ 0 < ng p r) := funext (fun x => zM_cg hL.2.1 x)
      have hex : zM r (sf (bef p r)) (M2 32) (0 < ps p r ∧ 0 < ng p r) 0 → r = 2 → sf (bef p r) ≠ -1 → ∃ q : Nat, prm q ∧ q ≤ 2147483647 ∧ ¬ sqM (-(sf (bef p r))) q := fun a1 a2 a3 => by
        have hs0 : 0 < -(sf (bef p r)) := by
          rw [a2] at a1 ⊢
          exact zM2 a1
        exact hexD (ds_ne hpB) hs0 a3 (fun q q1 q2 => by have := Nat.le_of_dvd (by omega) q2; omega)
      refine lv_aload_n hx hb dM_obstacle_30 rfl (lv_at hl 0 rfl) ?_
      refine m_get (C := "RationalFormsModel") (T := TxM) (N := 13) hx hb hg uwM hown hK hP (by omega) (sh_M E _) rfl 3 (by decide) wd462 rfl dM_obstacle_31 ?_
      refine lv_aload_n hx hb dM_obstacle_34 rfl (lv_at hl 0 rfl) ?_
      refine m_get (C := "RationalFormsModel") (T := TxM) (N := 13) hx hb hg uwM hown hK hP (by omega) (sh_M E _) rfl 0 (by decide) wd459 rfl dM_obstacle_35 ?_
      refine lv_iload_n hx hb dM_obstacle_38 rfl (lv_at hl 1 rfl) ?_
      refine m_iald (n := g) hx hb hK hP (by omega) (sh_29 E _) (by omega) (by omega) (by decide) dM_obstacle_39 ?_
      refine j_icmp_ge hx hb (by rw [hr3]; omega) (by rw [h229]; omega) dM_obstacle_40 rfl (fun h5 => ?_) (fun h5 => ?_)
      · rw [hr3, h229] at h5
        refine lv_aload_n hx hb dM_obstacle_47 rfl (lv_at hl 0 rfl) ?_
        refine lv_aload_n hx hb dM_obstacle_48 rfl (lv_at hl 0 rfl) ?_
        refine m_get (C := "RationalFormsModel") (T := TxM) (N := 13) hx hb hg uwM hown hK hP (by omega) (sh_M E _) rfl 3 (by decide) wd462 rfl dM_obstacle_49 ?_
        refine lv_aload_n hx hb dM_obstacle_52 rfl (lv_at hl 0 rfl) ?_
        refine m_get (C := "RationalFormsModel") (T := TxM) (N := 13) hx hb hg uwM hown hK hP (by omega) (sh_M E _) rfl 7 (by decide) wd466 rfl dM_obstacle_53 ?_
        refine lv_aload_n hx hb dM_obstacle_56 rfl (lv_at hl 0 rfl) ?_
        refine m_get (C := "RationalFormsModel") (T := TxM) (N := 13) hx hb hg uwM hown hK hP (by omega) (sh_M E _) rfl 5 (by decide) wd464 rfl dM_obstacle_57 ?_
        rw [hr3, hdi]
        refine j_if_le hx hb (by rw [hL.2.2.1]; omega) dM_obstacle_60 rfl (fun h6 => ?_) (fun h6 => ?_)
        · rw [hL.2.2.1] at h6
          refine j_iconst hx hb dM_obstacle_74 ?_
          have eb : (0 : Int) = bi (0 < ps p r ∧ 0 < ng p r) := (bi_f (fun q => by omega)).symm
          rw [congrArg ji eb]
          refine mm_V (As := [.int (ji ((r:Int))), .long (jl (sf (bef p r))), .int (ji (bi (0 < ps p r ∧ 0 < ng p r)))]) (rest := []) hx hb hml hown hg hl hK hP hS (by omega) (sh_M E _) rfl (kM_obstacleOf l E hJ M2 r hTG (sf (bef p r)) (n4 (ds_sq hpB)) (by omega) (0 < ps p r ∧ 0 < ng p r) c hL.2.2.2.2.1 (by omega) (Sq p r) hL.2.2.2.2.2 (fun q hq => Sp_bd hpB (Sq_Sp hpB hq)) hex) wd595 wd597 wds19 wd5 wd598 ⟨rfl, rfl⟩ (n := 3) (by decide +kernel) rfl ⟨by decide, by decide⟩ rfl (Nat.le_of_ble_eq_true rfl) dM_obstacle_75 ⟨Nat.zero_le _, Nat.zero_le _⟩ (fun v M3 H locs hq3 hP hS => ?_)
          obtain ⟨⟨z9, rfl, hz9, ho9⟩, hM3⟩ := hq3
          rw [hM3] at hP
          rw [hzz] at ho9
          exact mm_iret hx hb hr hk hP hS dM_obstacle_78 ⟨⟨z9, rfl, hz9, fun q => absurd hfo q, fun _ => ⟨h212, fo_u hfg ⟨r, p, hfp, fun q => by omega, fun _ => ho9⟩⟩⟩, hFQ⟩
        · rw [hL.2.2.1] at h6
          refine lv_aload_n hx hb dM_obstacle_63 rfl (lv_at hl 0 rfl) ?_
          refine m_get (C := "RationalFormsModel") (T := TxM) (N := 13) hx hb hg uwM hown hK hP (by omega) (sh_M E _) rfl 6 (by decide) wd465 rfl dM_obstacle_64 ?_
          refine j_if_le hx hb (by rw [hL.2.2.2.1]; omega) dM_obstacle_67 rfl (fun h7 => ?_) (fun h7 => ?_)
          · rw [hL.2.2.2.1] at h7
            refine j_iconst hx hb dM_obstacle_74 ?_
            have eb : (0 : Int) = bi (0 < ps p r ∧ 0 < ng p r) := (bi_f (fun q => by omega)).symm
            rw [congrArg ji eb]
            refine mm_V (As := [.int (ji ((r:Int))), .long (jl (sf (bef p r))), .int (ji (bi (0 < ps p r ∧ 0 < ng p r)))]) (rest := []) hx hb hml hown hg hl hK hP hS (by omega) (sh_M E _) rfl (kM_obstacleOf l E hJ M2 r hTG (sf (bef p r)) (n4 (ds_sq hpB)) (by omega) (0 < ps p r ∧ 0 < ng p r) c hL.2.2.2.2.1 (by omega) (Sq p r) hL.2.2.2.2.2 (fun q hq => Sp_bd hpB (Sq_Sp hpB hq)) hex) wd595 wd597 wds19 wd5 wd598 ⟨rfl, rfl⟩ (n := 3) (by decide +kernel) rfl ⟨by decide, by decide⟩ rfl (Nat.le_of_ble_eq_true rfl) dM_obstacle_75 ⟨Nat.zero_le _, Nat.zero_le _⟩ (fun v M3 H locs hq3 hP hS => ?_)
            obtain ⟨⟨z9, rfl, hz9, ho9⟩, hM3⟩ := hq3
            rw [hM3] at hP
            rw [hzz] at ho9
            exact mm_iret hx hb hr hk hP hS dM_obstacle_78 ⟨⟨z9, rfl, hz9, fun q => absurd hfo q, fun _ => ⟨h212, fo_u hfg ⟨r, p, hfp, fun q => by omega, fun _ => ho9⟩⟩⟩, hFQ⟩
          · rw [hL.2.2.2.1] at h7
            refine j_iconst hx hb dM_obstacle_70 ?_
            refine lv_goto hx hb dM_obstacle_71 rfl ?_
            have eb : (1 : Int) = bi (0 < ps p r ∧ 0 < ng p r) := (bi_t (by omega)).symm
            rw [congrArg ji eb]
            refine mm_V (As := [.int (ji ((r:Int))), .long (jl (sf (bef p r))), .int (ji (bi (0 < ps p r ∧ 0 < ng p r)))]) (rest := []) hx hb hml hown hg hl hK hP hS (by omega) (sh_M E _) rfl (kM_obstacleOf l E hJ M2 r hTG (sf (bef p r)) (n4 (ds_sq hpB)) (by omega) (0 < ps p r ∧ 0 < ng p r) c hL.2.2.2.2.1 (by omega) (Sq p r) hL.2.2.2.2.2 (fun q hq => Sp_bd hpB (Sq_Sp hpB hq)) hex) wd595 wd597 wds19 wd5 wd598 ⟨rfl, rfl⟩ (n := 3) (by decide +kernel) rfl ⟨by decide, by decide⟩ rfl (Nat.le_of_ble_eq_true rfl) dM_obstacle_75 ⟨Nat.zero_le _, Nat.zero_le _⟩ (fun v M3 H locs hq3 hP hS => ?_)
            obtain ⟨⟨z9, rfl, hz9, ho9⟩, hM3⟩ := hq3
            rw [hM3] at hP
            rw [hzz] at ho9
            exact mm_iret hx hb hr hk hP hS dM_obstacle_78 ⟨⟨z9, rfl, hz9, fun q => absurd hfo q, fun _ => ⟨h212, fo_u hfg ⟨r, p, hfp, fun q => by omega, fun _ => ho9⟩⟩⟩, hFQ⟩
      · rw [hr3, h229] at h5
        refine j_iconst hx hb dM_obstacle_43 ?_
        refine lv_goto hx hb dM_obstacle_44 rfl ?_
        exact mm_iret hx hb hr hk hP hS dM_obstacle_78 ⟨⟨-1, rfl, by decide, fun q => absurd hfo q, fun _ => ⟨h212, fo_u hfg ⟨r, p, hfp, fun _ => rfl, fun q => by omega⟩⟩⟩, hFQ⟩
    · omega

set_option maxRecDepth 100000 in
set_option maxHeartbeats 4000000 in
theorem kM_sign (l : Launch) (E : En) (hJ : wJ E) (M : Me) (f k : Int) (hf : b32 f) (hk9 : b32 k) (nn : Nat → Nat) (hI : ∀ g, g < 2 → MI M g (nn g)) : MM l yM_sign wsM_sign (rmd 4) E M [.ref (E.2.1 28), .int (ji f), .int (ji k)] (fun v M9 => (∃ z : Int, v = some (.int (ji z)) ∧ b32 z ∧ (¬ fo f → M9 28 12 = 1) ∧ (fo f → ∀ g : Nat, f = g → ∃ r p, fpv (nn g) (aM M g) r p ∧ ∃ (c9 : Nat) (a : Nat → Int), SL c9 a (mnM p r) ∧ (¬ (0 ≤ k ∧ k < c9) → M9 28 12 = 2) ∧ (0 ≤ k → k < c9 → M9 28 12 = 0 ∧ z = a k.toNat))) ∧ FrQ M M9) := by
  refine MM.ofG (by decide +kernel) (Nat.le_of_ble_eq_true rfl) ?_
  intro p_ e_ s_ m_ a_ b_ t_ c_ hx hb hml hr hk hg hown hK hP hS ls hl
  have hl : lv_has ls 3 [(0, .ref (E.2.1 28)), (1, .int (ji f)), (2, .int (ji k))] := hl
  refine lv_aload_n hx hb dM_sign_0 rfl (lv_at hl 0 rfl) ?_
  refine lv_iload_n hx hb dM_sign_1 rfl (lv_at hl 1 rfl) ?_
  refine pm_G (As := [.int (ji f)]) (rest := [.ref (E.2.1 28)]) hx hb hml hown hg hl (kM_isForm l f hf) wd507 wd508 wd5 wd509 ⟨rfl, rfl⟩ (n := 1) (by decide +kernel) rfl ⟨by decide, by decide⟩ rfl (Nat.le_of_ble_eq_true rfl) dM_sign_2 ⟨Nat.zero_le _, Nat.zero_le _⟩ (fun r hr9 => ?_)
  subst hr9
  refine j_if_eq hx hb (bi_b32 _) dM_sign_5 rfl (fun h1 => ?_) (fun h1 => ?_)
  · have hfo : ¬ fo f := bi_eq h1
    refine j_iconst hx hb dM_sign_12 ?_
    refine m_put (C := "RationalFormsModel") (T := TxM) (N := 13) (ty := .int) (z := 1) hx hb hg uwM txM txM_ok nmM hown hK hJ hP hS (by omega) (sh_M E _) rfl 12 (by decide) wd471 rfl rfl rfl rfl (Nat.le_of_ble_eq_true rfl) (by rw [sh_M E _]; simp [mu]) dM_sign_13 (fun H locs hP hS => ?_)
    refine lv_aload_n hx hb dM_sign_16 rfl (lv_at hl 0 rfl) ?_
    refine m_get (C := "RationalFormsModel") (T := TxM) (N := 13) hx hb hg uwM hown hK hP (by omega) (sh_M E _) rfl 12 (by decide) wd471 rfl dM_sign_17 ?_
    refine j_if_eq hx hb (by first | (rw [mu_s]; decide) | (rw [h12]; decide)) dM_sign_20 rfl (fun h9 => ?_) (fun h9 => ?_)
    · rw [mu_s] at h9
      omega
    · refine j_iconst hx hb dM_sign_23 ?_
      exact mm_iret hx hb hr hk hP hS dM_sign_24 ⟨⟨0, rfl, by decide, fun _ => mu_s _ _ _ _, fun q => absurd q hfo⟩, fun q hq => mu_k (by omega)⟩
  · have hfo : fo f := bi_ne h1
    obtain ⟨g, hg2, hfg⟩ := fo_g hfo
    refine j_iconst hx hb dM_sign_8 ?_
    refine lv_goto hx hb dM_sign_9 rfl ?_
    refine m_put (C := "RationalFormsModel") (T := TxM) (N := 13) (ty := .int) (z := 0) hx hb hg uwM txM txM_ok nmM hown hK hJ hP hS (by omega) (sh_M E _) rfl 12 (by decide) wd471 rfl rfl rfl rfl (Nat.le_of_ble_eq_true rfl) (by rw [sh_M E _]; simp [mu]) dM_sign_13 (fun H locs hP hS => ?_)
    obtain ⟨M1, e1⟩ : ∃ X, X = mu M 28 12 0 := ⟨_, rfl⟩
    rw [← e1] at hP
    have h29 : M1 29 = M 29 := by rw [e1]; exact mu_k (by omega)
    have h30 : M1 30 = M 30 := by rw [e1]; exact mu_k (by omega)
    have hq1 : ∀ q, q ≠ 28 → M1 q = M q := fun q hq => by rw [e1]; exact mu_k hq
    have h12 : M1 28 12 = 0 := by rw [e1]; exact mu_s _ _ _ _
    have hI9 := hI g hg2
    refine lv_aload_n hx hb dM_sign_16 rfl (lv_at hl 0 rfl) ?_
    refine m_get (C := "RationalFormsModel") (T := TxM) (N := 13) hx hb hg uwM hown hK hP (by omega) (sh_M E _) rfl 12 (by decide) wd471 rfl dM_sign_17 ?_
    refine j_if_eq hx hb (by first | (rw [mu_s]; decide) | (rw [h12]; decide)) dM_sign_20 rfl (fun h9 => ?_) (fun h9 => ?_)
    · rw [hfg] at hl
      refine lv_aload_n hx hb dM_sign_25 rfl (lv_at hl 0 rfl) ?_
      refine lv_iload_n hx hb dM_sign_26 rfl (lv_at hl 1 rfl) ?_
      refine mm_V (As := [.int (ji ((g:Int)))]) (rest := []) hx hb hml hown hg hl hK hP hS (by omega) (sh_M E _) rfl (kM_look l E hJ M1 g hg2 (nn g) (by rw [h29]; exact hI9.1) hI9.2.1 hI9.2.2.1 (by rw [h30]; exact hI9.2.2.2)) wd518 wd520 wds12 wd5 wd521 ⟨rfl, rfl⟩ (n := 1) (by decide +kernel) rfl ⟨by decide, by decide⟩ rfl (Nat.le_of_ble_eq_true rfl) dM_sign_27 ⟨Nat.zero_le _, Nat.zero_le _⟩ (fun v M2 H locs hq hP hS => ?_)
      obtain ⟨rfl, ⟨r, p, c, hPV, hpB, hrn, hcB, hL, hdi⟩, hF, hFj⟩ := hq
      rw [h30] at hPV
      have hfp : fpv (nn g) (aM M g) r p := ⟨hPV, hpB, hrn⟩
      have hn4 := hI9.2.2.1
      have hr3 := hL.1
      have hFQ : FrQ M M2 := fun q hq => (hF q (by omega) (by omega) (by omega) (by omega)).trans (hq1 q (by omega))
      have h212 : M2 28 12 = 0 := (hFj 12 (by omega) (by omega) (by omega) (by omega) (by omega)).trans h12
      have h229 : M2 29 g = nn g := by rw [hFQ 29 (by omega)]; exact hI9.1
      have hc25 := cB_le (k := r) (by omega)
      have hTG := TG_of (by omega) hL hpB
      have hps := ps_bd p r
      have hng := ng_ps p r
      have hds := ds_le hpB
      refine lv_aload_n hx hb dM_sign_30 rfl (lv_at hl 0 rfl) ?_
      refine mm_V (As := []) (rest := []) hx hb hml hown hg hl hK hP hS (by omega) (sh_M E _) rfl (kM_noteSigns l E hJ M2 r hr3 hTG c hL.2.2.2.2.1 (by omega) (Sq p r) hL.2.2.2.2.2 (fun q hq => Sp_bd hpB (Sq_Sp hpB hq))) wd607 wd609 wds20 wd5 wd610 ⟨rfl, rfl⟩ (n := 0) (by decide +kernel) rfl ⟨by decide, by decide⟩ rfl (Nat.le_of_ble_eq_true rfl) dM_sign_31 ⟨Nat.zero_le _, Nat.zero_le _⟩ (fun v M3 H locs hq3 hP hS => ?_)
      obtain ⟨rfl, ⟨c9, s1, s2, s3, s4⟩, s5, s6⟩ := hq3
      have s7 : SL c9 (M3 34) (mnM p r) := s3.to (fun q => by unfold mnM hsM; rw [hs_cg hL.2.1])
      have hFQ3 : ∀ x, FrQ M (mu M3 28 12 x) := fun x q hq => by rw [mu_k (by omega), s5 q (by omega) (by omega)]; exact hFQ q hq
      have bad : ∀ (ls : Array Slot), ¬ (0 ≤ k ∧ k < c9) → lv_has ls 3 [(0, .ref (E.2.1 28)), (1, .int (ji ((g:Int)))), (2, .int (ji k))] → W p_ l e_ (rmd 4) s_ m_ a_ b_ t_ c_ H locs 0 0 (XQ b_ (mmQ E (fun v M9 => (∃ z : Int, v = some (.int (ji z)) ∧ b32 z ∧ (¬ fo f → M9 28 12 = 1) ∧ (fo f → ∀ g : Nat, f = g → ∃ r p, fpv (nn g) (aM M g) r p ∧ ∃ (c9 : Nat) (a : Nat → Int), SL c9 a (mnM p r) ∧ (¬ (0 ≤ k ∧ k < c9) → M9 28 12 = 2) ∧ (0 ≤ k → k < c9 → M9 28 12 = 0 ∧ z = a k.toNat))) ∧ FrQ M M9)) a_ s_ 0 0 (wA E)) (F0 m_ 47 ls [.ref (E.2.1 28)]) := by
        intro ls hno hl
        refine j_iconst hx hb dM_sign_47 ?_
        refine lv_goto hx hb dM_sign_48 rfl ?_
        refine m_put (C := "RationalFormsModel") (T := TxM) (N := 13) (ty := .int) (z := 2) hx hb hg uwM txM txM_ok nmM hown hK hJ hP hS (by omega) (sh_M E _) rfl 12 (by decide) wd471 rfl rfl rfl rfl (Nat.le_of_ble_eq_true rfl) (by rw [sh_M E _]; simp [mu]) dM_sign_52 (fun H locs hP hS => ?_)
        refine lv_aload_n hx hb dM_sign_55 rfl (lv_at hl 0 rfl) ?_
        refine m_get (C := "RationalFormsModel") (T := TxM) (N := 13) hx hb hg uwM hown hK hP (by omega) (sh_M E _) rfl 12 (by decide) wd471 rfl dM_sign_56 ?_
        refine j_if_ne hx hb (by rw [mu_s]; decide) dM_sign_59 rfl (fun h8 => ?_) (fun h8 => ?_)
        · refine j_iconst hx hb dM_sign_71 ?_
          exact mm_iret hx hb hr hk hP hS dM_sign_72 ⟨⟨0, rfl, by decide, fun q => absurd hfo q, fun _ => fo_u hfg ⟨r, p, hfp, c9, M3 34, s7, fun _ => mu_s _ _ _ _, fun a1 a2 => absurd ⟨a1, a2⟩ hno⟩⟩, hFQ3 _⟩
        · rw [mu_s] at h8
          omega
      refine lv_aload_n hx hb dM_sign_34 rfl (lv_at hl 0 rfl) ?_
      refine lv_iload_n hx hb dM_sign_35 rfl (lv_at hl 2 rfl) ?_
      refine j_if_lt hx hb (by omega) dM_sign_36 rfl (fun h5 => ?_) (fun h5 => ?_)
      · exact bad ls (by omega) hl
      · refine lv_iload_n hx hb dM_sign_39 rfl (lv_at hl 2 rfl) ?_
        refine lv_aload_n hx hb dM_sign_40 rfl (lv_at hl 0 rfl) ?_
        refine m_get (C := "RationalFormsModel") (T := TxM) (N := 13) hx hb hg uwM hown hK hP (by omega) (sh_M E _) rfl 10 (by decide) wd469 rfl dM_sign_41 ?_
        refine j_icmp_lt hx hb hk9 (by rw [s2]; omega) dM_sign_44 rfl (fun h6 => ?_) (fun h6 => ?_)
        · rw [s2] at h6
          have hk0 : k.toNat < c9 := by omega
          obtain ⟨q, q1, q2⟩ := s7.2.1 k.toNat hk0
          have hbq := Sp_bd hpB (Sq_Sp hpB q2.1)
          refine j_iconst hx hb dM_sign_51 ?_
          refine m_put (C := "RationalFormsModel") (T := TxM) (N := 13) (ty := .int) (z := 0) hx hb hg uwM txM txM_ok nmM hown hK hJ hP hS (by omega) (sh_M E _) rfl 12 (by decide) wd471 rfl rfl rfl rfl (Nat.le_of_ble_eq_true rfl) (by rw [sh_M E _]; simp [mu]) dM_sign_52 (fun H locs hP hS => ?_)
          refine lv_aload_n hx hb dM_sign_55 rfl (lv_at hl 0 rfl) ?_
          refine m_get (C := "RationalFormsModel") (T := TxM) (N := 13) hx hb hg uwM hown hK hP (by omega) (sh_M E _) rfl 12 (by decide) wd471 rfl dM_sign_56 ?_
          refine j_if_ne hx hb (by rw [mu_s]; decide) dM_sign_59 rfl (fun h8 => ?_) (fun h8 => ?_)
          · exact absurd (mu_s _ _ _ _) h8
          · refine lv_aload_n hx hb dM_sign_62 rfl (lv_at hl 0 rfl) ?_
            refine m_get (C := "RationalFormsModel") (T := TxM) (N := 13) hx hb hg uwM hown hK hP (by omega) (sh_M E _) rfl 11 (by decide) wd470 rfl dM_sign_63 ?_
            refine lv_iload_n hx hb dM_sign_66 rfl (lv_at hl 2 rfl) ?_
            refine m_iald (n := k.toNat) hx hb hK hP (by omega) (sh_34 E _) (by omega) (by omega) (by decide) dM_sign_67 ?_
            refine lv_goto hx hb dM_sign_68 rfl ?_
            exact mm_iret hx hb hr hk hP hS dM_sign_72 ⟨⟨_, rfl, by rw [mu_k (by omega), q1]; omega, fun q => absurd hfo q, fun _ => fo_u hfg ⟨r, p, hfp, c9, M3 34, s7, fun q => absurd ⟨h5, h6⟩ q, fun _ _ => ⟨mu_s _ _ _ _, by rw [mu_k (by omega)]⟩⟩⟩, hFQ3 _⟩
        · rw [s2] at h6
          exact bad ls (by omega) hl
    · omega

set_option maxRecDepth 100000 in
set_option maxHeartbeats 4000000 in
theorem kM_takes (l : Launch) (E : En) (hJ : wJ E) (M : Me) (f v : Int) (hf : b32 f) (hv : b32 v) (nn : Nat → Nat) (hI : ∀ g, g < 2 → MI M g (nn g)) : MM l yM_takes wsM_takes (rmd 5) E M [.ref (E.2.1 28), .int (ji f), .int (ji v)] (fun w M9 => (∃ z : Prop, w = some (.int (ji (bi z))) ∧ (¬ (fo f ∧ -1000 ≤ v ∧ v ≤ 1000) → M9 28 12 = 1) ∧ ((fo f ∧ -1000 ≤ v ∧ v ≤ 1000) → v = 0 → M9 28 12 = 2) ∧ ((fo f ∧ -1000 ≤ v ∧ v ≤ 1000) → v ≠ 0 → M9 28 12 = 0 ∧ ∀ g : Nat, f = g → ∃ r p, fpv (nn g) (aM M g) r p ∧ tkM (nn g) r p (sf (-v)) z)) ∧ FrQ M M9) := by
  refine MM.ofG (by decide +kernel) (Nat.le_of_ble_eq_true rfl) ?_
  intro p_ e_ s_ m_ a_ b_ t_ c_ hx hb hml hr hk hg hown hK hP hS ls hl
  have hl : lv_has ls 6 [(0, .ref (E.2.1 28)), (1, .int (ji f)), (2, .int (ji v))] := hl
  have bad : ∀ (ls : Array Slot), ¬ (fo f ∧ -1000 ≤ v ∧ v ≤ 1000) → lv_has ls 6 [(0, .ref (E.2.1 28)), (1, .int (ji f)), (2, .int (ji v))] → W p_ l e_ (rmd 5) s_ m_ a_ b_ t_ c_ s_.heap [] 0 0 (XQ b_ (mmQ E (fun w M9 => (∃ z : Prop, w = some (.int (ji (bi z))) ∧ (¬ (fo f ∧ -1000 ≤ v ∧ v ≤ 1000) → M9 28 12 = 1) ∧ ((fo f ∧ -1000 ≤ v ∧ v ≤ 1000) → v = 0 → M9 28 12 = 2) ∧ ((fo f ∧ -1000 ≤ v ∧ v ≤ 1000) → v ≠ 0 → M9 28 12 = 0 ∧ ∀ g : Nat, f = g → ∃ r p, fpv (nn g) (aM M g) r p ∧ tkM (nn g) r p (sf (-v)) z)) ∧ FrQ M M9)) a_ s_ 0 0 (wA E)) (F0 m_ 22 ls [.ref (E.2.1 28)]) := by
    intro ls hno hl
    refine j_iconst hx hb dM_takes_22 ?_
    refine lv_goto hx hb dM_takes_23 rfl ?_
    refine m_put (C := "RationalFormsModel") (T := TxM) (N := 13) (ty := .int) (z := 1) hx hb hg uwM txM txM_ok nmM hown hK hJ hP hS (by omega) (sh_M E _) rfl 12 (by decide) wd471 rfl rfl rfl rfl (Nat.le_of_ble_eq_true rfl) (by rw [sh_M E _]; simp [mu]) dM_takes_35 (fun H locs hP hS => ?_)
    refine lv_aload_n hx hb dM_takes_38 rfl (lv_at hl 0 rfl) ?_
    refine m_get (C := "RationalFormsModel") (T := TxM) (N := 13) hx hb hg uwM hown hK hP (by omega) (sh_M E _) rfl 12 (by decide) wd471 rfl dM_takes_39 ?_
    refine j_if_eq hx hb (by first | (rw [mu_s]; decide) | (rw [h12]; decide)) dM_takes_42 rfl (fun h9 => ?_) (fun h9 => ?_)
    · rw [mu_s] at h9
      omega
    · refine j_iconst hx hb dM_takes_45 ?_
      exact mm_zret hx hb hr hk hP hS dM_takes_46 nar_0 ⟨⟨False, by rw [bi_f id], fun _ => mu_s _ _ _ _, fun q => absurd q hno, fun q => absurd q hno⟩, fun q hq => mu_k (by omega)⟩
  refine lv_aload_n hx hb dM_takes_0 rfl (lv_at hl 0 rfl) ?_
  refine lv_iload_n hx hb dM_takes_1 rfl (lv_at hl 1 rfl) ?_
  refine pm_G (As := [.int (ji f)]) (rest := [.ref (E.2.1 28)]) hx hb hml hown hg hl (kM_isForm l f hf) wd507 wd508 wd5 wd509 ⟨rfl, rfl⟩ (n := 1) (by decide +kernel) rfl ⟨by decide, by decide⟩ rfl (Nat.le_of_ble_eq_true rfl) dM_takes_2 ⟨Nat.zero_le _, Nat.zero_le _⟩ (fun r hr9 => ?_)
  subst hr9
  refine j_if_eq hx hb (bi_b32 _) dM_takes_5 rfl (fun h1 => ?_) (fun h1 => ?_)
  · exact bad ls (fun q => bi_eq h1 q.1) hl
  · have hfo := bi_ne h1
    refine lv_iload_n hx hb dM_takes_8 rfl (lv_at hl 2 rfl) ?_
    refine j_sipush hx hb dM_takes_9 rfl ?_
    refine j_icmp_lt hx hb (by omega) (by omega) dM_takes_12 rfl (fun h2 => ?_) (fun h2 => ?_)
    · exact bad ls (by omega) hl
    · refine lv_iload_n hx hb dM_takes_15 rfl (lv_at hl 2 rfl) ?_
      refine j_sipush hx hb dM_takes_16 rfl ?_
      refine j_icmp_le hx hb (by omega) (by omega) dM_takes_19 rfl (fun h3 => ?_) (fun h3 => ?_)
      · have hok : (fo f ∧ -1000 ≤ v ∧ v ≤ 1000) := ⟨hfo, h2, h3⟩
        refine lv_iload_n hx hb dM_takes_26 rfl (lv_at hl 2 rfl) ?_
        refine j_if_ne hx hb (by omega) dM_takes_27 rfl (fun h4 => ?_) (fun h4 => ?_)
        · obtain ⟨g, hg2, hfg⟩ := fo_g hfo
          refine j_iconst hx hb dM_takes_34 ?_
          refine m_put (C := "RationalFormsModel") (T := TxM) (N := 13) (ty := .int) (z := 0) hx hb hg uwM txM txM_ok nmM hown hK hJ hP hS (by omega) (sh_M E _) rfl 12 (by decide) wd471 rfl rfl rfl rfl (Nat.le_of_ble_eq_true rfl) (by rw [sh_M E _]; simp [mu]) dM_takes_35 (fun H locs hP hS => ?_)
          obtain ⟨M1, e1⟩ : ∃ X, X = mu M 28 12 0 := ⟨_, rfl⟩
          rw [← e1] at hP
          have h29 : M1 29 = M 29 := by rw [e1]; exact mu_k (by omega)
          have h30 : M1 30 = M 30 := by rw [e1]; exact mu_k (by omega)
          have hq1 : ∀ q, q ≠ 28 → M1 q = M q := fun q hq => by rw [e1]; exact mu_k hq
          have h12 : M1 28 12 = 0 := by rw [e1]; exact mu_s _ _ _ _
          have hI9 := hI g hg2
          refine lv_aload_n hx hb dM_takes_38 rfl (lv_at hl 0 rfl) ?_
          refine m_get (C := "RationalFormsModel") (T := TxM) (N := 13) hx hb hg uwM hown hK hP (by omega) (sh_M E _) rfl 12 (by decide) wd471 rfl dM_takes_39 ?_
          refine j_if_eq hx hb (by first | (rw [mu_s]; decide) | (rw [h12]; decide)) dM_takes_42 rfl (fun h9 => ?_) (fun h9 => ?_)
          · rw [hfg] at hl
            refine lv_aload_n hx hb dM_takes_47 rfl (lv_at hl 0 rfl) ?_
            refine lv_iload_n hx hb dM_takes_48 rfl (lv_at hl 1 rfl) ?_
            refine mm_V (As := [.int (ji ((g:Int)))]) (rest := []) hx hb hml hown hg hl hK hP hS (by omega) (sh_M E _) rfl (kM_look l E hJ M1 g hg2 (nn g) (by rw [h29]; exact hI9.1) hI9.2.1 hI9.2.2.1 (by rw [h30]; exact hI9.2.2.2)) wd518 wd520 wds12 wd5 wd521 ⟨rfl, rfl⟩ (n := 1) (by decide +kernel) rfl ⟨by decide, by decide⟩ rfl (Nat.le_of_ble_eq_true rfl) dM_takes_49 ⟨Nat.zero_le _, Nat.zero_le _⟩ (fun v M2 H locs hq hP hS => ?_)
            obtain ⟨rfl, ⟨r, p, c, hPV, hpB, hrn, hcB, hL, hdi⟩, hF, hFj⟩ := hq
            rw [h30] at hPV
            have hfp : fpv (nn g) (aM M g) r p := ⟨hPV, hpB, hrn⟩
            have hn4 := hI9.2.2.1
            have hr3 := hL.1
            have hFQ : FrQ M M2 := fun q hq => (hF q (by omega) (by omega) (by omega) (by omega)).trans (hq1 q (by omega))
            have h212 : M2 28 12 = 0 := (hFj 12 (by omega) (by omega) (by omega) (by omega) (by omega)).trans h12
            have h229 : M2 29 g = nn g := by rw [hFQ 29 (by omega)]; exact hI9.1
            have hc25 := cB_le (k := r) (by omega)
            have hTG := TG_of (by omega) hL hpB
            have hps := ps_bd p r
            have hng := ng_ps p r
            have hds := ds_le hpB
            have hv0 : -v ≠ 0 := by omega
            have hsx := sf_le hv0
            have hsn := sf_ne hv0
            refine lv_aload_n hx hb dM_takes_52 rfl (lv_at hl 0 rfl) ?_
            refine m_get (C := "RationalFormsModel") (T := TxM) (N := 13) hx hb hg uwM hown hK hP (by omega) (sh_M E _) rfl 3 (by decide) wd462 rfl dM_takes_53 ?_
            refine j_if_ne hx hb (by rw [hr3]; omega) dM_takes_56 rfl (fun h5 => ?_) (fun h5 => ?_)
            · rw [hr3] at h5
              refine lv_iload_n hx hb dM_takes_61 rfl (lv_at hl 2 rfl) ?_
              refine j_ineg hx hb dM_takes_62 ?_
              refine j_i2l hx hb (by omega) dM_takes_63 ?_
              refine pm_G (As := [.long (jl (-v))]) (rest := []) hx hb hml hown hg hl (kM_classOf l (-v) (by omega) hv0) wd535 wd536 wd5 wd537 ⟨rfl, rfl⟩ (n := 1) (by decide +kernel) rfl ⟨by decide, by decide⟩ rfl (Nat.le_of_ble_eq_true rfl) dM_takes_64 ⟨Nat.zero_le _, Nat.zero_le _⟩ (fun r hr9 => ?_)
              subst hr9
              refine lv_lstore_n hx hb dM_takes_67 rfl hl (by decide) rfl (fun ls hl => ?_)
              have hl : lv_has ls 6 [(3, .long (jl (sf (-v)))), (0, .ref (E.2.1 28)), (1, .int (ji ((g:Int)))), (2, .int (ji v))] := hl
              refine lv_aload_n hx hb dM_takes_68 rfl (lv_at hl 1 rfl) ?_
              refine lv_lload_n hx hb dM_takes_69 rfl (lv_at hl 0 rfl) ?_
              refine mm_V (As := [.long (jl (sf (-v)))]) (rest := []) hx hb hml hown hg hl hK hP hS (by omega) (sh_M E _) rfl (kM_addPrimes l E hJ M2 (sf (-v)) hsn (sf_sq hv0) (by omega) c 5 hL.2.2.2.2.1 (by omega) (Sq p r) hL.2.2.2.2.2 (fun q hq => (Sp_bd hpB (Sq_Sp hpB hq)).2) (by show _ < 5040; omega)) wd539 wd541 wds16 wd5 wd542 ⟨rfl, rfl⟩ (n := 1) (by decide +kernel) rfl ⟨by decide, by decide⟩ rfl (Nat.le_of_ble_eq_true rfl) dM_takes_70 ⟨Nat.zero_le _, Nat.zero_le _⟩ (fun v M3 H locs hq3 hP hS => ?_)
              obtain ⟨rfl, ⟨c9, c1, c2, c3⟩, c4, c5⟩ := hq3
              have hr33 : M3 28 3 = r := by rw [c5 3 (by omega)]; exact hr3
              refine lv_aload_n hx hb dM_takes_73 rfl (lv_at hl 1 rfl) ?_
              refine m_get (C := "RationalFormsModel") (T := TxM) (N := 13) hx hb hg uwM hown hK hP (by omega) (sh_M E _) rfl 4 (by decide) wd463 rfl dM_takes_74 ?_
              refine lv_aload_n hx hb dM_takes_77 rfl (lv_at hl 1 rfl) ?_
              refine m_get (C := "RationalFormsModel") (T := TxM) (N := 13) hx hb hg uwM hown hK hP (by omega) (sh_M E _) rfl 3 (by decide) wd462 rfl dM_takes_78 ?_
              rw [hr33]
              refine lv_lload_n hx hb dM_takes_81 rfl (lv_at hl 0 rfl) ?_
              refine m_last (n := r) hx hb hK hJ hP hS (by omega) (fun r => sh_32 E r) rfl (by omega) (by decide) dM_takes_82 (fun H locs hP hS => ?_)
              obtain ⟨M4, e4⟩ : ∃ X, X = mu M3 32 r (sf (-v)) := ⟨_, rfl⟩
              rw [← e4] at hP
              have v28 : M4 28 = M3 28 := by rw [e4]; exact mu_k (by omega)
              have w5 : M4 28 5 = ps p r := by rw [v28, c5 5 (by omega)]; exact hL.2.2.1
              have w6 : M4 28 6 = ng p r := by rw [v28, c5 6 (by omega)]; exact hL.2.2.2.1
              have w3 : M4 28 3 = r := by rw [v28]; exact hr33
              have w7 : M4 28 7 = sf (bef p r) := by rw [v28, c5 7 (by omega)]; exact hdi
              have w8 : M4 28 8 = c9 := by rw [v28]; exact c2
              have w33 : SL c9 (M4 33) (Sx (Sq p r) (sf (-v))) := by rw [e4, mu_k (by omega)]; exact c3
              have w32 : ∀ i, i < r + 1 → M4 32 i = trx p r (sf (-v)) i := fun i hi => by
                unfold trx
                by_cases hir : i < r
                · rw [if_pos hir, e4, mu_j (by omega), c4 32 (by omega) (by omega)]; exact hL.2.1 i hir
                · rw [if_neg hir, show i = r by omega, e4, mu_s]
              have hFQ4 : FrQ M M4 := fun q hq => by rw [e4, mu_k (by omega), c4 q (by omega) (by omega)]; exact hFQ q hq
              have w12 : M4 28 12 = 0 := by rw [v28, c5 12 (by omega)]; exact h212
              have hTG4 : TG M4 (r + 1) := ⟨by omega, fun i hi => by
                rw [w32 i hi]
                unfold trx
                by_cases hir : i < r
                · rw [if_pos hir]
                  have := (tr_bd hpB hir).2
                  exact ⟨by omega, n4 (tr_sq hpB hir)⟩
                · rw [if_neg hir]
                  exact ⟨by omega, n4 (sf_sq hv0)⟩⟩
              have hDs := pr_sq (ds_ne hpB) (ds_sq hpB) (sf_sq hv0)
              have hD0 := pr_ne (ds_ne hpB) hsn
              have hDl := Nat.le_trans (pr_le (b := sf (-v)) (ds_ne hpB)) (Nat.mul_le_mul hds (show (sf (-v)).natAbs ≤ 1000 by omega))
              have hzz : zM (r + 1) (pr (sf (bef p r)) (sf (-v))) (M4 32) (box p r (sf (-v))) = zM (r + 1) (pr (sf (bef p r)) (sf (-v))) (trx p r (sf (-v))) (box p r (sf (-v))) := funext (fun x => zM_cg w32 x)
              have hex : zM (r + 1) (pr (sf (bef p r)) (sf (-v))) (M4 32) (box p r (sf (-v))) 0 → r + 1 = 2 → pr (sf (bef p r)) (sf (-v)) ≠ -1 → ∃ q : Nat, prm q ∧ q ≤ 2147483647 ∧ ¬ sqM (-(pr (sf (bef p r)) (sf (-v)))) q := fun a1 a2 a3 => by
                have hs0 : 0 < -(pr (sf (bef p r)) (sf (-v))) := by
                  rw [a2] at a1
                  exact zM2 a1
                refine hexD hD0 hs0 a3 (fun q q1 q2 => ?_)
                rcases prm_mul q1 (Nat.dvd_trans q2 (pr_dv (ds_ne hpB))) with q3 | q3
                · have := Nat.le_of_dvd (by have := ds_ne hpB; omega) q3; omega
                · have := Nat.le_of_dvd (by omega) q3; omega
              have k128 : ∀ (ls : Array Slot) (x : Int), x = bi (box p r (sf (-v))) → lv_has ls 6 [(3, .long (jl (sf (-v)))), (0, .ref (E.2.1 28)), (1, .int (ji ((g:Int)))), (2, .int (ji v))] → W p_ l e_ (rmd 5) s_ m_ a_ b_ t_ c_ H locs 0 0 (XQ b_ (mmQ E (fun w M9 => (∃ z : Prop, w = some (.int (ji (bi z))) ∧ (¬ (fo f ∧ -1000 ≤ v ∧ v ≤ 1000) → M9 28 12 = 1) ∧ ((fo f ∧ -1000 ≤ v ∧ v ≤ 1000) → v = 0 → M9 28 12 = 2) ∧ ((fo f ∧ -1000 ≤ v ∧ v ≤ 1000) → v ≠ 0 → M9 28 12 = 0 ∧ ∀ g : Nat, f = g → ∃ r p, fpv (nn g) (aM M g) r p ∧ tkM (nn g) r p (sf (-v)) z)) ∧ FrQ M M9)) a_ s_ 0 0 (wA E)) (F0 m_ 128 ls [.int (ji x)]) := by
                intro ls x hx9 hl
                rw [hx9]
                refine lv_istore hx hb dM_takes_128 hl (by decide) rfl (fun ls hl => ?_)
                have hl : lv_has ls 6 [(5, .int (ji (bi (box p r (sf (-v)))))), (3, .long (jl (sf (-v)))), (0, .ref (E.2.1 28)), (1, .int (ji ((g:Int)))), (2, .int (ji v))] := hl
                refine lv_aload_n hx hb dM_takes_130 rfl (lv_at hl 2 rfl) ?_
                refine lv_aload_n hx hb dM_takes_131 rfl (lv_at hl 2 rfl) ?_
                refine m_get (C := "RationalFormsModel") (T := TxM) (N := 13) hx hb hg uwM hown hK hP (by omega) (sh_M E _) rfl 3 (by decide) wd462 rfl dM_takes_132 ?_
                refine j_iconst hx hb dM_takes_135 ?_
                refine j_iadd hx hb dM_takes_136 ?_
                rw [show M4 28 3 + 1 = ((r + 1 : Nat) : Int) by rw [w3]; rfl]
                refine lv_aload_n hx hb dM_takes_137 rfl (lv_at hl 2 rfl) ?_
                refine m_get (C := "RationalFormsModel") (T := TxM) (N := 13) hx hb hg uwM hown hK hP (by omega) (sh_M E _) rfl 7 (by decide) wd466 rfl dM_takes_138 ?_
                rw [w7]
                refine lv_lload_n hx hb dM_takes_141 rfl (lv_at hl 1 rfl) ?_
                refine pm_G (As := [.long (jl (sf (bef p r))), .long (jl (sf (-v)))]) (rest := [.int (ji (((r+1:Nat):Int))), .ref (E.2.1 28)]) hx hb hml hown hg hl (kM_times l (sf (bef p r)) (sf (-v)) (by omega) (by omega) (ds_ne hpB)) wd543 wd544 wd5 wd545 ⟨rfl, rfl⟩ (n := 2) (by decide +kernel) rfl ⟨by decide, by decide⟩ rfl (Nat.le_of_ble_eq_true rfl) dM_takes_142 ⟨Nat.zero_le _, Nat.zero_le _⟩ (fun r hr9 => ?_)
                subst hr9
                refine lv_iload hx hb dM_takes_145 (lv_at hl 0 rfl) ?_
                refine mm_V (As := [.int (ji (((r+1:Nat):Int))), .long (jl (pr (sf (bef p r)) (sf (-v)))), .int (ji (bi (box p r (sf (-v)))))]) (rest := []) hx hb hml hown hg hl hK hP hS (by omega) (sh_M E _) rfl (kM_obstacleOf l E hJ M4 (r + 1) hTG4 (pr (sf (bef p r)) (sf (-v))) (n4 hDs) (by omega) (box p r (sf (-v))) c9 w8 (by omega) (Sx (Sq p r) (sf (-v))) w33 (fun q hq => hq.elim (fun hq => Sp_bd hpB (Sq_Sp hpB hq)) (fun hq => ⟨hq.1.1, by have := Nat.le_of_dvd (by omega) hq.2; omega⟩)) hex) wd595 wd597 wds19 wd5 wd598 ⟨rfl, rfl⟩ (n := 3) (by decide +kernel) rfl ⟨by decide, by decide⟩ rfl (Nat.le_of_ble_eq_true rfl) dM_takes_147 ⟨Nat.zero_le _, Nat.zero_le _⟩ (fun v M5 H locs hq5 hP hS => ?_)
                obtain ⟨⟨z9, rfl, hz9, ho9⟩, hM5⟩ := hq5
                rw [hM5] at hP
                rw [hzz] at ho9
                refine j_if_ge hx hb hz9 dM_takes_150 rfl (fun h8 => ?_) (fun h8 => ?_)
                · refine j_iconst hx hb dM_takes_157 ?_
                  exact mm_zret hx hb hr hk hP hS dM_takes_158 nar_0 ⟨⟨False, by rw [bi_f id], fun q => absurd hok q, fun _ q => absurd q h4, fun _ _ => ⟨w12, fo_u hfg ⟨r, p, hfp, fun q => by omega, fun _ => ⟨z9, ho9, ⟨False.elim, fun q => by omega⟩⟩⟩⟩⟩, hFQ4⟩
                · refine j_iconst hx hb dM_takes_153 ?_
                  refine lv_goto hx hb dM_takes_154 rfl ?_
                  exact mm_zret hx hb hr hk hP hS dM_takes_158 nar_1 ⟨⟨True, by rw [bi_t trivial], fun q => absurd hok q, fun _ q => absurd q h4, fun _ _ => ⟨w12, fo_u hfg ⟨r, p, hfp, fun q => by omega, fun _ => ⟨z9, ho9, ⟨fun _ => by omega, fun _ => trivial⟩⟩⟩⟩⟩, hFQ4⟩
              have k123 : ∀ (ls : Array Slot), box p r (sf (-v)) → lv_has ls 6 [(3, .long (jl (sf (-v)))), (0, .ref (E.2.1 28)), (1, .int (ji ((g:Int)))), (2, .int (ji v))] → W p_ l e_ (rmd 5) s_ m_ a_ b_ t_ c_ H locs 0 0 (XQ b_ (mmQ E (fun w M9 => (∃ z : Prop, w = some (.int (ji (bi z))) ∧ (¬ (fo f ∧ -1000 ≤ v ∧ v ≤ 1000) → M9 28 12 = 1) ∧ ((fo f ∧ -1000 ≤ v ∧ v ≤ 1000) → v = 0 → M9 28 12 = 2) ∧ ((fo f ∧ -1000 ≤ v ∧ v ≤ 1000) → v ≠ 0 → M9 28 12 = 0 ∧ ∀ g : Nat, f = g → ∃ r p, fpv (nn g) (aM M g) r p ∧ tkM (nn g) r p (sf (-v)) z)) ∧ FrQ M M9)) a_ s_ 0 0 (wA E)) (F0 m_ 123 ls []) := by
                intro ls hbx hl
                refine j_iconst hx hb dM_takes_123 ?_
                refine lv_goto hx hb dM_takes_124 rfl ?_
                exact k128 ls 1 (bi_t hbx).symm hl
              have k127 : ∀ (ls : Array Slot), ¬ box p r (sf (-v)) → lv_has ls 6 [(3, .long (jl (sf (-v)))), (0, .ref (E.2.1 28)), (1, .int (ji ((g:Int)))), (2, .int (ji v))] → W p_ l e_ (rmd 5) s_ m_ a_ b_ t_ c_ H locs 0 0 (XQ b_ (mmQ E (fun w M9 => (∃ z : Prop, w = some (.int (ji (bi z))) ∧ (¬ (fo f ∧ -1000 ≤ v ∧ v ≤ 1000) → M9 28 12 = 1) ∧ ((fo f ∧ -1000 ≤ v ∧ v ≤ 1000) → v = 0 → M9 28 12 = 2) ∧ ((fo f ∧ -1000 ≤ v ∧ v ≤ 1000) → v ≠ 0 → M9 28 12 = 0 ∧ ∀ g : Nat, f = g → ∃ r p, fpv (nn g) (aM M g) r p ∧ tkM (nn g) r p (sf (-v)) z)) ∧ FrQ M M9)) a_ s_ 0 0 (wA E)) (F0 m_ 127 ls []) := by
                intro ls hbx hl
                refine j_iconst hx hb dM_takes_127 ?_
                exact k128 ls 0 (bi_f hbx).symm hl
              have k110 : ∀ (ls : Array Slot), ¬ (0 < ps p r ∧ 0 < ng p r) → ¬ (0 < ps p r ∧ sf (-v) < 0) → lv_has ls 6 [(3, .long (jl (sf (-v)))), (0, .ref (E.2.1 28)), (1, .int (ji ((g:Int)))), (2, .int (ji v))] → W p_ l e_ (rmd 5) s_ m_ a_ b_ t_ c_ H locs 0 0 (XQ b_ (mmQ E (fun w M9 => (∃ z : Prop, w = some (.int (ji (bi z))) ∧ (¬ (fo f ∧ -1000 ≤ v ∧ v ≤ 1000) → M9 28 12 = 1) ∧ ((fo f ∧ -1000 ≤ v ∧ v ≤ 1000) → v = 0 → M9 28 12 = 2) ∧ ((fo f ∧ -1000 ≤ v ∧ v ≤ 1000) → v ≠ 0 → M9 28 12 = 0 ∧ ∀ g : Nat, f = g → ∃ r p, fpv (nn g) (aM M g) r p ∧ tkM (nn g) r p (sf (-v)) z)) ∧ FrQ M M9)) a_ s_ 0 0 (wA E)) (F0 m_ 110 ls []) := by
                intro ls b1 b2 hl
                refine lv_aload_n hx hb dM_takes_110 rfl (lv_at hl 1 rfl) ?_
                refine m_get (C := "RationalFormsModel") (T := TxM) (N := 13) hx hb hg uwM hown hK hP (by omega) (sh_M E _) rfl 6 (by decide) wd465 rfl dM_takes_111 ?_
                refine j_if_le hx hb (by rw [w6]; omega) dM_takes_114 rfl (fun h8 => ?_) (fun h8 => ?_)
                · rw [w6] at h8
                  exact k127 ls (fun q => by unfold box at q; omega) hl
                · rw [w6] at h8
                  refine lv_lload_n hx hb dM_takes_117 rfl (lv_at hl 0 rfl) ?_
                  refine j_lconst0 hx hb dM_takes_118 ?_
                  refine j_lc_le hx hb (by omega) (by omega) dM_takes_119 dM_takes_120 rfl (fun h7 => ?_) (fun h7 => ?_)
                  · exact k127 ls (fun q => by unfold box at q; omega) hl
                  · exact k123 ls (Or.inr (Or.inr ⟨h8, h7⟩)) hl
              have k97 : ∀ (ls : Array Slot), ¬ (0 < ps p r ∧ 0 < ng p r) → lv_has ls 6 [(3, .long (jl (sf (-v)))), (0, .ref (E.2.1 28)), (1, .int (ji ((g:Int)))), (2, .int (ji v))] → W p_ l e_ (rmd 5) s_ m_ a_ b_ t_ c_ H locs 0 0 (XQ b_ (mmQ E (fun w M9 => (∃ z : Prop, w = some (.int (ji (bi z))) ∧ (¬ (fo f ∧ -1000 ≤ v ∧ v ≤ 1000) → M9 28 12 = 1) ∧ ((fo f ∧ -1000 ≤ v ∧ v ≤ 1000) → v = 0 → M9 28 12 = 2) ∧ ((fo f ∧ -1000 ≤ v ∧ v ≤ 1000) → v ≠ 0 → M9 28 12 = 0 ∧ ∀ g : Nat, f = g → ∃ r p, fpv (nn g) (aM M g) r p ∧ tkM (nn g) r p (sf (-v)) z)) ∧ FrQ M M9)) a_ s_ 0 0 (wA E)) (F0 m_ 97 ls []) := by
                intro ls b1 hl
                refine lv_aload_n hx hb dM_takes_97 rfl (lv_at hl 1 rfl) ?_
                refine m_get (C := "RationalFormsModel") (T := TxM) (N := 13) hx hb hg uwM hown hK hP (by omega) (sh_M E _) rfl 5 (by decide) wd464 rfl dM_takes_98 ?_
                refine j_if_le hx hb (by rw [w5]; omega) dM_takes_101 rfl (fun h8 => ?_) (fun h8 => ?_)
                · rw [w5] at h8
                  exact k110 ls b1 (by omega) hl
                · rw [w5] at h8
                  refine lv_lload_n hx hb dM_takes_104 rfl (lv_at hl 0 rfl) ?_
                  refine j_lconst0 hx hb dM_takes_105 ?_
                  refine j_lc_lt hx hb (by omega) (by omega) dM_takes_106 dM_takes_107 rfl (fun h7 => ?_) (fun h7 => ?_)
                  · exact k123 ls (Or.inr (Or.inl ⟨h8, h7⟩)) hl
                  · exact k110 ls b1 (by omega) hl
              refine lv_aload_n hx hb dM_takes_83 rfl (lv_at hl 1 rfl) ?_
              refine m_get (C := "RationalFormsModel") (T := TxM) (N := 13) hx hb hg uwM hown hK hP (by omega) (sh_M E _) rfl 5 (by decide) wd464 rfl dM_takes_84 ?_
              refine j_if_le hx hb (by rw [w5]; omega) dM_takes_87 rfl (fun h6 => ?_) (fun h6 => ?_)
              · rw [w5] at h6
                exact k97 ls (by omega) hl
              · rw [w5] at h6
                refine lv_aload_n hx hb dM_takes_90 rfl (lv_at hl 1 rfl) ?_
                refine m_get (C := "RationalFormsModel") (T := TxM) (N := 13) hx hb hg uwM hown hK hP (by omega) (sh_M E _) rfl 6 (by decide) wd465 rfl dM_takes_91 ?_
                refine j_if_gt hx hb (by rw [w6]; omega) dM_takes_94 rfl (fun h7 => ?_) (fun h7 => ?_)
                · rw [w6] at h7
                  exact k123 ls (Or.inl ⟨h6, h7⟩) hl
                · rw [w6] at h7
                  exact k97 ls (by omega) hl
            · rw [hr3] at h5
              refine j_iconst hx hb dM_takes_59 ?_
              exact mm_zret hx hb hr hk hP hS dM_takes_60 nar_0 ⟨⟨False, by rw [bi_f id], fun q => absurd hok q, fun _ q => absurd q h4, fun _ _ => ⟨h212, fo_u hfg ⟨r, p, hfp, fun _ => id, fun q => by omega⟩⟩⟩, hFQ⟩
          · omega
        · refine j_iconst hx hb dM_takes_30 ?_
          refine lv_goto hx hb dM_takes_31 rfl ?_
          refine m_put (C := "RationalFormsModel") (T := TxM) (N := 13) (ty := .int) (z := 2) hx hb hg uwM txM txM_ok nmM hown hK hJ hP hS (by omega) (sh_M E _) rfl 12 (by decide) wd471 rfl rfl rfl rfl (Nat.le_of_ble_eq_true rfl) (by rw [sh_M E _]; simp [mu]) dM_takes_35 (fun H locs hP hS => ?_)
          refine lv_aload_n hx hb dM_takes_38 rfl (lv_at hl 0 rfl) ?_
          refine m_get (C := "RationalFormsModel") (T := TxM) (N := 13) hx hb hg uwM hown hK hP (by omega) (sh_M E _) rfl 12 (by decide) wd471 rfl dM_takes_39 ?_
          refine j_if_eq hx hb (by first | (rw [mu_s]; decide) | (rw [h12]; decide)) dM_takes_42 rfl (fun h9 => ?_) (fun h9 => ?_)
          · rw [mu_s] at h9
            omega
          · refine j_iconst hx hb dM_takes_45 ?_
            exact mm_zret hx hb hr hk hP hS dM_takes_46 nar_0 ⟨⟨False, by rw [bi_f id], fun q => absurd hok q, fun _ _ => mu_s _ _ _ _, fun _ q => absurd h4 q⟩, fun q hq => mu_k (by omega)⟩
      · exact bad ls (by omega) hl
