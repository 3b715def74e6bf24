/-! the class's words and the reference's: the same on squarefree numbers -/
abbrev sqf (a : Int) : Prop := ∀ d, 1 < d → ¬ d * d ∣ a.natAbs
theorem sqf_neg {a : Int} (h : sqf a) : sqf (-a) := by unfold sqf; rw [Int.natAbs_neg]; exact h
theorem sqf_m1 : sqf (-1) := one_sq
theorem sqf_dd {a : Int} {q : Nat} (h : sqf a) (hq : 1 < q) (hd : (q : Int) ∣ a) : ¬ (q : Int) ∣ a / q := by
  intro h2
  obtain ⟨x, hx⟩ := hd
  rw [hx, Int.mul_ediv_cancel_left _ (by omega)] at h2
  obtain ⟨y, hy⟩ := h2
  refine h q hq ?_
  rw [hx, hy, ← Int.mul_assoc, Int.natAbs_mul, Int.natAbs_mul, Int.natAbs_natCast]
  exact Nat.dvd_mul_right _ _
theorem od_sf {a : Int} {q : Nat} (h : sqf a) (hq : 1 < q) : ((od 64 a q % 2 : Nat) : Int) = oM a q := by
  unfold oM
  show (((if (q : Int) ∣ a then od 63 (a / q) q + 1 else 0) % 2 : Nat) : Int) = _
  by_cases hd : (q : Int) ∣ a
  · rw [if_pos hd, if_pos hd]
    have : od 63 (a / q) q = 0 := by
      show (if (q : Int) ∣ a / q then od 62 (a / q / q) q + 1 else 0) = 0
      rw [if_neg (sqf_dd h hq hd)]
    rw [this]; rfl
  · rw [if_neg hd, if_neg hd]; rfl
theorem un_sf {a : Int} {q : Nat} (h : sqf a) (hq : 1 < q) : un a q = uM a q := by
  unfold un uM
  have : wo 64 a q = if (q : Int) ∣ a then a / q else a := by
    show (if (q : Int) ∣ a then wo 63 (a / q) q else a) = _
    by_cases hd : (q : Int) ∣ a
    · rw [if_pos hd, if_pos hd]
      show (if (q : Int) ∣ a / q then wo 62 (a / q / q) q else a / q) = _
      rw [if_neg (sqf_dd h hq hd)]
    · rw [if_neg hd, if_neg hd]
  rw [this]
theorem sy_sf {a b : Int} (ha : sqf a) (hb : sqf b) {q : Nat} (hq : q = 0 ∨ 1 < q) : sy a b q = syM a b q := by
  unfold sy syM
  rcases hq with rfl | hq
  · rfl
  · rw [if_neg (by omega), if_neg (by omega), od_sf ha hq, od_sf hb hq, un_sf ha hq, un_sf hb hq]
theorem sq_sf {a : Int} (ha : sqf a) {q : Nat} (hq : q = 0 ∨ 1 < q) : sq a q ↔ sqM a q := by
  unfold sq sqM
  rcases hq with rfl | hq
  · exact Iff.rfl
  · have h00 : ¬ (q : Int) = 0 := by omega
    rw [if_neg h00, if_neg h00, un_sf ha hq]
    have h1 := od_sf ha hq
    have h2 : od 64 a q % 2 = 0 ↔ ¬ (q : Int) ∣ a := by
      unfold oM at h1
      by_cases hd : (q : Int) ∣ a
      · rw [if_pos hd] at h1
        exact ⟨fun z => by omega, fun z => absurd hd z⟩
      · rw [if_neg hd] at h1
        exact ⟨fun _ => hd, fun _ => by omega⟩
    rw [h2]
theorem hI_sg {σ σ' : Int → Int → Int} {t : Nat → Int} {i r : Nat} (h : ∀ i j, i < r → j < r → σ (t i) (t j) = σ' (t i) (t j)) (hi : i < r) : ∀ n, i + n < r → hI σ t i n = hI σ' t i n
  | 0, _ => rfl
  | n + 1, hn => by
    show hI σ t i n * σ (t i) (t (i + 1 + n)) = hI σ' t i n * σ' (t i) (t (i + 1 + n))
    rw [hI_sg h hi n (by omega), h i (i + 1 + n) hi (by omega)]
theorem hO_sg {σ σ' : Int → Int → Int} {t : Nat → Int} {r : Nat} (h : ∀ i j, i < r → j < r → σ (t i) (t j) = σ' (t i) (t j)) : ∀ i, i ≤ r → hO σ t r i = hO σ' t r i
  | 0, _ => rfl
  | i + 1, hi => by
    show hO σ t r i * hI σ t i (r - (i + 1)) = hO σ' t r i * hI σ' t i (r - (i + 1))
    rw [hO_sg h i (by omega), hI_sg h (by omega : i < r) _ (by omega)]
theorem hs_sg {σ σ' : Int → Int → Int} {t : Nat → Int} {r : Nat} (h : ∀ i j, i < r → j < r → σ (t i) (t j) = σ' (t i) (t j)) : hs σ t r = hs σ' t r := hO_sg h r (Nat.le_refl r)
theorem hI_1 {t : Nat → Int} (i : Nat) : ∀ n, hI (fun _ _ => 1) t i n = 1
  | 0 => rfl
  | n + 1 => by show hI _ t i n * 1 = 1; rw [hI_1 i n]; rfl
theorem hO_1 {t : Nat → Int} (r : Nat) : ∀ i, hO (fun _ _ => 1) t r i = 1
  | 0 => rfl
  | i + 1 => by show hO _ t r i * hI _ t i _ = 1; rw [hO_1 r i, hI_1]; rfl
theorem hs_1 {t : Nat → Int} (r : Nat) : hs (fun _ _ => 1) t r = 1 := hO_1 r r
/-- squarefree terms: Hasse signs and zeros agree -/
def tsf (t : Nat → Int) (r : Nat) : Prop := ∀ i, i < r → sqf (t i)
theorem hs_sf {t : Nat → Int} {r : Nat} (ht : tsf t r) {q : Nat} (hq : q = 0 ∨ 1 < q) : hs (fun a b => sy a b q) t r = hs (fun a b => syM a b q) t r := hs_sg (fun i j hi hj => sy_sf (ht i hi) (ht j hj) hq)
theorem zr_zM {n r : Nat} {D : Int} {t : Nat → Int} {a b : Int} (ht : tsf t r) (hD : sqf D) {q : Nat} (hq : q = 0 ∨ 1 < q) : zr n r D t a b q ↔ r < n ∨ zM r D t (0 < a ∧ 0 < b) q := by
  unfold zr zM
  rw [hs_sf ht hq, sy_sf sqf_m1 (sqf_neg hD) hq, sy_sf sqf_m1 sqf_m1 hq, sq_sf (sqf_neg hD) hq, sq_sf hD hq]
/-- units at an odd prime: symbol 1 -/
theorem syM_1 {a b : Int} {q : Nat} (hq : 1 < q) (h2 : q ≠ 2) (ha : ¬ (q : Int) ∣ a) (hb : ¬ (q : Int) ∣ b) : syM a b q = 1 := by
  unfold syM sF so oM
  rw [if_neg (by omega), if_neg (by omega), if_neg ha, if_neg hb, bi_f (fun z => by omega), bi_f (fun z => by omega), Int.zero_mul, Int.zero_mul]
  rfl
theorem hs_un {t : Nat → Int} {r q : Nat} (hq : 1 < q) (h2 : q ≠ 2) (h : ∀ i, i < r → ¬ (q : Int) ∣ t i) : hs (fun a b => syM a b q) t r = 1 :=
  (hs_sg (σ := fun a b => syM a b q) (σ' := fun _ _ => 1) (t := t) (fun i j hi hj => by show syM (t i) (t j) q = 1; exact syM_1 hq h2 (h i hi) (h j hj))).trans (hs_1 r)
theorem nd_m1 {q : Nat} (hq : 1 < q) : ¬ (q : Int) ∣ -1 := fun h => by
  have := nd_abs.mp h
  have := Nat.le_of_dvd (by decide) this
  simp at this
  omega
/-- from rank 3 on there is a zero at a prime that no term holds -/
theorem zM_un {t : Nat → Int} {r q : Nat} {D : Int} {bo : Prop} (hr : 3 ≤ r) (hq : 1 < q) (h2 : q ≠ 2) (h : ∀ i, i < r → ¬ (q : Int) ∣ t i) (hD : ¬ (q : Int) ∣ D) : zM r D t bo q := by
  unfold zM
  rw [hs_un hq h2 h, syM_1 hq h2 (nd_m1 hq) (fun z => hD (Int.dvd_neg.mp z)), syM_1 hq h2 (nd_m1 hq) (nd_m1 hq)]
  rcases (by omega : r = 3 ∨ r = 4 ∨ 4 < r) with g | g | g
  · exact Or.inr (Or.inl ⟨g, rfl⟩)
  · exact Or.inr (Or.inr (Or.inl ⟨g, Or.inr rfl⟩))
  · exact Or.inr (Or.inr (Or.inr ⟨g, Or.inl (by omega)⟩))
theorem least {S : Nat → Prop} : ∀ q, S q → ∃ m, S m ∧ ∀ x, x < m → ¬ S x := by
  intro q
  induction q using Nat.strongRecOn with
  | ind q ih =>
    intro hq
    by_cases h : ∃ x, x < q ∧ S x
    · obtain ⟨x, x1, x2⟩ := h
      exact ih x x1 x2
    · exact ⟨q, hq, fun x hx hS => h ⟨x, hx, hS⟩⟩
theorem sqM_1 {q : Nat} (hq : prm q) : sqM 1 q := by
  have h1 := hq.1
  unfold sqM uM
  have hn : ¬ (q : Int) ∣ 1 := fun h => by
    have := Nat.le_of_dvd (by decide) (nd_abs.mp h)
    simp at this
    omega
  rw [if_neg (by omega), if_neg hn]
  refine ⟨hn, ?_⟩
  unfold um
  by_cases h2 : (q : Int) = 2
  · rw [if_pos h2, if_pos h2]; rfl
  · rw [if_neg h2, if_neg h2]
    have e1 : (1 : Int) % (q : Int) = 1 := Int.emod_eq_of_lt (by omega) (by omega)
    rw [e1]
    unfold qr
    show 1 ^ ((q - 1) / 2) % q = 1
    rw [Nat.one_pow]
    exact Nat.mod_eq_of_lt h1
/-- obstacles agree -/
theorem ob_ag {R : Nat} {t : Nat → Int} {D a b v v' : Int} {SC SM : Nat → Prop} (ht : tsf t R) (hD : sqf D) (hD0 : D ≠ 0) (hsub : ∀ q, SM q → SC q) (hpr : ∀ q, SC q → prm q) (hex : ∀ q, SC q → ¬ SM q → q ≠ 2 ∧ (∀ i, i < R → ¬ (q : Int) ∣ t i) ∧ ¬ (q : Int) ∣ D) (hdv : ∀ q, prm q → q ∣ D.natAbs → SM q) (hR1 : 1 ≤ R)
    (hC : lpz SC (zr R R D t a b) R D v) (hM : oMs SM (zM R D t (0 < a ∧ 0 < b)) R D v') : v = v' := by
  have hZ : ∀ q : Nat, (q = 0 ∨ 1 < q) → (zr R R D t a b q ↔ zM R D t (0 < a ∧ 0 < b) q) := fun q hq => (zr_zM ht hD hq).trans ⟨fun h => h.elim (fun h => by omega) id, Or.inr⟩
  have hZ0 : zr R R D t a b 0 ↔ zM R D t (0 < a ∧ 0 < b) 0 := hZ 0 (Or.inl rfl)
  have hZq : ∀ q, SC q → (zr R R D t a b q ↔ zM R D t (0 < a ∧ 0 < b) q) := fun q hq => hZ q (Or.inr (hpr q hq).1)
  by_cases h0 : zr R R D t a b 0
  · have h0' := hZ0.mp h0
    by_cases hR2 : R = 2
    · have hZ2 : ∀ q, SC q → (zr R R D t a b q ↔ sqM (-D) q) := fun q hq => (hZq q hq).trans ⟨fun h => by rcases h with h | h | h | h; exact h.2; omega; omega; omega, fun h => Or.inl ⟨hR2, h⟩⟩
      by_cases hm1 : D = -1
      · rw [hM.2.1 h0' hR2 hm1]
        exact hC.2.1 h0 (fun q hq => (hZ2 q hq).mpr (by rw [hm1]; exact sqM_1 (hpr q hq)))
      · obtain ⟨w, w1, w2, w3, w4⟩ := hM.2.2.1 h0' hR2 hm1
        have hpos : 0 < -D := by
          subst hR2
          exact zM2 h0'
        obtain ⟨q1, p1, p2⟩ := prm_div (d := D.natAbs) (by omega)
        obtain ⟨q0, ⟨g1, g2⟩, g3⟩ := least (S := fun q => SC q ∧ ¬ zr R R D t a b q) q1 ⟨hsub q1 (hdv q1 p1 p2), fun z => nsq p1 p2 ((hZ2 q1 (hsub q1 (hdv q1 p1 p2))).mp z)⟩
        obtain ⟨w', e1, e2⟩ := (hC.2.2 h0 q0 g1 g2 (fun m hm hlt => Classical.byContradiction fun z => g3 m hlt ⟨hm, z⟩)).2 hR2
        have hsq : ∀ m : Nat, prm m → (sq (-D) m ↔ sqM (-D) m) := fun m hm => sq_sf (sqf_neg hD) (Or.inr hm.1)
        have hq0 : ¬ sqM (-D) q0 := fun z => g2 ((hZ2 q0 g1).mpr z)
        rw [e1, w1]
        congr 1
        rcases e2 with ⟨f1, f2, f3, f4⟩ | ⟨f1, f2⟩
        · have f3' : ¬ sqM (-D) w' := fun z => f3 ((hsq w' f2).mpr z)
          rcases Nat.lt_trichotomy w' w with z | z | z
          · exact absurd (w4 w' z f2) f3'
          · exact z
          · exact absurd ((hsq w w2).mp (f4 w z w2)) w3
        · rcases Nat.lt_trichotomy w' w with z | z | z
          · rw [f1] at z
            exact absurd (w4 q0 z (hpr q0 g1)) hq0
          · exact z
          · rw [f1] at z
            exact absurd ((hsq w w2).mp (f2 w z w2)) w3
    · by_cases hR1' : R = 1
      · exfalso
        rcases h0' with h | h | h | h <;> omega
      · have hR3 : 3 ≤ R := by omega
        have hX : ∀ q, SC q → ¬ SM q → zr R R D t a b q := fun q h1 h2 => (hZq q h1).mpr (by
          obtain ⟨x1, x2, x3⟩ := hex q h1 h2
          exact zM_un hR3 (hpr q h1).1 x1 x2 x3)
        by_cases hall : ∀ q : Nat, SM q → zM R D t (0 < a ∧ 0 < b) q
        · rw [hM.2.2.2.1 h0' hR2 hall]
          refine hC.2.1 h0 (fun q hq => ?_)
          by_cases hs : SM q
          · exact (hZq q hq).mpr (hall q hs)
          · exact hX q hq hs
        · obtain ⟨q1, hq1⟩ := Classical.not_forall.mp hall
          have hq1' : SM q1 ∧ ¬ zM R D t (0 < a ∧ 0 < b) q1 := ⟨Classical.byContradiction fun z => hq1 (fun y => absurd y z), fun z => hq1 (fun _ => z)⟩
          obtain ⟨q0, ⟨g1, g2⟩, g3⟩ := least (S := fun q => SM q ∧ ¬ zM R D t (0 < a ∧ 0 < b) q) q1 hq1'
          have e1 := hM.2.2.2.2 h0' hR2 q0 g1 g2 (fun m hm hlt => Classical.byContradiction fun z => g3 m hlt ⟨hm, z⟩)
          have hc0 := hsub q0 g1
          have e2 := (hC.2.2 h0 q0 hc0 (fun z => g2 ((hZq q0 hc0).mp z)) (fun m hm hlt => by
            by_cases hs : SM m
            · exact (hZq m hm).mpr (Classical.byContradiction fun z => g3 m hlt ⟨hs, z⟩)
            · exact hX m hm hs)).1 hR2
          rw [e1, e2]
  · rw [hC.1 h0, hM.1 (fun z => h0 (hZ0.mpr z))]
