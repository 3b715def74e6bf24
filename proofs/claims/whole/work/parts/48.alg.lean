/-! terms: squarefree, congruence of signs and zeros, lists with the same members -/
theorem hI_cg {σ : Int → Int → Int} {t t' : Nat → Int} {i r : Nat} (h : ∀ j, j < r → t j = t' j) (hi : i < r) : ∀ n, i + n < r → hI σ t i n = hI σ t' i n
  | 0, _ => rfl
  | n + 1, hn => by
    show hI σ t i n * σ (t i) (t (i + 1 + n)) = hI σ t' i n * σ (t' i) (t' (i + 1 + n))
    rw [hI_cg h hi n (by omega), h i hi, h (i + 1 + n) (by omega)]
theorem hO_cg {σ : Int → Int → Int} {t t' : Nat → Int} {r : Nat} (h : ∀ j, j < r → t j = t' j) : ∀ i, i ≤ r → hO σ t r i = hO σ t' r i
  | 0, _ => rfl
  | i + 1, hi => by
    show hO σ t r i * hI σ t i (r - (i + 1)) = hO σ t' r i * hI σ t' i (r - (i + 1))
    rw [hO_cg h i (by omega), hI_cg h (by omega : i < r) _ (by omega)]
theorem hs_cg {σ : Int → Int → Int} {t t' : Nat → Int} {r : Nat} (h : ∀ j, j < r → t j = t' j) : hs σ t r = hs σ t' r := hO_cg h r (Nat.le_refl r)
theorem zM_cg {r : Nat} {D : Int} {t t' : Nat → Int} {bo : Prop} (h : ∀ j, j < r → t j = t' j) (p : Int) : zM r D t bo p = zM r D t' bo p := by
  unfold zM
  rw [hs_cg h]
theorem sq_mul {a b : Nat} (hc : Nat.Coprime a b) (ha : ∀ d, 1 < d → ¬ d * d ∣ a) (hb : ∀ d, 1 < d → ¬ d * d ∣ b) : ∀ d, 1 < d → ¬ d * d ∣ a * b := by
  intro d hd hdd
  obtain ⟨q, hq, e, he⟩ := prm_div hd
  have hqq : q * q ∣ a * b := Nat.dvd_trans ⟨e * e, by rw [he]; grind⟩ hdd
  have h1 : q ∣ a * b := Nat.dvd_trans (Nat.dvd_mul_right q q) hqq
  rcases prm_mul hq h1 with h2 | h2
  · have h3 : Nat.Coprime q b := Nat.Coprime.coprime_dvd_left h2 hc
    exact ha q hq.1 (Nat.Coprime.dvd_of_dvd_mul_right (Nat.Coprime.mul_left h3 h3) hqq)
  · have h3 : Nat.Coprime q a := Nat.Coprime.coprime_dvd_left h2 hc.symm
    exact hb q hq.1 (Nat.Coprime.dvd_of_dvd_mul_left (Nat.Coprime.mul_left h3 h3) hqq)
theorem pr_sq {a b : Int} (ha0 : a ≠ 0) (ha : ∀ d, 1 < d → ¬ d * d ∣ a.natAbs) (hb : ∀ d, 1 < d → ¬ d * d ∣ b.natAbs) : ∀ d, 1 < d → ¬ d * d ∣ (pr a b).natAbs := by
  obtain ⟨g, a', b', hg, h1, h2, hc, -, h3⟩ := pr_parts (b := b) ha0
  rw [h3, Int.natAbs_mul]
  have e1 : a.natAbs = g * a'.natAbs := by rw [h1, Int.natAbs_mul, Int.natAbs_natCast]
  have e2 : b.natAbs = g * b'.natAbs := by rw [h2, Int.natAbs_mul, Int.natAbs_natCast]
  refine sq_mul hc (fun d hd q => ha d hd ?_) (fun d hd q => hb d hd ?_)
  · rw [e1]; exact Nat.dvd_trans q (Nat.dvd_mul_left _ _)
  · rw [e2]; exact Nat.dvd_trans q (Nat.dvd_mul_left _ _)
theorem pr_dv {a b : Int} (ha0 : a ≠ 0) : (pr a b).natAbs ∣ a.natAbs * b.natAbs := by
  obtain ⟨g, a', b', hg, h1, h2, hc, -, h3⟩ := pr_parts (b := b) ha0
  rw [h3, Int.natAbs_mul, h1, h2, Int.natAbs_mul, Int.natAbs_mul, Int.natAbs_natCast]
  exact ⟨g * g, by grind⟩
theorem n4 {a : Int} (h : ∀ d, 1 < d → ¬ d * d ∣ a.natAbs) : ¬ (4 : Int) ∣ a := fun q => h 2 (by omega) (by
  have := Int.natAbs_dvd_natAbs.mpr q
  exact this)
theorem tr_sq {p : Nat → Int} {k i : Nat} (h : pB p k) (hi : i < k) : ∀ d, 1 < d → ¬ d * d ∣ (tr p i).natAbs :=
  pr_sq (sf_ne (h i hi).1) (sf_sq (h i hi).1) (sf_sq (bef_pB (k := i) (fun j hj => h j (by omega))).1)
theorem ds_sq {p : Nat → Int} {k : Nat} (h : pB p k) : ∀ d, 1 < d → ¬ d * d ∣ (sf (bef p k)).natAbs := sf_sq (bef_pB h).1
theorem ds_ne {p : Nat → Int} {k : Nat} (h : pB p k) : sf (bef p k) ≠ 0 := sf_ne (bef_pB h).1
theorem ds_le {p : Nat → Int} {k : Nat} (h : pB p k) : (sf (bef p k)).natAbs ≤ 169869312 := Nat.le_trans (sf_le (bef_pB h).1) (bef_pB h).2
theorem TG_of {M : Me} {k c : Nat} {p : Nat → Int} (hk : k ≤ 4) (h : LkS M k p c) (hp : pB p k) : TG M k := ⟨by omega, fun i hi => by
  rw [h.2.1 i hi]
  have := (tr_bd hp hi).2
  exact ⟨by omega, n4 (tr_sq hp hi)⟩⟩
/-- where p divides a squarefree number it is no square -/
theorem nd_abs {q : Nat} {D : Int} : (q : Int) ∣ D ↔ q ∣ D.natAbs := by
  rw [← Int.natAbs_dvd_natAbs, Int.natAbs_natCast]
theorem nsq {D : Int} {q : Nat} (hq : prm q) (hd : q ∣ D.natAbs) : ¬ sqM (-D) q := by
  have hq1 := hq.1
  have h1 : (q : Int) ∣ -D := nd_abs.mpr (by rw [Int.natAbs_neg]; exact hd)
  unfold sqM
  rw [if_neg (by omega)]
  exact fun h => h.1 h1
theorem hexD {D : Int} (hD0 : D ≠ 0) (h0 : 0 < -D) (h1 : D ≠ -1) {B : Nat} (hB : ∀ q, prm q → q ∣ D.natAbs → q ≤ B) : ∃ q : Nat, prm q ∧ q ≤ B ∧ ¬ sqM (-D) q := by
  obtain ⟨q, q1, q2⟩ := prm_div (d := D.natAbs) (by omega)
  exact ⟨q, q1, hB q q1 q2, nsq q1 q2⟩
theorem SL_uq {c c' : Nat} {a a' : Nat → Int} {S S' : Nat → Prop} (h : SL c a S) (h' : SL c' a' S') : (c' = c ∧ ∀ i, i < c → a' i = a i) ↔ ∀ q, S q ↔ S' q := by
  have key : ∀ {c c' : Nat} {a a' : Nat → Int} {S S' : Nat → Prop}, SL c a S → SL c' a' S' → (∀ q, S q → S' q) → ∀ i, i < c → (∀ j, j < i → j < c' ∧ a' j = a j) → i < c' ∧ a' i ≤ a i := by
    intro c c' a a' S S' h h' hS i hi hj
    obtain ⟨q, q1, q2⟩ := h.2.1 i hi
    obtain ⟨m, m1, m2⟩ := h'.2.2 q (hS q q2)
    have hmi : i ≤ m := by
      rcases Nat.lt_or_ge m i with g | g
      · have h1 := (hj m g).2
        have h2 := h.1 m i g hi
        omega
      · exact g
    refine ⟨by omega, ?_⟩
    rcases Nat.lt_or_ge i m with g | g
    · have := h'.1 i m g m1; omega
    · have : m = i := by omega
      rw [this] at m2
      omega
  constructor
  · rintro ⟨rfl, e⟩ q
    constructor
    · intro hq
      obtain ⟨i, i1, i2⟩ := h.2.2 q hq
      obtain ⟨q', q1, q2⟩ := h'.2.1 i i1
      rw [e i i1, i2] at q1
      have : q = q' := by omega
      rw [this]; exact q2
    · intro hq
      obtain ⟨i, i1, i2⟩ := h'.2.2 q hq
      obtain ⟨q', q1, q2⟩ := h.2.1 i i1
      rw [← e i i1, i2] at q1
      have : q = q' := by omega
      rw [this]; exact q2
  · intro hS
    have main : ∀ i, (∀ j, j < i → j < c → j < c' ∧ a' j = a j) ∧ (∀ j, j < i → j < c' → j < c) := by
      intro i
      induction i with
      | zero => exact ⟨fun j hj => by omega, fun j hj => by omega⟩
      | succ i ih =>
        refine ⟨fun j hj hc => ?_, fun j hj hc => ?_⟩
        · rcases Nat.lt_or_ge j i with g | g
          · exact ih.1 j g hc
          · have hji : j = i := by omega
            rw [hji] at hc ⊢
            have k1 := key h h' (fun q => (hS q).mp) i hc (fun j hj => ih.1 j hj (by omega))
            have k2 := key h' h (fun q => (hS q).mpr) i k1.1 (fun j hj => ⟨by omega, (ih.1 j hj (by omega)).2.symm⟩)
            exact ⟨k1.1, by omega⟩
        · rcases Nat.lt_or_ge j i with g | g
          · exact ih.2 j g hc
          · have hji : j = i := by omega
            rw [hji] at hc ⊢
            exact (key h' h (fun q => (hS q).mpr) i hc (fun j hj => ⟨ih.2 j hj (by omega), (ih.1 j hj (ih.2 j hj (by omega))).2.symm⟩)).1
    have m := main (c + c' + 1)
    have e1 : c' = c := by
      rcases Nat.lt_trichotomy c c' with g | g | g
      · exact absurd (m.2 c (by omega) g) (by omega)
      · exact g.symm
      · exact absurd (m.1 c' (by omega) g).1 (by omega)
    exact ⟨e1, fun i hi => (m.1 i (by omega) hi).2⟩
