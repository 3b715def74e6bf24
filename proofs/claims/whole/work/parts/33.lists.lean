/-! ascending lists of primes, by their members -/
def SL (c : Nat) (a : Nat → Int) (S : Nat → Prop) : Prop := (∀ i j, i < j → j < c → a i < a j) ∧ (∀ i, i < c → ∃ q : Nat, a i = q ∧ S q) ∧ ∀ q, S q → ∃ i, i < c ∧ a i = q
theorem SL.old {c : Nat} {a : Nat → Int} {S : Nat → Prop} (h : SL c a S) {p : Nat} (hp : S p) : SL c a (fun q => q = p ∨ S q) :=
  ⟨h.1, fun i hi => by obtain ⟨q, h1, h2⟩ := h.2.1 i hi; exact ⟨q, h1, Or.inr h2⟩, fun q hq => by
    rcases hq with rfl | hq
    · exact h.2.2 _ hp
    · exact h.2.2 _ hq⟩
theorem SL.to {c : Nat} {a : Nat → Int} {S S' : Nat → Prop} (h : SL c a S) (hS : ∀ q, S q ↔ S' q) : SL c a S' :=
  ⟨h.1, fun i hi => by obtain ⟨q, h1, h2⟩ := h.2.1 i hi; exact ⟨q, h1, (hS q).mp h2⟩, fun q hq => h.2.2 q ((hS q).mpr hq)⟩
theorem SL.arr {c : Nat} {a a' : Nat → Int} {S : Nat → Prop} (h : SL c a S) (ha : ∀ i, i < c → a' i = a i) : SL c a' S :=
  ⟨fun i j hi hj => by rw [ha i (by omega), ha j hj]; exact h.1 i j hi hj, fun i hi => by rw [ha i hi]; exact h.2.1 i hi, fun q hq => by
    obtain ⟨i, h1, h2⟩ := h.2.2 q hq
    exact ⟨i, h1, by rw [ha i h1]; exact h2⟩⟩
theorem SL.ins {c at9 : Nat} {a a' : Nat → Int} {S : Nat → Prop} {p : Nat} (h : SL c a S) (hat : at9 ≤ c) (hlo : ∀ i, i < at9 → a i < p) (hhi : ∀ i, at9 ≤ i → i < c → (p : Int) < a i)
    (h1 : ∀ i, i < at9 → a' i = a i) (h2 : a' at9 = p) (h3 : ∀ i, at9 < i → i ≤ c → a' i = a (i - 1)) : SL (c + 1) a' (fun q => q = p ∨ S q) := by
  refine ⟨fun i j hij hj => ?_, fun i hi => ?_, fun q hq => ?_⟩
  · rcases Nat.lt_trichotomy i at9 with hi | hi | hi
    · rw [h1 i hi]
      rcases Nat.lt_trichotomy j at9 with hj1 | hj1 | hj1
      · rw [h1 j hj1]; exact h.1 i j hij (by omega)
      · rw [hj1, h2]; exact hlo i hi
      · rw [h3 j hj1 (by omega)]
        rcases Nat.lt_or_ge i (j - 1) with h9 | h9
        · exact h.1 i (j - 1) h9 (by omega)
        · omega
    · rw [hi, h2, h3 j (by omega) (by omega)]; exact hhi (j - 1) (by omega) (by omega)
    · rw [h3 i hi (by omega), h3 j (by omega) (by omega)]; exact h.1 (i - 1) (j - 1) (by omega) (by omega)
  · rcases Nat.lt_trichotomy i at9 with hi1 | hi1 | hi1
    · rw [h1 i hi1]; obtain ⟨q, g1, g2⟩ := h.2.1 i (by omega); exact ⟨q, g1, Or.inr g2⟩
    · rw [hi1, h2]; exact ⟨p, rfl, Or.inl rfl⟩
    · rw [h3 i hi1 (by omega)]; obtain ⟨q, g1, g2⟩ := h.2.1 (i - 1) (by omega); exact ⟨q, g1, Or.inr g2⟩
  · rcases hq with rfl | hq
    · exact ⟨at9, by omega, h2⟩
    · obtain ⟨i, g1, g2⟩ := h.2.2 q hq
      rcases Nat.lt_or_ge i at9 with hi | hi
      · exact ⟨i, by omega, by rw [h1 i hi]; exact g2⟩
      · exact ⟨i + 1, by omega, by rw [h3 (i + 1) (by omega) (by omega)]; exact g2⟩
theorem SL.bd {c : Nat} {a : Nat → Int} {S : Nat → Prop} (h : SL c a S) {B : Nat} (hb : ∀ q, S q → q ≤ B) {i : Nat} (hi : i < c) : 0 ≤ a i ∧ a i ≤ B := by
  obtain ⟨q, h1, h2⟩ := h.2.1 i hi
  have := hb q h2
  omega
/-- the next prime to look for: every divisor of n that is a prime lies in S, or divides what is left -/
def pf (n : Nat) (S : Nat → Prop) (S0 : Nat → Prop) (left d : Nat) : Prop := 0 < left ∧ left ∣ n ∧ (∀ e, 1 < e → e < d → ¬ e ∣ left) ∧ (∀ q, S q ↔ S0 q ∨ (prm q ∧ q ∣ n ∧ ¬ q ∣ left))
theorem pf_0 {n : Nat} (hn : 0 < n) (S0 : Nat → Prop) : pf n S0 S0 n 2 := ⟨hn, Nat.dvd_refl n, fun e h1 h2 => by omega, fun q => ⟨Or.inl, fun h => h.elim id (fun h => absurd h.2.1 h.2.2)⟩⟩
theorem pf_skip {n left d : Nat} {S S0 : Nat → Prop} (h : pf n S S0 left d) (hd : ¬ d ∣ left) : pf n S S0 left (d + 1) :=
  ⟨h.1, h.2.1, fun e h1 h2 h3 => by
    rcases Nat.lt_or_ge e d with h4 | h4
    · exact h.2.2.1 e h1 h4 h3
    · have : e = d := by omega
      subst this
      exact hd h3, h.2.2.2⟩
theorem pf_prm {n left d : Nat} {S S0 : Nat → Prop} (h : pf n S S0 left d) (hd2 : 2 ≤ d) (hd : d ∣ left) : prm d :=
  ⟨by omega, fun e h1 h2 h3 => h.2.2.1 e h1 h2 (Nat.dvd_trans h3 hd)⟩
theorem pf_take {n left d left' k : Nat} {S S0 : Nat → Prop} (h : pf n S S0 left d) (hd2 : 2 ≤ d) (hd : d ∣ left) (hk : left = left' * d ^ k) (hn : ¬ d ∣ left') : pf n (fun q => q = d ∨ S q) S0 left' (d + 1) := by
  obtain ⟨h1, h2, h3, h4⟩ := h
  have hp : prm d := pf_prm ⟨h1, h2, h3, h4⟩ hd2 hd
  have hl : left' ∣ left := by rw [hk]; exact Nat.dvd_mul_right _ _
  refine ⟨Nat.pos_of_ne_zero (fun z => by rw [z, Nat.zero_mul] at hk; omega), Nat.dvd_trans hl h2, fun e e1 e2 e3 => ?_, fun q => ⟨fun hq => ?_, fun hq => ?_⟩⟩
  · rcases Nat.lt_or_ge e d with e4 | e4
    · exact h3 e e1 e4 (Nat.dvd_trans e3 hl)
    · have : e = d := by omega
      subst this
      exact hn e3
  · rcases hq with rfl | hq
    · exact Or.inr ⟨hp, Nat.dvd_trans hd h2, hn⟩
    · rcases (h4 q).mp hq with g | ⟨g1, g2, g3⟩
      · exact Or.inl g
      · exact Or.inr ⟨g1, g2, fun z => g3 (Nat.dvd_trans z hl)⟩
  · rcases hq with g | ⟨g1, g2, g3⟩
    · exact Or.inr ((h4 q).mpr (Or.inl g))
    · by_cases hqd : q = d
      · exact Or.inl hqd
      · refine Or.inr ((h4 q).mpr (Or.inr ⟨g1, g2, fun z => ?_⟩))
        rw [hk] at z
        have hc : Nat.Coprime q (d ^ k) := Nat.Coprime.pow_right k (cop_ne g1 hp hqd)
        exact g3 (hc.dvd_of_dvd_mul_right z)
/-- at the end: what is left is 1 or a prime -/
theorem pf_end {n left d : Nat} {S S0 : Nat → Prop} (h : pf n S S0 left d) (hlt : left < d * d) : (left = 1 → ∀ q, S q ↔ S0 q ∨ (prm q ∧ q ∣ n)) ∧ (1 < left → prm left ∧ ∀ q, (q = left ∨ S q) ↔ S0 q ∨ (prm q ∧ q ∣ n)) := by
  obtain ⟨h1, h2, h3, h4⟩ := h
  refine ⟨fun e1 q => ?_, fun g => ?_⟩
  · rw [h4 q]
    constructor
    · rintro (g | ⟨g1, g2, -⟩)
      · exact Or.inl g
      · exact Or.inr ⟨g1, g2⟩
    · rintro (g | ⟨g1, g2⟩)
      · exact Or.inl g
      · refine Or.inr ⟨g1, g2, fun z => ?_⟩
        rw [e1] at z
        have := Nat.le_of_dvd Nat.one_pos z
        have := g1.1
        omega
  · have hp : prm left := prm_of g h3 hlt
    refine ⟨hp, fun q => ?_⟩
    rw [h4 q]
    constructor
    · rintro (rfl | g | ⟨g1, g2, -⟩)
      · exact Or.inr ⟨hp, h2⟩
      · exact Or.inl g
      · exact Or.inr ⟨g1, g2⟩
    · rintro (g | ⟨g1, g2⟩)
      · exact Or.inr (Or.inl g)
      · by_cases hql : q ∣ left
        · exact Or.inl (prm_eq hp g1.1 hql)
        · exact Or.inr (Or.inr ⟨g1, g2, hql⟩)
def fac : Nat → Nat
  | 0 => 1
  | n + 1 => (n + 1) * fac n
theorem fac_pos : ∀ n, 0 < fac n
  | 0 => Nat.one_pos
  | n + 1 => Nat.mul_pos (Nat.succ_pos n) (fac_pos n)
theorem fac_mono {a b : Nat} (h : a ≤ b) : fac a ≤ fac b := by
  induction h with
  | refl => exact Nat.le_refl _
  | step h ih => exact Nat.le_trans ih (Nat.le_mul_of_pos_left _ (Nat.succ_pos _))
theorem fac_lt {a b : Nat} (h : fac a < fac b) : a < b := by
  rcases Nat.lt_or_ge a b with h1 | h1
  · exact h1
  · have := fac_mono h1
    omega
theorem fac_take {t n left left' d k : Nat} (h : fac (t + 1) * left ≤ n) (hk : left = left' * d ^ k) (hd : t + 2 ≤ d) (hk1 : 0 < k) (hp : 0 < left) : fac (t + 2) * left' ≤ n := by
  obtain ⟨k, rfl⟩ : ∃ k', k = k' + 1 := ⟨k - 1, by omega⟩
  have hdp : 0 < d ^ k := Nat.pow_pos (by omega)
  have h1 : (t + 2) * left' ≤ left := by
    rw [hk, Nat.pow_succ]
    calc (t + 2) * left' = left' * (t + 2) := Nat.mul_comm _ _
      _ ≤ left' * d := Nat.mul_le_mul_left _ hd
      _ = left' * (1 * d) := by rw [Nat.one_mul]
      _ ≤ left' * (d ^ k * d) := Nat.mul_le_mul_left _ (Nat.mul_le_mul_right _ hdp)
  calc fac (t + 2) * left' = fac (t + 1) * ((t + 2) * left') := by show (t + 1 + 1) * fac (t + 1) * left' = _; ac_rfl
    _ ≤ fac (t + 1) * left := Nat.mul_le_mul_left _ h1
    _ ≤ n := h
theorem wo_nat {r d : Nat} (hd : 1 < d) (hr : 0 < r) (hb : r < 2 ^ 64) (hdv : d ∣ r) : ∃ (r' k : Nat), wo 64 (r : Int) (d : Int) = (r' : Int) ∧ r = r' * d ^ k ∧ ¬ d ∣ r' ∧ 0 < k ∧ r' < r := by
  obtain ⟨k, hk⟩ := wo_pow 64 (r : Int) (d : Int)
  have hs := (wo_sgn 64 (r : Int) (d : Int) (by omega)).1.mp (by omega)
  have ho := wo_out 64 (r : Int) (d : Int) (by omega) (by omega) (by omega)
  obtain ⟨r', hr'⟩ := Int.eq_ofNat_of_zero_le (show 0 ≤ wo 64 (r : Int) (d : Int) by omega)
  rw [hr'] at hk ho hs
  have hk' : r = r' * d ^ k := by
    have : (r : Int) = ((r' * d ^ k : Nat) : Int) := by rw [Int.natCast_mul, Int.natCast_pow]; exact hk
    exact Int.ofNat.inj this
  have hn : ¬ d ∣ r' := fun q => ho (Int.natCast_dvd_natCast.mpr q)
  have hk0 : 0 < k := by
    rcases Nat.eq_zero_or_pos k with h | h
    · subst h
      rw [Nat.pow_zero, Nat.mul_one] at hk'
      subst hk'
      exact absurd hdv hn
    · exact h
  refine ⟨r', k, hr', hk', hn, hk0, ?_⟩
  have h1 : 2 ≤ d ^ k := by
    calc 2 ≤ d := hd
      _ = d ^ 1 := (Nat.pow_one d).symm
      _ ≤ d ^ k := Nat.pow_le_pow_right (by omega) hk0
  have h2 : r' * 2 ≤ r' * d ^ k := Nat.mul_le_mul_left _ h1
  omega
