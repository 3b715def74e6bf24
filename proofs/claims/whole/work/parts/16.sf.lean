/-! whole numbers: primes, the part without squares, Euclid -/
def prm (q : Nat) : Prop := 1 < q ∧ ∀ e, 1 < e → e < q → ¬ e ∣ q
theorem prm_ex : ∀ n d : Nat, d ≤ n → 1 < d → ∃ q, prm q ∧ q ∣ d := by
  intro n
  induction n with
  | zero => intro d h1 h2; omega
  | succ n ih =>
    intro d h1 h2
    by_cases hp : prm d
    · exact ⟨d, hp, Nat.dvd_refl d⟩
    · have : ∃ e, 1 < e ∧ e < d ∧ e ∣ d := by
        apply Classical.byContradiction
        intro hno
        exact hp ⟨h2, fun e he1 he2 he3 => hno ⟨e, he1, he2, he3⟩⟩
      obtain ⟨e, e1, e2, e3⟩ := this
      obtain ⟨q, hq, hqe⟩ := ih e (by omega) e1
      exact ⟨q, hq, Nat.dvd_trans hqe e3⟩
theorem prm_div {d : Nat} (h : 1 < d) : ∃ q, prm q ∧ q ∣ d := prm_ex d d (Nat.le_refl d) h
theorem prm_eq {q d : Nat} (hq : prm q) (h : 1 < d) (hd : d ∣ q) : d = q := by
  have h1 := Nat.le_of_dvd (Nat.lt_of_succ_lt hq.1) hd
  rcases Nat.lt_or_ge d q with h2 | h2
  · exact absurd hd (hq.2 d h h2)
  · omega
theorem prm_cop {q a : Nat} (hq : prm q) (h : ¬ q ∣ a) : Nat.Coprime q a := by
  have h1 := Nat.gcd_dvd_left q a
  have h2 := Nat.gcd_dvd_right q a
  have hpos : 0 < Nat.gcd q a := Nat.gcd_pos_of_pos_left a (by have := hq.1; omega)
  rcases Nat.lt_or_ge 1 (Nat.gcd q a) with h3 | h3
  · have h4 := prm_eq hq h3 h1
    rw [h4] at h2
    exact absurd h2 h
  · show Nat.gcd q a = 1
    omega
theorem prm_mul {q a b : Nat} (hq : prm q) (h : q ∣ a * b) : q ∣ a ∨ q ∣ b := by
  by_cases ha : q ∣ a
  · exact Or.inl ha
  · exact Or.inr ((prm_cop hq ha).dvd_of_dvd_mul_left h)
/-- n without its squares is c -/
def sfN (n c : Nat) : Prop := (∃ m, 0 < m ∧ n = c * (m * m)) ∧ ∀ d, 1 < d → ¬ d * d ∣ c
theorem sfN_uniq {n c c' : Nat} (h : sfN n c) (h' : sfN n c') : c = c' := by
  obtain ⟨⟨m, hm, e⟩, hs⟩ := h
  obtain ⟨⟨m', hm', e'⟩, hs'⟩ := h'
  have hg : 0 < Nat.gcd m m' := Nat.gcd_pos_of_pos_left m' hm
  obtain ⟨u, v, huv, hu, hv⟩ := Nat.exists_coprime m m'
  generalize Nat.gcd m m' = g at hg hu hv
  have key : c * (u * u) = c' * (v * v) := by
    have h1 : c * (m * m) = c' * (m' * m') := e.symm.trans e'
    rw [hu, hv] at h1
    have h2 : (g * g) * (c * (u * u)) = (g * g) * (c' * (v * v)) := by
      calc (g * g) * (c * (u * u)) = c * (u * g * (u * g)) := by ac_rfl
        _ = c' * (v * g * (v * g)) := h1
        _ = (g * g) * (c' * (v * v)) := by ac_rfl
    exact Nat.eq_of_mul_eq_mul_left (Nat.mul_pos hg hg) h2
  have huu : Nat.Coprime (u * u) (v * v) := Nat.Coprime.mul_left (Nat.Coprime.mul_right huv huv) (Nat.Coprime.mul_right huv huv)
  have hup : 0 < u := Nat.pos_of_ne_zero (fun h => by rw [h, Nat.zero_mul] at hu; omega)
  have hvp : 0 < v := Nat.pos_of_ne_zero (fun h => by rw [h, Nat.zero_mul] at hv; omega)
  have d1 : u * u ∣ c' := huu.dvd_of_dvd_mul_right (by rw [← key]; exact Nat.dvd_mul_left _ _)
  have d2 : v * v ∣ c := huu.symm.dvd_of_dvd_mul_right (by rw [key]; exact Nat.dvd_mul_left _ _)
  have u1 : u = 1 := by
    rcases Nat.lt_or_ge 1 u with h | h
    · exact absurd d1 (hs' u h)
    · omega
  have v1 : v = 1 := by
    rcases Nat.lt_or_ge 1 v with h | h
    · exact absurd d2 (hs v h)
    · omega
  subst u1; subst v1
  simpa using key
/-- the class of a number other than 0 -/
def sfI (a c : Int) : Prop := sfN a.natAbs c.natAbs ∧ (0 < a ↔ 0 < c) ∧ (a < 0 ↔ c < 0)
theorem sfI_uniq {a c c' : Int} (h : sfI a c) (h' : sfI a c') : c = c' := by
  have h1 := sfN_uniq h.1 h'.1
  obtain ⟨-, h2, h3⟩ := h
  obtain ⟨-, h4, h5⟩ := h'
  omega
theorem sfI_ne {a c : Int} (ha : a ≠ 0) (h : sfI a c) : c ≠ 0 := by
  obtain ⟨-, h2, h3⟩ := h
  omega
/-- division by a factor as often as it goes, at most n times -/
def wo : Nat → Int → Int → Int
  | 0, r, _ => r
  | n + 1, r, f => if f ∣ r then wo n (r / f) f else r
theorem wo_dvd : ∀ (n : Nat) (r f : Int), wo n r f ∣ r := by
  intro n
  induction n with
  | zero => intro r f; exact Int.dvd_refl r
  | succ n ih =>
    intro r f
    show (if f ∣ r then wo n (r / f) f else r) ∣ r
    by_cases h : f ∣ r
    · rw [if_pos h]
      exact Int.dvd_trans (ih _ _) ⟨f, (Int.ediv_mul_cancel h).symm⟩
    · rw [if_neg h]
      exact Int.dvd_refl r
theorem wo_ne {n : Nat} {r f : Int} (h : r ≠ 0) : wo n r f ≠ 0 := by
  intro h0
  have h1 := wo_dvd n r f
  rw [h0] at h1
  exact h (Int.zero_dvd.mp h1)
theorem div_abs {r f : Int} (hf : 1 < f) (h : f ∣ r) (hr : r ≠ 0) : (r / f).natAbs * 2 ≤ r.natAbs := by
  obtain ⟨k, rfl⟩ := h
  rw [Int.mul_ediv_cancel_left _ (by omega : f ≠ 0), Int.natAbs_mul]
  have h1 : 2 ≤ f.natAbs := by omega
  calc k.natAbs * 2 = 2 * k.natAbs := Nat.mul_comm _ _
    _ ≤ f.natAbs * k.natAbs := Nat.mul_le_mul_right _ h1
theorem wo_out : ∀ (n : Nat) (r f : Int), 1 < f → r ≠ 0 → r.natAbs < 2 ^ n → ¬ f ∣ wo n r f := by
  intro n
  induction n with
  | zero => intro r f hf hr hb; have : r.natAbs ≠ 0 := by omega
            omega
  | succ n ih =>
    intro r f hf hr hb
    show ¬ f ∣ (if f ∣ r then wo n (r / f) f else r)
    by_cases h : f ∣ r
    · rw [if_pos h]
      have h1 := div_abs hf h hr
      have h2 : r / f ≠ 0 := by
        intro h0
        have := Int.ediv_mul_cancel h
        rw [h0] at this
        omega
      refine ih (r / f) f hf h2 ?_
      have : 2 ^ (n + 1) = 2 ^ n * 2 := Nat.pow_succ 2 n
      omega
    · rw [if_neg h]; exact h
/-- by whom it was divided -/
theorem wo_pow : ∀ (n : Nat) (r f : Int), ∃ k : Nat, r = wo n r f * f ^ k := by
  intro n
  induction n with
  | zero => intro r f; exact ⟨0, by simp [wo]⟩
  | succ n ih =>
    intro r f
    by_cases h : f ∣ r
    · obtain ⟨k, hk⟩ := ih (r / f) f
      refine ⟨k + 1, ?_⟩
      show r = (if f ∣ r then wo n (r / f) f else r) * f ^ (k + 1)
      rw [if_pos h, Int.pow_succ, ← Int.mul_assoc, ← hk, Int.ediv_mul_cancel h]
    · exact ⟨0, by simp [wo, h]⟩
theorem wo_sgn (n : Nat) (r f : Int) (hf : 0 < f) : (0 < r ↔ 0 < wo n r f) ∧ (r < 0 ↔ wo n r f < 0) := by
  obtain ⟨k, hk⟩ := wo_pow n r f
  have hp : 0 < f ^ k := Int.pow_pos hf
  generalize wo n r f = w at hk
  generalize f ^ k = z at hk hp
  subst hk
  refine ⟨⟨fun h => ?_, fun h => Int.mul_pos h hp⟩, ⟨fun h => ?_, fun h => Int.mul_neg_of_neg_of_pos h hp⟩⟩
  · exact Int.pos_of_mul_pos_left h hp
  · rcases Int.lt_trichotomy w 0 with h1 | h1 | h1
    · exact h1
    · rw [h1, Int.zero_mul] at h; omega
    · have := Int.mul_pos h1 hp; omega
/-- Euclid, at most n steps -/
def eu : Nat → Nat → Nat → Nat
  | 0, x, _ => x
  | n + 1, x, y => if y = 0 then x else eu n y (x % y)
theorem eu_gcd : ∀ (k n x y : Nat), y ≤ x ∨ x < 2 ^ k → y < 2 ^ k → 2 * k + 2 ≤ n → eu n x y = Nat.gcd x y := by
  have main : ∀ (k n x y : Nat), y < 2 ^ k → y ≤ x → 2 * k + 1 ≤ n → eu n x y = Nat.gcd x y := by
    intro k
    induction k with
    | zero =>
      intro n x y hy _ hn
      obtain ⟨n, rfl⟩ : ∃ n', n = n' + 1 := ⟨n - 1, by omega⟩
      have : y = 0 := by omega
      subst this
      simp [eu]
    | succ k ih =>
      intro n x y hy hyx hn
      obtain ⟨n, rfl⟩ : ∃ n', n = n' + 2 := ⟨n - 2, by omega⟩
      show (if y = 0 then x else eu (n + 1) y (x % y)) = _
      by_cases h0 : y = 0
      · subst h0; simp
      · rw [if_neg h0]
        have hg : Nat.gcd x y = Nat.gcd y (x % y) := by rw [Nat.gcd_comm x y, Nat.gcd_rec y x, Nat.gcd_comm]
        rw [hg]
        have h1 : x % y < y := Nat.mod_lt _ (by omega)
        generalize x % y = z at h1
        show (if z = 0 then y else eu n z (y % z)) = _
        by_cases hz : z = 0
        · subst hz; simp
        · rw [if_neg hz]
          have hg2 : Nat.gcd y z = Nat.gcd z (y % z) := by rw [Nat.gcd_comm y z, Nat.gcd_rec z y, Nat.gcd_comm]
          rw [hg2]
          have h2 : y % z < z := Nat.mod_lt _ (by omega)
          have h3 : 2 * (y % z) < y := by
            have h4 := Nat.div_add_mod y z
            have h5 : 1 ≤ y / z := (Nat.le_div_iff_mul_le (by omega)).mpr (by omega)
            have h6 : z * 1 ≤ z * (y / z) := Nat.mul_le_mul_left z h5
            omega
          refine ih n z (y % z) ?_ (by omega) (by omega)
          have : 2 ^ (k + 1) = 2 ^ k * 2 := Nat.pow_succ 2 k
          omega
  intro k n x y hx hy hn
  by_cases hyx : y ≤ x
  · exact main k n x y hy hyx (by omega)
  · obtain ⟨n, rfl⟩ : ∃ n', n = n' + 1 := ⟨n - 1, by omega⟩
    show (if y = 0 then x else eu n y (x % y)) = _
    rw [if_neg (by omega), Nat.mod_eq_of_lt (by omega), Nat.gcd_comm]
    rcases hx with hx | hx
    · omega
    · exact main k n y x hx (by omega) (by omega)
/-- where the other classOf stands: c found, left to look at, p the next candidate -/
def ci (n c left p : Nat) : Prop := 0 < left ∧ 0 < c ∧ (∃ m, 0 < m ∧ n = c * left * (m * m)) ∧ (∀ d, 1 < d → ¬ d * d ∣ c) ∧ (∀ e, 1 < e → e < p → ¬ e ∣ left) ∧ (∀ q, prm q → q ∣ c → q < p)
theorem ci_0 {n : Nat} (h : 0 < n) : ci n 1 n 2 := by
  refine ⟨h, Nat.one_pos, ⟨1, Nat.one_pos, by simp⟩, fun d hd hdd => ?_, fun e h1 h2 => by omega, fun q hq hd => ?_⟩
  · have h1 := Nat.le_of_dvd Nat.one_pos hdd
    have h2 : 2 * 2 ≤ d * d := Nat.mul_le_mul hd hd
    omega
  · have h1 := Nat.le_of_dvd Nat.one_pos hd
    have := hq.1
    omega
/-- no square: it is enough to look at primes -/
theorem sq_of_prm {c : Nat} (h : ∀ q, prm q → ¬ q * q ∣ c) : ∀ d, 1 < d → ¬ d * d ∣ c := by
  intro d hd hdd
  obtain ⟨q, hq, hqd⟩ := prm_div hd
  exact h q hq (Nat.dvd_trans (Nat.mul_dvd_mul hqd hqd) hdd)
theorem cop_ne {p q : Nat} (hp : prm p) (hq : prm q) (h : p ≠ q) : Nat.Coprime p q :=
  prm_cop hp (fun hd => h (prm_eq hq hp.1 hd))
theorem ci_step {n c left p l' k : Nat} (h : ci n c left p) (hp : 2 ≤ p) (hl : left = l' * p ^ k) (hn : ¬ p ∣ l') : ci n (if k % 2 = 1 then c * p else c) l' (p + 1) := by
  obtain ⟨h1, h2, ⟨m, hm, h3⟩, h4, h5, h6⟩ := h
  have hl0 : 0 < l' := Nat.pos_of_ne_zero (fun h => by rw [h, Nat.zero_mul] at hl; omega)
  have h5' : ∀ e, 1 < e → e < p + 1 → ¬ e ∣ l' := by
    intro e he1 he2 hd
    rcases Nat.lt_or_ge e p with h | h
    · exact h5 e he1 h (by rw [hl]; exact Nat.dvd_trans hd (Nat.dvd_mul_right _ _))
    · have : e = p := by omega
      subst this
      exact hn hd
  have hpp : 0 < p := by omega
  by_cases hk : k % 2 = 1
  · rw [if_pos hk]
    obtain ⟨j, rfl⟩ : ∃ j, k = 2 * j + 1 := ⟨k / 2, by omega⟩
    have hpl : p ∣ left := by rw [hl, Nat.pow_succ]; exact ⟨l' * p ^ (2 * j), by ac_rfl⟩
    have hprm : prm p := ⟨by omega, fun e he1 he2 hd => h5 e he1 he2 (Nat.dvd_trans hd hpl)⟩
    refine ⟨hl0, Nat.mul_pos h2 hpp, ⟨m * p ^ j, Nat.mul_pos hm (Nat.pow_pos hpp), ?_⟩, sq_of_prm (fun q hq hqq => ?_), h5', fun q hq hqd => ?_⟩
    · rw [h3, hl, Nat.pow_succ, Nat.two_mul, Nat.pow_add]
      ac_rfl
    · by_cases hqp : q = p
      · subst hqp
        have : q ∣ c := Nat.dvd_of_mul_dvd_mul_right hpp hqq
        exact absurd (h6 q hq this) (Nat.lt_irrefl q)
      · have hcop := cop_ne hq hprm hqp
        exact h4 q hq.1 ((Nat.Coprime.mul_left hcop hcop).dvd_of_dvd_mul_right hqq)
    · rcases prm_mul hq hqd with h | h
      · exact Nat.lt_succ_of_lt (h6 q hq h)
      · have := prm_eq hprm hq.1 h
        omega
  · rw [if_neg hk]
    obtain ⟨j, rfl⟩ : ∃ j, k = 2 * j := ⟨k / 2, by omega⟩
    refine ⟨hl0, h2, ⟨m * p ^ j, Nat.mul_pos hm (Nat.pow_pos hpp), ?_⟩, h4, h5', fun q hq hqd => Nat.lt_succ_of_lt (h6 q hq hqd)⟩
    rw [h3, hl, Nat.two_mul, Nat.pow_add]
    ac_rfl
theorem ci_end {n c left p : Nat} (h : ci n c left p) (hlt : left < p * p) : sfN n (c * left) := by
  obtain ⟨h1, h2, ⟨m, hm, h3⟩, h4, h5, h6⟩ := h
  refine ⟨⟨m, hm, h3⟩, sq_of_prm (fun q hq hqq => ?_)⟩
  by_cases hql : q ∣ left
  · have hqp : p ≤ q := Nat.le_of_not_lt (fun h => h5 q hq.1 h hql)
    have hqc : ¬ q ∣ c := fun h => by have := h6 q hq h; omega
    have hcop := prm_cop hq hqc
    have h7 := (Nat.Coprime.mul_left hcop hcop).dvd_of_dvd_mul_left hqq
    have h8 := Nat.le_of_dvd h1 h7
    have h9 : p * p ≤ q * q := Nat.mul_le_mul hqp hqp
    omega
  · have hcop := prm_cop hq hql
    exact h4 q hq.1 ((Nat.Coprime.mul_left hcop hcop).dvd_of_dvd_mul_right hqq)
/-- where the class's classOf stands: r is left, d the next candidate -/
def co (a r d : Int) : Prop := r ≠ 0 ∧ (∃ m : Nat, 0 < m ∧ a.natAbs = r.natAbs * (m * m)) ∧ (0 < a ↔ 0 < r) ∧ (a < 0 ↔ r < 0) ∧ ∀ e : Nat, 1 < e → (e : Int) < d → ¬ e * e ∣ r.natAbs
theorem co_0 {a : Int} (h : a ≠ 0) : co a a 2 := ⟨h, ⟨1, Nat.one_pos, by simp⟩, Iff.rfl, Iff.rfl, fun e h1 h2 => by omega⟩
theorem co_step {a r d : Int} (h : co a r d) (hd : 2 ≤ d) (hb : r.natAbs < 2 ^ 64) : co a (wo 64 r (d * d)) (d + 1) := by
  obtain ⟨h1, ⟨m, hm, h2⟩, h3, h4, h5⟩ := h
  have hdd : 4 ≤ d * d := by
    have : 2 * 2 ≤ d * d := Int.mul_le_mul hd hd (by omega) (by omega)
    omega
  obtain ⟨s1, s2⟩ := wo_sgn 64 r (d * d) (by omega)
  obtain ⟨k, hk⟩ := wo_pow 64 r (d * d)
  have hout := wo_out 64 r (d * d) (by omega) h1 hb
  have hdv := wo_dvd 64 r (d * d)
  have hn := wo_ne (n := 64) (f := d * d) h1
  generalize wo 64 r (d * d) = w at *
  refine ⟨hn, ⟨m * d.natAbs ^ k, Nat.mul_pos hm (Nat.pow_pos (by omega)), ?_⟩, h3.trans s1, h4.trans s2, fun e he1 he2 hee => ?_⟩
  · have h6 : r.natAbs = w.natAbs * (d.natAbs * d.natAbs) ^ k := by
      rw [hk, Int.natAbs_mul, Int.natAbs_pow, Int.natAbs_mul]
    rw [h2, h6, Nat.mul_pow]
    ac_rfl
  · have h7 : w.natAbs ∣ r.natAbs := Int.natAbs_dvd_natAbs.mpr hdv
    rcases Int.lt_or_le (e : Int) d with h | h
    · exact h5 e he1 h (Nat.dvd_trans hee h7)
    · have h8 : d = (e : Int) := by omega
      apply hout
      rw [h8]
      apply Int.natAbs_dvd_natAbs.mp
      rw [Int.natAbs_mul]
      exact hee
theorem co_end {a r d : Int} (h : co a r d) (hd : 2 ≤ d) (hlt : (r.natAbs : Int) < d * d) : sfI a r := by
  obtain ⟨h1, ⟨m, hm, h2⟩, h3, h4, h5⟩ := h
  refine ⟨⟨⟨m, hm, h2⟩, fun e he hee => ?_⟩, h3, h4⟩
  rcases Int.lt_or_le (e : Int) d with h | h
  · exact h5 e he h hee
  · have h6 := Nat.le_of_dvd (by omega) hee
    have h7 : d * d ≤ (e : Int) * e := Int.mul_le_mul h h (by omega) (by omega)
    have h8 : ((e * e : Nat) : Int) = (e : Int) * e := Int.natCast_mul e e
    omega
theorem prm_of {n d : Nat} (hn : 1 < n) (h : ∀ e, 1 < e → e < d → ¬ e ∣ n) (hd : n < d * d) : prm n := by
  refine ⟨hn, fun e he1 he2 hed => ?_⟩
  rcases Nat.lt_or_ge e d with h1 | h1
  · exact h e he1 h1 hed
  · obtain ⟨f, hf⟩ := hed
    have hf1 : 1 < f := by
      rcases Nat.lt_or_ge 1 f with h2 | h2
      · exact h2
      · have : f = 0 ∨ f = 1 := by omega
        rcases this with h3 | h3
        · rw [h3] at hf; omega
        · rw [h3] at hf; omega
    have hfd : f < d := by
      rcases Nat.lt_or_ge f d with h2 | h2
      · exact h2
      · have := Nat.mul_le_mul h1 h2
        omega
    exact h f hf1 hfd ⟨e, by rw [hf, Nat.mul_comm]⟩
theorem cop_of_sq {g b : Nat} (h : ∀ d, 1 < d → ¬ d * d ∣ g * b) : Nat.Coprime g b := by
  have h1 : Nat.gcd g b * Nat.gcd g b ∣ g * b := Nat.mul_dvd_mul (Nat.gcd_dvd_left g b) (Nat.gcd_dvd_right g b)
  rcases Nat.lt_or_ge 1 (Nat.gcd g b) with h2 | h2
  · exact absurd h1 (h _ h2)
  · have : Nat.gcd g b = 0 ∨ Nat.gcd g b = 1 := by omega
    rcases this with h3 | h3
    · have h4 := Nat.eq_zero_of_gcd_eq_zero_left h3
      rw [h4, Nat.zero_mul] at h
      exact absurd (Nat.dvd_zero _) (h 2 (by omega))
    · exact h3
/-- the product of two classes -/
def pr (a b : Int) : Int := a / (Int.gcd a b : Int) * (b / (Int.gcd a b : Int))
theorem pr_parts {a b : Int} (ha : a ≠ 0) : ∃ (g : Nat) (a' b' : Int), 0 < g ∧ a = g * a' ∧ b = g * b' ∧ Nat.Coprime a'.natAbs b'.natAbs ∧ Int.gcd a b = g ∧ pr a b = a' * b' := by
  have hg : 0 < Int.gcd a b := Nat.gcd_pos_of_pos_left _ (by omega)
  obtain ⟨a', h1⟩ : (Int.gcd a b : Int) ∣ a := Int.gcd_dvd_left ..
  obtain ⟨b', h2⟩ : (Int.gcd a b : Int) ∣ b := Int.gcd_dvd_right ..
  refine ⟨Int.gcd a b, a', b', hg, h1, h2, ?_, rfl, ?_⟩
  · have h3 : Int.gcd a b = Int.gcd a b * Nat.gcd a'.natAbs b'.natAbs := by
      have h4 : Nat.gcd a.natAbs b.natAbs = Int.gcd a b := rfl
      have h5 : a.natAbs = Int.gcd a b * a'.natAbs := by
        conv => lhs; rw [h1]
        rw [Int.natAbs_mul, Int.natAbs_natCast]
      have h6 : b.natAbs = Int.gcd a b * b'.natAbs := by
        conv => lhs; rw [h2]
        rw [Int.natAbs_mul, Int.natAbs_natCast]
      rw [← Nat.gcd_mul_left, ← h5, ← h6]
      exact h4.symm
    exact Nat.eq_of_mul_eq_mul_left hg (by rw [Nat.mul_one]; exact h3.symm)
  · have hz : (Int.gcd a b : Int) ≠ 0 := by omega
    have e1 : a / (Int.gcd a b : Int) = a' := by
      conv => lhs; arg 1; rw [h1]
      exact Int.mul_ediv_cancel_left _ hz
    have e2 : b / (Int.gcd a b : Int) = b' := by
      conv => lhs; arg 1; rw [h2]
      exact Int.mul_ediv_cancel_left _ hz
    rw [pr, e1, e2]
theorem pr_comm (a b : Int) : pr a b = pr b a := by
  rw [pr, pr, Int.gcd_comm a b, Int.mul_comm]
theorem pr_ne {a b : Int} (ha : a ≠ 0) (hb : b ≠ 0) : pr a b ≠ 0 := by
  obtain ⟨g, a', b', hg, h1, h2, -, -, h3⟩ := pr_parts (b := b) ha
  rw [h3]
  intro h
  rcases Int.mul_eq_zero.mp h with h4 | h4
  · rw [h4, Int.mul_zero] at h1; exact ha h1
  · rw [h4, Int.mul_zero] at h2; exact hb h2
/-- a times (b times a) is b, of classes -/
theorem pr_pr {a b : Int} (ha : a ≠ 0) (hb : b ≠ 0) (hs : ∀ d, 1 < d → ¬ d * d ∣ b.natAbs) : pr a (pr b a) = b := by
  obtain ⟨g, b', a', hg, h1, h2, hc, hgc, h3⟩ := pr_parts (a := b) (b := a) hb
  rw [h3]
  have ha' : a' ≠ 0 := fun h => by rw [h, Int.mul_zero] at h2; exact ha h2
  have hcop : Nat.Coprime g b'.natAbs := cop_of_sq (fun d hd => by
    have h4 : b.natAbs = g * b'.natAbs := by rw [h1, Int.natAbs_mul, Int.natAbs_natCast]
    rw [← h4]; exact hs d hd)
  have hgg : Int.gcd a (b' * a') = a'.natAbs := by
    show Nat.gcd a.natAbs (b' * a').natAbs = a'.natAbs
    rw [h2, Int.natAbs_mul, Int.natAbs_mul, Int.natAbs_natCast, Nat.gcd_mul_right, hcop.gcd_eq_one, Nat.one_mul]
  rw [pr, hgg, h2, h1]
  have hz : (a'.natAbs : Int) ≠ 0 := by omega
  rcases Int.lt_or_lt_of_ne ha' with h | h
  · have e : a' = -(a'.natAbs : Int) := by omega
    generalize a'.natAbs = n at *
    subst e
    rw [show (g : Int) * -(n : Int) = -(g : Int) * n by rw [Int.mul_neg, Int.neg_mul], show b' * -(n : Int) = -b' * n by rw [Int.mul_neg, Int.neg_mul], Int.mul_ediv_cancel _ hz, Int.mul_ediv_cancel _ hz, Int.neg_mul_neg]
  · have e : a' = (a'.natAbs : Int) := by omega
    generalize a'.natAbs = n at *
    subst e
    rw [Int.mul_ediv_cancel _ hz, Int.mul_ediv_cancel _ hz]
