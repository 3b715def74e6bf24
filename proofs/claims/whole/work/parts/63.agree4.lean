/-! symbols of raw numbers and of their classes -/
theorem od_ch {q : Int} (hq : 1 < q) {u : Int} (hu : ¬ q ∣ u) : ∀ (j n : Nat), j ≤ n → od n (u * q ^ j) q = j ∧ wo n (u * q ^ j) q = u
  | 0, 0, _ => by rw [Int.pow_zero, Int.mul_one]; exact ⟨rfl, rfl⟩
  | 0, n + 1, _ => by
    rw [Int.pow_zero, Int.mul_one]
    exact ⟨if_neg hu, if_neg hu⟩
  | j + 1, 0, h => by omega
  | j + 1, n + 1, h => by
    have e1 : u * q ^ (j + 1) = u * q ^ j * q := by rw [Int.pow_succ, Int.mul_assoc]
    have hd : q ∣ u * q ^ (j + 1) := by rw [e1]; exact Int.dvd_mul_left _ _
    have e2 : u * q ^ (j + 1) / q = u * q ^ j := by rw [e1]; exact Int.mul_ediv_cancel _ (by omega)
    obtain ⟨i1, i2⟩ := od_ch hq hu j n (by omega)
    constructor
    · show (if q ∣ u * q ^ (j + 1) then od n (u * q ^ (j + 1) / q) q + 1 else 0) = _
      rw [if_pos hd, e2, i1]
    · show (if q ∣ u * q ^ (j + 1) then wo n (u * q ^ (j + 1) / q) q else _) = _
      rw [if_pos hd, e2, i2]
theorem spl {q : Nat} (hq : 1 < q) : ∀ m : Nat, 0 < m → ∃ m' k, m = m' * q ^ k ∧ ¬ q ∣ m' := by
  intro m
  induction m using Nat.strongRecOn with
  | ind m ih =>
    intro hm
    by_cases h : q ∣ m
    · obtain ⟨x, hx⟩ := h
      have hx0 : 0 < x := Nat.pos_of_ne_zero fun z => by rw [z, Nat.mul_zero] at hx; omega
      have hlt : x < m := by
        rw [hx]
        calc x < 2 * x := by omega
          _ ≤ q * x := Nat.mul_le_mul_right _ hq
      obtain ⟨m', k, e1, e2⟩ := ih x hlt hx0
      exact ⟨m', k + 1, by rw [hx, e1, Nat.pow_succ, Nat.mul_comm q, Nat.mul_assoc], e2⟩
    · exact ⟨m, 0, by rw [Nat.pow_zero, Nat.mul_one], h⟩
/-- a number and its class at a prime -/
theorem raw_at {a : Int} (ha : a ≠ 0) (hb : a.natAbs ≤ 2147483648) {q : Nat} (hq : prm q) : ∃ m : Nat, ¬ q ∣ m ∧ ((od 64 a q % 2 : Nat) : Int) = oM (sf a) q ∧ wo 64 a q = (if (q : Int) ∣ sf a then sf a / q else sf a) * ((m * m : Nat) : Int) := by
  have hs := sf_is ha
  have hsq := sf_sq ha
  have hq1 := hq.1
  obtain ⟨M, hM0, hM⟩ := hs.1.1
  obtain ⟨m, k, e1, e2⟩ := spl hq1 M hM0
  have eA : a = sf a * ((M * M : Nat) : Int) := by
    rcases Int.lt_or_lt_of_ne ha with h | h
    · have h2 := hs.2.2.mp h
      have e9 : ((sf a).natAbs : Int) = -(sf a) := by omega
      have e8 : ((a.natAbs : Nat) : Int) = ((sf a).natAbs : Int) * ((M * M : Nat) : Int) := by rw [hM, Int.natCast_mul]
      rw [e9, Int.neg_mul] at e8
      omega
    · have h2 := hs.2.1.mp h
      have e9 : ((sf a).natAbs : Int) = sf a := by omega
      have e8 : ((a.natAbs : Nat) : Int) = ((sf a).natAbs : Int) * ((M * M : Nat) : Int) := by rw [hM, Int.natCast_mul]
      rw [e9] at e8
      omega
  refine ⟨m, e2, ?_⟩
  have eM : ((M * M : Nat) : Int) = ((m * m : Nat) : Int) * (q : Int) ^ (2 * k) := by
    rw [e1, Nat.two_mul, Int.pow_add, show m * q ^ k * (m * q ^ k) = m * m * (q ^ k * q ^ k) by grind, Int.natCast_mul, Int.natCast_mul (q ^ k), Int.natCast_pow]
  have hmm : ¬ q ∣ m * m := fun z => (prm_mul hq z).elim e2 e2
  -- the class, without q
  have key : ∀ (c' : Int) (j : Nat), ¬ (q : Int) ∣ c' → sf a = c' * (q : Int) ^ j → od 64 a q = j + 2 * k ∧ wo 64 a q = c' * ((m * m : Nat) : Int) := by
    intro c' j hc hj
    have hu : ¬ (q : Int) ∣ c' * ((m * m : Nat) : Int) := fun z => by
      have z1 := nd_abs.mp z
      rw [Int.natAbs_mul, Int.natAbs_natCast] at z1
      exact (prm_mul hq z1).elim (fun z2 => hc (nd_abs.mpr z2)) hmm
    have eF : a = c' * ((m * m : Nat) : Int) * (q : Int) ^ (j + 2 * k) := by
      rw [Int.pow_add]
      calc a = sf a * ((M * M : Nat) : Int) := eA
        _ = c' * (q : Int) ^ j * (((m * m : Nat) : Int) * (q : Int) ^ (2 * k)) := by rw [eM, hj]
        _ = c' * ((m * m : Nat) : Int) * ((q : Int) ^ j * (q : Int) ^ (2 * k)) := by grind
    have hle : j + 2 * k ≤ 64 := by
      rcases Nat.lt_or_ge 64 (j + 2 * k) with z | z
      · exfalso
        have h1 : a.natAbs = (c' * ((m * m : Nat) : Int)).natAbs * q ^ (j + 2 * k) := by
          have := congrArg Int.natAbs eF
          rw [Int.natAbs_mul, Int.natAbs_pow, Int.natAbs_natCast] at this
          exact this
        have h2 : 1 ≤ (c' * ((m * m : Nat) : Int)).natAbs := by
          rcases Nat.eq_zero_or_pos (c' * ((m * m : Nat) : Int)).natAbs with w | w
          · rw [w, Nat.zero_mul] at h1; omega
          · exact w
        have h3 : 2 ^ 65 ≤ q ^ (j + 2 * k) := Nat.le_trans (Nat.pow_le_pow_right (by decide) z) (Nat.pow_le_pow_left hq1 _)
        have h4 : q ^ (j + 2 * k) ≤ a.natAbs := by rw [h1]; exact Nat.le_mul_of_pos_left _ h2
        have h5 : (2 : Nat) ^ 65 = 36893488147419103232 := by decide
        omega
      · exact z
    have := od_ch (q := (q : Int)) (by omega) hu (j + 2 * k) 64 hle
    rw [← eF] at this
    exact this
  unfold oM
  by_cases hd : (q : Int) ∣ sf a
  · rw [if_pos hd, if_pos hd]
    obtain ⟨h1, h2⟩ := key (sf a / q) 1 (sqf_dd hsq hq1 hd) (by rw [Int.pow_succ, Int.pow_zero, Int.one_mul]; exact (Int.ediv_mul_cancel hd).symm)
    exact ⟨by rw [h1]; omega, h2⟩
  · rw [if_neg hd, if_neg hd]
    obtain ⟨h1, h2⟩ := key (sf a) 0 hd (by rw [Int.pow_zero, Int.mul_one])
    exact ⟨by rw [h1]; omega, h2⟩
theorem un_2 {a : Int} (ha : a ≠ 0) (hb : a.natAbs ≤ 2147483648) : un a 2 = uM (sf a) 2 := by
  obtain ⟨m, h1, -, h3⟩ := raw_at ha hb (q := 2) ⟨by decide, fun e h1 h2 => by omega⟩
  unfold un uM
  have h3' : wo 64 a 2 = (if (2 : Int) ∣ sf a then sf a / 2 else sf a) * ((m * m : Nat) : Int) := h3
  rw [h3']
  generalize (if (2 : Int) ∣ sf a then sf a / 2 else sf a) = c
  have hm : m % 2 = 1 := by omega
  have h8 : (m * m) % 8 = 1 := by
    have : m % 8 = 1 ∨ m % 8 = 3 ∨ m % 8 = 5 ∨ m % 8 = 7 := by omega
    rw [Nat.mul_mod]
    rcases this with z | z | z | z <;> rw [z]
  show c * ((m * m : Nat) : Int) % 8 = c % 8
  have h9 : ((m * m : Nat) : Int) % 8 = 1 := by omega
  rw [Int.mul_emod, h9, Int.mul_one, Int.emod_emod]
theorem qr_raw {a : Int} (ha : a ≠ 0) (hb : a.natAbs ≤ 2147483648) {q : Nat} (hq : prm q) (hq2 : q ≠ 2) (hq3 : q ≤ 1000) : qr (un a q).toNat ((q : Int)).toNat ↔ qr (uM (sf a) q).toNat ((q : Int)).toNat := by
  obtain ⟨m, h1, -, h3⟩ := raw_at ha hb hq
  have hq1 := hq.1
  have eu : un a q = wo 64 a q % (q : Int) := by unfold un um; rw [if_neg (by omega)]
  have ev : uM (sf a) q = (if (q : Int) ∣ sf a then sf a / q else sf a) % (q : Int) := by unfold uM um; rw [if_neg (by omega : ¬ (q : Int) = 2)]
  rw [eu, ev, h3, Int.toNat_natCast]
  generalize (if (q : Int) ∣ sf a then sf a / q else sf a) = c
  have hV : ((c % (q : Int)).toNat : Int) = c % q := by have := Int.emod_nonneg c (show (q : Int) ≠ 0 by omega); omega
  have hU : (c * ((m * m : Nat) : Int) % (q : Int)).toNat = ((c % (q : Int)).toNat * (m * m)) % q := by
    have e1 : c * ((m * m : Nat) : Int) % (q : Int) = ((((c % (q : Int)).toNat * (m * m)) % q : Nat) : Int) := by
      rw [Int.natCast_emod, Int.natCast_mul ((c % (q : Int)).toNat), hV]
      have := Int.mul_emod c ((m * m : Nat) : Int) (q : Int)
      have h4 := Int.mul_emod (c % (q : Int)) ((m * m : Nat) : Int) (q : Int)
      rw [Int.emod_emod] at h4
      exact this.trans h4.symm
    rw [e1, Int.toNat_natCast]
  rw [hU]
  generalize (c % (q : Int)).toNat = V
  unfold qr
  have hodd : q % 2 = 1 := by
    rcases Nat.mod_two_eq_zero_or_one q with z | z
    · exact absurd (Nat.dvd_of_mod_eq_zero z) (hq.2 2 (by omega) (by omega))
    · exact z
  have hf : (m * m) ^ ((q - 1) / 2) % q = 1 := by
    rw [← Nat.pow_two, ← Nat.pow_mul, show 2 * ((q - 1) / 2) = q - 1 by omega]
    exact fermat hq hq3 h1
  rw [← Nat.pow_mod, Nat.mul_pow, Nat.mul_mod, hf, Nat.mul_one, Nat.mod_mod]
theorem ag_symbol {a b p9 : Int} (ha : a ≠ 0) (hb : b ≠ 0) (ha2 : b32 a) (hb2 : b32 b) (hp : pl0 p9) : sy a b p9 = syM (sf a) (sf b) p9 := by
  have sa := sf_is ha
  have sb := sf_is hb
  unfold sy syM
  rcases hp with rfl | ⟨h1, h2⟩
  · rw [if_pos rfl, if_pos rfl]
    by_cases h : a < 0 ∧ b < 0
    · rw [if_pos h, if_pos ⟨sa.2.2.mp h.1, sb.2.2.mp h.2⟩]
    · rw [if_neg h, if_neg (fun z => h ⟨sa.2.2.mpr z.1, sb.2.2.mpr z.2⟩)]
  · have h3 := h2.1
    obtain ⟨q, hq⟩ : ∃ q : Nat, q = p9.toNat := ⟨_, rfl⟩
    rw [← hq] at h2 h3
    have hpq : p9 = q := by omega
    rw [hpq]
    rw [if_neg (by omega), if_neg (by omega)]
    obtain ⟨ma, -, oa, -⟩ := raw_at ha (by omega) h2
    obtain ⟨mb, -, ob, -⟩ := raw_at hb (by omega) h2
    rw [oa, ob]
    unfold sF
    by_cases hq2 : q = 2
    · subst hq2
      have h22 : ((2 : Nat) : Int) = 2 := rfl
      rw [if_pos h22, if_pos h22]
      rw [show un a ((2 : Nat) : Int) = uM (sf a) ((2 : Nat) : Int) from un_2 ha (by omega), show un b ((2 : Nat) : Int) = uM (sf b) ((2 : Nat) : Int) from un_2 hb (by omega)]
    · rw [if_neg (by omega), if_neg (by omega)]
      unfold so
      rw [bi_iff (show (oM (sf b) q = 1 ∧ ¬ qr (un a q).toNat ((q : Int)).toNat) ↔ (oM (sf b) q = 1 ∧ ¬ qr (uM (sf a) q).toNat ((q : Int)).toNat) by rw [qr_raw ha (by omega) h2 hq2 (by omega)]), bi_iff (show (oM (sf a) q = 1 ∧ ¬ qr (un b q).toNat ((q : Int)).toNat) ↔ (oM (sf a) q = 1 ∧ ¬ qr (uM (sf b) q).toNat ((q : Int)).toNat) by rw [qr_raw hb (by omega) h2 hq2 (by omega)])]
