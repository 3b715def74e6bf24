/-! bounds that the rows ask for -/
theorem ediv_pos_le {r b : Int} (hr : 0 ≤ r) (hb : 0 < b) : 0 ≤ r / b ∧ r / b ≤ r := ⟨Int.ediv_nonneg hr (by omega), Int.ediv_le_self b hr⟩
theorem ediv_neg_le {r b : Int} (hr : r < 0) (hb : 0 < b) : r ≤ r / b ∧ r / b < 0 := by
  refine ⟨?_, Int.ediv_neg_of_neg_of_pos hr hb⟩
  apply Int.le_ediv_of_mul_le hb
  have h1 : r * b ≤ r * 1 := Int.mul_le_mul_of_nonpos_left (by omega) (by omega)
  omega
theorem div_b64 {r b : Int} (h : b64 r) (hb : 1 < b) : b64 (r / b) := by
  rcases Int.lt_or_le r 0 with h1 | h1
  · have := ediv_neg_le h1 (by omega : 0 < b)
    omega
  · have := ediv_pos_le h1 (by omega : 0 < b)
    omega
theorem tm_le (a b : Int) : (a.tmod b).natAbs ≤ a.natAbs := by
  rw [Int.natAbs_tmod]
  exact Nat.mod_le _ _
theorem tm_sgn (a b : Int) : (0 ≤ a → 0 ≤ a.tmod b) ∧ (a ≤ 0 → a.tmod b ≤ 0) := by
  refine ⟨fun h => Int.tmod_nonneg b h, fun h => ?_⟩
  have h1 := Int.tmod_nonneg b (by omega : 0 ≤ -a)
  rw [Int.neg_tmod] at h1
  omega
theorem tm_b64 {a b : Int} (h : b64 a) : b64 (a.tmod b) := by
  have h1 := tm_le a b
  have h2 := tm_sgn a b
  omega
theorem tm_b32 {a b : Int} (h : b32 a) : b32 (a.tmod b) := by
  have h1 := tm_le a b
  have h2 := tm_sgn a b
  omega
