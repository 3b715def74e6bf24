/-! equivalence, values, symbols of raw numbers -/
def E4 (n : Int) : Int := if n % 4 = 0 ∨ n % 4 = 1 then 1 else -1
theorem hs_real {p : Nat → Int} {r : Nat} (hr : r ≤ 4) (hne : ∀ i, i < r → tr p i ≠ 0) : hs (fun a b => sy a b 0) (tr p) r = E4 (ng p r) := by
  have cs : ∀ i, i < r → (0 < tr p i ∧ ¬ tr p i < 0) ∨ (¬ 0 < tr p i ∧ tr p i < 0) := fun i hi => by have := hne i hi; omega
  rcases (by omega : r = 0 ∨ r = 1 ∨ r = 2 ∨ r = 3 ∨ r = 4) with rfl | rfl | rfl | rfl | rfl
  · rfl
  · rcases cs 0 (by omega) with ⟨a0, b0⟩ | ⟨a0, b0⟩ <;> simp [hs, hO, hI, sy, ng, E4, a0]
  · rcases cs 0 (by omega) with ⟨a0, b0⟩ | ⟨a0, b0⟩ <;> rcases cs 1 (by omega) with ⟨a1, b1⟩ | ⟨a1, b1⟩ <;> simp [hs, hO, hI, sy, ng, E4, a0, b0, a1, b1]
  · rcases cs 0 (by omega) with ⟨a0, b0⟩ | ⟨a0, b0⟩ <;> rcases cs 1 (by omega) with ⟨a1, b1⟩ | ⟨a1, b1⟩ <;> rcases cs 2 (by omega) with ⟨a2, b2⟩ | ⟨a2, b2⟩ <;> simp [hs, hO, hI, sy, ng, E4, a0, b0, a1, b1, a2, b2]
  · rcases cs 0 (by omega) with ⟨a0, b0⟩ | ⟨a0, b0⟩ <;> rcases cs 1 (by omega) with ⟨a1, b1⟩ | ⟨a1, b1⟩ <;> rcases cs 2 (by omega) with ⟨a2, b2⟩ | ⟨a2, b2⟩ <;> rcases cs 3 (by omega) with ⟨a3, b3⟩ | ⟨a3, b3⟩ <;> simp [hs, hO, hI, sy, ng, E4, a0, b0, a1, b1, a2, b2, a3, b3]
theorem eq_ag {n0 n1 r r1 : Nat} {p p1 : Nat → Int} (hr : r ≤ 4) (hr1 : r1 ≤ 4) (h : pB p r) (h1 : pB p1 r1) : eqC n0 n1 r p r1 p1 ↔ (n0 = n1 ∧ r = r1 ∧ ps p r = ps p1 r1 ∧ sf (bef p r) = sf (bef p1 r1) ∧ ∀ q, mnM p r q ↔ mnM p1 r1 q) := by
  have pm : ∀ (p : Nat → Int) (r q : Nat), hs (fun a b => syM a b q) (tr p) r = 1 ∨ hs (fun a b => syM a b q) (tr p) r = -1 := fun p r q => hs_pm (fun a b => syM_pm a b q) (tr p) r
  unfold eqC
  constructor
  · rintro ⟨a1, a2, a3, a4, a5, a6, a7⟩
    refine ⟨a1, a2, a3, a4, fun q => ⟨fun hq => ?_, fun hq => ?_⟩⟩
    · have hp := Sq_prm hq.1
      have e := a6 q (Sq_Sp h hq.1)
      rw [hs_sf (tr_tsf h) (Or.inr hp.1), hs_sf (tr_tsf h1) (Or.inr hp.1), hq.2] at e
      refine ⟨Classical.byContradiction fun z => ?_, e.symm⟩
      rw [hs_out h1 hp z] at e
      omega
    · have hp := Sq_prm hq.1
      have e := a7 q (Sq_Sp h1 hq.1)
      rw [hs_sf (tr_tsf h) (Or.inr hp.1), hs_sf (tr_tsf h1) (Or.inr hp.1), hq.2] at e
      refine ⟨Classical.byContradiction fun z => ?_, e.symm⟩
      rw [hs_out h hp z] at e
      omega
  · rintro ⟨a1, a2, a3, a4, a5⟩
    have key : ∀ q, prm q → hs (fun a b => syM a b q) (tr p) r = hs (fun a b => syM a b q) (tr p1) r1 := fun q hp => by
      rcases pm p r q with x | x <;> rcases pm p1 r1 q with y | y
      · rw [x, y]
      · exfalso
        have : Sq p1 r1 q := Classical.byContradiction fun z => by rw [hs_out h1 hp z] at y; omega
        have := ((a5 q).mpr ⟨this, y⟩).2
        omega
      · exfalso
        have : Sq p r q := Classical.byContradiction fun z => by rw [hs_out h hp z] at x; omega
        have := ((a5 q).mp ⟨this, x⟩).2
        omega
      · rw [x, y]
    refine ⟨a1, a2, a3, a4, ?_, fun q hq => ?_, fun q hq => ?_⟩
    · rw [hs_real hr (fun i hi => (tr_bd h hi).1), hs_real hr1 (fun i hi => (tr_bd h1 hi).1), ng_ps, ng_ps, a2, ← a3, a2]
    · have hp := Sp_prm hq
      rw [hs_sf (tr_tsf h) (Or.inr hp.1), hs_sf (tr_tsf h1) (Or.inr hp.1)]
      exact key q hp
    · have hp := Sp_prm hq
      rw [hs_sf (tr_tsf h) (Or.inr hp.1), hs_sf (tr_tsf h1) (Or.inr hp.1)]
      exact (key q hp).symm
theorem ag_eq {n0 n1 : Nat} {A0 A1 B0 B1 : Mt} {z z' : Prop} (h40 : n0 ≤ 4) (h41 : n1 ≤ 4) (hA : eqn n0 A0 B0) (hB : eqn n1 A1 B1) (h : ∃ r p r1 p1, fpv n0 A0 r p ∧ fpv n1 A1 r1 p1 ∧ (z ↔ eqC n0 n1 r p r1 p1))
    (h' : ∃ r p r1 p1, fpv n0 B0 r p ∧ fpv n1 B1 r1 p1 ∧ (z' ↔ (n0 = n1 ∧ r = r1 ∧ ps p r = ps p1 r1 ∧ sf (bef p r) = sf (bef p1 r1) ∧ ∀ q, mnM p r q ↔ mnM p1 r1 q))) : z ↔ z' := by
  obtain ⟨r, p, r1, p1, a1, a2, a3⟩ := h
  obtain ⟨r', p', r1', p1', b1, b2, b3⟩ := h'
  obtain ⟨rfl, e⟩ := fpv_dt hA a1 b1
  obtain ⟨rfl, e1⟩ := fpv_dt hB a2 b2
  rw [ps_cg e, ps_cg e1, bef_cg e, bef_cg e1, mnM_fe e, mnM_fe e1] at b3
  rw [a3, b3]
  exact eq_ag (by have := a1.2.2; omega) (by have := a2.2.2; omega) a1.2.1 a2.2.1
theorem vfR_ir {m m' : Nat} {A : Mt} {x : Nat → Int} {i : Nat} : ∀ j, vfR m A x i j = vfR m' A x i j
  | 0 => rfl
  | j + 1 => by show vfR m A x i j + _ = vfR m' A x i j + _; rw [vfR_ir j]
theorem vfR_z {m n : Nat} {A : Mt} {x : Nat → Int} {i : Nat} (h : ∀ j, n ≤ j → j < 4 → A i j = 0) : ∀ d, n + d ≤ 4 → vfR m A x i (n + d) = vfR m A x i n
  | 0, _ => rfl
  | d + 1, hd => by
    show vfR m A x i (n + d) + A i (n + d) * x i * x (n + d) = _
    rw [vfR_z h d (by omega), h (n + d) (by omega) (by omega), Int.zero_mul, Int.zero_mul, Int.add_zero]
theorem vfR_0 {m : Nat} {A : Mt} {x : Nat → Int} {i : Nat} (h : ∀ j, j < 4 → A i j = 0) : ∀ j, j ≤ 4 → vfR m A x i j = 0
  | 0, _ => rfl
  | j + 1, hj => by
    show vfR m A x i j + A i j * x i * x j = _
    rw [vfR_0 h j (by omega), h j (by omega), Int.zero_mul, Int.zero_mul]; rfl
theorem vf_z1 {n : Nat} {A : Mt} {x : Nat → Int} (hn : n ≤ 4) (h : ∀ i j, i < 4 → j < 4 → (n ≤ i ∨ n ≤ j) → A i j = 0) : ∀ k, k ≤ n → vf 4 A x k = vf n A x k
  | 0, _ => rfl
  | k + 1, hk => by
    show vf 4 A x k + vfR 4 A x k 4 = vf n A x k + vfR n A x k n
    rw [vf_z1 hn h k (by omega), vfR_ir (m := n) (m' := 4) n]
    have := vfR_z (m := 4) (n := n) (A := A) (x := x) (i := k) (fun j h1 h2 => h k j (by omega) h2 (Or.inr h1)) (4 - n) (by omega)
    rw [show n + (4 - n) = 4 by omega] at this
    rw [this]
theorem vf_z2 {n : Nat} {A : Mt} {x : Nat → Int} (h : ∀ i j, i < 4 → j < 4 → (n ≤ i ∨ n ≤ j) → A i j = 0) : ∀ d, n + d ≤ 4 → vf 4 A x (n + d) = vf 4 A x n
  | 0, _ => rfl
  | d + 1, hd => by
    show vf 4 A x (n + d) + vfR 4 A x (n + d) 4 = _
    rw [vf_z2 h d (by omega), vfR_0 (fun j hj => h (n + d) j (by omega) hj (Or.inl (by omega))) 4 (Nat.le_refl 4), Int.add_zero]
theorem ag_value {n : Nat} {A A' : Mt} {x : Nat → Int} (hn : n ≤ 4) (hA : eqn 4 A A') (h : ∀ i j, i < 4 → j < 4 → (n ≤ i ∨ n ≤ j) → A' i j = 0) : vf n A x n = vf 4 A' x 4 := by
  have e1 := vf_z2 (x := x) h (4 - n) (by omega)
  rw [show n + (4 - n) = 4 by omega] at e1
  rw [e1, vf_z1 hn h n (Nat.le_refl n)]
  exact vf_cg (fun i j hi hj => hA i j (by omega) (by omega)) (fun _ _ => rfl) n (Nat.le_refl n)
/-! Fermat for the primes up to 1000, by trying -/
def p1000 : List Nat := [2, 3, 5, 7, 11, 13, 17, 19, 23, 29, 31, 37, 41, 43, 47, 53, 59, 61, 67, 71, 73, 79, 83, 89, 97, 101, 103, 107, 109, 113, 127, 131, 137, 139, 149, 151, 157, 163, 167, 173, 179, 181, 191, 193, 197, 199, 211, 223, 227, 229, 233, 239, 241, 251, 257, 263, 269, 271, 277, 281, 283, 293, 307, 311, 313, 317, 331, 337, 347, 349, 353, 359, 367, 373, 379, 383, 389, 397, 401, 409, 419, 421, 431, 433, 439, 443, 449, 457, 461, 463, 467, 479, 487, 491, 499, 503, 509, 521, 523, 541, 547, 557, 563, 569, 571, 577, 587, 593, 599, 601, 607, 613, 617, 619, 631, 641, 643, 647, 653, 659, 661, 673, 677, 683, 691, 701, 709, 719, 727, 733, 739, 743, 751, 757, 761, 769, 773, 787, 797, 809, 811, 821, 823, 827, 829, 839, 853, 857, 859, 863, 877, 881, 883, 887, 907, 911, 919, 929, 937, 941, 947, 953, 967, 971, 977, 983, 991, 997]
set_option maxRecDepth 100000 in
theorem p1000_all : (List.range 1001).all (fun q => p1000.contains q || decide (q < 2) || (List.range 32).any (fun e => decide (1 < e) && decide (e < q) && (q % e == 0))) = true := by decide +kernel
set_option maxRecDepth 100000 in
theorem p1000_fer : p1000.all (fun q => (List.range q).all (fun m => m == 0 || m ^ (q - 1) % q == 1)) = true := by decide +kernel
theorem p1000_mem {q : Nat} (hq : prm q) (h : q ≤ 1000) : q ∈ p1000 := by
  have h1 := List.all_eq_true.mp p1000_all q (List.mem_range.mpr (by omega))
  simp only [Bool.or_eq_true, decide_eq_true_eq, List.any_eq_true, Bool.and_eq_true, beq_iff_eq] at h1
  rcases h1 with (h1 | h1) | ⟨e, -, ⟨h2, h3⟩, h4⟩
  · exact List.contains_iff_mem.mp h1
  · have := hq.1; omega
  · exact absurd (Nat.dvd_of_mod_eq_zero h4) (hq.2 e h2 h3)
theorem fermat {q m : Nat} (hq : prm q) (h : q ≤ 1000) (hm : ¬ q ∣ m) : m ^ (q - 1) % q = 1 := by
  have h1 := hq.1
  have h2 := List.all_eq_true.mp (List.all_eq_true.mp p1000_fer q (p1000_mem hq h)) (m % q) (List.mem_range.mpr (Nat.mod_lt _ (by omega)))
  simp only [Bool.or_eq_true, beq_iff_eq] at h2
  rcases h2 with h2 | h2
  · exact absurd (Nat.dvd_of_mod_eq_zero h2) hm
  · rw [Nat.pow_mod]; exact h2
