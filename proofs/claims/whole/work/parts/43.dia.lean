/-! squarefree parts; what elimination writes into a diagonal -/
theorem sfN_ex : ∀ N n : Nat, n ≤ N → 0 < n → ∃ c, sfN n c := by
  intro N
  induction N with
  | zero => intro n h1 h2; omega
  | succ N ih =>
    intro n h1 h2
    by_cases h : ∃ d, 1 < d ∧ d * d ∣ n
    · obtain ⟨d, hd, n', hn⟩ := h
      have hn0 : 0 < n' := Nat.pos_of_ne_zero fun q => by rw [q, Nat.mul_zero] at hn; omega
      have hdd : 2 ≤ d * d := Nat.le_trans (by omega) (Nat.le_mul_of_pos_right d (by omega : 0 < d))
      have hlt : n' < n := by
        rw [hn]
        calc n' < 2 * n' := by omega
          _ ≤ d * d * n' := Nat.mul_le_mul_right _ hdd
      obtain ⟨c, ⟨m, hm0, hm⟩, hc⟩ := ih n' (by omega) hn0
      exact ⟨c, ⟨d * m, Nat.mul_pos (by omega) hm0, by rw [hn, hm]; grind⟩, hc⟩
    · exact ⟨n, ⟨1, by omega, by omega⟩, fun d hd q => h ⟨d, hd, q⟩⟩
theorem sf_is {a : Int} (ha : a ≠ 0) : sfI a (sf a) := by
  obtain ⟨c, hc⟩ := sfN_ex a.natAbs a.natAbs (Nat.le_refl _) (by omega)
  have hc0 : 0 < c := Nat.pos_of_ne_zero fun q => by
    obtain ⟨m, m1, m2⟩ := hc.1
    rw [q, Nat.zero_mul] at m2
    omega
  rcases Int.lt_or_lt_of_ne ha with h | h
  · have g : sfI a (-(c : Int)) := ⟨by rw [Int.natAbs_neg, Int.natAbs_natCast]; exact hc, by omega, by omega⟩
    rw [sf_eq g]; exact g
  · have g : sfI a (c : Int) := ⟨by rw [Int.natAbs_natCast]; exact hc, by omega, by omega⟩
    rw [sf_eq g]; exact g
theorem sf_ne {a : Int} (ha : a ≠ 0) : sf a ≠ 0 := sfI_ne ha (sf_is ha)
theorem sf_sq {a : Int} (ha : a ≠ 0) : ∀ d, 1 < d → ¬ d * d ∣ (sf a).natAbs := (sf_is ha).1.2
theorem sf_dv {a : Int} (ha : a ≠ 0) : (sf a).natAbs ∣ a.natAbs := by
  obtain ⟨m, -, hm⟩ := (sf_is ha).1.1
  exact ⟨m * m, hm⟩
theorem sf_le {a : Int} (ha : a ≠ 0) : (sf a).natAbs ≤ a.natAbs := Nat.le_of_dvd (by omega) (sf_dv ha)
theorem sf_id {a : Int} (ha : a ≠ 0) (h : ∀ d, 1 < d → ¬ d * d ∣ a.natAbs) : sf a = a := sf_eq ⟨⟨⟨1, by omega, by omega⟩, h⟩, Iff.rfl, Iff.rfl⟩
theorem one_sq : ∀ d, 1 < d → ¬ d * d ∣ (1 : Int).natAbs := fun d hd q => by
  have : d * d ≤ 1 := Nat.le_of_dvd (by decide) q
  have : d ≤ d * d := Nat.le_mul_of_pos_right d (by omega)
  omega
theorem sf_1 : sf 1 = 1 := sf_id (by decide) one_sq
theorem pr_le {a b : Int} (ha : a ≠ 0) : (pr a b).natAbs ≤ a.natAbs * b.natAbs := by
  obtain ⟨g, a', b', hg, h1, h2, -, -, h3⟩ := pr_parts (b := b) ha
  rw [h3, Int.natAbs_mul]
  have e1 : a.natAbs = g * a'.natAbs := by rw [h1, Int.natAbs_mul, Int.natAbs_natCast]
  have e2 : b.natAbs = g * b'.natAbs := by rw [h2, Int.natAbs_mul, Int.natAbs_natCast]
  rw [e1, e2]
  exact Nat.mul_le_mul (Nat.le_mul_of_pos_left _ hg) (Nat.le_mul_of_pos_left _ hg)
/-- the terms -/
noncomputable def tr (p : Nat → Int) (i : Nat) : Int := pr (sf (p i)) (sf (bef p i))
noncomputable def ps (p : Nat → Int) : Nat → Int
  | 0 => 0
  | k + 1 => ps p k + (if 0 < tr p k then 1 else 0)
noncomputable def ng (p : Nat → Int) : Nat → Int
  | 0 => 0
  | k + 1 => ng p k + (if 0 < tr p k then 0 else 1)
def Sp (p : Nat → Int) (k q : Nat) : Prop := q = 2 ∨ ∃ i, i < k ∧ prm q ∧ q ∣ (p i).natAbs
theorem bef_cg {p p' : Nat → Int} : ∀ {k : Nat}, (∀ i, i < k → p' i = p i) → bef p' k = bef p k
  | 0, _ => rfl
  | k + 1, h => h k (by omega)
theorem tr_cg {p p' : Nat → Int} {k : Nat} (h : ∀ i, i < k → p' i = p i) {i : Nat} (hi : i < k) : tr p' i = tr p i := by
  unfold tr
  rw [h i hi, bef_cg (p' := p') (p := p) (k := i) (fun j hj => h j (by omega))]
theorem ps_cg {p p' : Nat → Int} : ∀ {k : Nat}, (∀ i, i < k → p' i = p i) → ps p' k = ps p k
  | 0, _ => rfl
  | k + 1, h => by
    show ps p' k + _ = ps p k + _
    rw [ps_cg (fun i hi => h i (by omega)), tr_cg h (by omega : k < k + 1)]
theorem ng_cg {p p' : Nat → Int} : ∀ {k : Nat}, (∀ i, i < k → p' i = p i) → ng p' k = ng p k
  | 0, _ => rfl
  | k + 1, h => by
    show ng p' k + _ = ng p k + _
    rw [ng_cg (fun i hi => h i (by omega)), tr_cg h (by omega : k < k + 1)]
theorem Sp_cg {p p' : Nat → Int} {k : Nat} (h : ∀ i, i < k → p' i = p i) (q : Nat) : Sp p' k q ↔ Sp p k q := by
  constructor
  · rintro (h1 | ⟨i, i1, i2, i3⟩)
    · exact Or.inl h1
    · exact Or.inr ⟨i, i1, i2, by rw [← h i i1]; exact i3⟩
  · rintro (h1 | ⟨i, i1, i2, i3⟩)
    · exact Or.inl h1
    · exact Or.inr ⟨i, i1, i2, by rw [h i i1]; exact i3⟩
theorem ps_bd (p : Nat → Int) : ∀ k : Nat, 0 ≤ ps p k ∧ ps p k ≤ k
  | 0 => ⟨Int.le_refl _, Int.le_refl _⟩
  | k + 1 => by
    have := ps_bd p k
    show 0 ≤ ps p k + _ ∧ ps p k + _ ≤ _
    by_cases h : 0 < tr p k
    · rw [if_pos h]; omega
    · rw [if_neg h]; omega
theorem ng_ps (p : Nat → Int) : ∀ k : Nat, ng p k = k - ps p k
  | 0 => rfl
  | k + 1 => by
    have := ng_ps p k
    show ng p k + _ = _ - (ps p k + _)
    by_cases h : 0 < tr p k
    · rw [if_pos h, if_pos h]; omega
    · rw [if_neg h, if_neg h]; omega
/-- a diagonal after k steps -/
def DgS (M : Me) (f n k : Nat) (p : Nat → Int) (c : Nat) : Prop := M (17 + f) 2 = n ∧ M (17 + f) 3 = k ∧ (∀ i, i < k → M (19 + f) i = tr p i) ∧ M (17 + f) 4 = ps p k ∧ M (17 + f) 5 = ng p k ∧ M (17 + f) 6 = sf (bef p k) ∧ M (17 + f) 7 = c ∧ SL c (M (21 + f)) (Sp p k)
theorem DgS.cg {M : Me} {f n k c : Nat} {p p' : Nat → Int} (hp : ∀ i, i < k → p' i = p i) (h : DgS M f n k p c) : DgS M f n k p' c := by
  obtain ⟨h1, h2, h3, h4, h5, h6, h7, h8⟩ := h
  exact ⟨h1, h2, fun i hi => by rw [tr_cg hp hi]; exact h3 i hi, by rw [ps_cg hp]; exact h4, by rw [ng_cg hp]; exact h5, by rw [bef_cg hp]; exact h6, h7, h8.to (fun q => (Sp_cg hp q).symm)⟩
theorem DgS.fr {M M9 : Me} {f n k c : Nat} {p : Nat → Int} (h : DgS M f n k p c) (h1 : M9 (17 + f) = M (17 + f)) (h2 : M9 (19 + f) = M (19 + f)) (h3 : M9 (21 + f) = M (21 + f)) : DgS M9 f n k p c := by
  unfold DgS
  rw [h1, h2, h3]
  exact h
def jB : Nat → Nat
  | 0 => 3
  | 1 => 5
  | 2 => 10
  | _ => 6
def cB : Nat → Nat
  | 0 => 1
  | k + 1 => cB k + jB k
/-- pivots as small as they come -/
def pB (p : Nat → Int) (k : Nat) : Prop := ∀ i, i < k → p i ≠ 0 ∧ (p i).natAbs ≤ 169869312 ∧ (p i).natAbs < fac (jB i + 2)
theorem piv_pB {n k : Nat} {A B T : Mt} {p : Nat → Int} (hn : n ≤ 4) (hk : k < n) (hA : sb 0 n 6 A) (h : PVs n A p k T) (hb : bpR n k T True B) : B k k ≠ 0 ∧ (B k k).natAbs ≤ 169869312 ∧ (B k k).natAbs < fac (jB k + 2) := by
  obtain ⟨h0, h1, h2, h3, h4⟩ := piv_bd hn hk hA h hb
  refine ⟨h0, ?_⟩
  rcases (by omega : k = 0 ∨ k = 1 ∨ k = 2 ∨ k = 3) with q | q | q | q
  · have := h1 q; subst q; exact ⟨by omega, Nat.lt_of_le_of_lt this (by decide)⟩
  · have := h2 q; subst q; exact ⟨by omega, Nat.lt_of_le_of_lt this (by decide)⟩
  · have := h3 q; subst q; exact ⟨by omega, Nat.lt_of_le_of_lt this (by decide)⟩
  · have := h4 q; subst q; exact ⟨by omega, Nat.lt_of_le_of_lt this (by decide)⟩
theorem cB_le {k : Nat} (h : k ≤ 4) : cB k ≤ 25 := by
  rcases (by omega : k = 0 ∨ k = 1 ∨ k = 2 ∨ k = 3 ∨ k = 4) with q | q | q | q | q <;> subst q <;> decide
theorem bef_pB {p : Nat → Int} : ∀ {k : Nat}, pB p k → bef p k ≠ 0 ∧ (bef p k).natAbs ≤ 169869312
  | 0, _ => ⟨by show (1 : Int) ≠ 0; decide, by show (1 : Int).natAbs ≤ _; decide⟩
  | k + 1, h => ⟨(h k (by omega)).1, (h k (by omega)).2.1⟩
theorem tr_bd {p : Nat → Int} {k i : Nat} (h : pB p k) (hi : i < k) : tr p i ≠ 0 ∧ (tr p i).natAbs ≤ 169869312 * 169869312 := by
  obtain ⟨a1, a2, -⟩ := h i hi
  obtain ⟨b1, b2⟩ := bef_pB (k := i) (p := p) (fun j hj => h j (by omega))
  exact ⟨pr_ne (sf_ne a1) (sf_ne b1), Nat.le_trans (pr_le (sf_ne a1)) (Nat.mul_le_mul (Nat.le_trans (sf_le a1) a2) (Nat.le_trans (sf_le b1) b2))⟩
theorem Sp_bd {p : Nat → Int} {k q : Nat} (h : pB p k) (hq : Sp p k q) : 2 ≤ q ∧ q ≤ 2147483647 := by
  rcases hq with rfl | ⟨i, i1, i2, i3⟩
  · decide
  · have := h i i1
    have h1 := Nat.le_of_dvd (by omega) i3
    have h2 := i2.1
    omega
theorem pB_s {p : Nat → Int} {k : Nat} (h : pB p k) {x : Int} (hx : x ≠ 0 ∧ x.natAbs ≤ 169869312 ∧ x.natAbs < fac (jB k + 2)) : pB (fun i => if i = k then x else p i) (k + 1) := fun i hi => by
  by_cases q : i = k
  · simp only [if_pos q]; rw [q]; exact hx
  · simp only [if_neg q]; exact h i (by omega)
