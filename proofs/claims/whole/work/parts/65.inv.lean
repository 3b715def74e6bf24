/-! the law's invariant; one turn of the law keeps it, and the answers are the same -/
def Iv (M : Me) (nn : Nat → Nat) : Prop := ∀ g, g < 2 → 1 ≤ nn g ∧ nn g ≤ 4 ∧ M (5 + g) 0 = nn g ∧ M 29 g = nn g ∧ (∀ i j, i < 4 → j < 4 → M (9 + 4 * g + i) j = M 30 (16 * g + (4 * i + j))) ∧ sb 0 4 6 (aC M g) ∧ ∀ i j, i < 4 → j < 4 → (nn g ≤ i ∨ nn g ≤ j) → M (9 + 4 * g + i) j = 0
theorem Iv.ci {M : Me} {nn : Nat → Nat} (h : Iv M nn) : ∀ g, g < 2 → CI M g (nn g) := fun g hg => ⟨(h g hg).2.2.1, (h g hg).1, (h g hg).2.1, (h g hg).2.2.2.2.2.1⟩
theorem Iv.e4 {M : Me} {nn : Nat → Nat} (h : Iv M nn) {g : Nat} (hg : g < 2) : eqn 4 (aC M g) (aM M g) := fun i j hi hj => (h g hg).2.2.2.2.1 i j hi hj
theorem Iv.mi {M : Me} {nn : Nat → Nat} (h : Iv M nn) : ∀ g, g < 2 → MI M g (nn g) := fun g hg => ⟨(h g hg).2.2.2.1, (h g hg).1, (h g hg).2.1, (h g hg).2.2.2.2.2.1.cg (h.e4 hg).sy⟩
theorem Iv.keep {M M2 : Me} {nn : Nat → Nat} (h : Iv M nn) (hk : ∀ q, ((5 ≤ q ∧ q < 17) ∨ q = 29 ∨ q = 30) → M2 q = M q) : Iv M2 nn := by
  intro g hg
  obtain ⟨a1, a2, a3, a4, a5, a6, a7⟩ := h g hg
  refine ⟨a1, a2, ?_, ?_, fun i j hi hj => ?_, ?_, fun i j hi hj hz => ?_⟩
  · rw [hk (5 + g) (by omega)]; exact a3
  · rw [hk 29 (by omega)]; exact a4
  · rw [hk (9 + 4 * g + i) (by omega), hk 30 (by omega)]; exact a5 i j hi hj
  · refine a6.cg (fun i j hi hj => ?_)
    show M2 (9 + 4 * g + i) j = M (9 + 4 * g + i) j
    rw [hk (9 + 4 * g + i) (by omega)]
  · rw [hk (9 + 4 * g + i) (by omega)]; exact a7 i j hi hj hz
theorem Iv.eq {M M1 : Me} {nn : Nat → Nat} (h : Iv M nn) (h30 : M1 30 = M 30) {g : Nat} (hg : g < 2) : eqn (nn g) (aC M g) (aM M1 g) := fun i j hi hj => by
  have := (h g hg).2.1
  show M (9 + 4 * g + i) j = M1 30 _
  rw [h30]
  exact (h g hg).2.2.2.2.1 i j (by omega) (by omega)
def itI (v vm : Option Value) (M2 : Me) : Prop := ∃ k z : Int, v = some (.int (ji k)) ∧ vm = some (.int (ji z)) ∧ b32 z ∧ (k = 0 ∨ k = 1 ∨ k = 2) ∧ M2 28 12 = k ∧ (k = 0 → M2 35 0 = z) ∧ ∃ nn', Iv M2 nn'
def itZ (v vm : Option Value) (M2 : Me) : Prop := ∃ (k : Int) (z : Prop), v = some (.int (ji k)) ∧ vm = some (.int (ji (bi z))) ∧ (k = 0 ∨ k = 1 ∨ k = 2) ∧ M2 28 12 = k ∧ (k = 0 → M2 35 0 = bi z) ∧ ∃ nn', Iv M2 nn'
/-- what the class's reading methods leave -/
theorem FrC.k {M M1 M2 : Me} {nn : Nat → Nat} (h : Iv M nn) (h1 : ∀ q, ((5 ≤ q ∧ q < 17) ∨ q = 29 ∨ q = 30) → M1 q = M q) (h2 : FrQ M1 M2) : Iv M2 nn := h.keep (fun q hq => (h2 q (by omega)).trans (h1 q hq))
theorem it_about {M M1 M2 : Me} {nn : Nat → Nat} {f w : Int} {v vm : Option Value} (hI : Iv M nn) (hq : qL_about M f w nn v M1)
    (hm : (∃ z : Int, vm = some (.int (ji z)) ∧ b32 z ∧ (¬ (fo f ∧ 0 ≤ w ∧ w ≤ 4) → M2 28 12 = 1) ∧ ((fo f ∧ 0 ≤ w ∧ w ≤ 4) → M2 28 12 = 0 ∧ ∀ g : Nat, f = g → ∃ r p, fpv (nn g) (aM M1 g) r p ∧ z = abv (nn g) r p w)) ∧ FrQ M1 M2) : itI v vm M2 := by
  obtain ⟨⟨z, rfl, hz, m1, m2⟩, m3⟩ := hm
  rcases hq with ⟨rfl, -, hno, rfl⟩ | ⟨rfl, u, M8, hu, ⟨ok, ⟨u', hu', hb', hcl⟩, hF⟩, rfl⟩
  · exact ⟨1, z, rfl, rfl, hz, by omega, m1 hno, by omega, nn, FrC.k hI (fun _ _ => rfl) m3⟩
  · obtain ⟨m4, m5⟩ := m2 ok
    obtain ⟨g, hg2, hfg⟩ := fo_g ok.1
    have e1 : u = u' := by
      have h9 := Option.some.inj hu'
      injection h9 with h8
      exact (ji_eq hu hb').mp h8
    subst e1
    have h30 : mu M8 35 0 u 30 = M 30 := by rw [mu_k (by omega)]; exact hF 30 (by omega)
    have e2 := ag_about (hI.eq h30 hg2) (hcl g hfg) (m5 g hfg)
    exact ⟨0, z, rfl, rfl, hz, by omega, m4, fun _ => by rw [m3 35 (by omega), mu_s]; exact e2, nn, FrC.k hI (fun q hq => by rw [mu_k (by omega)]; exact hF q (by omega)) m3⟩
theorem ji_some {u u' : Int} (h : (some (Value.int (ji u)) : Option Value) = some (Value.int (ji u'))) (hu : b32 u) (hu' : b32 u') : u = u' := by
  have h9 := Option.some.inj h
  injection h9 with h8
  exact (ji_eq hu hu').mp h8
theorem bi_inj {x y : Prop} (h : bi x = bi y) : x ↔ y := by
  by_cases hx : x
  · rw [bi_t hx] at h
    exact ⟨fun _ => Classical.byContradiction fun z => by rw [bi_f z] at h; omega, fun _ => hx⟩
  · rw [bi_f hx] at h
    exact ⟨fun z => absurd z hx, fun z => by rw [bi_t z] at h; omega⟩
theorem it_symbol {M M1 M2 : Me} {nn : Nat → Nat} {a b p9 : Int} {v vm : Option Value} (ha : b32 a) (hb : b32 b) (hI : Iv M nn) (hq : qL_symbol M a b p9 v M1)
    (hm : (∃ z : Int, vm = some (.int (ji z)) ∧ b32 z ∧ ((a = 0 ∨ b = 0) → M2 28 12 = 1) ∧ (¬ (a = 0 ∨ b = 0) → ¬ pl0 p9 → M2 28 12 = 2) ∧ (¬ (a = 0 ∨ b = 0) → pl0 p9 → M2 28 12 = 0 ∧ z = syM (sf a) (sf b) p9)) ∧ FrQ M1 M2) : itI v vm M2 := by
  obtain ⟨⟨z, rfl, hz, m1, m2, m4⟩, m3⟩ := hm
  rcases hq with ⟨rfl, hX, rfl⟩ | ⟨rfl, hX, rfl⟩ | ⟨rfl, u, M8, hu, ⟨ok, hpl, hu', rfl⟩, rfl⟩
  · rcases hX with ⟨-, hX⟩ | ⟨hC, -⟩
    · exact ⟨1, z, rfl, rfl, hz, by omega, m1 hX, by omega, nn, FrC.k hI (fun _ _ => rfl) m3⟩
    · exact absurd hC (by decide)
  · rcases hX with ⟨hC, -⟩ | ⟨-, h1, h2⟩
    · exact absurd hC (by decide)
    · exact ⟨2, z, rfl, rfl, hz, by omega, m2 h1 h2, by omega, nn, FrC.k hI (fun _ _ => rfl) m3⟩
  · obtain ⟨x1, x2⟩ := m4 ok hpl
    have e1 := ji_some hu' hu (pm1_b32 (sy_pm _ _ _))
    exact ⟨0, z, rfl, rfl, hz, by omega, x1, fun _ => by rw [m3 35 (by omega), mu_s, e1, x2]; exact ag_symbol (by omega) (by omega) ha hb hpl, nn, FrC.k hI (fun q hq => by rw [mu_k (by omega)]) m3⟩
theorem it_hasse {M M1 M2 : Me} {nn : Nat → Nat} {f p9 : Int} {v vm : Option Value} (hI : Iv M nn) (hq : qL_hasse M f p9 nn v M1)
    (hm : (∃ z : Int, vm = some (.int (ji z)) ∧ b32 z ∧ (¬ (fo f ∧ pl0 p9) → M2 28 12 = 1) ∧ ((fo f ∧ pl0 p9) → M2 28 12 = 0 ∧ ∀ g : Nat, f = g → ∃ r p, fpv (nn g) (aM M1 g) r p ∧ z = hs (fun a b => syM a b p9) (tr p) r)) ∧ FrQ M1 M2) : itI v vm M2 := by
  obtain ⟨⟨z, rfl, hz, m1, m2⟩, m3⟩ := hm
  rcases hq with ⟨rfl, -, hno, rfl⟩ | ⟨rfl, u, M8, hu, ⟨ok, ⟨u', hu', hb', hcl⟩, hF⟩, rfl⟩
  · exact ⟨1, z, rfl, rfl, hz, by omega, m1 hno, by omega, nn, FrC.k hI (fun _ _ => rfl) m3⟩
  · obtain ⟨m4, m5⟩ := m2 ok
    obtain ⟨g, hg2, hfg⟩ := fo_g ok.1
    obtain rfl := ji_some hu' hu hb'
    have h30 : mu M8 35 0 u 30 = M 30 := by rw [mu_k (by omega)]; exact hF 30 (by omega)
    have e2 := ag_hasse ok.2 (hI.eq h30 hg2) (hcl g hfg) (m5 g hfg)
    exact ⟨0, z, rfl, rfl, hz, by omega, m4, fun _ => by rw [m3 35 (by omega), mu_s]; exact e2, nn, FrC.k hI (fun q hq => by rw [mu_k (by omega)]; exact hF q (by omega)) m3⟩
theorem it_isotropicAt {M M1 M2 : Me} {nn : Nat → Nat} {f p9 : Int} {v vm : Option Value} (hI : Iv M nn) (hq : qL_isotropicAt M f p9 nn v M1)
    (hm : (∃ z : Prop, vm = some (.int (ji (bi z))) ∧ (¬ (fo f ∧ pl0 p9) → M2 28 12 = 1) ∧ ((fo f ∧ pl0 p9) → M2 28 12 = 0 ∧ ∀ g : Nat, f = g → ∃ r p, fpv (nn g) (aM M1 g) r p ∧ (z ↔ (r < nn g ∨ zM r (sf (bef p r)) (tr p) (0 < ps p r ∧ 0 < ng p r) p9)))) ∧ FrQ M1 M2) : itZ v vm M2 := by
  obtain ⟨⟨z, rfl, m1, m2⟩, m3⟩ := hm
  rcases hq with ⟨rfl, -, hno, rfl⟩ | ⟨rfl, u, M8, ⟨ok, ⟨u', hu', hcl⟩, hF⟩, rfl⟩
  · exact ⟨1, z, rfl, rfl, by omega, m1 hno, by omega, nn, FrC.k hI (fun _ _ => rfl) m3⟩
  · obtain ⟨m4, m5⟩ := m2 ok
    obtain ⟨g, hg2, hfg⟩ := fo_g ok.1
    have e1 := bi_inj (ji_some hu' (bi_b32 _) (bi_b32 _))
    have h30 : mu M8 35 0 (bi u) 30 = M 30 := by rw [mu_k (by omega)]; exact hF 30 (by omega)
    have e2 := ag_iso ok.2 (hI.eq h30 hg2) (hcl g hfg) (m5 g hfg)
    exact ⟨0, z, rfl, rfl, by omega, m4, fun _ => by rw [m3 35 (by omega), mu_s]; exact bi_iff (e1.trans e2), nn, FrC.k hI (fun q hq => by rw [mu_k (by omega)]; exact hF q (by omega)) m3⟩
theorem it_obstacle {M M1 M2 : Me} {nn : Nat → Nat} {f : Int} {v vm : Option Value} (hI : Iv M nn) (hq : qL_obstacle M f nn v M1)
    (hm : (∃ z : Int, vm = some (.int (ji z)) ∧ b32 z ∧ (¬ fo f → M2 28 12 = 1) ∧ (fo f → M2 28 12 = 0 ∧ ∀ g : Nat, f = g → ∃ r p, fpv (nn g) (aM M1 g) r p ∧ obM (nn g) r p z)) ∧ FrQ M1 M2) : itI v vm M2 := by
  obtain ⟨⟨z, rfl, hz, m1, m2⟩, m3⟩ := hm
  rcases hq with ⟨rfl, -, hno, rfl⟩ | ⟨rfl, u, M8, hu, ⟨ok, ⟨u', hu', hb', hcl⟩, hF⟩, rfl⟩
  · exact ⟨1, z, rfl, rfl, hz, by omega, m1 hno, by omega, nn, FrC.k hI (fun _ _ => rfl) m3⟩
  · obtain ⟨m4, m5⟩ := m2 ok
    obtain ⟨g, hg2, hfg⟩ := fo_g ok
    obtain rfl := ji_some hu' hu hb'
    have h30 : mu M8 35 0 u 30 = M 30 := by rw [mu_k (by omega)]; exact hF 30 (by omega)
    have e2 := ag_obst (hI g hg2).1 (hI.eq h30 hg2) (hcl g hfg) (m5 g hfg)
    exact ⟨0, z, rfl, rfl, hz, by omega, m4, fun _ => by rw [m3 35 (by omega), mu_s]; exact e2, nn, FrC.k hI (fun q hq => by rw [mu_k (by omega)]; exact hF q (by omega)) m3⟩
theorem it_takes {M M1 M2 : Me} {nn : Nat → Nat} {f w : Int} {v vm : Option Value} (hI : Iv M nn) (hq : qL_takes M f w nn v M1)
    (hm : (∃ z : Prop, vm = some (.int (ji (bi z))) ∧ (¬ (fo f ∧ -1000 ≤ w ∧ w ≤ 1000) → M2 28 12 = 1) ∧ ((fo f ∧ -1000 ≤ w ∧ w ≤ 1000) → w = 0 → M2 28 12 = 2) ∧ ((fo f ∧ -1000 ≤ w ∧ w ≤ 1000) → w ≠ 0 → M2 28 12 = 0 ∧ ∀ g : Nat, f = g → ∃ r p, fpv (nn g) (aM M1 g) r p ∧ tkM (nn g) r p (sf (-w)) z)) ∧ FrQ M1 M2) : itZ v vm M2 := by
  obtain ⟨⟨z, rfl, m1, m2, m6⟩, m3⟩ := hm
  rcases hq with ⟨rfl, hX, rfl⟩ | ⟨rfl, hX, rfl⟩ | ⟨rfl, u, M8, ⟨ok, hw, ⟨u', hu', hcl⟩, hF⟩, rfl⟩
  · rcases hX with ⟨-, hX⟩ | ⟨hC, -⟩
    · exact ⟨1, z, rfl, rfl, by omega, m1 hX, by omega, nn, FrC.k hI (fun _ _ => rfl) m3⟩
    · exact absurd hC (by decide)
  · rcases hX with ⟨hC, -⟩ | ⟨-, h1, h2⟩
    · exact absurd hC (by decide)
    · exact ⟨2, z, rfl, rfl, by omega, m2 h1 h2, by omega, nn, FrC.k hI (fun _ _ => rfl) m3⟩
  · obtain ⟨m4, m5⟩ := m6 ok hw
    obtain ⟨g, hg2, hfg⟩ := fo_g ok.1
    have e1 := bi_inj (ji_some hu' (bi_b32 _) (bi_b32 _))
    have h30 : mu M8 35 0 (bi u) 30 = M 30 := by rw [mu_k (by omega)]; exact hF 30 (by omega)
    have e2 := ag_takes hw (hI.eq h30 hg2) (hcl g hfg) (m5 g hfg)
    exact ⟨0, z, rfl, rfl, by omega, m4, fun _ => by rw [m3 35 (by omega), mu_s]; exact bi_iff (e1.trans e2), nn, FrC.k hI (fun q hq => by rw [mu_k (by omega)]; exact hF q (by omega)) m3⟩
theorem it_sign {M M1 M2 : Me} {nn : Nat → Nat} {f k : Int} {v vm : Option Value} (hI : Iv M nn) (hq : qL_sign M f k nn v M1)
    (hm : (∃ z : Int, vm = some (.int (ji z)) ∧ b32 z ∧ (¬ fo f → M2 28 12 = 1) ∧ (fo f → ∀ g : Nat, f = g → ∃ r p, fpv (nn g) (aM M1 g) r p ∧ ∃ (c9 : Nat) (a : Nat → Int), SL c9 a (mnM p r) ∧ (¬ (0 ≤ k ∧ k < c9) → M2 28 12 = 2) ∧ (0 ≤ k → k < c9 → M2 28 12 = 0 ∧ z = a k.toNat))) ∧ FrQ M1 M2) : itI v vm M2 := by
  obtain ⟨⟨z, rfl, hz, m1, m2⟩, m3⟩ := hm
  rcases hq with ⟨rfl, hX⟩ | ⟨rfl, hX⟩ | ⟨rfl, u, M8, hu, ⟨ok, ⟨u', hu', hb', hne, hcl⟩, hF⟩, rfl⟩
  · rcases hX with ⟨-, hno, rfl⟩ | ⟨hC, -⟩
    · exact ⟨1, z, rfl, rfl, hz, by omega, m1 hno, by omega, nn, FrC.k hI (fun _ _ => rfl) m3⟩
    · exact absurd hC (by decide)
  · rcases hX with ⟨hC, -⟩ | ⟨-, ok, hcl, hF⟩
    · exact absurd hC (by decide)
    · obtain ⟨g, hg2, hfg⟩ := fo_g ok
      obtain ⟨r, p, c1, c2⟩ := hcl g hfg
      obtain ⟨r', p', d1, c9, a, d2, d3, d4⟩ := m2 ok g hfg
      have e2 := ag_sign (hI.eq (hF 30 (by omega)) hg2) c1 c2 d1 d2
      have hk : ¬ (0 ≤ k ∧ k < c9) := fun q => (e2.1 q).2 rfl
      exact ⟨2, z, rfl, rfl, hz, by omega, d3 hk, by omega, nn, FrC.k hI (fun q hq => hF q (by omega)) m3⟩
  · obtain ⟨g, hg2, hfg⟩ := fo_g ok
    obtain rfl := ji_some hu' hu hb'
    obtain ⟨r, p, c1, c2⟩ := hcl g hfg
    obtain ⟨r', p', d1, c9, a, d2, d3, d4⟩ := m2 ok g hfg
    have h30 : mu M8 35 0 u 30 = M 30 := by rw [mu_k (by omega)]; exact hF 30 (by omega)
    have e2 := ag_sign (hI.eq h30 hg2) c1 c2 d1 d2
    have hk : 0 ≤ k ∧ k < c9 := Classical.byContradiction fun q => hne (e2.2 q)
    obtain ⟨x1, x2⟩ := d4 hk.1 hk.2
    exact ⟨0, z, rfl, rfl, hz, by omega, x1, fun _ => by rw [m3 35 (by omega), mu_s, x2]; exact (e2.1 hk).1, nn, FrC.k hI (fun q hq => by rw [mu_k (by omega)]; exact hF q (by omega)) m3⟩
