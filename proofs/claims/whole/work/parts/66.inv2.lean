/-! one turn: value, equivalent, begin, put -/
def itL (v vm : Option Value) (M2 : Me) : Prop := ∃ k z : Int, v = some (.int (ji k)) ∧ vm = some (.long (jl z)) ∧ (k = 0 ∨ k = 1 ∨ k = 2) ∧ M2 28 12 = k ∧ (k = 0 → jl (M2 35 0) = jl z) ∧ ∃ nn', Iv M2 nn'
theorem it_value {M M1 M2 : Me} {nn : Nat → Nat} {f x y z t : Int} {v vm : Option Value} (hI : Iv M nn) (hq : qL_value M f x y z t nn v M1)
    (hm : (∃ w : Int, vm = some (.long (jl w)) ∧ ((¬ fo f ∨ ∃ i : Nat, i < nn f.toNat ∧ ¬ (-1000 ≤ x4 x y z t i ∧ x4 x y z t i ≤ 1000)) → M2 28 12 = 1) ∧ (¬ (¬ fo f ∨ ∃ i : Nat, i < nn f.toNat ∧ ¬ (-1000 ≤ x4 x y z t i ∧ x4 x y z t i ≤ 1000)) → M2 28 12 = 0 ∧ ∀ g : Nat, f = g → w = vf 4 (aM M1 g) (x4 x y z t) 4)) ∧ FrQ M1 M2) : itL v vm M2 := by
  obtain ⟨⟨w, rfl, m1, m2⟩, m3⟩ := hm
  rcases hq with ⟨rfl, -, hbad, hF⟩ | ⟨rfl, u, M8, ⟨ok, ⟨u', hu', hcl⟩, hF⟩, rfl⟩
  · exact ⟨1, w, rfl, rfl, by omega, m1 hbad, by omega, nn, FrC.k hI (fun q hq => hF q (by omega)) m3⟩
  · obtain ⟨m4, m5⟩ := m2 ok
    have hfo : fo f := Classical.byContradiction fun q => ok (Or.inl q)
    obtain ⟨g, hg2, hfg⟩ := fo_g hfo
    have e1 : jl u = jl u' := by
      have h9 := Option.some.inj hu'
      injection h9
    have h30 : mu M8 35 0 u 30 = M 30 := by rw [mu_k (by omega)]; exact hF 30 (by omega)
    have e2 : vf (nn g) (aC M g) (x4 x y z t) (nn g) = vf 4 (aM (mu M8 35 0 u) g) (x4 x y z t) 4 := by
      refine ag_value (hI g hg2).2.1 (fun i j hi hj => ?_) (fun i j hi hj hz => ?_)
      · show M (9 + 4 * g + i) j = mu M8 35 0 u 30 _
        rw [h30]; exact (hI g hg2).2.2.2.2.1 i j hi hj
      · show mu M8 35 0 u 30 _ = 0
        rw [h30, ← (hI g hg2).2.2.2.2.1 i j hi hj]; exact (hI g hg2).2.2.2.2.2.2 i j hi hj hz
    exact ⟨0, w, rfl, rfl, by omega, m4, fun _ => by rw [m3 35 (by omega), mu_s, e1, hcl g hfg, e2, ← m5 g hfg], nn, FrC.k hI (fun q hq => by rw [mu_k (by omega)]; exact hF q (by omega)) m3⟩
theorem it_equivalent {M M1 M2 : Me} {nn : Nat → Nat} {v vm : Option Value} (hI : Iv M nn) (hq : (∃ z : Prop, v = some (.int (ji (bi z))) ∧ ∃ r p r1 p1, fpv (nn 0) (aC M 0) r p ∧ fpv (nn 1) (aC M 1) r1 p1 ∧ (z ↔ eqC (nn 0) (nn 1) r p r1 p1)) ∧ FrC M M1)
    (hm : (∃ z : Prop, vm = some (.int (ji (bi z))) ∧ M2 28 12 = 0 ∧ ∃ r p r1 p1, fpv (nn 0) (aM M1 0) r p ∧ fpv (nn 1) (aM M1 1) r1 p1 ∧ (z ↔ (nn 0 = nn 1 ∧ r = r1 ∧ ps p r = ps p1 r1 ∧ sf (bef p r) = sf (bef p1 r1) ∧ ∀ q, mnM p r q ↔ mnM p1 r1 q))) ∧ FrQ M1 M2) : (∃ z : Prop, v = some (.int (ji (bi z))) ∧ vm = some (.int (ji (bi z)))) ∧ ∃ nn', Iv M2 nn' := by
  obtain ⟨⟨z, rfl, hc⟩, hF⟩ := hq
  obtain ⟨⟨z', rfl, -, hm⟩, m3⟩ := hm
  have h30 : M1 30 = M 30 := hF 30 (by omega)
  have e2 := ag_eq (hI 0 (by omega)).2.1 (hI 1 (by omega)).2.1 (hI.eq h30 (by omega : (0 : Nat) < 2)) (hI.eq h30 (by omega : (1 : Nat) < 2)) hc hm
  exact ⟨⟨z, rfl, by rw [bi_iff e2]⟩, nn, FrC.k hI (fun q hq => hF q (by omega)) m3⟩
def itN (v : Option Value) (M2 : Me) : Prop := ∃ k : Int, v = some (.int (ji k)) ∧ (k = 0 ∨ k = 1 ∨ k = 2) ∧ M2 28 12 = k ∧ ∃ nn', Iv M2 nn'
theorem it_begin {M M1 M2 : Me} {nn : Nat → Nat} {f n : Int} {v : Option Value} (hI : Iv M nn) (hq : qL_begin M f n v M1)
    (hm : (¬ (fo f ∧ 1 ≤ n ∧ n ≤ 4) → M2 28 12 = 1 ∧ M2 29 = M1 29 ∧ M2 30 = M1 30) ∧ ((fo f ∧ 1 ≤ n ∧ n ≤ 4) → M2 28 12 = 0 ∧ ∀ g : Nat, f = g → M2 29 g = n ∧ (∀ h, h ≠ g → M2 29 h = M1 29 h) ∧ (∀ i, i < 16 → M2 30 (16 * g + i) = 0) ∧ ∀ x, (x < 16 * g ∨ 16 * g + 16 ≤ x) → M2 30 x = M1 30 x) ∧ ∀ q, (q < 28 ∨ q = 35) → M2 q = M1 q) : itN v M2 := by
  obtain ⟨m1, m2, m3⟩ := hm
  rcases hq with ⟨rfl, -, hno, rfl⟩ | ⟨rfl, -, ok, hcl⟩
  · obtain ⟨x1, x2, x3⟩ := m1 hno
    exact ⟨1, rfl, by omega, x1, nn, hI.keep (fun q hq => by
      rcases hq with hq | rfl | rfl
      · exact m3 q (by omega)
      · exact x2
      · exact x3)⟩
  · obtain ⟨x1, x2⟩ := m2 ok
    obtain ⟨g, hg2, hfg⟩ := fo_g ok.1
    obtain ⟨c1, c2, c3⟩ := hcl g hfg
    obtain ⟨d1, d2, d3, d4⟩ := x2 g hfg
    obtain ⟨k, hk⟩ : ∃ k : Nat, n = k := ⟨n.toNat, by omega⟩
    refine ⟨0, rfl, by omega, x1, fun h => if h = g then k else nn h, fun h hh => ?_⟩
    by_cases hhg : h = g
    · subst hhg
      simp only [if_pos]
      have z1 : ∀ i j, i < 4 → j < 4 → M2 (9 + 4 * h + i) j = 0 := fun i j hi hj => by rw [m3 (9 + 4 * h + i) (by omega)]; exact c2 i j hi hj
      refine ⟨by omega, by omega, by rw [m3 (5 + h) (by omega), c1, hk], by rw [d1, hk], fun i j hi hj => ?_, fun a b _ ha _ hb => ?_, fun i j hi hj _ => z1 i j hi hj⟩
      · rw [z1 i j hi hj, d3 (4 * i + j) (by omega)]
      · show M2 (9 + 4 * h + a) b = M2 (9 + 4 * h + b) a ∧ (M2 (9 + 4 * h + a) b).natAbs ≤ 6
        rw [z1 a b ha hb, z1 b a hb ha]
        decide
    · simp only [if_neg hhg]
      obtain ⟨a1, a2, a3, a4, a5, a6, a7⟩ := hI h hh
      have e9 : ∀ i, i < 4 → M2 (9 + 4 * h + i) = M (9 + 4 * h + i) := fun i hi => (m3 _ (by omega)).trans (c3 _ (by omega) (by omega))
      refine ⟨a1, a2, ?_, ?_, fun i j hi hj => ?_, ?_, fun i j hi hj hz => ?_⟩
      · rw [m3 (5 + h) (by omega), c3 (5 + h) (by omega) (by omega)]; exact a3
      · rw [d2 h hhg, c3 29 (by omega) (by omega)]; exact a4
      · rw [e9 i hi, d4 (16 * h + (4 * i + j)) (by omega), c3 30 (by omega) (by omega)]; exact a5 i j hi hj
      · refine a6.cg (fun i j hi hj => ?_)
        show M2 (9 + 4 * h + i) j = M (9 + 4 * h + i) j
        rw [e9 i hi]
      · rw [e9 i hi]; exact a7 i j hi hj hz
theorem it_put {M M1 M2 : Me} {nn : Nat → Nat} {f i j w : Int} {v vm : Option Value} (hI : Iv M nn) (hq : qL_put M f i j w nn v M1)
    (hm : ∃ z : Int, vm = some (.int (ji z)) ∧ b32 z ∧ (¬ (fo f ∧ -6 ≤ w ∧ w ≤ 6) → M2 28 12 = 1 ∧ FrQ M1 M2) ∧ ((fo f ∧ -6 ≤ w ∧ w ≤ 6) → ¬ (0 ≤ i ∧ 0 ≤ j ∧ ∀ g : Nat, f = g → i < nn g ∧ j < nn g) → M2 28 12 = 2 ∧ FrQ M1 M2) ∧ ((fo f ∧ -6 ≤ w ∧ w ≤ 6) → (0 ≤ i ∧ 0 ≤ j ∧ ∀ g : Nat, f = g → i < nn g ∧ j < nn g) → ∀ g a b : Nat, f = g → i = a → j = b → z = M1 30 (16 * g + (4 * a + b)) ∧ M2 = mu (mu (mu M1 28 12 0) 30 (16 * g + (4 * a + b)) w) 30 (16 * g + (4 * b + a)) w)) : itI v vm M2 := by
  obtain ⟨z, rfl, hz, m1, m2, m3⟩ := hm
  rcases hq with ⟨rfl, hX, rfl⟩ | ⟨rfl, hX, rfl⟩ | ⟨rfl, u, M8, hu, ⟨ok, ok2, hcl⟩, rfl⟩
  · rcases hX with ⟨-, hX⟩ | ⟨hC, -⟩
    · exact ⟨1, z, rfl, rfl, hz, by omega, (m1 hX).1, by omega, nn, FrC.k hI (fun _ _ => rfl) (m1 hX).2⟩
    · exact absurd hC (by decide)
  · rcases hX with ⟨hC, -⟩ | ⟨-, h1, h2⟩
    · exact absurd hC (by decide)
    · exact ⟨2, z, rfl, rfl, hz, by omega, (m2 h1 h2).1, by omega, nn, FrC.k hI (fun _ _ => rfl) (m2 h1 h2).2⟩
  · obtain ⟨g, hg2, hfg⟩ := fo_g ok.1
    obtain ⟨a, hia⟩ : ∃ a : Nat, i = a := ⟨i.toNat, by omega⟩
    obtain ⟨b, hjb⟩ : ∃ b : Nat, j = b := ⟨j.toNat, by omega⟩
    obtain ⟨c1, c2⟩ := hcl g a b hfg hia hjb
    obtain ⟨d1, d2⟩ := m3 ok ok2 g a b hfg hia hjb
    have hlt := ok2.2.2 g hfg
    have hn4 := (hI g hg2).2.1
    have ha4 : a < 4 := by omega
    have hb4 : b < 4 := by omega
    have hz6 : (M (9 + 4 * g + a) b).natAbs ≤ 6 := ((hI g hg2).2.2.2.2.2.1 a b (by omega) ha4 (by omega) hb4).2
    have e1 := ji_some c1 hu (by omega)
    have h830 : M8 30 = M 30 := by rw [c2, mu_k (by omega), mu_k (by omega)]
    have e2 : u = z := by
      rw [e1, d1, mu_k (by omega), h830]
      exact (hI g hg2).2.2.2.2.1 a b ha4 hb4
    -- the tables after it
    have tC : ∀ h k x, h < 2 → k < 4 → M2 (9 + 4 * h + k) x = if h = g ∧ ((k = a ∧ x = b) ∨ (k = b ∧ x = a)) then w else M (9 + 4 * h + k) x := fun h k x hh hk => by
      rw [d2, mu_k (by omega), mu_k (by omega), mu_k (by omega), mu_k (by omega), c2]
      by_cases q2 : 9 + 4 * h + k = 9 + 4 * g + b ∧ x = a
      · obtain ⟨q3, q4⟩ := q2
        rw [q3, q4, mu_s, if_pos (by omega)]
      · by_cases q1 : 9 + 4 * h + k = 9 + 4 * g + a ∧ x = b
        · obtain ⟨q3, q4⟩ := q1
          rw [if_pos (by omega)]
          by_cases q5 : 9 + 4 * g + a = 9 + 4 * g + b
          · rw [q3, mu_j (by omega), q4, mu_s]
          · rw [q3, mu_k q5, q4, mu_s]
        · rw [if_neg (by omega)]
          unfold mu
          by_cases q5 : 9 + 4 * h + k = 9 + 4 * g + b
          · rw [if_pos q5, if_neg (by omega)]
            by_cases q6 : 9 + 4 * h + k = 9 + 4 * g + a
            · rw [if_pos q6, if_neg (by omega)]
            · rw [if_neg q6]
          · rw [if_neg q5]
            by_cases q6 : 9 + 4 * h + k = 9 + 4 * g + a
            · rw [if_pos q6, if_neg (by omega)]
            · rw [if_neg q6]
    have tM : ∀ h k x, h < 2 → k < 4 → x < 4 → M2 30 (16 * h + (4 * k + x)) = if h = g ∧ ((k = a ∧ x = b) ∨ (k = b ∧ x = a)) then w else M 30 (16 * h + (4 * k + x)) := fun h k x hh hk hx => by
      rw [d2]
      by_cases q2 : 16 * h + (4 * k + x) = 16 * g + (4 * b + a)
      · rw [q2, mu_s, if_pos (by omega)]
      · rw [mu_j q2]
        by_cases q1 : 16 * h + (4 * k + x) = 16 * g + (4 * a + b)
        · rw [q1, mu_s, if_pos (by omega)]
        · rw [mu_j q1, mu_k (by omega), mu_k (by omega), h830, if_neg (by omega)]
    refine ⟨0, z, rfl, rfl, hz, by omega, ?_, fun _ => ?_, nn, fun h hh => ?_⟩
    · rw [d2, mu_k (by omega), mu_k (by omega), mu_s]
    · rw [d2, mu_k (by omega), mu_k (by omega), mu_k (by omega), mu_s]; exact e2
    · obtain ⟨a1, a2, a3, a4, a5, a6, a7⟩ := hI h hh
      refine ⟨a1, a2, ?_, ?_, fun k x hk hx => ?_, fun k x _ hk _ hx => ?_, fun k x hk hx hzz => ?_⟩
      · rw [d2, mu_k (by omega), mu_k (by omega), mu_k (by omega), mu_k (by omega), c2, mu_k (by omega), mu_k (by omega)]; exact a3
      · rw [d2, mu_k (by omega), mu_k (by omega), mu_k (by omega), mu_k (by omega), c2, mu_k (by omega), mu_k (by omega)]; exact a4
      · rw [tC h k x hh hk, tM h k x hh hk hx, a5 k x hk hx]
      · show M2 (9 + 4 * h + k) x = M2 (9 + 4 * h + x) k ∧ (M2 (9 + 4 * h + k) x).natAbs ≤ 6
        rw [tC h k x hh hk, tC h x k hh hx]
        have s6 : M (9 + 4 * h + k) x = M (9 + 4 * h + x) k ∧ (M (9 + 4 * h + k) x).natAbs ≤ 6 := a6 k x (by omega) hk (by omega) hx
        by_cases q : h = g ∧ ((k = a ∧ x = b) ∨ (k = b ∧ x = a))
        · rw [if_pos q, if_pos (by omega)]; omega
        · rw [if_neg q, if_neg (by omega)]; exact s6
      · rw [tC h k x hh hk]
        by_cases q : h = g ∧ ((k = a ∧ x = b) ∨ (k = b ∧ x = a))
        · exfalso
          obtain ⟨rfl, q⟩ := q
          omega
        · rw [if_neg q]; exact a7 k x hk hx hzz
