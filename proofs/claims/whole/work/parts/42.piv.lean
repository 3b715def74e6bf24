/-! the pivots: what elimination leaves; bounds; the last pivot of four is the determinant -/
def bef (p : Nat → Int) : Nat → Int
  | 0 => 1
  | k + 1 => p k
/-- after k steps of elimination with the pivots p the table is T -/
def PVs (n : Nat) (A : Mt) (p : Nat → Int) : Nat → Mt → Prop
  | 0, T => eqn n T A
  | k + 1, T => ∃ T0 B, PVs n A p k T0 ∧ k < n ∧ bpR n k T0 True B ∧ B k k = p k ∧ eqn n T (elT k n (p k) (bef p k) B)
theorem PVs.cg {n : Nat} {A : Mt} {p p' : Nat → Int} : ∀ {k : Nat} {T : Mt}, (∀ i, i < k → p' i = p i) → PVs n A p k T → PVs n A p' k T
  | 0, _, _, h => h
  | k + 1, T, hp, ⟨T0, B, h1, h2, h3, h4, h5⟩ => ⟨T0, B, PVs.cg (fun i hi => hp i (by omega)) h1, h2, h3, by rw [h4, hp k (by omega)], by
      have e : bef p' k = bef p k := by
        cases k with
        | zero => rfl
        | succ k => exact hp k (by omega)
      rw [hp k (by omega), e]; exact h5⟩
theorem PVs.dt {n : Nat} {A : Mt} {p p' : Nat → Int} : ∀ {k : Nat} {T T' : Mt}, PVs n A p k T → PVs n A p' k T' → (∀ i, i < k → p' i = p i) ∧ eqn n T T'
  | 0, _, _, h, h' => ⟨fun _ hi => by omega, eqn.tr h (eqn.sy h')⟩
  | k + 1, T, T', ⟨T0, B, h1, h2, h3, h4, h5⟩, ⟨T0', B', g1, g2, g3, g4, g5⟩ => by
      obtain ⟨a1, a2⟩ := PVs.dt h1 g1
      obtain ⟨-, b2⟩ := bpR_dt a2 h3 g3 h2
      have hk : p' k = p k := by rw [← h4, ← g4]; exact (b2 k k h2 h2).symm
      refine ⟨fun i hi => ?_, ?_⟩
      · rcases Nat.lt_or_ge i k with q | q
        · exact a1 i q
        · rw [show i = k by omega]; exact hk
      · have e : bef p' k = bef p k := by
          cases k with
          | zero => rfl
          | succ k => exact a1 k (by omega)
        rw [hk, e] at g5
        exact h5.tr ((elT_eqn b2 h2).tr g5.sy)
/-- elimination of A (n rows) has the r pivots p and no more -/
def PV (n : Nat) (A : Mt) (r : Nat) (p : Nat → Int) : Prop := r ≤ n ∧ ∃ T, PVs n A p r T ∧ (r = n ∨ ∃ B, bpR n r T False B)
theorem PVs.lt {n : Nat} {A : Mt} {p : Nat → Int} : ∀ {k : Nat} {T : Mt}, PVs n A p k T → ∀ j, j < k → ∃ T0 B, PVs n A p j T0 ∧ j < n ∧ bpR n j T0 True B
  | 0, _, _, j, hj => by omega
  | k + 1, T, ⟨T0, B, h1, h2, h3, h4, h5⟩, j, hj => by
      rcases Nat.lt_or_ge j k with q | q
      · exact PVs.lt h1 j q
      · rw [show j = k by omega]; exact ⟨T0, B, h1, h2, h3⟩
theorem PV.le {n r r' : Nat} {A : Mt} {p p' : Nat → Int} (h : PV n A r p) (h' : PV n A r' p') : r' ≤ r := by
  obtain ⟨h1, T, h2, h3⟩ := h
  obtain ⟨g1, T', g2, g3⟩ := h'
  rcases Nat.lt_or_ge r r' with q | q
  · rcases h3 with h3 | ⟨B, h3⟩
    · omega
    · obtain ⟨T0, B', j1, j2, j3⟩ := g2.lt r q
      have := (bpR_dt (PVs.dt h2 j1).2 h3 j3 j2).1
      exact (this.mpr trivial).elim
  · exact q
theorem PV.dt {n r r' : Nat} {A : Mt} {p p' : Nat → Int} (h : PV n A r p) (h' : PV n A r' p') : r' = r ∧ ∀ i, i < r → p' i = p i := by
  have e : r' = r := Nat.le_antisymm (h.le h') (h'.le h)
  subst e
  obtain ⟨h1, T, h2, h3⟩ := h
  obtain ⟨g1, T', g2, g3⟩ := h'
  exact ⟨rfl, (PVs.dt h2 g2).1⟩
theorem PVs.tA {n : Nat} {A A' : Mt} (hA : eqn n A A') {p : Nat → Int} : ∀ {k : Nat} {T : Mt}, PVs n A p k T → PVs n A' p k T
  | 0, _, h => eqn.tr h hA
  | k + 1, T, ⟨T0, B, h1, h2, h3, h4, h5⟩ => ⟨T0, B, PVs.tA hA h1, h2, h3, h4, h5⟩
theorem PV.tA {n r : Nat} {A A' : Mt} (hA : eqn n A A') {p : Nat → Int} (h : PV n A r p) : PV n A' r p := ⟨h.1, h.2.elim fun T q => ⟨T, q.1.tA hA, q.2⟩⟩
theorem adT_tt {fr to st n : Nat} {A : Mt} (h1 : st ≤ to) (h2 : to < n) (h3 : st ≤ fr) (h4 : fr < n) : adT fr to st n A to to = A to to + A fr to + (A to fr + A fr fr) := by
  unfold adT cad rad
  rw [if_pos ⟨rfl, h1, h2⟩, if_pos ⟨rfl, h1, h2⟩, if_pos ⟨rfl, h3, h4⟩]
theorem adT_tb {fr to st n b : Nat} {A : Mt} (h1 : st ≤ b) (h2 : b < n) (h3 : b ≠ to) : adT fr to st n A to b = A to b + A fr b := by
  unfold adT cad rad
  rw [if_neg (fun q => h3 q.1), if_pos ⟨rfl, h1, h2⟩]
theorem adT_at {fr to st n a : Nat} {A : Mt} (h1 : st ≤ a) (h2 : a < n) (h3 : a ≠ to) : adT fr to st n A a to = A a to + A a fr := by
  unfold adT cad rad
  rw [if_pos ⟨rfl, h1, h2⟩, if_neg (fun q => h3 q.1), if_neg (fun q => h3 q.1)]
theorem adT_ab {fr to st n a b : Nat} {A : Mt} (h3 : a ≠ to) (h4 : b ≠ to) : adT fr to st n A a b = A a b := by
  unfold adT cad rad
  rw [if_neg (fun q => h4 q.1), if_neg (fun q => h3 q.1)]
/-- symmetric from k on, and bounded by c -/
def sb (k n c : Nat) (A : Mt) : Prop := ∀ a b, k ≤ a → a < n → k ≤ b → b < n → A a b = A b a ∧ (A a b).natAbs ≤ c
theorem sb_sw {k n c i : Nat} {A : Mt} (h : sb k n c A) (hi : k ≤ i) (hn : i < n) (hk : k < n) : sb k n c (swT i k A) := fun a b a1 a2 b1 b2 =>
  h _ _ (swI_ge hi (Nat.le_refl k) a1) (swI_lt hn hk a2) (swI_ge hi (Nat.le_refl k) b1) (swI_lt hn hk b2)
theorem sb_ad {k n c fr to : Nat} {A : Mt} (h : sb k n c A) (f1 : k ≤ fr) (f2 : fr < n) (t1 : k ≤ to) (t2 : to < n) : sb k n (4 * c) (adT fr to k n A) := by
  intro a b a1 a2 b1 b2
  have hab := h a b a1 a2 b1 b2
  have haf := h a fr a1 a2 f1 f2
  have hbf := h b fr b1 b2 f1 f2
  have hff := h fr fr f1 f2 f1 f2
  by_cases ha : a = to
  · subst ha
    by_cases hb : b = a
    · subst hb
      rw [adT_tt t1 t2 f1 f2]
      exact ⟨rfl, by omega⟩
    · rw [adT_tb b1 b2 hb, adT_at b1 b2 hb]
      omega
  · by_cases hb : b = to
    · subst hb
      rw [adT_tb a1 a2 ha, adT_at a1 a2 ha]
      omega
    · rw [adT_ab ha hb, adT_ab hb ha]
      omega
theorem sb.cg {k n c : Nat} {A B : Mt} (h : sb k n c A) (hB : eqn n B A) : sb k n c B := fun a b a1 a2 b1 b2 => by
  rw [hB a b a2 b2, hB b a b2 a2]; exact h a b a1 a2 b1 b2
theorem sb.up {k n c d : Nat} {A : Mt} (h : sb k n c A) (hc : c ≤ d) : sb k n d A := fun a b a1 a2 b1 b2 => ⟨(h a b a1 a2 b1 b2).1, Nat.le_trans (h a b a1 a2 b1 b2).2 hc⟩
theorem sb_bp {k n c : Nat} {A B : Mt} {r : Prop} (h : sb k n c A) (hb : bpR n k A r B) (hk : k < n) : sb k n (4 * c) B := by
  rcases hb with ⟨i, i1, i2, i3, i4, i5, i6⟩ | ⟨z, i, j, i1, i2, i3, i4, i5, i6, i7⟩ | ⟨z, z2, i1, i2⟩
  · exact ((sb_sw h i1 i2 hk).cg i6).up (by omega)
  · exact (sb_sw (sb_ad h (by omega) i3 i1 (by omega)) i1 (by omega) hk).cg i7
  · exact (h.cg i2).up (by omega)
theorem bp_ne {k n c : Nat} {A B : Mt} (h : sb k n c A) (hb : bpR n k A True B) (hk : k < n) : B k k ≠ 0 := by
  rcases hb with ⟨i, i1, i2, i3, i4, i5, i6⟩ | ⟨z, i, j, i1, i2, i3, i4, i5, i6, i7⟩ | ⟨z, z2, i1, i2⟩
  · rw [i6 k k hk hk]
    unfold swT
    rw [swI_k]
    exact i3
  · rw [i7 k k hk hk]
    unfold swT
    rw [swI_k, adT_tt i1 (by omega) (by omega) i3, z i i1 (by omega), z j (by omega) i3, (h j i (by omega) i3 i1 (by omega)).1]
    omega
  · exact absurd trivial i1
theorem el_bd {x p y z q : Int} {c : Nat} (hx : x.natAbs ≤ c) (hp : p.natAbs ≤ c) (hy : y.natAbs ≤ c) (hz : z.natAbs ≤ c) : ((x * p - y * z).tdiv q).natAbs ≤ 2 * (c * c) := by
  have h1 : (x * p).natAbs ≤ c * c := by rw [Int.natAbs_mul]; exact Nat.mul_le_mul hx hp
  have h2 : (y * z).natAbs ≤ c * c := by rw [Int.natAbs_mul]; exact Nat.mul_le_mul hy hz
  rw [Int.natAbs_tdiv]
  have h3 : (x * p - y * z).natAbs.div q.natAbs ≤ (x * p - y * z).natAbs := Nat.div_le_self _ _
  omega
theorem sb_el {k n c : Nat} {A : Mt} {q : Int} (h : sb k n c A) (hk : k < n) : sb (k + 1) n (2 * (c * c)) (elT k n (A k k) q A) := by
  intro a b a1 a2 b1 b2
  have h1 := h a b (by omega) a2 (by omega) b2
  have h2 := h a k (by omega) a2 (by omega) hk
  have h3 := h b k (by omega) b2 (by omega) hk
  have h4 := h k b (by omega) hk (by omega) b2
  have h5 := h k k (by omega) hk (by omega) hk
  unfold elT ela
  rw [if_pos ⟨by omega, by omega, Or.inl a2⟩, if_pos ⟨by omega, by omega, Or.inl b2⟩]
  refine ⟨?_, el_bd h1.2 h5.2 h2.2 h4.2⟩
  rw [h1.1, h2.1, ← h3.1, Int.mul_comm (A k a)]
def tB : Nat → Nat
  | 0 => 6
  | k + 1 => 2 * ((4 * tB k) * (4 * tB k))
theorem PVs_sb {n : Nat} {A : Mt} {p : Nat → Int} (hA : sb 0 n 6 A) : ∀ {k : Nat} {T : Mt}, PVs n A p k T → sb k n (tB k) T
  | 0, _, h => hA.cg h
  | k + 1, T, ⟨T0, B, h1, h2, h3, h4, h5⟩ => by
      have g := sb_el (q := bef p k) (sb_bp (PVs_sb hA h1) h3 h2) h2
      rw [h4] at g
      exact g.cg h5
theorem PVs_ne {n : Nat} {A : Mt} {p : Nat → Int} (hA : sb 0 n 6 A) : ∀ {k : Nat} {T : Mt}, PVs n A p k T → ∀ i, i < k → p i ≠ 0
  | 0, _, _, i, hi => by omega
  | k + 1, T, ⟨T0, B, h1, h2, h3, h4, h5⟩, i, hi => by
      rcases Nat.lt_or_ge i k with q | q
      · exact PVs_ne hA h1 i q
      · rw [show i = k by omega, ← h4]
        exact bp_ne (PVs_sb hA h1) h3 h2
theorem bef_ne {p : Nat → Int} : ∀ {k : Nat}, (∀ i, i < k → p i ≠ 0) → bef p k ≠ 0
  | 0, _ => by show (1 : Int) ≠ 0; decide
  | k + 1, h => h k (by omega)
def d3 (a b c e f h : Int) : Int := a * (e * h - f * f) - b * (b * h - f * c) + c * (b * f - e * c)
def d4 (a b c d e f g h i j : Int) : Int := a * d3 e f g h i j - (b * b * (h * j - i * i) + c * c * (e * j - g * g) + d * d * (e * h - f * f) + 2 * b * c * (g * i - f * j) + 2 * b * d * (f * i - g * h) + 2 * c * d * (f * g - e * i))
def D4 (A : Mt) : Int := d4 (A 0 0) (A 0 1) (A 0 2) (A 0 3) (A 1 1) (A 1 2) (A 1 3) (A 2 2) (A 2 3) (A 3 3)
def D3 (A : Mt) : Int := d3 (A 1 1) (A 1 2) (A 1 3) (A 2 2) (A 2 3) (A 3 3)
def D2 (A : Mt) : Int := A 2 2 * A 3 3 - A 2 3 * A 2 3
theorem sch4 (a b c d e f g h i j : Int) : d3 (e * a - b * b) (f * a - b * c) (g * a - b * d) (h * a - c * c) (i * a - c * d) (j * a - d * d) = a * a * d4 a b c d e f g h i j := by unfold d4 d3; grind
theorem sch3 (a b c e f h : Int) : (e * a - b * b) * (h * a - c * c) - (f * a - b * c) * (f * a - b * c) = a * d3 a b c e f h := by unfold d3; grind
theorem nb_mul {x y : Int} {X Y : Nat} (hx : x.natAbs ≤ X) (hy : y.natAbs ≤ Y) : (x * y).natAbs ≤ X * Y := by rw [Int.natAbs_mul]; exact Nat.mul_le_mul hx hy
theorem nb_add {x y : Int} {X Y : Nat} (hx : x.natAbs ≤ X) (hy : y.natAbs ≤ Y) : (x + y).natAbs ≤ X + Y := by omega
theorem nb_sub {x y : Int} {X Y : Nat} (hx : x.natAbs ≤ X) (hy : y.natAbs ≤ Y) : (x - y).natAbs ≤ X + Y := by omega
theorem d3_bd {a b c e f h : Int} (ha : a.natAbs ≤ 6) (hb : b.natAbs ≤ 6) (hc : c.natAbs ≤ 6) (he : e.natAbs ≤ 6) (hf : f.natAbs ≤ 6) (hh : h.natAbs ≤ 6) : (d3 a b c e f h).natAbs ≤ 1296 :=
  nb_add (nb_sub (nb_mul ha (nb_sub (nb_mul he hh) (nb_mul hf hf))) (nb_mul hb (nb_sub (nb_mul hb hh) (nb_mul hf hc)))) (nb_mul hc (nb_sub (nb_mul hb hf) (nb_mul he hc)))
theorem d4_bd {a b c d e f g h i j : Int} (ha : a.natAbs ≤ 6) (hb : b.natAbs ≤ 6) (hc : c.natAbs ≤ 6) (hd : d.natAbs ≤ 6) (he : e.natAbs ≤ 6) (hf : f.natAbs ≤ 6) (hg : g.natAbs ≤ 6) (hh : h.natAbs ≤ 6) (hi : i.natAbs ≤ 6) (hj : j.natAbs ≤ 6) : (d4 a b c d e f g h i j).natAbs ≤ 31104 := by
  have h2 : (2 : Int).natAbs ≤ 2 := by decide
  exact nb_sub (nb_mul ha (d3_bd he hf hg hh hi hj)) (nb_add (nb_add (nb_add (nb_add (nb_add (nb_mul (nb_mul hb hb) (nb_sub (nb_mul hh hj) (nb_mul hi hi))) (nb_mul (nb_mul hc hc) (nb_sub (nb_mul he hj) (nb_mul hg hg)))) (nb_mul (nb_mul hd hd) (nb_sub (nb_mul he hh) (nb_mul hf hf)))) (nb_mul (nb_mul (nb_mul h2 hb) hc) (nb_sub (nb_mul hg hi) (nb_mul hf hj)))) (nb_mul (nb_mul (nb_mul h2 hb) hd) (nb_sub (nb_mul hf hi) (nb_mul hg hh)))) (nb_mul (nb_mul (nb_mul h2 hc) hd) (nb_sub (nb_mul hf hg) (nb_mul he hi))))
theorem inv4 {c : Nat} {A B : Mt} (h : sb 0 4 c A) (hb : bpR 4 0 A True B) : D4 B = D4 A := by
  have s10 : A 1 0 = A 0 1 := (h 1 0 (by omega) (by omega) (by omega) (by omega)).1
  have s20 : A 2 0 = A 0 2 := (h 2 0 (by omega) (by omega) (by omega) (by omega)).1
  have s30 : A 3 0 = A 0 3 := (h 3 0 (by omega) (by omega) (by omega) (by omega)).1
  have s21 : A 2 1 = A 1 2 := (h 2 1 (by omega) (by omega) (by omega) (by omega)).1
  have s31 : A 3 1 = A 1 3 := (h 3 1 (by omega) (by omega) (by omega) (by omega)).1
  have s32 : A 3 2 = A 2 3 := (h 3 2 (by omega) (by omega) (by omega) (by omega)).1
  rcases hb with ⟨i, i1, i2, i3, i4, i5, i6⟩ | ⟨z, i, j, i1, i2, i3, i4, i5, i6, i7⟩ | ⟨z, z2, i1, i2⟩
  · have hc : i = 0 ∨ i = 1 ∨ i = 2 ∨ i = 3 := by omega
    rcases hc with rfl | rfl | rfl | rfl
    · have e00 : B 0 0 = A 0 0 := i6 0 0 (by omega) (by omega)
      have e01 : B 0 1 = A 0 1 := i6 0 1 (by omega) (by omega)
      have e02 : B 0 2 = A 0 2 := i6 0 2 (by omega) (by omega)
      have e03 : B 0 3 = A 0 3 := i6 0 3 (by omega) (by omega)
      have e11 : B 1 1 = A 1 1 := i6 1 1 (by omega) (by omega)
      have e12 : B 1 2 = A 1 2 := i6 1 2 (by omega) (by omega)
      have e13 : B 1 3 = A 1 3 := i6 1 3 (by omega) (by omega)
      have e22 : B 2 2 = A 2 2 := i6 2 2 (by omega) (by omega)
      have e23 : B 2 3 = A 2 3 := i6 2 3 (by omega) (by omega)
      have e33 : B 3 3 = A 3 3 := i6 3 3 (by omega) (by omega)
      unfold D4
      rw [e00, e01, e02, e03, e11, e12, e13, e22, e23, e33]
    · have e00 : B 0 0 = A 1 1 := i6 0 0 (by omega) (by omega)
      have e01 : B 0 1 = A 0 1 := (i6 0 1 (by omega) (by omega)).trans s10
      have e02 : B 0 2 = A 1 2 := i6 0 2 (by omega) (by omega)
      have e03 : B 0 3 = A 1 3 := i6 0 3 (by omega) (by omega)
      have e11 : B 1 1 = A 0 0 := i6 1 1 (by omega) (by omega)
      have e12 : B 1 2 = A 0 2 := i6 1 2 (by omega) (by omega)
      have e13 : B 1 3 = A 0 3 := i6 1 3 (by omega) (by omega)
      have e22 : B 2 2 = A 2 2 := i6 2 2 (by omega) (by omega)
      have e23 : B 2 3 = A 2 3 := i6 2 3 (by omega) (by omega)
      have e33 : B 3 3 = A 3 3 := i6 3 3 (by omega) (by omega)
      unfold D4
      rw [e00, e01, e02, e03, e11, e12, e13, e22, e23, e33]
      unfold d4 d3; grind
    · have e00 : B 0 0 = A 2 2 := i6 0 0 (by omega) (by omega)
      have e01 : B 0 1 = A 1 2 := (i6 0 1 (by omega) (by omega)).trans s21
      have e02 : B 0 2 = A 0 2 := (i6 0 2 (by omega) (by omega)).trans s20
      have e03 : B 0 3 = A 2 3 := i6 0 3 (by omega) (by omega)
      have e11 : B 1 1 = A 1 1 := i6 1 1 (by omega) (by omega)
      have e12 : B 1 2 = A 0 1 := (i6 1 2 (by omega) (by omega)).trans s10
      have e13 : B 1 3 = A 1 3 := i6 1 3 (by omega) (by omega)
      have e22 : B 2 2 = A 0 0 := i6 2 2 (by omega) (by omega)
      have e23 : B 2 3 = A 0 3 := i6 2 3 (by omega) (by omega)
      have e33 : B 3 3 = A 3 3 := i6 3 3 (by omega) (by omega)
      unfold D4
      rw [e00, e01, e02, e03, e11, e12, e13, e22, e23, e33]
      unfold d4 d3; grind
    · have e00 : B 0 0 = A 3 3 := i6 0 0 (by omega) (by omega)
      have e01 : B 0 1 = A 1 3 := (i6 0 1 (by omega) (by omega)).trans s31
      have e02 : B 0 2 = A 2 3 := (i6 0 2 (by omega) (by omega)).trans s32
      have e03 : B 0 3 = A 0 3 := (i6 0 3 (by omega) (by omega)).trans s30
      have e11 : B 1 1 = A 1 1 := i6 1 1 (by omega) (by omega)
      have e12 : B 1 2 = A 1 2 := i6 1 2 (by omega) (by omega)
      have e13 : B 1 3 = A 0 1 := (i6 1 3 (by omega) (by omega)).trans s10
      have e22 : B 2 2 = A 2 2 := i6 2 2 (by omega) (by omega)
      have e23 : B 2 3 = A 0 2 := (i6 2 3 (by omega) (by omega)).trans s20
      have e33 : B 3 3 = A 0 0 := i6 3 3 (by omega) (by omega)
      unfold D4
      rw [e00, e01, e02, e03, e11, e12, e13, e22, e23, e33]
      unfold d4 d3; grind
  · have hc : (i = 0 ∧ j = 1) ∨ (i = 0 ∧ j = 2) ∨ (i = 0 ∧ j = 3) ∨ (i = 1 ∧ j = 2) ∨ (i = 1 ∧ j = 3) ∨ (i = 2 ∧ j = 3) := by omega
    rcases hc with ⟨rfl, rfl⟩ | ⟨rfl, rfl⟩ | ⟨rfl, rfl⟩ | ⟨rfl, rfl⟩ | ⟨rfl, rfl⟩ | ⟨rfl, rfl⟩
    · have e00 : B 0 0 = A 0 0 + A 1 0 + (A 0 1 + A 1 1) := i7 0 0 (by omega) (by omega)
      have e01 : B 0 1 = A 0 1 + A 1 1 := i7 0 1 (by omega) (by omega)
      have e02 : B 0 2 = A 0 2 + A 1 2 := i7 0 2 (by omega) (by omega)
      have e03 : B 0 3 = A 0 3 + A 1 3 := i7 0 3 (by omega) (by omega)
      have e11 : B 1 1 = A 1 1 := i7 1 1 (by omega) (by omega)
      have e12 : B 1 2 = A 1 2 := i7 1 2 (by omega) (by omega)
      have e13 : B 1 3 = A 1 3 := i7 1 3 (by omega) (by omega)
      have e22 : B 2 2 = A 2 2 := i7 2 2 (by omega) (by omega)
      have e23 : B 2 3 = A 2 3 := i7 2 3 (by omega) (by omega)
      have e33 : B 3 3 = A 3 3 := i7 3 3 (by omega) (by omega)
      unfold D4
      rw [e00, e01, e02, e03, e11, e12, e13, e22, e23, e33]
      simp only [s10, s20, s30, s21, s31, s32]
      unfold d4 d3; grind
    · have e00 : B 0 0 = A 0 0 + A 2 0 + (A 0 2 + A 2 2) := i7 0 0 (by omega) (by omega)
      have e01 : B 0 1 = A 0 1 + A 2 1 := i7 0 1 (by omega) (by omega)
      have e02 : B 0 2 = A 0 2 + A 2 2 := i7 0 2 (by omega) (by omega)
      have e03 : B 0 3 = A 0 3 + A 2 3 := i7 0 3 (by omega) (by omega)
      have e11 : B 1 1 = A 1 1 := i7 1 1 (by omega) (by omega)
      have e12 : B 1 2 = A 1 2 := i7 1 2 (by omega) (by omega)
      have e13 : B 1 3 = A 1 3 := i7 1 3 (by omega) (by omega)
      have e22 : B 2 2 = A 2 2 := i7 2 2 (by omega) (by omega)
      have e23 : B 2 3 = A 2 3 := i7 2 3 (by omega) (by omega)
      have e33 : B 3 3 = A 3 3 := i7 3 3 (by omega) (by omega)
      unfold D4
      rw [e00, e01, e02, e03, e11, e12, e13, e22, e23, e33]
      simp only [s10, s20, s30, s21, s31, s32]
      unfold d4 d3; grind
    · have e00 : B 0 0 = A 0 0 + A 3 0 + (A 0 3 + A 3 3) := i7 0 0 (by omega) (by omega)
      have e01 : B 0 1 = A 0 1 + A 3 1 := i7 0 1 (by omega) (by omega)
      have e02 : B 0 2 = A 0 2 + A 3 2 := i7 0 2 (by omega) (by omega)
      have e03 : B 0 3 = A 0 3 + A 3 3 := i7 0 3 (by omega) (by omega)
      have e11 : B 1 1 = A 1 1 := i7 1 1 (by omega) (by omega)
      have e12 : B 1 2 = A 1 2 := i7 1 2 (by omega) (by omega)
      have e13 : B 1 3 = A 1 3 := i7 1 3 (by omega) (by omega)
      have e22 : B 2 2 = A 2 2 := i7 2 2 (by omega) (by omega)
      have e23 : B 2 3 = A 2 3 := i7 2 3 (by omega) (by omega)
      have e33 : B 3 3 = A 3 3 := i7 3 3 (by omega) (by omega)
      unfold D4
      rw [e00, e01, e02, e03, e11, e12, e13, e22, e23, e33]
      simp only [s10, s20, s30, s21, s31, s32]
      unfold d4 d3; grind
    · have e00 : B 0 0 = A 1 1 + A 2 1 + (A 1 2 + A 2 2) := i7 0 0 (by omega) (by omega)
      have e01 : B 0 1 = A 1 0 + A 2 0 := i7 0 1 (by omega) (by omega)
      have e02 : B 0 2 = A 1 2 + A 2 2 := i7 0 2 (by omega) (by omega)
      have e03 : B 0 3 = A 1 3 + A 2 3 := i7 0 3 (by omega) (by omega)
      have e11 : B 1 1 = A 0 0 := i7 1 1 (by omega) (by omega)
      have e12 : B 1 2 = A 0 2 := i7 1 2 (by omega) (by omega)
      have e13 : B 1 3 = A 0 3 := i7 1 3 (by omega) (by omega)
      have e22 : B 2 2 = A 2 2 := i7 2 2 (by omega) (by omega)
      have e23 : B 2 3 = A 2 3 := i7 2 3 (by omega) (by omega)
      have e33 : B 3 3 = A 3 3 := i7 3 3 (by omega) (by omega)
      unfold D4
      rw [e00, e01, e02, e03, e11, e12, e13, e22, e23, e33]
      simp only [s10, s20, s30, s21, s31, s32]
      unfold d4 d3; grind
    · have e00 : B 0 0 = A 1 1 + A 3 1 + (A 1 3 + A 3 3) := i7 0 0 (by omega) (by omega)
      have e01 : B 0 1 = A 1 0 + A 3 0 := i7 0 1 (by omega) (by omega)
      have e02 : B 0 2 = A 1 2 + A 3 2 := i7 0 2 (by omega) (by omega)
      have e03 : B 0 3 = A 1 3 + A 3 3 := i7 0 3 (by omega) (by omega)
      have e11 : B 1 1 = A 0 0 := i7 1 1 (by omega) (by omega)
      have e12 : B 1 2 = A 0 2 := i7 1 2 (by omega) (by omega)
      have e13 : B 1 3 = A 0 3 := i7 1 3 (by omega) (by omega)
      have e22 : B 2 2 = A 2 2 := i7 2 2 (by omega) (by omega)
      have e23 : B 2 3 = A 2 3 := i7 2 3 (by omega) (by omega)
      have e33 : B 3 3 = A 3 3 := i7 3 3 (by omega) (by omega)
      unfold D4
      rw [e00, e01, e02, e03, e11, e12, e13, e22, e23, e33]
      simp only [s10, s20, s30, s21, s31, s32]
      unfold d4 d3; grind
    · have e00 : B 0 0 = A 2 2 + A 3 2 + (A 2 3 + A 3 3) := i7 0 0 (by omega) (by omega)
      have e01 : B 0 1 = A 2 1 + A 3 1 := i7 0 1 (by omega) (by omega)
      have e02 : B 0 2 = A 2 0 + A 3 0 := i7 0 2 (by omega) (by omega)
      have e03 : B 0 3 = A 2 3 + A 3 3 := i7 0 3 (by omega) (by omega)
      have e11 : B 1 1 = A 1 1 := i7 1 1 (by omega) (by omega)
      have e12 : B 1 2 = A 1 0 := i7 1 2 (by omega) (by omega)
      have e13 : B 1 3 = A 1 3 := i7 1 3 (by omega) (by omega)
      have e22 : B 2 2 = A 0 0 := i7 2 2 (by omega) (by omega)
      have e23 : B 2 3 = A 0 3 := i7 2 3 (by omega) (by omega)
      have e33 : B 3 3 = A 3 3 := i7 3 3 (by omega) (by omega)
      unfold D4
      rw [e00, e01, e02, e03, e11, e12, e13, e22, e23, e33]
      simp only [s10, s20, s30, s21, s31, s32]
      unfold d4 d3; grind
  · exact absurd trivial i1
theorem inv3 {c : Nat} {A B : Mt} (h : sb 1 4 c A) (hb : bpR 4 1 A True B) : D3 B = D3 A := by
  have s21 : A 2 1 = A 1 2 := (h 2 1 (by omega) (by omega) (by omega) (by omega)).1
  have s31 : A 3 1 = A 1 3 := (h 3 1 (by omega) (by omega) (by omega) (by omega)).1
  have s32 : A 3 2 = A 2 3 := (h 3 2 (by omega) (by omega) (by omega) (by omega)).1
  rcases hb with ⟨i, i1, i2, i3, i4, i5, i6⟩ | ⟨z, i, j, i1, i2, i3, i4, i5, i6, i7⟩ | ⟨z, z2, i1, i2⟩
  · have hc : i = 1 ∨ i = 2 ∨ i = 3 := by omega
    rcases hc with rfl | rfl | rfl
    · have e11 : B 1 1 = A 1 1 := i6 1 1 (by omega) (by omega)
      have e12 : B 1 2 = A 1 2 := i6 1 2 (by omega) (by omega)
      have e13 : B 1 3 = A 1 3 := i6 1 3 (by omega) (by omega)
      have e22 : B 2 2 = A 2 2 := i6 2 2 (by omega) (by omega)
      have e23 : B 2 3 = A 2 3 := i6 2 3 (by omega) (by omega)
      have e33 : B 3 3 = A 3 3 := i6 3 3 (by omega) (by omega)
      unfold D3
      rw [e11, e12, e13, e22, e23, e33]
    · have e11 : B 1 1 = A 2 2 := i6 1 1 (by omega) (by omega)
      have e12 : B 1 2 = A 1 2 := (i6 1 2 (by omega) (by omega)).trans s21
      have e13 : B 1 3 = A 2 3 := i6 1 3 (by omega) (by omega)
      have e22 : B 2 2 = A 1 1 := i6 2 2 (by omega) (by omega)
      have e23 : B 2 3 = A 1 3 := i6 2 3 (by omega) (by omega)
      have e33 : B 3 3 = A 3 3 := i6 3 3 (by omega) (by omega)
      unfold D3
      rw [e11, e12, e13, e22, e23, e33]
      unfold d3; grind
    · have e11 : B 1 1 = A 3 3 := i6 1 1 (by omega) (by omega)
      have e12 : B 1 2 = A 2 3 := (i6 1 2 (by omega) (by omega)).trans s32
      have e13 : B 1 3 = A 1 3 := (i6 1 3 (by omega) (by omega)).trans s31
      have e22 : B 2 2 = A 2 2 := i6 2 2 (by omega) (by omega)
      have e23 : B 2 3 = A 1 2 := (i6 2 3 (by omega) (by omega)).trans s21
      have e33 : B 3 3 = A 1 1 := i6 3 3 (by omega) (by omega)
      unfold D3
      rw [e11, e12, e13, e22, e23, e33]
      unfold d3; grind
  · have hc : (i = 1 ∧ j = 2) ∨ (i = 1 ∧ j = 3) ∨ (i = 2 ∧ j = 3) := by omega
    rcases hc with ⟨rfl, rfl⟩ | ⟨rfl, rfl⟩ | ⟨rfl, rfl⟩
    · have e11 : B 1 1 = A 1 1 + A 2 1 + (A 1 2 + A 2 2) := i7 1 1 (by omega) (by omega)
      have e12 : B 1 2 = A 1 2 + A 2 2 := i7 1 2 (by omega) (by omega)
      have e13 : B 1 3 = A 1 3 + A 2 3 := i7 1 3 (by omega) (by omega)
      have e22 : B 2 2 = A 2 2 := i7 2 2 (by omega) (by omega)
      have e23 : B 2 3 = A 2 3 := i7 2 3 (by omega) (by omega)
      have e33 : B 3 3 = A 3 3 := i7 3 3 (by omega) (by omega)
      unfold D3
      rw [e11, e12, e13, e22, e23, e33]
      simp only [s21, s31, s32]
      unfold d3; grind
    · have e11 : B 1 1 = A 1 1 + A 3 1 + (A 1 3 + A 3 3) := i7 1 1 (by omega) (by omega)
      have e12 : B 1 2 = A 1 2 + A 3 2 := i7 1 2 (by omega) (by omega)
      have e13 : B 1 3 = A 1 3 + A 3 3 := i7 1 3 (by omega) (by omega)
      have e22 : B 2 2 = A 2 2 := i7 2 2 (by omega) (by omega)
      have e23 : B 2 3 = A 2 3 := i7 2 3 (by omega) (by omega)
      have e33 : B 3 3 = A 3 3 := i7 3 3 (by omega) (by omega)
      unfold D3
      rw [e11, e12, e13, e22, e23, e33]
      simp only [s21, s31, s32]
      unfold d3; grind
    · have e11 : B 1 1 = A 2 2 + A 3 2 + (A 2 3 + A 3 3) := i7 1 1 (by omega) (by omega)
      have e12 : B 1 2 = A 2 1 + A 3 1 := i7 1 2 (by omega) (by omega)
      have e13 : B 1 3 = A 2 3 + A 3 3 := i7 1 3 (by omega) (by omega)
      have e22 : B 2 2 = A 1 1 := i7 2 2 (by omega) (by omega)
      have e23 : B 2 3 = A 1 3 := i7 2 3 (by omega) (by omega)
      have e33 : B 3 3 = A 3 3 := i7 3 3 (by omega) (by omega)
      unfold D3
      rw [e11, e12, e13, e22, e23, e33]
      simp only [s21, s31, s32]
      unfold d3; grind
  · exact absurd trivial i1
theorem inv2 {c : Nat} {A B : Mt} (h : sb 2 4 c A) (hb : bpR 4 2 A True B) : D2 B = D2 A := by
  have s32 : A 3 2 = A 2 3 := (h 3 2 (by omega) (by omega) (by omega) (by omega)).1
  rcases hb with ⟨i, i1, i2, i3, i4, i5, i6⟩ | ⟨z, i, j, i1, i2, i3, i4, i5, i6, i7⟩ | ⟨z, z2, i1, i2⟩
  · have hc : i = 2 ∨ i = 3 := by omega
    rcases hc with rfl | rfl
    · have e22 : B 2 2 = A 2 2 := i6 2 2 (by omega) (by omega)
      have e23 : B 2 3 = A 2 3 := i6 2 3 (by omega) (by omega)
      have e33 : B 3 3 = A 3 3 := i6 3 3 (by omega) (by omega)
      unfold D2
      rw [e22, e23, e33]
    · have e22 : B 2 2 = A 3 3 := i6 2 2 (by omega) (by omega)
      have e23 : B 2 3 = A 2 3 := (i6 2 3 (by omega) (by omega)).trans s32
      have e33 : B 3 3 = A 2 2 := i6 3 3 (by omega) (by omega)
      unfold D2
      rw [e22, e23, e33]
      grind
  · have hc : (i = 2 ∧ j = 3) := by omega
    rcases hc with ⟨rfl, rfl⟩
    · have e22 : B 2 2 = A 2 2 + A 3 2 + (A 2 3 + A 3 3) := i7 2 2 (by omega) (by omega)
      have e23 : B 2 3 = A 2 3 + A 3 3 := i7 2 3 (by omega) (by omega)
      have e33 : B 3 3 = A 3 3 := i7 3 3 (by omega) (by omega)
      unfold D2
      rw [e22, e23, e33]
      simp only [s32]
      grind
  · exact absurd trivial i1
/-- rank one modulo m -/
def rk1 (k n : Nat) (m : Int) (A : Mt) (w : Nat → Int) : Prop := ∀ a b, k ≤ a → a < n → k ≤ b → b < n → m ∣ A a b + w a * w b
theorem rk1_bp {k n : Nat} {m : Int} {A B : Mt} {w : Nat → Int} (h : rk1 k n m A w) (hb : bpR n k A True B) (hk : k < n) : ∃ w', rk1 k n m B w' := by
  have sw : ∀ (C : Mt) (u : Nat → Int) (i : Nat), rk1 k n m C u → k ≤ i → i < n → rk1 k n m (swT i k C) (fun a => u (swI i k a)) := fun C u i hC hi hn a b a1 a2 b1 b2 =>
    hC _ _ (swI_ge hi (Nat.le_refl k) a1) (swI_lt hn hk a2) (swI_ge hi (Nat.le_refl k) b1) (swI_lt hn hk b2)
  rcases hb with ⟨i, i1, i2, i3, i4, i5, i6⟩ | ⟨z, i, j, i1, i2, i3, i4, i5, i6, i7⟩ | ⟨z, z2, i1, i2⟩
  · exact ⟨_, fun a b a1 a2 b1 b2 => by rw [i6 a b a2 b2]; exact sw A w i h i1 i2 a b a1 a2 b1 b2⟩
  · suffices ad : rk1 k n m (adT j i k n A) (fun a => if a = i then w i + w j else w a) from ⟨_, fun a b a1 a2 b1 b2 => by rw [i7 a b a2 b2]; exact sw (adT j i k n A) (fun a => if a = i then w i + w j else w a) i ad i1 (by omega) a b a1 a2 b1 b2⟩
    intro a b a1 a2 b1 b2
    have hab := h a b a1 a2 b1 b2
    have haj := h a j a1 a2 (by omega) i3
    have hjb := h j b (by omega) i3 b1 b2
    have hjj := h j j (by omega) i3 (by omega) i3
    by_cases ha : a = i
    · by_cases hb : b = i
      · subst ha hb
        rw [adT_tt i1 (by omega) (by omega) i3]
        simp only [if_pos]
        have := Int.dvd_add (Int.dvd_add hab hjb) (Int.dvd_add haj hjj)
        rw [show A b b + A j b + (A b j + A j j) + (w b + w j) * (w b + w j) = A b b + w b * w b + (A j b + w j * w b) + (A b j + w b * w j + (A j j + w j * w j)) by grind]
        exact this
      · subst ha
        rw [adT_tb b1 b2 hb]
        simp only [if_pos, if_neg hb]
        have := Int.dvd_add hab hjb
        rw [show A a b + A j b + (w a + w j) * w b = A a b + w a * w b + (A j b + w j * w b) by grind]
        exact this
    · by_cases hb : b = i
      · subst hb
        rw [adT_at a1 a2 ha]
        simp only [if_pos, if_neg ha]
        have := Int.dvd_add hab haj
        rw [show A a b + A a j + w a * (w b + w j) = A a b + w a * w b + (A a j + w a * w j) by grind]
        exact this
      · rw [adT_ab ha hb]
        simp only [if_neg ha, if_neg hb]
        exact hab
  · exact absurd trivial i1
theorem rk1_ex {m x p y z w1 wa wb : Int} (hx : m ∣ x + wa * wb) (hp : m ∣ p + w1 * w1) (hy : m ∣ y + wa * w1) (hz : m ∣ z + w1 * wb) : m ∣ x * p - y * z := by
  obtain ⟨X, hX⟩ := hx
  obtain ⟨P, hP⟩ := hp
  obtain ⟨Y, hY⟩ := hy
  obtain ⟨Z, hZ⟩ := hz
  have e1 : x = m * X - wa * wb := by omega
  have e2 : p = m * P - w1 * w1 := by omega
  have e3 : y = m * Y - wa * w1 := by omega
  have e4 : z = m * Z - w1 * wb := by omega
  refine ⟨m * X * P - X * (w1 * w1) - wa * wb * P - m * Y * Z + Y * (w1 * wb) + wa * w1 * Z, ?_⟩
  rw [e1, e2, e3, e4]
  grind
theorem el_v {k n a b : Nat} {p q : Int} {A T : Mt} (h : eqn n T (elT k n p q A)) (h1 : k < a) (h2 : k < b) (h3 : a < n) (h4 : b < n) : T a b = (A a b * p - A a k * A k b).tdiv q := by
  rw [h a b h3 h4]
  unfold elT ela
  rw [if_pos ⟨h1, h2, Or.inl h3⟩]
theorem piv4 {A B T : Mt} {p : Nat → Int} (hA : sb 0 4 6 A) (h : PVs 4 A p 3 T) (hb : bpR 4 3 T True B) : B 3 3 = D4 A := by
  obtain ⟨T2, B2, ⟨T1, B1, ⟨T0, B0, h0, -, b0, p0, e0⟩, -, b1, p1, e1⟩, -, b2, p2, e2⟩ := h
  have hB3 : B 3 3 = T 3 3 := by
    rcases hb with ⟨i, i1, i2, i3, i4, i5, i6⟩ | ⟨z, i, j, i1, i2, i3, i4, i5, i6, i7⟩ | ⟨z, z2, i1, i2⟩
    · obtain rfl : i = 3 := by omega
      rw [i6 3 3 (by omega) (by omega), swT_id]
    · omega
    · exact absurd trivial i1
  have s0 : sb 0 4 6 T0 := hA.cg h0
  have sB0 := sb_bp s0 b0 (by decide)
  have i0 : D4 B0 = D4 A := (inv4 s0 b0).trans (by unfold D4; rw [h0 0 0 (by omega) (by omega), h0 0 1 (by omega) (by omega), h0 0 2 (by omega) (by omega), h0 0 3 (by omega) (by omega), h0 1 1 (by omega) (by omega), h0 1 2 (by omega) (by omega), h0 1 3 (by omega) (by omega), h0 2 2 (by omega) (by omega), h0 2 3 (by omega) (by omega), h0 3 3 (by omega) (by omega)])
  have n0 : p 0 ≠ 0 := by rw [← p0]; exact bp_ne s0 b0 (by decide)
  have t1 : ∀ a b, 0 < a → 0 < b → a < 4 → b < 4 → T1 a b = B0 a b * p 0 - B0 0 a * B0 0 b := fun a b a1 b1 a2 b2 => by
    rw [el_v e0 a1 b1 a2 b2, show bef p 0 = 1 from rfl, Int.tdiv_one, (sB0 a 0 (by omega) a2 (by omega) (by omega)).1]
  have s1 : sb 1 4 (2 * ((4 * 6) * (4 * 6))) T1 := by
    have g := sb_el (q := bef p 0) sB0 (by decide)
    rw [p0] at g
    exact g.cg e0
  have sB1 := sb_bp s1 b1 (by decide)
  have n1 : p 1 ≠ 0 := by rw [← p1]; exact bp_ne s1 b1 (by decide)
  have k1 : D3 T1 = p 0 * p 0 * D4 A := by
    rw [← i0]
    unfold D3 D4
    rw [t1 1 1 (by omega) (by omega) (by omega) (by omega), t1 1 2 (by omega) (by omega) (by omega) (by omega), t1 1 3 (by omega) (by omega) (by omega) (by omega), t1 2 2 (by omega) (by omega) (by omega) (by omega), t1 2 3 (by omega) (by omega) (by omega) (by omega), t1 3 3 (by omega) (by omega) (by omega) (by omega), p0]
    exact sch4 _ _ _ _ _ _ _ _ _ _
  have i1 : D3 B1 = p 0 * p 0 * D4 A := (inv3 s1 b1).trans k1
  have r1 : rk1 1 4 (p 0) T1 (fun a => B0 0 a) := fun a b a1 a2 b1 b2 => by
    rw [t1 a b a1 b1 a2 b2, Int.sub_add_cancel]
    exact Int.dvd_mul_left _ _
  obtain ⟨w, hw⟩ := rk1_bp r1 b1 (by decide)
  have t2 : ∀ a b, 1 < a → 1 < b → a < 4 → b < 4 → T2 a b * p 0 = B1 a b * p 1 - B1 1 a * B1 1 b := fun a b a1 b1 a2 b2 => by
    rw [el_v e1 a1 b1 a2 b2, show bef p 1 = p 0 from rfl, (sB1 a 1 (by omega) a2 (by omega) (by omega)).1]
    refine Int.tdiv_mul_cancel (rk1_ex (hw a b (by omega) a2 (by omega) b2) ?_ ?_ (hw 1 b (by omega) (by omega) (by omega) b2))
    · rw [← p1]; exact hw 1 1 (by omega) (by omega) (by omega) (by omega)
    · rw [← (sB1 a 1 (by omega) a2 (by omega) (by omega)).1]; exact hw a 1 (by omega) a2 (by omega) (by omega)
  have s2 : sb 2 4 (2 * ((4 * (2 * ((4 * 6) * (4 * 6)))) * (4 * (2 * ((4 * 6) * (4 * 6)))))) T2 := by
    have g := sb_el (q := bef p 1) sB1 (by decide)
    rw [p1] at g
    exact g.cg e1
  have sB2 := sb_bp s2 b2 (by decide)
  have k2 : D2 T2 * (p 0 * p 0) = p 1 * (p 0 * p 0 * D4 A) := by
    rw [← i1]
    unfold D2 D3
    rw [show (T2 2 2 * T2 3 3 - T2 2 3 * T2 2 3) * (p 0 * p 0) = (T2 2 2 * p 0) * (T2 3 3 * p 0) - (T2 2 3 * p 0) * (T2 2 3 * p 0) by grind, t2 2 2 (by omega) (by omega) (by omega) (by omega), t2 2 3 (by omega) (by omega) (by omega) (by omega), t2 3 3 (by omega) (by omega) (by omega) (by omega), p1]
    exact sch3 _ _ _ _ _ _
  have k3 : D2 T2 = p 1 * D4 A := by
    have hne : p 0 * p 0 ≠ 0 := Int.mul_ne_zero n0 n0
    exact Int.eq_of_mul_eq_mul_right hne (by rw [k2]; grind)
  have i2 : D2 B2 = p 1 * D4 A := (inv2 s2 b2).trans k3
  rw [hB3, el_v e2 (by decide) (by decide) (by decide) (by decide), show bef p 2 = p 1 from rfl, (sB2 3 2 (by omega) (by omega) (by omega) (by omega)).1, ← p2, show B2 3 3 * B2 2 2 - B2 2 3 * B2 2 3 = D2 B2 by unfold D2; grind, i2]
  exact Int.mul_tdiv_cancel_left _ n1
theorem piv_bd {n k : Nat} {A B T : Mt} {p : Nat → Int} (hn : n ≤ 4) (hk : k < n) (hA : sb 0 n 6 A) (h : PVs n A p k T) (hb : bpR n k T True B) : B k k ≠ 0 ∧ (k = 0 → (B k k).natAbs ≤ 24) ∧ (k = 1 → (B k k).natAbs ≤ 4608) ∧ (k = 2 → (B k k).natAbs ≤ 169869312) ∧ (k = 3 → (B k k).natAbs ≤ 31104) := by
  have s := PVs_sb hA h
  have sB := (sb_bp s hb hk) k k (by omega) hk (by omega) hk
  refine ⟨bp_ne s hb hk, ?_, ?_, ?_, ?_⟩
  · rintro rfl; exact sB.2
  · rintro rfl; exact sB.2
  · rintro rfl; exact sB.2
  · rintro rfl
    obtain rfl : n = 4 := by omega
    rw [piv4 hA h hb]
    have q : ∀ a b, a < 4 → b < 4 → (A a b).natAbs ≤ 6 := fun a b ha hb => (hA a b (by omega) ha (by omega) hb).2
    exact d4_bd (q 0 0 (by omega) (by omega)) (q 0 1 (by omega) (by omega)) (q 0 2 (by omega) (by omega)) (q 0 3 (by omega) (by omega)) (q 1 1 (by omega) (by omega)) (q 1 2 (by omega) (by omega)) (q 1 3 (by omega) (by omega)) (q 2 2 (by omega) (by omega)) (q 2 3 (by omega) (by omega)) (q 3 3 (by omega) (by omega))
