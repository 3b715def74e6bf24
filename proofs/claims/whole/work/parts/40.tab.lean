/-! tables of numbers: swapping and adding variables, eliminating, step by step -/
abbrev Mt := Nat → Nat → Int
def eq4 (A B : Mt) : Prop := ∀ a b, a < 4 → b < 4 → A a b = B a b
theorem eq4.rf (A : Mt) : eq4 A A := fun _ _ _ _ => rfl
theorem eq4.tr {A B C : Mt} (h : eq4 A B) (g : eq4 B C) : eq4 A C := fun a b ha hb => (h a b ha hb).trans (g a b ha hb)
theorem eq4.sy {A B : Mt} (h : eq4 A B) : eq4 B A := fun a b ha hb => (h a b ha hb).symm
/-- one number of a table is set -/
def ut (A : Mt) (i j : Nat) (v : Int) : Mt := fun a b => if a = i then (if b = j then v else A a b) else A a b
theorem ut_s (A : Mt) (i j : Nat) (v : Int) : ut A i j v i j = v := by simp [ut]
theorem ut_k {A : Mt} {i j a b : Nat} {v : Int} (h : a ≠ i ∨ b ≠ j) : ut A i j v a b = A a b := by
  unfold ut
  by_cases h1 : a = i
  · rw [if_pos h1, if_neg (h.resolve_left (fun q => q h1))]
  · rw [if_neg h1]
/-- the table of the class -/
def tb (M : Me) : Mt := fun i j => M (24 + i) j
/-- the table of the reference -/
def wr (M : Me) : Mt := fun i j => M 31 (4 * i + j)
theorem tb_mu (M : Me) (i j : Nat) (v : Int) : tb (mu M (24 + i) j v) = ut (tb M) i j v := by
  funext a b
  unfold tb mu ut
  by_cases h : a = i
  · rw [if_pos (show 24 + a = 24 + i by omega), if_pos h]
  · rw [if_neg (show ¬ 24 + a = 24 + i by omega), if_neg h]
theorem wr_mu {M : Me} {i j : Nat} (v : Int) (hj : j < 4) : eq4 (wr (mu M 31 (4 * i + j) v)) (ut (wr M) i j v) := by
  intro a b ha hb
  unfold wr mu ut
  rw [if_pos rfl]
  by_cases h : a = i
  · rw [if_pos h]
    by_cases h2 : b = j
    · rw [if_pos (by omega), if_pos h2]
    · rw [if_neg (by omega), if_neg h2]
  · rw [if_neg (by omega), if_neg h]
def swI (i k x : Nat) : Nat := if x = i then k else if x = k then i else x
theorem swI_i (i k : Nat) : swI i k i = k := by simp [swI]
theorem swI_k (i k : Nat) : swI i k k = i := by unfold swI; by_cases h : k = i <;> simp [h]
theorem swI_o {i k x : Nat} (h1 : x ≠ i) (h2 : x ≠ k) : swI i k x = x := by simp [swI, h1, h2]
theorem swI_cm (i k x : Nat) : swI i k x = swI k i x := by
  by_cases h1 : x = i
  · rw [h1, swI_i, swI_k]
  · by_cases h2 : x = k
    · rw [h2, swI_i, swI_k]
    · rw [swI_o h1 h2, swI_o h2 h1]
theorem swI_lt {i k x n : Nat} (hi : i < n) (hk : k < n) (hx : x < n) : swI i k x < n := by
  by_cases h1 : x = i
  · rw [h1, swI_i]; exact hk
  · by_cases h2 : x = k
    · rw [h2, swI_k]; exact hi
    · rw [swI_o h1 h2]; exact hx
theorem swI_ge {i k x n : Nat} (hi : n ≤ i) (hk : n ≤ k) (hx : n ≤ x) : n ≤ swI i k x := by
  by_cases h1 : x = i
  · rw [h1, swI_i]; exact hk
  · by_cases h2 : x = k
    · rw [h2, swI_k]; exact hi
    · rw [swI_o h1 h2]; exact hx
def swT (i k : Nat) (A : Mt) : Mt := fun a b => A (swI i k a) (swI i k b)
def rsw (i k J : Nat) (A : Mt) : Mt := fun a b => if b < J then A (swI i k a) b else A a b
def csw (i k J : Nat) (A : Mt) : Mt := fun a b => if a < J then A a (swI i k b) else A a b
theorem rsw_0 (i k : Nat) (A : Mt) : eq4 A (rsw i k 0 A) := fun a b _ _ => by unfold rsw; rw [if_neg (by omega)]
theorem csw_0 (i k : Nat) (A : Mt) : eq4 A (csw i k 0 A) := fun a b _ _ => by unfold csw; rw [if_neg (by omega)]
theorem rsw_s {i k J : Nat} {A T : Mt} (h : eq4 T (rsw i k J A)) (hi : i < 4) (hk : k < 4) (hJ : J < 4) : eq4 (ut (ut T i J (T k J)) k J (T i J)) (rsw i k (J + 1) A) := by
  intro a b ha hb
  have e1 : ∀ x, x < 4 → T x J = A x J := fun x hx => by rw [h x J hx hJ]; unfold rsw; rw [if_neg (by omega)]
  by_cases h1 : b = J
  · subst h1
    show _ = if b < b + 1 then A (swI i k a) b else A a b
    rw [if_pos (by omega)]
    by_cases h2 : a = k
    · subst h2
      rw [ut_s, swI_k, e1 i hi]
    · rw [ut_k (Or.inl h2)]
      by_cases h3 : a = i
      · subst h3
        rw [ut_s, swI_i, e1 k hk]
      · rw [ut_k (Or.inl h3), swI_o h3 h2, e1 a ha]
  · rw [ut_k (Or.inr h1), ut_k (Or.inr h1), h a b ha hb]
    unfold rsw
    by_cases h2 : b < J
    · rw [if_pos h2, if_pos (by omega)]
    · rw [if_neg h2, if_neg (by omega)]
theorem csw_s {i k J : Nat} {A T : Mt} (h : eq4 T (csw i k J A)) (hi : i < 4) (hk : k < 4) (hJ : J < 4) : eq4 (ut (ut T J i (T J k)) J k (T J i)) (csw i k (J + 1) A) := by
  intro a b ha hb
  have e1 : ∀ x, x < 4 → T J x = A J x := fun x hx => by rw [h J x hJ hx]; unfold csw; rw [if_neg (by omega)]
  by_cases h1 : a = J
  · subst h1
    show _ = if a < a + 1 then A a (swI i k b) else A a b
    rw [if_pos (by omega)]
    by_cases h2 : b = k
    · subst h2
      rw [ut_s, swI_k, e1 i hi]
    · rw [ut_k (Or.inr h2)]
      by_cases h3 : b = i
      · subst h3
        rw [ut_s, swI_i, e1 k hk]
      · rw [ut_k (Or.inr h3), swI_o h3 h2, e1 b hb]
  · rw [ut_k (Or.inl h1), ut_k (Or.inl h1), h a b ha hb]
    unfold csw
    by_cases h2 : a < J
    · rw [if_pos h2, if_pos (by omega)]
    · rw [if_neg h2, if_neg (by omega)]
/-- the tables agree where both indices lie below n -/
def eqn (n : Nat) (A B : Mt) : Prop := ∀ a b, a < n → b < n → A a b = B a b
theorem eqn.rf (n : Nat) (A : Mt) : eqn n A A := fun _ _ _ _ => rfl
theorem eqn.tr {n : Nat} {A B C : Mt} (h : eqn n A B) (g : eqn n B C) : eqn n A C := fun a b ha hb => (h a b ha hb).trans (g a b ha hb)
theorem eqn.sy {n : Nat} {A B : Mt} (h : eqn n A B) : eqn n B A := fun a b ha hb => (h a b ha hb).symm
theorem eq4.n {n : Nat} {A B : Mt} (h : eq4 A B) (hn : n ≤ 4) : eqn n A B := fun a b ha hb => h a b (by omega) (by omega)
theorem sw_end {n i k : Nat} {A T1 T2 : Mt} (h1 : eq4 T1 (rsw i k n A)) (h2 : eq4 T2 (csw i k n T1)) (hn : n ≤ 4) (hi : i < n) (hk : k < n) : eqn n T2 (swT i k A) := by
  intro a b ha hb
  have hs := swI_lt hi hk hb
  rw [h2 a b (by omega) (by omega)]
  unfold csw
  rw [if_pos ha, h1 a _ (by omega) (by omega)]
  unfold rsw swT
  rw [if_pos hs]
theorem swT_eqn {n i k : Nat} {A B : Mt} (h : eqn n A B) (hi : i < n) (hk : k < n) : eqn n (swT i k A) (swT i k B) := fun _ _ ha hb => h _ _ (swI_lt hi hk ha) (swI_lt hi hk hb)
theorem swT_cm (i k : Nat) (A : Mt) : swT i k A = swT k i A := by funext a b; unfold swT; rw [swI_cm i k a, swI_cm i k b]
theorem swT_id (k : Nat) (A : Mt) : swT k k A = A := by
  funext a b
  have : ∀ x, swI k k x = x := fun x => by
    by_cases h : x = k
    · rw [h, swI_i]
    · exact swI_o h h
  unfold swT; rw [this, this]
def rad (fr to st J : Nat) (A : Mt) : Mt := fun a b => if a = to ∧ st ≤ b ∧ b < J then A to b + A fr b else A a b
def cad (fr to st J : Nat) (A : Mt) : Mt := fun a b => if b = to ∧ st ≤ a ∧ a < J then A a to + A a fr else A a b
def adT (fr to st n : Nat) (A : Mt) : Mt := cad fr to st n (rad fr to st n A)
theorem rad_0 (fr to st : Nat) (A : Mt) : eq4 A (rad fr to st st A) := fun a b _ _ => by unfold rad; rw [if_neg (by omega)]
theorem cad_0 (fr to st : Nat) (A : Mt) : eq4 A (cad fr to st st A) := fun a b _ _ => by unfold cad; rw [if_neg (by omega)]
theorem rad_s {fr to st J : Nat} {A T : Mt} (h : eq4 T (rad fr to st J A)) (hf : fr < 4) (ht : to < 4) (hne : fr ≠ to) (hs : st ≤ J) (hJ : J < 4) : eq4 (ut T to J (T to J + T fr J)) (rad fr to st (J + 1) A) := by
  intro a b ha hb
  have e1 : T to J = A to J := by rw [h to J ht hJ]; unfold rad; rw [if_neg (by omega)]
  have e2 : T fr J = A fr J := by rw [h fr J hf hJ]; unfold rad; rw [if_neg (by omega)]
  by_cases h1 : a = to ∧ b = J
  · obtain ⟨rfl, rfl⟩ := h1
    rw [ut_s, e1, e2]
    unfold rad
    rw [if_pos ⟨rfl, hs, by omega⟩]
  · rw [ut_k (by omega), h a b ha hb]
    unfold rad
    by_cases h2 : a = to ∧ st ≤ b ∧ b < J
    · rw [if_pos h2, if_pos ⟨h2.1, h2.2.1, by omega⟩]
    · rw [if_neg h2, if_neg (by omega)]
theorem cad_s {fr to st J : Nat} {A T : Mt} (h : eq4 T (cad fr to st J A)) (hf : fr < 4) (ht : to < 4) (hne : fr ≠ to) (hs : st ≤ J) (hJ : J < 4) : eq4 (ut T J to (T J to + T J fr)) (cad fr to st (J + 1) A) := by
  intro a b ha hb
  have e1 : T J to = A J to := by rw [h J to hJ ht]; unfold cad; rw [if_neg (by omega)]
  have e2 : T J fr = A J fr := by rw [h J fr hJ hf]; unfold cad; rw [if_neg (by omega)]
  by_cases h1 : a = J ∧ b = to
  · obtain ⟨rfl, rfl⟩ := h1
    rw [ut_s, e1, e2]
    unfold cad
    rw [if_pos ⟨rfl, hs, by omega⟩]
  · rw [ut_k (by omega), h a b ha hb]
    unfold cad
    by_cases h2 : b = to ∧ st ≤ a ∧ a < J
    · rw [if_pos h2, if_pos ⟨h2.1, h2.2.1, by omega⟩]
    · rw [if_neg h2, if_neg (by omega)]
theorem cad_eqn {n fr to st : Nat} {A B : Mt} (h : eqn n A B) (hf : fr < n) (ht : to < n) : eqn n (cad fr to st n A) (cad fr to st n B) := fun a b ha hb => by
  unfold cad
  rw [h a to ha ht, h a fr ha hf, h a b ha hb]
theorem rad_eqn {n fr to st : Nat} {A B : Mt} (h : eqn n A B) (hf : fr < n) (ht : to < n) : eqn n (rad fr to st n A) (rad fr to st n B) := fun a b ha hb => by
  unfold rad
  rw [h to b ht hb, h fr b hf hb, h a b ha hb]
theorem adT_eqn {n fr to st : Nat} {A B : Mt} (h : eqn n A B) (hf : fr < n) (ht : to < n) : eqn n (adT fr to st n A) (adT fr to st n B) := cad_eqn (rad_eqn h hf ht) hf ht
theorem ad_end {n fr to st : Nat} {A T1 T2 : Mt} (h1 : eq4 T1 (rad fr to st n A)) (h2 : eq4 T2 (cad fr to st n T1)) (hn : n ≤ 4) (hf : fr < n) (ht : to < n) : eqn n T2 (adT fr to st n A) :=
  (h2.n hn).tr (cad_eqn (h1.n hn) hf ht)
/-- elimination with pivot p and last pivot q, done for rows below I and, of row I, columns below J -/
def ela (k : Nat) (p q : Int) (I J : Nat) (A : Mt) : Mt := fun a b => if k < a ∧ k < b ∧ (a < I ∨ a = I ∧ b < J) then (A a b * p - A a k * A k b).tdiv q else A a b
def elT (k n : Nat) (p q : Int) (A : Mt) : Mt := ela k p q n 0 A
theorem ela_0 (k : Nat) (p q : Int) (A : Mt) : eq4 A (ela k p q (k + 1) (k + 1) A) := fun a b _ _ => by unfold ela; rw [if_neg (by omega)]
theorem ela_s {k I J : Nat} {p q : Int} {A T : Mt} (h : eq4 T (ela k p q I J A)) (hk : k < I) (hj : k < J) (hI : I < 4) (hJ : J < 4) : eq4 (ut T I J ((T I J * p - T I k * T k J).tdiv q)) (ela k p q I (J + 1) A) := by
  intro a b ha hb
  have e1 : T I J = A I J := by rw [h I J hI hJ]; unfold ela; rw [if_neg (by omega)]
  have e2 : T I k = A I k := by rw [h I k hI (by omega)]; unfold ela; rw [if_neg (by omega)]
  have e3 : T k J = A k J := by rw [h k J (by omega) hJ]; unfold ela; rw [if_neg (by omega)]
  by_cases h1 : a = I ∧ b = J
  · obtain ⟨rfl, rfl⟩ := h1
    rw [ut_s, e1, e2, e3]
    unfold ela
    rw [if_pos ⟨hk, hj, Or.inr ⟨rfl, by omega⟩⟩]
  · rw [ut_k (by omega), h a b ha hb]
    unfold ela
    by_cases h2 : k < a ∧ k < b ∧ (a < I ∨ a = I ∧ b < J)
    · rw [if_pos h2, if_pos (by omega)]
    · rw [if_neg h2, if_neg (by omega)]
/-- a row is done: columns from n on are not looked at -/
def eqc (n : Nat) (A B : Mt) : Prop := ∀ a b, a < 4 → b < n → A a b = B a b
theorem ela_r {n k I : Nat} {p q : Int} {A T : Mt} (h : eqn n T (ela k p q I n A)) : eqn n T (ela k p q (I + 1) (k + 1) A) := fun a b ha hb => by
  rw [h a b ha hb]
  unfold ela
  by_cases h2 : k < a ∧ k < b ∧ (a < I ∨ a = I ∧ b < n)
  · rw [if_pos h2, if_pos (by omega)]
  · rw [if_neg h2, if_neg (by omega)]
theorem ela_n {n k I J : Nat} {p q : Int} {A T : Mt} (h : eqn n T (ela k p q I J A)) (hk : k < I) (hj : k < J) (hI : I < n) (hJ : J < n) : eqn n (ut T I J ((T I J * p - T I k * T k J).tdiv q)) (ela k p q I (J + 1) A) := by
  intro a b ha hb
  have e1 : T I J = A I J := by rw [h I J hI hJ]; unfold ela; rw [if_neg (by omega)]
  have e2 : T I k = A I k := by rw [h I k hI (by omega)]; unfold ela; rw [if_neg (by omega)]
  have e3 : T k J = A k J := by rw [h k J (by omega) hJ]; unfold ela; rw [if_neg (by omega)]
  by_cases h1 : a = I ∧ b = J
  · obtain ⟨rfl, rfl⟩ := h1
    rw [ut_s, e1, e2, e3]
    unfold ela
    rw [if_pos ⟨hk, hj, Or.inr ⟨rfl, by omega⟩⟩]
  · rw [ut_k (by omega), h a b ha hb]
    unfold ela
    by_cases h2 : k < a ∧ k < b ∧ (a < I ∨ a = I ∧ b < J)
    · rw [if_pos h2, if_pos (by omega)]
    · rw [if_neg h2, if_neg (by omega)]
theorem ela_e {n k : Nat} {p q : Int} {A T : Mt} (h : eqn n T (ela k p q n (k + 1) A)) : eqn n T (elT k n p q A) := fun a b ha hb => by
  rw [h a b ha hb]
  unfold elT ela
  by_cases h2 : k < a ∧ k < b ∧ (a < n ∨ a = n ∧ b < k + 1)
  · rw [if_pos h2, if_pos (by omega)]
  · rw [if_neg h2, if_neg (by omega)]
theorem elT_eqn {n k : Nat} {p q : Int} {A B : Mt} (h : eqn n A B) (hk : k < n) : eqn n (elT k n p q A) (elT k n p q B) := fun a b ha hb => by
  unfold elT ela
  rw [h a b ha hb, h a k ha hk, h k b hk hb]
theorem el64 {x p y z : Int} (hx : x.natAbs ≤ 2000000000) (hp : p.natAbs ≤ 2000000000) (hy : y.natAbs ≤ 2000000000) (hz : z.natAbs ≤ 2000000000) : b64 (x * p - y * z) := by
  have h1 : (x * p).natAbs ≤ 2000000000 * 2000000000 := by rw [Int.natAbs_mul]; exact Nat.mul_le_mul hx hp
  have h2 : (y * z).natAbs ≤ 2000000000 * 2000000000 := by rw [Int.natAbs_mul]; exact Nat.mul_le_mul hy hz
  omega
/-- what bringing a pivot to place k does: the answer r, the table B after it -/
def bpR (n k : Nat) (A : Mt) (r : Prop) (B : Mt) : Prop :=
  (∃ i, k ≤ i ∧ i < n ∧ A i i ≠ 0 ∧ (∀ m, k ≤ m → m < i → A m m = 0) ∧ r ∧ eqn n B (swT i k A)) ∨
  ((∀ m, k ≤ m → m < n → A m m = 0) ∧ ∃ i j, k ≤ i ∧ i < j ∧ j < n ∧ A i j ≠ 0 ∧ (∀ x y, k ≤ x → x < y → y < n → (x < i ∨ x = i ∧ y < j) → A x y = 0) ∧ r ∧ eqn n B (swT i k (adT j i k n A))) ∨
  ((∀ m, k ≤ m → m < n → A m m = 0) ∧ (∀ x y, k ≤ x → x < y → y < n → A x y = 0) ∧ ¬ r ∧ eqn n B A)
theorem bpR_dt {n k : Nat} {A A' B B' : Mt} {r r' : Prop} (hA : eqn n A A') (h : bpR n k A r B) (h' : bpR n k A' r' B') (hk : k < n) : (r ↔ r') ∧ eqn n B B' := by
  rcases h with ⟨i, i1, i2, i3, i4, i5, i6⟩ | ⟨z, i, j, i1, i2, i3, i4, i5, i6, i7⟩ | ⟨z, z2, i1, i2⟩
  · rcases h' with ⟨i', j1, j2, j3, j4, j5, j6⟩ | ⟨z', i', j, j1, j2, j3, j4, j5, j6, j7⟩ | ⟨z', z2', j1, j2⟩
    · have hii : i = i' := by
        rcases Nat.lt_trichotomy i i' with g | g | g
        · exact absurd (by rw [hA i i i2 i2]; exact j4 i i1 g) i3
        · exact g
        · exact absurd (by rw [← hA i' i' j2 j2]; exact i4 i' j1 g) j3
      subst hii
      exact ⟨⟨fun _ => j5, fun _ => i5⟩, i6.tr ((swT_eqn hA i2 hk).tr j6.sy)⟩
    · exact absurd (by rw [hA i i i2 i2]; exact z' i i1 i2) i3
    · exact absurd (by rw [hA i i i2 i2]; exact z' i i1 i2) i3
  · rcases h' with ⟨i', j1, j2, j3, j4, j5, j6⟩ | ⟨z', i', j', j1, j2, j3, j4, j5, j6, j7⟩ | ⟨z', z2', j1, j2⟩
    · exact absurd (by rw [← hA i' i' j2 j2]; exact z i' j1 j2) j3
    · have hij : i = i' ∧ j = j' := by
        rcases Nat.lt_trichotomy i i' with g | g | g
        · exact absurd (by rw [hA i j (by omega) i3]; exact j5 i j i1 i2 i3 (Or.inl g)) i4
        · rcases Nat.lt_trichotomy j j' with g' | g' | g'
          · exact absurd (by rw [hA i j (by omega) i3]; exact j5 i j i1 i2 i3 (Or.inr ⟨g, g'⟩)) i4
          · exact ⟨g, g'⟩
          · exact absurd (by rw [← hA i' j' (by omega) j3]; exact i5 i' j' j1 j2 j3 (Or.inr ⟨g.symm, g'⟩)) j4
        · exact absurd (by rw [← hA i' j' (by omega) j3]; exact i5 i' j' j1 j2 j3 (Or.inl g)) j4
      obtain ⟨rfl, rfl⟩ := hij
      exact ⟨⟨fun _ => j6, fun _ => i6⟩, i7.tr ((swT_eqn (adT_eqn hA i3 (by omega)) (by omega) hk).tr j7.sy)⟩
    · exact absurd (by rw [hA i j (by omega) i3]; exact z2' i j i1 i2 i3) i4
  · rcases h' with ⟨i', j1, j2, j3, j4, j5, j6⟩ | ⟨z', i', j', j1, j2, j3, j4, j5, j6, j7⟩ | ⟨z', z2', j1, j2⟩
    · exact absurd (by rw [← hA i' i' j2 j2]; exact z i' j1 j2) j3
    · exact absurd (by rw [← hA i' j' (by omega) j3]; exact z2 i' j' j1 j2 j3) j4
    · exact ⟨⟨fun g => absurd g i1, fun g => absurd g j1⟩, i2.tr (hA.tr j2.sy)⟩
