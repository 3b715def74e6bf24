/-! Hasse signs, zeros, counting, as whole numbers -/
def hI (σ : Int → Int → Int) (t : Nat → Int) (i : Nat) : Nat → Int
  | 0 => 1
  | n + 1 => hI σ t i n * σ (t i) (t (i + 1 + n))
def hO (σ : Int → Int → Int) (t : Nat → Int) (r : Nat) : Nat → Int
  | 0 => 1
  | i + 1 => hO σ t r i * hI σ t i (r - (i + 1))
def hs (σ : Int → Int → Int) (t : Nat → Int) (r : Nat) : Int := hO σ t r r
abbrev pm1 (z : Int) : Prop := z = 1 ∨ z = -1
theorem pm1_mul {x y : Int} (hx : pm1 x) (hy : pm1 y) : pm1 (x * y) := by
  rcases hx with rfl | rfl <;> rcases hy with rfl | rfl <;> decide
theorem s2_pm (e f u w : Int) : pm1 (s2 e f u w) := by
  unfold s2
  by_cases h : ((u - 1) / 2 * ((w - 1) / 2) + e * ((w * w - 1) / 8) + f * ((u * u - 1) / 8)) % 2 = 0
  · rw [if_pos h]; exact Or.inl rfl
  · rw [if_neg h]; exact Or.inr rfl
theorem b12_pm (q : Prop) : pm1 (1 - 2 * bi q) := by rcases bi_or q with h | h <;> rw [h] <;> decide
theorem so_pm (e f u w p : Int) : pm1 (so e f u w p) := by
  unfold so
  refine pm1_mul (pm1_mul ?_ (b12_pm _)) (b12_pm _)
  by_cases h : e * f * ((p - 1) / 2) % 2 = 0
  · rw [if_pos h]; exact Or.inl rfl
  · rw [if_neg h]; exact Or.inr rfl
theorem sF_pm (e f u w p : Int) : pm1 (sF e f u w p) := by
  unfold sF
  by_cases h : p = 2
  · rw [if_pos h]; exact s2_pm _ _ _ _
  · rw [if_neg h]; exact so_pm _ _ _ _ _
theorem sy_pm (a b p : Int) : pm1 (sy a b p) := by
  unfold sy
  by_cases h : p = 0
  · rw [if_pos h]
    by_cases h2 : a < 0 ∧ b < 0
    · rw [if_pos h2]; exact Or.inr rfl
    · rw [if_neg h2]; exact Or.inl rfl
  · rw [if_neg h]; exact sF_pm _ _ _ _ _
theorem syM_pm (a b p : Int) : pm1 (syM a b p) := by
  unfold syM
  by_cases h : p = 0
  · rw [if_pos h]
    by_cases h2 : a < 0 ∧ b < 0
    · rw [if_pos h2]; exact Or.inr rfl
    · rw [if_neg h2]; exact Or.inl rfl
  · rw [if_neg h]; exact sF_pm _ _ _ _ _
theorem hI_pm {σ : Int → Int → Int} (hσ : ∀ a b, pm1 (σ a b)) (t : Nat → Int) (i : Nat) : ∀ n, pm1 (hI σ t i n)
  | 0 => Or.inl rfl
  | n + 1 => pm1_mul (hI_pm hσ t i n) (hσ _ _)
theorem hO_pm {σ : Int → Int → Int} (hσ : ∀ a b, pm1 (σ a b)) (t : Nat → Int) (r : Nat) : ∀ n, pm1 (hO σ t r n)
  | 0 => Or.inl rfl
  | n + 1 => pm1_mul (hO_pm hσ t r n) (hI_pm hσ t n _)
theorem hs_pm {σ : Int → Int → Int} (hσ : ∀ a b, pm1 (σ a b)) (t : Nat → Int) (r : Nat) : pm1 (hs σ t r) := hO_pm hσ t r r
theorem pm1_b32 {z : Int} (h : pm1 z) : b32 z := by rcases h with rfl | rfl <;> decide
/-- a form with the terms t i, of rank r in dim variables, has a zero at p -/
def zr (dim r : Nat) (D : Int) (t : Nat → Int) (pos neg p : Int) : Prop := r < dim ∨ (r = 2 ∧ sq (-D) p) ∨ (r = 3 ∧ hs (fun a b => sy a b p) t r = sy (-1) (-D) p) ∨ (r = 4 ∧ (¬ sq D p ∨ hs (fun a b => sy a b p) t r = sy (-1) (-1) p)) ∨ (4 < r ∧ (p ≠ 0 ∨ (0 < pos ∧ 0 < neg)))
/-- how many below n -/
noncomputable def cnt (T : Nat → Prop) : Nat → Int
  | 0 => 0
  | n + 1 => cnt T n + bi (T n)
theorem cnt_gap {T : Nat → Prop} {x : Nat} : ∀ n, x < n → (∀ m, x < m → m < n → ¬ T m) → cnt T n = cnt T x + bi (T x) := by
  intro n
  induction n with
  | zero => intro h; omega
  | succ n ih =>
    intro h h1
    show cnt T n + bi (T n) = _
    rcases Nat.lt_or_ge x n with h2 | h2
    · rw [ih h2 (fun m m1 m2 => h1 m m1 (by omega)), bi_f (h1 n h2 (by omega))]; omega
    · have : n = x := by omega
      rw [this]
theorem cnt_le {T : Nat → Prop} {a b : Nat} (h : a ≤ b) : cnt T a ≤ cnt T b := by
  induction h with
  | refl => exact Int.le_refl _
  | step h ih =>
    refine Int.le_trans ih ?_
    show cnt T _ ≤ cnt T _ + bi _
    rcases bi_or (T _) with h | h <;> rw [h] <;> omega
theorem cnt_lt {T : Nat → Prop} {a b : Nat} (h : a < b) (ha : T a) : cnt T a < cnt T b := by
  have h1 : cnt T (a + 1) ≤ cnt T b := cnt_le h
  have h2 : cnt T (a + 1) = cnt T a + bi (T a) := rfl
  rw [bi_t ha] at h2
  omega
theorem cnt_uniq {T : Nat → Prop} {a b : Nat} (ha : T a) (hb : T b) (h : cnt T a = cnt T b) : a = b := by
  rcases Nat.lt_trichotomy a b with h1 | h1 | h1
  · have := cnt_lt h1 ha; omega
  · exact h1
  · have := cnt_lt h1 hb; omega
theorem cnt_congr {T T' : Nat → Prop} (h : ∀ q, T q ↔ T' q) : ∀ n, cnt T n = cnt T' n
  | 0 => rfl
  | n + 1 => by show cnt T n + bi (T n) = cnt T' n + bi (T' n); rw [cnt_congr h n, bi_iff (h n)]
theorem cnt_0 {T : Nat → Prop} : ∀ n, (∀ m, m < n → ¬ T m) → cnt T n = 0
  | 0, _ => rfl
  | n + 1, h => by show cnt T n + bi (T n) = 0; rw [cnt_0 n (fun m hm => h m (by omega)), bi_f (h n (by omega))]; rfl
/-- walking along an ascending list: what has been met -/
def met (T : Nat → Prop) (c : Nat) (a : Nat → Int) (i : Nat) (k : Int) : Prop := ∀ n : Nat, (∀ j, j < i → a j < n) → (∀ j, i ≤ j → j < c → (n : Int) ≤ a j) → cnt T n = k
theorem met_0 {T S : Nat → Prop} {c : Nat} {a : Nat → Int} (h : SL c a S) (hT : ∀ q, T q → S q) : met T c a 0 0 := fun n _ h2 => cnt_0 n fun m hm hTm => by
  obtain ⟨i, i1, i2⟩ := h.2.2 m (hT m hTm)
  have := h2 i (by omega) i1
  omega
theorem met_s {T S : Nat → Prop} {c i q : Nat} {a : Nat → Int} {k : Int} (h : SL c a S) (hT : ∀ q, T q → S q) (hm : met T c a i k) (hi : i < c) (hq : a i = q) : cnt T q = k ∧ met T c a (i + 1) (k + bi (T q)) := by
  have h1 : cnt T q = k := hm q (fun j hj => by rw [← hq]; exact h.1 j i hj hi) (fun j j1 j2 => by
    rcases Nat.lt_or_ge i j with g | g
    · rw [← hq]; exact Int.le_of_lt (h.1 i j g j2)
    · have : j = i := by omega
      rw [this, hq]; exact Int.le_refl _)
  refine ⟨h1, fun n n1 n2 => ?_⟩
  rw [cnt_gap (x := q) n (by have := n1 i (by omega); omega) (fun m m1 m2 hTm => ?_), h1]
  obtain ⟨j, j1, j2⟩ := h.2.2 m (hT m hTm)
  rcases Nat.lt_or_ge j (i + 1) with g | g
  · rcases Nat.lt_or_ge j i with g2 | g2
    · have := h.1 j i g2 hi
      omega
    · have : j = i := by omega
      subst this
      omega
  · have := n2 j g j1
    omega
section JT
variable {p : Program} {l : Launch} {e : Env} {R : Room} {s : State} {m : MethodId} {args : Array Value} {below : List Frame} {meth : Method} {c : Code} {H : Heap} {locs : List Loc} {cells slots : Nat} {Q : State → Prop} {cc : ByteArray} {pc : Nat} {ls : Array Slot} {rest : List Value}
theorem j_tabI (hx : p.tables.exec = Jvm.exec) (hb : c.code = cc) {dflt lo hi : Int} {offs : Array Int} {len : Nat} {z : Int} {off : Int} {tgt : Nat} (hz : b32 z) (h1 : lo ≤ z) (h2 : z ≤ hi) (ho : offs[(z - lo).toNat]? = some off) (hd : decode cc pc = .ok (.tableswitch dflt lo hi offs, len)) (ht : (pc : Int) + off = (tgt : Int)) (k : W p l e R s m args below meth c H locs cells slots Q (F0 m tgt ls rest)) : W p l e R s m args below meth c H locs cells slots Q (F0 m pc ls (.int (ji z) :: rest)) :=
  lv_tableIn hx hb hd (by rw [ji_toInt hz]; omega) (by rw [ji_toInt hz]; omega) (by rw [ji_toInt hz]; exact ho) ht k
theorem j_tabO (hx : p.tables.exec = Jvm.exec) (hb : c.code = cc) {dflt lo hi : Int} {offs : Array Int} {len : Nat} {z : Int} {tgt : Nat} (hz : b32 z) (h : z < lo ∨ hi < z) (hd : decode cc pc = .ok (.tableswitch dflt lo hi offs, len)) (ht : (pc : Int) + dflt = (tgt : Int)) (k : W p l e R s m args below meth c H locs cells slots Q (F0 m tgt ls rest)) : W p l e R s m args below meth c H locs cells slots Q (F0 m pc ls (.int (ji z) :: rest)) :=
  lv_tableOut hx hb hd (by rw [ji_toInt hz]; exact h) ht k
end JT
