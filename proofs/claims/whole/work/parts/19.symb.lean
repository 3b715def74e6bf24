/-! orders, units, remainders, symbols, as whole numbers -/
def od : Nat → Int → Int → Nat
  | 0, _, _ => 0
  | n + 1, r, f => if f ∣ r then od n (r / f) f + 1 else 0
theorem od_le : ∀ (n : Nat) (r f : Int), od n r f ≤ n := by
  intro n
  induction n with
  | zero => intro r f; exact Nat.le_refl 0
  | succ n ih =>
    intro r f
    show (if f ∣ r then od n (r / f) f + 1 else 0) ≤ n + 1
    by_cases h : f ∣ r
    · rw [if_pos h]; exact Nat.succ_le_succ (ih _ _)
    · rw [if_neg h]; exact Nat.zero_le _
/-- by what a unit is told: 8 at 2, p elsewhere -/
def um (p : Int) : Int := if p = 2 then 8 else p
def un (a p : Int) : Int := wo 64 a p % um p
theorem um_pos {p : Int} (h : 1 < p) : 1 < um p := by
  unfold um
  by_cases h2 : p = 2
  · rw [if_pos h2]; decide
  · rw [if_neg h2]; exact h
/-- Euler: u is a remainder of a square -/
def qr (u p : Nat) : Prop := u ^ ((p - 1) / 2) % p = 1
theorem pw_add (u a b p : Nat) : (u ^ a % p) * (u ^ b % p) % p = u ^ (a + b) % p := by rw [← Nat.mul_mod, ← Nat.pow_add]
theorem pw_dbl (u k p : Nat) : (u ^ 2 ^ k % p) * (u ^ 2 ^ k % p) % p = u ^ 2 ^ (k + 1) % p := by rw [pw_add, Nat.pow_succ, Nat.mul_two]
theorem pw_bit1 {u E k p : Nat} (h : E / 2 ^ k % 2 = 1) : (u ^ (E % 2 ^ k) % p) * (u ^ 2 ^ k % p) % p = u ^ (E % 2 ^ (k + 1)) % p := by
  rw [pw_add, Nat.mod_pow_succ, h, Nat.mul_one]
theorem pw_bit0 {E k : Nat} (h : E / 2 ^ k % 2 ≠ 1) : E % 2 ^ (k + 1) = E % 2 ^ k := by
  have h1 : E / 2 ^ k % 2 = 0 := by omega
  rw [Nat.mod_pow_succ, h1, Nat.mul_zero, Nat.add_zero]
theorem tm_nat (x y : Nat) : (x : Int).tmod (y : Int) = ((x % y : Nat) : Int) := by rw [Int.tmod_eq_emod_of_nonneg (by omega), Int.natCast_emod]
theorem td_nat (x y : Nat) : (x : Int).tdiv (y : Int) = ((x / y : Nat) : Int) := by rw [Int.tdiv_eq_ediv_of_nonneg (by omega), Int.natCast_ediv]
theorem td_nn {x y : Int} (hx : 0 ≤ x) : x.tdiv y = x / y := Int.tdiv_eq_ediv_of_nonneg hx
theorem tm_nn {x y : Int} (hx : 0 ≤ x) : x.tmod y = x % y := Int.tmod_eq_emod_of_nonneg hx
theorem ji_nI (n : Nat) : ji (n : Int) = nI n := Int32.ofInt_eq_ofNat
theorem sh_cnt : ∀ n, n < 32 → ((nI n &&& 31).toBitVec.smod 32).toNat = n := by decide +kernel
theorem ji_shr {e b : Nat} (he : e < 2147483648) (hb : b < 32) : ji (e : Int) >>> (ji (b : Int) &&& 31) = ji ((e / 2 ^ b : Nat) : Int) := by
  rw [ji_nI, ji_nI, ji_nI]
  exact pk_shrN (by omega) _ b (sh_cnt b hb)
section JSH
variable {p : Program} {l : Launch} {e : Env} {R : Room} {s : State} {m : MethodId} {args : Array Value} {below : List Frame} {meth : Method} {c : Code} {H : Heap} {locs : List Loc} {cells slots : Nat} {Q : State → Prop} {cc : ByteArray} {pc : Nat} {ls : Array Slot} {rest : List Value}
theorem j_ishr (hx : p.tables.exec = Jvm.exec) (hb : c.code = cc) {x b : Nat} (h1 : x < 2147483648) (h2 : b < 32) (hd : decode cc pc = .ok (.ishr, 1)) (k : W p l e R s m args below meth c H locs cells slots Q (F0 m (pc + 1) ls (.int (ji ((x / 2 ^ b : Nat) : Int)) :: rest))) : W p l e R s m args below meth c H locs cells slots Q (F0 m pc ls (.int (ji (b : Int)) :: .int (ji (x : Int)) :: rest)) :=
  lv_ishr hx hb hd (by rw [ji_shr h1 h2]; exact k)
theorem msb_neg (x : Int64) : x < 0 ↔ x.toBitVec.msb = true := by
  rw [Int64.lt_iff_toInt_lt, BitVec.msb_eq_toInt]
  simp
theorem jl_xneg {x y : Int} (hx : b64 x) (hy : b64 y) (h : 0 < y) : (jl x ^^^ jl y) < 0 ↔ x < 0 := by
  have h1 : (jl y).toBitVec.msb = false := by
    cases hm : (jl y).toBitVec.msb with
    | false => rfl
    | true =>
      have := (jl_lt hy (by decide : b64 0)).mp ((msb_neg (jl y)).mpr hm)
      omega
  rw [msb_neg, Int64.toBitVec_xor, BitVec.msb_xor, h1, Bool.xor_false, ← msb_neg]
  exact jl_lt hx (by decide : b64 0)
/-- lxor, lconst_0, lcmp, ifge: whether x is below 0 (where y is above) -/
theorem j_xge (hx : p.tables.exec = Jvm.exec) (hb : c.code = cc) {x y : Int} {off : Int} {tgt : Nat} (h1 : b64 x) (h2 : b64 y) (h3 : 0 < y) (hd0 : decode cc pc = .ok (.lxor, 1)) (hd1 : decode cc (pc + 1) = .ok (.lconst 0, 1)) (hd2 : decode cc (pc + 1 + 1) = .ok (.lcmp, 1)) (hd3 : decode cc (pc + 1 + 1 + 1) = .ok (.ifCond .ge off, 3)) (ht : ((pc + 1 + 1 + 1 : Nat) : Int) + off = (tgt : Int))
    (kt : 0 ≤ x → W p l e R s m args below meth c H locs cells slots Q (F0 m tgt ls rest)) (kf : x < 0 → W p l e R s m args below meth c H locs cells slots Q (F0 m (pc + 1 + 1 + 1 + 3) ls rest)) : W p l e R s m args below meth c H locs cells slots Q (F0 m pc ls (.long (jl y) :: .long (jl x) :: rest)) := by
  refine lv_lxor hx hb hd0 ?_
  obtain ⟨z, hz, e1⟩ := jl_of (jl x ^^^ jl y)
  have h9 := jl_xneg h1 h2 h3
  rw [e1] at h9 ⊢
  have h9 : z < 0 ↔ x < 0 := (jl_lt hz (by decide : b64 0)).symm.trans h9
  refine j_lconst0 hx hb hd1 ?_
  exact j_lc_ge hx hb hz (by decide) hd2 hd3 ht (fun h => kt (by omega)) (fun h => kf (by omega))
end JSH
/-- the symbol out of orders and units -/
def s2 (e f u w : Int) : Int := if ((u - 1) / 2 * ((w - 1) / 2) + e * ((w * w - 1) / 8) + f * ((u * u - 1) / 8)) % 2 = 0 then 1 else -1
noncomputable def so (e f u w p : Int) : Int := (if e * f * ((p - 1) / 2) % 2 = 0 then 1 else -1) * (1 - 2 * bi (f = 1 ∧ ¬ qr u.toNat p.toNat)) * (1 - 2 * bi (e = 1 ∧ ¬ qr w.toNat p.toNat))
noncomputable def sF (e f u w p : Int) : Int := if p = 2 then s2 e f u w else so e f u w p
noncomputable def sy (a b p : Int) : Int := if p = 0 then (if a < 0 ∧ b < 0 then -1 else 1) else sF (od 64 a p % 2 : Nat) (od 64 b p % 2 : Nat) (un a p) (un b p) p
/-- a is a square at p -/
def sq (a p : Int) : Prop := if p = 0 then 0 < a else od 64 a p % 2 = 0 ∧ (if p = 2 then un a p = 1 else qr (un a p).toNat p.toNat)
theorem un_lt {a p : Int} (h : 1 < p) : 0 ≤ un a p ∧ un a p < um p := ⟨Int.emod_nonneg _ (by have := um_pos h; omega), Int.emod_lt_of_pos _ (by have := um_pos h; omega)⟩
theorem un_odd {a : Int} (h : a ≠ 0) (hb : b64 a) : un a 2 % 2 = 1 := by
  have h1 := wo_out 64 a 2 (by decide) h (by omega)
  have h2 : un a 2 = wo 64 a 2 % 8 := rfl
  omega
theorem bi_b32 (q : Prop) : b32 (bi q) := by rcases bi_or q with h | h <;> rw [h] <;> decide
theorem bi_ne {q : Prop} (h : bi q ≠ 0) : q := Classical.byContradiction fun hq => h (bi_f hq)
theorem bi_eq {q : Prop} (h : bi q = 0) : ¬ q := fun hq => by rw [bi_t hq] at h; omega
theorem fm_neg {x y : Int} (hx : x < 0) (hy : 0 < y) (h : x.tmod y ≠ 0) : x.tmod y + y = x % y := by
  rw [Int.tmod_eq_emod, if_neg (fun q => by
    rcases q with q | q
    · omega
    · exact h (tm_0.mpr q))]
  omega
theorem mod0_of_tm {x y : Int} (h : x.tmod y = 0) : x % y = 0 := Int.emod_eq_zero_of_dvd (tm_0.mp h)
theorem s2_all {e f u w : Int} (he : 0 ≤ e ∧ e ≤ 1) (hf : 0 ≤ f ∧ f ≤ 1) (hu : 1 ≤ u ∧ u ≤ 7) (hw : 1 ≤ w ∧ w ≤ 7) :
    (u - 1).tdiv 2 * (w - 1).tdiv 2 + e * (w * w - 1).tdiv 8 + f * (u * u - 1).tdiv 8 = (u - 1) / 2 * ((w - 1) / 2) + e * ((w * w - 1) / 8) + f * ((u * u - 1) / 8) ∧ 0 ≤ (u - 1) / 2 * ((w - 1) / 2) + e * ((w * w - 1) / 8) + f * ((u * u - 1) / 8) ∧ (u - 1) / 2 * ((w - 1) / 2) + e * ((w * w - 1) / 8) + f * ((u * u - 1) / 8) ≤ 21 := by
  have hu : u = 1 ∨ u = 2 ∨ u = 3 ∨ u = 4 ∨ u = 5 ∨ u = 6 ∨ u = 7 := by omega
  have hw : w = 1 ∨ w = 2 ∨ w = 3 ∨ w = 4 ∨ w = 5 ∨ w = 6 ∨ w = 7 := by omega
  have he : e = 0 ∨ e = 1 := by omega
  have hf : f = 0 ∨ f = 1 := by omega
  rcases he with rfl | rfl <;> rcases hf with rfl | rfl <;> rcases hu with rfl | rfl | rfl | rfl | rfl | rfl | rfl <;> rcases hw with rfl | rfl | rfl | rfl | rfl | rfl | rfl <;> decide
theorem bit_mul {e f : Int} (he : 0 ≤ e ∧ e ≤ 1) (hf : 0 ≤ f ∧ f ≤ 1) : 0 ≤ e * f ∧ e * f ≤ 1 := by
  have he : e = 0 ∨ e = 1 := by omega
  have hf : f = 0 ∨ f = 1 := by omega
  rcases he with rfl | rfl <;> rcases hf with rfl | rfl <;> decide
theorem bit_mulb {z p : Int} (hz : 0 ≤ z ∧ z ≤ 1) (hp : 0 ≤ p) : 0 ≤ z * p ∧ z * p ≤ p := by
  have hz : z = 0 ∨ z = 1 := by omega
  rcases hz with rfl | rfl <;> omega
theorem dv_b32 {E k : Nat} (h : E ≤ 2147483647) : b32 ((E / 2 ^ k : Nat) : Int) := by
  have h1 := Nat.div_le_self E (2 ^ k)
  generalize E / 2 ^ k = D at h1
  omega
theorem bi_iff {q r : Prop} (h : q ↔ r) : bi q = bi r := by
  by_cases hq : q
  · rw [bi_t hq, bi_t (h.mp hq)]
  · rw [bi_f hq, bi_f (fun z => hq (h.mpr z))]
