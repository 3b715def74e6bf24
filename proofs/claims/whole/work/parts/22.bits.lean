/-! rows and numbers that the reference's own methods ask for -/
theorem jl_nat (n : Nat) : jl (n : Int) = Int64.ofNat n := Int64.ofInt_eq_ofNat
theorem jl_and1 (e : Nat) : jl (e : Int) &&& jl 1 = jl ((e % 2 : Nat) : Int) := by
  rw [show jl 1 = Int64.ofNat 1 from rfl, jl_nat, jl_nat]
  apply Int64.toBitVec.inj
  rw [Int64.toBitVec_and, Int64.toBitVec_ofNat', Int64.toBitVec_ofNat', Int64.toBitVec_ofNat']
  apply BitVec.eq_of_toNat_eq
  rw [BitVec.toNat_and, BitVec.toNat_ofNat, BitVec.toNat_ofNat, BitVec.toNat_ofNat, Nat.mod_eq_of_lt (show 1 < 2 ^ 64 by decide), Nat.and_one_is_mod]
  omega
theorem jl_shr1 {e : Nat} (h : e < 4611686018427387904) : jl (e : Int) >>> ((ji 1).toInt64 &&& 63) = jl ((e / 2 : Nat) : Int) := by
  apply Int64.toInt_inj.mp
  have e1 : (jl (e : Int) >>> ((ji 1).toInt64 &&& 63)).toInt = (jl (e : Int)).toInt >>> 1 := by
    have hD : (((ji 1).toInt64 &&& 63).toBitVec.smod 64).toNat = 1 := by decide +kernel
    conv => rhs; rw [← hD]
    exact BitVec.toInt_sshiftRight ..
  rw [e1, Int.shiftRight_eq_div_pow, jl_toInt (by omega), jl_toInt (by omega)]
  rfl
section JB
variable {p : Program} {l : Launch} {e : Env} {R : Room} {s : State} {m : MethodId} {args : Array Value} {below : List Frame} {meth : Method} {c : Code} {H : Heap} {locs : List Loc} {cells slots : Nat} {Q : State → Prop} {cc : ByteArray} {pc : Nat} {ls : Array Slot} {rest : List Value}
theorem j_land1 (hx : p.tables.exec = Jvm.exec) (hb : c.code = cc) {x : Nat} (hd : decode cc pc = .ok (.land, 1)) (k : W p l e R s m args below meth c H locs cells slots Q (F0 m (pc + 1) ls (.long (jl ((x % 2 : Nat) : Int)) :: rest))) : W p l e R s m args below meth c H locs cells slots Q (F0 m pc ls (.long (jl 1) :: .long (jl (x : Int)) :: rest)) :=
  lv_land hx hb hd (by rw [jl_and1]; exact k)
theorem j_lshr1 (hx : p.tables.exec = Jvm.exec) (hb : c.code = cc) {x : Nat} (h : x < 4611686018427387904) (hd : decode cc pc = .ok (.lshr, 1)) (k : W p l e R s m args below meth c H locs cells slots Q (F0 m (pc + 1) ls (.long (jl ((x / 2 : Nat) : Int)) :: rest))) : W p l e R s m args below meth c H locs cells slots Q (F0 m pc ls (.int (ji 1) :: .long (jl (x : Int)) :: rest)) :=
  lv_lshr hx hb hd (jl_shr1 h) k
end JB
def oM (a p : Int) : Int := if p ∣ a then 1 else 0
def uM (a p : Int) : Int := (if p ∣ a then a / p else a) % um p
noncomputable def syM (a b p : Int) : Int := if p = 0 then (if a < 0 ∧ b < 0 then -1 else 1) else sF (oM a p) (oM b p) (uM a p) (uM b p) p
def sqM (a p : Int) : Prop := if p = 0 then 0 < a else ¬ p ∣ a ∧ (if p = 2 then uM a p = 1 else qr (uM a p).toNat p.toNat)
theorem uM_lt {a p : Int} (h : 1 < p) : 0 ≤ uM a p ∧ uM a p < um p := ⟨Int.emod_nonneg _ (by have := um_pos h; omega), Int.emod_lt_of_pos _ (by have := um_pos h; omega)⟩
theorem oM_bd (a p : Int) : 0 ≤ oM a p ∧ oM a p ≤ 1 := by
  unfold oM
  by_cases h : p ∣ a
  · rw [if_pos h]; decide
  · rw [if_neg h]; decide
theorem uM_odd {a : Int} (h : ¬ (4 : Int) ∣ a) : uM a 2 % 2 = 1 := by
  unfold uM um
  by_cases h2 : (2 : Int) ∣ a
  · rw [if_pos h2, if_pos rfl]; omega
  · rw [if_neg h2, if_pos rfl]; omega
/-- the power's loop from above: x ^ e is still owed -/
theorem pw_step0 {u x w E e p : Nat} (h : w * x ^ e % p = u ^ E % p) (he : e % 2 = 0) : w * (x * x % p) ^ (e / 2) % p = u ^ E % p := by
  rw [← h, Nat.mul_mod, ← Nat.pow_mod, ← Nat.mul_mod]
  have e1 : x ^ e = (x * x) ^ (e / 2) := by
    rw [← Nat.pow_two, ← Nat.pow_mul, show 2 * (e / 2) = e by omega]
  rw [e1]
theorem pw_step1 {u x w E e p : Nat} (h : w * x ^ e % p = u ^ E % p) (he : e % 2 = 1) : (w * x % p) * (x * x % p) ^ (e / 2) % p = u ^ E % p := by
  rw [← h, Nat.mul_mod, ← Nat.pow_mod, Nat.mod_mod, ← Nat.mul_mod]
  have e1 : x ^ e = x * (x * x) ^ (e / 2) := by
    have h2 : (x * x) ^ (e / 2) = x ^ (e - 1) := by rw [← Nat.pow_two, ← Nat.pow_mul, show 2 * (e / 2) = e - 1 by omega]
    rw [h2, Nat.mul_comm, ← Nat.pow_succ, show (e - 1).succ = e by omega]
  rw [e1, Nat.mul_assoc]
