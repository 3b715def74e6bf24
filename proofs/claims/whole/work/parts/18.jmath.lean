/-! Math.abs and Math.max of longs, over whole numbers; the class of a number as a function -/
theorem wd_abs : Cond.static Lib.MathLoose.abs_long.x ∈ GG ∧ Cond.initialized "java/lang/Math" ∈ GG ∧ Cond.code Lib.MathLoose.abs_long.x Lib.MathLoose.abs_long.code 2 (some .long) ∈ GG := ⟨GG_t 150 rfl rfl, GG_t 12 rfl rfl, GG_t 151 rfl rfl⟩
theorem wd_max : Cond.static Lib.MathLoose.max_long.x ∈ GG ∧ Cond.initialized "java/lang/Math" ∈ GG ∧ Cond.code Lib.MathLoose.max_long.x Lib.MathLoose.max_long.code 4 (some .long) ∈ GG := ⟨GG_t 162 rfl rfl, GG_t 12 rfl rfl, GG_t 163 rfl rfl⟩
section JM
variable {p : Program} {l : Launch} {e : Env} {R : Room} {s : State} {m : MethodId} {args : Array Value} {below : List Frame} {meth : Method} {c : Code} {H : Heap} {locs : List Loc} {cells slots : Nat} {Q : State → Prop} {cc : ByteArray} {pc : Nat} {ls : Array Slot} {rest : List Value}
theorem j_labs (hx : p.tables.exec = Jvm.exec) (hb : c.code = cc) (hml : c.maxLocals = ls.size) {own : String} {index : Nat} (hown : s.vm.findClass own = some m.cls) (hg : ∀ w ∈ GG, w.before args s = true) (h1 : Cond.methodLink own index Lib.MathLoose.abs_long.x ∈ GG) (h2 : Cond.static Lib.MathLoose.abs_long.x ∈ GG ∧ Cond.initialized "java/lang/Math" ∈ GG ∧ Cond.code Lib.MathLoose.abs_long.x Lib.MathLoose.abs_long.code 2 (some .long) ∈ GG) {z : Int} (hz : -9223372036854775807 ≤ z ∧ z ≤ 9223372036854775807)
    (hf : 1 ≤ R.frames) (hlo : (rest.map fun v => v.category).sum + 13 ≤ R.locals) (hc : cells ≤ R.cells) (hs : slots ≤ R.slots) (hd : decode cc pc = .ok (.invokestatic index, 3))
    (k : W p l e R s m args below meth c H locs cells slots Q (F0 m (pc + 3) ls (.long (jl (z.natAbs : Int)) :: rest))) : W p l e R s m args below meth c H locs cells slots Q (F0 m pc ls (.long (jl z) :: rest)) := by
  refine va_mabs_long hx hb hml hown (hg _ h1) (hg _ h2.1) (hg _ h2.2.1) (hg _ h2.2.2) hf hlo hc hs hd ?_
  have e1 : (if 0 < jl z then jl z else -jl z) = jl (z.natAbs : Int) := by
    by_cases h : 0 < z
    · have h9 : (0 : Int64) < jl z := (jl_lt (by decide : b64 0) (by omega)).mpr h
      rw [if_pos h9, show (z.natAbs : Int) = z by omega]
    · have h9 : ¬ (0 : Int64) < jl z := fun q => h ((jl_lt (by decide : b64 0) (by omega)).mp q)
      rw [if_neg h9, show (z.natAbs : Int) = -z by omega]
      exact (Int64.ofInt_neg z).symm
  rw [e1]
  exact k
theorem j_lmax (hx : p.tables.exec = Jvm.exec) (hb : c.code = cc) (hml : c.maxLocals = ls.size) {own : String} {index : Nat} (hown : s.vm.findClass own = some m.cls) (hg : ∀ w ∈ GG, w.before args s = true) (h1 : Cond.methodLink own index Lib.MathLoose.max_long.x ∈ GG) (h2 : Cond.static Lib.MathLoose.max_long.x ∈ GG ∧ Cond.initialized "java/lang/Math" ∈ GG ∧ Cond.code Lib.MathLoose.max_long.x Lib.MathLoose.max_long.code 4 (some .long) ∈ GG) {x y : Int} (hx1 : b64 x) (hy1 : b64 y)
    (hf : 1 ≤ R.frames) (hlo : (rest.map fun v => v.category).sum + 15 ≤ R.locals) (hc : cells ≤ R.cells) (hs : slots ≤ R.slots) (hd : decode cc pc = .ok (.invokestatic index, 3))
    (k : W p l e R s m args below meth c H locs cells slots Q (F0 m (pc + 3) ls (.long (jl (max x y)) :: rest))) : W p l e R s m args below meth c H locs cells slots Q (F0 m pc ls (.long (jl y) :: .long (jl x) :: rest)) := by
  refine va_mmax_long hx hb hml hown (hg _ h1) (hg _ h2.1) (hg _ h2.2.1) (hg _ h2.2.2) hf hlo hc hs hd ?_
  have e1 : (if jl y < jl x then jl x else jl y) = jl (max x y) := by
    by_cases h : y < x
    · rw [if_pos ((jl_lt hy1 hx1).mpr h), show max x y = x by omega]
    · rw [if_neg (fun q => h ((jl_lt hy1 hx1).mp q)), show max x y = y by omega]
  rw [e1]
  exact k
end JM
noncomputable def sf (a : Int) : Int := Classical.epsilon (fun c => sfI a c)
theorem sf_eq {a c : Int} (h : sfI a c) : sf a = c := sfI_uniq (Classical.epsilon_spec ⟨c, h⟩) h
/-- 1 where it holds, else 0 -/
noncomputable def bi (q : Prop) : Int := @ite Int q (Classical.propDecidable q) 1 0
theorem bi_t {q : Prop} (h : q) : bi q = 1 := @if_pos q (Classical.propDecidable q) h Int 1 0
theorem bi_f {q : Prop} (h : ¬ q) : bi q = 0 := @if_neg q (Classical.propDecidable q) h Int 1 0
theorem bi_or (q : Prop) : bi q = 0 ∨ bi q = 1 := by
  by_cases h : q
  · exact Or.inr (bi_t h)
  · exact Or.inl (bi_f h)
theorem nar_bi (q : Prop) : narrow .boolean (.int (ji (bi q))) = .int (ji (bi q)) := by
  rcases bi_or q with h | h <;> rw [h] <;> rfl
theorem sq_b64 {d : Int} (h0 : 0 ≤ d) (h : d ≤ 3037000499) : b64 (d * d) := by
  have h1 : d * d ≤ 3037000499 * 3037000499 := Int.mul_le_mul h h h0 (by omega)
  have h2 : 0 ≤ d * d := Int.mul_nonneg h0 h0
  omega
theorem sq_ge {d : Int} (h : 2 ≤ d) : 2 * d ≤ d * d := Int.mul_le_mul_of_nonneg_right h (by omega)
theorem nd_int {d n : Int} (hd : 0 ≤ d) (hn : 0 ≤ n) : d.toNat ∣ n.toNat ↔ d ∣ n := by
  constructor
  · intro h
    have := Int.natCast_dvd_natCast.mpr h
    rwa [Int.toNat_of_nonneg hd, Int.toNat_of_nonneg hn] at this
  · intro h
    apply Int.natCast_dvd_natCast.mp
    rwa [Int.toNat_of_nonneg hd, Int.toNat_of_nonneg hn]
