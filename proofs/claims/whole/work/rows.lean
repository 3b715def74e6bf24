section
-- ===== PART A: goes FIRST, ahead of the names: the tables' words, and 'selects' of the private methods out of them =====
/-- a private method of a class that the tables say can be made, by its rows of tables_1 -/
def lw_okq (q : MethodName × Nat) : Prop := (q.1.cls ≠ "java/lang/invoke/MethodHandle" ∧ q.1.cls ≠ "java/lang/invoke/VarHandle") ∧ Cond.instantiable q.1.cls q.2 ∈ tables_1 ∧ Cond.privateMethod q.1 ∈ tables_1 ∧ Cond.instanceMethod q.1 ∈ tables_1
theorem lw_p0 : lw_okq (⟨"RationalForms", "diagonalOf", "(I)LRationalForms$Diagonal;"⟩, 4) := ⟨⟨by decide +kernel, by decide +kernel⟩, List.mem_of_getElem? (i := 16) (by decide +kernel), List.mem_of_getElem? (i := 114) (by decide +kernel), List.mem_of_getElem? (i := 115) (by decide +kernel)⟩
theorem lw_p1 : lw_okq (⟨"RationalForms$Reduction", "copyNumbers", "(LRationalForms$Form;)V"⟩, 2) := ⟨⟨by decide +kernel, by decide +kernel⟩, List.mem_of_getElem? (i := 28) (by decide +kernel), List.mem_of_getElem? (i := 122) (by decide +kernel), List.mem_of_getElem? (i := 123) (by decide +kernel)⟩
theorem lw_p2 : lw_okq (⟨"RationalForms$Diagonal", "addPrime", "(I)V"⟩, 8) := ⟨⟨by decide +kernel, by decide +kernel⟩, List.mem_of_getElem? (i := 61) (by decide +kernel), List.mem_of_getElem? (i := 130) (by decide +kernel), List.mem_of_getElem? (i := 131) (by decide +kernel)⟩
theorem lw_p3 : lw_okq (⟨"RationalForms$Reduction", "bringPivot", "(I)Z"⟩, 2) := ⟨⟨by decide +kernel, by decide +kernel⟩, List.mem_of_getElem? (i := 28) (by decide +kernel), List.mem_of_getElem? (i := 134) (by decide +kernel), List.mem_of_getElem? (i := 135) (by decide +kernel)⟩
theorem lw_p4 : lw_okq (⟨"RationalForms$Reduction", "swapVariables", "(II)V"⟩, 2) := ⟨⟨by decide +kernel, by decide +kernel⟩, List.mem_of_getElem? (i := 28) (by decide +kernel), List.mem_of_getElem? (i := 138) (by decide +kernel), List.mem_of_getElem? (i := 139) (by decide +kernel)⟩
theorem lw_p5 : lw_okq (⟨"RationalForms$Reduction", "addVariable", "(III)V"⟩, 2) := ⟨⟨by decide +kernel, by decide +kernel⟩, List.mem_of_getElem? (i := 28) (by decide +kernel), List.mem_of_getElem? (i := 142) (by decide +kernel), List.mem_of_getElem? (i := 143) (by decide +kernel)⟩
theorem lw_p6 : lw_okq (⟨"RationalForms$Reduction", "eliminate", "(IJJ)V"⟩, 2) := ⟨⟨by decide +kernel, by decide +kernel⟩, List.mem_of_getElem? (i := 28) (by decide +kernel), List.mem_of_getElem? (i := 177) (by decide +kernel), List.mem_of_getElem? (i := 178) (by decide +kernel)⟩
theorem lw_p7 : lw_okq (⟨"RationalForms", "checkForm", "(I)V"⟩, 4) := ⟨⟨by decide +kernel, by decide +kernel⟩, List.mem_of_getElem? (i := 16) (by decide +kernel), List.mem_of_getElem? (i := 221) (by decide +kernel), List.mem_of_getElem? (i := 222) (by decide +kernel)⟩
theorem lw_p8 : lw_okq (⟨"java/lang/Throwable", "fillInStackTrace", "(I)Ljava/lang/Throwable;"⟩, 6) := ⟨⟨by decide +kernel, by decide +kernel⟩, List.mem_of_getElem? (i := 263) (by decide +kernel), List.mem_of_getElem? (i := 261) (by decide +kernel), List.mem_of_getElem? (i := 262) (by decide +kernel)⟩
theorem lw_p9 : lw_okq (⟨"RationalForms", "checkPlace", "(I)V"⟩, 4) := ⟨⟨by decide +kernel, by decide +kernel⟩, List.mem_of_getElem? (i := 16) (by decide +kernel), List.mem_of_getElem? (i := 363) (by decide +kernel), List.mem_of_getElem? (i := 364) (by decide +kernel)⟩
theorem lw_p10 : lw_okq (⟨"RationalForms$Diagonal", "lowestPrimeWithoutRoot", "(I)I"⟩, 8) := ⟨⟨by decide +kernel, by decide +kernel⟩, List.mem_of_getElem? (i := 61) (by decide +kernel), List.mem_of_getElem? (i := 406) (by decide +kernel), List.mem_of_getElem? (i := 407) (by decide +kernel)⟩
theorem lw_p11 : lw_okq (⟨"RationalForms", "checkArgument", "(I)V"⟩, 4) := ⟨⟨by decide +kernel, by decide +kernel⟩, List.mem_of_getElem? (i := 16) (by decide +kernel), List.mem_of_getElem? (i := 418) (by decide +kernel), List.mem_of_getElem? (i := 419) (by decide +kernel)⟩
theorem lw_p12 : lw_okq (⟨"RationalFormsModel", "look", "(I)V"⟩, 13) := ⟨⟨by decide +kernel, by decide +kernel⟩, List.mem_of_getElem? (i := 454) (by decide +kernel), List.mem_of_getElem? (i := 519) (by decide +kernel), List.mem_of_getElem? (i := 520) (by decide +kernel)⟩
theorem lw_p13 : lw_okq (⟨"RationalFormsModel", "addPrime", "(J)V"⟩, 13) := ⟨⟨by decide +kernel, by decide +kernel⟩, List.mem_of_getElem? (i := 454) (by decide +kernel), List.mem_of_getElem? (i := 524) (by decide +kernel), List.mem_of_getElem? (i := 525) (by decide +kernel)⟩
theorem lw_p14 : lw_okq (⟨"RationalFormsModel", "bring", "(II)Z"⟩, 13) := ⟨⟨by decide +kernel, by decide +kernel⟩, List.mem_of_getElem? (i := 454) (by decide +kernel), List.mem_of_getElem? (i := 528) (by decide +kernel), List.mem_of_getElem? (i := 529) (by decide +kernel)⟩
theorem lw_p15 : lw_okq (⟨"RationalFormsModel", "addTo", "(IIII)V"⟩, 13) := ⟨⟨by decide +kernel, by decide +kernel⟩, List.mem_of_getElem? (i := 454) (by decide +kernel), List.mem_of_getElem? (i := 532) (by decide +kernel), List.mem_of_getElem? (i := 533) (by decide +kernel)⟩
def lw_privs_1 : List (MethodName × Nat) := [(⟨"RationalForms", "diagonalOf", "(I)LRationalForms$Diagonal;"⟩, 4), (⟨"RationalForms$Reduction", "copyNumbers", "(LRationalForms$Form;)V"⟩, 2), (⟨"RationalForms$Diagonal", "addPrime", "(I)V"⟩, 8), (⟨"RationalForms$Reduction", "bringPivot", "(I)Z"⟩, 2), (⟨"RationalForms$Reduction", "swapVariables", "(II)V"⟩, 2), (⟨"RationalForms$Reduction", "addVariable", "(III)V"⟩, 2), (⟨"RationalForms$Reduction", "eliminate", "(IJJ)V"⟩, 2), (⟨"RationalForms", "checkForm", "(I)V"⟩, 4), (⟨"java/lang/Throwable", "fillInStackTrace", "(I)Ljava/lang/Throwable;"⟩, 6), (⟨"RationalForms", "checkPlace", "(I)V"⟩, 4), (⟨"RationalForms$Diagonal", "lowestPrimeWithoutRoot", "(I)I"⟩, 8), (⟨"RationalForms", "checkArgument", "(I)V"⟩, 4), (⟨"RationalFormsModel", "look", "(I)V"⟩, 13), (⟨"RationalFormsModel", "addPrime", "(J)V"⟩, 13), (⟨"RationalFormsModel", "bring", "(II)Z"⟩, 13), (⟨"RationalFormsModel", "addTo", "(IIII)V"⟩, 13)]
theorem lw_r1 : ∀ q ∈ lw_privs_1, lw_okq q := List.forall_mem_cons.mpr ⟨lw_p0, List.forall_mem_cons.mpr ⟨lw_p1, List.forall_mem_cons.mpr ⟨lw_p2, List.forall_mem_cons.mpr ⟨lw_p3, List.forall_mem_cons.mpr ⟨lw_p4, List.forall_mem_cons.mpr ⟨lw_p5, List.forall_mem_cons.mpr ⟨lw_p6, List.forall_mem_cons.mpr ⟨lw_p7, List.forall_mem_cons.mpr ⟨lw_p8, List.forall_mem_cons.mpr ⟨lw_p9, List.forall_mem_cons.mpr ⟨lw_p10, List.forall_mem_cons.mpr ⟨lw_p11, List.forall_mem_cons.mpr ⟨lw_p12, List.forall_mem_cons.mpr ⟨lw_p13, List.forall_mem_cons.mpr ⟨lw_p14, List.forall_mem_cons.mpr ⟨lw_p15, fun _ h => absurd h List.not_mem_nil⟩⟩⟩⟩⟩⟩⟩⟩⟩⟩⟩⟩⟩⟩⟩⟩
theorem lw_p16 : lw_okq (⟨"RationalFormsModel", "addPrimes", "(J)V"⟩, 13) := ⟨⟨by decide +kernel, by decide +kernel⟩, List.mem_of_getElem? (i := 454) (by decide +kernel), List.mem_of_getElem? (i := 540) (by decide +kernel), List.mem_of_getElem? (i := 541) (by decide +kernel)⟩
theorem lw_p17 : lw_okq (⟨"RationalFormsModel", "hasseOf", "(IJ)I"⟩, 13) := ⟨⟨by decide +kernel, by decide +kernel⟩, List.mem_of_getElem? (i := 454) (by decide +kernel), List.mem_of_getElem? (i := 577) (by decide +kernel), List.mem_of_getElem? (i := 578) (by decide +kernel)⟩
theorem lw_p18 : lw_okq (⟨"RationalFormsModel", "isZeroAt", "(IJZJ)Z"⟩, 13) := ⟨⟨by decide +kernel, by decide +kernel⟩, List.mem_of_getElem? (i := 454) (by decide +kernel), List.mem_of_getElem? (i := 585) (by decide +kernel), List.mem_of_getElem? (i := 586) (by decide +kernel)⟩
theorem lw_p19 : lw_okq (⟨"RationalFormsModel", "obstacleOf", "(IJZ)I"⟩, 13) := ⟨⟨by decide +kernel, by decide +kernel⟩, List.mem_of_getElem? (i := 454) (by decide +kernel), List.mem_of_getElem? (i := 596) (by decide +kernel), List.mem_of_getElem? (i := 597) (by decide +kernel)⟩
theorem lw_p20 : lw_okq (⟨"RationalFormsModel", "noteSigns", "()V"⟩, 13) := ⟨⟨by decide +kernel, by decide +kernel⟩, List.mem_of_getElem? (i := 454) (by decide +kernel), List.mem_of_getElem? (i := 608) (by decide +kernel), List.mem_of_getElem? (i := 609) (by decide +kernel)⟩
def lw_privs_2 : List (MethodName × Nat) := [(⟨"RationalFormsModel", "addPrimes", "(J)V"⟩, 13), (⟨"RationalFormsModel", "hasseOf", "(IJ)I"⟩, 13), (⟨"RationalFormsModel", "isZeroAt", "(IJZJ)Z"⟩, 13), (⟨"RationalFormsModel", "obstacleOf", "(IJZ)I"⟩, 13), (⟨"RationalFormsModel", "noteSigns", "()V"⟩, 13)]
theorem lw_r2 : ∀ q ∈ lw_privs_2, lw_okq q := List.forall_mem_cons.mpr ⟨lw_p16, List.forall_mem_cons.mpr ⟨lw_p17, List.forall_mem_cons.mpr ⟨lw_p18, List.forall_mem_cons.mpr ⟨lw_p19, List.forall_mem_cons.mpr ⟨lw_p20, fun _ h => absurd h List.not_mem_nil⟩⟩⟩⟩⟩
def lw_privs : List (MethodName × Nat) := lw_privs_1 ++ (lw_privs_2)
def lw_tbl : List Cond := k2_sels lw_privs ++ tables_1
theorem lw_privs_ok : ∀ q ∈ lw_privs, lw_okq q := by
  show ∀ q ∈ lw_privs_1 ++ (lw_privs_2), lw_okq q
  exact List.forall_mem_append.mpr ⟨lw_r1, lw_r2⟩
end
section
/-! one list of words for every method: those of the tables that stay true where the tables get warmer -/
def wk2 : Cond → Bool
  | .fieldLinkNest .. => true
  | .methodLinkNest .. => true
  | .stringRef .. => true
  | _ => false
def wk (w : Cond) : Bool := goodWord w || wk2 w
def GG : List Cond := lw_tbl.filter wk
theorem GG_t {w : Cond} (i : Nat) (h : tables_1[i]? = some w) (hk : wk w = true) : w ∈ GG := List.mem_filter.mpr ⟨List.mem_append_right _ (List.mem_of_getElem? h), hk⟩
theorem GG_s {w : Cond} (i : Nat) (h : (k2_sels lw_privs)[i]? = some w) (hk : wk w = true) : w ∈ GG := List.mem_filter.mpr ⟨List.mem_append_left _ (List.mem_of_getElem? h), hk⟩
theorem GG_wk {w : Cond} (h : w ∈ GG) : wk w = true := (List.mem_filter.mp h).2
theorem wk_warm {w : Cond} (hk : wk w = true) {args a' : Array Value} {s U : State} (hW : s.WarmedH U.vm) (h : w.before args s = true) : w.before a' U = true := by
  by_cases hg : goodWord w = true
  · exact word_at hW (good_of_word hg) h
  · have h2 : wk2 w = true := by
      simp only [wk, Bool.or_eq_true] at hk
      exact hk.resolve_left hg
    cases w with
    | fieldLinkNest a i b n d hh => exact va_tabs rfl (rfl : (s.setVm U.vm).vm = U.vm) (Cond.fieldLinkNest_warmed (args := args) hW h)
    | methodLinkNest a i x hh => exact va_tabs rfl (rfl : (s.setVm U.vm).vm = U.vm) (Cond.methodLinkNest_warmed (args := args) hW h)
    | stringRef o k tx =>
      have h1 := Cond.stringRef_warmed hW h
      simp only [Cond.before, Cond.holds, Cond.value, State.names, State.poolOf?, State.resolvedAt?] at h1 ⊢
      exact h1
    | _ => cases h2
theorem GG_warm {w : Cond} (hw : w ∈ GG) {args a' : Array Value} {s U : State} (hW : s.WarmedH U.vm) (h : w.before args s = true) : w.before a' U = true := wk_warm (GG_wk hw) hW h
/-- the room of a method that nests at most d calls and makes nothing -/
abbrev rmd (d : Nat) : Room := { frames := d, cells := 0, slots := 0, locals := 60 * d }
end
section
/-! numbers of the machine by whole numbers: ji z, jl z; a row an instruction over them -/
abbrev ji (z : Int) : Int32 := Int32.ofInt z
abbrev jl (z : Int) : Int64 := Int64.ofInt z
abbrev b32 (z : Int) : Prop := -2147483648 ≤ z ∧ z ≤ 2147483647
abbrev b64 (z : Int) : Prop := -9223372036854775808 ≤ z ∧ z ≤ 9223372036854775807
theorem ji_le {x y : Int} (hx : b32 x) (hy : b32 y) : ji x ≤ ji y ↔ x ≤ y := Int32.ofInt_le_iff_le hx.1 hx.2 hy.1 hy.2
theorem ji_lt {x y : Int} (hx : b32 x) (hy : b32 y) : ji x < ji y ↔ x < y := Int32.ofInt_lt_iff_lt hx.1 hx.2 hy.1 hy.2
theorem jl_le {x y : Int} (hx : b64 x) (hy : b64 y) : jl x ≤ jl y ↔ x ≤ y := Int64.ofInt_le_iff_le hx.1 hx.2 hy.1 hy.2
theorem jl_lt {x y : Int} (hx : b64 x) (hy : b64 y) : jl x < jl y ↔ x < y := Int64.ofInt_lt_iff_lt hx.1 hx.2 hy.1 hy.2
theorem ji_toInt {x : Int} (hx : b32 x) : (ji x).toInt = x := Int32.toInt_ofInt_of_le (by have := hx.1; omega) (by have := hx.2; omega)
theorem jl_toInt {x : Int} (hx : b64 x) : (jl x).toInt = x := Int64.toInt_ofInt_of_le (by have := hx.1; omega) (by have := hx.2; omega)
theorem ji_eq {x y : Int} (hx : b32 x) (hy : b32 y) : ji x = ji y ↔ x = y :=
  ⟨fun h => by rw [← ji_toInt hx, ← ji_toInt hy, h], fun h => by rw [h]⟩
theorem jl_eq {x y : Int} (hx : b64 x) (hy : b64 y) : jl x = jl y ↔ x = y :=
  ⟨fun h => by rw [← jl_toInt hx, ← jl_toInt hy, h], fun h => by rw [h]⟩
theorem ji_0 : ji 0 = 0 := rfl
theorem jl_0 : jl 0 = 0 := rfl
theorem ji_of (x : Int32) : ∃ z : Int, b32 z ∧ x = ji z := ⟨x.toInt, ⟨x.le_toInt, by have := x.toInt_lt; omega⟩, (Int32.ofInt_toInt x).symm⟩
theorem jl_of (x : Int64) : ∃ z : Int, b64 z ∧ x = jl z := ⟨x.toInt, ⟨x.le_toInt, by have := x.toInt_lt; omega⟩, (Int64.ofInt_toInt x).symm⟩
theorem ji_div {x y : Int} (hx : b32 x) (hy : b32 y) : ji x / ji y = ji (x.tdiv y) := (Int32.ofInt_tdiv hx.1 hx.2 hy.1 hy.2).symm
theorem jl_div {x y : Int} (hx : b64 x) (hy : b64 y) : jl x / jl y = jl (x.tdiv y) := (Int64.ofInt_tdiv hx.1 hx.2 hy.1 hy.2).symm
theorem ji_rem {x y : Int} (hx : b32 x) (hy : b32 y) : ji x - ji x / ji y * ji y = ji (x.tmod y) := by
  rw [ji_div hx hy, Int.tmod_def]
  show Int32.ofInt x - Int32.ofInt (x.tdiv y) * Int32.ofInt y = Int32.ofInt (x - y * x.tdiv y)
  rw [Int32.ofInt_sub, Int32.ofInt_mul, Int32.mul_comm]
theorem jl_rem {x y : Int} (hx : b64 x) (hy : b64 y) : jl x - jl x / jl y * jl y = jl (x.tmod y) := by
  rw [jl_div hx hy, Int.tmod_def]
  show Int64.ofInt x - Int64.ofInt (x.tdiv y) * Int64.ofInt y = Int64.ofInt (x - y * x.tdiv y)
  rw [Int64.ofInt_sub, Int64.ofInt_mul, Int64.mul_comm]
theorem ji_l {x : Int} (hx : b32 x) : (ji x).toInt64 = jl x := Int32.toInt64_ofInt hx.1 hx.2
theorem jl_i (x : Int) : (jl x).toInt32 = ji x := Int64.toInt32_ofInt
theorem ji_nz {x : Int} (hx : b32 x) (h : x ≠ 0) : ¬ ji x = 0 := fun q => h ((ji_eq hx (by decide)).mp (q.trans ji_0.symm))
theorem jl_nz {x : Int} (hx : b64 x) (h : x ≠ 0) : ¬ jl x = 0 := fun q => h ((jl_eq hx (by decide)).mp (q.trans jl_0.symm))
theorem ji_nat {x : Int} (hx : b32 x) (h : 0 ≤ x) : (ji x).toNatClampNeg = x.toNat := by
  rw [Int32.toNatClampNeg, ji_toInt hx]
theorem ji_in {x : Int} {n : Nat} (h0 : 0 ≤ x) (h1 : x < n) (hn : n ≤ 2147483647) : vp_in (ji x) n := by
  have hb : b32 x := by constructor <;> omega
  intro h
  rcases h with h | h
  · have := (ji_lt hb (by decide : b32 0)).mp h
    omega
  · rw [ji_nat hb h0] at h
    omega
section JR
variable {p : Program} {l : Launch} {e : Env} {R : Room} {s : State} {m : MethodId} {args : Array Value} {below : List Frame} {meth : Method} {c : Code} {H : Heap} {locs : List Loc} {cells slots : Nat} {Q : State → Prop} {cc : ByteArray} {pc : Nat} {ls : Array Slot} {rest : List Value}
theorem W.mono {Q' : State → Prop} {g : JFrame} (h : ∀ t, Q t → Q' t) (k : W p l e R s m args below meth c H locs cells slots Q g) : W p l e R s m args below meth c H locs cells slots Q' g := fun T hT X => by
  obtain ⟨t, a, b⟩ := k T hT X
  exact ⟨t, a, h t b⟩
theorem j_iadd (hx : p.tables.exec = Jvm.exec) (hb : c.code = cc) {x y : Int} (hd : decode cc pc = .ok (.iadd, 1)) (k : W p l e R s m args below meth c H locs cells slots Q (F0 m (pc + 1) ls (.int (ji (x + y)) :: rest))) : W p l e R s m args below meth c H locs cells slots Q (F0 m pc ls (.int (ji y) :: .int (ji x) :: rest)) := lv_iadd hx hb hd (by rw [← Int32.ofInt_add]; exact k)
theorem j_isub (hx : p.tables.exec = Jvm.exec) (hb : c.code = cc) {x y : Int} (hd : decode cc pc = .ok (.isub, 1)) (k : W p l e R s m args below meth c H locs cells slots Q (F0 m (pc + 1) ls (.int (ji (x - y)) :: rest))) : W p l e R s m args below meth c H locs cells slots Q (F0 m pc ls (.int (ji y) :: .int (ji x) :: rest)) := lv_isub hx hb hd (by rw [← Int32.ofInt_sub]; exact k)
theorem j_imul (hx : p.tables.exec = Jvm.exec) (hb : c.code = cc) {x y : Int} (hd : decode cc pc = .ok (.imul, 1)) (k : W p l e R s m args below meth c H locs cells slots Q (F0 m (pc + 1) ls (.int (ji (x * y)) :: rest))) : W p l e R s m args below meth c H locs cells slots Q (F0 m pc ls (.int (ji y) :: .int (ji x) :: rest)) := lv_imul hx hb hd (by rw [← Int32.ofInt_mul]; exact k)
theorem j_ineg (hx : p.tables.exec = Jvm.exec) (hb : c.code = cc) {x : Int} (hd : decode cc pc = .ok (.ineg, 1)) (k : W p l e R s m args below meth c H locs cells slots Q (F0 m (pc + 1) ls (.int (ji (-x)) :: rest))) : W p l e R s m args below meth c H locs cells slots Q (F0 m pc ls (.int (ji x) :: rest)) := lv_ineg hx hb hd (by rw [← Int32.ofInt_neg]; exact k)
theorem j_idiv (hx : p.tables.exec = Jvm.exec) (hb : c.code = cc) {x y : Int} (h1 : b32 x) (h2 : b32 y) (h0 : y ≠ 0) (hd : decode cc pc = .ok (.idiv, 1)) (k : W p l e R s m args below meth c H locs cells slots Q (F0 m (pc + 1) ls (.int (ji (x.tdiv y)) :: rest))) : W p l e R s m args below meth c H locs cells slots Q (F0 m pc ls (.int (ji y) :: .int (ji x) :: rest)) := lv_idiv hx hb hd (ji_nz h2 h0) (by rw [ji_div h1 h2]; exact k)
theorem j_irem (hx : p.tables.exec = Jvm.exec) (hb : c.code = cc) {x y : Int} (h1 : b32 x) (h2 : b32 y) (h0 : y ≠ 0) (hd : decode cc pc = .ok (.irem, 1)) (k : W p l e R s m args below meth c H locs cells slots Q (F0 m (pc + 1) ls (.int (ji (x.tmod y)) :: rest))) : W p l e R s m args below meth c H locs cells slots Q (F0 m pc ls (.int (ji y) :: .int (ji x) :: rest)) := lv_irem hx hb hd (ji_nz h2 h0) (by rw [ji_rem h1 h2]; exact k)
theorem j_ladd (hx : p.tables.exec = Jvm.exec) (hb : c.code = cc) {x y : Int} (hd : decode cc pc = .ok (.ladd, 1)) (k : W p l e R s m args below meth c H locs cells slots Q (F0 m (pc + 1) ls (.long (jl (x + y)) :: rest))) : W p l e R s m args below meth c H locs cells slots Q (F0 m pc ls (.long (jl y) :: .long (jl x) :: rest)) := lv_ladd hx hb hd (by rw [← Int64.ofInt_add]; exact k)
theorem j_lsub (hx : p.tables.exec = Jvm.exec) (hb : c.code = cc) {x y : Int} (hd : decode cc pc = .ok (.lsub, 1)) (k : W p l e R s m args below meth c H locs cells slots Q (F0 m (pc + 1) ls (.long (jl (x - y)) :: rest))) : W p l e R s m args below meth c H locs cells slots Q (F0 m pc ls (.long (jl y) :: .long (jl x) :: rest)) := lv_lsub hx hb hd (by rw [← Int64.ofInt_sub]; exact k)
theorem j_lmul (hx : p.tables.exec = Jvm.exec) (hb : c.code = cc) {x y : Int} (hd : decode cc pc = .ok (.lmul, 1)) (k : W p l e R s m args below meth c H locs cells slots Q (F0 m (pc + 1) ls (.long (jl (x * y)) :: rest))) : W p l e R s m args below meth c H locs cells slots Q (F0 m pc ls (.long (jl y) :: .long (jl x) :: rest)) := lv_lmul hx hb hd (by rw [← Int64.ofInt_mul]; exact k)
theorem j_lneg (hx : p.tables.exec = Jvm.exec) (hb : c.code = cc) {x : Int} (hd : decode cc pc = .ok (.lneg, 1)) (k : W p l e R s m args below meth c H locs cells slots Q (F0 m (pc + 1) ls (.long (jl (-x)) :: rest))) : W p l e R s m args below meth c H locs cells slots Q (F0 m pc ls (.long (jl x) :: rest)) := lv_lneg hx hb hd (by rw [← Int64.ofInt_neg]; exact k)
theorem j_ldiv (hx : p.tables.exec = Jvm.exec) (hb : c.code = cc) {x y : Int} (h1 : b64 x) (h2 : b64 y) (h0 : y ≠ 0) (hd : decode cc pc = .ok (.ldiv, 1)) (k : W p l e R s m args below meth c H locs cells slots Q (F0 m (pc + 1) ls (.long (jl (x.tdiv y)) :: rest))) : W p l e R s m args below meth c H locs cells slots Q (F0 m pc ls (.long (jl y) :: .long (jl x) :: rest)) := lv_ldiv hx hb hd (jl_nz h2 h0) (by rw [jl_div h1 h2]; exact k)
theorem j_lrem (hx : p.tables.exec = Jvm.exec) (hb : c.code = cc) {x y : Int} (h1 : b64 x) (h2 : b64 y) (h0 : y ≠ 0) (hd : decode cc pc = .ok (.lrem, 1)) (k : W p l e R s m args below meth c H locs cells slots Q (F0 m (pc + 1) ls (.long (jl (x.tmod y)) :: rest))) : W p l e R s m args below meth c H locs cells slots Q (F0 m pc ls (.long (jl y) :: .long (jl x) :: rest)) := lv_lrem hx hb hd (jl_nz h2 h0) (by rw [jl_rem h1 h2]; exact k)
theorem j_i2l (hx : p.tables.exec = Jvm.exec) (hb : c.code = cc) {x : Int} (h1 : b32 x) (hd : decode cc pc = .ok (.i2l, 1)) (k : W p l e R s m args below meth c H locs cells slots Q (F0 m (pc + 1) ls (.long (jl x) :: rest))) : W p l e R s m args below meth c H locs cells slots Q (F0 m pc ls (.int (ji x) :: rest)) := lv_i2l hx hb hd (ji_l h1) k
theorem j_l2i (hx : p.tables.exec = Jvm.exec) (hb : c.code = cc) {x : Int} (hd : decode cc pc = .ok (.l2i, 1)) (k : W p l e R s m args below meth c H locs cells slots Q (F0 m (pc + 1) ls (.int (ji x) :: rest))) : W p l e R s m args below meth c H locs cells slots Q (F0 m pc ls (.long (jl x) :: rest)) := lv_l2i hx hb hd (jl_i x) k
theorem j_iconst (hx : p.tables.exec = Jvm.exec) (hb : c.code = cc) {n : Int} (hd : decode cc pc = .ok (.iconst n, 1)) (k : W p l e R s m args below meth c H locs cells slots Q (F0 m (pc + 1) ls (.int (ji n) :: rest))) : W p l e R s m args below meth c H locs cells slots Q (F0 m pc ls rest) := lv_iconst hx hb hd rfl k
theorem j_bipush (hx : p.tables.exec = Jvm.exec) (hb : c.code = cc) {n : Int} (hd : decode cc pc = .ok (.bipush n, 2)) (hn : (Int8.ofInt n).toInt32 = ji n) (k : W p l e R s m args below meth c H locs cells slots Q (F0 m (pc + 2) ls (.int (ji n) :: rest))) : W p l e R s m args below meth c H locs cells slots Q (F0 m pc ls rest) := lv_bipush hx hb hd hn k
theorem j_sipush (hx : p.tables.exec = Jvm.exec) (hb : c.code = cc) {n : Int} (hd : decode cc pc = .ok (.sipush n, 3)) (hn : (Int16.ofInt n).toInt32 = ji n) (k : W p l e R s m args below meth c H locs cells slots Q (F0 m (pc + 3) ls (.int (ji n) :: rest))) : W p l e R s m args below meth c H locs cells slots Q (F0 m pc ls rest) := lv_sipush hx hb hd hn k
theorem j_lconst0 (hx : p.tables.exec = Jvm.exec) (hb : c.code = cc) (hd : decode cc pc = .ok (.lconst 0, 1)) (k : W p l e R s m args below meth c H locs cells slots Q (F0 m (pc + 1) ls (.long (jl 0) :: rest))) : W p l e R s m args below meth c H locs cells slots Q (F0 m pc ls rest) := lv_lconst hx hb hd rfl k
theorem j_lconst1 (hx : p.tables.exec = Jvm.exec) (hb : c.code = cc) (hd : decode cc pc = .ok (.lconst 1, 1)) (k : W p l e R s m args below meth c H locs cells slots Q (F0 m (pc + 1) ls (.long (jl 1) :: rest))) : W p l e R s m args below meth c H locs cells slots Q (F0 m pc ls rest) := lv_lconst hx hb hd rfl k
theorem j_if_eq (hx : p.tables.exec = Jvm.exec) (hb : c.code = cc) {x : Int} {off : Int} {tgt : Nat} (h1 : b32 x) (hd : decode cc pc = .ok (.ifCond .eq off, 3)) (ht : (pc : Int) + off = (tgt : Int)) (kt : x = 0 → W p l e R s m args below meth c H locs cells slots Q (F0 m tgt ls rest)) (kf : x ≠ 0 → W p l e R s m args below meth c H locs cells slots Q (F0 m (pc + 3) ls rest)) : W p l e R s m args below meth c H locs cells slots Q (F0 m pc ls (.int (ji x) :: rest)) := lv_if_eq hx hb hd ht (fun h => kt ((ji_eq h1 (by decide)).mp (h.trans ji_0.symm))) (fun h => kf (fun q => h (by rw [q]; rfl)))
theorem j_if_ne (hx : p.tables.exec = Jvm.exec) (hb : c.code = cc) {x : Int} {off : Int} {tgt : Nat} (h1 : b32 x) (hd : decode cc pc = .ok (.ifCond .ne off, 3)) (ht : (pc : Int) + off = (tgt : Int)) (kt : x ≠ 0 → W p l e R s m args below meth c H locs cells slots Q (F0 m tgt ls rest)) (kf : x = 0 → W p l e R s m args below meth c H locs cells slots Q (F0 m (pc + 3) ls rest)) : W p l e R s m args below meth c H locs cells slots Q (F0 m pc ls (.int (ji x) :: rest)) := lv_if_ne hx hb hd ht (fun h => kt (fun q => h (by rw [q]; rfl))) (fun h => kf ((ji_eq h1 (by decide)).mp (h.trans ji_0.symm)))
theorem j_if_lt (hx : p.tables.exec = Jvm.exec) (hb : c.code = cc) {x : Int} {off : Int} {tgt : Nat} (h1 : b32 x) (hd : decode cc pc = .ok (.ifCond .lt off, 3)) (ht : (pc : Int) + off = (tgt : Int)) (kt : x < 0 → W p l e R s m args below meth c H locs cells slots Q (F0 m tgt ls rest)) (kf : 0 ≤ x → W p l e R s m args below meth c H locs cells slots Q (F0 m (pc + 3) ls rest)) : W p l e R s m args below meth c H locs cells slots Q (F0 m pc ls (.int (ji x) :: rest)) := lv_if_lt hx hb hd ht (fun h => kt ((ji_lt h1 (by decide : b32 0)).mp h)) (fun h => kf (Int.not_lt.mp (fun q => h ((ji_lt h1 (by decide : b32 0)).mpr q))))
theorem j_if_ge (hx : p.tables.exec = Jvm.exec) (hb : c.code = cc) {x : Int} {off : Int} {tgt : Nat} (h1 : b32 x) (hd : decode cc pc = .ok (.ifCond .ge off, 3)) (ht : (pc : Int) + off = (tgt : Int)) (kt : 0 ≤ x → W p l e R s m args below meth c H locs cells slots Q (F0 m tgt ls rest)) (kf : x < 0 → W p l e R s m args below meth c H locs cells slots Q (F0 m (pc + 3) ls rest)) : W p l e R s m args below meth c H locs cells slots Q (F0 m pc ls (.int (ji x) :: rest)) := lv_if_ge hx hb hd ht (fun h => kt ((ji_le (by decide : b32 0) h1).mp h)) (fun h => kf (Int.not_le.mp (fun q => h ((ji_le (by decide : b32 0) h1).mpr q))))
theorem j_if_gt (hx : p.tables.exec = Jvm.exec) (hb : c.code = cc) {x : Int} {off : Int} {tgt : Nat} (h1 : b32 x) (hd : decode cc pc = .ok (.ifCond .gt off, 3)) (ht : (pc : Int) + off = (tgt : Int)) (kt : 0 < x → W p l e R s m args below meth c H locs cells slots Q (F0 m tgt ls rest)) (kf : x ≤ 0 → W p l e R s m args below meth c H locs cells slots Q (F0 m (pc + 3) ls rest)) : W p l e R s m args below meth c H locs cells slots Q (F0 m pc ls (.int (ji x) :: rest)) := lv_if_gt hx hb hd ht (fun h => kt ((ji_lt (by decide : b32 0) h1).mp h)) (fun h => kf (Int.not_lt.mp (fun q => h ((ji_lt (by decide : b32 0) h1).mpr q))))
theorem j_if_le (hx : p.tables.exec = Jvm.exec) (hb : c.code = cc) {x : Int} {off : Int} {tgt : Nat} (h1 : b32 x) (hd : decode cc pc = .ok (.ifCond .le off, 3)) (ht : (pc : Int) + off = (tgt : Int)) (kt : x ≤ 0 → W p l e R s m args below meth c H locs cells slots Q (F0 m tgt ls rest)) (kf : 0 < x → W p l e R s m args below meth c H locs cells slots Q (F0 m (pc + 3) ls rest)) : W p l e R s m args below meth c H locs cells slots Q (F0 m pc ls (.int (ji x) :: rest)) := lv_if_le hx hb hd ht (fun h => kt ((ji_le h1 (by decide : b32 0)).mp h)) (fun h => kf (Int.not_le.mp (fun q => h ((ji_le h1 (by decide : b32 0)).mpr q))))
theorem j_icmp_eq (hx : p.tables.exec = Jvm.exec) (hb : c.code = cc) {x y : Int} {off : Int} {tgt : Nat} (h1 : b32 x) (h2 : b32 y) (hd : decode cc pc = .ok (.if_icmp .eq off, 3)) (ht : (pc : Int) + off = (tgt : Int)) (kt : x = y → W p l e R s m args below meth c H locs cells slots Q (F0 m tgt ls rest)) (kf : x ≠ y → W p l e R s m args below meth c H locs cells slots Q (F0 m (pc + 3) ls rest)) : W p l e R s m args below meth c H locs cells slots Q (F0 m pc ls (.int (ji y) :: .int (ji x) :: rest)) := lv_icmp_eq hx hb hd ht (fun h => kt ((ji_eq h1 h2).mp h)) (fun h => kf (fun q => h (by rw [q])))
theorem j_icmp_ne (hx : p.tables.exec = Jvm.exec) (hb : c.code = cc) {x y : Int} {off : Int} {tgt : Nat} (h1 : b32 x) (h2 : b32 y) (hd : decode cc pc = .ok (.if_icmp .ne off, 3)) (ht : (pc : Int) + off = (tgt : Int)) (kt : x ≠ y → W p l e R s m args below meth c H locs cells slots Q (F0 m tgt ls rest)) (kf : x = y → W p l e R s m args below meth c H locs cells slots Q (F0 m (pc + 3) ls rest)) : W p l e R s m args below meth c H locs cells slots Q (F0 m pc ls (.int (ji y) :: .int (ji x) :: rest)) := lv_icmp_ne hx hb hd ht (fun h => kt (fun q => h (by rw [q]))) (fun h => kf ((ji_eq h1 h2).mp h))
theorem j_icmp_lt (hx : p.tables.exec = Jvm.exec) (hb : c.code = cc) {x y : Int} {off : Int} {tgt : Nat} (h1 : b32 x) (h2 : b32 y) (hd : decode cc pc = .ok (.if_icmp .lt off, 3)) (ht : (pc : Int) + off = (tgt : Int)) (kt : x < y → W p l e R s m args below meth c H locs cells slots Q (F0 m tgt ls rest)) (kf : y ≤ x → W p l e R s m args below meth c H locs cells slots Q (F0 m (pc + 3) ls rest)) : W p l e R s m args below meth c H locs cells slots Q (F0 m pc ls (.int (ji y) :: .int (ji x) :: rest)) := lv_icmp_lt hx hb hd ht (fun h => kt ((ji_lt h1 h2).mp h)) (fun h => kf (Int.not_lt.mp (fun q => h ((ji_lt h1 h2).mpr q))))
theorem j_icmp_ge (hx : p.tables.exec = Jvm.exec) (hb : c.code = cc) {x y : Int} {off : Int} {tgt : Nat} (h1 : b32 x) (h2 : b32 y) (hd : decode cc pc = .ok (.if_icmp .ge off, 3)) (ht : (pc : Int) + off = (tgt : Int)) (kt : y ≤ x → W p l e R s m args below meth c H locs cells slots Q (F0 m tgt ls rest)) (kf : x < y → W p l e R s m args below meth c H locs cells slots Q (F0 m (pc + 3) ls rest)) : W p l e R s m args below meth c H locs cells slots Q (F0 m pc ls (.int (ji y) :: .int (ji x) :: rest)) := lv_icmp_ge hx hb hd ht (fun h => kt ((ji_le h2 h1).mp h)) (fun h => kf (Int.not_le.mp (fun q => h ((ji_le h2 h1).mpr q))))
theorem j_icmp_gt (hx : p.tables.exec = Jvm.exec) (hb : c.code = cc) {x y : Int} {off : Int} {tgt : Nat} (h1 : b32 x) (h2 : b32 y) (hd : decode cc pc = .ok (.if_icmp .gt off, 3)) (ht : (pc : Int) + off = (tgt : Int)) (kt : y < x → W p l e R s m args below meth c H locs cells slots Q (F0 m tgt ls rest)) (kf : x ≤ y → W p l e R s m args below meth c H locs cells slots Q (F0 m (pc + 3) ls rest)) : W p l e R s m args below meth c H locs cells slots Q (F0 m pc ls (.int (ji y) :: .int (ji x) :: rest)) := lv_icmp_gt hx hb hd ht (fun h => kt ((ji_lt h2 h1).mp h)) (fun h => kf (Int.not_lt.mp (fun q => h ((ji_lt h2 h1).mpr q))))
theorem j_icmp_le (hx : p.tables.exec = Jvm.exec) (hb : c.code = cc) {x y : Int} {off : Int} {tgt : Nat} (h1 : b32 x) (h2 : b32 y) (hd : decode cc pc = .ok (.if_icmp .le off, 3)) (ht : (pc : Int) + off = (tgt : Int)) (kt : x ≤ y → W p l e R s m args below meth c H locs cells slots Q (F0 m tgt ls rest)) (kf : y < x → W p l e R s m args below meth c H locs cells slots Q (F0 m (pc + 3) ls rest)) : W p l e R s m args below meth c H locs cells slots Q (F0 m pc ls (.int (ji y) :: .int (ji x) :: rest)) := lv_icmp_le hx hb hd ht (fun h => kt ((ji_le h1 h2).mp h)) (fun h => kf (Int.not_le.mp (fun q => h ((ji_le h1 h2).mpr q))))
/-- lcmp: its answer by whole numbers -/
theorem j_lcmp (hx : p.tables.exec = Jvm.exec) (hb : c.code = cc) {x y : Int} (h1 : b64 x) (h2 : b64 y) (hd : decode cc pc = .ok (.lcmp, 1)) (klt : x < y → W p l e R s m args below meth c H locs cells slots Q (F0 m (pc + 1) ls (.int (ji (-1)) :: rest))) (keq : x = y → W p l e R s m args below meth c H locs cells slots Q (F0 m (pc + 1) ls (.int (ji 0) :: rest))) (kgt : y < x → W p l e R s m args below meth c H locs cells slots Q (F0 m (pc + 1) ls (.int (ji 1) :: rest))) : W p l e R s m args below meth c H locs cells slots Q (F0 m pc ls (.long (jl y) :: .long (jl x) :: rest)) := by
  refine W.lcmp hx hb hd ?_
  by_cases hg : y < x
  · have e1 : lg_cmp (jl x) (jl y) = ji 1 := by
      have h := (jl_lt h2 h1).mpr hg
      rw [lg_cmp, if_pos h]; rfl
    rw [e1]; exact kgt hg
  · by_cases he : x = y
    · have e1 : lg_cmp (jl x) (jl y) = ji 0 := by
        subst he
        rw [lg_cmp, if_neg (fun h => Int64.lt_irrefl h), if_pos rfl]; rfl
      rw [e1]; exact keq he
    · have e1 : lg_cmp (jl x) (jl y) = ji (-1) := by
        have h := (fun q => hg ((jl_lt h2 h1).mp q) : ¬ jl y < jl x)
        have h3 := (fun q => he ((jl_eq h1 h2).mp q) : ¬ jl x = jl y)
        rw [lg_cmp, if_neg h, if_neg h3]; rfl
      rw [e1]; exact klt (by omega)
/-- lcmp and a branch behind it, as one comparison of longs -/
theorem j_lc_lt (hx : p.tables.exec = Jvm.exec) (hb : c.code = cc) {x y : Int} {off : Int} {tgt : Nat} (h1 : b64 x) (h2 : b64 y) (hd0 : decode cc pc = .ok (.lcmp, 1)) (hd : decode cc (pc + 1) = .ok (.ifCond .lt off, 3)) (ht : ((pc + 1 : Nat) : Int) + off = (tgt : Int)) (kt : x < y → W p l e R s m args below meth c H locs cells slots Q (F0 m tgt ls rest)) (kf : y ≤ x → W p l e R s m args below meth c H locs cells slots Q (F0 m (pc + 1 + 3) ls rest)) : W p l e R s m args below meth c H locs cells slots Q (F0 m pc ls (.long (jl y) :: .long (jl x) :: rest)) := by
  refine j_lcmp hx hb h1 h2 hd0 (fun h => ?_) (fun h => ?_) (fun h => ?_) <;> refine j_if_lt hx hb (by decide) hd ht (fun q => ?_) (fun q => ?_) <;> first | exact kt (by omega) | exact kf (by omega) | omega
theorem j_lc_le (hx : p.tables.exec = Jvm.exec) (hb : c.code = cc) {x y : Int} {off : Int} {tgt : Nat} (h1 : b64 x) (h2 : b64 y) (hd0 : decode cc pc = .ok (.lcmp, 1)) (hd : decode cc (pc + 1) = .ok (.ifCond .le off, 3)) (ht : ((pc + 1 : Nat) : Int) + off = (tgt : Int)) (kt : x ≤ y → W p l e R s m args below meth c H locs cells slots Q (F0 m tgt ls rest)) (kf : y < x → W p l e R s m args below meth c H locs cells slots Q (F0 m (pc + 1 + 3) ls rest)) : W p l e R s m args below meth c H locs cells slots Q (F0 m pc ls (.long (jl y) :: .long (jl x) :: rest)) := by
  refine j_lcmp hx hb h1 h2 hd0 (fun h => ?_) (fun h => ?_) (fun h => ?_) <;> refine j_if_le hx hb (by decide) hd ht (fun q => ?_) (fun q => ?_) <;> first | exact kt (by omega) | exact kf (by omega) | omega
theorem j_lc_gt (hx : p.tables.exec = Jvm.exec) (hb : c.code = cc) {x y : Int} {off : Int} {tgt : Nat} (h1 : b64 x) (h2 : b64 y) (hd0 : decode cc pc = .ok (.lcmp, 1)) (hd : decode cc (pc + 1) = .ok (.ifCond .gt off, 3)) (ht : ((pc + 1 : Nat) : Int) + off = (tgt : Int)) (kt : y < x → W p l e R s m args below meth c H locs cells slots Q (F0 m tgt ls rest)) (kf : x ≤ y → W p l e R s m args below meth c H locs cells slots Q (F0 m (pc + 1 + 3) ls rest)) : W p l e R s m args below meth c H locs cells slots Q (F0 m pc ls (.long (jl y) :: .long (jl x) :: rest)) := by
  refine j_lcmp hx hb h1 h2 hd0 (fun h => ?_) (fun h => ?_) (fun h => ?_) <;> refine j_if_gt hx hb (by decide) hd ht (fun q => ?_) (fun q => ?_) <;> first | exact kt (by omega) | exact kf (by omega) | omega
theorem j_lc_ge (hx : p.tables.exec = Jvm.exec) (hb : c.code = cc) {x y : Int} {off : Int} {tgt : Nat} (h1 : b64 x) (h2 : b64 y) (hd0 : decode cc pc = .ok (.lcmp, 1)) (hd : decode cc (pc + 1) = .ok (.ifCond .ge off, 3)) (ht : ((pc + 1 : Nat) : Int) + off = (tgt : Int)) (kt : y ≤ x → W p l e R s m args below meth c H locs cells slots Q (F0 m tgt ls rest)) (kf : x < y → W p l e R s m args below meth c H locs cells slots Q (F0 m (pc + 1 + 3) ls rest)) : W p l e R s m args below meth c H locs cells slots Q (F0 m pc ls (.long (jl y) :: .long (jl x) :: rest)) := by
  refine j_lcmp hx hb h1 h2 hd0 (fun h => ?_) (fun h => ?_) (fun h => ?_) <;> refine j_if_ge hx hb (by decide) hd ht (fun q => ?_) (fun q => ?_) <;> first | exact kt (by omega) | exact kf (by omega) | omega
theorem j_lc_eq (hx : p.tables.exec = Jvm.exec) (hb : c.code = cc) {x y : Int} {off : Int} {tgt : Nat} (h1 : b64 x) (h2 : b64 y) (hd0 : decode cc pc = .ok (.lcmp, 1)) (hd : decode cc (pc + 1) = .ok (.ifCond .eq off, 3)) (ht : ((pc + 1 : Nat) : Int) + off = (tgt : Int)) (kt : x = y → W p l e R s m args below meth c H locs cells slots Q (F0 m tgt ls rest)) (kf : x ≠ y → W p l e R s m args below meth c H locs cells slots Q (F0 m (pc + 1 + 3) ls rest)) : W p l e R s m args below meth c H locs cells slots Q (F0 m pc ls (.long (jl y) :: .long (jl x) :: rest)) := by
  refine j_lcmp hx hb h1 h2 hd0 (fun h => ?_) (fun h => ?_) (fun h => ?_) <;> refine j_if_eq hx hb (by decide) hd ht (fun q => ?_) (fun q => ?_) <;> first | exact kt (by omega) | exact kf (by omega) | omega
theorem j_lc_ne (hx : p.tables.exec = Jvm.exec) (hb : c.code = cc) {x y : Int} {off : Int} {tgt : Nat} (h1 : b64 x) (h2 : b64 y) (hd0 : decode cc pc = .ok (.lcmp, 1)) (hd : decode cc (pc + 1) = .ok (.ifCond .ne off, 3)) (ht : ((pc + 1 : Nat) : Int) + off = (tgt : Int)) (kt : x ≠ y → W p l e R s m args below meth c H locs cells slots Q (F0 m tgt ls rest)) (kf : x = y → W p l e R s m args below meth c H locs cells slots Q (F0 m (pc + 1 + 3) ls rest)) : W p l e R s m args below meth c H locs cells slots Q (F0 m pc ls (.long (jl y) :: .long (jl x) :: rest)) := by
  refine j_lcmp hx hb h1 h2 hd0 (fun h => ?_) (fun h => ?_) (fun h => ?_) <;> refine j_if_ne hx hb (by decide) hd ht (fun q => ?_) (fun q => ?_) <;> first | exact kt (by omega) | exact kf (by omega) | omega
end JR
end
section
/-! a method that returns or throws: its contract, its calls, its ends -/
/-- tables warmer, nothing moved but the slots L and at most k new cells of n slots: of either end -/
def xEnd (first t : State) (L : List Loc) (k n : Nat) : Prop := first.WarmedH t.vm ∧ first.sameButNew ({ t with vm := first.vm } : State) L k n
def MetX (l : Launch) (y : MethodName) (ws : List Cond) (rm : Room) (Pc : Array Value → State → Prop) (Qc : Array Value → State → Outcome → State → Prop) (mc ms : Nat) (free : Addr → Prop) : Prop :=
  MetFree l y (headSpec ws rm) Pc (fun _ _ _ _ _ => True) (fun a st o t => Qc a st o t ∧ ∃ L, xEnd st t L mc ms ∧ ∀ q ∈ L, free q.base)
def XQ (below : List Frame) (Qc : Array Value → State → Outcome → State → Prop) (a : Array Value) (s : State) (mc ms : Nat) (free : Addr → Prop) : State → Prop := fun t =>
  ∃ o, t.status = .running ∧ Ended t below o ∧ Qc a s o t ∧ ∃ L, xEnd s t L mc ms ∧ ∀ q ∈ L, free q.base
theorem XQ.of {below : List Frame} {Qc : Array Value → State → Outcome → State → Prop} {a : Array Value} {s t : State} {mc ms : Nat} {free : Addr → Prop} (h : MQ below Qc a s mc ms free t) : XQ below Qc a s mc ms free t := by
  obtain ⟨o, h1, h2, h3, L, h4, h5⟩ := h
  exact ⟨o, h1, h2, h3, L, h4.2, h5⟩
section XE
variable {p : Program} {l : Launch} {e : Env} {R : Room} {s : State} {m : MethodId} {args : Array Value} {below : List Frame} {meth : Method} {c : Code} {H : Heap} {locs : List Loc} {cells slots : Nat} {Q : State → Prop}
theorem MetX.ofW {y : MethodName} {ws ws' : List Cond} {rm : Room} {Pc : Array Value → State → Prop} {Qc : Array Value → State → Outcome → State → Prop} {mc ms : Nat} {free : Addr → Prop} {cc : ByteArray} {maxL : Nat} {ret : Option FieldType}
    (hy : plainFor y = true) (hw : ws = Cond.code y cc maxL ret :: ws')
    (body : ∀ p e s m args below meth c s₁, BodyLoose p l y (headSpec ws rm) cc maxL ret e s m args below meth c s₁ → c.maxLocals = maxL → c.exceptionTable.toList = [] → l.admits e → Pc args s →
      W p l e rm s m args below meth c s.heap [] 0 0 (XQ below Qc args s mc ms free) (entryFrame m args maxL)) : MetX l y ws rm Pc Qc mc ms free := by
  have hmem : Cond.code y cc maxL ret ∈ ws := by rw [hw]; exact List.mem_cons_self
  refine MetFree.of_bodySF (code := cc) (maxLocals := maxL) (ret := ret) hy ?_ ?_
  · intro args s m h hn
    obtain ⟨meth, c, h1, h2, h3, h4, h5, h6, -, -⟩ := Cond.code_spec hn (atoms_spec (ws := ws) h _ hmem)
    exact ⟨meth, c, h1, h2, h3, h4, h5, h6⟩
  · intro p e s m args below meth c s₁ B hml hP _
    have X := Stand.of_body B
    have hh0 : s₁.heap = s.heap := by rw [B.state]; rfl
    have hnx : c.exceptionTable.toList = [] := by
      obtain ⟨meth', c', hm', hc', -, -, -, -, hempty, -⟩ := Cond.code_spec B.named (atoms_spec (ws := ws) B.pre _ hmem)
      cases X.method.symm.trans hm'
      cases X.code.symm.trans hc'
      have h0 : c.exceptionTable.size = 0 := by simpa [Array.isEmpty] using hempty
      exact List.eq_nil_of_length_eq_zero (by simpa using h0)
    obtain ⟨t, a1, o, b1, b2, b3, b4⟩ := body p e s m args below meth c s₁ B hml hnx X.admits hP s₁ hh0 X
    exact ⟨t, o, a1, b1, b2, b3, b4⟩
/-- what a call of such a method comes to -/
theorem x_core {sargs : Array Value} {y : MethodName} {len Wd : Nat} {ws : List Cond} {rm : Room} {Pc : Array Value → State → Prop} {Qc : Array Value → State → Outcome → State → Prop} {mc ms : Nat} {free : Addr → Prop} {bytes : ByteArray} {maxL : Nat} {ret : Option FieldType}
    (hM : MetX l y ws rm Pc Qc mc ms free) (hblind : FrameBlind Pc) (hrc : rm.cells = mc) (hrs : rm.slots = ms)
    (hframes : rm.frames + 1 ≤ R.frames) (hlocals : Wd + (maxL + 11) + rm.locals ≤ R.locals)
    (hws : ∀ w ∈ ws, ∀ a' U, s.WarmedH U.vm → w.before a' U = true) (hcode : Cond.code y bytes maxL ret ∈ ws) (hinit : ∀ a' U, s.WarmedH U.vm → (Cond.initialized y.cls).before a' U = true)
    {U : State} {Ls : List Loc} {c0 s0 : Nat} {g : JFrame} {ig : Instr} {mk : MethodId} {a : Array Value}
    (X : Stand p l e R s m sargs below meth c U Ls c0 s0) (hg : g.method = m) (hsize : g.locals.size = c.maxLocals) (hdg : decode c.code g.pc = .ok (ig, len))
    (hW : 2 * g.monitorRoom + (g.stack.map fun v => v.category).sum ≤ Wd) (hn : U.methodNamed? y = some mk) (hc : c0 + mc ≤ R.cells) (hs : s0 + ms ≤ R.slots) (hP : Pc a U) :
    ∃ (o : Outcome) (st₀ t T' : State) (L : List Loc), st₀.heap = U.heap ∧ T'.heap = t.heap ∧ T'.vm = t.vm ∧ Qc a st₀ o t ∧ (∀ q ∈ L, free q.base) ∧
      Stand p l e R s m sargs below meth c T' (Ls ++ L) (c0 + mc) (s0 + ms) ∧
      (∀ v, o = .returned v → Steps p.tables e below (doInvoke e (U.setTop g) [] mk a).1 (T'.setTop { g with pc := g.pc + len, stack := v.toList ++ g.stack })) ∧
      (∀ x, o = .threw x → Steps p.tables e below (doInvoke e (U.setTop g) [] mk a).1 ((T'.setTop g).pushFrame (.throwing x))) := by
  subst hg
  obtain ⟨methY, cY, hmY, hcY, -, hlY, -, -, -, -⟩ := Cond.code_spec hn (hws _ hcode a U X.warmed)
  obtain ⟨kY, hkY, -⟩ := className_of_methodNamed hn
  have happ : (headSpec ws rm).appliesLoose y e.platform (U.calling g mk a) = true :=
    Spec.appliesLoose_calling (g := g) X.here hdg hn hkY (Cond.initialized_spec (findClass_of_methodNamed hn) hkY (hinit a U X.warmed))
      (X.room_calling (g := g) (R' := rm) hsize hmY hcY hframes (by rw [hlY]; omega) (by rw [hrc]; exact hc) (by rw [hrs]; exact hs)) (atoms_intro fun w hw => hws w hw _ _ X.warmed)
  obtain ⟨mid, hmid⟩ := X.here.above
  obtain ⟨o, t, hsteps, -, hend, hq, L, ⟨hWt, e2, q2, q3, q4, q5, q6⟩, hL⟩ := Steps.callFree hM p X.admits X.cas X.clock (acts := []) (s := U.setTop g) (m := mk) (args := a) (mid := .java g :: mid) (below := below) (by rw [State.frames_setTop' g X.here.top, hmid]; rfl) happ (hblind _ _ _ _ hP) trivial
  rw [State.frames_setTop' g X.here.top] at hend
  have hWt : U.WarmedH t.vm := hWt
  have e3 : t = ({ (U.calling g mk a).setFrames t.frames with heap := t.heap, slotsUsed := t.slotsUsed } : State).setVm t.vm := by
    have h0 : t = ({ t with vm := (U.calling g mk a).vm } : State).setVm t.vm := rfl
    have e2 : ({ t with vm := (U.calling g mk a).vm } : State) = _ := e2
    rw [e2] at h0
    exact h0
  obtain ⟨g₀, hg0⟩ := Option.isSome_iff_exists.mp X.here.top
  obtain ⟨r, hr⟩ := State.topJava?_eq_some.mp hg0
  have hr' : (({ U with heap := t.heap, slotsUsed := t.slotsUsed } : State).setVm t.vm).frames = .java g₀ :: r := hr
  have hsame : U.sameButNew ({ U with heap := t.heap, slotsUsed := t.slotsUsed } : State) L mc ms := by
    refine ⟨?_, q2, q3, q4, q5, q6⟩
    obtain ⟨th, hth, -⟩ := State.frames_cons hr
    show ({ U with heap := t.heap, slotsUsed := t.slotsUsed } : State) = { U.setFrames U.frames with heap := t.heap, slotsUsed := t.slotsUsed }
    rw [State.setFrames_self hth]
  refine ⟨o, U.calling g mk a, t, ({ U with heap := t.heap, slotsUsed := t.slotsUsed } : State).setVm t.vm, L, rfl, rfl, rfl, hq, hL,
    ⟨X.admits, X.cas, X.clock, X.frames, X.room, X.hears, X.method, X.code, (X.here.setHeapUsed t.heap t.slotsUsed).setVm hWt.alike, X.tail, State.WarmedH.trans X.warmed hWt, X.limits, X.bytes, X.same.trans (hsame.setVm s.vm)⟩, ?_, ?_⟩
  · rintro v rfl
    obtain ⟨c₂, i₂, len₂, hc₂, hd₂, hf₂⟩ := hend
    have hcc : c₂ = c := by
      have h1 : t.code? g.method = U.code? g.method := by rw [State.code?_eq, State.code?_eq, hWt.alike.method?]
      exact Option.some.inj (hc₂.symm.trans (h1.trans X.here.code))
    subst hcc
    have hlen : len₂ = len := by rw [hdg] at hd₂; cases hd₂; rfl
    subst hlen
    have ht : t = (({ U with heap := t.heap, slotsUsed := t.slotsUsed } : State).setVm t.vm).setTop { g with pc := g.pc + len₂, stack := v.toList ++ g.stack } := by
      refine e3.trans ?_
      rw [hf₂, State.calling_eq X.here.top, State.setFrames_setFrames, State.setTop_of_frames _ hr', hr]
      rfl
    rw [← ht]
    exact hsteps
  · rintro x rfl
    have hf₂ : t.frames = .throwing x :: .java g :: U.frames.tail := hend
    have ht : t = ((({ U with heap := t.heap, slotsUsed := t.slotsUsed } : State).setVm t.vm).setTop g).pushFrame (.throwing x) := by
      refine e3.trans ?_
      rw [hf₂, State.calling_eq X.here.top, State.setFrames_setFrames, State.pushFrame, State.frames_setTop _ hr', State.setTop_of_frames _ hr', State.setFrames_setFrames, hr]
      rfl
    rw [← ht]
    exact hsteps
/-- the run of a call: either end -/
def xRun (p : Program) (l : Launch) (e : Env) (R : Room) (s : State) (m : MethodId) (args : Array Value) (below : List Frame) (meth : Method) (c : Code) (H : Heap) (locs : List Loc) (cells slots mc ms : Nat) (g : JFrame) (rest : List Value) (Qa : State → Outcome → State → Prop) (free : Addr → Prop) : Prop :=
  ∀ T : State, T.heap = H → Stand p l e R s m args below meth c T locs cells slots → ∃ (o : Outcome) (st₀ t T' : State) (L : List Loc), st₀.heap = H ∧ T'.heap = t.heap ∧ T'.vm = t.vm ∧ Qa st₀ o t ∧ (∀ q ∈ L, free q.base) ∧
    Stand p l e R s m args below meth c T' (locs ++ L) (cells + mc) (slots + ms) ∧
    (∀ v, o = .returned v → ∀ tg, Steps p.tables e below (T'.setTop { g with pc := g.pc + 3, stack := v.toList ++ rest }) tg → Steps p.tables e below (T.setTop g) tg) ∧
    (∀ x, o = .threw x → ∀ tg, Steps p.tables e below ((T'.setTop { g with stack := rest }).pushFrame (.throwing x)) tg → Steps p.tables e below (T.setTop g) tg)
section XR
variable {y : MethodName} {bytes cc : ByteArray} {maxL nL mc ms n index : Nat} {ret : Option FieldType} {ws : List Cond} {rm : Room} {Pc : Array Value → State → Prop} {Qc : Array Value → State → Outcome → State → Prop} {free : Addr → Prop} {Ts : List Cond} {own C host : String} {b : Addr} {As rest : List Value} {g : JFrame}
theorem x_ini {a' : Array Value} {U : State} (hW : s.WarmedH U.vm) {C : String} (h : (Cond.initialized C).before args s = true) : (Cond.initialized C).before a' U = true :=
  word_at hW (Or.inl (by first | rfl | simp [Cond.onTables, Cond.keeps, Cond.steady])) h
theorem x_runV (S : CallFix p m c cc nL s args Ts own) (hM : MetX l y ws rm Pc Qc mc ms free) (cw : CallW R s args own C index y bytes maxL ret ws rm mc ms n) (hp : PreV s H C b Pc As)
    (hg : g.method = m) (hn : As.length = n) (hsize : g.locals.size = nL) (hstack : g.stack = As.reverse ++ .ref b :: rest) (hW : 2 * g.monitorRoom + (rest.map fun v => v.category).sum ≤ 8) (hdg : decode cc g.pc = .ok (.invokevirtual index, 3)) (hf : cells + mc ≤ R.cells ∧ slots + ms ≤ R.slots) :
    xRun p l e R s m args below meth c H locs cells slots mc ms g rest (Qc (Value.ref b :: As).toArray) free := by
  obtain ⟨⟨hrc, hrs, hfr, hlo, hws, hcw, hcode, hini, hy, hlen, hl⟩, hinst, hsel⟩ := cw
  obtain ⟨hx, hb, hml, hown, -⟩ := S
  obtain ⟨hbl, ⟨cellB, hcB, hoB, hclB⟩, hPc⟩ := hp
  intro T hT X
  obtain ⟨mk, methM, hnamed, hmethM, hstM, habM⟩ := Cond.instanceMethod_spec hinst
  obtain ⟨methM', cM, hmethM', -, -, -, -, -, -, hsigM⟩ := Cond.code_spec hnamed hcode
  cases hmethM.symm.trans hmethM'
  obtain ⟨c2, r2, m2, q1, q2, q3, q4, kP, hkP, hkPi⟩ := Cond.selects_spec hsel
  cases hclB.symm.trans q1
  cases (State.methodFound?_of_named hnamed hy).symm.trans q2
  cases hnamed.symm.trans q3
  obtain ⟨vm₁, X₁, hstep₁⟩ := X.invokevirtual hx hown hl hnamed hmethM hstM hkP hkPi hy (a := b) (cell := cellB) (by rw [hT]; exact hcB)
    (fun z h => by rw [h] at hoB; cases hoB) (by rw [Launch.admits_selectMethod X.admits]; exact q4) hmethM habM hkP hkPi (g := g) hg (argsL := As) (rest := rest) (hn.trans (hlen _ hsigM)) hstack (by rw [hb]; exact hdg)
  obtain ⟨o, st₀, t, T', L, h0, h1, h2, h3, h4, h5, h6, h7⟩ := x_core (len := 3) (Wd := 8) (bytes := bytes) (maxL := maxL) (ret := ret) (g := { g with stack := rest }) (ig := .invokevirtual index) (mk := mk) (a := (Value.ref b :: As).toArray) hM hbl hrc hrs hfr hlo hws hcw (fun a' U hW => x_ini hW hini) X₁ hg (hsize.trans hml.symm) (by rw [hb]; exact hdg) hW (X₁.named hnamed) hf.1 hf.2 (hPc _ hT X₁.warmed)
  exact ⟨o, st₀, t, T', L, h0.trans hT, h1, h2, h3, h4, h5, fun v hv tg h => hstep₁ _ fun acts => by rw [doInvoke_state]; exact (h6 v hv).trans h, fun x hx tg h => hstep₁ _ fun acts => by rw [doInvoke_state]; exact (h7 x hx).trans h⟩
theorem x_runVN (S : CallFix p m c cc nL s args Ts own) (hM : MetX l y ws rm Pc Qc mc ms free) (cw : va_CN R s args own index y host bytes maxL ret ws rm mc ms n ∧ (Cond.instanceMethod y).before args s = true ∧ (Cond.selects C y y).before args s = true) (hp : PreV s H C b Pc As)
    (hg : g.method = m) (hn : As.length = n) (hsize : g.locals.size = nL) (hstack : g.stack = As.reverse ++ .ref b :: rest) (hW : 2 * g.monitorRoom + (rest.map fun v => v.category).sum ≤ 8) (hdg : decode cc g.pc = .ok (.invokevirtual index, 3)) (hf : cells + mc ≤ R.cells ∧ slots + ms ≤ R.slots) :
    xRun p l e R s m args below meth c H locs cells slots mc ms g rest (Qc (Value.ref b :: As).toArray) free := by
  obtain ⟨⟨⟨hrc, hrs, hfr, hlo, hws, hcw⟩, hcode, hini, hy, hlen, hl⟩, hinst, hsel⟩ := cw
  obtain ⟨hx, hb, hml, hown, -⟩ := S
  obtain ⟨hbl, ⟨cellB, hcB, hoB, hclB⟩, hPc⟩ := hp
  intro T hT X
  obtain ⟨mk, methM, hnamed, hmethM, hstM, habM⟩ := Cond.instanceMethod_spec hinst
  obtain ⟨methM', cM, hmethM', -, -, -, -, -, -, hsigM⟩ := Cond.code_spec hnamed hcode
  cases hmethM.symm.trans hmethM'
  obtain ⟨c2, r2, m2, q1, q2, q3, q4, kP, hkP, hkPi⟩ := Cond.selects_spec hsel
  cases hclB.symm.trans q1
  cases (State.methodFound?_of_named hnamed hy).symm.trans q2
  cases hnamed.symm.trans q3
  obtain ⟨vm₁, X₁, hstep₁⟩ := X.invokevirtualNest hx hown hl hnamed hmethM hstM hkP hkPi hy (a := b) (cell := cellB) (by rw [hT]; exact hcB)
    (fun z h => by rw [h] at hoB; cases hoB) (by rw [Launch.admits_selectMethod X.admits]; exact q4) hmethM habM hkP hkPi (g := g) hg (argsL := As) (rest := rest) (hn.trans (hlen _ hsigM)) hstack (by rw [hb]; exact hdg)
  obtain ⟨o, st₀, t, T', L, h0, h1, h2, h3, h4, h5, h6, h7⟩ := x_core (len := 3) (Wd := 8) (bytes := bytes) (maxL := maxL) (ret := ret) (g := { g with stack := rest }) (ig := .invokevirtual index) (mk := mk) (a := (Value.ref b :: As).toArray) hM hbl hrc hrs hfr hlo hws hcw (fun a' U hW => x_ini hW hini) X₁ hg (hsize.trans hml.symm) (by rw [hb]; exact hdg) hW (X₁.named hnamed) hf.1 hf.2 (hPc _ hT X₁.warmed)
  exact ⟨o, st₀, t, T', L, h0.trans hT, h1, h2, h3, h4, h5, fun v hv tg h => hstep₁ _ fun acts => by rw [doInvoke_state]; exact (h6 v hv).trans h, fun x hx tg h => hstep₁ _ fun acts => by rw [doInvoke_state]; exact (h7 x hx).trans h⟩
theorem x_runS (S : CallFix p m c cc nL s args Ts own) (hM : MetX l y ws rm Pc Qc mc ms free) (cw : CallB R s args own index y bytes maxL ret ws rm mc ms n ∧ (Cond.static y).before args s = true) (hp : PreS s H Pc As)
    (hg : g.method = m) (hn : As.length = n) (hsize : g.locals.size = nL) (hstack : g.stack = As.reverse ++ rest) (hW : 2 * g.monitorRoom + (rest.map fun v => v.category).sum ≤ 8) (hdg : decode cc g.pc = .ok (.invokestatic index, 3)) (hf : cells + mc ≤ R.cells ∧ slots + ms ≤ R.slots) :
    xRun p l e R s m args below meth c H locs cells slots mc ms g rest (Qc As.toArray) free := by
  obtain ⟨⟨hrc, hrs, hfr, hlo, hws, hcw, hcode, hini, hy, hlen, hl⟩, hstat⟩ := cw
  obtain ⟨hx, hb, hml, hown, -⟩ := S
  obtain ⟨hbl, hPc⟩ := hp
  intro T hT X
  obtain ⟨mk, hnamed⟩ := Cond.code_named hcode
  obtain ⟨methM, cM, hmethM, -, -, -, -, -, -, hsigM⟩ := Cond.code_spec hnamed hcode
  obtain ⟨kP, hkP, -⟩ := className_of_methodNamed hnamed
  obtain ⟨vm₁, X₁, hstep₁⟩ := X.invokestatic hx hown hl hnamed hmethM (Cond.static_spec hnamed hmethM hstat) hkP (Cond.initialized_spec (findClass_of_methodNamed hnamed) hkP hini) hy (g := g) hg (argsL := As) (rest := rest) (hn.trans (hlen _ hsigM)) hstack (by rw [hb]; exact hdg)
  obtain ⟨o, st₀, t, T', L, h0, h1, h2, h3, h4, h5, h6, h7⟩ := x_core (len := 3) (Wd := 8) (bytes := bytes) (maxL := maxL) (ret := ret) (g := { g with stack := rest }) (ig := .invokestatic index) (mk := mk) (a := As.toArray) hM hbl hrc hrs hfr hlo hws hcw (fun a' U hW => x_ini hW hini) X₁ hg (hsize.trans hml.symm) (by rw [hb]; exact hdg) hW (X₁.named hnamed) hf.1 hf.2 (hPc _ hT X₁.warmed)
  exact ⟨o, st₀, t, T', L, h0.trans hT, h1, h2, h3, h4, h5, fun v hv tg h => hstep₁ _ fun acts => by rw [doInvoke_state]; exact (h6 v hv).trans h, fun x hx tg h => hstep₁ _ fun acts => by rw [doInvoke_state]; exact (h7 x hx).trans h⟩
theorem x_runSN (S : CallFix p m c cc nL s args Ts own) (hM : MetX l y ws rm Pc Qc mc ms free) (cw : va_CN R s args own index y host bytes maxL ret ws rm mc ms n ∧ (Cond.static y).before args s = true) (hp : PreS s H Pc As)
    (hg : g.method = m) (hn : As.length = n) (hsize : g.locals.size = nL) (hstack : g.stack = As.reverse ++ rest) (hW : 2 * g.monitorRoom + (rest.map fun v => v.category).sum ≤ 8) (hdg : decode cc g.pc = .ok (.invokestatic index, 3)) (hf : cells + mc ≤ R.cells ∧ slots + ms ≤ R.slots) :
    xRun p l e R s m args below meth c H locs cells slots mc ms g rest (Qc As.toArray) free := by
  obtain ⟨⟨⟨hrc, hrs, hfr, hlo, hws, hcw⟩, hcode, hini, hy, hlen, hl⟩, hstat⟩ := cw
  obtain ⟨hx, hb, hml, hown, -⟩ := S
  obtain ⟨hbl, hPc⟩ := hp
  intro T hT X
  obtain ⟨mk, hnamed⟩ := Cond.code_named hcode
  obtain ⟨methM, cM, hmethM, -, -, -, -, -, -, hsigM⟩ := Cond.code_spec hnamed hcode
  obtain ⟨kP, hkP, -⟩ := className_of_methodNamed hnamed
  obtain ⟨vm₁, X₁, hstep₁⟩ := X.invokestaticNest hx hown hl hnamed hmethM (Cond.static_spec hnamed hmethM hstat) hkP (Cond.initialized_spec (findClass_of_methodNamed hnamed) hkP hini) hy (g := g) hg (argsL := As) (rest := rest) (hn.trans (hlen _ hsigM)) hstack (by rw [hb]; exact hdg)
  obtain ⟨o, st₀, t, T', L, h0, h1, h2, h3, h4, h5, h6, h7⟩ := x_core (len := 3) (Wd := 8) (bytes := bytes) (maxL := maxL) (ret := ret) (g := { g with stack := rest }) (ig := .invokestatic index) (mk := mk) (a := As.toArray) hM hbl hrc hrs hfr hlo hws hcw (fun a' U hW => x_ini hW hini) X₁ hg (hsize.trans hml.symm) (by rw [hb]; exact hdg) hW (X₁.named hnamed) hf.1 hf.2 (hPc _ hT X₁.warmed)
  exact ⟨o, st₀, t, T', L, h0.trans hT, h1, h2, h3, h4, h5, fun v hv tg h => hstep₁ _ fun acts => by rw [doInvoke_state]; exact (h6 v hv).trans h, fun x hx tg h => hstep₁ _ fun acts => by rw [doInvoke_state]; exact (h7 x hx).trans h⟩
end XR
/-- the note of a thrown x over the frame g: where the machine goes from there -/
def WN (p : Program) (l : Launch) (e : Env) (R : Room) (s : State) (m : MethodId) (args : Array Value) (below : List Frame) (meth : Method) (c : Code) (H : Heap) (locs : List Loc) (cells slots : Nat) (Q : State → Prop) (x : Addr) (g : JFrame) : Prop :=
  ∀ T : State, T.heap = H → Stand p l e R s m args below meth c T locs cells slots → ∃ t, Steps p.tables e below ((T.setTop g).pushFrame (.throwing x)) t ∧ Q t
/-- no handler of this method's: it throws too -/
theorem WN.out {Qc : Array Value → State → Outcome → State → Prop} {free : Addr → Prop} {x : Addr} {pc : Nat} {ls : Array Slot} {st : List Value} (hnx : c.exceptionTable.toList = []) (hlocks : meth.locks = false)
    (hq : ∀ t : State, t.heap = H → s.WarmedH t.vm → Qc args s (.threw x) t) (hf : ∀ q ∈ locs, free q.base) : WN p l e R s m args below meth c H locs cells slots (XQ below Qc args s cells slots free) x (F0 m pc ls st) := by
  intro T hT X
  obtain ⟨hsteps, hrun, hended, hW, hframe⟩ := X.leaveThrown x (g := F0 m pc ls st) rfl rfl rfl (by rw [hnx]; intro x hx; cases hx) hlocks
  exact ⟨_, hsteps, .threw x, hrun, hended, hq _ hT hW, locs, ⟨hW, hframe⟩, hf⟩
end XE
end
section
/-! methods that touch no cell: answer by a predicate, the heap stays -/
def pmQ (P : Value → Prop) : Array Value → State → Outcome → State → Prop := fun _ st o t => (∃ r, o = .returned (some r) ∧ P r) ∧ t.heap = st.heap
def PM (l : Launch) (y : MethodName) (ws : List Cond) (rm : Room) (av : List Value) (P : Value → Prop) : Prop :=
  MetX l y ws rm (fun a _ => a = av.toArray) (pmQ P) 0 0 (fun _ => False)
section PMS
variable {p : Program} {l : Launch} {e : Env} {R : Room} {s : State} {m : MethodId} {args : Array Value} {below : List Frame} {meth : Method} {c : Code} {H : Heap} {locs : List Loc} {cells slots : Nat} {Q : State → Prop}
theorem PM.ofW {y : MethodName} {ws ws' : List Cond} {rm : Room} {av : List Value} {P : Value → Prop} {cc : ByteArray} {maxL : Nat} {ret : Option FieldType}
    (hy : plainFor y = true) (hw : ws = Cond.code y cc maxL ret :: ws') (hL : (lg_sl av).length ≤ maxL)
    (body : ∀ p e s m args below meth c, p.tables.exec = Jvm.exec → c.code = cc → c.maxLocals = maxL → meth.sig.returnType = ret → meth.locks = false → (∀ w ∈ ws, w.before args s = true) → s.vm.findClass y.cls = some m.cls →
      ∀ ls, lv_has ls maxL (lv_args 0 av) → W p l e rm s m args below meth c s.heap [] 0 0 (XQ below (pmQ P) args s 0 0 (fun _ => False)) (F0 m 0 ls [])) : PM l y ws rm av P := by
  refine MetX.ofW (cc := cc) (maxL := maxL) (ret := ret) hy hw ?_
  intro p e s m args below meth c s₁ B hml hnx ha hP
  subst hP
  rw [lg_entry_eq]
  exact body p e s m _ below meth c B.exec B.bytes hml B.returns B.notSynchronized (atoms_spec (ws := ws) B.pre) (findClass_of_methodNamed B.named) _ (lv_entry av hL)
theorem pm_iret {cc : ByteArray} {P : Value → Prop} {v : Int32} {pc : Nat} {ls : Array Slot} (hx : p.tables.exec = Jvm.exec) (hb : c.code = cc) (hr : meth.sig.returnType = some .int) (hk : meth.locks = false) (hd : decode cc pc = .ok (.ireturn, 1)) (h : P (.int v)) :
    W p l e R s m args below meth c s.heap [] 0 0 (XQ below (pmQ P) args s 0 0 (fun _ => False)) (F0 m pc ls [.int v]) :=
  W.mono (fun _ => XQ.of) (W.iret hx hb hr (fun t ht _ => ⟨⟨_, rfl, h⟩, ht⟩) (fun q h => by cases h) hd hk)
theorem pm_zret {cc : ByteArray} {P : Value → Prop} {v : Int32} {pc : Nat} {ls : Array Slot} (hx : p.tables.exec = Jvm.exec) (hb : c.code = cc) (hr : meth.sig.returnType = some .boolean) (hk : meth.locks = false) (hd : decode cc pc = .ok (.ireturn, 1)) (hv : narrow .boolean (.int v) = .int v) (h : P (.int v)) :
    W p l e R s m args below meth c s.heap [] 0 0 (XQ below (pmQ P) args s 0 0 (fun _ => False)) (F0 m pc ls [.int v]) :=
  W.mono (fun _ => XQ.of) (W.zret hx hb hr hv (fun t ht _ => ⟨⟨_, rfl, h⟩, ht⟩) (fun q h => by cases h) hd hk)
theorem pm_lret {cc : ByteArray} {P : Value → Prop} {v : Int64} {pc : Nat} {ls : Array Slot} (hx : p.tables.exec = Jvm.exec) (hb : c.code = cc) (hr : meth.sig.returnType = some .long) (hk : meth.locks = false) (hd : decode cc pc = .ok (.lreturn, 1)) (h : P (.long v)) :
    W p l e R s m args below meth c s.heap [] 0 0 (XQ below (pmQ P) args s 0 0 (fun _ => False)) (F0 m pc ls [.long v]) :=
  W.mono (fun _ => XQ.of) (W.lret hx hb hr (fun t ht _ => ⟨⟨_, rfl, h⟩, ht⟩) (fun q h => by cases h) hd hk)
/-- a call of such a method -/
theorem pm_go {P : Value → Prop} {g : JFrame} {rest : List Value} {a : Array Value} (hr : xRun p l e R s m args below meth c H locs cells slots 0 0 g rest (pmQ P a) (fun _ => False))
    (k : ∀ r, P r → W p l e R s m args below meth c H locs cells slots Q { g with pc := g.pc + 3, stack := r :: rest }) : W p l e R s m args below meth c H locs cells slots Q g := by
  intro T hT X
  obtain ⟨o, st₀, t, T', L, h0, h1, h2, ⟨⟨r, rfl, hP⟩, h3⟩, h4, X', h5, -⟩ := hr T hT X
  have hL : L = [] := by
    cases L with
    | nil => rfl
    | cons q L => exact absurd (h4 q List.mem_cons_self) (fun h => h)
  subst hL
  rw [List.append_nil] at X'
  obtain ⟨tg, a1, b1⟩ := k r hP T' (h1.trans (h3.trans h0)) X'
  exact ⟨tg, h5 _ rfl tg a1, b1⟩
section PMC
variable {y : MethodName} {bytes cc : ByteArray} {maxL nL n index pc : Nat} {ret : Option FieldType} {ws ws' : List Cond} {rm : Room} {Ts : List Cond} {own host : String} {As rest st : List Value} {ls : Array Slot} {P : Value → Prop} {lv : List (Nat × Value)}
theorem pm_pre {av : List Value} : PreS s H (fun a _ => a = av.toArray) av := ⟨fun _ _ _ _ h => h, fun _ _ _ => rfl⟩
/-- invokestatic, of a method that may be named by its package -/
theorem pm_S (hx : p.tables.exec = Jvm.exec) (hb : c.code = cc) (hml : c.maxLocals = nL) (hown : s.vm.findClass own = some m.cls) (hts : ∀ w ∈ Ts, w.before args s = true) (hl : lv_has ls nL lv) (hM : PM l y ws rm As P) (hG : GoodIn Ts (va_wsS own index y ws)) (hw : ws = Cond.code y bytes maxL ret :: ws') (hrm : rm.cells = 0 ∧ rm.slots = 0)
    (hd : y.cls ≠ "java/lang/invoke/MethodHandle" ∧ y.cls ≠ "java/lang/invoke/VarHandle" ∧ (parseMethodDescriptor y.desc).map (fun d => d.parameters.length) = some As.length) (hR : rm.frames + 1 ≤ R.frames ∧ 8 + (maxL + 11) + rm.locals ≤ R.locals)
    (hst : st = As.reverse ++ rest) (hW : (rest.map fun v => v.category).sum ≤ 8) (hdg : decode cc pc = .ok (.invokestatic index, 3)) (hc : cells ≤ R.cells ∧ slots ≤ R.slots)
    (k : ∀ r, P r → W p l e R s m args below meth c H locs cells slots Q (F0 m (pc + 3) ls (r :: rest))) : W p l e R s m args below meth c H locs cells slots Q (F0 m pc ls st) :=
  pm_go (x_runS (Ts := Ts) (As := As) (rest := rest) (g := F0 m pc ls st) ⟨hx, hb, hml, hown, hts⟩ hM (va_cwS As.length hts hG hw hrm.1 hrm.2 hd hR) pm_pre rfl rfl hl.1 hst (lv_room hW) hdg ⟨hc.1, hc.2⟩) k
/-- invokestatic, of a private method of the nest -/
theorem pm_SN (hx : p.tables.exec = Jvm.exec) (hb : c.code = cc) (hml : c.maxLocals = nL) (hown : s.vm.findClass own = some m.cls) (hts : ∀ w ∈ Ts, w.before args s = true) (hl : lv_has ls nL lv) (hM : PM l y ws rm As P) (hG : GoodIn Ts ws) (hw : ws = Cond.code y bytes maxL ret :: ws') (hrm : rm.cells = 0 ∧ rm.slots = 0)
    (hlk : va_Nw (.methodLinkNest own index y host) s) (hini : (Cond.initialized y.cls).before args s = true) (hsta : (Cond.static y).before args s = true)
    (hd : y.cls ≠ "java/lang/invoke/MethodHandle" ∧ y.cls ≠ "java/lang/invoke/VarHandle" ∧ (parseMethodDescriptor y.desc).map (fun d => d.parameters.length) = some As.length) (hR : rm.frames + 1 ≤ R.frames ∧ 8 + (maxL + 11) + rm.locals ≤ R.locals)
    (hst : st = As.reverse ++ rest) (hW : (rest.map fun v => v.category).sum ≤ 8) (hdg : decode cc pc = .ok (.invokestatic index, 3)) (hc : cells ≤ R.cells ∧ slots ≤ R.slots)
    (k : ∀ r, P r → W p l e R s m args below meth c H locs cells slots Q (F0 m (pc + 3) ls (r :: rest))) : W p l e R s m args below meth c H locs cells slots Q (F0 m pc ls st) :=
  pm_go (x_runSN (Ts := Ts) (As := As) (rest := rest) (g := F0 m pc ls st) ⟨hx, hb, hml, hown, hts⟩ hM ⟨va_cnB As.length hts hG hw hrm.1 hrm.2 hlk hini hd hR, hsta⟩ pm_pre rfl rfl hl.1 hst (lv_room hW) hdg ⟨hc.1, hc.2⟩) k
end PMC
end PMS
end
section
/-! the same over the one list of words -/
section PMG
variable {p : Program} {l : Launch} {e : Env} {R : Room} {s : State} {m : MethodId} {args : Array Value} {below : List Frame} {meth : Method} {c : Code} {H : Heap} {locs : List Loc} {cells slots : Nat} {Q : State → Prop}
theorem PM.ofG {y : MethodName} {rm : Room} {av : List Value} {P : Value → Prop} {cc : ByteArray} {maxL : Nat} {ret : Option FieldType}
    (hy : plainFor y = true) (hL : (lg_sl av).length ≤ maxL)
    (body : ∀ p e s m args below meth c, p.tables.exec = Jvm.exec → c.code = cc → c.maxLocals = maxL → meth.sig.returnType = ret → meth.locks = false → (∀ w ∈ GG, w.before args s = true) → s.vm.findClass y.cls = some m.cls →
      ∀ ls, lv_has ls maxL (lv_args 0 av) → W p l e rm s m args below meth c s.heap [] 0 0 (XQ below (pmQ P) args s 0 0 (fun _ => False)) (F0 m 0 ls [])) : PM l y (Cond.code y cc maxL ret :: GG) rm av P :=
  PM.ofW hy rfl hL fun p e s m args below meth c hx hb hml hr hk hts hown ls hl => body p e s m args below meth c hx hb hml hr hk (fun w h => hts w (List.mem_cons_of_mem _ h)) hown ls hl
section PMGC
variable {y : MethodName} {bytes cc : ByteArray} {maxL nL index pc : Nat} {ret : Option FieldType} {rm : Room} {own : String} {As rest st : List Value} {ls : Array Slot} {P : Value → Prop} {lv : List (Nat × Value)}
theorem g_callB {n mc ms : Nat} (hg : ∀ w ∈ GG, w.before args s = true) (h1 : Cond.methodLink own index y ∈ GG) (h3 : Cond.initialized y.cls ∈ GG) (h4 : Cond.code y bytes maxL ret ∈ GG) (hrm : rm.cells = mc ∧ rm.slots = ms)
    (hd : y.cls ≠ "java/lang/invoke/MethodHandle" ∧ y.cls ≠ "java/lang/invoke/VarHandle" ∧ (parseMethodDescriptor y.desc).map (fun d => d.parameters.length) = some n) (hR : rm.frames + 1 ≤ R.frames ∧ 8 + (maxL + 11) + rm.locals ≤ R.locals) :
    CallB R s args own index y bytes maxL ret (Cond.code y bytes maxL ret :: GG) rm mc ms n := by
  refine ⟨hrm.1, hrm.2, hR.1, hR.2, fun w hw a' U hW => ?_, List.mem_cons_self, hg _ h4, hg _ h3, ⟨hd.1, hd.2.1⟩, fun sig h => ?_, hg _ h1⟩
  · rcases List.mem_cons.mp hw with h | h
    · subst h; exact GG_warm h4 hW (hg _ h4)
    · exact GG_warm h hW (hg _ h)
  · have h2 := hd.2.2
    rw [h] at h2
    exact (Option.some.inj h2).symm
theorem pm_G {n : Nat} (hx : p.tables.exec = Jvm.exec) (hb : c.code = cc) (hml : c.maxLocals = nL) (hown : s.vm.findClass own = some m.cls) (hg : ∀ w ∈ GG, w.before args s = true) (hl : lv_has ls nL lv) (hM : PM l y (Cond.code y bytes maxL ret :: GG) rm As P)
    (h1 : Cond.methodLink own index y ∈ GG) (h2 : Cond.static y ∈ GG) (h3 : Cond.initialized y.cls ∈ GG) (h4 : Cond.code y bytes maxL ret ∈ GG) (hrm : rm.cells = 0 ∧ rm.slots = 0)
    (hd : y.cls ≠ "java/lang/invoke/MethodHandle" ∧ y.cls ≠ "java/lang/invoke/VarHandle" ∧ (parseMethodDescriptor y.desc).map (fun d => d.parameters.length) = some n) (hn : As.length = n) (hR : rm.frames + 1 ≤ R.frames ∧ 8 + (maxL + 11) + rm.locals ≤ R.locals)
    (hst : st = As.reverse ++ rest) (hW : (rest.map fun v => v.category).sum ≤ 8) (hdg : decode cc pc = .ok (.invokestatic index, 3)) (hc : cells ≤ R.cells ∧ slots ≤ R.slots)
    (k : ∀ r, P r → W p l e R s m args below meth c H locs cells slots Q (F0 m (pc + 3) ls (r :: rest))) : W p l e R s m args below meth c H locs cells slots Q (F0 m pc ls st) :=
  pm_go (x_runS (Ts := GG) (As := As) (rest := rest) (g := F0 m pc ls st) ⟨hx, hb, hml, hown, hg⟩ hM ⟨g_callB hg h1 h3 h4 hrm hd hR, hg _ h2⟩ pm_pre rfl hn hl.1 hst (lv_room hW) hdg ⟨hc.1, hc.2⟩) k
theorem j_ldc2 {v : Int64} {z : Int} (hx : p.tables.exec = Jvm.exec) (hb : c.code = cc) (hown : s.vm.findClass own = some m.cls) (hg : ∀ w ∈ GG, w.before args s = true) (h : Cond.constantLong own index v ∈ GG) (hv : v = jl z) (hdg : decode cc pc = .ok (.ldc2_w index, 3))
    (k : W p l e R s m args below meth c H locs cells slots Q (F0 m (pc + 3) ls (.long (jl z) :: st))) : W p l e R s m args below meth c H locs cells slots Q (F0 m pc ls st) :=
  lv_ldc2 hx hb hown (hg _ h) hdg (by rw [hv]; exact k)
end PMGC
end PMG
theorem tm_0 {a b : Int} : a.tmod b = 0 ↔ b ∣ a := ⟨fun h => Int.dvd_of_tmod_eq_zero h, fun h => Int.tmod_eq_zero_of_dvd h⟩
theorem td_e {a b : Int} (h : b ∣ a) : a.tdiv b = a / b := Int.tdiv_eq_ediv_of_dvd h
theorem nar_0 : narrow .boolean (.int (ji 0)) = .int (ji 0) := rfl
theorem nar_1 : narrow .boolean (.int (ji 1)) = .int (ji 1) := rfl
end
section
/-! whole numbers: primes, the part without squares, Euclid -/
def prm (q : Nat) : Prop := 1 < q ∧ ∀ e, 1 < e → e < q → ¬ e ∣ q
theorem prm_ex : ∀ n d : Nat, d ≤ n → 1 < d → ∃ q, prm q ∧ q ∣ d := by
  intro n
  induction n with
  | zero => intro d h1 h2; omega
  | succ n ih =>
    intro d h1 h2
    by_cases hp : prm d
    · exact ⟨d, hp, Nat.dvd_refl d⟩
    · have : ∃ e, 1 < e ∧ e < d ∧ e ∣ d := by
        apply Classical.byContradiction
        intro hno
        exact hp ⟨h2, fun e he1 he2 he3 => hno ⟨e, he1, he2, he3⟩⟩
      obtain ⟨e, e1, e2, e3⟩ := this
      obtain ⟨q, hq, hqe⟩ := ih e (by omega) e1
      exact ⟨q, hq, Nat.dvd_trans hqe e3⟩
theorem prm_div {d : Nat} (h : 1 < d) : ∃ q, prm q ∧ q ∣ d := prm_ex d d (Nat.le_refl d) h
theorem prm_eq {q d : Nat} (hq : prm q) (h : 1 < d) (hd : d ∣ q) : d = q := by
  have h1 := Nat.le_of_dvd (Nat.lt_of_succ_lt hq.1) hd
  rcases Nat.lt_or_ge d q with h2 | h2
  · exact absurd hd (hq.2 d h h2)
  · omega
theorem prm_cop {q a : Nat} (hq : prm q) (h : ¬ q ∣ a) : Nat.Coprime q a := by
  have h1 := Nat.gcd_dvd_left q a
  have h2 := Nat.gcd_dvd_right q a
  have hpos : 0 < Nat.gcd q a := Nat.gcd_pos_of_pos_left a (by have := hq.1; omega)
  rcases Nat.lt_or_ge 1 (Nat.gcd q a) with h3 | h3
  · have h4 := prm_eq hq h3 h1
    rw [h4] at h2
    exact absurd h2 h
  · show Nat.gcd q a = 1
    omega
theorem prm_mul {q a b : Nat} (hq : prm q) (h : q ∣ a * b) : q ∣ a ∨ q ∣ b := by
  by_cases ha : q ∣ a
  · exact Or.inl ha
  · exact Or.inr ((prm_cop hq ha).dvd_of_dvd_mul_left h)
/-- n without its squares is c -/
def sfN (n c : Nat) : Prop := (∃ m, 0 < m ∧ n = c * (m * m)) ∧ ∀ d, 1 < d → ¬ d * d ∣ c
theorem sfN_uniq {n c c' : Nat} (h : sfN n c) (h' : sfN n c') : c = c' := by
  obtain ⟨⟨m, hm, e⟩, hs⟩ := h
  obtain ⟨⟨m', hm', e'⟩, hs'⟩ := h'
  have hg : 0 < Nat.gcd m m' := Nat.gcd_pos_of_pos_left m' hm
  obtain ⟨u, v, huv, hu, hv⟩ := Nat.exists_coprime m m'
  generalize Nat.gcd m m' = g at hg hu hv
  have key : c * (u * u) = c' * (v * v) := by
    have h1 : c * (m * m) = c' * (m' * m') := e.symm.trans e'
    rw [hu, hv] at h1
    have h2 : (g * g) * (c * (u * u)) = (g * g) * (c' * (v * v)) := by
      calc (g * g) * (c * (u * u)) = c * (u * g * (u * g)) := by ac_rfl
        _ = c' * (v * g * (v * g)) := h1
        _ = (g * g) * (c' * (v * v)) := by ac_rfl
    exact Nat.eq_of_mul_eq_mul_left (Nat.mul_pos hg hg) h2
  have huu : Nat.Coprime (u * u) (v * v) := Nat.Coprime.mul_left (Nat.Coprime.mul_right huv huv) (Nat.Coprime.mul_right huv huv)
  have hup : 0 < u := Nat.pos_of_ne_zero (fun h => by rw [h, Nat.zero_mul] at hu; omega)
  have hvp : 0 < v := Nat.pos_of_ne_zero (fun h => by rw [h, Nat.zero_mul] at hv; omega)
  have d1 : u * u ∣ c' := huu.dvd_of_dvd_mul_right (by rw [← key]; exact Nat.dvd_mul_left _ _)
  have d2 : v * v ∣ c := huu.symm.dvd_of_dvd_mul_right (by rw [key]; exact Nat.dvd_mul_left _ _)
  have u1 : u = 1 := by
    rcases Nat.lt_or_ge 1 u with h | h
    · exact absurd d1 (hs' u h)
    · omega
  have v1 : v = 1 := by
    rcases Nat.lt_or_ge 1 v with h | h
    · exact absurd d2 (hs v h)
    · omega
  subst u1; subst v1
  simpa using key
/-- the class of a number other than 0 -/
def sfI (a c : Int) : Prop := sfN a.natAbs c.natAbs ∧ (0 < a ↔ 0 < c) ∧ (a < 0 ↔ c < 0)
theorem sfI_uniq {a c c' : Int} (h : sfI a c) (h' : sfI a c') : c = c' := by
  have h1 := sfN_uniq h.1 h'.1
  obtain ⟨-, h2, h3⟩ := h
  obtain ⟨-, h4, h5⟩ := h'
  omega
theorem sfI_ne {a c : Int} (ha : a ≠ 0) (h : sfI a c) : c ≠ 0 := by
  obtain ⟨-, h2, h3⟩ := h
  omega
/-- division by a factor as often as it goes, at most n times -/
def wo : Nat → Int → Int → Int
  | 0, r, _ => r
  | n + 1, r, f => if f ∣ r then wo n (r / f) f else r
theorem wo_dvd : ∀ (n : Nat) (r f : Int), wo n r f ∣ r := by
  intro n
  induction n with
  | zero => intro r f; exact Int.dvd_refl r
  | succ n ih =>
    intro r f
    show (if f ∣ r then wo n (r / f) f else r) ∣ r
    by_cases h : f ∣ r
    · rw [if_pos h]
      exact Int.dvd_trans (ih _ _) ⟨f, (Int.ediv_mul_cancel h).symm⟩
    · rw [if_neg h]
      exact Int.dvd_refl r
theorem wo_ne {n : Nat} {r f : Int} (h : r ≠ 0) : wo n r f ≠ 0 := by
  intro h0
  have h1 := wo_dvd n r f
  rw [h0] at h1
  exact h (Int.zero_dvd.mp h1)
theorem div_abs {r f : Int} (hf : 1 < f) (h : f ∣ r) (hr : r ≠ 0) : (r / f).natAbs * 2 ≤ r.natAbs := by
  obtain ⟨k, rfl⟩ := h
  rw [Int.mul_ediv_cancel_left _ (by omega : f ≠ 0), Int.natAbs_mul]
  have h1 : 2 ≤ f.natAbs := by omega
  calc k.natAbs * 2 = 2 * k.natAbs := Nat.mul_comm _ _
    _ ≤ f.natAbs * k.natAbs := Nat.mul_le_mul_right _ h1
theorem wo_out : ∀ (n : Nat) (r f : Int), 1 < f → r ≠ 0 → r.natAbs < 2 ^ n → ¬ f ∣ wo n r f := by
  intro n
  induction n with
  | zero => intro r f hf hr hb; have : r.natAbs ≠ 0 := by omega
            omega
  | succ n ih =>
    intro r f hf hr hb
    show ¬ f ∣ (if f ∣ r then wo n (r / f) f else r)
    by_cases h : f ∣ r
    · rw [if_pos h]
      have h1 := div_abs hf h hr
      have h2 : r / f ≠ 0 := by
        intro h0
        have := Int.ediv_mul_cancel h
        rw [h0] at this
        omega
      refine ih (r / f) f hf h2 ?_
      have : 2 ^ (n + 1) = 2 ^ n * 2 := Nat.pow_succ 2 n
      omega
    · rw [if_neg h]; exact h
/-- by whom it was divided -/
theorem wo_pow : ∀ (n : Nat) (r f : Int), ∃ k : Nat, r = wo n r f * f ^ k := by
  intro n
  induction n with
  | zero => intro r f; exact ⟨0, by simp [wo]⟩
  | succ n ih =>
    intro r f
    by_cases h : f ∣ r
    · obtain ⟨k, hk⟩ := ih (r / f) f
      refine ⟨k + 1, ?_⟩
      show r = (if f ∣ r then wo n (r / f) f else r) * f ^ (k + 1)
      rw [if_pos h, Int.pow_succ, ← Int.mul_assoc, ← hk, Int.ediv_mul_cancel h]
    · exact ⟨0, by simp [wo, h]⟩
theorem wo_sgn (n : Nat) (r f : Int) (hf : 0 < f) : (0 < r ↔ 0 < wo n r f) ∧ (r < 0 ↔ wo n r f < 0) := by
  obtain ⟨k, hk⟩ := wo_pow n r f
  have hp : 0 < f ^ k := Int.pow_pos hf
  generalize wo n r f = w at hk
  generalize f ^ k = z at hk hp
  subst hk
  refine ⟨⟨fun h => ?_, fun h => Int.mul_pos h hp⟩, ⟨fun h => ?_, fun h => Int.mul_neg_of_neg_of_pos h hp⟩⟩
  · exact Int.pos_of_mul_pos_left h hp
  · rcases Int.lt_trichotomy w 0 with h1 | h1 | h1
    · exact h1
    · rw [h1, Int.zero_mul] at h; omega
    · have := Int.mul_pos h1 hp; omega
/-- Euclid, at most n steps -/
def eu : Nat → Nat → Nat → Nat
  | 0, x, _ => x
  | n + 1, x, y => if y = 0 then x else eu n y (x % y)
theorem eu_gcd : ∀ (k n x y : Nat), y ≤ x ∨ x < 2 ^ k → y < 2 ^ k → 2 * k + 2 ≤ n → eu n x y = Nat.gcd x y := by
  have main : ∀ (k n x y : Nat), y < 2 ^ k → y ≤ x → 2 * k + 1 ≤ n → eu n x y = Nat.gcd x y := by
    intro k
    induction k with
    | zero =>
      intro n x y hy _ hn
      obtain ⟨n, rfl⟩ : ∃ n', n = n' + 1 := ⟨n - 1, by omega⟩
      have : y = 0 := by omega
      subst this
      simp [eu]
    | succ k ih =>
      intro n x y hy hyx hn
      obtain ⟨n, rfl⟩ : ∃ n', n = n' + 2 := ⟨n - 2, by omega⟩
      show (if y = 0 then x else eu (n + 1) y (x % y)) = _
      by_cases h0 : y = 0
      · subst h0; simp
      · rw [if_neg h0]
        have hg : Nat.gcd x y = Nat.gcd y (x % y) := by rw [Nat.gcd_comm x y, Nat.gcd_rec y x, Nat.gcd_comm]
        rw [hg]
        have h1 : x % y < y := Nat.mod_lt _ (by omega)
        generalize x % y = z at h1
        show (if z = 0 then y else eu n z (y % z)) = _
        by_cases hz : z = 0
        · subst hz; simp
        · rw [if_neg hz]
          have hg2 : Nat.gcd y z = Nat.gcd z (y % z) := by rw [Nat.gcd_comm y z, Nat.gcd_rec z y, Nat.gcd_comm]
          rw [hg2]
          have h2 : y % z < z := Nat.mod_lt _ (by omega)
          have h3 : 2 * (y % z) < y := by
            have h4 := Nat.div_add_mod y z
            have h5 : 1 ≤ y / z := (Nat.le_div_iff_mul_le (by omega)).mpr (by omega)
            have h6 : z * 1 ≤ z * (y / z) := Nat.mul_le_mul_left z h5
            omega
          refine ih n z (y % z) ?_ (by omega) (by omega)
          have : 2 ^ (k + 1) = 2 ^ k * 2 := Nat.pow_succ 2 k
          omega
  intro k n x y hx hy hn
  by_cases hyx : y ≤ x
  · exact main k n x y hy hyx (by omega)
  · obtain ⟨n, rfl⟩ : ∃ n', n = n' + 1 := ⟨n - 1, by omega⟩
    show (if y = 0 then x else eu n y (x % y)) = _
    rw [if_neg (by omega), Nat.mod_eq_of_lt (by omega), Nat.gcd_comm]
    rcases hx with hx | hx
    · omega
    · exact main k n y x hx (by omega) (by omega)
/-- where the other classOf stands: c found, left to look at, p the next candidate -/
def ci (n c left p : Nat) : Prop := 0 < left ∧ 0 < c ∧ (∃ m, 0 < m ∧ n = c * left * (m * m)) ∧ (∀ d, 1 < d → ¬ d * d ∣ c) ∧ (∀ e, 1 < e → e < p → ¬ e ∣ left) ∧ (∀ q, prm q → q ∣ c → q < p)
theorem ci_0 {n : Nat} (h : 0 < n) : ci n 1 n 2 := by
  refine ⟨h, Nat.one_pos, ⟨1, Nat.one_pos, by simp⟩, fun d hd hdd => ?_, fun e h1 h2 => by omega, fun q hq hd => ?_⟩
  · have h1 := Nat.le_of_dvd Nat.one_pos hdd
    have h2 : 2 * 2 ≤ d * d := Nat.mul_le_mul hd hd
    omega
  · have h1 := Nat.le_of_dvd Nat.one_pos hd
    have := hq.1
    omega
/-- no square: it is enough to look at primes -/
theorem sq_of_prm {c : Nat} (h : ∀ q, prm q → ¬ q * q ∣ c) : ∀ d, 1 < d → ¬ d * d ∣ c := by
  intro d hd hdd
  obtain ⟨q, hq, hqd⟩ := prm_div hd
  exact h q hq (Nat.dvd_trans (Nat.mul_dvd_mul hqd hqd) hdd)
theorem cop_ne {p q : Nat} (hp : prm p) (hq : prm q) (h : p ≠ q) : Nat.Coprime p q :=
  prm_cop hp (fun hd => h (prm_eq hq hp.1 hd))
theorem ci_step {n c left p l' k : Nat} (h : ci n c left p) (hp : 2 ≤ p) (hl : left = l' * p ^ k) (hn : ¬ p ∣ l') : ci n (if k % 2 = 1 then c * p else c) l' (p + 1) := by
  obtain ⟨h1, h2, ⟨m, hm, h3⟩, h4, h5, h6⟩ := h
  have hl0 : 0 < l' := Nat.pos_of_ne_zero (fun h => by rw [h, Nat.zero_mul] at hl; omega)
  have h5' : ∀ e, 1 < e → e < p + 1 → ¬ e ∣ l' := by
    intro e he1 he2 hd
    rcases Nat.lt_or_ge e p with h | h
    · exact h5 e he1 h (by rw [hl]; exact Nat.dvd_trans hd (Nat.dvd_mul_right _ _))
    · have : e = p := by omega
      subst this
      exact hn hd
  have hpp : 0 < p := by omega
  by_cases hk : k % 2 = 1
  · rw [if_pos hk]
    obtain ⟨j, rfl⟩ : ∃ j, k = 2 * j + 1 := ⟨k / 2, by omega⟩
    have hpl : p ∣ left := by rw [hl, Nat.pow_succ]; exact ⟨l' * p ^ (2 * j), by ac_rfl⟩
    have hprm : prm p := ⟨by omega, fun e he1 he2 hd => h5 e he1 he2 (Nat.dvd_trans hd hpl)⟩
    refine ⟨hl0, Nat.mul_pos h2 hpp, ⟨m * p ^ j, Nat.mul_pos hm (Nat.pow_pos hpp), ?_⟩, sq_of_prm (fun q hq hqq => ?_), h5', fun q hq hqd => ?_⟩
    · rw [h3, hl, Nat.pow_succ, Nat.two_mul, Nat.pow_add]
      ac_rfl
    · by_cases hqp : q = p
      · subst hqp
        have : q ∣ c := Nat.dvd_of_mul_dvd_mul_right hpp hqq
        exact absurd (h6 q hq this) (Nat.lt_irrefl q)
      · have hcop := cop_ne hq hprm hqp
        exact h4 q hq.1 ((Nat.Coprime.mul_left hcop hcop).dvd_of_dvd_mul_right hqq)
    · rcases prm_mul hq hqd with h | h
      · exact Nat.lt_succ_of_lt (h6 q hq h)
      · have := prm_eq hprm hq.1 h
        omega
  · rw [if_neg hk]
    obtain ⟨j, rfl⟩ : ∃ j, k = 2 * j := ⟨k / 2, by omega⟩
    refine ⟨hl0, h2, ⟨m * p ^ j, Nat.mul_pos hm (Nat.pow_pos hpp), ?_⟩, h4, h5', fun q hq hqd => Nat.lt_succ_of_lt (h6 q hq hqd)⟩
    rw [h3, hl, Nat.two_mul, Nat.pow_add]
    ac_rfl
theorem ci_end {n c left p : Nat} (h : ci n c left p) (hlt : left < p * p) : sfN n (c * left) := by
  obtain ⟨h1, h2, ⟨m, hm, h3⟩, h4, h5, h6⟩ := h
  refine ⟨⟨m, hm, h3⟩, sq_of_prm (fun q hq hqq => ?_)⟩
  by_cases hql : q ∣ left
  · have hqp : p ≤ q := Nat.le_of_not_lt (fun h => h5 q hq.1 h hql)
    have hqc : ¬ q ∣ c := fun h => by have := h6 q hq h; omega
    have hcop := prm_cop hq hqc
    have h7 := (Nat.Coprime.mul_left hcop hcop).dvd_of_dvd_mul_left hqq
    have h8 := Nat.le_of_dvd h1 h7
    have h9 : p * p ≤ q * q := Nat.mul_le_mul hqp hqp
    omega
  · have hcop := prm_cop hq hql
    exact h4 q hq.1 ((Nat.Coprime.mul_left hcop hcop).dvd_of_dvd_mul_right hqq)
/-- where the class's classOf stands: r is left, d the next candidate -/
def co (a r d : Int) : Prop := r ≠ 0 ∧ (∃ m : Nat, 0 < m ∧ a.natAbs = r.natAbs * (m * m)) ∧ (0 < a ↔ 0 < r) ∧ (a < 0 ↔ r < 0) ∧ ∀ e : Nat, 1 < e → (e : Int) < d → ¬ e * e ∣ r.natAbs
theorem co_0 {a : Int} (h : a ≠ 0) : co a a 2 := ⟨h, ⟨1, Nat.one_pos, by simp⟩, Iff.rfl, Iff.rfl, fun e h1 h2 => by omega⟩
theorem co_step {a r d : Int} (h : co a r d) (hd : 2 ≤ d) (hb : r.natAbs < 2 ^ 64) : co a (wo 64 r (d * d)) (d + 1) := by
  obtain ⟨h1, ⟨m, hm, h2⟩, h3, h4, h5⟩ := h
  have hdd : 4 ≤ d * d := by
    have : 2 * 2 ≤ d * d := Int.mul_le_mul hd hd (by omega) (by omega)
    omega
  obtain ⟨s1, s2⟩ := wo_sgn 64 r (d * d) (by omega)
  obtain ⟨k, hk⟩ := wo_pow 64 r (d * d)
  have hout := wo_out 64 r (d * d) (by omega) h1 hb
  have hdv := wo_dvd 64 r (d * d)
  have hn := wo_ne (n := 64) (f := d * d) h1
  generalize wo 64 r (d * d) = w at *
  refine ⟨hn, ⟨m * d.natAbs ^ k, Nat.mul_pos hm (Nat.pow_pos (by omega)), ?_⟩, h3.trans s1, h4.trans s2, fun e he1 he2 hee => ?_⟩
  · have h6 : r.natAbs = w.natAbs * (d.natAbs * d.natAbs) ^ k := by
      rw [hk, Int.natAbs_mul, Int.natAbs_pow, Int.natAbs_mul]
    rw [h2, h6, Nat.mul_pow]
    ac_rfl
  · have h7 : w.natAbs ∣ r.natAbs := Int.natAbs_dvd_natAbs.mpr hdv
    rcases Int.lt_or_le (e : Int) d with h | h
    · exact h5 e he1 h (Nat.dvd_trans hee h7)
    · have h8 : d = (e : Int) := by omega
      apply hout
      rw [h8]
      apply Int.natAbs_dvd_natAbs.mp
      rw [Int.natAbs_mul]
      exact hee
theorem co_end {a r d : Int} (h : co a r d) (hd : 2 ≤ d) (hlt : (r.natAbs : Int) < d * d) : sfI a r := by
  obtain ⟨h1, ⟨m, hm, h2⟩, h3, h4, h5⟩ := h
  refine ⟨⟨⟨m, hm, h2⟩, fun e he hee => ?_⟩, h3, h4⟩
  rcases Int.lt_or_le (e : Int) d with h | h
  · exact h5 e he h hee
  · have h6 := Nat.le_of_dvd (by omega) hee
    have h7 : d * d ≤ (e : Int) * e := Int.mul_le_mul h h (by omega) (by omega)
    have h8 : ((e * e : Nat) : Int) = (e : Int) * e := Int.natCast_mul e e
    omega
theorem prm_of {n d : Nat} (hn : 1 < n) (h : ∀ e, 1 < e → e < d → ¬ e ∣ n) (hd : n < d * d) : prm n := by
  refine ⟨hn, fun e he1 he2 hed => ?_⟩
  rcases Nat.lt_or_ge e d with h1 | h1
  · exact h e he1 h1 hed
  · obtain ⟨f, hf⟩ := hed
    have hf1 : 1 < f := by
      rcases Nat.lt_or_ge 1 f with h2 | h2
      · exact h2
      · have : f = 0 ∨ f = 1 := by omega
        rcases this with h3 | h3
        · rw [h3] at hf; omega
        · rw [h3] at hf; omega
    have hfd : f < d := by
      rcases Nat.lt_or_ge f d with h2 | h2
      · exact h2
      · have := Nat.mul_le_mul h1 h2
        omega
    exact h f hf1 hfd ⟨e, by rw [hf, Nat.mul_comm]⟩
theorem cop_of_sq {g b : Nat} (h : ∀ d, 1 < d → ¬ d * d ∣ g * b) : Nat.Coprime g b := by
  have h1 : Nat.gcd g b * Nat.gcd g b ∣ g * b := Nat.mul_dvd_mul (Nat.gcd_dvd_left g b) (Nat.gcd_dvd_right g b)
  rcases Nat.lt_or_ge 1 (Nat.gcd g b) with h2 | h2
  · exact absurd h1 (h _ h2)
  · have : Nat.gcd g b = 0 ∨ Nat.gcd g b = 1 := by omega
    rcases this with h3 | h3
    · have h4 := Nat.eq_zero_of_gcd_eq_zero_left h3
      rw [h4, Nat.zero_mul] at h
      exact absurd (Nat.dvd_zero _) (h 2 (by omega))
    · exact h3
/-- the product of two classes -/
def pr (a b : Int) : Int := a / (Int.gcd a b : Int) * (b / (Int.gcd a b : Int))
theorem pr_parts {a b : Int} (ha : a ≠ 0) : ∃ (g : Nat) (a' b' : Int), 0 < g ∧ a = g * a' ∧ b = g * b' ∧ Nat.Coprime a'.natAbs b'.natAbs ∧ Int.gcd a b = g ∧ pr a b = a' * b' := by
  have hg : 0 < Int.gcd a b := Nat.gcd_pos_of_pos_left _ (by omega)
  obtain ⟨a', h1⟩ : (Int.gcd a b : Int) ∣ a := Int.gcd_dvd_left ..
  obtain ⟨b', h2⟩ : (Int.gcd a b : Int) ∣ b := Int.gcd_dvd_right ..
  refine ⟨Int.gcd a b, a', b', hg, h1, h2, ?_, rfl, ?_⟩
  · have h3 : Int.gcd a b = Int.gcd a b * Nat.gcd a'.natAbs b'.natAbs := by
      have h4 : Nat.gcd a.natAbs b.natAbs = Int.gcd a b := rfl
      have h5 : a.natAbs = Int.gcd a b * a'.natAbs := by
        conv => lhs; rw [h1]
        rw [Int.natAbs_mul, Int.natAbs_natCast]
      have h6 : b.natAbs = Int.gcd a b * b'.natAbs := by
        conv => lhs; rw [h2]
        rw [Int.natAbs_mul, Int.natAbs_natCast]
      rw [← Nat.gcd_mul_left, ← h5, ← h6]
      exact h4.symm
    exact Nat.eq_of_mul_eq_mul_left hg (by rw [Nat.mul_one]; exact h3.symm)
  · have hz : (Int.gcd a b : Int) ≠ 0 := by omega
    have e1 : a / (Int.gcd a b : Int) = a' := by
      conv => lhs; arg 1; rw [h1]
      exact Int.mul_ediv_cancel_left _ hz
    have e2 : b / (Int.gcd a b : Int) = b' := by
      conv => lhs; arg 1; rw [h2]
      exact Int.mul_ediv_cancel_left _ hz
    rw [pr, e1, e2]
theorem pr_comm (a b : Int) : pr a b = pr b a := by
  rw [pr, pr, Int.gcd_comm a b, Int.mul_comm]
theorem pr_ne {a b : Int} (ha : a ≠ 0) (hb : b ≠ 0) : pr a b ≠ 0 := by
  obtain ⟨g, a', b', hg, h1, h2, -, -, h3⟩ := pr_parts (b := b) ha
  rw [h3]
  intro h
  rcases Int.mul_eq_zero.mp h with h4 | h4
  · rw [h4, Int.mul_zero] at h1; exact ha h1
  · rw [h4, Int.mul_zero] at h2; exact hb h2
/-- a times (b times a) is b, of classes -/
theorem pr_pr {a b : Int} (ha : a ≠ 0) (hb : b ≠ 0) (hs : ∀ d, 1 < d → ¬ d * d ∣ b.natAbs) : pr a (pr b a) = b := by
  obtain ⟨g, b', a', hg, h1, h2, hc, hgc, h3⟩ := pr_parts (a := b) (b := a) hb
  rw [h3]
  have ha' : a' ≠ 0 := fun h => by rw [h, Int.mul_zero] at h2; exact ha h2
  have hcop : Nat.Coprime g b'.natAbs := cop_of_sq (fun d hd => by
    have h4 : b.natAbs = g * b'.natAbs := by rw [h1, Int.natAbs_mul, Int.natAbs_natCast]
    rw [← h4]; exact hs d hd)
  have hgg : Int.gcd a (b' * a') = a'.natAbs := by
    show Nat.gcd a.natAbs (b' * a').natAbs = a'.natAbs
    rw [h2, Int.natAbs_mul, Int.natAbs_mul, Int.natAbs_natCast, Nat.gcd_mul_right, hcop.gcd_eq_one, Nat.one_mul]
  rw [pr, hgg, h2, h1]
  have hz : (a'.natAbs : Int) ≠ 0 := by omega
  rcases Int.lt_or_lt_of_ne ha' with h | h
  · have e : a' = -(a'.natAbs : Int) := by omega
    generalize a'.natAbs = n at *
    subst e
    rw [show (g : Int) * -(n : Int) = -(g : Int) * n by rw [Int.mul_neg, Int.neg_mul], show b' * -(n : Int) = -b' * n by rw [Int.mul_neg, Int.neg_mul], Int.mul_ediv_cancel _ hz, Int.mul_ediv_cancel _ hz, Int.neg_mul_neg]
  · have e : a' = (a'.natAbs : Int) := by omega
    generalize a'.natAbs = n at *
    subst e
    rw [Int.mul_ediv_cancel _ hz, Int.mul_ediv_cancel _ hz]
end
section
/-! bounds that the rows ask for -/
theorem ediv_pos_le {r b : Int} (hr : 0 ≤ r) (hb : 0 < b) : 0 ≤ r / b ∧ r / b ≤ r := ⟨Int.ediv_nonneg hr (by omega), Int.ediv_le_self b hr⟩
theorem ediv_neg_le {r b : Int} (hr : r < 0) (hb : 0 < b) : r ≤ r / b ∧ r / b < 0 := by
  refine ⟨?_, Int.ediv_neg_of_neg_of_pos hr hb⟩
  apply Int.le_ediv_of_mul_le hb
  have h1 : r * b ≤ r * 1 := Int.mul_le_mul_of_nonpos_left (by omega) (by omega)
  omega
theorem div_b64 {r b : Int} (h : b64 r) (hb : 1 < b) : b64 (r / b) := by
  rcases Int.lt_or_le r 0 with h1 | h1
  · have := ediv_neg_le h1 (by omega : 0 < b)
    omega
  · have := ediv_pos_le h1 (by omega : 0 < b)
    omega
theorem tm_le (a b : Int) : (a.tmod b).natAbs ≤ a.natAbs := by
  rw [Int.natAbs_tmod]
  exact Nat.mod_le _ _
theorem tm_sgn (a b : Int) : (0 ≤ a → 0 ≤ a.tmod b) ∧ (a ≤ 0 → a.tmod b ≤ 0) := by
  refine ⟨fun h => Int.tmod_nonneg b h, fun h => ?_⟩
  have h1 := Int.tmod_nonneg b (by omega : 0 ≤ -a)
  rw [Int.neg_tmod] at h1
  omega
theorem tm_b64 {a b : Int} (h : b64 a) : b64 (a.tmod b) := by
  have h1 := tm_le a b
  have h2 := tm_sgn a b
  omega
theorem tm_b32 {a b : Int} (h : b32 a) : b32 (a.tmod b) := by
  have h1 := tm_le a b
  have h2 := tm_sgn a b
  omega
end
section
/-! Math.abs and Math.max of longs, over whole numbers; the class of a number as a function -/
theorem wd_abs : Cond.static Lib.MathLoose.abs_long.x ∈ GG ∧ Cond.initialized "java/lang/Math" ∈ GG ∧ Cond.code Lib.MathLoose.abs_long.x Lib.MathLoose.abs_long.code 2 (some .long) ∈ GG := ⟨GG_t 150 rfl rfl, GG_t 12 rfl rfl, GG_t 151 rfl rfl⟩
theorem wd_max : Cond.static Lib.MathLoose.max_long.x ∈ GG ∧ Cond.initialized "java/lang/Math" ∈ GG ∧ Cond.code Lib.MathLoose.max_long.x Lib.MathLoose.max_long.code 4 (some .long) ∈ GG := ⟨GG_t 162 rfl rfl, GG_t 12 rfl rfl, GG_t 163 rfl rfl⟩
section JM
variable {p : Program} {l : Launch} {e : Env} {R : Room} {s : State} {m : MethodId} {args : Array Value} {below : List Frame} {meth : Method} {c : Code} {H : Heap} {locs : List Loc} {cells slots : Nat} {Q : State → Prop} {cc : ByteArray} {pc : Nat} {ls : Array Slot} {rest : List Value}
theorem j_labs (hx : p.tables.exec = Jvm.exec) (hb : c.code = cc) (hml : c.maxLocals = ls.size) {own : String} {index : Nat} (hown : s.vm.findClass own = some m.cls) (hg : ∀ w ∈ GG, w.before args s = true) (h1 : Cond.methodLink own index Lib.MathLoose.abs_long.x ∈ GG) (h2 : Cond.static Lib.MathLoose.abs_long.x ∈ GG ∧ Cond.initialized "java/lang/Math" ∈ GG ∧ Cond.code Lib.MathLoose.abs_long.x Lib.MathLoose.abs_long.code 2 (some .long) ∈ GG) {z : Int} (hz : -9223372036854775807 ≤ z ∧ z ≤ 9223372036854775807)
    (hf : 1 ≤ R.frames) (hlo : (rest.map fun v => v.category).sum + 13 ≤ R.locals) (hc : cells ≤ R.cells) (hs : slots ≤ R.slots) (hd : decode cc pc = .ok (.invokestatic index, 3))
    (k : W p l e R s m args below meth c H locs cells slots Q (F0 m (pc + 3) ls (.long (jl (z.natAbs : Int)) :: rest))) : W p l e R s m args below meth c H locs cells slots Q (F0 m pc ls (.long (jl z) :: rest)) := by
  refine va_mabs_long hx hb hml hown (hg _ h1) (hg _ h2.1) (hg _ h2.2.1) (hg _ h2.2.2) hf hlo hc hs hd ?_
  have e1 : (if 0 < jl z then jl z else -jl z) = jl (z.natAbs : Int) := by
    by_cases h : 0 < z
    · have h9 : (0 : Int64) < jl z := (jl_lt (by decide : b64 0) (by omega)).mpr h
      rw [if_pos h9, show (z.natAbs : Int) = z by omega]
    · have h9 : ¬ (0 : Int64) < jl z := fun q => h ((jl_lt (by decide : b64 0) (by omega)).mp q)
      rw [if_neg h9, show (z.natAbs : Int) = -z by omega]
      exact (Int64.ofInt_neg z).symm
  rw [e1]
  exact k
theorem j_lmax (hx : p.tables.exec = Jvm.exec) (hb : c.code = cc) (hml : c.maxLocals = ls.size) {own : String} {index : Nat} (hown : s.vm.findClass own = some m.cls) (hg : ∀ w ∈ GG, w.before args s = true) (h1 : Cond.methodLink own index Lib.MathLoose.max_long.x ∈ GG) (h2 : Cond.static Lib.MathLoose.max_long.x ∈ GG ∧ Cond.initialized "java/lang/Math" ∈ GG ∧ Cond.code Lib.MathLoose.max_long.x Lib.MathLoose.max_long.code 4 (some .long) ∈ GG) {x y : Int} (hx1 : b64 x) (hy1 : b64 y)
    (hf : 1 ≤ R.frames) (hlo : (rest.map fun v => v.category).sum + 15 ≤ R.locals) (hc : cells ≤ R.cells) (hs : slots ≤ R.slots) (hd : decode cc pc = .ok (.invokestatic index, 3))
    (k : W p l e R s m args below meth c H locs cells slots Q (F0 m (pc + 3) ls (.long (jl (max x y)) :: rest))) : W p l e R s m args below meth c H locs cells slots Q (F0 m pc ls (.long (jl y) :: .long (jl x) :: rest)) := by
  refine va_mmax_long hx hb hml hown (hg _ h1) (hg _ h2.1) (hg _ h2.2.1) (hg _ h2.2.2) hf hlo hc hs hd ?_
  have e1 : (if jl y < jl x then jl x else jl y) = jl (max x y) := by
    by_cases h : y < x
    · rw [if_pos ((jl_lt hy1 hx1).mpr h), show max x y = x by omega]
    · rw [if_neg (fun q => h ((jl_lt hy1 hx1).mp q)), show max x y = y by omega]
  rw [e1]
  exact k
end JM
noncomputable def sf (a : Int) : Int := Classical.epsilon (fun c => sfI a c)
theorem sf_eq {a c : Int} (h : sfI a c) : sf a = c := sfI_uniq (Classical.epsilon_spec ⟨c, h⟩) h
/-- 1 where it holds, else 0 -/
noncomputable def bi (q : Prop) : Int := @ite Int q (Classical.propDecidable q) 1 0
theorem bi_t {q : Prop} (h : q) : bi q = 1 := @if_pos q (Classical.propDecidable q) h Int 1 0
theorem bi_f {q : Prop} (h : ¬ q) : bi q = 0 := @if_neg q (Classical.propDecidable q) h Int 1 0
theorem bi_or (q : Prop) : bi q = 0 ∨ bi q = 1 := by
  by_cases h : q
  · exact Or.inr (bi_t h)
  · exact Or.inl (bi_f h)
theorem nar_bi (q : Prop) : narrow .boolean (.int (ji (bi q))) = .int (ji (bi q)) := by
  rcases bi_or q with h | h <;> rw [h] <;> rfl
theorem sq_b64 {d : Int} (h0 : 0 ≤ d) (h : d ≤ 3037000499) : b64 (d * d) := by
  have h1 : d * d ≤ 3037000499 * 3037000499 := Int.mul_le_mul h h h0 (by omega)
  have h2 : 0 ≤ d * d := Int.mul_nonneg h0 h0
  omega
theorem sq_ge {d : Int} (h : 2 ≤ d) : 2 * d ≤ d * d := Int.mul_le_mul_of_nonneg_right h (by omega)
theorem nd_int {d n : Int} (hd : 0 ≤ d) (hn : 0 ≤ n) : d.toNat ∣ n.toNat ↔ d ∣ n := by
  constructor
  · intro h
    have := Int.natCast_dvd_natCast.mpr h
    rwa [Int.toNat_of_nonneg hd, Int.toNat_of_nonneg hn] at this
  · intro h
    apply Int.natCast_dvd_natCast.mp
    rwa [Int.toNat_of_nonneg hd, Int.toNat_of_nonneg hn]
end
section
/-! orders, units, remainders, symbols, as whole numbers -/
def od : Nat → Int → Int → Nat
  | 0, _, _ => 0
  | n + 1, r, f => if f ∣ r then od n (r / f) f + 1 else 0
theorem od_le : ∀ (n : Nat) (r f : Int), od n r f ≤ n := by
  intro n
  induction n with
  | zero => intro r f; exact Nat.le_refl 0
  | succ n ih =>
    intro r f
    show (if f ∣ r then od n (r / f) f + 1 else 0) ≤ n + 1
    by_cases h : f ∣ r
    · rw [if_pos h]; exact Nat.succ_le_succ (ih _ _)
    · rw [if_neg h]; exact Nat.zero_le _
/-- by what a unit is told: 8 at 2, p elsewhere -/
def um (p : Int) : Int := if p = 2 then 8 else p
def un (a p : Int) : Int := wo 64 a p % um p
theorem um_pos {p : Int} (h : 1 < p) : 1 < um p := by
  unfold um
  by_cases h2 : p = 2
  · rw [if_pos h2]; decide
  · rw [if_neg h2]; exact h
/-- Euler: u is a remainder of a square -/
def qr (u p : Nat) : Prop := u ^ ((p - 1) / 2) % p = 1
theorem pw_add (u a b p : Nat) : (u ^ a % p) * (u ^ b % p) % p = u ^ (a + b) % p := by rw [← Nat.mul_mod, ← Nat.pow_add]
theorem pw_dbl (u k p : Nat) : (u ^ 2 ^ k % p) * (u ^ 2 ^ k % p) % p = u ^ 2 ^ (k + 1) % p := by rw [pw_add, Nat.pow_succ, Nat.mul_two]
theorem pw_bit1 {u E k p : Nat} (h : E / 2 ^ k % 2 = 1) : (u ^ (E % 2 ^ k) % p) * (u ^ 2 ^ k % p) % p = u ^ (E % 2 ^ (k + 1)) % p := by
  rw [pw_add, Nat.mod_pow_succ, h, Nat.mul_one]
theorem pw_bit0 {E k : Nat} (h : E / 2 ^ k % 2 ≠ 1) : E % 2 ^ (k + 1) = E % 2 ^ k := by
  have h1 : E / 2 ^ k % 2 = 0 := by omega
  rw [Nat.mod_pow_succ, h1, Nat.mul_zero, Nat.add_zero]
theorem tm_nat (x y : Nat) : (x : Int).tmod (y : Int) = ((x % y : Nat) : Int) := by rw [Int.tmod_eq_emod_of_nonneg (by omega), Int.natCast_emod]
theorem td_nat (x y : Nat) : (x : Int).tdiv (y : Int) = ((x / y : Nat) : Int) := by rw [Int.tdiv_eq_ediv_of_nonneg (by omega), Int.natCast_ediv]
theorem td_nn {x y : Int} (hx : 0 ≤ x) : x.tdiv y = x / y := Int.tdiv_eq_ediv_of_nonneg hx
theorem tm_nn {x y : Int} (hx : 0 ≤ x) : x.tmod y = x % y := Int.tmod_eq_emod_of_nonneg hx
theorem ji_nI (n : Nat) : ji (n : Int) = nI n := Int32.ofInt_eq_ofNat
theorem sh_cnt : ∀ n, n < 32 → ((nI n &&& 31).toBitVec.smod 32).toNat = n := by decide +kernel
theorem ji_shr {e b : Nat} (he : e < 2147483648) (hb : b < 32) : ji (e : Int) >>> (ji (b : Int) &&& 31) = ji ((e / 2 ^ b : Nat) : Int) := by
  rw [ji_nI, ji_nI, ji_nI]
  exact pk_shrN (by omega) _ b (sh_cnt b hb)
section JSH
variable {p : Program} {l : Launch} {e : Env} {R : Room} {s : State} {m : MethodId} {args : Array Value} {below : List Frame} {meth : Method} {c : Code} {H : Heap} {locs : List Loc} {cells slots : Nat} {Q : State → Prop} {cc : ByteArray} {pc : Nat} {ls : Array Slot} {rest : List Value}
theorem j_ishr (hx : p.tables.exec = Jvm.exec) (hb : c.code = cc) {x b : Nat} (h1 : x < 2147483648) (h2 : b < 32) (hd : decode cc pc = .ok (.ishr, 1)) (k : W p l e R s m args below meth c H locs cells slots Q (F0 m (pc + 1) ls (.int (ji ((x / 2 ^ b : Nat) : Int)) :: rest))) : W p l e R s m args below meth c H locs cells slots Q (F0 m pc ls (.int (ji (b : Int)) :: .int (ji (x : Int)) :: rest)) :=
  lv_ishr hx hb hd (by rw [ji_shr h1 h2]; exact k)
theorem msb_neg (x : Int64) : x < 0 ↔ x.toBitVec.msb = true := by
  rw [Int64.lt_iff_toInt_lt, BitVec.msb_eq_toInt]
  simp
theorem jl_xneg {x y : Int} (hx : b64 x) (hy : b64 y) (h : 0 < y) : (jl x ^^^ jl y) < 0 ↔ x < 0 := by
  have h1 : (jl y).toBitVec.msb = false := by
    cases hm : (jl y).toBitVec.msb with
    | false => rfl
    | true =>
      have := (jl_lt hy (by decide : b64 0)).mp ((msb_neg (jl y)).mpr hm)
      omega
  rw [msb_neg, Int64.toBitVec_xor, BitVec.msb_xor, h1, Bool.xor_false, ← msb_neg]
  exact jl_lt hx (by decide : b64 0)
/-- lxor, lconst_0, lcmp, ifge: whether x is below 0 (where y is above) -/
theorem j_xge (hx : p.tables.exec = Jvm.exec) (hb : c.code = cc) {x y : Int} {off : Int} {tgt : Nat} (h1 : b64 x) (h2 : b64 y) (h3 : 0 < y) (hd0 : decode cc pc = .ok (.lxor, 1)) (hd1 : decode cc (pc + 1) = .ok (.lconst 0, 1)) (hd2 : decode cc (pc + 1 + 1) = .ok (.lcmp, 1)) (hd3 : decode cc (pc + 1 + 1 + 1) = .ok (.ifCond .ge off, 3)) (ht : ((pc + 1 + 1 + 1 : Nat) : Int) + off = (tgt : Int))
    (kt : 0 ≤ x → W p l e R s m args below meth c H locs cells slots Q (F0 m tgt ls rest)) (kf : x < 0 → W p l e R s m args below meth c H locs cells slots Q (F0 m (pc + 1 + 1 + 1 + 3) ls rest)) : W p l e R s m args below meth c H locs cells slots Q (F0 m pc ls (.long (jl y) :: .long (jl x) :: rest)) := by
  refine lv_lxor hx hb hd0 ?_
  obtain ⟨z, hz, e1⟩ := jl_of (jl x ^^^ jl y)
  have h9 := jl_xneg h1 h2 h3
  rw [e1] at h9 ⊢
  have h9 : z < 0 ↔ x < 0 := (jl_lt hz (by decide : b64 0)).symm.trans h9
  refine j_lconst0 hx hb hd1 ?_
  exact j_lc_ge hx hb hz (by decide) hd2 hd3 ht (fun h => kt (by omega)) (fun h => kf (by omega))
end JSH
/-- the symbol out of orders and units -/
def s2 (e f u w : Int) : Int := if ((u - 1) / 2 * ((w - 1) / 2) + e * ((w * w - 1) / 8) + f * ((u * u - 1) / 8)) % 2 = 0 then 1 else -1
noncomputable def so (e f u w p : Int) : Int := (if e * f * ((p - 1) / 2) % 2 = 0 then 1 else -1) * (1 - 2 * bi (f = 1 ∧ ¬ qr u.toNat p.toNat)) * (1 - 2 * bi (e = 1 ∧ ¬ qr w.toNat p.toNat))
noncomputable def sF (e f u w p : Int) : Int := if p = 2 then s2 e f u w else so e f u w p
noncomputable def sy (a b p : Int) : Int := if p = 0 then (if a < 0 ∧ b < 0 then -1 else 1) else sF (od 64 a p % 2 : Nat) (od 64 b p % 2 : Nat) (un a p) (un b p) p
/-- a is a square at p -/
def sq (a p : Int) : Prop := if p = 0 then 0 < a else od 64 a p % 2 = 0 ∧ (if p = 2 then un a p = 1 else qr (un a p).toNat p.toNat)
theorem un_lt {a p : Int} (h : 1 < p) : 0 ≤ un a p ∧ un a p < um p := ⟨Int.emod_nonneg _ (by have := um_pos h; omega), Int.emod_lt_of_pos _ (by have := um_pos h; omega)⟩
theorem un_odd {a : Int} (h : a ≠ 0) (hb : b64 a) : un a 2 % 2 = 1 := by
  have h1 := wo_out 64 a 2 (by decide) h (by omega)
  have h2 : un a 2 = wo 64 a 2 % 8 := rfl
  omega
theorem bi_b32 (q : Prop) : b32 (bi q) := by rcases bi_or q with h | h <;> rw [h] <;> decide
theorem bi_ne {q : Prop} (h : bi q ≠ 0) : q := Classical.byContradiction fun hq => h (bi_f hq)
theorem bi_eq {q : Prop} (h : bi q = 0) : ¬ q := fun hq => by rw [bi_t hq] at h; omega
theorem fm_neg {x y : Int} (hx : x < 0) (hy : 0 < y) (h : x.tmod y ≠ 0) : x.tmod y + y = x % y := by
  rw [Int.tmod_eq_emod, if_neg (fun q => by
    rcases q with q | q
    · omega
    · exact h (tm_0.mpr q))]
  omega
theorem mod0_of_tm {x y : Int} (h : x.tmod y = 0) : x % y = 0 := Int.emod_eq_zero_of_dvd (tm_0.mp h)
theorem s2_all {e f u w : Int} (he : 0 ≤ e ∧ e ≤ 1) (hf : 0 ≤ f ∧ f ≤ 1) (hu : 1 ≤ u ∧ u ≤ 7) (hw : 1 ≤ w ∧ w ≤ 7) :
    (u - 1).tdiv 2 * (w - 1).tdiv 2 + e * (w * w - 1).tdiv 8 + f * (u * u - 1).tdiv 8 = (u - 1) / 2 * ((w - 1) / 2) + e * ((w * w - 1) / 8) + f * ((u * u - 1) / 8) ∧ 0 ≤ (u - 1) / 2 * ((w - 1) / 2) + e * ((w * w - 1) / 8) + f * ((u * u - 1) / 8) ∧ (u - 1) / 2 * ((w - 1) / 2) + e * ((w * w - 1) / 8) + f * ((u * u - 1) / 8) ≤ 21 := by
  have hu : u = 1 ∨ u = 2 ∨ u = 3 ∨ u = 4 ∨ u = 5 ∨ u = 6 ∨ u = 7 := by omega
  have hw : w = 1 ∨ w = 2 ∨ w = 3 ∨ w = 4 ∨ w = 5 ∨ w = 6 ∨ w = 7 := by omega
  have he : e = 0 ∨ e = 1 := by omega
  have hf : f = 0 ∨ f = 1 := by omega
  rcases he with rfl | rfl <;> rcases hf with rfl | rfl <;> rcases hu with rfl | rfl | rfl | rfl | rfl | rfl | rfl <;> rcases hw with rfl | rfl | rfl | rfl | rfl | rfl | rfl <;> decide
theorem bit_mul {e f : Int} (he : 0 ≤ e ∧ e ≤ 1) (hf : 0 ≤ f ∧ f ≤ 1) : 0 ≤ e * f ∧ e * f ≤ 1 := by
  have he : e = 0 ∨ e = 1 := by omega
  have hf : f = 0 ∨ f = 1 := by omega
  rcases he with rfl | rfl <;> rcases hf with rfl | rfl <;> decide
theorem bit_mulb {z p : Int} (hz : 0 ≤ z ∧ z ≤ 1) (hp : 0 ≤ p) : 0 ≤ z * p ∧ z * p ≤ p := by
  have hz : z = 0 ∨ z = 1 := by omega
  rcases hz with rfl | rfl <;> omega
theorem dv_b32 {E k : Nat} (h : E ≤ 2147483647) : b32 ((E / 2 ^ k : Nat) : Int) := by
  have h1 := Nat.div_le_self E (2 ^ k)
  generalize E / 2 ^ k = D at h1
  omega
theorem bi_iff {q r : Prop} (h : q ↔ r) : bi q = bi r := by
  by_cases hq : q
  · rw [bi_t hq, bi_t (h.mp hq)]
  · rw [bi_f hq, bi_f (fun z => hq (h.mpr z))]
end
section
/-! Whole (the class): names, contracts -/
abbrev cW_isPrime : ByteArray := prog_6_method_2_code
abbrev yW_isPrime : MethodName := ⟨"RationalForms$Whole", "isPrime", "(I)Z"⟩
abbrev wsW_isPrime : List Cond := .code yW_isPrime cW_isPrime 3 (some .boolean) :: GG
theorem dW_isPrime_0 : decode cW_isPrime 0 = .ok (.iload_n 0, 1) := by decide +kernel
theorem dW_isPrime_1 : decode cW_isPrime 1 = .ok (.iconst 2, 1) := by decide +kernel
theorem dW_isPrime_2 : decode cW_isPrime 2 = .ok (.if_icmp .ge 5, 3) := by decide +kernel
theorem dW_isPrime_5 : decode cW_isPrime 5 = .ok (.iconst 0, 1) := by decide +kernel
theorem dW_isPrime_6 : decode cW_isPrime 6 = .ok (.ireturn, 1) := by decide +kernel
theorem dW_isPrime_7 : decode cW_isPrime 7 = .ok (.ldc2_w 7, 3) := by decide +kernel
theorem dW_isPrime_10 : decode cW_isPrime 10 = .ok (.lstore_n 1, 1) := by decide +kernel
theorem dW_isPrime_11 : decode cW_isPrime 11 = .ok (.lload_n 1, 1) := by decide +kernel
theorem dW_isPrime_12 : decode cW_isPrime 12 = .ok (.lload_n 1, 1) := by decide +kernel
theorem dW_isPrime_13 : decode cW_isPrime 13 = .ok (.lmul, 1) := by decide +kernel
theorem dW_isPrime_14 : decode cW_isPrime 14 = .ok (.iload_n 0, 1) := by decide +kernel
theorem dW_isPrime_15 : decode cW_isPrime 15 = .ok (.i2l, 1) := by decide +kernel
theorem dW_isPrime_16 : decode cW_isPrime 16 = .ok (.lcmp, 1) := by decide +kernel
theorem dW_isPrime_17 : decode cW_isPrime 17 = .ok (.ifCond .gt 21, 3) := by decide +kernel
theorem dW_isPrime_20 : decode cW_isPrime 20 = .ok (.iload_n 0, 1) := by decide +kernel
theorem dW_isPrime_21 : decode cW_isPrime 21 = .ok (.i2l, 1) := by decide +kernel
theorem dW_isPrime_22 : decode cW_isPrime 22 = .ok (.lload_n 1, 1) := by decide +kernel
theorem dW_isPrime_23 : decode cW_isPrime 23 = .ok (.lrem, 1) := by decide +kernel
theorem dW_isPrime_24 : decode cW_isPrime 24 = .ok (.lconst 0, 1) := by decide +kernel
theorem dW_isPrime_25 : decode cW_isPrime 25 = .ok (.lcmp, 1) := by decide +kernel
theorem dW_isPrime_26 : decode cW_isPrime 26 = .ok (.ifCond .ne 5, 3) := by decide +kernel
theorem dW_isPrime_29 : decode cW_isPrime 29 = .ok (.iconst 0, 1) := by decide +kernel
theorem dW_isPrime_30 : decode cW_isPrime 30 = .ok (.ireturn, 1) := by decide +kernel
theorem dW_isPrime_31 : decode cW_isPrime 31 = .ok (.lload_n 1, 1) := by decide +kernel
theorem dW_isPrime_32 : decode cW_isPrime 32 = .ok (.lconst 1, 1) := by decide +kernel
theorem dW_isPrime_33 : decode cW_isPrime 33 = .ok (.ladd, 1) := by decide +kernel
theorem dW_isPrime_34 : decode cW_isPrime 34 = .ok (.lstore_n 1, 1) := by decide +kernel
theorem dW_isPrime_35 : decode cW_isPrime 35 = .ok (.goto (-24), 3) := by decide +kernel
theorem dW_isPrime_38 : decode cW_isPrime 38 = .ok (.iconst 1, 1) := by decide +kernel
theorem dW_isPrime_39 : decode cW_isPrime 39 = .ok (.ireturn, 1) := by decide +kernel
abbrev cW_withoutFactor : ByteArray := prog_6_method_3_code
abbrev yW_withoutFactor : MethodName := ⟨"RationalForms$Whole", "withoutFactor", "(JJ)J"⟩
abbrev wsW_withoutFactor : List Cond := .code yW_withoutFactor cW_withoutFactor 7 (some .long) :: GG
theorem dW_withoutFactor_0 : decode cW_withoutFactor 0 = .ok (.lload_n 0, 1) := by decide +kernel
theorem dW_withoutFactor_1 : decode cW_withoutFactor 1 = .ok (.lstore 4, 2) := by decide +kernel
theorem dW_withoutFactor_3 : decode cW_withoutFactor 3 = .ok (.iconst 0, 1) := by decide +kernel
theorem dW_withoutFactor_4 : decode cW_withoutFactor 4 = .ok (.istore 6, 2) := by decide +kernel
theorem dW_withoutFactor_6 : decode cW_withoutFactor 6 = .ok (.iload 6, 2) := by decide +kernel
theorem dW_withoutFactor_8 : decode cW_withoutFactor 8 = .ok (.bipush 64, 2) := by decide +kernel
theorem dW_withoutFactor_10 : decode cW_withoutFactor 10 = .ok (.if_icmp .ge 24, 3) := by decide +kernel
theorem dW_withoutFactor_13 : decode cW_withoutFactor 13 = .ok (.lload 4, 2) := by decide +kernel
theorem dW_withoutFactor_15 : decode cW_withoutFactor 15 = .ok (.lload_n 2, 1) := by decide +kernel
theorem dW_withoutFactor_16 : decode cW_withoutFactor 16 = .ok (.lrem, 1) := by decide +kernel
theorem dW_withoutFactor_17 : decode cW_withoutFactor 17 = .ok (.lconst 0, 1) := by decide +kernel
theorem dW_withoutFactor_18 : decode cW_withoutFactor 18 = .ok (.lcmp, 1) := by decide +kernel
theorem dW_withoutFactor_19 : decode cW_withoutFactor 19 = .ok (.ifCond .ne 15, 3) := by decide +kernel
theorem dW_withoutFactor_22 : decode cW_withoutFactor 22 = .ok (.lload 4, 2) := by decide +kernel
theorem dW_withoutFactor_24 : decode cW_withoutFactor 24 = .ok (.lload_n 2, 1) := by decide +kernel
theorem dW_withoutFactor_25 : decode cW_withoutFactor 25 = .ok (.ldiv, 1) := by decide +kernel
theorem dW_withoutFactor_26 : decode cW_withoutFactor 26 = .ok (.lstore 4, 2) := by decide +kernel
theorem dW_withoutFactor_28 : decode cW_withoutFactor 28 = .ok (.iinc 6 1, 3) := by decide +kernel
theorem dW_withoutFactor_31 : decode cW_withoutFactor 31 = .ok (.goto (-25), 3) := by decide +kernel
theorem dW_withoutFactor_34 : decode cW_withoutFactor 34 = .ok (.lload 4, 2) := by decide +kernel
theorem dW_withoutFactor_36 : decode cW_withoutFactor 36 = .ok (.lreturn, 1) := by decide +kernel
abbrev cW_classOf : ByteArray := prog_6_method_4_code
abbrev yW_classOf : MethodName := ⟨"RationalForms$Whole", "classOf", "(J)J"⟩
abbrev wsW_classOf : List Cond := .code yW_classOf cW_classOf 6 (some .long) :: GG
theorem dW_classOf_0 : decode cW_classOf 0 = .ok (.lload_n 0, 1) := by decide +kernel
theorem dW_classOf_1 : decode cW_classOf 1 = .ok (.lstore_n 2, 1) := by decide +kernel
theorem dW_classOf_2 : decode cW_classOf 2 = .ok (.ldc2_w 7, 3) := by decide +kernel
theorem dW_classOf_5 : decode cW_classOf 5 = .ok (.lstore 4, 2) := by decide +kernel
theorem dW_classOf_7 : decode cW_classOf 7 = .ok (.lload 4, 2) := by decide +kernel
theorem dW_classOf_9 : decode cW_classOf 9 = .ok (.lload 4, 2) := by decide +kernel
theorem dW_classOf_11 : decode cW_classOf 11 = .ok (.lmul, 1) := by decide +kernel
theorem dW_classOf_12 : decode cW_classOf 12 = .ok (.lload_n 2, 1) := by decide +kernel
theorem dW_classOf_13 : decode cW_classOf 13 = .ok (.invokestatic 11, 3) := by decide +kernel
theorem dW_classOf_16 : decode cW_classOf 16 = .ok (.lcmp, 1) := by decide +kernel
theorem dW_classOf_17 : decode cW_classOf 17 = .ok (.ifCond .gt 22, 3) := by decide +kernel
theorem dW_classOf_20 : decode cW_classOf 20 = .ok (.lload_n 2, 1) := by decide +kernel
theorem dW_classOf_21 : decode cW_classOf 21 = .ok (.lload 4, 2) := by decide +kernel
theorem dW_classOf_23 : decode cW_classOf 23 = .ok (.lload 4, 2) := by decide +kernel
theorem dW_classOf_25 : decode cW_classOf 25 = .ok (.lmul, 1) := by decide +kernel
theorem dW_classOf_26 : decode cW_classOf 26 = .ok (.invokestatic 17, 3) := by decide +kernel
theorem dW_classOf_29 : decode cW_classOf 29 = .ok (.lstore_n 2, 1) := by decide +kernel
theorem dW_classOf_30 : decode cW_classOf 30 = .ok (.lload 4, 2) := by decide +kernel
theorem dW_classOf_32 : decode cW_classOf 32 = .ok (.lconst 1, 1) := by decide +kernel
theorem dW_classOf_33 : decode cW_classOf 33 = .ok (.ladd, 1) := by decide +kernel
theorem dW_classOf_34 : decode cW_classOf 34 = .ok (.lstore 4, 2) := by decide +kernel
theorem dW_classOf_36 : decode cW_classOf 36 = .ok (.goto (-29), 3) := by decide +kernel
theorem dW_classOf_39 : decode cW_classOf 39 = .ok (.lload_n 2, 1) := by decide +kernel
theorem dW_classOf_40 : decode cW_classOf 40 = .ok (.lreturn, 1) := by decide +kernel
abbrev cW_classOfProduct : ByteArray := prog_6_method_5_code
abbrev yW_classOfProduct : MethodName := ⟨"RationalForms$Whole", "classOfProduct", "(JJ)J"⟩
abbrev wsW_classOfProduct : List Cond := .code yW_classOfProduct cW_classOfProduct 6 (some .long) :: GG
theorem dW_classOfProduct_0 : decode cW_classOfProduct 0 = .ok (.lload_n 0, 1) := by decide +kernel
theorem dW_classOfProduct_1 : decode cW_classOfProduct 1 = .ok (.lload_n 2, 1) := by decide +kernel
theorem dW_classOfProduct_2 : decode cW_classOfProduct 2 = .ok (.invokestatic 21, 3) := by decide +kernel
theorem dW_classOfProduct_5 : decode cW_classOfProduct 5 = .ok (.lstore 4, 2) := by decide +kernel
theorem dW_classOfProduct_7 : decode cW_classOfProduct 7 = .ok (.lload_n 0, 1) := by decide +kernel
theorem dW_classOfProduct_8 : decode cW_classOfProduct 8 = .ok (.lload 4, 2) := by decide +kernel
theorem dW_classOfProduct_10 : decode cW_classOfProduct 10 = .ok (.ldiv, 1) := by decide +kernel
theorem dW_classOfProduct_11 : decode cW_classOfProduct 11 = .ok (.lload_n 2, 1) := by decide +kernel
theorem dW_classOfProduct_12 : decode cW_classOfProduct 12 = .ok (.lload 4, 2) := by decide +kernel
theorem dW_classOfProduct_14 : decode cW_classOfProduct 14 = .ok (.ldiv, 1) := by decide +kernel
theorem dW_classOfProduct_15 : decode cW_classOfProduct 15 = .ok (.lmul, 1) := by decide +kernel
theorem dW_classOfProduct_16 : decode cW_classOfProduct 16 = .ok (.lreturn, 1) := by decide +kernel
abbrev cW_sharedFactor : ByteArray := prog_6_method_6_code
abbrev yW_sharedFactor : MethodName := ⟨"RationalForms$Whole", "sharedFactor", "(JJ)J"⟩
abbrev wsW_sharedFactor : List Cond := .code yW_sharedFactor cW_sharedFactor 11 (some .long) :: GG
theorem dW_sharedFactor_0 : decode cW_sharedFactor 0 = .ok (.lload_n 0, 1) := by decide +kernel
theorem dW_sharedFactor_1 : decode cW_sharedFactor 1 = .ok (.invokestatic 11, 3) := by decide +kernel
theorem dW_sharedFactor_4 : decode cW_sharedFactor 4 = .ok (.lstore 4, 2) := by decide +kernel
theorem dW_sharedFactor_6 : decode cW_sharedFactor 6 = .ok (.lload_n 2, 1) := by decide +kernel
theorem dW_sharedFactor_7 : decode cW_sharedFactor 7 = .ok (.invokestatic 11, 3) := by decide +kernel
theorem dW_sharedFactor_10 : decode cW_sharedFactor 10 = .ok (.lstore 6, 2) := by decide +kernel
theorem dW_sharedFactor_12 : decode cW_sharedFactor 12 = .ok (.iconst 0, 1) := by decide +kernel
theorem dW_sharedFactor_13 : decode cW_sharedFactor 13 = .ok (.istore 8, 2) := by decide +kernel
theorem dW_sharedFactor_15 : decode cW_sharedFactor 15 = .ok (.iload 8, 2) := by decide +kernel
theorem dW_sharedFactor_17 : decode cW_sharedFactor 17 = .ok (.sipush 128, 3) := by decide +kernel
theorem dW_sharedFactor_20 : decode cW_sharedFactor 20 = .ok (.if_icmp .ge 31, 3) := by decide +kernel
theorem dW_sharedFactor_23 : decode cW_sharedFactor 23 = .ok (.lload 6, 2) := by decide +kernel
theorem dW_sharedFactor_25 : decode cW_sharedFactor 25 = .ok (.lconst 0, 1) := by decide +kernel
theorem dW_sharedFactor_26 : decode cW_sharedFactor 26 = .ok (.lcmp, 1) := by decide +kernel
theorem dW_sharedFactor_27 : decode cW_sharedFactor 27 = .ok (.ifCond .eq 24, 3) := by decide +kernel
theorem dW_sharedFactor_30 : decode cW_sharedFactor 30 = .ok (.lload 4, 2) := by decide +kernel
theorem dW_sharedFactor_32 : decode cW_sharedFactor 32 = .ok (.lload 6, 2) := by decide +kernel
theorem dW_sharedFactor_34 : decode cW_sharedFactor 34 = .ok (.lrem, 1) := by decide +kernel
theorem dW_sharedFactor_35 : decode cW_sharedFactor 35 = .ok (.lstore 9, 2) := by decide +kernel
theorem dW_sharedFactor_37 : decode cW_sharedFactor 37 = .ok (.lload 6, 2) := by decide +kernel
theorem dW_sharedFactor_39 : decode cW_sharedFactor 39 = .ok (.lstore 4, 2) := by decide +kernel
theorem dW_sharedFactor_41 : decode cW_sharedFactor 41 = .ok (.lload 9, 2) := by decide +kernel
theorem dW_sharedFactor_43 : decode cW_sharedFactor 43 = .ok (.lstore 6, 2) := by decide +kernel
theorem dW_sharedFactor_45 : decode cW_sharedFactor 45 = .ok (.iinc 8 1, 3) := by decide +kernel
theorem dW_sharedFactor_48 : decode cW_sharedFactor 48 = .ok (.goto (-33), 3) := by decide +kernel
theorem dW_sharedFactor_51 : decode cW_sharedFactor 51 = .ok (.lload 4, 2) := by decide +kernel
theorem dW_sharedFactor_53 : decode cW_sharedFactor 53 = .ok (.lconst 1, 1) := by decide +kernel
theorem dW_sharedFactor_54 : decode cW_sharedFactor 54 = .ok (.invokestatic 24, 3) := by decide +kernel
theorem dW_sharedFactor_57 : decode cW_sharedFactor 57 = .ok (.lreturn, 1) := by decide +kernel
theorem wd11 : Cond.initialized "RationalForms$Whole" ∈ GG := GG_t 11 rfl rfl
theorem wd148 : Cond.constantLong "RationalForms$Whole" 7 (2) ∈ GG := GG_t 148 rfl rfl
theorem wd149 : Cond.methodLink "RationalForms$Whole" 11 Lib.MathLoose.abs_long.x ∈ GG := GG_t 149 rfl rfl
theorem wd152 : Cond.methodLink "RationalForms$Whole" 17 yW_withoutFactor ∈ GG := GG_t 152 rfl rfl
theorem wd153 : Cond.static yW_withoutFactor ∈ GG := GG_t 153 rfl rfl
theorem wd154 : Cond.code yW_withoutFactor cW_withoutFactor 7 (some .long) ∈ GG := GG_t 154 rfl rfl
theorem wd158 : Cond.methodLink "RationalForms$Whole" 21 yW_sharedFactor ∈ GG := GG_t 158 rfl rfl
theorem wd159 : Cond.static yW_sharedFactor ∈ GG := GG_t 159 rfl rfl
theorem wd160 : Cond.code yW_sharedFactor cW_sharedFactor 11 (some .long) ∈ GG := GG_t 160 rfl rfl
theorem wd161 : Cond.methodLink "RationalForms$Whole" 24 Lib.MathLoose.max_long.x ∈ GG := GG_t 161 rfl rfl
set_option maxRecDepth 100000 in
set_option maxHeartbeats 4000000 in
theorem kW_withoutFactor (l : Launch) (a b : Int) (ha : b64 a) (hb0 : 1 < b) (hb1 : b64 b) : PM l yW_withoutFactor wsW_withoutFactor (rmd 0) [.long (jl a), .long (jl b)] (fun r => r = .long (jl (wo 64 a b))) := by
  refine PM.ofG (by decide) (Nat.le_of_ble_eq_true rfl) ?_
  intro p_ e_ s_ m_ a_ b_ t_ c_ hx hb hml hr hk hg hown ls hl
  have hl : lv_has ls 7 [(0, .long (jl a)), (2, .long (jl b))] := hl
  have loop : ∀ (n : Nat) (k r : Int) (ls : Array Slot), k + n = 64 → 0 ≤ k → b64 r → wo n r b = wo 64 a b → lv_has ls 7 [(6, .int (ji k)), (4, .long (jl r)), (0, .long (jl a)), (2, .long (jl b))] → W p_ l e_ (rmd 0) s_ m_ a_ b_ t_ c_ s_.heap [] 0 0 (XQ b_ (pmQ (fun r => r = .long (jl (wo 64 a b)))) a_ s_ 0 0 (fun _ => False)) (F0 m_ 6 ls []) := by
    intro n
    induction n with
    | zero =>
      intro k r ls h0 hk0 hr0 hw hl
      refine lv_iload hx hb dW_withoutFactor_6 (lv_at hl 0 rfl) ?_
      refine j_bipush hx hb dW_withoutFactor_8 rfl ?_
      refine j_icmp_ge hx hb (by omega) (by omega) dW_withoutFactor_10 rfl (fun h1 => ?_) (fun h1 => ?_)
      · refine lv_lload hx hb dW_withoutFactor_34 (lv_at hl 1 rfl) ?_
        exact pm_lret hx hb hr hk dW_withoutFactor_36 (by rw [← hw]; rfl)
      · omega
    | succ n ih =>
      intro k r ls h0 hk0 hr0 hw hl
      refine lv_iload hx hb dW_withoutFactor_6 (lv_at hl 0 rfl) ?_
      refine j_bipush hx hb dW_withoutFactor_8 rfl ?_
      refine j_icmp_ge hx hb (by omega) (by omega) dW_withoutFactor_10 rfl (fun h1 => ?_) (fun h1 => ?_)
      · omega
      · refine lv_lload hx hb dW_withoutFactor_13 (lv_at hl 1 rfl) ?_
        refine lv_lload_n hx hb dW_withoutFactor_15 rfl (lv_at hl 3 rfl) ?_
        refine j_lrem hx hb (by omega) (by omega) (by omega) dW_withoutFactor_16 ?_
        refine j_lconst0 hx hb dW_withoutFactor_17 ?_
        refine j_lc_ne hx hb (tm_b64 hr0) (by omega) dW_withoutFactor_18 dW_withoutFactor_19 rfl (fun h2 => ?_) (fun h2 => ?_)
        · have hn : ¬ b ∣ r := fun q => h2 (tm_0.mpr q)
          refine lv_lload hx hb dW_withoutFactor_34 (lv_at hl 1 rfl) ?_
          exact pm_lret hx hb hr hk dW_withoutFactor_36 (by rw [← hw, wo, if_neg hn])
        · have hn : b ∣ r := tm_0.mp h2
          refine lv_lload hx hb dW_withoutFactor_22 (lv_at hl 1 rfl) ?_
          refine lv_lload_n hx hb dW_withoutFactor_24 rfl (lv_at hl 3 rfl) ?_
          refine j_ldiv hx hb (by omega) (by omega) (by omega) dW_withoutFactor_25 ?_
          refine lv_lstore hx hb dW_withoutFactor_26 hl (by decide) rfl (fun ls hl => ?_)
          have hl : lv_has ls 7 [(4, .long (jl (r.tdiv b))), (6, .int (ji k)), (0, .long (jl a)), (2, .long (jl b))] := hl
          refine lv_iinc (k := 1) (v := ji (k + 1)) hx hb dW_withoutFactor_28 hl rfl (Int32.ofInt_add _ _).symm (by decide) rfl (fun ls hl => ?_)
          have hl : lv_has ls 7 [(6, .int (ji (k + 1))), (4, .long (jl (r.tdiv b))), (0, .long (jl a)), (2, .long (jl b))] := hl
          refine lv_goto hx hb dW_withoutFactor_31 rfl ?_
          have e1 : r.tdiv b = r / b := td_e hn
          rw [e1] at hl
          exact ih (k + 1) (r / b) ls (by omega) (by omega) (div_b64 hr0 hb0) (by rw [← hw, wo, if_pos hn]) hl
  refine lv_lload_n hx hb dW_withoutFactor_0 rfl (lv_at hl 0 rfl) ?_
  refine lv_lstore hx hb dW_withoutFactor_1 hl (by decide) rfl (fun ls hl => ?_)
  have hl : lv_has ls 7 [(4, .long (jl a)), (0, .long (jl a)), (2, .long (jl b))] := hl
  refine j_iconst hx hb dW_withoutFactor_3 ?_
  refine lv_istore hx hb dW_withoutFactor_4 hl (by decide) rfl (fun ls hl => ?_)
  have hl : lv_has ls 7 [(6, .int (ji 0)), (4, .long (jl a)), (0, .long (jl a)), (2, .long (jl b))] := hl
  exact loop 64 0 a ls (by omega) (by omega) ha rfl hl

set_option maxRecDepth 100000 in
set_option maxHeartbeats 4000000 in
theorem kW_isPrime (l : Launch) (n : Int) (hn : b32 n) : PM l yW_isPrime wsW_isPrime (rmd 0) [.int (ji n)] (fun r => r = .int (ji (bi (prm n.toNat)))) := by
  refine PM.ofG (by decide) (Nat.le_of_ble_eq_true rfl) ?_
  intro p_ e_ s_ m_ a_ b_ t_ c_ hx hb hml hr hk hg hown ls hl
  have hl : lv_has ls 3 [(0, .int (ji n))] := hl
  refine lv_iload_n hx hb dW_isPrime_0 rfl (lv_at hl 0 rfl) ?_
  refine j_iconst hx hb dW_isPrime_1 ?_
  refine j_icmp_ge hx hb (by omega) (by omega) dW_isPrime_2 rfl (fun h1 => ?_) (fun h1 => ?_)
  · refine j_ldc2 (z := 2) hx hb hown hg wd148 rfl dW_isPrime_7 ?_
    refine lv_lstore_n hx hb dW_isPrime_10 rfl hl (by decide) rfl (fun ls hl => ?_)
    have hl : lv_has ls 3 [(1, .long (jl 2)), (0, .int (ji n))] := hl
    have loop : ∀ (N : Nat) (d : Int) (ls : Array Slot), n + 1 - d < N → d ≤ n + 1 → d ≤ 46341 → 2 ≤ d → (∀ e : Nat, 1 < e → (e : Int) < d → ¬ e ∣ n.toNat) → lv_has ls 3 [(1, .long (jl d)), (0, .int (ji n))] → W p_ l e_ (rmd 0) s_ m_ a_ b_ t_ c_ s_.heap [] 0 0 (XQ b_ (pmQ (fun r => r = .int (ji (bi (prm n.toNat))))) a_ s_ 0 0 (fun _ => False)) (F0 m_ 11 ls []) := by
      intro N
      induction N with
      | zero => intro d ls hm h2; omega
      | succ N ih =>
        intro d ls hm h2 h6 h3 h4 hl
        refine lv_lload_n hx hb dW_isPrime_11 rfl (lv_at hl 0 rfl) ?_
        refine lv_lload_n hx hb dW_isPrime_12 rfl (lv_at hl 0 rfl) ?_
        refine j_lmul hx hb dW_isPrime_13 ?_
        refine lv_iload_n hx hb dW_isPrime_14 rfl (lv_at hl 1 rfl) ?_
        refine j_i2l hx hb (by omega) dW_isPrime_15 ?_
        refine j_lc_gt hx hb (sq_b64 (by omega) (by omega)) (by omega) dW_isPrime_16 dW_isPrime_17 rfl (fun h5 => ?_) (fun h5 => ?_)
        · have h9 : ((d.toNat * d.toNat : Nat) : Int) = d * d := by rw [Int.natCast_mul, Int.toNat_of_nonneg (by omega)]
          have hp : prm n.toNat := prm_of (d := d.toNat) (by omega) (fun e e1 e2 => h4 e e1 (by omega)) (by omega)
          refine j_iconst hx hb dW_isPrime_38 ?_
          exact pm_zret hx hb hr hk dW_isPrime_39 nar_1 (by rw [bi_t hp])
        · refine lv_iload_n hx hb dW_isPrime_20 rfl (lv_at hl 1 rfl) ?_
          refine j_i2l hx hb (by omega) dW_isPrime_21 ?_
          refine lv_lload_n hx hb dW_isPrime_22 rfl (lv_at hl 0 rfl) ?_
          refine j_lrem hx hb (by omega) (by omega) (by omega) dW_isPrime_23 ?_
          refine j_lconst0 hx hb dW_isPrime_24 ?_
          refine j_lc_ne hx hb (tm_b64 (by omega)) (by omega) dW_isPrime_25 dW_isPrime_26 rfl (fun h7 => ?_) (fun h7 => ?_)
          · have hd : ¬ d.toNat ∣ n.toNat := fun q => h7 (tm_0.mpr ((nd_int (by omega) (by omega)).mp q))
            have h8 := sq_ge h3
            refine lv_lload_n hx hb dW_isPrime_31 rfl (lv_at hl 0 rfl) ?_
            refine j_lconst1 hx hb dW_isPrime_32 ?_
            refine j_ladd hx hb dW_isPrime_33 ?_
            refine lv_lstore_n hx hb dW_isPrime_34 rfl hl (by decide) rfl (fun ls hl => ?_)
            have hl : lv_has ls 3 [(1, .long (jl (d + 1))), (0, .int (ji n))] := hl
            refine lv_goto hx hb dW_isPrime_35 rfl ?_
            refine ih (d + 1) ls (by omega) (by omega) ?_ (by omega) (fun e e1 e2 => ?_) hl
            · rcases Int.lt_or_le d 46341 with h9 | h9
              · omega
              · have : 46341 * 46341 ≤ d * d := Int.mul_le_mul h9 h9 (by omega) (by omega)
                omega
            · rcases Int.lt_or_le (e : Int) d with h9 | h9
              · exact h4 e e1 h9
              · have : e = d.toNat := by omega
                rw [this]; exact hd
          · have hd : d.toNat ∣ n.toNat := (nd_int (by omega) (by omega)).mpr (tm_0.mp h7)
            have h8 := sq_ge h3
            have hp : ¬ prm n.toNat := fun q => q.2 d.toNat (by omega) (by omega) hd
            refine j_iconst hx hb dW_isPrime_29 ?_
            exact pm_zret hx hb hr hk dW_isPrime_30 nar_0 (by rw [bi_f hp])
    exact loop (n + 2).toNat 2 ls (by omega) (by omega) (by omega) (by omega) (fun e e1 e2 => by omega) hl
  · have hp : ¬ prm n.toNat := fun q => by have := q.1; omega
    refine j_iconst hx hb dW_isPrime_5 ?_
    exact pm_zret hx hb hr hk dW_isPrime_6 nar_0 (by rw [bi_f hp])

set_option maxRecDepth 100000 in
set_option maxHeartbeats 4000000 in
theorem kW_classOf (l : Launch) (a : Int) (ha : -4611686018427387904 ≤ a ∧ a ≤ 4611686018427387904) (h0 : a ≠ 0) : PM l yW_classOf wsW_classOf (rmd 1) [.long (jl a)] (fun r => r = .long (jl (sf a))) := by
  refine PM.ofG (by decide) (Nat.le_of_ble_eq_true rfl) ?_
  intro p_ e_ s_ m_ a_ b_ t_ c_ hx hb hml hr hk hg hown ls hl
  have hl : lv_has ls 6 [(0, .long (jl a))] := hl
  have loop : ∀ (N : Nat) (d r : Int) (ls : Array Slot), 2147483650 - d < N → d ≤ 2147483649 → 2 ≤ d → (-4611686018427387904 ≤ r ∧ r ≤ 4611686018427387904) → co a r d → lv_has ls 6 [(4, .long (jl d)), (2, .long (jl r)), (0, .long (jl a))] → W p_ l e_ (rmd 1) s_ m_ a_ b_ t_ c_ s_.heap [] 0 0 (XQ b_ (pmQ (fun r => r = .long (jl (sf a)))) a_ s_ 0 0 (fun _ => False)) (F0 m_ 7 ls []) := by
    intro N
    induction N with
    | zero => intro d r ls hm h2; omega
    | succ N ih =>
      intro d r ls hm h2 h3 hr0 hc hl
      refine lv_lload hx hb dW_classOf_7 (lv_at hl 0 rfl) ?_
      refine lv_lload hx hb dW_classOf_9 (lv_at hl 0 rfl) ?_
      refine j_lmul hx hb dW_classOf_11 ?_
      refine lv_lload_n hx hb dW_classOf_12 rfl (lv_at hl 1 rfl) ?_
      refine j_labs hx hb (hml.trans hl.1.symm) hown hg wd149 wd_abs (by omega) (by decide) (Nat.le_of_ble_eq_true rfl) (Nat.zero_le _) (Nat.zero_le _) dW_classOf_13 ?_
      refine j_lc_gt hx hb (sq_b64 (by omega) (by omega)) (by omega) dW_classOf_16 dW_classOf_17 rfl (fun h5 => ?_) (fun h5 => ?_)
      · refine lv_lload_n hx hb dW_classOf_39 rfl (lv_at hl 1 rfl) ?_
        exact pm_lret hx hb hr hk dW_classOf_40 (by rw [sf_eq (co_end hc h3 h5)])
      · have h8 := sq_ge h3
        have h9 := sq_b64 (d := d) (by omega) (by omega)
        refine lv_lload_n hx hb dW_classOf_20 rfl (lv_at hl 1 rfl) ?_
        refine lv_lload hx hb dW_classOf_21 (lv_at hl 0 rfl) ?_
        refine lv_lload hx hb dW_classOf_23 (lv_at hl 0 rfl) ?_
        refine j_lmul hx hb dW_classOf_25 ?_
        refine pm_G (As := [.long (jl r), .long (jl (d * d))]) (rest := []) hx hb hml hown hg hl (kW_withoutFactor l r (d * d) (by omega) (by omega) h9) wd152 wd153 wd11 wd154 ⟨rfl, rfl⟩ (n := 2) (by decide +kernel) rfl ⟨by decide, by decide⟩ rfl (Nat.le_of_ble_eq_true rfl) dW_classOf_26 ⟨Nat.zero_le _, Nat.zero_le _⟩ (fun r hr9 => ?_)
        subst hr9
        refine lv_lstore_n hx hb dW_classOf_29 rfl hl (by decide) rfl (fun ls hl => ?_)
        have hl : lv_has ls 6 [(2, .long (jl (wo 64 r (d * d)))), (4, .long (jl d)), (0, .long (jl a))] := hl
        refine lv_lload hx hb dW_classOf_30 (lv_at hl 1 rfl) ?_
        refine j_lconst1 hx hb dW_classOf_32 ?_
        refine j_ladd hx hb dW_classOf_33 ?_
        refine lv_lstore hx hb dW_classOf_34 hl (by decide) rfl (fun ls hl => ?_)
        have hl : lv_has ls 6 [(4, .long (jl (d + 1))), (2, .long (jl (wo 64 r (d * d)))), (0, .long (jl a))] := hl
        refine lv_goto hx hb dW_classOf_36 rfl ?_
        have hc2 := co_step hc h3 (by omega)
        have hd2 := wo_dvd 64 r (d * d)
        have hle := Nat.le_of_dvd (by have := hc.1; omega) (Int.natAbs_dvd_natAbs.mpr hd2)
        refine ih (d + 1) (wo 64 r (d * d)) ls (by omega) ?_ (by omega) (by omega) hc2 hl
        rcases Int.lt_or_le d 2147483649 with h10 | h10
        · omega
        · have : 2147483649 * 2147483649 ≤ d * d := Int.mul_le_mul h10 h10 (by omega) (by omega)
          omega
  refine lv_lload_n hx hb dW_classOf_0 rfl (lv_at hl 0 rfl) ?_
  refine lv_lstore_n hx hb dW_classOf_1 rfl hl (by decide) rfl (fun ls hl => ?_)
  have hl : lv_has ls 6 [(2, .long (jl a)), (0, .long (jl a))] := hl
  refine j_ldc2 (z := 2) hx hb hown hg wd148 rfl dW_classOf_2 ?_
  refine lv_lstore hx hb dW_classOf_5 hl (by decide) rfl (fun ls hl => ?_)
  have hl : lv_has ls 6 [(4, .long (jl 2)), (2, .long (jl a)), (0, .long (jl a))] := hl
  exact loop 2147483649 2 a ls (by omega) (by omega) (by omega) ha (co_0 h0) hl

set_option maxRecDepth 100000 in
set_option maxHeartbeats 4000000 in
theorem kW_sharedFactor (l : Launch) (a b : Int) (ha : -9223372036854775807 ≤ a ∧ a ≤ 9223372036854775807) (hb9 : -9223372036854775807 ≤ b ∧ b ≤ 9223372036854775807) (h0 : a ≠ 0) : PM l yW_sharedFactor wsW_sharedFactor (rmd 1) [.long (jl a), .long (jl b)] (fun r => r = .long (jl (Int.gcd a b : Int))) := by
  refine PM.ofG (by decide) (Nat.le_of_ble_eq_true rfl) ?_
  intro p_ e_ s_ m_ a_ b_ t_ c_ hx hb hml hr hk hg hown ls hl
  have hl : lv_has ls 11 [(0, .long (jl a)), (2, .long (jl b))] := hl
  have hgp : 0 < Int.gcd a b := Nat.gcd_pos_of_pos_left _ (by omega)
  have hgle : Int.gcd a b ≤ a.natAbs := Nat.gcd_le_left _ (by omega)
  have loop : ∀ (n : Nat) (k : Int) (x y : Nat) (ls : Array Slot), k + n = 128 → 0 ≤ k → x < 9223372036854775808 → y < 9223372036854775808 → eu n x y = Int.gcd a b → lv_has ls 11 [(8, .int (ji k)), (6, .long (jl ((y:Int)))), (4, .long (jl ((x:Int)))), (0, .long (jl a)), (2, .long (jl b))] → W p_ l e_ (rmd 1) s_ m_ a_ b_ t_ c_ s_.heap [] 0 0 (XQ b_ (pmQ (fun r => r = .long (jl (Int.gcd a b : Int)))) a_ s_ 0 0 (fun _ => False)) (F0 m_ 15 ls []) := by
    intro n
    induction n with
    | zero =>
      intro k x y ls h1 hk0 hx0 hy0 hw hl
      refine lv_iload hx hb dW_sharedFactor_15 (lv_at hl 0 rfl) ?_
      refine j_sipush hx hb dW_sharedFactor_17 rfl ?_
      refine j_icmp_ge hx hb (by omega) (by decide) dW_sharedFactor_20 rfl (fun h2 => ?_) (fun h2 => ?_)
      · have hw : x = Int.gcd a b := hw
        refine lv_lload hx hb dW_sharedFactor_51 (lv_at hl 2 rfl) ?_
        refine j_lconst1 hx hb dW_sharedFactor_53 ?_
        refine j_lmax hx hb (hml.trans hl.1.symm) hown hg wd161 wd_max (by omega) (by decide) (by decide) (Nat.le_of_ble_eq_true rfl) (Nat.zero_le _) (Nat.zero_le _) dW_sharedFactor_54 ?_
        exact pm_lret hx hb hr hk dW_sharedFactor_57 (by rw [show max (x : Int) 1 = (Int.gcd a b : Int) by omega])
      · omega
    | succ n ih =>
      intro k x y ls h1 hk0 hx0 hy0 hw hl
      refine lv_iload hx hb dW_sharedFactor_15 (lv_at hl 0 rfl) ?_
      refine j_sipush hx hb dW_sharedFactor_17 rfl ?_
      refine j_icmp_ge hx hb (by omega) (by decide) dW_sharedFactor_20 rfl (fun h2 => ?_) (fun h2 => ?_)
      · omega
      · refine lv_lload hx hb dW_sharedFactor_23 (lv_at hl 1 rfl) ?_
        refine j_lconst0 hx hb dW_sharedFactor_25 ?_
        refine j_lc_eq hx hb (by omega) (by decide) dW_sharedFactor_26 dW_sharedFactor_27 rfl (fun h3 => ?_) (fun h3 => ?_)
        · have hw : (if y = 0 then x else eu n y (x % y)) = Int.gcd a b := hw
          rw [if_pos (by omega)] at hw
          refine lv_lload hx hb dW_sharedFactor_51 (lv_at hl 2 rfl) ?_
          refine j_lconst1 hx hb dW_sharedFactor_53 ?_
          refine j_lmax hx hb (hml.trans hl.1.symm) hown hg wd161 wd_max (by omega) (by decide) (by decide) (Nat.le_of_ble_eq_true rfl) (Nat.zero_le _) (Nat.zero_le _) dW_sharedFactor_54 ?_
          exact pm_lret hx hb hr hk dW_sharedFactor_57 (by rw [show max (x : Int) 1 = (Int.gcd a b : Int) by omega])
        · have hw : (if y = 0 then x else eu n y (x % y)) = Int.gcd a b := hw
          rw [if_neg (by omega)] at hw
          refine lv_lload hx hb dW_sharedFactor_30 (lv_at hl 2 rfl) ?_
          refine lv_lload hx hb dW_sharedFactor_32 (lv_at hl 1 rfl) ?_
          refine j_lrem hx hb (by omega) (by omega) (by omega) dW_sharedFactor_34 ?_
          refine lv_lstore hx hb dW_sharedFactor_35 hl (by decide) rfl (fun ls hl => ?_)
          have hl : lv_has ls 11 [(9, .long (jl (((x:Int)).tmod ((y:Int))))), (8, .int (ji k)), (6, .long (jl ((y:Int)))), (4, .long (jl ((x:Int)))), (0, .long (jl a)), (2, .long (jl b))] := hl
          refine lv_lload hx hb dW_sharedFactor_37 (lv_at hl 2 rfl) ?_
          refine lv_lstore hx hb dW_sharedFactor_39 hl (by decide) rfl (fun ls hl => ?_)
          have hl : lv_has ls 11 [(4, .long (jl ((y:Int)))), (9, .long (jl (((x:Int)).tmod ((y:Int))))), (8, .int (ji k)), (6, .long (jl ((y:Int)))), (0, .long (jl a)), (2, .long (jl b))] := hl
          refine lv_lload hx hb dW_sharedFactor_41 (lv_at hl 1 rfl) ?_
          refine lv_lstore hx hb dW_sharedFactor_43 hl (by decide) rfl (fun ls hl => ?_)
          have hl : lv_has ls 11 [(6, .long (jl (((x:Int)).tmod ((y:Int))))), (4, .long (jl ((y:Int)))), (9, .long (jl (((x:Int)).tmod ((y:Int))))), (8, .int (ji k)), (0, .long (jl a)), (2, .long (jl b))] := hl
          refine lv_iinc (k := 3) (v := ji (k + 1)) hx hb dW_sharedFactor_45 hl rfl (Int32.ofInt_add _ _).symm (by decide) rfl (fun ls hl => ?_)
          have hl : lv_has ls 11 [(8, .int (ji (k + 1))), (6, .long (jl (((x:Int)).tmod ((y:Int))))), (4, .long (jl ((y:Int)))), (9, .long (jl (((x:Int)).tmod ((y:Int))))), (0, .long (jl a)), (2, .long (jl b))] := hl
          refine lv_goto hx hb dW_sharedFactor_48 rfl ?_
          have e1 : (x : Int).tmod (y : Int) = ((x % y : Nat) : Int) := by rw [Int.tmod_eq_emod_of_nonneg (by omega), Int.natCast_emod]
          rw [e1] at hl
          have hlt := Nat.mod_lt x (show 0 < y by omega)
          exact ih (k + 1) y (x % y) ls (by omega) (by omega) hy0 (by omega) hw (lv_sub hl [0, 1, 2, 4, 5] rfl)
  refine lv_lload_n hx hb dW_sharedFactor_0 rfl (lv_at hl 0 rfl) ?_
  refine j_labs hx hb (hml.trans hl.1.symm) hown hg wd149 wd_abs (by omega) (by decide) (Nat.le_of_ble_eq_true rfl) (Nat.zero_le _) (Nat.zero_le _) dW_sharedFactor_1 ?_
  refine lv_lstore hx hb dW_sharedFactor_4 hl (by decide) rfl (fun ls hl => ?_)
  have hl : lv_has ls 11 [(4, .long (jl ((a.natAbs : Int)))), (0, .long (jl a)), (2, .long (jl b))] := hl
  refine lv_lload_n hx hb dW_sharedFactor_6 rfl (lv_at hl 2 rfl) ?_
  refine j_labs hx hb (hml.trans hl.1.symm) hown hg wd149 wd_abs (by omega) (by decide) (Nat.le_of_ble_eq_true rfl) (Nat.zero_le _) (Nat.zero_le _) dW_sharedFactor_7 ?_
  refine lv_lstore hx hb dW_sharedFactor_10 hl (by decide) rfl (fun ls hl => ?_)
  have hl : lv_has ls 11 [(6, .long (jl ((b.natAbs : Int)))), (4, .long (jl ((a.natAbs : Int)))), (0, .long (jl a)), (2, .long (jl b))] := hl
  refine j_iconst hx hb dW_sharedFactor_12 ?_
  refine lv_istore hx hb dW_sharedFactor_13 hl (by decide) rfl (fun ls hl => ?_)
  have hl : lv_has ls 11 [(8, .int (ji 0)), (6, .long (jl ((b.natAbs : Int)))), (4, .long (jl ((a.natAbs : Int)))), (0, .long (jl a)), (2, .long (jl b))] := hl
  exact loop 128 0 a.natAbs b.natAbs ls (by omega) (by omega) (by omega) (by omega) (eu_gcd 63 128 _ _ (Or.inr (by omega)) (by omega) (by omega)) hl

set_option maxRecDepth 100000 in
set_option maxHeartbeats 4000000 in
theorem kW_classOfProduct (l : Launch) (a b : Int) (ha : -9223372036854775807 ≤ a ∧ a ≤ 9223372036854775807) (hb9 : -9223372036854775807 ≤ b ∧ b ≤ 9223372036854775807) (h0 : a ≠ 0) : PM l yW_classOfProduct wsW_classOfProduct (rmd 2) [.long (jl a), .long (jl b)] (fun r => r = .long (jl (pr a b))) := by
  refine PM.ofG (by decide) (Nat.le_of_ble_eq_true rfl) ?_
  intro p_ e_ s_ m_ a_ b_ t_ c_ hx hb hml hr hk hg hown ls hl
  have hl : lv_has ls 6 [(0, .long (jl a)), (2, .long (jl b))] := hl
  have hgp : 0 < Int.gcd a b := Nat.gcd_pos_of_pos_left _ (by omega)
  have hgle : Int.gcd a b ≤ a.natAbs := Nat.gcd_le_left _ (by omega)
  have d1 : (Int.gcd a b : Int) ∣ a := Int.gcd_dvd_left ..
  have d2 : (Int.gcd a b : Int) ∣ b := Int.gcd_dvd_right ..
  refine lv_lload_n hx hb dW_classOfProduct_0 rfl (lv_at hl 0 rfl) ?_
  refine lv_lload_n hx hb dW_classOfProduct_1 rfl (lv_at hl 1 rfl) ?_
  refine pm_G (As := [.long (jl a), .long (jl b)]) (rest := []) hx hb hml hown hg hl (kW_sharedFactor l a b ha hb9 h0) wd158 wd159 wd11 wd160 ⟨rfl, rfl⟩ (n := 2) (by decide +kernel) rfl ⟨by decide, by decide⟩ rfl (Nat.le_of_ble_eq_true rfl) dW_classOfProduct_2 ⟨Nat.zero_le _, Nat.zero_le _⟩ (fun r hr9 => ?_)
  subst hr9
  refine lv_lstore hx hb dW_classOfProduct_5 hl (by decide) rfl (fun ls hl => ?_)
  have hl : lv_has ls 6 [(4, .long (jl ((Int.gcd a b:Int)))), (0, .long (jl a)), (2, .long (jl b))] := hl
  refine lv_lload_n hx hb dW_classOfProduct_7 rfl (lv_at hl 1 rfl) ?_
  refine lv_lload hx hb dW_classOfProduct_8 (lv_at hl 0 rfl) ?_
  refine j_ldiv hx hb (by omega) (by omega) (by omega) dW_classOfProduct_10 ?_
  refine lv_lload_n hx hb dW_classOfProduct_11 rfl (lv_at hl 2 rfl) ?_
  refine lv_lload hx hb dW_classOfProduct_12 (lv_at hl 0 rfl) ?_
  refine j_ldiv hx hb (by omega) (by omega) (by omega) dW_classOfProduct_14 ?_
  refine j_lmul hx hb dW_classOfProduct_15 ?_
  exact pm_lret hx hb hr hk dW_classOfProduct_16 (by rw [td_e d1, td_e d2]; rfl)
end
section
/-! Places (the class) and Math.floorMod: names, contracts -/
abbrev cJ_floorMod : ByteArray := prog_13_method_52_code
abbrev yJ_floorMod : MethodName := ⟨"java/lang/Math", "floorMod", "(JJ)J"⟩
abbrev wsJ_floorMod : List Cond := .code yJ_floorMod cJ_floorMod 6 (some .long) :: GG
theorem dJ_floorMod_0 : decode cJ_floorMod 0 = .ok (.lload_n 0, 1) := by decide +kernel
theorem dJ_floorMod_1 : decode cJ_floorMod 1 = .ok (.lload_n 2, 1) := by decide +kernel
theorem dJ_floorMod_2 : decode cJ_floorMod 2 = .ok (.lrem, 1) := by decide +kernel
theorem dJ_floorMod_3 : decode cJ_floorMod 3 = .ok (.lstore 4, 2) := by decide +kernel
theorem dJ_floorMod_5 : decode cJ_floorMod 5 = .ok (.lload_n 0, 1) := by decide +kernel
theorem dJ_floorMod_6 : decode cJ_floorMod 6 = .ok (.lload_n 2, 1) := by decide +kernel
theorem dJ_floorMod_7 : decode cJ_floorMod 7 = .ok (.lxor, 1) := by decide +kernel
theorem dJ_floorMod_8 : decode cJ_floorMod 8 = .ok (.lconst 0, 1) := by decide +kernel
theorem dJ_floorMod_9 : decode cJ_floorMod 9 = .ok (.lcmp, 1) := by decide +kernel
theorem dJ_floorMod_10 : decode cJ_floorMod 10 = .ok (.ifCond .ge 15, 3) := by decide +kernel
theorem dJ_floorMod_13 : decode cJ_floorMod 13 = .ok (.lload 4, 2) := by decide +kernel
theorem dJ_floorMod_15 : decode cJ_floorMod 15 = .ok (.lconst 0, 1) := by decide +kernel
theorem dJ_floorMod_16 : decode cJ_floorMod 16 = .ok (.lcmp, 1) := by decide +kernel
theorem dJ_floorMod_17 : decode cJ_floorMod 17 = .ok (.ifCond .eq 8, 3) := by decide +kernel
theorem dJ_floorMod_20 : decode cJ_floorMod 20 = .ok (.lload 4, 2) := by decide +kernel
theorem dJ_floorMod_22 : decode cJ_floorMod 22 = .ok (.lload_n 2, 1) := by decide +kernel
theorem dJ_floorMod_23 : decode cJ_floorMod 23 = .ok (.ladd, 1) := by decide +kernel
theorem dJ_floorMod_24 : decode cJ_floorMod 24 = .ok (.lreturn, 1) := by decide +kernel
theorem dJ_floorMod_25 : decode cJ_floorMod 25 = .ok (.lload 4, 2) := by decide +kernel
theorem dJ_floorMod_27 : decode cJ_floorMod 27 = .ok (.lreturn, 1) := by decide +kernel
abbrev cP_orderOf : ByteArray := prog_4_method_6_code
abbrev yP_orderOf : MethodName := ⟨"RationalForms$Places", "orderOf", "(JI)I"⟩
abbrev wsP_orderOf : List Cond := .code yP_orderOf cP_orderOf 6 (some .int) :: GG
theorem dP_orderOf_0 : decode cP_orderOf 0 = .ok (.lload_n 0, 1) := by decide +kernel
theorem dP_orderOf_1 : decode cP_orderOf 1 = .ok (.lstore_n 3, 1) := by decide +kernel
theorem dP_orderOf_2 : decode cP_orderOf 2 = .ok (.iconst 0, 1) := by decide +kernel
theorem dP_orderOf_3 : decode cP_orderOf 3 = .ok (.istore 5, 2) := by decide +kernel
theorem dP_orderOf_5 : decode cP_orderOf 5 = .ok (.iload 5, 2) := by decide +kernel
theorem dP_orderOf_7 : decode cP_orderOf 7 = .ok (.bipush 64, 2) := by decide +kernel
theorem dP_orderOf_9 : decode cP_orderOf 9 = .ok (.if_icmp .ge 23, 3) := by decide +kernel
theorem dP_orderOf_12 : decode cP_orderOf 12 = .ok (.lload_n 3, 1) := by decide +kernel
theorem dP_orderOf_13 : decode cP_orderOf 13 = .ok (.iload_n 2, 1) := by decide +kernel
theorem dP_orderOf_14 : decode cP_orderOf 14 = .ok (.i2l, 1) := by decide +kernel
theorem dP_orderOf_15 : decode cP_orderOf 15 = .ok (.lrem, 1) := by decide +kernel
theorem dP_orderOf_16 : decode cP_orderOf 16 = .ok (.lconst 0, 1) := by decide +kernel
theorem dP_orderOf_17 : decode cP_orderOf 17 = .ok (.lcmp, 1) := by decide +kernel
theorem dP_orderOf_18 : decode cP_orderOf 18 = .ok (.ifCond .ne 14, 3) := by decide +kernel
theorem dP_orderOf_21 : decode cP_orderOf 21 = .ok (.lload_n 3, 1) := by decide +kernel
theorem dP_orderOf_22 : decode cP_orderOf 22 = .ok (.iload_n 2, 1) := by decide +kernel
theorem dP_orderOf_23 : decode cP_orderOf 23 = .ok (.i2l, 1) := by decide +kernel
theorem dP_orderOf_24 : decode cP_orderOf 24 = .ok (.ldiv, 1) := by decide +kernel
theorem dP_orderOf_25 : decode cP_orderOf 25 = .ok (.lstore_n 3, 1) := by decide +kernel
theorem dP_orderOf_26 : decode cP_orderOf 26 = .ok (.iinc 5 1, 3) := by decide +kernel
theorem dP_orderOf_29 : decode cP_orderOf 29 = .ok (.goto (-24), 3) := by decide +kernel
theorem dP_orderOf_32 : decode cP_orderOf 32 = .ok (.iload 5, 2) := by decide +kernel
theorem dP_orderOf_34 : decode cP_orderOf 34 = .ok (.ireturn, 1) := by decide +kernel
abbrev cP_unitOf : ByteArray := prog_4_method_7_code
abbrev yP_unitOf : MethodName := ⟨"RationalForms$Places", "unitOf", "(JI)I"⟩
abbrev wsP_unitOf : List Cond := .code yP_unitOf cP_unitOf 5 (some .int) :: GG
theorem dP_unitOf_0 : decode cP_unitOf 0 = .ok (.lload_n 0, 1) := by decide +kernel
theorem dP_unitOf_1 : decode cP_unitOf 1 = .ok (.iload_n 2, 1) := by decide +kernel
theorem dP_unitOf_2 : decode cP_unitOf 2 = .ok (.i2l, 1) := by decide +kernel
theorem dP_unitOf_3 : decode cP_unitOf 3 = .ok (.invokestatic 32, 3) := by decide +kernel
theorem dP_unitOf_6 : decode cP_unitOf 6 = .ok (.lstore_n 3, 1) := by decide +kernel
theorem dP_unitOf_7 : decode cP_unitOf 7 = .ok (.lload_n 3, 1) := by decide +kernel
theorem dP_unitOf_8 : decode cP_unitOf 8 = .ok (.iload_n 2, 1) := by decide +kernel
theorem dP_unitOf_9 : decode cP_unitOf 9 = .ok (.iconst 2, 1) := by decide +kernel
theorem dP_unitOf_10 : decode cP_unitOf 10 = .ok (.if_icmp .ne 9, 3) := by decide +kernel
theorem dP_unitOf_13 : decode cP_unitOf 13 = .ok (.ldc2_w 36, 3) := by decide +kernel
theorem dP_unitOf_16 : decode cP_unitOf 16 = .ok (.goto 5, 3) := by decide +kernel
theorem dP_unitOf_19 : decode cP_unitOf 19 = .ok (.iload_n 2, 1) := by decide +kernel
theorem dP_unitOf_20 : decode cP_unitOf 20 = .ok (.i2l, 1) := by decide +kernel
theorem dP_unitOf_21 : decode cP_unitOf 21 = .ok (.invokestatic 38, 3) := by decide +kernel
theorem dP_unitOf_24 : decode cP_unitOf 24 = .ok (.l2i, 1) := by decide +kernel
theorem dP_unitOf_25 : decode cP_unitOf 25 = .ok (.ireturn, 1) := by decide +kernel
abbrev cP_isRemainder : ByteArray := prog_4_method_8_code
abbrev yP_isRemainder : MethodName := ⟨"RationalForms$Places", "isRemainder", "(II)Z"⟩
abbrev wsP_isRemainder : List Cond := .code yP_isRemainder cP_isRemainder 8 (some .boolean) :: GG
theorem dP_isRemainder_0 : decode cP_isRemainder 0 = .ok (.iload_n 1, 1) := by decide +kernel
theorem dP_isRemainder_1 : decode cP_isRemainder 1 = .ok (.iconst 1, 1) := by decide +kernel
theorem dP_isRemainder_2 : decode cP_isRemainder 2 = .ok (.isub, 1) := by decide +kernel
theorem dP_isRemainder_3 : decode cP_isRemainder 3 = .ok (.iconst 2, 1) := by decide +kernel
theorem dP_isRemainder_4 : decode cP_isRemainder 4 = .ok (.idiv, 1) := by decide +kernel
theorem dP_isRemainder_5 : decode cP_isRemainder 5 = .ok (.istore_n 2, 1) := by decide +kernel
theorem dP_isRemainder_6 : decode cP_isRemainder 6 = .ok (.lconst 1, 1) := by decide +kernel
theorem dP_isRemainder_7 : decode cP_isRemainder 7 = .ok (.lstore_n 3, 1) := by decide +kernel
theorem dP_isRemainder_8 : decode cP_isRemainder 8 = .ok (.iload_n 0, 1) := by decide +kernel
theorem dP_isRemainder_9 : decode cP_isRemainder 9 = .ok (.i2l, 1) := by decide +kernel
theorem dP_isRemainder_10 : decode cP_isRemainder 10 = .ok (.lstore 5, 2) := by decide +kernel
theorem dP_isRemainder_12 : decode cP_isRemainder 12 = .ok (.iconst 0, 1) := by decide +kernel
theorem dP_isRemainder_13 : decode cP_isRemainder 13 = .ok (.istore 7, 2) := by decide +kernel
theorem dP_isRemainder_15 : decode cP_isRemainder 15 = .ok (.iload 7, 2) := by decide +kernel
theorem dP_isRemainder_17 : decode cP_isRemainder 17 = .ok (.bipush 31, 2) := by decide +kernel
theorem dP_isRemainder_19 : decode cP_isRemainder 19 = .ok (.if_icmp .ge 37, 3) := by decide +kernel
theorem dP_isRemainder_22 : decode cP_isRemainder 22 = .ok (.iload_n 2, 1) := by decide +kernel
theorem dP_isRemainder_23 : decode cP_isRemainder 23 = .ok (.iload 7, 2) := by decide +kernel
theorem dP_isRemainder_25 : decode cP_isRemainder 25 = .ok (.ishr, 1) := by decide +kernel
theorem dP_isRemainder_26 : decode cP_isRemainder 26 = .ok (.iconst 2, 1) := by decide +kernel
theorem dP_isRemainder_27 : decode cP_isRemainder 27 = .ok (.irem, 1) := by decide +kernel
theorem dP_isRemainder_28 : decode cP_isRemainder 28 = .ok (.iconst 1, 1) := by decide +kernel
theorem dP_isRemainder_29 : decode cP_isRemainder 29 = .ok (.if_icmp .ne 11, 3) := by decide +kernel
theorem dP_isRemainder_32 : decode cP_isRemainder 32 = .ok (.lload_n 3, 1) := by decide +kernel
theorem dP_isRemainder_33 : decode cP_isRemainder 33 = .ok (.lload 5, 2) := by decide +kernel
theorem dP_isRemainder_35 : decode cP_isRemainder 35 = .ok (.lmul, 1) := by decide +kernel
theorem dP_isRemainder_36 : decode cP_isRemainder 36 = .ok (.iload_n 1, 1) := by decide +kernel
theorem dP_isRemainder_37 : decode cP_isRemainder 37 = .ok (.i2l, 1) := by decide +kernel
theorem dP_isRemainder_38 : decode cP_isRemainder 38 = .ok (.lrem, 1) := by decide +kernel
theorem dP_isRemainder_39 : decode cP_isRemainder 39 = .ok (.lstore_n 3, 1) := by decide +kernel
theorem dP_isRemainder_40 : decode cP_isRemainder 40 = .ok (.lload 5, 2) := by decide +kernel
theorem dP_isRemainder_42 : decode cP_isRemainder 42 = .ok (.lload 5, 2) := by decide +kernel
theorem dP_isRemainder_44 : decode cP_isRemainder 44 = .ok (.lmul, 1) := by decide +kernel
theorem dP_isRemainder_45 : decode cP_isRemainder 45 = .ok (.iload_n 1, 1) := by decide +kernel
theorem dP_isRemainder_46 : decode cP_isRemainder 46 = .ok (.i2l, 1) := by decide +kernel
theorem dP_isRemainder_47 : decode cP_isRemainder 47 = .ok (.lrem, 1) := by decide +kernel
theorem dP_isRemainder_48 : decode cP_isRemainder 48 = .ok (.lstore 5, 2) := by decide +kernel
theorem dP_isRemainder_50 : decode cP_isRemainder 50 = .ok (.iinc 7 1, 3) := by decide +kernel
theorem dP_isRemainder_53 : decode cP_isRemainder 53 = .ok (.goto (-38), 3) := by decide +kernel
theorem dP_isRemainder_56 : decode cP_isRemainder 56 = .ok (.lload_n 3, 1) := by decide +kernel
theorem dP_isRemainder_57 : decode cP_isRemainder 57 = .ok (.lconst 1, 1) := by decide +kernel
theorem dP_isRemainder_58 : decode cP_isRemainder 58 = .ok (.lcmp, 1) := by decide +kernel
theorem dP_isRemainder_59 : decode cP_isRemainder 59 = .ok (.ifCond .ne 7, 3) := by decide +kernel
theorem dP_isRemainder_62 : decode cP_isRemainder 62 = .ok (.iconst 1, 1) := by decide +kernel
theorem dP_isRemainder_63 : decode cP_isRemainder 63 = .ok (.goto 4, 3) := by decide +kernel
theorem dP_isRemainder_66 : decode cP_isRemainder 66 = .ok (.iconst 0, 1) := by decide +kernel
theorem dP_isRemainder_67 : decode cP_isRemainder 67 = .ok (.ireturn, 1) := by decide +kernel
abbrev cP_symbolAtTwo : ByteArray := prog_4_method_3_code
abbrev yP_symbolAtTwo : MethodName := ⟨"RationalForms$Places", "symbolAtTwo", "(IIII)I"⟩
abbrev wsP_symbolAtTwo : List Cond := .code yP_symbolAtTwo cP_symbolAtTwo 5 (some .int) :: GG
theorem dP_symbolAtTwo_0 : decode cP_symbolAtTwo 0 = .ok (.iload_n 2, 1) := by decide +kernel
theorem dP_symbolAtTwo_1 : decode cP_symbolAtTwo 1 = .ok (.iconst 1, 1) := by decide +kernel
theorem dP_symbolAtTwo_2 : decode cP_symbolAtTwo 2 = .ok (.isub, 1) := by decide +kernel
theorem dP_symbolAtTwo_3 : decode cP_symbolAtTwo 3 = .ok (.iconst 2, 1) := by decide +kernel
theorem dP_symbolAtTwo_4 : decode cP_symbolAtTwo 4 = .ok (.idiv, 1) := by decide +kernel
theorem dP_symbolAtTwo_5 : decode cP_symbolAtTwo 5 = .ok (.iload_n 3, 1) := by decide +kernel
theorem dP_symbolAtTwo_6 : decode cP_symbolAtTwo 6 = .ok (.iconst 1, 1) := by decide +kernel
theorem dP_symbolAtTwo_7 : decode cP_symbolAtTwo 7 = .ok (.isub, 1) := by decide +kernel
theorem dP_symbolAtTwo_8 : decode cP_symbolAtTwo 8 = .ok (.iconst 2, 1) := by decide +kernel
theorem dP_symbolAtTwo_9 : decode cP_symbolAtTwo 9 = .ok (.idiv, 1) := by decide +kernel
theorem dP_symbolAtTwo_10 : decode cP_symbolAtTwo 10 = .ok (.imul, 1) := by decide +kernel
theorem dP_symbolAtTwo_11 : decode cP_symbolAtTwo 11 = .ok (.iload_n 0, 1) := by decide +kernel
theorem dP_symbolAtTwo_12 : decode cP_symbolAtTwo 12 = .ok (.iload_n 3, 1) := by decide +kernel
theorem dP_symbolAtTwo_13 : decode cP_symbolAtTwo 13 = .ok (.iload_n 3, 1) := by decide +kernel
theorem dP_symbolAtTwo_14 : decode cP_symbolAtTwo 14 = .ok (.imul, 1) := by decide +kernel
theorem dP_symbolAtTwo_15 : decode cP_symbolAtTwo 15 = .ok (.iconst 1, 1) := by decide +kernel
theorem dP_symbolAtTwo_16 : decode cP_symbolAtTwo 16 = .ok (.isub, 1) := by decide +kernel
theorem dP_symbolAtTwo_17 : decode cP_symbolAtTwo 17 = .ok (.bipush 8, 2) := by decide +kernel
theorem dP_symbolAtTwo_19 : decode cP_symbolAtTwo 19 = .ok (.idiv, 1) := by decide +kernel
theorem dP_symbolAtTwo_20 : decode cP_symbolAtTwo 20 = .ok (.imul, 1) := by decide +kernel
theorem dP_symbolAtTwo_21 : decode cP_symbolAtTwo 21 = .ok (.iadd, 1) := by decide +kernel
theorem dP_symbolAtTwo_22 : decode cP_symbolAtTwo 22 = .ok (.iload_n 1, 1) := by decide +kernel
theorem dP_symbolAtTwo_23 : decode cP_symbolAtTwo 23 = .ok (.iload_n 2, 1) := by decide +kernel
theorem dP_symbolAtTwo_24 : decode cP_symbolAtTwo 24 = .ok (.iload_n 2, 1) := by decide +kernel
theorem dP_symbolAtTwo_25 : decode cP_symbolAtTwo 25 = .ok (.imul, 1) := by decide +kernel
theorem dP_symbolAtTwo_26 : decode cP_symbolAtTwo 26 = .ok (.iconst 1, 1) := by decide +kernel
theorem dP_symbolAtTwo_27 : decode cP_symbolAtTwo 27 = .ok (.isub, 1) := by decide +kernel
theorem dP_symbolAtTwo_28 : decode cP_symbolAtTwo 28 = .ok (.bipush 8, 2) := by decide +kernel
theorem dP_symbolAtTwo_30 : decode cP_symbolAtTwo 30 = .ok (.idiv, 1) := by decide +kernel
theorem dP_symbolAtTwo_31 : decode cP_symbolAtTwo 31 = .ok (.imul, 1) := by decide +kernel
theorem dP_symbolAtTwo_32 : decode cP_symbolAtTwo 32 = .ok (.iadd, 1) := by decide +kernel
theorem dP_symbolAtTwo_33 : decode cP_symbolAtTwo 33 = .ok (.istore 4, 2) := by decide +kernel
theorem dP_symbolAtTwo_35 : decode cP_symbolAtTwo 35 = .ok (.iload 4, 2) := by decide +kernel
theorem dP_symbolAtTwo_37 : decode cP_symbolAtTwo 37 = .ok (.iconst 2, 1) := by decide +kernel
theorem dP_symbolAtTwo_38 : decode cP_symbolAtTwo 38 = .ok (.irem, 1) := by decide +kernel
theorem dP_symbolAtTwo_39 : decode cP_symbolAtTwo 39 = .ok (.ifCond .ne 7, 3) := by decide +kernel
theorem dP_symbolAtTwo_42 : decode cP_symbolAtTwo 42 = .ok (.iconst 1, 1) := by decide +kernel
theorem dP_symbolAtTwo_43 : decode cP_symbolAtTwo 43 = .ok (.goto 4, 3) := by decide +kernel
theorem dP_symbolAtTwo_46 : decode cP_symbolAtTwo 46 = .ok (.iconst (-1), 1) := by decide +kernel
theorem dP_symbolAtTwo_47 : decode cP_symbolAtTwo 47 = .ok (.ireturn, 1) := by decide +kernel
abbrev cP_symbolAtOdd : ByteArray := prog_4_method_4_code
abbrev yP_symbolAtOdd : MethodName := ⟨"RationalForms$Places", "symbolAtOdd", "(IIIII)I"⟩
abbrev wsP_symbolAtOdd : List Cond := .code yP_symbolAtOdd cP_symbolAtOdd 6 (some .int) :: GG
theorem dP_symbolAtOdd_0 : decode cP_symbolAtOdd 0 = .ok (.iload_n 0, 1) := by decide +kernel
theorem dP_symbolAtOdd_1 : decode cP_symbolAtOdd 1 = .ok (.iload_n 1, 1) := by decide +kernel
theorem dP_symbolAtOdd_2 : decode cP_symbolAtOdd 2 = .ok (.imul, 1) := by decide +kernel
theorem dP_symbolAtOdd_3 : decode cP_symbolAtOdd 3 = .ok (.iload 4, 2) := by decide +kernel
theorem dP_symbolAtOdd_5 : decode cP_symbolAtOdd 5 = .ok (.iconst 1, 1) := by decide +kernel
theorem dP_symbolAtOdd_6 : decode cP_symbolAtOdd 6 = .ok (.isub, 1) := by decide +kernel
theorem dP_symbolAtOdd_7 : decode cP_symbolAtOdd 7 = .ok (.iconst 2, 1) := by decide +kernel
theorem dP_symbolAtOdd_8 : decode cP_symbolAtOdd 8 = .ok (.idiv, 1) := by decide +kernel
theorem dP_symbolAtOdd_9 : decode cP_symbolAtOdd 9 = .ok (.imul, 1) := by decide +kernel
theorem dP_symbolAtOdd_10 : decode cP_symbolAtOdd 10 = .ok (.iconst 2, 1) := by decide +kernel
theorem dP_symbolAtOdd_11 : decode cP_symbolAtOdd 11 = .ok (.irem, 1) := by decide +kernel
theorem dP_symbolAtOdd_12 : decode cP_symbolAtOdd 12 = .ok (.ifCond .ne 7, 3) := by decide +kernel
theorem dP_symbolAtOdd_15 : decode cP_symbolAtOdd 15 = .ok (.iconst 1, 1) := by decide +kernel
theorem dP_symbolAtOdd_16 : decode cP_symbolAtOdd 16 = .ok (.goto 4, 3) := by decide +kernel
theorem dP_symbolAtOdd_19 : decode cP_symbolAtOdd 19 = .ok (.iconst (-1), 1) := by decide +kernel
theorem dP_symbolAtOdd_20 : decode cP_symbolAtOdd 20 = .ok (.istore 5, 2) := by decide +kernel
theorem dP_symbolAtOdd_22 : decode cP_symbolAtOdd 22 = .ok (.iload_n 1, 1) := by decide +kernel
theorem dP_symbolAtOdd_23 : decode cP_symbolAtOdd 23 = .ok (.iconst 1, 1) := by decide +kernel
theorem dP_symbolAtOdd_24 : decode cP_symbolAtOdd 24 = .ok (.if_icmp .ne 17, 3) := by decide +kernel
theorem dP_symbolAtOdd_27 : decode cP_symbolAtOdd 27 = .ok (.iload_n 2, 1) := by decide +kernel
theorem dP_symbolAtOdd_28 : decode cP_symbolAtOdd 28 = .ok (.iload 4, 2) := by decide +kernel
theorem dP_symbolAtOdd_30 : decode cP_symbolAtOdd 30 = .ok (.invokestatic 26, 3) := by decide +kernel
theorem dP_symbolAtOdd_33 : decode cP_symbolAtOdd 33 = .ok (.ifCond .ne 8, 3) := by decide +kernel
theorem dP_symbolAtOdd_36 : decode cP_symbolAtOdd 36 = .ok (.iload 5, 2) := by decide +kernel
theorem dP_symbolAtOdd_38 : decode cP_symbolAtOdd 38 = .ok (.ineg, 1) := by decide +kernel
theorem dP_symbolAtOdd_39 : decode cP_symbolAtOdd 39 = .ok (.istore 5, 2) := by decide +kernel
theorem dP_symbolAtOdd_41 : decode cP_symbolAtOdd 41 = .ok (.iload_n 0, 1) := by decide +kernel
theorem dP_symbolAtOdd_42 : decode cP_symbolAtOdd 42 = .ok (.iconst 1, 1) := by decide +kernel
theorem dP_symbolAtOdd_43 : decode cP_symbolAtOdd 43 = .ok (.if_icmp .ne 17, 3) := by decide +kernel
theorem dP_symbolAtOdd_46 : decode cP_symbolAtOdd 46 = .ok (.iload_n 3, 1) := by decide +kernel
theorem dP_symbolAtOdd_47 : decode cP_symbolAtOdd 47 = .ok (.iload 4, 2) := by decide +kernel
theorem dP_symbolAtOdd_49 : decode cP_symbolAtOdd 49 = .ok (.invokestatic 26, 3) := by decide +kernel
theorem dP_symbolAtOdd_52 : decode cP_symbolAtOdd 52 = .ok (.ifCond .ne 8, 3) := by decide +kernel
theorem dP_symbolAtOdd_55 : decode cP_symbolAtOdd 55 = .ok (.iload 5, 2) := by decide +kernel
theorem dP_symbolAtOdd_57 : decode cP_symbolAtOdd 57 = .ok (.ineg, 1) := by decide +kernel
theorem dP_symbolAtOdd_58 : decode cP_symbolAtOdd 58 = .ok (.istore 5, 2) := by decide +kernel
theorem dP_symbolAtOdd_60 : decode cP_symbolAtOdd 60 = .ok (.iload 5, 2) := by decide +kernel
theorem dP_symbolAtOdd_62 : decode cP_symbolAtOdd 62 = .ok (.ireturn, 1) := by decide +kernel
abbrev cP_isSquare : ByteArray := prog_4_method_5_code
abbrev yP_isSquare : MethodName := ⟨"RationalForms$Places", "isSquare", "(JI)Z"⟩
abbrev wsP_isSquare : List Cond := .code yP_isSquare cP_isSquare 4 (some .boolean) :: GG
theorem dP_isSquare_0 : decode cP_isSquare 0 = .ok (.iload_n 2, 1) := by decide +kernel
theorem dP_isSquare_1 : decode cP_isSquare 1 = .ok (.ifCond .ne 15, 3) := by decide +kernel
theorem dP_isSquare_4 : decode cP_isSquare 4 = .ok (.lload_n 0, 1) := by decide +kernel
theorem dP_isSquare_5 : decode cP_isSquare 5 = .ok (.lconst 0, 1) := by decide +kernel
theorem dP_isSquare_6 : decode cP_isSquare 6 = .ok (.lcmp, 1) := by decide +kernel
theorem dP_isSquare_7 : decode cP_isSquare 7 = .ok (.ifCond .le 7, 3) := by decide +kernel
theorem dP_isSquare_10 : decode cP_isSquare 10 = .ok (.iconst 1, 1) := by decide +kernel
theorem dP_isSquare_11 : decode cP_isSquare 11 = .ok (.goto 4, 3) := by decide +kernel
theorem dP_isSquare_14 : decode cP_isSquare 14 = .ok (.iconst 0, 1) := by decide +kernel
theorem dP_isSquare_15 : decode cP_isSquare 15 = .ok (.ireturn, 1) := by decide +kernel
theorem dP_isSquare_16 : decode cP_isSquare 16 = .ok (.lload_n 0, 1) := by decide +kernel
theorem dP_isSquare_17 : decode cP_isSquare 17 = .ok (.iload_n 2, 1) := by decide +kernel
theorem dP_isSquare_18 : decode cP_isSquare 18 = .ok (.invokestatic 9, 3) := by decide +kernel
theorem dP_isSquare_21 : decode cP_isSquare 21 = .ok (.iconst 2, 1) := by decide +kernel
theorem dP_isSquare_22 : decode cP_isSquare 22 = .ok (.irem, 1) := by decide +kernel
theorem dP_isSquare_23 : decode cP_isSquare 23 = .ok (.ifCond .eq 5, 3) := by decide +kernel
theorem dP_isSquare_26 : decode cP_isSquare 26 = .ok (.iconst 0, 1) := by decide +kernel
theorem dP_isSquare_27 : decode cP_isSquare 27 = .ok (.ireturn, 1) := by decide +kernel
theorem dP_isSquare_28 : decode cP_isSquare 28 = .ok (.lload_n 0, 1) := by decide +kernel
theorem dP_isSquare_29 : decode cP_isSquare 29 = .ok (.iload_n 2, 1) := by decide +kernel
theorem dP_isSquare_30 : decode cP_isSquare 30 = .ok (.invokestatic 15, 3) := by decide +kernel
theorem dP_isSquare_33 : decode cP_isSquare 33 = .ok (.istore_n 3, 1) := by decide +kernel
theorem dP_isSquare_34 : decode cP_isSquare 34 = .ok (.iload_n 2, 1) := by decide +kernel
theorem dP_isSquare_35 : decode cP_isSquare 35 = .ok (.iconst 2, 1) := by decide +kernel
theorem dP_isSquare_36 : decode cP_isSquare 36 = .ok (.if_icmp .ne 16, 3) := by decide +kernel
theorem dP_isSquare_39 : decode cP_isSquare 39 = .ok (.iload_n 3, 1) := by decide +kernel
theorem dP_isSquare_40 : decode cP_isSquare 40 = .ok (.iconst 1, 1) := by decide +kernel
theorem dP_isSquare_41 : decode cP_isSquare 41 = .ok (.if_icmp .ne 7, 3) := by decide +kernel
theorem dP_isSquare_44 : decode cP_isSquare 44 = .ok (.iconst 1, 1) := by decide +kernel
theorem dP_isSquare_45 : decode cP_isSquare 45 = .ok (.goto 12, 3) := by decide +kernel
theorem dP_isSquare_48 : decode cP_isSquare 48 = .ok (.iconst 0, 1) := by decide +kernel
theorem dP_isSquare_49 : decode cP_isSquare 49 = .ok (.goto 8, 3) := by decide +kernel
theorem dP_isSquare_52 : decode cP_isSquare 52 = .ok (.iload_n 3, 1) := by decide +kernel
theorem dP_isSquare_53 : decode cP_isSquare 53 = .ok (.iload_n 2, 1) := by decide +kernel
theorem dP_isSquare_54 : decode cP_isSquare 54 = .ok (.invokestatic 26, 3) := by decide +kernel
theorem dP_isSquare_57 : decode cP_isSquare 57 = .ok (.ireturn, 1) := by decide +kernel
abbrev cP_symbolOf : ByteArray := prog_4_method_2_code
abbrev yP_symbolOf : MethodName := ⟨"RationalForms$Places", "symbolOf", "(JJI)I"⟩
abbrev wsP_symbolOf : List Cond := .code yP_symbolOf cP_symbolOf 9 (some .int) :: GG
theorem dP_symbolOf_0 : decode cP_symbolOf 0 = .ok (.iload 4, 2) := by decide +kernel
theorem dP_symbolOf_2 : decode cP_symbolOf 2 = .ok (.ifCond .ne 21, 3) := by decide +kernel
theorem dP_symbolOf_5 : decode cP_symbolOf 5 = .ok (.lload_n 0, 1) := by decide +kernel
theorem dP_symbolOf_6 : decode cP_symbolOf 6 = .ok (.lconst 0, 1) := by decide +kernel
theorem dP_symbolOf_7 : decode cP_symbolOf 7 = .ok (.lcmp, 1) := by decide +kernel
theorem dP_symbolOf_8 : decode cP_symbolOf 8 = .ok (.ifCond .ge 13, 3) := by decide +kernel
theorem dP_symbolOf_11 : decode cP_symbolOf 11 = .ok (.lload_n 2, 1) := by decide +kernel
theorem dP_symbolOf_12 : decode cP_symbolOf 12 = .ok (.lconst 0, 1) := by decide +kernel
theorem dP_symbolOf_13 : decode cP_symbolOf 13 = .ok (.lcmp, 1) := by decide +kernel
theorem dP_symbolOf_14 : decode cP_symbolOf 14 = .ok (.ifCond .ge 7, 3) := by decide +kernel
theorem dP_symbolOf_17 : decode cP_symbolOf 17 = .ok (.iconst (-1), 1) := by decide +kernel
theorem dP_symbolOf_18 : decode cP_symbolOf 18 = .ok (.goto 4, 3) := by decide +kernel
theorem dP_symbolOf_21 : decode cP_symbolOf 21 = .ok (.iconst 1, 1) := by decide +kernel
theorem dP_symbolOf_22 : decode cP_symbolOf 22 = .ok (.ireturn, 1) := by decide +kernel
theorem dP_symbolOf_23 : decode cP_symbolOf 23 = .ok (.lload_n 0, 1) := by decide +kernel
theorem dP_symbolOf_24 : decode cP_symbolOf 24 = .ok (.iload 4, 2) := by decide +kernel
theorem dP_symbolOf_26 : decode cP_symbolOf 26 = .ok (.invokestatic 9, 3) := by decide +kernel
theorem dP_symbolOf_29 : decode cP_symbolOf 29 = .ok (.iconst 2, 1) := by decide +kernel
theorem dP_symbolOf_30 : decode cP_symbolOf 30 = .ok (.irem, 1) := by decide +kernel
theorem dP_symbolOf_31 : decode cP_symbolOf 31 = .ok (.istore 5, 2) := by decide +kernel
theorem dP_symbolOf_33 : decode cP_symbolOf 33 = .ok (.lload_n 2, 1) := by decide +kernel
theorem dP_symbolOf_34 : decode cP_symbolOf 34 = .ok (.iload 4, 2) := by decide +kernel
theorem dP_symbolOf_36 : decode cP_symbolOf 36 = .ok (.invokestatic 9, 3) := by decide +kernel
theorem dP_symbolOf_39 : decode cP_symbolOf 39 = .ok (.iconst 2, 1) := by decide +kernel
theorem dP_symbolOf_40 : decode cP_symbolOf 40 = .ok (.irem, 1) := by decide +kernel
theorem dP_symbolOf_41 : decode cP_symbolOf 41 = .ok (.istore 6, 2) := by decide +kernel
theorem dP_symbolOf_43 : decode cP_symbolOf 43 = .ok (.lload_n 0, 1) := by decide +kernel
theorem dP_symbolOf_44 : decode cP_symbolOf 44 = .ok (.iload 4, 2) := by decide +kernel
theorem dP_symbolOf_46 : decode cP_symbolOf 46 = .ok (.invokestatic 15, 3) := by decide +kernel
theorem dP_symbolOf_49 : decode cP_symbolOf 49 = .ok (.istore 7, 2) := by decide +kernel
theorem dP_symbolOf_51 : decode cP_symbolOf 51 = .ok (.lload_n 2, 1) := by decide +kernel
theorem dP_symbolOf_52 : decode cP_symbolOf 52 = .ok (.iload 4, 2) := by decide +kernel
theorem dP_symbolOf_54 : decode cP_symbolOf 54 = .ok (.invokestatic 15, 3) := by decide +kernel
theorem dP_symbolOf_57 : decode cP_symbolOf 57 = .ok (.istore 8, 2) := by decide +kernel
theorem dP_symbolOf_59 : decode cP_symbolOf 59 = .ok (.iload 4, 2) := by decide +kernel
theorem dP_symbolOf_61 : decode cP_symbolOf 61 = .ok (.iconst 2, 1) := by decide +kernel
theorem dP_symbolOf_62 : decode cP_symbolOf 62 = .ok (.if_icmp .ne 17, 3) := by decide +kernel
theorem dP_symbolOf_65 : decode cP_symbolOf 65 = .ok (.iload 5, 2) := by decide +kernel
theorem dP_symbolOf_67 : decode cP_symbolOf 67 = .ok (.iload 6, 2) := by decide +kernel
theorem dP_symbolOf_69 : decode cP_symbolOf 69 = .ok (.iload 7, 2) := by decide +kernel
theorem dP_symbolOf_71 : decode cP_symbolOf 71 = .ok (.iload 8, 2) := by decide +kernel
theorem dP_symbolOf_73 : decode cP_symbolOf 73 = .ok (.invokestatic 18, 3) := by decide +kernel
theorem dP_symbolOf_76 : decode cP_symbolOf 76 = .ok (.goto 16, 3) := by decide +kernel
theorem dP_symbolOf_79 : decode cP_symbolOf 79 = .ok (.iload 5, 2) := by decide +kernel
theorem dP_symbolOf_81 : decode cP_symbolOf 81 = .ok (.iload 6, 2) := by decide +kernel
theorem dP_symbolOf_83 : decode cP_symbolOf 83 = .ok (.iload 7, 2) := by decide +kernel
theorem dP_symbolOf_85 : decode cP_symbolOf 85 = .ok (.iload 8, 2) := by decide +kernel
theorem dP_symbolOf_87 : decode cP_symbolOf 87 = .ok (.iload 4, 2) := by decide +kernel
theorem dP_symbolOf_89 : decode cP_symbolOf 89 = .ok (.invokestatic 22, 3) := by decide +kernel
theorem dP_symbolOf_92 : decode cP_symbolOf 92 = .ok (.ireturn, 1) := by decide +kernel
theorem wd12 : Cond.initialized "java/lang/Math" ∈ GG := GG_t 12 rfl rfl
theorem wd14 : Cond.initialized "RationalForms$Places" ∈ GG := GG_t 14 rfl rfl
theorem wd187 : Cond.methodLink "RationalForms$Places" 9 yP_orderOf ∈ GG := GG_t 187 rfl rfl
theorem wd188 : Cond.static yP_orderOf ∈ GG := GG_t 188 rfl rfl
theorem wd189 : Cond.code yP_orderOf cP_orderOf 6 (some .int) ∈ GG := GG_t 189 rfl rfl
theorem wd190 : Cond.methodLink "RationalForms$Places" 15 yP_unitOf ∈ GG := GG_t 190 rfl rfl
theorem wd191 : Cond.static yP_unitOf ∈ GG := GG_t 191 rfl rfl
theorem wd192 : Cond.code yP_unitOf cP_unitOf 5 (some .int) ∈ GG := GG_t 192 rfl rfl
theorem wd193 : Cond.methodLink "RationalForms$Places" 32 yW_withoutFactor ∈ GG := GG_t 193 rfl rfl
theorem wd194 : Cond.constantLong "RationalForms$Places" 36 (8) ∈ GG := GG_t 194 rfl rfl
theorem wd195 : Cond.methodLink "RationalForms$Places" 38 yJ_floorMod ∈ GG := GG_t 195 rfl rfl
theorem wd196 : Cond.static yJ_floorMod ∈ GG := GG_t 196 rfl rfl
theorem wd197 : Cond.code yJ_floorMod cJ_floorMod 6 (some .long) ∈ GG := GG_t 197 rfl rfl
theorem wd198 : Cond.methodLink "RationalForms$Places" 18 yP_symbolAtTwo ∈ GG := GG_t 198 rfl rfl
theorem wd199 : Cond.static yP_symbolAtTwo ∈ GG := GG_t 199 rfl rfl
theorem wd200 : Cond.code yP_symbolAtTwo cP_symbolAtTwo 5 (some .int) ∈ GG := GG_t 200 rfl rfl
theorem wd201 : Cond.methodLink "RationalForms$Places" 22 yP_symbolAtOdd ∈ GG := GG_t 201 rfl rfl
theorem wd202 : Cond.static yP_symbolAtOdd ∈ GG := GG_t 202 rfl rfl
theorem wd203 : Cond.code yP_symbolAtOdd cP_symbolAtOdd 6 (some .int) ∈ GG := GG_t 203 rfl rfl
theorem wd204 : Cond.methodLink "RationalForms$Places" 26 yP_isRemainder ∈ GG := GG_t 204 rfl rfl
theorem wd205 : Cond.static yP_isRemainder ∈ GG := GG_t 205 rfl rfl
theorem wd206 : Cond.code yP_isRemainder cP_isRemainder 8 (some .boolean) ∈ GG := GG_t 206 rfl rfl
set_option maxRecDepth 100000 in
set_option maxHeartbeats 4000000 in
theorem kJ_floorMod (l : Launch) (x y : Int) (h1 : b64 x) (h2 : b64 y) (h3 : 0 < y) : PM l yJ_floorMod wsJ_floorMod (rmd 0) [.long (jl x), .long (jl y)] (fun r => r = .long (jl (x % y))) := by
  refine PM.ofG (by decide +kernel) (Nat.le_of_ble_eq_true rfl) ?_
  intro p_ e_ s_ m_ a_ b_ t_ c_ hx hb hml hr hk hg hown ls hl
  have hl : lv_has ls 6 [(0, .long (jl x)), (2, .long (jl y))] := hl
  refine lv_lload_n hx hb dJ_floorMod_0 rfl (lv_at hl 0 rfl) ?_
  refine lv_lload_n hx hb dJ_floorMod_1 rfl (lv_at hl 1 rfl) ?_
  refine j_lrem hx hb (by omega) (by omega) (by omega) dJ_floorMod_2 ?_
  refine lv_lstore hx hb dJ_floorMod_3 hl (by decide) rfl (fun ls hl => ?_)
  have hl : lv_has ls 6 [(4, .long (jl (x.tmod y))), (0, .long (jl x)), (2, .long (jl y))] := hl
  refine lv_lload_n hx hb dJ_floorMod_5 rfl (lv_at hl 1 rfl) ?_
  refine lv_lload_n hx hb dJ_floorMod_6 rfl (lv_at hl 2 rfl) ?_
  refine j_xge hx hb (by omega) (by omega) (by omega) dJ_floorMod_7 dJ_floorMod_8 dJ_floorMod_9 dJ_floorMod_10 rfl (fun h4 => ?_) (fun h4 => ?_)
  · refine lv_lload hx hb dJ_floorMod_25 (lv_at hl 0 rfl) ?_
    exact pm_lret hx hb hr hk dJ_floorMod_27 (by rw [tm_nn h4])
  · refine lv_lload hx hb dJ_floorMod_13 (lv_at hl 0 rfl) ?_
    refine j_lconst0 hx hb dJ_floorMod_15 ?_
    refine j_lc_eq hx hb (tm_b64 h1) (by decide) dJ_floorMod_16 dJ_floorMod_17 rfl (fun h5 => ?_) (fun h5 => ?_)
    · refine lv_lload hx hb dJ_floorMod_25 (lv_at hl 0 rfl) ?_
      exact pm_lret hx hb hr hk dJ_floorMod_27 (by rw [h5, mod0_of_tm h5])
    · refine lv_lload hx hb dJ_floorMod_20 (lv_at hl 0 rfl) ?_
      refine lv_lload_n hx hb dJ_floorMod_22 rfl (lv_at hl 2 rfl) ?_
      refine j_ladd hx hb dJ_floorMod_23 ?_
      exact pm_lret hx hb hr hk dJ_floorMod_24 (by rw [fm_neg h4 h3 h5])

set_option maxRecDepth 100000 in
set_option maxHeartbeats 4000000 in
theorem kP_orderOf (l : Launch) (a p : Int) (ha : b64 a) (hp : 1 < p) (hp2 : p ≤ 2147483647) : PM l yP_orderOf wsP_orderOf (rmd 0) [.long (jl a), .int (ji p)] (fun r => r = .int (ji (od 64 a p : Int))) := by
  refine PM.ofG (by decide +kernel) (Nat.le_of_ble_eq_true rfl) ?_
  intro p_ e_ s_ m_ a_ b_ t_ c_ hx hb hml hr hk hg hown ls hl
  have hl : lv_has ls 6 [(0, .long (jl a)), (2, .int (ji p))] := hl
  have loop : ∀ (n : Nat) (k r : Int) (ls : Array Slot), k + n = 64 → 0 ≤ k → b64 r → k + (od n r p : Int) = (od 64 a p : Int) → lv_has ls 6 [(5, .int (ji k)), (3, .long (jl r)), (0, .long (jl a)), (2, .int (ji p))] → W p_ l e_ (rmd 0) s_ m_ a_ b_ t_ c_ s_.heap [] 0 0 (XQ b_ (pmQ (fun r => r = .int (ji (od 64 a p : Int)))) a_ s_ 0 0 (fun _ => False)) (F0 m_ 5 ls []) := by
    intro n
    induction n with
    | zero =>
      intro k r ls h0 hk0 hr0 hw hl
      refine lv_iload hx hb dP_orderOf_5 (lv_at hl 0 rfl) ?_
      refine j_bipush hx hb dP_orderOf_7 rfl ?_
      refine j_icmp_ge hx hb (by omega) (by omega) dP_orderOf_9 rfl (fun h1 => ?_) (fun h1 => ?_)
      · refine lv_iload hx hb dP_orderOf_32 (lv_at hl 0 rfl) ?_
        exact pm_iret hx hb hr hk dP_orderOf_34 (by rw [← hw]; simp [od])
      · omega
    | succ n ih =>
      intro k r ls h0 hk0 hr0 hw hl
      have hod : od (n + 1) r p = if p ∣ r then od n (r / p) p + 1 else 0 := rfl
      refine lv_iload hx hb dP_orderOf_5 (lv_at hl 0 rfl) ?_
      refine j_bipush hx hb dP_orderOf_7 rfl ?_
      refine j_icmp_ge hx hb (by omega) (by omega) dP_orderOf_9 rfl (fun h1 => ?_) (fun h1 => ?_)
      · omega
      · refine lv_lload_n hx hb dP_orderOf_12 rfl (lv_at hl 1 rfl) ?_
        refine lv_iload_n hx hb dP_orderOf_13 rfl (lv_at hl 3 rfl) ?_
        refine j_i2l hx hb (by omega) dP_orderOf_14 ?_
        refine j_lrem hx hb (by omega) (by omega) (by omega) dP_orderOf_15 ?_
        refine j_lconst0 hx hb dP_orderOf_16 ?_
        refine j_lc_ne hx hb (tm_b64 hr0) (by decide) dP_orderOf_17 dP_orderOf_18 rfl (fun h2 => ?_) (fun h2 => ?_)
        · have hn : ¬ p ∣ r := fun q => h2 (tm_0.mpr q)
          rw [hod, if_neg hn] at hw
          refine lv_iload hx hb dP_orderOf_32 (lv_at hl 0 rfl) ?_
          exact pm_iret hx hb hr hk dP_orderOf_34 (by rw [← hw]; simp)
        · have hn : p ∣ r := tm_0.mp h2
          rw [hod, if_pos hn] at hw
          refine lv_lload_n hx hb dP_orderOf_21 rfl (lv_at hl 1 rfl) ?_
          refine lv_iload_n hx hb dP_orderOf_22 rfl (lv_at hl 3 rfl) ?_
          refine j_i2l hx hb (by omega) dP_orderOf_23 ?_
          refine j_ldiv hx hb (by omega) (by omega) (by omega) dP_orderOf_24 ?_
          refine lv_lstore_n hx hb dP_orderOf_25 rfl hl (by decide) rfl (fun ls hl => ?_)
          have hl : lv_has ls 6 [(3, .long (jl (r.tdiv p))), (5, .int (ji k)), (0, .long (jl a)), (2, .int (ji p))] := hl
          refine lv_iinc (k := 1) (v := ji (k + 1)) hx hb dP_orderOf_26 hl rfl (Int32.ofInt_add _ _).symm (by decide) rfl (fun ls hl => ?_)
          have hl : lv_has ls 6 [(5, .int (ji (k + 1))), (3, .long (jl (r.tdiv p))), (0, .long (jl a)), (2, .int (ji p))] := hl
          refine lv_goto hx hb dP_orderOf_29 rfl ?_
          have e1 : r.tdiv p = r / p := td_e hn
          rw [e1] at hl
          exact ih (k + 1) (r / p) ls (by omega) (by omega) (div_b64 hr0 hp) (by omega) hl
  refine lv_lload_n hx hb dP_orderOf_0 rfl (lv_at hl 0 rfl) ?_
  refine lv_lstore_n hx hb dP_orderOf_1 rfl hl (by decide) rfl (fun ls hl => ?_)
  have hl : lv_has ls 6 [(3, .long (jl a)), (0, .long (jl a)), (2, .int (ji p))] := hl
  refine j_iconst hx hb dP_orderOf_2 ?_
  refine lv_istore hx hb dP_orderOf_3 hl (by decide) rfl (fun ls hl => ?_)
  have hl : lv_has ls 6 [(5, .int (ji 0)), (3, .long (jl a)), (0, .long (jl a)), (2, .int (ji p))] := hl
  exact loop 64 0 a ls (by omega) (by omega) ha (by omega) hl

set_option maxRecDepth 100000 in
set_option maxHeartbeats 4000000 in
theorem kP_unitOf (l : Launch) (a p : Int) (ha : b64 a) (hp : 1 < p) (hp2 : p ≤ 2147483647) : PM l yP_unitOf wsP_unitOf (rmd 1) [.long (jl a), .int (ji p)] (fun r => r = .int (ji (un a p))) := by
  refine PM.ofG (by decide +kernel) (Nat.le_of_ble_eq_true rfl) ?_
  intro p_ e_ s_ m_ a_ b_ t_ c_ hx hb hml hr hk hg hown ls hl
  have hl : lv_has ls 5 [(0, .long (jl a)), (2, .int (ji p))] := hl
  have hw : b64 (wo 64 a p) := by
    have h1 := Int.natAbs_dvd_natAbs.mpr (wo_dvd 64 a p)
    have h2 := wo_sgn 64 a p (by omega)
    by_cases h0 : a = 0
    · have h3 : wo 64 a p = 0 := by
        have h4 : ¬ 0 < wo 64 a p := fun q => by have := h2.1.mpr q; omega
        have h5 : ¬ wo 64 a p < 0 := fun q => by have := h2.2.mpr q; omega
        omega
      rw [h3]; decide
    · have h3 := Nat.le_of_dvd (by omega) h1
      omega
  refine lv_lload_n hx hb dP_unitOf_0 rfl (lv_at hl 0 rfl) ?_
  refine lv_iload_n hx hb dP_unitOf_1 rfl (lv_at hl 1 rfl) ?_
  refine j_i2l hx hb (by omega) dP_unitOf_2 ?_
  refine pm_G (As := [.long (jl a), .long (jl p)]) (rest := []) hx hb hml hown hg hl (kW_withoutFactor l a p ha hp (by omega)) wd193 wd153 wd11 wd154 ⟨rfl, rfl⟩ (n := 2) (by decide +kernel) rfl ⟨by decide, by decide⟩ rfl (Nat.le_of_ble_eq_true rfl) dP_unitOf_3 ⟨Nat.zero_le _, Nat.zero_le _⟩ (fun r hr9 => ?_)
  subst hr9
  refine lv_lstore_n hx hb dP_unitOf_6 rfl hl (by decide) rfl (fun ls hl => ?_)
  have hl : lv_has ls 5 [(3, .long (jl (wo 64 a p))), (0, .long (jl a)), (2, .int (ji p))] := hl
  refine lv_lload_n hx hb dP_unitOf_7 rfl (lv_at hl 0 rfl) ?_
  refine lv_iload_n hx hb dP_unitOf_8 rfl (lv_at hl 2 rfl) ?_
  refine j_iconst hx hb dP_unitOf_9 ?_
  refine j_icmp_ne hx hb (by omega) (by omega) dP_unitOf_10 rfl (fun h1 => ?_) (fun h1 => ?_)
  · refine lv_iload_n hx hb dP_unitOf_19 rfl (lv_at hl 2 rfl) ?_
    refine j_i2l hx hb (by omega) dP_unitOf_20 ?_
    refine pm_G (As := [.long (jl (wo 64 a p)), .long (jl p)]) (rest := []) hx hb hml hown hg hl (kJ_floorMod l (wo 64 a p) p hw (by omega) (by omega)) wd195 wd196 wd12 wd197 ⟨rfl, rfl⟩ (n := 2) (by decide +kernel) rfl ⟨by decide, by decide⟩ rfl (Nat.le_of_ble_eq_true rfl) dP_unitOf_21 ⟨Nat.zero_le _, Nat.zero_le _⟩ (fun r hr9 => ?_)
    subst hr9
    refine j_l2i hx hb dP_unitOf_24 ?_
    exact pm_iret hx hb hr hk dP_unitOf_25 (by rw [un, um, if_neg h1])
  · refine j_ldc2 (z := 8) hx hb hown hg wd194 rfl dP_unitOf_13 ?_
    refine lv_goto hx hb dP_unitOf_16 rfl ?_
    refine pm_G (As := [.long (jl (wo 64 a p)), .long (jl 8)]) (rest := []) hx hb hml hown hg hl (kJ_floorMod l (wo 64 a p) 8 hw (by decide) (by decide)) wd195 wd196 wd12 wd197 ⟨rfl, rfl⟩ (n := 2) (by decide +kernel) rfl ⟨by decide, by decide⟩ rfl (Nat.le_of_ble_eq_true rfl) dP_unitOf_21 ⟨Nat.zero_le _, Nat.zero_le _⟩ (fun r hr9 => ?_)
    subst hr9
    refine j_l2i hx hb dP_unitOf_24 ?_
    exact pm_iret hx hb hr hk dP_unitOf_25 (by rw [un, um, if_pos h1])

set_option maxRecDepth 100000 in
set_option maxHeartbeats 4000000 in
theorem kP_isRemainder (l : Launch) (u p : Nat) (hu : u < p) (hp : 1 < p) (hp2 : p ≤ 2147483647) : PM l yP_isRemainder wsP_isRemainder (rmd 0) [.int (ji ((u:Int))), .int (ji ((p:Int)))] (fun r => r = .int (ji (bi (qr u p)))) := by
  refine PM.ofG (by decide +kernel) (Nat.le_of_ble_eq_true rfl) ?_
  intro p_ e_ s_ m_ a_ b_ t_ c_ hx hb hml hr hk hg hown ls hl
  have hl : lv_has ls 8 [(0, .int (ji ((u:Int)))), (1, .int (ji ((p:Int))))] := hl
  have loop : ∀ (n k : Nat) (ls : Array Slot), k + n = 31 → lv_has ls 8 [(7, .int (ji ((k:Int)))), (5, .long (jl (((u^2^k%p:Nat):Int)))), (3, .long (jl (((u^((p-1)/2%2^k)%p:Nat):Int)))), (2, .int (ji ((((p-1)/2:Nat):Int)))), (0, .int (ji ((u:Int)))), (1, .int (ji ((p:Int))))] → W p_ l e_ (rmd 0) s_ m_ a_ b_ t_ c_ s_.heap [] 0 0 (XQ b_ (pmQ (fun r => r = .int (ji (bi (qr u p))))) a_ s_ 0 0 (fun _ => False)) (F0 m_ 15 ls []) := by
    intro n
    induction n with
    | zero =>
      intro k ls h0 hl
      have hk0 : k = 31 := by omega
      subst hk0
      have e9 : (p - 1) / 2 % 2 ^ 31 = (p - 1) / 2 := Nat.mod_eq_of_lt (by omega)
      rw [e9] at hl
      have hlt := Nat.mod_lt (u ^ ((p - 1) / 2)) (show 0 < p by omega)
      generalize hX : u ^ ((p - 1) / 2) % p = X at hl hlt
      refine lv_iload hx hb dP_isRemainder_15 (lv_at hl 0 rfl) ?_
      refine j_bipush hx hb dP_isRemainder_17 rfl ?_
      refine j_icmp_ge hx hb (by omega) (by decide) dP_isRemainder_19 rfl (fun h1 => ?_) (fun h1 => ?_)
      · refine lv_lload_n hx hb dP_isRemainder_56 rfl (lv_at hl 2 rfl) ?_
        refine j_lconst1 hx hb dP_isRemainder_57 ?_
        refine j_lc_ne hx hb (by omega) (by decide) dP_isRemainder_58 dP_isRemainder_59 rfl (fun h2 => ?_) (fun h2 => ?_)
        · have hq : ¬ qr u p := fun q => h2 (by rw [qr, hX] at q; omega)
          refine j_iconst hx hb dP_isRemainder_66 ?_
          exact pm_zret hx hb hr hk dP_isRemainder_67 nar_0 (by rw [bi_f hq])
        · have hq : qr u p := by rw [qr, hX]; omega
          refine j_iconst hx hb dP_isRemainder_62 ?_
          refine lv_goto hx hb dP_isRemainder_63 rfl ?_
          exact pm_zret hx hb hr hk dP_isRemainder_67 nar_1 (by rw [bi_t hq])
      · omega
    | succ n ih =>
      intro k ls h0 hl
      have hs := Nat.mod_lt (u ^ 2 ^ k) (show 0 < p by omega)
      have hw := Nat.mod_lt (u ^ ((p - 1) / 2 % 2 ^ k)) (show 0 < p by omega)
      have hd := pw_dbl u k p
      have hb1 := @pw_bit1 u ((p - 1) / 2) k p
      have hb0 := @pw_bit0 ((p - 1) / 2) k
      have hih := ih (k + 1)
      generalize u ^ 2 ^ k % p = S at *
      generalize u ^ 2 ^ (k + 1) % p = S2 at *
      generalize hE : (p - 1) / 2 = E at *
      have hss : S * S < 4611686018427387904 := by
        have : S * S ≤ 2147483647 * 2147483647 := Nat.mul_le_mul (by omega) (by omega)
        omega
      refine lv_iload hx hb dP_isRemainder_15 (lv_at hl 0 rfl) ?_
      refine j_bipush hx hb dP_isRemainder_17 rfl ?_
      refine j_icmp_ge hx hb (by omega) (by decide) dP_isRemainder_19 rfl (fun h1 => ?_) (fun h1 => ?_)
      · omega
      · refine lv_iload_n hx hb dP_isRemainder_22 rfl (lv_at hl 3 rfl) ?_
        refine lv_iload hx hb dP_isRemainder_23 (lv_at hl 0 rfl) ?_
        refine j_ishr hx hb (by omega) (by omega) dP_isRemainder_25 ?_
        have hq := Nat.div_le_self E (2 ^ k)
        refine j_iconst hx hb dP_isRemainder_26 ?_
        refine j_irem hx hb (dv_b32 (by omega)) (by decide) (by decide) dP_isRemainder_27 ?_
        refine j_iconst hx hb dP_isRemainder_28 ?_
        have e2 : ((E / 2 ^ k : Nat) : Int).tmod 2 = ((E / 2 ^ k % 2 : Nat) : Int) := tm_nat _ 2
        refine j_icmp_ne hx hb (tm_b32 (dv_b32 (by omega))) (by decide) dP_isRemainder_29 rfl (fun h2 => ?_) (fun h2 => ?_)
        · rw [e2] at h2
          have e3 := hb0 (by omega)
          rw [e3] at hih
          have e4 : ((S : Int) * (S : Int)).tmod (p : Int) = (S2 : Int) := by rw [← Int.natCast_mul, tm_nat, hd]
          refine lv_lload hx hb dP_isRemainder_40 (lv_at hl 1 rfl) ?_
          refine lv_lload hx hb dP_isRemainder_42 (lv_at hl 1 rfl) ?_
          refine j_lmul hx hb dP_isRemainder_44 ?_
          refine lv_iload_n hx hb dP_isRemainder_45 rfl (lv_at hl 5 rfl) ?_
          refine j_i2l hx hb (by omega) dP_isRemainder_46 ?_
          refine j_lrem hx hb (by omega) (by omega) (by omega) dP_isRemainder_47 ?_
          refine lv_lstore hx hb dP_isRemainder_48 hl (by decide) rfl (fun ls hl => ?_)
          have hl : lv_has ls 8 [(5, .long (jl ((((S:Int)) * ((S:Int))).tmod ((p:Int))))), (7, .int (ji ((k:Int)))), (3, .long (jl (((u^(E%2^k)%p:Nat):Int)))), (2, .int (ji ((E:Int)))), (0, .int (ji ((u:Int)))), (1, .int (ji ((p:Int))))] := hl
          refine lv_iinc (k := 1) (v := ji (((k:Int)) + 1)) hx hb dP_isRemainder_50 hl rfl (Int32.ofInt_add _ _).symm (by decide) rfl (fun ls hl => ?_)
          have hl : lv_has ls 8 [(7, .int (ji (((k:Int)) + 1))), (5, .long (jl ((((S:Int)) * ((S:Int))).tmod ((p:Int))))), (3, .long (jl (((u^(E%2^k)%p:Nat):Int)))), (2, .int (ji ((E:Int)))), (0, .int (ji ((u:Int)))), (1, .int (ji ((p:Int))))] := hl
          refine lv_goto hx hb dP_isRemainder_53 rfl ?_
          rw [e4] at hl
          exact hih ls (by omega) (lv_sub hl [0, 1, 2, 3, 4, 5] rfl)
        · rw [e2] at h2
          have e3 := hb1 (by omega)
          rw [← e3] at hih
          generalize u ^ (E % 2 ^ k) % p = X at *
          have hxs : X * S < 4611686018427387904 := by
            have : X * S ≤ 2147483647 * 2147483647 := Nat.mul_le_mul (by omega) (by omega)
            omega
          have e4 : ((S : Int) * (S : Int)).tmod (p : Int) = (S2 : Int) := by rw [← Int.natCast_mul, tm_nat, hd]
          have e5 : ((X : Int) * (S : Int)).tmod (p : Int) = ((X * S % p : Nat) : Int) := by rw [← Int.natCast_mul, tm_nat]
          have hss' : (S : Int) * (S : Int) = ((S * S : Nat) : Int) := (Int.natCast_mul S S).symm
          have hxs' : (X : Int) * (S : Int) = ((X * S : Nat) : Int) := (Int.natCast_mul X S).symm
          refine lv_lload_n hx hb dP_isRemainder_32 rfl (lv_at hl 2 rfl) ?_
          refine lv_lload hx hb dP_isRemainder_33 (lv_at hl 1 rfl) ?_
          refine j_lmul hx hb dP_isRemainder_35 ?_
          refine lv_iload_n hx hb dP_isRemainder_36 rfl (lv_at hl 5 rfl) ?_
          refine j_i2l hx hb (by omega) dP_isRemainder_37 ?_
          refine j_lrem hx hb (by omega) (by omega) (by omega) dP_isRemainder_38 ?_
          refine lv_lstore_n hx hb dP_isRemainder_39 rfl hl (by decide) rfl (fun ls hl => ?_)
          have hl : lv_has ls 8 [(3, .long (jl ((((X:Int)) * ((S:Int))).tmod ((p:Int))))), (7, .int (ji ((k:Int)))), (5, .long (jl ((S:Int)))), (2, .int (ji ((E:Int)))), (0, .int (ji ((u:Int)))), (1, .int (ji ((p:Int))))] := hl
          refine lv_lload hx hb dP_isRemainder_40 (lv_at hl 2 rfl) ?_
          refine lv_lload hx hb dP_isRemainder_42 (lv_at hl 2 rfl) ?_
          refine j_lmul hx hb dP_isRemainder_44 ?_
          refine lv_iload_n hx hb dP_isRemainder_45 rfl (lv_at hl 5 rfl) ?_
          refine j_i2l hx hb (by omega) dP_isRemainder_46 ?_
          refine j_lrem hx hb (by omega) (by omega) (by omega) dP_isRemainder_47 ?_
          refine lv_lstore hx hb dP_isRemainder_48 hl (by decide) rfl (fun ls hl => ?_)
          have hl : lv_has ls 8 [(5, .long (jl ((((S:Int)) * ((S:Int))).tmod ((p:Int))))), (3, .long (jl ((((X:Int)) * ((S:Int))).tmod ((p:Int))))), (7, .int (ji ((k:Int)))), (2, .int (ji ((E:Int)))), (0, .int (ji ((u:Int)))), (1, .int (ji ((p:Int))))] := hl
          refine lv_iinc (k := 2) (v := ji (((k:Int)) + 1)) hx hb dP_isRemainder_50 hl rfl (Int32.ofInt_add _ _).symm (by decide) rfl (fun ls hl => ?_)
          have hl : lv_has ls 8 [(7, .int (ji (((k:Int)) + 1))), (5, .long (jl ((((S:Int)) * ((S:Int))).tmod ((p:Int))))), (3, .long (jl ((((X:Int)) * ((S:Int))).tmod ((p:Int))))), (2, .int (ji ((E:Int)))), (0, .int (ji ((u:Int)))), (1, .int (ji ((p:Int))))] := hl
          refine lv_goto hx hb dP_isRemainder_53 rfl ?_
          rw [e4, e5] at hl
          exact hih ls (by omega) (lv_sub hl [0, 1, 2, 3, 4, 5] rfl)
  have e1 : ((p : Int) - 1).tdiv 2 = (((p - 1) / 2 : Nat) : Int) := by rw [show (p : Int) - 1 = ((p - 1 : Nat) : Int) by omega]; exact td_nat (p - 1) 2
  refine lv_iload_n hx hb dP_isRemainder_0 rfl (lv_at hl 1 rfl) ?_
  refine j_iconst hx hb dP_isRemainder_1 ?_
  refine j_isub hx hb dP_isRemainder_2 ?_
  refine j_iconst hx hb dP_isRemainder_3 ?_
  refine j_idiv hx hb (by omega) (by decide) (by decide) dP_isRemainder_4 ?_
  refine lv_istore_n hx hb dP_isRemainder_5 rfl hl (by decide) rfl (fun ls hl => ?_)
  have hl : lv_has ls 8 [(2, .int (ji ((((p:Int)) - 1).tdiv 2))), (0, .int (ji ((u:Int)))), (1, .int (ji ((p:Int))))] := hl
  refine j_lconst1 hx hb dP_isRemainder_6 ?_
  refine lv_lstore_n hx hb dP_isRemainder_7 rfl hl (by decide) rfl (fun ls hl => ?_)
  have hl : lv_has ls 8 [(3, .long (jl 1)), (2, .int (ji ((((p:Int)) - 1).tdiv 2))), (0, .int (ji ((u:Int)))), (1, .int (ji ((p:Int))))] := hl
  refine lv_iload_n hx hb dP_isRemainder_8 rfl (lv_at hl 2 rfl) ?_
  refine j_i2l hx hb (by omega) dP_isRemainder_9 ?_
  refine lv_lstore hx hb dP_isRemainder_10 hl (by decide) rfl (fun ls hl => ?_)
  have hl : lv_has ls 8 [(5, .long (jl ((u:Int)))), (3, .long (jl 1)), (2, .int (ji ((((p:Int)) - 1).tdiv 2))), (0, .int (ji ((u:Int)))), (1, .int (ji ((p:Int))))] := hl
  refine j_iconst hx hb dP_isRemainder_12 ?_
  refine lv_istore hx hb dP_isRemainder_13 hl (by decide) rfl (fun ls hl => ?_)
  have hl : lv_has ls 8 [(7, .int (ji 0)), (5, .long (jl ((u:Int)))), (3, .long (jl 1)), (2, .int (ji ((((p:Int)) - 1).tdiv 2))), (0, .int (ji ((u:Int)))), (1, .int (ji ((p:Int))))] := hl
  rw [e1] at hl
  have e2 : u ^ 2 ^ 0 % p = u := by rw [Nat.pow_zero, Nat.pow_one]; exact Nat.mod_eq_of_lt hu
  have e3 : u ^ ((p - 1) / 2 % 2 ^ 0) % p = 1 := by rw [Nat.pow_zero, Nat.mod_one, Nat.pow_zero]; exact Nat.mod_eq_of_lt hp
  refine loop 31 0 ls (by omega) ?_
  rw [e2, e3]
  exact hl

set_option maxRecDepth 100000 in
set_option maxHeartbeats 4000000 in
theorem kP_symbolAtTwo (l : Launch) (e9 f9 u w : Int) (he : 0 ≤ e9 ∧ e9 ≤ 1) (hf : 0 ≤ f9 ∧ f9 ≤ 1) (hu : 1 ≤ u ∧ u ≤ 7) (hw : 1 ≤ w ∧ w ≤ 7) : PM l yP_symbolAtTwo wsP_symbolAtTwo (rmd 0) [.int (ji e9), .int (ji f9), .int (ji u), .int (ji w)] (fun r => r = .int (ji (s2 e9 f9 u w))) := by
  refine PM.ofG (by decide +kernel) (Nat.le_of_ble_eq_true rfl) ?_
  intro p_ e_ s_ m_ a_ b_ t_ c_ hx hb hml hr hk hg hown ls hl
  have hl : lv_has ls 5 [(0, .int (ji e9)), (1, .int (ji f9)), (2, .int (ji u)), (3, .int (ji w))] := hl
  obtain ⟨hA, hB, hC⟩ := s2_all he hf hu hw
  have hww : 1 ≤ w * w ∧ w * w ≤ 49 := ⟨by have := Int.mul_le_mul hw.1 hw.1 (by decide) (by omega); omega, by have := Int.mul_le_mul hw.2 hw.2 (by omega) (by decide); omega⟩
  have huu : 1 ≤ u * u ∧ u * u ≤ 49 := ⟨by have := Int.mul_le_mul hu.1 hu.1 (by decide) (by omega); omega, by have := Int.mul_le_mul hu.2 hu.2 (by omega) (by decide); omega⟩
  refine lv_iload_n hx hb dP_symbolAtTwo_0 rfl (lv_at hl 2 rfl) ?_
  refine j_iconst hx hb dP_symbolAtTwo_1 ?_
  refine j_isub hx hb dP_symbolAtTwo_2 ?_
  refine j_iconst hx hb dP_symbolAtTwo_3 ?_
  refine j_idiv hx hb (by omega) (by omega) (by omega) dP_symbolAtTwo_4 ?_
  refine lv_iload_n hx hb dP_symbolAtTwo_5 rfl (lv_at hl 3 rfl) ?_
  refine j_iconst hx hb dP_symbolAtTwo_6 ?_
  refine j_isub hx hb dP_symbolAtTwo_7 ?_
  refine j_iconst hx hb dP_symbolAtTwo_8 ?_
  refine j_idiv hx hb (by omega) (by omega) (by omega) dP_symbolAtTwo_9 ?_
  refine j_imul hx hb dP_symbolAtTwo_10 ?_
  refine lv_iload_n hx hb dP_symbolAtTwo_11 rfl (lv_at hl 0 rfl) ?_
  refine lv_iload_n hx hb dP_symbolAtTwo_12 rfl (lv_at hl 3 rfl) ?_
  refine lv_iload_n hx hb dP_symbolAtTwo_13 rfl (lv_at hl 3 rfl) ?_
  refine j_imul hx hb dP_symbolAtTwo_14 ?_
  refine j_iconst hx hb dP_symbolAtTwo_15 ?_
  refine j_isub hx hb dP_symbolAtTwo_16 ?_
  refine j_bipush hx hb dP_symbolAtTwo_17 rfl ?_
  refine j_idiv hx hb (by omega) (by omega) (by omega) dP_symbolAtTwo_19 ?_
  refine j_imul hx hb dP_symbolAtTwo_20 ?_
  refine j_iadd hx hb dP_symbolAtTwo_21 ?_
  refine lv_iload_n hx hb dP_symbolAtTwo_22 rfl (lv_at hl 1 rfl) ?_
  refine lv_iload_n hx hb dP_symbolAtTwo_23 rfl (lv_at hl 2 rfl) ?_
  refine lv_iload_n hx hb dP_symbolAtTwo_24 rfl (lv_at hl 2 rfl) ?_
  refine j_imul hx hb dP_symbolAtTwo_25 ?_
  refine j_iconst hx hb dP_symbolAtTwo_26 ?_
  refine j_isub hx hb dP_symbolAtTwo_27 ?_
  refine j_bipush hx hb dP_symbolAtTwo_28 rfl ?_
  refine j_idiv hx hb (by omega) (by omega) (by omega) dP_symbolAtTwo_30 ?_
  refine j_imul hx hb dP_symbolAtTwo_31 ?_
  refine j_iadd hx hb dP_symbolAtTwo_32 ?_
  refine lv_istore hx hb dP_symbolAtTwo_33 hl (by decide) rfl (fun ls hl => ?_)
  have hl : lv_has ls 5 [(4, .int (ji (((((u - 1).tdiv 2) * ((w - 1).tdiv 2)) + (e9 * (((w * w) - 1).tdiv 8))) + (f9 * (((u * u) - 1).tdiv 8))))), (0, .int (ji e9)), (1, .int (ji f9)), (2, .int (ji u)), (3, .int (ji w))] := hl
  rw [hA] at hl
  have hs : s2 e9 f9 u w = if ((u - 1) / 2 * ((w - 1) / 2) + e9 * ((w * w - 1) / 8) + f9 * ((u * u - 1) / 8)) % 2 = 0 then 1 else -1 := rfl
  generalize (u - 1) / 2 * ((w - 1) / 2) + e9 * ((w * w - 1) / 8) + f9 * ((u * u - 1) / 8) = Z at *
  refine lv_iload hx hb dP_symbolAtTwo_35 (lv_at hl 0 rfl) ?_
  refine j_iconst hx hb dP_symbolAtTwo_37 ?_
  refine j_irem hx hb (by omega) (by omega) (by omega) dP_symbolAtTwo_38 ?_
  refine j_if_ne hx hb (tm_b32 (by omega)) dP_symbolAtTwo_39 rfl (fun h1 => ?_) (fun h1 => ?_)
  · rw [tm_nn hB] at h1
    rw [if_neg h1] at hs
    refine j_iconst hx hb dP_symbolAtTwo_46 ?_
    exact pm_iret hx hb hr hk dP_symbolAtTwo_47 (by rw [hs])
  · rw [tm_nn hB] at h1
    rw [if_pos h1] at hs
    refine j_iconst hx hb dP_symbolAtTwo_42 ?_
    refine lv_goto hx hb dP_symbolAtTwo_43 rfl ?_
    exact pm_iret hx hb hr hk dP_symbolAtTwo_47 (by rw [hs])

set_option maxRecDepth 100000 in
set_option maxHeartbeats 4000000 in
theorem kP_symbolAtOdd (l : Launch) (e9 f9 : Int) (u w p9 : Nat) (he : 0 ≤ e9 ∧ e9 ≤ 1) (hf : 0 ≤ f9 ∧ f9 ≤ 1) (hu : u < p9) (hw : w < p9) (hp : 1 < p9) (hp2 : p9 ≤ 2147483647) : PM l yP_symbolAtOdd wsP_symbolAtOdd (rmd 1) [.int (ji e9), .int (ji f9), .int (ji ((u:Int))), .int (ji ((w:Int))), .int (ji ((p9:Int)))] (fun r => r = .int (ji (so e9 f9 u w p9))) := by
  refine PM.ofG (by decide +kernel) (Nat.le_of_ble_eq_true rfl) ?_
  intro p_ e_ s_ m_ a_ b_ t_ c_ hx hb hml hr hk hg hown ls hl
  have hl : lv_has ls 6 [(0, .int (ji e9)), (1, .int (ji f9)), (2, .int (ji ((u:Int)))), (3, .int (ji ((w:Int)))), (4, .int (ji ((p9:Int))))] := hl
  have hso : so e9 f9 u w p9 = (if e9 * f9 * (((p9 : Int) - 1) / 2) % 2 = 0 then 1 else -1) * (1 - 2 * bi (f9 = 1 ∧ ¬ qr u p9)) * (1 - 2 * bi (e9 = 1 ∧ ¬ qr w p9)) := rfl
  have k60 : ∀ (z : Int) (ls : Array Slot), z = so e9 f9 u w p9 → lv_has ls 6 [(5, .int (ji z)), (0, .int (ji e9)), (1, .int (ji f9)), (2, .int (ji ((u:Int)))), (3, .int (ji ((w:Int)))), (4, .int (ji ((p9:Int))))] → W p_ l e_ (rmd 1) s_ m_ a_ b_ t_ c_ s_.heap [] 0 0 (XQ b_ (pmQ (fun r => r = .int (ji (so e9 f9 u w p9)))) a_ s_ 0 0 (fun _ => False)) (F0 m_ 60 ls []) := by
    intro z ls hz hl
    refine lv_iload hx hb dP_symbolAtOdd_60 (lv_at hl 0 rfl) ?_
    exact pm_iret hx hb hr hk dP_symbolAtOdd_62 (by rw [hz])
  have k41 : ∀ (z : Int) (ls : Array Slot), b32 z → z * (1 - 2 * bi (e9 = 1 ∧ ¬ qr w p9)) = so e9 f9 u w p9 → lv_has ls 6 [(5, .int (ji z)), (0, .int (ji e9)), (1, .int (ji f9)), (2, .int (ji ((u:Int)))), (3, .int (ji ((w:Int)))), (4, .int (ji ((p9:Int))))] → W p_ l e_ (rmd 1) s_ m_ a_ b_ t_ c_ s_.heap [] 0 0 (XQ b_ (pmQ (fun r => r = .int (ji (so e9 f9 u w p9)))) a_ s_ 0 0 (fun _ => False)) (F0 m_ 41 ls []) := by
    intro z ls hb9 hz hl
    refine lv_iload_n hx hb dP_symbolAtOdd_41 rfl (lv_at hl 1 rfl) ?_
    refine j_iconst hx hb dP_symbolAtOdd_42 ?_
    refine j_icmp_ne hx hb (by omega) (by omega) dP_symbolAtOdd_43 rfl (fun h1 => ?_) (fun h1 => ?_)
    · rw [bi_f (fun q => h1 q.1)] at hz
      exact k60 z ls (by omega) hl
    · refine lv_iload_n hx hb dP_symbolAtOdd_46 rfl (lv_at hl 4 rfl) ?_
      refine lv_iload hx hb dP_symbolAtOdd_47 (lv_at hl 5 rfl) ?_
      refine pm_G (As := [.int (ji ((w:Int))), .int (ji ((p9:Int)))]) (rest := []) hx hb hml hown hg hl (kP_isRemainder l w p9 hw hp hp2) wd204 wd205 wd14 wd206 ⟨rfl, rfl⟩ (n := 2) (by decide +kernel) rfl ⟨by decide, by decide⟩ rfl (Nat.le_of_ble_eq_true rfl) dP_symbolAtOdd_49 ⟨Nat.zero_le _, Nat.zero_le _⟩ (fun r hr9 => ?_)
      subst hr9
      refine j_if_ne hx hb (bi_b32 _) dP_symbolAtOdd_52 rfl (fun h2 => ?_) (fun h2 => ?_)
      · rw [bi_f (fun q => q.2 (bi_ne h2))] at hz
        exact k60 z ls (by omega) hl
      · rw [bi_t ⟨h1, bi_eq h2⟩] at hz
        refine lv_iload hx hb dP_symbolAtOdd_55 (lv_at hl 0 rfl) ?_
        refine j_ineg hx hb dP_symbolAtOdd_57 ?_
        refine lv_istore hx hb dP_symbolAtOdd_58 hl (by decide) rfl (fun ls hl => ?_)
        have hl : lv_has ls 6 [(5, .int (ji (-z))), (0, .int (ji e9)), (1, .int (ji f9)), (2, .int (ji ((u:Int)))), (3, .int (ji ((w:Int)))), (4, .int (ji ((p9:Int))))] := hl
        exact k60 (-z) ls (by omega) (lv_sub hl [0, 1, 2, 3, 4, 5] rfl)
  have k22 : ∀ (z : Int) (ls : Array Slot), (z = 1 ∨ z = -1) → z * (1 - 2 * bi (f9 = 1 ∧ ¬ qr u p9)) * (1 - 2 * bi (e9 = 1 ∧ ¬ qr w p9)) = so e9 f9 u w p9 → lv_has ls 6 [(5, .int (ji z)), (0, .int (ji e9)), (1, .int (ji f9)), (2, .int (ji ((u:Int)))), (3, .int (ji ((w:Int)))), (4, .int (ji ((p9:Int))))] → W p_ l e_ (rmd 1) s_ m_ a_ b_ t_ c_ s_.heap [] 0 0 (XQ b_ (pmQ (fun r => r = .int (ji (so e9 f9 u w p9)))) a_ s_ 0 0 (fun _ => False)) (F0 m_ 22 ls []) := by
    intro z ls hb9 hz hl
    refine lv_iload_n hx hb dP_symbolAtOdd_22 rfl (lv_at hl 2 rfl) ?_
    refine j_iconst hx hb dP_symbolAtOdd_23 ?_
    refine j_icmp_ne hx hb (by omega) (by omega) dP_symbolAtOdd_24 rfl (fun h1 => ?_) (fun h1 => ?_)
    · rw [bi_f (fun q => h1 q.1)] at hz
      exact k41 z ls (by omega) (by rw [← hz]; simp) hl
    · refine lv_iload_n hx hb dP_symbolAtOdd_27 rfl (lv_at hl 3 rfl) ?_
      refine lv_iload hx hb dP_symbolAtOdd_28 (lv_at hl 5 rfl) ?_
      refine pm_G (As := [.int (ji ((u:Int))), .int (ji ((p9:Int)))]) (rest := []) hx hb hml hown hg hl (kP_isRemainder l u p9 hu hp hp2) wd204 wd205 wd14 wd206 ⟨rfl, rfl⟩ (n := 2) (by decide +kernel) rfl ⟨by decide, by decide⟩ rfl (Nat.le_of_ble_eq_true rfl) dP_symbolAtOdd_30 ⟨Nat.zero_le _, Nat.zero_le _⟩ (fun r hr9 => ?_)
      subst hr9
      refine j_if_ne hx hb (bi_b32 _) dP_symbolAtOdd_33 rfl (fun h2 => ?_) (fun h2 => ?_)
      · rw [bi_f (fun q => q.2 (bi_ne h2))] at hz
        exact k41 z ls (by omega) (by rw [← hz]; simp) hl
      · rw [bi_t ⟨h1, bi_eq h2⟩] at hz
        refine lv_iload hx hb dP_symbolAtOdd_36 (lv_at hl 0 rfl) ?_
        refine j_ineg hx hb dP_symbolAtOdd_38 ?_
        refine lv_istore hx hb dP_symbolAtOdd_39 hl (by decide) rfl (fun ls hl => ?_)
        have hl : lv_has ls 6 [(5, .int (ji (-z))), (0, .int (ji e9)), (1, .int (ji f9)), (2, .int (ji ((u:Int)))), (3, .int (ji ((w:Int)))), (4, .int (ji ((p9:Int))))] := hl
        exact k41 (-z) ls (by omega) (by rw [← hz]; simp) (lv_sub hl [0, 1, 2, 3, 4, 5] rfl)
  have hef := bit_mul he hf
  have hh : ((p9 : Int) - 1).tdiv 2 = ((p9 : Int) - 1) / 2 := td_nn (by omega)
  have hE := bit_mulb hef (show 0 ≤ ((p9 : Int) - 1) / 2 by omega)
  rw [← hh] at hE hso
  generalize hz : e9 * f9 * ((p9 : Int) - 1).tdiv 2 = Z at hE hso
  refine lv_iload_n hx hb dP_symbolAtOdd_0 rfl (lv_at hl 0 rfl) ?_
  refine lv_iload_n hx hb dP_symbolAtOdd_1 rfl (lv_at hl 1 rfl) ?_
  refine j_imul hx hb dP_symbolAtOdd_2 ?_
  refine lv_iload hx hb dP_symbolAtOdd_3 (lv_at hl 4 rfl) ?_
  refine j_iconst hx hb dP_symbolAtOdd_5 ?_
  refine j_isub hx hb dP_symbolAtOdd_6 ?_
  refine j_iconst hx hb dP_symbolAtOdd_7 ?_
  refine j_idiv hx hb (by omega) (by decide) (by decide) dP_symbolAtOdd_8 ?_
  refine j_imul hx hb dP_symbolAtOdd_9 ?_
  refine W.eq (g2 := F0 m_ 10 ls (.int (ji Z) :: [])) (by rw [hz]) ?_
  refine j_iconst hx hb dP_symbolAtOdd_10 ?_
  refine j_irem hx hb (by omega) (by decide) (by decide) dP_symbolAtOdd_11 ?_
  refine j_if_ne hx hb (tm_b32 (by omega)) dP_symbolAtOdd_12 rfl (fun h1 => ?_) (fun h1 => ?_)
  · rw [tm_nn hE.1] at h1
    rw [if_neg h1] at hso
    refine j_iconst hx hb dP_symbolAtOdd_19 ?_
    refine lv_istore hx hb dP_symbolAtOdd_20 hl (by decide) rfl (fun ls hl => ?_)
    have hl : lv_has ls 6 [(5, .int (ji (-1))), (0, .int (ji e9)), (1, .int (ji f9)), (2, .int (ji ((u:Int)))), (3, .int (ji ((w:Int)))), (4, .int (ji ((p9:Int))))] := hl
    exact k22 (-1) ls (Or.inr rfl) hso.symm hl
  · rw [tm_nn hE.1] at h1
    rw [if_pos h1] at hso
    refine j_iconst hx hb dP_symbolAtOdd_15 ?_
    refine lv_goto hx hb dP_symbolAtOdd_16 rfl ?_
    refine lv_istore hx hb dP_symbolAtOdd_20 hl (by decide) rfl (fun ls hl => ?_)
    have hl : lv_has ls 6 [(5, .int (ji 1)), (0, .int (ji e9)), (1, .int (ji f9)), (2, .int (ji ((u:Int)))), (3, .int (ji ((w:Int)))), (4, .int (ji ((p9:Int))))] := hl
    exact k22 1 ls (Or.inl rfl) hso.symm hl

set_option maxRecDepth 100000 in
set_option maxHeartbeats 4000000 in
theorem kP_isSquare (l : Launch) (a p9 : Int) (ha : b64 a) (h0 : a ≠ 0) (hp : p9 = 0 ∨ (1 < p9 ∧ p9 ≤ 2147483647)) : PM l yP_isSquare wsP_isSquare (rmd 2) [.long (jl a), .int (ji p9)] (fun r => r = .int (ji (bi (sq a p9)))) := by
  refine PM.ofG (by decide +kernel) (Nat.le_of_ble_eq_true rfl) ?_
  intro p_ e_ s_ m_ a_ b_ t_ c_ hx hb hml hr hk hg hown ls hl
  have hl : lv_has ls 4 [(0, .long (jl a)), (2, .int (ji p9))] := hl
  have hsq : sq a p9 = (if p9 = 0 then 0 < a else od 64 a p9 % 2 = 0 ∧ (if p9 = 2 then un a p9 = 1 else qr (un a p9).toNat p9.toNat)) := rfl
  refine lv_iload_n hx hb dP_isSquare_0 rfl (lv_at hl 1 rfl) ?_
  refine j_if_ne hx hb (by omega) dP_isSquare_1 rfl (fun h1 => ?_) (fun h1 => ?_)
  · rw [if_neg h1] at hsq
    refine lv_lload_n hx hb dP_isSquare_16 rfl (lv_at hl 0 rfl) ?_
    refine lv_iload_n hx hb dP_isSquare_17 rfl (lv_at hl 1 rfl) ?_
    refine pm_G (As := [.long (jl a), .int (ji p9)]) (rest := []) hx hb hml hown hg hl (kP_orderOf l a p9 ha (by omega) (by omega)) wd187 wd188 wd14 wd189 ⟨rfl, rfl⟩ (n := 2) (by decide +kernel) rfl ⟨by decide, by decide⟩ rfl (Nat.le_of_ble_eq_true rfl) dP_isSquare_18 ⟨Nat.zero_le _, Nat.zero_le _⟩ (fun r hr9 => ?_)
    subst hr9
    have hod := od_le 64 a p9
    refine j_iconst hx hb dP_isSquare_21 ?_
    refine j_irem hx hb (by have := od_le 64 a p9; omega) (by decide) (by decide) dP_isSquare_22 ?_
    refine j_if_eq hx hb (tm_b32 (by have := od_le 64 a p9; omega)) dP_isSquare_23 rfl (fun h2 => ?_) (fun h2 => ?_)
    · have h3 : od 64 a p9 % 2 = 0 := by
        have := tm_nat (od 64 a p9) 2
        rw [show ((2 : Nat) : Int) = 2 from rfl] at this
        omega
      refine lv_lload_n hx hb dP_isSquare_28 rfl (lv_at hl 0 rfl) ?_
      refine lv_iload_n hx hb dP_isSquare_29 rfl (lv_at hl 1 rfl) ?_
      refine pm_G (As := [.long (jl a), .int (ji p9)]) (rest := []) hx hb hml hown hg hl (kP_unitOf l a p9 ha (by omega) (by omega)) wd190 wd191 wd14 wd192 ⟨rfl, rfl⟩ (n := 2) (by decide +kernel) rfl ⟨by decide, by decide⟩ rfl (Nat.le_of_ble_eq_true rfl) dP_isSquare_30 ⟨Nat.zero_le _, Nat.zero_le _⟩ (fun r hr9 => ?_)
      subst hr9
      have hun := un_lt (a := a) (p := p9) (by omega)
      refine lv_istore_n hx hb dP_isSquare_33 rfl hl (by decide) rfl (fun ls hl => ?_)
      have hl : lv_has ls 4 [(3, .int (ji (un a p9))), (0, .long (jl a)), (2, .int (ji p9))] := hl
      refine lv_iload_n hx hb dP_isSquare_34 rfl (lv_at hl 2 rfl) ?_
      refine j_iconst hx hb dP_isSquare_35 ?_
      refine j_icmp_ne hx hb (by omega) (by omega) dP_isSquare_36 rfl (fun h4 => ?_) (fun h4 => ?_)
      · rw [if_neg h4] at hsq
        have hum : um p9 = p9 := if_neg h4
        obtain ⟨U, hU⟩ := Int.eq_ofNat_of_zero_le hun.1
        obtain ⟨P, rfl⟩ := Int.eq_ofNat_of_zero_le (show 0 ≤ p9 by omega)
        rw [hU] at hl hsq hun
        refine lv_iload_n hx hb dP_isSquare_52 rfl (lv_at hl 0 rfl) ?_
        refine lv_iload_n hx hb dP_isSquare_53 rfl (lv_at hl 2 rfl) ?_
        refine pm_G (As := [.int (ji ((U:Int))), .int (ji ((P:Int)))]) (rest := []) hx hb hml hown hg hl (kP_isRemainder l U P (by omega) (by omega) (by omega)) wd204 wd205 wd14 wd206 ⟨rfl, rfl⟩ (n := 2) (by decide +kernel) rfl ⟨by decide, by decide⟩ rfl (Nat.le_of_ble_eq_true rfl) dP_isSquare_54 ⟨Nat.zero_le _, Nat.zero_le _⟩ (fun r hr9 => ?_)
        subst hr9
        have he : sq a (P : Int) ↔ qr U P := by rw [hsq]; exact ⟨fun q => q.2, fun q => ⟨h3, q⟩⟩
        exact pm_zret hx hb hr hk dP_isSquare_57 (nar_bi _) (by rw [bi_iff he])
      · rw [if_pos h4] at hsq
        have h8 : um p9 = 8 := if_pos h4
        refine lv_iload_n hx hb dP_isSquare_39 rfl (lv_at hl 0 rfl) ?_
        refine j_iconst hx hb dP_isSquare_40 ?_
        refine j_icmp_ne hx hb (by omega) (by omega) dP_isSquare_41 rfl (fun h5 => ?_) (fun h5 => ?_)
        · refine j_iconst hx hb dP_isSquare_48 ?_
          refine lv_goto hx hb dP_isSquare_49 rfl ?_
          exact pm_zret hx hb hr hk dP_isSquare_57 nar_0 (by rw [bi_f (fun q => h5 (by rw [hsq] at q; exact q.2))])
        · refine j_iconst hx hb dP_isSquare_44 ?_
          refine lv_goto hx hb dP_isSquare_45 rfl ?_
          exact pm_zret hx hb hr hk dP_isSquare_57 nar_1 (by rw [bi_t (by rw [hsq]; exact ⟨h3, h5⟩)])
    · have h3 : ¬ od 64 a p9 % 2 = 0 := by
        have := tm_nat (od 64 a p9) 2
        rw [show ((2 : Nat) : Int) = 2 from rfl] at this
        omega
      refine j_iconst hx hb dP_isSquare_26 ?_
      exact pm_zret hx hb hr hk dP_isSquare_27 nar_0 (by rw [bi_f (fun q => h3 (by rw [hsq] at q; exact q.1))])
  · rw [if_pos h1] at hsq
    refine lv_lload_n hx hb dP_isSquare_4 rfl (lv_at hl 0 rfl) ?_
    refine j_lconst0 hx hb dP_isSquare_5 ?_
    refine j_lc_le hx hb (by omega) (by omega) dP_isSquare_6 dP_isSquare_7 rfl (fun h2 => ?_) (fun h2 => ?_)
    · refine j_iconst hx hb dP_isSquare_14 ?_
      exact pm_zret hx hb hr hk dP_isSquare_15 nar_0 (by rw [bi_f (fun q => by rw [hsq] at q; omega)])
    · refine j_iconst hx hb dP_isSquare_10 ?_
      refine lv_goto hx hb dP_isSquare_11 rfl ?_
      exact pm_zret hx hb hr hk dP_isSquare_15 nar_1 (by rw [bi_t (by rw [hsq]; omega)])

set_option maxRecDepth 100000 in
set_option maxHeartbeats 4000000 in
theorem kP_symbolOf (l : Launch) (a b p9 : Int) (ha : b64 a) (hb9 : b64 b) (h0 : a ≠ 0) (h9 : b ≠ 0) (hp : p9 = 0 ∨ (1 < p9 ∧ p9 ≤ 2147483647)) : PM l yP_symbolOf wsP_symbolOf (rmd 2) [.long (jl a), .long (jl b), .int (ji p9)] (fun r => r = .int (ji (sy a b p9))) := by
  refine PM.ofG (by decide +kernel) (Nat.le_of_ble_eq_true rfl) ?_
  intro p_ e_ s_ m_ a_ b_ t_ c_ hx hb hml hr hk hg hown ls hl
  have hl : lv_has ls 9 [(0, .long (jl a)), (2, .long (jl b)), (4, .int (ji p9))] := hl
  have hsy : sy a b p9 = if p9 = 0 then (if a < 0 ∧ b < 0 then -1 else 1) else sF (od 64 a p9 % 2 : Nat) (od 64 b p9 % 2 : Nat) (un a p9) (un b p9) p9 := rfl
  refine lv_iload hx hb dP_symbolOf_0 (lv_at hl 2 rfl) ?_
  refine j_if_ne hx hb (by omega) dP_symbolOf_2 rfl (fun h1 => ?_) (fun h1 => ?_)
  · rw [if_neg h1] at hsy
    refine lv_lload_n hx hb dP_symbolOf_23 rfl (lv_at hl 0 rfl) ?_
    refine lv_iload hx hb dP_symbolOf_24 (lv_at hl 2 rfl) ?_
    refine pm_G (As := [.long (jl a), .int (ji p9)]) (rest := []) hx hb hml hown hg hl (kP_orderOf l a p9 ha (by omega) (by omega)) wd187 wd188 wd14 wd189 ⟨rfl, rfl⟩ (n := 2) (by decide +kernel) rfl ⟨by decide, by decide⟩ rfl (Nat.le_of_ble_eq_true rfl) dP_symbolOf_26 ⟨Nat.zero_le _, Nat.zero_le _⟩ (fun r hr9 => ?_)
    subst hr9
    have e1 : (od 64 a p9 : Int).tmod 2 = ((od 64 a p9 % 2 : Nat) : Int) := tm_nat _ 2
    refine j_iconst hx hb dP_symbolOf_29 ?_
    refine j_irem hx hb (by have := od_le 64 a p9; omega) (by decide) (by decide) dP_symbolOf_30 ?_
    refine lv_istore hx hb dP_symbolOf_31 hl (by decide) rfl (fun ls hl => ?_)
    have hl : lv_has ls 9 [(5, .int (ji (((od 64 a p9:Int)).tmod 2))), (0, .long (jl a)), (2, .long (jl b)), (4, .int (ji p9))] := hl
    rw [e1] at hl
    refine lv_lload_n hx hb dP_symbolOf_33 rfl (lv_at hl 2 rfl) ?_
    refine lv_iload hx hb dP_symbolOf_34 (lv_at hl 3 rfl) ?_
    refine pm_G (As := [.long (jl b), .int (ji p9)]) (rest := []) hx hb hml hown hg hl (kP_orderOf l b p9 hb9 (by omega) (by omega)) wd187 wd188 wd14 wd189 ⟨rfl, rfl⟩ (n := 2) (by decide +kernel) rfl ⟨by decide, by decide⟩ rfl (Nat.le_of_ble_eq_true rfl) dP_symbolOf_36 ⟨Nat.zero_le _, Nat.zero_le _⟩ (fun r hr9 => ?_)
    subst hr9
    have e2 : (od 64 b p9 : Int).tmod 2 = ((od 64 b p9 % 2 : Nat) : Int) := tm_nat _ 2
    refine j_iconst hx hb dP_symbolOf_39 ?_
    refine j_irem hx hb (by have := od_le 64 b p9; omega) (by decide) (by decide) dP_symbolOf_40 ?_
    refine lv_istore hx hb dP_symbolOf_41 hl (by decide) rfl (fun ls hl => ?_)
    have hl : lv_has ls 9 [(6, .int (ji (((od 64 b p9:Int)).tmod 2))), (5, .int (ji (((od 64 a p9%2:Nat):Int)))), (0, .long (jl a)), (2, .long (jl b)), (4, .int (ji p9))] := hl
    rw [e2] at hl
    generalize hE : od 64 a p9 % 2 = E at *
    generalize hF : od 64 b p9 % 2 = F at *
    refine lv_lload_n hx hb dP_symbolOf_43 rfl (lv_at hl 2 rfl) ?_
    refine lv_iload hx hb dP_symbolOf_44 (lv_at hl 4 rfl) ?_
    refine pm_G (As := [.long (jl a), .int (ji p9)]) (rest := []) hx hb hml hown hg hl (kP_unitOf l a p9 ha (by omega) (by omega)) wd190 wd191 wd14 wd192 ⟨rfl, rfl⟩ (n := 2) (by decide +kernel) rfl ⟨by decide, by decide⟩ rfl (Nat.le_of_ble_eq_true rfl) dP_symbolOf_46 ⟨Nat.zero_le _, Nat.zero_le _⟩ (fun r hr9 => ?_)
    subst hr9
    refine lv_istore hx hb dP_symbolOf_49 hl (by decide) rfl (fun ls hl => ?_)
    have hl : lv_has ls 9 [(7, .int (ji (un a p9))), (6, .int (ji ((F:Int)))), (5, .int (ji ((E:Int)))), (0, .long (jl a)), (2, .long (jl b)), (4, .int (ji p9))] := hl
    refine lv_lload_n hx hb dP_symbolOf_51 rfl (lv_at hl 4 rfl) ?_
    refine lv_iload hx hb dP_symbolOf_52 (lv_at hl 5 rfl) ?_
    refine pm_G (As := [.long (jl b), .int (ji p9)]) (rest := []) hx hb hml hown hg hl (kP_unitOf l b p9 hb9 (by omega) (by omega)) wd190 wd191 wd14 wd192 ⟨rfl, rfl⟩ (n := 2) (by decide +kernel) rfl ⟨by decide, by decide⟩ rfl (Nat.le_of_ble_eq_true rfl) dP_symbolOf_54 ⟨Nat.zero_le _, Nat.zero_le _⟩ (fun r hr9 => ?_)
    subst hr9
    have hua := un_lt (a := a) (p := p9) (by omega)
    have hub := un_lt (a := b) (p := p9) (by omega)
    refine lv_istore hx hb dP_symbolOf_57 hl (by decide) rfl (fun ls hl => ?_)
    have hl : lv_has ls 9 [(8, .int (ji (un b p9))), (7, .int (ji (un a p9))), (6, .int (ji ((F:Int)))), (5, .int (ji ((E:Int)))), (0, .long (jl a)), (2, .long (jl b)), (4, .int (ji p9))] := hl
    refine lv_iload hx hb dP_symbolOf_59 (lv_at hl 6 rfl) ?_
    refine j_iconst hx hb dP_symbolOf_61 ?_
    refine j_icmp_ne hx hb (by omega) (by omega) dP_symbolOf_62 rfl (fun h2 => ?_) (fun h2 => ?_)
    · have hum : um p9 = p9 := if_neg h2
      have hsF : sF E F (un a p9) (un b p9) p9 = so E F (un a p9) (un b p9) p9 := if_neg h2
      rw [hsF] at hsy
      obtain ⟨U, hU⟩ := Int.eq_ofNat_of_zero_le hua.1
      obtain ⟨V, hV⟩ := Int.eq_ofNat_of_zero_le hub.1
      obtain ⟨P, rfl⟩ := Int.eq_ofNat_of_zero_le (show 0 ≤ p9 by omega)
      rw [hU] at hl hsy hua
      rw [hV] at hl hsy hub
      refine lv_iload hx hb dP_symbolOf_79 (lv_at hl 3 rfl) ?_
      refine lv_iload hx hb dP_symbolOf_81 (lv_at hl 2 rfl) ?_
      refine lv_iload hx hb dP_symbolOf_83 (lv_at hl 1 rfl) ?_
      refine lv_iload hx hb dP_symbolOf_85 (lv_at hl 0 rfl) ?_
      refine lv_iload hx hb dP_symbolOf_87 (lv_at hl 6 rfl) ?_
      refine pm_G (As := [.int (ji ((E:Int))), .int (ji ((F:Int))), .int (ji ((U:Int))), .int (ji ((V:Int))), .int (ji ((P:Int)))]) (rest := []) hx hb hml hown hg hl (kP_symbolAtOdd l E F U V P (by omega) (by omega) (by omega) (by omega) (by omega) (by omega)) wd201 wd202 wd14 wd203 ⟨rfl, rfl⟩ (n := 5) (by decide +kernel) rfl ⟨by decide, by decide⟩ rfl (Nat.le_of_ble_eq_true rfl) dP_symbolOf_89 ⟨Nat.zero_le _, Nat.zero_le _⟩ (fun r hr9 => ?_)
      subst hr9
      exact pm_iret hx hb hr hk dP_symbolOf_92 (by rw [hsy])
    · have hum : um p9 = 8 := if_pos h2
      have hsF : sF E F (un a p9) (un b p9) p9 = s2 E F (un a p9) (un b p9) := if_pos h2
      rw [hsF] at hsy
      have h3 : un a p9 % 2 = 1 := by rw [h2]; exact un_odd h0 ha
      have h4 : un b p9 % 2 = 1 := by rw [h2]; exact un_odd h9 hb9
      refine lv_iload hx hb dP_symbolOf_65 (lv_at hl 3 rfl) ?_
      refine lv_iload hx hb dP_symbolOf_67 (lv_at hl 2 rfl) ?_
      refine lv_iload hx hb dP_symbolOf_69 (lv_at hl 1 rfl) ?_
      refine lv_iload hx hb dP_symbolOf_71 (lv_at hl 0 rfl) ?_
      refine pm_G (As := [.int (ji ((E:Int))), .int (ji ((F:Int))), .int (ji (un a p9)), .int (ji (un b p9))]) (rest := []) hx hb hml hown hg hl (kP_symbolAtTwo l E F (un a p9) (un b p9) (by omega) (by omega) (by omega) (by omega)) wd198 wd199 wd14 wd200 ⟨rfl, rfl⟩ (n := 4) (by decide +kernel) rfl ⟨by decide, by decide⟩ rfl (Nat.le_of_ble_eq_true rfl) dP_symbolOf_73 ⟨Nat.zero_le _, Nat.zero_le _⟩ (fun r hr9 => ?_)
      subst hr9
      refine lv_goto hx hb dP_symbolOf_76 rfl ?_
      exact pm_iret hx hb hr hk dP_symbolOf_92 (by rw [hsy])
  · rw [if_pos h1] at hsy
    refine lv_lload_n hx hb dP_symbolOf_5 rfl (lv_at hl 0 rfl) ?_
    refine j_lconst0 hx hb dP_symbolOf_6 ?_
    refine j_lc_ge hx hb (by omega) (by omega) dP_symbolOf_7 dP_symbolOf_8 rfl (fun h2 => ?_) (fun h2 => ?_)
    · refine j_iconst hx hb dP_symbolOf_21 ?_
      exact pm_iret hx hb hr hk dP_symbolOf_22 (by rw [hsy, if_neg (by omega)])
    · refine lv_lload_n hx hb dP_symbolOf_11 rfl (lv_at hl 1 rfl) ?_
      refine j_lconst0 hx hb dP_symbolOf_12 ?_
      refine j_lc_ge hx hb (by omega) (by omega) dP_symbolOf_13 dP_symbolOf_14 rfl (fun h3 => ?_) (fun h3 => ?_)
      · refine j_iconst hx hb dP_symbolOf_21 ?_
        exact pm_iret hx hb hr hk dP_symbolOf_22 (by rw [hsy, if_neg (by omega)])
      · refine j_iconst hx hb dP_symbolOf_17 ?_
        refine lv_goto hx hb dP_symbolOf_18 rfl ?_
        exact pm_iret hx hb hr hk dP_symbolOf_22 (by rw [hsy, if_pos (by omega)])
end
section
/-! rows and numbers that the reference's own methods ask for -/
theorem jl_nat (n : Nat) : jl (n : Int) = Int64.ofNat n := Int64.ofInt_eq_ofNat
theorem jl_and1 (e : Nat) : jl (e : Int) &&& jl 1 = jl ((e % 2 : Nat) : Int) := by
  rw [show jl 1 = Int64.ofNat 1 from rfl, jl_nat, jl_nat]
  apply Int64.toBitVec.inj
  rw [Int64.toBitVec_and, Int64.toBitVec_ofNat', Int64.toBitVec_ofNat', Int64.toBitVec_ofNat']
  apply BitVec.eq_of_toNat_eq
  rw [BitVec.toNat_and, BitVec.toNat_ofNat, BitVec.toNat_ofNat, BitVec.toNat_ofNat, Nat.mod_eq_of_lt (show 1 < 2 ^ 64 by decide), Nat.and_one_is_mod]
  omega
theorem jl_shr1 {e : Nat} (h : e < 4611686018427387904) : jl (e : Int) >>> ((ji 1).toInt64 &&& 63) = jl ((e / 2 : Nat) : Int) := by
  apply Int64.toInt_inj.mp
  have e1 : (jl (e : Int) >>> ((ji 1).toInt64 &&& 63)).toInt = (jl (e : Int)).toInt >>> 1 := by
    have hD : (((ji 1).toInt64 &&& 63).toBitVec.smod 64).toNat = 1 := by decide +kernel
    conv => rhs; rw [← hD]
    exact BitVec.toInt_sshiftRight ..
  rw [e1, Int.shiftRight_eq_div_pow, jl_toInt (by omega), jl_toInt (by omega)]
  rfl
section JB
variable {p : Program} {l : Launch} {e : Env} {R : Room} {s : State} {m : MethodId} {args : Array Value} {below : List Frame} {meth : Method} {c : Code} {H : Heap} {locs : List Loc} {cells slots : Nat} {Q : State → Prop} {cc : ByteArray} {pc : Nat} {ls : Array Slot} {rest : List Value}
theorem j_land1 (hx : p.tables.exec = Jvm.exec) (hb : c.code = cc) {x : Nat} (hd : decode cc pc = .ok (.land, 1)) (k : W p l e R s m args below meth c H locs cells slots Q (F0 m (pc + 1) ls (.long (jl ((x % 2 : Nat) : Int)) :: rest))) : W p l e R s m args below meth c H locs cells slots Q (F0 m pc ls (.long (jl 1) :: .long (jl (x : Int)) :: rest)) :=
  lv_land hx hb hd (by rw [jl_and1]; exact k)
theorem j_lshr1 (hx : p.tables.exec = Jvm.exec) (hb : c.code = cc) {x : Nat} (h : x < 4611686018427387904) (hd : decode cc pc = .ok (.lshr, 1)) (k : W p l e R s m args below meth c H locs cells slots Q (F0 m (pc + 1) ls (.long (jl ((x / 2 : Nat) : Int)) :: rest))) : W p l e R s m args below meth c H locs cells slots Q (F0 m pc ls (.int (ji 1) :: .long (jl (x : Int)) :: rest)) :=
  lv_lshr hx hb hd (jl_shr1 h) k
end JB
def oM (a p : Int) : Int := if p ∣ a then 1 else 0
def uM (a p : Int) : Int := (if p ∣ a then a / p else a) % um p
noncomputable def syM (a b p : Int) : Int := if p = 0 then (if a < 0 ∧ b < 0 then -1 else 1) else sF (oM a p) (oM b p) (uM a p) (uM b p) p
def sqM (a p : Int) : Prop := if p = 0 then 0 < a else ¬ p ∣ a ∧ (if p = 2 then uM a p = 1 else qr (uM a p).toNat p.toNat)
theorem uM_lt {a p : Int} (h : 1 < p) : 0 ≤ uM a p ∧ uM a p < um p := ⟨Int.emod_nonneg _ (by have := um_pos h; omega), Int.emod_lt_of_pos _ (by have := um_pos h; omega)⟩
theorem oM_bd (a p : Int) : 0 ≤ oM a p ∧ oM a p ≤ 1 := by
  unfold oM
  by_cases h : p ∣ a
  · rw [if_pos h]; decide
  · rw [if_neg h]; decide
theorem uM_odd {a : Int} (h : ¬ (4 : Int) ∣ a) : uM a 2 % 2 = 1 := by
  unfold uM um
  by_cases h2 : (2 : Int) ∣ a
  · rw [if_pos h2, if_pos rfl]; omega
  · rw [if_neg h2, if_pos rfl]; omega
/-- the power's loop from above: x ^ e is still owed -/
theorem pw_step0 {u x w E e p : Nat} (h : w * x ^ e % p = u ^ E % p) (he : e % 2 = 0) : w * (x * x % p) ^ (e / 2) % p = u ^ E % p := by
  rw [← h, Nat.mul_mod, ← Nat.pow_mod, ← Nat.mul_mod]
  have e1 : x ^ e = (x * x) ^ (e / 2) := by
    rw [← Nat.pow_two, ← Nat.pow_mul, show 2 * (e / 2) = e by omega]
  rw [e1]
theorem pw_step1 {u x w E e p : Nat} (h : w * x ^ e % p = u ^ E % p) (he : e % 2 = 1) : (w * x % p) * (x * x % p) ^ (e / 2) % p = u ^ E % p := by
  rw [← h, Nat.mul_mod, ← Nat.pow_mod, Nat.mod_mod, ← Nat.mul_mod]
  have e1 : x ^ e = x * (x * x) ^ (e / 2) := by
    have h2 : (x * x) ^ (e / 2) = x ^ (e - 1) := by rw [← Nat.pow_two, ← Nat.pow_mul, show 2 * (e / 2) = e - 1 by omega]
    rw [h2, Nat.mul_comm, ← Nat.pow_succ, show (e - 1).succ = e by omega]
  rw [e1, Nat.mul_assoc]
end
section
/-! the reference, its static methods: names, contracts -/
abbrev cM_isForm : ByteArray := prog_8_method_3_code
abbrev yM_isForm : MethodName := ⟨"RationalFormsModel", "isForm", "(I)Z"⟩
abbrev wsM_isForm : List Cond := .code yM_isForm cM_isForm 1 (some .boolean) :: GG
theorem dM_isForm_0 : decode cM_isForm 0 = .ok (.iload_n 0, 1) := by decide +kernel
theorem dM_isForm_1 : decode cM_isForm 1 = .ok (.ifCond .eq 8, 3) := by decide +kernel
theorem dM_isForm_4 : decode cM_isForm 4 = .ok (.iload_n 0, 1) := by decide +kernel
theorem dM_isForm_5 : decode cM_isForm 5 = .ok (.iconst 1, 1) := by decide +kernel
theorem dM_isForm_6 : decode cM_isForm 6 = .ok (.if_icmp .ne 7, 3) := by decide +kernel
theorem dM_isForm_9 : decode cM_isForm 9 = .ok (.iconst 1, 1) := by decide +kernel
theorem dM_isForm_10 : decode cM_isForm 10 = .ok (.goto 4, 3) := by decide +kernel
theorem dM_isForm_13 : decode cM_isForm 13 = .ok (.iconst 0, 1) := by decide +kernel
theorem dM_isForm_14 : decode cM_isForm 14 = .ok (.ireturn, 1) := by decide +kernel
abbrev cM_classOf : ByteArray := prog_8_method_6_code
abbrev yM_classOf : MethodName := ⟨"RationalFormsModel", "classOf", "(J)J"⟩
abbrev wsM_classOf : List Cond := .code yM_classOf cM_classOf 9 (some .long) :: GG
theorem dM_classOf_0 : decode cM_classOf 0 = .ok (.lload_n 0, 1) := by decide +kernel
theorem dM_classOf_1 : decode cM_classOf 1 = .ok (.lconst 0, 1) := by decide +kernel
theorem dM_classOf_2 : decode cM_classOf 2 = .ok (.lcmp, 1) := by decide +kernel
theorem dM_classOf_3 : decode cM_classOf 3 = .ok (.ifCond .ge 8, 3) := by decide +kernel
theorem dM_classOf_6 : decode cM_classOf 6 = .ok (.lload_n 0, 1) := by decide +kernel
theorem dM_classOf_7 : decode cM_classOf 7 = .ok (.lneg, 1) := by decide +kernel
theorem dM_classOf_8 : decode cM_classOf 8 = .ok (.goto 4, 3) := by decide +kernel
theorem dM_classOf_11 : decode cM_classOf 11 = .ok (.lload_n 0, 1) := by decide +kernel
theorem dM_classOf_12 : decode cM_classOf 12 = .ok (.lstore_n 2, 1) := by decide +kernel
theorem dM_classOf_13 : decode cM_classOf 13 = .ok (.lload_n 0, 1) := by decide +kernel
theorem dM_classOf_14 : decode cM_classOf 14 = .ok (.lconst 0, 1) := by decide +kernel
theorem dM_classOf_15 : decode cM_classOf 15 = .ok (.lcmp, 1) := by decide +kernel
theorem dM_classOf_16 : decode cM_classOf 16 = .ok (.ifCond .ge 9, 3) := by decide +kernel
theorem dM_classOf_19 : decode cM_classOf 19 = .ok (.ldc2_w 37, 3) := by decide +kernel
theorem dM_classOf_22 : decode cM_classOf 22 = .ok (.goto 4, 3) := by decide +kernel
theorem dM_classOf_25 : decode cM_classOf 25 = .ok (.lconst 1, 1) := by decide +kernel
theorem dM_classOf_26 : decode cM_classOf 26 = .ok (.lstore 4, 2) := by decide +kernel
theorem dM_classOf_28 : decode cM_classOf 28 = .ok (.ldc2_w 39, 3) := by decide +kernel
theorem dM_classOf_31 : decode cM_classOf 31 = .ok (.lstore 6, 2) := by decide +kernel
theorem dM_classOf_33 : decode cM_classOf 33 = .ok (.lload 6, 2) := by decide +kernel
theorem dM_classOf_35 : decode cM_classOf 35 = .ok (.lload 6, 2) := by decide +kernel
theorem dM_classOf_37 : decode cM_classOf 37 = .ok (.lmul, 1) := by decide +kernel
theorem dM_classOf_38 : decode cM_classOf 38 = .ok (.lload_n 2, 1) := by decide +kernel
theorem dM_classOf_39 : decode cM_classOf 39 = .ok (.lcmp, 1) := by decide +kernel
theorem dM_classOf_40 : decode cM_classOf 40 = .ok (.ifCond .gt 61, 3) := by decide +kernel
theorem dM_classOf_43 : decode cM_classOf 43 = .ok (.iconst 0, 1) := by decide +kernel
theorem dM_classOf_44 : decode cM_classOf 44 = .ok (.istore 8, 2) := by decide +kernel
theorem dM_classOf_46 : decode cM_classOf 46 = .ok (.lload_n 2, 1) := by decide +kernel
theorem dM_classOf_47 : decode cM_classOf 47 = .ok (.lload 6, 2) := by decide +kernel
theorem dM_classOf_49 : decode cM_classOf 49 = .ok (.lrem, 1) := by decide +kernel
theorem dM_classOf_50 : decode cM_classOf 50 = .ok (.lconst 0, 1) := by decide +kernel
theorem dM_classOf_51 : decode cM_classOf 51 = .ok (.lcmp, 1) := by decide +kernel
theorem dM_classOf_52 : decode cM_classOf 52 = .ok (.ifCond .ne 23, 3) := by decide +kernel
theorem dM_classOf_55 : decode cM_classOf 55 = .ok (.lload_n 2, 1) := by decide +kernel
theorem dM_classOf_56 : decode cM_classOf 56 = .ok (.lload 6, 2) := by decide +kernel
theorem dM_classOf_58 : decode cM_classOf 58 = .ok (.ldiv, 1) := by decide +kernel
theorem dM_classOf_59 : decode cM_classOf 59 = .ok (.lstore_n 2, 1) := by decide +kernel
theorem dM_classOf_60 : decode cM_classOf 60 = .ok (.iload 8, 2) := by decide +kernel
theorem dM_classOf_62 : decode cM_classOf 62 = .ok (.ifCond .ne 7, 3) := by decide +kernel
theorem dM_classOf_65 : decode cM_classOf 65 = .ok (.iconst 1, 1) := by decide +kernel
theorem dM_classOf_66 : decode cM_classOf 66 = .ok (.goto 4, 3) := by decide +kernel
theorem dM_classOf_69 : decode cM_classOf 69 = .ok (.iconst 0, 1) := by decide +kernel
theorem dM_classOf_70 : decode cM_classOf 70 = .ok (.istore 8, 2) := by decide +kernel
theorem dM_classOf_72 : decode cM_classOf 72 = .ok (.goto (-26), 3) := by decide +kernel
theorem dM_classOf_75 : decode cM_classOf 75 = .ok (.iload 8, 2) := by decide +kernel
theorem dM_classOf_77 : decode cM_classOf 77 = .ok (.ifCond .eq 11, 3) := by decide +kernel
theorem dM_classOf_80 : decode cM_classOf 80 = .ok (.lload 4, 2) := by decide +kernel
theorem dM_classOf_82 : decode cM_classOf 82 = .ok (.lload 6, 2) := by decide +kernel
theorem dM_classOf_84 : decode cM_classOf 84 = .ok (.lmul, 1) := by decide +kernel
theorem dM_classOf_85 : decode cM_classOf 85 = .ok (.goto 5, 3) := by decide +kernel
theorem dM_classOf_88 : decode cM_classOf 88 = .ok (.lload 4, 2) := by decide +kernel
theorem dM_classOf_90 : decode cM_classOf 90 = .ok (.lstore 4, 2) := by decide +kernel
theorem dM_classOf_92 : decode cM_classOf 92 = .ok (.lload 6, 2) := by decide +kernel
theorem dM_classOf_94 : decode cM_classOf 94 = .ok (.lconst 1, 1) := by decide +kernel
theorem dM_classOf_95 : decode cM_classOf 95 = .ok (.ladd, 1) := by decide +kernel
theorem dM_classOf_96 : decode cM_classOf 96 = .ok (.lstore 6, 2) := by decide +kernel
theorem dM_classOf_98 : decode cM_classOf 98 = .ok (.goto (-65), 3) := by decide +kernel
theorem dM_classOf_101 : decode cM_classOf 101 = .ok (.lload 4, 2) := by decide +kernel
theorem dM_classOf_103 : decode cM_classOf 103 = .ok (.lload_n 2, 1) := by decide +kernel
theorem dM_classOf_104 : decode cM_classOf 104 = .ok (.lmul, 1) := by decide +kernel
theorem dM_classOf_105 : decode cM_classOf 105 = .ok (.lreturn, 1) := by decide +kernel
abbrev cM_common : ByteArray := prog_8_method_7_code
abbrev yM_common : MethodName := ⟨"RationalFormsModel", "common", "(JJ)J"⟩
abbrev wsM_common : List Cond := .code yM_common cM_common 10 (some .long) :: GG
theorem dM_common_0 : decode cM_common 0 = .ok (.lload_n 0, 1) := by decide +kernel
theorem dM_common_1 : decode cM_common 1 = .ok (.lconst 0, 1) := by decide +kernel
theorem dM_common_2 : decode cM_common 2 = .ok (.lcmp, 1) := by decide +kernel
theorem dM_common_3 : decode cM_common 3 = .ok (.ifCond .ge 8, 3) := by decide +kernel
theorem dM_common_6 : decode cM_common 6 = .ok (.lload_n 0, 1) := by decide +kernel
theorem dM_common_7 : decode cM_common 7 = .ok (.lneg, 1) := by decide +kernel
theorem dM_common_8 : decode cM_common 8 = .ok (.goto 4, 3) := by decide +kernel
theorem dM_common_11 : decode cM_common 11 = .ok (.lload_n 0, 1) := by decide +kernel
theorem dM_common_12 : decode cM_common 12 = .ok (.lstore 4, 2) := by decide +kernel
theorem dM_common_14 : decode cM_common 14 = .ok (.lload_n 2, 1) := by decide +kernel
theorem dM_common_15 : decode cM_common 15 = .ok (.lconst 0, 1) := by decide +kernel
theorem dM_common_16 : decode cM_common 16 = .ok (.lcmp, 1) := by decide +kernel
theorem dM_common_17 : decode cM_common 17 = .ok (.ifCond .ge 8, 3) := by decide +kernel
theorem dM_common_20 : decode cM_common 20 = .ok (.lload_n 2, 1) := by decide +kernel
theorem dM_common_21 : decode cM_common 21 = .ok (.lneg, 1) := by decide +kernel
theorem dM_common_22 : decode cM_common 22 = .ok (.goto 4, 3) := by decide +kernel
theorem dM_common_25 : decode cM_common 25 = .ok (.lload_n 2, 1) := by decide +kernel
theorem dM_common_26 : decode cM_common 26 = .ok (.lstore 6, 2) := by decide +kernel
theorem dM_common_28 : decode cM_common 28 = .ok (.lload 6, 2) := by decide +kernel
theorem dM_common_30 : decode cM_common 30 = .ok (.lconst 0, 1) := by decide +kernel
theorem dM_common_31 : decode cM_common 31 = .ok (.lcmp, 1) := by decide +kernel
theorem dM_common_32 : decode cM_common 32 = .ok (.ifCond .eq 21, 3) := by decide +kernel
theorem dM_common_35 : decode cM_common 35 = .ok (.lload 4, 2) := by decide +kernel
theorem dM_common_37 : decode cM_common 37 = .ok (.lload 6, 2) := by decide +kernel
theorem dM_common_39 : decode cM_common 39 = .ok (.lrem, 1) := by decide +kernel
theorem dM_common_40 : decode cM_common 40 = .ok (.lstore 8, 2) := by decide +kernel
theorem dM_common_42 : decode cM_common 42 = .ok (.lload 6, 2) := by decide +kernel
theorem dM_common_44 : decode cM_common 44 = .ok (.lstore 4, 2) := by decide +kernel
theorem dM_common_46 : decode cM_common 46 = .ok (.lload 8, 2) := by decide +kernel
theorem dM_common_48 : decode cM_common 48 = .ok (.lstore 6, 2) := by decide +kernel
theorem dM_common_50 : decode cM_common 50 = .ok (.goto (-22), 3) := by decide +kernel
theorem dM_common_53 : decode cM_common 53 = .ok (.lload 4, 2) := by decide +kernel
theorem dM_common_55 : decode cM_common 55 = .ok (.lreturn, 1) := by decide +kernel
abbrev cM_times : ByteArray := prog_8_method_8_code
abbrev yM_times : MethodName := ⟨"RationalFormsModel", "times", "(JJ)J"⟩
abbrev wsM_times : List Cond := .code yM_times cM_times 6 (some .long) :: GG
theorem dM_times_0 : decode cM_times 0 = .ok (.lload_n 0, 1) := by decide +kernel
theorem dM_times_1 : decode cM_times 1 = .ok (.lload_n 2, 1) := by decide +kernel
theorem dM_times_2 : decode cM_times 2 = .ok (.invokestatic 41, 3) := by decide +kernel
theorem dM_times_5 : decode cM_times 5 = .ok (.lstore 4, 2) := by decide +kernel
theorem dM_times_7 : decode cM_times 7 = .ok (.lload_n 0, 1) := by decide +kernel
theorem dM_times_8 : decode cM_times 8 = .ok (.lload 4, 2) := by decide +kernel
theorem dM_times_10 : decode cM_times 10 = .ok (.ldiv, 1) := by decide +kernel
theorem dM_times_11 : decode cM_times 11 = .ok (.lload_n 2, 1) := by decide +kernel
theorem dM_times_12 : decode cM_times 12 = .ok (.lload 4, 2) := by decide +kernel
theorem dM_times_14 : decode cM_times 14 = .ok (.ldiv, 1) := by decide +kernel
theorem dM_times_15 : decode cM_times 15 = .ok (.lmul, 1) := by decide +kernel
theorem dM_times_16 : decode cM_times 16 = .ok (.lreturn, 1) := by decide +kernel
abbrev cM_order : ByteArray := prog_8_method_14_code
abbrev yM_order : MethodName := ⟨"RationalFormsModel", "order", "(JJ)I"⟩
abbrev wsM_order : List Cond := .code yM_order cM_order 4 (some .int) :: GG
theorem dM_order_0 : decode cM_order 0 = .ok (.lload_n 0, 1) := by decide +kernel
theorem dM_order_1 : decode cM_order 1 = .ok (.lload_n 2, 1) := by decide +kernel
theorem dM_order_2 : decode cM_order 2 = .ok (.lrem, 1) := by decide +kernel
theorem dM_order_3 : decode cM_order 3 = .ok (.lconst 0, 1) := by decide +kernel
theorem dM_order_4 : decode cM_order 4 = .ok (.lcmp, 1) := by decide +kernel
theorem dM_order_5 : decode cM_order 5 = .ok (.ifCond .ne 7, 3) := by decide +kernel
theorem dM_order_8 : decode cM_order 8 = .ok (.iconst 1, 1) := by decide +kernel
theorem dM_order_9 : decode cM_order 9 = .ok (.goto 4, 3) := by decide +kernel
theorem dM_order_12 : decode cM_order 12 = .ok (.iconst 0, 1) := by decide +kernel
theorem dM_order_13 : decode cM_order 13 = .ok (.ireturn, 1) := by decide +kernel
abbrev cM_unit : ByteArray := prog_8_method_15_code
abbrev yM_unit : MethodName := ⟨"RationalFormsModel", "unit", "(JJ)J"⟩
abbrev wsM_unit : List Cond := .code yM_unit cM_unit 10 (some .long) :: GG
theorem dM_unit_0 : decode cM_unit 0 = .ok (.lload_n 0, 1) := by decide +kernel
theorem dM_unit_1 : decode cM_unit 1 = .ok (.lload_n 2, 1) := by decide +kernel
theorem dM_unit_2 : decode cM_unit 2 = .ok (.lrem, 1) := by decide +kernel
theorem dM_unit_3 : decode cM_unit 3 = .ok (.lconst 0, 1) := by decide +kernel
theorem dM_unit_4 : decode cM_unit 4 = .ok (.lcmp, 1) := by decide +kernel
theorem dM_unit_5 : decode cM_unit 5 = .ok (.ifCond .ne 9, 3) := by decide +kernel
theorem dM_unit_8 : decode cM_unit 8 = .ok (.lload_n 0, 1) := by decide +kernel
theorem dM_unit_9 : decode cM_unit 9 = .ok (.lload_n 2, 1) := by decide +kernel
theorem dM_unit_10 : decode cM_unit 10 = .ok (.ldiv, 1) := by decide +kernel
theorem dM_unit_11 : decode cM_unit 11 = .ok (.goto 4, 3) := by decide +kernel
theorem dM_unit_14 : decode cM_unit 14 = .ok (.lload_n 0, 1) := by decide +kernel
theorem dM_unit_15 : decode cM_unit 15 = .ok (.lstore 4, 2) := by decide +kernel
theorem dM_unit_17 : decode cM_unit 17 = .ok (.lload_n 2, 1) := by decide +kernel
theorem dM_unit_18 : decode cM_unit 18 = .ok (.ldc2_w 39, 3) := by decide +kernel
theorem dM_unit_21 : decode cM_unit 21 = .ok (.lcmp, 1) := by decide +kernel
theorem dM_unit_22 : decode cM_unit 22 = .ok (.ifCond .ne 9, 3) := by decide +kernel
theorem dM_unit_25 : decode cM_unit 25 = .ok (.ldc2_w 83, 3) := by decide +kernel
theorem dM_unit_28 : decode cM_unit 28 = .ok (.goto 4, 3) := by decide +kernel
theorem dM_unit_31 : decode cM_unit 31 = .ok (.lload_n 2, 1) := by decide +kernel
theorem dM_unit_32 : decode cM_unit 32 = .ok (.lstore 6, 2) := by decide +kernel
theorem dM_unit_34 : decode cM_unit 34 = .ok (.lload 4, 2) := by decide +kernel
theorem dM_unit_36 : decode cM_unit 36 = .ok (.lload 6, 2) := by decide +kernel
theorem dM_unit_38 : decode cM_unit 38 = .ok (.lrem, 1) := by decide +kernel
theorem dM_unit_39 : decode cM_unit 39 = .ok (.lstore 8, 2) := by decide +kernel
theorem dM_unit_41 : decode cM_unit 41 = .ok (.lload 8, 2) := by decide +kernel
theorem dM_unit_43 : decode cM_unit 43 = .ok (.lconst 0, 1) := by decide +kernel
theorem dM_unit_44 : decode cM_unit 44 = .ok (.lcmp, 1) := by decide +kernel
theorem dM_unit_45 : decode cM_unit 45 = .ok (.ifCond .ge 11, 3) := by decide +kernel
theorem dM_unit_48 : decode cM_unit 48 = .ok (.lload 8, 2) := by decide +kernel
theorem dM_unit_50 : decode cM_unit 50 = .ok (.lload 6, 2) := by decide +kernel
theorem dM_unit_52 : decode cM_unit 52 = .ok (.ladd, 1) := by decide +kernel
theorem dM_unit_53 : decode cM_unit 53 = .ok (.goto 5, 3) := by decide +kernel
theorem dM_unit_56 : decode cM_unit 56 = .ok (.lload 8, 2) := by decide +kernel
theorem dM_unit_58 : decode cM_unit 58 = .ok (.lreturn, 1) := by decide +kernel
abbrev cM_isRemainder : ByteArray := prog_8_method_16_code
abbrev yM_isRemainder : MethodName := ⟨"RationalFormsModel", "isRemainder", "(JJ)Z"⟩
abbrev wsM_isRemainder : List Cond := .code yM_isRemainder cM_isRemainder 10 (some .boolean) :: GG
theorem dM_isRemainder_0 : decode cM_isRemainder 0 = .ok (.lload_n 0, 1) := by decide +kernel
theorem dM_isRemainder_1 : decode cM_isRemainder 1 = .ok (.lload_n 2, 1) := by decide +kernel
theorem dM_isRemainder_2 : decode cM_isRemainder 2 = .ok (.lrem, 1) := by decide +kernel
theorem dM_isRemainder_3 : decode cM_isRemainder 3 = .ok (.lstore 4, 2) := by decide +kernel
theorem dM_isRemainder_5 : decode cM_isRemainder 5 = .ok (.lconst 1, 1) := by decide +kernel
theorem dM_isRemainder_6 : decode cM_isRemainder 6 = .ok (.lstore 6, 2) := by decide +kernel
theorem dM_isRemainder_8 : decode cM_isRemainder 8 = .ok (.lload_n 2, 1) := by decide +kernel
theorem dM_isRemainder_9 : decode cM_isRemainder 9 = .ok (.lconst 1, 1) := by decide +kernel
theorem dM_isRemainder_10 : decode cM_isRemainder 10 = .ok (.lsub, 1) := by decide +kernel
theorem dM_isRemainder_11 : decode cM_isRemainder 11 = .ok (.ldc2_w 39, 3) := by decide +kernel
theorem dM_isRemainder_14 : decode cM_isRemainder 14 = .ok (.ldiv, 1) := by decide +kernel
theorem dM_isRemainder_15 : decode cM_isRemainder 15 = .ok (.lstore 8, 2) := by decide +kernel
theorem dM_isRemainder_17 : decode cM_isRemainder 17 = .ok (.lload 8, 2) := by decide +kernel
theorem dM_isRemainder_19 : decode cM_isRemainder 19 = .ok (.lconst 0, 1) := by decide +kernel
theorem dM_isRemainder_20 : decode cM_isRemainder 20 = .ok (.lcmp, 1) := by decide +kernel
theorem dM_isRemainder_21 : decode cM_isRemainder 21 = .ok (.ifCond .le 44, 3) := by decide +kernel
theorem dM_isRemainder_24 : decode cM_isRemainder 24 = .ok (.lload 8, 2) := by decide +kernel
theorem dM_isRemainder_26 : decode cM_isRemainder 26 = .ok (.lconst 1, 1) := by decide +kernel
theorem dM_isRemainder_27 : decode cM_isRemainder 27 = .ok (.land, 1) := by decide +kernel
theorem dM_isRemainder_28 : decode cM_isRemainder 28 = .ok (.lconst 1, 1) := by decide +kernel
theorem dM_isRemainder_29 : decode cM_isRemainder 29 = .ok (.lcmp, 1) := by decide +kernel
theorem dM_isRemainder_30 : decode cM_isRemainder 30 = .ok (.ifCond .ne 13, 3) := by decide +kernel
theorem dM_isRemainder_33 : decode cM_isRemainder 33 = .ok (.lload 6, 2) := by decide +kernel
theorem dM_isRemainder_35 : decode cM_isRemainder 35 = .ok (.lload 4, 2) := by decide +kernel
theorem dM_isRemainder_37 : decode cM_isRemainder 37 = .ok (.lmul, 1) := by decide +kernel
theorem dM_isRemainder_38 : decode cM_isRemainder 38 = .ok (.lload_n 2, 1) := by decide +kernel
theorem dM_isRemainder_39 : decode cM_isRemainder 39 = .ok (.lrem, 1) := by decide +kernel
theorem dM_isRemainder_40 : decode cM_isRemainder 40 = .ok (.goto 5, 3) := by decide +kernel
theorem dM_isRemainder_43 : decode cM_isRemainder 43 = .ok (.lload 6, 2) := by decide +kernel
theorem dM_isRemainder_45 : decode cM_isRemainder 45 = .ok (.lstore 6, 2) := by decide +kernel
theorem dM_isRemainder_47 : decode cM_isRemainder 47 = .ok (.lload 4, 2) := by decide +kernel
theorem dM_isRemainder_49 : decode cM_isRemainder 49 = .ok (.lload 4, 2) := by decide +kernel
theorem dM_isRemainder_51 : decode cM_isRemainder 51 = .ok (.lmul, 1) := by decide +kernel
theorem dM_isRemainder_52 : decode cM_isRemainder 52 = .ok (.lload_n 2, 1) := by decide +kernel
theorem dM_isRemainder_53 : decode cM_isRemainder 53 = .ok (.lrem, 1) := by decide +kernel
theorem dM_isRemainder_54 : decode cM_isRemainder 54 = .ok (.lstore 4, 2) := by decide +kernel
theorem dM_isRemainder_56 : decode cM_isRemainder 56 = .ok (.lload 8, 2) := by decide +kernel
theorem dM_isRemainder_58 : decode cM_isRemainder 58 = .ok (.iconst 1, 1) := by decide +kernel
theorem dM_isRemainder_59 : decode cM_isRemainder 59 = .ok (.lshr, 1) := by decide +kernel
theorem dM_isRemainder_60 : decode cM_isRemainder 60 = .ok (.lstore 8, 2) := by decide +kernel
theorem dM_isRemainder_62 : decode cM_isRemainder 62 = .ok (.goto (-45), 3) := by decide +kernel
theorem dM_isRemainder_65 : decode cM_isRemainder 65 = .ok (.lload 6, 2) := by decide +kernel
theorem dM_isRemainder_67 : decode cM_isRemainder 67 = .ok (.lconst 1, 1) := by decide +kernel
theorem dM_isRemainder_68 : decode cM_isRemainder 68 = .ok (.lcmp, 1) := by decide +kernel
theorem dM_isRemainder_69 : decode cM_isRemainder 69 = .ok (.ifCond .ne 7, 3) := by decide +kernel
theorem dM_isRemainder_72 : decode cM_isRemainder 72 = .ok (.iconst 1, 1) := by decide +kernel
theorem dM_isRemainder_73 : decode cM_isRemainder 73 = .ok (.goto 4, 3) := by decide +kernel
theorem dM_isRemainder_76 : decode cM_isRemainder 76 = .ok (.iconst 0, 1) := by decide +kernel
theorem dM_isRemainder_77 : decode cM_isRemainder 77 = .ok (.ireturn, 1) := by decide +kernel
abbrev cM_isSquare : ByteArray := prog_8_method_17_code
abbrev yM_isSquare : MethodName := ⟨"RationalFormsModel", "isSquare", "(JJ)Z"⟩
abbrev wsM_isSquare : List Cond := .code yM_isSquare cM_isSquare 4 (some .boolean) :: GG
theorem dM_isSquare_0 : decode cM_isSquare 0 = .ok (.lload_n 2, 1) := by decide +kernel
theorem dM_isSquare_1 : decode cM_isSquare 1 = .ok (.lconst 0, 1) := by decide +kernel
theorem dM_isSquare_2 : decode cM_isSquare 2 = .ok (.lcmp, 1) := by decide +kernel
theorem dM_isSquare_3 : decode cM_isSquare 3 = .ok (.ifCond .ne 15, 3) := by decide +kernel
theorem dM_isSquare_6 : decode cM_isSquare 6 = .ok (.lload_n 0, 1) := by decide +kernel
theorem dM_isSquare_7 : decode cM_isSquare 7 = .ok (.lconst 0, 1) := by decide +kernel
theorem dM_isSquare_8 : decode cM_isSquare 8 = .ok (.lcmp, 1) := by decide +kernel
theorem dM_isSquare_9 : decode cM_isSquare 9 = .ok (.ifCond .le 7, 3) := by decide +kernel
theorem dM_isSquare_12 : decode cM_isSquare 12 = .ok (.iconst 1, 1) := by decide +kernel
theorem dM_isSquare_13 : decode cM_isSquare 13 = .ok (.goto 4, 3) := by decide +kernel
theorem dM_isSquare_16 : decode cM_isSquare 16 = .ok (.iconst 0, 1) := by decide +kernel
theorem dM_isSquare_17 : decode cM_isSquare 17 = .ok (.ireturn, 1) := by decide +kernel
theorem dM_isSquare_18 : decode cM_isSquare 18 = .ok (.lload_n 0, 1) := by decide +kernel
theorem dM_isSquare_19 : decode cM_isSquare 19 = .ok (.lload_n 2, 1) := by decide +kernel
theorem dM_isSquare_20 : decode cM_isSquare 20 = .ok (.invokestatic 85, 3) := by decide +kernel
theorem dM_isSquare_23 : decode cM_isSquare 23 = .ok (.iconst 1, 1) := by decide +kernel
theorem dM_isSquare_24 : decode cM_isSquare 24 = .ok (.if_icmp .ne 5, 3) := by decide +kernel
theorem dM_isSquare_27 : decode cM_isSquare 27 = .ok (.iconst 0, 1) := by decide +kernel
theorem dM_isSquare_28 : decode cM_isSquare 28 = .ok (.ireturn, 1) := by decide +kernel
theorem dM_isSquare_29 : decode cM_isSquare 29 = .ok (.lload_n 2, 1) := by decide +kernel
theorem dM_isSquare_30 : decode cM_isSquare 30 = .ok (.ldc2_w 39, 3) := by decide +kernel
theorem dM_isSquare_33 : decode cM_isSquare 33 = .ok (.lcmp, 1) := by decide +kernel
theorem dM_isSquare_34 : decode cM_isSquare 34 = .ok (.ifCond .ne 21, 3) := by decide +kernel
theorem dM_isSquare_37 : decode cM_isSquare 37 = .ok (.lload_n 0, 1) := by decide +kernel
theorem dM_isSquare_38 : decode cM_isSquare 38 = .ok (.lload_n 2, 1) := by decide +kernel
theorem dM_isSquare_39 : decode cM_isSquare 39 = .ok (.invokestatic 89, 3) := by decide +kernel
theorem dM_isSquare_42 : decode cM_isSquare 42 = .ok (.lconst 1, 1) := by decide +kernel
theorem dM_isSquare_43 : decode cM_isSquare 43 = .ok (.lcmp, 1) := by decide +kernel
theorem dM_isSquare_44 : decode cM_isSquare 44 = .ok (.ifCond .ne 7, 3) := by decide +kernel
theorem dM_isSquare_47 : decode cM_isSquare 47 = .ok (.iconst 1, 1) := by decide +kernel
theorem dM_isSquare_48 : decode cM_isSquare 48 = .ok (.goto 16, 3) := by decide +kernel
theorem dM_isSquare_51 : decode cM_isSquare 51 = .ok (.iconst 0, 1) := by decide +kernel
theorem dM_isSquare_52 : decode cM_isSquare 52 = .ok (.goto 12, 3) := by decide +kernel
theorem dM_isSquare_55 : decode cM_isSquare 55 = .ok (.lload_n 0, 1) := by decide +kernel
theorem dM_isSquare_56 : decode cM_isSquare 56 = .ok (.lload_n 2, 1) := by decide +kernel
theorem dM_isSquare_57 : decode cM_isSquare 57 = .ok (.invokestatic 89, 3) := by decide +kernel
theorem dM_isSquare_60 : decode cM_isSquare 60 = .ok (.lload_n 2, 1) := by decide +kernel
theorem dM_isSquare_61 : decode cM_isSquare 61 = .ok (.invokestatic 92, 3) := by decide +kernel
theorem dM_isSquare_64 : decode cM_isSquare 64 = .ok (.ireturn, 1) := by decide +kernel
abbrev cM_symbolOf : ByteArray := prog_8_method_18_code
abbrev yM_symbolOf : MethodName := ⟨"RationalFormsModel", "symbolOf", "(JJJ)I"⟩
abbrev wsM_symbolOf : List Cond := .code yM_symbolOf cM_symbolOf 14 (some .int) :: GG
theorem dM_symbolOf_0 : decode cM_symbolOf 0 = .ok (.lload 4, 2) := by decide +kernel
theorem dM_symbolOf_2 : decode cM_symbolOf 2 = .ok (.lconst 0, 1) := by decide +kernel
theorem dM_symbolOf_3 : decode cM_symbolOf 3 = .ok (.lcmp, 1) := by decide +kernel
theorem dM_symbolOf_4 : decode cM_symbolOf 4 = .ok (.ifCond .ne 21, 3) := by decide +kernel
theorem dM_symbolOf_7 : decode cM_symbolOf 7 = .ok (.lload_n 0, 1) := by decide +kernel
theorem dM_symbolOf_8 : decode cM_symbolOf 8 = .ok (.lconst 0, 1) := by decide +kernel
theorem dM_symbolOf_9 : decode cM_symbolOf 9 = .ok (.lcmp, 1) := by decide +kernel
theorem dM_symbolOf_10 : decode cM_symbolOf 10 = .ok (.ifCond .ge 13, 3) := by decide +kernel
theorem dM_symbolOf_13 : decode cM_symbolOf 13 = .ok (.lload_n 2, 1) := by decide +kernel
theorem dM_symbolOf_14 : decode cM_symbolOf 14 = .ok (.lconst 0, 1) := by decide +kernel
theorem dM_symbolOf_15 : decode cM_symbolOf 15 = .ok (.lcmp, 1) := by decide +kernel
theorem dM_symbolOf_16 : decode cM_symbolOf 16 = .ok (.ifCond .ge 7, 3) := by decide +kernel
theorem dM_symbolOf_19 : decode cM_symbolOf 19 = .ok (.iconst (-1), 1) := by decide +kernel
theorem dM_symbolOf_20 : decode cM_symbolOf 20 = .ok (.goto 4, 3) := by decide +kernel
theorem dM_symbolOf_23 : decode cM_symbolOf 23 = .ok (.iconst 1, 1) := by decide +kernel
theorem dM_symbolOf_24 : decode cM_symbolOf 24 = .ok (.ireturn, 1) := by decide +kernel
theorem dM_symbolOf_25 : decode cM_symbolOf 25 = .ok (.lload_n 0, 1) := by decide +kernel
theorem dM_symbolOf_26 : decode cM_symbolOf 26 = .ok (.lload 4, 2) := by decide +kernel
theorem dM_symbolOf_28 : decode cM_symbolOf 28 = .ok (.invokestatic 85, 3) := by decide +kernel
theorem dM_symbolOf_31 : decode cM_symbolOf 31 = .ok (.istore 6, 2) := by decide +kernel
theorem dM_symbolOf_33 : decode cM_symbolOf 33 = .ok (.lload_n 2, 1) := by decide +kernel
theorem dM_symbolOf_34 : decode cM_symbolOf 34 = .ok (.lload 4, 2) := by decide +kernel
theorem dM_symbolOf_36 : decode cM_symbolOf 36 = .ok (.invokestatic 85, 3) := by decide +kernel
theorem dM_symbolOf_39 : decode cM_symbolOf 39 = .ok (.istore 7, 2) := by decide +kernel
theorem dM_symbolOf_41 : decode cM_symbolOf 41 = .ok (.lload_n 0, 1) := by decide +kernel
theorem dM_symbolOf_42 : decode cM_symbolOf 42 = .ok (.lload 4, 2) := by decide +kernel
theorem dM_symbolOf_44 : decode cM_symbolOf 44 = .ok (.invokestatic 89, 3) := by decide +kernel
theorem dM_symbolOf_47 : decode cM_symbolOf 47 = .ok (.lstore 8, 2) := by decide +kernel
theorem dM_symbolOf_49 : decode cM_symbolOf 49 = .ok (.lload_n 2, 1) := by decide +kernel
theorem dM_symbolOf_50 : decode cM_symbolOf 50 = .ok (.lload 4, 2) := by decide +kernel
theorem dM_symbolOf_52 : decode cM_symbolOf 52 = .ok (.invokestatic 89, 3) := by decide +kernel
theorem dM_symbolOf_55 : decode cM_symbolOf 55 = .ok (.lstore 10, 2) := by decide +kernel
theorem dM_symbolOf_57 : decode cM_symbolOf 57 = .ok (.lload 4, 2) := by decide +kernel
theorem dM_symbolOf_59 : decode cM_symbolOf 59 = .ok (.ldc2_w 39, 3) := by decide +kernel
theorem dM_symbolOf_62 : decode cM_symbolOf 62 = .ok (.lcmp, 1) := by decide +kernel
theorem dM_symbolOf_63 : decode cM_symbolOf 63 = .ok (.ifCond .ne 69, 3) := by decide +kernel
theorem dM_symbolOf_66 : decode cM_symbolOf 66 = .ok (.lload 8, 2) := by decide +kernel
theorem dM_symbolOf_68 : decode cM_symbolOf 68 = .ok (.lconst 1, 1) := by decide +kernel
theorem dM_symbolOf_69 : decode cM_symbolOf 69 = .ok (.lsub, 1) := by decide +kernel
theorem dM_symbolOf_70 : decode cM_symbolOf 70 = .ok (.ldc2_w 39, 3) := by decide +kernel
theorem dM_symbolOf_73 : decode cM_symbolOf 73 = .ok (.ldiv, 1) := by decide +kernel
theorem dM_symbolOf_74 : decode cM_symbolOf 74 = .ok (.lload 10, 2) := by decide +kernel
theorem dM_symbolOf_76 : decode cM_symbolOf 76 = .ok (.lconst 1, 1) := by decide +kernel
theorem dM_symbolOf_77 : decode cM_symbolOf 77 = .ok (.lsub, 1) := by decide +kernel
theorem dM_symbolOf_78 : decode cM_symbolOf 78 = .ok (.ldc2_w 39, 3) := by decide +kernel
theorem dM_symbolOf_81 : decode cM_symbolOf 81 = .ok (.ldiv, 1) := by decide +kernel
theorem dM_symbolOf_82 : decode cM_symbolOf 82 = .ok (.lmul, 1) := by decide +kernel
theorem dM_symbolOf_83 : decode cM_symbolOf 83 = .ok (.iload 6, 2) := by decide +kernel
theorem dM_symbolOf_85 : decode cM_symbolOf 85 = .ok (.i2l, 1) := by decide +kernel
theorem dM_symbolOf_86 : decode cM_symbolOf 86 = .ok (.lload 10, 2) := by decide +kernel
theorem dM_symbolOf_88 : decode cM_symbolOf 88 = .ok (.lload 10, 2) := by decide +kernel
theorem dM_symbolOf_90 : decode cM_symbolOf 90 = .ok (.lmul, 1) := by decide +kernel
theorem dM_symbolOf_91 : decode cM_symbolOf 91 = .ok (.lconst 1, 1) := by decide +kernel
theorem dM_symbolOf_92 : decode cM_symbolOf 92 = .ok (.lsub, 1) := by decide +kernel
theorem dM_symbolOf_93 : decode cM_symbolOf 93 = .ok (.ldc2_w 83, 3) := by decide +kernel
theorem dM_symbolOf_96 : decode cM_symbolOf 96 = .ok (.ldiv, 1) := by decide +kernel
theorem dM_symbolOf_97 : decode cM_symbolOf 97 = .ok (.lmul, 1) := by decide +kernel
theorem dM_symbolOf_98 : decode cM_symbolOf 98 = .ok (.ladd, 1) := by decide +kernel
theorem dM_symbolOf_99 : decode cM_symbolOf 99 = .ok (.iload 7, 2) := by decide +kernel
theorem dM_symbolOf_101 : decode cM_symbolOf 101 = .ok (.i2l, 1) := by decide +kernel
theorem dM_symbolOf_102 : decode cM_symbolOf 102 = .ok (.lload 8, 2) := by decide +kernel
theorem dM_symbolOf_104 : decode cM_symbolOf 104 = .ok (.lload 8, 2) := by decide +kernel
theorem dM_symbolOf_106 : decode cM_symbolOf 106 = .ok (.lmul, 1) := by decide +kernel
theorem dM_symbolOf_107 : decode cM_symbolOf 107 = .ok (.lconst 1, 1) := by decide +kernel
theorem dM_symbolOf_108 : decode cM_symbolOf 108 = .ok (.lsub, 1) := by decide +kernel
theorem dM_symbolOf_109 : decode cM_symbolOf 109 = .ok (.ldc2_w 83, 3) := by decide +kernel
theorem dM_symbolOf_112 : decode cM_symbolOf 112 = .ok (.ldiv, 1) := by decide +kernel
theorem dM_symbolOf_113 : decode cM_symbolOf 113 = .ok (.lmul, 1) := by decide +kernel
theorem dM_symbolOf_114 : decode cM_symbolOf 114 = .ok (.ladd, 1) := by decide +kernel
theorem dM_symbolOf_115 : decode cM_symbolOf 115 = .ok (.lstore 12, 2) := by decide +kernel
theorem dM_symbolOf_117 : decode cM_symbolOf 117 = .ok (.lload 12, 2) := by decide +kernel
theorem dM_symbolOf_119 : decode cM_symbolOf 119 = .ok (.lconst 1, 1) := by decide +kernel
theorem dM_symbolOf_120 : decode cM_symbolOf 120 = .ok (.land, 1) := by decide +kernel
theorem dM_symbolOf_121 : decode cM_symbolOf 121 = .ok (.lconst 1, 1) := by decide +kernel
theorem dM_symbolOf_122 : decode cM_symbolOf 122 = .ok (.lcmp, 1) := by decide +kernel
theorem dM_symbolOf_123 : decode cM_symbolOf 123 = .ok (.ifCond .ne 7, 3) := by decide +kernel
theorem dM_symbolOf_126 : decode cM_symbolOf 126 = .ok (.iconst (-1), 1) := by decide +kernel
theorem dM_symbolOf_127 : decode cM_symbolOf 127 = .ok (.goto 4, 3) := by decide +kernel
theorem dM_symbolOf_130 : decode cM_symbolOf 130 = .ok (.iconst 1, 1) := by decide +kernel
theorem dM_symbolOf_131 : decode cM_symbolOf 131 = .ok (.ireturn, 1) := by decide +kernel
theorem dM_symbolOf_132 : decode cM_symbolOf 132 = .ok (.iload 6, 2) := by decide +kernel
theorem dM_symbolOf_134 : decode cM_symbolOf 134 = .ok (.iload 7, 2) := by decide +kernel
theorem dM_symbolOf_136 : decode cM_symbolOf 136 = .ok (.imul, 1) := by decide +kernel
theorem dM_symbolOf_137 : decode cM_symbolOf 137 = .ok (.iconst 1, 1) := by decide +kernel
theorem dM_symbolOf_138 : decode cM_symbolOf 138 = .ok (.if_icmp .ne 24, 3) := by decide +kernel
theorem dM_symbolOf_141 : decode cM_symbolOf 141 = .ok (.lload 4, 2) := by decide +kernel
theorem dM_symbolOf_143 : decode cM_symbolOf 143 = .ok (.lconst 1, 1) := by decide +kernel
theorem dM_symbolOf_144 : decode cM_symbolOf 144 = .ok (.lsub, 1) := by decide +kernel
theorem dM_symbolOf_145 : decode cM_symbolOf 145 = .ok (.ldc2_w 39, 3) := by decide +kernel
theorem dM_symbolOf_148 : decode cM_symbolOf 148 = .ok (.ldiv, 1) := by decide +kernel
theorem dM_symbolOf_149 : decode cM_symbolOf 149 = .ok (.ldc2_w 39, 3) := by decide +kernel
theorem dM_symbolOf_152 : decode cM_symbolOf 152 = .ok (.lrem, 1) := by decide +kernel
theorem dM_symbolOf_153 : decode cM_symbolOf 153 = .ok (.lconst 1, 1) := by decide +kernel
theorem dM_symbolOf_154 : decode cM_symbolOf 154 = .ok (.lcmp, 1) := by decide +kernel
theorem dM_symbolOf_155 : decode cM_symbolOf 155 = .ok (.ifCond .ne 7, 3) := by decide +kernel
theorem dM_symbolOf_158 : decode cM_symbolOf 158 = .ok (.iconst (-1), 1) := by decide +kernel
theorem dM_symbolOf_159 : decode cM_symbolOf 159 = .ok (.goto 4, 3) := by decide +kernel
theorem dM_symbolOf_162 : decode cM_symbolOf 162 = .ok (.iconst 1, 1) := by decide +kernel
theorem dM_symbolOf_163 : decode cM_symbolOf 163 = .ok (.istore 12, 2) := by decide +kernel
theorem dM_symbolOf_165 : decode cM_symbolOf 165 = .ok (.iload 7, 2) := by decide +kernel
theorem dM_symbolOf_167 : decode cM_symbolOf 167 = .ok (.iconst 1, 1) := by decide +kernel
theorem dM_symbolOf_168 : decode cM_symbolOf 168 = .ok (.if_icmp .ne 19, 3) := by decide +kernel
theorem dM_symbolOf_171 : decode cM_symbolOf 171 = .ok (.lload 8, 2) := by decide +kernel
theorem dM_symbolOf_173 : decode cM_symbolOf 173 = .ok (.lload 4, 2) := by decide +kernel
theorem dM_symbolOf_175 : decode cM_symbolOf 175 = .ok (.invokestatic 92, 3) := by decide +kernel
theorem dM_symbolOf_178 : decode cM_symbolOf 178 = .ok (.ifCond .ne 9, 3) := by decide +kernel
theorem dM_symbolOf_181 : decode cM_symbolOf 181 = .ok (.iload 12, 2) := by decide +kernel
theorem dM_symbolOf_183 : decode cM_symbolOf 183 = .ok (.ineg, 1) := by decide +kernel
theorem dM_symbolOf_184 : decode cM_symbolOf 184 = .ok (.goto 5, 3) := by decide +kernel
theorem dM_symbolOf_187 : decode cM_symbolOf 187 = .ok (.iload 12, 2) := by decide +kernel
theorem dM_symbolOf_189 : decode cM_symbolOf 189 = .ok (.istore 12, 2) := by decide +kernel
theorem dM_symbolOf_191 : decode cM_symbolOf 191 = .ok (.iload 6, 2) := by decide +kernel
theorem dM_symbolOf_193 : decode cM_symbolOf 193 = .ok (.iconst 1, 1) := by decide +kernel
theorem dM_symbolOf_194 : decode cM_symbolOf 194 = .ok (.if_icmp .ne 19, 3) := by decide +kernel
theorem dM_symbolOf_197 : decode cM_symbolOf 197 = .ok (.lload 10, 2) := by decide +kernel
theorem dM_symbolOf_199 : decode cM_symbolOf 199 = .ok (.lload 4, 2) := by decide +kernel
theorem dM_symbolOf_201 : decode cM_symbolOf 201 = .ok (.invokestatic 92, 3) := by decide +kernel
theorem dM_symbolOf_204 : decode cM_symbolOf 204 = .ok (.ifCond .ne 9, 3) := by decide +kernel
theorem dM_symbolOf_207 : decode cM_symbolOf 207 = .ok (.iload 12, 2) := by decide +kernel
theorem dM_symbolOf_209 : decode cM_symbolOf 209 = .ok (.ineg, 1) := by decide +kernel
theorem dM_symbolOf_210 : decode cM_symbolOf 210 = .ok (.goto 5, 3) := by decide +kernel
theorem dM_symbolOf_213 : decode cM_symbolOf 213 = .ok (.iload 12, 2) := by decide +kernel
theorem dM_symbolOf_215 : decode cM_symbolOf 215 = .ok (.ireturn, 1) := by decide +kernel
abbrev cM_isPrime : ByteArray := prog_8_method_22_code
abbrev yM_isPrime : MethodName := ⟨"RationalFormsModel", "isPrime", "(J)Z"⟩
abbrev wsM_isPrime : List Cond := .code yM_isPrime cM_isPrime 4 (some .boolean) :: GG
theorem dM_isPrime_0 : decode cM_isPrime 0 = .ok (.ldc2_w 39, 3) := by decide +kernel
theorem dM_isPrime_3 : decode cM_isPrime 3 = .ok (.lstore_n 2, 1) := by decide +kernel
theorem dM_isPrime_4 : decode cM_isPrime 4 = .ok (.lload_n 2, 1) := by decide +kernel
theorem dM_isPrime_5 : decode cM_isPrime 5 = .ok (.lload_n 2, 1) := by decide +kernel
theorem dM_isPrime_6 : decode cM_isPrime 6 = .ok (.lmul, 1) := by decide +kernel
theorem dM_isPrime_7 : decode cM_isPrime 7 = .ok (.lload_n 0, 1) := by decide +kernel
theorem dM_isPrime_8 : decode cM_isPrime 8 = .ok (.lcmp, 1) := by decide +kernel
theorem dM_isPrime_9 : decode cM_isPrime 9 = .ok (.ifCond .gt 20, 3) := by decide +kernel
theorem dM_isPrime_12 : decode cM_isPrime 12 = .ok (.lload_n 0, 1) := by decide +kernel
theorem dM_isPrime_13 : decode cM_isPrime 13 = .ok (.lload_n 2, 1) := by decide +kernel
theorem dM_isPrime_14 : decode cM_isPrime 14 = .ok (.lrem, 1) := by decide +kernel
theorem dM_isPrime_15 : decode cM_isPrime 15 = .ok (.lconst 0, 1) := by decide +kernel
theorem dM_isPrime_16 : decode cM_isPrime 16 = .ok (.lcmp, 1) := by decide +kernel
theorem dM_isPrime_17 : decode cM_isPrime 17 = .ok (.ifCond .ne 5, 3) := by decide +kernel
theorem dM_isPrime_20 : decode cM_isPrime 20 = .ok (.iconst 0, 1) := by decide +kernel
theorem dM_isPrime_21 : decode cM_isPrime 21 = .ok (.ireturn, 1) := by decide +kernel
theorem dM_isPrime_22 : decode cM_isPrime 22 = .ok (.lload_n 2, 1) := by decide +kernel
theorem dM_isPrime_23 : decode cM_isPrime 23 = .ok (.lconst 1, 1) := by decide +kernel
theorem dM_isPrime_24 : decode cM_isPrime 24 = .ok (.ladd, 1) := by decide +kernel
theorem dM_isPrime_25 : decode cM_isPrime 25 = .ok (.lstore_n 2, 1) := by decide +kernel
theorem dM_isPrime_26 : decode cM_isPrime 26 = .ok (.goto (-22), 3) := by decide +kernel
theorem dM_isPrime_29 : decode cM_isPrime 29 = .ok (.lload_n 0, 1) := by decide +kernel
theorem dM_isPrime_30 : decode cM_isPrime 30 = .ok (.lconst 1, 1) := by decide +kernel
theorem dM_isPrime_31 : decode cM_isPrime 31 = .ok (.lcmp, 1) := by decide +kernel
theorem dM_isPrime_32 : decode cM_isPrime 32 = .ok (.ifCond .le 7, 3) := by decide +kernel
theorem dM_isPrime_35 : decode cM_isPrime 35 = .ok (.iconst 1, 1) := by decide +kernel
theorem dM_isPrime_36 : decode cM_isPrime 36 = .ok (.goto 4, 3) := by decide +kernel
theorem dM_isPrime_39 : decode cM_isPrime 39 = .ok (.iconst 0, 1) := by decide +kernel
theorem dM_isPrime_40 : decode cM_isPrime 40 = .ok (.ireturn, 1) := by decide +kernel
abbrev cM_isPlace : ByteArray := prog_8_method_23_code
abbrev yM_isPlace : MethodName := ⟨"RationalFormsModel", "isPlace", "(I)Z"⟩
abbrev wsM_isPlace : List Cond := .code yM_isPlace cM_isPlace 1 (some .boolean) :: GG
theorem dM_isPlace_0 : decode cM_isPlace 0 = .ok (.iload_n 0, 1) := by decide +kernel
theorem dM_isPlace_1 : decode cM_isPlace 1 = .ok (.ifCond .eq 18, 3) := by decide +kernel
theorem dM_isPlace_4 : decode cM_isPlace 4 = .ok (.iload_n 0, 1) := by decide +kernel
theorem dM_isPlace_5 : decode cM_isPlace 5 = .ok (.sipush 1000, 3) := by decide +kernel
theorem dM_isPlace_8 : decode cM_isPlace 8 = .ok (.if_icmp .gt 15, 3) := by decide +kernel
theorem dM_isPlace_11 : decode cM_isPlace 11 = .ok (.iload_n 0, 1) := by decide +kernel
theorem dM_isPlace_12 : decode cM_isPlace 12 = .ok (.i2l, 1) := by decide +kernel
theorem dM_isPlace_13 : decode cM_isPlace 13 = .ok (.invokestatic 111, 3) := by decide +kernel
theorem dM_isPlace_16 : decode cM_isPlace 16 = .ok (.ifCond .eq 7, 3) := by decide +kernel
theorem dM_isPlace_19 : decode cM_isPlace 19 = .ok (.iconst 1, 1) := by decide +kernel
theorem dM_isPlace_20 : decode cM_isPlace 20 = .ok (.goto 4, 3) := by decide +kernel
theorem dM_isPlace_23 : decode cM_isPlace 23 = .ok (.iconst 0, 1) := by decide +kernel
theorem dM_isPlace_24 : decode cM_isPlace 24 = .ok (.ireturn, 1) := by decide +kernel
set_option maxRecDepth 20000 in
theorem wd5 : Cond.initialized "RationalFormsModel" ∈ GG := GG_t 5 rfl rfl
set_option maxRecDepth 20000 in
theorem wd522 : Cond.constantLong "RationalFormsModel" 39 (2) ∈ GG := GG_t 522 rfl rfl
set_option maxRecDepth 20000 in
theorem wd538 : Cond.constantLong "RationalFormsModel" 37 (-1) ∈ GG := GG_t 538 rfl rfl
set_option maxRecDepth 20000 in
theorem wd546 : Cond.methodLink "RationalFormsModel" 41 yM_common ∈ GG := GG_t 546 rfl rfl
set_option maxRecDepth 20000 in
theorem wd547 : Cond.static yM_common ∈ GG := GG_t 547 rfl rfl
set_option maxRecDepth 20000 in
theorem wd548 : Cond.code yM_common cM_common 10 (some .long) ∈ GG := GG_t 548 rfl rfl
set_option maxRecDepth 20000 in
theorem wd556 : Cond.methodLink "RationalFormsModel" 111 yM_isPrime ∈ GG := GG_t 556 rfl rfl
set_option maxRecDepth 20000 in
theorem wd557 : Cond.static yM_isPrime ∈ GG := GG_t 557 rfl rfl
set_option maxRecDepth 20000 in
theorem wd558 : Cond.code yM_isPrime cM_isPrime 4 (some .boolean) ∈ GG := GG_t 558 rfl rfl
set_option maxRecDepth 20000 in
theorem wd562 : Cond.methodLink "RationalFormsModel" 85 yM_order ∈ GG := GG_t 562 rfl rfl
set_option maxRecDepth 20000 in
theorem wd563 : Cond.static yM_order ∈ GG := GG_t 563 rfl rfl
set_option maxRecDepth 20000 in
theorem wd564 : Cond.code yM_order cM_order 4 (some .int) ∈ GG := GG_t 564 rfl rfl
set_option maxRecDepth 20000 in
theorem wd565 : Cond.methodLink "RationalFormsModel" 89 yM_unit ∈ GG := GG_t 565 rfl rfl
set_option maxRecDepth 20000 in
theorem wd566 : Cond.static yM_unit ∈ GG := GG_t 566 rfl rfl
set_option maxRecDepth 20000 in
theorem wd567 : Cond.code yM_unit cM_unit 10 (some .long) ∈ GG := GG_t 567 rfl rfl
set_option maxRecDepth 20000 in
theorem wd568 : Cond.constantLong "RationalFormsModel" 83 (8) ∈ GG := GG_t 568 rfl rfl
set_option maxRecDepth 20000 in
theorem wd569 : Cond.methodLink "RationalFormsModel" 92 yM_isRemainder ∈ GG := GG_t 569 rfl rfl
set_option maxRecDepth 20000 in
theorem wd570 : Cond.static yM_isRemainder ∈ GG := GG_t 570 rfl rfl
set_option maxRecDepth 20000 in
theorem wd571 : Cond.code yM_isRemainder cM_isRemainder 10 (some .boolean) ∈ GG := GG_t 571 rfl rfl
set_option maxRecDepth 100000 in
set_option maxHeartbeats 4000000 in
theorem kM_isForm (l : Launch) (f : Int) (hf : b32 f) : PM l yM_isForm wsM_isForm (rmd 0) [.int (ji f)] (fun r => r = .int (ji (bi (f = 0 ∨ f = 1)))) := by
  refine PM.ofG (by decide +kernel) (Nat.le_of_ble_eq_true rfl) ?_
  intro p_ e_ s_ m_ a_ b_ t_ c_ hx hb hml hr hk hg hown ls hl
  have hl : lv_has ls 1 [(0, .int (ji f))] := hl
  refine lv_iload_n hx hb dM_isForm_0 rfl (lv_at hl 0 rfl) ?_
  refine j_if_eq hx hb (by omega) dM_isForm_1 rfl (fun h1 => ?_) (fun h1 => ?_)
  · refine j_iconst hx hb dM_isForm_9 ?_
    refine lv_goto hx hb dM_isForm_10 rfl ?_
    exact pm_zret hx hb hr hk dM_isForm_14 nar_1 (by rw [bi_t (Or.inl h1)])
  · refine lv_iload_n hx hb dM_isForm_4 rfl (lv_at hl 0 rfl) ?_
    refine j_iconst hx hb dM_isForm_5 ?_
    refine j_icmp_ne hx hb (by omega) (by omega) dM_isForm_6 rfl (fun h2 => ?_) (fun h2 => ?_)
    · refine j_iconst hx hb dM_isForm_13 ?_
      exact pm_zret hx hb hr hk dM_isForm_14 nar_0 (by rw [bi_f (by omega)])
    · refine j_iconst hx hb dM_isForm_9 ?_
      refine lv_goto hx hb dM_isForm_10 rfl ?_
      exact pm_zret hx hb hr hk dM_isForm_14 nar_1 (by rw [bi_t (Or.inr h2)])

set_option maxRecDepth 100000 in
set_option maxHeartbeats 4000000 in
theorem kM_isPrime (l : Launch) (n : Int) (hn : -4611686018427387904 ≤ n ∧ n ≤ 4611686018427387904) : PM l yM_isPrime wsM_isPrime (rmd 0) [.long (jl n)] (fun r => r = .int (ji (bi (prm n.toNat)))) := by
  refine PM.ofG (by decide +kernel) (Nat.le_of_ble_eq_true rfl) ?_
  intro p_ e_ s_ m_ a_ b_ t_ c_ hx hb hml hr hk hg hown ls hl
  have hl : lv_has ls 4 [(0, .long (jl n))] := hl
  have loop : ∀ (N : Nat) (d : Int) (ls : Array Slot), 2147483650 - d < N → d ≤ 2147483649 → 2 ≤ d → (∀ e : Nat, 1 < e → (e : Int) < d → ¬ e ∣ n.toNat) → lv_has ls 4 [(2, .long (jl d)), (0, .long (jl n))] → W p_ l e_ (rmd 0) s_ m_ a_ b_ t_ c_ s_.heap [] 0 0 (XQ b_ (pmQ (fun r => r = .int (ji (bi (prm n.toNat))))) a_ s_ 0 0 (fun _ => False)) (F0 m_ 4 ls []) := by
    intro N
    induction N with
    | zero => intro d ls hm h2; omega
    | succ N ih =>
      intro d ls hm h2 h3 h4 hl
      refine lv_lload_n hx hb dM_isPrime_4 rfl (lv_at hl 0 rfl) ?_
      refine lv_lload_n hx hb dM_isPrime_5 rfl (lv_at hl 0 rfl) ?_
      refine j_lmul hx hb dM_isPrime_6 ?_
      refine lv_lload_n hx hb dM_isPrime_7 rfl (lv_at hl 1 rfl) ?_
      refine j_lc_gt hx hb (sq_b64 (by omega) (by omega)) (by omega) dM_isPrime_8 dM_isPrime_9 rfl (fun h5 => ?_) (fun h5 => ?_)
      · refine lv_lload_n hx hb dM_isPrime_29 rfl (lv_at hl 1 rfl) ?_
        refine j_lconst1 hx hb dM_isPrime_30 ?_
        refine j_lc_le hx hb (by omega) (by omega) dM_isPrime_31 dM_isPrime_32 rfl (fun h6 => ?_) (fun h6 => ?_)
        · have hp : ¬ prm n.toNat := fun q => by have := q.1; omega
          refine j_iconst hx hb dM_isPrime_39 ?_
          exact pm_zret hx hb hr hk dM_isPrime_40 nar_0 (by rw [bi_f hp])
        · have h9 : ((d.toNat * d.toNat : Nat) : Int) = d * d := by rw [Int.natCast_mul, Int.toNat_of_nonneg (by omega)]
          have hp : prm n.toNat := prm_of (d := d.toNat) (by omega) (fun e e1 e2 => h4 e e1 (by omega)) (by omega)
          refine j_iconst hx hb dM_isPrime_35 ?_
          refine lv_goto hx hb dM_isPrime_36 rfl ?_
          exact pm_zret hx hb hr hk dM_isPrime_40 nar_1 (by rw [bi_t hp])
      · have h8 := sq_ge h3
        refine lv_lload_n hx hb dM_isPrime_12 rfl (lv_at hl 1 rfl) ?_
        refine lv_lload_n hx hb dM_isPrime_13 rfl (lv_at hl 0 rfl) ?_
        refine j_lrem hx hb (by omega) (by omega) (by omega) dM_isPrime_14 ?_
        refine j_lconst0 hx hb dM_isPrime_15 ?_
        refine j_lc_ne hx hb (tm_b64 (by omega)) (by decide) dM_isPrime_16 dM_isPrime_17 rfl (fun h7 => ?_) (fun h7 => ?_)
        · have hd : ¬ d.toNat ∣ n.toNat := fun q => h7 (tm_0.mpr ((nd_int (by omega) (by omega)).mp q))
          refine lv_lload_n hx hb dM_isPrime_22 rfl (lv_at hl 0 rfl) ?_
          refine j_lconst1 hx hb dM_isPrime_23 ?_
          refine j_ladd hx hb dM_isPrime_24 ?_
          refine lv_lstore_n hx hb dM_isPrime_25 rfl hl (by decide) rfl (fun ls hl => ?_)
          have hl : lv_has ls 4 [(2, .long (jl (d + 1))), (0, .long (jl n))] := hl
          refine lv_goto hx hb dM_isPrime_26 rfl ?_
          refine ih (d + 1) ls (by omega) ?_ (by omega) (fun e e1 e2 => ?_) hl
          · rcases Int.lt_or_le d 2147483649 with h9 | h9
            · omega
            · have : 2147483649 * 2147483649 ≤ d * d := Int.mul_le_mul h9 h9 (by omega) (by omega)
              omega
          · rcases Int.lt_or_le (e : Int) d with h9 | h9
            · exact h4 e e1 h9
            · have : e = d.toNat := by omega
              rw [this]; exact hd
        · have hd : d.toNat ∣ n.toNat := (nd_int (by omega) (by omega)).mpr (tm_0.mp h7)
          have hp : ¬ prm n.toNat := fun q => q.2 d.toNat (by omega) (by omega) hd
          refine j_iconst hx hb dM_isPrime_20 ?_
          exact pm_zret hx hb hr hk dM_isPrime_21 nar_0 (by rw [bi_f hp])
  refine j_ldc2 (z := 2) hx hb hown hg wd522 rfl dM_isPrime_0 ?_
  refine lv_lstore_n hx hb dM_isPrime_3 rfl hl (by decide) rfl (fun ls hl => ?_)
  have hl : lv_has ls 4 [(2, .long (jl 2)), (0, .long (jl n))] := hl
  exact loop 2147483649 2 ls (by omega) (by omega) (by omega) (fun e e1 e2 => by omega) hl

set_option maxRecDepth 100000 in
set_option maxHeartbeats 4000000 in
theorem kM_isPlace (l : Launch) (n : Int) (hn : b32 n) : PM l yM_isPlace wsM_isPlace (rmd 1) [.int (ji n)] (fun r => r = .int (ji (bi (n = 0 ∨ (n ≤ 1000 ∧ prm n.toNat))))) := by
  refine PM.ofG (by decide +kernel) (Nat.le_of_ble_eq_true rfl) ?_
  intro p_ e_ s_ m_ a_ b_ t_ c_ hx hb hml hr hk hg hown ls hl
  have hl : lv_has ls 1 [(0, .int (ji n))] := hl
  refine lv_iload_n hx hb dM_isPlace_0 rfl (lv_at hl 0 rfl) ?_
  refine j_if_eq hx hb (by omega) dM_isPlace_1 rfl (fun h1 => ?_) (fun h1 => ?_)
  · refine j_iconst hx hb dM_isPlace_19 ?_
    refine lv_goto hx hb dM_isPlace_20 rfl ?_
    exact pm_zret hx hb hr hk dM_isPlace_24 nar_1 (by rw [bi_t (Or.inl h1)])
  · refine lv_iload_n hx hb dM_isPlace_4 rfl (lv_at hl 0 rfl) ?_
    refine j_sipush hx hb dM_isPlace_5 rfl ?_
    refine j_icmp_gt hx hb (by omega) (by omega) dM_isPlace_8 rfl (fun h2 => ?_) (fun h2 => ?_)
    · refine j_iconst hx hb dM_isPlace_23 ?_
      exact pm_zret hx hb hr hk dM_isPlace_24 nar_0 (by rw [bi_f (by omega)])
    · refine lv_iload_n hx hb dM_isPlace_11 rfl (lv_at hl 0 rfl) ?_
      refine j_i2l hx hb (by omega) dM_isPlace_12 ?_
      refine pm_G (As := [.long (jl n)]) (rest := []) hx hb hml hown hg hl (kM_isPrime l n (by omega)) wd556 wd557 wd5 wd558 ⟨rfl, rfl⟩ (n := 1) (by decide +kernel) rfl ⟨by decide, by decide⟩ rfl (Nat.le_of_ble_eq_true rfl) dM_isPlace_13 ⟨Nat.zero_le _, Nat.zero_le _⟩ (fun r hr9 => ?_)
      subst hr9
      refine j_if_eq hx hb (bi_b32 _) dM_isPlace_16 rfl (fun h3 => ?_) (fun h3 => ?_)
      · have := bi_eq h3
        refine j_iconst hx hb dM_isPlace_23 ?_
        exact pm_zret hx hb hr hk dM_isPlace_24 nar_0 (by rw [bi_f (fun q => by rcases q with q | q; exact h1 q; exact this q.2)])
      · have := bi_ne h3
        refine j_iconst hx hb dM_isPlace_19 ?_
        refine lv_goto hx hb dM_isPlace_20 rfl ?_
        exact pm_zret hx hb hr hk dM_isPlace_24 nar_1 (by rw [bi_t (Or.inr ⟨h2, this⟩)])

set_option maxRecDepth 100000 in
set_option maxHeartbeats 4000000 in
theorem kM_common (l : Launch) (a b : Int) (ha : -9223372036854775807 ≤ a ∧ a ≤ 9223372036854775807) (hb9 : -9223372036854775807 ≤ b ∧ b ≤ 9223372036854775807) : PM l yM_common wsM_common (rmd 0) [.long (jl a), .long (jl b)] (fun r => r = .long (jl (Int.gcd a b : Int))) := by
  refine PM.ofG (by decide +kernel) (Nat.le_of_ble_eq_true rfl) ?_
  intro p_ e_ s_ m_ a_ b_ t_ c_ hx hb hml hr hk hg hown ls hl
  have hl : lv_has ls 10 [(0, .long (jl a)), (2, .long (jl b))] := hl
  have loop : ∀ (N x y : Nat) (ls : Array Slot), y < N → x < 9223372036854775808 → y < 9223372036854775808 → Nat.gcd x y = Int.gcd a b → lv_has ls 10 [(6, .long (jl ((y:Int)))), (4, .long (jl ((x:Int)))), (0, .long (jl a)), (2, .long (jl b))] → W p_ l e_ (rmd 0) s_ m_ a_ b_ t_ c_ s_.heap [] 0 0 (XQ b_ (pmQ (fun r => r = .long (jl (Int.gcd a b : Int)))) a_ s_ 0 0 (fun _ => False)) (F0 m_ 28 ls []) := by
    intro N
    induction N with
    | zero => intro x y ls hm; omega
    | succ N ih =>
      intro x y ls hm hx0 hy0 hw hl
      refine lv_lload hx hb dM_common_28 (lv_at hl 0 rfl) ?_
      refine j_lconst0 hx hb dM_common_30 ?_
      refine j_lc_eq hx hb (by omega) (by omega) dM_common_31 dM_common_32 rfl (fun h1 => ?_) (fun h1 => ?_)
      · have hy : y = 0 := by omega
        subst hy
        rw [Nat.gcd_zero_right] at hw
        refine lv_lload hx hb dM_common_53 (lv_at hl 1 rfl) ?_
        exact pm_lret hx hb hr hk dM_common_55 (by rw [hw])
      · have hlt := Nat.mod_lt x (show 0 < y by omega)
        refine lv_lload hx hb dM_common_35 (lv_at hl 1 rfl) ?_
        refine lv_lload hx hb dM_common_37 (lv_at hl 0 rfl) ?_
        refine j_lrem hx hb (by omega) (by omega) (by omega) dM_common_39 ?_
        refine lv_lstore hx hb dM_common_40 hl (by decide) rfl (fun ls hl => ?_)
        have hl : lv_has ls 10 [(8, .long (jl (((x:Int)).tmod ((y:Int))))), (6, .long (jl ((y:Int)))), (4, .long (jl ((x:Int)))), (0, .long (jl a)), (2, .long (jl b))] := hl
        refine lv_lload hx hb dM_common_42 (lv_at hl 1 rfl) ?_
        refine lv_lstore hx hb dM_common_44 hl (by decide) rfl (fun ls hl => ?_)
        have hl : lv_has ls 10 [(4, .long (jl ((y:Int)))), (8, .long (jl (((x:Int)).tmod ((y:Int))))), (6, .long (jl ((y:Int)))), (0, .long (jl a)), (2, .long (jl b))] := hl
        refine lv_lload hx hb dM_common_46 (lv_at hl 1 rfl) ?_
        refine lv_lstore hx hb dM_common_48 hl (by decide) rfl (fun ls hl => ?_)
        have hl : lv_has ls 10 [(6, .long (jl (((x:Int)).tmod ((y:Int))))), (4, .long (jl ((y:Int)))), (8, .long (jl (((x:Int)).tmod ((y:Int))))), (0, .long (jl a)), (2, .long (jl b))] := hl
        refine lv_goto hx hb dM_common_50 rfl ?_
        rw [tm_nat] at hl
        refine ih y (x % y) ls (by omega) hy0 (by omega) ?_ (lv_sub hl [0, 1, 3, 4] rfl)
        rw [← hw, Nat.gcd_comm x y, Nat.gcd_rec y x, Nat.gcd_comm]
  have k14 : ∀ (ls : Array Slot), lv_has ls 10 [(4, .long (jl ((a.natAbs:Int)))), (0, .long (jl a)), (2, .long (jl b))] → W p_ l e_ (rmd 0) s_ m_ a_ b_ t_ c_ s_.heap [] 0 0 (XQ b_ (pmQ (fun r => r = .long (jl (Int.gcd a b : Int)))) a_ s_ 0 0 (fun _ => False)) (F0 m_ 14 ls []) := by
    intro ls hl
    refine lv_lload_n hx hb dM_common_14 rfl (lv_at hl 2 rfl) ?_
    refine j_lconst0 hx hb dM_common_15 ?_
    refine j_lc_ge hx hb (by omega) (by omega) dM_common_16 dM_common_17 rfl (fun h1 => ?_) (fun h1 => ?_)
    · refine lv_lload_n hx hb dM_common_25 rfl (lv_at hl 2 rfl) ?_
      refine lv_lstore hx hb dM_common_26 hl (by decide) rfl (fun ls hl => ?_)
      have hl : lv_has ls 10 [(6, .long (jl b)), (4, .long (jl ((a.natAbs:Int)))), (0, .long (jl a)), (2, .long (jl b))] := hl
      have e1 : b = (b.natAbs : Int) := by omega
      exact loop (b.natAbs + 1) a.natAbs b.natAbs ls (by omega) (by omega) (by omega) rfl (by rw [← e1]; exact hl)
    · refine lv_lload_n hx hb dM_common_20 rfl (lv_at hl 2 rfl) ?_
      refine j_lneg hx hb dM_common_21 ?_
      refine lv_goto hx hb dM_common_22 rfl ?_
      refine lv_lstore hx hb dM_common_26 hl (by decide) rfl (fun ls hl => ?_)
      have hl : lv_has ls 10 [(6, .long (jl (-b))), (4, .long (jl ((a.natAbs:Int)))), (0, .long (jl a)), (2, .long (jl b))] := hl
      have e1 : -b = (b.natAbs : Int) := by omega
      rw [e1] at hl
      exact loop (b.natAbs + 1) a.natAbs b.natAbs ls (by omega) (by omega) (by omega) rfl hl
  refine lv_lload_n hx hb dM_common_0 rfl (lv_at hl 0 rfl) ?_
  refine j_lconst0 hx hb dM_common_1 ?_
  refine j_lc_ge hx hb (by omega) (by omega) dM_common_2 dM_common_3 rfl (fun h1 => ?_) (fun h1 => ?_)
  · refine lv_lload_n hx hb dM_common_11 rfl (lv_at hl 0 rfl) ?_
    refine lv_lstore hx hb dM_common_12 hl (by decide) rfl (fun ls hl => ?_)
    have hl : lv_has ls 10 [(4, .long (jl a)), (0, .long (jl a)), (2, .long (jl b))] := hl
    have e1 : a = (a.natAbs : Int) := by omega
    exact k14 ls (by rw [← e1]; exact hl)
  · refine lv_lload_n hx hb dM_common_6 rfl (lv_at hl 0 rfl) ?_
    refine j_lneg hx hb dM_common_7 ?_
    refine lv_goto hx hb dM_common_8 rfl ?_
    refine lv_lstore hx hb dM_common_12 hl (by decide) rfl (fun ls hl => ?_)
    have hl : lv_has ls 10 [(4, .long (jl (-a))), (0, .long (jl a)), (2, .long (jl b))] := hl
    have e1 : -a = (a.natAbs : Int) := by omega
    rw [e1] at hl
    exact k14 ls hl

set_option maxRecDepth 100000 in
set_option maxHeartbeats 4000000 in
theorem kM_times (l : Launch) (a b : Int) (ha : -9223372036854775807 ≤ a ∧ a ≤ 9223372036854775807) (hb9 : -9223372036854775807 ≤ b ∧ b ≤ 9223372036854775807) (h0 : a ≠ 0) : PM l yM_times wsM_times (rmd 1) [.long (jl a), .long (jl b)] (fun r => r = .long (jl (pr a b))) := by
  refine PM.ofG (by decide +kernel) (Nat.le_of_ble_eq_true rfl) ?_
  intro p_ e_ s_ m_ a_ b_ t_ c_ hx hb hml hr hk hg hown ls hl
  have hl : lv_has ls 6 [(0, .long (jl a)), (2, .long (jl b))] := hl
  have hgp : 0 < Int.gcd a b := Nat.gcd_pos_of_pos_left _ (by omega)
  have hgle : Int.gcd a b ≤ a.natAbs := Nat.gcd_le_left _ (by omega)
  have d1 : (Int.gcd a b : Int) ∣ a := Int.gcd_dvd_left ..
  have d2 : (Int.gcd a b : Int) ∣ b := Int.gcd_dvd_right ..
  refine lv_lload_n hx hb dM_times_0 rfl (lv_at hl 0 rfl) ?_
  refine lv_lload_n hx hb dM_times_1 rfl (lv_at hl 1 rfl) ?_
  refine pm_G (As := [.long (jl a), .long (jl b)]) (rest := []) hx hb hml hown hg hl (kM_common l a b ha hb9) wd546 wd547 wd5 wd548 ⟨rfl, rfl⟩ (n := 2) (by decide +kernel) rfl ⟨by decide, by decide⟩ rfl (Nat.le_of_ble_eq_true rfl) dM_times_2 ⟨Nat.zero_le _, Nat.zero_le _⟩ (fun r hr9 => ?_)
  subst hr9
  refine lv_lstore hx hb dM_times_5 hl (by decide) rfl (fun ls hl => ?_)
  have hl : lv_has ls 6 [(4, .long (jl ((Int.gcd a b:Int)))), (0, .long (jl a)), (2, .long (jl b))] := hl
  refine lv_lload_n hx hb dM_times_7 rfl (lv_at hl 1 rfl) ?_
  refine lv_lload hx hb dM_times_8 (lv_at hl 0 rfl) ?_
  refine j_ldiv hx hb (by omega) (by omega) (by omega) dM_times_10 ?_
  refine lv_lload_n hx hb dM_times_11 rfl (lv_at hl 2 rfl) ?_
  refine lv_lload hx hb dM_times_12 (lv_at hl 0 rfl) ?_
  refine j_ldiv hx hb (by omega) (by omega) (by omega) dM_times_14 ?_
  refine j_lmul hx hb dM_times_15 ?_
  exact pm_lret hx hb hr hk dM_times_16 (by rw [td_e d1, td_e d2]; rfl)

set_option maxRecDepth 100000 in
set_option maxHeartbeats 4000000 in
theorem kM_order (l : Launch) (a p9 : Int) (ha : b64 a) (hp : 1 < p9) (hp2 : p9 ≤ 2147483647) : PM l yM_order wsM_order (rmd 0) [.long (jl a), .long (jl p9)] (fun r => r = .int (ji (oM a p9))) := by
  refine PM.ofG (by decide +kernel) (Nat.le_of_ble_eq_true rfl) ?_
  intro p_ e_ s_ m_ a_ b_ t_ c_ hx hb hml hr hk hg hown ls hl
  have hl : lv_has ls 4 [(0, .long (jl a)), (2, .long (jl p9))] := hl
  refine lv_lload_n hx hb dM_order_0 rfl (lv_at hl 0 rfl) ?_
  refine lv_lload_n hx hb dM_order_1 rfl (lv_at hl 1 rfl) ?_
  refine j_lrem hx hb (by omega) (by omega) (by omega) dM_order_2 ?_
  refine j_lconst0 hx hb dM_order_3 ?_
  refine j_lc_ne hx hb (tm_b64 ha) (by decide) dM_order_4 dM_order_5 rfl (fun h1 => ?_) (fun h1 => ?_)
  · refine j_iconst hx hb dM_order_12 ?_
    exact pm_iret hx hb hr hk dM_order_13 (by rw [oM, if_neg (fun q => h1 (tm_0.mpr q))])
  · refine j_iconst hx hb dM_order_8 ?_
    refine lv_goto hx hb dM_order_9 rfl ?_
    exact pm_iret hx hb hr hk dM_order_13 (by rw [oM, if_pos (tm_0.mp h1)])

set_option maxRecDepth 100000 in
set_option maxHeartbeats 4000000 in
theorem kM_unit (l : Launch) (a p9 : Int) (ha : b64 a) (hp : 1 < p9) (hp2 : p9 ≤ 2147483647) : PM l yM_unit wsM_unit (rmd 0) [.long (jl a), .long (jl p9)] (fun r => r = .long (jl (uM a p9))) := by
  refine PM.ofG (by decide +kernel) (Nat.le_of_ble_eq_true rfl) ?_
  intro p_ e_ s_ m_ a_ b_ t_ c_ hx hb hml hr hk hg hown ls hl
  have hl : lv_has ls 10 [(0, .long (jl a)), (2, .long (jl p9))] := hl
  have k34 : ∀ (v q : Int) (ls : Array Slot), b64 v → b64 q → 1 < q → v % q = uM a p9 → lv_has ls 10 [(6, .long (jl q)), (4, .long (jl v)), (0, .long (jl a)), (2, .long (jl p9))] → W p_ l e_ (rmd 0) s_ m_ a_ b_ t_ c_ s_.heap [] 0 0 (XQ b_ (pmQ (fun r => r = .long (jl (uM a p9)))) a_ s_ 0 0 (fun _ => False)) (F0 m_ 34 ls []) := by
    intro v q ls hv hq h1 hw hl
    refine lv_lload hx hb dM_unit_34 (lv_at hl 1 rfl) ?_
    refine lv_lload hx hb dM_unit_36 (lv_at hl 0 rfl) ?_
    refine j_lrem hx hb (by omega) (by omega) (by omega) dM_unit_38 ?_
    refine lv_lstore hx hb dM_unit_39 hl (by decide) rfl (fun ls hl => ?_)
    have hl : lv_has ls 10 [(8, .long (jl (v.tmod q))), (6, .long (jl q)), (4, .long (jl v)), (0, .long (jl a)), (2, .long (jl p9))] := hl
    refine lv_lload hx hb dM_unit_41 (lv_at hl 0 rfl) ?_
    refine j_lconst0 hx hb dM_unit_43 ?_
    refine j_lc_ge hx hb (tm_b64 (by omega)) (by decide) dM_unit_44 dM_unit_45 rfl (fun h2 => ?_) (fun h2 => ?_)
    · have hv0 : 0 ≤ v ∨ v.tmod q = 0 := by
        rcases Int.lt_or_le v 0 with h3 | h3
        · have := (tm_sgn v q).2 (by omega)
          omega
        · exact Or.inl h3
      have e1 : v.tmod q = v % q := by
        rcases hv0 with h3 | h3
        · exact tm_nn h3
        · rw [h3, mod0_of_tm h3]
      refine lv_lload hx hb dM_unit_56 (lv_at hl 0 rfl) ?_
      exact pm_lret hx hb hr hk dM_unit_58 (by rw [e1, hw])
    · have h3 : v < 0 := by
        rcases Int.lt_or_le v 0 with h3 | h3
        · exact h3
        · have := (tm_sgn v q).1 h3
          omega
      refine lv_lload hx hb dM_unit_48 (lv_at hl 0 rfl) ?_
      refine lv_lload hx hb dM_unit_50 (lv_at hl 1 rfl) ?_
      refine j_ladd hx hb dM_unit_52 ?_
      refine lv_goto hx hb dM_unit_53 rfl ?_
      exact pm_lret hx hb hr hk dM_unit_58 (by rw [fm_neg h3 (by omega) (by omega), hw])
  have k17 : ∀ (v : Int) (ls : Array Slot), b64 v → v = (if p9 ∣ a then a / p9 else a) → lv_has ls 10 [(4, .long (jl v)), (0, .long (jl a)), (2, .long (jl p9))] → W p_ l e_ (rmd 0) s_ m_ a_ b_ t_ c_ s_.heap [] 0 0 (XQ b_ (pmQ (fun r => r = .long (jl (uM a p9)))) a_ s_ 0 0 (fun _ => False)) (F0 m_ 17 ls []) := by
    intro v ls hv hw hl
    refine lv_lload_n hx hb dM_unit_17 rfl (lv_at hl 2 rfl) ?_
    refine j_ldc2 (z := 2) hx hb hown hg wd522 rfl dM_unit_18 ?_
    refine j_lc_ne hx hb (by omega) (by omega) dM_unit_21 dM_unit_22 rfl (fun h1 => ?_) (fun h1 => ?_)
    · refine lv_lload_n hx hb dM_unit_31 rfl (lv_at hl 2 rfl) ?_
      refine lv_lstore hx hb dM_unit_32 hl (by decide) rfl (fun ls hl => ?_)
      have hl : lv_has ls 10 [(6, .long (jl p9)), (4, .long (jl v)), (0, .long (jl a)), (2, .long (jl p9))] := hl
      exact k34 v p9 ls hv (by omega) hp (by rw [uM, ← hw, um, if_neg h1]) hl
    · refine j_ldc2 (z := 8) hx hb hown hg wd568 rfl dM_unit_25 ?_
      refine lv_goto hx hb dM_unit_28 rfl ?_
      refine lv_lstore hx hb dM_unit_32 hl (by decide) rfl (fun ls hl => ?_)
      have hl : lv_has ls 10 [(6, .long (jl 8)), (4, .long (jl v)), (0, .long (jl a)), (2, .long (jl p9))] := hl
      exact k34 v 8 ls hv (by decide) (by decide) (by rw [uM, ← hw, um, if_pos h1]) hl
  refine lv_lload_n hx hb dM_unit_0 rfl (lv_at hl 0 rfl) ?_
  refine lv_lload_n hx hb dM_unit_1 rfl (lv_at hl 1 rfl) ?_
  refine j_lrem hx hb (by omega) (by omega) (by omega) dM_unit_2 ?_
  refine j_lconst0 hx hb dM_unit_3 ?_
  refine j_lc_ne hx hb (tm_b64 ha) (by decide) dM_unit_4 dM_unit_5 rfl (fun h1 => ?_) (fun h1 => ?_)
  · refine lv_lload_n hx hb dM_unit_14 rfl (lv_at hl 0 rfl) ?_
    refine lv_lstore hx hb dM_unit_15 hl (by decide) rfl (fun ls hl => ?_)
    have hl : lv_has ls 10 [(4, .long (jl a)), (0, .long (jl a)), (2, .long (jl p9))] := hl
    exact k17 a ls ha (by rw [if_neg (fun q => h1 (tm_0.mpr q))]) hl
  · refine lv_lload_n hx hb dM_unit_8 rfl (lv_at hl 0 rfl) ?_
    refine lv_lload_n hx hb dM_unit_9 rfl (lv_at hl 1 rfl) ?_
    refine j_ldiv hx hb (by omega) (by omega) (by omega) dM_unit_10 ?_
    refine lv_goto hx hb dM_unit_11 rfl ?_
    refine lv_lstore hx hb dM_unit_15 hl (by decide) rfl (fun ls hl => ?_)
    have hl : lv_has ls 10 [(4, .long (jl (a.tdiv p9))), (0, .long (jl a)), (2, .long (jl p9))] := hl
    have h2 := tm_0.mp h1
    rw [td_e h2] at hl
    exact k17 (a / p9) ls (div_b64 ha hp) (by rw [if_pos h2]) hl

set_option maxRecDepth 100000 in
set_option maxHeartbeats 4000000 in
theorem kM_isRemainder (l : Launch) (u p9 : Nat) (hu : u < p9) (hp : 1 < p9) (hp2 : p9 ≤ 2147483647) : PM l yM_isRemainder wsM_isRemainder (rmd 0) [.long (jl ((u:Int))), .long (jl ((p9:Int)))] (fun r => r = .int (ji (bi (qr u p9)))) := by
  refine PM.ofG (by decide +kernel) (Nat.le_of_ble_eq_true rfl) ?_
  intro p_ e_ s_ m_ a_ b_ t_ c_ hx hb hml hr hk hg hown ls hl
  have hl : lv_has ls 10 [(0, .long (jl ((u:Int)))), (2, .long (jl ((p9:Int))))] := hl
  have loop : ∀ (N e w x : Nat) (ls : Array Slot), e < N → e < 4611686018427387904 → w < p9 → x < p9 → w * x ^ e % p9 = u ^ ((p9 - 1) / 2) % p9 → lv_has ls 10 [(8, .long (jl ((e:Int)))), (6, .long (jl ((w:Int)))), (4, .long (jl ((x:Int)))), (0, .long (jl ((u:Int)))), (2, .long (jl ((p9:Int))))] → W p_ l e_ (rmd 0) s_ m_ a_ b_ t_ c_ s_.heap [] 0 0 (XQ b_ (pmQ (fun r => r = .int (ji (bi (qr u p9))))) a_ s_ 0 0 (fun _ => False)) (F0 m_ 17 ls []) := by
    intro N
    induction N with
    | zero => intro e w x ls hm; omega
    | succ N ih =>
      intro e w x ls hm he hw hx0 hq hl
      have hxx : x * x < 4611686018427387904 := by
        have : x * x ≤ 2147483647 * 2147483647 := Nat.mul_le_mul (by omega) (by omega)
        omega
      have hwx : w * x < 4611686018427387904 := by
        have : w * x ≤ 2147483647 * 2147483647 := Nat.mul_le_mul (by omega) (by omega)
        omega
      have hxx' : (x : Int) * (x : Int) = ((x * x : Nat) : Int) := (Int.natCast_mul x x).symm
      have hwx' : (w : Int) * (x : Int) = ((w * x : Nat) : Int) := (Int.natCast_mul w x).symm
      have e4 : ((x : Int) * (x : Int)).tmod (p9 : Int) = ((x * x % p9 : Nat) : Int) := by rw [← Int.natCast_mul, tm_nat]
      have e5 : ((w : Int) * (x : Int)).tmod (p9 : Int) = ((w * x % p9 : Nat) : Int) := by rw [← Int.natCast_mul, tm_nat]
      have l1 := Nat.mod_lt (x * x) (show 0 < p9 by omega)
      have l2 := Nat.mod_lt (w * x) (show 0 < p9 by omega)
      refine lv_lload hx hb dM_isRemainder_17 (lv_at hl 0 rfl) ?_
      refine j_lconst0 hx hb dM_isRemainder_19 ?_
      refine j_lc_le hx hb (by omega) (by omega) dM_isRemainder_20 dM_isRemainder_21 rfl (fun h1 => ?_) (fun h1 => ?_)
      · have he0 : e = 0 := by omega
        subst he0
        rw [Nat.pow_zero, Nat.mul_one, Nat.mod_eq_of_lt hw] at hq
        refine lv_lload hx hb dM_isRemainder_65 (lv_at hl 1 rfl) ?_
        refine j_lconst1 hx hb dM_isRemainder_67 ?_
        refine j_lc_ne hx hb (by omega) (by omega) dM_isRemainder_68 dM_isRemainder_69 rfl (fun h2 => ?_) (fun h2 => ?_)
        · have hqq : ¬ qr u p9 := fun q => h2 (by rw [qr, ← hq] at q; omega)
          refine j_iconst hx hb dM_isRemainder_76 ?_
          exact pm_zret hx hb hr hk dM_isRemainder_77 nar_0 (by rw [bi_f hqq])
        · have hqq : qr u p9 := by rw [qr, ← hq]; omega
          refine j_iconst hx hb dM_isRemainder_72 ?_
          refine lv_goto hx hb dM_isRemainder_73 rfl ?_
          exact pm_zret hx hb hr hk dM_isRemainder_77 nar_1 (by rw [bi_t hqq])
      · refine lv_lload hx hb dM_isRemainder_24 (lv_at hl 0 rfl) ?_
        refine j_lconst1 hx hb dM_isRemainder_26 ?_
        refine j_land1 hx hb dM_isRemainder_27 ?_
        refine j_lconst1 hx hb dM_isRemainder_28 ?_
        refine j_lc_ne hx hb (by omega) (by decide) dM_isRemainder_29 dM_isRemainder_30 rfl (fun h2 => ?_) (fun h2 => ?_)
        · have h3 := pw_step0 hq (by omega)
          refine lv_lload hx hb dM_isRemainder_43 (lv_at hl 1 rfl) ?_
          refine lv_lstore hx hb dM_isRemainder_45 hl (by decide) rfl (fun ls hl => ?_)
          have hl : lv_has ls 10 [(6, .long (jl ((w:Int)))), (8, .long (jl ((e:Int)))), (4, .long (jl ((x:Int)))), (0, .long (jl ((u:Int)))), (2, .long (jl ((p9:Int))))] := hl
          refine lv_lload hx hb dM_isRemainder_47 (lv_at hl 2 rfl) ?_
          refine lv_lload hx hb dM_isRemainder_49 (lv_at hl 2 rfl) ?_
          refine j_lmul hx hb dM_isRemainder_51 ?_
          refine lv_lload_n hx hb dM_isRemainder_52 rfl (lv_at hl 4 rfl) ?_
          refine j_lrem hx hb (by omega) (by omega) (by omega) dM_isRemainder_53 ?_
          refine lv_lstore hx hb dM_isRemainder_54 hl (by decide) rfl (fun ls hl => ?_)
          have hl : lv_has ls 10 [(4, .long (jl ((((x:Int)) * ((x:Int))).tmod ((p9:Int))))), (6, .long (jl ((w:Int)))), (8, .long (jl ((e:Int)))), (0, .long (jl ((u:Int)))), (2, .long (jl ((p9:Int))))] := hl
          refine lv_lload hx hb dM_isRemainder_56 (lv_at hl 2 rfl) ?_
          refine j_iconst hx hb dM_isRemainder_58 ?_
          refine j_lshr1 hx hb he dM_isRemainder_59 ?_
          refine lv_lstore hx hb dM_isRemainder_60 hl (by decide) rfl (fun ls hl => ?_)
          have hl : lv_has ls 10 [(8, .long (jl (((e/2:Nat):Int)))), (4, .long (jl ((((x:Int)) * ((x:Int))).tmod ((p9:Int))))), (6, .long (jl ((w:Int)))), (0, .long (jl ((u:Int)))), (2, .long (jl ((p9:Int))))] := hl
          refine lv_goto hx hb dM_isRemainder_62 rfl ?_
          rw [e4] at hl
          exact ih (e / 2) w (x * x % p9) ls (by omega) (by omega) hw l1 h3 (lv_sub hl [0, 2, 1, 3, 4] rfl)
        · have h3 := pw_step1 hq (by omega)
          refine lv_lload hx hb dM_isRemainder_33 (lv_at hl 1 rfl) ?_
          refine lv_lload hx hb dM_isRemainder_35 (lv_at hl 2 rfl) ?_
          refine j_lmul hx hb dM_isRemainder_37 ?_
          refine lv_lload_n hx hb dM_isRemainder_38 rfl (lv_at hl 4 rfl) ?_
          refine j_lrem hx hb (by omega) (by omega) (by omega) dM_isRemainder_39 ?_
          refine lv_goto hx hb dM_isRemainder_40 rfl ?_
          refine lv_lstore hx hb dM_isRemainder_45 hl (by decide) rfl (fun ls hl => ?_)
          have hl : lv_has ls 10 [(6, .long (jl ((((w:Int)) * ((x:Int))).tmod ((p9:Int))))), (8, .long (jl ((e:Int)))), (4, .long (jl ((x:Int)))), (0, .long (jl ((u:Int)))), (2, .long (jl ((p9:Int))))] := hl
          refine lv_lload hx hb dM_isRemainder_47 (lv_at hl 2 rfl) ?_
          refine lv_lload hx hb dM_isRemainder_49 (lv_at hl 2 rfl) ?_
          refine j_lmul hx hb dM_isRemainder_51 ?_
          refine lv_lload_n hx hb dM_isRemainder_52 rfl (lv_at hl 4 rfl) ?_
          refine j_lrem hx hb (by omega) (by omega) (by omega) dM_isRemainder_53 ?_
          refine lv_lstore hx hb dM_isRemainder_54 hl (by decide) rfl (fun ls hl => ?_)
          have hl : lv_has ls 10 [(4, .long (jl ((((x:Int)) * ((x:Int))).tmod ((p9:Int))))), (6, .long (jl ((((w:Int)) * ((x:Int))).tmod ((p9:Int))))), (8, .long (jl ((e:Int)))), (0, .long (jl ((u:Int)))), (2, .long (jl ((p9:Int))))] := hl
          refine lv_lload hx hb dM_isRemainder_56 (lv_at hl 2 rfl) ?_
          refine j_iconst hx hb dM_isRemainder_58 ?_
          refine j_lshr1 hx hb he dM_isRemainder_59 ?_
          refine lv_lstore hx hb dM_isRemainder_60 hl (by decide) rfl (fun ls hl => ?_)
          have hl : lv_has ls 10 [(8, .long (jl (((e/2:Nat):Int)))), (4, .long (jl ((((x:Int)) * ((x:Int))).tmod ((p9:Int))))), (6, .long (jl ((((w:Int)) * ((x:Int))).tmod ((p9:Int))))), (0, .long (jl ((u:Int)))), (2, .long (jl ((p9:Int))))] := hl
          refine lv_goto hx hb dM_isRemainder_62 rfl ?_
          rw [e4, e5] at hl
          exact ih (e / 2) (w * x % p9) (x * x % p9) ls (by omega) (by omega) l2 l1 h3 (lv_sub hl [0, 2, 1, 3, 4] rfl)
  have e1 : ((p9 : Int) - 1).tdiv 2 = (((p9 - 1) / 2 : Nat) : Int) := by rw [show (p9 : Int) - 1 = ((p9 - 1 : Nat) : Int) by omega]; exact td_nat (p9 - 1) 2
  refine lv_lload_n hx hb dM_isRemainder_0 rfl (lv_at hl 0 rfl) ?_
  refine lv_lload_n hx hb dM_isRemainder_1 rfl (lv_at hl 1 rfl) ?_
  refine j_lrem hx hb (by omega) (by omega) (by omega) dM_isRemainder_2 ?_
  refine lv_lstore hx hb dM_isRemainder_3 hl (by decide) rfl (fun ls hl => ?_)
  have hl : lv_has ls 10 [(4, .long (jl (((u:Int)).tmod ((p9:Int))))), (0, .long (jl ((u:Int)))), (2, .long (jl ((p9:Int))))] := hl
  refine j_lconst1 hx hb dM_isRemainder_5 ?_
  refine lv_lstore hx hb dM_isRemainder_6 hl (by decide) rfl (fun ls hl => ?_)
  have hl : lv_has ls 10 [(6, .long (jl 1)), (4, .long (jl (((u:Int)).tmod ((p9:Int))))), (0, .long (jl ((u:Int)))), (2, .long (jl ((p9:Int))))] := hl
  refine lv_lload_n hx hb dM_isRemainder_8 rfl (lv_at hl 3 rfl) ?_
  refine j_lconst1 hx hb dM_isRemainder_9 ?_
  refine j_lsub hx hb dM_isRemainder_10 ?_
  refine j_ldc2 (z := 2) hx hb hown hg wd522 rfl dM_isRemainder_11 ?_
  refine j_ldiv hx hb (by omega) (by omega) (by omega) dM_isRemainder_14 ?_
  refine lv_lstore hx hb dM_isRemainder_15 hl (by decide) rfl (fun ls hl => ?_)
  have hl : lv_has ls 10 [(8, .long (jl ((((p9:Int)) - 1).tdiv 2))), (6, .long (jl 1)), (4, .long (jl (((u:Int)).tmod ((p9:Int))))), (0, .long (jl ((u:Int)))), (2, .long (jl ((p9:Int))))] := hl
  rw [e1, tm_nat, Nat.mod_eq_of_lt hu] at hl
  exact loop ((p9 - 1) / 2 + 1) ((p9 - 1) / 2) 1 u ls (by omega) (by omega) hp hu (by rw [Nat.one_mul]) hl

set_option maxRecDepth 100000 in
set_option maxHeartbeats 4000000 in
theorem kM_classOf (l : Launch) (a : Int) (ha : -4611686018427387904 ≤ a ∧ a ≤ 4611686018427387904) (h0 : a ≠ 0) : PM l yM_classOf wsM_classOf (rmd 0) [.long (jl a)] (fun r => r = .long (jl (sf a))) := by
  refine PM.ofG (by decide +kernel) (Nat.le_of_ble_eq_true rfl) ?_
  intro p_ e_ s_ m_ a_ b_ t_ c_ hx hb hml hr hk hg hown ls hl
  have hl : lv_has ls 9 [(0, .long (jl a))] := hl
  have outer : ∀ (N C L P : Nat) (z : Int) (ls : Array Slot), 2147483650 - P < N → P ≤ 2147483649 → 2 ≤ P → L ≤ 4611686018427387904 → ci a.natAbs C L P → z = (if a < 0 then -(C : Int) else (C : Int)) → lv_has ls 9 [(6, .long (jl ((P:Int)))), (4, .long (jl z)), (2, .long (jl ((L:Int)))), (0, .long (jl a))] → W p_ l e_ (rmd 0) s_ m_ a_ b_ t_ c_ s_.heap [] 0 0 (XQ b_ (pmQ (fun r => r = .long (jl (sf a)))) a_ s_ 0 0 (fun _ => False)) (F0 m_ 33 ls []) := by
    intro N
    induction N with
    | zero => intro C L P z ls hm h2; omega
    | succ N ih =>
      intro C L P z ls hm h2 h3 hL hc hz hl
      have inner : ∀ (K k L' : Nat) (ls : Array Slot), L' < K → 0 < L' → L' ≤ L → L = L' * P ^ k → P * P ≤ L → lv_has ls 9 [(8, .int (ji (((k%2:Nat):Int)))), (6, .long (jl ((P:Int)))), (4, .long (jl z)), (2, .long (jl ((L':Int)))), (0, .long (jl a))] → W p_ l e_ (rmd 0) s_ m_ a_ b_ t_ c_ s_.heap [] 0 0 (XQ b_ (pmQ (fun r => r = .long (jl (sf a)))) a_ s_ 0 0 (fun _ => False)) (F0 m_ 46 ls []) := by
        intro K
        induction K with
        | zero => intro k L' ls hm; omega
        | succ K ihK =>
          intro k L' ls hm1 hpos hle hk1 hPP hl
          refine lv_lload_n hx hb dM_classOf_46 rfl (lv_at hl 3 rfl) ?_
          refine lv_lload hx hb dM_classOf_47 (lv_at hl 1 rfl) ?_
          refine j_lrem hx hb (by omega) (by omega) (by omega) dM_classOf_49 ?_
          refine j_lconst0 hx hb dM_classOf_50 ?_
          refine j_lc_ne hx hb (tm_b64 (by omega)) (by decide) dM_classOf_51 dM_classOf_52 rfl (fun h5 => ?_) (fun h5 => ?_)
          · have hn : ¬ P ∣ L' := fun q => h5 (by rw [tm_nat]; exact_mod_cast Nat.mod_eq_zero_of_dvd q)
            have hc2 := ci_step hc h3 hk1 hn
            have hPm : P + 1 ≤ 2147483649 := by
              rcases Nat.lt_or_ge P 2147483649 with h9 | h9
              · omega
              · have : 2147483649 * 2147483649 ≤ P * P := Nat.mul_le_mul h9 h9
                omega
            refine lv_iload hx hb dM_classOf_75 (lv_at hl 0 rfl) ?_
            refine j_if_eq hx hb (by omega) dM_classOf_77 rfl (fun h6 => ?_) (fun h6 => ?_)
            · have h7 : ¬ k % 2 = 1 := by omega
              rw [if_neg h7] at hc2
              refine lv_lload hx hb dM_classOf_88 (lv_at hl 2 rfl) ?_
              refine lv_lstore hx hb dM_classOf_90 hl (by decide) rfl (fun ls hl => ?_)
              have hl : lv_has ls 9 [(4, .long (jl z)), (8, .int (ji (((k%2:Nat):Int)))), (6, .long (jl ((P:Int)))), (2, .long (jl ((L':Int)))), (0, .long (jl a))] := hl
              refine lv_lload hx hb dM_classOf_92 (lv_at hl 2 rfl) ?_
              refine j_lconst1 hx hb dM_classOf_94 ?_
              refine j_ladd hx hb dM_classOf_95 ?_
              refine lv_lstore hx hb dM_classOf_96 hl (by decide) rfl (fun ls hl => ?_)
              have hl : lv_has ls 9 [(6, .long (jl (((P:Int)) + 1))), (4, .long (jl z)), (8, .int (ji (((k%2:Nat):Int)))), (2, .long (jl ((L':Int)))), (0, .long (jl a))] := hl
              refine lv_goto hx hb dM_classOf_98 rfl ?_
              exact ih C L' (P + 1) z ls (by omega) hPm (by omega) (by omega) hc2 hz (lv_sub hl [0, 1, 3, 4] rfl)
            · have h7 : k % 2 = 1 := by omega
              rw [if_pos h7] at hc2
              refine lv_lload hx hb dM_classOf_80 (lv_at hl 2 rfl) ?_
              refine lv_lload hx hb dM_classOf_82 (lv_at hl 1 rfl) ?_
              refine j_lmul hx hb dM_classOf_84 ?_
              refine lv_goto hx hb dM_classOf_85 rfl ?_
              refine lv_lstore hx hb dM_classOf_90 hl (by decide) rfl (fun ls hl => ?_)
              have hl : lv_has ls 9 [(4, .long (jl (z * ((P:Int))))), (8, .int (ji (((k%2:Nat):Int)))), (6, .long (jl ((P:Int)))), (2, .long (jl ((L':Int)))), (0, .long (jl a))] := hl
              refine lv_lload hx hb dM_classOf_92 (lv_at hl 2 rfl) ?_
              refine j_lconst1 hx hb dM_classOf_94 ?_
              refine j_ladd hx hb dM_classOf_95 ?_
              refine lv_lstore hx hb dM_classOf_96 hl (by decide) rfl (fun ls hl => ?_)
              have hl : lv_has ls 9 [(6, .long (jl (((P:Int)) + 1))), (4, .long (jl (z * ((P:Int))))), (8, .int (ji (((k%2:Nat):Int)))), (2, .long (jl ((L':Int)))), (0, .long (jl a))] := hl
              refine lv_goto hx hb dM_classOf_98 rfl ?_
              refine ih (C * P) L' (P + 1) (z * (P : Int)) ls (by omega) hPm (by omega) (by omega) hc2 ?_ (lv_sub hl [0, 1, 3, 4] rfl)
              rw [hz]
              by_cases h8 : a < 0
              · rw [if_pos h8, if_pos h8, Int.neg_mul, Int.natCast_mul]
              · rw [if_neg h8, if_neg h8, Int.natCast_mul]
          · have hn : P ∣ L' := Nat.dvd_of_mod_eq_zero (by rw [tm_nat] at h5; omega)
            have hlt : L' / P < L' := Nat.div_lt_self hpos (by omega)
            have hpos2 : 0 < L' / P := Nat.div_pos (Nat.le_of_dvd hpos hn) (by omega)
            have e1 : L = L' / P * P ^ (k + 1) := by rw [Nat.pow_succ, Nat.mul_comm (P ^ k) P, ← Nat.mul_assoc, Nat.div_mul_cancel hn]; exact hk1
            refine lv_lload_n hx hb dM_classOf_55 rfl (lv_at hl 3 rfl) ?_
            refine lv_lload hx hb dM_classOf_56 (lv_at hl 1 rfl) ?_
            refine j_ldiv hx hb (by omega) (by omega) (by omega) dM_classOf_58 ?_
            refine lv_lstore_n hx hb dM_classOf_59 rfl hl (by decide) rfl (fun ls hl => ?_)
            have hl : lv_has ls 9 [(2, .long (jl (((L':Int)).tdiv ((P:Int))))), (8, .int (ji (((k%2:Nat):Int)))), (6, .long (jl ((P:Int)))), (4, .long (jl z)), (0, .long (jl a))] := hl
            rw [td_nat] at hl
            refine lv_iload hx hb dM_classOf_60 (lv_at hl 1 rfl) ?_
            refine j_if_ne hx hb (by omega) dM_classOf_62 rfl (fun h6 => ?_) (fun h6 => ?_)
            · have e2 : (k + 1) % 2 = 0 := by omega
              refine j_iconst hx hb dM_classOf_69 ?_
              refine lv_istore hx hb dM_classOf_70 hl (by decide) rfl (fun ls hl => ?_)
              have hl : lv_has ls 9 [(8, .int (ji 0)), (2, .long (jl (((L'/P:Nat):Int)))), (6, .long (jl ((P:Int)))), (4, .long (jl z)), (0, .long (jl a))] := hl
              refine lv_goto hx hb dM_classOf_72 rfl ?_
              exact ihK (k + 1) (L' / P) ls (by omega) hpos2 (by omega) e1 hPP (by rw [e2]; exact lv_sub hl [0, 2, 3, 1, 4] rfl)
            · have e2 : (k + 1) % 2 = 1 := by omega
              refine j_iconst hx hb dM_classOf_65 ?_
              refine lv_goto hx hb dM_classOf_66 rfl ?_
              refine lv_istore hx hb dM_classOf_70 hl (by decide) rfl (fun ls hl => ?_)
              have hl : lv_has ls 9 [(8, .int (ji 1)), (2, .long (jl (((L'/P:Nat):Int)))), (6, .long (jl ((P:Int)))), (4, .long (jl z)), (0, .long (jl a))] := hl
              refine lv_goto hx hb dM_classOf_72 rfl ?_
              exact ihK (k + 1) (L' / P) ls (by omega) hpos2 (by omega) e1 hPP (by rw [e2]; exact lv_sub hl [0, 2, 3, 1, 4] rfl)
      have hPP : ((P * P : Nat) : Int) = (P : Int) * (P : Int) := Int.natCast_mul P P
      refine lv_lload hx hb dM_classOf_33 (lv_at hl 0 rfl) ?_
      refine lv_lload hx hb dM_classOf_35 (lv_at hl 0 rfl) ?_
      refine j_lmul hx hb dM_classOf_37 ?_
      refine lv_lload_n hx hb dM_classOf_38 rfl (lv_at hl 2 rfl) ?_
      refine j_lc_gt hx hb (sq_b64 (by omega) (by omega)) (by omega) dM_classOf_39 dM_classOf_40 rfl (fun h5 => ?_) (fun h5 => ?_)
      · have hs := ci_end hc (by omega)
        have hI : sfI a (z * (L : Int)) := by
          have hCL : 0 < C * L := Nat.mul_pos hc.2.1 hc.1
          have hCL' : ((C * L : Nat) : Int) = (C : Int) * (L : Int) := Int.natCast_mul C L
          by_cases h8 : a < 0
          · rw [hz, if_pos h8, Int.neg_mul, ← hCL']
            refine ⟨?_, by omega, by omega⟩
            rw [Int.natAbs_neg, Int.natAbs_natCast]; exact hs
          · rw [hz, if_neg h8, ← hCL']
            refine ⟨?_, by omega, by omega⟩
            rw [Int.natAbs_natCast]; exact hs
        refine lv_lload hx hb dM_classOf_101 (lv_at hl 1 rfl) ?_
        refine lv_lload_n hx hb dM_classOf_103 rfl (lv_at hl 2 rfl) ?_
        refine j_lmul hx hb dM_classOf_104 ?_
        exact pm_lret hx hb hr hk dM_classOf_105 (by rw [sf_eq hI])
      · refine j_iconst hx hb dM_classOf_43 ?_
        refine lv_istore hx hb dM_classOf_44 hl (by decide) rfl (fun ls hl => ?_)
        have hl : lv_has ls 9 [(8, .int (ji 0)), (6, .long (jl ((P:Int)))), (4, .long (jl z)), (2, .long (jl ((L:Int)))), (0, .long (jl a))] := hl
        exact inner (L + 1) 0 L ls (by omega) hc.1 (by omega) (by simp) (by omega) hl
  have k13 : ∀ (ls : Array Slot), lv_has ls 9 [(2, .long (jl ((a.natAbs:Int)))), (0, .long (jl a))] → W p_ l e_ (rmd 0) s_ m_ a_ b_ t_ c_ s_.heap [] 0 0 (XQ b_ (pmQ (fun r => r = .long (jl (sf a)))) a_ s_ 0 0 (fun _ => False)) (F0 m_ 13 ls []) := by
    intro ls hl
    refine lv_lload_n hx hb dM_classOf_13 rfl (lv_at hl 1 rfl) ?_
    refine j_lconst0 hx hb dM_classOf_14 ?_
    refine j_lc_ge hx hb (by omega) (by omega) dM_classOf_15 dM_classOf_16 rfl (fun h1 => ?_) (fun h1 => ?_)
    · refine j_lconst1 hx hb dM_classOf_25 ?_
      refine lv_lstore hx hb dM_classOf_26 hl (by decide) rfl (fun ls hl => ?_)
      have hl : lv_has ls 9 [(4, .long (jl 1)), (2, .long (jl ((a.natAbs:Int)))), (0, .long (jl a))] := hl
      refine j_ldc2 (z := 2) hx hb hown hg wd522 rfl dM_classOf_28 ?_
      refine lv_lstore hx hb dM_classOf_31 hl (by decide) rfl (fun ls hl => ?_)
      have hl : lv_has ls 9 [(6, .long (jl 2)), (4, .long (jl 1)), (2, .long (jl ((a.natAbs:Int)))), (0, .long (jl a))] := hl
      exact outer 2147483649 1 a.natAbs 2 1 ls (by omega) (by omega) (by omega) (by omega) (ci_0 (by omega)) (by rw [if_neg (by omega)]; rfl) hl
    · refine j_ldc2 (z := -1) hx hb hown hg wd538 rfl dM_classOf_19 ?_
      refine lv_goto hx hb dM_classOf_22 rfl ?_
      refine lv_lstore hx hb dM_classOf_26 hl (by decide) rfl (fun ls hl => ?_)
      have hl : lv_has ls 9 [(4, .long (jl (-1))), (2, .long (jl ((a.natAbs:Int)))), (0, .long (jl a))] := hl
      refine j_ldc2 (z := 2) hx hb hown hg wd522 rfl dM_classOf_28 ?_
      refine lv_lstore hx hb dM_classOf_31 hl (by decide) rfl (fun ls hl => ?_)
      have hl : lv_has ls 9 [(6, .long (jl 2)), (4, .long (jl (-1))), (2, .long (jl ((a.natAbs:Int)))), (0, .long (jl a))] := hl
      exact outer 2147483649 1 a.natAbs 2 (-1) ls (by omega) (by omega) (by omega) (by omega) (ci_0 (by omega)) (by rw [if_pos (by omega)]; rfl) hl
  refine lv_lload_n hx hb dM_classOf_0 rfl (lv_at hl 0 rfl) ?_
  refine j_lconst0 hx hb dM_classOf_1 ?_
  refine j_lc_ge hx hb (by omega) (by omega) dM_classOf_2 dM_classOf_3 rfl (fun h1 => ?_) (fun h1 => ?_)
  · refine lv_lload_n hx hb dM_classOf_11 rfl (lv_at hl 0 rfl) ?_
    refine lv_lstore_n hx hb dM_classOf_12 rfl hl (by decide) rfl (fun ls hl => ?_)
    have hl : lv_has ls 9 [(2, .long (jl a)), (0, .long (jl a))] := hl
    have e1 : a = (a.natAbs : Int) := by omega
    exact k13 ls (by rw [← e1]; exact hl)
  · refine lv_lload_n hx hb dM_classOf_6 rfl (lv_at hl 0 rfl) ?_
    refine j_lneg hx hb dM_classOf_7 ?_
    refine lv_goto hx hb dM_classOf_8 rfl ?_
    refine lv_lstore_n hx hb dM_classOf_12 rfl hl (by decide) rfl (fun ls hl => ?_)
    have hl : lv_has ls 9 [(2, .long (jl (-a))), (0, .long (jl a))] := hl
    have e1 : -a = (a.natAbs : Int) := by omega
    rw [e1] at hl
    exact k13 ls hl

set_option maxRecDepth 100000 in
set_option maxHeartbeats 4000000 in
theorem kM_isSquare (l : Launch) (a p9 : Int) (ha : b64 a) (hp : p9 = 0 ∨ (1 < p9 ∧ p9 ≤ 2147483647)) : PM l yM_isSquare wsM_isSquare (rmd 1) [.long (jl a), .long (jl p9)] (fun r => r = .int (ji (bi (sqM a p9)))) := by
  refine PM.ofG (by decide +kernel) (Nat.le_of_ble_eq_true rfl) ?_
  intro p_ e_ s_ m_ a_ b_ t_ c_ hx hb hml hr hk hg hown ls hl
  have hl : lv_has ls 4 [(0, .long (jl a)), (2, .long (jl p9))] := hl
  have hsq : sqM a p9 = (if p9 = 0 then 0 < a else ¬ p9 ∣ a ∧ (if p9 = 2 then uM a p9 = 1 else qr (uM a p9).toNat p9.toNat)) := rfl
  refine lv_lload_n hx hb dM_isSquare_0 rfl (lv_at hl 1 rfl) ?_
  refine j_lconst0 hx hb dM_isSquare_1 ?_
  refine j_lc_ne hx hb (by omega) (by omega) dM_isSquare_2 dM_isSquare_3 rfl (fun h1 => ?_) (fun h1 => ?_)
  · rw [if_neg h1] at hsq
    refine lv_lload_n hx hb dM_isSquare_18 rfl (lv_at hl 0 rfl) ?_
    refine lv_lload_n hx hb dM_isSquare_19 rfl (lv_at hl 1 rfl) ?_
    refine pm_G (As := [.long (jl a), .long (jl p9)]) (rest := []) hx hb hml hown hg hl (kM_order l a p9 ha (by omega) (by omega)) wd562 wd563 wd5 wd564 ⟨rfl, rfl⟩ (n := 2) (by decide +kernel) rfl ⟨by decide, by decide⟩ rfl (Nat.le_of_ble_eq_true rfl) dM_isSquare_20 ⟨Nat.zero_le _, Nat.zero_le _⟩ (fun r hr9 => ?_)
    subst hr9
    have hun := uM_lt (a := a) (p := p9) (by omega)
    refine j_iconst hx hb dM_isSquare_23 ?_
    refine j_icmp_ne hx hb (by have := oM_bd a p9; omega) (by decide) dM_isSquare_24 rfl (fun h2 => ?_) (fun h2 => ?_)
    · have h3 : ¬ p9 ∣ a := fun q => h2 (if_pos q)
      refine lv_lload_n hx hb dM_isSquare_29 rfl (lv_at hl 1 rfl) ?_
      refine j_ldc2 (z := 2) hx hb hown hg wd522 rfl dM_isSquare_30 ?_
      refine j_lc_ne hx hb (by omega) (by omega) dM_isSquare_33 dM_isSquare_34 rfl (fun h4 => ?_) (fun h4 => ?_)
      · rw [if_neg h4] at hsq
        have hum : um p9 = p9 := if_neg h4
        obtain ⟨U, hU⟩ := Int.eq_ofNat_of_zero_le hun.1
        obtain ⟨P, rfl⟩ := Int.eq_ofNat_of_zero_le (show 0 ≤ p9 by omega)
        rw [hU] at hsq hun
        refine lv_lload_n hx hb dM_isSquare_55 rfl (lv_at hl 0 rfl) ?_
        refine lv_lload_n hx hb dM_isSquare_56 rfl (lv_at hl 1 rfl) ?_
        refine pm_G (As := [.long (jl a), .long (jl ((P:Int)))]) (rest := []) hx hb hml hown hg hl (kM_unit l a P ha (by omega) (by omega)) wd565 wd566 wd5 wd567 ⟨rfl, rfl⟩ (n := 2) (by decide +kernel) rfl ⟨by decide, by decide⟩ rfl (Nat.le_of_ble_eq_true rfl) dM_isSquare_57 ⟨Nat.zero_le _, Nat.zero_le _⟩ (fun r hr9 => ?_)
        subst hr9
        rw [hU]
        refine lv_lload_n hx hb dM_isSquare_60 rfl (lv_at hl 1 rfl) ?_
        refine pm_G (As := [.long (jl ((U:Int))), .long (jl ((P:Int)))]) (rest := []) hx hb hml hown hg hl (kM_isRemainder l U P (by omega) (by omega) (by omega)) wd569 wd570 wd5 wd571 ⟨rfl, rfl⟩ (n := 2) (by decide +kernel) rfl ⟨by decide, by decide⟩ rfl (Nat.le_of_ble_eq_true rfl) dM_isSquare_61 ⟨Nat.zero_le _, Nat.zero_le _⟩ (fun r hr9 => ?_)
        subst hr9
        have he : sqM a (P : Int) ↔ qr U P := by rw [hsq]; exact ⟨fun q => q.2, fun q => ⟨h3, q⟩⟩
        exact pm_zret hx hb hr hk dM_isSquare_64 (nar_bi _) (by rw [bi_iff he])
      · rw [if_pos h4] at hsq
        have h8 : um p9 = 8 := if_pos h4
        refine lv_lload_n hx hb dM_isSquare_37 rfl (lv_at hl 0 rfl) ?_
        refine lv_lload_n hx hb dM_isSquare_38 rfl (lv_at hl 1 rfl) ?_
        refine pm_G (As := [.long (jl a), .long (jl p9)]) (rest := []) hx hb hml hown hg hl (kM_unit l a p9 ha (by omega) (by omega)) wd565 wd566 wd5 wd567 ⟨rfl, rfl⟩ (n := 2) (by decide +kernel) rfl ⟨by decide, by decide⟩ rfl (Nat.le_of_ble_eq_true rfl) dM_isSquare_39 ⟨Nat.zero_le _, Nat.zero_le _⟩ (fun r hr9 => ?_)
        subst hr9
        refine j_lconst1 hx hb dM_isSquare_42 ?_
        refine j_lc_ne hx hb (by omega) (by decide) dM_isSquare_43 dM_isSquare_44 rfl (fun h5 => ?_) (fun h5 => ?_)
        · refine j_iconst hx hb dM_isSquare_51 ?_
          refine lv_goto hx hb dM_isSquare_52 rfl ?_
          exact pm_zret hx hb hr hk dM_isSquare_64 nar_0 (by rw [bi_f (fun q => h5 (by rw [hsq] at q; exact q.2))])
        · refine j_iconst hx hb dM_isSquare_47 ?_
          refine lv_goto hx hb dM_isSquare_48 rfl ?_
          exact pm_zret hx hb hr hk dM_isSquare_64 nar_1 (by rw [bi_t (by rw [hsq]; exact ⟨h3, h5⟩)])
    · have h3 : p9 ∣ a := Classical.byContradiction fun q => by rw [oM, if_neg q] at h2; omega
      refine j_iconst hx hb dM_isSquare_27 ?_
      exact pm_zret hx hb hr hk dM_isSquare_28 nar_0 (by rw [bi_f (fun q => by rw [hsq] at q; exact q.1 h3)])
  · rw [if_pos h1] at hsq
    refine lv_lload_n hx hb dM_isSquare_6 rfl (lv_at hl 0 rfl) ?_
    refine j_lconst0 hx hb dM_isSquare_7 ?_
    refine j_lc_le hx hb (by omega) (by omega) dM_isSquare_8 dM_isSquare_9 rfl (fun h2 => ?_) (fun h2 => ?_)
    · refine j_iconst hx hb dM_isSquare_16 ?_
      exact pm_zret hx hb hr hk dM_isSquare_17 nar_0 (by rw [bi_f (fun q => by rw [hsq] at q; omega)])
    · refine j_iconst hx hb dM_isSquare_12 ?_
      refine lv_goto hx hb dM_isSquare_13 rfl ?_
      exact pm_zret hx hb hr hk dM_isSquare_17 nar_1 (by rw [bi_t (by rw [hsq]; omega)])

set_option maxRecDepth 100000 in
set_option maxHeartbeats 4000000 in
theorem kM_symbolOf (l : Launch) (a b p9 : Int) (ha : b64 a) (hb9 : b64 b) (hp : p9 = 0 ∨ (1 < p9 ∧ p9 ≤ 2147483647)) (h4a : ¬ (4 : Int) ∣ a) (h4b : ¬ (4 : Int) ∣ b) : PM l yM_symbolOf wsM_symbolOf (rmd 1) [.long (jl a), .long (jl b), .long (jl p9)] (fun r => r = .int (ji (syM a b p9))) := by
  refine PM.ofG (by decide +kernel) (Nat.le_of_ble_eq_true rfl) ?_
  intro p_ e_ s_ m_ a_ b_ t_ c_ hx hb hml hr hk hg hown ls hl
  have hl : lv_has ls 14 [(0, .long (jl a)), (2, .long (jl b)), (4, .long (jl p9))] := hl
  have hsy : syM a b p9 = if p9 = 0 then (if a < 0 ∧ b < 0 then -1 else 1) else sF (oM a p9) (oM b p9) (uM a p9) (uM b p9) p9 := rfl
  refine lv_lload hx hb dM_symbolOf_0 (lv_at hl 2 rfl) ?_
  refine j_lconst0 hx hb dM_symbolOf_2 ?_
  refine j_lc_ne hx hb (by omega) (by omega) dM_symbolOf_3 dM_symbolOf_4 rfl (fun h1 => ?_) (fun h1 => ?_)
  · rw [if_neg h1] at hsy
    refine lv_lload_n hx hb dM_symbolOf_25 rfl (lv_at hl 0 rfl) ?_
    refine lv_lload hx hb dM_symbolOf_26 (lv_at hl 2 rfl) ?_
    refine pm_G (As := [.long (jl a), .long (jl p9)]) (rest := []) hx hb hml hown hg hl (kM_order l a p9 ha (by omega) (by omega)) wd562 wd563 wd5 wd564 ⟨rfl, rfl⟩ (n := 2) (by decide +kernel) rfl ⟨by decide, by decide⟩ rfl (Nat.le_of_ble_eq_true rfl) dM_symbolOf_28 ⟨Nat.zero_le _, Nat.zero_le _⟩ (fun r hr9 => ?_)
    subst hr9
    refine lv_istore hx hb dM_symbolOf_31 hl (by decide) rfl (fun ls hl => ?_)
    have hl : lv_has ls 14 [(6, .int (ji (oM a p9))), (0, .long (jl a)), (2, .long (jl b)), (4, .long (jl p9))] := hl
    refine lv_lload_n hx hb dM_symbolOf_33 rfl (lv_at hl 2 rfl) ?_
    refine lv_lload hx hb dM_symbolOf_34 (lv_at hl 3 rfl) ?_
    refine pm_G (As := [.long (jl b), .long (jl p9)]) (rest := []) hx hb hml hown hg hl (kM_order l b p9 hb9 (by omega) (by omega)) wd562 wd563 wd5 wd564 ⟨rfl, rfl⟩ (n := 2) (by decide +kernel) rfl ⟨by decide, by decide⟩ rfl (Nat.le_of_ble_eq_true rfl) dM_symbolOf_36 ⟨Nat.zero_le _, Nat.zero_le _⟩ (fun r hr9 => ?_)
    subst hr9
    refine lv_istore hx hb dM_symbolOf_39 hl (by decide) rfl (fun ls hl => ?_)
    have hl : lv_has ls 14 [(7, .int (ji (oM b p9))), (6, .int (ji (oM a p9))), (0, .long (jl a)), (2, .long (jl b)), (4, .long (jl p9))] := hl
    refine lv_lload_n hx hb dM_symbolOf_41 rfl (lv_at hl 2 rfl) ?_
    refine lv_lload hx hb dM_symbolOf_42 (lv_at hl 4 rfl) ?_
    refine pm_G (As := [.long (jl a), .long (jl p9)]) (rest := []) hx hb hml hown hg hl (kM_unit l a p9 ha (by omega) (by omega)) wd565 wd566 wd5 wd567 ⟨rfl, rfl⟩ (n := 2) (by decide +kernel) rfl ⟨by decide, by decide⟩ rfl (Nat.le_of_ble_eq_true rfl) dM_symbolOf_44 ⟨Nat.zero_le _, Nat.zero_le _⟩ (fun r hr9 => ?_)
    subst hr9
    refine lv_lstore hx hb dM_symbolOf_47 hl (by decide) rfl (fun ls hl => ?_)
    have hl : lv_has ls 14 [(8, .long (jl (uM a p9))), (7, .int (ji (oM b p9))), (6, .int (ji (oM a p9))), (0, .long (jl a)), (2, .long (jl b)), (4, .long (jl p9))] := hl
    refine lv_lload_n hx hb dM_symbolOf_49 rfl (lv_at hl 4 rfl) ?_
    refine lv_lload hx hb dM_symbolOf_50 (lv_at hl 5 rfl) ?_
    refine pm_G (As := [.long (jl b), .long (jl p9)]) (rest := []) hx hb hml hown hg hl (kM_unit l b p9 hb9 (by omega) (by omega)) wd565 wd566 wd5 wd567 ⟨rfl, rfl⟩ (n := 2) (by decide +kernel) rfl ⟨by decide, by decide⟩ rfl (Nat.le_of_ble_eq_true rfl) dM_symbolOf_52 ⟨Nat.zero_le _, Nat.zero_le _⟩ (fun r hr9 => ?_)
    subst hr9
    refine lv_lstore hx hb dM_symbolOf_55 hl (by decide) rfl (fun ls hl => ?_)
    have hl : lv_has ls 14 [(10, .long (jl (uM b p9))), (8, .long (jl (uM a p9))), (7, .int (ji (oM b p9))), (6, .int (ji (oM a p9))), (0, .long (jl a)), (2, .long (jl b)), (4, .long (jl p9))] := hl
    have hua := uM_lt (a := a) (p := p9) (by omega)
    have hub := uM_lt (a := b) (p := p9) (by omega)
    have hE := oM_bd a p9
    have hF := oM_bd b p9
    refine lv_lload hx hb dM_symbolOf_57 (lv_at hl 6 rfl) ?_
    refine j_ldc2 (z := 2) hx hb hown hg wd522 rfl dM_symbolOf_59 ?_
    refine j_lc_ne hx hb (by omega) (by omega) dM_symbolOf_62 dM_symbolOf_63 rfl (fun h2 => ?_) (fun h2 => ?_)
    · have hum : um p9 = p9 := if_neg h2
      have hsF : sF (oM a p9) (oM b p9) (uM a p9) (uM b p9) p9 = so (oM a p9) (oM b p9) (uM a p9) (uM b p9) p9 := if_neg h2
      rw [hsF] at hsy
      obtain ⟨U, hU⟩ := Int.eq_ofNat_of_zero_le hua.1
      obtain ⟨V, hV⟩ := Int.eq_ofNat_of_zero_le hub.1
      obtain ⟨P, rfl⟩ := Int.eq_ofNat_of_zero_le (show 0 ≤ p9 by omega)
      rw [hU] at hl hsy hua
      rw [hV] at hl hsy hub
      generalize oM a P = E at *
      generalize oM b P = F at *
      have hso : so E F U V P = (if E * F * (((P : Int) - 1) / 2) % 2 = 0 then 1 else -1) * (1 - 2 * bi (F = 1 ∧ ¬ qr U P)) * (1 - 2 * bi (E = 1 ∧ ¬ qr V P)) := rfl
      rw [hso] at hsy
      have k191 : ∀ (z : Int) (ls : Array Slot), (z = 1 ∨ z = -1) → z * (1 - 2 * bi (E = 1 ∧ ¬ qr V P)) = syM a b P → lv_has ls 14 [(12, .int (ji z)), (6, .int (ji E)), (7, .int (ji F)), (8, .long (jl ((U:Int)))), (10, .long (jl ((V:Int)))), (4, .long (jl ((P:Int)))), (0, .long (jl a)), (2, .long (jl b))] → W p_ l e_ (rmd 1) s_ m_ a_ b_ t_ c_ s_.heap [] 0 0 (XQ b_ (pmQ (fun r => r = .int (ji (syM a b (P : Int))))) a_ s_ 0 0 (fun _ => False)) (F0 m_ 191 ls []) := by
        intro z ls hb9 hz hl
        refine lv_iload hx hb dM_symbolOf_191 (lv_at hl 1 rfl) ?_
        refine j_iconst hx hb dM_symbolOf_193 ?_
        refine j_icmp_ne hx hb (by omega) (by omega) dM_symbolOf_194 rfl (fun h3 => ?_) (fun h3 => ?_)
        · rw [bi_f (fun q => h3 q.1)] at hz
          refine lv_iload hx hb dM_symbolOf_213 (lv_at hl 0 rfl) ?_
          exact pm_iret hx hb hr hk dM_symbolOf_215 (by rw [← hz]; simp)
        · refine lv_lload hx hb dM_symbolOf_197 (lv_at hl 4 rfl) ?_
          refine lv_lload hx hb dM_symbolOf_199 (lv_at hl 5 rfl) ?_
          refine pm_G (As := [.long (jl ((V:Int))), .long (jl ((P:Int)))]) (rest := []) hx hb hml hown hg hl (kM_isRemainder l V P (by omega) (by omega) (by omega)) wd569 wd570 wd5 wd571 ⟨rfl, rfl⟩ (n := 2) (by decide +kernel) rfl ⟨by decide, by decide⟩ rfl (Nat.le_of_ble_eq_true rfl) dM_symbolOf_201 ⟨Nat.zero_le _, Nat.zero_le _⟩ (fun r hr9 => ?_)
          subst hr9
          refine j_if_ne hx hb (bi_b32 _) dM_symbolOf_204 rfl (fun h5 => ?_) (fun h5 => ?_)
          · rw [bi_f (fun q => q.2 (bi_ne h5))] at hz
            refine lv_iload hx hb dM_symbolOf_213 (lv_at hl 0 rfl) ?_
            exact pm_iret hx hb hr hk dM_symbolOf_215 (by rw [← hz]; simp)
          · rw [bi_t ⟨h3, bi_eq h5⟩] at hz
            refine lv_iload hx hb dM_symbolOf_207 (lv_at hl 0 rfl) ?_
            refine j_ineg hx hb dM_symbolOf_209 ?_
            refine lv_goto hx hb dM_symbolOf_210 rfl ?_
            exact pm_iret hx hb hr hk dM_symbolOf_215 (by rw [← hz]; simp)
      have k165 : ∀ (z : Int) (ls : Array Slot), (z = 1 ∨ z = -1) → z * (1 - 2 * bi (F = 1 ∧ ¬ qr U P)) * (1 - 2 * bi (E = 1 ∧ ¬ qr V P)) = syM a b P → lv_has ls 14 [(12, .int (ji z)), (6, .int (ji E)), (7, .int (ji F)), (8, .long (jl ((U:Int)))), (10, .long (jl ((V:Int)))), (4, .long (jl ((P:Int)))), (0, .long (jl a)), (2, .long (jl b))] → W p_ l e_ (rmd 1) s_ m_ a_ b_ t_ c_ s_.heap [] 0 0 (XQ b_ (pmQ (fun r => r = .int (ji (syM a b (P : Int))))) a_ s_ 0 0 (fun _ => False)) (F0 m_ 165 ls []) := by
        intro z ls hb9 hz hl
        refine lv_iload hx hb dM_symbolOf_165 (lv_at hl 2 rfl) ?_
        refine j_iconst hx hb dM_symbolOf_167 ?_
        refine j_icmp_ne hx hb (by omega) (by omega) dM_symbolOf_168 rfl (fun h3 => ?_) (fun h3 => ?_)
        · rw [bi_f (fun q => h3 q.1)] at hz
          refine lv_iload hx hb dM_symbolOf_187 (lv_at hl 0 rfl) ?_
          refine lv_istore hx hb dM_symbolOf_189 hl (by decide) rfl (fun ls hl => ?_)
          have hl : lv_has ls 14 [(12, .int (ji z)), (6, .int (ji E)), (7, .int (ji F)), (8, .long (jl ((U:Int)))), (10, .long (jl ((V:Int)))), (4, .long (jl ((P:Int)))), (0, .long (jl a)), (2, .long (jl b))] := hl
          exact k191 z ls hb9 (by rw [← hz]; simp) (lv_sub hl [0, 1, 2, 3, 4, 5, 6, 7] rfl)
        · refine lv_lload hx hb dM_symbolOf_171 (lv_at hl 3 rfl) ?_
          refine lv_lload hx hb dM_symbolOf_173 (lv_at hl 5 rfl) ?_
          refine pm_G (As := [.long (jl ((U:Int))), .long (jl ((P:Int)))]) (rest := []) hx hb hml hown hg hl (kM_isRemainder l U P (by omega) (by omega) (by omega)) wd569 wd570 wd5 wd571 ⟨rfl, rfl⟩ (n := 2) (by decide +kernel) rfl ⟨by decide, by decide⟩ rfl (Nat.le_of_ble_eq_true rfl) dM_symbolOf_175 ⟨Nat.zero_le _, Nat.zero_le _⟩ (fun r hr9 => ?_)
          subst hr9
          refine j_if_ne hx hb (bi_b32 _) dM_symbolOf_178 rfl (fun h5 => ?_) (fun h5 => ?_)
          · rw [bi_f (fun q => q.2 (bi_ne h5))] at hz
            refine lv_iload hx hb dM_symbolOf_187 (lv_at hl 0 rfl) ?_
            refine lv_istore hx hb dM_symbolOf_189 hl (by decide) rfl (fun ls hl => ?_)
            have hl : lv_has ls 14 [(12, .int (ji z)), (6, .int (ji E)), (7, .int (ji F)), (8, .long (jl ((U:Int)))), (10, .long (jl ((V:Int)))), (4, .long (jl ((P:Int)))), (0, .long (jl a)), (2, .long (jl b))] := hl
            exact k191 z ls hb9 (by rw [← hz]; simp) (lv_sub hl [0, 1, 2, 3, 4, 5, 6, 7] rfl)
          · rw [bi_t ⟨h3, bi_eq h5⟩] at hz
            refine lv_iload hx hb dM_symbolOf_181 (lv_at hl 0 rfl) ?_
            refine j_ineg hx hb dM_symbolOf_183 ?_
            refine lv_goto hx hb dM_symbolOf_184 rfl ?_
            refine lv_istore hx hb dM_symbolOf_189 hl (by decide) rfl (fun ls hl => ?_)
            have hl : lv_has ls 14 [(12, .int (ji (-z))), (6, .int (ji E)), (7, .int (ji F)), (8, .long (jl ((U:Int)))), (10, .long (jl ((V:Int)))), (4, .long (jl ((P:Int)))), (0, .long (jl a)), (2, .long (jl b))] := hl
            exact k191 (-z) ls (by omega) (by rw [← hz]; simp) (lv_sub hl [0, 1, 2, 3, 4, 5, 6, 7] rfl)
      have hef := bit_mul hE hF
      have hl : lv_has ls 14 [(6, .int (ji E)), (7, .int (ji F)), (8, .long (jl ((U:Int)))), (10, .long (jl ((V:Int)))), (4, .long (jl ((P:Int)))), (0, .long (jl a)), (2, .long (jl b))] := lv_sub hl [3, 2, 1, 0, 6, 4, 5] rfl
      refine lv_iload hx hb dM_symbolOf_132 (lv_at hl 0 rfl) ?_
      refine lv_iload hx hb dM_symbolOf_134 (lv_at hl 1 rfl) ?_
      refine j_imul hx hb dM_symbolOf_136 ?_
      refine j_iconst hx hb dM_symbolOf_137 ?_
      refine j_icmp_ne hx hb (by omega) (by omega) dM_symbolOf_138 rfl (fun h3 => ?_) (fun h3 => ?_)
      · have h4 : E * F = 0 := by omega
        rw [if_pos (by rw [h4, Int.zero_mul]; rfl)] at hsy
        refine j_iconst hx hb dM_symbolOf_162 ?_
        refine lv_istore hx hb dM_symbolOf_163 hl (by decide) rfl (fun ls hl => ?_)
        have hl : lv_has ls 14 [(12, .int (ji 1)), (6, .int (ji E)), (7, .int (ji F)), (8, .long (jl ((U:Int)))), (10, .long (jl ((V:Int)))), (4, .long (jl ((P:Int)))), (0, .long (jl a)), (2, .long (jl b))] := hl
        exact k165 1 ls (Or.inl rfl) hsy.symm hl
      · have e1 : ((P : Int) - 1).tdiv 2 = ((P : Int) - 1) / 2 := td_nn (by omega)
        have e2 : (((P : Int) - 1).tdiv 2).tmod 2 = ((P : Int) - 1) / 2 % 2 := by rw [e1]; exact tm_nn (by omega)
        rw [h3, Int.one_mul] at hsy
        refine lv_lload hx hb dM_symbolOf_141 (lv_at hl 4 rfl) ?_
        refine j_lconst1 hx hb dM_symbolOf_143 ?_
        refine j_lsub hx hb dM_symbolOf_144 ?_
        refine j_ldc2 (z := 2) hx hb hown hg wd522 rfl dM_symbolOf_145 ?_
        refine j_ldiv hx hb (by omega) (by omega) (by omega) dM_symbolOf_148 ?_
        refine j_ldc2 (z := 2) hx hb hown hg wd522 rfl dM_symbolOf_149 ?_
        refine j_lrem hx hb (by omega) (by omega) (by omega) dM_symbolOf_152 ?_
        refine j_lconst1 hx hb dM_symbolOf_153 ?_
        refine j_lc_ne hx hb (by omega) (by decide) dM_symbolOf_154 dM_symbolOf_155 rfl (fun h5 => ?_) (fun h5 => ?_)
        · rw [e2] at h5
          rw [if_pos (by omega)] at hsy
          refine j_iconst hx hb dM_symbolOf_162 ?_
          refine lv_istore hx hb dM_symbolOf_163 hl (by decide) rfl (fun ls hl => ?_)
          have hl : lv_has ls 14 [(12, .int (ji 1)), (6, .int (ji E)), (7, .int (ji F)), (8, .long (jl ((U:Int)))), (10, .long (jl ((V:Int)))), (4, .long (jl ((P:Int)))), (0, .long (jl a)), (2, .long (jl b))] := hl
          exact k165 1 ls (Or.inl rfl) hsy.symm hl
        · rw [e2] at h5
          rw [if_neg (by omega)] at hsy
          refine j_iconst hx hb dM_symbolOf_158 ?_
          refine lv_goto hx hb dM_symbolOf_159 rfl ?_
          refine lv_istore hx hb dM_symbolOf_163 hl (by decide) rfl (fun ls hl => ?_)
          have hl : lv_has ls 14 [(12, .int (ji (-1))), (6, .int (ji E)), (7, .int (ji F)), (8, .long (jl ((U:Int)))), (10, .long (jl ((V:Int)))), (4, .long (jl ((P:Int)))), (0, .long (jl a)), (2, .long (jl b))] := hl
          exact k165 (-1) ls (Or.inr rfl) hsy.symm hl
    · have hum : um p9 = 8 := if_pos h2
      have hsF : sF (oM a p9) (oM b p9) (uM a p9) (uM b p9) p9 = s2 (oM a p9) (oM b p9) (uM a p9) (uM b p9) := if_pos h2
      rw [hsF] at hsy
      have h3 : uM a p9 % 2 = 1 := by rw [h2]; exact uM_odd h4a
      have h4 : uM b p9 % 2 = 1 := by rw [h2]; exact uM_odd h4b
      generalize oM a p9 = E at *
      generalize oM b p9 = F at *
      generalize uM a p9 = U at *
      generalize uM b p9 = V at *
      have hl : lv_has ls 14 [(6, .int (ji E)), (7, .int (ji F)), (8, .long (jl U)), (10, .long (jl V)), (4, .long (jl p9)), (0, .long (jl a)), (2, .long (jl b))] := lv_sub hl [3, 2, 1, 0, 6, 4, 5] rfl
      obtain ⟨hA, hB, hC⟩ := s2_all hE hF (show 1 ≤ U ∧ U ≤ 7 by omega) (show 1 ≤ V ∧ V ≤ 7 by omega)
      have hvv : 1 ≤ V * V ∧ V * V ≤ 49 := ⟨by have := Int.mul_le_mul (show 1 ≤ V by omega) (show 1 ≤ V by omega) (by decide) (by omega); omega, by have := Int.mul_le_mul (show V ≤ 7 by omega) (show V ≤ 7 by omega) (by omega) (by decide); omega⟩
      have huu : 1 ≤ U * U ∧ U * U ≤ 49 := ⟨by have := Int.mul_le_mul (show 1 ≤ U by omega) (show 1 ≤ U by omega) (by decide) (by omega); omega, by have := Int.mul_le_mul (show U ≤ 7 by omega) (show U ≤ 7 by omega) (by omega) (by decide); omega⟩
      refine lv_lload hx hb dM_symbolOf_66 (lv_at hl 2 rfl) ?_
      refine j_lconst1 hx hb dM_symbolOf_68 ?_
      refine j_lsub hx hb dM_symbolOf_69 ?_
      refine j_ldc2 (z := 2) hx hb hown hg wd522 rfl dM_symbolOf_70 ?_
      refine j_ldiv hx hb (by omega) (by omega) (by omega) dM_symbolOf_73 ?_
      refine lv_lload hx hb dM_symbolOf_74 (lv_at hl 3 rfl) ?_
      refine j_lconst1 hx hb dM_symbolOf_76 ?_
      refine j_lsub hx hb dM_symbolOf_77 ?_
      refine j_ldc2 (z := 2) hx hb hown hg wd522 rfl dM_symbolOf_78 ?_
      refine j_ldiv hx hb (by omega) (by omega) (by omega) dM_symbolOf_81 ?_
      refine j_lmul hx hb dM_symbolOf_82 ?_
      refine lv_iload hx hb dM_symbolOf_83 (lv_at hl 0 rfl) ?_
      refine j_i2l hx hb (by have := oM_bd a p9; omega) dM_symbolOf_85 ?_
      refine lv_lload hx hb dM_symbolOf_86 (lv_at hl 3 rfl) ?_
      refine lv_lload hx hb dM_symbolOf_88 (lv_at hl 3 rfl) ?_
      refine j_lmul hx hb dM_symbolOf_90 ?_
      refine j_lconst1 hx hb dM_symbolOf_91 ?_
      refine j_lsub hx hb dM_symbolOf_92 ?_
      refine j_ldc2 (z := 8) hx hb hown hg wd568 rfl dM_symbolOf_93 ?_
      refine j_ldiv hx hb (by omega) (by omega) (by omega) dM_symbolOf_96 ?_
      refine j_lmul hx hb dM_symbolOf_97 ?_
      refine j_ladd hx hb dM_symbolOf_98 ?_
      refine lv_iload hx hb dM_symbolOf_99 (lv_at hl 1 rfl) ?_
      refine j_i2l hx hb (by have := oM_bd b p9; omega) dM_symbolOf_101 ?_
      refine lv_lload hx hb dM_symbolOf_102 (lv_at hl 2 rfl) ?_
      refine lv_lload hx hb dM_symbolOf_104 (lv_at hl 2 rfl) ?_
      refine j_lmul hx hb dM_symbolOf_106 ?_
      refine j_lconst1 hx hb dM_symbolOf_107 ?_
      refine j_lsub hx hb dM_symbolOf_108 ?_
      refine j_ldc2 (z := 8) hx hb hown hg wd568 rfl dM_symbolOf_109 ?_
      refine j_ldiv hx hb (by omega) (by omega) (by omega) dM_symbolOf_112 ?_
      refine j_lmul hx hb dM_symbolOf_113 ?_
      refine j_ladd hx hb dM_symbolOf_114 ?_
      refine lv_lstore hx hb dM_symbolOf_115 hl (by decide) rfl (fun ls hl => ?_)
      have hl : lv_has ls 14 [(12, .long (jl (((((U - 1).tdiv 2) * ((V - 1).tdiv 2)) + (E * (((V * V) - 1).tdiv 8))) + (F * (((U * U) - 1).tdiv 8))))), (6, .int (ji E)), (7, .int (ji F)), (8, .long (jl U)), (10, .long (jl V)), (4, .long (jl p9)), (0, .long (jl a)), (2, .long (jl b))] := hl
      rw [hA] at hl
      have hs : s2 E F U V = if ((U - 1) / 2 * ((V - 1) / 2) + E * ((V * V - 1) / 8) + F * ((U * U - 1) / 8)) % 2 = 0 then 1 else -1 := rfl
      generalize (U - 1) / 2 * ((V - 1) / 2) + E * ((V * V - 1) / 8) + F * ((U * U - 1) / 8) = Z0 at *
      obtain ⟨Z, rfl⟩ := Int.eq_ofNat_of_zero_le hB
      refine lv_lload hx hb dM_symbolOf_117 (lv_at hl 0 rfl) ?_
      refine j_lconst1 hx hb dM_symbolOf_119 ?_
      refine j_land1 hx hb dM_symbolOf_120 ?_
      refine j_lconst1 hx hb dM_symbolOf_121 ?_
      refine j_lc_ne hx hb (by omega) (by decide) dM_symbolOf_122 dM_symbolOf_123 rfl (fun h5 => ?_) (fun h5 => ?_)
      · rw [if_pos (by omega)] at hs
        refine j_iconst hx hb dM_symbolOf_130 ?_
        exact pm_iret hx hb hr hk dM_symbolOf_131 (by rw [hsy, hs])
      · rw [if_neg (by omega)] at hs
        refine j_iconst hx hb dM_symbolOf_126 ?_
        refine lv_goto hx hb dM_symbolOf_127 rfl ?_
        exact pm_iret hx hb hr hk dM_symbolOf_131 (by rw [hsy, hs])
  · rw [if_pos h1] at hsy
    refine lv_lload_n hx hb dM_symbolOf_7 rfl (lv_at hl 0 rfl) ?_
    refine j_lconst0 hx hb dM_symbolOf_8 ?_
    refine j_lc_ge hx hb (by omega) (by omega) dM_symbolOf_9 dM_symbolOf_10 rfl (fun h2 => ?_) (fun h2 => ?_)
    · refine j_iconst hx hb dM_symbolOf_23 ?_
      exact pm_iret hx hb hr hk dM_symbolOf_24 (by rw [hsy, if_neg (by omega)])
    · refine lv_lload_n hx hb dM_symbolOf_13 rfl (lv_at hl 1 rfl) ?_
      refine j_lconst0 hx hb dM_symbolOf_14 ?_
      refine j_lc_ge hx hb (by omega) (by omega) dM_symbolOf_15 dM_symbolOf_16 rfl (fun h3 => ?_) (fun h3 => ?_)
      · refine j_iconst hx hb dM_symbolOf_23 ?_
        exact pm_iret hx hb hr hk dM_symbolOf_24 (by rw [hsy, if_neg (by omega)])
      · refine j_iconst hx hb dM_symbolOf_19 ?_
        refine lv_goto hx hb dM_symbolOf_20 rfl ?_
        exact pm_iret hx hb hr hk dM_symbolOf_24 (by rw [hsy, if_pos (by omega)])
end
section
/-! the cells of class and reference: 36 places; what they hold is M : place -> slot -> number -/
def TxD : u_T := fun k => match k with
  | 0 => ("RationalForms$Diagonal", "terms", "[J", true)
  | 1 => ("RationalForms$Diagonal", "primes", "[I", true)
  | 2 => ("RationalForms$Diagonal", "dimension", "I", false)
  | 3 => ("RationalForms$Diagonal", "rank", "I", false)
  | 4 => ("RationalForms$Diagonal", "positive", "I", false)
  | 5 => ("RationalForms$Diagonal", "negative", "I", false)
  | 6 => ("RationalForms$Diagonal", "discriminant", "J", false)
  | _ => ("RationalForms$Diagonal", "primeCount", "I", false)
def txD : Nat → FieldType := fun k => match k with
  | 0 => .array .long
  | 1 => .array .int
  | 2 => .int
  | 3 => .int
  | 4 => .int
  | 5 => .int
  | 6 => .long
  | _ => .int
theorem nmD : ∀ a, a < 8 → ∀ b, b < 8 → a ≠ b → (TxD a).2.1 ≠ (TxD b).2.1 := by decide +kernel
theorem txD_ok : ∀ k, k < 8 → parseFieldDescriptor (TxD k).2.2.1 = some (txD k) := by decide +kernel
set_option maxRecDepth 20000 in
theorem lyD_0 : u_lay "RationalForms$Diagonal" TxD 0 ∈ GG := GG_t 79 rfl rfl
set_option maxRecDepth 20000 in
theorem lyD_1 : u_lay "RationalForms$Diagonal" TxD 1 ∈ GG := GG_t 81 rfl rfl
set_option maxRecDepth 20000 in
theorem lyD_2 : u_lay "RationalForms$Diagonal" TxD 2 ∈ GG := GG_t 83 rfl rfl
set_option maxRecDepth 20000 in
theorem lyD_3 : u_lay "RationalForms$Diagonal" TxD 3 ∈ GG := GG_t 85 rfl rfl
set_option maxRecDepth 20000 in
theorem lyD_4 : u_lay "RationalForms$Diagonal" TxD 4 ∈ GG := GG_t 87 rfl rfl
set_option maxRecDepth 20000 in
theorem lyD_5 : u_lay "RationalForms$Diagonal" TxD 5 ∈ GG := GG_t 89 rfl rfl
set_option maxRecDepth 20000 in
theorem lyD_6 : u_lay "RationalForms$Diagonal" TxD 6 ∈ GG := GG_t 91 rfl rfl
set_option maxRecDepth 20000 in
theorem lyD_7 : u_lay "RationalForms$Diagonal" TxD 7 ∈ GG := GG_t 93 rfl rfl
theorem uwD : ∀ w ∈ u_ws "RationalForms$Diagonal" TxD 8, w ∈ GG := by
  intro w hw
  obtain ⟨k, hk, rfl⟩ := List.mem_map.mp hw
  have hk := List.mem_range.mp hk
  match k, hk with
  | 0, _ => exact lyD_0
  | 1, _ => exact lyD_1
  | 2, _ => exact lyD_2
  | 3, _ => exact lyD_3
  | 4, _ => exact lyD_4
  | 5, _ => exact lyD_5
  | 6, _ => exact lyD_6
  | 7, _ => exact lyD_7
def TxF : u_T := fun k => match k with
  | 0 => ("RationalForms$Form", "dimension", "I", false)
  | _ => ("RationalForms$Form", "numbers", "[[I", true)
def txF : Nat → FieldType := fun k => match k with
  | 0 => .int
  | _ => .array (.array .int)
theorem nmF : ∀ a, a < 2 → ∀ b, b < 2 → a ≠ b → (TxF a).2.1 ≠ (TxF b).2.1 := by decide +kernel
theorem txF_ok : ∀ k, k < 2 → parseFieldDescriptor (TxF k).2.2.1 = some (txF k) := by decide +kernel
set_option maxRecDepth 20000 in
theorem lyF_0 : u_lay "RationalForms$Form" TxF 0 ∈ GG := GG_t 55 rfl rfl
set_option maxRecDepth 20000 in
theorem lyF_1 : u_lay "RationalForms$Form" TxF 1 ∈ GG := GG_t 57 rfl rfl
theorem uwF : ∀ w ∈ u_ws "RationalForms$Form" TxF 2, w ∈ GG := by
  intro w hw
  obtain ⟨k, hk, rfl⟩ := List.mem_map.mp hw
  have hk := List.mem_range.mp hk
  match k, hk with
  | 0, _ => exact lyF_0
  | 1, _ => exact lyF_1
def TxR : u_T := fun k => match k with
  | 0 => ("RationalForms$Reduction", "table", "[[J", true)
  | _ => ("RationalForms$Reduction", "size", "I", false)
def txR : Nat → FieldType := fun k => match k with
  | 0 => .array (.array .long)
  | _ => .int
theorem nmR : ∀ a, a < 2 → ∀ b, b < 2 → a ≠ b → (TxR a).2.1 ≠ (TxR b).2.1 := by decide +kernel
theorem txR_ok : ∀ k, k < 2 → parseFieldDescriptor (TxR k).2.2.1 = some (txR k) := by decide +kernel
set_option maxRecDepth 20000 in
theorem lyR_0 : u_lay "RationalForms$Reduction" TxR 0 ∈ GG := GG_t 37 rfl rfl
set_option maxRecDepth 20000 in
theorem lyR_1 : u_lay "RationalForms$Reduction" TxR 1 ∈ GG := GG_t 39 rfl rfl
theorem uwR : ∀ w ∈ u_ws "RationalForms$Reduction" TxR 2, w ∈ GG := by
  intro w hw
  obtain ⟨k, hk, rfl⟩ := List.mem_map.mp hw
  have hk := List.mem_range.mp hk
  match k, hk with
  | 0, _ => exact lyR_0
  | 1, _ => exact lyR_1
def TxC : u_T := fun k => match k with
  | 0 => ("RationalForms", "forms", "[LRationalForms$Form;", true)
  | 1 => ("RationalForms", "diagonals", "[LRationalForms$Diagonal;", true)
  | 2 => ("RationalForms", "reduction", "LRationalForms$Reduction;", true)
  | _ => ("RationalForms", "point", "[I", true)
def txC : Nat → FieldType := fun k => match k with
  | 0 => .array (.object "RationalForms$Form")
  | 1 => .array (.object "RationalForms$Diagonal")
  | 2 => .object "RationalForms$Reduction"
  | _ => .array .int
theorem nmC : ∀ a, a < 4 → ∀ b, b < 4 → a ≠ b → (TxC a).2.1 ≠ (TxC b).2.1 := by decide +kernel
theorem txC_ok : ∀ k, k < 4 → parseFieldDescriptor (TxC k).2.2.1 = some (txC k) := by decide +kernel
set_option maxRecDepth 20000 in
theorem lyC_0 : u_lay "RationalForms" TxC 0 ∈ GG := GG_t 100 rfl rfl
set_option maxRecDepth 20000 in
theorem lyC_1 : u_lay "RationalForms" TxC 1 ∈ GG := GG_t 102 rfl rfl
set_option maxRecDepth 20000 in
theorem lyC_2 : u_lay "RationalForms" TxC 2 ∈ GG := GG_t 104 rfl rfl
set_option maxRecDepth 20000 in
theorem lyC_3 : u_lay "RationalForms" TxC 3 ∈ GG := GG_t 106 rfl rfl
theorem uwC : ∀ w ∈ u_ws "RationalForms" TxC 4, w ∈ GG := by
  intro w hw
  obtain ⟨k, hk, rfl⟩ := List.mem_map.mp hw
  have hk := List.mem_range.mp hk
  match k, hk with
  | 0, _ => exact lyC_0
  | 1, _ => exact lyC_1
  | 2, _ => exact lyC_2
  | 3, _ => exact lyC_3
def TxM : u_T := fun k => match k with
  | 0 => ("RationalFormsModel", "dimension", "[I", true)
  | 1 => ("RationalFormsModel", "number", "[I", true)
  | 2 => ("RationalFormsModel", "work", "[J", true)
  | 3 => ("RationalFormsModel", "rank", "I", false)
  | 4 => ("RationalFormsModel", "term", "[J", true)
  | 5 => ("RationalFormsModel", "positive", "I", false)
  | 6 => ("RationalFormsModel", "negative", "I", false)
  | 7 => ("RationalFormsModel", "discriminant", "J", false)
  | 8 => ("RationalFormsModel", "primes", "I", false)
  | 9 => ("RationalFormsModel", "prime", "[J", true)
  | 10 => ("RationalFormsModel", "signs", "I", false)
  | 11 => ("RationalFormsModel", "signAt", "[I", true)
  | _ => ("RationalFormsModel", "thrown", "I", false)
def txM : Nat → FieldType := fun k => match k with
  | 0 => .array .int
  | 1 => .array .int
  | 2 => .array .long
  | 3 => .int
  | 4 => .array .long
  | 5 => .int
  | 6 => .int
  | 7 => .long
  | 8 => .int
  | 9 => .array .long
  | 10 => .int
  | 11 => .array .int
  | _ => .int
theorem nmM : ∀ a, a < 13 → ∀ b, b < 13 → a ≠ b → (TxM a).2.1 ≠ (TxM b).2.1 := by decide +kernel
theorem txM_ok : ∀ k, k < 13 → parseFieldDescriptor (TxM k).2.2.1 = some (txM k) := by decide +kernel
set_option maxRecDepth 20000 in
theorem lyM_0 : u_lay "RationalFormsModel" TxM 0 ∈ GG := GG_t 472 rfl rfl
set_option maxRecDepth 20000 in
theorem lyM_1 : u_lay "RationalFormsModel" TxM 1 ∈ GG := GG_t 474 rfl rfl
set_option maxRecDepth 20000 in
theorem lyM_2 : u_lay "RationalFormsModel" TxM 2 ∈ GG := GG_t 476 rfl rfl
set_option maxRecDepth 20000 in
theorem lyM_3 : u_lay "RationalFormsModel" TxM 3 ∈ GG := GG_t 478 rfl rfl
set_option maxRecDepth 20000 in
theorem lyM_4 : u_lay "RationalFormsModel" TxM 4 ∈ GG := GG_t 480 rfl rfl
set_option maxRecDepth 20000 in
theorem lyM_5 : u_lay "RationalFormsModel" TxM 5 ∈ GG := GG_t 482 rfl rfl
set_option maxRecDepth 20000 in
theorem lyM_6 : u_lay "RationalFormsModel" TxM 6 ∈ GG := GG_t 484 rfl rfl
set_option maxRecDepth 20000 in
theorem lyM_7 : u_lay "RationalFormsModel" TxM 7 ∈ GG := GG_t 486 rfl rfl
set_option maxRecDepth 20000 in
theorem lyM_8 : u_lay "RationalFormsModel" TxM 8 ∈ GG := GG_t 488 rfl rfl
set_option maxRecDepth 20000 in
theorem lyM_9 : u_lay "RationalFormsModel" TxM 9 ∈ GG := GG_t 490 rfl rfl
set_option maxRecDepth 20000 in
theorem lyM_10 : u_lay "RationalFormsModel" TxM 10 ∈ GG := GG_t 492 rfl rfl
set_option maxRecDepth 20000 in
theorem lyM_11 : u_lay "RationalFormsModel" TxM 11 ∈ GG := GG_t 494 rfl rfl
set_option maxRecDepth 20000 in
theorem lyM_12 : u_lay "RationalFormsModel" TxM 12 ∈ GG := GG_t 496 rfl rfl
theorem uwM : ∀ w ∈ u_ws "RationalFormsModel" TxM 13, w ∈ GG := by
  intro w hw
  obtain ⟨k, hk, rfl⟩ := List.mem_map.mp hw
  have hk := List.mem_range.mp hk
  match k, hk with
  | 0, _ => exact lyM_0
  | 1, _ => exact lyM_1
  | 2, _ => exact lyM_2
  | 3, _ => exact lyM_3
  | 4, _ => exact lyM_4
  | 5, _ => exact lyM_5
  | 6, _ => exact lyM_6
  | 7, _ => exact lyM_7
  | 8, _ => exact lyM_8
  | 9, _ => exact lyM_9
  | 10, _ => exact lyM_10
  | 11, _ => exact lyM_11
  | 12, _ => exact lyM_12
abbrev cl5 : List vw_C := [("RationalForms$Diagonal", TxD, 8), ("RationalForms$Form", TxF, 2), ("RationalForms$Reduction", TxR, 2), ("RationalForms", TxC, 4), ("RationalFormsModel", TxM, 13)]
abbrev En : Type := va_G × (Nat → Nat) × (Nat → ClassId)
abbrev Me : Type := Nat → Nat → Int
def iA (c : ClassId) (n : Nat) (r : Nat → Int) : va_E := .inl (c, n, .inl (fun j => ji (r j)))
def lA (c : ClassId) (n : Nat) (r : Nat → Int) : va_E := .inl (c, n, .inr (.inl (fun j => jl (r j))))
def aA (c : ClassId) (n : Nat) (f : Nat → Nat) : va_E := .inl (c, n, .inr (.inr (.inr (.inr (fun j => some (f j))))))
/-- what lies at place k -/
def shp (E : En) (k : Nat) (r : Nat → Int) : va_E :=
  if k = 0 then .inr (3, [.ref (E.2.1 1), .ref (E.2.1 2), .ref (E.2.1 3), .ref (E.2.1 4)])
  else if k = 1 then aA (E.2.2 4) 2 (fun i => E.2.1 (5 + i))
  else if k = 2 then aA (E.2.2 5) 2 (fun i => E.2.1 (17 + i))
  else if k = 3 then .inr (2, [.ref (E.2.1 23), .int (ji (r 1))])
  else if k = 4 then iA (E.2.2 0) 4 r
  else if k < 7 then .inr (1, [.int (ji (r 0)), .ref (E.2.1 (k + 2))])
  else if k < 9 then aA (E.2.2 2) 4 (fun i => E.2.1 (9 + 4 * (k - 7) + i))
  else if k < 17 then iA (E.2.2 0) 4 r
  else if k < 19 then .inr (0, [.ref (E.2.1 (k + 2)), .ref (E.2.1 (k + 4)), .int (ji (r 2)), .int (ji (r 3)), .int (ji (r 4)), .int (ji (r 5)), .long (jl (r 6)), .int (ji (r 7))])
  else if k < 21 then lA (E.2.2 1) 5 r
  else if k < 23 then iA (E.2.2 0) 32 r
  else if k = 23 then aA (E.2.2 3) 4 (fun i => E.2.1 (24 + i))
  else if k < 28 then lA (E.2.2 1) 4 r
  else if k = 28 then .inr (4, [.ref (E.2.1 29), .ref (E.2.1 30), .ref (E.2.1 31), .int (ji (r 3)), .ref (E.2.1 32), .int (ji (r 5)), .int (ji (r 6)), .long (jl (r 7)), .int (ji (r 8)), .ref (E.2.1 33), .int (ji (r 10)), .ref (E.2.1 34), .int (ji (r 12))])
  else if k = 29 then iA (E.2.2 0) 2 r
  else if k = 30 then iA (E.2.2 0) 32 r
  else if k = 31 then lA (E.2.2 1) 16 r
  else if k = 32 then lA (E.2.2 1) 5 r
  else if k = 33 then lA (E.2.2 1) 60 r
  else if k = 34 then iA (E.2.2 0) 60 r
  else lA (E.2.2 1) 1 r
section SH
variable (E : En) (r : Nat → Int)
theorem sh_C : shp E 0 r = .inr (3, [.ref (E.2.1 1), .ref (E.2.1 2), .ref (E.2.1 3), .ref (E.2.1 4)]) := rfl
theorem sh_fs : shp E 1 r = aA (E.2.2 4) 2 (fun i => E.2.1 (5 + i)) := rfl
theorem sh_ds : shp E 2 r = aA (E.2.2 5) 2 (fun i => E.2.1 (17 + i)) := rfl
theorem sh_R : shp E 3 r = .inr (2, [.ref (E.2.1 23), .int (ji (r 1))]) := rfl
theorem sh_pt : shp E 4 r = iA (E.2.2 0) 4 r := rfl
theorem sh_F {f : Nat} (h : f < 2) : shp E (5 + f) r = .inr (1, [.int (ji (r 0)), .ref (E.2.1 (7 + f))]) := by
  have h : f = 0 ∨ f = 1 := by omega
  rcases h with rfl | rfl <;> rfl
theorem sh_o {f : Nat} (h : f < 2) : shp E (7 + f) r = aA (E.2.2 2) 4 (fun i => E.2.1 (9 + 4 * f + i)) := by
  have h : f = 0 ∨ f = 1 := by omega
  rcases h with rfl | rfl <;> rfl
theorem sh_n {f i : Nat} (h : f < 2) (hi : i < 4) : shp E (9 + 4 * f + i) r = iA (E.2.2 0) 4 r := by
  have h : f = 0 ∨ f = 1 := by omega
  have hi : i = 0 ∨ i = 1 ∨ i = 2 ∨ i = 3 := by omega
  rcases h with rfl | rfl <;> rcases hi with rfl | rfl | rfl | rfl <;> rfl
theorem sh_D {f : Nat} (h : f < 2) : shp E (17 + f) r = .inr (0, [.ref (E.2.1 (19 + f)), .ref (E.2.1 (21 + f)), .int (ji (r 2)), .int (ji (r 3)), .int (ji (r 4)), .int (ji (r 5)), .long (jl (r 6)), .int (ji (r 7))]) := by
  have h : f = 0 ∨ f = 1 := by omega
  rcases h with rfl | rfl <;> rfl
theorem sh_t {f : Nat} (h : f < 2) : shp E (19 + f) r = lA (E.2.2 1) 5 r := by
  have h : f = 0 ∨ f = 1 := by omega
  rcases h with rfl | rfl <;> rfl
theorem sh_p {f : Nat} (h : f < 2) : shp E (21 + f) r = iA (E.2.2 0) 32 r := by
  have h : f = 0 ∨ f = 1 := by omega
  rcases h with rfl | rfl <;> rfl
theorem sh_b : shp E 23 r = aA (E.2.2 3) 4 (fun i => E.2.1 (24 + i)) := rfl
theorem sh_w {i : Nat} (hi : i < 4) : shp E (24 + i) r = lA (E.2.2 1) 4 r := by
  have hi : i = 0 ∨ i = 1 ∨ i = 2 ∨ i = 3 := by omega
  rcases hi with rfl | rfl | rfl | rfl <;> rfl
theorem sh_M : shp E 28 r = .inr (4, [.ref (E.2.1 29), .ref (E.2.1 30), .ref (E.2.1 31), .int (ji (r 3)), .ref (E.2.1 32), .int (ji (r 5)), .int (ji (r 6)), .long (jl (r 7)), .int (ji (r 8)), .ref (E.2.1 33), .int (ji (r 10)), .ref (E.2.1 34), .int (ji (r 12))]) := rfl
theorem sh_29 : shp E 29 r = iA (E.2.2 0) 2 r := rfl
theorem sh_30 : shp E 30 r = iA (E.2.2 0) 32 r := rfl
theorem sh_31 : shp E 31 r = lA (E.2.2 1) 16 r := rfl
theorem sh_32 : shp E 32 r = lA (E.2.2 1) 5 r := rfl
theorem sh_33 : shp E 33 r = lA (E.2.2 1) 60 r := rfl
theorem sh_34 : shp E 34 r = iA (E.2.2 0) 60 r := rfl
theorem sh_35 : shp E 35 r = lA (E.2.2 1) 1 r := rfl
end SH
def wl (E : En) (M : Me) : va_W := (List.range 36).map (fun k => (E.2.1 k, shp E k (M k)))
abbrev ty6 (E : En) : List (ClassId × FieldType) := [(E.2.2 0, .int), (E.2.2 1, .long), (E.2.2 2, .array .int), (E.2.2 3, .array .long), (E.2.2 4, .object "RationalForms$Form"), (E.2.2 5, .object "RationalForms$Diagonal")]
abbrev wP (E : En) (M : Me) (H : Heap) : Prop := va_P E.1 cl5 (wl E M) H
abbrev wK (E : En) (U : State) : Prop := va_K E.1 cl5 (ty6 E) U
/-- the places' addresses -/
def wA (E : En) : Nat → Prop := fun q => ∃ k, k < 36 ∧ q = E.2.1 k
def wJ (E : En) : Prop := ∀ i j, i < 36 → j < 36 → E.2.1 i = E.2.1 j → i = j
theorem wl_at {E : En} {M : Me} {k : Nat} (h : k < 36) : (wl E M)[k]? = some (E.2.1 k, shp E k (M k)) := by
  rw [wl, List.getElem?_map, List.getElem?_range h]; rfl
theorem wl_lt {E : En} {M : Me} {k : Nat} {q : Nat × va_E} (h : (wl E M)[k]? = some q) : k < 36 ∧ q = (E.2.1 k, shp E k (M k)) := by
  have h1 : k < 36 := by
    have := (List.getElem?_eq_some_iff.mp h).1
    simpa [wl] using this
  rw [wl_at h1] at h
  exact ⟨h1, (Option.some.inj h).symm⟩
theorem wl_D {E : En} (hJ : wJ E) (M : Me) : va_D (wA E) (wl E M) := by
  refine ⟨fun i j p q hi hj hpq => ?_, fun k q hk => ?_⟩
  · obtain ⟨h1, rfl⟩ := wl_lt hi
    obtain ⟨h2, rfl⟩ := wl_lt hj
    exact hJ i j h1 h2 hpq
  · obtain ⟨h1, rfl⟩ := wl_lt hk
    exact ⟨k, h1, rfl⟩
/-- one slot of one place -/
def mu (M : Me) (k j : Nat) (v : Int) : Me := fun a b => if a = k then (if b = j then v else M a b) else M a b
theorem mu_s (M : Me) (k j : Nat) (v : Int) : mu M k j v k j = v := by simp [mu]
theorem mu_k {M : Me} {k j a : Nat} {v : Int} (h : a ≠ k) : mu M k j v a = M a := by funext b; simp [mu, h]
theorem mu_j {M : Me} {k j b : Nat} {v : Int} (h : b ≠ j) (a : Nat) : mu M k j v a b = M a b := by simp [mu, h]
theorem wl_set {E : En} {M : Me} {k : Nat} (h : k < 36) {j : Nat} {v : Int} {e : va_E} (he : e = shp E k (mu M k j v k)) : (wl E M).set k (E.2.1 k, e) = wl E (mu M k j v) := by
  apply List.ext_getElem?
  intro i
  by_cases hi : i < 36
  · by_cases hik : i = k
    · subst hik
      rw [List.getElem?_set_self (by simp [wl]; exact hi), wl_at hi, he]
    · rw [List.getElem?_set_ne (fun q => hik q.symm), wl_at hi, wl_at hi, mu_k hik]
  · rw [List.getElem?_eq_none (by simp [wl]; omega), List.getElem?_eq_none (by simp [wl]; omega)]
section MR
variable {p : Program} {l : Launch} {e : Env} {R : Room} {s : State} {m : MethodId} {args : Array Value} {below : List Frame} {meth : Method} {c : Code} {H : Heap} {locs : List Loc} {cells slots : Nat} {Q : State → Prop} {cc : ByteArray} {pc : Nat} {ls : Array Slot} {rest : List Value} {E : En} {M : Me} {H0 : Heap}
theorem m_get (hx : p.tables.exec = Jvm.exec) (hb : c.code = cc) {own C : String} {T : u_T} {N ci index : Nat} (hg : ∀ w ∈ GG, w.before args s = true) (hin : ∀ w ∈ u_ws C T N, w ∈ GG) (hown : s.vm.findClass own = some m.cls) (hK : wK E s) (hP : wP E M H) {k : Nat} (hk : k < 36) {fs : List Value} (hs : shp E k (M k) = .inr (ci, fs)) (hc : cl5[ci]? = some (C, T, N)) (j : Nat) (hj : j < N) (hl : Cond.fieldLink own index (T j).1 (T j).2.1 (T j).2.2.1 ∈ GG) {v : Value} (hv : fs[j]? = some v) (hd : decode cc pc = .ok (.getfield index, 3))
    (kk : W p l e R s m args below meth c H locs cells slots Q (F0 m (pc + 3) ls (v :: rest))) : W p l e R s m args below meth c H locs cells slots Q (F0 m pc ls (.ref (E.2.1 k) :: rest)) :=
  va_get (D := E.1) (ci := ci) (C := C) (T := T) (N := N) hx hb hg hin hown hK hP k (by rw [wl_at hk, hs]) hc j hj (hg _ hl) (fun _ h => h) hv hd kk
theorem m_getN (hx : p.tables.exec = Jvm.exec) (hb : c.code = cc) {own C host : String} {T : u_T} {N ci index : Nat} (hg : ∀ w ∈ GG, w.before args s = true) (hin : ∀ w ∈ u_ws C T N, w ∈ GG) (hown : s.vm.findClass own = some m.cls) (hK : wK E s) (hP : wP E M H) {k : Nat} (hk : k < 36) {fs : List Value} (hs : shp E k (M k) = .inr (ci, fs)) (hc : cl5[ci]? = some (C, T, N)) (j : Nat) (hj : j < N) (hl : Cond.fieldLinkNest own index (T j).1 (T j).2.1 (T j).2.2.1 host ∈ GG) {v : Value} (hv : fs[j]? = some v) (hd : decode cc pc = .ok (.getfield index, 3))
    (kk : W p l e R s m args below meth c H locs cells slots Q (F0 m (pc + 3) ls (v :: rest))) : W p l e R s m args below meth c H locs cells slots Q (F0 m pc ls (.ref (E.2.1 k) :: rest)) :=
  va_getN (D := E.1) (ci := ci) (C := C) (T := T) (N := N) hx hb hg hin hown hK hP k (by rw [wl_at hk, hs]) hc j hj (hg _ hl) (fun _ h => h) hv hd kk
theorem m_put (hx : p.tables.exec = Jvm.exec) (hb : c.code = cc) {own C : String} {T : u_T} {N ci index : Nat} (hg : ∀ w ∈ GG, w.before args s = true) (hin : ∀ w ∈ u_ws C T N, w ∈ GG) (ty0 : Nat → FieldType) (hty : ∀ k, k < N → parseFieldDescriptor (T k).2.2.1 = some (ty0 k)) (hnm : ∀ a, a < N → ∀ b, b < N → a ≠ b → (T a).2.1 ≠ (T b).2.1) (hown : s.vm.findClass own = some m.cls) (hK : wK E s) (hJ : wJ E) (hP : wP E M H) (hS : va_S (wA E) H0 H locs) {k : Nat} (hk : k < 36) {fs : List Value} (hs : shp E k (M k) = .inr (ci, fs)) (hc : cl5[ci]? = some (C, T, N)) (j : Nat) (hj : j < N) (hl : Cond.fieldLink own index (T j).1 (T j).2.1 (T j).2.2.1 ∈ GG) (hfin : (T j).2.2.2 = false) {ty : FieldType} {v : Value} {z : Int} (hdd : parseFieldDescriptor (T j).2.2.1 = some ty) (hn : narrow ty v = v) (hft : fits ty v = true) (hlen : j < fs.length) (hsh : (Sum.inr (ci, fs.set j v) : va_E) = shp E k (mu M k j z k)) (hd : decode cc pc = .ok (.putfield index, 3))
    (kk : ∀ (H1 : Heap) (locs1 : List Loc), wP E (mu M k j z) H1 → va_S (wA E) H0 H1 locs1 → W p l e R s m args below meth c H1 locs1 cells slots Q (F0 m (pc + 3) ls rest)) : W p l e R s m args below meth c H locs cells slots Q (F0 m pc ls (v :: .ref (E.2.1 k) :: rest)) :=
  va_put (D := E.1) (ci := ci) (C := C) (T := T) (N := N) (ty := ty) hx hb hg hin ty0 hty hnm hown hK hP (wl_D hJ M) hS k (by rw [wl_at hk, hs]) hc j hj (hg _ hl) (fun _ h => h) hfin hdd hn hft hlen hd (fun H1 locs1 hP1 _ hS1 => kk H1 locs1 (by rw [wl_set hk hsh] at hP1; exact hP1) hS1)
theorem m_iald (hx : p.tables.exec = Jvm.exec) (hb : c.code = cc) (hK : wK E s) (hP : wP E M H) {k : Nat} (hk : k < 36) {len : Nat} (hs : shp E k (M k) = iA (E.2.2 0) len (M k)) {z : Int} {n : Nat} (hz : z = n) (hn : n < len) (hln : len ≤ 2147483647) (hd : decode cc pc = .ok (.iaload, 1))
    (kk : W p l e R s m args below meth c H locs cells slots Q (F0 m (pc + 1) ls (.int (ji (M k n)) :: rest))) : W p l e R s m args below meth c H locs cells slots Q (F0 m pc ls (.int (ji z) :: .ref (E.2.1 k) :: rest)) := by
  subst hz
  refine va_iald hx hb hK hP k 0 (cA := E.2.2 0) (n := len) (f := fun j => ji (M k j)) (by rw [wl_at hk, hs]; rfl) rfl (ji_in (by omega) (by omega) hln) hd ?_
  rw [ji_nat (by constructor <;> omega) (by omega)]
  exact kk
theorem m_lald (hx : p.tables.exec = Jvm.exec) (hb : c.code = cc) (hK : wK E s) (hP : wP E M H) {k : Nat} (hk : k < 36) {len : Nat} (hs : shp E k (M k) = lA (E.2.2 1) len (M k)) {z : Int} {n : Nat} (hz : z = n) (hn : n < len) (hln : len ≤ 2147483647) (hd : decode cc pc = .ok (.laload, 1))
    (kk : W p l e R s m args below meth c H locs cells slots Q (F0 m (pc + 1) ls (.long (jl (M k n)) :: rest))) : W p l e R s m args below meth c H locs cells slots Q (F0 m pc ls (.int (ji z) :: .ref (E.2.1 k) :: rest)) := by
  subst hz
  refine va_lald hx hb hK hP k 1 (cA := E.2.2 1) (n := len) (f := fun j => jl (M k j)) (by rw [wl_at hk, hs]; rfl) rfl (ji_in (by omega) (by omega) hln) hd ?_
  rw [ji_nat (by constructor <;> omega) (by omega)]
  exact kk
theorem m_aald (hx : p.tables.exec = Jvm.exec) (hb : c.code = cc) (hK : wK E s) (hP : wP E M H) {k : Nat} (hk : k < 36) {t0 : Nat} {cA : ClassId} {ty : FieldType} {len : Nat} {f : Nat → Nat} (hs : shp E k (M k) = aA cA len f) (ht : (ty6 E)[t0]? = some (cA, ty)) (hr : ty.isReference = true) {z : Int} {n : Nat} (hz : z = n) (hn : n < len) (hln : len ≤ 2147483647) (hd : decode cc pc = .ok (.aaload, 1))
    (kk : W p l e R s m args below meth c H locs cells slots Q (F0 m (pc + 1) ls (.ref (f n) :: rest))) : W p l e R s m args below meth c H locs cells slots Q (F0 m pc ls (.int (ji z) :: .ref (E.2.1 k) :: rest)) := by
  subst hz
  have hin : vp_in (ji (n : Int)) len := ji_in (by omega) (by omega) hln
  have hat := hP k _ (wl_at hk)
  rw [hs] at hat
  refine W.aald (v := .ref (f n)) (ty := ty) hx hb hat ((hK.2 t0 _ ht).1 len (fun j => va_rf (some (f j)))) hr (fun q => by cases q) (by show ¬ (ji (n : Int) < 0 ∨ (arrV _ _ _).slots.size ≤ _); rw [arrV_size]; exact hin) ?_ rfl rfl hd kk
  show (arrV _ _ _).slots[_]? = _
  rw [ji_nat (by constructor <;> omega) (by omega)]
  rw [arrV_read _ _ (show (n : Int).toNat < len by omega)]
  rfl
theorem m_iast (hx : p.tables.exec = Jvm.exec) (hb : c.code = cc) (hK : wK E s) (hJ : wJ E) (hP : wP E M H) (hS : va_S (wA E) H0 H locs) {k : Nat} (hk : k < 36) {len : Nat} (hs : ∀ r, shp E k r = iA (E.2.2 0) len r) {z x : Int} {n : Nat} (hz : z = n) (hn : n < len) (hln : len ≤ 2147483647) (hd : decode cc pc = .ok (.iastore, 1))
    (kk : ∀ (H1 : Heap) (locs1 : List Loc), wP E (mu M k n x) H1 → va_S (wA E) H0 H1 locs1 → W p l e R s m args below meth c H1 locs1 cells slots Q (F0 m (pc + 1) ls rest)) : W p l e R s m args below meth c H locs cells slots Q (F0 m pc ls (.int (ji x) :: .int (ji z) :: .ref (E.2.1 k) :: rest)) := by
  subst hz
  refine va_iast hx hb hK hP (wl_D hJ M) hS k 0 (cA := E.2.2 0) (n := len) (f := fun j => ji (M k j)) (by rw [wl_at hk, hs]; rfl) rfl (ji_in (by omega) (by omega) hln) hd (fun H1 locs1 hP1 _ hS1 => kk H1 locs1 ?_ hS1)
  rw [wl_set (j := n) (v := x) hk ?_] at hP1
  · exact hP1
  · rw [hs, ji_nat (by constructor <;> omega) (by omega)]
    show (Sum.inl (E.2.2 0, len, .inl _) : va_E) = Sum.inl (E.2.2 0, len, .inl _)
    congr 4
    funext j
    show (if j = (n : Int).toNat then ji x else ji (M k j)) = ji (mu M k n x k j)
    by_cases h : j = n
    · subst h
      rw [mu_s]; simp
    · rw [mu_j h]; simp [h]
theorem m_last (hx : p.tables.exec = Jvm.exec) (hb : c.code = cc) (hK : wK E s) (hJ : wJ E) (hP : wP E M H) (hS : va_S (wA E) H0 H locs) {k : Nat} (hk : k < 36) {len : Nat} (hs : ∀ r, shp E k r = lA (E.2.2 1) len r) {z x : Int} {n : Nat} (hz : z = n) (hn : n < len) (hln : len ≤ 2147483647) (hd : decode cc pc = .ok (.lastore, 1))
    (kk : ∀ (H1 : Heap) (locs1 : List Loc), wP E (mu M k n x) H1 → va_S (wA E) H0 H1 locs1 → W p l e R s m args below meth c H1 locs1 cells slots Q (F0 m (pc + 1) ls rest)) : W p l e R s m args below meth c H locs cells slots Q (F0 m pc ls (.long (jl x) :: .int (ji z) :: .ref (E.2.1 k) :: rest)) := by
  subst hz
  refine va_last hx hb hK hP (wl_D hJ M) hS k 1 (cA := E.2.2 1) (n := len) (f := fun j => jl (M k j)) (by rw [wl_at hk, hs]; rfl) rfl (ji_in (by omega) (by omega) hln) hd (fun H1 locs1 hP1 _ hS1 => kk H1 locs1 ?_ hS1)
  rw [wl_set (j := n) (v := x) hk ?_] at hP1
  · exact hP1
  · rw [hs, ji_nat (by constructor <;> omega) (by omega)]
    show (Sum.inl (E.2.2 1, len, .inr (.inl _)) : va_E) = Sum.inl (E.2.2 1, len, .inr (.inl _))
    congr 5
    funext j
    show (if j = (n : Int).toNat then jl x else jl (M k j)) = jl (mu M k n x k j)
    by_cases h : j = n
    · subst h
      rw [mu_s]; simp
    · rw [mu_j h]; simp [h]
end MR
end
section
/-! methods over the places that always return: contract, ends, calls -/
def mPre (E : En) (M : Me) (av : List Value) : Array Value → State → Prop := fun v U => v = av.toArray ∧ wK E U ∧ wP E M U.heap
theorem mPre_blind (E : En) (M : Me) (av : List Value) : FrameBlind (mPre E M av) := fun a U g mk h => ⟨h.1, va_K.moved (u := U) (U := U.calling g mk a) (Vm.Alike.refl U.vm) h.2.1, h.2.2⟩
def mmQ (E : En) (P : Option Value → Me → Prop) : Array Value → State → Outcome → State → Prop := fun _ st o t => (∃ v M', o = .returned v ∧ P v M' ∧ wP E M' t.heap) ∧ va_F (wA E) st t
def MM (l : Launch) (y : MethodName) (ws : List Cond) (rm : Room) (E : En) (M : Me) (av : List Value) (P : Option Value → Me → Prop) : Prop := MetX l y ws rm (mPre E M av) (mmQ E P) 0 0 (wA E)
section MMS
variable {p : Program} {l : Launch} {e : Env} {R : Room} {s : State} {m : MethodId} {args : Array Value} {below : List Frame} {meth : Method} {c : Code} {H : Heap} {locs : List Loc} {cells slots : Nat} {Q : State → Prop} {E : En} {M : Me} {H0 : Heap}
theorem MM.ofG {y : MethodName} {rm : Room} {av : List Value} {P : Option Value → Me → Prop} {cc : ByteArray} {maxL : Nat} {ret : Option FieldType}
    (hy : plainFor y = true) (hL : (lg_sl av).length ≤ maxL)
    (body : ∀ p e s m args below meth c, p.tables.exec = Jvm.exec → c.code = cc → c.maxLocals = maxL → meth.sig.returnType = ret → meth.locks = false → (∀ w ∈ GG, w.before args s = true) → s.vm.findClass y.cls = some m.cls → wK E s → wP E M s.heap → va_S (wA E) s.heap s.heap [] →
      ∀ ls, lv_has ls maxL (lv_args 0 av) → W p l e rm s m args below meth c s.heap [] 0 0 (XQ below (mmQ E P) args s 0 0 (wA E)) (F0 m 0 ls [])) : MM l y (Cond.code y cc maxL ret :: GG) rm E M av P := by
  refine MetX.ofW (cc := cc) (maxL := maxL) (ret := ret) hy rfl ?_
  intro p e s m args below meth c s₁ B hml hnx ha hP
  obtain ⟨rfl, hK, hP⟩ := hP
  rw [lg_entry_eq]
  exact body p e s m _ below meth c B.exec B.bytes hml B.returns B.notSynchronized (fun w h => atoms_spec (ws := Cond.code y cc maxL ret :: GG) B.pre w (List.mem_cons_of_mem _ h)) (findClass_of_methodNamed B.named) hK hP va_S.rf _ (lv_entry av hL)
theorem mm_iret {cc : ByteArray} {P : Option Value → Me → Prop} {v : Int32} {pc : Nat} {ls : Array Slot} (hx : p.tables.exec = Jvm.exec) (hb : c.code = cc) (hr : meth.sig.returnType = some .int) (hk : meth.locks = false) (hP : wP E M H) (hS : va_S (wA E) s.heap H locs) (hd : decode cc pc = .ok (.ireturn, 1)) (h : P (some (.int v)) M) :
    W p l e R s m args below meth c H locs cells slots (XQ below (mmQ E P) args s cells slots (wA E)) (F0 m pc ls [.int v]) :=
  W.mono (fun _ => XQ.of) (W.iret hx hb hr (fun t ht _ => ⟨⟨_, _, rfl, h, by rw [ht]; exact hP⟩, hS.F ht⟩) hS.2.2 hd hk)
theorem mm_zret {cc : ByteArray} {P : Option Value → Me → Prop} {v : Int32} {pc : Nat} {ls : Array Slot} (hx : p.tables.exec = Jvm.exec) (hb : c.code = cc) (hr : meth.sig.returnType = some .boolean) (hk : meth.locks = false) (hP : wP E M H) (hS : va_S (wA E) s.heap H locs) (hd : decode cc pc = .ok (.ireturn, 1)) (hv : narrow .boolean (.int v) = .int v) (h : P (some (.int v)) M) :
    W p l e R s m args below meth c H locs cells slots (XQ below (mmQ E P) args s cells slots (wA E)) (F0 m pc ls [.int v]) :=
  W.mono (fun _ => XQ.of) (W.zret hx hb hr hv (fun t ht _ => ⟨⟨_, _, rfl, h, by rw [ht]; exact hP⟩, hS.F ht⟩) hS.2.2 hd hk)
theorem mm_lret {cc : ByteArray} {P : Option Value → Me → Prop} {v : Int64} {pc : Nat} {ls : Array Slot} (hx : p.tables.exec = Jvm.exec) (hb : c.code = cc) (hr : meth.sig.returnType = some .long) (hk : meth.locks = false) (hP : wP E M H) (hS : va_S (wA E) s.heap H locs) (hd : decode cc pc = .ok (.lreturn, 1)) (h : P (some (.long v)) M) :
    W p l e R s m args below meth c H locs cells slots (XQ below (mmQ E P) args s cells slots (wA E)) (F0 m pc ls [.long v]) :=
  W.mono (fun _ => XQ.of) (W.lret hx hb hr (fun t ht _ => ⟨⟨_, _, rfl, h, by rw [ht]; exact hP⟩, hS.F ht⟩) hS.2.2 hd hk)
theorem mm_aret {cc : ByteArray} {P : Option Value → Me → Prop} {a : Nat} {C : String} {pc : Nat} {ls : Array Slot} (hx : p.tables.exec = Jvm.exec) (hb : c.code = cc) (hr : meth.sig.returnType = some (.object C)) (hk : meth.locks = false) (hP : wP E M H) (hS : va_S (wA E) s.heap H locs) (hd : decode cc pc = .ok (.areturn, 1)) (h : P (some (.ref a)) M) :
    W p l e R s m args below meth c H locs cells slots (XQ below (mmQ E P) args s cells slots (wA E)) (F0 m pc ls [.ref a]) :=
  W.mono (fun _ => XQ.of) (W.aret hx hb hr (Or.inl ⟨_, rfl⟩) (Or.inr ⟨_, rfl⟩) (fun t ht _ => ⟨⟨_, _, rfl, h, by rw [ht]; exact hP⟩, hS.F ht⟩) hS.2.2 hd hk)
theorem mm_vret {cc : ByteArray} {P : Option Value → Me → Prop} {pc : Nat} {ls : Array Slot} (hx : p.tables.exec = Jvm.exec) (hb : c.code = cc) (hr : meth.sig.returnType = none) (hk : meth.locks = false) (hP : wP E M H) (hS : va_S (wA E) s.heap H locs) (hd : decode cc pc = .ok (.return_, 1)) (h : P none M) :
    W p l e R s m args below meth c H locs cells slots (XQ below (mmQ E P) args s cells slots (wA E)) (F0 m pc ls []) :=
  W.mono (fun _ => XQ.of) (W.vret hx hb hr (fun t ht _ => ⟨⟨_, _, rfl, h, by rw [ht]; exact hP⟩, hS.F ht⟩) hS.2.2 hd hk)
theorem va_S.callX {H0 H H1 : Heap} {locs L : List Loc} {A : Nat → Prop} (hS : va_S A H0 H locs) (hz : H.size ≤ H1.size) (hk : ∀ q, q < H.size → ¬ A q → H1[q]? = H[q]?) (hL : ∀ q ∈ L, A q.base) : va_S A H0 H1 (locs ++ L) :=
  ⟨Nat.le_trans hS.1 hz, fun q h1 h2 => (hk q (Nat.lt_of_lt_of_le h1 hS.1) h2).trans (hS.2.1 q h1 h2), fun q hq => by
    rcases List.mem_append.mp hq with h | h
    · exact hS.2.2 q h
    · exact hL q h⟩
theorem mm_go {P : Option Value → Me → Prop} {g : JFrame} {rest : List Value} {a : Array Value} (hr : xRun p l e R s m args below meth c H locs cells slots 0 0 g rest (mmQ E P a) (wA E)) (hS : va_S (wA E) H0 H locs)
    (k : ∀ v M' H1 locs1, P v M' → wP E M' H1 → va_S (wA E) H0 H1 locs1 → W p l e R s m args below meth c H1 locs1 cells slots Q { g with pc := g.pc + 3, stack := v.toList ++ rest }) : W p l e R s m args below meth c H locs cells slots Q g := by
  intro T hT X
  obtain ⟨o, st₀, t, T', L, h0, h1, h2, ⟨⟨v, M', rfl, hP, hW⟩, hz, hk⟩, h4, X', h5, -⟩ := hr T hT X
  rw [h0] at hz hk
  obtain ⟨tg, a1, b1⟩ := k v M' T'.heap (locs ++ L) hP (by rw [h1]; exact hW) (hS.callX (by rw [h1]; exact hz) (fun q q1 q2 => by rw [h1]; exact hk q q1 q2) h4) T' rfl X'
  exact ⟨tg, h5 _ rfl tg a1, b1⟩
section MMC
variable {y : MethodName} {bytes cc : ByteArray} {maxL nL index pc n : Nat} {ret : Option FieldType} {rm : Room} {own C : String} {As rest st : List Value} {ls : Array Slot} {P : Option Value → Me → Prop} {lv : List (Nat × Value)}
theorem mm_V {k ci : Nat} {fs : List Value} {q : vw_C} (hx : p.tables.exec = Jvm.exec) (hb : c.code = cc) (hml : c.maxLocals = nL) (hown : s.vm.findClass own = some m.cls) (hg : ∀ w ∈ GG, w.before args s = true) (hl : lv_has ls nL lv) (hK : wK E s) (hP : wP E M H) (hS : va_S (wA E) H0 H locs) (hk : k < 36) (hs : shp E k (M k) = .inr (ci, fs)) (hc : cl5[ci]? = some q) (hM : MM l y (Cond.code y bytes maxL ret :: GG) rm E M (.ref (E.2.1 k) :: As) P)
    (h1 : Cond.methodLink own index y ∈ GG) (h2 : Cond.instanceMethod y ∈ GG) (h5 : Cond.selects q.1 y y ∈ GG) (h3 : Cond.initialized y.cls ∈ GG) (h4 : Cond.code y bytes maxL ret ∈ GG) (hrm : rm.cells = 0 ∧ rm.slots = 0)
    (hd : y.cls ≠ "java/lang/invoke/MethodHandle" ∧ y.cls ≠ "java/lang/invoke/VarHandle" ∧ (parseMethodDescriptor y.desc).map (fun d => d.parameters.length) = some n) (hn : As.length = n) (hR : rm.frames + 1 ≤ R.frames ∧ 8 + (maxL + 11) + rm.locals ≤ R.locals)
    (hst : st = As.reverse ++ .ref (E.2.1 k) :: rest) (hW : (rest.map fun v => v.category).sum ≤ 8) (hdg : decode cc pc = .ok (.invokevirtual index, 3)) (hcs : cells ≤ R.cells ∧ slots ≤ R.slots)
    (kk : ∀ v M' H1 locs1, P v M' → wP E M' H1 → va_S (wA E) H0 H1 locs1 → W p l e R s m args below meth c H1 locs1 cells slots Q (F0 m (pc + 3) ls (v.toList ++ rest))) : W p l e R s m args below meth c H locs cells slots Q (F0 m pc ls st) :=
  mm_go (x_runV (Ts := GG) (C := q.1) (b := E.2.1 k) (As := As) (rest := rest) (g := F0 m pc ls st) ⟨hx, hb, hml, hown, hg⟩ hM ⟨g_callB hg h1 h3 h4 hrm hd hR, hg _ h2, hg _ h5⟩
    ⟨mPre_blind E M _, va_recv hK hP hc (by rw [wl_at hk, hs]), fun U hU hW => ⟨rfl, va_K.moved hW.alike hK, by rw [hU]; exact hP⟩⟩ rfl hn hl.1 hst (lv_room hW) hdg ⟨hcs.1, hcs.2⟩) hS kk
end MMC
end MMS
end
section
/-! Form (the class): names, contracts -/
abbrev cF_restart : ByteArray := prog_3_method_2_code
abbrev yF_restart : MethodName := ⟨"RationalForms$Form", "restart", "(I)V"⟩
abbrev wsF_restart : List Cond := .code yF_restart cF_restart 4 none :: GG
theorem dF_restart_0 : decode cF_restart 0 = .ok (.aload_n 0, 1) := by decide +kernel
theorem dF_restart_1 : decode cF_restart 1 = .ok (.iload_n 1, 1) := by decide +kernel
theorem dF_restart_2 : decode cF_restart 2 = .ok (.putfield 9, 3) := by decide +kernel
theorem dF_restart_5 : decode cF_restart 5 = .ok (.iconst 0, 1) := by decide +kernel
theorem dF_restart_6 : decode cF_restart 6 = .ok (.istore_n 2, 1) := by decide +kernel
theorem dF_restart_7 : decode cF_restart 7 = .ok (.iload_n 2, 1) := by decide +kernel
theorem dF_restart_8 : decode cF_restart 8 = .ok (.iconst 4, 1) := by decide +kernel
theorem dF_restart_9 : decode cF_restart 9 = .ok (.if_icmp .ge 31, 3) := by decide +kernel
theorem dF_restart_12 : decode cF_restart 12 = .ok (.iconst 0, 1) := by decide +kernel
theorem dF_restart_13 : decode cF_restart 13 = .ok (.istore_n 3, 1) := by decide +kernel
theorem dF_restart_14 : decode cF_restart 14 = .ok (.iload_n 3, 1) := by decide +kernel
theorem dF_restart_15 : decode cF_restart 15 = .ok (.iconst 4, 1) := by decide +kernel
theorem dF_restart_16 : decode cF_restart 16 = .ok (.if_icmp .ge 18, 3) := by decide +kernel
theorem dF_restart_19 : decode cF_restart 19 = .ok (.aload_n 0, 1) := by decide +kernel
theorem dF_restart_20 : decode cF_restart 20 = .ok (.getfield 17, 3) := by decide +kernel
theorem dF_restart_23 : decode cF_restart 23 = .ok (.iload_n 2, 1) := by decide +kernel
theorem dF_restart_24 : decode cF_restart 24 = .ok (.aaload, 1) := by decide +kernel
theorem dF_restart_25 : decode cF_restart 25 = .ok (.iload_n 3, 1) := by decide +kernel
theorem dF_restart_26 : decode cF_restart 26 = .ok (.iconst 0, 1) := by decide +kernel
theorem dF_restart_27 : decode cF_restart 27 = .ok (.iastore, 1) := by decide +kernel
theorem dF_restart_28 : decode cF_restart 28 = .ok (.iinc 3 1, 3) := by decide +kernel
theorem dF_restart_31 : decode cF_restart 31 = .ok (.goto (-17), 3) := by decide +kernel
theorem dF_restart_34 : decode cF_restart 34 = .ok (.iinc 2 1, 3) := by decide +kernel
theorem dF_restart_37 : decode cF_restart 37 = .ok (.goto (-30), 3) := by decide +kernel
theorem dF_restart_40 : decode cF_restart 40 = .ok (.return_, 1) := by decide +kernel
abbrev cF_hasVariable : ByteArray := prog_3_method_3_code
abbrev yF_hasVariable : MethodName := ⟨"RationalForms$Form", "hasVariable", "(I)Z"⟩
abbrev wsF_hasVariable : List Cond := .code yF_hasVariable cF_hasVariable 2 (some .boolean) :: GG
theorem dF_hasVariable_0 : decode cF_hasVariable 0 = .ok (.iload_n 1, 1) := by decide +kernel
theorem dF_hasVariable_1 : decode cF_hasVariable 1 = .ok (.ifCond .lt 15, 3) := by decide +kernel
theorem dF_hasVariable_4 : decode cF_hasVariable 4 = .ok (.iload_n 1, 1) := by decide +kernel
theorem dF_hasVariable_5 : decode cF_hasVariable 5 = .ok (.aload_n 0, 1) := by decide +kernel
theorem dF_hasVariable_6 : decode cF_hasVariable 6 = .ok (.getfield 9, 3) := by decide +kernel
theorem dF_hasVariable_9 : decode cF_hasVariable 9 = .ok (.if_icmp .ge 7, 3) := by decide +kernel
theorem dF_hasVariable_12 : decode cF_hasVariable 12 = .ok (.iconst 1, 1) := by decide +kernel
theorem dF_hasVariable_13 : decode cF_hasVariable 13 = .ok (.goto 4, 3) := by decide +kernel
theorem dF_hasVariable_16 : decode cF_hasVariable 16 = .ok (.iconst 0, 1) := by decide +kernel
theorem dF_hasVariable_17 : decode cF_hasVariable 17 = .ok (.ireturn, 1) := by decide +kernel
abbrev cF_replaceNumber : ByteArray := prog_3_method_4_code
abbrev yF_replaceNumber : MethodName := ⟨"RationalForms$Form", "replaceNumber", "(III)I"⟩
abbrev wsF_replaceNumber : List Cond := .code yF_replaceNumber cF_replaceNumber 5 (some .int) :: GG
theorem dF_replaceNumber_0 : decode cF_replaceNumber 0 = .ok (.aload_n 0, 1) := by decide +kernel
theorem dF_replaceNumber_1 : decode cF_replaceNumber 1 = .ok (.getfield 17, 3) := by decide +kernel
theorem dF_replaceNumber_4 : decode cF_replaceNumber 4 = .ok (.iload_n 1, 1) := by decide +kernel
theorem dF_replaceNumber_5 : decode cF_replaceNumber 5 = .ok (.aaload, 1) := by decide +kernel
theorem dF_replaceNumber_6 : decode cF_replaceNumber 6 = .ok (.iload_n 2, 1) := by decide +kernel
theorem dF_replaceNumber_7 : decode cF_replaceNumber 7 = .ok (.iaload, 1) := by decide +kernel
theorem dF_replaceNumber_8 : decode cF_replaceNumber 8 = .ok (.istore 4, 2) := by decide +kernel
theorem dF_replaceNumber_10 : decode cF_replaceNumber 10 = .ok (.aload_n 0, 1) := by decide +kernel
theorem dF_replaceNumber_11 : decode cF_replaceNumber 11 = .ok (.getfield 17, 3) := by decide +kernel
theorem dF_replaceNumber_14 : decode cF_replaceNumber 14 = .ok (.iload_n 1, 1) := by decide +kernel
theorem dF_replaceNumber_15 : decode cF_replaceNumber 15 = .ok (.aaload, 1) := by decide +kernel
theorem dF_replaceNumber_16 : decode cF_replaceNumber 16 = .ok (.iload_n 2, 1) := by decide +kernel
theorem dF_replaceNumber_17 : decode cF_replaceNumber 17 = .ok (.iload_n 3, 1) := by decide +kernel
theorem dF_replaceNumber_18 : decode cF_replaceNumber 18 = .ok (.iastore, 1) := by decide +kernel
theorem dF_replaceNumber_19 : decode cF_replaceNumber 19 = .ok (.aload_n 0, 1) := by decide +kernel
theorem dF_replaceNumber_20 : decode cF_replaceNumber 20 = .ok (.getfield 17, 3) := by decide +kernel
theorem dF_replaceNumber_23 : decode cF_replaceNumber 23 = .ok (.iload_n 2, 1) := by decide +kernel
theorem dF_replaceNumber_24 : decode cF_replaceNumber 24 = .ok (.aaload, 1) := by decide +kernel
theorem dF_replaceNumber_25 : decode cF_replaceNumber 25 = .ok (.iload_n 1, 1) := by decide +kernel
theorem dF_replaceNumber_26 : decode cF_replaceNumber 26 = .ok (.iload_n 3, 1) := by decide +kernel
theorem dF_replaceNumber_27 : decode cF_replaceNumber 27 = .ok (.iastore, 1) := by decide +kernel
theorem dF_replaceNumber_28 : decode cF_replaceNumber 28 = .ok (.iload 4, 2) := by decide +kernel
theorem dF_replaceNumber_30 : decode cF_replaceNumber 30 = .ok (.ireturn, 1) := by decide +kernel
abbrev cF_valueFor : ByteArray := prog_3_method_5_code
abbrev yF_valueFor : MethodName := ⟨"RationalForms$Form", "valueFor", "([I)J"⟩
abbrev wsF_valueFor : List Cond := .code yF_valueFor cF_valueFor 6 (some .long) :: GG
theorem dF_valueFor_0 : decode cF_valueFor 0 = .ok (.lconst 0, 1) := by decide +kernel
theorem dF_valueFor_1 : decode cF_valueFor 1 = .ok (.lstore_n 2, 1) := by decide +kernel
theorem dF_valueFor_2 : decode cF_valueFor 2 = .ok (.iconst 0, 1) := by decide +kernel
theorem dF_valueFor_3 : decode cF_valueFor 3 = .ok (.istore 4, 2) := by decide +kernel
theorem dF_valueFor_5 : decode cF_valueFor 5 = .ok (.iload 4, 2) := by decide +kernel
theorem dF_valueFor_7 : decode cF_valueFor 7 = .ok (.aload_n 0, 1) := by decide +kernel
theorem dF_valueFor_8 : decode cF_valueFor 8 = .ok (.getfield 9, 3) := by decide +kernel
theorem dF_valueFor_11 : decode cF_valueFor 11 = .ok (.if_icmp .ge 53, 3) := by decide +kernel
theorem dF_valueFor_14 : decode cF_valueFor 14 = .ok (.iconst 0, 1) := by decide +kernel
theorem dF_valueFor_15 : decode cF_valueFor 15 = .ok (.istore 5, 2) := by decide +kernel
theorem dF_valueFor_17 : decode cF_valueFor 17 = .ok (.iload 5, 2) := by decide +kernel
theorem dF_valueFor_19 : decode cF_valueFor 19 = .ok (.aload_n 0, 1) := by decide +kernel
theorem dF_valueFor_20 : decode cF_valueFor 20 = .ok (.getfield 9, 3) := by decide +kernel
theorem dF_valueFor_23 : decode cF_valueFor 23 = .ok (.if_icmp .ge 35, 3) := by decide +kernel
theorem dF_valueFor_26 : decode cF_valueFor 26 = .ok (.lload_n 2, 1) := by decide +kernel
theorem dF_valueFor_27 : decode cF_valueFor 27 = .ok (.aload_n 0, 1) := by decide +kernel
theorem dF_valueFor_28 : decode cF_valueFor 28 = .ok (.getfield 17, 3) := by decide +kernel
theorem dF_valueFor_31 : decode cF_valueFor 31 = .ok (.iload 4, 2) := by decide +kernel
theorem dF_valueFor_33 : decode cF_valueFor 33 = .ok (.aaload, 1) := by decide +kernel
theorem dF_valueFor_34 : decode cF_valueFor 34 = .ok (.iload 5, 2) := by decide +kernel
theorem dF_valueFor_36 : decode cF_valueFor 36 = .ok (.iaload, 1) := by decide +kernel
theorem dF_valueFor_37 : decode cF_valueFor 37 = .ok (.i2l, 1) := by decide +kernel
theorem dF_valueFor_38 : decode cF_valueFor 38 = .ok (.aload_n 1, 1) := by decide +kernel
theorem dF_valueFor_39 : decode cF_valueFor 39 = .ok (.iload 4, 2) := by decide +kernel
theorem dF_valueFor_41 : decode cF_valueFor 41 = .ok (.iaload, 1) := by decide +kernel
theorem dF_valueFor_42 : decode cF_valueFor 42 = .ok (.i2l, 1) := by decide +kernel
theorem dF_valueFor_43 : decode cF_valueFor 43 = .ok (.lmul, 1) := by decide +kernel
theorem dF_valueFor_44 : decode cF_valueFor 44 = .ok (.aload_n 1, 1) := by decide +kernel
theorem dF_valueFor_45 : decode cF_valueFor 45 = .ok (.iload 5, 2) := by decide +kernel
theorem dF_valueFor_47 : decode cF_valueFor 47 = .ok (.iaload, 1) := by decide +kernel
theorem dF_valueFor_48 : decode cF_valueFor 48 = .ok (.i2l, 1) := by decide +kernel
theorem dF_valueFor_49 : decode cF_valueFor 49 = .ok (.lmul, 1) := by decide +kernel
theorem dF_valueFor_50 : decode cF_valueFor 50 = .ok (.ladd, 1) := by decide +kernel
theorem dF_valueFor_51 : decode cF_valueFor 51 = .ok (.lstore_n 2, 1) := by decide +kernel
theorem dF_valueFor_52 : decode cF_valueFor 52 = .ok (.iinc 5 1, 3) := by decide +kernel
theorem dF_valueFor_55 : decode cF_valueFor 55 = .ok (.goto (-38), 3) := by decide +kernel
theorem dF_valueFor_58 : decode cF_valueFor 58 = .ok (.iinc 4 1, 3) := by decide +kernel
theorem dF_valueFor_61 : decode cF_valueFor 61 = .ok (.goto (-56), 3) := by decide +kernel
theorem dF_valueFor_64 : decode cF_valueFor 64 = .ok (.lload_n 2, 1) := by decide +kernel
theorem dF_valueFor_65 : decode cF_valueFor 65 = .ok (.lreturn, 1) := by decide +kernel
/-- the value of a form: rows i below n of the table A at x -/
def vfR (n : Nat) (A : Nat → Nat → Int) (x : Nat → Int) (i : Nat) : Nat → Int
  | 0 => 0
  | j + 1 => vfR n A x i j + A i j * x i * x j
def vf (n : Nat) (A : Nat → Nat → Int) (x : Nat → Int) : Nat → Int
  | 0 => 0
  | i + 1 => vf n A x i + vfR n A x i n
set_option maxRecDepth 20000 in
theorem wd50 : Cond.fieldLink "RationalForms$Form" 9 "RationalForms$Form" "dimension" "I" ∈ GG := GG_t 50 rfl rfl
set_option maxRecDepth 20000 in
theorem wd53 : Cond.fieldLink "RationalForms$Form" 17 "RationalForms$Form" "numbers" "[[I" ∈ GG := GG_t 53 rfl rfl
set_option maxRecDepth 100000 in
set_option maxHeartbeats 4000000 in
theorem kF_hasVariable (l : Launch) (E : En) (hJ : wJ E) (M : Me) (f : Nat) (hf : f < 2) (i : Int) (hi : b32 i) (hd0 : b32 (M (5 + f) 0)) : MM l yF_hasVariable wsF_hasVariable (rmd 0) E M [.ref (E.2.1 (5 + f)), .int (ji i)] (fun v M9 => v = some (.int (ji (bi (0 ≤ i ∧ i < M (5 + f) 0)))) ∧ M9 = M) := by
  refine MM.ofG (by decide +kernel) (Nat.le_of_ble_eq_true rfl) ?_
  intro p_ e_ s_ m_ a_ b_ t_ c_ hx hb hml hr hk hg hown hK hP hS ls hl
  have hl : lv_has ls 2 [(0, .ref (E.2.1 (5 + f))), (1, .int (ji i))] := hl
  refine lv_iload_n hx hb dF_hasVariable_0 rfl (lv_at hl 1 rfl) ?_
  refine j_if_lt hx hb (by omega) dF_hasVariable_1 rfl (fun h1 => ?_) (fun h1 => ?_)
  · refine j_iconst hx hb dF_hasVariable_16 ?_
    exact mm_zret hx hb hr hk hP hS dF_hasVariable_17 nar_0 ⟨by rw [bi_f (by omega)], rfl⟩
  · refine lv_iload_n hx hb dF_hasVariable_4 rfl (lv_at hl 1 rfl) ?_
    refine lv_aload_n hx hb dF_hasVariable_5 rfl (lv_at hl 0 rfl) ?_
    refine m_get (C := "RationalForms$Form") (T := TxF) (N := 2) hx hb hg uwF hown hK hP (by omega) (sh_F E _ (by omega)) rfl 0 (by decide) wd50 rfl dF_hasVariable_6 ?_
    refine j_icmp_ge hx hb (by omega) (by omega) dF_hasVariable_9 rfl (fun h2 => ?_) (fun h2 => ?_)
    · refine j_iconst hx hb dF_hasVariable_16 ?_
      exact mm_zret hx hb hr hk hP hS dF_hasVariable_17 nar_0 ⟨by rw [bi_f (by omega)], rfl⟩
    · refine j_iconst hx hb dF_hasVariable_12 ?_
      refine lv_goto hx hb dF_hasVariable_13 rfl ?_
      exact mm_zret hx hb hr hk hP hS dF_hasVariable_17 nar_1 ⟨by rw [bi_t (by omega)], rfl⟩

set_option maxRecDepth 100000 in
set_option maxHeartbeats 4000000 in
theorem kF_replaceNumber (l : Launch) (E : En) (hJ : wJ E) (M : Me) (f : Nat) (hf : f < 2) (i j : Nat) (hi : i < 4) (hj : j < 4) (v : Int) : MM l yF_replaceNumber wsF_replaceNumber (rmd 0) E M [.ref (E.2.1 (5 + f)), .int (ji ((i:Int))), .int (ji ((j:Int))), .int (ji v)] (fun r M9 => r = some (.int (ji (M (9 + 4 * f + i) j))) ∧ M9 = mu (mu M (9 + 4 * f + i) j v) (9 + 4 * f + j) i v) := by
  refine MM.ofG (by decide +kernel) (Nat.le_of_ble_eq_true rfl) ?_
  intro p_ e_ s_ m_ a_ b_ t_ c_ hx hb hml hr hk hg hown hK hP hS ls hl
  have hl : lv_has ls 5 [(0, .ref (E.2.1 (5 + f))), (1, .int (ji ((i:Int)))), (2, .int (ji ((j:Int)))), (3, .int (ji v))] := hl
  refine lv_aload_n hx hb dF_replaceNumber_0 rfl (lv_at hl 0 rfl) ?_
  refine m_get (C := "RationalForms$Form") (T := TxF) (N := 2) hx hb hg uwF hown hK hP (by omega) (sh_F E _ (by omega)) rfl 1 (by decide) wd53 rfl dF_replaceNumber_1 ?_
  refine lv_iload_n hx hb dF_replaceNumber_4 rfl (lv_at hl 1 rfl) ?_
  refine m_aald (t0 := 2) (n := i) hx hb hK hP (by omega) (sh_o E _ (by omega)) rfl rfl rfl (by omega) (by decide) dF_replaceNumber_5 ?_
  refine lv_iload_n hx hb dF_replaceNumber_6 rfl (lv_at hl 2 rfl) ?_
  refine m_iald (n := j) hx hb hK hP (by omega) (sh_n E _ (by omega) (by omega)) rfl (by omega) (by decide) dF_replaceNumber_7 ?_
  refine lv_istore hx hb dF_replaceNumber_8 hl (by decide) rfl (fun ls hl => ?_)
  have hl : lv_has ls 5 [(4, .int (ji (M (9 + 4 * f + i) j))), (0, .ref (E.2.1 (5 + f))), (1, .int (ji ((i:Int)))), (2, .int (ji ((j:Int)))), (3, .int (ji v))] := hl
  refine lv_aload_n hx hb dF_replaceNumber_10 rfl (lv_at hl 1 rfl) ?_
  refine m_get (C := "RationalForms$Form") (T := TxF) (N := 2) hx hb hg uwF hown hK hP (by omega) (sh_F E _ (by omega)) rfl 1 (by decide) wd53 rfl dF_replaceNumber_11 ?_
  refine lv_iload_n hx hb dF_replaceNumber_14 rfl (lv_at hl 2 rfl) ?_
  refine m_aald (t0 := 2) (n := i) hx hb hK hP (by omega) (sh_o E _ (by omega)) rfl rfl rfl (by omega) (by decide) dF_replaceNumber_15 ?_
  refine lv_iload_n hx hb dF_replaceNumber_16 rfl (lv_at hl 3 rfl) ?_
  refine lv_iload_n hx hb dF_replaceNumber_17 rfl (lv_at hl 4 rfl) ?_
  refine m_iast (n := j) hx hb hK hJ hP hS (by omega) (fun r => sh_n E r (by omega) (by omega)) rfl (by omega) (by decide) dF_replaceNumber_18 (fun H locs hP hS => ?_)
  refine lv_aload_n hx hb dF_replaceNumber_19 rfl (lv_at hl 1 rfl) ?_
  refine m_get (C := "RationalForms$Form") (T := TxF) (N := 2) hx hb hg uwF hown hK hP (by omega) (sh_F E _ (by omega)) rfl 1 (by decide) wd53 rfl dF_replaceNumber_20 ?_
  refine lv_iload_n hx hb dF_replaceNumber_23 rfl (lv_at hl 3 rfl) ?_
  refine m_aald (t0 := 2) (n := j) hx hb hK hP (by omega) (sh_o E _ (by omega)) rfl rfl rfl (by omega) (by decide) dF_replaceNumber_24 ?_
  refine lv_iload_n hx hb dF_replaceNumber_25 rfl (lv_at hl 2 rfl) ?_
  refine lv_iload_n hx hb dF_replaceNumber_26 rfl (lv_at hl 4 rfl) ?_
  refine m_iast (n := i) hx hb hK hJ hP hS (by omega) (fun r => sh_n E r (by omega) (by omega)) rfl (by omega) (by decide) dF_replaceNumber_27 (fun H locs hP hS => ?_)
  refine lv_iload hx hb dF_replaceNumber_28 (lv_at hl 0 rfl) ?_
  exact mm_iret hx hb hr hk hP hS dF_replaceNumber_30 ⟨rfl, rfl⟩

set_option maxRecDepth 100000 in
set_option maxHeartbeats 4000000 in
theorem kF_restart (l : Launch) (E : En) (hJ : wJ E) (M : Me) (f : Nat) (hf : f < 2) (n : Int) : MM l yF_restart wsF_restart (rmd 0) E M [.ref (E.2.1 (5 + f)), .int (ji n)] (fun r M9 => r = none ∧ M9 (5 + f) 0 = n ∧ (∀ i j : Nat, i < 4 → j < 4 → M9 (9 + 4 * f + i) j = 0) ∧ ∀ k, k ≠ 5 + f → (k < 9 + 4 * f ∨ 13 + 4 * f ≤ k) → M9 k = M k) := by
  refine MM.ofG (by decide +kernel) (Nat.le_of_ble_eq_true rfl) ?_
  intro p_ e_ s_ m_ a_ b_ t_ c_ hx hb hml hr hk hg hown hK hP hS ls hl
  have hl : lv_has ls 4 [(0, .ref (E.2.1 (5 + f))), (1, .int (ji n))] := hl
  have outer : ∀ (N i : Nat) (M1 : Me) (H : Heap) (locs : List Loc) (ls : Array Slot), i + N = 4 → ((M1 (5 + f) 0 = n ∧ (∀ k, k ≠ 5 + f → (k < 9 + 4 * f ∨ 13 + 4 * f ≤ k) → M1 k = M k)) ∧ ∀ a b : Nat, a < i → b < 4 → M1 (9 + 4 * f + a) b = 0) → wP E M1 H → va_S (wA E) s_.heap H locs → lv_has ls 4 [(2, .int (ji ((i:Int)))), (0, .ref (E.2.1 (5 + f))), (1, .int (ji n))] → W p_ l e_ (rmd 0) s_ m_ a_ b_ t_ c_ H locs 0 0 (XQ b_ (mmQ E (fun r M9 => r = none ∧ M9 (5 + f) 0 = n ∧ (∀ i j : Nat, i < 4 → j < 4 → M9 (9 + 4 * f + i) j = 0) ∧ ∀ k, k ≠ 5 + f → (k < 9 + 4 * f ∨ 13 + 4 * f ≤ k) → M9 k = M k)) a_ s_ 0 0 (wA E)) (F0 m_ 7 ls []) := by
    intro N
    induction N with
    | zero =>
      intro i M1 H locs ls h0 hI hP hS hl
      refine lv_iload_n hx hb dF_restart_7 rfl (lv_at hl 0 rfl) ?_
      refine j_iconst hx hb dF_restart_8 ?_
      refine j_icmp_ge hx hb (by omega) (by omega) dF_restart_9 rfl (fun h1 => ?_) (fun h1 => ?_)
      · exact mm_vret hx hb hr hk hP hS dF_restart_40 ⟨rfl, hI.1.1, fun a b ha hb => hI.2 a b (by omega) hb, hI.1.2⟩
      · omega
    | succ N ih =>
      intro i M1 H locs ls h0 hI hP hS hl
      have inner : ∀ (K j : Nat) (M1 : Me) (H : Heap) (locs : List Loc) (ls : Array Slot), j + K = 4 → ((M1 (5 + f) 0 = n ∧ (∀ k, k ≠ 5 + f → (k < 9 + 4 * f ∨ 13 + 4 * f ≤ k) → M1 k = M k)) ∧ (∀ a b : Nat, a < i → b < 4 → M1 (9 + 4 * f + a) b = 0) ∧ ∀ b : Nat, b < j → M1 (9 + 4 * f + i) b = 0) → wP E M1 H → va_S (wA E) s_.heap H locs → lv_has ls 4 [(3, .int (ji ((j:Int)))), (2, .int (ji ((i:Int)))), (0, .ref (E.2.1 (5 + f))), (1, .int (ji n))] → W p_ l e_ (rmd 0) s_ m_ a_ b_ t_ c_ H locs 0 0 (XQ b_ (mmQ E (fun r M9 => r = none ∧ M9 (5 + f) 0 = n ∧ (∀ i j : Nat, i < 4 → j < 4 → M9 (9 + 4 * f + i) j = 0) ∧ ∀ k, k ≠ 5 + f → (k < 9 + 4 * f ∨ 13 + 4 * f ≤ k) → M9 k = M k)) a_ s_ 0 0 (wA E)) (F0 m_ 14 ls []) := by
        intro K
        induction K with
        | zero =>
          intro j M1 H locs ls h1 hI hP hS hl
          refine lv_iload_n hx hb dF_restart_14 rfl (lv_at hl 0 rfl) ?_
          refine j_iconst hx hb dF_restart_15 ?_
          refine j_icmp_ge hx hb (by omega) (by omega) dF_restart_16 rfl (fun h2 => ?_) (fun h2 => ?_)
          · refine lv_iinc (k := 1) (v := ji (((i:Int)) + 1)) hx hb dF_restart_34 hl rfl (Int32.ofInt_add _ _).symm (by decide) rfl (fun ls hl => ?_)
            have hl : lv_has ls 4 [(2, .int (ji (((i:Int)) + 1))), (3, .int (ji ((j:Int)))), (0, .ref (E.2.1 (5 + f))), (1, .int (ji n))] := hl
            refine lv_goto hx hb dF_restart_37 rfl ?_
            refine ih (i + 1) M1 H locs ls (by omega) ⟨hI.1, fun a b ha hb => ?_⟩ hP hS (lv_sub hl [0, 2, 3] rfl)
            by_cases hai : a = i
            · rw [hai]; exact hI.2.2 b (by omega)
            · exact hI.2.1 a b (by omega) hb
          · omega
        | succ K ihK =>
          intro j M1 H locs ls h1 hI hP hS hl
          refine lv_iload_n hx hb dF_restart_14 rfl (lv_at hl 0 rfl) ?_
          refine j_iconst hx hb dF_restart_15 ?_
          refine j_icmp_ge hx hb (by omega) (by omega) dF_restart_16 rfl (fun h2 => ?_) (fun h2 => ?_)
          · omega
          · refine lv_aload_n hx hb dF_restart_19 rfl (lv_at hl 2 rfl) ?_
            refine m_get (C := "RationalForms$Form") (T := TxF) (N := 2) hx hb hg uwF hown hK hP (by omega) (sh_F E _ (by omega)) rfl 1 (by decide) wd53 rfl dF_restart_20 ?_
            refine lv_iload_n hx hb dF_restart_23 rfl (lv_at hl 1 rfl) ?_
            refine m_aald (t0 := 2) (n := i) hx hb hK hP (by omega) (sh_o E _ (by omega)) rfl rfl rfl (by omega) (by decide) dF_restart_24 ?_
            refine lv_iload_n hx hb dF_restart_25 rfl (lv_at hl 0 rfl) ?_
            refine j_iconst hx hb dF_restart_26 ?_
            refine m_iast (n := j) hx hb hK hJ hP hS (by omega) (fun r => sh_n E r (by omega) (by omega)) rfl (by omega) (by decide) dF_restart_27 (fun H locs hP hS => ?_)
            refine lv_iinc (k := 0) (v := ji (((j:Int)) + 1)) hx hb dF_restart_28 hl rfl (Int32.ofInt_add _ _).symm (by decide) rfl (fun ls hl => ?_)
            have hl : lv_has ls 4 [(3, .int (ji (((j:Int)) + 1))), (2, .int (ji ((i:Int)))), (0, .ref (E.2.1 (5 + f))), (1, .int (ji n))] := hl
            refine lv_goto hx hb dF_restart_31 rfl ?_
            refine ihK (j + 1) _ H locs ls (by omega) ⟨⟨?_, ?_⟩, ?_, ?_⟩ hP hS hl
            · rw [mu_k (by omega)]; exact hI.1.1
            · intro k hk1 hk2
              rw [mu_k (by omega)]; exact hI.1.2 k hk1 hk2
            · intro a b ha hb
              rw [mu_k (by omega)]; exact hI.2.1 a b ha hb
            · intro b hb
              by_cases hbj : b = j
              · rw [hbj]; exact mu_s _ _ _ _
              · rw [mu_j hbj]; exact hI.2.2 b (by omega)
      refine lv_iload_n hx hb dF_restart_7 rfl (lv_at hl 0 rfl) ?_
      refine j_iconst hx hb dF_restart_8 ?_
      refine j_icmp_ge hx hb (by omega) (by omega) dF_restart_9 rfl (fun h1 => ?_) (fun h1 => ?_)
      · omega
      · refine j_iconst hx hb dF_restart_12 ?_
        refine lv_istore_n hx hb dF_restart_13 rfl hl (by decide) rfl (fun ls hl => ?_)
        have hl : lv_has ls 4 [(3, .int (ji 0)), (2, .int (ji ((i:Int)))), (0, .ref (E.2.1 (5 + f))), (1, .int (ji n))] := hl
        exact inner 4 0 M1 H locs ls (by omega) ⟨hI.1, hI.2, fun b hb => by omega⟩ hP hS hl
  refine lv_aload_n hx hb dF_restart_0 rfl (lv_at hl 0 rfl) ?_
  refine lv_iload_n hx hb dF_restart_1 rfl (lv_at hl 1 rfl) ?_
  refine m_put (C := "RationalForms$Form") (T := TxF) (N := 2) (ty := .int) (z := n) hx hb hg uwF txF txF_ok nmF hown hK hJ hP hS (by omega) (sh_F E _ (by omega)) rfl 0 (by decide) wd50 rfl rfl rfl rfl (Nat.le_of_ble_eq_true rfl) (by rw [sh_F E _ (by omega)]; simp [mu]) dF_restart_2 (fun H locs hP hS => ?_)
  refine j_iconst hx hb dF_restart_5 ?_
  refine lv_istore_n hx hb dF_restart_6 rfl hl (by decide) rfl (fun ls hl => ?_)
  have hl : lv_has ls 4 [(2, .int (ji 0)), (0, .ref (E.2.1 (5 + f))), (1, .int (ji n))] := hl
  exact outer 4 0 _ H locs ls (by omega) ⟨⟨mu_s _ _ _ _, fun k h1 h2 => mu_k h1⟩, fun a b ha hb => by omega⟩ hP hS hl
end
section
/-! ascending lists of primes, by their members -/
def SL (c : Nat) (a : Nat → Int) (S : Nat → Prop) : Prop := (∀ i j, i < j → j < c → a i < a j) ∧ (∀ i, i < c → ∃ q : Nat, a i = q ∧ S q) ∧ ∀ q, S q → ∃ i, i < c ∧ a i = q
theorem SL.old {c : Nat} {a : Nat → Int} {S : Nat → Prop} (h : SL c a S) {p : Nat} (hp : S p) : SL c a (fun q => q = p ∨ S q) :=
  ⟨h.1, fun i hi => by obtain ⟨q, h1, h2⟩ := h.2.1 i hi; exact ⟨q, h1, Or.inr h2⟩, fun q hq => by
    rcases hq with rfl | hq
    · exact h.2.2 _ hp
    · exact h.2.2 _ hq⟩
theorem SL.to {c : Nat} {a : Nat → Int} {S S' : Nat → Prop} (h : SL c a S) (hS : ∀ q, S q ↔ S' q) : SL c a S' :=
  ⟨h.1, fun i hi => by obtain ⟨q, h1, h2⟩ := h.2.1 i hi; exact ⟨q, h1, (hS q).mp h2⟩, fun q hq => h.2.2 q ((hS q).mpr hq)⟩
theorem SL.arr {c : Nat} {a a' : Nat → Int} {S : Nat → Prop} (h : SL c a S) (ha : ∀ i, i < c → a' i = a i) : SL c a' S :=
  ⟨fun i j hi hj => by rw [ha i (by omega), ha j hj]; exact h.1 i j hi hj, fun i hi => by rw [ha i hi]; exact h.2.1 i hi, fun q hq => by
    obtain ⟨i, h1, h2⟩ := h.2.2 q hq
    exact ⟨i, h1, by rw [ha i h1]; exact h2⟩⟩
theorem SL.ins {c at9 : Nat} {a a' : Nat → Int} {S : Nat → Prop} {p : Nat} (h : SL c a S) (hat : at9 ≤ c) (hlo : ∀ i, i < at9 → a i < p) (hhi : ∀ i, at9 ≤ i → i < c → (p : Int) < a i)
    (h1 : ∀ i, i < at9 → a' i = a i) (h2 : a' at9 = p) (h3 : ∀ i, at9 < i → i ≤ c → a' i = a (i - 1)) : SL (c + 1) a' (fun q => q = p ∨ S q) := by
  refine ⟨fun i j hij hj => ?_, fun i hi => ?_, fun q hq => ?_⟩
  · rcases Nat.lt_trichotomy i at9 with hi | hi | hi
    · rw [h1 i hi]
      rcases Nat.lt_trichotomy j at9 with hj1 | hj1 | hj1
      · rw [h1 j hj1]; exact h.1 i j hij (by omega)
      · rw [hj1, h2]; exact hlo i hi
      · rw [h3 j hj1 (by omega)]
        rcases Nat.lt_or_ge i (j - 1) with h9 | h9
        · exact h.1 i (j - 1) h9 (by omega)
        · omega
    · rw [hi, h2, h3 j (by omega) (by omega)]; exact hhi (j - 1) (by omega) (by omega)
    · rw [h3 i hi (by omega), h3 j (by omega) (by omega)]; exact h.1 (i - 1) (j - 1) (by omega) (by omega)
  · rcases Nat.lt_trichotomy i at9 with hi1 | hi1 | hi1
    · rw [h1 i hi1]; obtain ⟨q, g1, g2⟩ := h.2.1 i (by omega); exact ⟨q, g1, Or.inr g2⟩
    · rw [hi1, h2]; exact ⟨p, rfl, Or.inl rfl⟩
    · rw [h3 i hi1 (by omega)]; obtain ⟨q, g1, g2⟩ := h.2.1 (i - 1) (by omega); exact ⟨q, g1, Or.inr g2⟩
  · rcases hq with rfl | hq
    · exact ⟨at9, by omega, h2⟩
    · obtain ⟨i, g1, g2⟩ := h.2.2 q hq
      rcases Nat.lt_or_ge i at9 with hi | hi
      · exact ⟨i, by omega, by rw [h1 i hi]; exact g2⟩
      · exact ⟨i + 1, by omega, by rw [h3 (i + 1) (by omega) (by omega)]; exact g2⟩
theorem SL.bd {c : Nat} {a : Nat → Int} {S : Nat → Prop} (h : SL c a S) {B : Nat} (hb : ∀ q, S q → q ≤ B) {i : Nat} (hi : i < c) : 0 ≤ a i ∧ a i ≤ B := by
  obtain ⟨q, h1, h2⟩ := h.2.1 i hi
  have := hb q h2
  omega
/-- the next prime to look for: every divisor of n that is a prime lies in S, or divides what is left -/
def pf (n : Nat) (S : Nat → Prop) (S0 : Nat → Prop) (left d : Nat) : Prop := 0 < left ∧ left ∣ n ∧ (∀ e, 1 < e → e < d → ¬ e ∣ left) ∧ (∀ q, S q ↔ S0 q ∨ (prm q ∧ q ∣ n ∧ ¬ q ∣ left))
theorem pf_0 {n : Nat} (hn : 0 < n) (S0 : Nat → Prop) : pf n S0 S0 n 2 := ⟨hn, Nat.dvd_refl n, fun e h1 h2 => by omega, fun q => ⟨Or.inl, fun h => h.elim id (fun h => absurd h.2.1 h.2.2)⟩⟩
theorem pf_skip {n left d : Nat} {S S0 : Nat → Prop} (h : pf n S S0 left d) (hd : ¬ d ∣ left) : pf n S S0 left (d + 1) :=
  ⟨h.1, h.2.1, fun e h1 h2 h3 => by
    rcases Nat.lt_or_ge e d with h4 | h4
    · exact h.2.2.1 e h1 h4 h3
    · have : e = d := by omega
      subst this
      exact hd h3, h.2.2.2⟩
theorem pf_prm {n left d : Nat} {S S0 : Nat → Prop} (h : pf n S S0 left d) (hd2 : 2 ≤ d) (hd : d ∣ left) : prm d :=
  ⟨by omega, fun e h1 h2 h3 => h.2.2.1 e h1 h2 (Nat.dvd_trans h3 hd)⟩
theorem pf_take {n left d left' k : Nat} {S S0 : Nat → Prop} (h : pf n S S0 left d) (hd2 : 2 ≤ d) (hd : d ∣ left) (hk : left = left' * d ^ k) (hn : ¬ d ∣ left') : pf n (fun q => q = d ∨ S q) S0 left' (d + 1) := by
  obtain ⟨h1, h2, h3, h4⟩ := h
  have hp : prm d := pf_prm ⟨h1, h2, h3, h4⟩ hd2 hd
  have hl : left' ∣ left := by rw [hk]; exact Nat.dvd_mul_right _ _
  refine ⟨Nat.pos_of_ne_zero (fun z => by rw [z, Nat.zero_mul] at hk; omega), Nat.dvd_trans hl h2, fun e e1 e2 e3 => ?_, fun q => ⟨fun hq => ?_, fun hq => ?_⟩⟩
  · rcases Nat.lt_or_ge e d with e4 | e4
    · exact h3 e e1 e4 (Nat.dvd_trans e3 hl)
    · have : e = d := by omega
      subst this
      exact hn e3
  · rcases hq with rfl | hq
    · exact Or.inr ⟨hp, Nat.dvd_trans hd h2, hn⟩
    · rcases (h4 q).mp hq with g | ⟨g1, g2, g3⟩
      · exact Or.inl g
      · exact Or.inr ⟨g1, g2, fun z => g3 (Nat.dvd_trans z hl)⟩
  · rcases hq with g | ⟨g1, g2, g3⟩
    · exact Or.inr ((h4 q).mpr (Or.inl g))
    · by_cases hqd : q = d
      · exact Or.inl hqd
      · refine Or.inr ((h4 q).mpr (Or.inr ⟨g1, g2, fun z => ?_⟩))
        rw [hk] at z
        have hc : Nat.Coprime q (d ^ k) := Nat.Coprime.pow_right k (cop_ne g1 hp hqd)
        exact g3 (hc.dvd_of_dvd_mul_right z)
/-- at the end: what is left is 1 or a prime -/
theorem pf_end {n left d : Nat} {S S0 : Nat → Prop} (h : pf n S S0 left d) (hlt : left < d * d) : (left = 1 → ∀ q, S q ↔ S0 q ∨ (prm q ∧ q ∣ n)) ∧ (1 < left → prm left ∧ ∀ q, (q = left ∨ S q) ↔ S0 q ∨ (prm q ∧ q ∣ n)) := by
  obtain ⟨h1, h2, h3, h4⟩ := h
  refine ⟨fun e1 q => ?_, fun g => ?_⟩
  · rw [h4 q]
    constructor
    · rintro (g | ⟨g1, g2, -⟩)
      · exact Or.inl g
      · exact Or.inr ⟨g1, g2⟩
    · rintro (g | ⟨g1, g2⟩)
      · exact Or.inl g
      · refine Or.inr ⟨g1, g2, fun z => ?_⟩
        rw [e1] at z
        have := Nat.le_of_dvd Nat.one_pos z
        have := g1.1
        omega
  · have hp : prm left := prm_of g h3 hlt
    refine ⟨hp, fun q => ?_⟩
    rw [h4 q]
    constructor
    · rintro (rfl | g | ⟨g1, g2, -⟩)
      · exact Or.inr ⟨hp, h2⟩
      · exact Or.inl g
      · exact Or.inr ⟨g1, g2⟩
    · rintro (g | ⟨g1, g2⟩)
      · exact Or.inr (Or.inl g)
      · by_cases hql : q ∣ left
        · exact Or.inl (prm_eq hp g1.1 hql)
        · exact Or.inr (Or.inr ⟨g1, g2, hql⟩)
def fac : Nat → Nat
  | 0 => 1
  | n + 1 => (n + 1) * fac n
theorem fac_pos : ∀ n, 0 < fac n
  | 0 => Nat.one_pos
  | n + 1 => Nat.mul_pos (Nat.succ_pos n) (fac_pos n)
theorem fac_mono {a b : Nat} (h : a ≤ b) : fac a ≤ fac b := by
  induction h with
  | refl => exact Nat.le_refl _
  | step h ih => exact Nat.le_trans ih (Nat.le_mul_of_pos_left _ (Nat.succ_pos _))
theorem fac_lt {a b : Nat} (h : fac a < fac b) : a < b := by
  rcases Nat.lt_or_ge a b with h1 | h1
  · exact h1
  · have := fac_mono h1
    omega
theorem fac_take {t n left left' d k : Nat} (h : fac (t + 1) * left ≤ n) (hk : left = left' * d ^ k) (hd : t + 2 ≤ d) (hk1 : 0 < k) (hp : 0 < left) : fac (t + 2) * left' ≤ n := by
  obtain ⟨k, rfl⟩ : ∃ k', k = k' + 1 := ⟨k - 1, by omega⟩
  have hdp : 0 < d ^ k := Nat.pow_pos (by omega)
  have h1 : (t + 2) * left' ≤ left := by
    rw [hk, Nat.pow_succ]
    calc (t + 2) * left' = left' * (t + 2) := Nat.mul_comm _ _
      _ ≤ left' * d := Nat.mul_le_mul_left _ hd
      _ = left' * (1 * d) := by rw [Nat.one_mul]
      _ ≤ left' * (d ^ k * d) := Nat.mul_le_mul_left _ (Nat.mul_le_mul_right _ hdp)
  calc fac (t + 2) * left' = fac (t + 1) * ((t + 2) * left') := by show (t + 1 + 1) * fac (t + 1) * left' = _; ac_rfl
    _ ≤ fac (t + 1) * left := Nat.mul_le_mul_left _ h1
    _ ≤ n := h
theorem wo_nat {r d : Nat} (hd : 1 < d) (hr : 0 < r) (hb : r < 2 ^ 64) (hdv : d ∣ r) : ∃ (r' k : Nat), wo 64 (r : Int) (d : Int) = (r' : Int) ∧ r = r' * d ^ k ∧ ¬ d ∣ r' ∧ 0 < k ∧ r' < r := by
  obtain ⟨k, hk⟩ := wo_pow 64 (r : Int) (d : Int)
  have hs := (wo_sgn 64 (r : Int) (d : Int) (by omega)).1.mp (by omega)
  have ho := wo_out 64 (r : Int) (d : Int) (by omega) (by omega) (by omega)
  obtain ⟨r', hr'⟩ := Int.eq_ofNat_of_zero_le (show 0 ≤ wo 64 (r : Int) (d : Int) by omega)
  rw [hr'] at hk ho hs
  have hk' : r = r' * d ^ k := by
    have : (r : Int) = ((r' * d ^ k : Nat) : Int) := by rw [Int.natCast_mul, Int.natCast_pow]; exact hk
    exact Int.ofNat.inj this
  have hn : ¬ d ∣ r' := fun q => ho (Int.natCast_dvd_natCast.mpr q)
  have hk0 : 0 < k := by
    rcases Nat.eq_zero_or_pos k with h | h
    · subst h
      rw [Nat.pow_zero, Nat.mul_one] at hk'
      subst hk'
      exact absurd hdv hn
    · exact h
  refine ⟨r', k, hr', hk', hn, hk0, ?_⟩
  have h1 : 2 ≤ d ^ k := by
    calc 2 ≤ d := hd
      _ = d ^ 1 := (Nat.pow_one d).symm
      _ ≤ d ^ k := Nat.pow_le_pow_right (by omega) hk0
  have h2 : r' * 2 ≤ r' * d ^ k := Nat.mul_le_mul_left _ h1
  omega
end
section
/-! Diagonal (the class), the writing methods: names, contracts -/
abbrev cD_restart : ByteArray := prog_2_method_2_code
abbrev yD_restart : MethodName := ⟨"RationalForms$Diagonal", "restart", "(I)V"⟩
abbrev wsD_restart : List Cond := .code yD_restart cD_restart 2 none :: GG
theorem dD_restart_0 : decode cD_restart 0 = .ok (.aload_n 0, 1) := by decide +kernel
theorem dD_restart_1 : decode cD_restart 1 = .ok (.iload_n 1, 1) := by decide +kernel
theorem dD_restart_2 : decode cD_restart 2 = .ok (.putfield 19, 3) := by decide +kernel
theorem dD_restart_5 : decode cD_restart 5 = .ok (.aload_n 0, 1) := by decide +kernel
theorem dD_restart_6 : decode cD_restart 6 = .ok (.iconst 0, 1) := by decide +kernel
theorem dD_restart_7 : decode cD_restart 7 = .ok (.putfield 23, 3) := by decide +kernel
theorem dD_restart_10 : decode cD_restart 10 = .ok (.aload_n 0, 1) := by decide +kernel
theorem dD_restart_11 : decode cD_restart 11 = .ok (.iconst 0, 1) := by decide +kernel
theorem dD_restart_12 : decode cD_restart 12 = .ok (.putfield 26, 3) := by decide +kernel
theorem dD_restart_15 : decode cD_restart 15 = .ok (.aload_n 0, 1) := by decide +kernel
theorem dD_restart_16 : decode cD_restart 16 = .ok (.iconst 0, 1) := by decide +kernel
theorem dD_restart_17 : decode cD_restart 17 = .ok (.putfield 29, 3) := by decide +kernel
theorem dD_restart_20 : decode cD_restart 20 = .ok (.aload_n 0, 1) := by decide +kernel
theorem dD_restart_21 : decode cD_restart 21 = .ok (.lconst 1, 1) := by decide +kernel
theorem dD_restart_22 : decode cD_restart 22 = .ok (.putfield 32, 3) := by decide +kernel
theorem dD_restart_25 : decode cD_restart 25 = .ok (.aload_n 0, 1) := by decide +kernel
theorem dD_restart_26 : decode cD_restart 26 = .ok (.iconst 0, 1) := by decide +kernel
theorem dD_restart_27 : decode cD_restart 27 = .ok (.putfield 36, 3) := by decide +kernel
theorem dD_restart_30 : decode cD_restart 30 = .ok (.aload_n 0, 1) := by decide +kernel
theorem dD_restart_31 : decode cD_restart 31 = .ok (.iconst 2, 1) := by decide +kernel
theorem dD_restart_32 : decode cD_restart 32 = .ok (.invokevirtual 39, 3) := by decide +kernel
theorem dD_restart_35 : decode cD_restart 35 = .ok (.return_, 1) := by decide +kernel
abbrev cD_addTerm : ByteArray := prog_2_method_3_code
abbrev yD_addTerm : MethodName := ⟨"RationalForms$Diagonal", "addTerm", "(J)V"⟩
abbrev wsD_addTerm : List Cond := .code yD_addTerm cD_addTerm 3 none :: GG
theorem dD_addTerm_0 : decode cD_addTerm 0 = .ok (.aload_n 0, 1) := by decide +kernel
theorem dD_addTerm_1 : decode cD_addTerm 1 = .ok (.getfield 23, 3) := by decide +kernel
theorem dD_addTerm_4 : decode cD_addTerm 4 = .ok (.iconst 5, 1) := by decide +kernel
theorem dD_addTerm_5 : decode cD_addTerm 5 = .ok (.if_icmp .lt 4, 3) := by decide +kernel
theorem dD_addTerm_8 : decode cD_addTerm 8 = .ok (.return_, 1) := by decide +kernel
theorem dD_addTerm_9 : decode cD_addTerm 9 = .ok (.aload_n 0, 1) := by decide +kernel
theorem dD_addTerm_10 : decode cD_addTerm 10 = .ok (.getfield 11, 3) := by decide +kernel
theorem dD_addTerm_13 : decode cD_addTerm 13 = .ok (.aload_n 0, 1) := by decide +kernel
theorem dD_addTerm_14 : decode cD_addTerm 14 = .ok (.getfield 23, 3) := by decide +kernel
theorem dD_addTerm_17 : decode cD_addTerm 17 = .ok (.lload_n 1, 1) := by decide +kernel
theorem dD_addTerm_18 : decode cD_addTerm 18 = .ok (.lastore, 1) := by decide +kernel
theorem dD_addTerm_19 : decode cD_addTerm 19 = .ok (.aload_n 0, 1) := by decide +kernel
theorem dD_addTerm_20 : decode cD_addTerm 20 = .ok (.dup, 1) := by decide +kernel
theorem dD_addTerm_21 : decode cD_addTerm 21 = .ok (.getfield 23, 3) := by decide +kernel
theorem dD_addTerm_24 : decode cD_addTerm 24 = .ok (.iconst 1, 1) := by decide +kernel
theorem dD_addTerm_25 : decode cD_addTerm 25 = .ok (.iadd, 1) := by decide +kernel
theorem dD_addTerm_26 : decode cD_addTerm 26 = .ok (.putfield 23, 3) := by decide +kernel
theorem dD_addTerm_29 : decode cD_addTerm 29 = .ok (.lload_n 1, 1) := by decide +kernel
theorem dD_addTerm_30 : decode cD_addTerm 30 = .ok (.lconst 0, 1) := by decide +kernel
theorem dD_addTerm_31 : decode cD_addTerm 31 = .ok (.lcmp, 1) := by decide +kernel
theorem dD_addTerm_32 : decode cD_addTerm 32 = .ok (.ifCond .le 16, 3) := by decide +kernel
theorem dD_addTerm_35 : decode cD_addTerm 35 = .ok (.aload_n 0, 1) := by decide +kernel
theorem dD_addTerm_36 : decode cD_addTerm 36 = .ok (.dup, 1) := by decide +kernel
theorem dD_addTerm_37 : decode cD_addTerm 37 = .ok (.getfield 26, 3) := by decide +kernel
theorem dD_addTerm_40 : decode cD_addTerm 40 = .ok (.iconst 1, 1) := by decide +kernel
theorem dD_addTerm_41 : decode cD_addTerm 41 = .ok (.iadd, 1) := by decide +kernel
theorem dD_addTerm_42 : decode cD_addTerm 42 = .ok (.putfield 26, 3) := by decide +kernel
theorem dD_addTerm_45 : decode cD_addTerm 45 = .ok (.goto 13, 3) := by decide +kernel
theorem dD_addTerm_48 : decode cD_addTerm 48 = .ok (.aload_n 0, 1) := by decide +kernel
theorem dD_addTerm_49 : decode cD_addTerm 49 = .ok (.dup, 1) := by decide +kernel
theorem dD_addTerm_50 : decode cD_addTerm 50 = .ok (.getfield 29, 3) := by decide +kernel
theorem dD_addTerm_53 : decode cD_addTerm 53 = .ok (.iconst 1, 1) := by decide +kernel
theorem dD_addTerm_54 : decode cD_addTerm 54 = .ok (.iadd, 1) := by decide +kernel
theorem dD_addTerm_55 : decode cD_addTerm 55 = .ok (.putfield 29, 3) := by decide +kernel
theorem dD_addTerm_58 : decode cD_addTerm 58 = .ok (.aload_n 0, 1) := by decide +kernel
theorem dD_addTerm_59 : decode cD_addTerm 59 = .ok (.aload_n 0, 1) := by decide +kernel
theorem dD_addTerm_60 : decode cD_addTerm 60 = .ok (.getfield 32, 3) := by decide +kernel
theorem dD_addTerm_63 : decode cD_addTerm 63 = .ok (.lload_n 1, 1) := by decide +kernel
theorem dD_addTerm_64 : decode cD_addTerm 64 = .ok (.invokestatic 43, 3) := by decide +kernel
theorem dD_addTerm_67 : decode cD_addTerm 67 = .ok (.putfield 32, 3) := by decide +kernel
theorem dD_addTerm_70 : decode cD_addTerm 70 = .ok (.return_, 1) := by decide +kernel
abbrev cD_addPrimesOf : ByteArray := prog_2_method_4_code
abbrev yD_addPrimesOf : MethodName := ⟨"RationalForms$Diagonal", "addPrimesOf", "(J)V"⟩
abbrev wsD_addPrimesOf : List Cond := .code yD_addPrimesOf cD_addPrimesOf 7 none :: GG
theorem dD_addPrimesOf_0 : decode cD_addPrimesOf 0 = .ok (.lload_n 1, 1) := by decide +kernel
theorem dD_addPrimesOf_1 : decode cD_addPrimesOf 1 = .ok (.invokestatic 49, 3) := by decide +kernel
theorem dD_addPrimesOf_4 : decode cD_addPrimesOf 4 = .ok (.lstore_n 3, 1) := by decide +kernel
theorem dD_addPrimesOf_5 : decode cD_addPrimesOf 5 = .ok (.ldc2_w 55, 3) := by decide +kernel
theorem dD_addPrimesOf_8 : decode cD_addPrimesOf 8 = .ok (.lstore 5, 2) := by decide +kernel
theorem dD_addPrimesOf_10 : decode cD_addPrimesOf 10 = .ok (.lload 5, 2) := by decide +kernel
theorem dD_addPrimesOf_12 : decode cD_addPrimesOf 12 = .ok (.lload 5, 2) := by decide +kernel
theorem dD_addPrimesOf_14 : decode cD_addPrimesOf 14 = .ok (.lmul, 1) := by decide +kernel
theorem dD_addPrimesOf_15 : decode cD_addPrimesOf 15 = .ok (.lload_n 3, 1) := by decide +kernel
theorem dD_addPrimesOf_16 : decode cD_addPrimesOf 16 = .ok (.lcmp, 1) := by decide +kernel
theorem dD_addPrimesOf_17 : decode cD_addPrimesOf 17 = .ok (.ifCond .gt 35, 3) := by decide +kernel
theorem dD_addPrimesOf_20 : decode cD_addPrimesOf 20 = .ok (.lload_n 3, 1) := by decide +kernel
theorem dD_addPrimesOf_21 : decode cD_addPrimesOf 21 = .ok (.lload 5, 2) := by decide +kernel
theorem dD_addPrimesOf_23 : decode cD_addPrimesOf 23 = .ok (.lrem, 1) := by decide +kernel
theorem dD_addPrimesOf_24 : decode cD_addPrimesOf 24 = .ok (.lconst 0, 1) := by decide +kernel
theorem dD_addPrimesOf_25 : decode cD_addPrimesOf 25 = .ok (.lcmp, 1) := by decide +kernel
theorem dD_addPrimesOf_26 : decode cD_addPrimesOf 26 = .ok (.ifCond .ne 17, 3) := by decide +kernel
theorem dD_addPrimesOf_29 : decode cD_addPrimesOf 29 = .ok (.aload_n 0, 1) := by decide +kernel
theorem dD_addPrimesOf_30 : decode cD_addPrimesOf 30 = .ok (.lload 5, 2) := by decide +kernel
theorem dD_addPrimesOf_32 : decode cD_addPrimesOf 32 = .ok (.l2i, 1) := by decide +kernel
theorem dD_addPrimesOf_33 : decode cD_addPrimesOf 33 = .ok (.invokevirtual 39, 3) := by decide +kernel
theorem dD_addPrimesOf_36 : decode cD_addPrimesOf 36 = .ok (.lload_n 3, 1) := by decide +kernel
theorem dD_addPrimesOf_37 : decode cD_addPrimesOf 37 = .ok (.lload 5, 2) := by decide +kernel
theorem dD_addPrimesOf_39 : decode cD_addPrimesOf 39 = .ok (.invokestatic 57, 3) := by decide +kernel
theorem dD_addPrimesOf_42 : decode cD_addPrimesOf 42 = .ok (.lstore_n 3, 1) := by decide +kernel
theorem dD_addPrimesOf_43 : decode cD_addPrimesOf 43 = .ok (.lload 5, 2) := by decide +kernel
theorem dD_addPrimesOf_45 : decode cD_addPrimesOf 45 = .ok (.lconst 1, 1) := by decide +kernel
theorem dD_addPrimesOf_46 : decode cD_addPrimesOf 46 = .ok (.ladd, 1) := by decide +kernel
theorem dD_addPrimesOf_47 : decode cD_addPrimesOf 47 = .ok (.lstore 5, 2) := by decide +kernel
theorem dD_addPrimesOf_49 : decode cD_addPrimesOf 49 = .ok (.goto (-39), 3) := by decide +kernel
theorem dD_addPrimesOf_52 : decode cD_addPrimesOf 52 = .ok (.lload_n 3, 1) := by decide +kernel
theorem dD_addPrimesOf_53 : decode cD_addPrimesOf 53 = .ok (.lconst 1, 1) := by decide +kernel
theorem dD_addPrimesOf_54 : decode cD_addPrimesOf 54 = .ok (.lcmp, 1) := by decide +kernel
theorem dD_addPrimesOf_55 : decode cD_addPrimesOf 55 = .ok (.ifCond .le 9, 3) := by decide +kernel
theorem dD_addPrimesOf_58 : decode cD_addPrimesOf 58 = .ok (.aload_n 0, 1) := by decide +kernel
theorem dD_addPrimesOf_59 : decode cD_addPrimesOf 59 = .ok (.lload_n 3, 1) := by decide +kernel
theorem dD_addPrimesOf_60 : decode cD_addPrimesOf 60 = .ok (.l2i, 1) := by decide +kernel
theorem dD_addPrimesOf_61 : decode cD_addPrimesOf 61 = .ok (.invokevirtual 39, 3) := by decide +kernel
theorem dD_addPrimesOf_64 : decode cD_addPrimesOf 64 = .ok (.return_, 1) := by decide +kernel
abbrev cD_addPrime : ByteArray := prog_2_method_5_code
abbrev yD_addPrime : MethodName := ⟨"RationalForms$Diagonal", "addPrime", "(I)V"⟩
abbrev wsD_addPrime : List Cond := .code yD_addPrime cD_addPrime 5 none :: GG
theorem dD_addPrime_0 : decode cD_addPrime 0 = .ok (.iconst 0, 1) := by decide +kernel
theorem dD_addPrime_1 : decode cD_addPrime 1 = .ok (.istore_n 2, 1) := by decide +kernel
theorem dD_addPrime_2 : decode cD_addPrime 2 = .ok (.iload_n 2, 1) := by decide +kernel
theorem dD_addPrime_3 : decode cD_addPrime 3 = .ok (.aload_n 0, 1) := by decide +kernel
theorem dD_addPrime_4 : decode cD_addPrime 4 = .ok (.getfield 36, 3) := by decide +kernel
theorem dD_addPrime_7 : decode cD_addPrime 7 = .ok (.if_icmp .ge 19, 3) := by decide +kernel
theorem dD_addPrime_10 : decode cD_addPrime 10 = .ok (.aload_n 0, 1) := by decide +kernel
theorem dD_addPrime_11 : decode cD_addPrime 11 = .ok (.getfield 15, 3) := by decide +kernel
theorem dD_addPrime_14 : decode cD_addPrime 14 = .ok (.iload_n 2, 1) := by decide +kernel
theorem dD_addPrime_15 : decode cD_addPrime 15 = .ok (.iaload, 1) := by decide +kernel
theorem dD_addPrime_16 : decode cD_addPrime 16 = .ok (.iload_n 1, 1) := by decide +kernel
theorem dD_addPrime_17 : decode cD_addPrime 17 = .ok (.if_icmp .ge 9, 3) := by decide +kernel
theorem dD_addPrime_20 : decode cD_addPrime 20 = .ok (.iinc 2 1, 3) := by decide +kernel
theorem dD_addPrime_23 : decode cD_addPrime 23 = .ok (.goto (-21), 3) := by decide +kernel
theorem dD_addPrime_26 : decode cD_addPrime 26 = .ok (.iload_n 2, 1) := by decide +kernel
theorem dD_addPrime_27 : decode cD_addPrime 27 = .ok (.aload_n 0, 1) := by decide +kernel
theorem dD_addPrime_28 : decode cD_addPrime 28 = .ok (.getfield 36, 3) := by decide +kernel
theorem dD_addPrime_31 : decode cD_addPrime 31 = .ok (.if_icmp .ge 17, 3) := by decide +kernel
theorem dD_addPrime_34 : decode cD_addPrime 34 = .ok (.aload_n 0, 1) := by decide +kernel
theorem dD_addPrime_35 : decode cD_addPrime 35 = .ok (.getfield 15, 3) := by decide +kernel
theorem dD_addPrime_38 : decode cD_addPrime 38 = .ok (.iload_n 2, 1) := by decide +kernel
theorem dD_addPrime_39 : decode cD_addPrime 39 = .ok (.iaload, 1) := by decide +kernel
theorem dD_addPrime_40 : decode cD_addPrime 40 = .ok (.iload_n 1, 1) := by decide +kernel
theorem dD_addPrime_41 : decode cD_addPrime 41 = .ok (.if_icmp .ne 7, 3) := by decide +kernel
theorem dD_addPrime_44 : decode cD_addPrime 44 = .ok (.iconst 1, 1) := by decide +kernel
theorem dD_addPrime_45 : decode cD_addPrime 45 = .ok (.goto 4, 3) := by decide +kernel
theorem dD_addPrime_48 : decode cD_addPrime 48 = .ok (.iconst 0, 1) := by decide +kernel
theorem dD_addPrime_49 : decode cD_addPrime 49 = .ok (.istore_n 3, 1) := by decide +kernel
theorem dD_addPrime_50 : decode cD_addPrime 50 = .ok (.iload_n 3, 1) := by decide +kernel
theorem dD_addPrime_51 : decode cD_addPrime 51 = .ok (.ifCond .ne 12, 3) := by decide +kernel
theorem dD_addPrime_54 : decode cD_addPrime 54 = .ok (.aload_n 0, 1) := by decide +kernel
theorem dD_addPrime_55 : decode cD_addPrime 55 = .ok (.getfield 36, 3) := by decide +kernel
theorem dD_addPrime_58 : decode cD_addPrime 58 = .ok (.bipush 32, 2) := by decide +kernel
theorem dD_addPrime_60 : decode cD_addPrime 60 = .ok (.if_icmp .lt 4, 3) := by decide +kernel
theorem dD_addPrime_63 : decode cD_addPrime 63 = .ok (.return_, 1) := by decide +kernel
theorem dD_addPrime_64 : decode cD_addPrime 64 = .ok (.aload_n 0, 1) := by decide +kernel
theorem dD_addPrime_65 : decode cD_addPrime 65 = .ok (.getfield 36, 3) := by decide +kernel
theorem dD_addPrime_68 : decode cD_addPrime 68 = .ok (.istore 4, 2) := by decide +kernel
theorem dD_addPrime_70 : decode cD_addPrime 70 = .ok (.iload 4, 2) := by decide +kernel
theorem dD_addPrime_72 : decode cD_addPrime 72 = .ok (.iload_n 2, 1) := by decide +kernel
theorem dD_addPrime_73 : decode cD_addPrime 73 = .ok (.if_icmp .le 25, 3) := by decide +kernel
theorem dD_addPrime_76 : decode cD_addPrime 76 = .ok (.aload_n 0, 1) := by decide +kernel
theorem dD_addPrime_77 : decode cD_addPrime 77 = .ok (.getfield 15, 3) := by decide +kernel
theorem dD_addPrime_80 : decode cD_addPrime 80 = .ok (.iload 4, 2) := by decide +kernel
theorem dD_addPrime_82 : decode cD_addPrime 82 = .ok (.aload_n 0, 1) := by decide +kernel
theorem dD_addPrime_83 : decode cD_addPrime 83 = .ok (.getfield 15, 3) := by decide +kernel
theorem dD_addPrime_86 : decode cD_addPrime 86 = .ok (.iload 4, 2) := by decide +kernel
theorem dD_addPrime_88 : decode cD_addPrime 88 = .ok (.iconst 1, 1) := by decide +kernel
theorem dD_addPrime_89 : decode cD_addPrime 89 = .ok (.isub, 1) := by decide +kernel
theorem dD_addPrime_90 : decode cD_addPrime 90 = .ok (.iaload, 1) := by decide +kernel
theorem dD_addPrime_91 : decode cD_addPrime 91 = .ok (.iastore, 1) := by decide +kernel
theorem dD_addPrime_92 : decode cD_addPrime 92 = .ok (.iinc 4 (-1), 3) := by decide +kernel
theorem dD_addPrime_95 : decode cD_addPrime 95 = .ok (.goto (-25), 3) := by decide +kernel
theorem dD_addPrime_98 : decode cD_addPrime 98 = .ok (.aload_n 0, 1) := by decide +kernel
theorem dD_addPrime_99 : decode cD_addPrime 99 = .ok (.getfield 15, 3) := by decide +kernel
theorem dD_addPrime_102 : decode cD_addPrime 102 = .ok (.iload_n 2, 1) := by decide +kernel
theorem dD_addPrime_103 : decode cD_addPrime 103 = .ok (.iload_n 1, 1) := by decide +kernel
theorem dD_addPrime_104 : decode cD_addPrime 104 = .ok (.iastore, 1) := by decide +kernel
theorem dD_addPrime_105 : decode cD_addPrime 105 = .ok (.aload_n 0, 1) := by decide +kernel
theorem dD_addPrime_106 : decode cD_addPrime 106 = .ok (.dup, 1) := by decide +kernel
theorem dD_addPrime_107 : decode cD_addPrime 107 = .ok (.getfield 36, 3) := by decide +kernel
theorem dD_addPrime_110 : decode cD_addPrime 110 = .ok (.iconst 1, 1) := by decide +kernel
theorem dD_addPrime_111 : decode cD_addPrime 111 = .ok (.iadd, 1) := by decide +kernel
theorem dD_addPrime_112 : decode cD_addPrime 112 = .ok (.putfield 36, 3) := by decide +kernel
theorem dD_addPrime_115 : decode cD_addPrime 115 = .ok (.return_, 1) := by decide +kernel
abbrev cD_extendBy : ByteArray := prog_2_method_6_code
abbrev yD_extendBy : MethodName := ⟨"RationalForms$Diagonal", "extendBy", "(I)V"⟩
abbrev wsD_extendBy : List Cond := .code yD_extendBy cD_extendBy 2 none :: GG
theorem dD_extendBy_0 : decode cD_extendBy 0 = .ok (.aload_n 0, 1) := by decide +kernel
theorem dD_extendBy_1 : decode cD_extendBy 1 = .ok (.iload_n 1, 1) := by decide +kernel
theorem dD_extendBy_2 : decode cD_extendBy 2 = .ok (.i2l, 1) := by decide +kernel
theorem dD_extendBy_3 : decode cD_extendBy 3 = .ok (.invokestatic 60, 3) := by decide +kernel
theorem dD_extendBy_6 : decode cD_extendBy 6 = .ok (.invokevirtual 63, 3) := by decide +kernel
theorem dD_extendBy_9 : decode cD_extendBy 9 = .ok (.aload_n 0, 1) := by decide +kernel
theorem dD_extendBy_10 : decode cD_extendBy 10 = .ok (.iload_n 1, 1) := by decide +kernel
theorem dD_extendBy_11 : decode cD_extendBy 11 = .ok (.i2l, 1) := by decide +kernel
theorem dD_extendBy_12 : decode cD_extendBy 12 = .ok (.invokevirtual 67, 3) := by decide +kernel
theorem dD_extendBy_15 : decode cD_extendBy 15 = .ok (.aload_n 0, 1) := by decide +kernel
theorem dD_extendBy_16 : decode cD_extendBy 16 = .ok (.aload_n 0, 1) := by decide +kernel
theorem dD_extendBy_17 : decode cD_extendBy 17 = .ok (.getfield 23, 3) := by decide +kernel
theorem dD_extendBy_20 : decode cD_extendBy 20 = .ok (.putfield 19, 3) := by decide +kernel
theorem dD_extendBy_23 : decode cD_extendBy 23 = .ok (.return_, 1) := by decide +kernel
def FrD (f : Nat) (M M9 : Me) : Prop := (∀ k, k ≠ 17 + f → k ≠ 21 + f → M9 k = M k) ∧ ∀ j, j ≠ 7 → M9 (17 + f) j = M (17 + f) j
theorem FrD.rf (f : Nat) (M : Me) : FrD f M M := ⟨fun _ _ _ => rfl, fun _ _ => rfl⟩
theorem FrD.tr {f : Nat} {M M1 M2 : Me} (h1 : FrD f M M1) (h2 : FrD f M1 M2) : FrD f M M2 := ⟨fun k a b => (h2.1 k a b).trans (h1.1 k a b), fun j a => (h2.2 j a).trans (h1.2 j a)⟩
set_option maxRecDepth 20000 in
theorem wd129 : Cond.methodLink "RationalForms$Diagonal" 39 yD_addPrime ∈ GG := GG_t 129 rfl rfl
set_option maxRecDepth 20000 in
theorem wd131 : Cond.instanceMethod yD_addPrime ∈ GG := GG_t 131 rfl rfl
set_option maxRecDepth 20000 in
theorem wd132 : Cond.code yD_addPrime cD_addPrime 5 none ∈ GG := GG_t 132 rfl rfl
set_option maxRecDepth 20000 in
theorem wd146 : Cond.static yW_classOf ∈ GG := GG_t 146 rfl rfl
set_option maxRecDepth 20000 in
theorem wd147 : Cond.code yW_classOf cW_classOf 6 (some .long) ∈ GG := GG_t 147 rfl rfl
set_option maxRecDepth 20000 in
theorem wd156 : Cond.static yW_classOfProduct ∈ GG := GG_t 156 rfl rfl
set_option maxRecDepth 20000 in
theorem wd157 : Cond.code yW_classOfProduct cW_classOfProduct 6 (some .long) ∈ GG := GG_t 157 rfl rfl
set_option maxRecDepth 20000 in
theorem wd165 : Cond.instanceMethod yD_addTerm ∈ GG := GG_t 165 rfl rfl
set_option maxRecDepth 20000 in
theorem wd166 : Cond.selects "RationalForms$Diagonal" yD_addTerm yD_addTerm ∈ GG := GG_t 166 rfl rfl
set_option maxRecDepth 20000 in
theorem wd167 : Cond.code yD_addTerm cD_addTerm 3 none ∈ GG := GG_t 167 rfl rfl
set_option maxRecDepth 20000 in
theorem wd168 : Cond.methodLink "RationalForms$Diagonal" 43 yW_classOfProduct ∈ GG := GG_t 168 rfl rfl
set_option maxRecDepth 20000 in
theorem wd170 : Cond.instanceMethod yD_addPrimesOf ∈ GG := GG_t 170 rfl rfl
set_option maxRecDepth 20000 in
theorem wd171 : Cond.selects "RationalForms$Diagonal" yD_addPrimesOf yD_addPrimesOf ∈ GG := GG_t 171 rfl rfl
set_option maxRecDepth 20000 in
theorem wd172 : Cond.code yD_addPrimesOf cD_addPrimesOf 7 none ∈ GG := GG_t 172 rfl rfl
set_option maxRecDepth 20000 in
theorem wd173 : Cond.methodLink "RationalForms$Diagonal" 49 Lib.MathLoose.abs_long.x ∈ GG := GG_t 173 rfl rfl
set_option maxRecDepth 20000 in
theorem wd174 : Cond.constantLong "RationalForms$Diagonal" 55 (2) ∈ GG := GG_t 174 rfl rfl
set_option maxRecDepth 20000 in
theorem wd175 : Cond.methodLink "RationalForms$Diagonal" 57 yW_withoutFactor ∈ GG := GG_t 175 rfl rfl
set_option maxRecDepth 20000 in
theorem wd4 : Cond.initialized "RationalForms$Diagonal" ∈ GG := GG_t 4 rfl rfl
set_option maxRecDepth 20000 in
theorem wd427 : Cond.methodLink "RationalForms$Diagonal" 60 yW_classOf ∈ GG := GG_t 427 rfl rfl
set_option maxRecDepth 20000 in
theorem wd428 : Cond.methodLink "RationalForms$Diagonal" 63 yD_addTerm ∈ GG := GG_t 428 rfl rfl
set_option maxRecDepth 20000 in
theorem wd429 : Cond.methodLink "RationalForms$Diagonal" 67 yD_addPrimesOf ∈ GG := GG_t 429 rfl rfl
set_option maxRecDepth 20000 in
theorem wd66 : Cond.fieldLink "RationalForms$Diagonal" 11 "RationalForms$Diagonal" "terms" "[J" ∈ GG := GG_t 66 rfl rfl
set_option maxRecDepth 20000 in
theorem wd67 : Cond.fieldLink "RationalForms$Diagonal" 15 "RationalForms$Diagonal" "primes" "[I" ∈ GG := GG_t 67 rfl rfl
set_option maxRecDepth 20000 in
theorem wd68 : Cond.fieldLink "RationalForms$Diagonal" 19 "RationalForms$Diagonal" "dimension" "I" ∈ GG := GG_t 68 rfl rfl
set_option maxRecDepth 20000 in
theorem wd70 : Cond.fieldLink "RationalForms$Diagonal" 23 "RationalForms$Diagonal" "rank" "I" ∈ GG := GG_t 70 rfl rfl
set_option maxRecDepth 20000 in
theorem wd72 : Cond.fieldLink "RationalForms$Diagonal" 26 "RationalForms$Diagonal" "positive" "I" ∈ GG := GG_t 72 rfl rfl
set_option maxRecDepth 20000 in
theorem wd74 : Cond.fieldLink "RationalForms$Diagonal" 29 "RationalForms$Diagonal" "negative" "I" ∈ GG := GG_t 74 rfl rfl
set_option maxRecDepth 20000 in
theorem wd76 : Cond.fieldLink "RationalForms$Diagonal" 32 "RationalForms$Diagonal" "discriminant" "J" ∈ GG := GG_t 76 rfl rfl
set_option maxRecDepth 20000 in
theorem wd78 : Cond.fieldLink "RationalForms$Diagonal" 36 "RationalForms$Diagonal" "primeCount" "I" ∈ GG := GG_t 78 rfl rfl
set_option maxRecDepth 20000 in
theorem wds2 : Cond.selects "RationalForms$Diagonal" yD_addPrime yD_addPrime ∈ GG := GG_s 2 rfl rfl
set_option maxRecDepth 100000 in
set_option maxHeartbeats 4000000 in
theorem kD_addPrime (l : Launch) (E : En) (hJ : wJ E) (M : Me) (f : Nat) (hf : f < 2) (p : Nat) (hp : p ≤ 2147483647) (c : Nat) (hc : M (17 + f) 7 = c) (hc2 : c < 32) (S : Nat → Prop) (hS0 : SL c (M (21 + f)) S) (hb0 : ∀ q, S q → q ≤ 2147483647) : MM l yD_addPrime wsD_addPrime (rmd 0) E M [.ref (E.2.1 (17 + f)), .int (ji ((p:Int)))] (fun r M9 => r = none ∧ (∃ c9 : Nat, c9 ≤ c + 1 ∧ M9 (17 + f) 7 = c9 ∧ SL c9 (M9 (21 + f)) (fun q => q = p ∨ S q)) ∧ FrD f M M9) := by
  refine MM.ofG (by decide +kernel) (Nat.le_of_ble_eq_true rfl) ?_
  intro p_ e_ s_ m_ a_ b_ t_ c_ hx hb hml hr hk hg hown hK hP hS ls hl
  have hl : lv_has ls 5 [(0, .ref (E.2.1 (17 + f))), (1, .int (ji ((p:Int))))] := hl
  have k64 : ∀ (a : Nat) (ls : Array Slot), a ≤ c → (∀ i, i < a → M (21 + f) i < p) → (∀ i, a ≤ i → i < c → (p : Int) < M (21 + f) i) → lv_has ls 5 [(2, .int (ji ((a:Int)))), (0, .ref (E.2.1 (17 + f))), (1, .int (ji ((p:Int))))] → W p_ l e_ (rmd 0) s_ m_ a_ b_ t_ c_ s_.heap [] 0 0 (XQ b_ (mmQ E (fun r M9 => r = none ∧ (∃ c9 : Nat, c9 ≤ c + 1 ∧ M9 (17 + f) 7 = c9 ∧ SL c9 (M9 (21 + f)) (fun q => q = p ∨ S q)) ∧ FrD f M M9)) a_ s_ 0 0 (wA E)) (F0 m_ 64 ls []) := by
    intro a ls ha hlo hhi hl
    have loop : ∀ (N k : Nat) (M1 : Me) (H : Heap) (locs : List Loc) (ls : Array Slot), k = a + N → k ≤ c → (∀ i, i < k → M1 (21 + f) i = M (21 + f) i) → (∀ i, k < i → i ≤ c → M1 (21 + f) i = M (21 + f) (i - 1)) → (∀ j, j ≠ 21 + f → M1 j = M j) → wP E M1 H → va_S (wA E) s_.heap H locs → lv_has ls 5 [(4, .int (ji ((k:Int)))), (2, .int (ji ((a:Int)))), (0, .ref (E.2.1 (17 + f))), (1, .int (ji ((p:Int))))] → W p_ l e_ (rmd 0) s_ m_ a_ b_ t_ c_ H locs 0 0 (XQ b_ (mmQ E (fun r M9 => r = none ∧ (∃ c9 : Nat, c9 ≤ c + 1 ∧ M9 (17 + f) 7 = c9 ∧ SL c9 (M9 (21 + f)) (fun q => q = p ∨ S q)) ∧ FrD f M M9)) a_ s_ 0 0 (wA E)) (F0 m_ 70 ls []) := by
      intro N
      induction N with
      | zero =>
        intro k M1 H locs ls hk0 hkc h1 h2 h3 hP hS hl
        refine lv_iload hx hb dD_addPrime_70 (lv_at hl 0 rfl) ?_
        refine lv_iload_n hx hb dD_addPrime_72 rfl (lv_at hl 1 rfl) ?_
        refine j_icmp_le hx hb (by omega) (by omega) dD_addPrime_73 rfl (fun h4 => ?_) (fun h4 => ?_)
        · refine lv_aload_n hx hb dD_addPrime_98 rfl (lv_at hl 2 rfl) ?_
          refine m_get (C := "RationalForms$Diagonal") (T := TxD) (N := 8) hx hb hg uwD hown hK hP (by omega) (sh_D E _ (by omega)) rfl 1 (by decide) wd67 rfl dD_addPrime_99 ?_
          refine lv_iload_n hx hb dD_addPrime_102 rfl (lv_at hl 1 rfl) ?_
          refine lv_iload_n hx hb dD_addPrime_103 rfl (lv_at hl 3 rfl) ?_
          refine m_iast (n := a) hx hb hK hJ hP hS (by omega) (fun r => sh_p E r (by omega)) rfl (by omega) (by decide) dD_addPrime_104 (fun H locs hP hS => ?_)
          refine lv_aload_n hx hb dD_addPrime_105 rfl (lv_at hl 2 rfl) ?_
          refine lv_dup hx hb dD_addPrime_106 rfl ?_
          refine m_get (C := "RationalForms$Diagonal") (T := TxD) (N := 8) hx hb hg uwD hown hK hP (by omega) (sh_D E _ (by omega)) rfl 7 (by decide) wd78 rfl dD_addPrime_107 ?_
          refine j_iconst hx hb dD_addPrime_110 ?_
          refine j_iadd hx hb dD_addPrime_111 ?_
          refine m_put (C := "RationalForms$Diagonal") (T := TxD) (N := 8) (ty := .int) (z := ((mu M1 (21 + f) a ((p:Int))) (17 + f) 7) + 1) hx hb hg uwD txD txD_ok nmD hown hK hJ hP hS (by omega) (sh_D E _ (by omega)) rfl 7 (by decide) wd78 rfl rfl rfl rfl (Nat.le_of_ble_eq_true rfl) (by rw [sh_D E _ (by omega)]; simp [mu]) dD_addPrime_112 (fun H locs hP hS => ?_)
          have hcM : M1 (17 + f) 7 = c := by rw [h3 (17 + f) (by omega)]; exact hc
          exact mm_vret hx hb hr hk hP hS dD_addPrime_115 ⟨rfl, ⟨c + 1, Nat.le_refl _, by rw [mu_s, mu_k (by omega), hcM]; rfl, SL.ins (at9 := a) hS0 ha hlo hhi (fun i hi => by rw [mu_k (by omega), mu_j (by omega)]; exact h1 i (by omega)) (by rw [mu_k (by omega)]; exact mu_s _ _ _ _) (fun i i1 i2 => by rw [mu_k (by omega), mu_j (by omega)]; exact h2 i (by omega) i2)⟩, fun k' q1 q2 => by rw [mu_k q1, mu_k q2]; exact h3 k' q2, fun j hj => by rw [mu_j hj, mu_k (by omega), h3 (17 + f) (by omega)]⟩
        · omega
      | succ N ih =>
        intro k M1 H locs ls hk0 hkc h1 h2 h3 hP hS hl
        refine lv_iload hx hb dD_addPrime_70 (lv_at hl 0 rfl) ?_
        refine lv_iload_n hx hb dD_addPrime_72 rfl (lv_at hl 1 rfl) ?_
        refine j_icmp_le hx hb (by omega) (by omega) dD_addPrime_73 rfl (fun h4 => ?_) (fun h4 => ?_)
        · omega
        · refine lv_aload_n hx hb dD_addPrime_76 rfl (lv_at hl 2 rfl) ?_
          refine m_get (C := "RationalForms$Diagonal") (T := TxD) (N := 8) hx hb hg uwD hown hK hP (by omega) (sh_D E _ (by omega)) rfl 1 (by decide) wd67 rfl dD_addPrime_77 ?_
          refine lv_iload hx hb dD_addPrime_80 (lv_at hl 0 rfl) ?_
          refine lv_aload_n hx hb dD_addPrime_82 rfl (lv_at hl 2 rfl) ?_
          refine m_get (C := "RationalForms$Diagonal") (T := TxD) (N := 8) hx hb hg uwD hown hK hP (by omega) (sh_D E _ (by omega)) rfl 1 (by decide) wd67 rfl dD_addPrime_83 ?_
          refine lv_iload hx hb dD_addPrime_86 (lv_at hl 0 rfl) ?_
          refine j_iconst hx hb dD_addPrime_88 ?_
          refine j_isub hx hb dD_addPrime_89 ?_
          refine m_iald (n := k - 1) hx hb hK hP (by omega) (sh_p E _ (by omega)) (by omega) (by omega) (by decide) dD_addPrime_90 ?_
          refine m_iast (n := k) hx hb hK hJ hP hS (by omega) (fun r => sh_p E r (by omega)) rfl (by omega) (by decide) dD_addPrime_91 (fun H locs hP hS => ?_)
          refine lv_iinc (k := 0) (v := ji (((k:Int)) + (-1))) hx hb dD_addPrime_92 hl rfl (Int32.ofInt_add _ _).symm (by decide) rfl (fun ls hl => ?_)
          have hl : lv_has ls 5 [(4, .int (ji (((k:Int)) + (-1)))), (2, .int (ji ((a:Int)))), (0, .ref (E.2.1 (17 + f))), (1, .int (ji ((p:Int))))] := hl
          refine lv_goto hx hb dD_addPrime_95 rfl ?_
          refine ih (k - 1) _ H locs ls (by omega) (by omega) (fun i hi => ?_) (fun i i1 i2 => ?_) (fun j hj => ?_) hP hS (by rw [show (((k - 1 : Nat)) : Int) = (k : Int) + (-1) by omega]; exact hl)
          · rw [mu_j (by omega)]; exact h1 i (by omega)
          · by_cases hik : i = k
            · subst hik
              rw [mu_s]; exact h1 (i - 1) (by omega)
            · rw [mu_j hik]; exact h2 i (by omega) i2
          · rw [mu_k hj]; exact h3 j hj
    refine lv_aload_n hx hb dD_addPrime_64 rfl (lv_at hl 1 rfl) ?_
    refine m_get (C := "RationalForms$Diagonal") (T := TxD) (N := 8) hx hb hg uwD hown hK hP (by omega) (sh_D E _ (by omega)) rfl 7 (by decide) wd78 rfl dD_addPrime_65 ?_
    refine lv_istore hx hb dD_addPrime_68 hl (by decide) rfl (fun ls hl => ?_)
    have hl : lv_has ls 5 [(4, .int (ji (M (17 + f) 7))), (2, .int (ji ((a:Int)))), (0, .ref (E.2.1 (17 + f))), (1, .int (ji ((p:Int))))] := hl
    rw [hc] at hl
    exact loop (c - a) c M s_.heap [] ls (by omega) (Nat.le_refl _) (fun _ _ => rfl) (fun i i1 i2 => by omega) (fun _ _ => rfl) hP hS hl
  have k26 : ∀ (a : Nat) (ls : Array Slot), a ≤ c → (∀ i, i < a → M (21 + f) i < p) → (a < c → (p : Int) ≤ M (21 + f) a) → lv_has ls 5 [(2, .int (ji ((a:Int)))), (0, .ref (E.2.1 (17 + f))), (1, .int (ji ((p:Int))))] → W p_ l e_ (rmd 0) s_ m_ a_ b_ t_ c_ s_.heap [] 0 0 (XQ b_ (mmQ E (fun r M9 => r = none ∧ (∃ c9 : Nat, c9 ≤ c + 1 ∧ M9 (17 + f) 7 = c9 ∧ SL c9 (M9 (21 + f)) (fun q => q = p ∨ S q)) ∧ FrD f M M9)) a_ s_ 0 0 (wA E)) (F0 m_ 26 ls []) := by
    intro a ls ha hlo hge hl
    have hup : a < c → M (21 + f) a ≠ p → ∀ i, a ≤ i → i < c → (p : Int) < M (21 + f) i := by
      intro h1 h2 i i1 i2
      have h3 := hge h1
      rcases Nat.lt_or_ge a i with h4 | h4
      · have := hS0.1 a i h4 i2
        omega
      · have : i = a := by omega
        subst this
        omega
    refine lv_iload_n hx hb dD_addPrime_26 rfl (lv_at hl 0 rfl) ?_
    refine lv_aload_n hx hb dD_addPrime_27 rfl (lv_at hl 1 rfl) ?_
    refine m_get (C := "RationalForms$Diagonal") (T := TxD) (N := 8) hx hb hg uwD hown hK hP (by omega) (sh_D E _ (by omega)) rfl 7 (by decide) wd78 rfl dD_addPrime_28 ?_
    refine j_icmp_ge hx hb (by omega) (by rw [hc]; omega) dD_addPrime_31 rfl (fun h1 => ?_) (fun h1 => ?_)
    · refine j_iconst hx hb dD_addPrime_48 ?_
      refine lv_istore_n hx hb dD_addPrime_49 rfl hl (by decide) rfl (fun ls hl => ?_)
      have hl : lv_has ls 5 [(3, .int (ji 0)), (2, .int (ji ((a:Int)))), (0, .ref (E.2.1 (17 + f))), (1, .int (ji ((p:Int))))] := hl
      refine lv_iload_n hx hb dD_addPrime_50 rfl (lv_at hl 0 rfl) ?_
      refine j_if_ne hx hb (by omega) dD_addPrime_51 rfl (fun h2 => ?_) (fun h2 => ?_)
      · exact absurd rfl h2
      · refine lv_aload_n hx hb dD_addPrime_54 rfl (lv_at hl 2 rfl) ?_
        refine m_get (C := "RationalForms$Diagonal") (T := TxD) (N := 8) hx hb hg uwD hown hK hP (by omega) (sh_D E _ (by omega)) rfl 7 (by decide) wd78 rfl dD_addPrime_55 ?_
        refine j_bipush hx hb dD_addPrime_58 rfl ?_
        refine j_icmp_lt hx hb (by rw [hc]; omega) (by decide) dD_addPrime_60 rfl (fun h3 => ?_) (fun h3 => ?_)
        · exact k64 a ls ha hlo (fun i i1 i2 => by omega) (lv_sub hl [1, 2, 3] rfl)
        · omega
    · refine lv_aload_n hx hb dD_addPrime_34 rfl (lv_at hl 1 rfl) ?_
      refine m_get (C := "RationalForms$Diagonal") (T := TxD) (N := 8) hx hb hg uwD hown hK hP (by omega) (sh_D E _ (by omega)) rfl 1 (by decide) wd67 rfl dD_addPrime_35 ?_
      refine lv_iload_n hx hb dD_addPrime_38 rfl (lv_at hl 0 rfl) ?_
      refine m_iald (n := a) hx hb hK hP (by omega) (sh_p E _ (by omega)) rfl (by omega) (by decide) dD_addPrime_39 ?_
      refine lv_iload_n hx hb dD_addPrime_40 rfl (lv_at hl 2 rfl) ?_
      refine j_icmp_ne hx hb (by have := hS0.bd hb0 (i := a) (by omega); omega) (by omega) dD_addPrime_41 rfl (fun h2 => ?_) (fun h2 => ?_)
      · refine j_iconst hx hb dD_addPrime_48 ?_
        refine lv_istore_n hx hb dD_addPrime_49 rfl hl (by decide) rfl (fun ls hl => ?_)
        have hl : lv_has ls 5 [(3, .int (ji 0)), (2, .int (ji ((a:Int)))), (0, .ref (E.2.1 (17 + f))), (1, .int (ji ((p:Int))))] := hl
        refine lv_iload_n hx hb dD_addPrime_50 rfl (lv_at hl 0 rfl) ?_
        refine j_if_ne hx hb (by omega) dD_addPrime_51 rfl (fun h3 => ?_) (fun h3 => ?_)
        · exact absurd rfl h3
        · refine lv_aload_n hx hb dD_addPrime_54 rfl (lv_at hl 2 rfl) ?_
          refine m_get (C := "RationalForms$Diagonal") (T := TxD) (N := 8) hx hb hg uwD hown hK hP (by omega) (sh_D E _ (by omega)) rfl 7 (by decide) wd78 rfl dD_addPrime_55 ?_
          refine j_bipush hx hb dD_addPrime_58 rfl ?_
          refine j_icmp_lt hx hb (by rw [hc]; omega) (by decide) dD_addPrime_60 rfl (fun h4 => ?_) (fun h4 => ?_)
          · exact k64 a ls ha hlo (hup (by omega) h2) (lv_sub hl [1, 2, 3] rfl)
          · omega
      · refine j_iconst hx hb dD_addPrime_44 ?_
        refine lv_goto hx hb dD_addPrime_45 rfl ?_
        refine lv_istore_n hx hb dD_addPrime_49 rfl hl (by decide) rfl (fun ls hl => ?_)
        have hl : lv_has ls 5 [(3, .int (ji 1)), (2, .int (ji ((a:Int)))), (0, .ref (E.2.1 (17 + f))), (1, .int (ji ((p:Int))))] := hl
        refine lv_iload_n hx hb dD_addPrime_50 rfl (lv_at hl 0 rfl) ?_
        refine j_if_ne hx hb (by omega) dD_addPrime_51 rfl (fun h3 => ?_) (fun h3 => ?_)
        · obtain ⟨q, q1, q2⟩ := hS0.2.1 a (by omega)
          have hqp : q = p := by omega
          exact mm_vret hx hb hr hk hP hS dD_addPrime_63 ⟨rfl, ⟨c, Nat.le_succ c, hc, hS0.old (by rw [← hqp]; exact q2)⟩, FrD.rf f M⟩
        · exact absurd h3 (by decide)
  have loop : ∀ (N a : Nat) (ls : Array Slot), a + N = c → (∀ i, i < a → M (21 + f) i < p) → lv_has ls 5 [(2, .int (ji ((a:Int)))), (0, .ref (E.2.1 (17 + f))), (1, .int (ji ((p:Int))))] → W p_ l e_ (rmd 0) s_ m_ a_ b_ t_ c_ s_.heap [] 0 0 (XQ b_ (mmQ E (fun r M9 => r = none ∧ (∃ c9 : Nat, c9 ≤ c + 1 ∧ M9 (17 + f) 7 = c9 ∧ SL c9 (M9 (21 + f)) (fun q => q = p ∨ S q)) ∧ FrD f M M9)) a_ s_ 0 0 (wA E)) (F0 m_ 2 ls []) := by
    intro N
    induction N with
    | zero =>
      intro a ls ha hlo hl
      refine lv_iload_n hx hb dD_addPrime_2 rfl (lv_at hl 0 rfl) ?_
      refine lv_aload_n hx hb dD_addPrime_3 rfl (lv_at hl 1 rfl) ?_
      refine m_get (C := "RationalForms$Diagonal") (T := TxD) (N := 8) hx hb hg uwD hown hK hP (by omega) (sh_D E _ (by omega)) rfl 7 (by decide) wd78 rfl dD_addPrime_4 ?_
      refine j_icmp_ge hx hb (by omega) (by rw [hc]; omega) dD_addPrime_7 rfl (fun h1 => ?_) (fun h1 => ?_)
      · exact k26 a ls (by omega) hlo (fun q => by omega) hl
      · omega
    | succ N ih =>
      intro a ls ha hlo hl
      refine lv_iload_n hx hb dD_addPrime_2 rfl (lv_at hl 0 rfl) ?_
      refine lv_aload_n hx hb dD_addPrime_3 rfl (lv_at hl 1 rfl) ?_
      refine m_get (C := "RationalForms$Diagonal") (T := TxD) (N := 8) hx hb hg uwD hown hK hP (by omega) (sh_D E _ (by omega)) rfl 7 (by decide) wd78 rfl dD_addPrime_4 ?_
      refine j_icmp_ge hx hb (by omega) (by rw [hc]; omega) dD_addPrime_7 rfl (fun h1 => ?_) (fun h1 => ?_)
      · omega
      · refine lv_aload_n hx hb dD_addPrime_10 rfl (lv_at hl 1 rfl) ?_
        refine m_get (C := "RationalForms$Diagonal") (T := TxD) (N := 8) hx hb hg uwD hown hK hP (by omega) (sh_D E _ (by omega)) rfl 1 (by decide) wd67 rfl dD_addPrime_11 ?_
        refine lv_iload_n hx hb dD_addPrime_14 rfl (lv_at hl 0 rfl) ?_
        refine m_iald (n := a) hx hb hK hP (by omega) (sh_p E _ (by omega)) rfl (by omega) (by decide) dD_addPrime_15 ?_
        refine lv_iload_n hx hb dD_addPrime_16 rfl (lv_at hl 2 rfl) ?_
        refine j_icmp_ge hx hb (by have := hS0.bd hb0 (i := a) (by omega); omega) (by omega) dD_addPrime_17 rfl (fun h2 => ?_) (fun h2 => ?_)
        · exact k26 a ls (by omega) hlo (fun q => h2) hl
        · refine lv_iinc (k := 0) (v := ji (((a:Int)) + 1)) hx hb dD_addPrime_20 hl rfl (Int32.ofInt_add _ _).symm (by decide) rfl (fun ls hl => ?_)
          have hl : lv_has ls 5 [(2, .int (ji (((a:Int)) + 1))), (0, .ref (E.2.1 (17 + f))), (1, .int (ji ((p:Int))))] := hl
          refine lv_goto hx hb dD_addPrime_23 rfl ?_
          refine ih (a + 1) ls (by omega) (fun i hi => ?_) hl
          rcases Nat.lt_or_ge i a with h3 | h3
          · exact hlo i h3
          · have : i = a := by omega
            subst this
            exact h2
  refine j_iconst hx hb dD_addPrime_0 ?_
  refine lv_istore_n hx hb dD_addPrime_1 rfl hl (by decide) rfl (fun ls hl => ?_)
  have hl : lv_has ls 5 [(2, .int (ji 0)), (0, .ref (E.2.1 (17 + f))), (1, .int (ji ((p:Int))))] := hl
  exact loop c 0 ls (by omega) (fun i hi => by omega) hl

set_option maxRecDepth 100000 in
set_option maxHeartbeats 4000000 in
theorem kD_restart (l : Launch) (E : En) (hJ : wJ E) (M : Me) (f : Nat) (hf : f < 2) (n : Int) : MM l yD_restart wsD_restart (rmd 1) E M [.ref (E.2.1 (17 + f)), .int (ji n)] (fun r M9 => r = none ∧ M9 (17 + f) 2 = n ∧ M9 (17 + f) 3 = 0 ∧ M9 (17 + f) 4 = 0 ∧ M9 (17 + f) 5 = 0 ∧ M9 (17 + f) 6 = 1 ∧ (∃ c9 : Nat, c9 ≤ 1 ∧ M9 (17 + f) 7 = c9 ∧ SL c9 (M9 (21 + f)) (fun q => q = 2)) ∧ ∀ k, k ≠ 17 + f → k ≠ 21 + f → M9 k = M k) := by
  refine MM.ofG (by decide +kernel) (Nat.le_of_ble_eq_true rfl) ?_
  intro p_ e_ s_ m_ a_ b_ t_ c_ hx hb hml hr hk hg hown hK hP hS ls hl
  have hl : lv_has ls 2 [(0, .ref (E.2.1 (17 + f))), (1, .int (ji n))] := hl
  refine lv_aload_n hx hb dD_restart_0 rfl (lv_at hl 0 rfl) ?_
  refine lv_iload_n hx hb dD_restart_1 rfl (lv_at hl 1 rfl) ?_
  refine m_put (C := "RationalForms$Diagonal") (T := TxD) (N := 8) (ty := .int) (z := n) hx hb hg uwD txD txD_ok nmD hown hK hJ hP hS (by omega) (sh_D E _ (by omega)) rfl 2 (by decide) wd68 rfl rfl rfl rfl (Nat.le_of_ble_eq_true rfl) (by rw [sh_D E _ (by omega)]; simp [mu]) dD_restart_2 (fun H locs hP hS => ?_)
  refine lv_aload_n hx hb dD_restart_5 rfl (lv_at hl 0 rfl) ?_
  refine j_iconst hx hb dD_restart_6 ?_
  refine m_put (C := "RationalForms$Diagonal") (T := TxD) (N := 8) (ty := .int) (z := 0) hx hb hg uwD txD txD_ok nmD hown hK hJ hP hS (by omega) (sh_D E _ (by omega)) rfl 3 (by decide) wd70 rfl rfl rfl rfl (Nat.le_of_ble_eq_true rfl) (by rw [sh_D E _ (by omega)]; simp [mu]) dD_restart_7 (fun H locs hP hS => ?_)
  refine lv_aload_n hx hb dD_restart_10 rfl (lv_at hl 0 rfl) ?_
  refine j_iconst hx hb dD_restart_11 ?_
  refine m_put (C := "RationalForms$Diagonal") (T := TxD) (N := 8) (ty := .int) (z := 0) hx hb hg uwD txD txD_ok nmD hown hK hJ hP hS (by omega) (sh_D E _ (by omega)) rfl 4 (by decide) wd72 rfl rfl rfl rfl (Nat.le_of_ble_eq_true rfl) (by rw [sh_D E _ (by omega)]; simp [mu]) dD_restart_12 (fun H locs hP hS => ?_)
  refine lv_aload_n hx hb dD_restart_15 rfl (lv_at hl 0 rfl) ?_
  refine j_iconst hx hb dD_restart_16 ?_
  refine m_put (C := "RationalForms$Diagonal") (T := TxD) (N := 8) (ty := .int) (z := 0) hx hb hg uwD txD txD_ok nmD hown hK hJ hP hS (by omega) (sh_D E _ (by omega)) rfl 5 (by decide) wd74 rfl rfl rfl rfl (Nat.le_of_ble_eq_true rfl) (by rw [sh_D E _ (by omega)]; simp [mu]) dD_restart_17 (fun H locs hP hS => ?_)
  refine lv_aload_n hx hb dD_restart_20 rfl (lv_at hl 0 rfl) ?_
  refine j_lconst1 hx hb dD_restart_21 ?_
  refine m_put (C := "RationalForms$Diagonal") (T := TxD) (N := 8) (ty := .long) (z := 1) hx hb hg uwD txD txD_ok nmD hown hK hJ hP hS (by omega) (sh_D E _ (by omega)) rfl 6 (by decide) wd76 rfl rfl rfl rfl (Nat.le_of_ble_eq_true rfl) (by rw [sh_D E _ (by omega)]; simp [mu]) dD_restart_22 (fun H locs hP hS => ?_)
  refine lv_aload_n hx hb dD_restart_25 rfl (lv_at hl 0 rfl) ?_
  refine j_iconst hx hb dD_restart_26 ?_
  refine m_put (C := "RationalForms$Diagonal") (T := TxD) (N := 8) (ty := .int) (z := 0) hx hb hg uwD txD txD_ok nmD hown hK hJ hP hS (by omega) (sh_D E _ (by omega)) rfl 7 (by decide) wd78 rfl rfl rfl rfl (Nat.le_of_ble_eq_true rfl) (by rw [sh_D E _ (by omega)]; simp [mu]) dD_restart_27 (fun H locs hP hS => ?_)
  obtain ⟨M1, e1⟩ : ∃ X, X = mu (mu (mu (mu (mu (mu M (17 + f) 2 n) (17 + f) 3 0) (17 + f) 4 0) (17 + f) 5 0) (17 + f) 6 1) (17 + f) 7 0 := ⟨_, rfl⟩
  rw [← e1] at hP
  have hs : ∀ k, k ≠ 17 + f → M1 k = M k := fun k hk => by rw [e1]; repeat rw [mu_k hk]
  have hv : M1 (17 + f) 2 = n ∧ M1 (17 + f) 3 = 0 ∧ M1 (17 + f) 4 = 0 ∧ M1 (17 + f) 5 = 0 ∧ M1 (17 + f) 6 = 1 ∧ M1 (17 + f) 7 = 0 := by rw [e1]; simp [mu]
  refine lv_aload_n hx hb dD_restart_30 rfl (lv_at hl 0 rfl) ?_
  refine j_iconst hx hb dD_restart_31 ?_
  refine mm_V (As := [.int (ji 2)]) (rest := []) hx hb hml hown hg hl hK hP hS (by omega) (sh_D E _ (by omega)) rfl (kD_addPrime l E hJ M1 f hf 2 (by decide) 0 hv.2.2.2.2.2 (by decide) (fun _ => False) ⟨fun i j h1 h2 => by omega, fun i h => by omega, fun q h => h.elim⟩ (fun q h => h.elim)) wd129 wd131 wds2 wd4 wd132 ⟨rfl, rfl⟩ (n := 1) (by decide +kernel) rfl ⟨by decide, by decide⟩ rfl (Nat.le_of_ble_eq_true rfl) dD_restart_32 ⟨Nat.zero_le _, Nat.zero_le _⟩ (fun v M2 H locs hq hP hS => ?_)
  obtain ⟨rfl, ⟨c9, q1, q2, q3⟩, q4, q5⟩ := hq
  exact mm_vret hx hb hr hk hP hS dD_restart_35 ⟨rfl, by rw [q5 2 (by decide)]; exact hv.1, by rw [q5 3 (by decide)]; exact hv.2.1, by rw [q5 4 (by decide)]; exact hv.2.2.1, by rw [q5 5 (by decide)]; exact hv.2.2.2.1, by rw [q5 6 (by decide)]; exact hv.2.2.2.2.1, ⟨c9, by omega, q2, q3.to (fun q => by simp)⟩, fun k h1 h2 => (q4 k h1 h2).trans (hs k h1)⟩

set_option maxRecDepth 100000 in
set_option maxHeartbeats 4000000 in
theorem kD_addTerm (l : Launch) (E : En) (hJ : wJ E) (M : Me) (f : Nat) (hf : f < 2) (t : Int) (r : Nat) (hr0 : M (17 + f) 3 = r) (hr5 : r < 5) (ht : -9223372036854775807 ≤ t ∧ t ≤ 9223372036854775807) (hd0 : M (17 + f) 6 ≠ 0) (hd1 : -9223372036854775807 ≤ M (17 + f) 6 ∧ M (17 + f) 6 ≤ 9223372036854775807) : MM l yD_addTerm wsD_addTerm (rmd 3) E M [.ref (E.2.1 (17 + f)), .long (jl t)] (fun v M9 => v = none ∧ M9 (17 + f) 3 = r + 1 ∧ M9 (19 + f) r = t ∧ (∀ i, i ≠ r → M9 (19 + f) i = M (19 + f) i) ∧ M9 (17 + f) 4 = M (17 + f) 4 + (if 0 < t then 1 else 0) ∧ M9 (17 + f) 5 = M (17 + f) 5 + (if 0 < t then 0 else 1) ∧ M9 (17 + f) 6 = pr (M (17 + f) 6) t ∧ M9 (17 + f) 2 = M (17 + f) 2 ∧ M9 (17 + f) 7 = M (17 + f) 7 ∧ ∀ k, k ≠ 17 + f → k ≠ 19 + f → M9 k = M k) := by
  refine MM.ofG (by decide +kernel) (Nat.le_of_ble_eq_true rfl) ?_
  intro p_ e_ s_ m_ a_ b_ t_ c_ hx hb hml hr hk hg hown hK hP hS ls hl
  have hl : lv_has ls 3 [(0, .ref (E.2.1 (17 + f))), (1, .long (jl t))] := hl
  refine lv_aload_n hx hb dD_addTerm_0 rfl (lv_at hl 0 rfl) ?_
  refine m_get (C := "RationalForms$Diagonal") (T := TxD) (N := 8) hx hb hg uwD hown hK hP (by omega) (sh_D E _ (by omega)) rfl 3 (by decide) wd70 rfl dD_addTerm_1 ?_
  refine j_iconst hx hb dD_addTerm_4 ?_
  refine j_icmp_lt hx hb (by rw [hr0]; omega) (by decide) dD_addTerm_5 rfl (fun h1 => ?_) (fun h1 => ?_)
  · refine lv_aload_n hx hb dD_addTerm_9 rfl (lv_at hl 0 rfl) ?_
    refine m_get (C := "RationalForms$Diagonal") (T := TxD) (N := 8) hx hb hg uwD hown hK hP (by omega) (sh_D E _ (by omega)) rfl 0 (by decide) wd66 rfl dD_addTerm_10 ?_
    refine lv_aload_n hx hb dD_addTerm_13 rfl (lv_at hl 0 rfl) ?_
    refine m_get (C := "RationalForms$Diagonal") (T := TxD) (N := 8) hx hb hg uwD hown hK hP (by omega) (sh_D E _ (by omega)) rfl 3 (by decide) wd70 rfl dD_addTerm_14 ?_
    refine lv_lload_n hx hb dD_addTerm_17 rfl (lv_at hl 1 rfl) ?_
    refine m_last (n := r) hx hb hK hJ hP hS (by omega) (fun r => sh_t E r (by omega)) (by omega) (by omega) (by decide) dD_addTerm_18 (fun H locs hP hS => ?_)
    refine lv_aload_n hx hb dD_addTerm_19 rfl (lv_at hl 0 rfl) ?_
    refine lv_dup hx hb dD_addTerm_20 rfl ?_
    refine m_get (C := "RationalForms$Diagonal") (T := TxD) (N := 8) hx hb hg uwD hown hK hP (by omega) (sh_D E _ (by omega)) rfl 3 (by decide) wd70 rfl dD_addTerm_21 ?_
    refine j_iconst hx hb dD_addTerm_24 ?_
    refine j_iadd hx hb dD_addTerm_25 ?_
    refine m_put (C := "RationalForms$Diagonal") (T := TxD) (N := 8) (ty := .int) (z := ((mu M (19 + f) r t) (17 + f) 3) + 1) hx hb hg uwD txD txD_ok nmD hown hK hJ hP hS (by omega) (sh_D E _ (by omega)) rfl 3 (by decide) wd70 rfl rfl rfl rfl (Nat.le_of_ble_eq_true rfl) (by rw [sh_D E _ (by omega)]; simp [mu]) dD_addTerm_26 (fun H locs hP hS => ?_)
    obtain ⟨M1, e1⟩ : ∃ X, X = mu (mu M (19 + f) r t) (17 + f) 3 (((mu M (19 + f) r t) (17 + f) 3) + 1) := ⟨_, rfl⟩
    rw [← e1] at hP
    have v3 : M1 (17 + f) 3 = r + 1 := by rw [e1]; simp [mu, hr0]
    have vt : M1 (19 + f) r = t := by rw [e1]; simp [mu]
    have vo : ∀ i, i ≠ r → M1 (19 + f) i = M (19 + f) i := fun i hi => by rw [e1]; simp [mu, hi]
    have vj : ∀ j, j ≠ 3 → M1 (17 + f) j = M (17 + f) j := fun j hj => by rw [e1]; simp [mu, hj]
    have vk : ∀ k, k ≠ 17 + f → k ≠ 19 + f → M1 k = M k := fun k q1 q2 => by rw [e1, mu_k q1, mu_k q2]
    refine lv_lload_n hx hb dD_addTerm_29 rfl (lv_at hl 1 rfl) ?_
    refine j_lconst0 hx hb dD_addTerm_30 ?_
    refine j_lc_le hx hb (by omega) (by omega) dD_addTerm_31 dD_addTerm_32 rfl (fun h2 => ?_) (fun h2 => ?_)
    · refine lv_aload_n hx hb dD_addTerm_48 rfl (lv_at hl 0 rfl) ?_
      refine lv_dup hx hb dD_addTerm_49 rfl ?_
      refine m_get (C := "RationalForms$Diagonal") (T := TxD) (N := 8) hx hb hg uwD hown hK hP (by omega) (sh_D E _ (by omega)) rfl 5 (by decide) wd74 rfl dD_addTerm_50 ?_
      refine j_iconst hx hb dD_addTerm_53 ?_
      refine j_iadd hx hb dD_addTerm_54 ?_
      refine m_put (C := "RationalForms$Diagonal") (T := TxD) (N := 8) (ty := .int) (z := (M1 (17 + f) 5) + 1) hx hb hg uwD txD txD_ok nmD hown hK hJ hP hS (by omega) (sh_D E _ (by omega)) rfl 5 (by decide) wd74 rfl rfl rfl rfl (Nat.le_of_ble_eq_true rfl) (by rw [sh_D E _ (by omega)]; simp [mu]) dD_addTerm_55 (fun H locs hP hS => ?_)
      refine lv_aload_n hx hb dD_addTerm_58 rfl (lv_at hl 0 rfl) ?_
      refine lv_aload_n hx hb dD_addTerm_59 rfl (lv_at hl 0 rfl) ?_
      refine m_get (C := "RationalForms$Diagonal") (T := TxD) (N := 8) hx hb hg uwD hown hK hP (by omega) (sh_D E _ (by omega)) rfl 6 (by decide) wd76 rfl dD_addTerm_60 ?_
      refine lv_lload_n hx hb dD_addTerm_63 rfl (lv_at hl 1 rfl) ?_
      have e6 : mu M1 (17 + f) 5 (M1 (17 + f) 5 + 1) (17 + f) 6 = M (17 + f) 6 := by rw [mu_j (by decide)]; exact vj 6 (by decide)
      refine pm_G (As := [.long (jl ((mu M1 (17 + f) 5 ((M1 (17 + f) 5) + 1)) (17 + f) 6)), .long (jl t)]) (rest := [.ref (E.2.1 (17 + f))]) hx hb hml hown hg hl (kW_classOfProduct l _ t (by rw [e6]; exact hd1) ht (by rw [e6]; exact hd0)) wd168 wd156 wd11 wd157 ⟨rfl, rfl⟩ (n := 2) (by decide +kernel) rfl ⟨by decide, by decide⟩ rfl (Nat.le_of_ble_eq_true rfl) dD_addTerm_64 ⟨Nat.zero_le _, Nat.zero_le _⟩ (fun r hr9 => ?_)
      subst hr9
      rw [e6]
      refine m_put (C := "RationalForms$Diagonal") (T := TxD) (N := 8) (ty := .long) (z := pr (M (17 + f) 6) t) hx hb hg uwD txD txD_ok nmD hown hK hJ hP hS (by omega) (sh_D E _ (by omega)) rfl 6 (by decide) wd76 rfl rfl rfl rfl (Nat.le_of_ble_eq_true rfl) (by rw [sh_D E _ (by omega)]; simp [mu]) dD_addTerm_67 (fun H locs hP hS => ?_)
      exact mm_vret hx hb hr hk hP hS dD_addTerm_70 ⟨rfl, by rw [mu_j (by decide), mu_j (by decide)]; exact v3, by rw [mu_k (by omega), mu_k (by omega)]; exact vt, fun i hi => by rw [mu_k (by omega), mu_k (by omega)]; exact vo i hi, by rw [mu_j (by decide), mu_j (by decide), vj 4 (by decide), if_neg (by omega)]; omega, by rw [mu_j (by decide), mu_s, vj 5 (by decide), if_neg (by omega)], mu_s _ _ _ _, by rw [mu_j (by decide), mu_j (by decide)]; exact vj 2 (by decide), by rw [mu_j (by decide), mu_j (by decide)]; exact vj 7 (by decide), fun k q1 q2 => by rw [mu_k q1, mu_k q1]; exact vk k q1 q2⟩
    · refine lv_aload_n hx hb dD_addTerm_35 rfl (lv_at hl 0 rfl) ?_
      refine lv_dup hx hb dD_addTerm_36 rfl ?_
      refine m_get (C := "RationalForms$Diagonal") (T := TxD) (N := 8) hx hb hg uwD hown hK hP (by omega) (sh_D E _ (by omega)) rfl 4 (by decide) wd72 rfl dD_addTerm_37 ?_
      refine j_iconst hx hb dD_addTerm_40 ?_
      refine j_iadd hx hb dD_addTerm_41 ?_
      refine m_put (C := "RationalForms$Diagonal") (T := TxD) (N := 8) (ty := .int) (z := (M1 (17 + f) 4) + 1) hx hb hg uwD txD txD_ok nmD hown hK hJ hP hS (by omega) (sh_D E _ (by omega)) rfl 4 (by decide) wd72 rfl rfl rfl rfl (Nat.le_of_ble_eq_true rfl) (by rw [sh_D E _ (by omega)]; simp [mu]) dD_addTerm_42 (fun H locs hP hS => ?_)
      refine lv_goto hx hb dD_addTerm_45 rfl ?_
      refine lv_aload_n hx hb dD_addTerm_58 rfl (lv_at hl 0 rfl) ?_
      refine lv_aload_n hx hb dD_addTerm_59 rfl (lv_at hl 0 rfl) ?_
      refine m_get (C := "RationalForms$Diagonal") (T := TxD) (N := 8) hx hb hg uwD hown hK hP (by omega) (sh_D E _ (by omega)) rfl 6 (by decide) wd76 rfl dD_addTerm_60 ?_
      refine lv_lload_n hx hb dD_addTerm_63 rfl (lv_at hl 1 rfl) ?_
      have e6 : mu M1 (17 + f) 4 (M1 (17 + f) 4 + 1) (17 + f) 6 = M (17 + f) 6 := by rw [mu_j (by decide)]; exact vj 6 (by decide)
      refine pm_G (As := [.long (jl ((mu M1 (17 + f) 4 ((M1 (17 + f) 4) + 1)) (17 + f) 6)), .long (jl t)]) (rest := [.ref (E.2.1 (17 + f))]) hx hb hml hown hg hl (kW_classOfProduct l _ t (by rw [e6]; exact hd1) ht (by rw [e6]; exact hd0)) wd168 wd156 wd11 wd157 ⟨rfl, rfl⟩ (n := 2) (by decide +kernel) rfl ⟨by decide, by decide⟩ rfl (Nat.le_of_ble_eq_true rfl) dD_addTerm_64 ⟨Nat.zero_le _, Nat.zero_le _⟩ (fun r hr9 => ?_)
      subst hr9
      rw [e6]
      refine m_put (C := "RationalForms$Diagonal") (T := TxD) (N := 8) (ty := .long) (z := pr (M (17 + f) 6) t) hx hb hg uwD txD txD_ok nmD hown hK hJ hP hS (by omega) (sh_D E _ (by omega)) rfl 6 (by decide) wd76 rfl rfl rfl rfl (Nat.le_of_ble_eq_true rfl) (by rw [sh_D E _ (by omega)]; simp [mu]) dD_addTerm_67 (fun H locs hP hS => ?_)
      exact mm_vret hx hb hr hk hP hS dD_addTerm_70 ⟨rfl, by rw [mu_j (by decide), mu_j (by decide)]; exact v3, by rw [mu_k (by omega), mu_k (by omega)]; exact vt, fun i hi => by rw [mu_k (by omega), mu_k (by omega)]; exact vo i hi, by rw [mu_j (by decide), mu_s, vj 4 (by decide), if_pos h2], by rw [mu_j (by decide), mu_j (by decide), vj 5 (by decide), if_pos h2]; omega, mu_s _ _ _ _, by rw [mu_j (by decide), mu_j (by decide)]; exact vj 2 (by decide), by rw [mu_j (by decide), mu_j (by decide)]; exact vj 7 (by decide), fun k q1 q2 => by rw [mu_k q1, mu_k q1]; exact vk k q1 q2⟩
  · omega

set_option maxRecDepth 100000 in
set_option maxHeartbeats 4000000 in
theorem kD_addPrimesOf (l : Launch) (E : En) (hJ : wJ E) (M : Me) (f : Nat) (hf : f < 2) (a : Int) (h0 : a ≠ 0) (ha : a.natAbs ≤ 2147483647) (c j : Nat) (hc : M (17 + f) 7 = c) (hcj : c + j ≤ 32) (S0 : Nat → Prop) (hS0 : SL c (M (21 + f)) S0) (hb0 : ∀ q, S0 q → q ≤ 2147483647) (hj : a.natAbs < fac (j + 2)) : MM l yD_addPrimesOf wsD_addPrimesOf (rmd 1) E M [.ref (E.2.1 (17 + f)), .long (jl a)] (fun v M9 => v = none ∧ (∃ c9 : Nat, c9 ≤ c + j ∧ M9 (17 + f) 7 = c9 ∧ SL c9 (M9 (21 + f)) (fun q => S0 q ∨ (prm q ∧ q ∣ a.natAbs))) ∧ FrD f M M9) := by
  refine MM.ofG (by decide +kernel) (Nat.le_of_ble_eq_true rfl) ?_
  intro p_ e_ s_ m_ a_ b_ t_ c_ hx hb hml hr hk hg hown hK hP hS ls hl
  have hl : lv_has ls 7 [(0, .ref (E.2.1 (17 + f))), (1, .long (jl a))] := hl
  have loop : ∀ (N : Nat) (d r t c1 : Nat) (S : Nat → Prop) (M1 : Me) (H : Heap) (locs : List Loc) (ls : Array Slot), 46342 - d < N → d ≤ 46341 → 2 ≤ d → r ≤ 2147483647 → pf a.natAbs S S0 r d → t + 2 ≤ d → fac (t + 1) * r ≤ a.natAbs → c1 ≤ c + t → t ≤ j → M1 (17 + f) 7 = c1 → SL c1 (M1 (21 + f)) S → FrD f M M1 → wP E M1 H → va_S (wA E) s_.heap H locs → lv_has ls 7 [(5, .long (jl ((d:Int)))), (3, .long (jl ((r:Int)))), (0, .ref (E.2.1 (17 + f))), (1, .long (jl a))] → W p_ l e_ (rmd 1) s_ m_ a_ b_ t_ c_ H locs 0 0 (XQ b_ (mmQ E (fun v M9 => v = none ∧ (∃ c9 : Nat, c9 ≤ c + j ∧ M9 (17 + f) 7 = c9 ∧ SL c9 (M9 (21 + f)) (fun q => S0 q ∨ (prm q ∧ q ∣ a.natAbs))) ∧ FrD f M M9)) a_ s_ 0 0 (wA E)) (F0 m_ 10 ls []) := by
    intro N
    induction N with
    | zero => intro d r t c1 S M1 H locs ls hm; omega
    | succ N ih =>
      intro d r t c1 S M1 H locs ls hm hd hd2 hr0 hpf ht hfac hc1 htj hM hSL hFr hP hS hl
      have hdd : ((d * d : Nat) : Int) = (d : Int) * (d : Int) := Int.natCast_mul d d
      have hbS : ∀ q, S q → q ≤ 2147483647 := fun q hq => by
        rcases (hpf.2.2.2 q).mp hq with g | ⟨-, g, -⟩
        · exact hb0 q g
        · have := Nat.le_of_dvd (by omega) g
          omega
      have hnext : (∃ t2, t2 + 1 ≤ r ∧ t2 = t + 1) → c1 < 32 := fun ⟨t2, g1, g2⟩ => by
        have h1 : fac (t + 2) ≤ a.natAbs := by
          calc fac (t + 2) = fac (t + 1) * (t + 2) := by show (t + 1 + 1) * fac (t + 1) = _; rw [Nat.mul_comm]
            _ ≤ fac (t + 1) * r := Nat.mul_le_mul_left _ (by omega)
            _ ≤ a.natAbs := hfac
        have h2 := fac_lt (Nat.lt_of_le_of_lt h1 hj)
        omega
      have htj2 : t + 2 ≤ r → t + 1 ≤ j := fun g => by
        have h1 : fac (t + 2) ≤ a.natAbs := by
          calc fac (t + 2) = fac (t + 1) * (t + 2) := by show (t + 1 + 1) * fac (t + 1) = _; rw [Nat.mul_comm]
            _ ≤ fac (t + 1) * r := Nat.mul_le_mul_left _ (by omega)
            _ ≤ a.natAbs := hfac
        have h2 := fac_lt (Nat.lt_of_le_of_lt h1 hj)
        omega
      refine lv_lload hx hb dD_addPrimesOf_10 (lv_at hl 0 rfl) ?_
      refine lv_lload hx hb dD_addPrimesOf_12 (lv_at hl 0 rfl) ?_
      refine j_lmul hx hb dD_addPrimesOf_14 ?_
      refine lv_lload_n hx hb dD_addPrimesOf_15 rfl (lv_at hl 1 rfl) ?_
      refine j_lc_gt hx hb (sq_b64 (by omega) (by omega)) (by omega) dD_addPrimesOf_16 dD_addPrimesOf_17 rfl (fun h1 => ?_) (fun h1 => ?_)
      · have hend := pf_end hpf (by omega)
        refine lv_lload_n hx hb dD_addPrimesOf_52 rfl (lv_at hl 1 rfl) ?_
        refine j_lconst1 hx hb dD_addPrimesOf_53 ?_
        refine j_lc_le hx hb (by omega) (by omega) dD_addPrimesOf_54 dD_addPrimesOf_55 rfl (fun h2 => ?_) (fun h2 => ?_)
        · have hr1 : r = 1 := by have := hpf.1; omega
          exact mm_vret hx hb hr hk hP hS dD_addPrimesOf_64 ⟨rfl, ⟨c1, by omega, hM, hSL.to (hend.1 hr1)⟩, hFr⟩
        · obtain ⟨g1, g2⟩ := hend.2 (by omega)
          have hrd : d ≤ r := by
            rcases Nat.lt_or_ge r d with g3 | g3
            · exact absurd (Nat.dvd_refl r) (hpf.2.2.1 r (by omega) g3)
            · exact g3
          refine lv_aload_n hx hb dD_addPrimesOf_58 rfl (lv_at hl 2 rfl) ?_
          refine lv_lload_n hx hb dD_addPrimesOf_59 rfl (lv_at hl 1 rfl) ?_
          refine j_l2i hx hb dD_addPrimesOf_60 ?_
          refine mm_V (As := [.int (ji ((r:Int)))]) (rest := []) hx hb hml hown hg hl hK hP hS (by omega) (sh_D E _ (by omega)) rfl (kD_addPrime l E hJ M1 f hf r (by omega) c1 hM (hnext ⟨t + 1, by omega, rfl⟩) S hSL hbS) wd129 wd131 wds2 wd4 wd132 ⟨rfl, rfl⟩ (n := 1) (by decide +kernel) rfl ⟨by decide, by decide⟩ rfl (Nat.le_of_ble_eq_true rfl) dD_addPrimesOf_61 ⟨Nat.zero_le _, Nat.zero_le _⟩ (fun v M2 H locs hq hP hS => ?_)
          obtain ⟨rfl, ⟨c9, q1, q2, q3⟩, q4⟩ := hq
          have := htj2 (by omega)
          exact mm_vret hx hb hr hk hP hS dD_addPrimesOf_64 ⟨rfl, ⟨c9, by omega, q2, q3.to g2⟩, hFr.tr q4⟩
      · have hsq := Nat.mul_le_mul hd2 (Nat.le_refl d)
        have hdm : d + 1 ≤ 46341 := by
          rcases Nat.lt_or_ge d 46341 with g | g
          · omega
          · have : 46341 * 46341 ≤ d * d := Nat.mul_le_mul g g
            omega
        refine lv_lload_n hx hb dD_addPrimesOf_20 rfl (lv_at hl 1 rfl) ?_
        refine lv_lload hx hb dD_addPrimesOf_21 (lv_at hl 0 rfl) ?_
        refine j_lrem hx hb (by omega) (by omega) (by omega) dD_addPrimesOf_23 ?_
        refine j_lconst0 hx hb dD_addPrimesOf_24 ?_
        refine j_lc_ne hx hb (tm_b64 (by omega)) (by decide) dD_addPrimesOf_25 dD_addPrimesOf_26 rfl (fun h2 => ?_) (fun h2 => ?_)
        · have hn : ¬ d ∣ r := fun q => h2 (by rw [tm_nat]; exact_mod_cast Nat.mod_eq_zero_of_dvd q)
          refine lv_lload hx hb dD_addPrimesOf_43 (lv_at hl 0 rfl) ?_
          refine j_lconst1 hx hb dD_addPrimesOf_45 ?_
          refine j_ladd hx hb dD_addPrimesOf_46 ?_
          refine lv_lstore hx hb dD_addPrimesOf_47 hl (by decide) rfl (fun ls hl => ?_)
          have hl : lv_has ls 7 [(5, .long (jl (((d:Int)) + 1))), (3, .long (jl ((r:Int)))), (0, .ref (E.2.1 (17 + f))), (1, .long (jl a))] := hl
          refine lv_goto hx hb dD_addPrimesOf_49 rfl ?_
          exact ih (d + 1) r t c1 S M1 H locs ls (by omega) hdm (by omega) hr0 (pf_skip hpf hn) (by omega) hfac hc1 htj hM hSL hFr hP hS hl
        · have hn : d ∣ r := Nat.dvd_of_mod_eq_zero (by rw [tm_nat] at h2; omega)
          have := htj2 (by omega)
          refine lv_aload_n hx hb dD_addPrimesOf_29 rfl (lv_at hl 2 rfl) ?_
          refine lv_lload hx hb dD_addPrimesOf_30 (lv_at hl 0 rfl) ?_
          refine j_l2i hx hb dD_addPrimesOf_32 ?_
          refine mm_V (As := [.int (ji ((d:Int)))]) (rest := []) hx hb hml hown hg hl hK hP hS (by omega) (sh_D E _ (by omega)) rfl (kD_addPrime l E hJ M1 f hf d (by omega) c1 hM (hnext ⟨t + 1, by omega, rfl⟩) S hSL hbS) wd129 wd131 wds2 wd4 wd132 ⟨rfl, rfl⟩ (n := 1) (by decide +kernel) rfl ⟨by decide, by decide⟩ rfl (Nat.le_of_ble_eq_true rfl) dD_addPrimesOf_33 ⟨Nat.zero_le _, Nat.zero_le _⟩ (fun v M2 H locs hq hP hS => ?_)
          obtain ⟨rfl, ⟨c9, q1, q2, q3⟩, q4⟩ := hq
          obtain ⟨r9, k9, w1, w2, w3, w4, w5⟩ := wo_nat (by omega) hpf.1 (by omega) hn
          refine lv_lload_n hx hb dD_addPrimesOf_36 rfl (lv_at hl 1 rfl) ?_
          refine lv_lload hx hb dD_addPrimesOf_37 (lv_at hl 0 rfl) ?_
          refine pm_G (As := [.long (jl ((r:Int))), .long (jl ((d:Int)))]) (rest := []) hx hb hml hown hg hl (kW_withoutFactor l r d (by omega) (by omega) (by omega)) wd175 wd153 wd11 wd154 ⟨rfl, rfl⟩ (n := 2) (by decide +kernel) rfl ⟨by decide, by decide⟩ rfl (Nat.le_of_ble_eq_true rfl) dD_addPrimesOf_39 ⟨Nat.zero_le _, Nat.zero_le _⟩ (fun r hr9 => ?_)
          subst hr9
          refine lv_lstore_n hx hb dD_addPrimesOf_42 rfl hl (by decide) rfl (fun ls hl => ?_)
          have hl : lv_has ls 7 [(3, .long (jl (wo 64 r d))), (5, .long (jl ((d:Int)))), (0, .ref (E.2.1 (17 + f))), (1, .long (jl a))] := hl
          refine lv_lload hx hb dD_addPrimesOf_43 (lv_at hl 1 rfl) ?_
          refine j_lconst1 hx hb dD_addPrimesOf_45 ?_
          refine j_ladd hx hb dD_addPrimesOf_46 ?_
          refine lv_lstore hx hb dD_addPrimesOf_47 hl (by decide) rfl (fun ls hl => ?_)
          have hl : lv_has ls 7 [(5, .long (jl (((d:Int)) + 1))), (3, .long (jl (wo 64 r d))), (0, .ref (E.2.1 (17 + f))), (1, .long (jl a))] := hl
          refine lv_goto hx hb dD_addPrimesOf_49 rfl ?_
          rw [w1] at hl
          exact ih (d + 1) r9 (t + 1) c9 (fun q => q = d ∨ S q) M2 H locs ls (by omega) hdm (by omega) (by omega) (pf_take hpf hd2 hn w2 w3) (by omega) (fac_take hfac w2 (by omega) w4 hpf.1) (by omega) (by omega) q2 q3 (hFr.tr q4) hP hS (lv_sub hl [0, 1, 2, 3] rfl)
  refine lv_lload_n hx hb dD_addPrimesOf_0 rfl (lv_at hl 1 rfl) ?_
  refine j_labs hx hb (hml.trans hl.1.symm) hown hg wd173 wd_abs (by omega) (by decide) (Nat.le_of_ble_eq_true rfl) (Nat.zero_le _) (Nat.zero_le _) dD_addPrimesOf_1 ?_
  refine lv_lstore_n hx hb dD_addPrimesOf_4 rfl hl (by decide) rfl (fun ls hl => ?_)
  have hl : lv_has ls 7 [(3, .long (jl ((a.natAbs : Int)))), (0, .ref (E.2.1 (17 + f))), (1, .long (jl a))] := hl
  refine j_ldc2 (z := 2) hx hb hown hg wd174 rfl dD_addPrimesOf_5 ?_
  refine lv_lstore hx hb dD_addPrimesOf_8 hl (by decide) rfl (fun ls hl => ?_)
  have hl : lv_has ls 7 [(5, .long (jl 2)), (3, .long (jl ((a.natAbs : Int)))), (0, .ref (E.2.1 (17 + f))), (1, .long (jl a))] := hl
  exact loop 46342 2 a.natAbs 0 c S0 M s_.heap [] ls (by omega) (by omega) (by omega) (by omega) (pf_0 (by omega) S0) (by omega) (by show 1 * 1 * a.natAbs ≤ a.natAbs; omega) (by omega) (by omega) hc hS0 (FrD.rf f M) hP hS hl

set_option maxRecDepth 100000 in
set_option maxHeartbeats 4000000 in
theorem kD_extendBy (l : Launch) (E : En) (hJ : wJ E) (M : Me) (f : Nat) (hf : f < 2) (v9 : Int) (h0 : v9 ≠ 0) (hv : -1000 ≤ v9 ∧ v9 ≤ 1000) (r : Nat) (hr0 : M (17 + f) 3 = r) (hr5 : r < 5) (hd0 : M (17 + f) 6 ≠ 0) (hd1 : -9223372036854775807 ≤ M (17 + f) 6 ∧ M (17 + f) 6 ≤ 9223372036854775807) (hsf : -9223372036854775807 ≤ sf v9 ∧ sf v9 ≤ 9223372036854775807) (c : Nat) (hc : M (17 + f) 7 = c) (hcj : c + 5 ≤ 32) (S0 : Nat → Prop) (hS0 : SL c (M (21 + f)) S0) (hb0 : ∀ q, S0 q → q ≤ 2147483647) : MM l yD_extendBy wsD_extendBy (rmd 4) E M [.ref (E.2.1 (17 + f)), .int (ji v9)] (fun v M9 => v = none ∧ M9 (17 + f) 3 = r + 1 ∧ M9 (17 + f) 2 = r + 1 ∧ M9 (19 + f) r = sf v9 ∧ (∀ i, i ≠ r → M9 (19 + f) i = M (19 + f) i) ∧ M9 (17 + f) 4 = M (17 + f) 4 + (if 0 < sf v9 then 1 else 0) ∧ M9 (17 + f) 5 = M (17 + f) 5 + (if 0 < sf v9 then 0 else 1) ∧ M9 (17 + f) 6 = pr (M (17 + f) 6) (sf v9) ∧ (∃ c9 : Nat, c9 ≤ c + 5 ∧ M9 (17 + f) 7 = c9 ∧ SL c9 (M9 (21 + f)) (fun q => S0 q ∨ (prm q ∧ q ∣ v9.natAbs))) ∧ ∀ k, k ≠ 17 + f → k ≠ 19 + f → k ≠ 21 + f → M9 k = M k) := by
  refine MM.ofG (by decide +kernel) (Nat.le_of_ble_eq_true rfl) ?_
  intro p_ e_ s_ m_ a_ b_ t_ c_ hx hb hml hr hk hg hown hK hP hS ls hl
  have hl : lv_has ls 2 [(0, .ref (E.2.1 (17 + f))), (1, .int (ji v9))] := hl
  refine lv_aload_n hx hb dD_extendBy_0 rfl (lv_at hl 0 rfl) ?_
  refine lv_iload_n hx hb dD_extendBy_1 rfl (lv_at hl 1 rfl) ?_
  refine j_i2l hx hb (by omega) dD_extendBy_2 ?_
  refine pm_G (As := [.long (jl v9)]) (rest := [.ref (E.2.1 (17 + f))]) hx hb hml hown hg hl (kW_classOf l v9 (by omega) h0) wd427 wd146 wd11 wd147 ⟨rfl, rfl⟩ (n := 1) (by decide +kernel) rfl ⟨by decide, by decide⟩ rfl (Nat.le_of_ble_eq_true rfl) dD_extendBy_3 ⟨Nat.zero_le _, Nat.zero_le _⟩ (fun r hr9 => ?_)
  subst hr9
  refine mm_V (As := [.long (jl (sf v9))]) (rest := []) hx hb hml hown hg hl hK hP hS (by omega) (sh_D E _ (by omega)) rfl (kD_addTerm l E hJ M f hf (sf v9) r hr0 hr5 hsf hd0 hd1) wd428 wd165 wd166 wd4 wd167 ⟨rfl, rfl⟩ (n := 1) (by decide +kernel) rfl ⟨by decide, by decide⟩ rfl (Nat.le_of_ble_eq_true rfl) dD_extendBy_6 ⟨Nat.zero_le _, Nat.zero_le _⟩ (fun v M1 H locs hq hP hS => ?_)
  obtain ⟨rfl, a1, a2, a3, a4, a5, a6, a7, a8, a9⟩ := hq
  have hf120 : v9.natAbs < fac (5 + 2) := by show v9.natAbs < 5040; omega
  refine lv_aload_n hx hb dD_extendBy_9 rfl (lv_at hl 0 rfl) ?_
  refine lv_iload_n hx hb dD_extendBy_10 rfl (lv_at hl 1 rfl) ?_
  refine j_i2l hx hb (by omega) dD_extendBy_11 ?_
  refine mm_V (As := [.long (jl v9)]) (rest := []) hx hb hml hown hg hl hK hP hS (by omega) (sh_D E _ (by omega)) rfl (kD_addPrimesOf l E hJ M1 f hf v9 h0 (by omega) c 5 (by rw [a8]; exact hc) hcj S0 (by rw [a9 (21 + f) (by omega) (by omega)]; exact hS0) hb0 hf120) wd429 wd170 wd171 wd4 wd172 ⟨rfl, rfl⟩ (n := 1) (by decide +kernel) rfl ⟨by decide, by decide⟩ rfl (Nat.le_of_ble_eq_true rfl) dD_extendBy_12 ⟨Nat.zero_le _, Nat.zero_le _⟩ (fun v M2 H locs hq hP hS => ?_)
  obtain ⟨rfl, ⟨c9, q1, q2, q3⟩, q4, q5⟩ := hq
  have e3 : M2 (17 + f) 3 = r + 1 := by rw [q5 3 (by decide)]; exact a1
  refine lv_aload_n hx hb dD_extendBy_15 rfl (lv_at hl 0 rfl) ?_
  refine lv_aload_n hx hb dD_extendBy_16 rfl (lv_at hl 0 rfl) ?_
  refine m_get (C := "RationalForms$Diagonal") (T := TxD) (N := 8) hx hb hg uwD hown hK hP (by omega) (sh_D E _ (by omega)) rfl 3 (by decide) wd70 rfl dD_extendBy_17 ?_
  refine m_put (C := "RationalForms$Diagonal") (T := TxD) (N := 8) (ty := .int) (z := M2 (17 + f) 3) hx hb hg uwD txD txD_ok nmD hown hK hJ hP hS (by omega) (sh_D E _ (by omega)) rfl 2 (by decide) wd68 rfl rfl rfl rfl (Nat.le_of_ble_eq_true rfl) (by rw [sh_D E _ (by omega)]; simp [mu]) dD_extendBy_20 (fun H locs hP hS => ?_)
  exact mm_vret hx hb hr hk hP hS dD_extendBy_23 ⟨rfl, by rw [mu_j (by decide)]; exact e3, by rw [mu_s]; exact e3, by rw [mu_k (by omega), q4 (19 + f) (by omega) (by omega)]; exact a2, fun i hi => by rw [mu_k (by omega), q4 (19 + f) (by omega) (by omega)]; exact a3 i hi, by rw [mu_j (by decide), q5 4 (by decide)]; exact a4, by rw [mu_j (by decide), q5 5 (by decide)]; exact a5, by rw [mu_j (by decide), q5 6 (by decide)]; exact a6, ⟨c9, q1, by rw [mu_j (by decide)]; exact q2, by rw [mu_k (by omega)]; exact q3⟩, fun k k1 k2 k3 => by rw [mu_k k1, q4 k k1 k3]; exact a9 k k1 k2⟩
end
section
/-! Hasse signs, zeros, counting, as whole numbers -/
def hI (σ : Int → Int → Int) (t : Nat → Int) (i : Nat) : Nat → Int
  | 0 => 1
  | n + 1 => hI σ t i n * σ (t i) (t (i + 1 + n))
def hO (σ : Int → Int → Int) (t : Nat → Int) (r : Nat) : Nat → Int
  | 0 => 1
  | i + 1 => hO σ t r i * hI σ t i (r - (i + 1))
def hs (σ : Int → Int → Int) (t : Nat → Int) (r : Nat) : Int := hO σ t r r
abbrev pm1 (z : Int) : Prop := z = 1 ∨ z = -1
theorem pm1_mul {x y : Int} (hx : pm1 x) (hy : pm1 y) : pm1 (x * y) := by
  rcases hx with rfl | rfl <;> rcases hy with rfl | rfl <;> decide
theorem s2_pm (e f u w : Int) : pm1 (s2 e f u w) := by
  unfold s2
  by_cases h : ((u - 1) / 2 * ((w - 1) / 2) + e * ((w * w - 1) / 8) + f * ((u * u - 1) / 8)) % 2 = 0
  · rw [if_pos h]; exact Or.inl rfl
  · rw [if_neg h]; exact Or.inr rfl
theorem b12_pm (q : Prop) : pm1 (1 - 2 * bi q) := by rcases bi_or q with h | h <;> rw [h] <;> decide
theorem so_pm (e f u w p : Int) : pm1 (so e f u w p) := by
  unfold so
  refine pm1_mul (pm1_mul ?_ (b12_pm _)) (b12_pm _)
  by_cases h : e * f * ((p - 1) / 2) % 2 = 0
  · rw [if_pos h]; exact Or.inl rfl
  · rw [if_neg h]; exact Or.inr rfl
theorem sF_pm (e f u w p : Int) : pm1 (sF e f u w p) := by
  unfold sF
  by_cases h : p = 2
  · rw [if_pos h]; exact s2_pm _ _ _ _
  · rw [if_neg h]; exact so_pm _ _ _ _ _
theorem sy_pm (a b p : Int) : pm1 (sy a b p) := by
  unfold sy
  by_cases h : p = 0
  · rw [if_pos h]
    by_cases h2 : a < 0 ∧ b < 0
    · rw [if_pos h2]; exact Or.inr rfl
    · rw [if_neg h2]; exact Or.inl rfl
  · rw [if_neg h]; exact sF_pm _ _ _ _ _
theorem syM_pm (a b p : Int) : pm1 (syM a b p) := by
  unfold syM
  by_cases h : p = 0
  · rw [if_pos h]
    by_cases h2 : a < 0 ∧ b < 0
    · rw [if_pos h2]; exact Or.inr rfl
    · rw [if_neg h2]; exact Or.inl rfl
  · rw [if_neg h]; exact sF_pm _ _ _ _ _
theorem hI_pm {σ : Int → Int → Int} (hσ : ∀ a b, pm1 (σ a b)) (t : Nat → Int) (i : Nat) : ∀ n, pm1 (hI σ t i n)
  | 0 => Or.inl rfl
  | n + 1 => pm1_mul (hI_pm hσ t i n) (hσ _ _)
theorem hO_pm {σ : Int → Int → Int} (hσ : ∀ a b, pm1 (σ a b)) (t : Nat → Int) (r : Nat) : ∀ n, pm1 (hO σ t r n)
  | 0 => Or.inl rfl
  | n + 1 => pm1_mul (hO_pm hσ t r n) (hI_pm hσ t n _)
theorem hs_pm {σ : Int → Int → Int} (hσ : ∀ a b, pm1 (σ a b)) (t : Nat → Int) (r : Nat) : pm1 (hs σ t r) := hO_pm hσ t r r
theorem pm1_b32 {z : Int} (h : pm1 z) : b32 z := by rcases h with rfl | rfl <;> decide
/-- a form with the terms t i, of rank r in dim variables, has a zero at p -/
def zr (dim r : Nat) (D : Int) (t : Nat → Int) (pos neg p : Int) : Prop := r < dim ∨ (r = 2 ∧ sq (-D) p) ∨ (r = 3 ∧ hs (fun a b => sy a b p) t r = sy (-1) (-D) p) ∨ (r = 4 ∧ (¬ sq D p ∨ hs (fun a b => sy a b p) t r = sy (-1) (-1) p)) ∨ (4 < r ∧ (p ≠ 0 ∨ (0 < pos ∧ 0 < neg)))
/-- how many below n -/
noncomputable def cnt (T : Nat → Prop) : Nat → Int
  | 0 => 0
  | n + 1 => cnt T n + bi (T n)
theorem cnt_gap {T : Nat → Prop} {x : Nat} : ∀ n, x < n → (∀ m, x < m → m < n → ¬ T m) → cnt T n = cnt T x + bi (T x) := by
  intro n
  induction n with
  | zero => intro h; omega
  | succ n ih =>
    intro h h1
    show cnt T n + bi (T n) = _
    rcases Nat.lt_or_ge x n with h2 | h2
    · rw [ih h2 (fun m m1 m2 => h1 m m1 (by omega)), bi_f (h1 n h2 (by omega))]; omega
    · have : n = x := by omega
      rw [this]
theorem cnt_le {T : Nat → Prop} {a b : Nat} (h : a ≤ b) : cnt T a ≤ cnt T b := by
  induction h with
  | refl => exact Int.le_refl _
  | step h ih =>
    refine Int.le_trans ih ?_
    show cnt T _ ≤ cnt T _ + bi _
    rcases bi_or (T _) with h | h <;> rw [h] <;> omega
theorem cnt_lt {T : Nat → Prop} {a b : Nat} (h : a < b) (ha : T a) : cnt T a < cnt T b := by
  have h1 : cnt T (a + 1) ≤ cnt T b := cnt_le h
  have h2 : cnt T (a + 1) = cnt T a + bi (T a) := rfl
  rw [bi_t ha] at h2
  omega
theorem cnt_uniq {T : Nat → Prop} {a b : Nat} (ha : T a) (hb : T b) (h : cnt T a = cnt T b) : a = b := by
  rcases Nat.lt_trichotomy a b with h1 | h1 | h1
  · have := cnt_lt h1 ha; omega
  · exact h1
  · have := cnt_lt h1 hb; omega
theorem cnt_congr {T T' : Nat → Prop} (h : ∀ q, T q ↔ T' q) : ∀ n, cnt T n = cnt T' n
  | 0 => rfl
  | n + 1 => by show cnt T n + bi (T n) = cnt T' n + bi (T' n); rw [cnt_congr h n, bi_iff (h n)]
theorem cnt_0 {T : Nat → Prop} : ∀ n, (∀ m, m < n → ¬ T m) → cnt T n = 0
  | 0, _ => rfl
  | n + 1, h => by show cnt T n + bi (T n) = 0; rw [cnt_0 n (fun m hm => h m (by omega)), bi_f (h n (by omega))]; rfl
/-- walking along an ascending list: what has been met -/
def met (T : Nat → Prop) (c : Nat) (a : Nat → Int) (i : Nat) (k : Int) : Prop := ∀ n : Nat, (∀ j, j < i → a j < n) → (∀ j, i ≤ j → j < c → (n : Int) ≤ a j) → cnt T n = k
theorem met_0 {T S : Nat → Prop} {c : Nat} {a : Nat → Int} (h : SL c a S) (hT : ∀ q, T q → S q) : met T c a 0 0 := fun n _ h2 => cnt_0 n fun m hm hTm => by
  obtain ⟨i, i1, i2⟩ := h.2.2 m (hT m hTm)
  have := h2 i (by omega) i1
  omega
theorem met_s {T S : Nat → Prop} {c i q : Nat} {a : Nat → Int} {k : Int} (h : SL c a S) (hT : ∀ q, T q → S q) (hm : met T c a i k) (hi : i < c) (hq : a i = q) : cnt T q = k ∧ met T c a (i + 1) (k + bi (T q)) := by
  have h1 : cnt T q = k := hm q (fun j hj => by rw [← hq]; exact h.1 j i hj hi) (fun j j1 j2 => by
    rcases Nat.lt_or_ge i j with g | g
    · rw [← hq]; exact Int.le_of_lt (h.1 i j g j2)
    · have : j = i := by omega
      rw [this, hq]; exact Int.le_refl _)
  refine ⟨h1, fun n n1 n2 => ?_⟩
  rw [cnt_gap (x := q) n (by have := n1 i (by omega); omega) (fun m m1 m2 hTm => ?_), h1]
  obtain ⟨j, j1, j2⟩ := h.2.2 m (hT m hTm)
  rcases Nat.lt_or_ge j (i + 1) with g | g
  · rcases Nat.lt_or_ge j i with g2 | g2
    · have := h.1 j i g2 hi
      omega
    · have : j = i := by omega
      subst this
      omega
  · have := n2 j g j1
    omega
section JT
variable {p : Program} {l : Launch} {e : Env} {R : Room} {s : State} {m : MethodId} {args : Array Value} {below : List Frame} {meth : Method} {c : Code} {H : Heap} {locs : List Loc} {cells slots : Nat} {Q : State → Prop} {cc : ByteArray} {pc : Nat} {ls : Array Slot} {rest : List Value}
theorem j_tabI (hx : p.tables.exec = Jvm.exec) (hb : c.code = cc) {dflt lo hi : Int} {offs : Array Int} {len : Nat} {z : Int} {off : Int} {tgt : Nat} (hz : b32 z) (h1 : lo ≤ z) (h2 : z ≤ hi) (ho : offs[(z - lo).toNat]? = some off) (hd : decode cc pc = .ok (.tableswitch dflt lo hi offs, len)) (ht : (pc : Int) + off = (tgt : Int)) (k : W p l e R s m args below meth c H locs cells slots Q (F0 m tgt ls rest)) : W p l e R s m args below meth c H locs cells slots Q (F0 m pc ls (.int (ji z) :: rest)) :=
  lv_tableIn hx hb hd (by rw [ji_toInt hz]; omega) (by rw [ji_toInt hz]; omega) (by rw [ji_toInt hz]; exact ho) ht k
theorem j_tabO (hx : p.tables.exec = Jvm.exec) (hb : c.code = cc) {dflt lo hi : Int} {offs : Array Int} {len : Nat} {z : Int} {tgt : Nat} (hz : b32 z) (h : z < lo ∨ hi < z) (hd : decode cc pc = .ok (.tableswitch dflt lo hi offs, len)) (ht : (pc : Int) + dflt = (tgt : Int)) (k : W p l e R s m args below meth c H locs cells slots Q (F0 m tgt ls rest)) : W p l e R s m args below meth c H locs cells slots Q (F0 m pc ls (.int (ji z) :: rest)) :=
  lv_tableOut hx hb hd (by rw [ji_toInt hz]; exact h) ht k
end JT
end
section
/-! Diagonal (the class), the reading methods: names, contracts -/
abbrev cD_hasseSign : ByteArray := prog_2_method_7_code
abbrev yD_hasseSign : MethodName := ⟨"RationalForms$Diagonal", "hasseSign", "(I)I"⟩
abbrev wsD_hasseSign : List Cond := .code yD_hasseSign cD_hasseSign 5 (some .int) :: GG
theorem dD_hasseSign_0 : decode cD_hasseSign 0 = .ok (.iconst 1, 1) := by decide +kernel
theorem dD_hasseSign_1 : decode cD_hasseSign 1 = .ok (.istore_n 2, 1) := by decide +kernel
theorem dD_hasseSign_2 : decode cD_hasseSign 2 = .ok (.iconst 0, 1) := by decide +kernel
theorem dD_hasseSign_3 : decode cD_hasseSign 3 = .ok (.istore_n 3, 1) := by decide +kernel
theorem dD_hasseSign_4 : decode cD_hasseSign 4 = .ok (.iload_n 3, 1) := by decide +kernel
theorem dD_hasseSign_5 : decode cD_hasseSign 5 = .ok (.aload_n 0, 1) := by decide +kernel
theorem dD_hasseSign_6 : decode cD_hasseSign 6 = .ok (.getfield 23, 3) := by decide +kernel
theorem dD_hasseSign_9 : decode cD_hasseSign 9 = .ok (.if_icmp .ge 49, 3) := by decide +kernel
theorem dD_hasseSign_12 : decode cD_hasseSign 12 = .ok (.iload_n 3, 1) := by decide +kernel
theorem dD_hasseSign_13 : decode cD_hasseSign 13 = .ok (.iconst 1, 1) := by decide +kernel
theorem dD_hasseSign_14 : decode cD_hasseSign 14 = .ok (.iadd, 1) := by decide +kernel
theorem dD_hasseSign_15 : decode cD_hasseSign 15 = .ok (.istore 4, 2) := by decide +kernel
theorem dD_hasseSign_17 : decode cD_hasseSign 17 = .ok (.iload 4, 2) := by decide +kernel
theorem dD_hasseSign_19 : decode cD_hasseSign 19 = .ok (.aload_n 0, 1) := by decide +kernel
theorem dD_hasseSign_20 : decode cD_hasseSign 20 = .ok (.getfield 23, 3) := by decide +kernel
theorem dD_hasseSign_23 : decode cD_hasseSign 23 = .ok (.if_icmp .ge 29, 3) := by decide +kernel
theorem dD_hasseSign_26 : decode cD_hasseSign 26 = .ok (.iload_n 2, 1) := by decide +kernel
theorem dD_hasseSign_27 : decode cD_hasseSign 27 = .ok (.aload_n 0, 1) := by decide +kernel
theorem dD_hasseSign_28 : decode cD_hasseSign 28 = .ok (.getfield 11, 3) := by decide +kernel
theorem dD_hasseSign_31 : decode cD_hasseSign 31 = .ok (.iload_n 3, 1) := by decide +kernel
theorem dD_hasseSign_32 : decode cD_hasseSign 32 = .ok (.laload, 1) := by decide +kernel
theorem dD_hasseSign_33 : decode cD_hasseSign 33 = .ok (.aload_n 0, 1) := by decide +kernel
theorem dD_hasseSign_34 : decode cD_hasseSign 34 = .ok (.getfield 11, 3) := by decide +kernel
theorem dD_hasseSign_37 : decode cD_hasseSign 37 = .ok (.iload 4, 2) := by decide +kernel
theorem dD_hasseSign_39 : decode cD_hasseSign 39 = .ok (.laload, 1) := by decide +kernel
theorem dD_hasseSign_40 : decode cD_hasseSign 40 = .ok (.iload_n 1, 1) := by decide +kernel
theorem dD_hasseSign_41 : decode cD_hasseSign 41 = .ok (.invokestatic 70, 3) := by decide +kernel
theorem dD_hasseSign_44 : decode cD_hasseSign 44 = .ok (.imul, 1) := by decide +kernel
theorem dD_hasseSign_45 : decode cD_hasseSign 45 = .ok (.istore_n 2, 1) := by decide +kernel
theorem dD_hasseSign_46 : decode cD_hasseSign 46 = .ok (.iinc 4 1, 3) := by decide +kernel
theorem dD_hasseSign_49 : decode cD_hasseSign 49 = .ok (.goto (-32), 3) := by decide +kernel
theorem dD_hasseSign_52 : decode cD_hasseSign 52 = .ok (.iinc 3 1, 3) := by decide +kernel
theorem dD_hasseSign_55 : decode cD_hasseSign 55 = .ok (.goto (-51), 3) := by decide +kernel
theorem dD_hasseSign_58 : decode cD_hasseSign 58 = .ok (.iload_n 2, 1) := by decide +kernel
theorem dD_hasseSign_59 : decode cD_hasseSign 59 = .ok (.ireturn, 1) := by decide +kernel
abbrev cD_hasZeroAt : ByteArray := prog_2_method_8_code
abbrev yD_hasZeroAt : MethodName := ⟨"RationalForms$Diagonal", "hasZeroAt", "(I)Z"⟩
abbrev wsD_hasZeroAt : List Cond := .code yD_hasZeroAt cD_hasZeroAt 2 (some .boolean) :: GG
theorem dD_hasZeroAt_0 : decode cD_hasZeroAt 0 = .ok (.aload_n 0, 1) := by decide +kernel
theorem dD_hasZeroAt_1 : decode cD_hasZeroAt 1 = .ok (.getfield 23, 3) := by decide +kernel
theorem dD_hasZeroAt_4 : decode cD_hasZeroAt 4 = .ok (.aload_n 0, 1) := by decide +kernel
theorem dD_hasZeroAt_5 : decode cD_hasZeroAt 5 = .ok (.getfield 19, 3) := by decide +kernel
theorem dD_hasZeroAt_8 : decode cD_hasZeroAt 8 = .ok (.if_icmp .ge 5, 3) := by decide +kernel
theorem dD_hasZeroAt_11 : decode cD_hasZeroAt 11 = .ok (.iconst 1, 1) := by decide +kernel
theorem dD_hasZeroAt_12 : decode cD_hasZeroAt 12 = .ok (.ireturn, 1) := by decide +kernel
theorem dD_hasZeroAt_13 : decode cD_hasZeroAt 13 = .ok (.aload_n 0, 1) := by decide +kernel
theorem dD_hasZeroAt_14 : decode cD_hasZeroAt 14 = .ok (.getfield 23, 3) := by decide +kernel
theorem dD_hasZeroAt_17 : decode cD_hasZeroAt 17 = .ok (.tableswitch 104 1 4 #[31, 33, 43, 69], 31) := by decide +kernel
theorem dD_hasZeroAt_48 : decode cD_hasZeroAt 48 = .ok (.iconst 0, 1) := by decide +kernel
theorem dD_hasZeroAt_49 : decode cD_hasZeroAt 49 = .ok (.ireturn, 1) := by decide +kernel
theorem dD_hasZeroAt_50 : decode cD_hasZeroAt 50 = .ok (.aload_n 0, 1) := by decide +kernel
theorem dD_hasZeroAt_51 : decode cD_hasZeroAt 51 = .ok (.getfield 32, 3) := by decide +kernel
theorem dD_hasZeroAt_54 : decode cD_hasZeroAt 54 = .ok (.lneg, 1) := by decide +kernel
theorem dD_hasZeroAt_55 : decode cD_hasZeroAt 55 = .ok (.iload_n 1, 1) := by decide +kernel
theorem dD_hasZeroAt_56 : decode cD_hasZeroAt 56 = .ok (.invokestatic 76, 3) := by decide +kernel
theorem dD_hasZeroAt_59 : decode cD_hasZeroAt 59 = .ok (.ireturn, 1) := by decide +kernel
theorem dD_hasZeroAt_60 : decode cD_hasZeroAt 60 = .ok (.aload_n 0, 1) := by decide +kernel
theorem dD_hasZeroAt_61 : decode cD_hasZeroAt 61 = .ok (.iload_n 1, 1) := by decide +kernel
theorem dD_hasZeroAt_62 : decode cD_hasZeroAt 62 = .ok (.invokevirtual 80, 3) := by decide +kernel
theorem dD_hasZeroAt_65 : decode cD_hasZeroAt 65 = .ok (.ldc2_w 84, 3) := by decide +kernel
theorem dD_hasZeroAt_68 : decode cD_hasZeroAt 68 = .ok (.aload_n 0, 1) := by decide +kernel
theorem dD_hasZeroAt_69 : decode cD_hasZeroAt 69 = .ok (.getfield 32, 3) := by decide +kernel
theorem dD_hasZeroAt_72 : decode cD_hasZeroAt 72 = .ok (.lneg, 1) := by decide +kernel
theorem dD_hasZeroAt_73 : decode cD_hasZeroAt 73 = .ok (.iload_n 1, 1) := by decide +kernel
theorem dD_hasZeroAt_74 : decode cD_hasZeroAt 74 = .ok (.invokestatic 70, 3) := by decide +kernel
theorem dD_hasZeroAt_77 : decode cD_hasZeroAt 77 = .ok (.if_icmp .ne 7, 3) := by decide +kernel
theorem dD_hasZeroAt_80 : decode cD_hasZeroAt 80 = .ok (.iconst 1, 1) := by decide +kernel
theorem dD_hasZeroAt_81 : decode cD_hasZeroAt 81 = .ok (.goto 4, 3) := by decide +kernel
theorem dD_hasZeroAt_84 : decode cD_hasZeroAt 84 = .ok (.iconst 0, 1) := by decide +kernel
theorem dD_hasZeroAt_85 : decode cD_hasZeroAt 85 = .ok (.ireturn, 1) := by decide +kernel
theorem dD_hasZeroAt_86 : decode cD_hasZeroAt 86 = .ok (.aload_n 0, 1) := by decide +kernel
theorem dD_hasZeroAt_87 : decode cD_hasZeroAt 87 = .ok (.getfield 32, 3) := by decide +kernel
theorem dD_hasZeroAt_90 : decode cD_hasZeroAt 90 = .ok (.iload_n 1, 1) := by decide +kernel
theorem dD_hasZeroAt_91 : decode cD_hasZeroAt 91 = .ok (.invokestatic 76, 3) := by decide +kernel
theorem dD_hasZeroAt_94 : decode cD_hasZeroAt 94 = .ok (.ifCond .eq 21, 3) := by decide +kernel
theorem dD_hasZeroAt_97 : decode cD_hasZeroAt 97 = .ok (.aload_n 0, 1) := by decide +kernel
theorem dD_hasZeroAt_98 : decode cD_hasZeroAt 98 = .ok (.iload_n 1, 1) := by decide +kernel
theorem dD_hasZeroAt_99 : decode cD_hasZeroAt 99 = .ok (.invokevirtual 80, 3) := by decide +kernel
theorem dD_hasZeroAt_102 : decode cD_hasZeroAt 102 = .ok (.ldc2_w 84, 3) := by decide +kernel
theorem dD_hasZeroAt_105 : decode cD_hasZeroAt 105 = .ok (.ldc2_w 84, 3) := by decide +kernel
theorem dD_hasZeroAt_108 : decode cD_hasZeroAt 108 = .ok (.iload_n 1, 1) := by decide +kernel
theorem dD_hasZeroAt_109 : decode cD_hasZeroAt 109 = .ok (.invokestatic 70, 3) := by decide +kernel
theorem dD_hasZeroAt_112 : decode cD_hasZeroAt 112 = .ok (.if_icmp .ne 7, 3) := by decide +kernel
theorem dD_hasZeroAt_115 : decode cD_hasZeroAt 115 = .ok (.iconst 1, 1) := by decide +kernel
theorem dD_hasZeroAt_116 : decode cD_hasZeroAt 116 = .ok (.goto 4, 3) := by decide +kernel
theorem dD_hasZeroAt_119 : decode cD_hasZeroAt 119 = .ok (.iconst 0, 1) := by decide +kernel
theorem dD_hasZeroAt_120 : decode cD_hasZeroAt 120 = .ok (.ireturn, 1) := by decide +kernel
theorem dD_hasZeroAt_121 : decode cD_hasZeroAt 121 = .ok (.iload_n 1, 1) := by decide +kernel
theorem dD_hasZeroAt_122 : decode cD_hasZeroAt 122 = .ok (.ifCond .ne 17, 3) := by decide +kernel
theorem dD_hasZeroAt_125 : decode cD_hasZeroAt 125 = .ok (.aload_n 0, 1) := by decide +kernel
theorem dD_hasZeroAt_126 : decode cD_hasZeroAt 126 = .ok (.getfield 26, 3) := by decide +kernel
theorem dD_hasZeroAt_129 : decode cD_hasZeroAt 129 = .ok (.ifCond .le 14, 3) := by decide +kernel
theorem dD_hasZeroAt_132 : decode cD_hasZeroAt 132 = .ok (.aload_n 0, 1) := by decide +kernel
theorem dD_hasZeroAt_133 : decode cD_hasZeroAt 133 = .ok (.getfield 29, 3) := by decide +kernel
theorem dD_hasZeroAt_136 : decode cD_hasZeroAt 136 = .ok (.ifCond .le 7, 3) := by decide +kernel
theorem dD_hasZeroAt_139 : decode cD_hasZeroAt 139 = .ok (.iconst 1, 1) := by decide +kernel
theorem dD_hasZeroAt_140 : decode cD_hasZeroAt 140 = .ok (.goto 4, 3) := by decide +kernel
theorem dD_hasZeroAt_143 : decode cD_hasZeroAt 143 = .ok (.iconst 0, 1) := by decide +kernel
theorem dD_hasZeroAt_144 : decode cD_hasZeroAt 144 = .ok (.ireturn, 1) := by decide +kernel
abbrev cD_lowestPlaceWithoutZero : ByteArray := prog_2_method_9_code
abbrev yD_lowestPlaceWithoutZero : MethodName := ⟨"RationalForms$Diagonal", "lowestPlaceWithoutZero", "()I"⟩
abbrev wsD_lowestPlaceWithoutZero : List Cond := .code yD_lowestPlaceWithoutZero cD_lowestPlaceWithoutZero 2 (some .int) :: GG
theorem dD_lowestPlaceWithoutZero_0 : decode cD_lowestPlaceWithoutZero 0 = .ok (.aload_n 0, 1) := by decide +kernel
theorem dD_lowestPlaceWithoutZero_1 : decode cD_lowestPlaceWithoutZero 1 = .ok (.iconst 0, 1) := by decide +kernel
theorem dD_lowestPlaceWithoutZero_2 : decode cD_lowestPlaceWithoutZero 2 = .ok (.invokevirtual 86, 3) := by decide +kernel
theorem dD_lowestPlaceWithoutZero_5 : decode cD_lowestPlaceWithoutZero 5 = .ok (.ifCond .ne 5, 3) := by decide +kernel
theorem dD_lowestPlaceWithoutZero_8 : decode cD_lowestPlaceWithoutZero 8 = .ok (.iconst 0, 1) := by decide +kernel
theorem dD_lowestPlaceWithoutZero_9 : decode cD_lowestPlaceWithoutZero 9 = .ok (.ireturn, 1) := by decide +kernel
theorem dD_lowestPlaceWithoutZero_10 : decode cD_lowestPlaceWithoutZero 10 = .ok (.iconst 0, 1) := by decide +kernel
theorem dD_lowestPlaceWithoutZero_11 : decode cD_lowestPlaceWithoutZero 11 = .ok (.istore_n 1, 1) := by decide +kernel
theorem dD_lowestPlaceWithoutZero_12 : decode cD_lowestPlaceWithoutZero 12 = .ok (.iload_n 1, 1) := by decide +kernel
theorem dD_lowestPlaceWithoutZero_13 : decode cD_lowestPlaceWithoutZero 13 = .ok (.aload_n 0, 1) := by decide +kernel
theorem dD_lowestPlaceWithoutZero_14 : decode cD_lowestPlaceWithoutZero 14 = .ok (.getfield 36, 3) := by decide +kernel
theorem dD_lowestPlaceWithoutZero_17 : decode cD_lowestPlaceWithoutZero 17 = .ok (.if_icmp .ge 50, 3) := by decide +kernel
theorem dD_lowestPlaceWithoutZero_20 : decode cD_lowestPlaceWithoutZero 20 = .ok (.aload_n 0, 1) := by decide +kernel
theorem dD_lowestPlaceWithoutZero_21 : decode cD_lowestPlaceWithoutZero 21 = .ok (.aload_n 0, 1) := by decide +kernel
theorem dD_lowestPlaceWithoutZero_22 : decode cD_lowestPlaceWithoutZero 22 = .ok (.getfield 15, 3) := by decide +kernel
theorem dD_lowestPlaceWithoutZero_25 : decode cD_lowestPlaceWithoutZero 25 = .ok (.iload_n 1, 1) := by decide +kernel
theorem dD_lowestPlaceWithoutZero_26 : decode cD_lowestPlaceWithoutZero 26 = .ok (.iaload, 1) := by decide +kernel
theorem dD_lowestPlaceWithoutZero_27 : decode cD_lowestPlaceWithoutZero 27 = .ok (.invokevirtual 86, 3) := by decide +kernel
theorem dD_lowestPlaceWithoutZero_30 : decode cD_lowestPlaceWithoutZero 30 = .ok (.ifCond .ne 31, 3) := by decide +kernel
theorem dD_lowestPlaceWithoutZero_33 : decode cD_lowestPlaceWithoutZero 33 = .ok (.aload_n 0, 1) := by decide +kernel
theorem dD_lowestPlaceWithoutZero_34 : decode cD_lowestPlaceWithoutZero 34 = .ok (.getfield 23, 3) := by decide +kernel
theorem dD_lowestPlaceWithoutZero_37 : decode cD_lowestPlaceWithoutZero 37 = .ok (.iconst 2, 1) := by decide +kernel
theorem dD_lowestPlaceWithoutZero_38 : decode cD_lowestPlaceWithoutZero 38 = .ok (.if_icmp .ne 16, 3) := by decide +kernel
theorem dD_lowestPlaceWithoutZero_41 : decode cD_lowestPlaceWithoutZero 41 = .ok (.aload_n 0, 1) := by decide +kernel
theorem dD_lowestPlaceWithoutZero_42 : decode cD_lowestPlaceWithoutZero 42 = .ok (.aload_n 0, 1) := by decide +kernel
theorem dD_lowestPlaceWithoutZero_43 : decode cD_lowestPlaceWithoutZero 43 = .ok (.getfield 15, 3) := by decide +kernel
theorem dD_lowestPlaceWithoutZero_46 : decode cD_lowestPlaceWithoutZero 46 = .ok (.iload_n 1, 1) := by decide +kernel
theorem dD_lowestPlaceWithoutZero_47 : decode cD_lowestPlaceWithoutZero 47 = .ok (.iaload, 1) := by decide +kernel
theorem dD_lowestPlaceWithoutZero_48 : decode cD_lowestPlaceWithoutZero 48 = .ok (.invokevirtual 90, 3) := by decide +kernel
theorem dD_lowestPlaceWithoutZero_51 : decode cD_lowestPlaceWithoutZero 51 = .ok (.goto 9, 3) := by decide +kernel
theorem dD_lowestPlaceWithoutZero_54 : decode cD_lowestPlaceWithoutZero 54 = .ok (.aload_n 0, 1) := by decide +kernel
theorem dD_lowestPlaceWithoutZero_55 : decode cD_lowestPlaceWithoutZero 55 = .ok (.getfield 15, 3) := by decide +kernel
theorem dD_lowestPlaceWithoutZero_58 : decode cD_lowestPlaceWithoutZero 58 = .ok (.iload_n 1, 1) := by decide +kernel
theorem dD_lowestPlaceWithoutZero_59 : decode cD_lowestPlaceWithoutZero 59 = .ok (.iaload, 1) := by decide +kernel
theorem dD_lowestPlaceWithoutZero_60 : decode cD_lowestPlaceWithoutZero 60 = .ok (.ireturn, 1) := by decide +kernel
theorem dD_lowestPlaceWithoutZero_61 : decode cD_lowestPlaceWithoutZero 61 = .ok (.iinc 1 1, 3) := by decide +kernel
theorem dD_lowestPlaceWithoutZero_64 : decode cD_lowestPlaceWithoutZero 64 = .ok (.goto (-52), 3) := by decide +kernel
theorem dD_lowestPlaceWithoutZero_67 : decode cD_lowestPlaceWithoutZero 67 = .ok (.iconst (-1), 1) := by decide +kernel
theorem dD_lowestPlaceWithoutZero_68 : decode cD_lowestPlaceWithoutZero 68 = .ok (.ireturn, 1) := by decide +kernel
abbrev cD_lowestPrimeWithoutRoot : ByteArray := prog_2_method_10_code
abbrev yD_lowestPrimeWithoutRoot : MethodName := ⟨"RationalForms$Diagonal", "lowestPrimeWithoutRoot", "(I)I"⟩
abbrev wsD_lowestPrimeWithoutRoot : List Cond := .code yD_lowestPrimeWithoutRoot cD_lowestPrimeWithoutRoot 3 (some .int) :: GG
theorem dD_lowestPrimeWithoutRoot_0 : decode cD_lowestPrimeWithoutRoot 0 = .ok (.iconst 2, 1) := by decide +kernel
theorem dD_lowestPrimeWithoutRoot_1 : decode cD_lowestPrimeWithoutRoot 1 = .ok (.istore_n 2, 1) := by decide +kernel
theorem dD_lowestPrimeWithoutRoot_2 : decode cD_lowestPrimeWithoutRoot 2 = .ok (.iload_n 2, 1) := by decide +kernel
theorem dD_lowestPrimeWithoutRoot_3 : decode cD_lowestPrimeWithoutRoot 3 = .ok (.iload_n 1, 1) := by decide +kernel
theorem dD_lowestPrimeWithoutRoot_4 : decode cD_lowestPrimeWithoutRoot 4 = .ok (.if_icmp .ge 30, 3) := by decide +kernel
theorem dD_lowestPrimeWithoutRoot_7 : decode cD_lowestPrimeWithoutRoot 7 = .ok (.iload_n 2, 1) := by decide +kernel
theorem dD_lowestPrimeWithoutRoot_8 : decode cD_lowestPrimeWithoutRoot 8 = .ok (.invokestatic 93, 3) := by decide +kernel
theorem dD_lowestPrimeWithoutRoot_11 : decode cD_lowestPrimeWithoutRoot 11 = .ok (.ifCond .eq 17, 3) := by decide +kernel
theorem dD_lowestPrimeWithoutRoot_14 : decode cD_lowestPrimeWithoutRoot 14 = .ok (.aload_n 0, 1) := by decide +kernel
theorem dD_lowestPrimeWithoutRoot_15 : decode cD_lowestPrimeWithoutRoot 15 = .ok (.getfield 32, 3) := by decide +kernel
theorem dD_lowestPrimeWithoutRoot_18 : decode cD_lowestPrimeWithoutRoot 18 = .ok (.lneg, 1) := by decide +kernel
theorem dD_lowestPrimeWithoutRoot_19 : decode cD_lowestPrimeWithoutRoot 19 = .ok (.iload_n 2, 1) := by decide +kernel
theorem dD_lowestPrimeWithoutRoot_20 : decode cD_lowestPrimeWithoutRoot 20 = .ok (.invokestatic 76, 3) := by decide +kernel
theorem dD_lowestPrimeWithoutRoot_23 : decode cD_lowestPrimeWithoutRoot 23 = .ok (.ifCond .ne 5, 3) := by decide +kernel
theorem dD_lowestPrimeWithoutRoot_26 : decode cD_lowestPrimeWithoutRoot 26 = .ok (.iload_n 2, 1) := by decide +kernel
theorem dD_lowestPrimeWithoutRoot_27 : decode cD_lowestPrimeWithoutRoot 27 = .ok (.ireturn, 1) := by decide +kernel
theorem dD_lowestPrimeWithoutRoot_28 : decode cD_lowestPrimeWithoutRoot 28 = .ok (.iinc 2 1, 3) := by decide +kernel
theorem dD_lowestPrimeWithoutRoot_31 : decode cD_lowestPrimeWithoutRoot 31 = .ok (.goto (-29), 3) := by decide +kernel
theorem dD_lowestPrimeWithoutRoot_34 : decode cD_lowestPrimeWithoutRoot 34 = .ok (.iload_n 1, 1) := by decide +kernel
theorem dD_lowestPrimeWithoutRoot_35 : decode cD_lowestPrimeWithoutRoot 35 = .ok (.ireturn, 1) := by decide +kernel
abbrev cD_agreesAtOwnPrimes : ByteArray := prog_2_method_11_code
abbrev yD_agreesAtOwnPrimes : MethodName := ⟨"RationalForms$Diagonal", "agreesAtOwnPrimes", "(LRationalForms$Diagonal;)Z"⟩
abbrev wsD_agreesAtOwnPrimes : List Cond := .code yD_agreesAtOwnPrimes cD_agreesAtOwnPrimes 3 (some .boolean) :: GG
theorem dD_agreesAtOwnPrimes_0 : decode cD_agreesAtOwnPrimes 0 = .ok (.iconst 0, 1) := by decide +kernel
theorem dD_agreesAtOwnPrimes_1 : decode cD_agreesAtOwnPrimes 1 = .ok (.istore_n 2, 1) := by decide +kernel
theorem dD_agreesAtOwnPrimes_2 : decode cD_agreesAtOwnPrimes 2 = .ok (.iload_n 2, 1) := by decide +kernel
theorem dD_agreesAtOwnPrimes_3 : decode cD_agreesAtOwnPrimes 3 = .ok (.aload_n 0, 1) := by decide +kernel
theorem dD_agreesAtOwnPrimes_4 : decode cD_agreesAtOwnPrimes 4 = .ok (.getfield 36, 3) := by decide +kernel
theorem dD_agreesAtOwnPrimes_7 : decode cD_agreesAtOwnPrimes 7 = .ok (.if_icmp .ge 34, 3) := by decide +kernel
theorem dD_agreesAtOwnPrimes_10 : decode cD_agreesAtOwnPrimes 10 = .ok (.aload_n 0, 1) := by decide +kernel
theorem dD_agreesAtOwnPrimes_11 : decode cD_agreesAtOwnPrimes 11 = .ok (.aload_n 0, 1) := by decide +kernel
theorem dD_agreesAtOwnPrimes_12 : decode cD_agreesAtOwnPrimes 12 = .ok (.getfield 15, 3) := by decide +kernel
theorem dD_agreesAtOwnPrimes_15 : decode cD_agreesAtOwnPrimes 15 = .ok (.iload_n 2, 1) := by decide +kernel
theorem dD_agreesAtOwnPrimes_16 : decode cD_agreesAtOwnPrimes 16 = .ok (.iaload, 1) := by decide +kernel
theorem dD_agreesAtOwnPrimes_17 : decode cD_agreesAtOwnPrimes 17 = .ok (.invokevirtual 80, 3) := by decide +kernel
theorem dD_agreesAtOwnPrimes_20 : decode cD_agreesAtOwnPrimes 20 = .ok (.aload_n 1, 1) := by decide +kernel
theorem dD_agreesAtOwnPrimes_21 : decode cD_agreesAtOwnPrimes 21 = .ok (.aload_n 0, 1) := by decide +kernel
theorem dD_agreesAtOwnPrimes_22 : decode cD_agreesAtOwnPrimes 22 = .ok (.getfield 15, 3) := by decide +kernel
theorem dD_agreesAtOwnPrimes_25 : decode cD_agreesAtOwnPrimes 25 = .ok (.iload_n 2, 1) := by decide +kernel
theorem dD_agreesAtOwnPrimes_26 : decode cD_agreesAtOwnPrimes 26 = .ok (.iaload, 1) := by decide +kernel
theorem dD_agreesAtOwnPrimes_27 : decode cD_agreesAtOwnPrimes 27 = .ok (.invokevirtual 80, 3) := by decide +kernel
theorem dD_agreesAtOwnPrimes_30 : decode cD_agreesAtOwnPrimes 30 = .ok (.if_icmp .eq 5, 3) := by decide +kernel
theorem dD_agreesAtOwnPrimes_33 : decode cD_agreesAtOwnPrimes 33 = .ok (.iconst 0, 1) := by decide +kernel
theorem dD_agreesAtOwnPrimes_34 : decode cD_agreesAtOwnPrimes 34 = .ok (.ireturn, 1) := by decide +kernel
theorem dD_agreesAtOwnPrimes_35 : decode cD_agreesAtOwnPrimes 35 = .ok (.iinc 2 1, 3) := by decide +kernel
theorem dD_agreesAtOwnPrimes_38 : decode cD_agreesAtOwnPrimes 38 = .ok (.goto (-36), 3) := by decide +kernel
theorem dD_agreesAtOwnPrimes_41 : decode cD_agreesAtOwnPrimes 41 = .ok (.iconst 1, 1) := by decide +kernel
theorem dD_agreesAtOwnPrimes_42 : decode cD_agreesAtOwnPrimes 42 = .ok (.ireturn, 1) := by decide +kernel
abbrev cD_primeOfMinusSign : ByteArray := prog_2_method_12_code
abbrev yD_primeOfMinusSign : MethodName := ⟨"RationalForms$Diagonal", "primeOfMinusSign", "(I)I"⟩
abbrev wsD_primeOfMinusSign : List Cond := .code yD_primeOfMinusSign cD_primeOfMinusSign 4 (some .int) :: GG
theorem dD_primeOfMinusSign_0 : decode cD_primeOfMinusSign 0 = .ok (.iconst 0, 1) := by decide +kernel
theorem dD_primeOfMinusSign_1 : decode cD_primeOfMinusSign 1 = .ok (.istore_n 2, 1) := by decide +kernel
theorem dD_primeOfMinusSign_2 : decode cD_primeOfMinusSign 2 = .ok (.iconst 0, 1) := by decide +kernel
theorem dD_primeOfMinusSign_3 : decode cD_primeOfMinusSign 3 = .ok (.istore_n 3, 1) := by decide +kernel
theorem dD_primeOfMinusSign_4 : decode cD_primeOfMinusSign 4 = .ok (.iload_n 3, 1) := by decide +kernel
theorem dD_primeOfMinusSign_5 : decode cD_primeOfMinusSign 5 = .ok (.aload_n 0, 1) := by decide +kernel
theorem dD_primeOfMinusSign_6 : decode cD_primeOfMinusSign 6 = .ok (.getfield 36, 3) := by decide +kernel
theorem dD_primeOfMinusSign_9 : decode cD_primeOfMinusSign 9 = .ok (.if_icmp .ge 38, 3) := by decide +kernel
theorem dD_primeOfMinusSign_12 : decode cD_primeOfMinusSign 12 = .ok (.aload_n 0, 1) := by decide +kernel
theorem dD_primeOfMinusSign_13 : decode cD_primeOfMinusSign 13 = .ok (.aload_n 0, 1) := by decide +kernel
theorem dD_primeOfMinusSign_14 : decode cD_primeOfMinusSign 14 = .ok (.getfield 15, 3) := by decide +kernel
theorem dD_primeOfMinusSign_17 : decode cD_primeOfMinusSign 17 = .ok (.iload_n 3, 1) := by decide +kernel
theorem dD_primeOfMinusSign_18 : decode cD_primeOfMinusSign 18 = .ok (.iaload, 1) := by decide +kernel
theorem dD_primeOfMinusSign_19 : decode cD_primeOfMinusSign 19 = .ok (.invokevirtual 80, 3) := by decide +kernel
theorem dD_primeOfMinusSign_22 : decode cD_primeOfMinusSign 22 = .ok (.iconst (-1), 1) := by decide +kernel
theorem dD_primeOfMinusSign_23 : decode cD_primeOfMinusSign 23 = .ok (.if_icmp .ne 18, 3) := by decide +kernel
theorem dD_primeOfMinusSign_26 : decode cD_primeOfMinusSign 26 = .ok (.iload_n 2, 1) := by decide +kernel
theorem dD_primeOfMinusSign_27 : decode cD_primeOfMinusSign 27 = .ok (.iload_n 1, 1) := by decide +kernel
theorem dD_primeOfMinusSign_28 : decode cD_primeOfMinusSign 28 = .ok (.if_icmp .ne 10, 3) := by decide +kernel
theorem dD_primeOfMinusSign_31 : decode cD_primeOfMinusSign 31 = .ok (.aload_n 0, 1) := by decide +kernel
theorem dD_primeOfMinusSign_32 : decode cD_primeOfMinusSign 32 = .ok (.getfield 15, 3) := by decide +kernel
theorem dD_primeOfMinusSign_35 : decode cD_primeOfMinusSign 35 = .ok (.iload_n 3, 1) := by decide +kernel
theorem dD_primeOfMinusSign_36 : decode cD_primeOfMinusSign 36 = .ok (.iaload, 1) := by decide +kernel
theorem dD_primeOfMinusSign_37 : decode cD_primeOfMinusSign 37 = .ok (.ireturn, 1) := by decide +kernel
theorem dD_primeOfMinusSign_38 : decode cD_primeOfMinusSign 38 = .ok (.iinc 2 1, 3) := by decide +kernel
theorem dD_primeOfMinusSign_41 : decode cD_primeOfMinusSign 41 = .ok (.iinc 3 1, 3) := by decide +kernel
theorem dD_primeOfMinusSign_44 : decode cD_primeOfMinusSign 44 = .ok (.goto (-40), 3) := by decide +kernel
theorem dD_primeOfMinusSign_47 : decode cD_primeOfMinusSign 47 = .ok (.iconst (-1), 1) := by decide +kernel
theorem dD_primeOfMinusSign_48 : decode cD_primeOfMinusSign 48 = .ok (.ireturn, 1) := by decide +kernel
def DG (M : Me) (f r : Nat) : Prop := r ≤ 5 ∧ M (17 + f) 3 = r ∧ ∀ i, i < r → M (19 + f) i ≠ 0 ∧ b64 (M (19 + f) i)
def DF (M : Me) (f dim r : Nat) : Prop := DG M f r ∧ r ≤ dim ∧ M (17 + f) 2 = dim ∧ 1 ≤ dim ∧ dim ≤ 5 ∧ M (17 + f) 6 ≠ 0 ∧ (-9223372036854775807 ≤ M (17 + f) 6 ∧ M (17 + f) 6 ≤ 9223372036854775807) ∧ b32 (M (17 + f) 4) ∧ b32 (M (17 + f) 5)
abbrev plc (p : Int) : Prop := p = 0 ∨ (1 < p ∧ p ≤ 2147483647)
noncomputable abbrev hsC (M : Me) (f r : Nat) (p : Int) : Int := hs (fun a b => sy a b p) (M (19 + f)) r
abbrev zrC (M : Me) (f dim r : Nat) (p : Int) : Prop := zr dim r (M (17 + f) 6) (M (19 + f)) (M (17 + f) 4) (M (17 + f) 5) p
/-- the lowest prime below h where -D is no square, else h -/
def lpr (D : Int) (h q : Nat) : Prop := (q < h ∧ prm q ∧ ¬ sq (-D) q ∧ ∀ m, m < q → prm m → sq (-D) m) ∨ (q = h ∧ ∀ m, m < h → prm m → sq (-D) m)
/-- what lowestPlaceWithoutZero answers -/
def lpz (S : Nat → Prop) (Z : Int → Prop) (r : Nat) (D v : Int) : Prop := (¬ Z 0 → v = 0) ∧ (Z 0 → (∀ q, S q → Z q) → v = -1) ∧ (Z 0 → ∀ q : Nat, S q → ¬ Z q → (∀ m : Nat, S m → m < q → Z m) → (r ≠ 2 → v = q) ∧ (r = 2 → ∃ w : Nat, v = w ∧ lpr D q w))
def nth (T : Nat → Prop) (k v : Int) : Prop := (∃ q : Nat, T q ∧ cnt T q = k ∧ v = q) ∨ (v = -1 ∧ ∀ q, T q → cnt T q ≠ k)
set_option maxRecDepth 20000 in
theorem wd181 : Cond.instanceMethod yD_hasseSign ∈ GG := GG_t 181 rfl rfl
set_option maxRecDepth 20000 in
theorem wd182 : Cond.selects "RationalForms$Diagonal" yD_hasseSign yD_hasseSign ∈ GG := GG_t 182 rfl rfl
set_option maxRecDepth 20000 in
theorem wd183 : Cond.code yD_hasseSign cD_hasseSign 5 (some .int) ∈ GG := GG_t 183 rfl rfl
set_option maxRecDepth 20000 in
theorem wd184 : Cond.methodLink "RationalForms$Diagonal" 70 yP_symbolOf ∈ GG := GG_t 184 rfl rfl
set_option maxRecDepth 20000 in
theorem wd185 : Cond.static yP_symbolOf ∈ GG := GG_t 185 rfl rfl
set_option maxRecDepth 20000 in
theorem wd186 : Cond.code yP_symbolOf cP_symbolOf 9 (some .int) ∈ GG := GG_t 186 rfl rfl
set_option maxRecDepth 20000 in
theorem wd211 : Cond.methodLink "RationalForms$Diagonal" 80 yD_hasseSign ∈ GG := GG_t 211 rfl rfl
set_option maxRecDepth 20000 in
theorem wd367 : Cond.static yW_isPrime ∈ GG := GG_t 367 rfl rfl
set_option maxRecDepth 20000 in
theorem wd368 : Cond.code yW_isPrime cW_isPrime 3 (some .boolean) ∈ GG := GG_t 368 rfl rfl
set_option maxRecDepth 20000 in
theorem wd386 : Cond.instanceMethod yD_hasZeroAt ∈ GG := GG_t 386 rfl rfl
set_option maxRecDepth 20000 in
theorem wd387 : Cond.selects "RationalForms$Diagonal" yD_hasZeroAt yD_hasZeroAt ∈ GG := GG_t 387 rfl rfl
set_option maxRecDepth 20000 in
theorem wd388 : Cond.code yD_hasZeroAt cD_hasZeroAt 2 (some .boolean) ∈ GG := GG_t 388 rfl rfl
set_option maxRecDepth 20000 in
theorem wd389 : Cond.methodLink "RationalForms$Diagonal" 76 yP_isSquare ∈ GG := GG_t 389 rfl rfl
set_option maxRecDepth 20000 in
theorem wd390 : Cond.static yP_isSquare ∈ GG := GG_t 390 rfl rfl
set_option maxRecDepth 20000 in
theorem wd391 : Cond.code yP_isSquare cP_isSquare 4 (some .boolean) ∈ GG := GG_t 391 rfl rfl
set_option maxRecDepth 20000 in
theorem wd392 : Cond.constantLong "RationalForms$Diagonal" 84 (-1) ∈ GG := GG_t 392 rfl rfl
set_option maxRecDepth 20000 in
theorem wd404 : Cond.methodLink "RationalForms$Diagonal" 86 yD_hasZeroAt ∈ GG := GG_t 404 rfl rfl
set_option maxRecDepth 20000 in
theorem wd405 : Cond.methodLink "RationalForms$Diagonal" 90 yD_lowestPrimeWithoutRoot ∈ GG := GG_t 405 rfl rfl
set_option maxRecDepth 20000 in
theorem wd407 : Cond.instanceMethod yD_lowestPrimeWithoutRoot ∈ GG := GG_t 407 rfl rfl
set_option maxRecDepth 20000 in
theorem wd408 : Cond.code yD_lowestPrimeWithoutRoot cD_lowestPrimeWithoutRoot 3 (some .int) ∈ GG := GG_t 408 rfl rfl
set_option maxRecDepth 20000 in
theorem wd409 : Cond.methodLink "RationalForms$Diagonal" 93 yW_isPrime ∈ GG := GG_t 409 rfl rfl
set_option maxRecDepth 20000 in
theorem wds10 : Cond.selects "RationalForms$Diagonal" yD_lowestPrimeWithoutRoot yD_lowestPrimeWithoutRoot ∈ GG := GG_s 10 rfl rfl
set_option maxRecDepth 100000 in
set_option maxHeartbeats 4000000 in
theorem kD_hasseSign (l : Launch) (E : En) (hJ : wJ E) (M : Me) (f : Nat) (hf : f < 2) (r : Nat) (hG : DG M f r) (p9 : Int) (hp : plc p9) : MM l yD_hasseSign wsD_hasseSign (rmd 3) E M [.ref (E.2.1 (17 + f)), .int (ji p9)] (fun v M9 => v = some (.int (ji (hsC M f r p9))) ∧ M9 = M) := by
  refine MM.ofG (by decide +kernel) (Nat.le_of_ble_eq_true rfl) ?_
  intro p_ e_ s_ m_ a_ b_ t_ c_ hx hb hml hr hk hg hown hK hP hS ls hl
  have hl : lv_has ls 5 [(0, .ref (E.2.1 (17 + f))), (1, .int (ji p9))] := hl
  obtain ⟨hr5, hr3, ht⟩ := hG
  have outer : ∀ (N i : Nat) (z : Int) (ls : Array Slot), i + N = r → z = hO (fun a b => sy a b p9) (M (19 + f)) r i → lv_has ls 5 [(3, .int (ji ((i:Int)))), (2, .int (ji z)), (0, .ref (E.2.1 (17 + f))), (1, .int (ji p9))] → W p_ l e_ (rmd 3) s_ m_ a_ b_ t_ c_ s_.heap [] 0 0 (XQ b_ (mmQ E (fun v M9 => v = some (.int (ji (hsC M f r p9))) ∧ M9 = M)) a_ s_ 0 0 (wA E)) (F0 m_ 4 ls []) := by
    intro N
    induction N with
    | zero =>
      intro i z ls h0 hz hl
      refine lv_iload_n hx hb dD_hasseSign_4 rfl (lv_at hl 0 rfl) ?_
      refine lv_aload_n hx hb dD_hasseSign_5 rfl (lv_at hl 2 rfl) ?_
      refine m_get (C := "RationalForms$Diagonal") (T := TxD) (N := 8) hx hb hg uwD hown hK hP (by omega) (sh_D E _ (by omega)) rfl 3 (by decide) wd70 rfl dD_hasseSign_6 ?_
      refine j_icmp_ge hx hb (by omega) (by rw [hr3]; omega) dD_hasseSign_9 rfl (fun h1 => ?_) (fun h1 => ?_)
      · have hir : i = r := by omega
        subst hir
        refine lv_iload_n hx hb dD_hasseSign_58 rfl (lv_at hl 1 rfl) ?_
        exact mm_iret hx hb hr hk hP hS dD_hasseSign_59 ⟨by rw [hz]; rfl, rfl⟩
      · omega
    | succ N ih =>
      intro i z ls h0 hz hl
      have inner : ∀ (K n : Nat) (z : Int) (ls : Array Slot), i + 1 + n + K = r → z = hO (fun a b => sy a b p9) (M (19 + f)) r i * hI (fun a b => sy a b p9) (M (19 + f)) i n → lv_has ls 5 [(4, .int (ji (((i+1+n:Nat):Int)))), (3, .int (ji ((i:Int)))), (2, .int (ji z)), (0, .ref (E.2.1 (17 + f))), (1, .int (ji p9))] → W p_ l e_ (rmd 3) s_ m_ a_ b_ t_ c_ s_.heap [] 0 0 (XQ b_ (mmQ E (fun v M9 => v = some (.int (ji (hsC M f r p9))) ∧ M9 = M)) a_ s_ 0 0 (wA E)) (F0 m_ 17 ls []) := by
        intro K
        induction K with
        | zero =>
          intro n z ls h1 hz hl
          refine lv_iload hx hb dD_hasseSign_17 (lv_at hl 0 rfl) ?_
          refine lv_aload_n hx hb dD_hasseSign_19 rfl (lv_at hl 3 rfl) ?_
          refine m_get (C := "RationalForms$Diagonal") (T := TxD) (N := 8) hx hb hg uwD hown hK hP (by omega) (sh_D E _ (by omega)) rfl 3 (by decide) wd70 rfl dD_hasseSign_20 ?_
          refine j_icmp_ge hx hb (by omega) (by rw [hr3]; omega) dD_hasseSign_23 rfl (fun h2 => ?_) (fun h2 => ?_)
          · refine lv_iinc (k := 1) (v := ji (((i:Int)) + 1)) hx hb dD_hasseSign_52 hl rfl (Int32.ofInt_add _ _).symm (by decide) rfl (fun ls hl => ?_)
            have hl : lv_has ls 5 [(3, .int (ji (((i:Int)) + 1))), (4, .int (ji (((i+1+n:Nat):Int)))), (2, .int (ji z)), (0, .ref (E.2.1 (17 + f))), (1, .int (ji p9))] := hl
            refine lv_goto hx hb dD_hasseSign_55 rfl ?_
            refine ih (i + 1) z ls (by omega) ?_ (lv_sub hl [0, 2, 3, 4] rfl)
            rw [hz, show n = r - (i + 1) by omega]; rfl
          · omega
        | succ K ihK =>
          intro n z ls h1 hz hl
          have ta := ht i (by omega)
          have tb := ht (i + 1 + n) (by omega)
          refine lv_iload hx hb dD_hasseSign_17 (lv_at hl 0 rfl) ?_
          refine lv_aload_n hx hb dD_hasseSign_19 rfl (lv_at hl 3 rfl) ?_
          refine m_get (C := "RationalForms$Diagonal") (T := TxD) (N := 8) hx hb hg uwD hown hK hP (by omega) (sh_D E _ (by omega)) rfl 3 (by decide) wd70 rfl dD_hasseSign_20 ?_
          refine j_icmp_ge hx hb (by omega) (by rw [hr3]; omega) dD_hasseSign_23 rfl (fun h2 => ?_) (fun h2 => ?_)
          · omega
          · refine lv_iload_n hx hb dD_hasseSign_26 rfl (lv_at hl 2 rfl) ?_
            refine lv_aload_n hx hb dD_hasseSign_27 rfl (lv_at hl 3 rfl) ?_
            refine m_get (C := "RationalForms$Diagonal") (T := TxD) (N := 8) hx hb hg uwD hown hK hP (by omega) (sh_D E _ (by omega)) rfl 0 (by decide) wd66 rfl dD_hasseSign_28 ?_
            refine lv_iload_n hx hb dD_hasseSign_31 rfl (lv_at hl 1 rfl) ?_
            refine m_lald (n := i) hx hb hK hP (by omega) (sh_t E _ (by omega)) rfl (by omega) (by decide) dD_hasseSign_32 ?_
            refine lv_aload_n hx hb dD_hasseSign_33 rfl (lv_at hl 3 rfl) ?_
            refine m_get (C := "RationalForms$Diagonal") (T := TxD) (N := 8) hx hb hg uwD hown hK hP (by omega) (sh_D E _ (by omega)) rfl 0 (by decide) wd66 rfl dD_hasseSign_34 ?_
            refine lv_iload hx hb dD_hasseSign_37 (lv_at hl 0 rfl) ?_
            refine m_lald (n := i+1+n) hx hb hK hP (by omega) (sh_t E _ (by omega)) rfl (by omega) (by decide) dD_hasseSign_39 ?_
            refine lv_iload_n hx hb dD_hasseSign_40 rfl (lv_at hl 4 rfl) ?_
            refine pm_G (As := [.long (jl (M (19 + f) i)), .long (jl (M (19 + f) (i+1+n))), .int (ji p9)]) (rest := [.int (ji z)]) hx hb hml hown hg hl (kP_symbolOf l (M (19 + f) i) (M (19 + f) (i + 1 + n)) p9 ta.2 tb.2 ta.1 tb.1 hp) wd184 wd185 wd14 wd186 ⟨rfl, rfl⟩ (n := 3) (by decide +kernel) rfl ⟨by decide, by decide⟩ rfl (Nat.le_of_ble_eq_true rfl) dD_hasseSign_41 ⟨Nat.zero_le _, Nat.zero_le _⟩ (fun r hr9 => ?_)
            subst hr9
            refine j_imul hx hb dD_hasseSign_44 ?_
            refine lv_istore_n hx hb dD_hasseSign_45 rfl hl (by decide) rfl (fun ls hl => ?_)
            have hl : lv_has ls 5 [(2, .int (ji (z * (sy (M (19 + f) i) (M (19 + f) (i + 1 + n)) p9)))), (4, .int (ji (((i+1+n:Nat):Int)))), (3, .int (ji ((i:Int)))), (0, .ref (E.2.1 (17 + f))), (1, .int (ji p9))] := hl
            refine lv_iinc (k := 1) (v := ji ((((i+1+n:Nat):Int)) + 1)) hx hb dD_hasseSign_46 hl rfl (Int32.ofInt_add _ _).symm (by decide) rfl (fun ls hl => ?_)
            have hl : lv_has ls 5 [(4, .int (ji ((((i+1+n:Nat):Int)) + 1))), (2, .int (ji (z * (sy (M (19 + f) i) (M (19 + f) (i + 1 + n)) p9)))), (3, .int (ji ((i:Int)))), (0, .ref (E.2.1 (17 + f))), (1, .int (ji p9))] := hl
            refine lv_goto hx hb dD_hasseSign_49 rfl ?_
            exact ihK (n + 1) _ ls (by omega) (by rw [hz, Int.mul_assoc]; rfl) (lv_sub hl [0, 2, 1, 3, 4] rfl)
      refine lv_iload_n hx hb dD_hasseSign_4 rfl (lv_at hl 0 rfl) ?_
      refine lv_aload_n hx hb dD_hasseSign_5 rfl (lv_at hl 2 rfl) ?_
      refine m_get (C := "RationalForms$Diagonal") (T := TxD) (N := 8) hx hb hg uwD hown hK hP (by omega) (sh_D E _ (by omega)) rfl 3 (by decide) wd70 rfl dD_hasseSign_6 ?_
      refine j_icmp_ge hx hb (by omega) (by rw [hr3]; omega) dD_hasseSign_9 rfl (fun h1 => ?_) (fun h1 => ?_)
      · omega
      · refine lv_iload_n hx hb dD_hasseSign_12 rfl (lv_at hl 0 rfl) ?_
        refine j_iconst hx hb dD_hasseSign_13 ?_
        refine j_iadd hx hb dD_hasseSign_14 ?_
        refine lv_istore hx hb dD_hasseSign_15 hl (by decide) rfl (fun ls hl => ?_)
        have hl : lv_has ls 5 [(4, .int (ji (((i:Int)) + 1))), (3, .int (ji ((i:Int)))), (2, .int (ji z)), (0, .ref (E.2.1 (17 + f))), (1, .int (ji p9))] := hl
        exact inner (r - (i + 1)) 0 z ls (by omega) (by rw [hz]; show _ = _ * 1; rw [Int.mul_one]) hl
  refine j_iconst hx hb dD_hasseSign_0 ?_
  refine lv_istore_n hx hb dD_hasseSign_1 rfl hl (by decide) rfl (fun ls hl => ?_)
  have hl : lv_has ls 5 [(2, .int (ji 1)), (0, .ref (E.2.1 (17 + f))), (1, .int (ji p9))] := hl
  refine j_iconst hx hb dD_hasseSign_2 ?_
  refine lv_istore_n hx hb dD_hasseSign_3 rfl hl (by decide) rfl (fun ls hl => ?_)
  have hl : lv_has ls 5 [(3, .int (ji 0)), (2, .int (ji 1)), (0, .ref (E.2.1 (17 + f))), (1, .int (ji p9))] := hl
  exact outer r 0 1 ls (by omega) rfl hl

set_option maxRecDepth 100000 in
set_option maxHeartbeats 4000000 in
theorem kD_hasZeroAt (l : Launch) (E : En) (hJ : wJ E) (M : Me) (f : Nat) (hf : f < 2) (dim r : Nat) (hD : DF M f dim r) (p9 : Int) (hp : plc p9) : MM l yD_hasZeroAt wsD_hasZeroAt (rmd 4) E M [.ref (E.2.1 (17 + f)), .int (ji p9)] (fun v M9 => v = some (.int (ji (bi (zrC M f dim r p9)))) ∧ M9 = M) := by
  refine MM.ofG (by decide +kernel) (Nat.le_of_ble_eq_true rfl) ?_
  intro p_ e_ s_ m_ a_ b_ t_ c_ hx hb hml hr hk hg hown hK hP hS ls hl
  have hl : lv_has ls 2 [(0, .ref (E.2.1 (17 + f))), (1, .int (ji p9))] := hl
  obtain ⟨hG, hle, hdm, hd1, hd5, hD0, hDb, hpo, hne⟩ := id hD
  have hr5 := hG.1
  have hr3 := hG.2.1
  refine lv_aload_n hx hb dD_hasZeroAt_0 rfl (lv_at hl 0 rfl) ?_
  refine m_get (C := "RationalForms$Diagonal") (T := TxD) (N := 8) hx hb hg uwD hown hK hP (by omega) (sh_D E _ (by omega)) rfl 3 (by decide) wd70 rfl dD_hasZeroAt_1 ?_
  refine lv_aload_n hx hb dD_hasZeroAt_4 rfl (lv_at hl 0 rfl) ?_
  refine m_get (C := "RationalForms$Diagonal") (T := TxD) (N := 8) hx hb hg uwD hown hK hP (by omega) (sh_D E _ (by omega)) rfl 2 (by decide) wd68 rfl dD_hasZeroAt_5 ?_
  refine j_icmp_ge hx hb (by rw [hr3]; omega) (by rw [hdm]; omega) dD_hasZeroAt_8 rfl (fun h1 => ?_) (fun h1 => ?_)
  · have hrd : r = dim := by
      rw [hr3, hdm] at h1
      omega
    have hr1 : 1 ≤ r := by omega
    refine lv_aload_n hx hb dD_hasZeroAt_13 rfl (lv_at hl 0 rfl) ?_
    refine m_get (C := "RationalForms$Diagonal") (T := TxD) (N := 8) hx hb hg uwD hown hK hP (by omega) (sh_D E _ (by omega)) rfl 3 (by decide) wd70 rfl dD_hasZeroAt_14 ?_
    rw [hr3]
    have hcase : r = 1 ∨ r = 2 ∨ r = 3 ∨ r = 4 ∨ r = 5 := by omega
    rcases hcase with hc | hc | hc | hc | hc
    · skip
      refine j_tabI (z := (r : Int)) hx hb (by omega) (by omega) (by omega) (by rw [hc]; rfl) dD_hasZeroAt_17 rfl ?_
      refine j_iconst hx hb dD_hasZeroAt_48 ?_
      exact mm_zret hx hb hr hk hP hS dD_hasZeroAt_49 nar_0 ⟨by rw [bi_f (show ¬ zrC M f dim r p9 from fun q => by unfold zrC zr at q; omega)], rfl⟩
    · skip
      refine j_tabI (z := (r : Int)) hx hb (by omega) (by omega) (by omega) (by rw [hc]; rfl) dD_hasZeroAt_17 rfl ?_
      refine lv_aload_n hx hb dD_hasZeroAt_50 rfl (lv_at hl 0 rfl) ?_
      refine m_get (C := "RationalForms$Diagonal") (T := TxD) (N := 8) hx hb hg uwD hown hK hP (by omega) (sh_D E _ (by omega)) rfl 6 (by decide) wd76 rfl dD_hasZeroAt_51 ?_
      refine j_lneg hx hb dD_hasZeroAt_54 ?_
      refine lv_iload_n hx hb dD_hasZeroAt_55 rfl (lv_at hl 1 rfl) ?_
      refine pm_G (As := [.long (jl (-(M (17 + f) 6))), .int (ji p9)]) (rest := []) hx hb hml hown hg hl (kP_isSquare l (-(M (17 + f) 6)) p9 (by omega) (by omega) hp) wd389 wd390 wd14 wd391 ⟨rfl, rfl⟩ (n := 2) (by decide +kernel) rfl ⟨by decide, by decide⟩ rfl (Nat.le_of_ble_eq_true rfl) dD_hasZeroAt_56 ⟨Nat.zero_le _, Nat.zero_le _⟩ (fun r hr9 => ?_)
      subst hr9
      have he : sq (-(M (17 + f) 6)) p9 ↔ zrC M f dim r p9 := ⟨fun q => Or.inr (Or.inl ⟨hc, q⟩), fun q => by rcases q with q | q | q | q | q; omega; exact q.2; omega; omega; omega⟩
      exact mm_zret hx hb hr hk hP hS dD_hasZeroAt_59 (nar_bi _) ⟨by rw [bi_iff he], rfl⟩
    · skip
      refine j_tabI (z := (r : Int)) hx hb (by omega) (by omega) (by omega) (by rw [hc]; rfl) dD_hasZeroAt_17 rfl ?_
      refine lv_aload_n hx hb dD_hasZeroAt_60 rfl (lv_at hl 0 rfl) ?_
      refine lv_iload_n hx hb dD_hasZeroAt_61 rfl (lv_at hl 1 rfl) ?_
      refine mm_V (As := [.int (ji p9)]) (rest := []) hx hb hml hown hg hl hK hP hS (by omega) (sh_D E _ (by omega)) rfl (kD_hasseSign l E hJ M f hf r hG p9 hp) wd211 wd181 wd182 wd4 wd183 ⟨rfl, rfl⟩ (n := 1) (by decide +kernel) rfl ⟨by decide, by decide⟩ rfl (Nat.le_of_ble_eq_true rfl) dD_hasZeroAt_62 ⟨Nat.zero_le _, Nat.zero_le _⟩ (fun v M2 H locs hq hP hS => ?_)
      obtain ⟨rfl, hM2⟩ := hq
      rw [hM2] at hP
      refine j_ldc2 (z := -1) hx hb hown hg wd392 rfl dD_hasZeroAt_65 ?_
      refine lv_aload_n hx hb dD_hasZeroAt_68 rfl (lv_at hl 0 rfl) ?_
      refine m_get (C := "RationalForms$Diagonal") (T := TxD) (N := 8) hx hb hg uwD hown hK hP (by omega) (sh_D E _ (by omega)) rfl 6 (by decide) wd76 rfl dD_hasZeroAt_69 ?_
      refine j_lneg hx hb dD_hasZeroAt_72 ?_
      refine lv_iload_n hx hb dD_hasZeroAt_73 rfl (lv_at hl 1 rfl) ?_
      refine pm_G (As := [.long (jl (-1)), .long (jl (-(M (17 + f) 6))), .int (ji p9)]) (rest := [.int (ji (hsC M f r p9))]) hx hb hml hown hg hl (kP_symbolOf l (-1) (-(M (17 + f) 6)) p9 (by decide) (by omega) (by decide) (by omega) hp) wd184 wd185 wd14 wd186 ⟨rfl, rfl⟩ (n := 3) (by decide +kernel) rfl ⟨by decide, by decide⟩ rfl (Nat.le_of_ble_eq_true rfl) dD_hasZeroAt_74 ⟨Nat.zero_le _, Nat.zero_le _⟩ (fun r hr9 => ?_)
      subst hr9
      refine j_icmp_ne hx hb (pm1_b32 (hs_pm (fun a b => sy_pm a b p9) _ _)) (pm1_b32 (sy_pm _ _ _)) dD_hasZeroAt_77 rfl (fun h2 => ?_) (fun h2 => ?_)
      · refine j_iconst hx hb dD_hasZeroAt_84 ?_
        exact mm_zret hx hb hr hk hP hS dD_hasZeroAt_85 nar_0 ⟨by rw [bi_f (show ¬ zrC M f dim r p9 from fun q => by rcases q with q | q | q | q | q; omega; omega; exact h2 q.2; omega; omega)], rfl⟩
      · refine j_iconst hx hb dD_hasZeroAt_80 ?_
        refine lv_goto hx hb dD_hasZeroAt_81 rfl ?_
        exact mm_zret hx hb hr hk hP hS dD_hasZeroAt_85 nar_1 ⟨by rw [bi_t (show zrC M f dim r p9 from Or.inr (Or.inr (Or.inl ⟨hc, h2⟩)))], rfl⟩
    · skip
      refine j_tabI (z := (r : Int)) hx hb (by omega) (by omega) (by omega) (by rw [hc]; rfl) dD_hasZeroAt_17 rfl ?_
      refine lv_aload_n hx hb dD_hasZeroAt_86 rfl (lv_at hl 0 rfl) ?_
      refine m_get (C := "RationalForms$Diagonal") (T := TxD) (N := 8) hx hb hg uwD hown hK hP (by omega) (sh_D E _ (by omega)) rfl 6 (by decide) wd76 rfl dD_hasZeroAt_87 ?_
      refine lv_iload_n hx hb dD_hasZeroAt_90 rfl (lv_at hl 1 rfl) ?_
      refine pm_G (As := [.long (jl (M (17 + f) 6)), .int (ji p9)]) (rest := []) hx hb hml hown hg hl (kP_isSquare l (M (17 + f) 6) p9 (by omega) hD0 hp) wd389 wd390 wd14 wd391 ⟨rfl, rfl⟩ (n := 2) (by decide +kernel) rfl ⟨by decide, by decide⟩ rfl (Nat.le_of_ble_eq_true rfl) dD_hasZeroAt_91 ⟨Nat.zero_le _, Nat.zero_le _⟩ (fun r hr9 => ?_)
      subst hr9
      refine j_if_eq hx hb (bi_b32 _) dD_hasZeroAt_94 rfl (fun h2 => ?_) (fun h2 => ?_)
      · refine j_iconst hx hb dD_hasZeroAt_115 ?_
        refine lv_goto hx hb dD_hasZeroAt_116 rfl ?_
        exact mm_zret hx hb hr hk hP hS dD_hasZeroAt_120 nar_1 ⟨by rw [bi_t (show zrC M f dim r p9 from Or.inr (Or.inr (Or.inr (Or.inl ⟨hc, Or.inl (bi_eq h2)⟩))))], rfl⟩
      · have hsq := bi_ne h2
        refine lv_aload_n hx hb dD_hasZeroAt_97 rfl (lv_at hl 0 rfl) ?_
        refine lv_iload_n hx hb dD_hasZeroAt_98 rfl (lv_at hl 1 rfl) ?_
        refine mm_V (As := [.int (ji p9)]) (rest := []) hx hb hml hown hg hl hK hP hS (by omega) (sh_D E _ (by omega)) rfl (kD_hasseSign l E hJ M f hf r hG p9 hp) wd211 wd181 wd182 wd4 wd183 ⟨rfl, rfl⟩ (n := 1) (by decide +kernel) rfl ⟨by decide, by decide⟩ rfl (Nat.le_of_ble_eq_true rfl) dD_hasZeroAt_99 ⟨Nat.zero_le _, Nat.zero_le _⟩ (fun v M2 H locs hq hP hS => ?_)
        obtain ⟨rfl, hM2⟩ := hq
        rw [hM2] at hP
        refine j_ldc2 (z := -1) hx hb hown hg wd392 rfl dD_hasZeroAt_102 ?_
        refine j_ldc2 (z := -1) hx hb hown hg wd392 rfl dD_hasZeroAt_105 ?_
        refine lv_iload_n hx hb dD_hasZeroAt_108 rfl (lv_at hl 1 rfl) ?_
        refine pm_G (As := [.long (jl (-1)), .long (jl (-1)), .int (ji p9)]) (rest := [.int (ji (hsC M f r p9))]) hx hb hml hown hg hl (kP_symbolOf l (-1) (-1) p9 (by decide) (by decide) (by decide) (by decide) hp) wd184 wd185 wd14 wd186 ⟨rfl, rfl⟩ (n := 3) (by decide +kernel) rfl ⟨by decide, by decide⟩ rfl (Nat.le_of_ble_eq_true rfl) dD_hasZeroAt_109 ⟨Nat.zero_le _, Nat.zero_le _⟩ (fun r hr9 => ?_)
        subst hr9
        refine j_icmp_ne hx hb (pm1_b32 (hs_pm (fun a b => sy_pm a b p9) _ _)) (pm1_b32 (sy_pm _ _ _)) dD_hasZeroAt_112 rfl (fun h3 => ?_) (fun h3 => ?_)
        · refine j_iconst hx hb dD_hasZeroAt_119 ?_
          exact mm_zret hx hb hr hk hP hS dD_hasZeroAt_120 nar_0 ⟨by rw [bi_f (show ¬ zrC M f dim r p9 from fun q => by rcases q with q | q | q | q | q; omega; omega; omega; exact q.2.elim (fun z => z hsq) h3; omega)], rfl⟩
        · refine j_iconst hx hb dD_hasZeroAt_115 ?_
          refine lv_goto hx hb dD_hasZeroAt_116 rfl ?_
          exact mm_zret hx hb hr hk hP hS dD_hasZeroAt_120 nar_1 ⟨by rw [bi_t (show zrC M f dim r p9 from Or.inr (Or.inr (Or.inr (Or.inl ⟨hc, Or.inr h3⟩))))], rfl⟩
    · skip
      refine j_tabO (z := (r : Int)) hx hb (by omega) (by omega) dD_hasZeroAt_17 rfl ?_
      refine lv_iload_n hx hb dD_hasZeroAt_121 rfl (lv_at hl 1 rfl) ?_
      refine j_if_ne hx hb (by omega) dD_hasZeroAt_122 rfl (fun h2 => ?_) (fun h2 => ?_)
      · refine j_iconst hx hb dD_hasZeroAt_139 ?_
        refine lv_goto hx hb dD_hasZeroAt_140 rfl ?_
        exact mm_zret hx hb hr hk hP hS dD_hasZeroAt_144 nar_1 ⟨by rw [bi_t (show zrC M f dim r p9 from Or.inr (Or.inr (Or.inr (Or.inr ⟨by omega, Or.inl h2⟩))))], rfl⟩
      · refine lv_aload_n hx hb dD_hasZeroAt_125 rfl (lv_at hl 0 rfl) ?_
        refine m_get (C := "RationalForms$Diagonal") (T := TxD) (N := 8) hx hb hg uwD hown hK hP (by omega) (sh_D E _ (by omega)) rfl 4 (by decide) wd72 rfl dD_hasZeroAt_126 ?_
        refine j_if_le hx hb hpo dD_hasZeroAt_129 rfl (fun h3 => ?_) (fun h3 => ?_)
        · refine j_iconst hx hb dD_hasZeroAt_143 ?_
          exact mm_zret hx hb hr hk hP hS dD_hasZeroAt_144 nar_0 ⟨by rw [bi_f (show ¬ zrC M f dim r p9 from fun q => by rcases q with q | q | q | q | q; omega; omega; omega; omega; omega)], rfl⟩
        · refine lv_aload_n hx hb dD_hasZeroAt_132 rfl (lv_at hl 0 rfl) ?_
          refine m_get (C := "RationalForms$Diagonal") (T := TxD) (N := 8) hx hb hg uwD hown hK hP (by omega) (sh_D E _ (by omega)) rfl 5 (by decide) wd74 rfl dD_hasZeroAt_133 ?_
          refine j_if_le hx hb hne dD_hasZeroAt_136 rfl (fun h4 => ?_) (fun h4 => ?_)
          · refine j_iconst hx hb dD_hasZeroAt_143 ?_
            exact mm_zret hx hb hr hk hP hS dD_hasZeroAt_144 nar_0 ⟨by rw [bi_f (show ¬ zrC M f dim r p9 from fun q => by rcases q with q | q | q | q | q; omega; omega; omega; omega; omega)], rfl⟩
          · refine j_iconst hx hb dD_hasZeroAt_139 ?_
            refine lv_goto hx hb dD_hasZeroAt_140 rfl ?_
            exact mm_zret hx hb hr hk hP hS dD_hasZeroAt_144 nar_1 ⟨by rw [bi_t (show zrC M f dim r p9 from Or.inr (Or.inr (Or.inr (Or.inr ⟨by omega, Or.inr ⟨h3, h4⟩⟩))))], rfl⟩
  · rw [hr3, hdm] at h1
    refine j_iconst hx hb dD_hasZeroAt_11 ?_
    exact mm_zret hx hb hr hk hP hS dD_hasZeroAt_12 nar_1 ⟨by rw [bi_t (show zrC M f dim r p9 from Or.inl (by omega))], rfl⟩

set_option maxRecDepth 100000 in
set_option maxHeartbeats 4000000 in
theorem kD_lowestPrimeWithoutRoot (l : Launch) (E : En) (hJ : wJ E) (M : Me) (f : Nat) (hf : f < 2) (hD0 : M (17 + f) 6 ≠ 0) (hDb : -9223372036854775807 ≤ M (17 + f) 6 ∧ M (17 + f) 6 ≤ 9223372036854775807) (h : Nat) (hh : h ≤ 2147483647) (h2 : 2 ≤ h) : MM l yD_lowestPrimeWithoutRoot wsD_lowestPrimeWithoutRoot (rmd 3) E M [.ref (E.2.1 (17 + f)), .int (ji ((h:Int)))] (fun v M9 => (∃ w : Nat, v = some (.int (ji w)) ∧ lpr (M (17 + f) 6) h w) ∧ M9 = M) := by
  refine MM.ofG (by decide +kernel) (Nat.le_of_ble_eq_true rfl) ?_
  intro p_ e_ s_ m_ a_ b_ t_ c_ hx hb hml hr hk hg hown hK hP hS ls hl
  have hl : lv_has ls 3 [(0, .ref (E.2.1 (17 + f))), (1, .int (ji ((h:Int))))] := hl
  have loop : ∀ (N i : Nat) (ls : Array Slot), i + N = h → 2 ≤ i → (∀ m : Nat, m < i → prm m → sq (-(M (17 + f) 6)) m) → lv_has ls 3 [(2, .int (ji ((i:Int)))), (0, .ref (E.2.1 (17 + f))), (1, .int (ji ((h:Int))))] → W p_ l e_ (rmd 3) s_ m_ a_ b_ t_ c_ s_.heap [] 0 0 (XQ b_ (mmQ E (fun v M9 => (∃ w : Nat, v = some (.int (ji w)) ∧ lpr (M (17 + f) 6) h w) ∧ M9 = M)) a_ s_ 0 0 (wA E)) (F0 m_ 2 ls []) := by
    intro N
    induction N with
    | zero =>
      intro i ls h0 hi2 hz hl
      refine lv_iload_n hx hb dD_lowestPrimeWithoutRoot_2 rfl (lv_at hl 0 rfl) ?_
      refine lv_iload_n hx hb dD_lowestPrimeWithoutRoot_3 rfl (lv_at hl 2 rfl) ?_
      refine j_icmp_ge hx hb (by omega) (by omega) dD_lowestPrimeWithoutRoot_4 rfl (fun h1 => ?_) (fun h1 => ?_)
      · have hih : i = h := by omega
        refine lv_iload_n hx hb dD_lowestPrimeWithoutRoot_34 rfl (lv_at hl 2 rfl) ?_
        exact mm_iret hx hb hr hk hP hS dD_lowestPrimeWithoutRoot_35 ⟨⟨h, rfl, Or.inr ⟨rfl, by rw [← hih]; exact hz⟩⟩, rfl⟩
      · omega
    | succ N ih =>
      intro i ls h0 hi2 hz hl
      refine lv_iload_n hx hb dD_lowestPrimeWithoutRoot_2 rfl (lv_at hl 0 rfl) ?_
      refine lv_iload_n hx hb dD_lowestPrimeWithoutRoot_3 rfl (lv_at hl 2 rfl) ?_
      refine j_icmp_ge hx hb (by omega) (by omega) dD_lowestPrimeWithoutRoot_4 rfl (fun h1 => ?_) (fun h1 => ?_)
      · omega
      · refine lv_iload_n hx hb dD_lowestPrimeWithoutRoot_7 rfl (lv_at hl 0 rfl) ?_
        refine pm_G (As := [.int (ji ((i:Int)))]) (rest := []) hx hb hml hown hg hl (kW_isPrime l (i : Int) (by omega)) wd409 wd367 wd11 wd368 ⟨rfl, rfl⟩ (n := 1) (by decide +kernel) rfl ⟨by decide, by decide⟩ rfl (Nat.le_of_ble_eq_true rfl) dD_lowestPrimeWithoutRoot_8 ⟨Nat.zero_le _, Nat.zero_le _⟩ (fun r hr9 => ?_)
        subst hr9
        refine j_if_eq hx hb (bi_b32 _) dD_lowestPrimeWithoutRoot_11 rfl (fun h3 => ?_) (fun h3 => ?_)
        · refine lv_iinc (k := 0) (v := ji (((i:Int)) + 1)) hx hb dD_lowestPrimeWithoutRoot_28 hl rfl (Int32.ofInt_add _ _).symm (by decide) rfl (fun ls hl => ?_)
          have hl : lv_has ls 3 [(2, .int (ji (((i:Int)) + 1))), (0, .ref (E.2.1 (17 + f))), (1, .int (ji ((h:Int))))] := hl
          refine lv_goto hx hb dD_lowestPrimeWithoutRoot_31 rfl ?_
          refine ih (i + 1) ls (by omega) (by omega) (fun m hm hp => ?_) hl
          rcases Nat.lt_or_ge m i with g | g
          · exact hz m g hp
          · have hmi : m = i := by omega
            subst hmi
            exact absurd hp (by have := bi_eq h3; rwa [Int.toNat_natCast] at this)
        · have hpi : prm i := by have := bi_ne h3; rwa [Int.toNat_natCast] at this
          refine lv_aload_n hx hb dD_lowestPrimeWithoutRoot_14 rfl (lv_at hl 1 rfl) ?_
          refine m_get (C := "RationalForms$Diagonal") (T := TxD) (N := 8) hx hb hg uwD hown hK hP (by omega) (sh_D E _ (by omega)) rfl 6 (by decide) wd76 rfl dD_lowestPrimeWithoutRoot_15 ?_
          refine j_lneg hx hb dD_lowestPrimeWithoutRoot_18 ?_
          refine lv_iload_n hx hb dD_lowestPrimeWithoutRoot_19 rfl (lv_at hl 0 rfl) ?_
          refine pm_G (As := [.long (jl (-(M (17 + f) 6))), .int (ji ((i:Int)))]) (rest := []) hx hb hml hown hg hl (kP_isSquare l (-(M (17 + f) 6)) (i : Int) (by omega) (by omega) (Or.inr (by omega))) wd389 wd390 wd14 wd391 ⟨rfl, rfl⟩ (n := 2) (by decide +kernel) rfl ⟨by decide, by decide⟩ rfl (Nat.le_of_ble_eq_true rfl) dD_lowestPrimeWithoutRoot_20 ⟨Nat.zero_le _, Nat.zero_le _⟩ (fun r hr9 => ?_)
          subst hr9
          refine j_if_ne hx hb (bi_b32 _) dD_lowestPrimeWithoutRoot_23 rfl (fun h4 => ?_) (fun h4 => ?_)
          · have hs4 := bi_ne h4
            refine lv_iinc (k := 0) (v := ji (((i:Int)) + 1)) hx hb dD_lowestPrimeWithoutRoot_28 hl rfl (Int32.ofInt_add _ _).symm (by decide) rfl (fun ls hl => ?_)
            have hl : lv_has ls 3 [(2, .int (ji (((i:Int)) + 1))), (0, .ref (E.2.1 (17 + f))), (1, .int (ji ((h:Int))))] := hl
            refine lv_goto hx hb dD_lowestPrimeWithoutRoot_31 rfl ?_
            refine ih (i + 1) ls (by omega) (by omega) (fun m hm hp => ?_) hl
            rcases Nat.lt_or_ge m i with g | g
            · exact hz m g hp
            · have hmi : m = i := by omega
              subst hmi
              exact hs4
          · have hs4 := bi_eq h4
            refine lv_iload_n hx hb dD_lowestPrimeWithoutRoot_26 rfl (lv_at hl 0 rfl) ?_
            exact mm_iret hx hb hr hk hP hS dD_lowestPrimeWithoutRoot_27 ⟨⟨i, rfl, Or.inl ⟨by omega, hpi, hs4, hz⟩⟩, rfl⟩
  refine j_iconst hx hb dD_lowestPrimeWithoutRoot_0 ?_
  refine lv_istore_n hx hb dD_lowestPrimeWithoutRoot_1 rfl hl (by decide) rfl (fun ls hl => ?_)
  have hl : lv_has ls 3 [(2, .int (ji 2)), (0, .ref (E.2.1 (17 + f))), (1, .int (ji ((h:Int))))] := hl
  exact loop (h - 2) 2 ls (by omega) (by omega) (fun m hm hp => absurd hp.1 (by omega)) hl

set_option maxRecDepth 100000 in
set_option maxHeartbeats 4000000 in
theorem kD_lowestPlaceWithoutZero (l : Launch) (E : En) (hJ : wJ E) (M : Me) (f : Nat) (hf : f < 2) (dim r : Nat) (hD : DF M f dim r) (c : Nat) (hc : M (17 + f) 7 = c) (hc2 : c ≤ 32) (S : Nat → Prop) (hS0 : SL c (M (21 + f)) S) (hb0 : ∀ q, S q → 2 ≤ q ∧ q ≤ 2147483647) : MM l yD_lowestPlaceWithoutZero wsD_lowestPlaceWithoutZero (rmd 5) E M [.ref (E.2.1 (17 + f))] (fun v M9 => (∃ z : Int, v = some (.int (ji z)) ∧ b32 z ∧ lpz S (zrC M f dim r) r (M (17 + f) 6) z) ∧ M9 = M) := by
  refine MM.ofG (by decide +kernel) (Nat.le_of_ble_eq_true rfl) ?_
  intro p_ e_ s_ m_ a_ b_ t_ c_ hx hb hml hr hk hg hown hK hP hS ls hl
  have hl : lv_has ls 2 [(0, .ref (E.2.1 (17 + f)))] := hl
  have hr3 := hD.1.2.1
  have hr5 := hD.1.1
  refine lv_aload_n hx hb dD_lowestPlaceWithoutZero_0 rfl (lv_at hl 0 rfl) ?_
  refine j_iconst hx hb dD_lowestPlaceWithoutZero_1 ?_
  refine mm_V (As := [.int (ji 0)]) (rest := []) hx hb hml hown hg hl hK hP hS (by omega) (sh_D E _ (by omega)) rfl (kD_hasZeroAt l E hJ M f hf dim r hD 0 (Or.inl rfl)) wd404 wd386 wd387 wd4 wd388 ⟨rfl, rfl⟩ (n := 1) (by decide +kernel) rfl ⟨by decide, by decide⟩ rfl (Nat.le_of_ble_eq_true rfl) dD_lowestPlaceWithoutZero_2 ⟨Nat.zero_le _, Nat.zero_le _⟩ (fun v M2 H locs hq hP hS => ?_)
  obtain ⟨rfl, hM2⟩ := hq
  rw [hM2] at hP
  refine j_if_ne hx hb (bi_b32 _) dD_lowestPlaceWithoutZero_5 rfl (fun h1 => ?_) (fun h1 => ?_)
  · have hz0 := bi_ne h1
    have loop : ∀ (N i : Nat) (ls : Array Slot) (H : Heap) (locs : List Loc), i + N = c → (∀ q, S q → (∃ j, j < i ∧ M (21 + f) j = q) → zrC M f dim r q) → lv_has ls 2 [(1, .int (ji ((i:Int)))), (0, .ref (E.2.1 (17 + f)))] → wP E M H → va_S (wA E) s_.heap H locs → W p_ l e_ (rmd 5) s_ m_ a_ b_ t_ c_ H locs 0 0 (XQ b_ (mmQ E (fun v M9 => (∃ z : Int, v = some (.int (ji z)) ∧ b32 z ∧ lpz S (zrC M f dim r) r (M (17 + f) 6) z) ∧ M9 = M)) a_ s_ 0 0 (wA E)) (F0 m_ 12 ls []) := by
      intro N
      induction N with
      | zero =>
        intro i ls H locs h0 hz hl hP hS
        refine lv_iload_n hx hb dD_lowestPlaceWithoutZero_12 rfl (lv_at hl 0 rfl) ?_
        refine lv_aload_n hx hb dD_lowestPlaceWithoutZero_13 rfl (lv_at hl 1 rfl) ?_
        refine m_get (C := "RationalForms$Diagonal") (T := TxD) (N := 8) hx hb hg uwD hown hK hP (by omega) (sh_D E _ (by omega)) rfl 7 (by decide) wd78 rfl dD_lowestPlaceWithoutZero_14 ?_
        refine j_icmp_ge hx hb (by omega) (by rw [hc]; omega) dD_lowestPlaceWithoutZero_17 rfl (fun h2 => ?_) (fun h2 => ?_)
        · have hall : ∀ q : Nat, S q → zrC M f dim r q := fun q hq => by
            obtain ⟨j, j1, j2⟩ := hS0.2.2 q hq
            exact hz q hq ⟨j, by omega, j2⟩
          refine j_iconst hx hb dD_lowestPlaceWithoutZero_67 ?_
          exact mm_iret hx hb hr hk hP hS dD_lowestPlaceWithoutZero_68 ⟨⟨-1, rfl, by decide, fun g => absurd hz0 g, fun _ _ => rfl, fun _ q g1 g2 => absurd (hall q g1) g2⟩, rfl⟩
        · rw [hc] at h2
          omega
      | succ N ih =>
        intro i ls H locs h0 hz hl hP hS
        obtain ⟨q, q1, q2⟩ := hS0.2.1 i (by omega)
        have hpl : plc (M (21 + f) i) := by rw [q1]; have := hb0 q q2; right; omega
        have hbq := hb0 q q2
        refine lv_iload_n hx hb dD_lowestPlaceWithoutZero_12 rfl (lv_at hl 0 rfl) ?_
        refine lv_aload_n hx hb dD_lowestPlaceWithoutZero_13 rfl (lv_at hl 1 rfl) ?_
        refine m_get (C := "RationalForms$Diagonal") (T := TxD) (N := 8) hx hb hg uwD hown hK hP (by omega) (sh_D E _ (by omega)) rfl 7 (by decide) wd78 rfl dD_lowestPlaceWithoutZero_14 ?_
        refine j_icmp_ge hx hb (by omega) (by rw [hc]; omega) dD_lowestPlaceWithoutZero_17 rfl (fun h2 => ?_) (fun h2 => ?_)
        · rw [hc] at h2
          omega
        · refine lv_aload_n hx hb dD_lowestPlaceWithoutZero_20 rfl (lv_at hl 1 rfl) ?_
          refine lv_aload_n hx hb dD_lowestPlaceWithoutZero_21 rfl (lv_at hl 1 rfl) ?_
          refine m_get (C := "RationalForms$Diagonal") (T := TxD) (N := 8) hx hb hg uwD hown hK hP (by omega) (sh_D E _ (by omega)) rfl 1 (by decide) wd67 rfl dD_lowestPlaceWithoutZero_22 ?_
          refine lv_iload_n hx hb dD_lowestPlaceWithoutZero_25 rfl (lv_at hl 0 rfl) ?_
          refine m_iald (n := i) hx hb hK hP (by omega) (sh_p E _ (by omega)) rfl (by omega) (by decide) dD_lowestPlaceWithoutZero_26 ?_
          refine mm_V (As := [.int (ji (M (21 + f) i))]) (rest := []) hx hb hml hown hg hl hK hP hS (by omega) (sh_D E _ (by omega)) rfl (kD_hasZeroAt l E hJ M f hf dim r hD (M (21 + f) i) hpl) wd404 wd386 wd387 wd4 wd388 ⟨rfl, rfl⟩ (n := 1) (by decide +kernel) rfl ⟨by decide, by decide⟩ rfl (Nat.le_of_ble_eq_true rfl) dD_lowestPlaceWithoutZero_27 ⟨Nat.zero_le _, Nat.zero_le _⟩ (fun v M3 H locs hq3 hP hS => ?_)
          obtain ⟨rfl, hM3⟩ := hq3
          rw [hM3] at hP
          refine j_if_ne hx hb (bi_b32 _) dD_lowestPlaceWithoutZero_30 rfl (fun h3 => ?_) (fun h3 => ?_)
          · have hz3 := bi_ne h3
            refine lv_iinc (k := 0) (v := ji (((i:Int)) + 1)) hx hb dD_lowestPlaceWithoutZero_61 hl rfl (Int32.ofInt_add _ _).symm (by decide) rfl (fun ls hl => ?_)
            have hl : lv_has ls 2 [(1, .int (ji (((i:Int)) + 1))), (0, .ref (E.2.1 (17 + f)))] := hl
            refine lv_goto hx hb dD_lowestPlaceWithoutZero_64 rfl ?_
            refine ih (i + 1) ls H locs (by omega) (fun m hm hj => ?_) hl hP hS
            obtain ⟨j, j1, j2⟩ := hj
            rcases Nat.lt_or_ge j i with g | g
            · exact hz m hm ⟨j, g, j2⟩
            · have hji : j = i := by omega
              rw [hji] at j2
              rw [← j2]
              exact hz3
          · have hz3 := bi_eq h3
            rw [q1] at hz3
            have hlow : ∀ m : Nat, S m → m < q → zrC M f dim r m := fun m hm hlt => by
              obtain ⟨j, j1, j2⟩ := hS0.2.2 m hm
              refine hz m hm ⟨j, ?_, j2⟩
              rcases Nat.lt_or_ge j i with g | g
              · exact g
              · rcases Nat.lt_or_ge i j with g4 | g4
                · have := hS0.1 i j g4 j1
                  omega
                · have hji : j = i := by omega
                  rw [hji] at j2
                  omega
            have huq : ∀ q' : Nat, S q' → ¬ zrC M f dim r q' → (∀ m : Nat, S m → m < q' → zrC M f dim r m) → q' = q := fun q' g1 g2 g3 => by
              rcases Nat.lt_trichotomy q' q with g | g | g
              · exact absurd (hlow q' g1 g) g2
              · exact g
              · exact absurd (g3 q q2 g) hz3
            refine lv_aload_n hx hb dD_lowestPlaceWithoutZero_33 rfl (lv_at hl 1 rfl) ?_
            refine m_get (C := "RationalForms$Diagonal") (T := TxD) (N := 8) hx hb hg uwD hown hK hP (by omega) (sh_D E _ (by omega)) rfl 3 (by decide) wd70 rfl dD_lowestPlaceWithoutZero_34 ?_
            refine j_iconst hx hb dD_lowestPlaceWithoutZero_37 ?_
            refine j_icmp_ne hx hb (by rw [hr3]; omega) (by decide) dD_lowestPlaceWithoutZero_38 rfl (fun h4 => ?_) (fun h4 => ?_)
            · refine lv_aload_n hx hb dD_lowestPlaceWithoutZero_54 rfl (lv_at hl 1 rfl) ?_
              refine m_get (C := "RationalForms$Diagonal") (T := TxD) (N := 8) hx hb hg uwD hown hK hP (by omega) (sh_D E _ (by omega)) rfl 1 (by decide) wd67 rfl dD_lowestPlaceWithoutZero_55 ?_
              refine lv_iload_n hx hb dD_lowestPlaceWithoutZero_58 rfl (lv_at hl 0 rfl) ?_
              refine m_iald (n := i) hx hb hK hP (by omega) (sh_p E _ (by omega)) rfl (by omega) (by decide) dD_lowestPlaceWithoutZero_59 ?_
              exact mm_iret hx hb hr hk hP hS dD_lowestPlaceWithoutZero_60 ⟨⟨M (21 + f) i, rfl, by omega, fun g => absurd hz0 g, fun _ g => absurd (g q q2) hz3, fun _ q' g1 g2 g3 => ⟨fun _ => by rw [huq q' g1 g2 g3]; exact q1, fun g => absurd (show M (17 + f) 3 = 2 by rw [hr3, g]; rfl) h4⟩⟩, rfl⟩
            · refine lv_aload_n hx hb dD_lowestPlaceWithoutZero_41 rfl (lv_at hl 1 rfl) ?_
              refine lv_aload_n hx hb dD_lowestPlaceWithoutZero_42 rfl (lv_at hl 1 rfl) ?_
              refine m_get (C := "RationalForms$Diagonal") (T := TxD) (N := 8) hx hb hg uwD hown hK hP (by omega) (sh_D E _ (by omega)) rfl 1 (by decide) wd67 rfl dD_lowestPlaceWithoutZero_43 ?_
              refine lv_iload_n hx hb dD_lowestPlaceWithoutZero_46 rfl (lv_at hl 0 rfl) ?_
              refine m_iald (n := i) hx hb hK hP (by omega) (sh_p E _ (by omega)) rfl (by omega) (by decide) dD_lowestPlaceWithoutZero_47 ?_
              rw [q1]
              refine mm_V (As := [.int (ji ((q:Int)))]) (rest := []) hx hb hml hown hg hl hK hP hS (by omega) (sh_D E _ (by omega)) rfl (kD_lowestPrimeWithoutRoot l E hJ M f hf hD.2.2.2.2.2.1 hD.2.2.2.2.2.2.1 q (by omega) (by omega)) wd405 wd407 wds10 wd4 wd408 ⟨rfl, rfl⟩ (n := 1) (by decide +kernel) rfl ⟨by decide, by decide⟩ rfl (Nat.le_of_ble_eq_true rfl) dD_lowestPlaceWithoutZero_48 ⟨Nat.zero_le _, Nat.zero_le _⟩ (fun v M4 H locs hq4 hP hS => ?_)
              obtain ⟨⟨w, rfl, hw⟩, hM4⟩ := hq4
              rw [hM4] at hP
              refine lv_goto hx hb dD_lowestPlaceWithoutZero_51 rfl ?_
              exact mm_iret hx hb hr hk hP hS dD_lowestPlaceWithoutZero_60 ⟨⟨w, rfl, by rcases hw with hw | hw <;> omega, fun g => absurd hz0 g, fun _ g => absurd (g q q2) hz3, fun _ q' g1 g2 g3 => ⟨fun g => absurd (show r = 2 by rw [hr3] at h4; omega) g, fun _ => ⟨w, rfl, by rw [huq q' g1 g2 g3]; exact hw⟩⟩⟩, rfl⟩
    refine j_iconst hx hb dD_lowestPlaceWithoutZero_10 ?_
    refine lv_istore_n hx hb dD_lowestPlaceWithoutZero_11 rfl hl (by decide) rfl (fun ls hl => ?_)
    have hl : lv_has ls 2 [(1, .int (ji 0)), (0, .ref (E.2.1 (17 + f)))] := hl
    exact loop c 0 ls H locs (by omega) (fun q _ hj => by obtain ⟨j, j1, _⟩ := hj; omega) hl hP hS
  · have hz0 := bi_eq h1
    refine j_iconst hx hb dD_lowestPlaceWithoutZero_8 ?_
    exact mm_iret hx hb hr hk hP hS dD_lowestPlaceWithoutZero_9 ⟨⟨0, rfl, by decide, fun _ => rfl, fun g => absurd g hz0, fun g => absurd g hz0⟩, rfl⟩

set_option maxRecDepth 100000 in
set_option maxHeartbeats 4000000 in
theorem kD_agreesAtOwnPrimes (l : Launch) (E : En) (hJ : wJ E) (M : Me) (f f9 : Nat) (hf : f < 2) (hf9 : f9 < 2) (r r9 : Nat) (hG : DG M f r) (hG9 : DG M f9 r9) (c : Nat) (hc : M (17 + f) 7 = c) (hc2 : c ≤ 32) (S : Nat → Prop) (hS0 : SL c (M (21 + f)) S) (hb0 : ∀ q, S q → 2 ≤ q ∧ q ≤ 2147483647) : MM l yD_agreesAtOwnPrimes wsD_agreesAtOwnPrimes (rmd 4) E M [.ref (E.2.1 (17 + f)), .ref (E.2.1 (17 + f9))] (fun v M9 => v = some (.int (ji (bi (∀ q : Nat, S q → hsC M f r q = hsC M f9 r9 q)))) ∧ M9 = M) := by
  refine MM.ofG (by decide +kernel) (Nat.le_of_ble_eq_true rfl) ?_
  intro p_ e_ s_ m_ a_ b_ t_ c_ hx hb hml hr hk hg hown hK hP hS ls hl
  have hl : lv_has ls 3 [(0, .ref (E.2.1 (17 + f))), (1, .ref (E.2.1 (17 + f9)))] := hl
  have loop : ∀ (N i : Nat) (ls : Array Slot) (H : Heap) (locs : List Loc), i + N = c → (∀ q : Nat, S q → (∃ j, j < i ∧ M (21 + f) j = q) → hsC M f r q = hsC M f9 r9 q) → lv_has ls 3 [(2, .int (ji ((i:Int)))), (0, .ref (E.2.1 (17 + f))), (1, .ref (E.2.1 (17 + f9)))] → wP E M H → va_S (wA E) s_.heap H locs → W p_ l e_ (rmd 4) s_ m_ a_ b_ t_ c_ H locs 0 0 (XQ b_ (mmQ E (fun v M9 => v = some (.int (ji (bi (∀ q : Nat, S q → hsC M f r q = hsC M f9 r9 q)))) ∧ M9 = M)) a_ s_ 0 0 (wA E)) (F0 m_ 2 ls []) := by
    intro N
    induction N with
    | zero =>
      intro i ls H locs h0 hz hl hP hS
      refine lv_iload_n hx hb dD_agreesAtOwnPrimes_2 rfl (lv_at hl 0 rfl) ?_
      refine lv_aload_n hx hb dD_agreesAtOwnPrimes_3 rfl (lv_at hl 1 rfl) ?_
      refine m_get (C := "RationalForms$Diagonal") (T := TxD) (N := 8) hx hb hg uwD hown hK hP (by omega) (sh_D E _ (by omega)) rfl 7 (by decide) wd78 rfl dD_agreesAtOwnPrimes_4 ?_
      refine j_icmp_ge hx hb (by omega) (by rw [hc]; omega) dD_agreesAtOwnPrimes_7 rfl (fun h2 => ?_) (fun h2 => ?_)
      · have hall : ∀ q : Nat, S q → hsC M f r q = hsC M f9 r9 q := fun q hq => by
          obtain ⟨j, j1, j2⟩ := hS0.2.2 q hq
          exact hz q hq ⟨j, by omega, j2⟩
        refine j_iconst hx hb dD_agreesAtOwnPrimes_41 ?_
        exact mm_zret hx hb hr hk hP hS dD_agreesAtOwnPrimes_42 nar_1 ⟨by rw [bi_t hall], rfl⟩
      · rw [hc] at h2
        omega
    | succ N ih =>
      intro i ls H locs h0 hz hl hP hS
      obtain ⟨q, q1, q2⟩ := hS0.2.1 i (by omega)
      have hpl : plc (M (21 + f) i) := by rw [q1]; have := hb0 q q2; right; omega
      refine lv_iload_n hx hb dD_agreesAtOwnPrimes_2 rfl (lv_at hl 0 rfl) ?_
      refine lv_aload_n hx hb dD_agreesAtOwnPrimes_3 rfl (lv_at hl 1 rfl) ?_
      refine m_get (C := "RationalForms$Diagonal") (T := TxD) (N := 8) hx hb hg uwD hown hK hP (by omega) (sh_D E _ (by omega)) rfl 7 (by decide) wd78 rfl dD_agreesAtOwnPrimes_4 ?_
      refine j_icmp_ge hx hb (by omega) (by rw [hc]; omega) dD_agreesAtOwnPrimes_7 rfl (fun h2 => ?_) (fun h2 => ?_)
      · rw [hc] at h2
        omega
      · refine lv_aload_n hx hb dD_agreesAtOwnPrimes_10 rfl (lv_at hl 1 rfl) ?_
        refine lv_aload_n hx hb dD_agreesAtOwnPrimes_11 rfl (lv_at hl 1 rfl) ?_
        refine m_get (C := "RationalForms$Diagonal") (T := TxD) (N := 8) hx hb hg uwD hown hK hP (by omega) (sh_D E _ (by omega)) rfl 1 (by decide) wd67 rfl dD_agreesAtOwnPrimes_12 ?_
        refine lv_iload_n hx hb dD_agreesAtOwnPrimes_15 rfl (lv_at hl 0 rfl) ?_
        refine m_iald (n := i) hx hb hK hP (by omega) (sh_p E _ (by omega)) rfl (by omega) (by decide) dD_agreesAtOwnPrimes_16 ?_
        refine mm_V (As := [.int (ji (M (21 + f) i))]) (rest := []) hx hb hml hown hg hl hK hP hS (by omega) (sh_D E _ (by omega)) rfl (kD_hasseSign l E hJ M f hf r hG (M (21 + f) i) hpl) wd211 wd181 wd182 wd4 wd183 ⟨rfl, rfl⟩ (n := 1) (by decide +kernel) rfl ⟨by decide, by decide⟩ rfl (Nat.le_of_ble_eq_true rfl) dD_agreesAtOwnPrimes_17 ⟨Nat.zero_le _, Nat.zero_le _⟩ (fun v M3 H locs hq3 hP hS => ?_)
        obtain ⟨rfl, hM3⟩ := hq3
        rw [hM3] at hP
        refine lv_aload_n hx hb dD_agreesAtOwnPrimes_20 rfl (lv_at hl 2 rfl) ?_
        refine lv_aload_n hx hb dD_agreesAtOwnPrimes_21 rfl (lv_at hl 1 rfl) ?_
        refine m_get (C := "RationalForms$Diagonal") (T := TxD) (N := 8) hx hb hg uwD hown hK hP (by omega) (sh_D E _ (by omega)) rfl 1 (by decide) wd67 rfl dD_agreesAtOwnPrimes_22 ?_
        refine lv_iload_n hx hb dD_agreesAtOwnPrimes_25 rfl (lv_at hl 0 rfl) ?_
        refine m_iald (n := i) hx hb hK hP (by omega) (sh_p E _ (by omega)) rfl (by omega) (by decide) dD_agreesAtOwnPrimes_26 ?_
        refine mm_V (As := [.int (ji (M (21 + f) i))]) (rest := [.int (ji (hsC M f r (M (21 + f) i)))]) hx hb hml hown hg hl hK hP hS (by omega) (sh_D E _ (by omega)) rfl (kD_hasseSign l E hJ M f9 hf9 r9 hG9 (M (21 + f) i) hpl) wd211 wd181 wd182 wd4 wd183 ⟨rfl, rfl⟩ (n := 1) (by decide +kernel) rfl ⟨by decide, by decide⟩ rfl (Nat.le_of_ble_eq_true rfl) dD_agreesAtOwnPrimes_27 ⟨Nat.zero_le _, Nat.zero_le _⟩ (fun v M4 H locs hq4 hP hS => ?_)
        obtain ⟨rfl, hM4⟩ := hq4
        rw [hM4] at hP
        refine j_icmp_eq hx hb (pm1_b32 (hs_pm (fun a b => sy_pm a b _) _ _)) (pm1_b32 (hs_pm (fun a b => sy_pm a b _) _ _)) dD_agreesAtOwnPrimes_30 rfl (fun h3 => ?_) (fun h3 => ?_)
        · refine lv_iinc (k := 0) (v := ji (((i:Int)) + 1)) hx hb dD_agreesAtOwnPrimes_35 hl rfl (Int32.ofInt_add _ _).symm (by decide) rfl (fun ls hl => ?_)
          have hl : lv_has ls 3 [(2, .int (ji (((i:Int)) + 1))), (0, .ref (E.2.1 (17 + f))), (1, .ref (E.2.1 (17 + f9)))] := hl
          refine lv_goto hx hb dD_agreesAtOwnPrimes_38 rfl ?_
          refine ih (i + 1) ls H locs (by omega) (fun m hm hj => ?_) hl hP hS
          obtain ⟨j, j1, j2⟩ := hj
          rcases Nat.lt_or_ge j i with g | g
          · exact hz m hm ⟨j, g, j2⟩
          · have hji : j = i := by omega
            rw [hji] at j2
            rw [← j2]
            exact h3
        · rw [q1] at h3
          refine j_iconst hx hb dD_agreesAtOwnPrimes_33 ?_
          exact mm_zret hx hb hr hk hP hS dD_agreesAtOwnPrimes_34 nar_0 ⟨by rw [bi_f (fun g => h3 (g q q2))], rfl⟩
  refine j_iconst hx hb dD_agreesAtOwnPrimes_0 ?_
  refine lv_istore_n hx hb dD_agreesAtOwnPrimes_1 rfl hl (by decide) rfl (fun ls hl => ?_)
  have hl : lv_has ls 3 [(2, .int (ji 0)), (0, .ref (E.2.1 (17 + f))), (1, .ref (E.2.1 (17 + f9)))] := hl
  exact loop c 0 ls s_.heap [] (by omega) (fun q _ hj => by obtain ⟨j, j1, _⟩ := hj; omega) hl hP hS

set_option maxRecDepth 100000 in
set_option maxHeartbeats 4000000 in
theorem kD_primeOfMinusSign (l : Launch) (E : En) (hJ : wJ E) (M : Me) (f : Nat) (hf : f < 2) (r : Nat) (hG : DG M f r) (c : Nat) (hc : M (17 + f) 7 = c) (hc2 : c ≤ 32) (S : Nat → Prop) (hS0 : SL c (M (21 + f)) S) (hb0 : ∀ q, S q → 2 ≤ q ∧ q ≤ 2147483647) (k : Int) (hk9 : b32 k) : MM l yD_primeOfMinusSign wsD_primeOfMinusSign (rmd 4) E M [.ref (E.2.1 (17 + f)), .int (ji k)] (fun v M9 => (∃ z : Int, v = some (.int (ji z)) ∧ b32 z ∧ nth (fun q => S q ∧ hsC M f r q = -1) k z) ∧ M9 = M) := by
  refine MM.ofG (by decide +kernel) (Nat.le_of_ble_eq_true rfl) ?_
  intro p_ e_ s_ m_ a_ b_ t_ c_ hx hb hml hr hk hg hown hK hP hS ls hl
  have hl : lv_has ls 4 [(0, .ref (E.2.1 (17 + f))), (1, .int (ji k))] := hl
  have loop : ∀ (N i : Nat) (z : Int) (ls : Array Slot) (H : Heap) (locs : List Loc), i + N = c → (0 ≤ z ∧ z ≤ i) → met (fun q => S q ∧ hsC M f r q = -1) c (M (21 + f)) i z → (∀ q : Nat, (S q ∧ hsC M f r q = -1) → (∃ j, j < i ∧ M (21 + f) j = q) → cnt (fun q => S q ∧ hsC M f r q = -1) q ≠ k) → lv_has ls 4 [(3, .int (ji ((i:Int)))), (2, .int (ji z)), (0, .ref (E.2.1 (17 + f))), (1, .int (ji k))] → wP E M H → va_S (wA E) s_.heap H locs → W p_ l e_ (rmd 4) s_ m_ a_ b_ t_ c_ H locs 0 0 (XQ b_ (mmQ E (fun v M9 => (∃ z : Int, v = some (.int (ji z)) ∧ b32 z ∧ nth (fun q => S q ∧ hsC M f r q = -1) k z) ∧ M9 = M)) a_ s_ 0 0 (wA E)) (F0 m_ 4 ls []) := by
    intro N
    induction N with
    | zero =>
      intro i z ls H locs h0 hzi hm hz hl hP hS
      refine lv_iload_n hx hb dD_primeOfMinusSign_4 rfl (lv_at hl 0 rfl) ?_
      refine lv_aload_n hx hb dD_primeOfMinusSign_5 rfl (lv_at hl 2 rfl) ?_
      refine m_get (C := "RationalForms$Diagonal") (T := TxD) (N := 8) hx hb hg uwD hown hK hP (by omega) (sh_D E _ (by omega)) rfl 7 (by decide) wd78 rfl dD_primeOfMinusSign_6 ?_
      refine j_icmp_ge hx hb (by omega) (by rw [hc]; omega) dD_primeOfMinusSign_9 rfl (fun h2 => ?_) (fun h2 => ?_)
      · have hall : ∀ q : Nat, (S q ∧ hsC M f r q = -1) → cnt (fun q => S q ∧ hsC M f r q = -1) q ≠ k := fun q hq => by
          obtain ⟨j, j1, j2⟩ := hS0.2.2 q hq.1
          exact hz q hq ⟨j, by omega, j2⟩
        refine j_iconst hx hb dD_primeOfMinusSign_47 ?_
        exact mm_iret hx hb hr hk hP hS dD_primeOfMinusSign_48 ⟨⟨-1, rfl, by decide, Or.inr ⟨rfl, hall⟩⟩, rfl⟩
      · rw [hc] at h2
        omega
    | succ N ih =>
      intro i z ls H locs h0 hzi hm hz hl hP hS
      obtain ⟨q, q1, q2⟩ := hS0.2.1 i (by omega)
      have hpl : plc (M (21 + f) i) := by rw [q1]; have := hb0 q q2; right; omega
      have hbq := hb0 q q2
      have hms := met_s hS0 (fun q g => g.1) hm (by omega : i < c) q1
      refine lv_iload_n hx hb dD_primeOfMinusSign_4 rfl (lv_at hl 0 rfl) ?_
      refine lv_aload_n hx hb dD_primeOfMinusSign_5 rfl (lv_at hl 2 rfl) ?_
      refine m_get (C := "RationalForms$Diagonal") (T := TxD) (N := 8) hx hb hg uwD hown hK hP (by omega) (sh_D E _ (by omega)) rfl 7 (by decide) wd78 rfl dD_primeOfMinusSign_6 ?_
      refine j_icmp_ge hx hb (by omega) (by rw [hc]; omega) dD_primeOfMinusSign_9 rfl (fun h2 => ?_) (fun h2 => ?_)
      · rw [hc] at h2
        omega
      · refine lv_aload_n hx hb dD_primeOfMinusSign_12 rfl (lv_at hl 2 rfl) ?_
        refine lv_aload_n hx hb dD_primeOfMinusSign_13 rfl (lv_at hl 2 rfl) ?_
        refine m_get (C := "RationalForms$Diagonal") (T := TxD) (N := 8) hx hb hg uwD hown hK hP (by omega) (sh_D E _ (by omega)) rfl 1 (by decide) wd67 rfl dD_primeOfMinusSign_14 ?_
        refine lv_iload_n hx hb dD_primeOfMinusSign_17 rfl (lv_at hl 0 rfl) ?_
        refine m_iald (n := i) hx hb hK hP (by omega) (sh_p E _ (by omega)) rfl (by omega) (by decide) dD_primeOfMinusSign_18 ?_
        refine mm_V (As := [.int (ji (M (21 + f) i))]) (rest := []) hx hb hml hown hg hl hK hP hS (by omega) (sh_D E _ (by omega)) rfl (kD_hasseSign l E hJ M f hf r hG (M (21 + f) i) hpl) wd211 wd181 wd182 wd4 wd183 ⟨rfl, rfl⟩ (n := 1) (by decide +kernel) rfl ⟨by decide, by decide⟩ rfl (Nat.le_of_ble_eq_true rfl) dD_primeOfMinusSign_19 ⟨Nat.zero_le _, Nat.zero_le _⟩ (fun v M3 H locs hq3 hP hS => ?_)
        obtain ⟨rfl, hM3⟩ := hq3
        rw [hM3] at hP
        refine j_iconst hx hb dD_primeOfMinusSign_22 ?_
        refine j_icmp_ne hx hb (pm1_b32 (hs_pm (fun a b => sy_pm a b _) _ _)) (by decide) dD_primeOfMinusSign_23 rfl (fun h3 => ?_) (fun h3 => ?_)
        · rw [q1] at h3
          have hb9 : bi (S q ∧ hsC M f r q = -1) = 0 := bi_f (fun g => h3 g.2)
          rw [hb9, Int.add_zero] at hms
          refine lv_iinc (k := 0) (v := ji (((i:Int)) + 1)) hx hb dD_primeOfMinusSign_41 hl rfl (Int32.ofInt_add _ _).symm (by decide) rfl (fun ls hl => ?_)
          have hl : lv_has ls 4 [(3, .int (ji (((i:Int)) + 1))), (2, .int (ji z)), (0, .ref (E.2.1 (17 + f))), (1, .int (ji k))] := hl
          refine lv_goto hx hb dD_primeOfMinusSign_44 rfl ?_
          refine ih (i + 1) z ls H locs (by omega) (by omega) hms.2 (fun m hm hj => ?_) (lv_sub hl [0, 1, 2, 3] rfl) hP hS
          obtain ⟨j, j1, j2⟩ := hj
          rcases Nat.lt_or_ge j i with g | g
          · exact hz m hm ⟨j, g, j2⟩
          · have hji : j = i := by omega
            rw [hji] at j2
            have hmq : m = q := by omega
            rw [hmq] at hm
            exact absurd hm.2 h3
        · rw [q1] at h3
          have hb9 : bi (S q ∧ hsC M f r q = -1) = 1 := bi_t ⟨q2, h3⟩
          rw [hb9] at hms
          refine lv_iload_n hx hb dD_primeOfMinusSign_26 rfl (lv_at hl 1 rfl) ?_
          refine lv_iload_n hx hb dD_primeOfMinusSign_27 rfl (lv_at hl 3 rfl) ?_
          refine j_icmp_ne hx hb (by omega) hk9 dD_primeOfMinusSign_28 rfl (fun h4 => ?_) (fun h4 => ?_)
          · refine lv_iinc (k := 1) (v := ji (z + 1)) hx hb dD_primeOfMinusSign_38 hl rfl (Int32.ofInt_add _ _).symm (by decide) rfl (fun ls hl => ?_)
            have hl : lv_has ls 4 [(2, .int (ji (z + 1))), (3, .int (ji ((i:Int)))), (0, .ref (E.2.1 (17 + f))), (1, .int (ji k))] := hl
            refine lv_iinc (k := 1) (v := ji (((i:Int)) + 1)) hx hb dD_primeOfMinusSign_41 hl rfl (Int32.ofInt_add _ _).symm (by decide) rfl (fun ls hl => ?_)
            have hl : lv_has ls 4 [(3, .int (ji (((i:Int)) + 1))), (2, .int (ji (z + 1))), (0, .ref (E.2.1 (17 + f))), (1, .int (ji k))] := hl
            refine lv_goto hx hb dD_primeOfMinusSign_44 rfl ?_
            refine ih (i + 1) (z + 1) ls H locs (by omega) (by omega) hms.2 (fun m hm hj => ?_) (lv_sub hl [0, 1, 2, 3] rfl) hP hS
            obtain ⟨j, j1, j2⟩ := hj
            rcases Nat.lt_or_ge j i with g | g
            · exact hz m hm ⟨j, g, j2⟩
            · have hji : j = i := by omega
              rw [hji] at j2
              have hmq : m = q := by omega
              rw [hmq, hms.1]
              exact h4
          · refine lv_aload_n hx hb dD_primeOfMinusSign_31 rfl (lv_at hl 2 rfl) ?_
            refine m_get (C := "RationalForms$Diagonal") (T := TxD) (N := 8) hx hb hg uwD hown hK hP (by omega) (sh_D E _ (by omega)) rfl 1 (by decide) wd67 rfl dD_primeOfMinusSign_32 ?_
            refine lv_iload_n hx hb dD_primeOfMinusSign_35 rfl (lv_at hl 0 rfl) ?_
            refine m_iald (n := i) hx hb hK hP (by omega) (sh_p E _ (by omega)) rfl (by omega) (by decide) dD_primeOfMinusSign_36 ?_
            exact mm_iret hx hb hr hk hP hS dD_primeOfMinusSign_37 ⟨⟨M (21 + f) i, rfl, by omega, Or.inl ⟨q, ⟨q2, h3⟩, by rw [hms.1]; exact h4, q1⟩⟩, rfl⟩
  refine j_iconst hx hb dD_primeOfMinusSign_0 ?_
  refine lv_istore_n hx hb dD_primeOfMinusSign_1 rfl hl (by decide) rfl (fun ls hl => ?_)
  have hl : lv_has ls 4 [(2, .int (ji 0)), (0, .ref (E.2.1 (17 + f))), (1, .int (ji k))] := hl
  refine j_iconst hx hb dD_primeOfMinusSign_2 ?_
  refine lv_istore_n hx hb dD_primeOfMinusSign_3 rfl hl (by decide) rfl (fun ls hl => ?_)
  have hl : lv_has ls 4 [(3, .int (ji 0)), (2, .int (ji 0)), (0, .ref (E.2.1 (17 + f))), (1, .int (ji k))] := hl
  exact loop c 0 0 ls s_.heap [] (by omega) (by omega) (met_0 hS0 (fun q g => g.1)) (fun q _ hj => by obtain ⟨j, j1, _⟩ := hj; omega) hl hP hS
end
section
/-! tables of numbers: swapping and adding variables, eliminating, step by step -/
abbrev Mt := Nat → Nat → Int
def eq4 (A B : Mt) : Prop := ∀ a b, a < 4 → b < 4 → A a b = B a b
theorem eq4.rf (A : Mt) : eq4 A A := fun _ _ _ _ => rfl
theorem eq4.tr {A B C : Mt} (h : eq4 A B) (g : eq4 B C) : eq4 A C := fun a b ha hb => (h a b ha hb).trans (g a b ha hb)
theorem eq4.sy {A B : Mt} (h : eq4 A B) : eq4 B A := fun a b ha hb => (h a b ha hb).symm
/-- one number of a table is set -/
def ut (A : Mt) (i j : Nat) (v : Int) : Mt := fun a b => if a = i then (if b = j then v else A a b) else A a b
theorem ut_s (A : Mt) (i j : Nat) (v : Int) : ut A i j v i j = v := by simp [ut]
theorem ut_k {A : Mt} {i j a b : Nat} {v : Int} (h : a ≠ i ∨ b ≠ j) : ut A i j v a b = A a b := by
  unfold ut
  by_cases h1 : a = i
  · rw [if_pos h1, if_neg (h.resolve_left (fun q => q h1))]
  · rw [if_neg h1]
/-- the table of the class -/
def tb (M : Me) : Mt := fun i j => M (24 + i) j
/-- the table of the reference -/
def wr (M : Me) : Mt := fun i j => M 31 (4 * i + j)
theorem tb_mu (M : Me) (i j : Nat) (v : Int) : tb (mu M (24 + i) j v) = ut (tb M) i j v := by
  funext a b
  unfold tb mu ut
  by_cases h : a = i
  · rw [if_pos (show 24 + a = 24 + i by omega), if_pos h]
  · rw [if_neg (show ¬ 24 + a = 24 + i by omega), if_neg h]
theorem wr_mu {M : Me} {i j : Nat} (v : Int) (hj : j < 4) : eq4 (wr (mu M 31 (4 * i + j) v)) (ut (wr M) i j v) := by
  intro a b ha hb
  unfold wr mu ut
  rw [if_pos rfl]
  by_cases h : a = i
  · rw [if_pos h]
    by_cases h2 : b = j
    · rw [if_pos (by omega), if_pos h2]
    · rw [if_neg (by omega), if_neg h2]
  · rw [if_neg (by omega), if_neg h]
def swI (i k x : Nat) : Nat := if x = i then k else if x = k then i else x
theorem swI_i (i k : Nat) : swI i k i = k := by simp [swI]
theorem swI_k (i k : Nat) : swI i k k = i := by unfold swI; by_cases h : k = i <;> simp [h]
theorem swI_o {i k x : Nat} (h1 : x ≠ i) (h2 : x ≠ k) : swI i k x = x := by simp [swI, h1, h2]
theorem swI_cm (i k x : Nat) : swI i k x = swI k i x := by
  by_cases h1 : x = i
  · rw [h1, swI_i, swI_k]
  · by_cases h2 : x = k
    · rw [h2, swI_i, swI_k]
    · rw [swI_o h1 h2, swI_o h2 h1]
theorem swI_lt {i k x n : Nat} (hi : i < n) (hk : k < n) (hx : x < n) : swI i k x < n := by
  by_cases h1 : x = i
  · rw [h1, swI_i]; exact hk
  · by_cases h2 : x = k
    · rw [h2, swI_k]; exact hi
    · rw [swI_o h1 h2]; exact hx
theorem swI_ge {i k x n : Nat} (hi : n ≤ i) (hk : n ≤ k) (hx : n ≤ x) : n ≤ swI i k x := by
  by_cases h1 : x = i
  · rw [h1, swI_i]; exact hk
  · by_cases h2 : x = k
    · rw [h2, swI_k]; exact hi
    · rw [swI_o h1 h2]; exact hx
def swT (i k : Nat) (A : Mt) : Mt := fun a b => A (swI i k a) (swI i k b)
def rsw (i k J : Nat) (A : Mt) : Mt := fun a b => if b < J then A (swI i k a) b else A a b
def csw (i k J : Nat) (A : Mt) : Mt := fun a b => if a < J then A a (swI i k b) else A a b
theorem rsw_0 (i k : Nat) (A : Mt) : eq4 A (rsw i k 0 A) := fun a b _ _ => by unfold rsw; rw [if_neg (by omega)]
theorem csw_0 (i k : Nat) (A : Mt) : eq4 A (csw i k 0 A) := fun a b _ _ => by unfold csw; rw [if_neg (by omega)]
theorem rsw_s {i k J : Nat} {A T : Mt} (h : eq4 T (rsw i k J A)) (hi : i < 4) (hk : k < 4) (hJ : J < 4) : eq4 (ut (ut T i J (T k J)) k J (T i J)) (rsw i k (J + 1) A) := by
  intro a b ha hb
  have e1 : ∀ x, x < 4 → T x J = A x J := fun x hx => by rw [h x J hx hJ]; unfold rsw; rw [if_neg (by omega)]
  by_cases h1 : b = J
  · subst h1
    show _ = if b < b + 1 then A (swI i k a) b else A a b
    rw [if_pos (by omega)]
    by_cases h2 : a = k
    · subst h2
      rw [ut_s, swI_k, e1 i hi]
    · rw [ut_k (Or.inl h2)]
      by_cases h3 : a = i
      · subst h3
        rw [ut_s, swI_i, e1 k hk]
      · rw [ut_k (Or.inl h3), swI_o h3 h2, e1 a ha]
  · rw [ut_k (Or.inr h1), ut_k (Or.inr h1), h a b ha hb]
    unfold rsw
    by_cases h2 : b < J
    · rw [if_pos h2, if_pos (by omega)]
    · rw [if_neg h2, if_neg (by omega)]
theorem csw_s {i k J : Nat} {A T : Mt} (h : eq4 T (csw i k J A)) (hi : i < 4) (hk : k < 4) (hJ : J < 4) : eq4 (ut (ut T J i (T J k)) J k (T J i)) (csw i k (J + 1) A) := by
  intro a b ha hb
  have e1 : ∀ x, x < 4 → T J x = A J x := fun x hx => by rw [h J x hJ hx]; unfold csw; rw [if_neg (by omega)]
  by_cases h1 : a = J
  · subst h1
    show _ = if a < a + 1 then A a (swI i k b) else A a b
    rw [if_pos (by omega)]
    by_cases h2 : b = k
    · subst h2
      rw [ut_s, swI_k, e1 i hi]
    · rw [ut_k (Or.inr h2)]
      by_cases h3 : b = i
      · subst h3
        rw [ut_s, swI_i, e1 k hk]
      · rw [ut_k (Or.inr h3), swI_o h3 h2, e1 b hb]
  · rw [ut_k (Or.inl h1), ut_k (Or.inl h1), h a b ha hb]
    unfold csw
    by_cases h2 : a < J
    · rw [if_pos h2, if_pos (by omega)]
    · rw [if_neg h2, if_neg (by omega)]
/-- the tables agree where both indices lie below n -/
def eqn (n : Nat) (A B : Mt) : Prop := ∀ a b, a < n → b < n → A a b = B a b
theorem eqn.rf (n : Nat) (A : Mt) : eqn n A A := fun _ _ _ _ => rfl
theorem eqn.tr {n : Nat} {A B C : Mt} (h : eqn n A B) (g : eqn n B C) : eqn n A C := fun a b ha hb => (h a b ha hb).trans (g a b ha hb)
theorem eqn.sy {n : Nat} {A B : Mt} (h : eqn n A B) : eqn n B A := fun a b ha hb => (h a b ha hb).symm
theorem eq4.n {n : Nat} {A B : Mt} (h : eq4 A B) (hn : n ≤ 4) : eqn n A B := fun a b ha hb => h a b (by omega) (by omega)
theorem sw_end {n i k : Nat} {A T1 T2 : Mt} (h1 : eq4 T1 (rsw i k n A)) (h2 : eq4 T2 (csw i k n T1)) (hn : n ≤ 4) (hi : i < n) (hk : k < n) : eqn n T2 (swT i k A) := by
  intro a b ha hb
  have hs := swI_lt hi hk hb
  rw [h2 a b (by omega) (by omega)]
  unfold csw
  rw [if_pos ha, h1 a _ (by omega) (by omega)]
  unfold rsw swT
  rw [if_pos hs]
theorem swT_eqn {n i k : Nat} {A B : Mt} (h : eqn n A B) (hi : i < n) (hk : k < n) : eqn n (swT i k A) (swT i k B) := fun _ _ ha hb => h _ _ (swI_lt hi hk ha) (swI_lt hi hk hb)
theorem swT_cm (i k : Nat) (A : Mt) : swT i k A = swT k i A := by funext a b; unfold swT; rw [swI_cm i k a, swI_cm i k b]
theorem swT_id (k : Nat) (A : Mt) : swT k k A = A := by
  funext a b
  have : ∀ x, swI k k x = x := fun x => by
    by_cases h : x = k
    · rw [h, swI_i]
    · exact swI_o h h
  unfold swT; rw [this, this]
def rad (fr to st J : Nat) (A : Mt) : Mt := fun a b => if a = to ∧ st ≤ b ∧ b < J then A to b + A fr b else A a b
def cad (fr to st J : Nat) (A : Mt) : Mt := fun a b => if b = to ∧ st ≤ a ∧ a < J then A a to + A a fr else A a b
def adT (fr to st n : Nat) (A : Mt) : Mt := cad fr to st n (rad fr to st n A)
theorem rad_0 (fr to st : Nat) (A : Mt) : eq4 A (rad fr to st st A) := fun a b _ _ => by unfold rad; rw [if_neg (by omega)]
theorem cad_0 (fr to st : Nat) (A : Mt) : eq4 A (cad fr to st st A) := fun a b _ _ => by unfold cad; rw [if_neg (by omega)]
theorem rad_s {fr to st J : Nat} {A T : Mt} (h : eq4 T (rad fr to st J A)) (hf : fr < 4) (ht : to < 4) (hne : fr ≠ to) (hs : st ≤ J) (hJ : J < 4) : eq4 (ut T to J (T to J + T fr J)) (rad fr to st (J + 1) A) := by
  intro a b ha hb
  have e1 : T to J = A to J := by rw [h to J ht hJ]; unfold rad; rw [if_neg (by omega)]
  have e2 : T fr J = A fr J := by rw [h fr J hf hJ]; unfold rad; rw [if_neg (by omega)]
  by_cases h1 : a = to ∧ b = J
  · obtain ⟨rfl, rfl⟩ := h1
    rw [ut_s, e1, e2]
    unfold rad
    rw [if_pos ⟨rfl, hs, by omega⟩]
  · rw [ut_k (by omega), h a b ha hb]
    unfold rad
    by_cases h2 : a = to ∧ st ≤ b ∧ b < J
    · rw [if_pos h2, if_pos ⟨h2.1, h2.2.1, by omega⟩]
    · rw [if_neg h2, if_neg (by omega)]
theorem cad_s {fr to st J : Nat} {A T : Mt} (h : eq4 T (cad fr to st J A)) (hf : fr < 4) (ht : to < 4) (hne : fr ≠ to) (hs : st ≤ J) (hJ : J < 4) : eq4 (ut T J to (T J to + T J fr)) (cad fr to st (J + 1) A) := by
  intro a b ha hb
  have e1 : T J to = A J to := by rw [h J to hJ ht]; unfold cad; rw [if_neg (by omega)]
  have e2 : T J fr = A J fr := by rw [h J fr hJ hf]; unfold cad; rw [if_neg (by omega)]
  by_cases h1 : a = J ∧ b = to
  · obtain ⟨rfl, rfl⟩ := h1
    rw [ut_s, e1, e2]
    unfold cad
    rw [if_pos ⟨rfl, hs, by omega⟩]
  · rw [ut_k (by omega), h a b ha hb]
    unfold cad
    by_cases h2 : b = to ∧ st ≤ a ∧ a < J
    · rw [if_pos h2, if_pos ⟨h2.1, h2.2.1, by omega⟩]
    · rw [if_neg h2, if_neg (by omega)]
theorem cad_eqn {n fr to st : Nat} {A B : Mt} (h : eqn n A B) (hf : fr < n) (ht : to < n) : eqn n (cad fr to st n A) (cad fr to st n B) := fun a b ha hb => by
  unfold cad
  rw [h a to ha ht, h a fr ha hf, h a b ha hb]
theorem rad_eqn {n fr to st : Nat} {A B : Mt} (h : eqn n A B) (hf : fr < n) (ht : to < n) : eqn n (rad fr to st n A) (rad fr to st n B) := fun a b ha hb => by
  unfold rad
  rw [h to b ht hb, h fr b hf hb, h a b ha hb]
theorem adT_eqn {n fr to st : Nat} {A B : Mt} (h : eqn n A B) (hf : fr < n) (ht : to < n) : eqn n (adT fr to st n A) (adT fr to st n B) := cad_eqn (rad_eqn h hf ht) hf ht
theorem ad_end {n fr to st : Nat} {A T1 T2 : Mt} (h1 : eq4 T1 (rad fr to st n A)) (h2 : eq4 T2 (cad fr to st n T1)) (hn : n ≤ 4) (hf : fr < n) (ht : to < n) : eqn n T2 (adT fr to st n A) :=
  (h2.n hn).tr (cad_eqn (h1.n hn) hf ht)
/-- elimination with pivot p and last pivot q, done for rows below I and, of row I, columns below J -/
def ela (k : Nat) (p q : Int) (I J : Nat) (A : Mt) : Mt := fun a b => if k < a ∧ k < b ∧ (a < I ∨ a = I ∧ b < J) then (A a b * p - A a k * A k b).tdiv q else A a b
def elT (k n : Nat) (p q : Int) (A : Mt) : Mt := ela k p q n 0 A
theorem ela_0 (k : Nat) (p q : Int) (A : Mt) : eq4 A (ela k p q (k + 1) (k + 1) A) := fun a b _ _ => by unfold ela; rw [if_neg (by omega)]
theorem ela_s {k I J : Nat} {p q : Int} {A T : Mt} (h : eq4 T (ela k p q I J A)) (hk : k < I) (hj : k < J) (hI : I < 4) (hJ : J < 4) : eq4 (ut T I J ((T I J * p - T I k * T k J).tdiv q)) (ela k p q I (J + 1) A) := by
  intro a b ha hb
  have e1 : T I J = A I J := by rw [h I J hI hJ]; unfold ela; rw [if_neg (by omega)]
  have e2 : T I k = A I k := by rw [h I k hI (by omega)]; unfold ela; rw [if_neg (by omega)]
  have e3 : T k J = A k J := by rw [h k J (by omega) hJ]; unfold ela; rw [if_neg (by omega)]
  by_cases h1 : a = I ∧ b = J
  · obtain ⟨rfl, rfl⟩ := h1
    rw [ut_s, e1, e2, e3]
    unfold ela
    rw [if_pos ⟨hk, hj, Or.inr ⟨rfl, by omega⟩⟩]
  · rw [ut_k (by omega), h a b ha hb]
    unfold ela
    by_cases h2 : k < a ∧ k < b ∧ (a < I ∨ a = I ∧ b < J)
    · rw [if_pos h2, if_pos (by omega)]
    · rw [if_neg h2, if_neg (by omega)]
/-- a row is done: columns from n on are not looked at -/
def eqc (n : Nat) (A B : Mt) : Prop := ∀ a b, a < 4 → b < n → A a b = B a b
theorem ela_r {n k I : Nat} {p q : Int} {A T : Mt} (h : eqn n T (ela k p q I n A)) : eqn n T (ela k p q (I + 1) (k + 1) A) := fun a b ha hb => by
  rw [h a b ha hb]
  unfold ela
  by_cases h2 : k < a ∧ k < b ∧ (a < I ∨ a = I ∧ b < n)
  · rw [if_pos h2, if_pos (by omega)]
  · rw [if_neg h2, if_neg (by omega)]
theorem ela_n {n k I J : Nat} {p q : Int} {A T : Mt} (h : eqn n T (ela k p q I J A)) (hk : k < I) (hj : k < J) (hI : I < n) (hJ : J < n) : eqn n (ut T I J ((T I J * p - T I k * T k J).tdiv q)) (ela k p q I (J + 1) A) := by
  intro a b ha hb
  have e1 : T I J = A I J := by rw [h I J hI hJ]; unfold ela; rw [if_neg (by omega)]
  have e2 : T I k = A I k := by rw [h I k hI (by omega)]; unfold ela; rw [if_neg (by omega)]
  have e3 : T k J = A k J := by rw [h k J (by omega) hJ]; unfold ela; rw [if_neg (by omega)]
  by_cases h1 : a = I ∧ b = J
  · obtain ⟨rfl, rfl⟩ := h1
    rw [ut_s, e1, e2, e3]
    unfold ela
    rw [if_pos ⟨hk, hj, Or.inr ⟨rfl, by omega⟩⟩]
  · rw [ut_k (by omega), h a b ha hb]
    unfold ela
    by_cases h2 : k < a ∧ k < b ∧ (a < I ∨ a = I ∧ b < J)
    · rw [if_pos h2, if_pos (by omega)]
    · rw [if_neg h2, if_neg (by omega)]
theorem ela_e {n k : Nat} {p q : Int} {A T : Mt} (h : eqn n T (ela k p q n (k + 1) A)) : eqn n T (elT k n p q A) := fun a b ha hb => by
  rw [h a b ha hb]
  unfold elT ela
  by_cases h2 : k < a ∧ k < b ∧ (a < n ∨ a = n ∧ b < k + 1)
  · rw [if_pos h2, if_pos (by omega)]
  · rw [if_neg h2, if_neg (by omega)]
theorem elT_eqn {n k : Nat} {p q : Int} {A B : Mt} (h : eqn n A B) (hk : k < n) : eqn n (elT k n p q A) (elT k n p q B) := fun a b ha hb => by
  unfold elT ela
  rw [h a b ha hb, h a k ha hk, h k b hk hb]
theorem el64 {x p y z : Int} (hx : x.natAbs ≤ 2000000000) (hp : p.natAbs ≤ 2000000000) (hy : y.natAbs ≤ 2000000000) (hz : z.natAbs ≤ 2000000000) : b64 (x * p - y * z) := by
  have h1 : (x * p).natAbs ≤ 2000000000 * 2000000000 := by rw [Int.natAbs_mul]; exact Nat.mul_le_mul hx hp
  have h2 : (y * z).natAbs ≤ 2000000000 * 2000000000 := by rw [Int.natAbs_mul]; exact Nat.mul_le_mul hy hz
  omega
/-- what bringing a pivot to place k does: the answer r, the table B after it -/
def bpR (n k : Nat) (A : Mt) (r : Prop) (B : Mt) : Prop :=
  (∃ i, k ≤ i ∧ i < n ∧ A i i ≠ 0 ∧ (∀ m, k ≤ m → m < i → A m m = 0) ∧ r ∧ eqn n B (swT i k A)) ∨
  ((∀ m, k ≤ m → m < n → A m m = 0) ∧ ∃ i j, k ≤ i ∧ i < j ∧ j < n ∧ A i j ≠ 0 ∧ (∀ x y, k ≤ x → x < y → y < n → (x < i ∨ x = i ∧ y < j) → A x y = 0) ∧ r ∧ eqn n B (swT i k (adT j i k n A))) ∨
  ((∀ m, k ≤ m → m < n → A m m = 0) ∧ (∀ x y, k ≤ x → x < y → y < n → A x y = 0) ∧ ¬ r ∧ eqn n B A)
theorem bpR_dt {n k : Nat} {A A' B B' : Mt} {r r' : Prop} (hA : eqn n A A') (h : bpR n k A r B) (h' : bpR n k A' r' B') (hk : k < n) : (r ↔ r') ∧ eqn n B B' := by
  rcases h with ⟨i, i1, i2, i3, i4, i5, i6⟩ | ⟨z, i, j, i1, i2, i3, i4, i5, i6, i7⟩ | ⟨z, z2, i1, i2⟩
  · rcases h' with ⟨i', j1, j2, j3, j4, j5, j6⟩ | ⟨z', i', j, j1, j2, j3, j4, j5, j6, j7⟩ | ⟨z', z2', j1, j2⟩
    · have hii : i = i' := by
        rcases Nat.lt_trichotomy i i' with g | g | g
        · exact absurd (by rw [hA i i i2 i2]; exact j4 i i1 g) i3
        · exact g
        · exact absurd (by rw [← hA i' i' j2 j2]; exact i4 i' j1 g) j3
      subst hii
      exact ⟨⟨fun _ => j5, fun _ => i5⟩, i6.tr ((swT_eqn hA i2 hk).tr j6.sy)⟩
    · exact absurd (by rw [hA i i i2 i2]; exact z' i i1 i2) i3
    · exact absurd (by rw [hA i i i2 i2]; exact z' i i1 i2) i3
  · rcases h' with ⟨i', j1, j2, j3, j4, j5, j6⟩ | ⟨z', i', j', j1, j2, j3, j4, j5, j6, j7⟩ | ⟨z', z2', j1, j2⟩
    · exact absurd (by rw [← hA i' i' j2 j2]; exact z i' j1 j2) j3
    · have hij : i = i' ∧ j = j' := by
        rcases Nat.lt_trichotomy i i' with g | g | g
        · exact absurd (by rw [hA i j (by omega) i3]; exact j5 i j i1 i2 i3 (Or.inl g)) i4
        · rcases Nat.lt_trichotomy j j' with g' | g' | g'
          · exact absurd (by rw [hA i j (by omega) i3]; exact j5 i j i1 i2 i3 (Or.inr ⟨g, g'⟩)) i4
          · exact ⟨g, g'⟩
          · exact absurd (by rw [← hA i' j' (by omega) j3]; exact i5 i' j' j1 j2 j3 (Or.inr ⟨g.symm, g'⟩)) j4
        · exact absurd (by rw [← hA i' j' (by omega) j3]; exact i5 i' j' j1 j2 j3 (Or.inl g)) j4
      obtain ⟨rfl, rfl⟩ := hij
      exact ⟨⟨fun _ => j6, fun _ => i6⟩, i7.tr ((swT_eqn (adT_eqn hA i3 (by omega)) (by omega) hk).tr j7.sy)⟩
    · exact absurd (by rw [hA i j (by omega) i3]; exact z2' i j i1 i2 i3) i4
  · rcases h' with ⟨i', j1, j2, j3, j4, j5, j6⟩ | ⟨z', i', j', j1, j2, j3, j4, j5, j6, j7⟩ | ⟨z', z2', j1, j2⟩
    · exact absurd (by rw [← hA i' i' j2 j2]; exact z i' j1 j2) j3
    · exact absurd (by rw [← hA i' j' (by omega) j3]; exact z2 i' j' j1 j2 j3) j4
    · exact ⟨⟨fun g => absurd g i1, fun g => absurd g j1⟩, i2.tr (hA.tr j2.sy)⟩
end
section
/-! Reduction (the class): names, contracts -/
abbrev cR_copyNumbers : ByteArray := prog_5_method_3_code
abbrev yR_copyNumbers : MethodName := ⟨"RationalForms$Reduction", "copyNumbers", "(LRationalForms$Form;)V"⟩
abbrev wsR_copyNumbers : List Cond := .code yR_copyNumbers cR_copyNumbers 4 none :: GG
theorem dR_copyNumbers_0 : decode cR_copyNumbers 0 = .ok (.aload_n 0, 1) := by decide +kernel
theorem dR_copyNumbers_1 : decode cR_copyNumbers 1 = .ok (.aload_n 1, 1) := by decide +kernel
theorem dR_copyNumbers_2 : decode cR_copyNumbers 2 = .ok (.getfield 55, 3) := by decide +kernel
theorem dR_copyNumbers_5 : decode cR_copyNumbers 5 = .ok (.putfield 16, 3) := by decide +kernel
theorem dR_copyNumbers_8 : decode cR_copyNumbers 8 = .ok (.iconst 0, 1) := by decide +kernel
theorem dR_copyNumbers_9 : decode cR_copyNumbers 9 = .ok (.istore_n 2, 1) := by decide +kernel
theorem dR_copyNumbers_10 : decode cR_copyNumbers 10 = .ok (.iload_n 2, 1) := by decide +kernel
theorem dR_copyNumbers_11 : decode cR_copyNumbers 11 = .ok (.aload_n 0, 1) := by decide +kernel
theorem dR_copyNumbers_12 : decode cR_copyNumbers 12 = .ok (.getfield 16, 3) := by decide +kernel
theorem dR_copyNumbers_15 : decode cR_copyNumbers 15 = .ok (.if_icmp .ge 42, 3) := by decide +kernel
theorem dR_copyNumbers_18 : decode cR_copyNumbers 18 = .ok (.iconst 0, 1) := by decide +kernel
theorem dR_copyNumbers_19 : decode cR_copyNumbers 19 = .ok (.istore_n 3, 1) := by decide +kernel
theorem dR_copyNumbers_20 : decode cR_copyNumbers 20 = .ok (.iload_n 3, 1) := by decide +kernel
theorem dR_copyNumbers_21 : decode cR_copyNumbers 21 = .ok (.aload_n 0, 1) := by decide +kernel
theorem dR_copyNumbers_22 : decode cR_copyNumbers 22 = .ok (.getfield 16, 3) := by decide +kernel
theorem dR_copyNumbers_25 : decode cR_copyNumbers 25 = .ok (.if_icmp .ge 26, 3) := by decide +kernel
theorem dR_copyNumbers_28 : decode cR_copyNumbers 28 = .ok (.aload_n 0, 1) := by decide +kernel
theorem dR_copyNumbers_29 : decode cR_copyNumbers 29 = .ok (.getfield 11, 3) := by decide +kernel
theorem dR_copyNumbers_32 : decode cR_copyNumbers 32 = .ok (.iload_n 2, 1) := by decide +kernel
theorem dR_copyNumbers_33 : decode cR_copyNumbers 33 = .ok (.aaload, 1) := by decide +kernel
theorem dR_copyNumbers_34 : decode cR_copyNumbers 34 = .ok (.iload_n 3, 1) := by decide +kernel
theorem dR_copyNumbers_35 : decode cR_copyNumbers 35 = .ok (.aload_n 1, 1) := by decide +kernel
theorem dR_copyNumbers_36 : decode cR_copyNumbers 36 = .ok (.getfield 60, 3) := by decide +kernel
theorem dR_copyNumbers_39 : decode cR_copyNumbers 39 = .ok (.iload_n 2, 1) := by decide +kernel
theorem dR_copyNumbers_40 : decode cR_copyNumbers 40 = .ok (.aaload, 1) := by decide +kernel
theorem dR_copyNumbers_41 : decode cR_copyNumbers 41 = .ok (.iload_n 3, 1) := by decide +kernel
theorem dR_copyNumbers_42 : decode cR_copyNumbers 42 = .ok (.iaload, 1) := by decide +kernel
theorem dR_copyNumbers_43 : decode cR_copyNumbers 43 = .ok (.i2l, 1) := by decide +kernel
theorem dR_copyNumbers_44 : decode cR_copyNumbers 44 = .ok (.lastore, 1) := by decide +kernel
theorem dR_copyNumbers_45 : decode cR_copyNumbers 45 = .ok (.iinc 3 1, 3) := by decide +kernel
theorem dR_copyNumbers_48 : decode cR_copyNumbers 48 = .ok (.goto (-28), 3) := by decide +kernel
theorem dR_copyNumbers_51 : decode cR_copyNumbers 51 = .ok (.iinc 2 1, 3) := by decide +kernel
theorem dR_copyNumbers_54 : decode cR_copyNumbers 54 = .ok (.goto (-44), 3) := by decide +kernel
theorem dR_copyNumbers_57 : decode cR_copyNumbers 57 = .ok (.return_, 1) := by decide +kernel
abbrev cR_swapVariables : ByteArray := prog_5_method_5_code
abbrev yR_swapVariables : MethodName := ⟨"RationalForms$Reduction", "swapVariables", "(II)V"⟩
abbrev wsR_swapVariables : List Cond := .code yR_swapVariables cR_swapVariables 6 none :: GG
theorem dR_swapVariables_0 : decode cR_swapVariables 0 = .ok (.iconst 0, 1) := by decide +kernel
theorem dR_swapVariables_1 : decode cR_swapVariables 1 = .ok (.istore_n 3, 1) := by decide +kernel
theorem dR_swapVariables_2 : decode cR_swapVariables 2 = .ok (.iload_n 3, 1) := by decide +kernel
theorem dR_swapVariables_3 : decode cR_swapVariables 3 = .ok (.aload_n 0, 1) := by decide +kernel
theorem dR_swapVariables_4 : decode cR_swapVariables 4 = .ok (.getfield 16, 3) := by decide +kernel
theorem dR_swapVariables_7 : decode cR_swapVariables 7 = .ok (.if_icmp .ge 45, 3) := by decide +kernel
theorem dR_swapVariables_10 : decode cR_swapVariables 10 = .ok (.aload_n 0, 1) := by decide +kernel
theorem dR_swapVariables_11 : decode cR_swapVariables 11 = .ok (.getfield 11, 3) := by decide +kernel
theorem dR_swapVariables_14 : decode cR_swapVariables 14 = .ok (.iload_n 1, 1) := by decide +kernel
theorem dR_swapVariables_15 : decode cR_swapVariables 15 = .ok (.aaload, 1) := by decide +kernel
theorem dR_swapVariables_16 : decode cR_swapVariables 16 = .ok (.iload_n 3, 1) := by decide +kernel
theorem dR_swapVariables_17 : decode cR_swapVariables 17 = .ok (.laload, 1) := by decide +kernel
theorem dR_swapVariables_18 : decode cR_swapVariables 18 = .ok (.lstore 4, 2) := by decide +kernel
theorem dR_swapVariables_20 : decode cR_swapVariables 20 = .ok (.aload_n 0, 1) := by decide +kernel
theorem dR_swapVariables_21 : decode cR_swapVariables 21 = .ok (.getfield 11, 3) := by decide +kernel
theorem dR_swapVariables_24 : decode cR_swapVariables 24 = .ok (.iload_n 1, 1) := by decide +kernel
theorem dR_swapVariables_25 : decode cR_swapVariables 25 = .ok (.aaload, 1) := by decide +kernel
theorem dR_swapVariables_26 : decode cR_swapVariables 26 = .ok (.iload_n 3, 1) := by decide +kernel
theorem dR_swapVariables_27 : decode cR_swapVariables 27 = .ok (.aload_n 0, 1) := by decide +kernel
theorem dR_swapVariables_28 : decode cR_swapVariables 28 = .ok (.getfield 11, 3) := by decide +kernel
theorem dR_swapVariables_31 : decode cR_swapVariables 31 = .ok (.iload_n 2, 1) := by decide +kernel
theorem dR_swapVariables_32 : decode cR_swapVariables 32 = .ok (.aaload, 1) := by decide +kernel
theorem dR_swapVariables_33 : decode cR_swapVariables 33 = .ok (.iload_n 3, 1) := by decide +kernel
theorem dR_swapVariables_34 : decode cR_swapVariables 34 = .ok (.laload, 1) := by decide +kernel
theorem dR_swapVariables_35 : decode cR_swapVariables 35 = .ok (.lastore, 1) := by decide +kernel
theorem dR_swapVariables_36 : decode cR_swapVariables 36 = .ok (.aload_n 0, 1) := by decide +kernel
theorem dR_swapVariables_37 : decode cR_swapVariables 37 = .ok (.getfield 11, 3) := by decide +kernel
theorem dR_swapVariables_40 : decode cR_swapVariables 40 = .ok (.iload_n 2, 1) := by decide +kernel
theorem dR_swapVariables_41 : decode cR_swapVariables 41 = .ok (.aaload, 1) := by decide +kernel
theorem dR_swapVariables_42 : decode cR_swapVariables 42 = .ok (.iload_n 3, 1) := by decide +kernel
theorem dR_swapVariables_43 : decode cR_swapVariables 43 = .ok (.lload 4, 2) := by decide +kernel
theorem dR_swapVariables_45 : decode cR_swapVariables 45 = .ok (.lastore, 1) := by decide +kernel
theorem dR_swapVariables_46 : decode cR_swapVariables 46 = .ok (.iinc 3 1, 3) := by decide +kernel
theorem dR_swapVariables_49 : decode cR_swapVariables 49 = .ok (.goto (-47), 3) := by decide +kernel
theorem dR_swapVariables_52 : decode cR_swapVariables 52 = .ok (.iconst 0, 1) := by decide +kernel
theorem dR_swapVariables_53 : decode cR_swapVariables 53 = .ok (.istore_n 3, 1) := by decide +kernel
theorem dR_swapVariables_54 : decode cR_swapVariables 54 = .ok (.iload_n 3, 1) := by decide +kernel
theorem dR_swapVariables_55 : decode cR_swapVariables 55 = .ok (.aload_n 0, 1) := by decide +kernel
theorem dR_swapVariables_56 : decode cR_swapVariables 56 = .ok (.getfield 16, 3) := by decide +kernel
theorem dR_swapVariables_59 : decode cR_swapVariables 59 = .ok (.if_icmp .ge 45, 3) := by decide +kernel
theorem dR_swapVariables_62 : decode cR_swapVariables 62 = .ok (.aload_n 0, 1) := by decide +kernel
theorem dR_swapVariables_63 : decode cR_swapVariables 63 = .ok (.getfield 11, 3) := by decide +kernel
theorem dR_swapVariables_66 : decode cR_swapVariables 66 = .ok (.iload_n 3, 1) := by decide +kernel
theorem dR_swapVariables_67 : decode cR_swapVariables 67 = .ok (.aaload, 1) := by decide +kernel
theorem dR_swapVariables_68 : decode cR_swapVariables 68 = .ok (.iload_n 1, 1) := by decide +kernel
theorem dR_swapVariables_69 : decode cR_swapVariables 69 = .ok (.laload, 1) := by decide +kernel
theorem dR_swapVariables_70 : decode cR_swapVariables 70 = .ok (.lstore 4, 2) := by decide +kernel
theorem dR_swapVariables_72 : decode cR_swapVariables 72 = .ok (.aload_n 0, 1) := by decide +kernel
theorem dR_swapVariables_73 : decode cR_swapVariables 73 = .ok (.getfield 11, 3) := by decide +kernel
theorem dR_swapVariables_76 : decode cR_swapVariables 76 = .ok (.iload_n 3, 1) := by decide +kernel
theorem dR_swapVariables_77 : decode cR_swapVariables 77 = .ok (.aaload, 1) := by decide +kernel
theorem dR_swapVariables_78 : decode cR_swapVariables 78 = .ok (.iload_n 1, 1) := by decide +kernel
theorem dR_swapVariables_79 : decode cR_swapVariables 79 = .ok (.aload_n 0, 1) := by decide +kernel
theorem dR_swapVariables_80 : decode cR_swapVariables 80 = .ok (.getfield 11, 3) := by decide +kernel
theorem dR_swapVariables_83 : decode cR_swapVariables 83 = .ok (.iload_n 3, 1) := by decide +kernel
theorem dR_swapVariables_84 : decode cR_swapVariables 84 = .ok (.aaload, 1) := by decide +kernel
theorem dR_swapVariables_85 : decode cR_swapVariables 85 = .ok (.iload_n 2, 1) := by decide +kernel
theorem dR_swapVariables_86 : decode cR_swapVariables 86 = .ok (.laload, 1) := by decide +kernel
theorem dR_swapVariables_87 : decode cR_swapVariables 87 = .ok (.lastore, 1) := by decide +kernel
theorem dR_swapVariables_88 : decode cR_swapVariables 88 = .ok (.aload_n 0, 1) := by decide +kernel
theorem dR_swapVariables_89 : decode cR_swapVariables 89 = .ok (.getfield 11, 3) := by decide +kernel
theorem dR_swapVariables_92 : decode cR_swapVariables 92 = .ok (.iload_n 3, 1) := by decide +kernel
theorem dR_swapVariables_93 : decode cR_swapVariables 93 = .ok (.aaload, 1) := by decide +kernel
theorem dR_swapVariables_94 : decode cR_swapVariables 94 = .ok (.iload_n 2, 1) := by decide +kernel
theorem dR_swapVariables_95 : decode cR_swapVariables 95 = .ok (.lload 4, 2) := by decide +kernel
theorem dR_swapVariables_97 : decode cR_swapVariables 97 = .ok (.lastore, 1) := by decide +kernel
theorem dR_swapVariables_98 : decode cR_swapVariables 98 = .ok (.iinc 3 1, 3) := by decide +kernel
theorem dR_swapVariables_101 : decode cR_swapVariables 101 = .ok (.goto (-47), 3) := by decide +kernel
theorem dR_swapVariables_104 : decode cR_swapVariables 104 = .ok (.return_, 1) := by decide +kernel
abbrev cR_addVariable : ByteArray := prog_5_method_6_code
abbrev yR_addVariable : MethodName := ⟨"RationalForms$Reduction", "addVariable", "(III)V"⟩
abbrev wsR_addVariable : List Cond := .code yR_addVariable cR_addVariable 5 none :: GG
theorem dR_addVariable_0 : decode cR_addVariable 0 = .ok (.iload_n 3, 1) := by decide +kernel
theorem dR_addVariable_1 : decode cR_addVariable 1 = .ok (.istore 4, 2) := by decide +kernel
theorem dR_addVariable_3 : decode cR_addVariable 3 = .ok (.iload 4, 2) := by decide +kernel
theorem dR_addVariable_5 : decode cR_addVariable 5 = .ok (.aload_n 0, 1) := by decide +kernel
theorem dR_addVariable_6 : decode cR_addVariable 6 = .ok (.getfield 16, 3) := by decide +kernel
theorem dR_addVariable_9 : decode cR_addVariable 9 = .ok (.if_icmp .ge 30, 3) := by decide +kernel
theorem dR_addVariable_12 : decode cR_addVariable 12 = .ok (.aload_n 0, 1) := by decide +kernel
theorem dR_addVariable_13 : decode cR_addVariable 13 = .ok (.getfield 11, 3) := by decide +kernel
theorem dR_addVariable_16 : decode cR_addVariable 16 = .ok (.iload_n 2, 1) := by decide +kernel
theorem dR_addVariable_17 : decode cR_addVariable 17 = .ok (.aaload, 1) := by decide +kernel
theorem dR_addVariable_18 : decode cR_addVariable 18 = .ok (.iload 4, 2) := by decide +kernel
theorem dR_addVariable_20 : decode cR_addVariable 20 = .ok (.dup2, 1) := by decide +kernel
theorem dR_addVariable_21 : decode cR_addVariable 21 = .ok (.laload, 1) := by decide +kernel
theorem dR_addVariable_22 : decode cR_addVariable 22 = .ok (.aload_n 0, 1) := by decide +kernel
theorem dR_addVariable_23 : decode cR_addVariable 23 = .ok (.getfield 11, 3) := by decide +kernel
theorem dR_addVariable_26 : decode cR_addVariable 26 = .ok (.iload_n 1, 1) := by decide +kernel
theorem dR_addVariable_27 : decode cR_addVariable 27 = .ok (.aaload, 1) := by decide +kernel
theorem dR_addVariable_28 : decode cR_addVariable 28 = .ok (.iload 4, 2) := by decide +kernel
theorem dR_addVariable_30 : decode cR_addVariable 30 = .ok (.laload, 1) := by decide +kernel
theorem dR_addVariable_31 : decode cR_addVariable 31 = .ok (.ladd, 1) := by decide +kernel
theorem dR_addVariable_32 : decode cR_addVariable 32 = .ok (.lastore, 1) := by decide +kernel
theorem dR_addVariable_33 : decode cR_addVariable 33 = .ok (.iinc 4 1, 3) := by decide +kernel
theorem dR_addVariable_36 : decode cR_addVariable 36 = .ok (.goto (-33), 3) := by decide +kernel
theorem dR_addVariable_39 : decode cR_addVariable 39 = .ok (.iload_n 3, 1) := by decide +kernel
theorem dR_addVariable_40 : decode cR_addVariable 40 = .ok (.istore 4, 2) := by decide +kernel
theorem dR_addVariable_42 : decode cR_addVariable 42 = .ok (.iload 4, 2) := by decide +kernel
theorem dR_addVariable_44 : decode cR_addVariable 44 = .ok (.aload_n 0, 1) := by decide +kernel
theorem dR_addVariable_45 : decode cR_addVariable 45 = .ok (.getfield 16, 3) := by decide +kernel
theorem dR_addVariable_48 : decode cR_addVariable 48 = .ok (.if_icmp .ge 30, 3) := by decide +kernel
theorem dR_addVariable_51 : decode cR_addVariable 51 = .ok (.aload_n 0, 1) := by decide +kernel
theorem dR_addVariable_52 : decode cR_addVariable 52 = .ok (.getfield 11, 3) := by decide +kernel
theorem dR_addVariable_55 : decode cR_addVariable 55 = .ok (.iload 4, 2) := by decide +kernel
theorem dR_addVariable_57 : decode cR_addVariable 57 = .ok (.aaload, 1) := by decide +kernel
theorem dR_addVariable_58 : decode cR_addVariable 58 = .ok (.iload_n 2, 1) := by decide +kernel
theorem dR_addVariable_59 : decode cR_addVariable 59 = .ok (.dup2, 1) := by decide +kernel
theorem dR_addVariable_60 : decode cR_addVariable 60 = .ok (.laload, 1) := by decide +kernel
theorem dR_addVariable_61 : decode cR_addVariable 61 = .ok (.aload_n 0, 1) := by decide +kernel
theorem dR_addVariable_62 : decode cR_addVariable 62 = .ok (.getfield 11, 3) := by decide +kernel
theorem dR_addVariable_65 : decode cR_addVariable 65 = .ok (.iload 4, 2) := by decide +kernel
theorem dR_addVariable_67 : decode cR_addVariable 67 = .ok (.aaload, 1) := by decide +kernel
theorem dR_addVariable_68 : decode cR_addVariable 68 = .ok (.iload_n 1, 1) := by decide +kernel
theorem dR_addVariable_69 : decode cR_addVariable 69 = .ok (.laload, 1) := by decide +kernel
theorem dR_addVariable_70 : decode cR_addVariable 70 = .ok (.ladd, 1) := by decide +kernel
theorem dR_addVariable_71 : decode cR_addVariable 71 = .ok (.lastore, 1) := by decide +kernel
theorem dR_addVariable_72 : decode cR_addVariable 72 = .ok (.iinc 4 1, 3) := by decide +kernel
theorem dR_addVariable_75 : decode cR_addVariable 75 = .ok (.goto (-33), 3) := by decide +kernel
theorem dR_addVariable_78 : decode cR_addVariable 78 = .ok (.return_, 1) := by decide +kernel
abbrev cR_bringPivot : ByteArray := prog_5_method_4_code
abbrev yR_bringPivot : MethodName := ⟨"RationalForms$Reduction", "bringPivot", "(I)Z"⟩
abbrev wsR_bringPivot : List Cond := .code yR_bringPivot cR_bringPivot 4 (some .boolean) :: GG
theorem dR_bringPivot_0 : decode cR_bringPivot 0 = .ok (.iload_n 1, 1) := by decide +kernel
theorem dR_bringPivot_1 : decode cR_bringPivot 1 = .ok (.istore_n 2, 1) := by decide +kernel
theorem dR_bringPivot_2 : decode cR_bringPivot 2 = .ok (.iload_n 2, 1) := by decide +kernel
theorem dR_bringPivot_3 : decode cR_bringPivot 3 = .ok (.aload_n 0, 1) := by decide +kernel
theorem dR_bringPivot_4 : decode cR_bringPivot 4 = .ok (.getfield 16, 3) := by decide +kernel
theorem dR_bringPivot_7 : decode cR_bringPivot 7 = .ok (.if_icmp .ge 30, 3) := by decide +kernel
theorem dR_bringPivot_10 : decode cR_bringPivot 10 = .ok (.aload_n 0, 1) := by decide +kernel
theorem dR_bringPivot_11 : decode cR_bringPivot 11 = .ok (.getfield 11, 3) := by decide +kernel
theorem dR_bringPivot_14 : decode cR_bringPivot 14 = .ok (.iload_n 2, 1) := by decide +kernel
theorem dR_bringPivot_15 : decode cR_bringPivot 15 = .ok (.aaload, 1) := by decide +kernel
theorem dR_bringPivot_16 : decode cR_bringPivot 16 = .ok (.iload_n 2, 1) := by decide +kernel
theorem dR_bringPivot_17 : decode cR_bringPivot 17 = .ok (.laload, 1) := by decide +kernel
theorem dR_bringPivot_18 : decode cR_bringPivot 18 = .ok (.lconst 0, 1) := by decide +kernel
theorem dR_bringPivot_19 : decode cR_bringPivot 19 = .ok (.lcmp, 1) := by decide +kernel
theorem dR_bringPivot_20 : decode cR_bringPivot 20 = .ok (.ifCond .eq 11, 3) := by decide +kernel
theorem dR_bringPivot_23 : decode cR_bringPivot 23 = .ok (.aload_n 0, 1) := by decide +kernel
theorem dR_bringPivot_24 : decode cR_bringPivot 24 = .ok (.iload_n 2, 1) := by decide +kernel
theorem dR_bringPivot_25 : decode cR_bringPivot 25 = .ok (.iload_n 1, 1) := by decide +kernel
theorem dR_bringPivot_26 : decode cR_bringPivot 26 = .ok (.invokevirtual 64, 3) := by decide +kernel
theorem dR_bringPivot_29 : decode cR_bringPivot 29 = .ok (.iconst 1, 1) := by decide +kernel
theorem dR_bringPivot_30 : decode cR_bringPivot 30 = .ok (.ireturn, 1) := by decide +kernel
theorem dR_bringPivot_31 : decode cR_bringPivot 31 = .ok (.iinc 2 1, 3) := by decide +kernel
theorem dR_bringPivot_34 : decode cR_bringPivot 34 = .ok (.goto (-32), 3) := by decide +kernel
theorem dR_bringPivot_37 : decode cR_bringPivot 37 = .ok (.iload_n 1, 1) := by decide +kernel
theorem dR_bringPivot_38 : decode cR_bringPivot 38 = .ok (.istore_n 2, 1) := by decide +kernel
theorem dR_bringPivot_39 : decode cR_bringPivot 39 = .ok (.iload_n 2, 1) := by decide +kernel
theorem dR_bringPivot_40 : decode cR_bringPivot 40 = .ok (.aload_n 0, 1) := by decide +kernel
theorem dR_bringPivot_41 : decode cR_bringPivot 41 = .ok (.getfield 16, 3) := by decide +kernel
theorem dR_bringPivot_44 : decode cR_bringPivot 44 = .ok (.if_icmp .ge 55, 3) := by decide +kernel
theorem dR_bringPivot_47 : decode cR_bringPivot 47 = .ok (.iload_n 2, 1) := by decide +kernel
theorem dR_bringPivot_48 : decode cR_bringPivot 48 = .ok (.iconst 1, 1) := by decide +kernel
theorem dR_bringPivot_49 : decode cR_bringPivot 49 = .ok (.iadd, 1) := by decide +kernel
theorem dR_bringPivot_50 : decode cR_bringPivot 50 = .ok (.istore_n 3, 1) := by decide +kernel
theorem dR_bringPivot_51 : decode cR_bringPivot 51 = .ok (.iload_n 3, 1) := by decide +kernel
theorem dR_bringPivot_52 : decode cR_bringPivot 52 = .ok (.aload_n 0, 1) := by decide +kernel
theorem dR_bringPivot_53 : decode cR_bringPivot 53 = .ok (.getfield 16, 3) := by decide +kernel
theorem dR_bringPivot_56 : decode cR_bringPivot 56 = .ok (.if_icmp .ge 37, 3) := by decide +kernel
theorem dR_bringPivot_59 : decode cR_bringPivot 59 = .ok (.aload_n 0, 1) := by decide +kernel
theorem dR_bringPivot_60 : decode cR_bringPivot 60 = .ok (.getfield 11, 3) := by decide +kernel
theorem dR_bringPivot_63 : decode cR_bringPivot 63 = .ok (.iload_n 2, 1) := by decide +kernel
theorem dR_bringPivot_64 : decode cR_bringPivot 64 = .ok (.aaload, 1) := by decide +kernel
theorem dR_bringPivot_65 : decode cR_bringPivot 65 = .ok (.iload_n 3, 1) := by decide +kernel
theorem dR_bringPivot_66 : decode cR_bringPivot 66 = .ok (.laload, 1) := by decide +kernel
theorem dR_bringPivot_67 : decode cR_bringPivot 67 = .ok (.lconst 0, 1) := by decide +kernel
theorem dR_bringPivot_68 : decode cR_bringPivot 68 = .ok (.lcmp, 1) := by decide +kernel
theorem dR_bringPivot_69 : decode cR_bringPivot 69 = .ok (.ifCond .eq 18, 3) := by decide +kernel
theorem dR_bringPivot_72 : decode cR_bringPivot 72 = .ok (.aload_n 0, 1) := by decide +kernel
theorem dR_bringPivot_73 : decode cR_bringPivot 73 = .ok (.iload_n 3, 1) := by decide +kernel
theorem dR_bringPivot_74 : decode cR_bringPivot 74 = .ok (.iload_n 2, 1) := by decide +kernel
theorem dR_bringPivot_75 : decode cR_bringPivot 75 = .ok (.iload_n 1, 1) := by decide +kernel
theorem dR_bringPivot_76 : decode cR_bringPivot 76 = .ok (.invokevirtual 68, 3) := by decide +kernel
theorem dR_bringPivot_79 : decode cR_bringPivot 79 = .ok (.aload_n 0, 1) := by decide +kernel
theorem dR_bringPivot_80 : decode cR_bringPivot 80 = .ok (.iload_n 2, 1) := by decide +kernel
theorem dR_bringPivot_81 : decode cR_bringPivot 81 = .ok (.iload_n 1, 1) := by decide +kernel
theorem dR_bringPivot_82 : decode cR_bringPivot 82 = .ok (.invokevirtual 64, 3) := by decide +kernel
theorem dR_bringPivot_85 : decode cR_bringPivot 85 = .ok (.iconst 1, 1) := by decide +kernel
theorem dR_bringPivot_86 : decode cR_bringPivot 86 = .ok (.ireturn, 1) := by decide +kernel
theorem dR_bringPivot_87 : decode cR_bringPivot 87 = .ok (.iinc 3 1, 3) := by decide +kernel
theorem dR_bringPivot_90 : decode cR_bringPivot 90 = .ok (.goto (-39), 3) := by decide +kernel
theorem dR_bringPivot_93 : decode cR_bringPivot 93 = .ok (.iinc 2 1, 3) := by decide +kernel
theorem dR_bringPivot_96 : decode cR_bringPivot 96 = .ok (.goto (-57), 3) := by decide +kernel
theorem dR_bringPivot_99 : decode cR_bringPivot 99 = .ok (.iconst 0, 1) := by decide +kernel
theorem dR_bringPivot_100 : decode cR_bringPivot 100 = .ok (.ireturn, 1) := by decide +kernel
abbrev cR_eliminate : ByteArray := prog_5_method_7_code
abbrev yR_eliminate : MethodName := ⟨"RationalForms$Reduction", "eliminate", "(IJJ)V"⟩
abbrev wsR_eliminate : List Cond := .code yR_eliminate cR_eliminate 8 none :: GG
theorem dR_eliminate_0 : decode cR_eliminate 0 = .ok (.iload_n 1, 1) := by decide +kernel
theorem dR_eliminate_1 : decode cR_eliminate 1 = .ok (.iconst 1, 1) := by decide +kernel
theorem dR_eliminate_2 : decode cR_eliminate 2 = .ok (.iadd, 1) := by decide +kernel
theorem dR_eliminate_3 : decode cR_eliminate 3 = .ok (.istore 6, 2) := by decide +kernel
theorem dR_eliminate_5 : decode cR_eliminate 5 = .ok (.iload 6, 2) := by decide +kernel
theorem dR_eliminate_7 : decode cR_eliminate 7 = .ok (.aload_n 0, 1) := by decide +kernel
theorem dR_eliminate_8 : decode cR_eliminate 8 = .ok (.getfield 16, 3) := by decide +kernel
theorem dR_eliminate_11 : decode cR_eliminate 11 = .ok (.if_icmp .ge 74, 3) := by decide +kernel
theorem dR_eliminate_14 : decode cR_eliminate 14 = .ok (.iload_n 1, 1) := by decide +kernel
theorem dR_eliminate_15 : decode cR_eliminate 15 = .ok (.iconst 1, 1) := by decide +kernel
theorem dR_eliminate_16 : decode cR_eliminate 16 = .ok (.iadd, 1) := by decide +kernel
theorem dR_eliminate_17 : decode cR_eliminate 17 = .ok (.istore 7, 2) := by decide +kernel
theorem dR_eliminate_19 : decode cR_eliminate 19 = .ok (.iload 7, 2) := by decide +kernel
theorem dR_eliminate_21 : decode cR_eliminate 21 = .ok (.aload_n 0, 1) := by decide +kernel
theorem dR_eliminate_22 : decode cR_eliminate 22 = .ok (.getfield 16, 3) := by decide +kernel
theorem dR_eliminate_25 : decode cR_eliminate 25 = .ok (.if_icmp .ge 54, 3) := by decide +kernel
theorem dR_eliminate_28 : decode cR_eliminate 28 = .ok (.aload_n 0, 1) := by decide +kernel
theorem dR_eliminate_29 : decode cR_eliminate 29 = .ok (.getfield 11, 3) := by decide +kernel
theorem dR_eliminate_32 : decode cR_eliminate 32 = .ok (.iload 6, 2) := by decide +kernel
theorem dR_eliminate_34 : decode cR_eliminate 34 = .ok (.aaload, 1) := by decide +kernel
theorem dR_eliminate_35 : decode cR_eliminate 35 = .ok (.iload 7, 2) := by decide +kernel
theorem dR_eliminate_37 : decode cR_eliminate 37 = .ok (.aload_n 0, 1) := by decide +kernel
theorem dR_eliminate_38 : decode cR_eliminate 38 = .ok (.getfield 11, 3) := by decide +kernel
theorem dR_eliminate_41 : decode cR_eliminate 41 = .ok (.iload 6, 2) := by decide +kernel
theorem dR_eliminate_43 : decode cR_eliminate 43 = .ok (.aaload, 1) := by decide +kernel
theorem dR_eliminate_44 : decode cR_eliminate 44 = .ok (.iload 7, 2) := by decide +kernel
theorem dR_eliminate_46 : decode cR_eliminate 46 = .ok (.laload, 1) := by decide +kernel
theorem dR_eliminate_47 : decode cR_eliminate 47 = .ok (.lload_n 2, 1) := by decide +kernel
theorem dR_eliminate_48 : decode cR_eliminate 48 = .ok (.lmul, 1) := by decide +kernel
theorem dR_eliminate_49 : decode cR_eliminate 49 = .ok (.aload_n 0, 1) := by decide +kernel
theorem dR_eliminate_50 : decode cR_eliminate 50 = .ok (.getfield 11, 3) := by decide +kernel
theorem dR_eliminate_53 : decode cR_eliminate 53 = .ok (.iload 6, 2) := by decide +kernel
theorem dR_eliminate_55 : decode cR_eliminate 55 = .ok (.aaload, 1) := by decide +kernel
theorem dR_eliminate_56 : decode cR_eliminate 56 = .ok (.iload_n 1, 1) := by decide +kernel
theorem dR_eliminate_57 : decode cR_eliminate 57 = .ok (.laload, 1) := by decide +kernel
theorem dR_eliminate_58 : decode cR_eliminate 58 = .ok (.aload_n 0, 1) := by decide +kernel
theorem dR_eliminate_59 : decode cR_eliminate 59 = .ok (.getfield 11, 3) := by decide +kernel
theorem dR_eliminate_62 : decode cR_eliminate 62 = .ok (.iload_n 1, 1) := by decide +kernel
theorem dR_eliminate_63 : decode cR_eliminate 63 = .ok (.aaload, 1) := by decide +kernel
theorem dR_eliminate_64 : decode cR_eliminate 64 = .ok (.iload 7, 2) := by decide +kernel
theorem dR_eliminate_66 : decode cR_eliminate 66 = .ok (.laload, 1) := by decide +kernel
theorem dR_eliminate_67 : decode cR_eliminate 67 = .ok (.lmul, 1) := by decide +kernel
theorem dR_eliminate_68 : decode cR_eliminate 68 = .ok (.lsub, 1) := by decide +kernel
theorem dR_eliminate_69 : decode cR_eliminate 69 = .ok (.lload 4, 2) := by decide +kernel
theorem dR_eliminate_71 : decode cR_eliminate 71 = .ok (.ldiv, 1) := by decide +kernel
theorem dR_eliminate_72 : decode cR_eliminate 72 = .ok (.lastore, 1) := by decide +kernel
theorem dR_eliminate_73 : decode cR_eliminate 73 = .ok (.iinc 7 1, 3) := by decide +kernel
theorem dR_eliminate_76 : decode cR_eliminate 76 = .ok (.goto (-57), 3) := by decide +kernel
theorem dR_eliminate_79 : decode cR_eliminate 79 = .ok (.iinc 6 1, 3) := by decide +kernel
theorem dR_eliminate_82 : decode cR_eliminate 82 = .ok (.goto (-77), 3) := by decide +kernel
theorem dR_eliminate_85 : decode cR_eliminate 85 = .ok (.return_, 1) := by decide +kernel
abbrev cR_reduce : ByteArray := prog_5_method_2_code
abbrev yR_reduce : MethodName := ⟨"RationalForms$Reduction", "reduce", "(LRationalForms$Form;LRationalForms$Diagonal;)V"⟩
abbrev wsR_reduce : List Cond := .code yR_reduce cR_reduce 8 none :: GG
theorem dR_reduce_0 : decode cR_reduce 0 = .ok (.aload_n 0, 1) := by decide +kernel
theorem dR_reduce_1 : decode cR_reduce 1 = .ok (.aload_n 1, 1) := by decide +kernel
theorem dR_reduce_2 : decode cR_reduce 2 = .ok (.invokevirtual 20, 3) := by decide +kernel
theorem dR_reduce_5 : decode cR_reduce 5 = .ok (.aload_n 2, 1) := by decide +kernel
theorem dR_reduce_6 : decode cR_reduce 6 = .ok (.aload_n 0, 1) := by decide +kernel
theorem dR_reduce_7 : decode cR_reduce 7 = .ok (.getfield 16, 3) := by decide +kernel
theorem dR_reduce_10 : decode cR_reduce 10 = .ok (.invokevirtual 24, 3) := by decide +kernel
theorem dR_reduce_13 : decode cR_reduce 13 = .ok (.lconst 1, 1) := by decide +kernel
theorem dR_reduce_14 : decode cR_reduce 14 = .ok (.lstore_n 3, 1) := by decide +kernel
theorem dR_reduce_15 : decode cR_reduce 15 = .ok (.iconst 0, 1) := by decide +kernel
theorem dR_reduce_16 : decode cR_reduce 16 = .ok (.istore 5, 2) := by decide +kernel
theorem dR_reduce_18 : decode cR_reduce 18 = .ok (.iload 5, 2) := by decide +kernel
theorem dR_reduce_20 : decode cR_reduce 20 = .ok (.aload_n 0, 1) := by decide +kernel
theorem dR_reduce_21 : decode cR_reduce 21 = .ok (.getfield 16, 3) := by decide +kernel
theorem dR_reduce_24 : decode cR_reduce 24 = .ok (.if_icmp .ge 64, 3) := by decide +kernel
theorem dR_reduce_27 : decode cR_reduce 27 = .ok (.aload_n 0, 1) := by decide +kernel
theorem dR_reduce_28 : decode cR_reduce 28 = .ok (.iload 5, 2) := by decide +kernel
theorem dR_reduce_30 : decode cR_reduce 30 = .ok (.invokevirtual 30, 3) := by decide +kernel
theorem dR_reduce_33 : decode cR_reduce 33 = .ok (.ifCond .eq 55, 3) := by decide +kernel
theorem dR_reduce_36 : decode cR_reduce 36 = .ok (.aload_n 0, 1) := by decide +kernel
theorem dR_reduce_37 : decode cR_reduce 37 = .ok (.getfield 11, 3) := by decide +kernel
theorem dR_reduce_40 : decode cR_reduce 40 = .ok (.iload 5, 2) := by decide +kernel
theorem dR_reduce_42 : decode cR_reduce 42 = .ok (.aaload, 1) := by decide +kernel
theorem dR_reduce_43 : decode cR_reduce 43 = .ok (.iload 5, 2) := by decide +kernel
theorem dR_reduce_45 : decode cR_reduce 45 = .ok (.laload, 1) := by decide +kernel
theorem dR_reduce_46 : decode cR_reduce 46 = .ok (.lstore 6, 2) := by decide +kernel
theorem dR_reduce_48 : decode cR_reduce 48 = .ok (.aload_n 2, 1) := by decide +kernel
theorem dR_reduce_49 : decode cR_reduce 49 = .ok (.lload 6, 2) := by decide +kernel
theorem dR_reduce_51 : decode cR_reduce 51 = .ok (.invokestatic 34, 3) := by decide +kernel
theorem dR_reduce_54 : decode cR_reduce 54 = .ok (.lload_n 3, 1) := by decide +kernel
theorem dR_reduce_55 : decode cR_reduce 55 = .ok (.invokestatic 34, 3) := by decide +kernel
theorem dR_reduce_58 : decode cR_reduce 58 = .ok (.invokestatic 40, 3) := by decide +kernel
theorem dR_reduce_61 : decode cR_reduce 61 = .ok (.invokevirtual 44, 3) := by decide +kernel
theorem dR_reduce_64 : decode cR_reduce 64 = .ok (.aload_n 2, 1) := by decide +kernel
theorem dR_reduce_65 : decode cR_reduce 65 = .ok (.lload 6, 2) := by decide +kernel
theorem dR_reduce_67 : decode cR_reduce 67 = .ok (.invokevirtual 48, 3) := by decide +kernel
theorem dR_reduce_70 : decode cR_reduce 70 = .ok (.aload_n 0, 1) := by decide +kernel
theorem dR_reduce_71 : decode cR_reduce 71 = .ok (.iload 5, 2) := by decide +kernel
theorem dR_reduce_73 : decode cR_reduce 73 = .ok (.lload 6, 2) := by decide +kernel
theorem dR_reduce_75 : decode cR_reduce 75 = .ok (.lload_n 3, 1) := by decide +kernel
theorem dR_reduce_76 : decode cR_reduce 76 = .ok (.invokevirtual 51, 3) := by decide +kernel
theorem dR_reduce_79 : decode cR_reduce 79 = .ok (.lload 6, 2) := by decide +kernel
theorem dR_reduce_81 : decode cR_reduce 81 = .ok (.lstore_n 3, 1) := by decide +kernel
theorem dR_reduce_82 : decode cR_reduce 82 = .ok (.iinc 5 1, 3) := by decide +kernel
theorem dR_reduce_85 : decode cR_reduce 85 = .ok (.goto (-67), 3) := by decide +kernel
theorem dR_reduce_88 : decode cR_reduce 88 = .ok (.return_, 1) := by decide +kernel
def FrR (M M9 : Me) : Prop := ∀ q, (q < 24 ∨ 28 ≤ q) → M9 q = M q
theorem FrR.rf (M : Me) : FrR M M := fun _ _ => rfl
theorem FrR.tr {M M1 M2 : Me} (h1 : FrR M M1) (h2 : FrR M1 M2) : FrR M M2 := fun q h => (h2 q h).trans (h1 q h)
theorem FrR.mu {M M1 : Me} (h : FrR M M1) {i : Nat} (hi : i < 4) (j : Nat) (v : Int) : FrR M (mu M1 (24 + i) j v) := fun q hq => by rw [mu_k (by omega)]; exact h q hq
set_option maxRecDepth 20000 in
theorem wd137 : Cond.methodLink "RationalForms$Reduction" 64 yR_swapVariables ∈ GG := GG_t 137 rfl rfl
set_option maxRecDepth 20000 in
theorem wd139 : Cond.instanceMethod yR_swapVariables ∈ GG := GG_t 139 rfl rfl
set_option maxRecDepth 20000 in
theorem wd140 : Cond.code yR_swapVariables cR_swapVariables 6 none ∈ GG := GG_t 140 rfl rfl
set_option maxRecDepth 20000 in
theorem wd141 : Cond.methodLink "RationalForms$Reduction" 68 yR_addVariable ∈ GG := GG_t 141 rfl rfl
set_option maxRecDepth 20000 in
theorem wd143 : Cond.instanceMethod yR_addVariable ∈ GG := GG_t 143 rfl rfl
set_option maxRecDepth 20000 in
theorem wd144 : Cond.code yR_addVariable cR_addVariable 5 none ∈ GG := GG_t 144 rfl rfl
set_option maxRecDepth 20000 in
theorem wd2 : Cond.initialized "RationalForms$Reduction" ∈ GG := GG_t 2 rfl rfl
set_option maxRecDepth 20000 in
theorem wd35 : Cond.fieldLink "RationalForms$Reduction" 11 "RationalForms$Reduction" "table" "[[J" ∈ GG := GG_t 35 rfl rfl
set_option maxRecDepth 20000 in
theorem wd36 : Cond.fieldLink "RationalForms$Reduction" 16 "RationalForms$Reduction" "size" "I" ∈ GG := GG_t 36 rfl rfl
set_option maxRecDepth 20000 in
theorem wd51 : Cond.fieldLinkNest "RationalForms$Reduction" 55 "RationalForms$Form" "dimension" "I" "RationalForms" ∈ GG := GG_t 51 rfl rfl
set_option maxRecDepth 20000 in
theorem wd54 : Cond.fieldLinkNest "RationalForms$Reduction" 60 "RationalForms$Form" "numbers" "[[I" "RationalForms" ∈ GG := GG_t 54 rfl rfl
set_option maxRecDepth 20000 in
theorem wds4 : Cond.selects "RationalForms$Reduction" yR_swapVariables yR_swapVariables ∈ GG := GG_s 4 rfl rfl
set_option maxRecDepth 20000 in
theorem wds5 : Cond.selects "RationalForms$Reduction" yR_addVariable yR_addVariable ∈ GG := GG_s 5 rfl rfl
set_option maxRecDepth 100000 in
set_option maxHeartbeats 4000000 in
theorem kR_copyNumbers (l : Launch) (E : En) (hJ : wJ E) (M : Me) (f : Nat) (hf : f < 2) (n : Nat) (hn0 : M (5 + f) 0 = n) (hn4 : n ≤ 4) (hb9 : ∀ i j, i < 4 → j < 4 → b32 (M (9 + 4 * f + i) j)) : MM l yR_copyNumbers wsR_copyNumbers (rmd 0) E M [.ref (E.2.1 3), .ref (E.2.1 (5 + f))] (fun r M9 => r = none ∧ M9 3 1 = n ∧ eqn n (tb M9) (fun i j => M (9 + 4 * f + i) j) ∧ ∀ q, q ≠ 3 → (q < 24 ∨ 28 ≤ q) → M9 q = M q) := by
  refine MM.ofG (by decide +kernel) (Nat.le_of_ble_eq_true rfl) ?_
  intro p_ e_ s_ m_ a_ b_ t_ c_ hx hb hml hr hk hg hown hK hP hS ls hl
  have hl : lv_has ls 4 [(0, .ref (E.2.1 3)), (1, .ref (E.2.1 (5 + f)))] := hl
  have outer : ∀ (N i : Nat) (M1 : Me) (H : Heap) (locs : List Loc) (ls : Array Slot), i + N = n → (M1 3 1 = n ∧ (∀ q, q ≠ 3 → (q < 24 ∨ 28 ≤ q) → M1 q = M q)) → (∀ a b : Nat, a < i → b < n → tb M1 a b = M (9 + 4 * f + a) b) → wP E M1 H → va_S (wA E) s_.heap H locs → lv_has ls 4 [(2, .int (ji ((i:Int)))), (0, .ref (E.2.1 3)), (1, .ref (E.2.1 (5 + f)))] → W p_ l e_ (rmd 0) s_ m_ a_ b_ t_ c_ H locs 0 0 (XQ b_ (mmQ E (fun r M9 => r = none ∧ M9 3 1 = n ∧ eqn n (tb M9) (fun i j => M (9 + 4 * f + i) j) ∧ ∀ q, q ≠ 3 → (q < 24 ∨ 28 ≤ q) → M9 q = M q)) a_ s_ 0 0 (wA E)) (F0 m_ 10 ls []) := by
    intro N
    induction N with
    | zero =>
      intro i M1 H locs ls h0 hI hT hP hS hl
      refine lv_iload_n hx hb dR_copyNumbers_10 rfl (lv_at hl 0 rfl) ?_
      refine lv_aload_n hx hb dR_copyNumbers_11 rfl (lv_at hl 1 rfl) ?_
      refine m_get (C := "RationalForms$Reduction") (T := TxR) (N := 2) hx hb hg uwR hown hK hP (by omega) (sh_R E _) rfl 1 (by decide) wd36 rfl dR_copyNumbers_12 ?_
      refine j_icmp_ge hx hb (by omega) (by rw [hI.1]; omega) dR_copyNumbers_15 rfl (fun h1 => ?_) (fun h1 => ?_)
      · exact mm_vret hx hb hr hk hP hS dR_copyNumbers_57 ⟨rfl, hI.1, fun a b ha hb => hT a b (by omega) hb, hI.2⟩
      · rw [hI.1] at h1
        omega
    | succ N ih =>
      intro i M1 H locs ls h0 hI hT hP hS hl
      have inner : ∀ (K j : Nat) (M1 : Me) (H : Heap) (locs : List Loc) (ls : Array Slot), j + K = n → (M1 3 1 = n ∧ (∀ q, q ≠ 3 → (q < 24 ∨ 28 ≤ q) → M1 q = M q)) → (∀ a b : Nat, a < i → b < n → tb M1 a b = M (9 + 4 * f + a) b) → (∀ b : Nat, b < j → tb M1 i b = M (9 + 4 * f + i) b) → wP E M1 H → va_S (wA E) s_.heap H locs → lv_has ls 4 [(3, .int (ji ((j:Int)))), (2, .int (ji ((i:Int)))), (0, .ref (E.2.1 3)), (1, .ref (E.2.1 (5 + f)))] → W p_ l e_ (rmd 0) s_ m_ a_ b_ t_ c_ H locs 0 0 (XQ b_ (mmQ E (fun r M9 => r = none ∧ M9 3 1 = n ∧ eqn n (tb M9) (fun i j => M (9 + 4 * f + i) j) ∧ ∀ q, q ≠ 3 → (q < 24 ∨ 28 ≤ q) → M9 q = M q)) a_ s_ 0 0 (wA E)) (F0 m_ 20 ls []) := by
        intro K
        induction K with
        | zero =>
          intro j M1 H locs ls h1 hI hT hT2 hP hS hl
          refine lv_iload_n hx hb dR_copyNumbers_20 rfl (lv_at hl 0 rfl) ?_
          refine lv_aload_n hx hb dR_copyNumbers_21 rfl (lv_at hl 2 rfl) ?_
          refine m_get (C := "RationalForms$Reduction") (T := TxR) (N := 2) hx hb hg uwR hown hK hP (by omega) (sh_R E _) rfl 1 (by decide) wd36 rfl dR_copyNumbers_22 ?_
          refine j_icmp_ge hx hb (by omega) (by rw [hI.1]; omega) dR_copyNumbers_25 rfl (fun h2 => ?_) (fun h2 => ?_)
          · refine lv_iinc (k := 1) (v := ji (((i:Int)) + 1)) hx hb dR_copyNumbers_51 hl rfl (Int32.ofInt_add _ _).symm (by decide) rfl (fun ls hl => ?_)
            have hl : lv_has ls 4 [(2, .int (ji (((i:Int)) + 1))), (3, .int (ji ((j:Int)))), (0, .ref (E.2.1 3)), (1, .ref (E.2.1 (5 + f)))] := hl
            refine lv_goto hx hb dR_copyNumbers_54 rfl ?_
            refine ih (i + 1) M1 H locs ls (by omega) hI (fun a b ha hb => ?_) hP hS (lv_sub hl [0, 2, 3] rfl)
            by_cases hai : a = i
            · rw [hai]; exact hT2 b (by omega)
            · exact hT a b (by omega) hb
          · rw [hI.1] at h2
            omega
        | succ K ihK =>
          intro j M1 H locs ls h1 hI hT hT2 hP hS hl
          refine lv_iload_n hx hb dR_copyNumbers_20 rfl (lv_at hl 0 rfl) ?_
          refine lv_aload_n hx hb dR_copyNumbers_21 rfl (lv_at hl 2 rfl) ?_
          refine m_get (C := "RationalForms$Reduction") (T := TxR) (N := 2) hx hb hg uwR hown hK hP (by omega) (sh_R E _) rfl 1 (by decide) wd36 rfl dR_copyNumbers_22 ?_
          refine j_icmp_ge hx hb (by omega) (by rw [hI.1]; omega) dR_copyNumbers_25 rfl (fun h2 => ?_) (fun h2 => ?_)
          · rw [hI.1] at h2
            omega
          · refine lv_aload_n hx hb dR_copyNumbers_28 rfl (lv_at hl 2 rfl) ?_
            refine m_get (C := "RationalForms$Reduction") (T := TxR) (N := 2) hx hb hg uwR hown hK hP (by omega) (sh_R E _) rfl 0 (by decide) wd35 rfl dR_copyNumbers_29 ?_
            refine lv_iload_n hx hb dR_copyNumbers_32 rfl (lv_at hl 1 rfl) ?_
            refine m_aald (t0 := 3) (n := i) hx hb hK hP (by omega) (sh_b E _) rfl rfl rfl (by omega) (by decide) dR_copyNumbers_33 ?_
            refine lv_iload_n hx hb dR_copyNumbers_34 rfl (lv_at hl 0 rfl) ?_
            refine lv_aload_n hx hb dR_copyNumbers_35 rfl (lv_at hl 3 rfl) ?_
            refine m_getN (C := "RationalForms$Form") (T := TxF) (N := 2) hx hb hg uwF hown hK hP (by omega) (sh_F E _ (by omega)) rfl 1 (by decide) wd54 rfl dR_copyNumbers_36 ?_
            refine lv_iload_n hx hb dR_copyNumbers_39 rfl (lv_at hl 1 rfl) ?_
            refine m_aald (t0 := 2) (n := i) hx hb hK hP (by omega) (sh_o E _ (by omega)) rfl rfl rfl (by omega) (by decide) dR_copyNumbers_40 ?_
            refine lv_iload_n hx hb dR_copyNumbers_41 rfl (lv_at hl 0 rfl) ?_
            refine m_iald (n := j) hx hb hK hP (by omega) (sh_n E _ (by omega) (by omega)) rfl (by omega) (by decide) dR_copyNumbers_42 ?_
            refine j_i2l hx hb (by rw [hI.2 _ (by omega) (by omega)]; exact hb9 i j (by omega) (by omega)) dR_copyNumbers_43 ?_
            refine m_last (n := j) hx hb hK hJ hP hS (by omega) (fun r => sh_w E r (by omega)) rfl (by omega) (by decide) dR_copyNumbers_44 (fun H locs hP hS => ?_)
            refine lv_iinc (k := 0) (v := ji (((j:Int)) + 1)) hx hb dR_copyNumbers_45 hl rfl (Int32.ofInt_add _ _).symm (by decide) rfl (fun ls hl => ?_)
            have hl : lv_has ls 4 [(3, .int (ji (((j:Int)) + 1))), (2, .int (ji ((i:Int)))), (0, .ref (E.2.1 3)), (1, .ref (E.2.1 (5 + f)))] := hl
            refine lv_goto hx hb dR_copyNumbers_48 rfl ?_
            refine ihK (j + 1) _ H locs ls (by omega) ⟨?_, ?_⟩ ?_ ?_ hP hS hl
            · rw [mu_k (by omega)]; exact hI.1
            · intro q h3 h4
              rw [mu_k (by omega)]; exact hI.2 q h3 h4
            · intro a b ha hb
              rw [tb_mu, ut_k (by omega)]; exact hT a b ha hb
            · intro b hb
              rw [tb_mu]
              by_cases hbj : b = j
              · rw [hbj, ut_s, hI.2 _ (by omega) (by omega)]
              · rw [ut_k (by omega)]; exact hT2 b (by omega)
      refine lv_iload_n hx hb dR_copyNumbers_10 rfl (lv_at hl 0 rfl) ?_
      refine lv_aload_n hx hb dR_copyNumbers_11 rfl (lv_at hl 1 rfl) ?_
      refine m_get (C := "RationalForms$Reduction") (T := TxR) (N := 2) hx hb hg uwR hown hK hP (by omega) (sh_R E _) rfl 1 (by decide) wd36 rfl dR_copyNumbers_12 ?_
      refine j_icmp_ge hx hb (by omega) (by rw [hI.1]; omega) dR_copyNumbers_15 rfl (fun h1 => ?_) (fun h1 => ?_)
      · rw [hI.1] at h1
        omega
      · refine j_iconst hx hb dR_copyNumbers_18 ?_
        refine lv_istore_n hx hb dR_copyNumbers_19 rfl hl (by decide) rfl (fun ls hl => ?_)
        have hl : lv_has ls 4 [(3, .int (ji 0)), (2, .int (ji ((i:Int)))), (0, .ref (E.2.1 3)), (1, .ref (E.2.1 (5 + f)))] := hl
        exact inner n 0 M1 H locs ls (by omega) hI hT (fun b hb => by omega) hP hS hl
  refine lv_aload_n hx hb dR_copyNumbers_0 rfl (lv_at hl 0 rfl) ?_
  refine lv_aload_n hx hb dR_copyNumbers_1 rfl (lv_at hl 1 rfl) ?_
  refine m_getN (C := "RationalForms$Form") (T := TxF) (N := 2) hx hb hg uwF hown hK hP (by omega) (sh_F E _ (by omega)) rfl 0 (by decide) wd51 rfl dR_copyNumbers_2 ?_
  refine m_put (C := "RationalForms$Reduction") (T := TxR) (N := 2) (ty := .int) (z := M (5 + f) 0) hx hb hg uwR txR txR_ok nmR hown hK hJ hP hS (by omega) (sh_R E _) rfl 1 (by decide) wd36 rfl rfl rfl rfl (Nat.le_of_ble_eq_true rfl) (by rw [sh_R E _]; simp [mu]) dR_copyNumbers_5 (fun H locs hP hS => ?_)
  refine j_iconst hx hb dR_copyNumbers_8 ?_
  refine lv_istore_n hx hb dR_copyNumbers_9 rfl hl (by decide) rfl (fun ls hl => ?_)
  have hl : lv_has ls 4 [(2, .int (ji 0)), (0, .ref (E.2.1 3)), (1, .ref (E.2.1 (5 + f)))] := hl
  exact outer n 0 _ H locs ls (by omega) ⟨(mu_s _ _ _ _).trans hn0, fun q h1 h2 => mu_k h1⟩ (fun a b ha hb => by omega) hP hS hl

set_option maxRecDepth 100000 in
set_option maxHeartbeats 4000000 in
theorem kR_swapVariables (l : Launch) (E : En) (hJ : wJ E) (M : Me) (n : Nat) (hn0 : M 3 1 = n) (hn4 : n ≤ 4) (i k : Nat) (hi : i < n) (hk9 : k < n) : MM l yR_swapVariables wsR_swapVariables (rmd 0) E M [.ref (E.2.1 3), .int (ji ((i:Int))), .int (ji ((k:Int)))] (fun r M9 => r = none ∧ eqn n (tb M9) (swT i k (tb M)) ∧ FrR M M9) := by
  refine MM.ofG (by decide +kernel) (Nat.le_of_ble_eq_true rfl) ?_
  intro p_ e_ s_ m_ a_ b_ t_ c_ hx hb hml hr hk hg hown hK hP hS ls hl
  have hl : lv_has ls 6 [(0, .ref (E.2.1 3)), (1, .int (ji ((i:Int)))), (2, .int (ji ((k:Int))))] := hl
  have loop2 : ∀ (T1 : Mt) (_ : eq4 T1 (rsw i k n (tb M))) (N J : Nat) (M1 : Me) (H : Heap) (locs : List Loc) (ls : Array Slot), J + N = n → eq4 (tb M1) (csw i k J T1) → FrR M M1 → wP E M1 H → va_S (wA E) s_.heap H locs → lv_has ls 6 [(3, .int (ji ((J:Int)))), (0, .ref (E.2.1 3)), (1, .int (ji ((i:Int)))), (2, .int (ji ((k:Int))))] → W p_ l e_ (rmd 0) s_ m_ a_ b_ t_ c_ H locs 0 0 (XQ b_ (mmQ E (fun r M9 => r = none ∧ eqn n (tb M9) (swT i k (tb M)) ∧ FrR M M9)) a_ s_ 0 0 (wA E)) (F0 m_ 54 ls []) := by
    intro T1 hT1 N
    induction N with
    | zero =>
      intro J M1 H locs ls h0 hT hF hP hS hl
      refine lv_iload_n hx hb dR_swapVariables_54 rfl (lv_at hl 0 rfl) ?_
      refine lv_aload_n hx hb dR_swapVariables_55 rfl (lv_at hl 1 rfl) ?_
      refine m_get (C := "RationalForms$Reduction") (T := TxR) (N := 2) hx hb hg uwR hown hK hP (by omega) (sh_R E _) rfl 1 (by decide) wd36 rfl dR_swapVariables_56 ?_
      refine j_icmp_ge hx hb (by omega) (by rw [hF 3 (by omega), hn0]; omega) dR_swapVariables_59 rfl (fun h1 => ?_) (fun h1 => ?_)
      · exact mm_vret hx hb hr hk hP hS dR_swapVariables_104 ⟨rfl, sw_end hT1 (by rw [show n = J by omega]; exact hT) hn4 hi hk9, hF⟩
      · rw [hF 3 (by omega), hn0] at h1
        omega
    | succ N ih =>
      intro J M1 H locs ls h0 hT hF hP hS hl
      refine lv_iload_n hx hb dR_swapVariables_54 rfl (lv_at hl 0 rfl) ?_
      refine lv_aload_n hx hb dR_swapVariables_55 rfl (lv_at hl 1 rfl) ?_
      refine m_get (C := "RationalForms$Reduction") (T := TxR) (N := 2) hx hb hg uwR hown hK hP (by omega) (sh_R E _) rfl 1 (by decide) wd36 rfl dR_swapVariables_56 ?_
      refine j_icmp_ge hx hb (by omega) (by rw [hF 3 (by omega), hn0]; omega) dR_swapVariables_59 rfl (fun h1 => ?_) (fun h1 => ?_)
      · rw [hF 3 (by omega), hn0] at h1
        omega
      · refine lv_aload_n hx hb dR_swapVariables_62 rfl (lv_at hl 1 rfl) ?_
        refine m_get (C := "RationalForms$Reduction") (T := TxR) (N := 2) hx hb hg uwR hown hK hP (by omega) (sh_R E _) rfl 0 (by decide) wd35 rfl dR_swapVariables_63 ?_
        refine lv_iload_n hx hb dR_swapVariables_66 rfl (lv_at hl 0 rfl) ?_
        refine m_aald (t0 := 3) (n := J) hx hb hK hP (by omega) (sh_b E _) rfl rfl rfl (by omega) (by decide) dR_swapVariables_67 ?_
        refine lv_iload_n hx hb dR_swapVariables_68 rfl (lv_at hl 2 rfl) ?_
        refine m_lald (n := i) hx hb hK hP (by omega) (sh_w E _ (by omega)) rfl (by omega) (by decide) dR_swapVariables_69 ?_
        refine lv_lstore hx hb dR_swapVariables_70 hl (by decide) rfl (fun ls hl => ?_)
        have hl : lv_has ls 6 [(4, .long (jl (M1 (24 + J) i))), (3, .int (ji ((J:Int)))), (0, .ref (E.2.1 3)), (1, .int (ji ((i:Int)))), (2, .int (ji ((k:Int))))] := hl
        refine lv_aload_n hx hb dR_swapVariables_72 rfl (lv_at hl 2 rfl) ?_
        refine m_get (C := "RationalForms$Reduction") (T := TxR) (N := 2) hx hb hg uwR hown hK hP (by omega) (sh_R E _) rfl 0 (by decide) wd35 rfl dR_swapVariables_73 ?_
        refine lv_iload_n hx hb dR_swapVariables_76 rfl (lv_at hl 1 rfl) ?_
        refine m_aald (t0 := 3) (n := J) hx hb hK hP (by omega) (sh_b E _) rfl rfl rfl (by omega) (by decide) dR_swapVariables_77 ?_
        refine lv_iload_n hx hb dR_swapVariables_78 rfl (lv_at hl 3 rfl) ?_
        refine lv_aload_n hx hb dR_swapVariables_79 rfl (lv_at hl 2 rfl) ?_
        refine m_get (C := "RationalForms$Reduction") (T := TxR) (N := 2) hx hb hg uwR hown hK hP (by omega) (sh_R E _) rfl 0 (by decide) wd35 rfl dR_swapVariables_80 ?_
        refine lv_iload_n hx hb dR_swapVariables_83 rfl (lv_at hl 1 rfl) ?_
        refine m_aald (t0 := 3) (n := J) hx hb hK hP (by omega) (sh_b E _) rfl rfl rfl (by omega) (by decide) dR_swapVariables_84 ?_
        refine lv_iload_n hx hb dR_swapVariables_85 rfl (lv_at hl 4 rfl) ?_
        refine m_lald (n := k) hx hb hK hP (by omega) (sh_w E _ (by omega)) rfl (by omega) (by decide) dR_swapVariables_86 ?_
        refine m_last (n := i) hx hb hK hJ hP hS (by omega) (fun r => sh_w E r (by omega)) rfl (by omega) (by decide) dR_swapVariables_87 (fun H locs hP hS => ?_)
        refine lv_aload_n hx hb dR_swapVariables_88 rfl (lv_at hl 2 rfl) ?_
        refine m_get (C := "RationalForms$Reduction") (T := TxR) (N := 2) hx hb hg uwR hown hK hP (by omega) (sh_R E _) rfl 0 (by decide) wd35 rfl dR_swapVariables_89 ?_
        refine lv_iload_n hx hb dR_swapVariables_92 rfl (lv_at hl 1 rfl) ?_
        refine m_aald (t0 := 3) (n := J) hx hb hK hP (by omega) (sh_b E _) rfl rfl rfl (by omega) (by decide) dR_swapVariables_93 ?_
        refine lv_iload_n hx hb dR_swapVariables_94 rfl (lv_at hl 4 rfl) ?_
        refine lv_lload hx hb dR_swapVariables_95 (lv_at hl 0 rfl) ?_
        refine m_last (n := k) hx hb hK hJ hP hS (by omega) (fun r => sh_w E r (by omega)) rfl (by omega) (by decide) dR_swapVariables_97 (fun H locs hP hS => ?_)
        refine lv_iinc (k := 1) (v := ji (((J:Int)) + 1)) hx hb dR_swapVariables_98 hl rfl (Int32.ofInt_add _ _).symm (by decide) rfl (fun ls hl => ?_)
        have hl : lv_has ls 6 [(3, .int (ji (((J:Int)) + 1))), (4, .long (jl (M1 (24 + J) i))), (0, .ref (E.2.1 3)), (1, .int (ji ((i:Int)))), (2, .int (ji ((k:Int))))] := hl
        refine lv_goto hx hb dR_swapVariables_101 rfl ?_
        exact ih (J + 1) _ H locs ls (by omega) (by rw [tb_mu, tb_mu]; exact csw_s hT (by omega) (by omega) (by omega)) ((hF.mu (by omega) _ _).mu (by omega) _ _) hP hS (lv_sub hl [0, 2, 3, 4] rfl)
  have loop1 : ∀ (N J : Nat) (M1 : Me) (H : Heap) (locs : List Loc) (ls : Array Slot), J + N = n → eq4 (tb M1) (rsw i k J (tb M)) → FrR M M1 → wP E M1 H → va_S (wA E) s_.heap H locs → lv_has ls 6 [(3, .int (ji ((J:Int)))), (0, .ref (E.2.1 3)), (1, .int (ji ((i:Int)))), (2, .int (ji ((k:Int))))] → W p_ l e_ (rmd 0) s_ m_ a_ b_ t_ c_ H locs 0 0 (XQ b_ (mmQ E (fun r M9 => r = none ∧ eqn n (tb M9) (swT i k (tb M)) ∧ FrR M M9)) a_ s_ 0 0 (wA E)) (F0 m_ 2 ls []) := by
    intro N
    induction N with
    | zero =>
      intro J M1 H locs ls h0 hT hF hP hS hl
      refine lv_iload_n hx hb dR_swapVariables_2 rfl (lv_at hl 0 rfl) ?_
      refine lv_aload_n hx hb dR_swapVariables_3 rfl (lv_at hl 1 rfl) ?_
      refine m_get (C := "RationalForms$Reduction") (T := TxR) (N := 2) hx hb hg uwR hown hK hP (by omega) (sh_R E _) rfl 1 (by decide) wd36 rfl dR_swapVariables_4 ?_
      refine j_icmp_ge hx hb (by omega) (by rw [hF 3 (by omega), hn0]; omega) dR_swapVariables_7 rfl (fun h1 => ?_) (fun h1 => ?_)
      · refine j_iconst hx hb dR_swapVariables_52 ?_
        refine lv_istore_n hx hb dR_swapVariables_53 rfl hl (by decide) rfl (fun ls hl => ?_)
        have hl : lv_has ls 6 [(3, .int (ji 0)), (0, .ref (E.2.1 3)), (1, .int (ji ((i:Int)))), (2, .int (ji ((k:Int))))] := hl
        exact loop2 (tb M1) (by rw [show n = J by omega]; exact hT) n 0 M1 H locs ls (by omega) (csw_0 i k _) hF hP hS hl
      · rw [hF 3 (by omega), hn0] at h1
        omega
    | succ N ih =>
      intro J M1 H locs ls h0 hT hF hP hS hl
      refine lv_iload_n hx hb dR_swapVariables_2 rfl (lv_at hl 0 rfl) ?_
      refine lv_aload_n hx hb dR_swapVariables_3 rfl (lv_at hl 1 rfl) ?_
      refine m_get (C := "RationalForms$Reduction") (T := TxR) (N := 2) hx hb hg uwR hown hK hP (by omega) (sh_R E _) rfl 1 (by decide) wd36 rfl dR_swapVariables_4 ?_
      refine j_icmp_ge hx hb (by omega) (by rw [hF 3 (by omega), hn0]; omega) dR_swapVariables_7 rfl (fun h1 => ?_) (fun h1 => ?_)
      · rw [hF 3 (by omega), hn0] at h1
        omega
      · refine lv_aload_n hx hb dR_swapVariables_10 rfl (lv_at hl 1 rfl) ?_
        refine m_get (C := "RationalForms$Reduction") (T := TxR) (N := 2) hx hb hg uwR hown hK hP (by omega) (sh_R E _) rfl 0 (by decide) wd35 rfl dR_swapVariables_11 ?_
        refine lv_iload_n hx hb dR_swapVariables_14 rfl (lv_at hl 2 rfl) ?_
        refine m_aald (t0 := 3) (n := i) hx hb hK hP (by omega) (sh_b E _) rfl rfl rfl (by omega) (by decide) dR_swapVariables_15 ?_
        refine lv_iload_n hx hb dR_swapVariables_16 rfl (lv_at hl 0 rfl) ?_
        refine m_lald (n := J) hx hb hK hP (by omega) (sh_w E _ (by omega)) rfl (by omega) (by decide) dR_swapVariables_17 ?_
        refine lv_lstore hx hb dR_swapVariables_18 hl (by decide) rfl (fun ls hl => ?_)
        have hl : lv_has ls 6 [(4, .long (jl (M1 (24 + i) J))), (3, .int (ji ((J:Int)))), (0, .ref (E.2.1 3)), (1, .int (ji ((i:Int)))), (2, .int (ji ((k:Int))))] := hl
        refine lv_aload_n hx hb dR_swapVariables_20 rfl (lv_at hl 2 rfl) ?_
        refine m_get (C := "RationalForms$Reduction") (T := TxR) (N := 2) hx hb hg uwR hown hK hP (by omega) (sh_R E _) rfl 0 (by decide) wd35 rfl dR_swapVariables_21 ?_
        refine lv_iload_n hx hb dR_swapVariables_24 rfl (lv_at hl 3 rfl) ?_
        refine m_aald (t0 := 3) (n := i) hx hb hK hP (by omega) (sh_b E _) rfl rfl rfl (by omega) (by decide) dR_swapVariables_25 ?_
        refine lv_iload_n hx hb dR_swapVariables_26 rfl (lv_at hl 1 rfl) ?_
        refine lv_aload_n hx hb dR_swapVariables_27 rfl (lv_at hl 2 rfl) ?_
        refine m_get (C := "RationalForms$Reduction") (T := TxR) (N := 2) hx hb hg uwR hown hK hP (by omega) (sh_R E _) rfl 0 (by decide) wd35 rfl dR_swapVariables_28 ?_
        refine lv_iload_n hx hb dR_swapVariables_31 rfl (lv_at hl 4 rfl) ?_
        refine m_aald (t0 := 3) (n := k) hx hb hK hP (by omega) (sh_b E _) rfl rfl rfl (by omega) (by decide) dR_swapVariables_32 ?_
        refine lv_iload_n hx hb dR_swapVariables_33 rfl (lv_at hl 1 rfl) ?_
        refine m_lald (n := J) hx hb hK hP (by omega) (sh_w E _ (by omega)) rfl (by omega) (by decide) dR_swapVariables_34 ?_
        refine m_last (n := J) hx hb hK hJ hP hS (by omega) (fun r => sh_w E r (by omega)) rfl (by omega) (by decide) dR_swapVariables_35 (fun H locs hP hS => ?_)
        refine lv_aload_n hx hb dR_swapVariables_36 rfl (lv_at hl 2 rfl) ?_
        refine m_get (C := "RationalForms$Reduction") (T := TxR) (N := 2) hx hb hg uwR hown hK hP (by omega) (sh_R E _) rfl 0 (by decide) wd35 rfl dR_swapVariables_37 ?_
        refine lv_iload_n hx hb dR_swapVariables_40 rfl (lv_at hl 4 rfl) ?_
        refine m_aald (t0 := 3) (n := k) hx hb hK hP (by omega) (sh_b E _) rfl rfl rfl (by omega) (by decide) dR_swapVariables_41 ?_
        refine lv_iload_n hx hb dR_swapVariables_42 rfl (lv_at hl 1 rfl) ?_
        refine lv_lload hx hb dR_swapVariables_43 (lv_at hl 0 rfl) ?_
        refine m_last (n := J) hx hb hK hJ hP hS (by omega) (fun r => sh_w E r (by omega)) rfl (by omega) (by decide) dR_swapVariables_45 (fun H locs hP hS => ?_)
        refine lv_iinc (k := 1) (v := ji (((J:Int)) + 1)) hx hb dR_swapVariables_46 hl rfl (Int32.ofInt_add _ _).symm (by decide) rfl (fun ls hl => ?_)
        have hl : lv_has ls 6 [(3, .int (ji (((J:Int)) + 1))), (4, .long (jl (M1 (24 + i) J))), (0, .ref (E.2.1 3)), (1, .int (ji ((i:Int)))), (2, .int (ji ((k:Int))))] := hl
        refine lv_goto hx hb dR_swapVariables_49 rfl ?_
        exact ih (J + 1) _ H locs ls (by omega) (by rw [tb_mu, tb_mu]; exact rsw_s hT (by omega) (by omega) (by omega)) ((hF.mu (by omega) _ _).mu (by omega) _ _) hP hS (lv_sub hl [0, 2, 3, 4] rfl)
  refine j_iconst hx hb dR_swapVariables_0 ?_
  refine lv_istore_n hx hb dR_swapVariables_1 rfl hl (by decide) rfl (fun ls hl => ?_)
  have hl : lv_has ls 6 [(3, .int (ji 0)), (0, .ref (E.2.1 3)), (1, .int (ji ((i:Int)))), (2, .int (ji ((k:Int))))] := hl
  exact loop1 n 0 M s_.heap [] ls (by omega) (rsw_0 i k _) (FrR.rf M) hP hS hl

set_option maxRecDepth 100000 in
set_option maxHeartbeats 4000000 in
theorem kR_addVariable (l : Launch) (E : En) (hJ : wJ E) (M : Me) (n : Nat) (hn0 : M 3 1 = n) (hn4 : n ≤ 4) (fr to st : Nat) (hf0 : fr < n) (ht0 : to < n) (hs0 : st ≤ n) (hne : fr ≠ to) : MM l yR_addVariable wsR_addVariable (rmd 0) E M [.ref (E.2.1 3), .int (ji ((fr:Int))), .int (ji ((to:Int))), .int (ji ((st:Int)))] (fun r M9 => r = none ∧ eqn n (tb M9) (adT fr to st n (tb M)) ∧ FrR M M9) := by
  refine MM.ofG (by decide +kernel) (Nat.le_of_ble_eq_true rfl) ?_
  intro p_ e_ s_ m_ a_ b_ t_ c_ hx hb hml hr hk hg hown hK hP hS ls hl
  have hl : lv_has ls 5 [(0, .ref (E.2.1 3)), (1, .int (ji ((fr:Int)))), (2, .int (ji ((to:Int)))), (3, .int (ji ((st:Int))))] := hl
  have loop2 : ∀ (T1 : Mt) (_ : eq4 T1 (rad fr to st n (tb M))) (N J : Nat) (M1 : Me) (H : Heap) (locs : List Loc) (ls : Array Slot), J + N = n → st ≤ J → eq4 (tb M1) (cad fr to st J T1) → FrR M M1 → wP E M1 H → va_S (wA E) s_.heap H locs → lv_has ls 5 [(4, .int (ji ((J:Int)))), (0, .ref (E.2.1 3)), (1, .int (ji ((fr:Int)))), (2, .int (ji ((to:Int)))), (3, .int (ji ((st:Int))))] → W p_ l e_ (rmd 0) s_ m_ a_ b_ t_ c_ H locs 0 0 (XQ b_ (mmQ E (fun r M9 => r = none ∧ eqn n (tb M9) (adT fr to st n (tb M)) ∧ FrR M M9)) a_ s_ 0 0 (wA E)) (F0 m_ 42 ls []) := by
    intro T1 hT1 N
    induction N with
    | zero =>
      intro J M1 H locs ls h0 hsJ hT hF hP hS hl
      refine lv_iload hx hb dR_addVariable_42 (lv_at hl 0 rfl) ?_
      refine lv_aload_n hx hb dR_addVariable_44 rfl (lv_at hl 1 rfl) ?_
      refine m_get (C := "RationalForms$Reduction") (T := TxR) (N := 2) hx hb hg uwR hown hK hP (by omega) (sh_R E _) rfl 1 (by decide) wd36 rfl dR_addVariable_45 ?_
      refine j_icmp_ge hx hb (by omega) (by rw [hF 3 (by omega), hn0]; omega) dR_addVariable_48 rfl (fun h1 => ?_) (fun h1 => ?_)
      · exact mm_vret hx hb hr hk hP hS dR_addVariable_78 ⟨rfl, ad_end hT1 (by rw [show n = J by omega]; exact hT) hn4 hf0 ht0, hF⟩
      · rw [hF 3 (by omega), hn0] at h1
        omega
    | succ N ih =>
      intro J M1 H locs ls h0 hsJ hT hF hP hS hl
      refine lv_iload hx hb dR_addVariable_42 (lv_at hl 0 rfl) ?_
      refine lv_aload_n hx hb dR_addVariable_44 rfl (lv_at hl 1 rfl) ?_
      refine m_get (C := "RationalForms$Reduction") (T := TxR) (N := 2) hx hb hg uwR hown hK hP (by omega) (sh_R E _) rfl 1 (by decide) wd36 rfl dR_addVariable_45 ?_
      refine j_icmp_ge hx hb (by omega) (by rw [hF 3 (by omega), hn0]; omega) dR_addVariable_48 rfl (fun h1 => ?_) (fun h1 => ?_)
      · rw [hF 3 (by omega), hn0] at h1
        omega
      · refine lv_aload_n hx hb dR_addVariable_51 rfl (lv_at hl 1 rfl) ?_
        refine m_get (C := "RationalForms$Reduction") (T := TxR) (N := 2) hx hb hg uwR hown hK hP (by omega) (sh_R E _) rfl 0 (by decide) wd35 rfl dR_addVariable_52 ?_
        refine lv_iload hx hb dR_addVariable_55 (lv_at hl 0 rfl) ?_
        refine m_aald (t0 := 3) (n := J) hx hb hK hP (by omega) (sh_b E _) rfl rfl rfl (by omega) (by decide) dR_addVariable_57 ?_
        refine lv_iload_n hx hb dR_addVariable_58 rfl (lv_at hl 3 rfl) ?_
        refine lv_dup2_11 hx hb dR_addVariable_59 rfl rfl ?_
        refine m_lald (n := to) hx hb hK hP (by omega) (sh_w E _ (by omega)) rfl (by omega) (by decide) dR_addVariable_60 ?_
        refine lv_aload_n hx hb dR_addVariable_61 rfl (lv_at hl 1 rfl) ?_
        refine m_get (C := "RationalForms$Reduction") (T := TxR) (N := 2) hx hb hg uwR hown hK hP (by omega) (sh_R E _) rfl 0 (by decide) wd35 rfl dR_addVariable_62 ?_
        refine lv_iload hx hb dR_addVariable_65 (lv_at hl 0 rfl) ?_
        refine m_aald (t0 := 3) (n := J) hx hb hK hP (by omega) (sh_b E _) rfl rfl rfl (by omega) (by decide) dR_addVariable_67 ?_
        refine lv_iload_n hx hb dR_addVariable_68 rfl (lv_at hl 2 rfl) ?_
        refine m_lald (n := fr) hx hb hK hP (by omega) (sh_w E _ (by omega)) rfl (by omega) (by decide) dR_addVariable_69 ?_
        refine j_ladd hx hb dR_addVariable_70 ?_
        refine m_last (n := to) hx hb hK hJ hP hS (by omega) (fun r => sh_w E r (by omega)) rfl (by omega) (by decide) dR_addVariable_71 (fun H locs hP hS => ?_)
        refine lv_iinc (k := 0) (v := ji (((J:Int)) + 1)) hx hb dR_addVariable_72 hl rfl (Int32.ofInt_add _ _).symm (by decide) rfl (fun ls hl => ?_)
        have hl : lv_has ls 5 [(4, .int (ji (((J:Int)) + 1))), (0, .ref (E.2.1 3)), (1, .int (ji ((fr:Int)))), (2, .int (ji ((to:Int)))), (3, .int (ji ((st:Int))))] := hl
        refine lv_goto hx hb dR_addVariable_75 rfl ?_
        exact ih (J + 1) _ H locs ls (by omega) (by omega) (by rw [tb_mu]; exact cad_s hT (by omega) (by omega) hne hsJ (by omega)) (hF.mu (by omega) _ _) hP hS hl
  have loop1 : ∀ (N J : Nat) (M1 : Me) (H : Heap) (locs : List Loc) (ls : Array Slot), J + N = n → st ≤ J → eq4 (tb M1) (rad fr to st J (tb M)) → FrR M M1 → wP E M1 H → va_S (wA E) s_.heap H locs → lv_has ls 5 [(4, .int (ji ((J:Int)))), (0, .ref (E.2.1 3)), (1, .int (ji ((fr:Int)))), (2, .int (ji ((to:Int)))), (3, .int (ji ((st:Int))))] → W p_ l e_ (rmd 0) s_ m_ a_ b_ t_ c_ H locs 0 0 (XQ b_ (mmQ E (fun r M9 => r = none ∧ eqn n (tb M9) (adT fr to st n (tb M)) ∧ FrR M M9)) a_ s_ 0 0 (wA E)) (F0 m_ 3 ls []) := by
    intro N
    induction N with
    | zero =>
      intro J M1 H locs ls h0 hsJ hT hF hP hS hl
      refine lv_iload hx hb dR_addVariable_3 (lv_at hl 0 rfl) ?_
      refine lv_aload_n hx hb dR_addVariable_5 rfl (lv_at hl 1 rfl) ?_
      refine m_get (C := "RationalForms$Reduction") (T := TxR) (N := 2) hx hb hg uwR hown hK hP (by omega) (sh_R E _) rfl 1 (by decide) wd36 rfl dR_addVariable_6 ?_
      refine j_icmp_ge hx hb (by omega) (by rw [hF 3 (by omega), hn0]; omega) dR_addVariable_9 rfl (fun h1 => ?_) (fun h1 => ?_)
      · refine lv_iload_n hx hb dR_addVariable_39 rfl (lv_at hl 4 rfl) ?_
        refine lv_istore hx hb dR_addVariable_40 hl (by decide) rfl (fun ls hl => ?_)
        have hl : lv_has ls 5 [(4, .int (ji ((st:Int)))), (0, .ref (E.2.1 3)), (1, .int (ji ((fr:Int)))), (2, .int (ji ((to:Int)))), (3, .int (ji ((st:Int))))] := hl
        exact loop2 (tb M1) (by rw [show n = J by omega]; exact hT) (n - st) st M1 H locs ls (by omega) (by omega) (cad_0 fr to st _) hF hP hS hl
      · rw [hF 3 (by omega), hn0] at h1
        omega
    | succ N ih =>
      intro J M1 H locs ls h0 hsJ hT hF hP hS hl
      refine lv_iload hx hb dR_addVariable_3 (lv_at hl 0 rfl) ?_
      refine lv_aload_n hx hb dR_addVariable_5 rfl (lv_at hl 1 rfl) ?_
      refine m_get (C := "RationalForms$Reduction") (T := TxR) (N := 2) hx hb hg uwR hown hK hP (by omega) (sh_R E _) rfl 1 (by decide) wd36 rfl dR_addVariable_6 ?_
      refine j_icmp_ge hx hb (by omega) (by rw [hF 3 (by omega), hn0]; omega) dR_addVariable_9 rfl (fun h1 => ?_) (fun h1 => ?_)
      · rw [hF 3 (by omega), hn0] at h1
        omega
      · refine lv_aload_n hx hb dR_addVariable_12 rfl (lv_at hl 1 rfl) ?_
        refine m_get (C := "RationalForms$Reduction") (T := TxR) (N := 2) hx hb hg uwR hown hK hP (by omega) (sh_R E _) rfl 0 (by decide) wd35 rfl dR_addVariable_13 ?_
        refine lv_iload_n hx hb dR_addVariable_16 rfl (lv_at hl 3 rfl) ?_
        refine m_aald (t0 := 3) (n := to) hx hb hK hP (by omega) (sh_b E _) rfl rfl rfl (by omega) (by decide) dR_addVariable_17 ?_
        refine lv_iload hx hb dR_addVariable_18 (lv_at hl 0 rfl) ?_
        refine lv_dup2_11 hx hb dR_addVariable_20 rfl rfl ?_
        refine m_lald (n := J) hx hb hK hP (by omega) (sh_w E _ (by omega)) rfl (by omega) (by decide) dR_addVariable_21 ?_
        refine lv_aload_n hx hb dR_addVariable_22 rfl (lv_at hl 1 rfl) ?_
        refine m_get (C := "RationalForms$Reduction") (T := TxR) (N := 2) hx hb hg uwR hown hK hP (by omega) (sh_R E _) rfl 0 (by decide) wd35 rfl dR_addVariable_23 ?_
        refine lv_iload_n hx hb dR_addVariable_26 rfl (lv_at hl 2 rfl) ?_
        refine m_aald (t0 := 3) (n := fr) hx hb hK hP (by omega) (sh_b E _) rfl rfl rfl (by omega) (by decide) dR_addVariable_27 ?_
        refine lv_iload hx hb dR_addVariable_28 (lv_at hl 0 rfl) ?_
        refine m_lald (n := J) hx hb hK hP (by omega) (sh_w E _ (by omega)) rfl (by omega) (by decide) dR_addVariable_30 ?_
        refine j_ladd hx hb dR_addVariable_31 ?_
        refine m_last (n := J) hx hb hK hJ hP hS (by omega) (fun r => sh_w E r (by omega)) rfl (by omega) (by decide) dR_addVariable_32 (fun H locs hP hS => ?_)
        refine lv_iinc (k := 0) (v := ji (((J:Int)) + 1)) hx hb dR_addVariable_33 hl rfl (Int32.ofInt_add _ _).symm (by decide) rfl (fun ls hl => ?_)
        have hl : lv_has ls 5 [(4, .int (ji (((J:Int)) + 1))), (0, .ref (E.2.1 3)), (1, .int (ji ((fr:Int)))), (2, .int (ji ((to:Int)))), (3, .int (ji ((st:Int))))] := hl
        refine lv_goto hx hb dR_addVariable_36 rfl ?_
        exact ih (J + 1) _ H locs ls (by omega) (by omega) (by rw [tb_mu]; exact rad_s hT (by omega) (by omega) hne hsJ (by omega)) (hF.mu (by omega) _ _) hP hS hl
  refine lv_iload_n hx hb dR_addVariable_0 rfl (lv_at hl 3 rfl) ?_
  refine lv_istore hx hb dR_addVariable_1 hl (by decide) rfl (fun ls hl => ?_)
  have hl : lv_has ls 5 [(4, .int (ji ((st:Int)))), (0, .ref (E.2.1 3)), (1, .int (ji ((fr:Int)))), (2, .int (ji ((to:Int)))), (3, .int (ji ((st:Int))))] := hl
  exact loop1 (n - st) st M s_.heap [] ls (by omega) (by omega) (rad_0 fr to st _) (FrR.rf M) hP hS hl

set_option maxRecDepth 100000 in
set_option maxHeartbeats 4000000 in
theorem kR_eliminate (l : Launch) (E : En) (hJ : wJ E) (M : Me) (n : Nat) (hn0 : M 3 1 = n) (hn4 : n ≤ 4) (k : Nat) (hk9 : k < n) (p9 q9 : Int) (hp : p9.natAbs ≤ 2000000000) (hq : b64 q9) (hq0 : q9 ≠ 0) (hT0 : ∀ a b, k ≤ a → a < n → k ≤ b → b < n → (tb M a b).natAbs ≤ 2000000000) : MM l yR_eliminate wsR_eliminate (rmd 0) E M [.ref (E.2.1 3), .int (ji ((k:Int))), .long (jl p9), .long (jl q9)] (fun r M9 => r = none ∧ eqn n (tb M9) (elT k n p9 q9 (tb M)) ∧ FrR M M9) := by
  refine MM.ofG (by decide +kernel) (Nat.le_of_ble_eq_true rfl) ?_
  intro p_ e_ s_ m_ a_ b_ t_ c_ hx hb hml hr hk hg hown hK hP hS ls hl
  have hl : lv_has ls 8 [(0, .ref (E.2.1 3)), (1, .int (ji ((k:Int)))), (2, .long (jl p9)), (4, .long (jl q9))] := hl
  have outer : ∀ (N I : Nat) (M1 : Me) (H : Heap) (locs : List Loc) (ls : Array Slot), I + N = n → k < I → eqn n (tb M1) (ela k p9 q9 I (k + 1) (tb M)) → FrR M M1 → wP E M1 H → va_S (wA E) s_.heap H locs → lv_has ls 8 [(6, .int (ji ((I:Int)))), (0, .ref (E.2.1 3)), (1, .int (ji ((k:Int)))), (2, .long (jl p9)), (4, .long (jl q9))] → W p_ l e_ (rmd 0) s_ m_ a_ b_ t_ c_ H locs 0 0 (XQ b_ (mmQ E (fun r M9 => r = none ∧ eqn n (tb M9) (elT k n p9 q9 (tb M)) ∧ FrR M M9)) a_ s_ 0 0 (wA E)) (F0 m_ 5 ls []) := by
    intro N
    induction N with
    | zero =>
      intro I M1 H locs ls h0 hkI hT hF hP hS hl
      refine lv_iload hx hb dR_eliminate_5 (lv_at hl 0 rfl) ?_
      refine lv_aload_n hx hb dR_eliminate_7 rfl (lv_at hl 1 rfl) ?_
      refine m_get (C := "RationalForms$Reduction") (T := TxR) (N := 2) hx hb hg uwR hown hK hP (by omega) (sh_R E _) rfl 1 (by decide) wd36 rfl dR_eliminate_8 ?_
      refine j_icmp_ge hx hb (by omega) (by rw [hF 3 (by omega), hn0]; omega) dR_eliminate_11 rfl (fun h1 => ?_) (fun h1 => ?_)
      · exact mm_vret hx hb hr hk hP hS dR_eliminate_85 ⟨rfl, ela_e (by rw [show I = n by omega] at hT; exact hT), hF⟩
      · rw [hF 3 (by omega), hn0] at h1
        omega
    | succ N ih =>
      intro I M1 H locs ls h0 hkI hT hF hP hS hl
      have inner : ∀ (K J : Nat) (M1 : Me) (H : Heap) (locs : List Loc) (ls : Array Slot), J + K = n → k < J → eqn n (tb M1) (ela k p9 q9 I J (tb M)) → FrR M M1 → wP E M1 H → va_S (wA E) s_.heap H locs → lv_has ls 8 [(7, .int (ji ((J:Int)))), (6, .int (ji ((I:Int)))), (0, .ref (E.2.1 3)), (1, .int (ji ((k:Int)))), (2, .long (jl p9)), (4, .long (jl q9))] → W p_ l e_ (rmd 0) s_ m_ a_ b_ t_ c_ H locs 0 0 (XQ b_ (mmQ E (fun r M9 => r = none ∧ eqn n (tb M9) (elT k n p9 q9 (tb M)) ∧ FrR M M9)) a_ s_ 0 0 (wA E)) (F0 m_ 19 ls []) := by
        intro K
        induction K with
        | zero =>
          intro J M1 H locs ls h1 hkJ hT hF hP hS hl
          refine lv_iload hx hb dR_eliminate_19 (lv_at hl 0 rfl) ?_
          refine lv_aload_n hx hb dR_eliminate_21 rfl (lv_at hl 2 rfl) ?_
          refine m_get (C := "RationalForms$Reduction") (T := TxR) (N := 2) hx hb hg uwR hown hK hP (by omega) (sh_R E _) rfl 1 (by decide) wd36 rfl dR_eliminate_22 ?_
          refine j_icmp_ge hx hb (by omega) (by rw [hF 3 (by omega), hn0]; omega) dR_eliminate_25 rfl (fun h2 => ?_) (fun h2 => ?_)
          · refine lv_iinc (k := 1) (v := ji (((I:Int)) + 1)) hx hb dR_eliminate_79 hl rfl (Int32.ofInt_add _ _).symm (by decide) rfl (fun ls hl => ?_)
            have hl : lv_has ls 8 [(6, .int (ji (((I:Int)) + 1))), (7, .int (ji ((J:Int)))), (0, .ref (E.2.1 3)), (1, .int (ji ((k:Int)))), (2, .long (jl p9)), (4, .long (jl q9))] := hl
            refine lv_goto hx hb dR_eliminate_82 rfl ?_
            exact ih (I + 1) M1 H locs ls (by omega) (by omega) (ela_r (by rw [show J = n by omega] at hT; exact hT)) hF hP hS (lv_sub hl [0, 2, 3, 4, 5] rfl)
          · rw [hF 3 (by omega), hn0] at h2
            omega
        | succ K ihK =>
          intro J M1 H locs ls h1 hkJ hT hF hP hS hl
          have hz : ∀ a b, (a = I ∨ a = k) → (b = J ∨ b = k) → (M1 (24 + a) b).natAbs ≤ 2000000000 := fun a b ha hb => by
            by_cases hab : k < a ∧ k < b ∧ (a < I ∨ a = I ∧ b < J)
            · omega
            · have := hT a b (by omega) (by omega)
              unfold ela at this
              rw [if_neg hab] at this
              show (tb M1 a b).natAbs ≤ _
              rw [this]
              exact hT0 a b (by omega) (by omega) (by omega) (by omega)
          refine lv_iload hx hb dR_eliminate_19 (lv_at hl 0 rfl) ?_
          refine lv_aload_n hx hb dR_eliminate_21 rfl (lv_at hl 2 rfl) ?_
          refine m_get (C := "RationalForms$Reduction") (T := TxR) (N := 2) hx hb hg uwR hown hK hP (by omega) (sh_R E _) rfl 1 (by decide) wd36 rfl dR_eliminate_22 ?_
          refine j_icmp_ge hx hb (by omega) (by rw [hF 3 (by omega), hn0]; omega) dR_eliminate_25 rfl (fun h2 => ?_) (fun h2 => ?_)
          · rw [hF 3 (by omega), hn0] at h2
            omega
          · refine lv_aload_n hx hb dR_eliminate_28 rfl (lv_at hl 2 rfl) ?_
            refine m_get (C := "RationalForms$Reduction") (T := TxR) (N := 2) hx hb hg uwR hown hK hP (by omega) (sh_R E _) rfl 0 (by decide) wd35 rfl dR_eliminate_29 ?_
            refine lv_iload hx hb dR_eliminate_32 (lv_at hl 1 rfl) ?_
            refine m_aald (t0 := 3) (n := I) hx hb hK hP (by omega) (sh_b E _) rfl rfl rfl (by omega) (by decide) dR_eliminate_34 ?_
            refine lv_iload hx hb dR_eliminate_35 (lv_at hl 0 rfl) ?_
            refine lv_aload_n hx hb dR_eliminate_37 rfl (lv_at hl 2 rfl) ?_
            refine m_get (C := "RationalForms$Reduction") (T := TxR) (N := 2) hx hb hg uwR hown hK hP (by omega) (sh_R E _) rfl 0 (by decide) wd35 rfl dR_eliminate_38 ?_
            refine lv_iload hx hb dR_eliminate_41 (lv_at hl 1 rfl) ?_
            refine m_aald (t0 := 3) (n := I) hx hb hK hP (by omega) (sh_b E _) rfl rfl rfl (by omega) (by decide) dR_eliminate_43 ?_
            refine lv_iload hx hb dR_eliminate_44 (lv_at hl 0 rfl) ?_
            refine m_lald (n := J) hx hb hK hP (by omega) (sh_w E _ (by omega)) rfl (by omega) (by decide) dR_eliminate_46 ?_
            refine lv_lload_n hx hb dR_eliminate_47 rfl (lv_at hl 4 rfl) ?_
            refine j_lmul hx hb dR_eliminate_48 ?_
            refine lv_aload_n hx hb dR_eliminate_49 rfl (lv_at hl 2 rfl) ?_
            refine m_get (C := "RationalForms$Reduction") (T := TxR) (N := 2) hx hb hg uwR hown hK hP (by omega) (sh_R E _) rfl 0 (by decide) wd35 rfl dR_eliminate_50 ?_
            refine lv_iload hx hb dR_eliminate_53 (lv_at hl 1 rfl) ?_
            refine m_aald (t0 := 3) (n := I) hx hb hK hP (by omega) (sh_b E _) rfl rfl rfl (by omega) (by decide) dR_eliminate_55 ?_
            refine lv_iload_n hx hb dR_eliminate_56 rfl (lv_at hl 3 rfl) ?_
            refine m_lald (n := k) hx hb hK hP (by omega) (sh_w E _ (by omega)) rfl (by omega) (by decide) dR_eliminate_57 ?_
            refine lv_aload_n hx hb dR_eliminate_58 rfl (lv_at hl 2 rfl) ?_
            refine m_get (C := "RationalForms$Reduction") (T := TxR) (N := 2) hx hb hg uwR hown hK hP (by omega) (sh_R E _) rfl 0 (by decide) wd35 rfl dR_eliminate_59 ?_
            refine lv_iload_n hx hb dR_eliminate_62 rfl (lv_at hl 3 rfl) ?_
            refine m_aald (t0 := 3) (n := k) hx hb hK hP (by omega) (sh_b E _) rfl rfl rfl (by omega) (by decide) dR_eliminate_63 ?_
            refine lv_iload hx hb dR_eliminate_64 (lv_at hl 0 rfl) ?_
            refine m_lald (n := J) hx hb hK hP (by omega) (sh_w E _ (by omega)) rfl (by omega) (by decide) dR_eliminate_66 ?_
            refine j_lmul hx hb dR_eliminate_67 ?_
            refine j_lsub hx hb dR_eliminate_68 ?_
            refine lv_lload hx hb dR_eliminate_69 (lv_at hl 5 rfl) ?_
            refine j_ldiv hx hb (el64 (hz I J (by omega) (by omega)) hp (hz I k (by omega) (by omega)) (hz k J (by omega) (by omega))) hq hq0 dR_eliminate_71 ?_
            refine m_last (n := J) hx hb hK hJ hP hS (by omega) (fun r => sh_w E r (by omega)) rfl (by omega) (by decide) dR_eliminate_72 (fun H locs hP hS => ?_)
            refine lv_iinc (k := 0) (v := ji (((J:Int)) + 1)) hx hb dR_eliminate_73 hl rfl (Int32.ofInt_add _ _).symm (by decide) rfl (fun ls hl => ?_)
            have hl : lv_has ls 8 [(7, .int (ji (((J:Int)) + 1))), (6, .int (ji ((I:Int)))), (0, .ref (E.2.1 3)), (1, .int (ji ((k:Int)))), (2, .long (jl p9)), (4, .long (jl q9))] := hl
            refine lv_goto hx hb dR_eliminate_76 rfl ?_
            exact ihK (J + 1) _ H locs ls (by omega) (by omega) (by rw [tb_mu]; exact ela_n hT hkI hkJ (by omega) (by omega)) (hF.mu (by omega) _ _) hP hS hl
      refine lv_iload hx hb dR_eliminate_5 (lv_at hl 0 rfl) ?_
      refine lv_aload_n hx hb dR_eliminate_7 rfl (lv_at hl 1 rfl) ?_
      refine m_get (C := "RationalForms$Reduction") (T := TxR) (N := 2) hx hb hg uwR hown hK hP (by omega) (sh_R E _) rfl 1 (by decide) wd36 rfl dR_eliminate_8 ?_
      refine j_icmp_ge hx hb (by omega) (by rw [hF 3 (by omega), hn0]; omega) dR_eliminate_11 rfl (fun h1 => ?_) (fun h1 => ?_)
      · rw [hF 3 (by omega), hn0] at h1
        omega
      · refine lv_iload_n hx hb dR_eliminate_14 rfl (lv_at hl 2 rfl) ?_
        refine j_iconst hx hb dR_eliminate_15 ?_
        refine j_iadd hx hb dR_eliminate_16 ?_
        refine lv_istore hx hb dR_eliminate_17 hl (by decide) rfl (fun ls hl => ?_)
        have hl : lv_has ls 8 [(7, .int (ji (((k:Int)) + 1))), (6, .int (ji ((I:Int)))), (0, .ref (E.2.1 3)), (1, .int (ji ((k:Int)))), (2, .long (jl p9)), (4, .long (jl q9))] := hl
        exact inner (n - (k + 1)) (k + 1) M1 H locs ls (by omega) (by omega) hT hF hP hS hl
  refine lv_iload_n hx hb dR_eliminate_0 rfl (lv_at hl 1 rfl) ?_
  refine j_iconst hx hb dR_eliminate_1 ?_
  refine j_iadd hx hb dR_eliminate_2 ?_
  refine lv_istore hx hb dR_eliminate_3 hl (by decide) rfl (fun ls hl => ?_)
  have hl : lv_has ls 8 [(6, .int (ji (((k:Int)) + 1))), (0, .ref (E.2.1 3)), (1, .int (ji ((k:Int)))), (2, .long (jl p9)), (4, .long (jl q9))] := hl
  exact outer (n - (k + 1)) (k + 1) M s_.heap [] ls (by omega) (by omega) ((ela_0 k p9 q9 _).n hn4) (FrR.rf M) hP hS hl

set_option maxRecDepth 100000 in
set_option maxHeartbeats 4000000 in
theorem kR_bringPivot (l : Launch) (E : En) (hJ : wJ E) (M : Me) (n : Nat) (hn0 : M 3 1 = n) (hn4 : n ≤ 4) (k : Nat) (hk9 : k < n) (hT0 : ∀ a b, k ≤ a → a < n → k ≤ b → b < n → b64 (tb M a b)) : MM l yR_bringPivot wsR_bringPivot (rmd 1) E M [.ref (E.2.1 3), .int (ji ((k:Int)))] (fun v M9 => (∃ r : Prop, v = some (.int (ji (bi r))) ∧ bpR n k (tb M) r (tb M9)) ∧ FrR M M9) := by
  refine MM.ofG (by decide +kernel) (Nat.le_of_ble_eq_true rfl) ?_
  intro p_ e_ s_ m_ a_ b_ t_ c_ hx hb hml hr hk hg hown hK hP hS ls hl
  have hl : lv_has ls 4 [(0, .ref (E.2.1 3)), (1, .int (ji ((k:Int))))] := hl
  have outer : ∀ (hd : ∀ m, k ≤ m → m < n → tb M m m = 0) (N i : Nat) (ls : Array Slot), i + N = n → k ≤ i → (∀ x y, k ≤ x → x < y → y < n → x < i → tb M x y = 0) → lv_has ls 4 [(2, .int (ji ((i:Int)))), (0, .ref (E.2.1 3)), (1, .int (ji ((k:Int))))] → W p_ l e_ (rmd 1) s_ m_ a_ b_ t_ c_ s_.heap [] 0 0 (XQ b_ (mmQ E (fun v M9 => (∃ r : Prop, v = some (.int (ji (bi r))) ∧ bpR n k (tb M) r (tb M9)) ∧ FrR M M9)) a_ s_ 0 0 (wA E)) (F0 m_ 39 ls []) := by
    intro hd N
    induction N with
    | zero =>
      intro i ls h0 hki hz hl
      refine lv_iload_n hx hb dR_bringPivot_39 rfl (lv_at hl 0 rfl) ?_
      refine lv_aload_n hx hb dR_bringPivot_40 rfl (lv_at hl 1 rfl) ?_
      refine m_get (C := "RationalForms$Reduction") (T := TxR) (N := 2) hx hb hg uwR hown hK hP (by omega) (sh_R E _) rfl 1 (by decide) wd36 rfl dR_bringPivot_41 ?_
      refine j_icmp_ge hx hb (by omega) (by rw [hn0]; omega) dR_bringPivot_44 rfl (fun h1 => ?_) (fun h1 => ?_)
      · refine j_iconst hx hb dR_bringPivot_99 ?_
        exact mm_zret hx hb hr hk hP hS dR_bringPivot_100 nar_0 ⟨⟨False, by rw [bi_f id], Or.inr (Or.inr ⟨hd, fun x y x1 x2 x3 => hz x y x1 x2 x3 (by omega), id, eqn.rf _ _⟩)⟩, FrR.rf M⟩
      · rw [hn0] at h1
        omega
    | succ N ih =>
      intro i ls h0 hki hz hl
      have inner : ∀ (K j : Nat) (ls : Array Slot), j + K = n → i < j → (∀ y, i < y → y < j → tb M i y = 0) → lv_has ls 4 [(3, .int (ji ((j:Int)))), (2, .int (ji ((i:Int)))), (0, .ref (E.2.1 3)), (1, .int (ji ((k:Int))))] → W p_ l e_ (rmd 1) s_ m_ a_ b_ t_ c_ s_.heap [] 0 0 (XQ b_ (mmQ E (fun v M9 => (∃ r : Prop, v = some (.int (ji (bi r))) ∧ bpR n k (tb M) r (tb M9)) ∧ FrR M M9)) a_ s_ 0 0 (wA E)) (F0 m_ 51 ls []) := by
        intro K
        induction K with
        | zero =>
          intro j ls h1 hij hz2 hl
          refine lv_iload_n hx hb dR_bringPivot_51 rfl (lv_at hl 0 rfl) ?_
          refine lv_aload_n hx hb dR_bringPivot_52 rfl (lv_at hl 2 rfl) ?_
          refine m_get (C := "RationalForms$Reduction") (T := TxR) (N := 2) hx hb hg uwR hown hK hP (by omega) (sh_R E _) rfl 1 (by decide) wd36 rfl dR_bringPivot_53 ?_
          refine j_icmp_ge hx hb (by omega) (by rw [hn0]; omega) dR_bringPivot_56 rfl (fun h2 => ?_) (fun h2 => ?_)
          · refine lv_iinc (k := 1) (v := ji (((i:Int)) + 1)) hx hb dR_bringPivot_93 hl rfl (Int32.ofInt_add _ _).symm (by decide) rfl (fun ls hl => ?_)
            have hl : lv_has ls 4 [(2, .int (ji (((i:Int)) + 1))), (3, .int (ji ((j:Int)))), (0, .ref (E.2.1 3)), (1, .int (ji ((k:Int))))] := hl
            refine lv_goto hx hb dR_bringPivot_96 rfl ?_
            refine ih (i + 1) ls (by omega) (by omega) (fun x y x1 x2 x3 x4 => ?_) (lv_sub hl [0, 2, 3] rfl)
            by_cases hxi : x = i
            · rw [hxi]; exact hz2 y (by omega) (by omega)
            · exact hz x y x1 x2 x3 (by omega)
          · rw [hn0] at h2
            omega
        | succ K ihK =>
          intro j ls h1 hij hz2 hl
          refine lv_iload_n hx hb dR_bringPivot_51 rfl (lv_at hl 0 rfl) ?_
          refine lv_aload_n hx hb dR_bringPivot_52 rfl (lv_at hl 2 rfl) ?_
          refine m_get (C := "RationalForms$Reduction") (T := TxR) (N := 2) hx hb hg uwR hown hK hP (by omega) (sh_R E _) rfl 1 (by decide) wd36 rfl dR_bringPivot_53 ?_
          refine j_icmp_ge hx hb (by omega) (by rw [hn0]; omega) dR_bringPivot_56 rfl (fun h2 => ?_) (fun h2 => ?_)
          · rw [hn0] at h2
            omega
          · refine lv_aload_n hx hb dR_bringPivot_59 rfl (lv_at hl 2 rfl) ?_
            refine m_get (C := "RationalForms$Reduction") (T := TxR) (N := 2) hx hb hg uwR hown hK hP (by omega) (sh_R E _) rfl 0 (by decide) wd35 rfl dR_bringPivot_60 ?_
            refine lv_iload_n hx hb dR_bringPivot_63 rfl (lv_at hl 1 rfl) ?_
            refine m_aald (t0 := 3) (n := i) hx hb hK hP (by omega) (sh_b E _) rfl rfl rfl (by omega) (by decide) dR_bringPivot_64 ?_
            refine lv_iload_n hx hb dR_bringPivot_65 rfl (lv_at hl 0 rfl) ?_
            refine m_lald (n := j) hx hb hK hP (by omega) (sh_w E _ (by omega)) rfl (by omega) (by decide) dR_bringPivot_66 ?_
            refine j_lconst0 hx hb dR_bringPivot_67 ?_
            refine j_lc_eq hx hb (hT0 i j (by omega) (by omega) (by omega) (by omega)) (by decide) dR_bringPivot_68 dR_bringPivot_69 rfl (fun h3 => ?_) (fun h3 => ?_)
            · refine lv_iinc (k := 0) (v := ji (((j:Int)) + 1)) hx hb dR_bringPivot_87 hl rfl (Int32.ofInt_add _ _).symm (by decide) rfl (fun ls hl => ?_)
              have hl : lv_has ls 4 [(3, .int (ji (((j:Int)) + 1))), (2, .int (ji ((i:Int)))), (0, .ref (E.2.1 3)), (1, .int (ji ((k:Int))))] := hl
              refine lv_goto hx hb dR_bringPivot_90 rfl ?_
              refine ihK (j + 1) ls (by omega) (by omega) (fun y y1 y2 => ?_) hl
              by_cases hyj : y = j
              · rw [hyj]; exact h3
              · exact hz2 y y1 (by omega)
            · refine lv_aload_n hx hb dR_bringPivot_72 rfl (lv_at hl 2 rfl) ?_
              refine lv_iload_n hx hb dR_bringPivot_73 rfl (lv_at hl 0 rfl) ?_
              refine lv_iload_n hx hb dR_bringPivot_74 rfl (lv_at hl 1 rfl) ?_
              refine lv_iload_n hx hb dR_bringPivot_75 rfl (lv_at hl 3 rfl) ?_
              refine mm_V (As := [.int (ji ((j:Int))), .int (ji ((i:Int))), .int (ji ((k:Int)))]) (rest := []) hx hb hml hown hg hl hK hP hS (by omega) (sh_R E _) rfl (kR_addVariable l E hJ M n hn0 hn4 j i k (by omega) (by omega) (by omega) (by omega)) wd141 wd143 wds5 wd2 wd144 ⟨rfl, rfl⟩ (n := 3) (by decide +kernel) rfl ⟨by decide, by decide⟩ rfl (Nat.le_of_ble_eq_true rfl) dR_bringPivot_76 ⟨Nat.zero_le _, Nat.zero_le _⟩ (fun v M3 H locs hq3 hP hS => ?_)
              obtain ⟨rfl, hq4, hq5⟩ := hq3
              refine lv_aload_n hx hb dR_bringPivot_79 rfl (lv_at hl 2 rfl) ?_
              refine lv_iload_n hx hb dR_bringPivot_80 rfl (lv_at hl 1 rfl) ?_
              refine lv_iload_n hx hb dR_bringPivot_81 rfl (lv_at hl 3 rfl) ?_
              refine mm_V (As := [.int (ji ((i:Int))), .int (ji ((k:Int)))]) (rest := []) hx hb hml hown hg hl hK hP hS (by omega) (sh_R E _) rfl (kR_swapVariables l E hJ M3 n ((congrFun (hq5 3 (by omega)) 1).trans hn0) hn4 i k (by omega) hk9) wd137 wd139 wds4 wd2 wd140 ⟨rfl, rfl⟩ (n := 2) (by decide +kernel) rfl ⟨by decide, by decide⟩ rfl (Nat.le_of_ble_eq_true rfl) dR_bringPivot_82 ⟨Nat.zero_le _, Nat.zero_le _⟩ (fun v M4 H locs hq6 hP hS => ?_)
              obtain ⟨rfl, hq7, hq8⟩ := hq6
              refine j_iconst hx hb dR_bringPivot_85 ?_
              exact mm_zret hx hb hr hk hP hS dR_bringPivot_86 nar_1 ⟨⟨True, by rw [bi_t trivial], Or.inr (Or.inl ⟨hd, i, j, hki, hij, by omega, h3, fun x y x1 x2 x3 x4 => x4.elim (fun x4 => hz x y x1 x2 x3 x4) (fun x4 => by rw [x4.1]; exact hz2 y (by omega) x4.2), trivial, hq7.tr (swT_eqn hq4 (by omega) hk9)⟩)⟩, hq5.tr hq8⟩
      refine lv_iload_n hx hb dR_bringPivot_39 rfl (lv_at hl 0 rfl) ?_
      refine lv_aload_n hx hb dR_bringPivot_40 rfl (lv_at hl 1 rfl) ?_
      refine m_get (C := "RationalForms$Reduction") (T := TxR) (N := 2) hx hb hg uwR hown hK hP (by omega) (sh_R E _) rfl 1 (by decide) wd36 rfl dR_bringPivot_41 ?_
      refine j_icmp_ge hx hb (by omega) (by rw [hn0]; omega) dR_bringPivot_44 rfl (fun h1 => ?_) (fun h1 => ?_)
      · rw [hn0] at h1
        omega
      · refine lv_iload_n hx hb dR_bringPivot_47 rfl (lv_at hl 0 rfl) ?_
        refine j_iconst hx hb dR_bringPivot_48 ?_
        refine j_iadd hx hb dR_bringPivot_49 ?_
        refine lv_istore_n hx hb dR_bringPivot_50 rfl hl (by decide) rfl (fun ls hl => ?_)
        have hl : lv_has ls 4 [(3, .int (ji (((i:Int)) + 1))), (2, .int (ji ((i:Int)))), (0, .ref (E.2.1 3)), (1, .int (ji ((k:Int))))] := hl
        exact inner (n - (i + 1)) (i + 1) ls (by omega) (by omega) (fun y y1 y2 => by omega) hl
  have diag : ∀ (N i : Nat) (ls : Array Slot), i + N = n → k ≤ i → (∀ m, k ≤ m → m < i → tb M m m = 0) → lv_has ls 4 [(2, .int (ji ((i:Int)))), (0, .ref (E.2.1 3)), (1, .int (ji ((k:Int))))] → W p_ l e_ (rmd 1) s_ m_ a_ b_ t_ c_ s_.heap [] 0 0 (XQ b_ (mmQ E (fun v M9 => (∃ r : Prop, v = some (.int (ji (bi r))) ∧ bpR n k (tb M) r (tb M9)) ∧ FrR M M9)) a_ s_ 0 0 (wA E)) (F0 m_ 2 ls []) := by
    intro N
    induction N with
    | zero =>
      intro i ls h0 hki hz hl
      refine lv_iload_n hx hb dR_bringPivot_2 rfl (lv_at hl 0 rfl) ?_
      refine lv_aload_n hx hb dR_bringPivot_3 rfl (lv_at hl 1 rfl) ?_
      refine m_get (C := "RationalForms$Reduction") (T := TxR) (N := 2) hx hb hg uwR hown hK hP (by omega) (sh_R E _) rfl 1 (by decide) wd36 rfl dR_bringPivot_4 ?_
      refine j_icmp_ge hx hb (by omega) (by rw [hn0]; omega) dR_bringPivot_7 rfl (fun h1 => ?_) (fun h1 => ?_)
      · refine lv_iload_n hx hb dR_bringPivot_37 rfl (lv_at hl 2 rfl) ?_
        refine lv_istore_n hx hb dR_bringPivot_38 rfl hl (by decide) rfl (fun ls hl => ?_)
        have hl : lv_has ls 4 [(2, .int (ji ((k:Int)))), (0, .ref (E.2.1 3)), (1, .int (ji ((k:Int))))] := hl
        exact outer (fun m m1 m2 => hz m m1 (by omega)) (n - k) k ls (by omega) (Nat.le_refl _) (fun x y x1 x2 x3 x4 => by omega) hl
      · rw [hn0] at h1
        omega
    | succ N ih =>
      intro i ls h0 hki hz hl
      refine lv_iload_n hx hb dR_bringPivot_2 rfl (lv_at hl 0 rfl) ?_
      refine lv_aload_n hx hb dR_bringPivot_3 rfl (lv_at hl 1 rfl) ?_
      refine m_get (C := "RationalForms$Reduction") (T := TxR) (N := 2) hx hb hg uwR hown hK hP (by omega) (sh_R E _) rfl 1 (by decide) wd36 rfl dR_bringPivot_4 ?_
      refine j_icmp_ge hx hb (by omega) (by rw [hn0]; omega) dR_bringPivot_7 rfl (fun h1 => ?_) (fun h1 => ?_)
      · rw [hn0] at h1
        omega
      · refine lv_aload_n hx hb dR_bringPivot_10 rfl (lv_at hl 1 rfl) ?_
        refine m_get (C := "RationalForms$Reduction") (T := TxR) (N := 2) hx hb hg uwR hown hK hP (by omega) (sh_R E _) rfl 0 (by decide) wd35 rfl dR_bringPivot_11 ?_
        refine lv_iload_n hx hb dR_bringPivot_14 rfl (lv_at hl 0 rfl) ?_
        refine m_aald (t0 := 3) (n := i) hx hb hK hP (by omega) (sh_b E _) rfl rfl rfl (by omega) (by decide) dR_bringPivot_15 ?_
        refine lv_iload_n hx hb dR_bringPivot_16 rfl (lv_at hl 0 rfl) ?_
        refine m_lald (n := i) hx hb hK hP (by omega) (sh_w E _ (by omega)) rfl (by omega) (by decide) dR_bringPivot_17 ?_
        refine j_lconst0 hx hb dR_bringPivot_18 ?_
        refine j_lc_eq hx hb (hT0 i i (by omega) (by omega) (by omega) (by omega)) (by decide) dR_bringPivot_19 dR_bringPivot_20 rfl (fun h2 => ?_) (fun h2 => ?_)
        · refine lv_iinc (k := 0) (v := ji (((i:Int)) + 1)) hx hb dR_bringPivot_31 hl rfl (Int32.ofInt_add _ _).symm (by decide) rfl (fun ls hl => ?_)
          have hl : lv_has ls 4 [(2, .int (ji (((i:Int)) + 1))), (0, .ref (E.2.1 3)), (1, .int (ji ((k:Int))))] := hl
          refine lv_goto hx hb dR_bringPivot_34 rfl ?_
          refine ih (i + 1) ls (by omega) (by omega) (fun m m1 m2 => ?_) hl
          by_cases hmi : m = i
          · rw [hmi]; exact h2
          · exact hz m m1 (by omega)
        · refine lv_aload_n hx hb dR_bringPivot_23 rfl (lv_at hl 1 rfl) ?_
          refine lv_iload_n hx hb dR_bringPivot_24 rfl (lv_at hl 0 rfl) ?_
          refine lv_iload_n hx hb dR_bringPivot_25 rfl (lv_at hl 2 rfl) ?_
          refine mm_V (As := [.int (ji ((i:Int))), .int (ji ((k:Int)))]) (rest := []) hx hb hml hown hg hl hK hP hS (by omega) (sh_R E _) rfl (kR_swapVariables l E hJ M n hn0 hn4 i k (by omega) hk9) wd137 wd139 wds4 wd2 wd140 ⟨rfl, rfl⟩ (n := 2) (by decide +kernel) rfl ⟨by decide, by decide⟩ rfl (Nat.le_of_ble_eq_true rfl) dR_bringPivot_26 ⟨Nat.zero_le _, Nat.zero_le _⟩ (fun v M4 H locs hq6 hP hS => ?_)
          obtain ⟨rfl, hq7, hq8⟩ := hq6
          refine j_iconst hx hb dR_bringPivot_29 ?_
          exact mm_zret hx hb hr hk hP hS dR_bringPivot_30 nar_1 ⟨⟨True, by rw [bi_t trivial], Or.inl ⟨i, hki, by omega, h2, hz, trivial, hq7⟩⟩, hq8⟩
  refine lv_iload_n hx hb dR_bringPivot_0 rfl (lv_at hl 1 rfl) ?_
  refine lv_istore_n hx hb dR_bringPivot_1 rfl hl (by decide) rfl (fun ls hl => ?_)
  have hl : lv_has ls 4 [(2, .int (ji ((k:Int)))), (0, .ref (E.2.1 3)), (1, .int (ji ((k:Int))))] := hl
  exact diag (n - k) k ls (by omega) (Nat.le_refl _) (fun m m1 m2 => by omega) hl
end
section
/-! the pivots: what elimination leaves; bounds; the last pivot of four is the determinant -/
def bef (p : Nat → Int) : Nat → Int
  | 0 => 1
  | k + 1 => p k
/-- after k steps of elimination with the pivots p the table is T -/
def PVs (n : Nat) (A : Mt) (p : Nat → Int) : Nat → Mt → Prop
  | 0, T => eqn n T A
  | k + 1, T => ∃ T0 B, PVs n A p k T0 ∧ k < n ∧ bpR n k T0 True B ∧ B k k = p k ∧ eqn n T (elT k n (p k) (bef p k) B)
theorem PVs.cg {n : Nat} {A : Mt} {p p' : Nat → Int} : ∀ {k : Nat} {T : Mt}, (∀ i, i < k → p' i = p i) → PVs n A p k T → PVs n A p' k T
  | 0, _, _, h => h
  | k + 1, T, hp, ⟨T0, B, h1, h2, h3, h4, h5⟩ => ⟨T0, B, PVs.cg (fun i hi => hp i (by omega)) h1, h2, h3, by rw [h4, hp k (by omega)], by
      have e : bef p' k = bef p k := by
        cases k with
        | zero => rfl
        | succ k => exact hp k (by omega)
      rw [hp k (by omega), e]; exact h5⟩
theorem PVs.dt {n : Nat} {A : Mt} {p p' : Nat → Int} : ∀ {k : Nat} {T T' : Mt}, PVs n A p k T → PVs n A p' k T' → (∀ i, i < k → p' i = p i) ∧ eqn n T T'
  | 0, _, _, h, h' => ⟨fun _ hi => by omega, eqn.tr h (eqn.sy h')⟩
  | k + 1, T, T', ⟨T0, B, h1, h2, h3, h4, h5⟩, ⟨T0', B', g1, g2, g3, g4, g5⟩ => by
      obtain ⟨a1, a2⟩ := PVs.dt h1 g1
      obtain ⟨-, b2⟩ := bpR_dt a2 h3 g3 h2
      have hk : p' k = p k := by rw [← h4, ← g4]; exact (b2 k k h2 h2).symm
      refine ⟨fun i hi => ?_, ?_⟩
      · rcases Nat.lt_or_ge i k with q | q
        · exact a1 i q
        · rw [show i = k by omega]; exact hk
      · have e : bef p' k = bef p k := by
          cases k with
          | zero => rfl
          | succ k => exact a1 k (by omega)
        rw [hk, e] at g5
        exact h5.tr ((elT_eqn b2 h2).tr g5.sy)
/-- elimination of A (n rows) has the r pivots p and no more -/
def PV (n : Nat) (A : Mt) (r : Nat) (p : Nat → Int) : Prop := r ≤ n ∧ ∃ T, PVs n A p r T ∧ (r = n ∨ ∃ B, bpR n r T False B)
theorem PVs.lt {n : Nat} {A : Mt} {p : Nat → Int} : ∀ {k : Nat} {T : Mt}, PVs n A p k T → ∀ j, j < k → ∃ T0 B, PVs n A p j T0 ∧ j < n ∧ bpR n j T0 True B
  | 0, _, _, j, hj => by omega
  | k + 1, T, ⟨T0, B, h1, h2, h3, h4, h5⟩, j, hj => by
      rcases Nat.lt_or_ge j k with q | q
      · exact PVs.lt h1 j q
      · rw [show j = k by omega]; exact ⟨T0, B, h1, h2, h3⟩
theorem PV.le {n r r' : Nat} {A : Mt} {p p' : Nat → Int} (h : PV n A r p) (h' : PV n A r' p') : r' ≤ r := by
  obtain ⟨h1, T, h2, h3⟩ := h
  obtain ⟨g1, T', g2, g3⟩ := h'
  rcases Nat.lt_or_ge r r' with q | q
  · rcases h3 with h3 | ⟨B, h3⟩
    · omega
    · obtain ⟨T0, B', j1, j2, j3⟩ := g2.lt r q
      have := (bpR_dt (PVs.dt h2 j1).2 h3 j3 j2).1
      exact (this.mpr trivial).elim
  · exact q
theorem PV.dt {n r r' : Nat} {A : Mt} {p p' : Nat → Int} (h : PV n A r p) (h' : PV n A r' p') : r' = r ∧ ∀ i, i < r → p' i = p i := by
  have e : r' = r := Nat.le_antisymm (h.le h') (h'.le h)
  subst e
  obtain ⟨h1, T, h2, h3⟩ := h
  obtain ⟨g1, T', g2, g3⟩ := h'
  exact ⟨rfl, (PVs.dt h2 g2).1⟩
theorem PVs.tA {n : Nat} {A A' : Mt} (hA : eqn n A A') {p : Nat → Int} : ∀ {k : Nat} {T : Mt}, PVs n A p k T → PVs n A' p k T
  | 0, _, h => eqn.tr h hA
  | k + 1, T, ⟨T0, B, h1, h2, h3, h4, h5⟩ => ⟨T0, B, PVs.tA hA h1, h2, h3, h4, h5⟩
theorem PV.tA {n r : Nat} {A A' : Mt} (hA : eqn n A A') {p : Nat → Int} (h : PV n A r p) : PV n A' r p := ⟨h.1, h.2.elim fun T q => ⟨T, q.1.tA hA, q.2⟩⟩
theorem adT_tt {fr to st n : Nat} {A : Mt} (h1 : st ≤ to) (h2 : to < n) (h3 : st ≤ fr) (h4 : fr < n) : adT fr to st n A to to = A to to + A fr to + (A to fr + A fr fr) := by
  unfold adT cad rad
  rw [if_pos ⟨rfl, h1, h2⟩, if_pos ⟨rfl, h1, h2⟩, if_pos ⟨rfl, h3, h4⟩]
theorem adT_tb {fr to st n b : Nat} {A : Mt} (h1 : st ≤ b) (h2 : b < n) (h3 : b ≠ to) : adT fr to st n A to b = A to b + A fr b := by
  unfold adT cad rad
  rw [if_neg (fun q => h3 q.1), if_pos ⟨rfl, h1, h2⟩]
theorem adT_at {fr to st n a : Nat} {A : Mt} (h1 : st ≤ a) (h2 : a < n) (h3 : a ≠ to) : adT fr to st n A a to = A a to + A a fr := by
  unfold adT cad rad
  rw [if_pos ⟨rfl, h1, h2⟩, if_neg (fun q => h3 q.1), if_neg (fun q => h3 q.1)]
theorem adT_ab {fr to st n a b : Nat} {A : Mt} (h3 : a ≠ to) (h4 : b ≠ to) : adT fr to st n A a b = A a b := by
  unfold adT cad rad
  rw [if_neg (fun q => h4 q.1), if_neg (fun q => h3 q.1)]
/-- symmetric from k on, and bounded by c -/
def sb (k n c : Nat) (A : Mt) : Prop := ∀ a b, k ≤ a → a < n → k ≤ b → b < n → A a b = A b a ∧ (A a b).natAbs ≤ c
theorem sb_sw {k n c i : Nat} {A : Mt} (h : sb k n c A) (hi : k ≤ i) (hn : i < n) (hk : k < n) : sb k n c (swT i k A) := fun a b a1 a2 b1 b2 =>
  h _ _ (swI_ge hi (Nat.le_refl k) a1) (swI_lt hn hk a2) (swI_ge hi (Nat.le_refl k) b1) (swI_lt hn hk b2)
theorem sb_ad {k n c fr to : Nat} {A : Mt} (h : sb k n c A) (f1 : k ≤ fr) (f2 : fr < n) (t1 : k ≤ to) (t2 : to < n) : sb k n (4 * c) (adT fr to k n A) := by
  intro a b a1 a2 b1 b2
  have hab := h a b a1 a2 b1 b2
  have haf := h a fr a1 a2 f1 f2
  have hbf := h b fr b1 b2 f1 f2
  have hff := h fr fr f1 f2 f1 f2
  by_cases ha : a = to
  · subst ha
    by_cases hb : b = a
    · subst hb
      rw [adT_tt t1 t2 f1 f2]
      exact ⟨rfl, by omega⟩
    · rw [adT_tb b1 b2 hb, adT_at b1 b2 hb]
      omega
  · by_cases hb : b = to
    · subst hb
      rw [adT_tb a1 a2 ha, adT_at a1 a2 ha]
      omega
    · rw [adT_ab ha hb, adT_ab hb ha]
      omega
theorem sb.cg {k n c : Nat} {A B : Mt} (h : sb k n c A) (hB : eqn n B A) : sb k n c B := fun a b a1 a2 b1 b2 => by
  rw [hB a b a2 b2, hB b a b2 a2]; exact h a b a1 a2 b1 b2
theorem sb.up {k n c d : Nat} {A : Mt} (h : sb k n c A) (hc : c ≤ d) : sb k n d A := fun a b a1 a2 b1 b2 => ⟨(h a b a1 a2 b1 b2).1, Nat.le_trans (h a b a1 a2 b1 b2).2 hc⟩
theorem sb_bp {k n c : Nat} {A B : Mt} {r : Prop} (h : sb k n c A) (hb : bpR n k A r B) (hk : k < n) : sb k n (4 * c) B := by
  rcases hb with ⟨i, i1, i2, i3, i4, i5, i6⟩ | ⟨z, i, j, i1, i2, i3, i4, i5, i6, i7⟩ | ⟨z, z2, i1, i2⟩
  · exact ((sb_sw h i1 i2 hk).cg i6).up (by omega)
  · exact (sb_sw (sb_ad h (by omega) i3 i1 (by omega)) i1 (by omega) hk).cg i7
  · exact (h.cg i2).up (by omega)
theorem bp_ne {k n c : Nat} {A B : Mt} (h : sb k n c A) (hb : bpR n k A True B) (hk : k < n) : B k k ≠ 0 := by
  rcases hb with ⟨i, i1, i2, i3, i4, i5, i6⟩ | ⟨z, i, j, i1, i2, i3, i4, i5, i6, i7⟩ | ⟨z, z2, i1, i2⟩
  · rw [i6 k k hk hk]
    unfold swT
    rw [swI_k]
    exact i3
  · rw [i7 k k hk hk]
    unfold swT
    rw [swI_k, adT_tt i1 (by omega) (by omega) i3, z i i1 (by omega), z j (by omega) i3, (h j i (by omega) i3 i1 (by omega)).1]
    omega
  · exact absurd trivial i1
theorem el_bd {x p y z q : Int} {c : Nat} (hx : x.natAbs ≤ c) (hp : p.natAbs ≤ c) (hy : y.natAbs ≤ c) (hz : z.natAbs ≤ c) : ((x * p - y * z).tdiv q).natAbs ≤ 2 * (c * c) := by
  have h1 : (x * p).natAbs ≤ c * c := by rw [Int.natAbs_mul]; exact Nat.mul_le_mul hx hp
  have h2 : (y * z).natAbs ≤ c * c := by rw [Int.natAbs_mul]; exact Nat.mul_le_mul hy hz
  rw [Int.natAbs_tdiv]
  have h3 : (x * p - y * z).natAbs.div q.natAbs ≤ (x * p - y * z).natAbs := Nat.div_le_self _ _
  omega
theorem sb_el {k n c : Nat} {A : Mt} {q : Int} (h : sb k n c A) (hk : k < n) : sb (k + 1) n (2 * (c * c)) (elT k n (A k k) q A) := by
  intro a b a1 a2 b1 b2
  have h1 := h a b (by omega) a2 (by omega) b2
  have h2 := h a k (by omega) a2 (by omega) hk
  have h3 := h b k (by omega) b2 (by omega) hk
  have h4 := h k b (by omega) hk (by omega) b2
  have h5 := h k k (by omega) hk (by omega) hk
  unfold elT ela
  rw [if_pos ⟨by omega, by omega, Or.inl a2⟩, if_pos ⟨by omega, by omega, Or.inl b2⟩]
  refine ⟨?_, el_bd h1.2 h5.2 h2.2 h4.2⟩
  rw [h1.1, h2.1, ← h3.1, Int.mul_comm (A k a)]
def tB : Nat → Nat
  | 0 => 6
  | k + 1 => 2 * ((4 * tB k) * (4 * tB k))
theorem PVs_sb {n : Nat} {A : Mt} {p : Nat → Int} (hA : sb 0 n 6 A) : ∀ {k : Nat} {T : Mt}, PVs n A p k T → sb k n (tB k) T
  | 0, _, h => hA.cg h
  | k + 1, T, ⟨T0, B, h1, h2, h3, h4, h5⟩ => by
      have g := sb_el (q := bef p k) (sb_bp (PVs_sb hA h1) h3 h2) h2
      rw [h4] at g
      exact g.cg h5
theorem PVs_ne {n : Nat} {A : Mt} {p : Nat → Int} (hA : sb 0 n 6 A) : ∀ {k : Nat} {T : Mt}, PVs n A p k T → ∀ i, i < k → p i ≠ 0
  | 0, _, _, i, hi => by omega
  | k + 1, T, ⟨T0, B, h1, h2, h3, h4, h5⟩, i, hi => by
      rcases Nat.lt_or_ge i k with q | q
      · exact PVs_ne hA h1 i q
      · rw [show i = k by omega, ← h4]
        exact bp_ne (PVs_sb hA h1) h3 h2
theorem bef_ne {p : Nat → Int} : ∀ {k : Nat}, (∀ i, i < k → p i ≠ 0) → bef p k ≠ 0
  | 0, _ => by show (1 : Int) ≠ 0; decide
  | k + 1, h => h k (by omega)
def d3 (a b c e f h : Int) : Int := a * (e * h - f * f) - b * (b * h - f * c) + c * (b * f - e * c)
def d4 (a b c d e f g h i j : Int) : Int := a * d3 e f g h i j - (b * b * (h * j - i * i) + c * c * (e * j - g * g) + d * d * (e * h - f * f) + 2 * b * c * (g * i - f * j) + 2 * b * d * (f * i - g * h) + 2 * c * d * (f * g - e * i))
def D4 (A : Mt) : Int := d4 (A 0 0) (A 0 1) (A 0 2) (A 0 3) (A 1 1) (A 1 2) (A 1 3) (A 2 2) (A 2 3) (A 3 3)
def D3 (A : Mt) : Int := d3 (A 1 1) (A 1 2) (A 1 3) (A 2 2) (A 2 3) (A 3 3)
def D2 (A : Mt) : Int := A 2 2 * A 3 3 - A 2 3 * A 2 3
theorem sch4 (a b c d e f g h i j : Int) : d3 (e * a - b * b) (f * a - b * c) (g * a - b * d) (h * a - c * c) (i * a - c * d) (j * a - d * d) = a * a * d4 a b c d e f g h i j := by unfold d4 d3; grind
theorem sch3 (a b c e f h : Int) : (e * a - b * b) * (h * a - c * c) - (f * a - b * c) * (f * a - b * c) = a * d3 a b c e f h := by unfold d3; grind
theorem nb_mul {x y : Int} {X Y : Nat} (hx : x.natAbs ≤ X) (hy : y.natAbs ≤ Y) : (x * y).natAbs ≤ X * Y := by rw [Int.natAbs_mul]; exact Nat.mul_le_mul hx hy
theorem nb_add {x y : Int} {X Y : Nat} (hx : x.natAbs ≤ X) (hy : y.natAbs ≤ Y) : (x + y).natAbs ≤ X + Y := by omega
theorem nb_sub {x y : Int} {X Y : Nat} (hx : x.natAbs ≤ X) (hy : y.natAbs ≤ Y) : (x - y).natAbs ≤ X + Y := by omega
theorem d3_bd {a b c e f h : Int} (ha : a.natAbs ≤ 6) (hb : b.natAbs ≤ 6) (hc : c.natAbs ≤ 6) (he : e.natAbs ≤ 6) (hf : f.natAbs ≤ 6) (hh : h.natAbs ≤ 6) : (d3 a b c e f h).natAbs ≤ 1296 :=
  nb_add (nb_sub (nb_mul ha (nb_sub (nb_mul he hh) (nb_mul hf hf))) (nb_mul hb (nb_sub (nb_mul hb hh) (nb_mul hf hc)))) (nb_mul hc (nb_sub (nb_mul hb hf) (nb_mul he hc)))
theorem d4_bd {a b c d e f g h i j : Int} (ha : a.natAbs ≤ 6) (hb : b.natAbs ≤ 6) (hc : c.natAbs ≤ 6) (hd : d.natAbs ≤ 6) (he : e.natAbs ≤ 6) (hf : f.natAbs ≤ 6) (hg : g.natAbs ≤ 6) (hh : h.natAbs ≤ 6) (hi : i.natAbs ≤ 6) (hj : j.natAbs ≤ 6) : (d4 a b c d e f g h i j).natAbs ≤ 31104 := by
  have h2 : (2 : Int).natAbs ≤ 2 := by decide
  exact nb_sub (nb_mul ha (d3_bd he hf hg hh hi hj)) (nb_add (nb_add (nb_add (nb_add (nb_add (nb_mul (nb_mul hb hb) (nb_sub (nb_mul hh hj) (nb_mul hi hi))) (nb_mul (nb_mul hc hc) (nb_sub (nb_mul he hj) (nb_mul hg hg)))) (nb_mul (nb_mul hd hd) (nb_sub (nb_mul he hh) (nb_mul hf hf)))) (nb_mul (nb_mul (nb_mul h2 hb) hc) (nb_sub (nb_mul hg hi) (nb_mul hf hj)))) (nb_mul (nb_mul (nb_mul h2 hb) hd) (nb_sub (nb_mul hf hi) (nb_mul hg hh)))) (nb_mul (nb_mul (nb_mul h2 hc) hd) (nb_sub (nb_mul hf hg) (nb_mul he hi))))
theorem inv4 {c : Nat} {A B : Mt} (h : sb 0 4 c A) (hb : bpR 4 0 A True B) : D4 B = D4 A := by
  have s10 : A 1 0 = A 0 1 := (h 1 0 (by omega) (by omega) (by omega) (by omega)).1
  have s20 : A 2 0 = A 0 2 := (h 2 0 (by omega) (by omega) (by omega) (by omega)).1
  have s30 : A 3 0 = A 0 3 := (h 3 0 (by omega) (by omega) (by omega) (by omega)).1
  have s21 : A 2 1 = A 1 2 := (h 2 1 (by omega) (by omega) (by omega) (by omega)).1
  have s31 : A 3 1 = A 1 3 := (h 3 1 (by omega) (by omega) (by omega) (by omega)).1
  have s32 : A 3 2 = A 2 3 := (h 3 2 (by omega) (by omega) (by omega) (by omega)).1
  rcases hb with ⟨i, i1, i2, i3, i4, i5, i6⟩ | ⟨z, i, j, i1, i2, i3, i4, i5, i6, i7⟩ | ⟨z, z2, i1, i2⟩
  · have hc : i = 0 ∨ i = 1 ∨ i = 2 ∨ i = 3 := by omega
    rcases hc with rfl | rfl | rfl | rfl
    · have e00 : B 0 0 = A 0 0 := i6 0 0 (by omega) (by omega)
      have e01 : B 0 1 = A 0 1 := i6 0 1 (by omega) (by omega)
      have e02 : B 0 2 = A 0 2 := i6 0 2 (by omega) (by omega)
      have e03 : B 0 3 = A 0 3 := i6 0 3 (by omega) (by omega)
      have e11 : B 1 1 = A 1 1 := i6 1 1 (by omega) (by omega)
      have e12 : B 1 2 = A 1 2 := i6 1 2 (by omega) (by omega)
      have e13 : B 1 3 = A 1 3 := i6 1 3 (by omega) (by omega)
      have e22 : B 2 2 = A 2 2 := i6 2 2 (by omega) (by omega)
      have e23 : B 2 3 = A 2 3 := i6 2 3 (by omega) (by omega)
      have e33 : B 3 3 = A 3 3 := i6 3 3 (by omega) (by omega)
      unfold D4
      rw [e00, e01, e02, e03, e11, e12, e13, e22, e23, e33]
    · have e00 : B 0 0 = A 1 1 := i6 0 0 (by omega) (by omega)
      have e01 : B 0 1 = A 0 1 := (i6 0 1 (by omega) (by omega)).trans s10
      have e02 : B 0 2 = A 1 2 := i6 0 2 (by omega) (by omega)
      have e03 : B 0 3 = A 1 3 := i6 0 3 (by omega) (by omega)
      have e11 : B 1 1 = A 0 0 := i6 1 1 (by omega) (by omega)
      have e12 : B 1 2 = A 0 2 := i6 1 2 (by omega) (by omega)
      have e13 : B 1 3 = A 0 3 := i6 1 3 (by omega) (by omega)
      have e22 : B 2 2 = A 2 2 := i6 2 2 (by omega) (by omega)
      have e23 : B 2 3 = A 2 3 := i6 2 3 (by omega) (by omega)
      have e33 : B 3 3 = A 3 3 := i6 3 3 (by omega) (by omega)
      unfold D4
      rw [e00, e01, e02, e03, e11, e12, e13, e22, e23, e33]
      unfold d4 d3; grind
    · have e00 : B 0 0 = A 2 2 := i6 0 0 (by omega) (by omega)
      have e01 : B 0 1 = A 1 2 := (i6 0 1 (by omega) (by omega)).trans s21
      have e02 : B 0 2 = A 0 2 := (i6 0 2 (by omega) (by omega)).trans s20
      have e03 : B 0 3 = A 2 3 := i6 0 3 (by omega) (by omega)
      have e11 : B 1 1 = A 1 1 := i6 1 1 (by omega) (by omega)
      have e12 : B 1 2 = A 0 1 := (i6 1 2 (by omega) (by omega)).trans s10
      have e13 : B 1 3 = A 1 3 := i6 1 3 (by omega) (by omega)
      have e22 : B 2 2 = A 0 0 := i6 2 2 (by omega) (by omega)
      have e23 : B 2 3 = A 0 3 := i6 2 3 (by omega) (by omega)
      have e33 : B 3 3 = A 3 3 := i6 3 3 (by omega) (by omega)
      unfold D4
      rw [e00, e01, e02, e03, e11, e12, e13, e22, e23, e33]
      unfold d4 d3; grind
    · have e00 : B 0 0 = A 3 3 := i6 0 0 (by omega) (by omega)
      have e01 : B 0 1 = A 1 3 := (i6 0 1 (by omega) (by omega)).trans s31
      have e02 : B 0 2 = A 2 3 := (i6 0 2 (by omega) (by omega)).trans s32
      have e03 : B 0 3 = A 0 3 := (i6 0 3 (by omega) (by omega)).trans s30
      have e11 : B 1 1 = A 1 1 := i6 1 1 (by omega) (by omega)
      have e12 : B 1 2 = A 1 2 := i6 1 2 (by omega) (by omega)
      have e13 : B 1 3 = A 0 1 := (i6 1 3 (by omega) (by omega)).trans s10
      have e22 : B 2 2 = A 2 2 := i6 2 2 (by omega) (by omega)
      have e23 : B 2 3 = A 0 2 := (i6 2 3 (by omega) (by omega)).trans s20
      have e33 : B 3 3 = A 0 0 := i6 3 3 (by omega) (by omega)
      unfold D4
      rw [e00, e01, e02, e03, e11, e12, e13, e22, e23, e33]
      unfold d4 d3; grind
  · have hc : (i = 0 ∧ j = 1) ∨ (i = 0 ∧ j = 2) ∨ (i = 0 ∧ j = 3) ∨ (i = 1 ∧ j = 2) ∨ (i = 1 ∧ j = 3) ∨ (i = 2 ∧ j = 3) := by omega
    rcases hc with ⟨rfl, rfl⟩ | ⟨rfl, rfl⟩ | ⟨rfl, rfl⟩ | ⟨rfl, rfl⟩ | ⟨rfl, rfl⟩ | ⟨rfl, rfl⟩
    · have e00 : B 0 0 = A 0 0 + A 1 0 + (A 0 1 + A 1 1) := i7 0 0 (by omega) (by omega)
      have e01 : B 0 1 = A 0 1 + A 1 1 := i7 0 1 (by omega) (by omega)
      have e02 : B 0 2 = A 0 2 + A 1 2 := i7 0 2 (by omega) (by omega)
      have e03 : B 0 3 = A 0 3 + A 1 3 := i7 0 3 (by omega) (by omega)
      have e11 : B 1 1 = A 1 1 := i7 1 1 (by omega) (by omega)
      have e12 : B 1 2 = A 1 2 := i7 1 2 (by omega) (by omega)
      have e13 : B 1 3 = A 1 3 := i7 1 3 (by omega) (by omega)
      have e22 : B 2 2 = A 2 2 := i7 2 2 (by omega) (by omega)
      have e23 : B 2 3 = A 2 3 := i7 2 3 (by omega) (by omega)
      have e33 : B 3 3 = A 3 3 := i7 3 3 (by omega) (by omega)
      unfold D4
      rw [e00, e01, e02, e03, e11, e12, e13, e22, e23, e33]
      simp only [s10, s20, s30, s21, s31, s32]
      unfold d4 d3; grind
    · have e00 : B 0 0 = A 0 0 + A 2 0 + (A 0 2 + A 2 2) := i7 0 0 (by omega) (by omega)
      have e01 : B 0 1 = A 0 1 + A 2 1 := i7 0 1 (by omega) (by omega)
      have e02 : B 0 2 = A 0 2 + A 2 2 := i7 0 2 (by omega) (by omega)
      have e03 : B 0 3 = A 0 3 + A 2 3 := i7 0 3 (by omega) (by omega)
      have e11 : B 1 1 = A 1 1 := i7 1 1 (by omega) (by omega)
      have e12 : B 1 2 = A 1 2 := i7 1 2 (by omega) (by omega)
      have e13 : B 1 3 = A 1 3 := i7 1 3 (by omega) (by omega)
      have e22 : B 2 2 = A 2 2 := i7 2 2 (by omega) (by omega)
      have e23 : B 2 3 = A 2 3 := i7 2 3 (by omega) (by omega)
      have e33 : B 3 3 = A 3 3 := i7 3 3 (by omega) (by omega)
      unfold D4
      rw [e00, e01, e02, e03, e11, e12, e13, e22, e23, e33]
      simp only [s10, s20, s30, s21, s31, s32]
      unfold d4 d3; grind
    · have e00 : B 0 0 = A 0 0 + A 3 0 + (A 0 3 + A 3 3) := i7 0 0 (by omega) (by omega)
      have e01 : B 0 1 = A 0 1 + A 3 1 := i7 0 1 (by omega) (by omega)
      have e02 : B 0 2 = A 0 2 + A 3 2 := i7 0 2 (by omega) (by omega)
      have e03 : B 0 3 = A 0 3 + A 3 3 := i7 0 3 (by omega) (by omega)
      have e11 : B 1 1 = A 1 1 := i7 1 1 (by omega) (by omega)
      have e12 : B 1 2 = A 1 2 := i7 1 2 (by omega) (by omega)
      have e13 : B 1 3 = A 1 3 := i7 1 3 (by omega) (by omega)
      have e22 : B 2 2 = A 2 2 := i7 2 2 (by omega) (by omega)
      have e23 : B 2 3 = A 2 3 := i7 2 3 (by omega) (by omega)
      have e33 : B 3 3 = A 3 3 := i7 3 3 (by omega) (by omega)
      unfold D4
      rw [e00, e01, e02, e03, e11, e12, e13, e22, e23, e33]
      simp only [s10, s20, s30, s21, s31, s32]
      unfold d4 d3; grind
    · have e00 : B 0 0 = A 1 1 + A 2 1 + (A 1 2 + A 2 2) := i7 0 0 (by omega) (by omega)
      have e01 : B 0 1 = A 1 0 + A 2 0 := i7 0 1 (by omega) (by omega)
      have e02 : B 0 2 = A 1 2 + A 2 2 := i7 0 2 (by omega) (by omega)
      have e03 : B 0 3 = A 1 3 + A 2 3 := i7 0 3 (by omega) (by omega)
      have e11 : B 1 1 = A 0 0 := i7 1 1 (by omega) (by omega)
      have e12 : B 1 2 = A 0 2 := i7 1 2 (by omega) (by omega)
      have e13 : B 1 3 = A 0 3 := i7 1 3 (by omega) (by omega)
      have e22 : B 2 2 = A 2 2 := i7 2 2 (by omega) (by omega)
      have e23 : B 2 3 = A 2 3 := i7 2 3 (by omega) (by omega)
      have e33 : B 3 3 = A 3 3 := i7 3 3 (by omega) (by omega)
      unfold D4
      rw [e00, e01, e02, e03, e11, e12, e13, e22, e23, e33]
      simp only [s10, s20, s30, s21, s31, s32]
      unfold d4 d3; grind
    · have e00 : B 0 0 = A 1 1 + A 3 1 + (A 1 3 + A 3 3) := i7 0 0 (by omega) (by omega)
      have e01 : B 0 1 = A 1 0 + A 3 0 := i7 0 1 (by omega) (by omega)
      have e02 : B 0 2 = A 1 2 + A 3 2 := i7 0 2 (by omega) (by omega)
      have e03 : B 0 3 = A 1 3 + A 3 3 := i7 0 3 (by omega) (by omega)
      have e11 : B 1 1 = A 0 0 := i7 1 1 (by omega) (by omega)
      have e12 : B 1 2 = A 0 2 := i7 1 2 (by omega) (by omega)
      have e13 : B 1 3 = A 0 3 := i7 1 3 (by omega) (by omega)
      have e22 : B 2 2 = A 2 2 := i7 2 2 (by omega) (by omega)
      have e23 : B 2 3 = A 2 3 := i7 2 3 (by omega) (by omega)
      have e33 : B 3 3 = A 3 3 := i7 3 3 (by omega) (by omega)
      unfold D4
      rw [e00, e01, e02, e03, e11, e12, e13, e22, e23, e33]
      simp only [s10, s20, s30, s21, s31, s32]
      unfold d4 d3; grind
    · have e00 : B 0 0 = A 2 2 + A 3 2 + (A 2 3 + A 3 3) := i7 0 0 (by omega) (by omega)
      have e01 : B 0 1 = A 2 1 + A 3 1 := i7 0 1 (by omega) (by omega)
      have e02 : B 0 2 = A 2 0 + A 3 0 := i7 0 2 (by omega) (by omega)
      have e03 : B 0 3 = A 2 3 + A 3 3 := i7 0 3 (by omega) (by omega)
      have e11 : B 1 1 = A 1 1 := i7 1 1 (by omega) (by omega)
      have e12 : B 1 2 = A 1 0 := i7 1 2 (by omega) (by omega)
      have e13 : B 1 3 = A 1 3 := i7 1 3 (by omega) (by omega)
      have e22 : B 2 2 = A 0 0 := i7 2 2 (by omega) (by omega)
      have e23 : B 2 3 = A 0 3 := i7 2 3 (by omega) (by omega)
      have e33 : B 3 3 = A 3 3 := i7 3 3 (by omega) (by omega)
      unfold D4
      rw [e00, e01, e02, e03, e11, e12, e13, e22, e23, e33]
      simp only [s10, s20, s30, s21, s31, s32]
      unfold d4 d3; grind
  · exact absurd trivial i1
theorem inv3 {c : Nat} {A B : Mt} (h : sb 1 4 c A) (hb : bpR 4 1 A True B) : D3 B = D3 A := by
  have s21 : A 2 1 = A 1 2 := (h 2 1 (by omega) (by omega) (by omega) (by omega)).1
  have s31 : A 3 1 = A 1 3 := (h 3 1 (by omega) (by omega) (by omega) (by omega)).1
  have s32 : A 3 2 = A 2 3 := (h 3 2 (by omega) (by omega) (by omega) (by omega)).1
  rcases hb with ⟨i, i1, i2, i3, i4, i5, i6⟩ | ⟨z, i, j, i1, i2, i3, i4, i5, i6, i7⟩ | ⟨z, z2, i1, i2⟩
  · have hc : i = 1 ∨ i = 2 ∨ i = 3 := by omega
    rcases hc with rfl | rfl | rfl
    · have e11 : B 1 1 = A 1 1 := i6 1 1 (by omega) (by omega)
      have e12 : B 1 2 = A 1 2 := i6 1 2 (by omega) (by omega)
      have e13 : B 1 3 = A 1 3 := i6 1 3 (by omega) (by omega)
      have e22 : B 2 2 = A 2 2 := i6 2 2 (by omega) (by omega)
      have e23 : B 2 3 = A 2 3 := i6 2 3 (by omega) (by omega)
      have e33 : B 3 3 = A 3 3 := i6 3 3 (by omega) (by omega)
      unfold D3
      rw [e11, e12, e13, e22, e23, e33]
    · have e11 : B 1 1 = A 2 2 := i6 1 1 (by omega) (by omega)
      have e12 : B 1 2 = A 1 2 := (i6 1 2 (by omega) (by omega)).trans s21
      have e13 : B 1 3 = A 2 3 := i6 1 3 (by omega) (by omega)
      have e22 : B 2 2 = A 1 1 := i6 2 2 (by omega) (by omega)
      have e23 : B 2 3 = A 1 3 := i6 2 3 (by omega) (by omega)
      have e33 : B 3 3 = A 3 3 := i6 3 3 (by omega) (by omega)
      unfold D3
      rw [e11, e12, e13, e22, e23, e33]
      unfold d3; grind
    · have e11 : B 1 1 = A 3 3 := i6 1 1 (by omega) (by omega)
      have e12 : B 1 2 = A 2 3 := (i6 1 2 (by omega) (by omega)).trans s32
      have e13 : B 1 3 = A 1 3 := (i6 1 3 (by omega) (by omega)).trans s31
      have e22 : B 2 2 = A 2 2 := i6 2 2 (by omega) (by omega)
      have e23 : B 2 3 = A 1 2 := (i6 2 3 (by omega) (by omega)).trans s21
      have e33 : B 3 3 = A 1 1 := i6 3 3 (by omega) (by omega)
      unfold D3
      rw [e11, e12, e13, e22, e23, e33]
      unfold d3; grind
  · have hc : (i = 1 ∧ j = 2) ∨ (i = 1 ∧ j = 3) ∨ (i = 2 ∧ j = 3) := by omega
    rcases hc with ⟨rfl, rfl⟩ | ⟨rfl, rfl⟩ | ⟨rfl, rfl⟩
    · have e11 : B 1 1 = A 1 1 + A 2 1 + (A 1 2 + A 2 2) := i7 1 1 (by omega) (by omega)
      have e12 : B 1 2 = A 1 2 + A 2 2 := i7 1 2 (by omega) (by omega)
      have e13 : B 1 3 = A 1 3 + A 2 3 := i7 1 3 (by omega) (by omega)
      have e22 : B 2 2 = A 2 2 := i7 2 2 (by omega) (by omega)
      have e23 : B 2 3 = A 2 3 := i7 2 3 (by omega) (by omega)
      have e33 : B 3 3 = A 3 3 := i7 3 3 (by omega) (by omega)
      unfold D3
      rw [e11, e12, e13, e22, e23, e33]
      simp only [s21, s31, s32]
      unfold d3; grind
    · have e11 : B 1 1 = A 1 1 + A 3 1 + (A 1 3 + A 3 3) := i7 1 1 (by omega) (by omega)
      have e12 : B 1 2 = A 1 2 + A 3 2 := i7 1 2 (by omega) (by omega)
      have e13 : B 1 3 = A 1 3 + A 3 3 := i7 1 3 (by omega) (by omega)
      have e22 : B 2 2 = A 2 2 := i7 2 2 (by omega) (by omega)
      have e23 : B 2 3 = A 2 3 := i7 2 3 (by omega) (by omega)
      have e33 : B 3 3 = A 3 3 := i7 3 3 (by omega) (by omega)
      unfold D3
      rw [e11, e12, e13, e22, e23, e33]
      simp only [s21, s31, s32]
      unfold d3; grind
    · have e11 : B 1 1 = A 2 2 + A 3 2 + (A 2 3 + A 3 3) := i7 1 1 (by omega) (by omega)
      have e12 : B 1 2 = A 2 1 + A 3 1 := i7 1 2 (by omega) (by omega)
      have e13 : B 1 3 = A 2 3 + A 3 3 := i7 1 3 (by omega) (by omega)
      have e22 : B 2 2 = A 1 1 := i7 2 2 (by omega) (by omega)
      have e23 : B 2 3 = A 1 3 := i7 2 3 (by omega) (by omega)
      have e33 : B 3 3 = A 3 3 := i7 3 3 (by omega) (by omega)
      unfold D3
      rw [e11, e12, e13, e22, e23, e33]
      simp only [s21, s31, s32]
      unfold d3; grind
  · exact absurd trivial i1
theorem inv2 {c : Nat} {A B : Mt} (h : sb 2 4 c A) (hb : bpR 4 2 A True B) : D2 B = D2 A := by
  have s32 : A 3 2 = A 2 3 := (h 3 2 (by omega) (by omega) (by omega) (by omega)).1
  rcases hb with ⟨i, i1, i2, i3, i4, i5, i6⟩ | ⟨z, i, j, i1, i2, i3, i4, i5, i6, i7⟩ | ⟨z, z2, i1, i2⟩
  · have hc : i = 2 ∨ i = 3 := by omega
    rcases hc with rfl | rfl
    · have e22 : B 2 2 = A 2 2 := i6 2 2 (by omega) (by omega)
      have e23 : B 2 3 = A 2 3 := i6 2 3 (by omega) (by omega)
      have e33 : B 3 3 = A 3 3 := i6 3 3 (by omega) (by omega)
      unfold D2
      rw [e22, e23, e33]
    · have e22 : B 2 2 = A 3 3 := i6 2 2 (by omega) (by omega)
      have e23 : B 2 3 = A 2 3 := (i6 2 3 (by omega) (by omega)).trans s32
      have e33 : B 3 3 = A 2 2 := i6 3 3 (by omega) (by omega)
      unfold D2
      rw [e22, e23, e33]
      grind
  · have hc : (i = 2 ∧ j = 3) := by omega
    rcases hc with ⟨rfl, rfl⟩
    · have e22 : B 2 2 = A 2 2 + A 3 2 + (A 2 3 + A 3 3) := i7 2 2 (by omega) (by omega)
      have e23 : B 2 3 = A 2 3 + A 3 3 := i7 2 3 (by omega) (by omega)
      have e33 : B 3 3 = A 3 3 := i7 3 3 (by omega) (by omega)
      unfold D2
      rw [e22, e23, e33]
      simp only [s32]
      grind
  · exact absurd trivial i1
/-- rank one modulo m -/
def rk1 (k n : Nat) (m : Int) (A : Mt) (w : Nat → Int) : Prop := ∀ a b, k ≤ a → a < n → k ≤ b → b < n → m ∣ A a b + w a * w b
theorem rk1_bp {k n : Nat} {m : Int} {A B : Mt} {w : Nat → Int} (h : rk1 k n m A w) (hb : bpR n k A True B) (hk : k < n) : ∃ w', rk1 k n m B w' := by
  have sw : ∀ (C : Mt) (u : Nat → Int) (i : Nat), rk1 k n m C u → k ≤ i → i < n → rk1 k n m (swT i k C) (fun a => u (swI i k a)) := fun C u i hC hi hn a b a1 a2 b1 b2 =>
    hC _ _ (swI_ge hi (Nat.le_refl k) a1) (swI_lt hn hk a2) (swI_ge hi (Nat.le_refl k) b1) (swI_lt hn hk b2)
  rcases hb with ⟨i, i1, i2, i3, i4, i5, i6⟩ | ⟨z, i, j, i1, i2, i3, i4, i5, i6, i7⟩ | ⟨z, z2, i1, i2⟩
  · exact ⟨_, fun a b a1 a2 b1 b2 => by rw [i6 a b a2 b2]; exact sw A w i h i1 i2 a b a1 a2 b1 b2⟩
  · suffices ad : rk1 k n m (adT j i k n A) (fun a => if a = i then w i + w j else w a) from ⟨_, fun a b a1 a2 b1 b2 => by rw [i7 a b a2 b2]; exact sw (adT j i k n A) (fun a => if a = i then w i + w j else w a) i ad i1 (by omega) a b a1 a2 b1 b2⟩
    intro a b a1 a2 b1 b2
    have hab := h a b a1 a2 b1 b2
    have haj := h a j a1 a2 (by omega) i3
    have hjb := h j b (by omega) i3 b1 b2
    have hjj := h j j (by omega) i3 (by omega) i3
    by_cases ha : a = i
    · by_cases hb : b = i
      · subst ha hb
        rw [adT_tt i1 (by omega) (by omega) i3]
        simp only [if_pos]
        have := Int.dvd_add (Int.dvd_add hab hjb) (Int.dvd_add haj hjj)
        rw [show A b b + A j b + (A b j + A j j) + (w b + w j) * (w b + w j) = A b b + w b * w b + (A j b + w j * w b) + (A b j + w b * w j + (A j j + w j * w j)) by grind]
        exact this
      · subst ha
        rw [adT_tb b1 b2 hb]
        simp only [if_pos, if_neg hb]
        have := Int.dvd_add hab hjb
        rw [show A a b + A j b + (w a + w j) * w b = A a b + w a * w b + (A j b + w j * w b) by grind]
        exact this
    · by_cases hb : b = i
      · subst hb
        rw [adT_at a1 a2 ha]
        simp only [if_pos, if_neg ha]
        have := Int.dvd_add hab haj
        rw [show A a b + A a j + w a * (w b + w j) = A a b + w a * w b + (A a j + w a * w j) by grind]
        exact this
      · rw [adT_ab ha hb]
        simp only [if_neg ha, if_neg hb]
        exact hab
  · exact absurd trivial i1
theorem rk1_ex {m x p y z w1 wa wb : Int} (hx : m ∣ x + wa * wb) (hp : m ∣ p + w1 * w1) (hy : m ∣ y + wa * w1) (hz : m ∣ z + w1 * wb) : m ∣ x * p - y * z := by
  obtain ⟨X, hX⟩ := hx
  obtain ⟨P, hP⟩ := hp
  obtain ⟨Y, hY⟩ := hy
  obtain ⟨Z, hZ⟩ := hz
  have e1 : x = m * X - wa * wb := by omega
  have e2 : p = m * P - w1 * w1 := by omega
  have e3 : y = m * Y - wa * w1 := by omega
  have e4 : z = m * Z - w1 * wb := by omega
  refine ⟨m * X * P - X * (w1 * w1) - wa * wb * P - m * Y * Z + Y * (w1 * wb) + wa * w1 * Z, ?_⟩
  rw [e1, e2, e3, e4]
  grind
theorem el_v {k n a b : Nat} {p q : Int} {A T : Mt} (h : eqn n T (elT k n p q A)) (h1 : k < a) (h2 : k < b) (h3 : a < n) (h4 : b < n) : T a b = (A a b * p - A a k * A k b).tdiv q := by
  rw [h a b h3 h4]
  unfold elT ela
  rw [if_pos ⟨h1, h2, Or.inl h3⟩]
theorem piv4 {A B T : Mt} {p : Nat → Int} (hA : sb 0 4 6 A) (h : PVs 4 A p 3 T) (hb : bpR 4 3 T True B) : B 3 3 = D4 A := by
  obtain ⟨T2, B2, ⟨T1, B1, ⟨T0, B0, h0, -, b0, p0, e0⟩, -, b1, p1, e1⟩, -, b2, p2, e2⟩ := h
  have hB3 : B 3 3 = T 3 3 := by
    rcases hb with ⟨i, i1, i2, i3, i4, i5, i6⟩ | ⟨z, i, j, i1, i2, i3, i4, i5, i6, i7⟩ | ⟨z, z2, i1, i2⟩
    · obtain rfl : i = 3 := by omega
      rw [i6 3 3 (by omega) (by omega), swT_id]
    · omega
    · exact absurd trivial i1
  have s0 : sb 0 4 6 T0 := hA.cg h0
  have sB0 := sb_bp s0 b0 (by decide)
  have i0 : D4 B0 = D4 A := (inv4 s0 b0).trans (by unfold D4; rw [h0 0 0 (by omega) (by omega), h0 0 1 (by omega) (by omega), h0 0 2 (by omega) (by omega), h0 0 3 (by omega) (by omega), h0 1 1 (by omega) (by omega), h0 1 2 (by omega) (by omega), h0 1 3 (by omega) (by omega), h0 2 2 (by omega) (by omega), h0 2 3 (by omega) (by omega), h0 3 3 (by omega) (by omega)])
  have n0 : p 0 ≠ 0 := by rw [← p0]; exact bp_ne s0 b0 (by decide)
  have t1 : ∀ a b, 0 < a → 0 < b → a < 4 → b < 4 → T1 a b = B0 a b * p 0 - B0 0 a * B0 0 b := fun a b a1 b1 a2 b2 => by
    rw [el_v e0 a1 b1 a2 b2, show bef p 0 = 1 from rfl, Int.tdiv_one, (sB0 a 0 (by omega) a2 (by omega) (by omega)).1]
  have s1 : sb 1 4 (2 * ((4 * 6) * (4 * 6))) T1 := by
    have g := sb_el (q := bef p 0) sB0 (by decide)
    rw [p0] at g
    exact g.cg e0
  have sB1 := sb_bp s1 b1 (by decide)
  have n1 : p 1 ≠ 0 := by rw [← p1]; exact bp_ne s1 b1 (by decide)
  have k1 : D3 T1 = p 0 * p 0 * D4 A := by
    rw [← i0]
    unfold D3 D4
    rw [t1 1 1 (by omega) (by omega) (by omega) (by omega), t1 1 2 (by omega) (by omega) (by omega) (by omega), t1 1 3 (by omega) (by omega) (by omega) (by omega), t1 2 2 (by omega) (by omega) (by omega) (by omega), t1 2 3 (by omega) (by omega) (by omega) (by omega), t1 3 3 (by omega) (by omega) (by omega) (by omega), p0]
    exact sch4 _ _ _ _ _ _ _ _ _ _
  have i1 : D3 B1 = p 0 * p 0 * D4 A := (inv3 s1 b1).trans k1
  have r1 : rk1 1 4 (p 0) T1 (fun a => B0 0 a) := fun a b a1 a2 b1 b2 => by
    rw [t1 a b a1 b1 a2 b2, Int.sub_add_cancel]
    exact Int.dvd_mul_left _ _
  obtain ⟨w, hw⟩ := rk1_bp r1 b1 (by decide)
  have t2 : ∀ a b, 1 < a → 1 < b → a < 4 → b < 4 → T2 a b * p 0 = B1 a b * p 1 - B1 1 a * B1 1 b := fun a b a1 b1 a2 b2 => by
    rw [el_v e1 a1 b1 a2 b2, show bef p 1 = p 0 from rfl, (sB1 a 1 (by omega) a2 (by omega) (by omega)).1]
    refine Int.tdiv_mul_cancel (rk1_ex (hw a b (by omega) a2 (by omega) b2) ?_ ?_ (hw 1 b (by omega) (by omega) (by omega) b2))
    · rw [← p1]; exact hw 1 1 (by omega) (by omega) (by omega) (by omega)
    · rw [← (sB1 a 1 (by omega) a2 (by omega) (by omega)).1]; exact hw a 1 (by omega) a2 (by omega) (by omega)
  have s2 : sb 2 4 (2 * ((4 * (2 * ((4 * 6) * (4 * 6)))) * (4 * (2 * ((4 * 6) * (4 * 6)))))) T2 := by
    have g := sb_el (q := bef p 1) sB1 (by decide)
    rw [p1] at g
    exact g.cg e1
  have sB2 := sb_bp s2 b2 (by decide)
  have k2 : D2 T2 * (p 0 * p 0) = p 1 * (p 0 * p 0 * D4 A) := by
    rw [← i1]
    unfold D2 D3
    rw [show (T2 2 2 * T2 3 3 - T2 2 3 * T2 2 3) * (p 0 * p 0) = (T2 2 2 * p 0) * (T2 3 3 * p 0) - (T2 2 3 * p 0) * (T2 2 3 * p 0) by grind, t2 2 2 (by omega) (by omega) (by omega) (by omega), t2 2 3 (by omega) (by omega) (by omega) (by omega), t2 3 3 (by omega) (by omega) (by omega) (by omega), p1]
    exact sch3 _ _ _ _ _ _
  have k3 : D2 T2 = p 1 * D4 A := by
    have hne : p 0 * p 0 ≠ 0 := Int.mul_ne_zero n0 n0
    exact Int.eq_of_mul_eq_mul_right hne (by rw [k2]; grind)
  have i2 : D2 B2 = p 1 * D4 A := (inv2 s2 b2).trans k3
  rw [hB3, el_v e2 (by decide) (by decide) (by decide) (by decide), show bef p 2 = p 1 from rfl, (sB2 3 2 (by omega) (by omega) (by omega) (by omega)).1, ← p2, show B2 3 3 * B2 2 2 - B2 2 3 * B2 2 3 = D2 B2 by unfold D2; grind, i2]
  exact Int.mul_tdiv_cancel_left _ n1
theorem piv_bd {n k : Nat} {A B T : Mt} {p : Nat → Int} (hn : n ≤ 4) (hk : k < n) (hA : sb 0 n 6 A) (h : PVs n A p k T) (hb : bpR n k T True B) : B k k ≠ 0 ∧ (k = 0 → (B k k).natAbs ≤ 24) ∧ (k = 1 → (B k k).natAbs ≤ 4608) ∧ (k = 2 → (B k k).natAbs ≤ 169869312) ∧ (k = 3 → (B k k).natAbs ≤ 31104) := by
  have s := PVs_sb hA h
  have sB := (sb_bp s hb hk) k k (by omega) hk (by omega) hk
  refine ⟨bp_ne s hb hk, ?_, ?_, ?_, ?_⟩
  · rintro rfl; exact sB.2
  · rintro rfl; exact sB.2
  · rintro rfl; exact sB.2
  · rintro rfl
    obtain rfl : n = 4 := by omega
    rw [piv4 hA h hb]
    have q : ∀ a b, a < 4 → b < 4 → (A a b).natAbs ≤ 6 := fun a b ha hb => (hA a b (by omega) ha (by omega) hb).2
    exact d4_bd (q 0 0 (by omega) (by omega)) (q 0 1 (by omega) (by omega)) (q 0 2 (by omega) (by omega)) (q 0 3 (by omega) (by omega)) (q 1 1 (by omega) (by omega)) (q 1 2 (by omega) (by omega)) (q 1 3 (by omega) (by omega)) (q 2 2 (by omega) (by omega)) (q 2 3 (by omega) (by omega)) (q 3 3 (by omega) (by omega))
end
section
/-! squarefree parts; what elimination writes into a diagonal -/
theorem sfN_ex : ∀ N n : Nat, n ≤ N → 0 < n → ∃ c, sfN n c := by
  intro N
  induction N with
  | zero => intro n h1 h2; omega
  | succ N ih =>
    intro n h1 h2
    by_cases h : ∃ d, 1 < d ∧ d * d ∣ n
    · obtain ⟨d, hd, n', hn⟩ := h
      have hn0 : 0 < n' := Nat.pos_of_ne_zero fun q => by rw [q, Nat.mul_zero] at hn; omega
      have hdd : 2 ≤ d * d := Nat.le_trans (by omega) (Nat.le_mul_of_pos_right d (by omega : 0 < d))
      have hlt : n' < n := by
        rw [hn]
        calc n' < 2 * n' := by omega
          _ ≤ d * d * n' := Nat.mul_le_mul_right _ hdd
      obtain ⟨c, ⟨m, hm0, hm⟩, hc⟩ := ih n' (by omega) hn0
      exact ⟨c, ⟨d * m, Nat.mul_pos (by omega) hm0, by rw [hn, hm]; grind⟩, hc⟩
    · exact ⟨n, ⟨1, by omega, by omega⟩, fun d hd q => h ⟨d, hd, q⟩⟩
theorem sf_is {a : Int} (ha : a ≠ 0) : sfI a (sf a) := by
  obtain ⟨c, hc⟩ := sfN_ex a.natAbs a.natAbs (Nat.le_refl _) (by omega)
  have hc0 : 0 < c := Nat.pos_of_ne_zero fun q => by
    obtain ⟨m, m1, m2⟩ := hc.1
    rw [q, Nat.zero_mul] at m2
    omega
  rcases Int.lt_or_lt_of_ne ha with h | h
  · have g : sfI a (-(c : Int)) := ⟨by rw [Int.natAbs_neg, Int.natAbs_natCast]; exact hc, by omega, by omega⟩
    rw [sf_eq g]; exact g
  · have g : sfI a (c : Int) := ⟨by rw [Int.natAbs_natCast]; exact hc, by omega, by omega⟩
    rw [sf_eq g]; exact g
theorem sf_ne {a : Int} (ha : a ≠ 0) : sf a ≠ 0 := sfI_ne ha (sf_is ha)
theorem sf_sq {a : Int} (ha : a ≠ 0) : ∀ d, 1 < d → ¬ d * d ∣ (sf a).natAbs := (sf_is ha).1.2
theorem sf_dv {a : Int} (ha : a ≠ 0) : (sf a).natAbs ∣ a.natAbs := by
  obtain ⟨m, -, hm⟩ := (sf_is ha).1.1
  exact ⟨m * m, hm⟩
theorem sf_le {a : Int} (ha : a ≠ 0) : (sf a).natAbs ≤ a.natAbs := Nat.le_of_dvd (by omega) (sf_dv ha)
theorem sf_id {a : Int} (ha : a ≠ 0) (h : ∀ d, 1 < d → ¬ d * d ∣ a.natAbs) : sf a = a := sf_eq ⟨⟨⟨1, by omega, by omega⟩, h⟩, Iff.rfl, Iff.rfl⟩
theorem one_sq : ∀ d, 1 < d → ¬ d * d ∣ (1 : Int).natAbs := fun d hd q => by
  have : d * d ≤ 1 := Nat.le_of_dvd (by decide) q
  have : d ≤ d * d := Nat.le_mul_of_pos_right d (by omega)
  omega
theorem sf_1 : sf 1 = 1 := sf_id (by decide) one_sq
theorem pr_le {a b : Int} (ha : a ≠ 0) : (pr a b).natAbs ≤ a.natAbs * b.natAbs := by
  obtain ⟨g, a', b', hg, h1, h2, -, -, h3⟩ := pr_parts (b := b) ha
  rw [h3, Int.natAbs_mul]
  have e1 : a.natAbs = g * a'.natAbs := by rw [h1, Int.natAbs_mul, Int.natAbs_natCast]
  have e2 : b.natAbs = g * b'.natAbs := by rw [h2, Int.natAbs_mul, Int.natAbs_natCast]
  rw [e1, e2]
  exact Nat.mul_le_mul (Nat.le_mul_of_pos_left _ hg) (Nat.le_mul_of_pos_left _ hg)
/-- the terms -/
noncomputable def tr (p : Nat → Int) (i : Nat) : Int := pr (sf (p i)) (sf (bef p i))
noncomputable def ps (p : Nat → Int) : Nat → Int
  | 0 => 0
  | k + 1 => ps p k + (if 0 < tr p k then 1 else 0)
noncomputable def ng (p : Nat → Int) : Nat → Int
  | 0 => 0
  | k + 1 => ng p k + (if 0 < tr p k then 0 else 1)
def Sp (p : Nat → Int) (k q : Nat) : Prop := q = 2 ∨ ∃ i, i < k ∧ prm q ∧ q ∣ (p i).natAbs
theorem bef_cg {p p' : Nat → Int} : ∀ {k : Nat}, (∀ i, i < k → p' i = p i) → bef p' k = bef p k
  | 0, _ => rfl
  | k + 1, h => h k (by omega)
theorem tr_cg {p p' : Nat → Int} {k : Nat} (h : ∀ i, i < k → p' i = p i) {i : Nat} (hi : i < k) : tr p' i = tr p i := by
  unfold tr
  rw [h i hi, bef_cg (p' := p') (p := p) (k := i) (fun j hj => h j (by omega))]
theorem ps_cg {p p' : Nat → Int} : ∀ {k : Nat}, (∀ i, i < k → p' i = p i) → ps p' k = ps p k
  | 0, _ => rfl
  | k + 1, h => by
    show ps p' k + _ = ps p k + _
    rw [ps_cg (fun i hi => h i (by omega)), tr_cg h (by omega : k < k + 1)]
theorem ng_cg {p p' : Nat → Int} : ∀ {k : Nat}, (∀ i, i < k → p' i = p i) → ng p' k = ng p k
  | 0, _ => rfl
  | k + 1, h => by
    show ng p' k + _ = ng p k + _
    rw [ng_cg (fun i hi => h i (by omega)), tr_cg h (by omega : k < k + 1)]
theorem Sp_cg {p p' : Nat → Int} {k : Nat} (h : ∀ i, i < k → p' i = p i) (q : Nat) : Sp p' k q ↔ Sp p k q := by
  constructor
  · rintro (h1 | ⟨i, i1, i2, i3⟩)
    · exact Or.inl h1
    · exact Or.inr ⟨i, i1, i2, by rw [← h i i1]; exact i3⟩
  · rintro (h1 | ⟨i, i1, i2, i3⟩)
    · exact Or.inl h1
    · exact Or.inr ⟨i, i1, i2, by rw [h i i1]; exact i3⟩
theorem ps_bd (p : Nat → Int) : ∀ k : Nat, 0 ≤ ps p k ∧ ps p k ≤ k
  | 0 => ⟨Int.le_refl _, Int.le_refl _⟩
  | k + 1 => by
    have := ps_bd p k
    show 0 ≤ ps p k + _ ∧ ps p k + _ ≤ _
    by_cases h : 0 < tr p k
    · rw [if_pos h]; omega
    · rw [if_neg h]; omega
theorem ng_ps (p : Nat → Int) : ∀ k : Nat, ng p k = k - ps p k
  | 0 => rfl
  | k + 1 => by
    have := ng_ps p k
    show ng p k + _ = _ - (ps p k + _)
    by_cases h : 0 < tr p k
    · rw [if_pos h, if_pos h]; omega
    · rw [if_neg h, if_neg h]; omega
/-- a diagonal after k steps -/
def DgS (M : Me) (f n k : Nat) (p : Nat → Int) (c : Nat) : Prop := M (17 + f) 2 = n ∧ M (17 + f) 3 = k ∧ (∀ i, i < k → M (19 + f) i = tr p i) ∧ M (17 + f) 4 = ps p k ∧ M (17 + f) 5 = ng p k ∧ M (17 + f) 6 = sf (bef p k) ∧ M (17 + f) 7 = c ∧ SL c (M (21 + f)) (Sp p k)
theorem DgS.cg {M : Me} {f n k c : Nat} {p p' : Nat → Int} (hp : ∀ i, i < k → p' i = p i) (h : DgS M f n k p c) : DgS M f n k p' c := by
  obtain ⟨h1, h2, h3, h4, h5, h6, h7, h8⟩ := h
  exact ⟨h1, h2, fun i hi => by rw [tr_cg hp hi]; exact h3 i hi, by rw [ps_cg hp]; exact h4, by rw [ng_cg hp]; exact h5, by rw [bef_cg hp]; exact h6, h7, h8.to (fun q => (Sp_cg hp q).symm)⟩
theorem DgS.fr {M M9 : Me} {f n k c : Nat} {p : Nat → Int} (h : DgS M f n k p c) (h1 : M9 (17 + f) = M (17 + f)) (h2 : M9 (19 + f) = M (19 + f)) (h3 : M9 (21 + f) = M (21 + f)) : DgS M9 f n k p c := by
  unfold DgS
  rw [h1, h2, h3]
  exact h
def jB : Nat → Nat
  | 0 => 3
  | 1 => 5
  | 2 => 10
  | _ => 6
def cB : Nat → Nat
  | 0 => 1
  | k + 1 => cB k + jB k
/-- pivots as small as they come -/
def pB (p : Nat → Int) (k : Nat) : Prop := ∀ i, i < k → p i ≠ 0 ∧ (p i).natAbs ≤ 169869312 ∧ (p i).natAbs < fac (jB i + 2)
theorem piv_pB {n k : Nat} {A B T : Mt} {p : Nat → Int} (hn : n ≤ 4) (hk : k < n) (hA : sb 0 n 6 A) (h : PVs n A p k T) (hb : bpR n k T True B) : B k k ≠ 0 ∧ (B k k).natAbs ≤ 169869312 ∧ (B k k).natAbs < fac (jB k + 2) := by
  obtain ⟨h0, h1, h2, h3, h4⟩ := piv_bd hn hk hA h hb
  refine ⟨h0, ?_⟩
  rcases (by omega : k = 0 ∨ k = 1 ∨ k = 2 ∨ k = 3) with q | q | q | q
  · have := h1 q; subst q; exact ⟨by omega, Nat.lt_of_le_of_lt this (by decide)⟩
  · have := h2 q; subst q; exact ⟨by omega, Nat.lt_of_le_of_lt this (by decide)⟩
  · have := h3 q; subst q; exact ⟨by omega, Nat.lt_of_le_of_lt this (by decide)⟩
  · have := h4 q; subst q; exact ⟨by omega, Nat.lt_of_le_of_lt this (by decide)⟩
theorem cB_le {k : Nat} (h : k ≤ 4) : cB k ≤ 25 := by
  rcases (by omega : k = 0 ∨ k = 1 ∨ k = 2 ∨ k = 3 ∨ k = 4) with q | q | q | q | q <;> subst q <;> decide
theorem bef_pB {p : Nat → Int} : ∀ {k : Nat}, pB p k → bef p k ≠ 0 ∧ (bef p k).natAbs ≤ 169869312
  | 0, _ => ⟨by show (1 : Int) ≠ 0; decide, by show (1 : Int).natAbs ≤ _; decide⟩
  | k + 1, h => ⟨(h k (by omega)).1, (h k (by omega)).2.1⟩
theorem tr_bd {p : Nat → Int} {k i : Nat} (h : pB p k) (hi : i < k) : tr p i ≠ 0 ∧ (tr p i).natAbs ≤ 169869312 * 169869312 := by
  obtain ⟨a1, a2, -⟩ := h i hi
  obtain ⟨b1, b2⟩ := bef_pB (k := i) (p := p) (fun j hj => h j (by omega))
  exact ⟨pr_ne (sf_ne a1) (sf_ne b1), Nat.le_trans (pr_le (sf_ne a1)) (Nat.mul_le_mul (Nat.le_trans (sf_le a1) a2) (Nat.le_trans (sf_le b1) b2))⟩
theorem Sp_bd {p : Nat → Int} {k q : Nat} (h : pB p k) (hq : Sp p k q) : 2 ≤ q ∧ q ≤ 2147483647 := by
  rcases hq with rfl | ⟨i, i1, i2, i3⟩
  · decide
  · have := h i i1
    have h1 := Nat.le_of_dvd (by omega) i3
    have h2 := i2.1
    omega
theorem pB_s {p : Nat → Int} {k : Nat} (h : pB p k) {x : Int} (hx : x ≠ 0 ∧ x.natAbs ≤ 169869312 ∧ x.natAbs < fac (jB k + 2)) : pB (fun i => if i = k then x else p i) (k + 1) := fun i hi => by
  by_cases q : i = k
  · simp only [if_pos q]; rw [q]; exact hx
  · simp only [if_neg q]; exact h i (by omega)
end
section
/-! Reduction.reduce, Form.valueFor -/
set_option maxRecDepth 20000 in
theorem wd121 : Cond.methodLink "RationalForms$Reduction" 20 yR_copyNumbers ∈ GG := GG_t 121 rfl rfl
set_option maxRecDepth 20000 in
theorem wd123 : Cond.instanceMethod yR_copyNumbers ∈ GG := GG_t 123 rfl rfl
set_option maxRecDepth 20000 in
theorem wd124 : Cond.code yR_copyNumbers cR_copyNumbers 4 none ∈ GG := GG_t 124 rfl rfl
set_option maxRecDepth 20000 in
theorem wd125 : Cond.methodLink "RationalForms$Reduction" 24 yD_restart ∈ GG := GG_t 125 rfl rfl
set_option maxRecDepth 20000 in
theorem wd126 : Cond.instanceMethod yD_restart ∈ GG := GG_t 126 rfl rfl
set_option maxRecDepth 20000 in
theorem wd127 : Cond.selects "RationalForms$Diagonal" yD_restart yD_restart ∈ GG := GG_t 127 rfl rfl
set_option maxRecDepth 20000 in
theorem wd128 : Cond.code yD_restart cD_restart 2 none ∈ GG := GG_t 128 rfl rfl
set_option maxRecDepth 20000 in
theorem wd133 : Cond.methodLink "RationalForms$Reduction" 30 yR_bringPivot ∈ GG := GG_t 133 rfl rfl
set_option maxRecDepth 20000 in
theorem wd135 : Cond.instanceMethod yR_bringPivot ∈ GG := GG_t 135 rfl rfl
set_option maxRecDepth 20000 in
theorem wd136 : Cond.code yR_bringPivot cR_bringPivot 4 (some .boolean) ∈ GG := GG_t 136 rfl rfl
set_option maxRecDepth 20000 in
theorem wd145 : Cond.methodLink "RationalForms$Reduction" 34 yW_classOf ∈ GG := GG_t 145 rfl rfl
set_option maxRecDepth 20000 in
theorem wd155 : Cond.methodLink "RationalForms$Reduction" 40 yW_classOfProduct ∈ GG := GG_t 155 rfl rfl
set_option maxRecDepth 20000 in
theorem wd164 : Cond.methodLink "RationalForms$Reduction" 44 yD_addTerm ∈ GG := GG_t 164 rfl rfl
set_option maxRecDepth 20000 in
theorem wd169 : Cond.methodLink "RationalForms$Reduction" 48 yD_addPrimesOf ∈ GG := GG_t 169 rfl rfl
set_option maxRecDepth 20000 in
theorem wd176 : Cond.methodLink "RationalForms$Reduction" 51 yR_eliminate ∈ GG := GG_t 176 rfl rfl
set_option maxRecDepth 20000 in
theorem wd178 : Cond.instanceMethod yR_eliminate ∈ GG := GG_t 178 rfl rfl
set_option maxRecDepth 20000 in
theorem wd179 : Cond.code yR_eliminate cR_eliminate 8 none ∈ GG := GG_t 179 rfl rfl
set_option maxRecDepth 20000 in
theorem wds1 : Cond.selects "RationalForms$Reduction" yR_copyNumbers yR_copyNumbers ∈ GG := GG_s 1 rfl rfl
set_option maxRecDepth 20000 in
theorem wds3 : Cond.selects "RationalForms$Reduction" yR_bringPivot yR_bringPivot ∈ GG := GG_s 3 rfl rfl
set_option maxRecDepth 20000 in
theorem wds6 : Cond.selects "RationalForms$Reduction" yR_eliminate yR_eliminate ∈ GG := GG_s 6 rfl rfl
set_option maxRecDepth 100000 in
set_option maxHeartbeats 4000000 in
theorem kR_reduce (l : Launch) (E : En) (hJ : wJ E) (M : Me) (f : Nat) (hf : f < 2) (n : Nat) (hn0 : M (5 + f) 0 = n) (hn1 : 1 ≤ n) (hn4 : n ≤ 4) (hA : sb 0 4 6 (fun i j => M (9 + 4 * f + i) j)) : MM l yR_reduce wsR_reduce (rmd 4) E M [.ref (E.2.1 3), .ref (E.2.1 (5 + f)), .ref (E.2.1 (17 + f))] (fun v M9 => v = none ∧ (∃ (r : Nat) (p : Nat → Int) (c : Nat), PV n (fun i j => M (9 + 4 * f + i) j) r p ∧ pB p r ∧ r ≤ n ∧ c ≤ cB r ∧ DgS M9 f n r p c) ∧ (∀ q, q ≠ 3 → q ≠ 17 + f → q ≠ 19 + f → q ≠ 21 + f → (q < 24 ∨ 28 ≤ q) → M9 q = M q)) := by
  refine MM.ofG (by decide +kernel) (Nat.le_of_ble_eq_true rfl) ?_
  intro p_ e_ s_ m_ a_ b_ t_ c_ hx hb hml hr hk hg hown hK hP hS ls hl
  have hl : lv_has ls 8 [(0, .ref (E.2.1 3)), (1, .ref (E.2.1 (5 + f))), (2, .ref (E.2.1 (17 + f)))] := hl
  have hAn : sb 0 n 6 (fun i j => M (9 + 4 * f + i) j) := fun a b a1 a2 b1 b2 => hA a b a1 (by omega) b1 (by omega)
  have loop : ∀ (N k : Nat) (p : Nat → Int) (c : Nat) (M1 : Me) (H : Heap) (locs : List Loc) (ls : Array Slot), k + N = n → M1 3 1 = n → PVs n (fun i j => M (9 + 4 * f + i) j) p k (tb M1) → pB p k → c ≤ cB k → DgS M1 f n k p c → (∀ q, q ≠ 3 → q ≠ 17 + f → q ≠ 19 + f → q ≠ 21 + f → (q < 24 ∨ 28 ≤ q) → M1 q = M q) → wP E M1 H → va_S (wA E) s_.heap H locs → lv_has ls 8 [(5, .int (ji ((k:Int)))), (3, .long (jl (bef p k))), (0, .ref (E.2.1 3)), (1, .ref (E.2.1 (5 + f))), (2, .ref (E.2.1 (17 + f)))] → W p_ l e_ (rmd 4) s_ m_ a_ b_ t_ c_ H locs 0 0 (XQ b_ (mmQ E (fun v M9 => v = none ∧ (∃ (r : Nat) (p : Nat → Int) (c : Nat), PV n (fun i j => M (9 + 4 * f + i) j) r p ∧ pB p r ∧ r ≤ n ∧ c ≤ cB r ∧ DgS M9 f n r p c) ∧ (∀ q, q ≠ 3 → q ≠ 17 + f → q ≠ 19 + f → q ≠ 21 + f → (q < 24 ∨ 28 ≤ q) → M9 q = M q))) a_ s_ 0 0 (wA E)) (F0 m_ 18 ls []) := by
    intro N
    induction N with
    | zero =>
      intro k p c M1 H locs ls h0 hs1 hPV hpB hcB hD hF hP hS hl
      obtain rfl : k = n := by omega
      refine lv_iload hx hb dR_reduce_18 (lv_at hl 0 rfl) ?_
      refine lv_aload_n hx hb dR_reduce_20 rfl (lv_at hl 2 rfl) ?_
      refine m_get (C := "RationalForms$Reduction") (T := TxR) (N := 2) hx hb hg uwR hown hK hP (by omega) (sh_R E _) rfl 1 (by decide) wd36 rfl dR_reduce_21 ?_
      refine j_icmp_ge hx hb (by omega) (by rw [hs1]; omega) dR_reduce_24 rfl (fun h1 => ?_) (fun h1 => ?_)
      · exact mm_vret hx hb hr hk hP hS dR_reduce_88 ⟨rfl, ⟨k, p, c, ⟨Nat.le_refl _, _, hPV, Or.inl rfl⟩, hpB, Nat.le_refl _, hcB, hD⟩, hF⟩
      · rw [hs1] at h1
        omega
    | succ N ih =>
      intro k p c M1 H locs ls h0 hs1 hPV hpB hcB hD hF hP hS hl
      have hkn : k < n := by omega
      have hsb := PVs_sb hAn hPV
      have htB : tB k ≤ tB 3 := by
        rcases (by omega : k = 0 ∨ k = 1 ∨ k = 2 ∨ k = 3) with q | q | q | q <;> subst q <;> decide
      have hT0 : ∀ a b, k ≤ a → a < n → k ≤ b → b < n → b64 (tb M1 a b) := fun a b a1 a2 b1 b2 => by
        have h1 := (hsb a b a1 a2 b1 b2).2
        have h2 : tB 3 ≤ 9000000000000000000 := by decide
        omega
      refine lv_iload hx hb dR_reduce_18 (lv_at hl 0 rfl) ?_
      refine lv_aload_n hx hb dR_reduce_20 rfl (lv_at hl 2 rfl) ?_
      refine m_get (C := "RationalForms$Reduction") (T := TxR) (N := 2) hx hb hg uwR hown hK hP (by omega) (sh_R E _) rfl 1 (by decide) wd36 rfl dR_reduce_21 ?_
      refine j_icmp_ge hx hb (by omega) (by rw [hs1]; omega) dR_reduce_24 rfl (fun h1 => ?_) (fun h1 => ?_)
      · rw [hs1] at h1
        omega
      · refine lv_aload_n hx hb dR_reduce_27 rfl (lv_at hl 2 rfl) ?_
        refine lv_iload hx hb dR_reduce_28 (lv_at hl 0 rfl) ?_
        refine mm_V (As := [.int (ji ((k:Int)))]) (rest := []) hx hb hml hown hg hl hK hP hS (by omega) (sh_R E _) rfl (kR_bringPivot l E hJ M1 n hs1 hn4 k hkn hT0) wd133 wd135 wds3 wd2 wd136 ⟨rfl, rfl⟩ (n := 1) (by decide +kernel) rfl ⟨by decide, by decide⟩ rfl (Nat.le_of_ble_eq_true rfl) dR_reduce_30 ⟨Nat.zero_le _, Nat.zero_le _⟩ (fun v M2 H locs hq2 hP hS => ?_)
        obtain ⟨⟨rr, rfl, hbp⟩, hf2⟩ := hq2
        have hD2 : DgS M2 f n k p c := hD.fr (hf2 _ (by omega)) (hf2 _ (by omega)) (hf2 _ (by omega))
        have hF2 : ∀ q, q ≠ 3 → q ≠ 17 + f → q ≠ 19 + f → q ≠ 21 + f → (q < 24 ∨ 28 ≤ q) → M2 q = M q := fun q q1 q2 q3 q4 q5 => (hf2 q q5).trans (hF q q1 q2 q3 q4 q5)
        refine j_if_eq hx hb (bi_b32 _) dR_reduce_33 rfl (fun h2 => ?_) (fun h2 => ?_)
        · have hrr : rr = False := propext ⟨fun z => bi_eq h2 z, False.elim⟩
          rw [hrr] at hbp
          exact mm_vret hx hb hr hk hP hS dR_reduce_88 ⟨rfl, ⟨k, p, c, ⟨by omega, _, hPV, Or.inr ⟨_, hbp⟩⟩, hpB, by omega, hcB, hD2⟩, hF2⟩
        · have hrr : rr = True := propext ⟨fun _ => trivial, fun _ => bi_ne h2⟩
          rw [hrr] at hbp
          have hpx := piv_pB hn4 hkn hAn hPV hbp
          have hb0 := bef_pB hpB
          have hsB := sb_bp hsb hbp hkn
          have e0 : bef (fun i => if i = k then tb M2 k k else p i) k = bef p k := bef_cg (fun i hi => by simp only [if_neg (show i ≠ k by omega)])
          have hp' : ∀ i, i < k → (fun i => if i = k then tb M2 k k else p i) i = p i := fun i hi => by simp only [if_neg (show i ≠ k by omega)]
          have hpk : (fun i => if i = k then tb M2 k k else p i) k = tb M2 k k := by simp only [if_pos]
          have hpB' := pB_s hpB hpx
          have htr := tr_bd hpB' (Nat.lt_succ_self k)
          have etr : tr (fun i => if i = k then tb M2 k k else p i) k = pr (sf (tb M2 k k)) (sf (bef p k)) := by
            unfold tr
            rw [hpk, e0]
          have hsx := sf_le hpx.1
          have hsb0 := sf_le hb0.1
          have hsn := sf_ne hpx.1
          rw [etr] at htr
          refine lv_aload_n hx hb dR_reduce_36 rfl (lv_at hl 2 rfl) ?_
          refine m_get (C := "RationalForms$Reduction") (T := TxR) (N := 2) hx hb hg uwR hown hK hP (by omega) (sh_R E _) rfl 0 (by decide) wd35 rfl dR_reduce_37 ?_
          refine lv_iload hx hb dR_reduce_40 (lv_at hl 0 rfl) ?_
          refine m_aald (t0 := 3) (n := k) hx hb hK hP (by omega) (sh_b E _) rfl rfl rfl (by omega) (by decide) dR_reduce_42 ?_
          refine lv_iload hx hb dR_reduce_43 (lv_at hl 0 rfl) ?_
          refine m_lald (n := k) hx hb hK hP (by omega) (sh_w E _ (by omega)) rfl (by omega) (by decide) dR_reduce_45 ?_
          refine lv_lstore hx hb dR_reduce_46 hl (by decide) rfl (fun ls hl => ?_)
          have hl : lv_has ls 8 [(6, .long (jl (M2 (24 + k) k))), (5, .int (ji ((k:Int)))), (3, .long (jl (bef p k))), (0, .ref (E.2.1 3)), (1, .ref (E.2.1 (5 + f))), (2, .ref (E.2.1 (17 + f)))] := hl
          refine lv_aload_n hx hb dR_reduce_48 rfl (lv_at hl 5 rfl) ?_
          refine lv_lload hx hb dR_reduce_49 (lv_at hl 0 rfl) ?_
          refine pm_G (As := [.long (jl (M2 (24 + k) k))]) (rest := [.ref (E.2.1 (17 + f))]) hx hb hml hown hg hl (kW_classOf l (M2 (24 + k) k) (by have := hpx.2.1; show _ ≤ tb M2 k k ∧ tb M2 k k ≤ _; omega) hpx.1) wd145 wd146 wd11 wd147 ⟨rfl, rfl⟩ (n := 1) (by decide +kernel) rfl ⟨by decide, by decide⟩ rfl (Nat.le_of_ble_eq_true rfl) dR_reduce_51 ⟨Nat.zero_le _, Nat.zero_le _⟩ (fun r hr9 => ?_)
          subst hr9
          refine lv_lload_n hx hb dR_reduce_54 rfl (lv_at hl 2 rfl) ?_
          refine pm_G (As := [.long (jl (bef p k))]) (rest := [.long (jl (sf (tb M2 k k))), .ref (E.2.1 (17 + f))]) hx hb hml hown hg hl (kW_classOf l (bef p k) (by omega) hb0.1) wd145 wd146 wd11 wd147 ⟨rfl, rfl⟩ (n := 1) (by decide +kernel) rfl ⟨by decide, by decide⟩ rfl (Nat.le_of_ble_eq_true rfl) dR_reduce_55 ⟨Nat.zero_le _, Nat.zero_le _⟩ (fun r hr9 => ?_)
          subst hr9
          refine pm_G (As := [.long (jl (sf (tb M2 k k))), .long (jl (sf (bef p k)))]) (rest := [.ref (E.2.1 (17 + f))]) hx hb hml hown hg hl (kW_classOfProduct l (sf (tb M2 k k)) (sf (bef p k)) (by omega) (by omega) hsn) wd155 wd156 wd11 wd157 ⟨rfl, rfl⟩ (n := 2) (by decide +kernel) rfl ⟨by decide, by decide⟩ rfl (Nat.le_of_ble_eq_true rfl) dR_reduce_58 ⟨Nat.zero_le _, Nat.zero_le _⟩ (fun r hr9 => ?_)
          subst hr9
          refine mm_V (As := [.long (jl (pr (sf (tb M2 k k)) (sf (bef p k))))]) (rest := []) hx hb hml hown hg hl hK hP hS (by omega) (sh_D E _ (by omega)) rfl (kD_addTerm l E hJ M2 f hf (pr (sf (tb M2 k k)) (sf (bef p k))) k hD2.2.1 (by omega) (by omega) (by rw [hD2.2.2.2.2.2.1]; exact sf_ne hb0.1) (by rw [hD2.2.2.2.2.2.1]; omega)) wd164 wd165 wd166 wd4 wd167 ⟨rfl, rfl⟩ (n := 1) (by decide +kernel) rfl ⟨by decide, by decide⟩ rfl (Nat.le_of_ble_eq_true rfl) dR_reduce_61 ⟨Nat.zero_le _, Nat.zero_le _⟩ (fun v M3 H locs hq3 hP hS => ?_)
          obtain ⟨rfl, a1, a2, a3, a4, a5, a6, a7, a8, a9⟩ := hq3
          obtain ⟨d1, d2, d3', d4', d5, d6, d7, d8⟩ := hD2
          have hSL3 : SL c (M3 (21 + f)) (Sp p k) := by rw [a9 (21 + f) (by omega) (by omega)]; exact d8
          refine lv_aload_n hx hb dR_reduce_64 rfl (lv_at hl 5 rfl) ?_
          refine lv_lload hx hb dR_reduce_65 (lv_at hl 0 rfl) ?_
          refine mm_V (As := [.long (jl (M2 (24 + k) k))]) (rest := []) hx hb hml hown hg hl hK hP hS (by omega) (sh_D E _ (by omega)) rfl (kD_addPrimesOf l E hJ M3 f hf (tb M2 k k) hpx.1 (by omega) c (jB k) (a8.trans d7) (by have := cB_le (k := k + 1) (by omega); have : cB (k + 1) = cB k + jB k := rfl; omega) (Sp p k) hSL3 (fun q hq => (Sp_bd hpB hq).2) hpx.2.2) wd169 wd170 wd171 wd4 wd172 ⟨rfl, rfl⟩ (n := 1) (by decide +kernel) rfl ⟨by decide, by decide⟩ rfl (Nat.le_of_ble_eq_true rfl) dR_reduce_67 ⟨Nat.zero_le _, Nat.zero_le _⟩ (fun v M4 H locs hq4 hP hS => ?_)
          obtain ⟨rfl, ⟨c9, c1, c2, c3⟩, c4, c5⟩ := hq4
          have hT4 : tb M4 = tb M2 := by
            funext a b
            show M4 (24 + a) b = M2 (24 + a) b
            rw [c4 (24 + a) (by omega) (by omega), a9 (24 + a) (by omega) (by omega)]
          have hs4 : M4 3 1 = n := by rw [c4 3 (by omega) (by omega), a9 3 (by omega) (by omega), hf2 3 (by omega)]; exact hs1
          have hT9 : ∀ a b, k ≤ a → a < n → k ≤ b → b < n → k + 1 < n → (tb M4 a b).natAbs ≤ 2000000000 := fun a b x1 x2 x3 x4 x5 => by
            rw [hT4]
            have y1 := (hsB a b x1 x2 x3 x4).2
            have y2 : tB k ≤ tB 2 := by
              rcases (by omega : k = 0 ∨ k = 1 ∨ k = 2) with q | q | q <;> subst q <;> decide
            have y3 : 4 * tB 2 ≤ 2000000000 := by decide
            omega
          have hT8 : ∀ a b, k ≤ a → a < n → k ≤ b → b < n → (tb M4 a b).natAbs ≤ 2000000000 := fun a b x1 x2 x3 x4 => by
            rcases Nat.lt_or_ge (k + 1) n with x5 | x5
            · exact hT9 a b x1 x2 x3 x4 x5
            · rw [show a = k by omega, show b = k by omega, hT4]
              have := hpx.2.1
              omega
          refine lv_aload_n hx hb dR_reduce_70 rfl (lv_at hl 3 rfl) ?_
          refine lv_iload hx hb dR_reduce_71 (lv_at hl 1 rfl) ?_
          refine lv_lload hx hb dR_reduce_73 (lv_at hl 0 rfl) ?_
          refine lv_lload_n hx hb dR_reduce_75 rfl (lv_at hl 2 rfl) ?_
          refine mm_V (As := [.int (ji ((k:Int))), .long (jl (M2 (24 + k) k)), .long (jl (bef p k))]) (rest := []) hx hb hml hown hg hl hK hP hS (by omega) (sh_R E _) rfl (kR_eliminate l E hJ M4 n hs4 hn4 k hkn (tb M2 k k) (bef p k) (by have := hpx.2.1; omega) (by omega) hb0.1 hT8) wd176 wd178 wds6 wd2 wd179 ⟨rfl, rfl⟩ (n := 3) (by decide +kernel) rfl ⟨by decide, by decide⟩ rfl (Nat.le_of_ble_eq_true rfl) dR_reduce_76 ⟨Nat.zero_le _, Nat.zero_le _⟩ (fun v M5 H locs hq5 hP hS => ?_)
          obtain ⟨rfl, z1, z2⟩ := hq5
          rw [hT4] at z1
          refine lv_lload hx hb dR_reduce_79 (lv_at hl 0 rfl) ?_
          refine lv_lstore_n hx hb dR_reduce_81 rfl hl (by decide) rfl (fun ls hl => ?_)
          have hl : lv_has ls 8 [(3, .long (jl (M2 (24 + k) k))), (6, .long (jl (M2 (24 + k) k))), (5, .int (ji ((k:Int)))), (0, .ref (E.2.1 3)), (1, .ref (E.2.1 (5 + f))), (2, .ref (E.2.1 (17 + f)))] := hl
          refine lv_iinc (k := 2) (v := ji (((k:Int)) + 1)) hx hb dR_reduce_82 hl rfl (Int32.ofInt_add _ _).symm (by decide) rfl (fun ls hl => ?_)
          have hl : lv_has ls 8 [(5, .int (ji (((k:Int)) + 1))), (3, .long (jl (M2 (24 + k) k))), (6, .long (jl (M2 (24 + k) k))), (0, .ref (E.2.1 3)), (1, .ref (E.2.1 (5 + f))), (2, .ref (E.2.1 (17 + f)))] := hl
          refine lv_goto hx hb dR_reduce_85 rfl ?_
          have hD5 : DgS M5 f n (k + 1) (fun i => if i = k then tb M2 k k else p i) c9 := by
            have q17 : M5 (17 + f) = M4 (17 + f) := z2 _ (by omega)
            have q19 : M5 (19 + f) = M3 (19 + f) := (z2 _ (by omega)).trans (c4 _ (by omega) (by omega))
            have q21 : M5 (21 + f) = M4 (21 + f) := z2 _ (by omega)
            refine ⟨?_, ?_, fun i hi => ?_, ?_, ?_, ?_, ?_, ?_⟩
            · rw [q17, c5 2 (by omega), a7, d1]
            · rw [q17, c5 3 (by omega), a1]; rfl
            · rw [q19]
              by_cases hik : i = k
              · rw [hik, a2, etr]
              · rw [a3 i hik, d3' i (by omega)]
                exact (tr_cg hp' (by omega)).symm
            · rw [q17, c5 4 (by omega), a4, d4']
              show _ = ps _ k + _
              rw [ps_cg hp', etr]
            · rw [q17, c5 5 (by omega), a5, d5]
              show _ = ng _ k + _
              rw [ng_cg hp', etr]
            · rw [q17, c5 6 (by omega), a6, d6, pr_pr (sf_ne hb0.1) hsn (sf_sq hpx.1)]
              show _ = sf ((fun i => if i = k then tb M2 k k else p i) k)
              rw [hpk]
            · rw [q17]; exact c2
            · rw [q21]
              refine c3.to (fun q => ⟨?_, ?_⟩)
              · rintro (h | h)
                · rcases h with h | ⟨i, i1, i2, i3⟩
                  · exact Or.inl h
                  · exact Or.inr ⟨i, by omega, i2, by rw [hp' i i1]; exact i3⟩
                · exact Or.inr ⟨k, by omega, h.1, by rw [hpk]; exact h.2⟩
              · rintro (h | ⟨i, i1, i2, i3⟩)
                · exact Or.inl (Or.inl h)
                · by_cases hik : i = k
                  · rw [hik, hpk] at i3
                    exact Or.inr ⟨i2, i3⟩
                  · rw [hp' i (by omega)] at i3
                    exact Or.inl (Or.inr ⟨i, by omega, i2, i3⟩)
          have hF5 : ∀ q, q ≠ 3 → q ≠ 17 + f → q ≠ 19 + f → q ≠ 21 + f → (q < 24 ∨ 28 ≤ q) → M5 q = M q := fun q q1 q2 q3 q4 q5 => (z2 q q5).trans ((c4 q q2 q4).trans ((a9 q q2 q3).trans (hF2 q q1 q2 q3 q4 q5)))
          refine ih (k + 1) (fun i => if i = k then tb M2 k k else p i) c9 M5 H locs ls (by omega) (by rw [z2 3 (by omega)]; exact hs4) ⟨tb M1, tb M2, PVs.cg hp' hPV, hkn, hbp, hpk.symm, ?_⟩ hpB' (by show c9 ≤ cB k + jB k; omega) hD5 hF5 hP hS ?_
          · rw [hpk, e0]; exact z1
          · have e9 : bef (fun i => if i = k then tb M2 k k else p i) (k + 1) = M2 (24 + k) k := hpk
            rw [e9]
            exact lv_sub hl [0, 1, 3, 4, 5] rfl
  refine lv_aload_n hx hb dR_reduce_0 rfl (lv_at hl 0 rfl) ?_
  refine lv_aload_n hx hb dR_reduce_1 rfl (lv_at hl 1 rfl) ?_
  refine mm_V (As := [.ref (E.2.1 (5 + f))]) (rest := []) hx hb hml hown hg hl hK hP hS (by omega) (sh_R E _) rfl (kR_copyNumbers l E hJ M f hf n hn0 hn4 (fun i j hi hj => by have h9 : (M (9 + 4 * f + i) j).natAbs ≤ 6 := (hA i j (by omega) hi (by omega) hj).2; omega)) wd121 wd123 wds1 wd2 wd124 ⟨rfl, rfl⟩ (n := 1) (by decide +kernel) rfl ⟨by decide, by decide⟩ rfl (Nat.le_of_ble_eq_true rfl) dR_reduce_2 ⟨Nat.zero_le _, Nat.zero_le _⟩ (fun v M1 H locs hq1 hP hS => ?_)
  obtain ⟨rfl, x1, x2, x3⟩ := hq1
  refine lv_aload_n hx hb dR_reduce_5 rfl (lv_at hl 2 rfl) ?_
  refine lv_aload_n hx hb dR_reduce_6 rfl (lv_at hl 0 rfl) ?_
  refine m_get (C := "RationalForms$Reduction") (T := TxR) (N := 2) hx hb hg uwR hown hK hP (by omega) (sh_R E _) rfl 1 (by decide) wd36 rfl dR_reduce_7 ?_
  rw [x1]
  refine mm_V (As := [.int (ji ((n:Int)))]) (rest := []) hx hb hml hown hg hl hK hP hS (by omega) (sh_D E _ (by omega)) rfl (kD_restart l E hJ M1 f hf (n : Int)) wd125 wd126 wd127 wd4 wd128 ⟨rfl, rfl⟩ (n := 1) (by decide +kernel) rfl ⟨by decide, by decide⟩ rfl (Nat.le_of_ble_eq_true rfl) dR_reduce_10 ⟨Nat.zero_le _, Nat.zero_le _⟩ (fun v M2 H locs hq2 hP hS => ?_)
  obtain ⟨rfl, y1, y2, y3, y4, y5, ⟨c9, y6, y7, y8⟩, y9⟩ := hq2
  refine j_lconst1 hx hb dR_reduce_13 ?_
  refine lv_lstore_n hx hb dR_reduce_14 rfl hl (by decide) rfl (fun ls hl => ?_)
  have hl : lv_has ls 8 [(3, .long (jl 1)), (0, .ref (E.2.1 3)), (1, .ref (E.2.1 (5 + f))), (2, .ref (E.2.1 (17 + f)))] := hl
  refine j_iconst hx hb dR_reduce_15 ?_
  refine lv_istore hx hb dR_reduce_16 hl (by decide) rfl (fun ls hl => ?_)
  have hl : lv_has ls 8 [(5, .int (ji 0)), (3, .long (jl 1)), (0, .ref (E.2.1 3)), (1, .ref (E.2.1 (5 + f))), (2, .ref (E.2.1 (17 + f)))] := hl
  refine loop n 0 (fun _ => 0) c9 M2 H locs ls (by omega) (by rw [y9 3 (by omega) (by omega)]; exact x1) ?_ (fun i hi => by omega) y6 ⟨y1, by rw [y2]; rfl, fun i hi => by omega, y3, y4, by rw [y5]; exact sf_1.symm, y7, y8.to (fun q => ⟨Or.inl, fun h => h.elim id (fun h => by obtain ⟨i, i1, -⟩ := h; omega)⟩)⟩ (fun q q1 q2 q3 q4 q5 => (y9 q q2 q4).trans (x3 q q1 q5)) hP hS hl
  intro a b ha hb
  show M2 (24 + a) b = _
  rw [y9 (24 + a) (by omega) (by omega)]
  exact x2 a b ha hb

set_option maxRecDepth 100000 in
set_option maxHeartbeats 4000000 in
theorem kF_valueFor (l : Launch) (E : En) (hJ : wJ E) (M : Me) (f : Nat) (hf : f < 2) (n : Nat) (hn0 : M (5 + f) 0 = n) (hn4 : n ≤ 4) (hA : ∀ i j, i < 4 → j < 4 → b32 (M (9 + 4 * f + i) j)) (hx9 : ∀ i, i < n → b32 (M 4 i)) : MM l yF_valueFor wsF_valueFor (rmd 0) E M [.ref (E.2.1 (5 + f)), .ref (E.2.1 4)] (fun v M9 => v = some (.long (jl (vf n (fun i j => M (9 + 4 * f + i) j) (M 4) n))) ∧ M9 = M) := by
  refine MM.ofG (by decide +kernel) (Nat.le_of_ble_eq_true rfl) ?_
  intro p_ e_ s_ m_ a_ b_ t_ c_ hx hb hml hr hk hg hown hK hP hS ls hl
  have hl : lv_has ls 6 [(0, .ref (E.2.1 (5 + f))), (1, .ref (E.2.1 4))] := hl
  have outer : ∀ (N i : Nat) (ls : Array Slot), i + N = n → lv_has ls 6 [(4, .int (ji ((i:Int)))), (2, .long (jl (vf n (fun i j => M (9 + 4 * f + i) j) (M 4) i))), (0, .ref (E.2.1 (5 + f))), (1, .ref (E.2.1 4))] → W p_ l e_ (rmd 0) s_ m_ a_ b_ t_ c_ s_.heap [] 0 0 (XQ b_ (mmQ E (fun v M9 => v = some (.long (jl (vf n (fun i j => M (9 + 4 * f + i) j) (M 4) n))) ∧ M9 = M)) a_ s_ 0 0 (wA E)) (F0 m_ 5 ls []) := by
    intro N
    induction N with
    | zero =>
      intro i ls h0 hl
      refine lv_iload hx hb dF_valueFor_5 (lv_at hl 0 rfl) ?_
      refine lv_aload_n hx hb dF_valueFor_7 rfl (lv_at hl 2 rfl) ?_
      refine m_get (C := "RationalForms$Form") (T := TxF) (N := 2) hx hb hg uwF hown hK hP (by omega) (sh_F E _ (by omega)) rfl 0 (by decide) wd50 rfl dF_valueFor_8 ?_
      refine j_icmp_ge hx hb (by omega) (by rw [hn0]; omega) dF_valueFor_11 rfl (fun h1 => ?_) (fun h1 => ?_)
      · have hin : i = n := by omega
        refine lv_lload_n hx hb dF_valueFor_64 rfl (lv_at hl 1 rfl) ?_
        exact mm_lret hx hb hr hk hP hS dF_valueFor_65 ⟨by rw [hin], rfl⟩
      · omega
    | succ N ih =>
      intro i ls h0 hl
      have inner : ∀ (K j : Nat) (ls : Array Slot), j + K = n → lv_has ls 6 [(5, .int (ji ((j:Int)))), (4, .int (ji ((i:Int)))), (2, .long (jl (vf n (fun i j => M (9 + 4 * f + i) j) (M 4) i + vfR n (fun i j => M (9 + 4 * f + i) j) (M 4) i j))), (0, .ref (E.2.1 (5 + f))), (1, .ref (E.2.1 4))] → W p_ l e_ (rmd 0) s_ m_ a_ b_ t_ c_ s_.heap [] 0 0 (XQ b_ (mmQ E (fun v M9 => v = some (.long (jl (vf n (fun i j => M (9 + 4 * f + i) j) (M 4) n))) ∧ M9 = M)) a_ s_ 0 0 (wA E)) (F0 m_ 17 ls []) := by
        intro K
        induction K with
        | zero =>
          intro j ls h1 hl
          refine lv_iload hx hb dF_valueFor_17 (lv_at hl 0 rfl) ?_
          refine lv_aload_n hx hb dF_valueFor_19 rfl (lv_at hl 3 rfl) ?_
          refine m_get (C := "RationalForms$Form") (T := TxF) (N := 2) hx hb hg uwF hown hK hP (by omega) (sh_F E _ (by omega)) rfl 0 (by decide) wd50 rfl dF_valueFor_20 ?_
          refine j_icmp_ge hx hb (by omega) (by rw [hn0]; omega) dF_valueFor_23 rfl (fun h2 => ?_) (fun h2 => ?_)
          · have hjn : j = n := by omega
            refine lv_iinc (k := 1) (v := ji (((i:Int)) + 1)) hx hb dF_valueFor_58 hl rfl (Int32.ofInt_add _ _).symm (by decide) rfl (fun ls hl => ?_)
            have hl : lv_has ls 6 [(4, .int (ji (((i:Int)) + 1))), (5, .int (ji ((j:Int)))), (2, .long (jl (vf n (fun i j => M (9 + 4 * f + i) j) (M 4) i + vfR n (fun i j => M (9 + 4 * f + i) j) (M 4) i j))), (0, .ref (E.2.1 (5 + f))), (1, .ref (E.2.1 4))] := hl
            refine lv_goto hx hb dF_valueFor_61 rfl ?_
            rw [hjn] at hl
            exact ih (i + 1) ls (by omega) (lv_sub hl [0, 2, 3, 4] rfl)
          · omega
        | succ K ihK =>
          intro j ls h1 hl
          refine lv_iload hx hb dF_valueFor_17 (lv_at hl 0 rfl) ?_
          refine lv_aload_n hx hb dF_valueFor_19 rfl (lv_at hl 3 rfl) ?_
          refine m_get (C := "RationalForms$Form") (T := TxF) (N := 2) hx hb hg uwF hown hK hP (by omega) (sh_F E _ (by omega)) rfl 0 (by decide) wd50 rfl dF_valueFor_20 ?_
          refine j_icmp_ge hx hb (by omega) (by rw [hn0]; omega) dF_valueFor_23 rfl (fun h2 => ?_) (fun h2 => ?_)
          · omega
          · refine lv_lload_n hx hb dF_valueFor_26 rfl (lv_at hl 2 rfl) ?_
            refine lv_aload_n hx hb dF_valueFor_27 rfl (lv_at hl 3 rfl) ?_
            refine m_get (C := "RationalForms$Form") (T := TxF) (N := 2) hx hb hg uwF hown hK hP (by omega) (sh_F E _ (by omega)) rfl 1 (by decide) wd53 rfl dF_valueFor_28 ?_
            refine lv_iload hx hb dF_valueFor_31 (lv_at hl 1 rfl) ?_
            refine m_aald (t0 := 2) (n := i) hx hb hK hP (by omega) (sh_o E _ (by omega)) rfl rfl rfl (by omega) (by decide) dF_valueFor_33 ?_
            refine lv_iload hx hb dF_valueFor_34 (lv_at hl 0 rfl) ?_
            refine m_iald (n := j) hx hb hK hP (by omega) (sh_n E _ (by omega) (by omega)) rfl (by omega) (by decide) dF_valueFor_36 ?_
            refine j_i2l hx hb (hA i j (by omega) (by omega)) dF_valueFor_37 ?_
            refine lv_aload_n hx hb dF_valueFor_38 rfl (lv_at hl 4 rfl) ?_
            refine lv_iload hx hb dF_valueFor_39 (lv_at hl 1 rfl) ?_
            refine m_iald (n := i) hx hb hK hP (by omega) (sh_pt E _) rfl (by omega) (by decide) dF_valueFor_41 ?_
            refine j_i2l hx hb (hx9 i (by omega)) dF_valueFor_42 ?_
            refine j_lmul hx hb dF_valueFor_43 ?_
            refine lv_aload_n hx hb dF_valueFor_44 rfl (lv_at hl 4 rfl) ?_
            refine lv_iload hx hb dF_valueFor_45 (lv_at hl 0 rfl) ?_
            refine m_iald (n := j) hx hb hK hP (by omega) (sh_pt E _) rfl (by omega) (by decide) dF_valueFor_47 ?_
            refine j_i2l hx hb (hx9 j (by omega)) dF_valueFor_48 ?_
            refine j_lmul hx hb dF_valueFor_49 ?_
            refine j_ladd hx hb dF_valueFor_50 ?_
            refine lv_lstore_n hx hb dF_valueFor_51 rfl hl (by decide) rfl (fun ls hl => ?_)
            have hl : lv_has ls 6 [(2, .long (jl ((vf n (fun i j => M (9 + 4 * f + i) j) (M 4) i + vfR n (fun i j => M (9 + 4 * f + i) j) (M 4) i j) + (((M (9 + 4 * f + i) j) * (M 4 i)) * (M 4 j))))), (5, .int (ji ((j:Int)))), (4, .int (ji ((i:Int)))), (0, .ref (E.2.1 (5 + f))), (1, .ref (E.2.1 4))] := hl
            refine lv_iinc (k := 1) (v := ji (((j:Int)) + 1)) hx hb dF_valueFor_52 hl rfl (Int32.ofInt_add _ _).symm (by decide) rfl (fun ls hl => ?_)
            have hl : lv_has ls 6 [(5, .int (ji (((j:Int)) + 1))), (2, .long (jl ((vf n (fun i j => M (9 + 4 * f + i) j) (M 4) i + vfR n (fun i j => M (9 + 4 * f + i) j) (M 4) i j) + (((M (9 + 4 * f + i) j) * (M 4 i)) * (M 4 j))))), (4, .int (ji ((i:Int)))), (0, .ref (E.2.1 (5 + f))), (1, .ref (E.2.1 4))] := hl
            refine lv_goto hx hb dF_valueFor_55 rfl ?_
            refine ihK (j + 1) ls (by omega) ?_
            have e9 : vf n (fun i j => M (9 + 4 * f + i) j) (M 4) i + vfR n (fun i j => M (9 + 4 * f + i) j) (M 4) i (j + 1) = vf n (fun i j => M (9 + 4 * f + i) j) (M 4) i + vfR n (fun i j => M (9 + 4 * f + i) j) (M 4) i j + M (9 + 4 * f + i) j * M 4 i * M 4 j := by
              show vf n (fun i j => M (9 + 4 * f + i) j) (M 4) i + (vfR n (fun i j => M (9 + 4 * f + i) j) (M 4) i j + M (9 + 4 * f + i) j * M 4 i * M 4 j) = _
              omega
            rw [e9]
            exact lv_sub hl [0, 2, 1, 3, 4] rfl
      refine lv_iload hx hb dF_valueFor_5 (lv_at hl 0 rfl) ?_
      refine lv_aload_n hx hb dF_valueFor_7 rfl (lv_at hl 2 rfl) ?_
      refine m_get (C := "RationalForms$Form") (T := TxF) (N := 2) hx hb hg uwF hown hK hP (by omega) (sh_F E _ (by omega)) rfl 0 (by decide) wd50 rfl dF_valueFor_8 ?_
      refine j_icmp_ge hx hb (by omega) (by rw [hn0]; omega) dF_valueFor_11 rfl (fun h1 => ?_) (fun h1 => ?_)
      · omega
      · refine j_iconst hx hb dF_valueFor_14 ?_
        refine lv_istore hx hb dF_valueFor_15 hl (by decide) rfl (fun ls hl => ?_)
        have hl : lv_has ls 6 [(5, .int (ji 0)), (4, .int (ji ((i:Int)))), (2, .long (jl (vf n (fun i j => M (9 + 4 * f + i) j) (M 4) i))), (0, .ref (E.2.1 (5 + f))), (1, .ref (E.2.1 4))] := hl
        refine inner n 0 ls (by omega) ?_
        rw [show vf n (fun i j => M (9 + 4 * f + i) j) (M 4) i + vfR n (fun i j => M (9 + 4 * f + i) j) (M 4) i 0 = vf n (fun i j => M (9 + 4 * f + i) j) (M 4) i from Int.add_zero _]
        exact hl
  refine j_lconst0 hx hb dF_valueFor_0 ?_
  refine lv_lstore_n hx hb dF_valueFor_1 rfl hl (by decide) rfl (fun ls hl => ?_)
  have hl : lv_has ls 6 [(2, .long (jl 0)), (0, .ref (E.2.1 (5 + f))), (1, .ref (E.2.1 4))] := hl
  refine j_iconst hx hb dF_valueFor_2 ?_
  refine lv_istore hx hb dF_valueFor_3 hl (by decide) rfl (fun ls hl => ?_)
  have hl : lv_has ls 6 [(4, .int (ji 0)), (2, .long (jl 0)), (0, .ref (E.2.1 (5 + f))), (1, .ref (E.2.1 4))] := hl
  exact outer n 0 ls (by omega) hl
end
section
/-! the reference: primes, adding, bringing a pivot -/
abbrev cM_addPrime : ByteArray := prog_8_method_9_code
abbrev yM_addPrime : MethodName := ⟨"RationalFormsModel", "addPrime", "(J)V"⟩
abbrev wsM_addPrime : List Cond := .code yM_addPrime cM_addPrime 5 none :: GG
theorem dM_addPrime_0 : decode cM_addPrime 0 = .ok (.iconst 0, 1) := by decide +kernel
theorem dM_addPrime_1 : decode cM_addPrime 1 = .ok (.istore_n 3, 1) := by decide +kernel
theorem dM_addPrime_2 : decode cM_addPrime 2 = .ok (.iload_n 3, 1) := by decide +kernel
theorem dM_addPrime_3 : decode cM_addPrime 3 = .ok (.aload_n 0, 1) := by decide +kernel
theorem dM_addPrime_4 : decode cM_addPrime 4 = .ok (.getfield 45, 3) := by decide +kernel
theorem dM_addPrime_7 : decode cM_addPrime 7 = .ok (.if_icmp .ge 20, 3) := by decide +kernel
theorem dM_addPrime_10 : decode cM_addPrime 10 = .ok (.aload_n 0, 1) := by decide +kernel
theorem dM_addPrime_11 : decode cM_addPrime 11 = .ok (.getfield 23, 3) := by decide +kernel
theorem dM_addPrime_14 : decode cM_addPrime 14 = .ok (.iload_n 3, 1) := by decide +kernel
theorem dM_addPrime_15 : decode cM_addPrime 15 = .ok (.laload, 1) := by decide +kernel
theorem dM_addPrime_16 : decode cM_addPrime 16 = .ok (.lload_n 1, 1) := by decide +kernel
theorem dM_addPrime_17 : decode cM_addPrime 17 = .ok (.lcmp, 1) := by decide +kernel
theorem dM_addPrime_18 : decode cM_addPrime 18 = .ok (.ifCond .ge 9, 3) := by decide +kernel
theorem dM_addPrime_21 : decode cM_addPrime 21 = .ok (.iinc 3 1, 3) := by decide +kernel
theorem dM_addPrime_24 : decode cM_addPrime 24 = .ok (.goto (-22), 3) := by decide +kernel
theorem dM_addPrime_27 : decode cM_addPrime 27 = .ok (.iload_n 3, 1) := by decide +kernel
theorem dM_addPrime_28 : decode cM_addPrime 28 = .ok (.aload_n 0, 1) := by decide +kernel
theorem dM_addPrime_29 : decode cM_addPrime 29 = .ok (.getfield 45, 3) := by decide +kernel
theorem dM_addPrime_32 : decode cM_addPrime 32 = .ok (.if_icmp .ge 15, 3) := by decide +kernel
theorem dM_addPrime_35 : decode cM_addPrime 35 = .ok (.aload_n 0, 1) := by decide +kernel
theorem dM_addPrime_36 : decode cM_addPrime 36 = .ok (.getfield 23, 3) := by decide +kernel
theorem dM_addPrime_39 : decode cM_addPrime 39 = .ok (.iload_n 3, 1) := by decide +kernel
theorem dM_addPrime_40 : decode cM_addPrime 40 = .ok (.laload, 1) := by decide +kernel
theorem dM_addPrime_41 : decode cM_addPrime 41 = .ok (.lload_n 1, 1) := by decide +kernel
theorem dM_addPrime_42 : decode cM_addPrime 42 = .ok (.lcmp, 1) := by decide +kernel
theorem dM_addPrime_43 : decode cM_addPrime 43 = .ok (.ifCond .ne 4, 3) := by decide +kernel
theorem dM_addPrime_46 : decode cM_addPrime 46 = .ok (.return_, 1) := by decide +kernel
theorem dM_addPrime_47 : decode cM_addPrime 47 = .ok (.aload_n 0, 1) := by decide +kernel
theorem dM_addPrime_48 : decode cM_addPrime 48 = .ok (.getfield 45, 3) := by decide +kernel
theorem dM_addPrime_51 : decode cM_addPrime 51 = .ok (.istore 4, 2) := by decide +kernel
theorem dM_addPrime_53 : decode cM_addPrime 53 = .ok (.iload 4, 2) := by decide +kernel
theorem dM_addPrime_55 : decode cM_addPrime 55 = .ok (.iload_n 3, 1) := by decide +kernel
theorem dM_addPrime_56 : decode cM_addPrime 56 = .ok (.if_icmp .le 25, 3) := by decide +kernel
theorem dM_addPrime_59 : decode cM_addPrime 59 = .ok (.aload_n 0, 1) := by decide +kernel
theorem dM_addPrime_60 : decode cM_addPrime 60 = .ok (.getfield 23, 3) := by decide +kernel
theorem dM_addPrime_63 : decode cM_addPrime 63 = .ok (.iload 4, 2) := by decide +kernel
theorem dM_addPrime_65 : decode cM_addPrime 65 = .ok (.aload_n 0, 1) := by decide +kernel
theorem dM_addPrime_66 : decode cM_addPrime 66 = .ok (.getfield 23, 3) := by decide +kernel
theorem dM_addPrime_69 : decode cM_addPrime 69 = .ok (.iload 4, 2) := by decide +kernel
theorem dM_addPrime_71 : decode cM_addPrime 71 = .ok (.iconst 1, 1) := by decide +kernel
theorem dM_addPrime_72 : decode cM_addPrime 72 = .ok (.isub, 1) := by decide +kernel
theorem dM_addPrime_73 : decode cM_addPrime 73 = .ok (.laload, 1) := by decide +kernel
theorem dM_addPrime_74 : decode cM_addPrime 74 = .ok (.lastore, 1) := by decide +kernel
theorem dM_addPrime_75 : decode cM_addPrime 75 = .ok (.iinc 4 (-1), 3) := by decide +kernel
theorem dM_addPrime_78 : decode cM_addPrime 78 = .ok (.goto (-25), 3) := by decide +kernel
theorem dM_addPrime_81 : decode cM_addPrime 81 = .ok (.aload_n 0, 1) := by decide +kernel
theorem dM_addPrime_82 : decode cM_addPrime 82 = .ok (.getfield 23, 3) := by decide +kernel
theorem dM_addPrime_85 : decode cM_addPrime 85 = .ok (.iload_n 3, 1) := by decide +kernel
theorem dM_addPrime_86 : decode cM_addPrime 86 = .ok (.lload_n 1, 1) := by decide +kernel
theorem dM_addPrime_87 : decode cM_addPrime 87 = .ok (.lastore, 1) := by decide +kernel
theorem dM_addPrime_88 : decode cM_addPrime 88 = .ok (.aload_n 0, 1) := by decide +kernel
theorem dM_addPrime_89 : decode cM_addPrime 89 = .ok (.dup, 1) := by decide +kernel
theorem dM_addPrime_90 : decode cM_addPrime 90 = .ok (.getfield 45, 3) := by decide +kernel
theorem dM_addPrime_93 : decode cM_addPrime 93 = .ok (.iconst 1, 1) := by decide +kernel
theorem dM_addPrime_94 : decode cM_addPrime 94 = .ok (.iadd, 1) := by decide +kernel
theorem dM_addPrime_95 : decode cM_addPrime 95 = .ok (.putfield 45, 3) := by decide +kernel
theorem dM_addPrime_98 : decode cM_addPrime 98 = .ok (.return_, 1) := by decide +kernel
abbrev cM_addPrimes : ByteArray := prog_8_method_10_code
abbrev yM_addPrimes : MethodName := ⟨"RationalFormsModel", "addPrimes", "(J)V"⟩
abbrev wsM_addPrimes : List Cond := .code yM_addPrimes cM_addPrimes 7 none :: GG
theorem dM_addPrimes_0 : decode cM_addPrimes 0 = .ok (.lload_n 1, 1) := by decide +kernel
theorem dM_addPrimes_1 : decode cM_addPrimes 1 = .ok (.lconst 0, 1) := by decide +kernel
theorem dM_addPrimes_2 : decode cM_addPrimes 2 = .ok (.lcmp, 1) := by decide +kernel
theorem dM_addPrimes_3 : decode cM_addPrimes 3 = .ok (.ifCond .ge 8, 3) := by decide +kernel
theorem dM_addPrimes_6 : decode cM_addPrimes 6 = .ok (.lload_n 1, 1) := by decide +kernel
theorem dM_addPrimes_7 : decode cM_addPrimes 7 = .ok (.lneg, 1) := by decide +kernel
theorem dM_addPrimes_8 : decode cM_addPrimes 8 = .ok (.goto 4, 3) := by decide +kernel
theorem dM_addPrimes_11 : decode cM_addPrimes 11 = .ok (.lload_n 1, 1) := by decide +kernel
theorem dM_addPrimes_12 : decode cM_addPrimes 12 = .ok (.lstore_n 3, 1) := by decide +kernel
theorem dM_addPrimes_13 : decode cM_addPrimes 13 = .ok (.ldc2_w 39, 3) := by decide +kernel
theorem dM_addPrimes_16 : decode cM_addPrimes 16 = .ok (.lstore 5, 2) := by decide +kernel
theorem dM_addPrimes_18 : decode cM_addPrimes 18 = .ok (.lload 5, 2) := by decide +kernel
theorem dM_addPrimes_20 : decode cM_addPrimes 20 = .ok (.lload 5, 2) := by decide +kernel
theorem dM_addPrimes_22 : decode cM_addPrimes 22 = .ok (.lmul, 1) := by decide +kernel
theorem dM_addPrimes_23 : decode cM_addPrimes 23 = .ok (.lload_n 3, 1) := by decide +kernel
theorem dM_addPrimes_24 : decode cM_addPrimes 24 = .ok (.lcmp, 1) := by decide +kernel
theorem dM_addPrimes_25 : decode cM_addPrimes 25 = .ok (.ifCond .gt 32, 3) := by decide +kernel
theorem dM_addPrimes_28 : decode cM_addPrimes 28 = .ok (.lload_n 3, 1) := by decide +kernel
theorem dM_addPrimes_29 : decode cM_addPrimes 29 = .ok (.lload 5, 2) := by decide +kernel
theorem dM_addPrimes_31 : decode cM_addPrimes 31 = .ok (.lrem, 1) := by decide +kernel
theorem dM_addPrimes_32 : decode cM_addPrimes 32 = .ok (.lconst 0, 1) := by decide +kernel
theorem dM_addPrimes_33 : decode cM_addPrimes 33 = .ok (.lcmp, 1) := by decide +kernel
theorem dM_addPrimes_34 : decode cM_addPrimes 34 = .ok (.ifCond .ne 14, 3) := by decide +kernel
theorem dM_addPrimes_37 : decode cM_addPrimes 37 = .ok (.aload_n 0, 1) := by decide +kernel
theorem dM_addPrimes_38 : decode cM_addPrimes 38 = .ok (.lload 5, 2) := by decide +kernel
theorem dM_addPrimes_40 : decode cM_addPrimes 40 = .ok (.invokevirtual 48, 3) := by decide +kernel
theorem dM_addPrimes_43 : decode cM_addPrimes 43 = .ok (.lload_n 3, 1) := by decide +kernel
theorem dM_addPrimes_44 : decode cM_addPrimes 44 = .ok (.lload 5, 2) := by decide +kernel
theorem dM_addPrimes_46 : decode cM_addPrimes 46 = .ok (.ldiv, 1) := by decide +kernel
theorem dM_addPrimes_47 : decode cM_addPrimes 47 = .ok (.lstore_n 3, 1) := by decide +kernel
theorem dM_addPrimes_48 : decode cM_addPrimes 48 = .ok (.lload 5, 2) := by decide +kernel
theorem dM_addPrimes_50 : decode cM_addPrimes 50 = .ok (.lconst 1, 1) := by decide +kernel
theorem dM_addPrimes_51 : decode cM_addPrimes 51 = .ok (.ladd, 1) := by decide +kernel
theorem dM_addPrimes_52 : decode cM_addPrimes 52 = .ok (.lstore 5, 2) := by decide +kernel
theorem dM_addPrimes_54 : decode cM_addPrimes 54 = .ok (.goto (-36), 3) := by decide +kernel
theorem dM_addPrimes_57 : decode cM_addPrimes 57 = .ok (.lload_n 3, 1) := by decide +kernel
theorem dM_addPrimes_58 : decode cM_addPrimes 58 = .ok (.lconst 1, 1) := by decide +kernel
theorem dM_addPrimes_59 : decode cM_addPrimes 59 = .ok (.lcmp, 1) := by decide +kernel
theorem dM_addPrimes_60 : decode cM_addPrimes 60 = .ok (.ifCond .le 8, 3) := by decide +kernel
theorem dM_addPrimes_63 : decode cM_addPrimes 63 = .ok (.aload_n 0, 1) := by decide +kernel
theorem dM_addPrimes_64 : decode cM_addPrimes 64 = .ok (.lload_n 3, 1) := by decide +kernel
theorem dM_addPrimes_65 : decode cM_addPrimes 65 = .ok (.invokevirtual 48, 3) := by decide +kernel
theorem dM_addPrimes_68 : decode cM_addPrimes 68 = .ok (.return_, 1) := by decide +kernel
abbrev cM_addTo : ByteArray := prog_8_method_12_code
abbrev yM_addTo : MethodName := ⟨"RationalFormsModel", "addTo", "(IIII)V"⟩
abbrev wsM_addTo : List Cond := .code yM_addTo cM_addTo 6 none :: GG
theorem dM_addTo_0 : decode cM_addTo 0 = .ok (.iload_n 3, 1) := by decide +kernel
theorem dM_addTo_1 : decode cM_addTo 1 = .ok (.istore 5, 2) := by decide +kernel
theorem dM_addTo_3 : decode cM_addTo 3 = .ok (.iload 5, 2) := by decide +kernel
theorem dM_addTo_5 : decode cM_addTo 5 = .ok (.iload 4, 2) := by decide +kernel
theorem dM_addTo_7 : decode cM_addTo 7 = .ok (.if_icmp .ge 34, 3) := by decide +kernel
theorem dM_addTo_10 : decode cM_addTo 10 = .ok (.aload_n 0, 1) := by decide +kernel
theorem dM_addTo_11 : decode cM_addTo 11 = .ok (.getfield 16, 3) := by decide +kernel
theorem dM_addTo_14 : decode cM_addTo 14 = .ok (.iconst 4, 1) := by decide +kernel
theorem dM_addTo_15 : decode cM_addTo 15 = .ok (.iload_n 1, 1) := by decide +kernel
theorem dM_addTo_16 : decode cM_addTo 16 = .ok (.imul, 1) := by decide +kernel
theorem dM_addTo_17 : decode cM_addTo 17 = .ok (.iload 5, 2) := by decide +kernel
theorem dM_addTo_19 : decode cM_addTo 19 = .ok (.iadd, 1) := by decide +kernel
theorem dM_addTo_20 : decode cM_addTo 20 = .ok (.dup2, 1) := by decide +kernel
theorem dM_addTo_21 : decode cM_addTo 21 = .ok (.laload, 1) := by decide +kernel
theorem dM_addTo_22 : decode cM_addTo 22 = .ok (.aload_n 0, 1) := by decide +kernel
theorem dM_addTo_23 : decode cM_addTo 23 = .ok (.getfield 16, 3) := by decide +kernel
theorem dM_addTo_26 : decode cM_addTo 26 = .ok (.iconst 4, 1) := by decide +kernel
theorem dM_addTo_27 : decode cM_addTo 27 = .ok (.iload_n 2, 1) := by decide +kernel
theorem dM_addTo_28 : decode cM_addTo 28 = .ok (.imul, 1) := by decide +kernel
theorem dM_addTo_29 : decode cM_addTo 29 = .ok (.iload 5, 2) := by decide +kernel
theorem dM_addTo_31 : decode cM_addTo 31 = .ok (.iadd, 1) := by decide +kernel
theorem dM_addTo_32 : decode cM_addTo 32 = .ok (.laload, 1) := by decide +kernel
theorem dM_addTo_33 : decode cM_addTo 33 = .ok (.ladd, 1) := by decide +kernel
theorem dM_addTo_34 : decode cM_addTo 34 = .ok (.lastore, 1) := by decide +kernel
theorem dM_addTo_35 : decode cM_addTo 35 = .ok (.iinc 5 1, 3) := by decide +kernel
theorem dM_addTo_38 : decode cM_addTo 38 = .ok (.goto (-35), 3) := by decide +kernel
theorem dM_addTo_41 : decode cM_addTo 41 = .ok (.iload_n 3, 1) := by decide +kernel
theorem dM_addTo_42 : decode cM_addTo 42 = .ok (.istore 5, 2) := by decide +kernel
theorem dM_addTo_44 : decode cM_addTo 44 = .ok (.iload 5, 2) := by decide +kernel
theorem dM_addTo_46 : decode cM_addTo 46 = .ok (.iload 4, 2) := by decide +kernel
theorem dM_addTo_48 : decode cM_addTo 48 = .ok (.if_icmp .ge 34, 3) := by decide +kernel
theorem dM_addTo_51 : decode cM_addTo 51 = .ok (.aload_n 0, 1) := by decide +kernel
theorem dM_addTo_52 : decode cM_addTo 52 = .ok (.getfield 16, 3) := by decide +kernel
theorem dM_addTo_55 : decode cM_addTo 55 = .ok (.iconst 4, 1) := by decide +kernel
theorem dM_addTo_56 : decode cM_addTo 56 = .ok (.iload 5, 2) := by decide +kernel
theorem dM_addTo_58 : decode cM_addTo 58 = .ok (.imul, 1) := by decide +kernel
theorem dM_addTo_59 : decode cM_addTo 59 = .ok (.iload_n 1, 1) := by decide +kernel
theorem dM_addTo_60 : decode cM_addTo 60 = .ok (.iadd, 1) := by decide +kernel
theorem dM_addTo_61 : decode cM_addTo 61 = .ok (.dup2, 1) := by decide +kernel
theorem dM_addTo_62 : decode cM_addTo 62 = .ok (.laload, 1) := by decide +kernel
theorem dM_addTo_63 : decode cM_addTo 63 = .ok (.aload_n 0, 1) := by decide +kernel
theorem dM_addTo_64 : decode cM_addTo 64 = .ok (.getfield 16, 3) := by decide +kernel
theorem dM_addTo_67 : decode cM_addTo 67 = .ok (.iconst 4, 1) := by decide +kernel
theorem dM_addTo_68 : decode cM_addTo 68 = .ok (.iload 5, 2) := by decide +kernel
theorem dM_addTo_70 : decode cM_addTo 70 = .ok (.imul, 1) := by decide +kernel
theorem dM_addTo_71 : decode cM_addTo 71 = .ok (.iload_n 2, 1) := by decide +kernel
theorem dM_addTo_72 : decode cM_addTo 72 = .ok (.iadd, 1) := by decide +kernel
theorem dM_addTo_73 : decode cM_addTo 73 = .ok (.laload, 1) := by decide +kernel
theorem dM_addTo_74 : decode cM_addTo 74 = .ok (.ladd, 1) := by decide +kernel
theorem dM_addTo_75 : decode cM_addTo 75 = .ok (.lastore, 1) := by decide +kernel
theorem dM_addTo_76 : decode cM_addTo 76 = .ok (.iinc 5 1, 3) := by decide +kernel
theorem dM_addTo_79 : decode cM_addTo 79 = .ok (.goto (-35), 3) := by decide +kernel
theorem dM_addTo_82 : decode cM_addTo 82 = .ok (.return_, 1) := by decide +kernel
abbrev cM_bring : ByteArray := prog_8_method_11_code
abbrev yM_bring : MethodName := ⟨"RationalFormsModel", "bring", "(II)Z"⟩
abbrev wsM_bring : List Cond := .code yM_bring cM_bring 7 (some .boolean) :: GG
theorem dM_bring_0 : decode cM_bring 0 = .ok (.iconst (-1), 1) := by decide +kernel
theorem dM_bring_1 : decode cM_bring 1 = .ok (.istore_n 3, 1) := by decide +kernel
theorem dM_bring_2 : decode cM_bring 2 = .ok (.iload_n 2, 1) := by decide +kernel
theorem dM_bring_3 : decode cM_bring 3 = .ok (.iconst 1, 1) := by decide +kernel
theorem dM_bring_4 : decode cM_bring 4 = .ok (.isub, 1) := by decide +kernel
theorem dM_bring_5 : decode cM_bring 5 = .ok (.istore 4, 2) := by decide +kernel
theorem dM_bring_7 : decode cM_bring 7 = .ok (.iload 4, 2) := by decide +kernel
theorem dM_bring_9 : decode cM_bring 9 = .ok (.iload_n 1, 1) := by decide +kernel
theorem dM_bring_10 : decode cM_bring 10 = .ok (.if_icmp .lt 30, 3) := by decide +kernel
theorem dM_bring_13 : decode cM_bring 13 = .ok (.aload_n 0, 1) := by decide +kernel
theorem dM_bring_14 : decode cM_bring 14 = .ok (.getfield 16, 3) := by decide +kernel
theorem dM_bring_17 : decode cM_bring 17 = .ok (.iconst 5, 1) := by decide +kernel
theorem dM_bring_18 : decode cM_bring 18 = .ok (.iload 4, 2) := by decide +kernel
theorem dM_bring_20 : decode cM_bring 20 = .ok (.imul, 1) := by decide +kernel
theorem dM_bring_21 : decode cM_bring 21 = .ok (.laload, 1) := by decide +kernel
theorem dM_bring_22 : decode cM_bring 22 = .ok (.lconst 0, 1) := by decide +kernel
theorem dM_bring_23 : decode cM_bring 23 = .ok (.lcmp, 1) := by decide +kernel
theorem dM_bring_24 : decode cM_bring 24 = .ok (.ifCond .eq 8, 3) := by decide +kernel
theorem dM_bring_27 : decode cM_bring 27 = .ok (.iload 4, 2) := by decide +kernel
theorem dM_bring_29 : decode cM_bring 29 = .ok (.goto 4, 3) := by decide +kernel
theorem dM_bring_32 : decode cM_bring 32 = .ok (.iload_n 3, 1) := by decide +kernel
theorem dM_bring_33 : decode cM_bring 33 = .ok (.istore_n 3, 1) := by decide +kernel
theorem dM_bring_34 : decode cM_bring 34 = .ok (.iinc 4 (-1), 3) := by decide +kernel
theorem dM_bring_37 : decode cM_bring 37 = .ok (.goto (-30), 3) := by decide +kernel
theorem dM_bring_40 : decode cM_bring 40 = .ok (.iload_n 3, 1) := by decide +kernel
theorem dM_bring_41 : decode cM_bring 41 = .ok (.ifCond .ge 70, 3) := by decide +kernel
theorem dM_bring_44 : decode cM_bring 44 = .ok (.iload_n 1, 1) := by decide +kernel
theorem dM_bring_45 : decode cM_bring 45 = .ok (.istore 4, 2) := by decide +kernel
theorem dM_bring_47 : decode cM_bring 47 = .ok (.iload 4, 2) := by decide +kernel
theorem dM_bring_49 : decode cM_bring 49 = .ok (.iload_n 2, 1) := by decide +kernel
theorem dM_bring_50 : decode cM_bring 50 = .ok (.if_icmp .ge 61, 3) := by decide +kernel
theorem dM_bring_53 : decode cM_bring 53 = .ok (.iload 4, 2) := by decide +kernel
theorem dM_bring_55 : decode cM_bring 55 = .ok (.iconst 1, 1) := by decide +kernel
theorem dM_bring_56 : decode cM_bring 56 = .ok (.iadd, 1) := by decide +kernel
theorem dM_bring_57 : decode cM_bring 57 = .ok (.istore 5, 2) := by decide +kernel
theorem dM_bring_59 : decode cM_bring 59 = .ok (.iload 5, 2) := by decide +kernel
theorem dM_bring_61 : decode cM_bring 61 = .ok (.iload_n 2, 1) := by decide +kernel
theorem dM_bring_62 : decode cM_bring 62 = .ok (.if_icmp .ge 43, 3) := by decide +kernel
theorem dM_bring_65 : decode cM_bring 65 = .ok (.iload_n 3, 1) := by decide +kernel
theorem dM_bring_66 : decode cM_bring 66 = .ok (.ifCond .ge 33, 3) := by decide +kernel
theorem dM_bring_69 : decode cM_bring 69 = .ok (.aload_n 0, 1) := by decide +kernel
theorem dM_bring_70 : decode cM_bring 70 = .ok (.getfield 16, 3) := by decide +kernel
theorem dM_bring_73 : decode cM_bring 73 = .ok (.iconst 4, 1) := by decide +kernel
theorem dM_bring_74 : decode cM_bring 74 = .ok (.iload 4, 2) := by decide +kernel
theorem dM_bring_76 : decode cM_bring 76 = .ok (.imul, 1) := by decide +kernel
theorem dM_bring_77 : decode cM_bring 77 = .ok (.iload 5, 2) := by decide +kernel
theorem dM_bring_79 : decode cM_bring 79 = .ok (.iadd, 1) := by decide +kernel
theorem dM_bring_80 : decode cM_bring 80 = .ok (.laload, 1) := by decide +kernel
theorem dM_bring_81 : decode cM_bring 81 = .ok (.lconst 0, 1) := by decide +kernel
theorem dM_bring_82 : decode cM_bring 82 = .ok (.lcmp, 1) := by decide +kernel
theorem dM_bring_83 : decode cM_bring 83 = .ok (.ifCond .eq 16, 3) := by decide +kernel
theorem dM_bring_86 : decode cM_bring 86 = .ok (.iload 4, 2) := by decide +kernel
theorem dM_bring_88 : decode cM_bring 88 = .ok (.istore_n 3, 1) := by decide +kernel
theorem dM_bring_89 : decode cM_bring 89 = .ok (.aload_n 0, 1) := by decide +kernel
theorem dM_bring_90 : decode cM_bring 90 = .ok (.iload 4, 2) := by decide +kernel
theorem dM_bring_92 : decode cM_bring 92 = .ok (.iload 5, 2) := by decide +kernel
theorem dM_bring_94 : decode cM_bring 94 = .ok (.iload_n 1, 1) := by decide +kernel
theorem dM_bring_95 : decode cM_bring 95 = .ok (.iload_n 2, 1) := by decide +kernel
theorem dM_bring_96 : decode cM_bring 96 = .ok (.invokevirtual 52, 3) := by decide +kernel
theorem dM_bring_99 : decode cM_bring 99 = .ok (.iinc 5 1, 3) := by decide +kernel
theorem dM_bring_102 : decode cM_bring 102 = .ok (.goto (-43), 3) := by decide +kernel
theorem dM_bring_105 : decode cM_bring 105 = .ok (.iinc 4 1, 3) := by decide +kernel
theorem dM_bring_108 : decode cM_bring 108 = .ok (.goto (-61), 3) := by decide +kernel
theorem dM_bring_111 : decode cM_bring 111 = .ok (.iload_n 3, 1) := by decide +kernel
theorem dM_bring_112 : decode cM_bring 112 = .ok (.iload_n 1, 1) := by decide +kernel
theorem dM_bring_113 : decode cM_bring 113 = .ok (.if_icmp .le 129, 3) := by decide +kernel
theorem dM_bring_116 : decode cM_bring 116 = .ok (.iconst 0, 1) := by decide +kernel
theorem dM_bring_117 : decode cM_bring 117 = .ok (.istore 4, 2) := by decide +kernel
theorem dM_bring_119 : decode cM_bring 119 = .ok (.iload 4, 2) := by decide +kernel
theorem dM_bring_121 : decode cM_bring 121 = .ok (.iload_n 2, 1) := by decide +kernel
theorem dM_bring_122 : decode cM_bring 122 = .ok (.if_icmp .ge 57, 3) := by decide +kernel
theorem dM_bring_125 : decode cM_bring 125 = .ok (.aload_n 0, 1) := by decide +kernel
theorem dM_bring_126 : decode cM_bring 126 = .ok (.getfield 16, 3) := by decide +kernel
theorem dM_bring_129 : decode cM_bring 129 = .ok (.iconst 4, 1) := by decide +kernel
theorem dM_bring_130 : decode cM_bring 130 = .ok (.iload_n 1, 1) := by decide +kernel
theorem dM_bring_131 : decode cM_bring 131 = .ok (.imul, 1) := by decide +kernel
theorem dM_bring_132 : decode cM_bring 132 = .ok (.iload 4, 2) := by decide +kernel
theorem dM_bring_134 : decode cM_bring 134 = .ok (.iadd, 1) := by decide +kernel
theorem dM_bring_135 : decode cM_bring 135 = .ok (.laload, 1) := by decide +kernel
theorem dM_bring_136 : decode cM_bring 136 = .ok (.lstore 5, 2) := by decide +kernel
theorem dM_bring_138 : decode cM_bring 138 = .ok (.aload_n 0, 1) := by decide +kernel
theorem dM_bring_139 : decode cM_bring 139 = .ok (.getfield 16, 3) := by decide +kernel
theorem dM_bring_142 : decode cM_bring 142 = .ok (.iconst 4, 1) := by decide +kernel
theorem dM_bring_143 : decode cM_bring 143 = .ok (.iload_n 1, 1) := by decide +kernel
theorem dM_bring_144 : decode cM_bring 144 = .ok (.imul, 1) := by decide +kernel
theorem dM_bring_145 : decode cM_bring 145 = .ok (.iload 4, 2) := by decide +kernel
theorem dM_bring_147 : decode cM_bring 147 = .ok (.iadd, 1) := by decide +kernel
theorem dM_bring_148 : decode cM_bring 148 = .ok (.aload_n 0, 1) := by decide +kernel
theorem dM_bring_149 : decode cM_bring 149 = .ok (.getfield 16, 3) := by decide +kernel
theorem dM_bring_152 : decode cM_bring 152 = .ok (.iconst 4, 1) := by decide +kernel
theorem dM_bring_153 : decode cM_bring 153 = .ok (.iload_n 3, 1) := by decide +kernel
theorem dM_bring_154 : decode cM_bring 154 = .ok (.imul, 1) := by decide +kernel
theorem dM_bring_155 : decode cM_bring 155 = .ok (.iload 4, 2) := by decide +kernel
theorem dM_bring_157 : decode cM_bring 157 = .ok (.iadd, 1) := by decide +kernel
theorem dM_bring_158 : decode cM_bring 158 = .ok (.laload, 1) := by decide +kernel
theorem dM_bring_159 : decode cM_bring 159 = .ok (.lastore, 1) := by decide +kernel
theorem dM_bring_160 : decode cM_bring 160 = .ok (.aload_n 0, 1) := by decide +kernel
theorem dM_bring_161 : decode cM_bring 161 = .ok (.getfield 16, 3) := by decide +kernel
theorem dM_bring_164 : decode cM_bring 164 = .ok (.iconst 4, 1) := by decide +kernel
theorem dM_bring_165 : decode cM_bring 165 = .ok (.iload_n 3, 1) := by decide +kernel
theorem dM_bring_166 : decode cM_bring 166 = .ok (.imul, 1) := by decide +kernel
theorem dM_bring_167 : decode cM_bring 167 = .ok (.iload 4, 2) := by decide +kernel
theorem dM_bring_169 : decode cM_bring 169 = .ok (.iadd, 1) := by decide +kernel
theorem dM_bring_170 : decode cM_bring 170 = .ok (.lload 5, 2) := by decide +kernel
theorem dM_bring_172 : decode cM_bring 172 = .ok (.lastore, 1) := by decide +kernel
theorem dM_bring_173 : decode cM_bring 173 = .ok (.iinc 4 1, 3) := by decide +kernel
theorem dM_bring_176 : decode cM_bring 176 = .ok (.goto (-57), 3) := by decide +kernel
theorem dM_bring_179 : decode cM_bring 179 = .ok (.iconst 0, 1) := by decide +kernel
theorem dM_bring_180 : decode cM_bring 180 = .ok (.istore 4, 2) := by decide +kernel
theorem dM_bring_182 : decode cM_bring 182 = .ok (.iload 4, 2) := by decide +kernel
theorem dM_bring_184 : decode cM_bring 184 = .ok (.iload_n 2, 1) := by decide +kernel
theorem dM_bring_185 : decode cM_bring 185 = .ok (.if_icmp .ge 57, 3) := by decide +kernel
theorem dM_bring_188 : decode cM_bring 188 = .ok (.aload_n 0, 1) := by decide +kernel
theorem dM_bring_189 : decode cM_bring 189 = .ok (.getfield 16, 3) := by decide +kernel
theorem dM_bring_192 : decode cM_bring 192 = .ok (.iconst 4, 1) := by decide +kernel
theorem dM_bring_193 : decode cM_bring 193 = .ok (.iload 4, 2) := by decide +kernel
theorem dM_bring_195 : decode cM_bring 195 = .ok (.imul, 1) := by decide +kernel
theorem dM_bring_196 : decode cM_bring 196 = .ok (.iload_n 1, 1) := by decide +kernel
theorem dM_bring_197 : decode cM_bring 197 = .ok (.iadd, 1) := by decide +kernel
theorem dM_bring_198 : decode cM_bring 198 = .ok (.laload, 1) := by decide +kernel
theorem dM_bring_199 : decode cM_bring 199 = .ok (.lstore 5, 2) := by decide +kernel
theorem dM_bring_201 : decode cM_bring 201 = .ok (.aload_n 0, 1) := by decide +kernel
theorem dM_bring_202 : decode cM_bring 202 = .ok (.getfield 16, 3) := by decide +kernel
theorem dM_bring_205 : decode cM_bring 205 = .ok (.iconst 4, 1) := by decide +kernel
theorem dM_bring_206 : decode cM_bring 206 = .ok (.iload 4, 2) := by decide +kernel
theorem dM_bring_208 : decode cM_bring 208 = .ok (.imul, 1) := by decide +kernel
theorem dM_bring_209 : decode cM_bring 209 = .ok (.iload_n 1, 1) := by decide +kernel
theorem dM_bring_210 : decode cM_bring 210 = .ok (.iadd, 1) := by decide +kernel
theorem dM_bring_211 : decode cM_bring 211 = .ok (.aload_n 0, 1) := by decide +kernel
theorem dM_bring_212 : decode cM_bring 212 = .ok (.getfield 16, 3) := by decide +kernel
theorem dM_bring_215 : decode cM_bring 215 = .ok (.iconst 4, 1) := by decide +kernel
theorem dM_bring_216 : decode cM_bring 216 = .ok (.iload 4, 2) := by decide +kernel
theorem dM_bring_218 : decode cM_bring 218 = .ok (.imul, 1) := by decide +kernel
theorem dM_bring_219 : decode cM_bring 219 = .ok (.iload_n 3, 1) := by decide +kernel
theorem dM_bring_220 : decode cM_bring 220 = .ok (.iadd, 1) := by decide +kernel
theorem dM_bring_221 : decode cM_bring 221 = .ok (.laload, 1) := by decide +kernel
theorem dM_bring_222 : decode cM_bring 222 = .ok (.lastore, 1) := by decide +kernel
theorem dM_bring_223 : decode cM_bring 223 = .ok (.aload_n 0, 1) := by decide +kernel
theorem dM_bring_224 : decode cM_bring 224 = .ok (.getfield 16, 3) := by decide +kernel
theorem dM_bring_227 : decode cM_bring 227 = .ok (.iconst 4, 1) := by decide +kernel
theorem dM_bring_228 : decode cM_bring 228 = .ok (.iload 4, 2) := by decide +kernel
theorem dM_bring_230 : decode cM_bring 230 = .ok (.imul, 1) := by decide +kernel
theorem dM_bring_231 : decode cM_bring 231 = .ok (.iload_n 3, 1) := by decide +kernel
theorem dM_bring_232 : decode cM_bring 232 = .ok (.iadd, 1) := by decide +kernel
theorem dM_bring_233 : decode cM_bring 233 = .ok (.lload 5, 2) := by decide +kernel
theorem dM_bring_235 : decode cM_bring 235 = .ok (.lastore, 1) := by decide +kernel
theorem dM_bring_236 : decode cM_bring 236 = .ok (.iinc 4 1, 3) := by decide +kernel
theorem dM_bring_239 : decode cM_bring 239 = .ok (.goto (-57), 3) := by decide +kernel
theorem dM_bring_242 : decode cM_bring 242 = .ok (.iload_n 3, 1) := by decide +kernel
theorem dM_bring_243 : decode cM_bring 243 = .ok (.ifCond .lt 7, 3) := by decide +kernel
theorem dM_bring_246 : decode cM_bring 246 = .ok (.iconst 1, 1) := by decide +kernel
theorem dM_bring_247 : decode cM_bring 247 = .ok (.goto 4, 3) := by decide +kernel
theorem dM_bring_250 : decode cM_bring 250 = .ok (.iconst 0, 1) := by decide +kernel
theorem dM_bring_251 : decode cM_bring 251 = .ok (.ireturn, 1) := by decide +kernel
abbrev cM_look : ByteArray := prog_8_method_13_code
abbrev yM_look : MethodName := ⟨"RationalFormsModel", "look", "(I)V"⟩
abbrev wsM_look : List Cond := .code yM_look cM_look 14 none :: GG
theorem dM_look_0 : decode cM_look 0 = .ok (.aload_n 0, 1) := by decide +kernel
theorem dM_look_1 : decode cM_look 1 = .ok (.getfield 7, 3) := by decide +kernel
theorem dM_look_4 : decode cM_look 4 = .ok (.iload_n 1, 1) := by decide +kernel
theorem dM_look_5 : decode cM_look 5 = .ok (.iaload, 1) := by decide +kernel
theorem dM_look_6 : decode cM_look 6 = .ok (.istore_n 2, 1) := by decide +kernel
theorem dM_look_7 : decode cM_look 7 = .ok (.iconst 0, 1) := by decide +kernel
theorem dM_look_8 : decode cM_look 8 = .ok (.istore_n 3, 1) := by decide +kernel
theorem dM_look_9 : decode cM_look 9 = .ok (.iload_n 3, 1) := by decide +kernel
theorem dM_look_10 : decode cM_look 10 = .ok (.bipush 16, 2) := by decide +kernel
theorem dM_look_12 : decode cM_look 12 = .ok (.if_icmp .ge 27, 3) := by decide +kernel
theorem dM_look_15 : decode cM_look 15 = .ok (.aload_n 0, 1) := by decide +kernel
theorem dM_look_16 : decode cM_look 16 = .ok (.getfield 16, 3) := by decide +kernel
theorem dM_look_19 : decode cM_look 19 = .ok (.iload_n 3, 1) := by decide +kernel
theorem dM_look_20 : decode cM_look 20 = .ok (.aload_n 0, 1) := by decide +kernel
theorem dM_look_21 : decode cM_look 21 = .ok (.getfield 13, 3) := by decide +kernel
theorem dM_look_24 : decode cM_look 24 = .ok (.bipush 16, 2) := by decide +kernel
theorem dM_look_26 : decode cM_look 26 = .ok (.iload_n 1, 1) := by decide +kernel
theorem dM_look_27 : decode cM_look 27 = .ok (.imul, 1) := by decide +kernel
theorem dM_look_28 : decode cM_look 28 = .ok (.iload_n 3, 1) := by decide +kernel
theorem dM_look_29 : decode cM_look 29 = .ok (.iadd, 1) := by decide +kernel
theorem dM_look_30 : decode cM_look 30 = .ok (.iaload, 1) := by decide +kernel
theorem dM_look_31 : decode cM_look 31 = .ok (.i2l, 1) := by decide +kernel
theorem dM_look_32 : decode cM_look 32 = .ok (.lastore, 1) := by decide +kernel
theorem dM_look_33 : decode cM_look 33 = .ok (.iinc 3 1, 3) := by decide +kernel
theorem dM_look_36 : decode cM_look 36 = .ok (.goto (-27), 3) := by decide +kernel
theorem dM_look_39 : decode cM_look 39 = .ok (.aload_n 0, 1) := by decide +kernel
theorem dM_look_40 : decode cM_look 40 = .ok (.iconst 0, 1) := by decide +kernel
theorem dM_look_41 : decode cM_look 41 = .ok (.putfield 56, 3) := by decide +kernel
theorem dM_look_44 : decode cM_look 44 = .ok (.aload_n 0, 1) := by decide +kernel
theorem dM_look_45 : decode cM_look 45 = .ok (.iconst 0, 1) := by decide +kernel
theorem dM_look_46 : decode cM_look 46 = .ok (.putfield 59, 3) := by decide +kernel
theorem dM_look_49 : decode cM_look 49 = .ok (.aload_n 0, 1) := by decide +kernel
theorem dM_look_50 : decode cM_look 50 = .ok (.iconst 0, 1) := by decide +kernel
theorem dM_look_51 : decode cM_look 51 = .ok (.putfield 62, 3) := by decide +kernel
theorem dM_look_54 : decode cM_look 54 = .ok (.aload_n 0, 1) := by decide +kernel
theorem dM_look_55 : decode cM_look 55 = .ok (.iconst 0, 1) := by decide +kernel
theorem dM_look_56 : decode cM_look 56 = .ok (.putfield 45, 3) := by decide +kernel
theorem dM_look_59 : decode cM_look 59 = .ok (.aload_n 0, 1) := by decide +kernel
theorem dM_look_60 : decode cM_look 60 = .ok (.ldc2_w 39, 3) := by decide +kernel
theorem dM_look_63 : decode cM_look 63 = .ok (.invokevirtual 48, 3) := by decide +kernel
theorem dM_look_66 : decode cM_look 66 = .ok (.lconst 1, 1) := by decide +kernel
theorem dM_look_67 : decode cM_look 67 = .ok (.lstore_n 3, 1) := by decide +kernel
theorem dM_look_68 : decode cM_look 68 = .ok (.lconst 1, 1) := by decide +kernel
theorem dM_look_69 : decode cM_look 69 = .ok (.lstore 5, 2) := by decide +kernel
theorem dM_look_71 : decode cM_look 71 = .ok (.aload_n 0, 1) := by decide +kernel
theorem dM_look_72 : decode cM_look 72 = .ok (.getfield 56, 3) := by decide +kernel
theorem dM_look_75 : decode cM_look 75 = .ok (.iload_n 2, 1) := by decide +kernel
theorem dM_look_76 : decode cM_look 76 = .ok (.if_icmp .ge 228, 3) := by decide +kernel
theorem dM_look_79 : decode cM_look 79 = .ok (.aload_n 0, 1) := by decide +kernel
theorem dM_look_80 : decode cM_look 80 = .ok (.aload_n 0, 1) := by decide +kernel
theorem dM_look_81 : decode cM_look 81 = .ok (.getfield 56, 3) := by decide +kernel
theorem dM_look_84 : decode cM_look 84 = .ok (.iload_n 2, 1) := by decide +kernel
theorem dM_look_85 : decode cM_look 85 = .ok (.invokevirtual 65, 3) := by decide +kernel
theorem dM_look_88 : decode cM_look 88 = .ok (.ifCond .eq 216, 3) := by decide +kernel
theorem dM_look_91 : decode cM_look 91 = .ok (.aload_n 0, 1) := by decide +kernel
theorem dM_look_92 : decode cM_look 92 = .ok (.getfield 56, 3) := by decide +kernel
theorem dM_look_95 : decode cM_look 95 = .ok (.istore 7, 2) := by decide +kernel
theorem dM_look_97 : decode cM_look 97 = .ok (.aload_n 0, 1) := by decide +kernel
theorem dM_look_98 : decode cM_look 98 = .ok (.getfield 16, 3) := by decide +kernel
theorem dM_look_101 : decode cM_look 101 = .ok (.iconst 5, 1) := by decide +kernel
theorem dM_look_102 : decode cM_look 102 = .ok (.iload 7, 2) := by decide +kernel
theorem dM_look_104 : decode cM_look 104 = .ok (.imul, 1) := by decide +kernel
theorem dM_look_105 : decode cM_look 105 = .ok (.laload, 1) := by decide +kernel
theorem dM_look_106 : decode cM_look 106 = .ok (.lstore 8, 2) := by decide +kernel
theorem dM_look_108 : decode cM_look 108 = .ok (.lload 8, 2) := by decide +kernel
theorem dM_look_110 : decode cM_look 110 = .ok (.invokestatic 69, 3) := by decide +kernel
theorem dM_look_113 : decode cM_look 113 = .ok (.lstore 10, 2) := by decide +kernel
theorem dM_look_115 : decode cM_look 115 = .ok (.aload_n 0, 1) := by decide +kernel
theorem dM_look_116 : decode cM_look 116 = .ok (.lload 10, 2) := by decide +kernel
theorem dM_look_118 : decode cM_look 118 = .ok (.invokevirtual 73, 3) := by decide +kernel
theorem dM_look_121 : decode cM_look 121 = .ok (.aload_n 0, 1) := by decide +kernel
theorem dM_look_122 : decode cM_look 122 = .ok (.getfield 20, 3) := by decide +kernel
theorem dM_look_125 : decode cM_look 125 = .ok (.iload 7, 2) := by decide +kernel
theorem dM_look_127 : decode cM_look 127 = .ok (.lload 10, 2) := by decide +kernel
theorem dM_look_129 : decode cM_look 129 = .ok (.lload 5, 2) := by decide +kernel
theorem dM_look_131 : decode cM_look 131 = .ok (.invokestatic 76, 3) := by decide +kernel
theorem dM_look_134 : decode cM_look 134 = .ok (.lastore, 1) := by decide +kernel
theorem dM_look_135 : decode cM_look 135 = .ok (.aload_n 0, 1) := by decide +kernel
theorem dM_look_136 : decode cM_look 136 = .ok (.aload_n 0, 1) := by decide +kernel
theorem dM_look_137 : decode cM_look 137 = .ok (.getfield 20, 3) := by decide +kernel
theorem dM_look_140 : decode cM_look 140 = .ok (.iload 7, 2) := by decide +kernel
theorem dM_look_142 : decode cM_look 142 = .ok (.laload, 1) := by decide +kernel
theorem dM_look_143 : decode cM_look 143 = .ok (.lconst 0, 1) := by decide +kernel
theorem dM_look_144 : decode cM_look 144 = .ok (.lcmp, 1) := by decide +kernel
theorem dM_look_145 : decode cM_look 145 = .ok (.ifCond .le 12, 3) := by decide +kernel
theorem dM_look_148 : decode cM_look 148 = .ok (.aload_n 0, 1) := by decide +kernel
theorem dM_look_149 : decode cM_look 149 = .ok (.getfield 59, 3) := by decide +kernel
theorem dM_look_152 : decode cM_look 152 = .ok (.iconst 1, 1) := by decide +kernel
theorem dM_look_153 : decode cM_look 153 = .ok (.iadd, 1) := by decide +kernel
theorem dM_look_154 : decode cM_look 154 = .ok (.goto 7, 3) := by decide +kernel
theorem dM_look_157 : decode cM_look 157 = .ok (.aload_n 0, 1) := by decide +kernel
theorem dM_look_158 : decode cM_look 158 = .ok (.getfield 59, 3) := by decide +kernel
theorem dM_look_161 : decode cM_look 161 = .ok (.putfield 59, 3) := by decide +kernel
theorem dM_look_164 : decode cM_look 164 = .ok (.aload_n 0, 1) := by decide +kernel
theorem dM_look_165 : decode cM_look 165 = .ok (.aload_n 0, 1) := by decide +kernel
theorem dM_look_166 : decode cM_look 166 = .ok (.getfield 20, 3) := by decide +kernel
theorem dM_look_169 : decode cM_look 169 = .ok (.iload 7, 2) := by decide +kernel
theorem dM_look_171 : decode cM_look 171 = .ok (.laload, 1) := by decide +kernel
theorem dM_look_172 : decode cM_look 172 = .ok (.lconst 0, 1) := by decide +kernel
theorem dM_look_173 : decode cM_look 173 = .ok (.lcmp, 1) := by decide +kernel
theorem dM_look_174 : decode cM_look 174 = .ok (.ifCond .ge 12, 3) := by decide +kernel
theorem dM_look_177 : decode cM_look 177 = .ok (.aload_n 0, 1) := by decide +kernel
theorem dM_look_178 : decode cM_look 178 = .ok (.getfield 62, 3) := by decide +kernel
theorem dM_look_181 : decode cM_look 181 = .ok (.iconst 1, 1) := by decide +kernel
theorem dM_look_182 : decode cM_look 182 = .ok (.iadd, 1) := by decide +kernel
theorem dM_look_183 : decode cM_look 183 = .ok (.goto 7, 3) := by decide +kernel
theorem dM_look_186 : decode cM_look 186 = .ok (.aload_n 0, 1) := by decide +kernel
theorem dM_look_187 : decode cM_look 187 = .ok (.getfield 62, 3) := by decide +kernel
theorem dM_look_190 : decode cM_look 190 = .ok (.putfield 62, 3) := by decide +kernel
theorem dM_look_193 : decode cM_look 193 = .ok (.iload 7, 2) := by decide +kernel
theorem dM_look_195 : decode cM_look 195 = .ok (.iconst 1, 1) := by decide +kernel
theorem dM_look_196 : decode cM_look 196 = .ok (.iadd, 1) := by decide +kernel
theorem dM_look_197 : decode cM_look 197 = .ok (.istore 12, 2) := by decide +kernel
theorem dM_look_199 : decode cM_look 199 = .ok (.iload 12, 2) := by decide +kernel
theorem dM_look_201 : decode cM_look 201 = .ok (.iload_n 2, 1) := by decide +kernel
theorem dM_look_202 : decode cM_look 202 = .ok (.if_icmp .ge 82, 3) := by decide +kernel
theorem dM_look_205 : decode cM_look 205 = .ok (.iload 7, 2) := by decide +kernel
theorem dM_look_207 : decode cM_look 207 = .ok (.iconst 1, 1) := by decide +kernel
theorem dM_look_208 : decode cM_look 208 = .ok (.iadd, 1) := by decide +kernel
theorem dM_look_209 : decode cM_look 209 = .ok (.istore 13, 2) := by decide +kernel
theorem dM_look_211 : decode cM_look 211 = .ok (.iload 13, 2) := by decide +kernel
theorem dM_look_213 : decode cM_look 213 = .ok (.iload_n 2, 1) := by decide +kernel
theorem dM_look_214 : decode cM_look 214 = .ok (.if_icmp .ge 64, 3) := by decide +kernel
theorem dM_look_217 : decode cM_look 217 = .ok (.aload_n 0, 1) := by decide +kernel
theorem dM_look_218 : decode cM_look 218 = .ok (.getfield 16, 3) := by decide +kernel
theorem dM_look_221 : decode cM_look 221 = .ok (.iconst 4, 1) := by decide +kernel
theorem dM_look_222 : decode cM_look 222 = .ok (.iload 12, 2) := by decide +kernel
theorem dM_look_224 : decode cM_look 224 = .ok (.imul, 1) := by decide +kernel
theorem dM_look_225 : decode cM_look 225 = .ok (.iload 13, 2) := by decide +kernel
theorem dM_look_227 : decode cM_look 227 = .ok (.iadd, 1) := by decide +kernel
theorem dM_look_228 : decode cM_look 228 = .ok (.lload 8, 2) := by decide +kernel
theorem dM_look_230 : decode cM_look 230 = .ok (.aload_n 0, 1) := by decide +kernel
theorem dM_look_231 : decode cM_look 231 = .ok (.getfield 16, 3) := by decide +kernel
theorem dM_look_234 : decode cM_look 234 = .ok (.iconst 4, 1) := by decide +kernel
theorem dM_look_235 : decode cM_look 235 = .ok (.iload 12, 2) := by decide +kernel
theorem dM_look_237 : decode cM_look 237 = .ok (.imul, 1) := by decide +kernel
theorem dM_look_238 : decode cM_look 238 = .ok (.iload 13, 2) := by decide +kernel
theorem dM_look_240 : decode cM_look 240 = .ok (.iadd, 1) := by decide +kernel
theorem dM_look_241 : decode cM_look 241 = .ok (.laload, 1) := by decide +kernel
theorem dM_look_242 : decode cM_look 242 = .ok (.lmul, 1) := by decide +kernel
theorem dM_look_243 : decode cM_look 243 = .ok (.aload_n 0, 1) := by decide +kernel
theorem dM_look_244 : decode cM_look 244 = .ok (.getfield 16, 3) := by decide +kernel
theorem dM_look_247 : decode cM_look 247 = .ok (.iconst 4, 1) := by decide +kernel
theorem dM_look_248 : decode cM_look 248 = .ok (.iload 12, 2) := by decide +kernel
theorem dM_look_250 : decode cM_look 250 = .ok (.imul, 1) := by decide +kernel
theorem dM_look_251 : decode cM_look 251 = .ok (.iload 7, 2) := by decide +kernel
theorem dM_look_253 : decode cM_look 253 = .ok (.iadd, 1) := by decide +kernel
theorem dM_look_254 : decode cM_look 254 = .ok (.laload, 1) := by decide +kernel
theorem dM_look_255 : decode cM_look 255 = .ok (.aload_n 0, 1) := by decide +kernel
theorem dM_look_256 : decode cM_look 256 = .ok (.getfield 16, 3) := by decide +kernel
theorem dM_look_259 : decode cM_look 259 = .ok (.iconst 4, 1) := by decide +kernel
theorem dM_look_260 : decode cM_look 260 = .ok (.iload 7, 2) := by decide +kernel
theorem dM_look_262 : decode cM_look 262 = .ok (.imul, 1) := by decide +kernel
theorem dM_look_263 : decode cM_look 263 = .ok (.iload 13, 2) := by decide +kernel
theorem dM_look_265 : decode cM_look 265 = .ok (.iadd, 1) := by decide +kernel
theorem dM_look_266 : decode cM_look 266 = .ok (.laload, 1) := by decide +kernel
theorem dM_look_267 : decode cM_look 267 = .ok (.lmul, 1) := by decide +kernel
theorem dM_look_268 : decode cM_look 268 = .ok (.lsub, 1) := by decide +kernel
theorem dM_look_269 : decode cM_look 269 = .ok (.lload_n 3, 1) := by decide +kernel
theorem dM_look_270 : decode cM_look 270 = .ok (.ldiv, 1) := by decide +kernel
theorem dM_look_271 : decode cM_look 271 = .ok (.lastore, 1) := by decide +kernel
theorem dM_look_272 : decode cM_look 272 = .ok (.iinc 13 1, 3) := by decide +kernel
theorem dM_look_275 : decode cM_look 275 = .ok (.goto (-64), 3) := by decide +kernel
theorem dM_look_278 : decode cM_look 278 = .ok (.iinc 12 1, 3) := by decide +kernel
theorem dM_look_281 : decode cM_look 281 = .ok (.goto (-82), 3) := by decide +kernel
theorem dM_look_284 : decode cM_look 284 = .ok (.lload 8, 2) := by decide +kernel
theorem dM_look_286 : decode cM_look 286 = .ok (.lstore_n 3, 1) := by decide +kernel
theorem dM_look_287 : decode cM_look 287 = .ok (.lload 10, 2) := by decide +kernel
theorem dM_look_289 : decode cM_look 289 = .ok (.lstore 5, 2) := by decide +kernel
theorem dM_look_291 : decode cM_look 291 = .ok (.aload_n 0, 1) := by decide +kernel
theorem dM_look_292 : decode cM_look 292 = .ok (.dup, 1) := by decide +kernel
theorem dM_look_293 : decode cM_look 293 = .ok (.getfield 56, 3) := by decide +kernel
theorem dM_look_296 : decode cM_look 296 = .ok (.iconst 1, 1) := by decide +kernel
theorem dM_look_297 : decode cM_look 297 = .ok (.iadd, 1) := by decide +kernel
theorem dM_look_298 : decode cM_look 298 = .ok (.putfield 56, 3) := by decide +kernel
theorem dM_look_301 : decode cM_look 301 = .ok (.goto (-230), 3) := by decide +kernel
theorem dM_look_304 : decode cM_look 304 = .ok (.aload_n 0, 1) := by decide +kernel
theorem dM_look_305 : decode cM_look 305 = .ok (.lload 5, 2) := by decide +kernel
theorem dM_look_307 : decode cM_look 307 = .ok (.putfield 79, 3) := by decide +kernel
theorem dM_look_310 : decode cM_look 310 = .ok (.return_, 1) := by decide +kernel
abbrev cM_hasseOf : ByteArray := prog_8_method_19_code
abbrev yM_hasseOf : MethodName := ⟨"RationalFormsModel", "hasseOf", "(IJ)I"⟩
abbrev wsM_hasseOf : List Cond := .code yM_hasseOf cM_hasseOf 7 (some .int) :: GG
theorem dM_hasseOf_0 : decode cM_hasseOf 0 = .ok (.iconst 1, 1) := by decide +kernel
theorem dM_hasseOf_1 : decode cM_hasseOf 1 = .ok (.istore 4, 2) := by decide +kernel
theorem dM_hasseOf_3 : decode cM_hasseOf 3 = .ok (.iconst 0, 1) := by decide +kernel
theorem dM_hasseOf_4 : decode cM_hasseOf 4 = .ok (.istore 5, 2) := by decide +kernel
theorem dM_hasseOf_6 : decode cM_hasseOf 6 = .ok (.iload 5, 2) := by decide +kernel
theorem dM_hasseOf_8 : decode cM_hasseOf 8 = .ok (.iload_n 1, 1) := by decide +kernel
theorem dM_hasseOf_9 : decode cM_hasseOf 9 = .ok (.if_icmp .ge 50, 3) := by decide +kernel
theorem dM_hasseOf_12 : decode cM_hasseOf 12 = .ok (.iload 5, 2) := by decide +kernel
theorem dM_hasseOf_14 : decode cM_hasseOf 14 = .ok (.iconst 1, 1) := by decide +kernel
theorem dM_hasseOf_15 : decode cM_hasseOf 15 = .ok (.iadd, 1) := by decide +kernel
theorem dM_hasseOf_16 : decode cM_hasseOf 16 = .ok (.istore 6, 2) := by decide +kernel
theorem dM_hasseOf_18 : decode cM_hasseOf 18 = .ok (.iload 6, 2) := by decide +kernel
theorem dM_hasseOf_20 : decode cM_hasseOf 20 = .ok (.iload_n 1, 1) := by decide +kernel
theorem dM_hasseOf_21 : decode cM_hasseOf 21 = .ok (.if_icmp .ge 32, 3) := by decide +kernel
theorem dM_hasseOf_24 : decode cM_hasseOf 24 = .ok (.iload 4, 2) := by decide +kernel
theorem dM_hasseOf_26 : decode cM_hasseOf 26 = .ok (.aload_n 0, 1) := by decide +kernel
theorem dM_hasseOf_27 : decode cM_hasseOf 27 = .ok (.getfield 20, 3) := by decide +kernel
theorem dM_hasseOf_30 : decode cM_hasseOf 30 = .ok (.iload 5, 2) := by decide +kernel
theorem dM_hasseOf_32 : decode cM_hasseOf 32 = .ok (.laload, 1) := by decide +kernel
theorem dM_hasseOf_33 : decode cM_hasseOf 33 = .ok (.aload_n 0, 1) := by decide +kernel
theorem dM_hasseOf_34 : decode cM_hasseOf 34 = .ok (.getfield 20, 3) := by decide +kernel
theorem dM_hasseOf_37 : decode cM_hasseOf 37 = .ok (.iload 6, 2) := by decide +kernel
theorem dM_hasseOf_39 : decode cM_hasseOf 39 = .ok (.laload, 1) := by decide +kernel
theorem dM_hasseOf_40 : decode cM_hasseOf 40 = .ok (.lload_n 2, 1) := by decide +kernel
theorem dM_hasseOf_41 : decode cM_hasseOf 41 = .ok (.invokestatic 96, 3) := by decide +kernel
theorem dM_hasseOf_44 : decode cM_hasseOf 44 = .ok (.imul, 1) := by decide +kernel
theorem dM_hasseOf_45 : decode cM_hasseOf 45 = .ok (.istore 4, 2) := by decide +kernel
theorem dM_hasseOf_47 : decode cM_hasseOf 47 = .ok (.iinc 6 1, 3) := by decide +kernel
theorem dM_hasseOf_50 : decode cM_hasseOf 50 = .ok (.goto (-32), 3) := by decide +kernel
theorem dM_hasseOf_53 : decode cM_hasseOf 53 = .ok (.iinc 5 1, 3) := by decide +kernel
theorem dM_hasseOf_56 : decode cM_hasseOf 56 = .ok (.goto (-50), 3) := by decide +kernel
theorem dM_hasseOf_59 : decode cM_hasseOf 59 = .ok (.iload 4, 2) := by decide +kernel
theorem dM_hasseOf_61 : decode cM_hasseOf 61 = .ok (.ireturn, 1) := by decide +kernel
abbrev cM_isZeroAt : ByteArray := prog_8_method_20_code
abbrev yM_isZeroAt : MethodName := ⟨"RationalFormsModel", "isZeroAt", "(IJZJ)Z"⟩
abbrev wsM_isZeroAt : List Cond := .code yM_isZeroAt cM_isZeroAt 8 (some .boolean) :: GG
theorem dM_isZeroAt_0 : decode cM_isZeroAt 0 = .ok (.iload_n 1, 1) := by decide +kernel
theorem dM_isZeroAt_1 : decode cM_isZeroAt 1 = .ok (.iconst 2, 1) := by decide +kernel
theorem dM_isZeroAt_2 : decode cM_isZeroAt 2 = .ok (.if_icmp .ge 5, 3) := by decide +kernel
theorem dM_isZeroAt_5 : decode cM_isZeroAt 5 = .ok (.iconst 0, 1) := by decide +kernel
theorem dM_isZeroAt_6 : decode cM_isZeroAt 6 = .ok (.ireturn, 1) := by decide +kernel
theorem dM_isZeroAt_7 : decode cM_isZeroAt 7 = .ok (.aload_n 0, 1) := by decide +kernel
theorem dM_isZeroAt_8 : decode cM_isZeroAt 8 = .ok (.iload_n 1, 1) := by decide +kernel
theorem dM_isZeroAt_9 : decode cM_isZeroAt 9 = .ok (.lload 5, 2) := by decide +kernel
theorem dM_isZeroAt_11 : decode cM_isZeroAt 11 = .ok (.invokevirtual 100, 3) := by decide +kernel
theorem dM_isZeroAt_14 : decode cM_isZeroAt 14 = .ok (.istore 7, 2) := by decide +kernel
theorem dM_isZeroAt_16 : decode cM_isZeroAt 16 = .ok (.iload_n 1, 1) := by decide +kernel
theorem dM_isZeroAt_17 : decode cM_isZeroAt 17 = .ok (.iconst 2, 1) := by decide +kernel
theorem dM_isZeroAt_18 : decode cM_isZeroAt 18 = .ok (.if_icmp .ne 11, 3) := by decide +kernel
theorem dM_isZeroAt_21 : decode cM_isZeroAt 21 = .ok (.lload_n 2, 1) := by decide +kernel
theorem dM_isZeroAt_22 : decode cM_isZeroAt 22 = .ok (.lneg, 1) := by decide +kernel
theorem dM_isZeroAt_23 : decode cM_isZeroAt 23 = .ok (.lload 5, 2) := by decide +kernel
theorem dM_isZeroAt_25 : decode cM_isZeroAt 25 = .ok (.invokestatic 104, 3) := by decide +kernel
theorem dM_isZeroAt_28 : decode cM_isZeroAt 28 = .ok (.ireturn, 1) := by decide +kernel
theorem dM_isZeroAt_29 : decode cM_isZeroAt 29 = .ok (.iload_n 1, 1) := by decide +kernel
theorem dM_isZeroAt_30 : decode cM_isZeroAt 30 = .ok (.iconst 3, 1) := by decide +kernel
theorem dM_isZeroAt_31 : decode cM_isZeroAt 31 = .ok (.if_icmp .ne 24, 3) := by decide +kernel
theorem dM_isZeroAt_34 : decode cM_isZeroAt 34 = .ok (.iload 7, 2) := by decide +kernel
theorem dM_isZeroAt_36 : decode cM_isZeroAt 36 = .ok (.ldc2_w 37, 3) := by decide +kernel
theorem dM_isZeroAt_39 : decode cM_isZeroAt 39 = .ok (.lload_n 2, 1) := by decide +kernel
theorem dM_isZeroAt_40 : decode cM_isZeroAt 40 = .ok (.lneg, 1) := by decide +kernel
theorem dM_isZeroAt_41 : decode cM_isZeroAt 41 = .ok (.lload 5, 2) := by decide +kernel
theorem dM_isZeroAt_43 : decode cM_isZeroAt 43 = .ok (.invokestatic 96, 3) := by decide +kernel
theorem dM_isZeroAt_46 : decode cM_isZeroAt 46 = .ok (.if_icmp .ne 7, 3) := by decide +kernel
theorem dM_isZeroAt_49 : decode cM_isZeroAt 49 = .ok (.iconst 1, 1) := by decide +kernel
theorem dM_isZeroAt_50 : decode cM_isZeroAt 50 = .ok (.goto 4, 3) := by decide +kernel
theorem dM_isZeroAt_53 : decode cM_isZeroAt 53 = .ok (.iconst 0, 1) := by decide +kernel
theorem dM_isZeroAt_54 : decode cM_isZeroAt 54 = .ok (.ireturn, 1) := by decide +kernel
theorem dM_isZeroAt_55 : decode cM_isZeroAt 55 = .ok (.iload_n 1, 1) := by decide +kernel
theorem dM_isZeroAt_56 : decode cM_isZeroAt 56 = .ok (.iconst 4, 1) := by decide +kernel
theorem dM_isZeroAt_57 : decode cM_isZeroAt 57 = .ok (.if_icmp .ne 34, 3) := by decide +kernel
theorem dM_isZeroAt_60 : decode cM_isZeroAt 60 = .ok (.lload_n 2, 1) := by decide +kernel
theorem dM_isZeroAt_61 : decode cM_isZeroAt 61 = .ok (.lload 5, 2) := by decide +kernel
theorem dM_isZeroAt_63 : decode cM_isZeroAt 63 = .ok (.invokestatic 104, 3) := by decide +kernel
theorem dM_isZeroAt_66 : decode cM_isZeroAt 66 = .ok (.ifCond .eq 19, 3) := by decide +kernel
theorem dM_isZeroAt_69 : decode cM_isZeroAt 69 = .ok (.iload 7, 2) := by decide +kernel
theorem dM_isZeroAt_71 : decode cM_isZeroAt 71 = .ok (.ldc2_w 37, 3) := by decide +kernel
theorem dM_isZeroAt_74 : decode cM_isZeroAt 74 = .ok (.ldc2_w 37, 3) := by decide +kernel
theorem dM_isZeroAt_77 : decode cM_isZeroAt 77 = .ok (.lload 5, 2) := by decide +kernel
theorem dM_isZeroAt_79 : decode cM_isZeroAt 79 = .ok (.invokestatic 96, 3) := by decide +kernel
theorem dM_isZeroAt_82 : decode cM_isZeroAt 82 = .ok (.if_icmp .ne 7, 3) := by decide +kernel
theorem dM_isZeroAt_85 : decode cM_isZeroAt 85 = .ok (.iconst 1, 1) := by decide +kernel
theorem dM_isZeroAt_86 : decode cM_isZeroAt 86 = .ok (.goto 4, 3) := by decide +kernel
theorem dM_isZeroAt_89 : decode cM_isZeroAt 89 = .ok (.iconst 0, 1) := by decide +kernel
theorem dM_isZeroAt_90 : decode cM_isZeroAt 90 = .ok (.ireturn, 1) := by decide +kernel
theorem dM_isZeroAt_91 : decode cM_isZeroAt 91 = .ok (.lload 5, 2) := by decide +kernel
theorem dM_isZeroAt_93 : decode cM_isZeroAt 93 = .ok (.lconst 0, 1) := by decide +kernel
theorem dM_isZeroAt_94 : decode cM_isZeroAt 94 = .ok (.lcmp, 1) := by decide +kernel
theorem dM_isZeroAt_95 : decode cM_isZeroAt 95 = .ok (.ifCond .ne 8, 3) := by decide +kernel
theorem dM_isZeroAt_98 : decode cM_isZeroAt 98 = .ok (.iload 4, 2) := by decide +kernel
theorem dM_isZeroAt_100 : decode cM_isZeroAt 100 = .ok (.ifCond .eq 7, 3) := by decide +kernel
theorem dM_isZeroAt_103 : decode cM_isZeroAt 103 = .ok (.iconst 1, 1) := by decide +kernel
theorem dM_isZeroAt_104 : decode cM_isZeroAt 104 = .ok (.goto 4, 3) := by decide +kernel
theorem dM_isZeroAt_107 : decode cM_isZeroAt 107 = .ok (.iconst 0, 1) := by decide +kernel
theorem dM_isZeroAt_108 : decode cM_isZeroAt 108 = .ok (.ireturn, 1) := by decide +kernel
abbrev cM_obstacleOf : ByteArray := prog_8_method_21_code
abbrev yM_obstacleOf : MethodName := ⟨"RationalFormsModel", "obstacleOf", "(IJZ)I"⟩
abbrev wsM_obstacleOf : List Cond := .code yM_obstacleOf cM_obstacleOf 7 (some .int) :: GG
theorem dM_obstacleOf_0 : decode cM_obstacleOf 0 = .ok (.aload_n 0, 1) := by decide +kernel
theorem dM_obstacleOf_1 : decode cM_obstacleOf 1 = .ok (.iload_n 1, 1) := by decide +kernel
theorem dM_obstacleOf_2 : decode cM_obstacleOf 2 = .ok (.lload_n 2, 1) := by decide +kernel
theorem dM_obstacleOf_3 : decode cM_obstacleOf 3 = .ok (.iload 4, 2) := by decide +kernel
theorem dM_obstacleOf_5 : decode cM_obstacleOf 5 = .ok (.lconst 0, 1) := by decide +kernel
theorem dM_obstacleOf_6 : decode cM_obstacleOf 6 = .ok (.invokevirtual 107, 3) := by decide +kernel
theorem dM_obstacleOf_9 : decode cM_obstacleOf 9 = .ok (.ifCond .ne 5, 3) := by decide +kernel
theorem dM_obstacleOf_12 : decode cM_obstacleOf 12 = .ok (.iconst 0, 1) := by decide +kernel
theorem dM_obstacleOf_13 : decode cM_obstacleOf 13 = .ok (.ireturn, 1) := by decide +kernel
theorem dM_obstacleOf_14 : decode cM_obstacleOf 14 = .ok (.iload_n 1, 1) := by decide +kernel
theorem dM_obstacleOf_15 : decode cM_obstacleOf 15 = .ok (.iconst 2, 1) := by decide +kernel
theorem dM_obstacleOf_16 : decode cM_obstacleOf 16 = .ok (.if_icmp .ne 13, 3) := by decide +kernel
theorem dM_obstacleOf_19 : decode cM_obstacleOf 19 = .ok (.lload_n 2, 1) := by decide +kernel
theorem dM_obstacleOf_20 : decode cM_obstacleOf 20 = .ok (.ldc2_w 37, 3) := by decide +kernel
theorem dM_obstacleOf_23 : decode cM_obstacleOf 23 = .ok (.lcmp, 1) := by decide +kernel
theorem dM_obstacleOf_24 : decode cM_obstacleOf 24 = .ok (.ifCond .ne 5, 3) := by decide +kernel
theorem dM_obstacleOf_27 : decode cM_obstacleOf 27 = .ok (.iconst (-1), 1) := by decide +kernel
theorem dM_obstacleOf_28 : decode cM_obstacleOf 28 = .ok (.ireturn, 1) := by decide +kernel
theorem dM_obstacleOf_29 : decode cM_obstacleOf 29 = .ok (.iload_n 1, 1) := by decide +kernel
theorem dM_obstacleOf_30 : decode cM_obstacleOf 30 = .ok (.iconst 2, 1) := by decide +kernel
theorem dM_obstacleOf_31 : decode cM_obstacleOf 31 = .ok (.if_icmp .ne 39, 3) := by decide +kernel
theorem dM_obstacleOf_34 : decode cM_obstacleOf 34 = .ok (.ldc2_w 39, 3) := by decide +kernel
theorem dM_obstacleOf_37 : decode cM_obstacleOf 37 = .ok (.lstore 5, 2) := by decide +kernel
theorem dM_obstacleOf_39 : decode cM_obstacleOf 39 = .ok (.lload 5, 2) := by decide +kernel
theorem dM_obstacleOf_41 : decode cM_obstacleOf 41 = .ok (.invokestatic 111, 3) := by decide +kernel
theorem dM_obstacleOf_44 : decode cM_obstacleOf 44 = .ok (.ifCond .eq 13, 3) := by decide +kernel
theorem dM_obstacleOf_47 : decode cM_obstacleOf 47 = .ok (.lload_n 2, 1) := by decide +kernel
theorem dM_obstacleOf_48 : decode cM_obstacleOf 48 = .ok (.lneg, 1) := by decide +kernel
theorem dM_obstacleOf_49 : decode cM_obstacleOf 49 = .ok (.lload 5, 2) := by decide +kernel
theorem dM_obstacleOf_51 : decode cM_obstacleOf 51 = .ok (.invokestatic 104, 3) := by decide +kernel
theorem dM_obstacleOf_54 : decode cM_obstacleOf 54 = .ok (.ifCond .eq 12, 3) := by decide +kernel
theorem dM_obstacleOf_57 : decode cM_obstacleOf 57 = .ok (.lload 5, 2) := by decide +kernel
theorem dM_obstacleOf_59 : decode cM_obstacleOf 59 = .ok (.lconst 1, 1) := by decide +kernel
theorem dM_obstacleOf_60 : decode cM_obstacleOf 60 = .ok (.ladd, 1) := by decide +kernel
theorem dM_obstacleOf_61 : decode cM_obstacleOf 61 = .ok (.lstore 5, 2) := by decide +kernel
theorem dM_obstacleOf_63 : decode cM_obstacleOf 63 = .ok (.goto (-24), 3) := by decide +kernel
theorem dM_obstacleOf_66 : decode cM_obstacleOf 66 = .ok (.lload 5, 2) := by decide +kernel
theorem dM_obstacleOf_68 : decode cM_obstacleOf 68 = .ok (.l2i, 1) := by decide +kernel
theorem dM_obstacleOf_69 : decode cM_obstacleOf 69 = .ok (.ireturn, 1) := by decide +kernel
theorem dM_obstacleOf_70 : decode cM_obstacleOf 70 = .ok (.iconst 0, 1) := by decide +kernel
theorem dM_obstacleOf_71 : decode cM_obstacleOf 71 = .ok (.istore 5, 2) := by decide +kernel
theorem dM_obstacleOf_73 : decode cM_obstacleOf 73 = .ok (.iload 5, 2) := by decide +kernel
theorem dM_obstacleOf_75 : decode cM_obstacleOf 75 = .ok (.aload_n 0, 1) := by decide +kernel
theorem dM_obstacleOf_76 : decode cM_obstacleOf 76 = .ok (.getfield 45, 3) := by decide +kernel
theorem dM_obstacleOf_79 : decode cM_obstacleOf 79 = .ok (.if_icmp .ge 36, 3) := by decide +kernel
theorem dM_obstacleOf_82 : decode cM_obstacleOf 82 = .ok (.aload_n 0, 1) := by decide +kernel
theorem dM_obstacleOf_83 : decode cM_obstacleOf 83 = .ok (.iload_n 1, 1) := by decide +kernel
theorem dM_obstacleOf_84 : decode cM_obstacleOf 84 = .ok (.lload_n 2, 1) := by decide +kernel
theorem dM_obstacleOf_85 : decode cM_obstacleOf 85 = .ok (.iload 4, 2) := by decide +kernel
theorem dM_obstacleOf_87 : decode cM_obstacleOf 87 = .ok (.aload_n 0, 1) := by decide +kernel
theorem dM_obstacleOf_88 : decode cM_obstacleOf 88 = .ok (.getfield 23, 3) := by decide +kernel
theorem dM_obstacleOf_91 : decode cM_obstacleOf 91 = .ok (.iload 5, 2) := by decide +kernel
theorem dM_obstacleOf_93 : decode cM_obstacleOf 93 = .ok (.laload, 1) := by decide +kernel
theorem dM_obstacleOf_94 : decode cM_obstacleOf 94 = .ok (.invokevirtual 107, 3) := by decide +kernel
theorem dM_obstacleOf_97 : decode cM_obstacleOf 97 = .ok (.ifCond .ne 12, 3) := by decide +kernel
theorem dM_obstacleOf_100 : decode cM_obstacleOf 100 = .ok (.aload_n 0, 1) := by decide +kernel
theorem dM_obstacleOf_101 : decode cM_obstacleOf 101 = .ok (.getfield 23, 3) := by decide +kernel
theorem dM_obstacleOf_104 : decode cM_obstacleOf 104 = .ok (.iload 5, 2) := by decide +kernel
theorem dM_obstacleOf_106 : decode cM_obstacleOf 106 = .ok (.laload, 1) := by decide +kernel
theorem dM_obstacleOf_107 : decode cM_obstacleOf 107 = .ok (.l2i, 1) := by decide +kernel
theorem dM_obstacleOf_108 : decode cM_obstacleOf 108 = .ok (.ireturn, 1) := by decide +kernel
theorem dM_obstacleOf_109 : decode cM_obstacleOf 109 = .ok (.iinc 5 1, 3) := by decide +kernel
theorem dM_obstacleOf_112 : decode cM_obstacleOf 112 = .ok (.goto (-39), 3) := by decide +kernel
theorem dM_obstacleOf_115 : decode cM_obstacleOf 115 = .ok (.iconst (-1), 1) := by decide +kernel
theorem dM_obstacleOf_116 : decode cM_obstacleOf 116 = .ok (.ireturn, 1) := by decide +kernel
abbrev cM_noteSigns : ByteArray := prog_8_method_30_code
abbrev yM_noteSigns : MethodName := ⟨"RationalFormsModel", "noteSigns", "()V"⟩
abbrev wsM_noteSigns : List Cond := .code yM_noteSigns cM_noteSigns 2 none :: GG
theorem dM_noteSigns_0 : decode cM_noteSigns 0 = .ok (.aload_n 0, 1) := by decide +kernel
theorem dM_noteSigns_1 : decode cM_noteSigns 1 = .ok (.iconst 0, 1) := by decide +kernel
theorem dM_noteSigns_2 : decode cM_noteSigns 2 = .ok (.putfield 126, 3) := by decide +kernel
theorem dM_noteSigns_5 : decode cM_noteSigns 5 = .ok (.iconst 0, 1) := by decide +kernel
theorem dM_noteSigns_6 : decode cM_noteSigns 6 = .ok (.istore_n 1, 1) := by decide +kernel
theorem dM_noteSigns_7 : decode cM_noteSigns 7 = .ok (.iload_n 1, 1) := by decide +kernel
theorem dM_noteSigns_8 : decode cM_noteSigns 8 = .ok (.aload_n 0, 1) := by decide +kernel
theorem dM_noteSigns_9 : decode cM_noteSigns 9 = .ok (.getfield 45, 3) := by decide +kernel
theorem dM_noteSigns_12 : decode cM_noteSigns 12 = .ok (.if_icmp .ge 52, 3) := by decide +kernel
theorem dM_noteSigns_15 : decode cM_noteSigns 15 = .ok (.aload_n 0, 1) := by decide +kernel
theorem dM_noteSigns_16 : decode cM_noteSigns 16 = .ok (.aload_n 0, 1) := by decide +kernel
theorem dM_noteSigns_17 : decode cM_noteSigns 17 = .ok (.getfield 56, 3) := by decide +kernel
theorem dM_noteSigns_20 : decode cM_noteSigns 20 = .ok (.aload_n 0, 1) := by decide +kernel
theorem dM_noteSigns_21 : decode cM_noteSigns 21 = .ok (.getfield 23, 3) := by decide +kernel
theorem dM_noteSigns_24 : decode cM_noteSigns 24 = .ok (.iload_n 1, 1) := by decide +kernel
theorem dM_noteSigns_25 : decode cM_noteSigns 25 = .ok (.laload, 1) := by decide +kernel
theorem dM_noteSigns_26 : decode cM_noteSigns 26 = .ok (.invokevirtual 100, 3) := by decide +kernel
theorem dM_noteSigns_29 : decode cM_noteSigns 29 = .ok (.ifCond .ge 29, 3) := by decide +kernel
theorem dM_noteSigns_32 : decode cM_noteSigns 32 = .ok (.aload_n 0, 1) := by decide +kernel
theorem dM_noteSigns_33 : decode cM_noteSigns 33 = .ok (.getfield 26, 3) := by decide +kernel
theorem dM_noteSigns_36 : decode cM_noteSigns 36 = .ok (.aload_n 0, 1) := by decide +kernel
theorem dM_noteSigns_37 : decode cM_noteSigns 37 = .ok (.getfield 126, 3) := by decide +kernel
theorem dM_noteSigns_40 : decode cM_noteSigns 40 = .ok (.aload_n 0, 1) := by decide +kernel
theorem dM_noteSigns_41 : decode cM_noteSigns 41 = .ok (.getfield 23, 3) := by decide +kernel
theorem dM_noteSigns_44 : decode cM_noteSigns 44 = .ok (.iload_n 1, 1) := by decide +kernel
theorem dM_noteSigns_45 : decode cM_noteSigns 45 = .ok (.laload, 1) := by decide +kernel
theorem dM_noteSigns_46 : decode cM_noteSigns 46 = .ok (.l2i, 1) := by decide +kernel
theorem dM_noteSigns_47 : decode cM_noteSigns 47 = .ok (.iastore, 1) := by decide +kernel
theorem dM_noteSigns_48 : decode cM_noteSigns 48 = .ok (.aload_n 0, 1) := by decide +kernel
theorem dM_noteSigns_49 : decode cM_noteSigns 49 = .ok (.dup, 1) := by decide +kernel
theorem dM_noteSigns_50 : decode cM_noteSigns 50 = .ok (.getfield 126, 3) := by decide +kernel
theorem dM_noteSigns_53 : decode cM_noteSigns 53 = .ok (.iconst 1, 1) := by decide +kernel
theorem dM_noteSigns_54 : decode cM_noteSigns 54 = .ok (.iadd, 1) := by decide +kernel
theorem dM_noteSigns_55 : decode cM_noteSigns 55 = .ok (.putfield 126, 3) := by decide +kernel
theorem dM_noteSigns_58 : decode cM_noteSigns 58 = .ok (.iinc 1 1, 3) := by decide +kernel
theorem dM_noteSigns_61 : decode cM_noteSigns 61 = .ok (.goto (-54), 3) := by decide +kernel
theorem dM_noteSigns_64 : decode cM_noteSigns 64 = .ok (.return_, 1) := by decide +kernel
abbrev cM_thrown : ByteArray := prog_8_method_2_code
abbrev yM_thrown : MethodName := ⟨"RationalFormsModel", "thrown", "()I"⟩
abbrev wsM_thrown : List Cond := .code yM_thrown cM_thrown 1 (some .int) :: GG
theorem dM_thrown_0 : decode cM_thrown 0 = .ok (.aload_n 0, 1) := by decide +kernel
theorem dM_thrown_1 : decode cM_thrown 1 = .ok (.getfield 29, 3) := by decide +kernel
theorem dM_thrown_4 : decode cM_thrown 4 = .ok (.ireturn, 1) := by decide +kernel
def FrP (M M9 : Me) : Prop := (∀ k, k ≠ 28 → k ≠ 33 → M9 k = M k) ∧ ∀ j, j ≠ 8 → M9 28 j = M 28 j
theorem FrP.rf (M : Me) : FrP M M := ⟨fun _ _ _ => rfl, fun _ _ => rfl⟩
theorem FrP.tr {M M1 M2 : Me} (h1 : FrP M M1) (h2 : FrP M1 M2) : FrP M M2 := ⟨fun k a b => (h2.1 k a b).trans (h1.1 k a b), fun j a => (h2.2 j a).trans (h1.2 j a)⟩
def FrW (M M9 : Me) : Prop := ∀ q, q ≠ 31 → M9 q = M q
theorem FrW.rf (M : Me) : FrW M M := fun _ _ => rfl
theorem FrW.tr {M M1 M2 : Me} (h1 : FrW M M1) (h2 : FrW M1 M2) : FrW M M2 := fun q h => (h2 q h).trans (h1 q h)
theorem FrW.mu {M M1 : Me} (h : FrW M M1) (j : Nat) (v : Int) : FrW M (mu M1 31 j v) := fun q hq => by rw [mu_k hq]; exact h q hq
theorem ut_eq4 {A B : Mt} (h : eq4 A B) (i j : Nat) (v : Int) : eq4 (ut A i j v) (ut B i j v) := fun a b ha hb => by
  unfold ut
  rw [h a b ha hb]
theorem wr_mu2 {M : Me} {i j i' j' : Nat} (v v' : Int) (hj : j < 4) (hj' : j' < 4) : eq4 (wr (mu (mu M 31 (4 * i + j) v) 31 (4 * i' + j') v')) (ut (ut (wr M) i j v) i' j' v') :=
  (wr_mu v' hj').tr (ut_eq4 (wr_mu v hj) i' j' v')
set_option maxRecDepth 20000 in
theorem wd461 : Cond.fieldLink "RationalFormsModel" 16 "RationalFormsModel" "work" "[J" ∈ GG := GG_t 461 rfl rfl
set_option maxRecDepth 20000 in
theorem wd467 : Cond.fieldLink "RationalFormsModel" 45 "RationalFormsModel" "primes" "I" ∈ GG := GG_t 467 rfl rfl
set_option maxRecDepth 20000 in
theorem wd468 : Cond.fieldLink "RationalFormsModel" 23 "RationalFormsModel" "prime" "[J" ∈ GG := GG_t 468 rfl rfl
set_option maxRecDepth 20000 in
theorem wd523 : Cond.methodLink "RationalFormsModel" 48 yM_addPrime ∈ GG := GG_t 523 rfl rfl
set_option maxRecDepth 20000 in
theorem wd525 : Cond.instanceMethod yM_addPrime ∈ GG := GG_t 525 rfl rfl
set_option maxRecDepth 20000 in
theorem wd526 : Cond.code yM_addPrime cM_addPrime 5 none ∈ GG := GG_t 526 rfl rfl
set_option maxRecDepth 20000 in
theorem wd531 : Cond.methodLink "RationalFormsModel" 52 yM_addTo ∈ GG := GG_t 531 rfl rfl
set_option maxRecDepth 20000 in
theorem wd533 : Cond.instanceMethod yM_addTo ∈ GG := GG_t 533 rfl rfl
set_option maxRecDepth 20000 in
theorem wd534 : Cond.code yM_addTo cM_addTo 6 none ∈ GG := GG_t 534 rfl rfl
set_option maxRecDepth 20000 in
theorem wds13 : Cond.selects "RationalFormsModel" yM_addPrime yM_addPrime ∈ GG := GG_s 13 rfl rfl
set_option maxRecDepth 20000 in
theorem wds15 : Cond.selects "RationalFormsModel" yM_addTo yM_addTo ∈ GG := GG_s 15 rfl rfl
set_option maxRecDepth 100000 in
set_option maxHeartbeats 4000000 in
theorem kM_addPrime (l : Launch) (E : En) (hJ : wJ E) (M : Me) (p : Nat) (hp : p ≤ 2147483647) (c : Nat) (hc : M 28 8 = c) (hc2 : c < 60) (S : Nat → Prop) (hS0 : SL c (M 33) S) (hb0 : ∀ q, S q → q ≤ 2147483647) : MM l yM_addPrime wsM_addPrime (rmd 0) E M [.ref (E.2.1 28), .long (jl ((p:Int)))] (fun r M9 => r = none ∧ (∃ c9 : Nat, c9 ≤ c + 1 ∧ M9 28 8 = c9 ∧ SL c9 (M9 33) (fun q => q = p ∨ S q)) ∧ FrP M M9) := by
  refine MM.ofG (by decide +kernel) (Nat.le_of_ble_eq_true rfl) ?_
  intro p_ e_ s_ m_ a_ b_ t_ c_ hx hb hml hr hk hg hown hK hP hS ls hl
  have hl : lv_has ls 5 [(0, .ref (E.2.1 28)), (1, .long (jl ((p:Int))))] := hl
  have k47 : ∀ (a : Nat) (ls : Array Slot), a ≤ c → (∀ i, i < a → M 33 i < p) → (∀ i, a ≤ i → i < c → (p : Int) < M 33 i) → lv_has ls 5 [(3, .int (ji ((a:Int)))), (0, .ref (E.2.1 28)), (1, .long (jl ((p:Int))))] → W p_ l e_ (rmd 0) s_ m_ a_ b_ t_ c_ s_.heap [] 0 0 (XQ b_ (mmQ E (fun r M9 => r = none ∧ (∃ c9 : Nat, c9 ≤ c + 1 ∧ M9 28 8 = c9 ∧ SL c9 (M9 33) (fun q => q = p ∨ S q)) ∧ FrP M M9)) a_ s_ 0 0 (wA E)) (F0 m_ 47 ls []) := by
    intro a ls ha hlo hhi hl
    have loop : ∀ (N k : Nat) (M1 : Me) (H : Heap) (locs : List Loc) (ls : Array Slot), k = a + N → k ≤ c → (∀ i, i < k → M1 33 i = M 33 i) → (∀ i, k < i → i ≤ c → M1 33 i = M 33 (i - 1)) → (∀ j, j ≠ 33 → M1 j = M j) → wP E M1 H → va_S (wA E) s_.heap H locs → lv_has ls 5 [(4, .int (ji ((k:Int)))), (3, .int (ji ((a:Int)))), (0, .ref (E.2.1 28)), (1, .long (jl ((p:Int))))] → W p_ l e_ (rmd 0) s_ m_ a_ b_ t_ c_ H locs 0 0 (XQ b_ (mmQ E (fun r M9 => r = none ∧ (∃ c9 : Nat, c9 ≤ c + 1 ∧ M9 28 8 = c9 ∧ SL c9 (M9 33) (fun q => q = p ∨ S q)) ∧ FrP M M9)) a_ s_ 0 0 (wA E)) (F0 m_ 53 ls []) := by
      intro N
      induction N with
      | zero =>
        intro k M1 H locs ls hk0 hkc h1 h2 h3 hP hS hl
        refine lv_iload hx hb dM_addPrime_53 (lv_at hl 0 rfl) ?_
        refine lv_iload_n hx hb dM_addPrime_55 rfl (lv_at hl 1 rfl) ?_
        refine j_icmp_le hx hb (by omega) (by omega) dM_addPrime_56 rfl (fun h4 => ?_) (fun h4 => ?_)
        · refine lv_aload_n hx hb dM_addPrime_81 rfl (lv_at hl 2 rfl) ?_
          refine m_get (C := "RationalFormsModel") (T := TxM) (N := 13) hx hb hg uwM hown hK hP (by omega) (sh_M E _) rfl 9 (by decide) wd468 rfl dM_addPrime_82 ?_
          refine lv_iload_n hx hb dM_addPrime_85 rfl (lv_at hl 1 rfl) ?_
          refine lv_lload_n hx hb dM_addPrime_86 rfl (lv_at hl 3 rfl) ?_
          refine m_last (n := a) hx hb hK hJ hP hS (by omega) (fun r => sh_33 E r) rfl (by omega) (by decide) dM_addPrime_87 (fun H locs hP hS => ?_)
          refine lv_aload_n hx hb dM_addPrime_88 rfl (lv_at hl 2 rfl) ?_
          refine lv_dup hx hb dM_addPrime_89 rfl ?_
          refine m_get (C := "RationalFormsModel") (T := TxM) (N := 13) hx hb hg uwM hown hK hP (by omega) (sh_M E _) rfl 8 (by decide) wd467 rfl dM_addPrime_90 ?_
          refine j_iconst hx hb dM_addPrime_93 ?_
          refine j_iadd hx hb dM_addPrime_94 ?_
          refine m_put (C := "RationalFormsModel") (T := TxM) (N := 13) (ty := .int) (z := ((mu M1 33 a ((p:Int))) 28 8) + 1) hx hb hg uwM txM txM_ok nmM hown hK hJ hP hS (by omega) (sh_M E _) rfl 8 (by decide) wd467 rfl rfl rfl rfl (Nat.le_of_ble_eq_true rfl) (by rw [sh_M E _]; simp [mu]) dM_addPrime_95 (fun H locs hP hS => ?_)
          have hcM : M1 28 8 = c := by rw [h3 28 (by omega)]; exact hc
          exact mm_vret hx hb hr hk hP hS dM_addPrime_98 ⟨rfl, ⟨c + 1, Nat.le_refl _, by rw [mu_s, mu_k (by omega), hcM]; rfl, SL.ins (at9 := a) hS0 ha hlo hhi (fun i hi => by rw [mu_k (by omega), mu_j (by omega)]; exact h1 i (by omega)) (by rw [mu_k (by omega)]; exact mu_s _ _ _ _) (fun i i1 i2 => by rw [mu_k (by omega), mu_j (by omega)]; exact h2 i (by omega) i2)⟩, fun k' q1 q2 => by rw [mu_k q1, mu_k q2]; exact h3 k' q2, fun j hj => by rw [mu_j hj, mu_k (by omega), h3 28 (by omega)]⟩
        · omega
      | succ N ih =>
        intro k M1 H locs ls hk0 hkc h1 h2 h3 hP hS hl
        refine lv_iload hx hb dM_addPrime_53 (lv_at hl 0 rfl) ?_
        refine lv_iload_n hx hb dM_addPrime_55 rfl (lv_at hl 1 rfl) ?_
        refine j_icmp_le hx hb (by omega) (by omega) dM_addPrime_56 rfl (fun h4 => ?_) (fun h4 => ?_)
        · omega
        · refine lv_aload_n hx hb dM_addPrime_59 rfl (lv_at hl 2 rfl) ?_
          refine m_get (C := "RationalFormsModel") (T := TxM) (N := 13) hx hb hg uwM hown hK hP (by omega) (sh_M E _) rfl 9 (by decide) wd468 rfl dM_addPrime_60 ?_
          refine lv_iload hx hb dM_addPrime_63 (lv_at hl 0 rfl) ?_
          refine lv_aload_n hx hb dM_addPrime_65 rfl (lv_at hl 2 rfl) ?_
          refine m_get (C := "RationalFormsModel") (T := TxM) (N := 13) hx hb hg uwM hown hK hP (by omega) (sh_M E _) rfl 9 (by decide) wd468 rfl dM_addPrime_66 ?_
          refine lv_iload hx hb dM_addPrime_69 (lv_at hl 0 rfl) ?_
          refine j_iconst hx hb dM_addPrime_71 ?_
          refine j_isub hx hb dM_addPrime_72 ?_
          refine m_lald (n := k - 1) hx hb hK hP (by omega) (sh_33 E _) (by omega) (by omega) (by decide) dM_addPrime_73 ?_
          refine m_last (n := k) hx hb hK hJ hP hS (by omega) (fun r => sh_33 E r) rfl (by omega) (by decide) dM_addPrime_74 (fun H locs hP hS => ?_)
          refine lv_iinc (k := 0) (v := ji (((k:Int)) + (-1))) hx hb dM_addPrime_75 hl rfl (Int32.ofInt_add _ _).symm (by decide) rfl (fun ls hl => ?_)
          have hl : lv_has ls 5 [(4, .int (ji (((k:Int)) + (-1)))), (3, .int (ji ((a:Int)))), (0, .ref (E.2.1 28)), (1, .long (jl ((p:Int))))] := hl
          refine lv_goto hx hb dM_addPrime_78 rfl ?_
          refine ih (k - 1) _ H locs ls (by omega) (by omega) (fun i hi => ?_) (fun i i1 i2 => ?_) (fun j hj => ?_) hP hS (by rw [show (((k - 1 : Nat)) : Int) = (k : Int) + (-1) by omega]; exact hl)
          · rw [mu_j (by omega)]; exact h1 i (by omega)
          · by_cases hik : i = k
            · subst hik
              rw [mu_s]; exact h1 (i - 1) (by omega)
            · rw [mu_j hik]; exact h2 i (by omega) i2
          · rw [mu_k hj]; exact h3 j hj
    refine lv_aload_n hx hb dM_addPrime_47 rfl (lv_at hl 1 rfl) ?_
    refine m_get (C := "RationalFormsModel") (T := TxM) (N := 13) hx hb hg uwM hown hK hP (by omega) (sh_M E _) rfl 8 (by decide) wd467 rfl dM_addPrime_48 ?_
    refine lv_istore hx hb dM_addPrime_51 hl (by decide) rfl (fun ls hl => ?_)
    have hl : lv_has ls 5 [(4, .int (ji (M 28 8))), (3, .int (ji ((a:Int)))), (0, .ref (E.2.1 28)), (1, .long (jl ((p:Int))))] := hl
    rw [hc] at hl
    exact loop (c - a) c M s_.heap [] ls (by omega) (Nat.le_refl _) (fun _ _ => rfl) (fun i i1 i2 => by omega) (fun _ _ => rfl) hP hS hl
  have k27 : ∀ (a : Nat) (ls : Array Slot), a ≤ c → (∀ i, i < a → M 33 i < p) → (a < c → (p : Int) ≤ M 33 a) → lv_has ls 5 [(3, .int (ji ((a:Int)))), (0, .ref (E.2.1 28)), (1, .long (jl ((p:Int))))] → W p_ l e_ (rmd 0) s_ m_ a_ b_ t_ c_ s_.heap [] 0 0 (XQ b_ (mmQ E (fun r M9 => r = none ∧ (∃ c9 : Nat, c9 ≤ c + 1 ∧ M9 28 8 = c9 ∧ SL c9 (M9 33) (fun q => q = p ∨ S q)) ∧ FrP M M9)) a_ s_ 0 0 (wA E)) (F0 m_ 27 ls []) := by
    intro a ls ha hlo hge hl
    have hup : a < c → M 33 a ≠ p → ∀ i, a ≤ i → i < c → (p : Int) < M 33 i := by
      intro h1 h2 i i1 i2
      have h3 := hge h1
      rcases Nat.lt_or_ge a i with h4 | h4
      · have := hS0.1 a i h4 i2
        omega
      · have : i = a := by omega
        subst this
        omega
    refine lv_iload_n hx hb dM_addPrime_27 rfl (lv_at hl 0 rfl) ?_
    refine lv_aload_n hx hb dM_addPrime_28 rfl (lv_at hl 1 rfl) ?_
    refine m_get (C := "RationalFormsModel") (T := TxM) (N := 13) hx hb hg uwM hown hK hP (by omega) (sh_M E _) rfl 8 (by decide) wd467 rfl dM_addPrime_29 ?_
    refine j_icmp_ge hx hb (by omega) (by rw [hc]; omega) dM_addPrime_32 rfl (fun h1 => ?_) (fun h1 => ?_)
    · exact k47 a ls ha hlo (fun i i1 i2 => by omega) hl
    · refine lv_aload_n hx hb dM_addPrime_35 rfl (lv_at hl 1 rfl) ?_
      refine m_get (C := "RationalFormsModel") (T := TxM) (N := 13) hx hb hg uwM hown hK hP (by omega) (sh_M E _) rfl 9 (by decide) wd468 rfl dM_addPrime_36 ?_
      refine lv_iload_n hx hb dM_addPrime_39 rfl (lv_at hl 0 rfl) ?_
      refine m_lald (n := a) hx hb hK hP (by omega) (sh_33 E _) rfl (by omega) (by decide) dM_addPrime_40 ?_
      refine lv_lload_n hx hb dM_addPrime_41 rfl (lv_at hl 2 rfl) ?_
      refine j_lc_ne hx hb (by have := hS0.bd hb0 (i := a) (by omega); omega) (by omega) dM_addPrime_42 dM_addPrime_43 rfl (fun h2 => ?_) (fun h2 => ?_)
      · exact k47 a ls ha hlo (hup (by omega) h2) hl
      · obtain ⟨q, q1, q2⟩ := hS0.2.1 a (by omega)
        have hqp : q = p := by omega
        exact mm_vret hx hb hr hk hP hS dM_addPrime_46 ⟨rfl, ⟨c, Nat.le_succ c, hc, hS0.old (by rw [← hqp]; exact q2)⟩, FrP.rf M⟩
  have loop : ∀ (N a : Nat) (ls : Array Slot), a + N = c → (∀ i, i < a → M 33 i < p) → lv_has ls 5 [(3, .int (ji ((a:Int)))), (0, .ref (E.2.1 28)), (1, .long (jl ((p:Int))))] → W p_ l e_ (rmd 0) s_ m_ a_ b_ t_ c_ s_.heap [] 0 0 (XQ b_ (mmQ E (fun r M9 => r = none ∧ (∃ c9 : Nat, c9 ≤ c + 1 ∧ M9 28 8 = c9 ∧ SL c9 (M9 33) (fun q => q = p ∨ S q)) ∧ FrP M M9)) a_ s_ 0 0 (wA E)) (F0 m_ 2 ls []) := by
    intro N
    induction N with
    | zero =>
      intro a ls ha hlo hl
      refine lv_iload_n hx hb dM_addPrime_2 rfl (lv_at hl 0 rfl) ?_
      refine lv_aload_n hx hb dM_addPrime_3 rfl (lv_at hl 1 rfl) ?_
      refine m_get (C := "RationalFormsModel") (T := TxM) (N := 13) hx hb hg uwM hown hK hP (by omega) (sh_M E _) rfl 8 (by decide) wd467 rfl dM_addPrime_4 ?_
      refine j_icmp_ge hx hb (by omega) (by rw [hc]; omega) dM_addPrime_7 rfl (fun h1 => ?_) (fun h1 => ?_)
      · exact k27 a ls (by omega) hlo (fun q => by omega) hl
      · omega
    | succ N ih =>
      intro a ls ha hlo hl
      refine lv_iload_n hx hb dM_addPrime_2 rfl (lv_at hl 0 rfl) ?_
      refine lv_aload_n hx hb dM_addPrime_3 rfl (lv_at hl 1 rfl) ?_
      refine m_get (C := "RationalFormsModel") (T := TxM) (N := 13) hx hb hg uwM hown hK hP (by omega) (sh_M E _) rfl 8 (by decide) wd467 rfl dM_addPrime_4 ?_
      refine j_icmp_ge hx hb (by omega) (by rw [hc]; omega) dM_addPrime_7 rfl (fun h1 => ?_) (fun h1 => ?_)
      · omega
      · refine lv_aload_n hx hb dM_addPrime_10 rfl (lv_at hl 1 rfl) ?_
        refine m_get (C := "RationalFormsModel") (T := TxM) (N := 13) hx hb hg uwM hown hK hP (by omega) (sh_M E _) rfl 9 (by decide) wd468 rfl dM_addPrime_11 ?_
        refine lv_iload_n hx hb dM_addPrime_14 rfl (lv_at hl 0 rfl) ?_
        refine m_lald (n := a) hx hb hK hP (by omega) (sh_33 E _) rfl (by omega) (by decide) dM_addPrime_15 ?_
        refine lv_lload_n hx hb dM_addPrime_16 rfl (lv_at hl 2 rfl) ?_
        refine j_lc_ge hx hb (by have := hS0.bd hb0 (i := a) (by omega); omega) (by omega) dM_addPrime_17 dM_addPrime_18 rfl (fun h2 => ?_) (fun h2 => ?_)
        · exact k27 a ls (by omega) hlo (fun q => h2) hl
        · refine lv_iinc (k := 0) (v := ji (((a:Int)) + 1)) hx hb dM_addPrime_21 hl rfl (Int32.ofInt_add _ _).symm (by decide) rfl (fun ls hl => ?_)
          have hl : lv_has ls 5 [(3, .int (ji (((a:Int)) + 1))), (0, .ref (E.2.1 28)), (1, .long (jl ((p:Int))))] := hl
          refine lv_goto hx hb dM_addPrime_24 rfl ?_
          refine ih (a + 1) ls (by omega) (fun i hi => ?_) hl
          rcases Nat.lt_or_ge i a with h3 | h3
          · exact hlo i h3
          · have : i = a := by omega
            subst this
            exact h2
  refine j_iconst hx hb dM_addPrime_0 ?_
  refine lv_istore_n hx hb dM_addPrime_1 rfl hl (by decide) rfl (fun ls hl => ?_)
  have hl : lv_has ls 5 [(3, .int (ji 0)), (0, .ref (E.2.1 28)), (1, .long (jl ((p:Int))))] := hl
  exact loop c 0 ls (by omega) (fun i hi => by omega) hl

set_option maxRecDepth 100000 in
set_option maxHeartbeats 4000000 in
theorem kM_addPrimes (l : Launch) (E : En) (hJ : wJ E) (M : Me) (a : Int) (h0 : a ≠ 0) (hsq9 : ∀ d, 1 < d → ¬ d * d ∣ a.natAbs) (ha : a.natAbs ≤ 2147483647) (c j : Nat) (hc : M 28 8 = c) (hcj : c + j ≤ 60) (S0 : Nat → Prop) (hS0 : SL c (M 33) S0) (hb0 : ∀ q, S0 q → q ≤ 2147483647) (hj : a.natAbs < fac (j + 2)) : MM l yM_addPrimes wsM_addPrimes (rmd 1) E M [.ref (E.2.1 28), .long (jl a)] (fun v M9 => v = none ∧ (∃ c9 : Nat, c9 ≤ c + j ∧ M9 28 8 = c9 ∧ SL c9 (M9 33) (fun q => S0 q ∨ (prm q ∧ q ∣ a.natAbs))) ∧ FrP M M9) := by
  refine MM.ofG (by decide +kernel) (Nat.le_of_ble_eq_true rfl) ?_
  intro p_ e_ s_ m_ a_ b_ t_ c_ hx hb hml hr hk hg hown hK hP hS ls hl
  have hl : lv_has ls 7 [(0, .ref (E.2.1 28)), (1, .long (jl a))] := hl
  have loop : ∀ (N : Nat) (d r t c1 : Nat) (S : Nat → Prop) (M1 : Me) (H : Heap) (locs : List Loc) (ls : Array Slot), 46342 - d < N → d ≤ 46341 → 2 ≤ d → r ≤ 2147483647 → pf a.natAbs S S0 r d → t + 2 ≤ d → fac (t + 1) * r ≤ a.natAbs → c1 ≤ c + t → t ≤ j → M1 28 8 = c1 → SL c1 (M1 33) S → FrP M M1 → wP E M1 H → va_S (wA E) s_.heap H locs → lv_has ls 7 [(5, .long (jl ((d:Int)))), (3, .long (jl ((r:Int)))), (0, .ref (E.2.1 28)), (1, .long (jl a))] → W p_ l e_ (rmd 1) s_ m_ a_ b_ t_ c_ H locs 0 0 (XQ b_ (mmQ E (fun v M9 => v = none ∧ (∃ c9 : Nat, c9 ≤ c + j ∧ M9 28 8 = c9 ∧ SL c9 (M9 33) (fun q => S0 q ∨ (prm q ∧ q ∣ a.natAbs))) ∧ FrP M M9)) a_ s_ 0 0 (wA E)) (F0 m_ 18 ls []) := by
    intro N
    induction N with
    | zero => intro d r t c1 S M1 H locs ls hm; omega
    | succ N ih =>
      intro d r t c1 S M1 H locs ls hm hd hd2 hr0 hpf ht hfac hc1 htj hM hSL hFr hP hS hl
      have hdd : ((d * d : Nat) : Int) = (d : Int) * (d : Int) := Int.natCast_mul d d
      have hbS : ∀ q, S q → q ≤ 2147483647 := fun q hq => by
        rcases (hpf.2.2.2 q).mp hq with g | ⟨-, g, -⟩
        · exact hb0 q g
        · have := Nat.le_of_dvd (by omega) g
          omega
      have hnext : (∃ t2, t2 + 1 ≤ r ∧ t2 = t + 1) → c1 < 60 := fun ⟨t2, g1, g2⟩ => by
        have h1 : fac (t + 2) ≤ a.natAbs := by
          calc fac (t + 2) = fac (t + 1) * (t + 2) := by show (t + 1 + 1) * fac (t + 1) = _; rw [Nat.mul_comm]
            _ ≤ fac (t + 1) * r := Nat.mul_le_mul_left _ (by omega)
            _ ≤ a.natAbs := hfac
        have h2 := fac_lt (Nat.lt_of_le_of_lt h1 hj)
        omega
      have htj2 : t + 2 ≤ r → t + 1 ≤ j := fun g => by
        have h1 : fac (t + 2) ≤ a.natAbs := by
          calc fac (t + 2) = fac (t + 1) * (t + 2) := by show (t + 1 + 1) * fac (t + 1) = _; rw [Nat.mul_comm]
            _ ≤ fac (t + 1) * r := Nat.mul_le_mul_left _ (by omega)
            _ ≤ a.natAbs := hfac
        have h2 := fac_lt (Nat.lt_of_le_of_lt h1 hj)
        omega
      refine lv_lload hx hb dM_addPrimes_18 (lv_at hl 0 rfl) ?_
      refine lv_lload hx hb dM_addPrimes_20 (lv_at hl 0 rfl) ?_
      refine j_lmul hx hb dM_addPrimes_22 ?_
      refine lv_lload_n hx hb dM_addPrimes_23 rfl (lv_at hl 1 rfl) ?_
      refine j_lc_gt hx hb (sq_b64 (by omega) (by omega)) (by omega) dM_addPrimes_24 dM_addPrimes_25 rfl (fun h1 => ?_) (fun h1 => ?_)
      · have hend := pf_end hpf (by omega)
        refine lv_lload_n hx hb dM_addPrimes_57 rfl (lv_at hl 1 rfl) ?_
        refine j_lconst1 hx hb dM_addPrimes_58 ?_
        refine j_lc_le hx hb (by omega) (by omega) dM_addPrimes_59 dM_addPrimes_60 rfl (fun h2 => ?_) (fun h2 => ?_)
        · have hr1 : r = 1 := by have := hpf.1; omega
          exact mm_vret hx hb hr hk hP hS dM_addPrimes_68 ⟨rfl, ⟨c1, by omega, hM, hSL.to (hend.1 hr1)⟩, hFr⟩
        · obtain ⟨g1, g2⟩ := hend.2 (by omega)
          have hrd : d ≤ r := by
            rcases Nat.lt_or_ge r d with g3 | g3
            · exact absurd (Nat.dvd_refl r) (hpf.2.2.1 r (by omega) g3)
            · exact g3
          refine lv_aload_n hx hb dM_addPrimes_63 rfl (lv_at hl 2 rfl) ?_
          refine lv_lload_n hx hb dM_addPrimes_64 rfl (lv_at hl 1 rfl) ?_
          refine mm_V (As := [.long (jl ((r:Int)))]) (rest := []) hx hb hml hown hg hl hK hP hS (by omega) (sh_M E _) rfl (kM_addPrime l E hJ M1 r (by omega) c1 hM (hnext ⟨t + 1, by omega, rfl⟩) S hSL hbS) wd523 wd525 wds13 wd5 wd526 ⟨rfl, rfl⟩ (n := 1) (by decide +kernel) rfl ⟨by decide, by decide⟩ rfl (Nat.le_of_ble_eq_true rfl) dM_addPrimes_65 ⟨Nat.zero_le _, Nat.zero_le _⟩ (fun v M2 H locs hq hP hS => ?_)
          obtain ⟨rfl, ⟨c9, q1, q2, q3⟩, q4⟩ := hq
          have := htj2 (by omega)
          exact mm_vret hx hb hr hk hP hS dM_addPrimes_68 ⟨rfl, ⟨c9, by omega, q2, q3.to g2⟩, hFr.tr q4⟩
      · have hsq := Nat.mul_le_mul hd2 (Nat.le_refl d)
        have hdm : d + 1 ≤ 46341 := by
          rcases Nat.lt_or_ge d 46341 with g | g
          · omega
          · have : 46341 * 46341 ≤ d * d := Nat.mul_le_mul g g
            omega
        refine lv_lload_n hx hb dM_addPrimes_28 rfl (lv_at hl 1 rfl) ?_
        refine lv_lload hx hb dM_addPrimes_29 (lv_at hl 0 rfl) ?_
        refine j_lrem hx hb (by omega) (by omega) (by omega) dM_addPrimes_31 ?_
        refine j_lconst0 hx hb dM_addPrimes_32 ?_
        refine j_lc_ne hx hb (tm_b64 (by omega)) (by decide) dM_addPrimes_33 dM_addPrimes_34 rfl (fun h2 => ?_) (fun h2 => ?_)
        · have hn : ¬ d ∣ r := fun q => h2 (by rw [tm_nat]; exact_mod_cast Nat.mod_eq_zero_of_dvd q)
          refine lv_lload hx hb dM_addPrimes_48 (lv_at hl 0 rfl) ?_
          refine j_lconst1 hx hb dM_addPrimes_50 ?_
          refine j_ladd hx hb dM_addPrimes_51 ?_
          refine lv_lstore hx hb dM_addPrimes_52 hl (by decide) rfl (fun ls hl => ?_)
          have hl : lv_has ls 7 [(5, .long (jl (((d:Int)) + 1))), (3, .long (jl ((r:Int)))), (0, .ref (E.2.1 28)), (1, .long (jl a))] := hl
          refine lv_goto hx hb dM_addPrimes_54 rfl ?_
          exact ih (d + 1) r t c1 S M1 H locs ls (by omega) hdm (by omega) hr0 (pf_skip hpf hn) (by omega) hfac hc1 htj hM hSL hFr hP hS (lv_sub hl [0, 1, 2, 3] rfl)
        · have hn : d ∣ r := Nat.dvd_of_mod_eq_zero (by rw [tm_nat] at h2; omega)
          have := htj2 (by omega)
          refine lv_aload_n hx hb dM_addPrimes_37 rfl (lv_at hl 2 rfl) ?_
          refine lv_lload hx hb dM_addPrimes_38 (lv_at hl 0 rfl) ?_
          refine mm_V (As := [.long (jl ((d:Int)))]) (rest := []) hx hb hml hown hg hl hK hP hS (by omega) (sh_M E _) rfl (kM_addPrime l E hJ M1 d (by omega) c1 hM (hnext ⟨t + 1, by omega, rfl⟩) S hSL hbS) wd523 wd525 wds13 wd5 wd526 ⟨rfl, rfl⟩ (n := 1) (by decide +kernel) rfl ⟨by decide, by decide⟩ rfl (Nat.le_of_ble_eq_true rfl) dM_addPrimes_40 ⟨Nat.zero_le _, Nat.zero_le _⟩ (fun v M2 H locs hq hP hS => ?_)
          obtain ⟨rfl, ⟨c9, q1, q2, q3⟩, q4⟩ := hq
          obtain ⟨r9, w2⟩ := hn
          have w3 : ¬ d ∣ r9 := fun ⟨z, hz⟩ => hsq9 d (by omega) (Nat.dvd_trans ⟨z, by rw [w2, hz, Nat.mul_assoc]⟩ hpf.2.1)
          have w2' : r = r9 * d ^ 1 := by rw [w2, Nat.pow_one, Nat.mul_comm]
          have w5 : r9 ≤ r := by rw [w2]; exact Nat.le_mul_of_pos_left _ (by omega)
          refine lv_lload_n hx hb dM_addPrimes_43 rfl (lv_at hl 1 rfl) ?_
          refine lv_lload hx hb dM_addPrimes_44 (lv_at hl 0 rfl) ?_
          refine j_ldiv hx hb (by omega) (by omega) (by omega) dM_addPrimes_46 ?_
          refine lv_lstore_n hx hb dM_addPrimes_47 rfl hl (by decide) rfl (fun ls hl => ?_)
          have hl : lv_has ls 7 [(3, .long (jl (((r:Int)).tdiv ((d:Int))))), (5, .long (jl ((d:Int)))), (0, .ref (E.2.1 28)), (1, .long (jl a))] := hl
          refine lv_lload hx hb dM_addPrimes_48 (lv_at hl 1 rfl) ?_
          refine j_lconst1 hx hb dM_addPrimes_50 ?_
          refine j_ladd hx hb dM_addPrimes_51 ?_
          refine lv_lstore hx hb dM_addPrimes_52 hl (by decide) rfl (fun ls hl => ?_)
          have hl : lv_has ls 7 [(5, .long (jl (((d:Int)) + 1))), (3, .long (jl (((r:Int)).tdiv ((d:Int))))), (0, .ref (E.2.1 28)), (1, .long (jl a))] := hl
          refine lv_goto hx hb dM_addPrimes_54 rfl ?_
          rw [show ((r : Nat) : Int).tdiv (d : Int) = (r9 : Int) by rw [td_nat, w2, Nat.mul_div_cancel_left _ (by omega)]] at hl
          exact ih (d + 1) r9 (t + 1) c9 (fun q => q = d ∨ S q) M2 H locs ls (by omega) hdm (by omega) (by omega) (pf_take hpf hd2 ⟨r9, w2⟩ w2' w3) (by omega) (fac_take hfac w2' (by omega) (by omega) hpf.1) (by omega) (by omega) q2 q3 (hFr.tr q4) hP hS (lv_sub hl [0, 1, 2, 3] rfl)
  have start : ∀ (ls : Array Slot), lv_has ls 7 [(0, .ref (E.2.1 28)), (1, .long (jl a))] → W p_ l e_ (rmd 1) s_ m_ a_ b_ t_ c_ s_.heap [] 0 0 (XQ b_ (mmQ E (fun v M9 => v = none ∧ (∃ c9 : Nat, c9 ≤ c + j ∧ M9 28 8 = c9 ∧ SL c9 (M9 33) (fun q => S0 q ∨ (prm q ∧ q ∣ a.natAbs))) ∧ FrP M M9)) a_ s_ 0 0 (wA E)) (F0 m_ 12 ls [.long (jl (a.natAbs : Int))]) := by
    intro ls hl
    refine lv_lstore_n hx hb dM_addPrimes_12 rfl hl (by decide) rfl (fun ls hl => ?_)
    have hl : lv_has ls 7 [(3, .long (jl ((a.natAbs : Int)))), (0, .ref (E.2.1 28)), (1, .long (jl a))] := hl
    refine j_ldc2 (z := 2) hx hb hown hg wd522 rfl dM_addPrimes_13 ?_
    refine lv_lstore hx hb dM_addPrimes_16 hl (by decide) rfl (fun ls hl => ?_)
    have hl : lv_has ls 7 [(5, .long (jl 2)), (3, .long (jl ((a.natAbs : Int)))), (0, .ref (E.2.1 28)), (1, .long (jl a))] := hl
    exact loop 46342 2 a.natAbs 0 c S0 M s_.heap [] ls (by omega) (by omega) (by omega) (by omega) (pf_0 (by omega) S0) (by omega) (by show 1 * 1 * a.natAbs ≤ a.natAbs; omega) (by omega) (by omega) hc hS0 (FrP.rf M) hP hS hl
  refine lv_lload_n hx hb dM_addPrimes_0 rfl (lv_at hl 1 rfl) ?_
  refine j_lconst0 hx hb dM_addPrimes_1 ?_
  refine j_lc_ge hx hb (by omega) (by omega) dM_addPrimes_2 dM_addPrimes_3 rfl (fun h1 => ?_) (fun h1 => ?_)
  · refine lv_lload_n hx hb dM_addPrimes_11 rfl (lv_at hl 1 rfl) ?_
    have e9 : (a.natAbs : Int) = a := by omega
    have := start ls hl
    rw [e9] at this
    exact this
  · refine lv_lload_n hx hb dM_addPrimes_6 rfl (lv_at hl 1 rfl) ?_
    refine j_lneg hx hb dM_addPrimes_7 ?_
    refine lv_goto hx hb dM_addPrimes_8 rfl ?_
    have e9 : (a.natAbs : Int) = -a := by omega
    have := start ls hl
    rw [e9] at this
    exact this

set_option maxRecDepth 100000 in
set_option maxHeartbeats 4000000 in
theorem kM_addTo (l : Launch) (E : En) (hJ : wJ E) (M : Me) (n : Nat) (hn4 : n ≤ 4) (fr to st : Nat) (hf0 : fr < n) (ht0 : to < n) (hs0 : st ≤ n) (hne : fr ≠ to) : MM l yM_addTo wsM_addTo (rmd 0) E M [.ref (E.2.1 28), .int (ji ((to:Int))), .int (ji ((fr:Int))), .int (ji ((st:Int))), .int (ji ((n:Int)))] (fun r M9 => r = none ∧ eqn n (wr M9) (adT fr to st n (wr M)) ∧ FrW M M9) := by
  refine MM.ofG (by decide +kernel) (Nat.le_of_ble_eq_true rfl) ?_
  intro p_ e_ s_ m_ a_ b_ t_ c_ hx hb hml hr hk hg hown hK hP hS ls hl
  have hl : lv_has ls 6 [(0, .ref (E.2.1 28)), (1, .int (ji ((to:Int)))), (2, .int (ji ((fr:Int)))), (3, .int (ji ((st:Int)))), (4, .int (ji ((n:Int))))] := hl
  have loop2 : ∀ (T1 : Mt) (_ : eq4 T1 (rad fr to st n (wr M))) (N J : Nat) (M1 : Me) (H : Heap) (locs : List Loc) (ls : Array Slot), J + N = n → st ≤ J → eq4 (wr M1) (cad fr to st J T1) → FrW M M1 → wP E M1 H → va_S (wA E) s_.heap H locs → lv_has ls 6 [(5, .int (ji ((J:Int)))), (0, .ref (E.2.1 28)), (1, .int (ji ((to:Int)))), (2, .int (ji ((fr:Int)))), (3, .int (ji ((st:Int)))), (4, .int (ji ((n:Int))))] → W p_ l e_ (rmd 0) s_ m_ a_ b_ t_ c_ H locs 0 0 (XQ b_ (mmQ E (fun r M9 => r = none ∧ eqn n (wr M9) (adT fr to st n (wr M)) ∧ FrW M M9)) a_ s_ 0 0 (wA E)) (F0 m_ 44 ls []) := by
    intro T1 hT1 N
    induction N with
    | zero =>
      intro J M1 H locs ls h0 hsJ hT hF hP hS hl
      refine lv_iload hx hb dM_addTo_44 (lv_at hl 0 rfl) ?_
      refine lv_iload hx hb dM_addTo_46 (lv_at hl 5 rfl) ?_
      refine j_icmp_ge hx hb (by omega) (by omega) dM_addTo_48 rfl (fun h1 => ?_) (fun h1 => ?_)
      · exact mm_vret hx hb hr hk hP hS dM_addTo_82 ⟨rfl, ad_end hT1 (by rw [show n = J by omega]; exact hT) hn4 hf0 ht0, hF⟩
      · omega
    | succ N ih =>
      intro J M1 H locs ls h0 hsJ hT hF hP hS hl
      refine lv_iload hx hb dM_addTo_44 (lv_at hl 0 rfl) ?_
      refine lv_iload hx hb dM_addTo_46 (lv_at hl 5 rfl) ?_
      refine j_icmp_ge hx hb (by omega) (by omega) dM_addTo_48 rfl (fun h1 => ?_) (fun h1 => ?_)
      · omega
      · refine lv_aload_n hx hb dM_addTo_51 rfl (lv_at hl 1 rfl) ?_
        refine m_get (C := "RationalFormsModel") (T := TxM) (N := 13) hx hb hg uwM hown hK hP (by omega) (sh_M E _) rfl 2 (by decide) wd461 rfl dM_addTo_52 ?_
        refine j_iconst hx hb dM_addTo_55 ?_
        refine lv_iload hx hb dM_addTo_56 (lv_at hl 0 rfl) ?_
        refine j_imul hx hb dM_addTo_58 ?_
        refine lv_iload_n hx hb dM_addTo_59 rfl (lv_at hl 2 rfl) ?_
        refine j_iadd hx hb dM_addTo_60 ?_
        refine lv_dup2_11 hx hb dM_addTo_61 rfl rfl ?_
        refine m_lald (n := 4 * J + to) hx hb hK hP (by omega) (sh_31 E _) (by omega) (by omega) (by decide) dM_addTo_62 ?_
        refine lv_aload_n hx hb dM_addTo_63 rfl (lv_at hl 1 rfl) ?_
        refine m_get (C := "RationalFormsModel") (T := TxM) (N := 13) hx hb hg uwM hown hK hP (by omega) (sh_M E _) rfl 2 (by decide) wd461 rfl dM_addTo_64 ?_
        refine j_iconst hx hb dM_addTo_67 ?_
        refine lv_iload hx hb dM_addTo_68 (lv_at hl 0 rfl) ?_
        refine j_imul hx hb dM_addTo_70 ?_
        refine lv_iload_n hx hb dM_addTo_71 rfl (lv_at hl 3 rfl) ?_
        refine j_iadd hx hb dM_addTo_72 ?_
        refine m_lald (n := 4 * J + fr) hx hb hK hP (by omega) (sh_31 E _) (by omega) (by omega) (by decide) dM_addTo_73 ?_
        refine j_ladd hx hb dM_addTo_74 ?_
        refine m_last (n := 4 * J + to) hx hb hK hJ hP hS (by omega) (fun r => sh_31 E r) (by omega) (by omega) (by decide) dM_addTo_75 (fun H locs hP hS => ?_)
        refine lv_iinc (k := 0) (v := ji (((J:Int)) + 1)) hx hb dM_addTo_76 hl rfl (Int32.ofInt_add _ _).symm (by decide) rfl (fun ls hl => ?_)
        have hl : lv_has ls 6 [(5, .int (ji (((J:Int)) + 1))), (0, .ref (E.2.1 28)), (1, .int (ji ((to:Int)))), (2, .int (ji ((fr:Int)))), (3, .int (ji ((st:Int)))), (4, .int (ji ((n:Int))))] := hl
        refine lv_goto hx hb dM_addTo_79 rfl ?_
        exact ih (J + 1) _ H locs ls (by omega) (by omega) ((wr_mu _ (by omega)).tr (cad_s hT (by omega) (by omega) hne hsJ (by omega))) (hF.mu _ _) hP hS hl
  have loop1 : ∀ (N J : Nat) (M1 : Me) (H : Heap) (locs : List Loc) (ls : Array Slot), J + N = n → st ≤ J → eq4 (wr M1) (rad fr to st J (wr M)) → FrW M M1 → wP E M1 H → va_S (wA E) s_.heap H locs → lv_has ls 6 [(5, .int (ji ((J:Int)))), (0, .ref (E.2.1 28)), (1, .int (ji ((to:Int)))), (2, .int (ji ((fr:Int)))), (3, .int (ji ((st:Int)))), (4, .int (ji ((n:Int))))] → W p_ l e_ (rmd 0) s_ m_ a_ b_ t_ c_ H locs 0 0 (XQ b_ (mmQ E (fun r M9 => r = none ∧ eqn n (wr M9) (adT fr to st n (wr M)) ∧ FrW M M9)) a_ s_ 0 0 (wA E)) (F0 m_ 3 ls []) := by
    intro N
    induction N with
    | zero =>
      intro J M1 H locs ls h0 hsJ hT hF hP hS hl
      refine lv_iload hx hb dM_addTo_3 (lv_at hl 0 rfl) ?_
      refine lv_iload hx hb dM_addTo_5 (lv_at hl 5 rfl) ?_
      refine j_icmp_ge hx hb (by omega) (by omega) dM_addTo_7 rfl (fun h1 => ?_) (fun h1 => ?_)
      · refine lv_iload_n hx hb dM_addTo_41 rfl (lv_at hl 4 rfl) ?_
        refine lv_istore hx hb dM_addTo_42 hl (by decide) rfl (fun ls hl => ?_)
        have hl : lv_has ls 6 [(5, .int (ji ((st:Int)))), (0, .ref (E.2.1 28)), (1, .int (ji ((to:Int)))), (2, .int (ji ((fr:Int)))), (3, .int (ji ((st:Int)))), (4, .int (ji ((n:Int))))] := hl
        exact loop2 (wr M1) (by rw [show n = J by omega]; exact hT) (n - st) st M1 H locs ls (by omega) (by omega) (cad_0 fr to st _) hF hP hS hl
      · omega
    | succ N ih =>
      intro J M1 H locs ls h0 hsJ hT hF hP hS hl
      refine lv_iload hx hb dM_addTo_3 (lv_at hl 0 rfl) ?_
      refine lv_iload hx hb dM_addTo_5 (lv_at hl 5 rfl) ?_
      refine j_icmp_ge hx hb (by omega) (by omega) dM_addTo_7 rfl (fun h1 => ?_) (fun h1 => ?_)
      · omega
      · refine lv_aload_n hx hb dM_addTo_10 rfl (lv_at hl 1 rfl) ?_
        refine m_get (C := "RationalFormsModel") (T := TxM) (N := 13) hx hb hg uwM hown hK hP (by omega) (sh_M E _) rfl 2 (by decide) wd461 rfl dM_addTo_11 ?_
        refine j_iconst hx hb dM_addTo_14 ?_
        refine lv_iload_n hx hb dM_addTo_15 rfl (lv_at hl 2 rfl) ?_
        refine j_imul hx hb dM_addTo_16 ?_
        refine lv_iload hx hb dM_addTo_17 (lv_at hl 0 rfl) ?_
        refine j_iadd hx hb dM_addTo_19 ?_
        refine lv_dup2_11 hx hb dM_addTo_20 rfl rfl ?_
        refine m_lald (n := 4 * to + J) hx hb hK hP (by omega) (sh_31 E _) (by omega) (by omega) (by decide) dM_addTo_21 ?_
        refine lv_aload_n hx hb dM_addTo_22 rfl (lv_at hl 1 rfl) ?_
        refine m_get (C := "RationalFormsModel") (T := TxM) (N := 13) hx hb hg uwM hown hK hP (by omega) (sh_M E _) rfl 2 (by decide) wd461 rfl dM_addTo_23 ?_
        refine j_iconst hx hb dM_addTo_26 ?_
        refine lv_iload_n hx hb dM_addTo_27 rfl (lv_at hl 3 rfl) ?_
        refine j_imul hx hb dM_addTo_28 ?_
        refine lv_iload hx hb dM_addTo_29 (lv_at hl 0 rfl) ?_
        refine j_iadd hx hb dM_addTo_31 ?_
        refine m_lald (n := 4 * fr + J) hx hb hK hP (by omega) (sh_31 E _) (by omega) (by omega) (by decide) dM_addTo_32 ?_
        refine j_ladd hx hb dM_addTo_33 ?_
        refine m_last (n := 4 * to + J) hx hb hK hJ hP hS (by omega) (fun r => sh_31 E r) (by omega) (by omega) (by decide) dM_addTo_34 (fun H locs hP hS => ?_)
        refine lv_iinc (k := 0) (v := ji (((J:Int)) + 1)) hx hb dM_addTo_35 hl rfl (Int32.ofInt_add _ _).symm (by decide) rfl (fun ls hl => ?_)
        have hl : lv_has ls 6 [(5, .int (ji (((J:Int)) + 1))), (0, .ref (E.2.1 28)), (1, .int (ji ((to:Int)))), (2, .int (ji ((fr:Int)))), (3, .int (ji ((st:Int)))), (4, .int (ji ((n:Int))))] := hl
        refine lv_goto hx hb dM_addTo_38 rfl ?_
        exact ih (J + 1) _ H locs ls (by omega) (by omega) ((wr_mu _ (by omega)).tr (rad_s hT (by omega) (by omega) hne hsJ (by omega))) (hF.mu _ _) hP hS hl
  refine lv_iload_n hx hb dM_addTo_0 rfl (lv_at hl 3 rfl) ?_
  refine lv_istore hx hb dM_addTo_1 hl (by decide) rfl (fun ls hl => ?_)
  have hl : lv_has ls 6 [(5, .int (ji ((st:Int)))), (0, .ref (E.2.1 28)), (1, .int (ji ((to:Int)))), (2, .int (ji ((fr:Int)))), (3, .int (ji ((st:Int)))), (4, .int (ji ((n:Int))))] := hl
  exact loop1 (n - st) st M s_.heap [] ls (by omega) (by omega) (rad_0 fr to st _) (FrW.rf M) hP hS hl

set_option maxRecDepth 100000 in
set_option maxHeartbeats 4000000 in
theorem kM_bring (l : Launch) (E : En) (hJ : wJ E) (M : Me) (n : Nat) (hn4 : n ≤ 4) (k : Nat) (hk9 : k < n) (hT0 : ∀ a b, k ≤ a → a < n → k ≤ b → b < n → b64 (wr M a b)) : MM l yM_bring wsM_bring (rmd 1) E M [.ref (E.2.1 28), .int (ji ((k:Int))), .int (ji ((n:Int)))] (fun v M9 => (∃ r : Prop, v = some (.int (ji (bi r))) ∧ bpR n k (wr M) r (wr M9)) ∧ FrW M M9) := by
  refine MM.ofG (by decide +kernel) (Nat.le_of_ble_eq_true rfl) ?_
  intro p_ e_ s_ m_ a_ b_ t_ c_ hx hb hml hr hk hg hown hK hP hS ls hl
  have hl : lv_has ls 7 [(0, .ref (E.2.1 28)), (1, .int (ji ((k:Int)))), (2, .int (ji ((n:Int))))] := hl
  have hd64 : ∀ i, k ≤ i → i < n → b64 (M 31 (5 * i)) := fun i h1 h2 => by
    have := hT0 i i h1 h2 h1 h2
    unfold wr at this
    rw [show 4 * i + i = 5 * i by omega] at this
    exact this
  have hdg : ∀ i, M 31 (5 * i) = wr M i i := fun i => by
    unfold wr
    rw [show 4 * i + i = 5 * i by omega]
  -- the end: the pivot is at t
  have k111 : ∀ (t : Nat) (M1 : Me) (H : Heap) (locs : List Loc) (ls : Array Slot), k ≤ t → t < n → (∀ B, eqn n B (swT t k (wr M1)) → bpR n k (wr M) True B) → FrW M M1 → wP E M1 H → va_S (wA E) s_.heap H locs → lv_has ls 7 [(3, .int (ji ((t:Int)))), (0, .ref (E.2.1 28)), (1, .int (ji ((k:Int)))), (2, .int (ji ((n:Int))))] → W p_ l e_ (rmd 1) s_ m_ a_ b_ t_ c_ H locs 0 0 (XQ b_ (mmQ E (fun v M9 => (∃ r : Prop, v = some (.int (ji (bi r))) ∧ bpR n k (wr M) r (wr M9)) ∧ FrW M M9)) a_ s_ 0 0 (wA E)) (F0 m_ 111 ls []) := by
    intro t M1 H locs ls hkt htn hpost hF1 hP hS hl
    have k242 : ∀ (M2 : Me) (H : Heap) (locs : List Loc) (ls : Array Slot), eqn n (wr M2) (swT t k (wr M1)) → FrW M M2 → wP E M2 H → va_S (wA E) s_.heap H locs → lv_has ls 7 [(3, .int (ji ((t:Int)))), (0, .ref (E.2.1 28)), (1, .int (ji ((k:Int)))), (2, .int (ji ((n:Int))))] → W p_ l e_ (rmd 1) s_ m_ a_ b_ t_ c_ H locs 0 0 (XQ b_ (mmQ E (fun v M9 => (∃ r : Prop, v = some (.int (ji (bi r))) ∧ bpR n k (wr M) r (wr M9)) ∧ FrW M M9)) a_ s_ 0 0 (wA E)) (F0 m_ 242 ls []) := by
      intro M2 H locs ls hT hF hP hS hl
      refine lv_iload_n hx hb dM_bring_242 rfl (lv_at hl 0 rfl) ?_
      refine j_if_lt hx hb (by omega) dM_bring_243 rfl (fun h1 => ?_) (fun h1 => ?_)
      · omega
      · refine j_iconst hx hb dM_bring_246 ?_
        refine lv_goto hx hb dM_bring_247 rfl ?_
        exact mm_zret hx hb hr hk hP hS dM_bring_251 nar_1 ⟨⟨True, by rw [bi_t trivial], hpost _ hT⟩, hF⟩
    refine lv_iload_n hx hb dM_bring_111 rfl (lv_at hl 0 rfl) ?_
    refine lv_iload_n hx hb dM_bring_112 rfl (lv_at hl 2 rfl) ?_
    refine j_icmp_le hx hb (by omega) (by omega) dM_bring_113 rfl (fun h1 => ?_) (fun h1 => ?_)
    · refine k242 M1 H locs ls ?_ hF1 hP hS hl
      rw [show t = k by omega, swT_id]
      exact eqn.rf _ _
    · have loop2 : ∀ (T1 : Mt) (_ : eq4 T1 (rsw k t n (wr M1))) (N J : Nat) (M2 : Me) (H : Heap) (locs : List Loc) (ls : Array Slot), J + N = n → eq4 (wr M2) (csw k t J T1) → FrW M M2 → wP E M2 H → va_S (wA E) s_.heap H locs → lv_has ls 7 [(4, .int (ji ((J:Int)))), (3, .int (ji ((t:Int)))), (0, .ref (E.2.1 28)), (1, .int (ji ((k:Int)))), (2, .int (ji ((n:Int))))] → W p_ l e_ (rmd 1) s_ m_ a_ b_ t_ c_ H locs 0 0 (XQ b_ (mmQ E (fun v M9 => (∃ r : Prop, v = some (.int (ji (bi r))) ∧ bpR n k (wr M) r (wr M9)) ∧ FrW M M9)) a_ s_ 0 0 (wA E)) (F0 m_ 182 ls []) := by
        intro T1 hT1 N
        induction N with
        | zero =>
          intro J M2 H locs ls h0 hT hF hP hS hl
          refine lv_iload hx hb dM_bring_182 (lv_at hl 0 rfl) ?_
          refine lv_iload_n hx hb dM_bring_184 rfl (lv_at hl 4 rfl) ?_
          refine j_icmp_ge hx hb (by omega) (by omega) dM_bring_185 rfl (fun h2 => ?_) (fun h2 => ?_)
          · exact k242 M2 H locs ls (by rw [swT_cm]; exact sw_end hT1 (by rw [show n = J by omega]; exact hT) hn4 hk9 htn) hF hP hS (lv_sub hl [1, 2, 3, 4] rfl)
          · omega
        | succ N ih =>
          intro J M2 H locs ls h0 hT hF hP hS hl
          refine lv_iload hx hb dM_bring_182 (lv_at hl 0 rfl) ?_
          refine lv_iload_n hx hb dM_bring_184 rfl (lv_at hl 4 rfl) ?_
          refine j_icmp_ge hx hb (by omega) (by omega) dM_bring_185 rfl (fun h2 => ?_) (fun h2 => ?_)
          · omega
          · refine lv_aload_n hx hb dM_bring_188 rfl (lv_at hl 2 rfl) ?_
            refine m_get (C := "RationalFormsModel") (T := TxM) (N := 13) hx hb hg uwM hown hK hP (by omega) (sh_M E _) rfl 2 (by decide) wd461 rfl dM_bring_189 ?_
            refine j_iconst hx hb dM_bring_192 ?_
            refine lv_iload hx hb dM_bring_193 (lv_at hl 0 rfl) ?_
            refine j_imul hx hb dM_bring_195 ?_
            refine lv_iload_n hx hb dM_bring_196 rfl (lv_at hl 3 rfl) ?_
            refine j_iadd hx hb dM_bring_197 ?_
            refine m_lald (n := 4 * J + k) hx hb hK hP (by omega) (sh_31 E _) (by omega) (by omega) (by decide) dM_bring_198 ?_
            refine lv_lstore hx hb dM_bring_199 hl (by decide) rfl (fun ls hl => ?_)
            have hl : lv_has ls 7 [(5, .long (jl (M2 31 (4 * J + k)))), (4, .int (ji ((J:Int)))), (3, .int (ji ((t:Int)))), (0, .ref (E.2.1 28)), (1, .int (ji ((k:Int)))), (2, .int (ji ((n:Int))))] := hl
            refine lv_aload_n hx hb dM_bring_201 rfl (lv_at hl 3 rfl) ?_
            refine m_get (C := "RationalFormsModel") (T := TxM) (N := 13) hx hb hg uwM hown hK hP (by omega) (sh_M E _) rfl 2 (by decide) wd461 rfl dM_bring_202 ?_
            refine j_iconst hx hb dM_bring_205 ?_
            refine lv_iload hx hb dM_bring_206 (lv_at hl 1 rfl) ?_
            refine j_imul hx hb dM_bring_208 ?_
            refine lv_iload_n hx hb dM_bring_209 rfl (lv_at hl 4 rfl) ?_
            refine j_iadd hx hb dM_bring_210 ?_
            refine lv_aload_n hx hb dM_bring_211 rfl (lv_at hl 3 rfl) ?_
            refine m_get (C := "RationalFormsModel") (T := TxM) (N := 13) hx hb hg uwM hown hK hP (by omega) (sh_M E _) rfl 2 (by decide) wd461 rfl dM_bring_212 ?_
            refine j_iconst hx hb dM_bring_215 ?_
            refine lv_iload hx hb dM_bring_216 (lv_at hl 1 rfl) ?_
            refine j_imul hx hb dM_bring_218 ?_
            refine lv_iload_n hx hb dM_bring_219 rfl (lv_at hl 2 rfl) ?_
            refine j_iadd hx hb dM_bring_220 ?_
            refine m_lald (n := 4 * J + t) hx hb hK hP (by omega) (sh_31 E _) (by omega) (by omega) (by decide) dM_bring_221 ?_
            refine m_last (n := 4 * J + k) hx hb hK hJ hP hS (by omega) (fun r => sh_31 E r) (by omega) (by omega) (by decide) dM_bring_222 (fun H locs hP hS => ?_)
            refine lv_aload_n hx hb dM_bring_223 rfl (lv_at hl 3 rfl) ?_
            refine m_get (C := "RationalFormsModel") (T := TxM) (N := 13) hx hb hg uwM hown hK hP (by omega) (sh_M E _) rfl 2 (by decide) wd461 rfl dM_bring_224 ?_
            refine j_iconst hx hb dM_bring_227 ?_
            refine lv_iload hx hb dM_bring_228 (lv_at hl 1 rfl) ?_
            refine j_imul hx hb dM_bring_230 ?_
            refine lv_iload_n hx hb dM_bring_231 rfl (lv_at hl 2 rfl) ?_
            refine j_iadd hx hb dM_bring_232 ?_
            refine lv_lload hx hb dM_bring_233 (lv_at hl 0 rfl) ?_
            refine m_last (n := 4 * J + t) hx hb hK hJ hP hS (by omega) (fun r => sh_31 E r) (by omega) (by omega) (by decide) dM_bring_235 (fun H locs hP hS => ?_)
            refine lv_iinc (k := 1) (v := ji (((J:Int)) + 1)) hx hb dM_bring_236 hl rfl (Int32.ofInt_add _ _).symm (by decide) rfl (fun ls hl => ?_)
            have hl : lv_has ls 7 [(4, .int (ji (((J:Int)) + 1))), (5, .long (jl (M2 31 (4 * J + k)))), (3, .int (ji ((t:Int)))), (0, .ref (E.2.1 28)), (1, .int (ji ((k:Int)))), (2, .int (ji ((n:Int))))] := hl
            refine lv_goto hx hb dM_bring_239 rfl ?_
            exact ih (J + 1) _ H locs ls (by omega) ((wr_mu2 _ _ (by omega) (by omega)).tr (csw_s hT (by omega) (by omega) (by omega))) ((hF.mu _ _).mu _ _) hP hS (lv_sub hl [0, 2, 3, 4, 5] rfl)
      have loop1 : ∀ (N J : Nat) (M2 : Me) (H : Heap) (locs : List Loc) (ls : Array Slot), J + N = n → eq4 (wr M2) (rsw k t J (wr M1)) → FrW M M2 → wP E M2 H → va_S (wA E) s_.heap H locs → lv_has ls 7 [(4, .int (ji ((J:Int)))), (3, .int (ji ((t:Int)))), (0, .ref (E.2.1 28)), (1, .int (ji ((k:Int)))), (2, .int (ji ((n:Int))))] → W p_ l e_ (rmd 1) s_ m_ a_ b_ t_ c_ H locs 0 0 (XQ b_ (mmQ E (fun v M9 => (∃ r : Prop, v = some (.int (ji (bi r))) ∧ bpR n k (wr M) r (wr M9)) ∧ FrW M M9)) a_ s_ 0 0 (wA E)) (F0 m_ 119 ls []) := by
        intro N
        induction N with
        | zero =>
          intro J M2 H locs ls h0 hT hF hP hS hl
          refine lv_iload hx hb dM_bring_119 (lv_at hl 0 rfl) ?_
          refine lv_iload_n hx hb dM_bring_121 rfl (lv_at hl 4 rfl) ?_
          refine j_icmp_ge hx hb (by omega) (by omega) dM_bring_122 rfl (fun h2 => ?_) (fun h2 => ?_)
          · refine j_iconst hx hb dM_bring_179 ?_
            refine lv_istore hx hb dM_bring_180 hl (by decide) rfl (fun ls hl => ?_)
            have hl : lv_has ls 7 [(4, .int (ji 0)), (3, .int (ji ((t:Int)))), (0, .ref (E.2.1 28)), (1, .int (ji ((k:Int)))), (2, .int (ji ((n:Int))))] := hl
            exact loop2 (wr M2) (by rw [show n = J by omega]; exact hT) n 0 M2 H locs ls (by omega) (csw_0 k t _) hF hP hS hl
          · omega
        | succ N ih =>
          intro J M2 H locs ls h0 hT hF hP hS hl
          refine lv_iload hx hb dM_bring_119 (lv_at hl 0 rfl) ?_
          refine lv_iload_n hx hb dM_bring_121 rfl (lv_at hl 4 rfl) ?_
          refine j_icmp_ge hx hb (by omega) (by omega) dM_bring_122 rfl (fun h2 => ?_) (fun h2 => ?_)
          · omega
          · refine lv_aload_n hx hb dM_bring_125 rfl (lv_at hl 2 rfl) ?_
            refine m_get (C := "RationalFormsModel") (T := TxM) (N := 13) hx hb hg uwM hown hK hP (by omega) (sh_M E _) rfl 2 (by decide) wd461 rfl dM_bring_126 ?_
            refine j_iconst hx hb dM_bring_129 ?_
            refine lv_iload_n hx hb dM_bring_130 rfl (lv_at hl 3 rfl) ?_
            refine j_imul hx hb dM_bring_131 ?_
            refine lv_iload hx hb dM_bring_132 (lv_at hl 0 rfl) ?_
            refine j_iadd hx hb dM_bring_134 ?_
            refine m_lald (n := 4 * k + J) hx hb hK hP (by omega) (sh_31 E _) (by omega) (by omega) (by decide) dM_bring_135 ?_
            refine lv_lstore hx hb dM_bring_136 hl (by decide) rfl (fun ls hl => ?_)
            have hl : lv_has ls 7 [(5, .long (jl (M2 31 (4 * k + J)))), (4, .int (ji ((J:Int)))), (3, .int (ji ((t:Int)))), (0, .ref (E.2.1 28)), (1, .int (ji ((k:Int)))), (2, .int (ji ((n:Int))))] := hl
            refine lv_aload_n hx hb dM_bring_138 rfl (lv_at hl 3 rfl) ?_
            refine m_get (C := "RationalFormsModel") (T := TxM) (N := 13) hx hb hg uwM hown hK hP (by omega) (sh_M E _) rfl 2 (by decide) wd461 rfl dM_bring_139 ?_
            refine j_iconst hx hb dM_bring_142 ?_
            refine lv_iload_n hx hb dM_bring_143 rfl (lv_at hl 4 rfl) ?_
            refine j_imul hx hb dM_bring_144 ?_
            refine lv_iload hx hb dM_bring_145 (lv_at hl 1 rfl) ?_
            refine j_iadd hx hb dM_bring_147 ?_
            refine lv_aload_n hx hb dM_bring_148 rfl (lv_at hl 3 rfl) ?_
            refine m_get (C := "RationalFormsModel") (T := TxM) (N := 13) hx hb hg uwM hown hK hP (by omega) (sh_M E _) rfl 2 (by decide) wd461 rfl dM_bring_149 ?_
            refine j_iconst hx hb dM_bring_152 ?_
            refine lv_iload_n hx hb dM_bring_153 rfl (lv_at hl 2 rfl) ?_
            refine j_imul hx hb dM_bring_154 ?_
            refine lv_iload hx hb dM_bring_155 (lv_at hl 1 rfl) ?_
            refine j_iadd hx hb dM_bring_157 ?_
            refine m_lald (n := 4 * t + J) hx hb hK hP (by omega) (sh_31 E _) (by omega) (by omega) (by decide) dM_bring_158 ?_
            refine m_last (n := 4 * k + J) hx hb hK hJ hP hS (by omega) (fun r => sh_31 E r) (by omega) (by omega) (by decide) dM_bring_159 (fun H locs hP hS => ?_)
            refine lv_aload_n hx hb dM_bring_160 rfl (lv_at hl 3 rfl) ?_
            refine m_get (C := "RationalFormsModel") (T := TxM) (N := 13) hx hb hg uwM hown hK hP (by omega) (sh_M E _) rfl 2 (by decide) wd461 rfl dM_bring_161 ?_
            refine j_iconst hx hb dM_bring_164 ?_
            refine lv_iload_n hx hb dM_bring_165 rfl (lv_at hl 2 rfl) ?_
            refine j_imul hx hb dM_bring_166 ?_
            refine lv_iload hx hb dM_bring_167 (lv_at hl 1 rfl) ?_
            refine j_iadd hx hb dM_bring_169 ?_
            refine lv_lload hx hb dM_bring_170 (lv_at hl 0 rfl) ?_
            refine m_last (n := 4 * t + J) hx hb hK hJ hP hS (by omega) (fun r => sh_31 E r) (by omega) (by omega) (by decide) dM_bring_172 (fun H locs hP hS => ?_)
            refine lv_iinc (k := 1) (v := ji (((J:Int)) + 1)) hx hb dM_bring_173 hl rfl (Int32.ofInt_add _ _).symm (by decide) rfl (fun ls hl => ?_)
            have hl : lv_has ls 7 [(4, .int (ji (((J:Int)) + 1))), (5, .long (jl (M2 31 (4 * k + J)))), (3, .int (ji ((t:Int)))), (0, .ref (E.2.1 28)), (1, .int (ji ((k:Int)))), (2, .int (ji ((n:Int))))] := hl
            refine lv_goto hx hb dM_bring_176 rfl ?_
            exact ih (J + 1) _ H locs ls (by omega) ((wr_mu2 _ _ (by omega) (by omega)).tr (rsw_s hT (by omega) (by omega) (by omega))) ((hF.mu _ _).mu _ _) hP hS (lv_sub hl [0, 2, 3, 4, 5] rfl)
      refine j_iconst hx hb dM_bring_116 ?_
      refine lv_istore hx hb dM_bring_117 hl (by decide) rfl (fun ls hl => ?_)
      have hl : lv_has ls 7 [(4, .int (ji 0)), (3, .int (ji ((t:Int)))), (0, .ref (E.2.1 28)), (1, .int (ji ((k:Int)))), (2, .int (ji ((n:Int))))] := hl
      exact loop1 n 0 M1 H locs ls (by omega) (rsw_0 k t _) hF1 hP hS hl
  -- a pivot has been found: the loops run out
  have spin : ∀ (t : Nat) (M1 : Me) (H : Heap) (locs : List Loc), k ≤ t → t < n → (∀ B, eqn n B (swT t k (wr M1)) → bpR n k (wr M) True B) → FrW M M1 → wP E M1 H → va_S (wA E) s_.heap H locs → ∀ (N i : Nat) (ls : Array Slot), i + N = n → (∀ (j : Nat) (ls : Array Slot), j ≤ n → lv_has ls 7 [(5, .int (ji ((j:Int)))), (4, .int (ji ((i:Int)))), (3, .int (ji ((t:Int)))), (0, .ref (E.2.1 28)), (1, .int (ji ((k:Int)))), (2, .int (ji ((n:Int))))] → W p_ l e_ (rmd 1) s_ m_ a_ b_ t_ c_ H locs 0 0 (XQ b_ (mmQ E (fun v M9 => (∃ r : Prop, v = some (.int (ji (bi r))) ∧ bpR n k (wr M) r (wr M9)) ∧ FrW M M9)) a_ s_ 0 0 (wA E)) (F0 m_ 59 ls [])) ∧ (lv_has ls 7 [(4, .int (ji ((i:Int)))), (3, .int (ji ((t:Int)))), (0, .ref (E.2.1 28)), (1, .int (ji ((k:Int)))), (2, .int (ji ((n:Int))))] → W p_ l e_ (rmd 1) s_ m_ a_ b_ t_ c_ H locs 0 0 (XQ b_ (mmQ E (fun v M9 => (∃ r : Prop, v = some (.int (ji (bi r))) ∧ bpR n k (wr M) r (wr M9)) ∧ FrW M M9)) a_ s_ 0 0 (wA E)) (F0 m_ 47 ls [])) := by
    intro t M1 H locs hkt htn hpost hF1 hP hS N
    have inner : ∀ (i : Nat) (_ : i ≤ 4) (_ : ∀ ls, lv_has ls 7 [(4, .int (ji ((i:Int) + 1))), (3, .int (ji ((t:Int)))), (0, .ref (E.2.1 28)), (1, .int (ji ((k:Int)))), (2, .int (ji ((n:Int))))] → W p_ l e_ (rmd 1) s_ m_ a_ b_ t_ c_ H locs 0 0 (XQ b_ (mmQ E (fun v M9 => (∃ r : Prop, v = some (.int (ji (bi r))) ∧ bpR n k (wr M) r (wr M9)) ∧ FrW M M9)) a_ s_ 0 0 (wA E)) (F0 m_ 47 ls [])) (K j : Nat) (ls : Array Slot), j + K = n → lv_has ls 7 [(5, .int (ji ((j:Int)))), (4, .int (ji ((i:Int)))), (3, .int (ji ((t:Int)))), (0, .ref (E.2.1 28)), (1, .int (ji ((k:Int)))), (2, .int (ji ((n:Int))))] → W p_ l e_ (rmd 1) s_ m_ a_ b_ t_ c_ H locs 0 0 (XQ b_ (mmQ E (fun v M9 => (∃ r : Prop, v = some (.int (ji (bi r))) ∧ bpR n k (wr M) r (wr M9)) ∧ FrW M M9)) a_ s_ 0 0 (wA E)) (F0 m_ 59 ls []) := by
      intro i hi4 hnx K
      induction K with
      | zero =>
        intro j ls h1 hl
        refine lv_iload hx hb dM_bring_59 (lv_at hl 0 rfl) ?_
        refine lv_iload_n hx hb dM_bring_61 rfl (lv_at hl 5 rfl) ?_
        refine j_icmp_ge hx hb (by omega) (by omega) dM_bring_62 rfl (fun h2 => ?_) (fun h2 => ?_)
        · refine lv_iinc (k := 1) (v := ji (((i:Int)) + 1)) hx hb dM_bring_105 hl rfl (Int32.ofInt_add _ _).symm (by decide) rfl (fun ls hl => ?_)
          have hl : lv_has ls 7 [(4, .int (ji (((i:Int)) + 1))), (5, .int (ji ((j:Int)))), (3, .int (ji ((t:Int)))), (0, .ref (E.2.1 28)), (1, .int (ji ((k:Int)))), (2, .int (ji ((n:Int))))] := hl
          refine lv_goto hx hb dM_bring_108 rfl ?_
          exact hnx ls (lv_sub hl [0, 2, 3, 4, 5] rfl)
        · omega
      | succ K ihK =>
        intro j ls h1 hl
        refine lv_iload hx hb dM_bring_59 (lv_at hl 0 rfl) ?_
        refine lv_iload_n hx hb dM_bring_61 rfl (lv_at hl 5 rfl) ?_
        refine j_icmp_ge hx hb (by omega) (by omega) dM_bring_62 rfl (fun h2 => ?_) (fun h2 => ?_)
        · omega
        · refine lv_iload_n hx hb dM_bring_65 rfl (lv_at hl 2 rfl) ?_
          refine j_if_ge hx hb (by omega) dM_bring_66 rfl (fun h3 => ?_) (fun h3 => ?_)
          · refine lv_iinc (k := 0) (v := ji (((j:Int)) + 1)) hx hb dM_bring_99 hl rfl (Int32.ofInt_add _ _).symm (by decide) rfl (fun ls hl => ?_)
            have hl : lv_has ls 7 [(5, .int (ji (((j:Int)) + 1))), (4, .int (ji ((i:Int)))), (3, .int (ji ((t:Int)))), (0, .ref (E.2.1 28)), (1, .int (ji ((k:Int)))), (2, .int (ji ((n:Int))))] := hl
            refine lv_goto hx hb dM_bring_102 rfl ?_
            exact ihK (j + 1) ls (by omega) hl
          · omega
    induction N with
    | zero =>
      intro i ls h0
      have a47 : ∀ ls, lv_has ls 7 [(4, .int (ji ((i:Int)))), (3, .int (ji ((t:Int)))), (0, .ref (E.2.1 28)), (1, .int (ji ((k:Int)))), (2, .int (ji ((n:Int))))] → W p_ l e_ (rmd 1) s_ m_ a_ b_ t_ c_ H locs 0 0 (XQ b_ (mmQ E (fun v M9 => (∃ r : Prop, v = some (.int (ji (bi r))) ∧ bpR n k (wr M) r (wr M9)) ∧ FrW M M9)) a_ s_ 0 0 (wA E)) (F0 m_ 47 ls []) := by
        intro ls hl
        refine lv_iload hx hb dM_bring_47 (lv_at hl 0 rfl) ?_
        refine lv_iload_n hx hb dM_bring_49 rfl (lv_at hl 4 rfl) ?_
        refine j_icmp_ge hx hb (by omega) (by omega) dM_bring_50 rfl (fun h1 => ?_) (fun h1 => ?_)
        · exact k111 t M1 H locs ls hkt htn hpost hF1 hP hS (lv_sub hl [1, 2, 3, 4] rfl)
        · omega
      have b47 : ∀ ls, lv_has ls 7 [(4, .int (ji ((i:Int) + 1))), (3, .int (ji ((t:Int)))), (0, .ref (E.2.1 28)), (1, .int (ji ((k:Int)))), (2, .int (ji ((n:Int))))] → W p_ l e_ (rmd 1) s_ m_ a_ b_ t_ c_ H locs 0 0 (XQ b_ (mmQ E (fun v M9 => (∃ r : Prop, v = some (.int (ji (bi r))) ∧ bpR n k (wr M) r (wr M9)) ∧ FrW M M9)) a_ s_ 0 0 (wA E)) (F0 m_ 47 ls []) := by
        intro ls hl
        refine lv_iload hx hb dM_bring_47 (lv_at hl 0 rfl) ?_
        refine lv_iload_n hx hb dM_bring_49 rfl (lv_at hl 4 rfl) ?_
        refine j_icmp_ge hx hb (by omega) (by omega) dM_bring_50 rfl (fun h1 => ?_) (fun h1 => ?_)
        · exact k111 t M1 H locs ls hkt htn hpost hF1 hP hS (lv_sub hl [1, 2, 3, 4] rfl)
        · omega
      exact ⟨fun j ls hj hl => inner i (by omega) b47 (n - j) j ls (by omega) hl, a47 ls⟩
    | succ N ih =>
      intro i ls h0
      have a47 : ∀ ls, lv_has ls 7 [(4, .int (ji ((i:Int)))), (3, .int (ji ((t:Int)))), (0, .ref (E.2.1 28)), (1, .int (ji ((k:Int)))), (2, .int (ji ((n:Int))))] → W p_ l e_ (rmd 1) s_ m_ a_ b_ t_ c_ H locs 0 0 (XQ b_ (mmQ E (fun v M9 => (∃ r : Prop, v = some (.int (ji (bi r))) ∧ bpR n k (wr M) r (wr M9)) ∧ FrW M M9)) a_ s_ 0 0 (wA E)) (F0 m_ 47 ls []) := by
        intro ls hl
        refine lv_iload hx hb dM_bring_47 (lv_at hl 0 rfl) ?_
        refine lv_iload_n hx hb dM_bring_49 rfl (lv_at hl 4 rfl) ?_
        refine j_icmp_ge hx hb (by omega) (by omega) dM_bring_50 rfl (fun h1 => ?_) (fun h1 => ?_)
        · omega
        · refine lv_iload hx hb dM_bring_53 (lv_at hl 0 rfl) ?_
          refine j_iconst hx hb dM_bring_55 ?_
          refine j_iadd hx hb dM_bring_56 ?_
          refine lv_istore hx hb dM_bring_57 hl (by decide) rfl (fun ls hl => ?_)
          have hl : lv_has ls 7 [(5, .int (ji (((i:Int)) + 1))), (4, .int (ji ((i:Int)))), (3, .int (ji ((t:Int)))), (0, .ref (E.2.1 28)), (1, .int (ji ((k:Int)))), (2, .int (ji ((n:Int))))] := hl
          exact inner i (by omega) (fun ls hl => (ih (i + 1) ls (by omega)).2 hl) (n - (i + 1)) (i + 1) ls (by omega) hl
      exact ⟨fun j ls hj hl => inner i (by omega) (fun ls hl => (ih (i + 1) ls (by omega)).2 hl) (n - j) j ls (by omega) hl, a47 ls⟩
  have outer : ∀ (hd : ∀ m, k ≤ m → m < n → wr M m m = 0) (N i : Nat) (ls : Array Slot), i + N = n → k ≤ i → (∀ x y, k ≤ x → x < y → y < n → x < i → wr M x y = 0) → lv_has ls 7 [(4, .int (ji ((i:Int)))), (3, .int (ji (-1))), (0, .ref (E.2.1 28)), (1, .int (ji ((k:Int)))), (2, .int (ji ((n:Int))))] → W p_ l e_ (rmd 1) s_ m_ a_ b_ t_ c_ s_.heap [] 0 0 (XQ b_ (mmQ E (fun v M9 => (∃ r : Prop, v = some (.int (ji (bi r))) ∧ bpR n k (wr M) r (wr M9)) ∧ FrW M M9)) a_ s_ 0 0 (wA E)) (F0 m_ 47 ls []) := by
    intro hd N
    induction N with
    | zero =>
      intro i ls h0 hki hz hl
      refine lv_iload hx hb dM_bring_47 (lv_at hl 0 rfl) ?_
      refine lv_iload_n hx hb dM_bring_49 rfl (lv_at hl 4 rfl) ?_
      refine j_icmp_ge hx hb (by omega) (by omega) dM_bring_50 rfl (fun h1 => ?_) (fun h1 => ?_)
      · refine lv_iload_n hx hb dM_bring_111 rfl (lv_at hl 1 rfl) ?_
        refine lv_iload_n hx hb dM_bring_112 rfl (lv_at hl 3 rfl) ?_
        refine j_icmp_le hx hb (by omega) (by omega) dM_bring_113 rfl (fun h2 => ?_) (fun h2 => ?_)
        · refine lv_iload_n hx hb dM_bring_242 rfl (lv_at hl 1 rfl) ?_
          refine j_if_lt hx hb (by omega) dM_bring_243 rfl (fun h3 => ?_) (fun h3 => ?_)
          · refine j_iconst hx hb dM_bring_250 ?_
            exact mm_zret hx hb hr hk hP hS dM_bring_251 nar_0 ⟨⟨False, by rw [bi_f id], Or.inr (Or.inr ⟨hd, fun x y x1 x2 x3 => hz x y x1 x2 x3 (by omega), id, eqn.rf _ _⟩)⟩, FrW.rf M⟩
          · omega
        · omega
      · omega
    | succ N ih =>
      intro i ls h0 hki hz hl
      have inner : ∀ (K j : Nat) (ls : Array Slot), j + K = n → i < j → (∀ y, i < y → y < j → wr M i y = 0) → lv_has ls 7 [(5, .int (ji ((j:Int)))), (4, .int (ji ((i:Int)))), (3, .int (ji (-1))), (0, .ref (E.2.1 28)), (1, .int (ji ((k:Int)))), (2, .int (ji ((n:Int))))] → W p_ l e_ (rmd 1) s_ m_ a_ b_ t_ c_ s_.heap [] 0 0 (XQ b_ (mmQ E (fun v M9 => (∃ r : Prop, v = some (.int (ji (bi r))) ∧ bpR n k (wr M) r (wr M9)) ∧ FrW M M9)) a_ s_ 0 0 (wA E)) (F0 m_ 59 ls []) := by
        intro K
        induction K with
        | zero =>
          intro j ls h1 hij hz2 hl
          refine lv_iload hx hb dM_bring_59 (lv_at hl 0 rfl) ?_
          refine lv_iload_n hx hb dM_bring_61 rfl (lv_at hl 5 rfl) ?_
          refine j_icmp_ge hx hb (by omega) (by omega) dM_bring_62 rfl (fun h2 => ?_) (fun h2 => ?_)
          · refine lv_iinc (k := 1) (v := ji (((i:Int)) + 1)) hx hb dM_bring_105 hl rfl (Int32.ofInt_add _ _).symm (by decide) rfl (fun ls hl => ?_)
            have hl : lv_has ls 7 [(4, .int (ji (((i:Int)) + 1))), (5, .int (ji ((j:Int)))), (3, .int (ji (-1))), (0, .ref (E.2.1 28)), (1, .int (ji ((k:Int)))), (2, .int (ji ((n:Int))))] := hl
            refine lv_goto hx hb dM_bring_108 rfl ?_
            refine ih (i + 1) ls (by omega) (by omega) (fun x y x1 x2 x3 x4 => ?_) (lv_sub hl [0, 2, 3, 4, 5] rfl)
            by_cases hxi : x = i
            · rw [hxi]; exact hz2 y (by omega) (by omega)
            · exact hz x y x1 x2 x3 (by omega)
          · omega
        | succ K ihK =>
          intro j ls h1 hij hz2 hl
          refine lv_iload hx hb dM_bring_59 (lv_at hl 0 rfl) ?_
          refine lv_iload_n hx hb dM_bring_61 rfl (lv_at hl 5 rfl) ?_
          refine j_icmp_ge hx hb (by omega) (by omega) dM_bring_62 rfl (fun h2 => ?_) (fun h2 => ?_)
          · omega
          · refine lv_iload_n hx hb dM_bring_65 rfl (lv_at hl 2 rfl) ?_
            refine j_if_ge hx hb (by omega) dM_bring_66 rfl (fun h3 => ?_) (fun h3 => ?_)
            · omega
            · refine lv_aload_n hx hb dM_bring_69 rfl (lv_at hl 3 rfl) ?_
              refine m_get (C := "RationalFormsModel") (T := TxM) (N := 13) hx hb hg uwM hown hK hP (by omega) (sh_M E _) rfl 2 (by decide) wd461 rfl dM_bring_70 ?_
              refine j_iconst hx hb dM_bring_73 ?_
              refine lv_iload hx hb dM_bring_74 (lv_at hl 1 rfl) ?_
              refine j_imul hx hb dM_bring_76 ?_
              refine lv_iload hx hb dM_bring_77 (lv_at hl 0 rfl) ?_
              refine j_iadd hx hb dM_bring_79 ?_
              refine m_lald (n := 4 * i + j) hx hb hK hP (by omega) (sh_31 E _) (by omega) (by omega) (by decide) dM_bring_80 ?_
              refine j_lconst0 hx hb dM_bring_81 ?_
              refine j_lc_eq hx hb (hT0 i j (by omega) (by omega) (by omega) (by omega)) (by decide) dM_bring_82 dM_bring_83 rfl (fun h4 => ?_) (fun h4 => ?_)
              · refine lv_iinc (k := 0) (v := ji (((j:Int)) + 1)) hx hb dM_bring_99 hl rfl (Int32.ofInt_add _ _).symm (by decide) rfl (fun ls hl => ?_)
                have hl : lv_has ls 7 [(5, .int (ji (((j:Int)) + 1))), (4, .int (ji ((i:Int)))), (3, .int (ji (-1))), (0, .ref (E.2.1 28)), (1, .int (ji ((k:Int)))), (2, .int (ji ((n:Int))))] := hl
                refine lv_goto hx hb dM_bring_102 rfl ?_
                refine ihK (j + 1) ls (by omega) (by omega) (fun y y1 y2 => ?_) hl
                by_cases hyj : y = j
                · rw [hyj]; exact h4
                · exact hz2 y y1 (by omega)
              · refine lv_iload hx hb dM_bring_86 (lv_at hl 1 rfl) ?_
                refine lv_istore_n hx hb dM_bring_88 rfl hl (by decide) rfl (fun ls hl => ?_)
                have hl : lv_has ls 7 [(3, .int (ji ((i:Int)))), (5, .int (ji ((j:Int)))), (4, .int (ji ((i:Int)))), (0, .ref (E.2.1 28)), (1, .int (ji ((k:Int)))), (2, .int (ji ((n:Int))))] := hl
                refine lv_aload_n hx hb dM_bring_89 rfl (lv_at hl 3 rfl) ?_
                refine lv_iload hx hb dM_bring_90 (lv_at hl 2 rfl) ?_
                refine lv_iload hx hb dM_bring_92 (lv_at hl 1 rfl) ?_
                refine lv_iload_n hx hb dM_bring_94 rfl (lv_at hl 4 rfl) ?_
                refine lv_iload_n hx hb dM_bring_95 rfl (lv_at hl 5 rfl) ?_
                refine mm_V (As := [.int (ji ((i:Int))), .int (ji ((j:Int))), .int (ji ((k:Int))), .int (ji ((n:Int)))]) (rest := []) hx hb hml hown hg hl hK hP hS (by omega) (sh_M E _) rfl (kM_addTo l E hJ M n hn4 j i k (by omega) (by omega) (by omega) (by omega)) wd531 wd533 wds15 wd5 wd534 ⟨rfl, rfl⟩ (n := 4) (by decide +kernel) rfl ⟨by decide, by decide⟩ rfl (Nat.le_of_ble_eq_true rfl) dM_bring_96 ⟨Nat.zero_le _, Nat.zero_le _⟩ (fun v M3 H locs hq3 hP hS => ?_)
                obtain ⟨rfl, hq4, hq5⟩ := hq3
                refine lv_iinc (k := 1) (v := ji (((j:Int)) + 1)) hx hb dM_bring_99 hl rfl (Int32.ofInt_add _ _).symm (by decide) rfl (fun ls hl => ?_)
                have hl : lv_has ls 7 [(5, .int (ji (((j:Int)) + 1))), (3, .int (ji ((i:Int)))), (4, .int (ji ((i:Int)))), (0, .ref (E.2.1 28)), (1, .int (ji ((k:Int)))), (2, .int (ji ((n:Int))))] := hl
                refine lv_goto hx hb dM_bring_102 rfl ?_
                refine (spin i M3 H locs hki (by omega) (fun B hB => Or.inr (Or.inl ⟨hd, i, j, hki, hij, by omega, h4, fun x y x1 x2 x3 x4 => x4.elim (fun x4 => hz x y x1 x2 x3 x4) (fun x4 => by rw [x4.1]; exact hz2 y (by omega) x4.2), trivial, hB.tr (swT_eqn hq4 (by omega) hk9)⟩)) hq5 hP hS (n - i) i ls (by omega)).1 (j + 1) ls (by omega) (lv_sub hl [0, 2, 1, 3, 4, 5] rfl)
      refine lv_iload hx hb dM_bring_47 (lv_at hl 0 rfl) ?_
      refine lv_iload_n hx hb dM_bring_49 rfl (lv_at hl 4 rfl) ?_
      refine j_icmp_ge hx hb (by omega) (by omega) dM_bring_50 rfl (fun h1 => ?_) (fun h1 => ?_)
      · omega
      · refine lv_iload hx hb dM_bring_53 (lv_at hl 0 rfl) ?_
        refine j_iconst hx hb dM_bring_55 ?_
        refine j_iadd hx hb dM_bring_56 ?_
        refine lv_istore hx hb dM_bring_57 hl (by decide) rfl (fun ls hl => ?_)
        have hl : lv_has ls 7 [(5, .int (ji (((i:Int)) + 1))), (4, .int (ji ((i:Int)))), (3, .int (ji (-1))), (0, .ref (E.2.1 28)), (1, .int (ji ((k:Int)))), (2, .int (ji ((n:Int))))] := hl
        exact inner (n - (i + 1)) (i + 1) ls (by omega) (by omega) (fun y y1 y2 => by omega) hl
  have diag : ∀ (N i : Nat) (z : Int) (ls : Array Slot), i = k + N → i ≤ n → ((z = -1 ∧ ∀ m, i ≤ m → m < n → wr M m m = 0) ∨ (∃ t : Nat, z = t ∧ i ≤ t ∧ t < n ∧ wr M t t ≠ 0 ∧ ∀ m, i ≤ m → m < t → wr M m m = 0)) → lv_has ls 7 [(4, .int (ji ((i:Int) + (-1)))), (3, .int (ji z)), (0, .ref (E.2.1 28)), (1, .int (ji ((k:Int)))), (2, .int (ji ((n:Int))))] → W p_ l e_ (rmd 1) s_ m_ a_ b_ t_ c_ s_.heap [] 0 0 (XQ b_ (mmQ E (fun v M9 => (∃ r : Prop, v = some (.int (ji (bi r))) ∧ bpR n k (wr M) r (wr M9)) ∧ FrW M M9)) a_ s_ 0 0 (wA E)) (F0 m_ 7 ls []) := by
    intro N
    induction N with
    | zero =>
      intro i z ls h0 hin hz hl
      have hzb : -1 ≤ z ∧ z ≤ 4 := by rcases hz with ⟨rfl, _⟩ | ⟨t, rfl, t1, t2, _⟩ <;> omega
      refine lv_iload hx hb dM_bring_7 (lv_at hl 0 rfl) ?_
      refine lv_iload_n hx hb dM_bring_9 rfl (lv_at hl 3 rfl) ?_
      refine j_icmp_lt hx hb (by omega) (by omega) dM_bring_10 rfl (fun h1 => ?_) (fun h1 => ?_)
      · have hik : i = k := by omega
        rw [hik] at hz
        refine lv_iload_n hx hb dM_bring_40 rfl (lv_at hl 1 rfl) ?_
        refine j_if_ge hx hb (by clear hz; omega) dM_bring_41 rfl (fun h2 => ?_) (fun h2 => ?_)
        · rcases hz with hz | ⟨t, rfl, t1, t2, t3, t4⟩
          · omega
          · exact k111 t M _ _ ls t1 t2 (fun B hB => Or.inl ⟨t, t1, t2, t3, t4, trivial, hB⟩) (FrW.rf M) hP hS (lv_sub hl [1, 2, 3, 4] rfl)
        · rcases hz with ⟨rfl, hz⟩ | ⟨t, rfl, t1, t2, t3, t4⟩
          · skip
            refine lv_iload_n hx hb dM_bring_44 rfl (lv_at hl 3 rfl) ?_
            refine lv_istore hx hb dM_bring_45 hl (by decide) rfl (fun ls hl => ?_)
            have hl : lv_has ls 7 [(4, .int (ji ((k:Int)))), (3, .int (ji (-1))), (0, .ref (E.2.1 28)), (1, .int (ji ((k:Int)))), (2, .int (ji ((n:Int))))] := hl
            exact outer hz (n - k) k ls (by omega) (Nat.le_refl _) (fun x y x1 x2 x3 x4 => by omega) hl
          · omega
      · omega
    | succ N ih =>
      intro i' z ls h0 hin hz hl
      obtain ⟨i, rfl⟩ : ∃ i, i' = i + 1 := ⟨k + N, by omega⟩
      rw [show ((i + 1 : Nat) : Int) + (-1) = (i : Int) by omega] at hl
      refine lv_iload hx hb dM_bring_7 (lv_at hl 0 rfl) ?_
      refine lv_iload_n hx hb dM_bring_9 rfl (lv_at hl 3 rfl) ?_
      refine j_icmp_lt hx hb (by omega) (by omega) dM_bring_10 rfl (fun h1 => ?_) (fun h1 => ?_)
      · omega
      · refine lv_aload_n hx hb dM_bring_13 rfl (lv_at hl 2 rfl) ?_
        refine m_get (C := "RationalFormsModel") (T := TxM) (N := 13) hx hb hg uwM hown hK hP (by omega) (sh_M E _) rfl 2 (by decide) wd461 rfl dM_bring_14 ?_
        refine j_iconst hx hb dM_bring_17 ?_
        refine lv_iload hx hb dM_bring_18 (lv_at hl 0 rfl) ?_
        refine j_imul hx hb dM_bring_20 ?_
        refine m_lald (n := 5 * i) hx hb hK hP (by omega) (sh_31 E _) (by omega) (by omega) (by decide) dM_bring_21 ?_
        refine j_lconst0 hx hb dM_bring_22 ?_
        refine j_lc_eq hx hb (hd64 i (by omega) (by omega)) (by decide) dM_bring_23 dM_bring_24 rfl (fun h2 => ?_) (fun h2 => ?_)
        · rw [hdg] at h2
          refine lv_iload_n hx hb dM_bring_32 rfl (lv_at hl 1 rfl) ?_
          refine lv_istore_n hx hb dM_bring_33 rfl hl (by decide) rfl (fun ls hl => ?_)
          have hl : lv_has ls 7 [(3, .int (ji z)), (4, .int (ji ((i:Int)))), (0, .ref (E.2.1 28)), (1, .int (ji ((k:Int)))), (2, .int (ji ((n:Int))))] := hl
          refine lv_iinc (k := 1) (v := ji (((i:Int)) + (-1))) hx hb dM_bring_34 hl rfl (Int32.ofInt_add _ _).symm (by decide) rfl (fun ls hl => ?_)
          have hl : lv_has ls 7 [(4, .int (ji (((i:Int)) + (-1)))), (3, .int (ji z)), (0, .ref (E.2.1 28)), (1, .int (ji ((k:Int)))), (2, .int (ji ((n:Int))))] := hl
          refine lv_goto hx hb dM_bring_37 rfl ?_
          refine ih i z ls (by omega) (by omega) ?_ (lv_sub hl [0, 1, 2, 3, 4] rfl)
          rcases hz with ⟨rfl, hz⟩ | ⟨t, rfl, t1, t2, t3, t4⟩
          · refine Or.inl ⟨rfl, fun m m1 m2 => ?_⟩
            by_cases hmi : m = i
            · rw [hmi]; exact h2
            · exact hz m (by omega) m2
          · refine Or.inr ⟨t, rfl, by omega, t2, t3, fun m m1 m2 => ?_⟩
            by_cases hmi : m = i
            · rw [hmi]; exact h2
            · exact t4 m (by omega) m2
        · rw [hdg] at h2
          refine lv_iload hx hb dM_bring_27 (lv_at hl 0 rfl) ?_
          refine lv_goto hx hb dM_bring_29 rfl ?_
          refine lv_istore_n hx hb dM_bring_33 rfl hl (by decide) rfl (fun ls hl => ?_)
          have hl : lv_has ls 7 [(3, .int (ji ((i:Int)))), (4, .int (ji ((i:Int)))), (0, .ref (E.2.1 28)), (1, .int (ji ((k:Int)))), (2, .int (ji ((n:Int))))] := hl
          refine lv_iinc (k := 1) (v := ji (((i:Int)) + (-1))) hx hb dM_bring_34 hl rfl (Int32.ofInt_add _ _).symm (by decide) rfl (fun ls hl => ?_)
          have hl : lv_has ls 7 [(4, .int (ji (((i:Int)) + (-1)))), (3, .int (ji ((i:Int)))), (0, .ref (E.2.1 28)), (1, .int (ji ((k:Int)))), (2, .int (ji ((n:Int))))] := hl
          refine lv_goto hx hb dM_bring_37 rfl ?_
          exact ih i i ls (by omega) (by omega) (Or.inr ⟨i, rfl, Nat.le_refl _, by omega, h2, fun m m1 m2 => by omega⟩) (lv_sub hl [0, 1, 2, 3, 4] rfl)
  refine j_iconst hx hb dM_bring_0 ?_
  refine lv_istore_n hx hb dM_bring_1 rfl hl (by decide) rfl (fun ls hl => ?_)
  have hl : lv_has ls 7 [(3, .int (ji (-1))), (0, .ref (E.2.1 28)), (1, .int (ji ((k:Int)))), (2, .int (ji ((n:Int))))] := hl
  refine lv_iload_n hx hb dM_bring_2 rfl (lv_at hl 3 rfl) ?_
  refine j_iconst hx hb dM_bring_3 ?_
  refine j_isub hx hb dM_bring_4 ?_
  refine lv_istore hx hb dM_bring_5 hl (by decide) rfl (fun ls hl => ?_)
  have hl : lv_has ls 7 [(4, .int (ji (((n:Int)) - 1))), (3, .int (ji (-1))), (0, .ref (E.2.1 28)), (1, .int (ji ((k:Int)))), (2, .int (ji ((n:Int))))] := hl
  refine diag (n - k) n (-1) ls (by omega) (Nat.le_refl _) (Or.inl ⟨rfl, fun m m1 m2 => by omega⟩) ?_
  rw [show (n : Int) + (-1) = (n : Int) - 1 by omega]
  exact hl
end
section
/-! the reference: look -/
def Sq (p : Nat → Int) (k q : Nat) : Prop := q = 2 ∨ ∃ i, i < k ∧ prm q ∧ q ∣ (sf (p i)).natAbs
theorem Sq_cg {p p' : Nat → Int} {k : Nat} (h : ∀ i, i < k → p' i = p i) (q : Nat) : Sq p' k q ↔ Sq p k q := by
  constructor
  · rintro (h1 | ⟨i, i1, i2, i3⟩)
    · exact Or.inl h1
    · exact Or.inr ⟨i, i1, i2, by rw [← h i i1]; exact i3⟩
  · rintro (h1 | ⟨i, i1, i2, i3⟩)
    · exact Or.inl h1
    · exact Or.inr ⟨i, i1, i2, by rw [h i i1]; exact i3⟩
theorem Sq_Sp {p : Nat → Int} {k q : Nat} (h : pB p k) (hq : Sq p k q) : Sp p k q := by
  rcases hq with hq | ⟨i, i1, i2, i3⟩
  · exact Or.inl hq
  · exact Or.inr ⟨i, i1, i2, Nat.dvd_trans i3 (sf_dv (h i i1).1)⟩
/-- the reference's rows after k steps -/
def LkS (M : Me) (k : Nat) (p : Nat → Int) (c : Nat) : Prop := M 28 3 = k ∧ (∀ i, i < k → M 32 i = tr p i) ∧ M 28 5 = ps p k ∧ M 28 6 = ng p k ∧ M 28 8 = c ∧ SL c (M 33) (Sq p k)
theorem LkS.fr {M M9 : Me} {k c : Nat} {p : Nat → Int} (h : LkS M k p c) (h1 : M9 28 = M 28) (h2 : M9 32 = M 32) (h3 : M9 33 = M 33) : LkS M9 k p c := by
  unfold LkS
  rw [h1, h2, h3]
  exact h
set_option maxRecDepth 20000 in
theorem wd459 : Cond.fieldLink "RationalFormsModel" 7 "RationalFormsModel" "dimension" "[I" ∈ GG := GG_t 459 rfl rfl
set_option maxRecDepth 20000 in
theorem wd460 : Cond.fieldLink "RationalFormsModel" 13 "RationalFormsModel" "number" "[I" ∈ GG := GG_t 460 rfl rfl
set_option maxRecDepth 20000 in
theorem wd462 : Cond.fieldLink "RationalFormsModel" 56 "RationalFormsModel" "rank" "I" ∈ GG := GG_t 462 rfl rfl
set_option maxRecDepth 20000 in
theorem wd463 : Cond.fieldLink "RationalFormsModel" 20 "RationalFormsModel" "term" "[J" ∈ GG := GG_t 463 rfl rfl
set_option maxRecDepth 20000 in
theorem wd464 : Cond.fieldLink "RationalFormsModel" 59 "RationalFormsModel" "positive" "I" ∈ GG := GG_t 464 rfl rfl
set_option maxRecDepth 20000 in
theorem wd465 : Cond.fieldLink "RationalFormsModel" 62 "RationalFormsModel" "negative" "I" ∈ GG := GG_t 465 rfl rfl
set_option maxRecDepth 20000 in
theorem wd466 : Cond.fieldLink "RationalFormsModel" 79 "RationalFormsModel" "discriminant" "J" ∈ GG := GG_t 466 rfl rfl
set_option maxRecDepth 20000 in
theorem wd527 : Cond.methodLink "RationalFormsModel" 65 yM_bring ∈ GG := GG_t 527 rfl rfl
set_option maxRecDepth 20000 in
theorem wd529 : Cond.instanceMethod yM_bring ∈ GG := GG_t 529 rfl rfl
set_option maxRecDepth 20000 in
theorem wd530 : Cond.code yM_bring cM_bring 7 (some .boolean) ∈ GG := GG_t 530 rfl rfl
set_option maxRecDepth 20000 in
theorem wd535 : Cond.methodLink "RationalFormsModel" 69 yM_classOf ∈ GG := GG_t 535 rfl rfl
set_option maxRecDepth 20000 in
theorem wd536 : Cond.static yM_classOf ∈ GG := GG_t 536 rfl rfl
set_option maxRecDepth 20000 in
theorem wd537 : Cond.code yM_classOf cM_classOf 9 (some .long) ∈ GG := GG_t 537 rfl rfl
set_option maxRecDepth 20000 in
theorem wd539 : Cond.methodLink "RationalFormsModel" 73 yM_addPrimes ∈ GG := GG_t 539 rfl rfl
set_option maxRecDepth 20000 in
theorem wd541 : Cond.instanceMethod yM_addPrimes ∈ GG := GG_t 541 rfl rfl
set_option maxRecDepth 20000 in
theorem wd542 : Cond.code yM_addPrimes cM_addPrimes 7 none ∈ GG := GG_t 542 rfl rfl
set_option maxRecDepth 20000 in
theorem wd543 : Cond.methodLink "RationalFormsModel" 76 yM_times ∈ GG := GG_t 543 rfl rfl
set_option maxRecDepth 20000 in
theorem wd544 : Cond.static yM_times ∈ GG := GG_t 544 rfl rfl
set_option maxRecDepth 20000 in
theorem wd545 : Cond.code yM_times cM_times 6 (some .long) ∈ GG := GG_t 545 rfl rfl
set_option maxRecDepth 20000 in
theorem wds14 : Cond.selects "RationalFormsModel" yM_bring yM_bring ∈ GG := GG_s 14 rfl rfl
set_option maxRecDepth 20000 in
theorem wds16 : Cond.selects "RationalFormsModel" yM_addPrimes yM_addPrimes ∈ GG := GG_s 16 rfl rfl
set_option maxRecDepth 100000 in
set_option maxHeartbeats 4000000 in
theorem kM_look (l : Launch) (E : En) (hJ : wJ E) (M : Me) (f : Nat) (hf : f < 2) (n : Nat) (hn0 : M 29 f = n) (hn1 : 1 ≤ n) (hn4 : n ≤ 4) (hA : sb 0 4 6 (fun i j => M 30 (16 * f + (4 * i + j)))) : MM l yM_look wsM_look (rmd 2) E M [.ref (E.2.1 28), .int (ji ((f:Int)))] (fun v M9 => v = none ∧ (∃ (r : Nat) (p : Nat → Int) (c : Nat), PV n (fun i j => M 30 (16 * f + (4 * i + j))) r p ∧ pB p r ∧ r ≤ n ∧ c ≤ cB r ∧ LkS M9 r p c ∧ M9 28 7 = sf (bef p r)) ∧ ((∀ q, q ≠ 28 → q ≠ 31 → q ≠ 32 → q ≠ 33 → M9 q = M q) ∧ ∀ j, j ≠ 3 → j ≠ 5 → j ≠ 6 → j ≠ 7 → j ≠ 8 → M9 28 j = M 28 j)) := by
  refine MM.ofG (by decide +kernel) (Nat.le_of_ble_eq_true rfl) ?_
  intro p_ e_ s_ m_ a_ b_ t_ c_ hx hb hml hr hk hg hown hK hP hS ls hl
  have hl : lv_has ls 14 [(0, .ref (E.2.1 28)), (1, .int (ji ((f:Int))))] := hl
  have hAn : sb 0 n 6 (fun i j => M 30 (16 * f + (4 * i + j))) := fun a b a1 a2 b1 b2 => hA a b a1 (by omega) b1 (by omega)
  have hb16 : ∀ k, k < 16 → b32 (M 30 (16 * f + k)) := fun k hk => by
    have h1 := (hA (k / 4) (k % 4) (by omega) (by omega) (by omega) (by omega)).2
    simp only [] at h1
    rw [show 4 * (k / 4) + k % 4 = k by omega] at h1
    omega
  have loop : ∀ (N k : Nat) (p : Nat → Int) (c : Nat) (M1 : Me) (H : Heap) (locs : List Loc) (ls : Array Slot), k + N = n → PVs n (fun i j => M 30 (16 * f + (4 * i + j))) p k (wr M1) → pB p k → c ≤ cB k → LkS M1 k p c → ((∀ q, q ≠ 28 → q ≠ 31 → q ≠ 32 → q ≠ 33 → M1 q = M q) ∧ ∀ j, j ≠ 3 → j ≠ 5 → j ≠ 6 → j ≠ 7 → j ≠ 8 → M1 28 j = M 28 j) → wP E M1 H → va_S (wA E) s_.heap H locs → lv_has ls 14 [(3, .long (jl (bef p k))), (5, .long (jl (sf (bef p k)))), (2, .int (ji ((n:Int)))), (0, .ref (E.2.1 28)), (1, .int (ji ((f:Int))))] → W p_ l e_ (rmd 2) s_ m_ a_ b_ t_ c_ H locs 0 0 (XQ b_ (mmQ E (fun v M9 => v = none ∧ (∃ (r : Nat) (p : Nat → Int) (c : Nat), PV n (fun i j => M 30 (16 * f + (4 * i + j))) r p ∧ pB p r ∧ r ≤ n ∧ c ≤ cB r ∧ LkS M9 r p c ∧ M9 28 7 = sf (bef p r)) ∧ ((∀ q, q ≠ 28 → q ≠ 31 → q ≠ 32 → q ≠ 33 → M9 q = M q) ∧ ∀ j, j ≠ 3 → j ≠ 5 → j ≠ 6 → j ≠ 7 → j ≠ 8 → M9 28 j = M 28 j))) a_ s_ 0 0 (wA E)) (F0 m_ 71 ls []) := by
    intro N
    have fin : ∀ (k : Nat) (p : Nat → Int) (c : Nat) (M1 : Me) (H : Heap) (locs : List Loc) (ls : Array Slot), PV n (fun i j => M 30 (16 * f + (4 * i + j))) k p → pB p k → c ≤ cB k → LkS M1 k p c → ((∀ q, q ≠ 28 → q ≠ 31 → q ≠ 32 → q ≠ 33 → M1 q = M q) ∧ ∀ j, j ≠ 3 → j ≠ 5 → j ≠ 6 → j ≠ 7 → j ≠ 8 → M1 28 j = M 28 j) → wP E M1 H → va_S (wA E) s_.heap H locs → lv_has ls 14 [(3, .long (jl (bef p k))), (5, .long (jl (sf (bef p k)))), (2, .int (ji ((n:Int)))), (0, .ref (E.2.1 28)), (1, .int (ji ((f:Int))))] → W p_ l e_ (rmd 2) s_ m_ a_ b_ t_ c_ H locs 0 0 (XQ b_ (mmQ E (fun v M9 => v = none ∧ (∃ (r : Nat) (p : Nat → Int) (c : Nat), PV n (fun i j => M 30 (16 * f + (4 * i + j))) r p ∧ pB p r ∧ r ≤ n ∧ c ≤ cB r ∧ LkS M9 r p c ∧ M9 28 7 = sf (bef p r)) ∧ ((∀ q, q ≠ 28 → q ≠ 31 → q ≠ 32 → q ≠ 33 → M9 q = M q) ∧ ∀ j, j ≠ 3 → j ≠ 5 → j ≠ 6 → j ≠ 7 → j ≠ 8 → M9 28 j = M 28 j))) a_ s_ 0 0 (wA E)) (F0 m_ 304 ls []) := by
      intro k p c M1 H locs ls hPV hpB hcB hD hF hP hS hl
      obtain ⟨d1, d2, d3', d4', d5, d6⟩ := hD
      refine lv_aload_n hx hb dM_look_304 rfl (lv_at hl 3 rfl) ?_
      refine lv_lload hx hb dM_look_305 (lv_at hl 1 rfl) ?_
      refine m_put (C := "RationalFormsModel") (T := TxM) (N := 13) (ty := .long) (z := sf (bef p k)) hx hb hg uwM txM txM_ok nmM hown hK hJ hP hS (by omega) (sh_M E _) rfl 7 (by decide) wd466 rfl rfl rfl rfl (Nat.le_of_ble_eq_true rfl) (by rw [sh_M E _]; simp [mu]) dM_look_307 (fun H locs hP hS => ?_)
      exact mm_vret hx hb hr hk hP hS dM_look_310 ⟨rfl, ⟨k, p, c, hPV, hpB, hPV.1, hcB, ⟨by rw [mu_j (by decide)]; exact d1, fun i hi => by rw [mu_k (by decide)]; exact d2 i hi, by rw [mu_j (by decide)]; exact d3', by rw [mu_j (by decide)]; exact d4', by rw [mu_j (by decide)]; exact d5, by rw [mu_k (by decide)]; exact d6⟩, mu_s _ _ _ _⟩, fun q q1 q2 q3 q4 => by rw [mu_k q1]; exact hF.1 q q1 q2 q3 q4, fun j j1 j2 j3 j4 j5 => by rw [mu_j j4]; exact hF.2 j j1 j2 j3 j4 j5⟩
    induction N with
    | zero =>
      intro k p c M1 H locs ls h0 hPV hpB hcB hD hF hP hS hl
      obtain ⟨hkn⟩ : Nonempty (k = n) := ⟨by omega⟩
      have hk3 := hD.1
      refine lv_aload_n hx hb dM_look_71 rfl (lv_at hl 3 rfl) ?_
      refine m_get (C := "RationalFormsModel") (T := TxM) (N := 13) hx hb hg uwM hown hK hP (by omega) (sh_M E _) rfl 3 (by decide) wd462 rfl dM_look_72 ?_
      refine lv_iload_n hx hb dM_look_75 rfl (lv_at hl 2 rfl) ?_
      refine j_icmp_ge hx hb (by rw [hk3]; omega) (by omega) dM_look_76 rfl (fun h1 => ?_) (fun h1 => ?_)
      · exact fin k p c M1 H locs ls ⟨by omega, _, hPV, Or.inl hkn⟩ hpB hcB hD hF hP hS hl
      · rw [hk3] at h1
        omega
    | succ N ih =>
      intro k p c M1 H locs ls h0 hPV hpB hcB hD hF hP hS hl
      have hkn : k < n := by omega
      have hk3 := hD.1
      have hsb := PVs_sb hAn hPV
      have htB : tB k ≤ tB 3 := by
        rcases (by omega : k = 0 ∨ k = 1 ∨ k = 2 ∨ k = 3) with q | q | q | q <;> subst q <;> decide
      have hT0 : ∀ a b, k ≤ a → a < n → k ≤ b → b < n → b64 (wr M1 a b) := fun a b a1 a2 b1 b2 => by
        have h1 := (hsb a b a1 a2 b1 b2).2
        have h2 : tB 3 ≤ 9000000000000000000 := by decide
        omega
      refine lv_aload_n hx hb dM_look_71 rfl (lv_at hl 3 rfl) ?_
      refine m_get (C := "RationalFormsModel") (T := TxM) (N := 13) hx hb hg uwM hown hK hP (by omega) (sh_M E _) rfl 3 (by decide) wd462 rfl dM_look_72 ?_
      refine lv_iload_n hx hb dM_look_75 rfl (lv_at hl 2 rfl) ?_
      refine j_icmp_ge hx hb (by rw [hk3]; omega) (by omega) dM_look_76 rfl (fun h1 => ?_) (fun h1 => ?_)
      · rw [hk3] at h1
        omega
      · refine lv_aload_n hx hb dM_look_79 rfl (lv_at hl 3 rfl) ?_
        refine lv_aload_n hx hb dM_look_80 rfl (lv_at hl 3 rfl) ?_
        refine m_get (C := "RationalFormsModel") (T := TxM) (N := 13) hx hb hg uwM hown hK hP (by omega) (sh_M E _) rfl 3 (by decide) wd462 rfl dM_look_81 ?_
        rw [hk3]
        refine lv_iload_n hx hb dM_look_84 rfl (lv_at hl 2 rfl) ?_
        refine mm_V (As := [.int (ji ((k:Int))), .int (ji ((n:Int)))]) (rest := []) hx hb hml hown hg hl hK hP hS (by omega) (sh_M E _) rfl (kM_bring l E hJ M1 n hn4 k hkn hT0) wd527 wd529 wds14 wd5 wd530 ⟨rfl, rfl⟩ (n := 2) (by decide +kernel) rfl ⟨by decide, by decide⟩ rfl (Nat.le_of_ble_eq_true rfl) dM_look_85 ⟨Nat.zero_le _, Nat.zero_le _⟩ (fun v M2 H locs hq2 hP hS => ?_)
        obtain ⟨⟨rr, rfl, hbp⟩, hf2⟩ := hq2
        have hD2 : LkS M2 k p c := hD.fr (hf2 _ (by omega)) (hf2 _ (by omega)) (hf2 _ (by omega))
        have hF2 : (∀ q, q ≠ 28 → q ≠ 31 → q ≠ 32 → q ≠ 33 → M2 q = M q) ∧ ∀ j, j ≠ 3 → j ≠ 5 → j ≠ 6 → j ≠ 7 → j ≠ 8 → M2 28 j = M 28 j := ⟨fun q q1 q2 q3 q4 => (hf2 q q2).trans (hF.1 q q1 q2 q3 q4), fun j j1 j2 j3 j4 j5 => (congrFun (hf2 28 (by omega)) j).trans (hF.2 j j1 j2 j3 j4 j5)⟩
        refine j_if_eq hx hb (bi_b32 _) dM_look_88 rfl (fun h2 => ?_) (fun h2 => ?_)
        · have hrr : rr = False := propext ⟨fun z => bi_eq h2 z, False.elim⟩
          rw [hrr] at hbp
          exact fin k p c M2 H locs ls ⟨by omega, _, hPV, Or.inr ⟨_, hbp⟩⟩ hpB hcB hD2 hF2 hP hS hl
        · have hrr : rr = True := propext ⟨fun _ => trivial, fun _ => bi_ne h2⟩
          rw [hrr] at hbp
          have hpx := piv_pB hn4 hkn hAn hPV hbp
          have hb0 := bef_pB hpB
          have hsB := sb_bp hsb hbp hkn
          have e0 : bef (fun i => if i = k then wr M2 k k else p i) k = bef p k := bef_cg (fun i hi => by simp only [if_neg (show i ≠ k by omega)])
          have hp' : ∀ i, i < k → (fun i => if i = k then wr M2 k k else p i) i = p i := fun i hi => by simp only [if_neg (show i ≠ k by omega)]
          have hpk : (fun i => if i = k then wr M2 k k else p i) k = wr M2 k k := by simp only [if_pos]
          have hpB' := pB_s hpB hpx
          have htr := tr_bd hpB' (Nat.lt_succ_self k)
          have etr : tr (fun i => if i = k then wr M2 k k else p i) k = pr (sf (wr M2 k k)) (sf (bef p k)) := by
            unfold tr
            rw [hpk, e0]
          have hsx := sf_le hpx.1
          have hsb0 := sf_le hb0.1
          have hsn := sf_ne hpx.1
          have hxb : (wr M2 k k).natAbs ≤ 2000000000 := by have := hpx.2.1; omega
          rw [etr] at htr
          have hk32 := hD2.1
          have hdg : M2 31 (5 * k) = wr M2 k k := by
            unfold wr
            rw [show 4 * k + k = 5 * k by omega]
          refine lv_aload_n hx hb dM_look_91 rfl (lv_at hl 3 rfl) ?_
          refine m_get (C := "RationalFormsModel") (T := TxM) (N := 13) hx hb hg uwM hown hK hP (by omega) (sh_M E _) rfl 3 (by decide) wd462 rfl dM_look_92 ?_
          refine lv_istore hx hb dM_look_95 hl (by decide) rfl (fun ls hl => ?_)
          have hl : lv_has ls 14 [(7, .int (ji (M2 28 3))), (3, .long (jl (bef p k))), (5, .long (jl (sf (bef p k)))), (2, .int (ji ((n:Int)))), (0, .ref (E.2.1 28)), (1, .int (ji ((f:Int))))] := hl
          rw [hk32] at hl
          refine lv_aload_n hx hb dM_look_97 rfl (lv_at hl 4 rfl) ?_
          refine m_get (C := "RationalFormsModel") (T := TxM) (N := 13) hx hb hg uwM hown hK hP (by omega) (sh_M E _) rfl 2 (by decide) wd461 rfl dM_look_98 ?_
          refine j_iconst hx hb dM_look_101 ?_
          refine lv_iload hx hb dM_look_102 (lv_at hl 0 rfl) ?_
          refine j_imul hx hb dM_look_104 ?_
          refine m_lald (n := 5 * k) hx hb hK hP (by omega) (sh_31 E _) (by omega) (by omega) (by decide) dM_look_105 ?_
          refine lv_lstore hx hb dM_look_106 hl (by decide) rfl (fun ls hl => ?_)
          have hl : lv_has ls 14 [(8, .long (jl (M2 31 (5 * k)))), (7, .int (ji ((k:Int)))), (3, .long (jl (bef p k))), (5, .long (jl (sf (bef p k)))), (2, .int (ji ((n:Int)))), (0, .ref (E.2.1 28)), (1, .int (ji ((f:Int))))] := hl
          rw [hdg] at hl
          refine lv_lload hx hb dM_look_108 (lv_at hl 0 rfl) ?_
          refine pm_G (As := [.long (jl (wr M2 k k))]) (rest := []) hx hb hml hown hg hl (kM_classOf l (wr M2 k k) (by omega) hpx.1) wd535 wd536 wd5 wd537 ⟨rfl, rfl⟩ (n := 1) (by decide +kernel) rfl ⟨by decide, by decide⟩ rfl (Nat.le_of_ble_eq_true rfl) dM_look_110 ⟨Nat.zero_le _, Nat.zero_le _⟩ (fun r hr9 => ?_)
          subst hr9
          refine lv_lstore hx hb dM_look_113 hl (by decide) rfl (fun ls hl => ?_)
          have hl : lv_has ls 14 [(10, .long (jl (sf (wr M2 k k)))), (8, .long (jl (wr M2 k k))), (7, .int (ji ((k:Int)))), (3, .long (jl (bef p k))), (5, .long (jl (sf (bef p k)))), (2, .int (ji ((n:Int)))), (0, .ref (E.2.1 28)), (1, .int (ji ((f:Int))))] := hl
          refine lv_aload_n hx hb dM_look_115 rfl (lv_at hl 6 rfl) ?_
          refine lv_lload hx hb dM_look_116 (lv_at hl 0 rfl) ?_
          refine mm_V (As := [.long (jl (sf (wr M2 k k)))]) (rest := []) hx hb hml hown hg hl hK hP hS (by omega) (sh_M E _) rfl (kM_addPrimes l E hJ M2 (sf (wr M2 k k)) hsn (sf_sq hpx.1) (by omega) c (jB k) hD2.2.2.2.2.1 (by have := cB_le (k := k + 1) (by omega); have : cB (k + 1) = cB k + jB k := rfl; omega) (Sq p k) hD2.2.2.2.2.2 (fun q hq => (Sp_bd hpB (Sq_Sp hpB hq)).2) (Nat.lt_of_le_of_lt hsx hpx.2.2)) wd539 wd541 wds16 wd5 wd542 ⟨rfl, rfl⟩ (n := 1) (by decide +kernel) rfl ⟨by decide, by decide⟩ rfl (Nat.le_of_ble_eq_true rfl) dM_look_118 ⟨Nat.zero_le _, Nat.zero_le _⟩ (fun v M3 H locs hq3 hP hS => ?_)
          obtain ⟨rfl, ⟨c9, c1, c2, c3⟩, c4, c5⟩ := hq3
          -- the elimination, once the signs are counted
          have k193 : ∀ (M5 : Me) (H : Heap) (locs : List Loc) (ls : Array Slot), M5 28 3 = k → (∀ i, i < k + 1 → M5 32 i = tr (fun i => if i = k then wr M2 k k else p i) i) → M5 28 5 = ps (fun i => if i = k then wr M2 k k else p i) (k + 1) → M5 28 6 = ng (fun i => if i = k then wr M2 k k else p i) (k + 1) → M5 28 8 = c9 → SL c9 (M5 33) (Sq (fun i => if i = k then wr M2 k k else p i) (k + 1)) → M5 31 = M2 31 → ((∀ q, q ≠ 28 → q ≠ 31 → q ≠ 32 → q ≠ 33 → M5 q = M q) ∧ ∀ j, j ≠ 3 → j ≠ 5 → j ≠ 6 → j ≠ 7 → j ≠ 8 → M5 28 j = M 28 j) → wP E M5 H → va_S (wA E) s_.heap H locs → lv_has ls 14 [(8, .long (jl (wr M2 k k))), (10, .long (jl (sf (wr M2 k k)))), (7, .int (ji ((k:Int)))), (3, .long (jl (bef p k))), (5, .long (jl (sf (bef p k)))), (2, .int (ji ((n:Int)))), (0, .ref (E.2.1 28)), (1, .int (ji ((f:Int))))] → W p_ l e_ (rmd 2) s_ m_ a_ b_ t_ c_ H locs 0 0 (XQ b_ (mmQ E (fun v M9 => v = none ∧ (∃ (r : Nat) (p : Nat → Int) (c : Nat), PV n (fun i j => M 30 (16 * f + (4 * i + j))) r p ∧ pB p r ∧ r ≤ n ∧ c ≤ cB r ∧ LkS M9 r p c ∧ M9 28 7 = sf (bef p r)) ∧ ((∀ q, q ≠ 28 → q ≠ 31 → q ≠ 32 → q ≠ 33 → M9 q = M q) ∧ ∀ j, j ≠ 3 → j ≠ 5 → j ≠ 6 → j ≠ 7 → j ≠ 8 → M9 28 j = M 28 j))) a_ s_ 0 0 (wA E)) (F0 m_ 193 ls []) := by
            intro M5 H locs ls f1 f2 f3 f4 f5 f6 f7 hF5 hP hS hl
            have hwr : wr M5 = wr M2 := by unfold wr; rw [f7]
            have outer : ∀ (N' I : Nat) (M6 : Me) (H : Heap) (locs : List Loc) (ls : Array Slot), I + N' = n → k < I → eqn n (wr M6) (ela k (wr M2 k k) (bef p k) I (k + 1) (wr M2)) → FrW M5 M6 → wP E M6 H → va_S (wA E) s_.heap H locs → lv_has ls 14 [(12, .int (ji ((I:Int)))), (8, .long (jl (wr M2 k k))), (10, .long (jl (sf (wr M2 k k)))), (7, .int (ji ((k:Int)))), (3, .long (jl (bef p k))), (5, .long (jl (sf (bef p k)))), (2, .int (ji ((n:Int)))), (0, .ref (E.2.1 28)), (1, .int (ji ((f:Int))))] → W p_ l e_ (rmd 2) s_ m_ a_ b_ t_ c_ H locs 0 0 (XQ b_ (mmQ E (fun v M9 => v = none ∧ (∃ (r : Nat) (p : Nat → Int) (c : Nat), PV n (fun i j => M 30 (16 * f + (4 * i + j))) r p ∧ pB p r ∧ r ≤ n ∧ c ≤ cB r ∧ LkS M9 r p c ∧ M9 28 7 = sf (bef p r)) ∧ ((∀ q, q ≠ 28 → q ≠ 31 → q ≠ 32 → q ≠ 33 → M9 q = M q) ∧ ∀ j, j ≠ 3 → j ≠ 5 → j ≠ 6 → j ≠ 7 → j ≠ 8 → M9 28 j = M 28 j))) a_ s_ 0 0 (wA E)) (F0 m_ 199 ls []) := by
              intro N'
              induction N' with
              | zero =>
                intro I M6 H locs ls h0 hkI hT hF6 hP hS hl
                refine lv_iload hx hb dM_look_199 (lv_at hl 0 rfl) ?_
                refine lv_iload_n hx hb dM_look_201 rfl (lv_at hl 6 rfl) ?_
                refine j_icmp_ge hx hb (by omega) (by omega) dM_look_202 rfl (fun h1 => ?_) (fun h1 => ?_)
                · refine lv_lload hx hb dM_look_284 (lv_at hl 1 rfl) ?_
                  refine lv_lstore_n hx hb dM_look_286 rfl hl (by decide) rfl (fun ls hl => ?_)
                  have hl : lv_has ls 14 [(3, .long (jl (wr M2 k k))), (12, .int (ji ((I:Int)))), (8, .long (jl (wr M2 k k))), (10, .long (jl (sf (wr M2 k k)))), (7, .int (ji ((k:Int)))), (5, .long (jl (sf (bef p k)))), (2, .int (ji ((n:Int)))), (0, .ref (E.2.1 28)), (1, .int (ji ((f:Int))))] := hl
                  refine lv_lload hx hb dM_look_287 (lv_at hl 3 rfl) ?_
                  refine lv_lstore hx hb dM_look_289 hl (by decide) rfl (fun ls hl => ?_)
                  have hl : lv_has ls 14 [(5, .long (jl (sf (wr M2 k k)))), (3, .long (jl (wr M2 k k))), (12, .int (ji ((I:Int)))), (8, .long (jl (wr M2 k k))), (10, .long (jl (sf (wr M2 k k)))), (7, .int (ji ((k:Int)))), (2, .int (ji ((n:Int)))), (0, .ref (E.2.1 28)), (1, .int (ji ((f:Int))))] := hl
                  have g3 : M6 28 3 = k := by rw [hF6 28 (by omega)]; exact f1
                  refine lv_aload_n hx hb dM_look_291 rfl (lv_at hl 7 rfl) ?_
                  refine lv_dup hx hb dM_look_292 rfl ?_
                  refine m_get (C := "RationalFormsModel") (T := TxM) (N := 13) hx hb hg uwM hown hK hP (by omega) (sh_M E _) rfl 3 (by decide) wd462 rfl dM_look_293 ?_
                  refine j_iconst hx hb dM_look_296 ?_
                  refine j_iadd hx hb dM_look_297 ?_
                  refine m_put (C := "RationalFormsModel") (T := TxM) (N := 13) (ty := .int) (z := (M6 28 3) + 1) hx hb hg uwM txM txM_ok nmM hown hK hJ hP hS (by omega) (sh_M E _) rfl 3 (by decide) wd462 rfl rfl rfl rfl (Nat.le_of_ble_eq_true rfl) (by rw [sh_M E _]; simp [mu]) dM_look_298 (fun H locs hP hS => ?_)
                  refine lv_goto hx hb dM_look_301 rfl ?_
                  rw [g3] at hP
                  refine ih (k + 1) (fun i => if i = k then wr M2 k k else p i) c9 _ H locs ls (by omega) ⟨wr M1, wr M2, PVs.cg hp' hPV, hkn, hbp, hpk.symm, ?_⟩ hpB' (by show c9 ≤ cB k + jB k; omega) ⟨mu_s _ _ _ _, fun i hi => ?_, ?_, ?_, ?_, ?_⟩ ⟨fun q q1 q2 q3 q4 => ?_, fun j j1 j2 j3 j4 j5 => ?_⟩ hP hS ?_
                  · rw [hpk, e0]
                    have hq : wr (mu M6 28 3 ((k + 1 : Nat) : Int)) = wr M6 := by unfold wr; rw [mu_k (by omega)]
                    rw [hq]
                    exact ela_e (by rw [show I = n by omega] at hT; exact hT)
                  · rw [mu_k (by omega), hF6 32 (by omega)]; exact f2 i hi
                  · rw [mu_j (by omega), hF6 28 (by omega)]; exact f3
                  · rw [mu_j (by omega), hF6 28 (by omega)]; exact f4
                  · rw [mu_j (by omega), hF6 28 (by omega)]; exact f5
                  · rw [mu_k (by omega), hF6 33 (by omega)]; exact f6
                  · rw [mu_k q1, hF6 q q2]; exact hF5.1 q q1 q2 q3 q4
                  · rw [mu_j j1, hF6 28 (by omega)]; exact hF5.2 j j1 j2 j3 j4 j5
                  · have e9 : bef (fun i => if i = k then wr M2 k k else p i) (k + 1) = wr M2 k k := hpk
                    rw [e9]
                    exact lv_sub hl [1, 0, 6, 7, 8] rfl
                · omega
              | succ N' ihN =>
                intro I M6 H locs ls h0 hkI hT hF6 hP hS hl
                have inner : ∀ (K J : Nat) (M6 : Me) (H : Heap) (locs : List Loc) (ls : Array Slot), J + K = n → k < J → eqn n (wr M6) (ela k (wr M2 k k) (bef p k) I J (wr M2)) → FrW M5 M6 → wP E M6 H → va_S (wA E) s_.heap H locs → lv_has ls 14 [(13, .int (ji ((J:Int)))), (12, .int (ji ((I:Int)))), (8, .long (jl (wr M2 k k))), (10, .long (jl (sf (wr M2 k k)))), (7, .int (ji ((k:Int)))), (3, .long (jl (bef p k))), (5, .long (jl (sf (bef p k)))), (2, .int (ji ((n:Int)))), (0, .ref (E.2.1 28)), (1, .int (ji ((f:Int))))] → W p_ l e_ (rmd 2) s_ m_ a_ b_ t_ c_ H locs 0 0 (XQ b_ (mmQ E (fun v M9 => v = none ∧ (∃ (r : Nat) (p : Nat → Int) (c : Nat), PV n (fun i j => M 30 (16 * f + (4 * i + j))) r p ∧ pB p r ∧ r ≤ n ∧ c ≤ cB r ∧ LkS M9 r p c ∧ M9 28 7 = sf (bef p r)) ∧ ((∀ q, q ≠ 28 → q ≠ 31 → q ≠ 32 → q ≠ 33 → M9 q = M q) ∧ ∀ j, j ≠ 3 → j ≠ 5 → j ≠ 6 → j ≠ 7 → j ≠ 8 → M9 28 j = M 28 j))) a_ s_ 0 0 (wA E)) (F0 m_ 211 ls []) := by
                  intro K
                  induction K with
                  | zero =>
                    intro J M6 H locs ls h1 hkJ hT hF6 hP hS hl
                    refine lv_iload hx hb dM_look_211 (lv_at hl 0 rfl) ?_
                    refine lv_iload_n hx hb dM_look_213 rfl (lv_at hl 7 rfl) ?_
                    refine j_icmp_ge hx hb (by omega) (by omega) dM_look_214 rfl (fun h2 => ?_) (fun h2 => ?_)
                    · refine lv_iinc (k := 1) (v := ji (((I:Int)) + 1)) hx hb dM_look_278 hl rfl (Int32.ofInt_add _ _).symm (by decide) rfl (fun ls hl => ?_)
                      have hl : lv_has ls 14 [(12, .int (ji (((I:Int)) + 1))), (13, .int (ji ((J:Int)))), (8, .long (jl (wr M2 k k))), (10, .long (jl (sf (wr M2 k k)))), (7, .int (ji ((k:Int)))), (3, .long (jl (bef p k))), (5, .long (jl (sf (bef p k)))), (2, .int (ji ((n:Int)))), (0, .ref (E.2.1 28)), (1, .int (ji ((f:Int))))] := hl
                      refine lv_goto hx hb dM_look_281 rfl ?_
                      exact ihN (I + 1) M6 H locs ls (by omega) (by omega) (ela_r (by rw [show J = n by omega] at hT; exact hT)) hF6 hP hS (lv_sub hl [0, 2, 3, 4, 5, 6, 7, 8, 9] rfl)
                    · omega
                  | succ K ihK =>
                    intro J M6 H locs ls h1 hkJ hT hF6 hP hS hl
                    have hz : ∀ a b, (a = I ∨ a = k) → (b = J ∨ b = k) → (M6 31 (4 * a + b)).natAbs ≤ 2000000000 := fun a b ha hb => by
                      by_cases hab : k < a ∧ k < b ∧ (a < I ∨ a = I ∧ b < J)
                      · omega
                      · have h3 := hT a b (by omega) (by omega)
                        unfold ela at h3
                        rw [if_neg hab] at h3
                        show (wr M6 a b).natAbs ≤ _
                        rw [h3]
                        have y1 := (hsB a b (by omega) (by omega) (by omega) (by omega)).2
                        have y2 : tB k ≤ tB 2 := by
                          rcases (by omega : k = 0 ∨ k = 1 ∨ k = 2) with q | q | q <;> subst q <;> decide
                        have y3 : 4 * tB 2 ≤ 2000000000 := by decide
                        omega
                    refine lv_iload hx hb dM_look_211 (lv_at hl 0 rfl) ?_
                    refine lv_iload_n hx hb dM_look_213 rfl (lv_at hl 7 rfl) ?_
                    refine j_icmp_ge hx hb (by omega) (by omega) dM_look_214 rfl (fun h2 => ?_) (fun h2 => ?_)
                    · omega
                    · refine lv_aload_n hx hb dM_look_217 rfl (lv_at hl 8 rfl) ?_
                      refine m_get (C := "RationalFormsModel") (T := TxM) (N := 13) hx hb hg uwM hown hK hP (by omega) (sh_M E _) rfl 2 (by decide) wd461 rfl dM_look_218 ?_
                      refine j_iconst hx hb dM_look_221 ?_
                      refine lv_iload hx hb dM_look_222 (lv_at hl 1 rfl) ?_
                      refine j_imul hx hb dM_look_224 ?_
                      refine lv_iload hx hb dM_look_225 (lv_at hl 0 rfl) ?_
                      refine j_iadd hx hb dM_look_227 ?_
                      refine lv_lload hx hb dM_look_228 (lv_at hl 2 rfl) ?_
                      refine lv_aload_n hx hb dM_look_230 rfl (lv_at hl 8 rfl) ?_
                      refine m_get (C := "RationalFormsModel") (T := TxM) (N := 13) hx hb hg uwM hown hK hP (by omega) (sh_M E _) rfl 2 (by decide) wd461 rfl dM_look_231 ?_
                      refine j_iconst hx hb dM_look_234 ?_
                      refine lv_iload hx hb dM_look_235 (lv_at hl 1 rfl) ?_
                      refine j_imul hx hb dM_look_237 ?_
                      refine lv_iload hx hb dM_look_238 (lv_at hl 0 rfl) ?_
                      refine j_iadd hx hb dM_look_240 ?_
                      refine m_lald (n := 4 * I + J) hx hb hK hP (by omega) (sh_31 E _) (by omega) (by omega) (by decide) dM_look_241 ?_
                      refine j_lmul hx hb dM_look_242 ?_
                      refine lv_aload_n hx hb dM_look_243 rfl (lv_at hl 8 rfl) ?_
                      refine m_get (C := "RationalFormsModel") (T := TxM) (N := 13) hx hb hg uwM hown hK hP (by omega) (sh_M E _) rfl 2 (by decide) wd461 rfl dM_look_244 ?_
                      refine j_iconst hx hb dM_look_247 ?_
                      refine lv_iload hx hb dM_look_248 (lv_at hl 1 rfl) ?_
                      refine j_imul hx hb dM_look_250 ?_
                      refine lv_iload hx hb dM_look_251 (lv_at hl 4 rfl) ?_
                      refine j_iadd hx hb dM_look_253 ?_
                      refine m_lald (n := 4 * I + k) hx hb hK hP (by omega) (sh_31 E _) (by omega) (by omega) (by decide) dM_look_254 ?_
                      refine lv_aload_n hx hb dM_look_255 rfl (lv_at hl 8 rfl) ?_
                      refine m_get (C := "RationalFormsModel") (T := TxM) (N := 13) hx hb hg uwM hown hK hP (by omega) (sh_M E _) rfl 2 (by decide) wd461 rfl dM_look_256 ?_
                      refine j_iconst hx hb dM_look_259 ?_
                      refine lv_iload hx hb dM_look_260 (lv_at hl 4 rfl) ?_
                      refine j_imul hx hb dM_look_262 ?_
                      refine lv_iload hx hb dM_look_263 (lv_at hl 0 rfl) ?_
                      refine j_iadd hx hb dM_look_265 ?_
                      refine m_lald (n := 4 * k + J) hx hb hK hP (by omega) (sh_31 E _) (by omega) (by omega) (by decide) dM_look_266 ?_
                      refine j_lmul hx hb dM_look_267 ?_
                      refine j_lsub hx hb dM_look_268 ?_
                      refine lv_lload_n hx hb dM_look_269 rfl (lv_at hl 5 rfl) ?_
                      refine j_ldiv hx hb (el64 hxb (hz I J (by omega) (by omega)) (hz I k (by omega) (by omega)) (hz k J (by omega) (by omega))) (by omega) hb0.1 dM_look_270 ?_
                      refine m_last (n := 4 * I + J) hx hb hK hJ hP hS (by omega) (fun r => sh_31 E r) (by omega) (by omega) (by decide) dM_look_271 (fun H locs hP hS => ?_)
                      refine lv_iinc (k := 0) (v := ji (((J:Int)) + 1)) hx hb dM_look_272 hl rfl (Int32.ofInt_add _ _).symm (by decide) rfl (fun ls hl => ?_)
                      have hl : lv_has ls 14 [(13, .int (ji (((J:Int)) + 1))), (12, .int (ji ((I:Int)))), (8, .long (jl (wr M2 k k))), (10, .long (jl (sf (wr M2 k k)))), (7, .int (ji ((k:Int)))), (3, .long (jl (bef p k))), (5, .long (jl (sf (bef p k)))), (2, .int (ji ((n:Int)))), (0, .ref (E.2.1 28)), (1, .int (ji ((f:Int))))] := hl
                      refine lv_goto hx hb dM_look_275 rfl ?_
                      refine ihK (J + 1) _ H locs ls (by omega) (by omega) ?_ (hF6.mu _ _) hP hS hl
                      refine ((wr_mu _ (by omega)).n hn4).tr ?_
                      rw [Int.mul_comm (wr M2 k k) (M6 31 (4 * I + J))]
                      exact ela_n hT hkI hkJ (by omega) (by omega)
                refine lv_iload hx hb dM_look_199 (lv_at hl 0 rfl) ?_
                refine lv_iload_n hx hb dM_look_201 rfl (lv_at hl 6 rfl) ?_
                refine j_icmp_ge hx hb (by omega) (by omega) dM_look_202 rfl (fun h1 => ?_) (fun h1 => ?_)
                · omega
                · refine lv_iload hx hb dM_look_205 (lv_at hl 3 rfl) ?_
                  refine j_iconst hx hb dM_look_207 ?_
                  refine j_iadd hx hb dM_look_208 ?_
                  refine lv_istore hx hb dM_look_209 hl (by decide) rfl (fun ls hl => ?_)
                  have hl : lv_has ls 14 [(13, .int (ji (((k:Int)) + 1))), (12, .int (ji ((I:Int)))), (8, .long (jl (wr M2 k k))), (10, .long (jl (sf (wr M2 k k)))), (7, .int (ji ((k:Int)))), (3, .long (jl (bef p k))), (5, .long (jl (sf (bef p k)))), (2, .int (ji ((n:Int)))), (0, .ref (E.2.1 28)), (1, .int (ji ((f:Int))))] := hl
                  exact inner (n - (k + 1)) (k + 1) M6 H locs ls (by omega) (by omega) hT hF6 hP hS hl
            refine lv_iload hx hb dM_look_193 (lv_at hl 2 rfl) ?_
            refine j_iconst hx hb dM_look_195 ?_
            refine j_iadd hx hb dM_look_196 ?_
            refine lv_istore hx hb dM_look_197 hl (by decide) rfl (fun ls hl => ?_)
            have hl : lv_has ls 14 [(12, .int (ji (((k:Int)) + 1))), (8, .long (jl (wr M2 k k))), (10, .long (jl (sf (wr M2 k k)))), (7, .int (ji ((k:Int)))), (3, .long (jl (bef p k))), (5, .long (jl (sf (bef p k)))), (2, .int (ji ((n:Int)))), (0, .ref (E.2.1 28)), (1, .int (ji ((f:Int))))] := hl
            exact outer (n - (k + 1)) (k + 1) M5 H locs ls (by omega) (by omega) (by rw [hwr]; exact (ela_0 k _ _ _).n hn4) (FrW.rf M5) hP hS hl
          obtain ⟨d1, d2, d3', d4', d5, d6⟩ := hD2
          refine lv_aload_n hx hb dM_look_121 rfl (lv_at hl 6 rfl) ?_
          refine m_get (C := "RationalFormsModel") (T := TxM) (N := 13) hx hb hg uwM hown hK hP (by omega) (sh_M E _) rfl 4 (by decide) wd463 rfl dM_look_122 ?_
          refine lv_iload hx hb dM_look_125 (lv_at hl 2 rfl) ?_
          refine lv_lload hx hb dM_look_127 (lv_at hl 0 rfl) ?_
          refine lv_lload hx hb dM_look_129 (lv_at hl 4 rfl) ?_
          refine pm_G (As := [.long (jl (sf (wr M2 k k))), .long (jl (sf (bef p k)))]) (rest := [.int (ji ((k:Int))), .ref (E.2.1 32)]) hx hb hml hown hg hl (kM_times l (sf (wr M2 k k)) (sf (bef p k)) (by omega) (by omega) hsn) wd543 wd544 wd5 wd545 ⟨rfl, rfl⟩ (n := 2) (by decide +kernel) rfl ⟨by decide, by decide⟩ rfl (Nat.le_of_ble_eq_true rfl) dM_look_131 ⟨Nat.zero_le _, Nat.zero_le _⟩ (fun r hr9 => ?_)
          subst hr9
          refine m_last (n := k) hx hb hK hJ hP hS (by omega) (fun r => sh_32 E r) rfl (by omega) (by decide) dM_look_134 (fun H locs hP hS => ?_)
          obtain ⟨M4, e4⟩ : ∃ X, X = mu M3 32 k (pr (sf (wr M2 k k)) (sf (bef p k))) := ⟨_, rfl⟩
          rw [← e4] at hP
          have v32 : M4 32 k = pr (sf (wr M2 k k)) (sf (bef p k)) := by rw [e4]; exact mu_s _ _ _ _
          have v28 : M4 28 = M3 28 := by rw [e4]; exact mu_k (by omega)
          have v33 : M4 33 = M3 33 := by rw [e4]; exact mu_k (by omega)
          have g32 : ∀ i, i < k + 1 → M4 32 i = tr (fun i => if i = k then wr M2 k k else p i) i := fun i hi => by
            by_cases hik : i = k
            · rw [hik, v32, etr]
            · rw [e4, mu_j hik, c4 32 (by omega) (by omega), d2 i (by omega)]
              exact (tr_cg hp' (by omega)).symm
          have g33 : SL c9 (M4 33) (Sq (fun i => if i = k then wr M2 k k else p i) (k + 1)) := by
            rw [v33]
            refine c3.to (fun q => ⟨?_, ?_⟩)
            · rintro (h | h)
              · rcases h with h | ⟨i, i1, i2, i3⟩
                · exact Or.inl h
                · exact Or.inr ⟨i, by omega, i2, by rw [hp' i i1]; exact i3⟩
              · exact Or.inr ⟨k, by omega, h.1, by rw [hpk]; exact h.2⟩
            · rintro (h | ⟨i, i1, i2, i3⟩)
              · exact Or.inl (Or.inl h)
              · by_cases hik : i = k
                · rw [hik, hpk] at i3
                  exact Or.inr ⟨i2, i3⟩
                · rw [hp' i (by omega)] at i3
                  exact Or.inl (Or.inr ⟨i, by omega, i2, i3⟩)
          have g31 : M4 31 = M2 31 := by rw [e4, mu_k (by omega)]; exact c4 31 (by omega) (by omega)
          have gF : (∀ q, q ≠ 28 → q ≠ 31 → q ≠ 32 → q ≠ 33 → M4 q = M q) ∧ ∀ j, j ≠ 3 → j ≠ 5 → j ≠ 6 → j ≠ 7 → j ≠ 8 → M4 28 j = M 28 j := ⟨fun q q1 q2 q3 q4 => by rw [e4, mu_k q3, c4 q q1 q4]; exact hF2.1 q q1 q2 q3 q4, fun j j1 j2 j3 j4 j5 => by rw [v28, c5 j j5]; exact hF2.2 j j1 j2 j3 j4 j5⟩
          have eps : ps (fun i => if i = k then wr M2 k k else p i) (k + 1) = ps p k + (if 0 < pr (sf (wr M2 k k)) (sf (bef p k)) then 1 else 0) := by
            show ps (fun i => if i = k then wr M2 k k else p i) k + _ = _
            rw [ps_cg hp', etr]
          have eng : ng (fun i => if i = k then wr M2 k k else p i) (k + 1) = ng p k + (if 0 < pr (sf (wr M2 k k)) (sf (bef p k)) then 0 else 1) := by
            show ng (fun i => if i = k then wr M2 k k else p i) k + _ = _
            rw [ng_cg hp', etr]
          have w5 : M4 28 5 = ps p k := by rw [v28, c5 5 (by omega)]; exact d3'
          have w6 : M4 28 6 = ng p k := by rw [v28, c5 6 (by omega)]; exact d4'
          have w3 : M4 28 3 = k := by rw [v28, c5 3 (by omega)]; exact d1
          have w8 : M4 28 8 = c9 := by rw [v28]; exact c2
          refine lv_aload_n hx hb dM_look_135 rfl (lv_at hl 6 rfl) ?_
          refine lv_aload_n hx hb dM_look_136 rfl (lv_at hl 6 rfl) ?_
          refine m_get (C := "RationalFormsModel") (T := TxM) (N := 13) hx hb hg uwM hown hK hP (by omega) (sh_M E _) rfl 4 (by decide) wd463 rfl dM_look_137 ?_
          refine lv_iload hx hb dM_look_140 (lv_at hl 2 rfl) ?_
          refine m_lald (n := k) hx hb hK hP (by omega) (sh_32 E _) rfl (by omega) (by decide) dM_look_142 ?_
          refine j_lconst0 hx hb dM_look_143 ?_
          refine j_lc_le hx hb (by rw [v32]; omega) (by decide) dM_look_144 dM_look_145 rfl (fun h5 => ?_) (fun h5 => ?_)
          · rw [v32] at h5
            refine lv_aload_n hx hb dM_look_157 rfl (lv_at hl 6 rfl) ?_
            refine m_get (C := "RationalFormsModel") (T := TxM) (N := 13) hx hb hg uwM hown hK hP (by omega) (sh_M E _) rfl 5 (by decide) wd464 rfl dM_look_158 ?_
            refine m_put (C := "RationalFormsModel") (T := TxM) (N := 13) (ty := .int) (z := M4 28 5) hx hb hg uwM txM txM_ok nmM hown hK hJ hP hS (by omega) (sh_M E _) rfl 5 (by decide) wd464 rfl rfl rfl rfl (Nat.le_of_ble_eq_true rfl) (by rw [sh_M E _]; simp [mu]) dM_look_161 (fun H locs hP hS => ?_)
            have v32' : mu M4 28 5 (M4 28 5) 32 k = pr (sf (wr M2 k k)) (sf (bef p k)) := by rw [mu_k (by omega)]; exact v32
            refine lv_aload_n hx hb dM_look_164 rfl (lv_at hl 6 rfl) ?_
            refine lv_aload_n hx hb dM_look_165 rfl (lv_at hl 6 rfl) ?_
            refine m_get (C := "RationalFormsModel") (T := TxM) (N := 13) hx hb hg uwM hown hK hP (by omega) (sh_M E _) rfl 4 (by decide) wd463 rfl dM_look_166 ?_
            refine lv_iload hx hb dM_look_169 (lv_at hl 2 rfl) ?_
            refine m_lald (n := k) hx hb hK hP (by omega) (sh_32 E _) rfl (by omega) (by decide) dM_look_171 ?_
            refine j_lconst0 hx hb dM_look_172 ?_
            refine j_lc_ge hx hb (by rw [v32']; omega) (by decide) dM_look_173 dM_look_174 rfl (fun h6 => ?_) (fun h6 => ?_)
            · rw [v32'] at h6
              omega
            · refine lv_aload_n hx hb dM_look_177 rfl (lv_at hl 6 rfl) ?_
              refine m_get (C := "RationalFormsModel") (T := TxM) (N := 13) hx hb hg uwM hown hK hP (by omega) (sh_M E _) rfl 6 (by decide) wd465 rfl dM_look_178 ?_
              refine j_iconst hx hb dM_look_181 ?_
              refine j_iadd hx hb dM_look_182 ?_
              refine lv_goto hx hb dM_look_183 rfl ?_
              refine m_put (C := "RationalFormsModel") (T := TxM) (N := 13) (ty := .int) (z := ((mu M4 28 5 (M4 28 5)) 28 6) + 1) hx hb hg uwM txM txM_ok nmM hown hK hJ hP hS (by omega) (sh_M E _) rfl 6 (by decide) wd465 rfl rfl rfl rfl (Nat.le_of_ble_eq_true rfl) (by rw [sh_M E _]; simp [mu]) dM_look_190 (fun H locs hP hS => ?_)
              refine k193 _ H locs ls ?_ ?_ ?_ ?_ ?_ ?_ ?_ ⟨fun q q1 q2 q3 q4 => ?_, fun j j1 j2 j3 j4 j5 => ?_⟩ hP hS (lv_sub hl [1, 0, 2, 3, 4, 5, 6, 7] rfl)
              · rw [mu_j (by omega), mu_j (by omega)]; exact w3
              · rw [mu_k (by omega), mu_k (by omega)]; exact g32
              · rw [mu_j (by omega), mu_s, w5, eps, if_neg (by omega)]; omega
              · rw [mu_s, mu_j (by omega), w6, eng, if_neg (by omega)]
              · rw [mu_j (by omega), mu_j (by omega)]; exact w8
              · rw [mu_k (by omega), mu_k (by omega)]; exact g33
              · rw [mu_k (by omega), mu_k (by omega)]; exact g31
              · rw [mu_k q1, mu_k q1]; exact gF.1 q q1 q2 q3 q4
              · rw [mu_j j3, mu_j j2]; exact gF.2 j j1 j2 j3 j4 j5
          · rw [v32] at h5
            refine lv_aload_n hx hb dM_look_148 rfl (lv_at hl 6 rfl) ?_
            refine m_get (C := "RationalFormsModel") (T := TxM) (N := 13) hx hb hg uwM hown hK hP (by omega) (sh_M E _) rfl 5 (by decide) wd464 rfl dM_look_149 ?_
            refine j_iconst hx hb dM_look_152 ?_
            refine j_iadd hx hb dM_look_153 ?_
            refine lv_goto hx hb dM_look_154 rfl ?_
            refine m_put (C := "RationalFormsModel") (T := TxM) (N := 13) (ty := .int) (z := (M4 28 5) + 1) hx hb hg uwM txM txM_ok nmM hown hK hJ hP hS (by omega) (sh_M E _) rfl 5 (by decide) wd464 rfl rfl rfl rfl (Nat.le_of_ble_eq_true rfl) (by rw [sh_M E _]; simp [mu]) dM_look_161 (fun H locs hP hS => ?_)
            have v32' : mu M4 28 5 (M4 28 5 + 1) 32 k = pr (sf (wr M2 k k)) (sf (bef p k)) := by rw [mu_k (by omega)]; exact v32
            refine lv_aload_n hx hb dM_look_164 rfl (lv_at hl 6 rfl) ?_
            refine lv_aload_n hx hb dM_look_165 rfl (lv_at hl 6 rfl) ?_
            refine m_get (C := "RationalFormsModel") (T := TxM) (N := 13) hx hb hg uwM hown hK hP (by omega) (sh_M E _) rfl 4 (by decide) wd463 rfl dM_look_166 ?_
            refine lv_iload hx hb dM_look_169 (lv_at hl 2 rfl) ?_
            refine m_lald (n := k) hx hb hK hP (by omega) (sh_32 E _) rfl (by omega) (by decide) dM_look_171 ?_
            refine j_lconst0 hx hb dM_look_172 ?_
            refine j_lc_ge hx hb (by rw [v32']; omega) (by decide) dM_look_173 dM_look_174 rfl (fun h6 => ?_) (fun h6 => ?_)
            · refine lv_aload_n hx hb dM_look_186 rfl (lv_at hl 6 rfl) ?_
              refine m_get (C := "RationalFormsModel") (T := TxM) (N := 13) hx hb hg uwM hown hK hP (by omega) (sh_M E _) rfl 6 (by decide) wd465 rfl dM_look_187 ?_
              refine m_put (C := "RationalFormsModel") (T := TxM) (N := 13) (ty := .int) (z := (mu M4 28 5 ((M4 28 5) + 1)) 28 6) hx hb hg uwM txM txM_ok nmM hown hK hJ hP hS (by omega) (sh_M E _) rfl 6 (by decide) wd465 rfl rfl rfl rfl (Nat.le_of_ble_eq_true rfl) (by rw [sh_M E _]; simp [mu]) dM_look_190 (fun H locs hP hS => ?_)
              refine k193 _ H locs ls ?_ ?_ ?_ ?_ ?_ ?_ ?_ ⟨fun q q1 q2 q3 q4 => ?_, fun j j1 j2 j3 j4 j5 => ?_⟩ hP hS (lv_sub hl [1, 0, 2, 3, 4, 5, 6, 7] rfl)
              · rw [mu_j (by omega), mu_j (by omega)]; exact w3
              · rw [mu_k (by omega), mu_k (by omega)]; exact g32
              · rw [mu_j (by omega), mu_s, w5, eps, if_pos h5]
              · rw [mu_s, mu_j (by omega), w6, eng, if_pos h5]; omega
              · rw [mu_j (by omega), mu_j (by omega)]; exact w8
              · rw [mu_k (by omega), mu_k (by omega)]; exact g33
              · rw [mu_k (by omega), mu_k (by omega)]; exact g31
              · rw [mu_k q1, mu_k q1]; exact gF.1 q q1 q2 q3 q4
              · rw [mu_j j3, mu_j j2]; exact gF.2 j j1 j2 j3 j4 j5
            · rw [v32'] at h6
              omega
  have copy : ∀ (N k : Nat) (M1 : Me) (H : Heap) (locs : List Loc) (ls : Array Slot), k + N = 16 → (∀ i, i < k → M1 31 i = M 30 (16 * f + i)) → FrW M M1 → wP E M1 H → va_S (wA E) s_.heap H locs → lv_has ls 14 [(3, .int (ji ((k:Int)))), (2, .int (ji ((n:Int)))), (0, .ref (E.2.1 28)), (1, .int (ji ((f:Int))))] → W p_ l e_ (rmd 2) s_ m_ a_ b_ t_ c_ H locs 0 0 (XQ b_ (mmQ E (fun v M9 => v = none ∧ (∃ (r : Nat) (p : Nat → Int) (c : Nat), PV n (fun i j => M 30 (16 * f + (4 * i + j))) r p ∧ pB p r ∧ r ≤ n ∧ c ≤ cB r ∧ LkS M9 r p c ∧ M9 28 7 = sf (bef p r)) ∧ ((∀ q, q ≠ 28 → q ≠ 31 → q ≠ 32 → q ≠ 33 → M9 q = M q) ∧ ∀ j, j ≠ 3 → j ≠ 5 → j ≠ 6 → j ≠ 7 → j ≠ 8 → M9 28 j = M 28 j))) a_ s_ 0 0 (wA E)) (F0 m_ 9 ls []) := by
    intro N
    induction N with
    | zero =>
      intro k M1 H locs ls h0 hT hF hP hS hl
      refine lv_iload_n hx hb dM_look_9 rfl (lv_at hl 0 rfl) ?_
      refine j_bipush hx hb dM_look_10 rfl ?_
      refine j_icmp_ge hx hb (by omega) (by omega) dM_look_12 rfl (fun h1 => ?_) (fun h1 => ?_)
      · refine lv_aload_n hx hb dM_look_39 rfl (lv_at hl 2 rfl) ?_
        refine j_iconst hx hb dM_look_40 ?_
        refine m_put (C := "RationalFormsModel") (T := TxM) (N := 13) (ty := .int) (z := 0) hx hb hg uwM txM txM_ok nmM hown hK hJ hP hS (by omega) (sh_M E _) rfl 3 (by decide) wd462 rfl rfl rfl rfl (Nat.le_of_ble_eq_true rfl) (by rw [sh_M E _]; simp [mu]) dM_look_41 (fun H locs hP hS => ?_)
        refine lv_aload_n hx hb dM_look_44 rfl (lv_at hl 2 rfl) ?_
        refine j_iconst hx hb dM_look_45 ?_
        refine m_put (C := "RationalFormsModel") (T := TxM) (N := 13) (ty := .int) (z := 0) hx hb hg uwM txM txM_ok nmM hown hK hJ hP hS (by omega) (sh_M E _) rfl 5 (by decide) wd464 rfl rfl rfl rfl (Nat.le_of_ble_eq_true rfl) (by rw [sh_M E _]; simp [mu]) dM_look_46 (fun H locs hP hS => ?_)
        refine lv_aload_n hx hb dM_look_49 rfl (lv_at hl 2 rfl) ?_
        refine j_iconst hx hb dM_look_50 ?_
        refine m_put (C := "RationalFormsModel") (T := TxM) (N := 13) (ty := .int) (z := 0) hx hb hg uwM txM txM_ok nmM hown hK hJ hP hS (by omega) (sh_M E _) rfl 6 (by decide) wd465 rfl rfl rfl rfl (Nat.le_of_ble_eq_true rfl) (by rw [sh_M E _]; simp [mu]) dM_look_51 (fun H locs hP hS => ?_)
        refine lv_aload_n hx hb dM_look_54 rfl (lv_at hl 2 rfl) ?_
        refine j_iconst hx hb dM_look_55 ?_
        refine m_put (C := "RationalFormsModel") (T := TxM) (N := 13) (ty := .int) (z := 0) hx hb hg uwM txM txM_ok nmM hown hK hJ hP hS (by omega) (sh_M E _) rfl 8 (by decide) wd467 rfl rfl rfl rfl (Nat.le_of_ble_eq_true rfl) (by rw [sh_M E _]; simp [mu]) dM_look_56 (fun H locs hP hS => ?_)
        obtain ⟨M2, e2⟩ : ∃ X, X = mu (mu (mu (mu M1 28 3 0) 28 5 0) 28 6 0) 28 8 0 := ⟨_, rfl⟩
        rw [← e2] at hP
        have hs2 : ∀ q, q ≠ 28 → M2 q = M1 q := fun q hq => by rw [e2]; repeat rw [mu_k hq]
        have hv2 : M2 28 3 = 0 ∧ M2 28 5 = 0 ∧ M2 28 6 = 0 ∧ M2 28 8 = 0 := by rw [e2]; simp [mu]
        have hj2 : ∀ j, j ≠ 3 → j ≠ 5 → j ≠ 6 → j ≠ 8 → M2 28 j = M1 28 j := fun j j1 j2 j3 j4 => by rw [e2, mu_j j4, mu_j j3, mu_j j2, mu_j j1]
        refine lv_aload_n hx hb dM_look_59 rfl (lv_at hl 2 rfl) ?_
        refine j_ldc2 (z := 2) hx hb hown hg wd522 rfl dM_look_60 ?_
        refine mm_V (As := [.long (jl 2)]) (rest := []) hx hb hml hown hg hl hK hP hS (by omega) (sh_M E _) rfl (kM_addPrime l E hJ M2 2 (by decide) 0 hv2.2.2.2 (by decide) (fun _ => False) ⟨fun i j h1 h2 => by omega, fun i h => by omega, fun q h => h.elim⟩ (fun q h => h.elim)) wd523 wd525 wds13 wd5 wd526 ⟨rfl, rfl⟩ (n := 1) (by decide +kernel) rfl ⟨by decide, by decide⟩ rfl (Nat.le_of_ble_eq_true rfl) dM_look_63 ⟨Nat.zero_le _, Nat.zero_le _⟩ (fun v M3 H locs hq hP hS => ?_)
        obtain ⟨rfl, ⟨c9, q1, q2, q3⟩, q4, q5⟩ := hq
        refine j_lconst1 hx hb dM_look_66 ?_
        refine lv_lstore_n hx hb dM_look_67 rfl hl (by decide) rfl (fun ls hl => ?_)
        have hl : lv_has ls 14 [(3, .long (jl 1)), (2, .int (ji ((n:Int)))), (0, .ref (E.2.1 28)), (1, .int (ji ((f:Int))))] := hl
        refine j_lconst1 hx hb dM_look_68 ?_
        refine lv_lstore hx hb dM_look_69 hl (by decide) rfl (fun ls hl => ?_)
        have hl : lv_has ls 14 [(5, .long (jl 1)), (3, .long (jl 1)), (2, .int (ji ((n:Int)))), (0, .ref (E.2.1 28)), (1, .int (ji ((f:Int))))] := hl
        refine loop n 0 (fun _ => 0) c9 M3 H locs ls (by omega) ?_ (fun i hi => by omega) (by show c9 ≤ 1; omega) ⟨by rw [q5 3 (by omega)]; exact hv2.1, fun i hi => by omega, by rw [q5 5 (by omega)]; exact hv2.2.1, by rw [q5 6 (by omega)]; exact hv2.2.2.1, q2, q3.to (fun q => ⟨fun h => h.elim Or.inl False.elim, fun h => h.elim Or.inl (fun h => by obtain ⟨i, i1, -⟩ := h; omega)⟩)⟩ ⟨fun q a1 a2 a3 a4 => ?_, fun j j1 j2 j3 j4 j5 => ?_⟩ hP hS ?_
        · intro a b ha hb
          show M3 31 (4 * a + b) = M 30 (16 * f + (4 * a + b))
          rw [q4 31 (by omega) (by omega), hs2 31 (by omega)]
          exact hT (4 * a + b) (by omega)
        · rw [q4 q a1 a4, hs2 q a1]; exact hF q a2
        · rw [q5 j j5, hj2 j j1 j2 j3 j5]; exact congrFun (hF 28 (by omega)) j
        · have e9 : sf (bef (fun _ => 0) 0) = 1 := sf_1
          rw [e9]
          exact lv_sub hl [1, 0, 2, 3, 4] rfl
      · omega
    | succ N ih =>
      intro k M1 H locs ls h0 hT hF hP hS hl
      have h30 : M1 30 = M 30 := hF 30 (by omega)
      refine lv_iload_n hx hb dM_look_9 rfl (lv_at hl 0 rfl) ?_
      refine j_bipush hx hb dM_look_10 rfl ?_
      refine j_icmp_ge hx hb (by omega) (by omega) dM_look_12 rfl (fun h1 => ?_) (fun h1 => ?_)
      · omega
      · refine lv_aload_n hx hb dM_look_15 rfl (lv_at hl 2 rfl) ?_
        refine m_get (C := "RationalFormsModel") (T := TxM) (N := 13) hx hb hg uwM hown hK hP (by omega) (sh_M E _) rfl 2 (by decide) wd461 rfl dM_look_16 ?_
        refine lv_iload_n hx hb dM_look_19 rfl (lv_at hl 0 rfl) ?_
        refine lv_aload_n hx hb dM_look_20 rfl (lv_at hl 2 rfl) ?_
        refine m_get (C := "RationalFormsModel") (T := TxM) (N := 13) hx hb hg uwM hown hK hP (by omega) (sh_M E _) rfl 1 (by decide) wd460 rfl dM_look_21 ?_
        refine j_bipush hx hb dM_look_24 rfl ?_
        refine lv_iload_n hx hb dM_look_26 rfl (lv_at hl 3 rfl) ?_
        refine j_imul hx hb dM_look_27 ?_
        refine lv_iload_n hx hb dM_look_28 rfl (lv_at hl 0 rfl) ?_
        refine j_iadd hx hb dM_look_29 ?_
        refine m_iald (n := 16 * f + k) hx hb hK hP (by omega) (sh_30 E _) (by omega) (by omega) (by decide) dM_look_30 ?_
        refine j_i2l hx hb (by rw [h30]; exact hb16 k (by omega)) dM_look_31 ?_
        refine m_last (n := k) hx hb hK hJ hP hS (by omega) (fun r => sh_31 E r) rfl (by omega) (by decide) dM_look_32 (fun H locs hP hS => ?_)
        refine lv_iinc (k := 0) (v := ji (((k:Int)) + 1)) hx hb dM_look_33 hl rfl (Int32.ofInt_add _ _).symm (by decide) rfl (fun ls hl => ?_)
        have hl : lv_has ls 14 [(3, .int (ji (((k:Int)) + 1))), (2, .int (ji ((n:Int)))), (0, .ref (E.2.1 28)), (1, .int (ji ((f:Int))))] := hl
        refine lv_goto hx hb dM_look_36 rfl ?_
        refine ih (k + 1) _ H locs ls (by omega) (fun i hi => ?_) (hF.mu _ _) hP hS hl
        by_cases hik : i = k
        · rw [hik, mu_s, h30]
        · rw [mu_j hik]; exact hT i (by omega)
  refine lv_aload_n hx hb dM_look_0 rfl (lv_at hl 0 rfl) ?_
  refine m_get (C := "RationalFormsModel") (T := TxM) (N := 13) hx hb hg uwM hown hK hP (by omega) (sh_M E _) rfl 0 (by decide) wd459 rfl dM_look_1 ?_
  refine lv_iload_n hx hb dM_look_4 rfl (lv_at hl 1 rfl) ?_
  refine m_iald (n := f) hx hb hK hP (by omega) (sh_29 E _) rfl (by omega) (by decide) dM_look_5 ?_
  rw [hn0]
  refine lv_istore_n hx hb dM_look_6 rfl hl (by decide) rfl (fun ls hl => ?_)
  have hl : lv_has ls 14 [(2, .int (ji ((n:Int)))), (0, .ref (E.2.1 28)), (1, .int (ji ((f:Int))))] := hl
  refine j_iconst hx hb dM_look_7 ?_
  refine lv_istore_n hx hb dM_look_8 rfl hl (by decide) rfl (fun ls hl => ?_)
  have hl : lv_has ls 14 [(3, .int (ji 0)), (2, .int (ji ((n:Int)))), (0, .ref (E.2.1 28)), (1, .int (ji ((f:Int))))] := hl
  exact copy 16 0 M s_.heap [] ls (by omega) (fun i hi => by omega) (FrW.rf M) hP hS hl
end
section
/-! the reference: Hasse signs, zeros, obstacles, signs noted -/
def TG (M : Me) (r : Nat) : Prop := r ≤ 5 ∧ ∀ i, i < r → b64 (M 32 i) ∧ ¬ (4 : Int) ∣ M 32 i
noncomputable abbrev hsM (M : Me) (r : Nat) (p : Int) : Int := hs (fun a b => syM a b p) (M 32) r
def zM (r : Nat) (D : Int) (t : Nat → Int) (bo : Prop) (p : Int) : Prop := (r = 2 ∧ sqM (-D) p) ∨ (r = 3 ∧ hs (fun a b => syM a b p) t r = syM (-1) (-D) p) ∨ (r = 4 ∧ (¬ sqM D p ∨ hs (fun a b => syM a b p) t r = syM (-1) (-1) p)) ∨ (4 < r ∧ (p ≠ 0 ∨ bo))
/-- what obstacleOf answers -/
def oMs (S : Nat → Prop) (Z : Int → Prop) (r : Nat) (D v : Int) : Prop := (¬ Z 0 → v = 0) ∧ (Z 0 → r = 2 → D = -1 → v = -1) ∧ (Z 0 → r = 2 → D ≠ -1 → ∃ w : Nat, v = w ∧ prm w ∧ ¬ sqM (-D) w ∧ ∀ m : Nat, m < w → prm m → sqM (-D) m) ∧ (Z 0 → r ≠ 2 → (∀ q : Nat, S q → Z q) → v = -1) ∧ (Z 0 → r ≠ 2 → ∀ q : Nat, S q → ¬ Z q → (∀ m : Nat, S m → m < q → Z m) → v = q)
set_option maxRecDepth 20000 in
theorem wd469 : Cond.fieldLink "RationalFormsModel" 126 "RationalFormsModel" "signs" "I" ∈ GG := GG_t 469 rfl rfl
set_option maxRecDepth 20000 in
theorem wd470 : Cond.fieldLink "RationalFormsModel" 26 "RationalFormsModel" "signAt" "[I" ∈ GG := GG_t 470 rfl rfl
set_option maxRecDepth 20000 in
theorem wd471 : Cond.fieldLink "RationalFormsModel" 29 "RationalFormsModel" "thrown" "I" ∈ GG := GG_t 471 rfl rfl
set_option maxRecDepth 20000 in
theorem wd559 : Cond.methodLink "RationalFormsModel" 96 yM_symbolOf ∈ GG := GG_t 559 rfl rfl
set_option maxRecDepth 20000 in
theorem wd560 : Cond.static yM_symbolOf ∈ GG := GG_t 560 rfl rfl
set_option maxRecDepth 20000 in
theorem wd561 : Cond.code yM_symbolOf cM_symbolOf 14 (some .int) ∈ GG := GG_t 561 rfl rfl
set_option maxRecDepth 20000 in
theorem wd576 : Cond.methodLink "RationalFormsModel" 100 yM_hasseOf ∈ GG := GG_t 576 rfl rfl
set_option maxRecDepth 20000 in
theorem wd578 : Cond.instanceMethod yM_hasseOf ∈ GG := GG_t 578 rfl rfl
set_option maxRecDepth 20000 in
theorem wd579 : Cond.code yM_hasseOf cM_hasseOf 7 (some .int) ∈ GG := GG_t 579 rfl rfl
set_option maxRecDepth 20000 in
theorem wd584 : Cond.methodLink "RationalFormsModel" 107 yM_isZeroAt ∈ GG := GG_t 584 rfl rfl
set_option maxRecDepth 20000 in
theorem wd586 : Cond.instanceMethod yM_isZeroAt ∈ GG := GG_t 586 rfl rfl
set_option maxRecDepth 20000 in
theorem wd587 : Cond.code yM_isZeroAt cM_isZeroAt 8 (some .boolean) ∈ GG := GG_t 587 rfl rfl
set_option maxRecDepth 20000 in
theorem wd588 : Cond.methodLink "RationalFormsModel" 104 yM_isSquare ∈ GG := GG_t 588 rfl rfl
set_option maxRecDepth 20000 in
theorem wd589 : Cond.static yM_isSquare ∈ GG := GG_t 589 rfl rfl
set_option maxRecDepth 20000 in
theorem wd590 : Cond.code yM_isSquare cM_isSquare 4 (some .boolean) ∈ GG := GG_t 590 rfl rfl
set_option maxRecDepth 20000 in
theorem wds17 : Cond.selects "RationalFormsModel" yM_hasseOf yM_hasseOf ∈ GG := GG_s 17 rfl rfl
set_option maxRecDepth 20000 in
theorem wds18 : Cond.selects "RationalFormsModel" yM_isZeroAt yM_isZeroAt ∈ GG := GG_s 18 rfl rfl
set_option maxRecDepth 100000 in
set_option maxHeartbeats 4000000 in
theorem kM_thrown (l : Launch) (E : En) (hJ : wJ E) (M : Me)  : MM l yM_thrown wsM_thrown (rmd 0) E M [.ref (E.2.1 28)] (fun v M9 => v = some (.int (ji (M 28 12))) ∧ M9 = M) := by
  refine MM.ofG (by decide +kernel) (Nat.le_of_ble_eq_true rfl) ?_
  intro p_ e_ s_ m_ a_ b_ t_ c_ hx hb hml hr hk hg hown hK hP hS ls hl
  have hl : lv_has ls 1 [(0, .ref (E.2.1 28))] := hl
  refine lv_aload_n hx hb dM_thrown_0 rfl (lv_at hl 0 rfl) ?_
  refine m_get (C := "RationalFormsModel") (T := TxM) (N := 13) hx hb hg uwM hown hK hP (by omega) (sh_M E _) rfl 12 (by decide) wd471 rfl dM_thrown_1 ?_
  exact mm_iret hx hb hr hk hP hS dM_thrown_4 ⟨rfl, rfl⟩

set_option maxRecDepth 100000 in
set_option maxHeartbeats 4000000 in
theorem kM_hasseOf (l : Launch) (E : En) (hJ : wJ E) (M : Me) (r : Nat) (hG : TG M r) (p9 : Int) (hp : plc p9) : MM l yM_hasseOf wsM_hasseOf (rmd 2) E M [.ref (E.2.1 28), .int (ji ((r:Int))), .long (jl p9)] (fun v M9 => v = some (.int (ji (hsM M r p9))) ∧ M9 = M) := by
  refine MM.ofG (by decide +kernel) (Nat.le_of_ble_eq_true rfl) ?_
  intro p_ e_ s_ m_ a_ b_ t_ c_ hx hb hml hr hk hg hown hK hP hS ls hl
  have hl : lv_has ls 7 [(0, .ref (E.2.1 28)), (1, .int (ji ((r:Int)))), (2, .long (jl p9))] := hl
  obtain ⟨hr5, ht⟩ := hG
  have outer : ∀ (N i : Nat) (z : Int) (ls : Array Slot), i + N = r → z = hO (fun a b => syM a b p9) (M 32) r i → lv_has ls 7 [(5, .int (ji ((i:Int)))), (4, .int (ji z)), (0, .ref (E.2.1 28)), (1, .int (ji ((r:Int)))), (2, .long (jl p9))] → W p_ l e_ (rmd 2) s_ m_ a_ b_ t_ c_ s_.heap [] 0 0 (XQ b_ (mmQ E (fun v M9 => v = some (.int (ji (hsM M r p9))) ∧ M9 = M)) a_ s_ 0 0 (wA E)) (F0 m_ 6 ls []) := by
    intro N
    induction N with
    | zero =>
      intro i z ls h0 hz hl
      refine lv_iload hx hb dM_hasseOf_6 (lv_at hl 0 rfl) ?_
      refine lv_iload_n hx hb dM_hasseOf_8 rfl (lv_at hl 3 rfl) ?_
      refine j_icmp_ge hx hb (by omega) (by omega) dM_hasseOf_9 rfl (fun h1 => ?_) (fun h1 => ?_)
      · have hir : i = r := by omega
        refine lv_iload hx hb dM_hasseOf_59 (lv_at hl 1 rfl) ?_
        exact mm_iret hx hb hr hk hP hS dM_hasseOf_61 ⟨by rw [hz, hir]; rfl, rfl⟩
      · omega
    | succ N ih =>
      intro i z ls h0 hz hl
      have inner : ∀ (K n : Nat) (z : Int) (ls : Array Slot), i + 1 + n + K = r → z = hO (fun a b => syM a b p9) (M 32) r i * hI (fun a b => syM a b p9) (M 32) i n → lv_has ls 7 [(6, .int (ji (((i+1+n:Nat):Int)))), (5, .int (ji ((i:Int)))), (4, .int (ji z)), (0, .ref (E.2.1 28)), (1, .int (ji ((r:Int)))), (2, .long (jl p9))] → W p_ l e_ (rmd 2) s_ m_ a_ b_ t_ c_ s_.heap [] 0 0 (XQ b_ (mmQ E (fun v M9 => v = some (.int (ji (hsM M r p9))) ∧ M9 = M)) a_ s_ 0 0 (wA E)) (F0 m_ 18 ls []) := by
        intro K
        induction K with
        | zero =>
          intro n z ls h1 hz hl
          refine lv_iload hx hb dM_hasseOf_18 (lv_at hl 0 rfl) ?_
          refine lv_iload_n hx hb dM_hasseOf_20 rfl (lv_at hl 4 rfl) ?_
          refine j_icmp_ge hx hb (by omega) (by omega) dM_hasseOf_21 rfl (fun h2 => ?_) (fun h2 => ?_)
          · refine lv_iinc (k := 1) (v := ji (((i:Int)) + 1)) hx hb dM_hasseOf_53 hl rfl (Int32.ofInt_add _ _).symm (by decide) rfl (fun ls hl => ?_)
            have hl : lv_has ls 7 [(5, .int (ji (((i:Int)) + 1))), (6, .int (ji (((i+1+n:Nat):Int)))), (4, .int (ji z)), (0, .ref (E.2.1 28)), (1, .int (ji ((r:Int)))), (2, .long (jl p9))] := hl
            refine lv_goto hx hb dM_hasseOf_56 rfl ?_
            refine ih (i + 1) z ls (by omega) ?_ (lv_sub hl [0, 2, 3, 4, 5] rfl)
            rw [hz, show n = r - (i + 1) by omega]; rfl
          · omega
        | succ K ihK =>
          intro n z ls h1 hz hl
          have ta := ht i (by omega)
          have tb := ht (i + 1 + n) (by omega)
          refine lv_iload hx hb dM_hasseOf_18 (lv_at hl 0 rfl) ?_
          refine lv_iload_n hx hb dM_hasseOf_20 rfl (lv_at hl 4 rfl) ?_
          refine j_icmp_ge hx hb (by omega) (by omega) dM_hasseOf_21 rfl (fun h2 => ?_) (fun h2 => ?_)
          · omega
          · refine lv_iload hx hb dM_hasseOf_24 (lv_at hl 2 rfl) ?_
            refine lv_aload_n hx hb dM_hasseOf_26 rfl (lv_at hl 3 rfl) ?_
            refine m_get (C := "RationalFormsModel") (T := TxM) (N := 13) hx hb hg uwM hown hK hP (by omega) (sh_M E _) rfl 4 (by decide) wd463 rfl dM_hasseOf_27 ?_
            refine lv_iload hx hb dM_hasseOf_30 (lv_at hl 1 rfl) ?_
            refine m_lald (n := i) hx hb hK hP (by omega) (sh_32 E _) rfl (by omega) (by decide) dM_hasseOf_32 ?_
            refine lv_aload_n hx hb dM_hasseOf_33 rfl (lv_at hl 3 rfl) ?_
            refine m_get (C := "RationalFormsModel") (T := TxM) (N := 13) hx hb hg uwM hown hK hP (by omega) (sh_M E _) rfl 4 (by decide) wd463 rfl dM_hasseOf_34 ?_
            refine lv_iload hx hb dM_hasseOf_37 (lv_at hl 0 rfl) ?_
            refine m_lald (n := i+1+n) hx hb hK hP (by omega) (sh_32 E _) rfl (by omega) (by decide) dM_hasseOf_39 ?_
            refine lv_lload_n hx hb dM_hasseOf_40 rfl (lv_at hl 5 rfl) ?_
            refine pm_G (As := [.long (jl (M 32 i)), .long (jl (M 32 (i+1+n))), .long (jl p9)]) (rest := [.int (ji z)]) hx hb hml hown hg hl (kM_symbolOf l (M 32 i) (M 32 (i + 1 + n)) p9 ta.1 tb.1 hp ta.2 tb.2) wd559 wd560 wd5 wd561 ⟨rfl, rfl⟩ (n := 3) (by decide +kernel) rfl ⟨by decide, by decide⟩ rfl (Nat.le_of_ble_eq_true rfl) dM_hasseOf_41 ⟨Nat.zero_le _, Nat.zero_le _⟩ (fun r hr9 => ?_)
            subst hr9
            refine j_imul hx hb dM_hasseOf_44 ?_
            refine lv_istore hx hb dM_hasseOf_45 hl (by decide) rfl (fun ls hl => ?_)
            have hl : lv_has ls 7 [(4, .int (ji (z * (syM (M 32 i) (M 32 (i + 1 + n)) p9)))), (6, .int (ji (((i+1+n:Nat):Int)))), (5, .int (ji ((i:Int)))), (0, .ref (E.2.1 28)), (1, .int (ji ((r:Int)))), (2, .long (jl p9))] := hl
            refine lv_iinc (k := 1) (v := ji ((((i+1+n:Nat):Int)) + 1)) hx hb dM_hasseOf_47 hl rfl (Int32.ofInt_add _ _).symm (by decide) rfl (fun ls hl => ?_)
            have hl : lv_has ls 7 [(6, .int (ji ((((i+1+n:Nat):Int)) + 1))), (4, .int (ji (z * (syM (M 32 i) (M 32 (i + 1 + n)) p9)))), (5, .int (ji ((i:Int)))), (0, .ref (E.2.1 28)), (1, .int (ji ((r:Int)))), (2, .long (jl p9))] := hl
            refine lv_goto hx hb dM_hasseOf_50 rfl ?_
            exact ihK (n + 1) _ ls (by omega) (by rw [hz, Int.mul_assoc]; rfl) (lv_sub hl [0, 2, 1, 3, 4, 5] rfl)
      refine lv_iload hx hb dM_hasseOf_6 (lv_at hl 0 rfl) ?_
      refine lv_iload_n hx hb dM_hasseOf_8 rfl (lv_at hl 3 rfl) ?_
      refine j_icmp_ge hx hb (by omega) (by omega) dM_hasseOf_9 rfl (fun h1 => ?_) (fun h1 => ?_)
      · omega
      · refine lv_iload hx hb dM_hasseOf_12 (lv_at hl 0 rfl) ?_
        refine j_iconst hx hb dM_hasseOf_14 ?_
        refine j_iadd hx hb dM_hasseOf_15 ?_
        refine lv_istore hx hb dM_hasseOf_16 hl (by decide) rfl (fun ls hl => ?_)
        have hl : lv_has ls 7 [(6, .int (ji (((i:Int)) + 1))), (5, .int (ji ((i:Int)))), (4, .int (ji z)), (0, .ref (E.2.1 28)), (1, .int (ji ((r:Int)))), (2, .long (jl p9))] := hl
        exact inner (r - (i + 1)) 0 z ls (by omega) (by rw [hz]; show _ = _ * 1; rw [Int.mul_one]) hl
  refine j_iconst hx hb dM_hasseOf_0 ?_
  refine lv_istore hx hb dM_hasseOf_1 hl (by decide) rfl (fun ls hl => ?_)
  have hl : lv_has ls 7 [(4, .int (ji 1)), (0, .ref (E.2.1 28)), (1, .int (ji ((r:Int)))), (2, .long (jl p9))] := hl
  refine j_iconst hx hb dM_hasseOf_3 ?_
  refine lv_istore hx hb dM_hasseOf_4 hl (by decide) rfl (fun ls hl => ?_)
  have hl : lv_has ls 7 [(5, .int (ji 0)), (4, .int (ji 1)), (0, .ref (E.2.1 28)), (1, .int (ji ((r:Int)))), (2, .long (jl p9))] := hl
  exact outer r 0 1 ls (by omega) rfl hl

set_option maxRecDepth 100000 in
set_option maxHeartbeats 4000000 in
theorem kM_isZeroAt (l : Launch) (E : En) (hJ : wJ E) (M : Me) (r : Nat) (hG : TG M r) (D : Int) (hD4 : ¬ (4 : Int) ∣ D) (hDb : -9223372036854775807 ≤ D ∧ D ≤ 9223372036854775807) (bo : Prop) (p9 : Int) (hp : plc p9) : MM l yM_isZeroAt wsM_isZeroAt (rmd 3) E M [.ref (E.2.1 28), .int (ji ((r:Int))), .long (jl D), .int (ji (bi bo)), .long (jl p9)] (fun v M9 => v = some (.int (ji (bi (zM r D (M 32) bo p9)))) ∧ M9 = M) := by
  refine MM.ofG (by decide +kernel) (Nat.le_of_ble_eq_true rfl) ?_
  intro p_ e_ s_ m_ a_ b_ t_ c_ hx hb hml hr hk hg hown hK hP hS ls hl
  have hl : lv_has ls 8 [(0, .ref (E.2.1 28)), (1, .int (ji ((r:Int)))), (2, .long (jl D)), (4, .int (ji (bi bo))), (5, .long (jl p9))] := hl
  have hr5 := hG.1
  refine lv_iload_n hx hb dM_isZeroAt_0 rfl (lv_at hl 1 rfl) ?_
  refine j_iconst hx hb dM_isZeroAt_1 ?_
  refine j_icmp_ge hx hb (by omega) (by omega) dM_isZeroAt_2 rfl (fun h1 => ?_) (fun h1 => ?_)
  · refine lv_aload_n hx hb dM_isZeroAt_7 rfl (lv_at hl 0 rfl) ?_
    refine lv_iload_n hx hb dM_isZeroAt_8 rfl (lv_at hl 1 rfl) ?_
    refine lv_lload hx hb dM_isZeroAt_9 (lv_at hl 4 rfl) ?_
    refine mm_V (As := [.int (ji ((r:Int))), .long (jl p9)]) (rest := []) hx hb hml hown hg hl hK hP hS (by omega) (sh_M E _) rfl (kM_hasseOf l E hJ M r hG p9 hp) wd576 wd578 wds17 wd5 wd579 ⟨rfl, rfl⟩ (n := 2) (by decide +kernel) rfl ⟨by decide, by decide⟩ rfl (Nat.le_of_ble_eq_true rfl) dM_isZeroAt_11 ⟨Nat.zero_le _, Nat.zero_le _⟩ (fun v M2 H locs hq hP hS => ?_)
    obtain ⟨rfl, hM2⟩ := hq
    rw [hM2] at hP
    refine lv_istore hx hb dM_isZeroAt_14 hl (by decide) rfl (fun ls hl => ?_)
    have hl : lv_has ls 8 [(7, .int (ji (hsM M r p9))), (0, .ref (E.2.1 28)), (1, .int (ji ((r:Int)))), (2, .long (jl D)), (4, .int (ji (bi bo))), (5, .long (jl p9))] := hl
    refine lv_iload_n hx hb dM_isZeroAt_16 rfl (lv_at hl 2 rfl) ?_
    refine j_iconst hx hb dM_isZeroAt_17 ?_
    refine j_icmp_ne hx hb (by omega) (by omega) dM_isZeroAt_18 rfl (fun h2 => ?_) (fun h2 => ?_)
    · refine lv_iload_n hx hb dM_isZeroAt_29 rfl (lv_at hl 2 rfl) ?_
      refine j_iconst hx hb dM_isZeroAt_30 ?_
      refine j_icmp_ne hx hb (by omega) (by omega) dM_isZeroAt_31 rfl (fun h3 => ?_) (fun h3 => ?_)
      · refine lv_iload_n hx hb dM_isZeroAt_55 rfl (lv_at hl 2 rfl) ?_
        refine j_iconst hx hb dM_isZeroAt_56 ?_
        refine j_icmp_ne hx hb (by omega) (by omega) dM_isZeroAt_57 rfl (fun h4 => ?_) (fun h4 => ?_)
        · refine lv_lload hx hb dM_isZeroAt_91 (lv_at hl 5 rfl) ?_
          refine j_lconst0 hx hb dM_isZeroAt_93 ?_
          refine j_lc_ne hx hb (by omega) (by omega) dM_isZeroAt_94 dM_isZeroAt_95 rfl (fun h5 => ?_) (fun h5 => ?_)
          · refine j_iconst hx hb dM_isZeroAt_103 ?_
            refine lv_goto hx hb dM_isZeroAt_104 rfl ?_
            exact mm_zret hx hb hr hk hP hS dM_isZeroAt_108 nar_1 ⟨by rw [bi_t (show zM r D (M 32) bo p9 from Or.inr (Or.inr (Or.inr ⟨by omega, Or.inl h5⟩)))], rfl⟩
          · refine lv_iload hx hb dM_isZeroAt_98 (lv_at hl 4 rfl) ?_
            refine j_if_eq hx hb (bi_b32 _) dM_isZeroAt_100 rfl (fun h6 => ?_) (fun h6 => ?_)
            · have hb6 := bi_eq h6
              refine j_iconst hx hb dM_isZeroAt_107 ?_
              exact mm_zret hx hb hr hk hP hS dM_isZeroAt_108 nar_0 ⟨by rw [bi_f (show ¬ zM r D (M 32) bo p9 from fun q => by rcases q with q | q | q | q; omega; omega; omega; exact q.2.elim (fun z => z h5) hb6)], rfl⟩
            · have hb6 := bi_ne h6
              refine j_iconst hx hb dM_isZeroAt_103 ?_
              refine lv_goto hx hb dM_isZeroAt_104 rfl ?_
              exact mm_zret hx hb hr hk hP hS dM_isZeroAt_108 nar_1 ⟨by rw [bi_t (show zM r D (M 32) bo p9 from Or.inr (Or.inr (Or.inr ⟨by omega, Or.inr hb6⟩)))], rfl⟩
        · have hr4 : r = 4 := by omega
          refine lv_lload_n hx hb dM_isZeroAt_60 rfl (lv_at hl 3 rfl) ?_
          refine lv_lload hx hb dM_isZeroAt_61 (lv_at hl 5 rfl) ?_
          refine pm_G (As := [.long (jl D), .long (jl p9)]) (rest := []) hx hb hml hown hg hl (kM_isSquare l D p9 (by omega) hp) wd588 wd589 wd5 wd590 ⟨rfl, rfl⟩ (n := 2) (by decide +kernel) rfl ⟨by decide, by decide⟩ rfl (Nat.le_of_ble_eq_true rfl) dM_isZeroAt_63 ⟨Nat.zero_le _, Nat.zero_le _⟩ (fun r hr9 => ?_)
          subst hr9
          refine j_if_eq hx hb (bi_b32 _) dM_isZeroAt_66 rfl (fun h5 => ?_) (fun h5 => ?_)
          · refine j_iconst hx hb dM_isZeroAt_85 ?_
            refine lv_goto hx hb dM_isZeroAt_86 rfl ?_
            exact mm_zret hx hb hr hk hP hS dM_isZeroAt_90 nar_1 ⟨by rw [bi_t (show zM r D (M 32) bo p9 from Or.inr (Or.inr (Or.inl ⟨hr4, Or.inl (bi_eq h5)⟩)))], rfl⟩
          · have hsq := bi_ne h5
            refine lv_iload hx hb dM_isZeroAt_69 (lv_at hl 0 rfl) ?_
            refine j_ldc2 (z := -1) hx hb hown hg wd538 rfl dM_isZeroAt_71 ?_
            refine j_ldc2 (z := -1) hx hb hown hg wd538 rfl dM_isZeroAt_74 ?_
            refine lv_lload hx hb dM_isZeroAt_77 (lv_at hl 5 rfl) ?_
            refine pm_G (As := [.long (jl (-1)), .long (jl (-1)), .long (jl p9)]) (rest := [.int (ji (hsM M r p9))]) hx hb hml hown hg hl (kM_symbolOf l (-1) (-1) p9 (by decide) (by decide) hp (by decide) (by decide)) wd559 wd560 wd5 wd561 ⟨rfl, rfl⟩ (n := 3) (by decide +kernel) rfl ⟨by decide, by decide⟩ rfl (Nat.le_of_ble_eq_true rfl) dM_isZeroAt_79 ⟨Nat.zero_le _, Nat.zero_le _⟩ (fun r hr9 => ?_)
            subst hr9
            refine j_icmp_ne hx hb (pm1_b32 (hs_pm (fun a b => syM_pm a b p9) _ _)) (pm1_b32 (syM_pm _ _ _)) dM_isZeroAt_82 rfl (fun h6 => ?_) (fun h6 => ?_)
            · refine j_iconst hx hb dM_isZeroAt_89 ?_
              exact mm_zret hx hb hr hk hP hS dM_isZeroAt_90 nar_0 ⟨by rw [bi_f (show ¬ zM r D (M 32) bo p9 from fun q => by rcases q with q | q | q | q; omega; omega; exact q.2.elim (fun z => z hsq) h6; omega)], rfl⟩
            · refine j_iconst hx hb dM_isZeroAt_85 ?_
              refine lv_goto hx hb dM_isZeroAt_86 rfl ?_
              exact mm_zret hx hb hr hk hP hS dM_isZeroAt_90 nar_1 ⟨by rw [bi_t (show zM r D (M 32) bo p9 from Or.inr (Or.inr (Or.inl ⟨hr4, Or.inr h6⟩)))], rfl⟩
      · have hr3 : r = 3 := by omega
        refine lv_iload hx hb dM_isZeroAt_34 (lv_at hl 0 rfl) ?_
        refine j_ldc2 (z := -1) hx hb hown hg wd538 rfl dM_isZeroAt_36 ?_
        refine lv_lload_n hx hb dM_isZeroAt_39 rfl (lv_at hl 3 rfl) ?_
        refine j_lneg hx hb dM_isZeroAt_40 ?_
        refine lv_lload hx hb dM_isZeroAt_41 (lv_at hl 5 rfl) ?_
        refine pm_G (As := [.long (jl (-1)), .long (jl (-D)), .long (jl p9)]) (rest := [.int (ji (hsM M r p9))]) hx hb hml hown hg hl (kM_symbolOf l (-1) (-D) p9 (by decide) (by omega) hp (by decide) (by omega)) wd559 wd560 wd5 wd561 ⟨rfl, rfl⟩ (n := 3) (by decide +kernel) rfl ⟨by decide, by decide⟩ rfl (Nat.le_of_ble_eq_true rfl) dM_isZeroAt_43 ⟨Nat.zero_le _, Nat.zero_le _⟩ (fun r hr9 => ?_)
        subst hr9
        refine j_icmp_ne hx hb (pm1_b32 (hs_pm (fun a b => syM_pm a b p9) _ _)) (pm1_b32 (syM_pm _ _ _)) dM_isZeroAt_46 rfl (fun h6 => ?_) (fun h6 => ?_)
        · refine j_iconst hx hb dM_isZeroAt_53 ?_
          exact mm_zret hx hb hr hk hP hS dM_isZeroAt_54 nar_0 ⟨by rw [bi_f (show ¬ zM r D (M 32) bo p9 from fun q => by rcases q with q | q | q | q; omega; exact h6 q.2; omega; omega)], rfl⟩
        · refine j_iconst hx hb dM_isZeroAt_49 ?_
          refine lv_goto hx hb dM_isZeroAt_50 rfl ?_
          exact mm_zret hx hb hr hk hP hS dM_isZeroAt_54 nar_1 ⟨by rw [bi_t (show zM r D (M 32) bo p9 from Or.inr (Or.inl ⟨hr3, h6⟩))], rfl⟩
    · have hr2 : r = 2 := by omega
      refine lv_lload_n hx hb dM_isZeroAt_21 rfl (lv_at hl 3 rfl) ?_
      refine j_lneg hx hb dM_isZeroAt_22 ?_
      refine lv_lload hx hb dM_isZeroAt_23 (lv_at hl 5 rfl) ?_
      refine pm_G (As := [.long (jl (-D)), .long (jl p9)]) (rest := []) hx hb hml hown hg hl (kM_isSquare l (-D) p9 (by omega) hp) wd588 wd589 wd5 wd590 ⟨rfl, rfl⟩ (n := 2) (by decide +kernel) rfl ⟨by decide, by decide⟩ rfl (Nat.le_of_ble_eq_true rfl) dM_isZeroAt_25 ⟨Nat.zero_le _, Nat.zero_le _⟩ (fun r hr9 => ?_)
      subst hr9
      have he : sqM (-D) p9 ↔ zM r D (M 32) bo p9 := ⟨fun q => Or.inl ⟨hr2, q⟩, fun q => by rcases q with q | q | q | q; exact q.2; omega; omega; omega⟩
      exact mm_zret hx hb hr hk hP hS dM_isZeroAt_28 (nar_bi _) ⟨by rw [bi_iff he], rfl⟩
  · refine j_iconst hx hb dM_isZeroAt_5 ?_
    exact mm_zret hx hb hr hk hP hS dM_isZeroAt_6 nar_0 ⟨by rw [bi_f (show ¬ zM r D (M 32) bo p9 from fun q => by rcases q with q | q | q | q <;> omega)], rfl⟩

set_option maxRecDepth 100000 in
set_option maxHeartbeats 4000000 in
theorem kM_obstacleOf (l : Launch) (E : En) (hJ : wJ E) (M : Me) (r : Nat) (hG : TG M r) (D : Int) (hD4 : ¬ (4 : Int) ∣ D) (hDb : -9223372036854775807 ≤ D ∧ D ≤ 9223372036854775807) (bo : Prop) (c : Nat) (hc : M 28 8 = c) (hc2 : c ≤ 60) (S : Nat → Prop) (hS0 : SL c (M 33) S) (hb0 : ∀ q, S q → 2 ≤ q ∧ q ≤ 2147483647) (hex : zM r D (M 32) bo 0 → r = 2 → D ≠ -1 → ∃ q : Nat, prm q ∧ q ≤ 2147483647 ∧ ¬ sqM (-D) q) : MM l yM_obstacleOf wsM_obstacleOf (rmd 4) E M [.ref (E.2.1 28), .int (ji ((r:Int))), .long (jl D), .int (ji (bi bo))] (fun v M9 => (∃ z : Int, v = some (.int (ji z)) ∧ b32 z ∧ oMs S (zM r D (M 32) bo) r D z) ∧ M9 = M) := by
  refine MM.ofG (by decide +kernel) (Nat.le_of_ble_eq_true rfl) ?_
  intro p_ e_ s_ m_ a_ b_ t_ c_ hx hb hml hr hk hg hown hK hP hS ls hl
  have hl : lv_has ls 7 [(0, .ref (E.2.1 28)), (1, .int (ji ((r:Int)))), (2, .long (jl D)), (4, .int (ji (bi bo)))] := hl
  have hr5 := hG.1
  refine lv_aload_n hx hb dM_obstacleOf_0 rfl (lv_at hl 0 rfl) ?_
  refine lv_iload_n hx hb dM_obstacleOf_1 rfl (lv_at hl 1 rfl) ?_
  refine lv_lload_n hx hb dM_obstacleOf_2 rfl (lv_at hl 2 rfl) ?_
  refine lv_iload hx hb dM_obstacleOf_3 (lv_at hl 3 rfl) ?_
  refine j_lconst0 hx hb dM_obstacleOf_5 ?_
  refine mm_V (As := [.int (ji ((r:Int))), .long (jl D), .int (ji (bi bo)), .long (jl 0)]) (rest := []) hx hb hml hown hg hl hK hP hS (by omega) (sh_M E _) rfl (kM_isZeroAt l E hJ M r hG D hD4 hDb bo 0 (Or.inl rfl)) wd584 wd586 wds18 wd5 wd587 ⟨rfl, rfl⟩ (n := 4) (by decide +kernel) rfl ⟨by decide, by decide⟩ rfl (Nat.le_of_ble_eq_true rfl) dM_obstacleOf_6 ⟨Nat.zero_le _, Nat.zero_le _⟩ (fun v M2 H locs hq hP hS => ?_)
  obtain ⟨rfl, hM2⟩ := hq
  rw [hM2] at hP
  refine j_if_ne hx hb (bi_b32 _) dM_obstacleOf_9 rfl (fun h1 => ?_) (fun h1 => ?_)
  · have hz0 := bi_ne h1
    have loop : ∀ (hr2 : r ≠ 2) (N i : Nat) (ls : Array Slot) (H : Heap) (locs : List Loc), i + N = c → (∀ q : Nat, S q → (∃ j, j < i ∧ M 33 j = q) → zM r D (M 32) bo q) → lv_has ls 7 [(5, .int (ji ((i:Int)))), (0, .ref (E.2.1 28)), (1, .int (ji ((r:Int)))), (2, .long (jl D)), (4, .int (ji (bi bo)))] → wP E M H → va_S (wA E) s_.heap H locs → W p_ l e_ (rmd 4) s_ m_ a_ b_ t_ c_ H locs 0 0 (XQ b_ (mmQ E (fun v M9 => (∃ z : Int, v = some (.int (ji z)) ∧ b32 z ∧ oMs S (zM r D (M 32) bo) r D z) ∧ M9 = M)) a_ s_ 0 0 (wA E)) (F0 m_ 73 ls []) := by
      intro hr2 N
      induction N with
      | zero =>
        intro i ls H locs h0 hz hl hP hS
        refine lv_iload hx hb dM_obstacleOf_73 (lv_at hl 0 rfl) ?_
        refine lv_aload_n hx hb dM_obstacleOf_75 rfl (lv_at hl 1 rfl) ?_
        refine m_get (C := "RationalFormsModel") (T := TxM) (N := 13) hx hb hg uwM hown hK hP (by omega) (sh_M E _) rfl 8 (by decide) wd467 rfl dM_obstacleOf_76 ?_
        refine j_icmp_ge hx hb (by omega) (by rw [hc]; omega) dM_obstacleOf_79 rfl (fun h2 => ?_) (fun h2 => ?_)
        · have hall : ∀ q : Nat, S q → zM r D (M 32) bo q := fun q hq => by
            obtain ⟨j, j1, j2⟩ := hS0.2.2 q hq
            exact hz q hq ⟨j, by omega, j2⟩
          refine j_iconst hx hb dM_obstacleOf_115 ?_
          exact mm_iret hx hb hr hk hP hS dM_obstacleOf_116 ⟨⟨-1, rfl, by decide, fun g => absurd hz0 g, fun _ g => absurd g hr2, fun _ g => absurd g hr2, fun _ _ _ => rfl, fun _ _ q g1 g2 => absurd (hall q g1) g2⟩, rfl⟩
        · rw [hc] at h2
          omega
      | succ N ih =>
        intro i ls H locs h0 hz hl hP hS
        obtain ⟨q, q1, q2⟩ := hS0.2.1 i (by omega)
        have hpl : plc (M 33 i) := by rw [q1]; have := hb0 q q2; right; omega
        have hbq := hb0 q q2
        refine lv_iload hx hb dM_obstacleOf_73 (lv_at hl 0 rfl) ?_
        refine lv_aload_n hx hb dM_obstacleOf_75 rfl (lv_at hl 1 rfl) ?_
        refine m_get (C := "RationalFormsModel") (T := TxM) (N := 13) hx hb hg uwM hown hK hP (by omega) (sh_M E _) rfl 8 (by decide) wd467 rfl dM_obstacleOf_76 ?_
        refine j_icmp_ge hx hb (by omega) (by rw [hc]; omega) dM_obstacleOf_79 rfl (fun h2 => ?_) (fun h2 => ?_)
        · rw [hc] at h2
          omega
        · refine lv_aload_n hx hb dM_obstacleOf_82 rfl (lv_at hl 1 rfl) ?_
          refine lv_iload_n hx hb dM_obstacleOf_83 rfl (lv_at hl 2 rfl) ?_
          refine lv_lload_n hx hb dM_obstacleOf_84 rfl (lv_at hl 3 rfl) ?_
          refine lv_iload hx hb dM_obstacleOf_85 (lv_at hl 4 rfl) ?_
          refine lv_aload_n hx hb dM_obstacleOf_87 rfl (lv_at hl 1 rfl) ?_
          refine m_get (C := "RationalFormsModel") (T := TxM) (N := 13) hx hb hg uwM hown hK hP (by omega) (sh_M E _) rfl 9 (by decide) wd468 rfl dM_obstacleOf_88 ?_
          refine lv_iload hx hb dM_obstacleOf_91 (lv_at hl 0 rfl) ?_
          refine m_lald (n := i) hx hb hK hP (by omega) (sh_33 E _) rfl (by omega) (by decide) dM_obstacleOf_93 ?_
          refine mm_V (As := [.int (ji ((r:Int))), .long (jl D), .int (ji (bi bo)), .long (jl (M 33 i))]) (rest := []) hx hb hml hown hg hl hK hP hS (by omega) (sh_M E _) rfl (kM_isZeroAt l E hJ M r hG D hD4 hDb bo (M 33 i) hpl) wd584 wd586 wds18 wd5 wd587 ⟨rfl, rfl⟩ (n := 4) (by decide +kernel) rfl ⟨by decide, by decide⟩ rfl (Nat.le_of_ble_eq_true rfl) dM_obstacleOf_94 ⟨Nat.zero_le _, Nat.zero_le _⟩ (fun v M3 H locs hq3 hP hS => ?_)
          obtain ⟨rfl, hM3⟩ := hq3
          rw [hM3] at hP
          refine j_if_ne hx hb (bi_b32 _) dM_obstacleOf_97 rfl (fun h3 => ?_) (fun h3 => ?_)
          · have hz3 := bi_ne h3
            refine lv_iinc (k := 0) (v := ji (((i:Int)) + 1)) hx hb dM_obstacleOf_109 hl rfl (Int32.ofInt_add _ _).symm (by decide) rfl (fun ls hl => ?_)
            have hl : lv_has ls 7 [(5, .int (ji (((i:Int)) + 1))), (0, .ref (E.2.1 28)), (1, .int (ji ((r:Int)))), (2, .long (jl D)), (4, .int (ji (bi bo)))] := hl
            refine lv_goto hx hb dM_obstacleOf_112 rfl ?_
            refine ih (i + 1) ls H locs (by omega) (fun m hm hj => ?_) hl hP hS
            obtain ⟨j, j1, j2⟩ := hj
            rcases Nat.lt_or_ge j i with g | g
            · exact hz m hm ⟨j, g, j2⟩
            · have hji : j = i := by omega
              rw [hji] at j2
              rw [← j2]
              exact hz3
          · have hz3 := bi_eq h3
            rw [q1] at hz3
            have hlow : ∀ m : Nat, S m → m < q → zM r D (M 32) bo m := fun m hm hlt => by
              obtain ⟨j, j1, j2⟩ := hS0.2.2 m hm
              refine hz m hm ⟨j, ?_, j2⟩
              rcases Nat.lt_or_ge j i with g | g
              · exact g
              · rcases Nat.lt_or_ge i j with g4 | g4
                · have := hS0.1 i j g4 j1
                  omega
                · have hji : j = i := by omega
                  rw [hji] at j2
                  omega
            have huq : ∀ q' : Nat, S q' → ¬ zM r D (M 32) bo q' → (∀ m : Nat, S m → m < q' → zM r D (M 32) bo m) → q' = q := fun q' g1 g2 g3 => by
              rcases Nat.lt_trichotomy q' q with g | g | g
              · exact absurd (hlow q' g1 g) g2
              · exact g
              · exact absurd (g3 q q2 g) hz3
            refine lv_aload_n hx hb dM_obstacleOf_100 rfl (lv_at hl 1 rfl) ?_
            refine m_get (C := "RationalFormsModel") (T := TxM) (N := 13) hx hb hg uwM hown hK hP (by omega) (sh_M E _) rfl 9 (by decide) wd468 rfl dM_obstacleOf_101 ?_
            refine lv_iload hx hb dM_obstacleOf_104 (lv_at hl 0 rfl) ?_
            refine m_lald (n := i) hx hb hK hP (by omega) (sh_33 E _) rfl (by omega) (by decide) dM_obstacleOf_106 ?_
            refine j_l2i hx hb dM_obstacleOf_107 ?_
            exact mm_iret hx hb hr hk hP hS dM_obstacleOf_108 ⟨⟨M 33 i, rfl, by omega, fun g => absurd hz0 g, fun _ g => absurd g hr2, fun _ g => absurd g hr2, fun _ _ g => absurd (g q q2) hz3, fun _ _ q' g1 g2 g3 => by rw [huq q' g1 g2 g3]; exact q1⟩, rfl⟩
    have loop2 : ∀ (hr2 : r = 2) (hD1 : D ≠ -1) (B : Nat) (hB1 : prm B) (hB2 : B ≤ 2147483647) (hB3 : ¬ sqM (-D) B) (N i : Nat) (ls : Array Slot), i + N = B → 2 ≤ i → (∀ m : Nat, m < i → prm m → sqM (-D) m) → lv_has ls 7 [(5, .long (jl ((i:Int)))), (0, .ref (E.2.1 28)), (1, .int (ji ((r:Int)))), (2, .long (jl D)), (4, .int (ji (bi bo)))] → W p_ l e_ (rmd 4) s_ m_ a_ b_ t_ c_ H locs 0 0 (XQ b_ (mmQ E (fun v M9 => (∃ z : Int, v = some (.int (ji z)) ∧ b32 z ∧ oMs S (zM r D (M 32) bo) r D z) ∧ M9 = M)) a_ s_ 0 0 (wA E)) (F0 m_ 39 ls []) := by
      intro hr2 hD1 B hB1 hB2 hB3 N
      have fin : ∀ (i : Nat) (ls : Array Slot), 2 ≤ i → i ≤ B → prm i → ¬ sqM (-D) i → (∀ m : Nat, m < i → prm m → sqM (-D) m) → lv_has ls 7 [(5, .long (jl ((i:Int)))), (0, .ref (E.2.1 28)), (1, .int (ji ((r:Int)))), (2, .long (jl D)), (4, .int (ji (bi bo)))] → W p_ l e_ (rmd 4) s_ m_ a_ b_ t_ c_ H locs 0 0 (XQ b_ (mmQ E (fun v M9 => (∃ z : Int, v = some (.int (ji z)) ∧ b32 z ∧ oMs S (zM r D (M 32) bo) r D z) ∧ M9 = M)) a_ s_ 0 0 (wA E)) (F0 m_ 66 ls []) := by
        intro i ls hi2 hiB hpi hs4 hz hl
        refine lv_lload hx hb dM_obstacleOf_66 (lv_at hl 0 rfl) ?_
        refine j_l2i hx hb dM_obstacleOf_68 ?_
        exact mm_iret hx hb hr hk hP hS dM_obstacleOf_69 ⟨⟨i, rfl, by omega, fun g => absurd hz0 g, fun _ _ g => absurd g hD1, fun _ _ _ => ⟨i, rfl, hpi, hs4, hz⟩, fun _ g => absurd hr2 g, fun _ g => absurd hr2 g⟩, rfl⟩
      induction N with
      | zero =>
        intro i ls h0 hi2 hz hl
        have hiB : i = B := by omega
        rw [← hiB] at hB1 hB3
        refine lv_lload hx hb dM_obstacleOf_39 (lv_at hl 0 rfl) ?_
        refine pm_G (As := [.long (jl ((i:Int)))]) (rest := []) hx hb hml hown hg hl (kM_isPrime l (i : Int) (by omega)) wd556 wd557 wd5 wd558 ⟨rfl, rfl⟩ (n := 1) (by decide +kernel) rfl ⟨by decide, by decide⟩ rfl (Nat.le_of_ble_eq_true rfl) dM_obstacleOf_41 ⟨Nat.zero_le _, Nat.zero_le _⟩ (fun r hr9 => ?_)
        subst hr9
        refine j_if_eq hx hb (bi_b32 _) dM_obstacleOf_44 rfl (fun h3 => ?_) (fun h3 => ?_)
        · exact absurd hB1 (by have := bi_eq h3; rwa [Int.toNat_natCast] at this)
        · refine lv_lload_n hx hb dM_obstacleOf_47 rfl (lv_at hl 3 rfl) ?_
          refine j_lneg hx hb dM_obstacleOf_48 ?_
          refine lv_lload hx hb dM_obstacleOf_49 (lv_at hl 0 rfl) ?_
          refine pm_G (As := [.long (jl (-D)), .long (jl ((i:Int)))]) (rest := []) hx hb hml hown hg hl (kM_isSquare l (-D) (i : Int) (by omega) (Or.inr (by omega))) wd588 wd589 wd5 wd590 ⟨rfl, rfl⟩ (n := 2) (by decide +kernel) rfl ⟨by decide, by decide⟩ rfl (Nat.le_of_ble_eq_true rfl) dM_obstacleOf_51 ⟨Nat.zero_le _, Nat.zero_le _⟩ (fun r hr9 => ?_)
          subst hr9
          refine j_if_eq hx hb (bi_b32 _) dM_obstacleOf_54 rfl (fun h4 => ?_) (fun h4 => ?_)
          · exact fin i ls hi2 (by omega) hB1 hB3 hz hl
          · exact absurd (bi_ne h4) hB3
      | succ N ih =>
        intro i ls h0 hi2 hz hl
        refine lv_lload hx hb dM_obstacleOf_39 (lv_at hl 0 rfl) ?_
        refine pm_G (As := [.long (jl ((i:Int)))]) (rest := []) hx hb hml hown hg hl (kM_isPrime l (i : Int) (by omega)) wd556 wd557 wd5 wd558 ⟨rfl, rfl⟩ (n := 1) (by decide +kernel) rfl ⟨by decide, by decide⟩ rfl (Nat.le_of_ble_eq_true rfl) dM_obstacleOf_41 ⟨Nat.zero_le _, Nat.zero_le _⟩ (fun r hr9 => ?_)
        subst hr9
        refine j_if_eq hx hb (bi_b32 _) dM_obstacleOf_44 rfl (fun h3 => ?_) (fun h3 => ?_)
        · refine lv_lload hx hb dM_obstacleOf_57 (lv_at hl 0 rfl) ?_
          refine j_lconst1 hx hb dM_obstacleOf_59 ?_
          refine j_ladd hx hb dM_obstacleOf_60 ?_
          refine lv_lstore hx hb dM_obstacleOf_61 hl (by decide) rfl (fun ls hl => ?_)
          have hl : lv_has ls 7 [(5, .long (jl (((i:Int)) + 1))), (0, .ref (E.2.1 28)), (1, .int (ji ((r:Int)))), (2, .long (jl D)), (4, .int (ji (bi bo)))] := hl
          refine lv_goto hx hb dM_obstacleOf_63 rfl ?_
          refine ih (i + 1) ls (by omega) (by omega) (fun m hm hp => ?_) hl
          rcases Nat.lt_or_ge m i with g | g
          · exact hz m g hp
          · have hmi : m = i := by omega
            rw [hmi] at hp
            exact absurd hp (by have := bi_eq h3; rwa [Int.toNat_natCast] at this)
        · have hpi : prm i := by have := bi_ne h3; rwa [Int.toNat_natCast] at this
          refine lv_lload_n hx hb dM_obstacleOf_47 rfl (lv_at hl 3 rfl) ?_
          refine j_lneg hx hb dM_obstacleOf_48 ?_
          refine lv_lload hx hb dM_obstacleOf_49 (lv_at hl 0 rfl) ?_
          refine pm_G (As := [.long (jl (-D)), .long (jl ((i:Int)))]) (rest := []) hx hb hml hown hg hl (kM_isSquare l (-D) (i : Int) (by omega) (Or.inr (by omega))) wd588 wd589 wd5 wd590 ⟨rfl, rfl⟩ (n := 2) (by decide +kernel) rfl ⟨by decide, by decide⟩ rfl (Nat.le_of_ble_eq_true rfl) dM_obstacleOf_51 ⟨Nat.zero_le _, Nat.zero_le _⟩ (fun r hr9 => ?_)
          subst hr9
          refine j_if_eq hx hb (bi_b32 _) dM_obstacleOf_54 rfl (fun h4 => ?_) (fun h4 => ?_)
          · exact fin i ls hi2 (by omega) hpi (bi_eq h4) hz hl
          · have hs4 := bi_ne h4
            refine lv_lload hx hb dM_obstacleOf_57 (lv_at hl 0 rfl) ?_
            refine j_lconst1 hx hb dM_obstacleOf_59 ?_
            refine j_ladd hx hb dM_obstacleOf_60 ?_
            refine lv_lstore hx hb dM_obstacleOf_61 hl (by decide) rfl (fun ls hl => ?_)
            have hl : lv_has ls 7 [(5, .long (jl (((i:Int)) + 1))), (0, .ref (E.2.1 28)), (1, .int (ji ((r:Int)))), (2, .long (jl D)), (4, .int (ji (bi bo)))] := hl
            refine lv_goto hx hb dM_obstacleOf_63 rfl ?_
            refine ih (i + 1) ls (by omega) (by omega) (fun m hm hp => ?_) hl
            rcases Nat.lt_or_ge m i with g | g
            · exact hz m g hp
            · have hmi : m = i := by omega
              rw [hmi]
              exact hs4
    refine lv_iload_n hx hb dM_obstacleOf_14 rfl (lv_at hl 1 rfl) ?_
    refine j_iconst hx hb dM_obstacleOf_15 ?_
    refine j_icmp_ne hx hb (by omega) (by omega) dM_obstacleOf_16 rfl (fun h2 => ?_) (fun h2 => ?_)
    · refine lv_iload_n hx hb dM_obstacleOf_29 rfl (lv_at hl 1 rfl) ?_
      refine j_iconst hx hb dM_obstacleOf_30 ?_
      refine j_icmp_ne hx hb (by omega) (by omega) dM_obstacleOf_31 rfl (fun h5 => ?_) (fun h5 => ?_)
      · refine j_iconst hx hb dM_obstacleOf_70 ?_
        refine lv_istore hx hb dM_obstacleOf_71 hl (by decide) rfl (fun ls hl => ?_)
        have hl : lv_has ls 7 [(5, .int (ji 0)), (0, .ref (E.2.1 28)), (1, .int (ji ((r:Int)))), (2, .long (jl D)), (4, .int (ji (bi bo)))] := hl
        exact loop (by omega) c 0 ls H locs (by omega) (fun q _ hj => by obtain ⟨j, j1, _⟩ := hj; omega) hl hP hS
      · omega
    · have hr2 : r = 2 := by omega
      refine lv_lload_n hx hb dM_obstacleOf_19 rfl (lv_at hl 2 rfl) ?_
      refine j_ldc2 (z := -1) hx hb hown hg wd538 rfl dM_obstacleOf_20 ?_
      refine j_lc_ne hx hb (by omega) (by omega) dM_obstacleOf_23 dM_obstacleOf_24 rfl (fun h3 => ?_) (fun h3 => ?_)
      · refine lv_iload_n hx hb dM_obstacleOf_29 rfl (lv_at hl 1 rfl) ?_
        refine j_iconst hx hb dM_obstacleOf_30 ?_
        refine j_icmp_ne hx hb (by omega) (by omega) dM_obstacleOf_31 rfl (fun h4 => ?_) (fun h4 => ?_)
        · omega
        · obtain ⟨B, hB1, hB2, hB3⟩ := hex hz0 hr2 h3
          have hB4 := hB1.1
          refine j_ldc2 (z := 2) hx hb hown hg wd522 rfl dM_obstacleOf_34 ?_
          refine lv_lstore hx hb dM_obstacleOf_37 hl (by decide) rfl (fun ls hl => ?_)
          have hl : lv_has ls 7 [(5, .long (jl 2)), (0, .ref (E.2.1 28)), (1, .int (ji ((r:Int)))), (2, .long (jl D)), (4, .int (ji (bi bo)))] := hl
          exact loop2 hr2 h3 B hB1 hB2 hB3 (B - 2) 2 ls (by omega) (by omega) (fun m hm hp => absurd hp.1 (by omega)) hl
      · refine j_iconst hx hb dM_obstacleOf_27 ?_
        exact mm_iret hx hb hr hk hP hS dM_obstacleOf_28 ⟨⟨-1, rfl, by decide, fun g => absurd hz0 g, fun _ _ _ => rfl, fun _ _ g => absurd h3 g, fun _ g => absurd hr2 g, fun _ g => absurd hr2 g⟩, rfl⟩
  · have hz0 := bi_eq h1
    refine j_iconst hx hb dM_obstacleOf_12 ?_
    exact mm_iret hx hb hr hk hP hS dM_obstacleOf_13 ⟨⟨0, rfl, by decide, fun _ => rfl, fun g => absurd g hz0, fun g => absurd g hz0, fun g => absurd g hz0, fun g => absurd g hz0⟩, rfl⟩

set_option maxRecDepth 100000 in
set_option maxHeartbeats 4000000 in
theorem kM_noteSigns (l : Launch) (E : En) (hJ : wJ E) (M : Me) (r : Nat) (hr3 : M 28 3 = r) (hG : TG M r) (c : Nat) (hc : M 28 8 = c) (hc2 : c ≤ 60) (S : Nat → Prop) (hS0 : SL c (M 33) S) (hb0 : ∀ q, S q → 2 ≤ q ∧ q ≤ 2147483647) : MM l yM_noteSigns wsM_noteSigns (rmd 3) E M [.ref (E.2.1 28)] (fun v M9 => v = none ∧ (∃ c9 : Nat, c9 ≤ c ∧ M9 28 10 = c9 ∧ SL c9 (M9 34) (fun q => S q ∧ hsM M r q = -1) ∧ ∀ i, c9 ≤ i → M9 34 i = M 34 i) ∧ (∀ q, q ≠ 28 → q ≠ 34 → M9 q = M q) ∧ ∀ j, j ≠ 10 → M9 28 j = M 28 j) := by
  refine MM.ofG (by decide +kernel) (Nat.le_of_ble_eq_true rfl) ?_
  intro p_ e_ s_ m_ a_ b_ t_ c_ hx hb hml hr hk hg hown hK hP hS ls hl
  have hl : lv_has ls 2 [(0, .ref (E.2.1 28))] := hl
  have hr5 := hG.1
  have loop : ∀ (N i k : Nat) (M1 : Me) (ls : Array Slot) (H : Heap) (locs : List Loc), i + N = c → k ≤ i → M1 28 10 = k → SL k (M1 34) (fun q => (S q ∧ hsM M r q = -1) ∧ ∃ j, j < i ∧ M 33 j = q) → (∀ j, k ≤ j → M1 34 j = M 34 j) → ((∀ q, q ≠ 28 → q ≠ 34 → M1 q = M q) ∧ ∀ j, j ≠ 10 → M1 28 j = M 28 j) → lv_has ls 2 [(1, .int (ji ((i:Int)))), (0, .ref (E.2.1 28))] → wP E M1 H → va_S (wA E) s_.heap H locs → W p_ l e_ (rmd 3) s_ m_ a_ b_ t_ c_ H locs 0 0 (XQ b_ (mmQ E (fun v M9 => v = none ∧ (∃ c9 : Nat, c9 ≤ c ∧ M9 28 10 = c9 ∧ SL c9 (M9 34) (fun q => S q ∧ hsM M r q = -1) ∧ ∀ i, c9 ≤ i → M9 34 i = M 34 i) ∧ (∀ q, q ≠ 28 → q ≠ 34 → M9 q = M q) ∧ ∀ j, j ≠ 10 → M9 28 j = M 28 j)) a_ s_ 0 0 (wA E)) (F0 m_ 7 ls []) := by
    intro N
    induction N with
    | zero =>
      intro i k M1 ls H locs h0 hki hk7 hSL hre hF hl hP hS
      refine lv_iload_n hx hb dM_noteSigns_7 rfl (lv_at hl 0 rfl) ?_
      refine lv_aload_n hx hb dM_noteSigns_8 rfl (lv_at hl 1 rfl) ?_
      refine m_get (C := "RationalFormsModel") (T := TxM) (N := 13) hx hb hg uwM hown hK hP (by omega) (sh_M E _) rfl 8 (by decide) wd467 rfl dM_noteSigns_9 ?_
      refine j_icmp_ge hx hb (by omega) (by rw [hF.2 8 (by omega), hc]; omega) dM_noteSigns_12 rfl (fun h2 => ?_) (fun h2 => ?_)
      · exact mm_vret hx hb hr hk hP hS dM_noteSigns_64 ⟨rfl, ⟨k, by omega, hk7, hSL.to (fun q => ⟨fun h => h.1, fun h => ⟨h, by obtain ⟨j, j1, j2⟩ := hS0.2.2 q h.1; exact ⟨j, by omega, j2⟩⟩⟩), hre⟩, hF⟩
      · rw [hF.2 8 (by omega), hc] at h2
        omega
    | succ N ih =>
      intro i k M1 ls H locs h0 hki hk7 hSL hre hF hl hP hS
      obtain ⟨q, q1, q2⟩ := hS0.2.1 i (by omega)
      have hpl : plc (M 33 i) := by rw [q1]; have := hb0 q q2; right; omega
      have hbq := hb0 q q2
      have e33 : M1 33 = M 33 := hF.1 33 (by omega) (by omega)
      have e32 : M1 32 = M 32 := hF.1 32 (by omega) (by omega)
      have e3 : M1 28 3 = r := by rw [hF.2 3 (by omega)]; exact hr3
      have hG1 : TG M1 r := by unfold TG; rw [e32]; exact hG
      have hs1 : ∀ x, hsM M1 r x = hsM M r x := fun x => by unfold hsM; rw [e32]
      have hpl1 : plc (M1 33 i) := by rw [e33]; exact hpl
      refine lv_iload_n hx hb dM_noteSigns_7 rfl (lv_at hl 0 rfl) ?_
      refine lv_aload_n hx hb dM_noteSigns_8 rfl (lv_at hl 1 rfl) ?_
      refine m_get (C := "RationalFormsModel") (T := TxM) (N := 13) hx hb hg uwM hown hK hP (by omega) (sh_M E _) rfl 8 (by decide) wd467 rfl dM_noteSigns_9 ?_
      refine j_icmp_ge hx hb (by omega) (by rw [hF.2 8 (by omega), hc]; omega) dM_noteSigns_12 rfl (fun h2 => ?_) (fun h2 => ?_)
      · rw [hF.2 8 (by omega), hc] at h2
        omega
      · refine lv_aload_n hx hb dM_noteSigns_15 rfl (lv_at hl 1 rfl) ?_
        refine lv_aload_n hx hb dM_noteSigns_16 rfl (lv_at hl 1 rfl) ?_
        refine m_get (C := "RationalFormsModel") (T := TxM) (N := 13) hx hb hg uwM hown hK hP (by omega) (sh_M E _) rfl 3 (by decide) wd462 rfl dM_noteSigns_17 ?_
        refine lv_aload_n hx hb dM_noteSigns_20 rfl (lv_at hl 1 rfl) ?_
        refine m_get (C := "RationalFormsModel") (T := TxM) (N := 13) hx hb hg uwM hown hK hP (by omega) (sh_M E _) rfl 9 (by decide) wd468 rfl dM_noteSigns_21 ?_
        refine lv_iload_n hx hb dM_noteSigns_24 rfl (lv_at hl 0 rfl) ?_
        refine m_lald (n := i) hx hb hK hP (by omega) (sh_33 E _) rfl (by omega) (by decide) dM_noteSigns_25 ?_
        rw [e3]
        refine mm_V (As := [.int (ji ((r:Int))), .long (jl (M1 33 i))]) (rest := []) hx hb hml hown hg hl hK hP hS (by omega) (sh_M E _) rfl (kM_hasseOf l E hJ M1 r hG1 (M1 33 i) hpl1) wd576 wd578 wds17 wd5 wd579 ⟨rfl, rfl⟩ (n := 2) (by decide +kernel) rfl ⟨by decide, by decide⟩ rfl (Nat.le_of_ble_eq_true rfl) dM_noteSigns_26 ⟨Nat.zero_le _, Nat.zero_le _⟩ (fun v M3 H locs hq3 hP hS => ?_)
        obtain ⟨rfl, hM3⟩ := hq3
        rw [hM3] at hP
        refine j_if_ge hx hb (pm1_b32 (hs_pm (fun a b => syM_pm a b _) _ _)) dM_noteSigns_29 rfl (fun h3 => ?_) (fun h3 => ?_)
        · rw [hs1, e33, q1] at h3
          refine lv_iinc (k := 0) (v := ji (((i:Int)) + 1)) hx hb dM_noteSigns_58 hl rfl (Int32.ofInt_add _ _).symm (by decide) rfl (fun ls hl => ?_)
          have hl : lv_has ls 2 [(1, .int (ji (((i:Int)) + 1))), (0, .ref (E.2.1 28))] := hl
          refine lv_goto hx hb dM_noteSigns_61 rfl ?_
          refine ih (i + 1) k M1 ls H locs (by omega) (by omega) hk7 (hSL.to (fun x => ⟨fun h => ⟨h.1, h.2.elim fun j hj => ⟨j, by omega, hj.2⟩⟩, fun h => ⟨h.1, ?_⟩⟩)) hre hF hl hP hS
          obtain ⟨⟨x1, x2⟩, j, j1, j2⟩ := h
          rcases Nat.lt_or_ge j i with g | g
          · exact ⟨j, g, j2⟩
          · have hji : j = i := by omega
            rw [hji] at j2
            have hxq : x = q := by omega
            rw [hxq] at x2
            omega
        · rw [hs1, e33, q1] at h3
          have hm1 : hsM M r q = -1 := (hs_pm (fun a b => syM_pm a b q) (M 32) r).elim (fun g => absurd h3 (by rw [show hsM M r q = 1 from g]; omega)) id
          refine lv_aload_n hx hb dM_noteSigns_32 rfl (lv_at hl 1 rfl) ?_
          refine m_get (C := "RationalFormsModel") (T := TxM) (N := 13) hx hb hg uwM hown hK hP (by omega) (sh_M E _) rfl 11 (by decide) wd470 rfl dM_noteSigns_33 ?_
          refine lv_aload_n hx hb dM_noteSigns_36 rfl (lv_at hl 1 rfl) ?_
          refine m_get (C := "RationalFormsModel") (T := TxM) (N := 13) hx hb hg uwM hown hK hP (by omega) (sh_M E _) rfl 10 (by decide) wd469 rfl dM_noteSigns_37 ?_
          rw [hk7]
          refine lv_aload_n hx hb dM_noteSigns_40 rfl (lv_at hl 1 rfl) ?_
          refine m_get (C := "RationalFormsModel") (T := TxM) (N := 13) hx hb hg uwM hown hK hP (by omega) (sh_M E _) rfl 9 (by decide) wd468 rfl dM_noteSigns_41 ?_
          refine lv_iload_n hx hb dM_noteSigns_44 rfl (lv_at hl 0 rfl) ?_
          refine m_lald (n := i) hx hb hK hP (by omega) (sh_33 E _) rfl (by omega) (by decide) dM_noteSigns_45 ?_
          refine j_l2i hx hb dM_noteSigns_46 ?_
          refine m_iast (n := k) hx hb hK hJ hP hS (by omega) (fun r => sh_34 E r) rfl (by omega) (by decide) dM_noteSigns_47 (fun H locs hP hS => ?_)
          obtain ⟨M4, e4⟩ : ∃ X, X = mu M1 34 k (M1 33 i) := ⟨_, rfl⟩
          rw [← e4] at hP
          have h410 : M4 28 10 = k := by rw [e4, mu_k (by omega)]; exact hk7
          refine lv_aload_n hx hb dM_noteSigns_48 rfl (lv_at hl 1 rfl) ?_
          refine lv_dup hx hb dM_noteSigns_49 rfl ?_
          refine m_get (C := "RationalFormsModel") (T := TxM) (N := 13) hx hb hg uwM hown hK hP (by omega) (sh_M E _) rfl 10 (by decide) wd469 rfl dM_noteSigns_50 ?_
          refine j_iconst hx hb dM_noteSigns_53 ?_
          refine j_iadd hx hb dM_noteSigns_54 ?_
          refine m_put (C := "RationalFormsModel") (T := TxM) (N := 13) (ty := .int) (z := (M4 28 10) + 1) hx hb hg uwM txM txM_ok nmM hown hK hJ hP hS (by omega) (sh_M E _) rfl 10 (by decide) wd469 rfl rfl rfl rfl (Nat.le_of_ble_eq_true rfl) (by rw [sh_M E _]; simp [mu]) dM_noteSigns_55 (fun H locs hP hS => ?_)
          rw [h410] at hP
          refine lv_iinc (k := 0) (v := ji (((i:Int)) + 1)) hx hb dM_noteSigns_58 hl rfl (Int32.ofInt_add _ _).symm (by decide) rfl (fun ls hl => ?_)
          have hl : lv_has ls 2 [(1, .int (ji (((i:Int)) + 1))), (0, .ref (E.2.1 28))] := hl
          refine lv_goto hx hb dM_noteSigns_61 rfl ?_
          refine ih (i + 1) (k + 1) _ ls H locs (by omega) (by omega) (by rw [mu_s]; rfl) ?_ (fun j hj => ?_) ⟨fun x x1 x2 => ?_, fun j hj => ?_⟩ hl hP hS
          · rw [mu_k (by omega)]
            refine SL.to (S := fun x => x = q ∨ ((S x ∧ hsM M r x = -1) ∧ ∃ j, j < i ∧ M 33 j = x)) (SL.ins (at9 := k) hSL (Nat.le_refl _) (fun x hx => ?_) (fun x x1 x2 => by omega) (fun x hx => ?_) ?_ (fun x x1 x2 => by omega)) (fun x => ⟨fun h => ?_, fun h => ?_⟩)
            · obtain ⟨y, y1, ⟨y2, y3⟩, j, j1, j2⟩ := hSL.2.1 x hx
              rw [y1, ← j2, ← q1]
              exact hS0.1 j i j1 (by omega)
            · rw [e4, mu_j (by omega)]
            · rw [e4, mu_s, e33]; exact q1
            · rcases h with h | h
              · rw [h]; exact ⟨⟨q2, hm1⟩, i, by omega, q1⟩
              · exact ⟨h.1, h.2.elim fun j hj => ⟨j, by omega, hj.2⟩⟩
            · obtain ⟨x1, j, j1, j2⟩ := h
              rcases Nat.lt_or_ge j i with g | g
              · exact Or.inr ⟨x1, j, g, j2⟩
              · have hji : j = i := by omega
                rw [hji] at j2
                exact Or.inl (by omega)
          · rw [mu_k (by omega), e4, mu_j (by omega)]; exact hre j (by omega)
          · rw [mu_k x1, e4, mu_k x2]; exact hF.1 x x1 x2
          · rw [mu_j hj, e4, mu_k (by omega)]; exact hF.2 j hj
  refine lv_aload_n hx hb dM_noteSigns_0 rfl (lv_at hl 0 rfl) ?_
  refine j_iconst hx hb dM_noteSigns_1 ?_
  refine m_put (C := "RationalFormsModel") (T := TxM) (N := 13) (ty := .int) (z := 0) hx hb hg uwM txM txM_ok nmM hown hK hJ hP hS (by omega) (sh_M E _) rfl 10 (by decide) wd469 rfl rfl rfl rfl (Nat.le_of_ble_eq_true rfl) (by rw [sh_M E _]; simp [mu]) dM_noteSigns_2 (fun H locs hP hS => ?_)
  refine j_iconst hx hb dM_noteSigns_5 ?_
  refine lv_istore_n hx hb dM_noteSigns_6 rfl hl (by decide) rfl (fun ls hl => ?_)
  have hl : lv_has ls 2 [(1, .int (ji 0)), (0, .ref (E.2.1 28))] := hl
  exact loop c 0 0 _ ls H locs (by omega) (Nat.le_refl _) (mu_s _ _ _ _) ⟨fun i j h1 h2 => by omega, fun i h => by omega, fun q h => by obtain ⟨-, j, j1, -⟩ := h; omega⟩ (fun j _ => by rw [mu_k (by omega)]) ⟨fun q q1 q2 => mu_k q1, fun j hj => mu_j hj _⟩ hl hP hS
end
