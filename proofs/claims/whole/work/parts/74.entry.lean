/-! the law's entry: tables, cells, invariant -/
theorem th2_of {O f d : String} {A : Array Value} {U : State} (h1 : (Cond.laysStatic O f d).before A U = true) (h2 : (Cond.isRef (.static O f d)).before A U = true) : th2 O f d U := by
  obtain ⟨c, k, i, fd, a, cell, hc, hf, hst, hsta, hcell, hiss, hcls, hlt, hty⟩ := Cond.laysStatic_spec h1
  have hv : cell.slots[fd.slot]? = some cell.slots[fd.slot] := Array.getElem?_eq_getElem hlt
  have he : (Term.static O f d).eval A U none [] U = some cell.slots[fd.slot] := Term.static_eval hf hst hsta hcell hiss hv
  refine ⟨Cond.laysStatic_of hc hf hst hsta hcell hiss hcls hlt hty, ?_⟩
  have he2 : (Term.static O f d).eval #[] U none [] U = some cell.slots[fd.slot] := Term.static_eval hf hst hsta hcell hiss hv
  simp only [Cond.before, Cond.holds, Cond.value, he] at h2
  simp only [Cond.before, Cond.holds, Cond.value, he2]
  exact h2
/-- the classes' and the arrays' tables -/
theorem k0_arr {s : State} {args : Array Value} {ty : FieldType} (h : (Cond.arrayClass ty).before args s = true) (ho : ∀ C, ty ≠ .object C) : ∃ cA, ArrOfT s cA ty ∧ va_RA s cA ty := by
  obtain ⟨cA, kA, comp, hf, hk, hkind⟩ := Cond.arrayClass_spec h
  refine ⟨cA, fun n z => ⟨fun k h => (by cases h), kA, hk, comp, hkind⟩, ?_⟩
  cases ty with
  | object C => exact absurd rfl (ho C)
  | _ => exact hf
theorem k0_arrA {s : State} {t : FieldType} (h : (Cond.arrayOver (.array t)).before #[] s = true) : ∃ cA, ArrOfT s cA (.array t) ∧ va_RA s cA (.array t) := by
  obtain ⟨comp, cA, kA, hc, -, hk, hkind, hf⟩ := arrayOverA_spec h
  exact ⟨cA, fun n z => ⟨fun k h => (by cases h), kA, hk, comp, hkind⟩, hf⟩
theorem k0_arrO {s : State} {C : String} (h : (Cond.arrayOver (.object C)).before #[] s = true) : ∃ cA, ArrOfT s cA (.object C) ∧ va_RA s cA (.object C) := by
  obtain ⟨comp, cA, kA, hc, -, hk, hkind, hf⟩ := Cond.arrayOver_spec h
  exact ⟨cA, fun n z => ⟨fun k h => (by cases h), kA, hk, comp, hkind⟩, kA, comp, hk, hkind, hc, hf⟩
theorem k0_of {s : State} {args : Array Value} (hg : ∀ w ∈ GG, w.before args s = true) (hAO : nAO s) (hi : Cond.arrayClass .int ∈ GG) (hl : Cond.arrayClass .long ∈ GG) (hD : Cond.instantiable "RationalForms$Diagonal" 8 ∈ GG) (hF : Cond.instantiable "RationalForms$Form" 2 ∈ GG) (hR : Cond.instantiable "RationalForms$Reduction" 2 ∈ GG) (hC : Cond.instantiable "RationalForms" 4 ∈ GG) (hM : Cond.instantiable "RationalFormsModel" 13 ∈ GG) : ∃ (D : va_G) (cs : Nat → ClassId), K0 D cs s := by
  obtain ⟨c0, i0, k0⟩ := u_known hg uwD (hg _ hD)
  obtain ⟨c1, i1, k1⟩ := u_known hg uwF (hg _ hF)
  obtain ⟨c2, i2, k2⟩ := u_known hg uwR (hg _ hR)
  obtain ⟨c3, i3, k3⟩ := u_known hg uwC (hg _ hC)
  obtain ⟨c4, i4, k4⟩ := u_known hg uwM (hg _ hM)
  obtain ⟨a0, b0⟩ := k0_arr (hg _ hi) (fun C h => by cases h)
  obtain ⟨a1, b1⟩ := k0_arr (hg _ hl) (fun C h => by cases h)
  obtain ⟨a2, b2⟩ := k0_arrA hAO.1
  obtain ⟨a3, b3⟩ := k0_arrA hAO.2.1
  obtain ⟨a4, b4⟩ := k0_arrO hAO.2.2.1
  obtain ⟨a5, b5⟩ := k0_arrO hAO.2.2.2
  refine ⟨(fun c => match c with | 0 => c0 | 1 => c1 | 2 => c2 | 3 => c3 | _ => c4, fun c => match c with | 0 => i0 | 1 => i1 | 2 => i2 | 3 => i3 | _ => i4), fun k => match k with | 0 => a0 | 1 => a1 | 2 => a2 | 3 => a3 | 4 => a4 | _ => a5, fun c q hq => ?_, fun k q hq => ?_⟩
  · have hlt : c < 5 := (List.getElem?_eq_some_iff.mp hq).1
    match c, hlt, hq with
    | 0, _, hq => cases hq; exact k0
    | 1, _, hq => cases hq; exact k1
    | 2, _, hq => cases hq; exact k2
    | 3, _, hq => cases hq; exact k3
    | 4, _, hq => cases hq; exact k4
  · have hlt : k < 6 := (List.getElem?_eq_some_iff.mp hq).1
    match k, hlt, hq with
    | 0, _, hq => cases hq; exact b0
    | 1, _, hq => cases hq; exact b1
    | 2, _, hq => cases hq; exact b2
    | 3, _, hq => cases hq; exact b3
    | 4, _, hq => cases hq; exact b4
    | 5, _, hq => cases hq; exact b5
/-- where the places lie, counted from the first new cell -/
def oF : List Nat := [0, 1, 2, 3, 9, 10, 19, 11, 20, 12, 13, 14, 15, 21, 22, 23, 24, 16, 25, 17, 26, 18, 27, 4, 5, 6, 7, 8, 28, 29, 30, 31, 32, 33, 34, 35]
def E0 (D : va_G) (cs : Nat → ClassId) (h : Nat) : En := (D, fun k => h + oF.getD k 0, cs)
def M0 : Me := fun k j => if k = 5 then (if j = 0 then 1 else 0) else if k = 6 then (if j = 0 then 1 else 0) else if k = 17 then (if j = 2 then 1 else if j = 6 then 1 else 0) else if k = 18 then (if j = 2 then 1 else if j = 6 then 1 else 0) else if k = 29 then (if j = 1 then 1 else if j = 0 then 1 else 0) else 0
theorem oF_inj : ∀ i, i < 36 → ∀ j, j < 36 → oF.getD i 0 = oF.getD j 0 → i = j := by decide +kernel
theorem E0_J (D : va_G) (cs : Nat → ClassId) (h : Nat) : wJ (E0 D cs h) := fun i j hi hj he => oF_inj i hi j hj (by have : h + oF.getD i 0 = h + oF.getD j 0 := he; omega)
theorem E0_A {D : va_G} {cs : Nat → ClassId} {h : Nat} : ∀ q, wA (E0 D cs h) q → h ≤ q := by
  rintro q ⟨k, hk, rfl⟩
  exact Nat.le_add_right _ _
theorem M0_0 (k j : Nat) (h : k ≠ 5 ∧ k ≠ 6 ∧ k ≠ 17 ∧ k ≠ 18 ∧ k ≠ 29) : M0 k j = 0 := by
  unfold M0
  rw [if_neg h.1, if_neg h.2.1, if_neg h.2.2.1, if_neg h.2.2.2.1, if_neg h.2.2.2.2]
theorem Iv_0 : Iv M0 (fun _ => 1) := by
  intro g hg
  have hc : g = 0 ∨ g = 1 := by omega
  have hz : ∀ i j, i < 4 → M0 (9 + 4 * g + i) j = 0 := fun i j hi => M0_0 _ _ (by omega)
  refine ⟨Nat.le_refl 1, Nat.le_of_ble_eq_true rfl, ?_, ?_, fun i j hi hj => ?_, ?_, fun i j hi hj _ => hz i j hi⟩
  · rcases hc with rfl | rfl <;> rfl
  · rcases hc with rfl | rfl <;> rfl
  · rw [hz i j hi, M0_0 30 _ (by omega)]
  · intro a b _ ha _ hb
    have e1 : aC M0 g a b = 0 := hz a b ha
    have e2 : aC M0 g b a = 0 := hz b a hb
    rw [e1, e2]
    exact ⟨rfl, by decide⟩
