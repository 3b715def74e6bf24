/-! the cells of class and reference: 36 places; what they hold is M : place -> slot -> number -/
def TxD : u_T := fun k => match k with
  | 0 => ("RationalForms$Diagonal", "terms", "[J", true)
  | 1 => ("RationalForms$Diagonal", "primes", "[I", true)
  | 2 => ("RationalForms$Diagonal", "dimension", "I", false)
  | 3 => ("RationalForms$Diagonal", "rank", "I", false)
  | 4 => ("RationalForms$Diagonal", "positive", "I", false)
  | 5 => ("RationalForms$Diagonal", "negative", "I", false)
  | 6 => ("RationalForms$Diagonal", "discriminant", "J", false)
  | _ => ("RationalForms$Diagonal", "primeCount", "I", false)
def txD : Nat → FieldType := fun k => match k with
  | 0 => .array .long
  | 1 => .array .int
  | 2 => .int
  | 3 => .int
  | 4 => .int
  | 5 => .int
  | 6 => .long
  | _ => .int
theorem nmD : ∀ a, a < 8 → ∀ b, b < 8 → a ≠ b → (TxD a).2.1 ≠ (TxD b).2.1 := by decide +kernel
theorem txD_ok : ∀ k, k < 8 → parseFieldDescriptor (TxD k).2.2.1 = some (txD k) := by decide +kernel
set_option maxRecDepth 20000 in
theorem lyD_0 : u_lay "RationalForms$Diagonal" TxD 0 ∈ GG := GG_t 79 rfl rfl
set_option maxRecDepth 20000 in
theorem lyD_1 : u_lay "RationalForms$Diagonal" TxD 1 ∈ GG := GG_t 81 rfl rfl
set_option maxRecDepth 20000 in
theorem lyD_2 : u_lay "RationalForms$Diagonal" TxD 2 ∈ GG := GG_t 83 rfl rfl
set_option maxRecDepth 20000 in
theorem lyD_3 : u_lay "RationalForms$Diagonal" TxD 3 ∈ GG := GG_t 85 rfl rfl
set_option maxRecDepth 20000 in
theorem lyD_4 : u_lay "RationalForms$Diagonal" TxD 4 ∈ GG := GG_t 87 rfl rfl
set_option maxRecDepth 20000 in
theorem lyD_5 : u_lay "RationalForms$Diagonal" TxD 5 ∈ GG := GG_t 89 rfl rfl
set_option maxRecDepth 20000 in
theorem lyD_6 : u_lay "RationalForms$Diagonal" TxD 6 ∈ GG := GG_t 91 rfl rfl
set_option maxRecDepth 20000 in
theorem lyD_7 : u_lay "RationalForms$Diagonal" TxD 7 ∈ GG := GG_t 93 rfl rfl
theorem uwD : ∀ w ∈ u_ws "RationalForms$Diagonal" TxD 8, w ∈ GG := by
  intro w hw
  obtain ⟨k, hk, rfl⟩ := List.mem_map.mp hw
  have hk := List.mem_range.mp hk
  match k, hk with
  | 0, _ => exact lyD_0
  | 1, _ => exact lyD_1
  | 2, _ => exact lyD_2
  | 3, _ => exact lyD_3
  | 4, _ => exact lyD_4
  | 5, _ => exact lyD_5
  | 6, _ => exact lyD_6
  | 7, _ => exact lyD_7
def TxF : u_T := fun k => match k with
  | 0 => ("RationalForms$Form", "dimension", "I", false)
  | _ => ("RationalForms$Form", "numbers", "[[I", true)
def txF : Nat → FieldType := fun k => match k with
  | 0 => .int
  | _ => .array (.array .int)
theorem nmF : ∀ a, a < 2 → ∀ b, b < 2 → a ≠ b → (TxF a).2.1 ≠ (TxF b).2.1 := by decide +kernel
theorem txF_ok : ∀ k, k < 2 → parseFieldDescriptor (TxF k).2.2.1 = some (txF k) := by decide +kernel
set_option maxRecDepth 20000 in
theorem lyF_0 : u_lay "RationalForms$Form" TxF 0 ∈ GG := GG_t 55 rfl rfl
set_option maxRecDepth 20000 in
theorem lyF_1 : u_lay "RationalForms$Form" TxF 1 ∈ GG := GG_t 57 rfl rfl
theorem uwF : ∀ w ∈ u_ws "RationalForms$Form" TxF 2, w ∈ GG := by
  intro w hw
  obtain ⟨k, hk, rfl⟩ := List.mem_map.mp hw
  have hk := List.mem_range.mp hk
  match k, hk with
  | 0, _ => exact lyF_0
  | 1, _ => exact lyF_1
def TxR : u_T := fun k => match k with
  | 0 => ("RationalForms$Reduction", "table", "[[J", true)
  | _ => ("RationalForms$Reduction", "size", "I", false)
def txR : Nat → FieldType := fun k => match k with
  | 0 => .array (.array .long)
  | _ => .int
theorem nmR : ∀ a, a < 2 → ∀ b, b < 2 → a ≠ b → (TxR a).2.1 ≠ (TxR b).2.1 := by decide +kernel
theorem txR_ok : ∀ k, k < 2 → parseFieldDescriptor (TxR k).2.2.1 = some (txR k) := by decide +kernel
set_option maxRecDepth 20000 in
theorem lyR_0 : u_lay "RationalForms$Reduction" TxR 0 ∈ GG := GG_t 37 rfl rfl
set_option maxRecDepth 20000 in
theorem lyR_1 : u_lay "RationalForms$Reduction" TxR 1 ∈ GG := GG_t 39 rfl rfl
theorem uwR : ∀ w ∈ u_ws "RationalForms$Reduction" TxR 2, w ∈ GG := by
  intro w hw
  obtain ⟨k, hk, rfl⟩ := List.mem_map.mp hw
  have hk := List.mem_range.mp hk
  match k, hk with
  | 0, _ => exact lyR_0
  | 1, _ => exact lyR_1
def TxC : u_T := fun k => match k with
  | 0 => ("RationalForms", "forms", "[LRationalForms$Form;", true)
  | 1 => ("RationalForms", "diagonals", "[LRationalForms$Diagonal;", true)
  | 2 => ("RationalForms", "reduction", "LRationalForms$Reduction;", true)
  | _ => ("RationalForms", "point", "[I", true)
def txC : Nat → FieldType := fun k => match k with
  | 0 => .array (.object "RationalForms$Form")
  | 1 => .array (.object "RationalForms$Diagonal")
  | 2 => .object "RationalForms$Reduction"
  | _ => .array .int
theorem nmC : ∀ a, a < 4 → ∀ b, b < 4 → a ≠ b → (TxC a).2.1 ≠ (TxC b).2.1 := by decide +kernel
theorem txC_ok : ∀ k, k < 4 → parseFieldDescriptor (TxC k).2.2.1 = some (txC k) := by decide +kernel
set_option maxRecDepth 20000 in
theorem lyC_0 : u_lay "RationalForms" TxC 0 ∈ GG := GG_t 100 rfl rfl
set_option maxRecDepth 20000 in
theorem lyC_1 : u_lay "RationalForms" TxC 1 ∈ GG := GG_t 102 rfl rfl
set_option maxRecDepth 20000 in
theorem lyC_2 : u_lay "RationalForms" TxC 2 ∈ GG := GG_t 104 rfl rfl
set_option maxRecDepth 20000 in
theorem lyC_3 : u_lay "RationalForms" TxC 3 ∈ GG := GG_t 106 rfl rfl
theorem uwC : ∀ w ∈ u_ws "RationalForms" TxC 4, w ∈ GG := by
  intro w hw
  obtain ⟨k, hk, rfl⟩ := List.mem_map.mp hw
  have hk := List.mem_range.mp hk
  match k, hk with
  | 0, _ => exact lyC_0
  | 1, _ => exact lyC_1
  | 2, _ => exact lyC_2
  | 3, _ => exact lyC_3
def TxM : u_T := fun k => match k with
  | 0 => ("RationalFormsModel", "dimension", "[I", true)
  | 1 => ("RationalFormsModel", "number", "[I", true)
  | 2 => ("RationalFormsModel", "work", "[J", true)
  | 3 => ("RationalFormsModel", "rank", "I", false)
  | 4 => ("RationalFormsModel", "term", "[J", true)
  | 5 => ("RationalFormsModel", "positive", "I", false)
  | 6 => ("RationalFormsModel", "negative", "I", false)
  | 7 => ("RationalFormsModel", "discriminant", "J", false)
  | 8 => ("RationalFormsModel", "primes", "I", false)
  | 9 => ("RationalFormsModel", "prime", "[J", true)
  | 10 => ("RationalFormsModel", "signs", "I", false)
  | 11 => ("RationalFormsModel", "signAt", "[I", true)
  | _ => ("RationalFormsModel", "thrown", "I", false)
def txM : Nat → FieldType := fun k => match k with
  | 0 => .array .int
  | 1 => .array .int
  | 2 => .array .long
  | 3 => .int
  | 4 => .array .long
  | 5 => .int
  | 6 => .int
  | 7 => .long
  | 8 => .int
  | 9 => .array .long
  | 10 => .int
  | 11 => .array .int
  | _ => .int
theorem nmM : ∀ a, a < 13 → ∀ b, b < 13 → a ≠ b → (TxM a).2.1 ≠ (TxM b).2.1 := by decide +kernel
theorem txM_ok : ∀ k, k < 13 → parseFieldDescriptor (TxM k).2.2.1 = some (txM k) := by decide +kernel
set_option maxRecDepth 20000 in
theorem lyM_0 : u_lay "RationalFormsModel" TxM 0 ∈ GG := GG_t 472 rfl rfl
set_option maxRecDepth 20000 in
theorem lyM_1 : u_lay "RationalFormsModel" TxM 1 ∈ GG := GG_t 474 rfl rfl
set_option maxRecDepth 20000 in
theorem lyM_2 : u_lay "RationalFormsModel" TxM 2 ∈ GG := GG_t 476 rfl rfl
set_option maxRecDepth 20000 in
theorem lyM_3 : u_lay "RationalFormsModel" TxM 3 ∈ GG := GG_t 478 rfl rfl
set_option maxRecDepth 20000 in
theorem lyM_4 : u_lay "RationalFormsModel" TxM 4 ∈ GG := GG_t 480 rfl rfl
set_option maxRecDepth 20000 in
theorem lyM_5 : u_lay "RationalFormsModel" TxM 5 ∈ GG := GG_t 482 rfl rfl
set_option maxRecDepth 20000 in
theorem lyM_6 : u_lay "RationalFormsModel" TxM 6 ∈ GG := GG_t 484 rfl rfl
set_option maxRecDepth 20000 in
theorem lyM_7 : u_lay "RationalFormsModel" TxM 7 ∈ GG := GG_t 486 rfl rfl
set_option maxRecDepth 20000 in
theorem lyM_8 : u_lay "RationalFormsModel" TxM 8 ∈ GG := GG_t 488 rfl rfl
set_option maxRecDepth 20000 in
theorem lyM_9 : u_lay "RationalFormsModel" TxM 9 ∈ GG := GG_t 490 rfl rfl
set_option maxRecDepth 20000 in
theorem lyM_10 : u_lay "RationalFormsModel" TxM 10 ∈ GG := GG_t 492 rfl rfl
set_option maxRecDepth 20000 in
theorem lyM_11 : u_lay "RationalFormsModel" TxM 11 ∈ GG := GG_t 494 rfl rfl
set_option maxRecDepth 20000 in
theorem lyM_12 : u_lay "RationalFormsModel" TxM 12 ∈ GG := GG_t 496 rfl rfl
theorem uwM : ∀ w ∈ u_ws "RationalFormsModel" TxM 13, w ∈ GG := by
  intro w hw
  obtain ⟨k, hk, rfl⟩ := List.mem_map.mp hw
  have hk := List.mem_range.mp hk
  match k, hk with
  | 0, _ => exact lyM_0
  | 1, _ => exact lyM_1
  | 2, _ => exact lyM_2
  | 3, _ => exact lyM_3
  | 4, _ => exact lyM_4
  | 5, _ => exact lyM_5
  | 6, _ => exact lyM_6
  | 7, _ => exact lyM_7
  | 8, _ => exact lyM_8
  | 9, _ => exact lyM_9
  | 10, _ => exact lyM_10
  | 11, _ => exact lyM_11
  | 12, _ => exact lyM_12
abbrev cl5 : List vw_C := [("RationalForms$Diagonal", TxD, 8), ("RationalForms$Form", TxF, 2), ("RationalForms$Reduction", TxR, 2), ("RationalForms", TxC, 4), ("RationalFormsModel", TxM, 13)]
abbrev En : Type := va_G × (Nat → Nat) × (Nat → ClassId)
abbrev Me : Type := Nat → Nat → Int
def iA (c : ClassId) (n : Nat) (r : Nat → Int) : va_E := .inl (c, n, .inl (fun j => ji (r j)))
def lA (c : ClassId) (n : Nat) (r : Nat → Int) : va_E := .inl (c, n, .inr (.inl (fun j => jl (r j))))
def aA (c : ClassId) (n : Nat) (f : Nat → Nat) : va_E := .inl (c, n, .inr (.inr (.inr (.inr (fun j => some (f j))))))
/-- what lies at place k -/
def shp (E : En) (k : Nat) (r : Nat → Int) : va_E :=
  if k = 0 then .inr (3, [.ref (E.2.1 1), .ref (E.2.1 2), .ref (E.2.1 3), .ref (E.2.1 4)])
  else if k = 1 then aA (E.2.2 4) 2 (fun i => E.2.1 (5 + i))
  else if k = 2 then aA (E.2.2 5) 2 (fun i => E.2.1 (17 + i))
  else if k = 3 then .inr (2, [.ref (E.2.1 23), .int (ji (r 1))])
  else if k = 4 then iA (E.2.2 0) 4 r
  else if k < 7 then .inr (1, [.int (ji (r 0)), .ref (E.2.1 (k + 2))])
  else if k < 9 then aA (E.2.2 2) 4 (fun i => E.2.1 (9 + 4 * (k - 7) + i))
  else if k < 17 then iA (E.2.2 0) 4 r
  else if k < 19 then .inr (0, [.ref (E.2.1 (k + 2)), .ref (E.2.1 (k + 4)), .int (ji (r 2)), .int (ji (r 3)), .int (ji (r 4)), .int (ji (r 5)), .long (jl (r 6)), .int (ji (r 7))])
  else if k < 21 then lA (E.2.2 1) 5 r
  else if k < 23 then iA (E.2.2 0) 32 r
  else if k = 23 then aA (E.2.2 3) 4 (fun i => E.2.1 (24 + i))
  else if k < 28 then lA (E.2.2 1) 4 r
  else if k = 28 then .inr (4, [.ref (E.2.1 29), .ref (E.2.1 30), .ref (E.2.1 31), .int (ji (r 3)), .ref (E.2.1 32), .int (ji (r 5)), .int (ji (r 6)), .long (jl (r 7)), .int (ji (r 8)), .ref (E.2.1 33), .int (ji (r 10)), .ref (E.2.1 34), .int (ji (r 12))])
  else if k = 29 then iA (E.2.2 0) 2 r
  else if k = 30 then iA (E.2.2 0) 32 r
  else if k = 31 then lA (E.2.2 1) 16 r
  else if k = 32 then lA (E.2.2 1) 5 r
  else if k = 33 then lA (E.2.2 1) 60 r
  else if k = 34 then iA (E.2.2 0) 60 r
  else lA (E.2.2 1) 1 r
section SH
variable (E : En) (r : Nat → Int)
theorem sh_C : shp E 0 r = .inr (3, [.ref (E.2.1 1), .ref (E.2.1 2), .ref (E.2.1 3), .ref (E.2.1 4)]) := rfl
theorem sh_fs : shp E 1 r = aA (E.2.2 4) 2 (fun i => E.2.1 (5 + i)) := rfl
theorem sh_ds : shp E 2 r = aA (E.2.2 5) 2 (fun i => E.2.1 (17 + i)) := rfl
theorem sh_R : shp E 3 r = .inr (2, [.ref (E.2.1 23), .int (ji (r 1))]) := rfl
theorem sh_pt : shp E 4 r = iA (E.2.2 0) 4 r := rfl
theorem sh_F {f : Nat} (h : f < 2) : shp E (5 + f) r = .inr (1, [.int (ji (r 0)), .ref (E.2.1 (7 + f))]) := by
  have h : f = 0 ∨ f = 1 := by omega
  rcases h with rfl | rfl <;> rfl
theorem sh_o {f : Nat} (h : f < 2) : shp E (7 + f) r = aA (E.2.2 2) 4 (fun i => E.2.1 (9 + 4 * f + i)) := by
  have h : f = 0 ∨ f = 1 := by omega
  rcases h with rfl | rfl <;> rfl
theorem sh_n {f i : Nat} (h : f < 2) (hi : i < 4) : shp E (9 + 4 * f + i) r = iA (E.2.2 0) 4 r := by
  have h : f = 0 ∨ f = 1 := by omega
  have hi : i = 0 ∨ i = 1 ∨ i = 2 ∨ i = 3 := by omega
  rcases h with rfl | rfl <;> rcases hi with rfl | rfl | rfl | rfl <;> rfl
theorem sh_D {f : Nat} (h : f < 2) : shp E (17 + f) r = .inr (0, [.ref (E.2.1 (19 + f)), .ref (E.2.1 (21 + f)), .int (ji (r 2)), .int (ji (r 3)), .int (ji (r 4)), .int (ji (r 5)), .long (jl (r 6)), .int (ji (r 7))]) := by
  have h : f = 0 ∨ f = 1 := by omega
  rcases h with rfl | rfl <;> rfl
theorem sh_t {f : Nat} (h : f < 2) : shp E (19 + f) r = lA (E.2.2 1) 5 r := by
  have h : f = 0 ∨ f = 1 := by omega
  rcases h with rfl | rfl <;> rfl
theorem sh_p {f : Nat} (h : f < 2) : shp E (21 + f) r = iA (E.2.2 0) 32 r := by
  have h : f = 0 ∨ f = 1 := by omega
  rcases h with rfl | rfl <;> rfl
theorem sh_b : shp E 23 r = aA (E.2.2 3) 4 (fun i => E.2.1 (24 + i)) := rfl
theorem sh_w {i : Nat} (hi : i < 4) : shp E (24 + i) r = lA (E.2.2 1) 4 r := by
  have hi : i = 0 ∨ i = 1 ∨ i = 2 ∨ i = 3 := by omega
  rcases hi with rfl | rfl | rfl | rfl <;> rfl
theorem sh_M : shp E 28 r = .inr (4, [.ref (E.2.1 29), .ref (E.2.1 30), .ref (E.2.1 31), .int (ji (r 3)), .ref (E.2.1 32), .int (ji (r 5)), .int (ji (r 6)), .long (jl (r 7)), .int (ji (r 8)), .ref (E.2.1 33), .int (ji (r 10)), .ref (E.2.1 34), .int (ji (r 12))]) := rfl
theorem sh_29 : shp E 29 r = iA (E.2.2 0) 2 r := rfl
theorem sh_30 : shp E 30 r = iA (E.2.2 0) 32 r := rfl
theorem sh_31 : shp E 31 r = lA (E.2.2 1) 16 r := rfl
theorem sh_32 : shp E 32 r = lA (E.2.2 1) 5 r := rfl
theorem sh_33 : shp E 33 r = lA (E.2.2 1) 60 r := rfl
theorem sh_34 : shp E 34 r = iA (E.2.2 0) 60 r := rfl
theorem sh_35 : shp E 35 r = lA (E.2.2 1) 1 r := rfl
end SH
def wl (E : En) (M : Me) : va_W := (List.range 36).map (fun k => (E.2.1 k, shp E k (M k)))
abbrev ty6 (E : En) : List (ClassId × FieldType) := [(E.2.2 0, .int), (E.2.2 1, .long), (E.2.2 2, .array .int), (E.2.2 3, .array .long), (E.2.2 4, .object "RationalForms$Form"), (E.2.2 5, .object "RationalForms$Diagonal")]
abbrev wP (E : En) (M : Me) (H : Heap) : Prop := va_P E.1 cl5 (wl E M) H
abbrev wK (E : En) (U : State) : Prop := va_K E.1 cl5 (ty6 E) U
/-- the places' addresses -/
def wA (E : En) : Nat → Prop := fun q => ∃ k, k < 36 ∧ q = E.2.1 k
def wJ (E : En) : Prop := ∀ i j, i < 36 → j < 36 → E.2.1 i = E.2.1 j → i = j
theorem wl_at {E : En} {M : Me} {k : Nat} (h : k < 36) : (wl E M)[k]? = some (E.2.1 k, shp E k (M k)) := by
  rw [wl, List.getElem?_map, List.getElem?_range h]; rfl
theorem wl_lt {E : En} {M : Me} {k : Nat} {q : Nat × va_E} (h : (wl E M)[k]? = some q) : k < 36 ∧ q = (E.2.1 k, shp E k (M k)) := by
  have h1 : k < 36 := by
    have := (List.getElem?_eq_some_iff.mp h).1
    simpa [wl] using this
  rw [wl_at h1] at h
  exact ⟨h1, (Option.some.inj h).symm⟩
theorem wl_D {E : En} (hJ : wJ E) (M : Me) : va_D (wA E) (wl E M) := by
  refine ⟨fun i j p q hi hj hpq => ?_, fun k q hk => ?_⟩
  · obtain ⟨h1, rfl⟩ := wl_lt hi
    obtain ⟨h2, rfl⟩ := wl_lt hj
    exact hJ i j h1 h2 hpq
  · obtain ⟨h1, rfl⟩ := wl_lt hk
    exact ⟨k, h1, rfl⟩
/-- one slot of one place -/
def mu (M : Me) (k j : Nat) (v : Int) : Me := fun a b => if a = k then (if b = j then v else M a b) else M a b
theorem mu_s (M : Me) (k j : Nat) (v : Int) : mu M k j v k j = v := by simp [mu]
theorem mu_k {M : Me} {k j a : Nat} {v : Int} (h : a ≠ k) : mu M k j v a = M a := by funext b; simp [mu, h]
theorem mu_j {M : Me} {k j b : Nat} {v : Int} (h : b ≠ j) (a : Nat) : mu M k j v a b = M a b := by simp [mu, h]
theorem wl_set {E : En} {M : Me} {k : Nat} (h : k < 36) {j : Nat} {v : Int} {e : va_E} (he : e = shp E k (mu M k j v k)) : (wl E M).set k (E.2.1 k, e) = wl E (mu M k j v) := by
  apply List.ext_getElem?
  intro i
  by_cases hi : i < 36
  · by_cases hik : i = k
    · subst hik
      rw [List.getElem?_set_self (by simp [wl]; exact hi), wl_at hi, he]
    · rw [List.getElem?_set_ne (fun q => hik q.symm), wl_at hi, wl_at hi, mu_k hik]
  · rw [List.getElem?_eq_none (by simp [wl]; omega), List.getElem?_eq_none (by simp [wl]; omega)]
section MR
variable {p : Program} {l : Launch} {e : Env} {R : Room} {s : State} {m : MethodId} {args : Array Value} {below : List Frame} {meth : Method} {c : Code} {H : Heap} {locs : List Loc} {cells slots : Nat} {Q : State → Prop} {cc : ByteArray} {pc : Nat} {ls : Array Slot} {rest : List Value} {E : En} {M : Me} {H0 : Heap}
theorem m_get (hx : p.tables.exec = Jvm.exec) (hb : c.code = cc) {own C : String} {T : u_T} {N ci index : Nat} (hg : ∀ w ∈ GG, w.before args s = true) (hin : ∀ w ∈ u_ws C T N, w ∈ GG) (hown : s.vm.findClass own = some m.cls) (hK : wK E s) (hP : wP E M H) {k : Nat} (hk : k < 36) {fs : List Value} (hs : shp E k (M k) = .inr (ci, fs)) (hc : cl5[ci]? = some (C, T, N)) (j : Nat) (hj : j < N) (hl : Cond.fieldLink own index (T j).1 (T j).2.1 (T j).2.2.1 ∈ GG) {v : Value} (hv : fs[j]? = some v) (hd : decode cc pc = .ok (.getfield index, 3))
    (kk : W p l e R s m args below meth c H locs cells slots Q (F0 m (pc + 3) ls (v :: rest))) : W p l e R s m args below meth c H locs cells slots Q (F0 m pc ls (.ref (E.2.1 k) :: rest)) :=
  va_get (D := E.1) (ci := ci) (C := C) (T := T) (N := N) hx hb hg hin hown hK hP k (by rw [wl_at hk, hs]) hc j hj (hg _ hl) (fun _ h => h) hv hd kk
theorem m_getN (hx : p.tables.exec = Jvm.exec) (hb : c.code = cc) {own C host : String} {T : u_T} {N ci index : Nat} (hg : ∀ w ∈ GG, w.before args s = true) (hin : ∀ w ∈ u_ws C T N, w ∈ GG) (hown : s.vm.findClass own = some m.cls) (hK : wK E s) (hP : wP E M H) {k : Nat} (hk : k < 36) {fs : List Value} (hs : shp E k (M k) = .inr (ci, fs)) (hc : cl5[ci]? = some (C, T, N)) (j : Nat) (hj : j < N) (hl : Cond.fieldLinkNest own index (T j).1 (T j).2.1 (T j).2.2.1 host ∈ GG) {v : Value} (hv : fs[j]? = some v) (hd : decode cc pc = .ok (.getfield index, 3))
    (kk : W p l e R s m args below meth c H locs cells slots Q (F0 m (pc + 3) ls (v :: rest))) : W p l e R s m args below meth c H locs cells slots Q (F0 m pc ls (.ref (E.2.1 k) :: rest)) :=
  va_getN (D := E.1) (ci := ci) (C := C) (T := T) (N := N) hx hb hg hin hown hK hP k (by rw [wl_at hk, hs]) hc j hj (hg _ hl) (fun _ h => h) hv hd kk
theorem m_put (hx : p.tables.exec = Jvm.exec) (hb : c.code = cc) {own C : String} {T : u_T} {N ci index : Nat} (hg : ∀ w ∈ GG, w.before args s = true) (hin : ∀ w ∈ u_ws C T N, w ∈ GG) (ty0 : Nat → FieldType) (hty : ∀ k, k < N → parseFieldDescriptor (T k).2.2.1 = some (ty0 k)) (hnm : ∀ a, a < N → ∀ b, b < N → a ≠ b → (T a).2.1 ≠ (T b).2.1) (hown : s.vm.findClass own = some m.cls) (hK : wK E s) (hJ : wJ E) (hP : wP E M H) (hS : va_S (wA E) H0 H locs) {k : Nat} (hk : k < 36) {fs : List Value} (hs : shp E k (M k) = .inr (ci, fs)) (hc : cl5[ci]? = some (C, T, N)) (j : Nat) (hj : j < N) (hl : Cond.fieldLink own index (T j).1 (T j).2.1 (T j).2.2.1 ∈ GG) (hfin : (T j).2.2.2 = false) {ty : FieldType} {v : Value} {z : Int} (hdd : parseFieldDescriptor (T j).2.2.1 = some ty) (hn : narrow ty v = v) (hft : fits ty v = true) (hlen : j < fs.length) (hsh : (Sum.inr (ci, fs.set j v) : va_E) = shp E k (mu M k j z k)) (hd : decode cc pc = .ok (.putfield index, 3))
    (kk : ∀ (H1 : Heap) (locs1 : List Loc), wP E (mu M k j z) H1 → va_S (wA E) H0 H1 locs1 → W p l e R s m args below meth c H1 locs1 cells slots Q (F0 m (pc + 3) ls rest)) : W p l e R s m args below meth c H locs cells slots Q (F0 m pc ls (v :: .ref (E.2.1 k) :: rest)) :=
  va_put (D := E.1) (ci := ci) (C := C) (T := T) (N := N) (ty := ty) hx hb hg hin ty0 hty hnm hown hK hP (wl_D hJ M) hS k (by rw [wl_at hk, hs]) hc j hj (hg _ hl) (fun _ h => h) hfin hdd hn hft hlen hd (fun H1 locs1 hP1 _ hS1 => kk H1 locs1 (by rw [wl_set hk hsh] at hP1; exact hP1) hS1)
theorem m_iald (hx : p.tables.exec = Jvm.exec) (hb : c.code = cc) (hK : wK E s) (hP : wP E M H) {k : Nat} (hk : k < 36) {len : Nat} (hs : shp E k (M k) = iA (E.2.2 0) len (M k)) {z : Int} {n : Nat} (hz : z = n) (hn : n < len) (hln : len ≤ 2147483647) (hd : decode cc pc = .ok (.iaload, 1))
    (kk : W p l e R s m args below meth c H locs cells slots Q (F0 m (pc + 1) ls (.int (ji (M k n)) :: rest))) : W p l e R s m args below meth c H locs cells slots Q (F0 m pc ls (.int (ji z) :: .ref (E.2.1 k) :: rest)) := by
  subst hz
  refine va_iald hx hb hK hP k 0 (cA := E.2.2 0) (n := len) (f := fun j => ji (M k j)) (by rw [wl_at hk, hs]; rfl) rfl (ji_in (by omega) (by omega) hln) hd ?_
  rw [ji_nat (by constructor <;> omega) (by omega)]
  exact kk
theorem m_lald (hx : p.tables.exec = Jvm.exec) (hb : c.code = cc) (hK : wK E s) (hP : wP E M H) {k : Nat} (hk : k < 36) {len : Nat} (hs : shp E k (M k) = lA (E.2.2 1) len (M k)) {z : Int} {n : Nat} (hz : z = n) (hn : n < len) (hln : len ≤ 2147483647) (hd : decode cc pc = .ok (.laload, 1))
    (kk : W p l e R s m args below meth c H locs cells slots Q (F0 m (pc + 1) ls (.long (jl (M k n)) :: rest))) : W p l e R s m args below meth c H locs cells slots Q (F0 m pc ls (.int (ji z) :: .ref (E.2.1 k) :: rest)) := by
  subst hz
  refine va_lald hx hb hK hP k 1 (cA := E.2.2 1) (n := len) (f := fun j => jl (M k j)) (by rw [wl_at hk, hs]; rfl) rfl (ji_in (by omega) (by omega) hln) hd ?_
  rw [ji_nat (by constructor <;> omega) (by omega)]
  exact kk
theorem m_aald (hx : p.tables.exec = Jvm.exec) (hb : c.code = cc) (hK : wK E s) (hP : wP E M H) {k : Nat} (hk : k < 36) {t0 : Nat} {cA : ClassId} {ty : FieldType} {len : Nat} {f : Nat → Nat} (hs : shp E k (M k) = aA cA len f) (ht : (ty6 E)[t0]? = some (cA, ty)) (hr : ty.isReference = true) {z : Int} {n : Nat} (hz : z = n) (hn : n < len) (hln : len ≤ 2147483647) (hd : decode cc pc = .ok (.aaload, 1))
    (kk : W p l e R s m args below meth c H locs cells slots Q (F0 m (pc + 1) ls (.ref (f n) :: rest))) : W p l e R s m args below meth c H locs cells slots Q (F0 m pc ls (.int (ji z) :: .ref (E.2.1 k) :: rest)) := by
  subst hz
  have hin : vp_in (ji (n : Int)) len := ji_in (by omega) (by omega) hln
  have hat := hP k _ (wl_at hk)
  rw [hs] at hat
  refine W.aald (v := .ref (f n)) (ty := ty) hx hb hat ((hK.2 t0 _ ht).1 len (fun j => va_rf (some (f j)))) hr (fun q => by cases q) (by show ¬ (ji (n : Int) < 0 ∨ (arrV _ _ _).slots.size ≤ _); rw [arrV_size]; exact hin) ?_ rfl rfl hd kk
  show (arrV _ _ _).slots[_]? = _
  rw [ji_nat (by constructor <;> omega) (by omega)]
  rw [arrV_read _ _ (show (n : Int).toNat < len by omega)]
  rfl
theorem m_iast (hx : p.tables.exec = Jvm.exec) (hb : c.code = cc) (hK : wK E s) (hJ : wJ E) (hP : wP E M H) (hS : va_S (wA E) H0 H locs) {k : Nat} (hk : k < 36) {len : Nat} (hs : ∀ r, shp E k r = iA (E.2.2 0) len r) {z x : Int} {n : Nat} (hz : z = n) (hn : n < len) (hln : len ≤ 2147483647) (hd : decode cc pc = .ok (.iastore, 1))
    (kk : ∀ (H1 : Heap) (locs1 : List Loc), wP E (mu M k n x) H1 → va_S (wA E) H0 H1 locs1 → W p l e R s m args below meth c H1 locs1 cells slots Q (F0 m (pc + 1) ls rest)) : W p l e R s m args below meth c H locs cells slots Q (F0 m pc ls (.int (ji x) :: .int (ji z) :: .ref (E.2.1 k) :: rest)) := by
  subst hz
  refine va_iast hx hb hK hP (wl_D hJ M) hS k 0 (cA := E.2.2 0) (n := len) (f := fun j => ji (M k j)) (by rw [wl_at hk, hs]; rfl) rfl (ji_in (by omega) (by omega) hln) hd (fun H1 locs1 hP1 _ hS1 => kk H1 locs1 ?_ hS1)
  rw [wl_set (j := n) (v := x) hk ?_] at hP1
  · exact hP1
  · rw [hs, ji_nat (by constructor <;> omega) (by omega)]
    show (Sum.inl (E.2.2 0, len, .inl _) : va_E) = Sum.inl (E.2.2 0, len, .inl _)
    congr 4
    funext j
    show (if j = (n : Int).toNat then ji x else ji (M k j)) = ji (mu M k n x k j)
    by_cases h : j = n
    · subst h
      rw [mu_s]; simp
    · rw [mu_j h]; simp [h]
theorem m_last (hx : p.tables.exec = Jvm.exec) (hb : c.code = cc) (hK : wK E s) (hJ : wJ E) (hP : wP E M H) (hS : va_S (wA E) H0 H locs) {k : Nat} (hk : k < 36) {len : Nat} (hs : ∀ r, shp E k r = lA (E.2.2 1) len r) {z x : Int} {n : Nat} (hz : z = n) (hn : n < len) (hln : len ≤ 2147483647) (hd : decode cc pc = .ok (.lastore, 1))
    (kk : ∀ (H1 : Heap) (locs1 : List Loc), wP E (mu M k n x) H1 → va_S (wA E) H0 H1 locs1 → W p l e R s m args below meth c H1 locs1 cells slots Q (F0 m (pc + 1) ls rest)) : W p l e R s m args below meth c H locs cells slots Q (F0 m pc ls (.long (jl x) :: .int (ji z) :: .ref (E.2.1 k) :: rest)) := by
  subst hz
  refine va_last hx hb hK hP (wl_D hJ M) hS k 1 (cA := E.2.2 1) (n := len) (f := fun j => jl (M k j)) (by rw [wl_at hk, hs]; rfl) rfl (ji_in (by omega) (by omega) hln) hd (fun H1 locs1 hP1 _ hS1 => kk H1 locs1 ?_ hS1)
  rw [wl_set (j := n) (v := x) hk ?_] at hP1
  · exact hP1
  · rw [hs, ji_nat (by constructor <;> omega) (by omega)]
    show (Sum.inl (E.2.2 1, len, .inr (.inl _)) : va_E) = Sum.inl (E.2.2 1, len, .inr (.inl _))
    congr 5
    funext j
    show (if j = (n : Int).toNat then jl x else jl (M k j)) = jl (mu M k n x k j)
    by_cases h : j = n
    · subst h
      rw [mu_s]; simp
    · rw [mu_j h]; simp [h]
end MR
