/-! the law: the turn of equivalent -/
set_option maxRecDepth 20000 in
theorem wd109 : Cond.methodLink "RationalFormsLaw" 91 yC_equivalent ∈ GG := GG_t 109 rfl rfl
set_option maxRecDepth 20000 in
theorem wd110 : Cond.instanceMethod yC_equivalent ∈ GG := GG_t 110 rfl rfl
set_option maxRecDepth 20000 in
theorem wd111 : Cond.selects "RationalForms" yC_equivalent yC_equivalent ∈ GG := GG_t 111 rfl rfl
set_option maxRecDepth 20000 in
theorem wd112 : Cond.code yC_equivalent cC_equivalent 3 (some .boolean) ∈ GG := GG_t 112 rfl rfl
set_option maxRecDepth 20000 in
theorem wd603 : Cond.methodLink "RationalFormsLaw" 95 yM_equivalent ∈ GG := GG_t 603 rfl rfl
set_option maxRecDepth 20000 in
theorem wd604 : Cond.instanceMethod yM_equivalent ∈ GG := GG_t 604 rfl rfl
set_option maxRecDepth 20000 in
theorem wd605 : Cond.selects "RationalFormsModel" yM_equivalent yM_equivalent ∈ GG := GG_t 605 rfl rfl
set_option maxRecDepth 20000 in
theorem wd606 : Cond.code yM_equivalent cM_equivalent 8 (some .boolean) ∈ GG := GG_t 606 rfl rfl
set_option maxRecDepth 100000 in
set_option maxHeartbeats 4000000 in
theorem lt_equivalent {p : Program} {l : Launch} {e : Env} {s : State} {m : MethodId} {below : List Frame} {meth : Method} {c : Code} {b L : Nat} {xs : Nat → Int32} {E : En} {Q : State → Prop} (C : lwC p l s m meth c b L xs E) (i : Nat) (hi : i + 6 ≤ L) (M : Me) (nn : Nat → Nat) (hI : Iv M nn) (H : Heap) (locs : List Loc) (cells slots : Nat) (ls : Array Slot) (hcl : cells ≤ 100 + i) (hsl : slots ≤ 2000 + 6 * i) (hP : wP E M H) (hS : va_S (wA E) s.heap H locs) (hl : lv_has ls 8 [(4, .int (ji (i : Int))), (0, .ref b), (1, .ref (E.2.1 0)), (2, .ref (E.2.1 28)), (3, .ref (E.2.1 35))])
    (next : ∀ (M : Me) (nn : Nat → Nat) (H : Heap) (locs : List Loc) (cells slots : Nat) (ls : Array Slot), Iv M nn → cells ≤ 100 + (i + 6) → slots ≤ 2000 + 6 * (i + 6) → wP E M H → va_S (wA E) s.heap H locs → lv_has ls 8 [(4, .int (ji (i : Int))), (0, .ref b), (1, .ref (E.2.1 0)), (2, .ref (E.2.1 28)), (3, .ref (E.2.1 35))] → W p l e room_1 s m #[Value.ref b] below meth c H locs cells slots Q (F0 m 846 ls [])) : W p l e room_1 s m #[Value.ref b] below meth c H locs cells slots Q (F0 m 662 ls []) := by
  obtain ⟨hx, hb, hml, hown, hg, hK, hnc, hth0, hX, hbl, hbA, hA, hL, hJ, hlf⟩ := C
  refine lv_aload_n hx hb dL_law_662 rfl (lv_at hl 2 rfl) ?_
  refine mm_V (As := []) (rest := []) hx hb hml hown hg hl hK hP hS (by omega) (sh_C E _) rfl (kC_equivalent l E hJ M nn hI.ci) wd109 wd110 wd111 wd1 wd112 ⟨rfl, rfl⟩ (n := 0) (by decide +kernel) rfl ⟨by decide, by decide⟩ rfl (Nat.le_of_ble_eq_true rfl) dL_law_663 ⟨by show _ ≤ 601024; omega, by show _ ≤ 7293034; omega⟩ (fun v M1 H locs hq hP hS => ?_)
  have hq0 := hq
  obtain ⟨⟨z8, rfl, -⟩, hF⟩ := hq
  have hI1 : ∀ g, g < 2 → MI M1 g (nn g) := fun g hg2 => by have := hI.mi g hg2; unfold MI at this ⊢; rw [hF 29 (by omega)]; unfold aM at this ⊢; rw [hF 30 (by omega)]; exact this
  refine lv_aload_n hx hb dL_law_666 rfl (lv_at hl 3 rfl) ?_
  refine mm_V (As := []) (rest := [.int (ji (bi z8))]) hx hb hml hown hg hl hK hP hS (by omega) (sh_M E _) rfl (kM_equivalent l E hJ M1 nn hI1) wd603 wd604 wd605 wd5 wd606 ⟨rfl, rfl⟩ (n := 0) (by decide +kernel) rfl ⟨by decide, by decide⟩ rfl (Nat.le_of_ble_eq_true rfl) dL_law_667 ⟨by show _ ≤ 601024; omega, by show _ ≤ 7293034; omega⟩ (fun v M2 H locs hq2 hP hS => ?_)
  obtain ⟨⟨zz, e1, e2⟩, nn2, hI2⟩ := it_equivalent hI hq0 hq2
  obtain ⟨⟨z9, rfl, -⟩, -⟩ := hq2
  have e4 : bi z8 = bi z9 := (ji_some e1 (bi_b32 _) (bi_b32 _)).trans (ji_some e2 (bi_b32 _) (bi_b32 _)).symm
  refine j_icmp_eq hx hb (bi_b32 _) (bi_b32 _) dL_law_670 rfl (fun b1 => ?_) (fun b1 => ?_)
  · exact next M2 nn2 H locs _ _ ls hI2 (by omega) (by omega) hP hS hl
  · exact absurd e4 b1
