/-! the law: its loop -/
theorem and15 (x : Int32) : ∃ z : Int, 0 ≤ z ∧ z ≤ 15 ∧ x &&& ji 15 = ji z := by
  have h : (x &&& ji 15).toBitVec.toNat ≤ 15 := by
    rw [Int32.toBitVec_and, BitVec.toNat_and]
    exact Nat.and_le_right
  have h2 : (x &&& ji 15).toInt = ((x &&& ji 15).toBitVec.toNat : Int) := BitVec.toInt_eq_toNat_of_lt (by omega)
  exact ⟨(x &&& ji 15).toInt, by omega, by omega, (Int32.ofInt_toInt _).symm⟩
set_option maxRecDepth 100000 in
set_option maxHeartbeats 4000000 in
theorem lw_loop {p : Program} {l : Launch} {e : Env} {s : State} {m : MethodId} {below : List Frame} {meth : Method} {c : Code} {b L : Nat} {xs : Nat → Int32} {E : En} {Q : State → Prop} (C : lwC p l s m meth c b L xs E)
    (hend : ∀ (H : Heap) (locs : List Loc) (cells slots : Nat) (ls : Array Slot), va_S (wA E) s.heap H locs → cells ≤ 4000 → slots ≤ 30000 → W p l e room_1 s m #[Value.ref b] below meth c H locs cells slots Q (F0 m 852 ls [])) :
    ∀ (N i : Nat) (M : Me) (nn : Nat → Nat) (H : Heap) (locs : List Loc) (cells slots : Nat) (ls : Array Slot), L < i + N → i ≤ L + 6 → Iv M nn → cells ≤ 100 + i → slots ≤ 2000 + 6 * i → wP E M H → va_S (wA E) s.heap H locs → lv_has ls 8 [(4, .int (ji (i : Int))), (0, .ref b), (1, .ref (E.2.1 0)), (2, .ref (E.2.1 28)), (3, .ref (E.2.1 35))] → W p l e room_1 s m #[Value.ref b] below meth c H locs cells slots Q (F0 m 23 ls []) := by
  have C0 := C
  obtain ⟨hx, hb, hml, hown, hg, hK, hnc, hth0, hX, hbl, hbA, hA, hL, hJ, hlf⟩ := C
  intro N
  induction N with
  | zero =>
    intro i M nn H locs cells slots ls h0 h1 hI hcl hsl hP hS hl
    refine lv_iload hx hb dL_law_23 (lv_at hl 0 rfl) ?_
    refine lv_aload_n hx hb dL_law_25 rfl (lv_at hl 1 rfl) ?_
    refine j_slen hx hb hX hbl hbA hS dL_law_26 ?_
    refine j_bipush hx hb dL_law_27 rfl ?_
    refine j_isub hx hb dL_law_29 ?_
    refine j_icmp_gt hx hb (by omega) (by omega) dL_law_30 rfl (fun b1 => ?_) (fun b1 => ?_)
    · exact hend H locs cells slots ls hS (by omega) (by omega)
    · omega
  | succ N ih =>
    intro i M nn H locs cells slots ls h0 h1 hI hcl hsl hP hS hl
    refine lv_iload hx hb dL_law_23 (lv_at hl 0 rfl) ?_
    refine lv_aload_n hx hb dL_law_25 rfl (lv_at hl 1 rfl) ?_
    refine j_slen hx hb hX hbl hbA hS dL_law_26 ?_
    refine j_bipush hx hb dL_law_27 rfl ?_
    refine j_isub hx hb dL_law_29 ?_
    refine j_icmp_gt hx hb (by omega) (by omega) dL_law_30 rfl (fun b1 => ?_) (fun b1 => ?_)
    · exact hend H locs cells slots ls hS (by omega) (by omega)
    · have hi : i + 6 ≤ L := by omega
      have next : ∀ (M : Me) (nn : Nat → Nat) (H : Heap) (locs : List Loc) (cells slots : Nat) (ls : Array Slot), Iv M nn → cells ≤ 100 + (i + 6) → slots ≤ 2000 + 6 * (i + 6) → wP E M H → va_S (wA E) s.heap H locs → lv_has ls 8 [(4, .int (ji (i : Int))), (0, .ref b), (1, .ref (E.2.1 0)), (2, .ref (E.2.1 28)), (3, .ref (E.2.1 35))] → W p l e room_1 s m #[Value.ref b] below meth c H locs cells slots Q (F0 m 846 ls []) := by
        intro M nn H locs cells slots ls hI hcl hsl hP hS hl
        refine lv_iinc (k := 0) (v := ji (((i:Int)) + 6)) hx hb dL_law_846 hl rfl (Int32.ofInt_add _ _).symm (by decide) rfl (fun ls hl => ?_)
        have hl : lv_has ls 8 [(4, .int (ji (((i:Int)) + 6))), (0, .ref b), (1, .ref (E.2.1 0)), (2, .ref (E.2.1 28)), (3, .ref (E.2.1 35))] := hl
        refine lv_goto hx hb dL_law_849 rfl ?_
        exact ih (i + 6) M nn H locs cells slots ls (by omega) (by omega) hI hcl hsl hP hS hl
      refine lv_aload_n hx hb dL_law_33 rfl (lv_at hl 1 rfl) ?_
      refine lv_iload hx hb dL_law_34 (lv_at hl 0 rfl) ?_
      refine j_sld (n := i) hx hb hX hbl hbA hS (by omega) hL (by omega) dL_law_36 ?_
      refine j_bipush hx hb dL_law_37 rfl ?_
      obtain ⟨z, hz0, hz1, e9⟩ := and15 (ji (xz xs i))
      refine lv_iand hx hb dL_law_39 ?_
      rw [e9]
      by_cases hz : z ≤ 10
      · have hcase : z = 0 ∨ z = 1 ∨ z = 2 ∨ z = 3 ∨ z = 4 ∨ z = 5 ∨ z = 6 ∨ z = 7 ∨ z = 8 ∨ z = 9 ∨ z = 10 := by omega
        rcases hcase with hc | hc | hc | hc | hc | hc | hc | hc | hc | hc | hc
        · exact j_tabI (z := z) hx hb (by omega) (by omega) (by omega) (by rw [hc]; rfl) dL_law_40 rfl (lt_begin C0 i hi M nn hI H locs cells slots ls hcl hsl hP hS hl next)
        · exact j_tabI (z := z) hx hb (by omega) (by omega) (by omega) (by rw [hc]; rfl) dL_law_40 rfl (lt_put C0 i hi M nn hI H locs cells slots ls hcl hsl hP hS hl next)
        · exact j_tabI (z := z) hx hb (by omega) (by omega) (by omega) (by rw [hc]; rfl) dL_law_40 rfl (lt_about C0 i hi M nn hI H locs cells slots ls hcl hsl hP hS hl next)
        · exact j_tabI (z := z) hx hb (by omega) (by omega) (by omega) (by rw [hc]; rfl) dL_law_40 rfl (lt_symbol C0 i hi M nn hI H locs cells slots ls hcl hsl hP hS hl next)
        · exact j_tabI (z := z) hx hb (by omega) (by omega) (by omega) (by rw [hc]; rfl) dL_law_40 rfl (lt_hasse C0 i hi M nn hI H locs cells slots ls hcl hsl hP hS hl next)
        · exact j_tabI (z := z) hx hb (by omega) (by omega) (by omega) (by rw [hc]; rfl) dL_law_40 rfl (lt_isotropicAt C0 i hi M nn hI H locs cells slots ls hcl hsl hP hS hl next)
        · exact j_tabI (z := z) hx hb (by omega) (by omega) (by omega) (by rw [hc]; rfl) dL_law_40 rfl (lt_obstacle C0 i hi M nn hI H locs cells slots ls hcl hsl hP hS hl next)
        · exact j_tabI (z := z) hx hb (by omega) (by omega) (by omega) (by rw [hc]; rfl) dL_law_40 rfl (lt_takes C0 i hi M nn hI H locs cells slots ls hcl hsl hP hS hl next)
        · exact j_tabI (z := z) hx hb (by omega) (by omega) (by omega) (by rw [hc]; rfl) dL_law_40 rfl (lt_equivalent C0 i hi M nn hI H locs cells slots ls hcl hsl hP hS hl next)
        · exact j_tabI (z := z) hx hb (by omega) (by omega) (by omega) (by rw [hc]; rfl) dL_law_40 rfl (lt_value C0 i hi M nn hI H locs cells slots ls hcl hsl hP hS hl next)
        · exact j_tabI (z := z) hx hb (by omega) (by omega) (by omega) (by rw [hc]; rfl) dL_law_40 rfl (lt_sign C0 i hi M nn hI H locs cells slots ls hcl hsl hP hS hl next)
      · refine j_tabO (z := z) hx hb (by omega) (by omega) dL_law_40 rfl ?_
        exact next M nn H locs cells slots ls hI (by omega) (by omega) hP hS hl
