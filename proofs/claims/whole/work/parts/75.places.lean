/-! the cells that the law has made are the places -/
theorem M0_z (k : Nat) (h : k ≠ 5 ∧ k ≠ 6 ∧ k ≠ 17 ∧ k ≠ 18 ∧ k ≠ 29) : M0 k = fun _ => 0 := funext fun j => M0_0 k j h
set_option maxHeartbeats 4000000 in
set_option maxRecDepth 100000 in
theorem wP_0 {D : va_G} {cs : Nat → ClassId} {h : Nat} {H : Heap} (hP : nP D h [.inr (3, [.ref (h + 1), .ref (h + 2), .ref (h + 3), .ref (h + 9)]), qA (cs 4) 2 (fun j => if j = 1 then some (h + 19) else if j = 0 then some (h + 10) else none), qA (cs 5) 2 (fun j => if j = 1 then some (h + 25) else if j = 0 then some (h + 16) else none), .inr (2, [.ref (h + 4), .int (ji 0)]), qA (cs 3) 4 (fun j => some (h + 5 + j)), lA (cs 1) 4 (fun _ => 0), lA (cs 1) 4 (fun _ => 0), lA (cs 1) 4 (fun _ => 0), lA (cs 1) 4 (fun _ => 0), iA (cs 0) 4 (fun _ => 0), .inr (1, [.int (ji 1), .ref (h + 11)]), qA (cs 2) 4 (fun j => some (h + 12 + j)), iA (cs 0) 4 (fun _ => 0), iA (cs 0) 4 (fun _ => 0), iA (cs 0) 4 (fun _ => 0), iA (cs 0) 4 (fun _ => 0), .inr (0, [.ref (h + 17), .ref (h + 18), .int (ji 1), .int (ji 0), .int (ji 0), .int (ji 0), .long (jl 1), .int (ji 0)]), lA (cs 1) 5 (fun _ => 0), iA (cs 0) 32 (fun _ => 0), .inr (1, [.int (ji 1), .ref (h + 20)]), qA (cs 2) 4 (fun j => some (h + 21 + j)), iA (cs 0) 4 (fun _ => 0), iA (cs 0) 4 (fun _ => 0), iA (cs 0) 4 (fun _ => 0), iA (cs 0) 4 (fun _ => 0), .inr (0, [.ref (h + 26), .ref (h + 27), .int (ji 1), .int (ji 0), .int (ji 0), .int (ji 0), .long (jl 1), .int (ji 0)]), lA (cs 1) 5 (fun _ => 0), iA (cs 0) 32 (fun _ => 0), .inr (4, [.ref (h + 29), .ref (h + 30), .ref (h + 31), .int 0, .ref (h + 32), .int 0, .int 0, .long 0, .int 0, .ref (h + 33), .int 0, .ref (h + 34), .int 0]), iA (cs 0) 2 (fun j => if j = 1 then 1 else if j = 0 then 1 else 0), iA (cs 0) 32 (fun _ => 0), lA (cs 1) 16 (fun _ => 0), lA (cs 1) 5 (fun _ => 0), lA (cs 1) 60 (fun _ => 0), iA (cs 0) 60 (fun _ => 0), lA (cs 1) 1 (fun _ => 0)] H) : wP (E0 D cs h) M0 H := by
  intro k q hq
  obtain ⟨hk, rfl⟩ := wl_lt hq
  clear hq
  match k, hk with
  | 0, _ =>
    rw [M0_z 0 (by omega)]
    exact hP.2 0 _ rfl
  | 1, _ =>
    exact at_q (g' := fun i => some ((E0 D cs h).2.1 (5 + i))) (hP.2 1 _ rfl) (fun j hj => by rcases (show j = 0 ∨ j = 1 by omega) with rfl | rfl <;> rfl)
  | 2, _ =>
    exact at_q (g' := fun i => some ((E0 D cs h).2.1 (17 + i))) (hP.2 2 _ rfl) (fun j hj => by rcases (show j = 0 ∨ j = 1 by omega) with rfl | rfl <;> rfl)
  | 3, _ =>
    rw [M0_z 3 (by omega)]
    exact hP.2 3 _ rfl
  | 4, _ =>
    rw [M0_z 4 (by omega)]
    exact hP.2 9 _ rfl
  | 5, _ =>
    show va_at D cl5 (h + 10, .inr (1, [.int (ji (M0 5 0)), .ref (h + 11)])) H
    rw [show M0 5 0 = 1 from rfl]
    exact hP.2 10 _ rfl
  | 6, _ =>
    show va_at D cl5 (h + 19, .inr (1, [.int (ji (M0 6 0)), .ref (h + 20)])) H
    rw [show M0 6 0 = 1 from rfl]
    exact hP.2 19 _ rfl
  | 7, _ =>
    exact at_q (g' := fun i => some ((E0 D cs h).2.1 (9 + 4 * (7 - 7) + i))) (hP.2 11 _ rfl) (fun j hj => by rcases (show j = 0 ∨ j = 1 ∨ j = 2 ∨ j = 3 by omega) with rfl | rfl | rfl | rfl <;> rfl)
  | 8, _ =>
    exact at_q (g' := fun i => some ((E0 D cs h).2.1 (9 + 4 * (8 - 7) + i))) (hP.2 20 _ rfl) (fun j hj => by rcases (show j = 0 ∨ j = 1 ∨ j = 2 ∨ j = 3 by omega) with rfl | rfl | rfl | rfl <;> rfl)
  | 9, _ =>
    rw [M0_z 9 (by omega)]
    exact hP.2 12 _ rfl
  | 10, _ =>
    rw [M0_z 10 (by omega)]
    exact hP.2 13 _ rfl
  | 11, _ =>
    rw [M0_z 11 (by omega)]
    exact hP.2 14 _ rfl
  | 12, _ =>
    rw [M0_z 12 (by omega)]
    exact hP.2 15 _ rfl
  | 13, _ =>
    rw [M0_z 13 (by omega)]
    exact hP.2 21 _ rfl
  | 14, _ =>
    rw [M0_z 14 (by omega)]
    exact hP.2 22 _ rfl
  | 15, _ =>
    rw [M0_z 15 (by omega)]
    exact hP.2 23 _ rfl
  | 16, _ =>
    rw [M0_z 16 (by omega)]
    exact hP.2 24 _ rfl
  | 17, _ =>
    show va_at D cl5 (h + 16, .inr (0, [.ref (h + 17), .ref (h + 18), .int (ji (M0 17 2)), .int (ji (M0 17 3)), .int (ji (M0 17 4)), .int (ji (M0 17 5)), .long (jl (M0 17 6)), .int (ji (M0 17 7))])) H
    rw [show M0 17 2 = 1 from rfl, show M0 17 3 = 0 from rfl, show M0 17 4 = 0 from rfl, show M0 17 5 = 0 from rfl, show M0 17 6 = 1 from rfl, show M0 17 7 = 0 from rfl]
    exact hP.2 16 _ rfl
  | 18, _ =>
    show va_at D cl5 (h + 25, .inr (0, [.ref (h + 26), .ref (h + 27), .int (ji (M0 18 2)), .int (ji (M0 18 3)), .int (ji (M0 18 4)), .int (ji (M0 18 5)), .long (jl (M0 18 6)), .int (ji (M0 18 7))])) H
    rw [show M0 18 2 = 1 from rfl, show M0 18 3 = 0 from rfl, show M0 18 4 = 0 from rfl, show M0 18 5 = 0 from rfl, show M0 18 6 = 1 from rfl, show M0 18 7 = 0 from rfl]
    exact hP.2 25 _ rfl
  | 19, _ =>
    rw [M0_z 19 (by omega)]
    exact hP.2 17 _ rfl
  | 20, _ =>
    rw [M0_z 20 (by omega)]
    exact hP.2 26 _ rfl
  | 21, _ =>
    rw [M0_z 21 (by omega)]
    exact hP.2 18 _ rfl
  | 22, _ =>
    rw [M0_z 22 (by omega)]
    exact hP.2 27 _ rfl
  | 23, _ =>
    exact at_q (g' := fun i => some ((E0 D cs h).2.1 (24 + i))) (hP.2 4 _ rfl) (fun j hj => by rcases (show j = 0 ∨ j = 1 ∨ j = 2 ∨ j = 3 by omega) with rfl | rfl | rfl | rfl <;> rfl)
  | 24, _ =>
    rw [M0_z 24 (by omega)]
    exact hP.2 5 _ rfl
  | 25, _ =>
    rw [M0_z 25 (by omega)]
    exact hP.2 6 _ rfl
  | 26, _ =>
    rw [M0_z 26 (by omega)]
    exact hP.2 7 _ rfl
  | 27, _ =>
    rw [M0_z 27 (by omega)]
    exact hP.2 8 _ rfl
  | 28, _ =>
    rw [M0_z 28 (by omega)]
    exact hP.2 28 _ rfl
  | 29, _ =>
    exact at_i (hP.2 29 _ rfl) (fun j hj => rfl)
  | 30, _ =>
    rw [M0_z 30 (by omega)]
    exact hP.2 30 _ rfl
  | 31, _ =>
    rw [M0_z 31 (by omega)]
    exact hP.2 31 _ rfl
  | 32, _ =>
    rw [M0_z 32 (by omega)]
    exact hP.2 32 _ rfl
  | 33, _ =>
    rw [M0_z 33 (by omega)]
    exact hP.2 33 _ rfl
  | 34, _ =>
    rw [M0_z 34 (by omega)]
    exact hP.2 34 _ rfl
  | 35, _ =>
    rw [M0_z 35 (by omega)]
    exact hP.2 35 _ rfl
  | n + 36, h9 => exact absurd h9 (by omega)
