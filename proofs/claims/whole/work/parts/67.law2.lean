noncomputable def xz (xs : Nat → Int32) (k : Nat) : Int := (xs k).toInt
theorem xz_b (xs : Nat → Int32) (k : Nat) : b32 (xz xs k) := ⟨Int32.le_toInt (xs k), by have := Int32.toInt_lt (xs k); unfold xz; omega⟩
theorem ji_xz (xs : Nat → Int32) (k : Nat) : ji (xz xs k) = xs k := Int32.ofInt_toInt (xs k)
section SC
variable {p : Program} {l : Launch} {e : Env} {R : Room} {s : State} {m : MethodId} {args : Array Value} {below : List Frame} {meth : Method} {c : Code} {H : Heap} {locs : List Loc} {cells slots : Nat} {Q : State → Prop} {cc : ByteArray} {pc : Nat} {ls : Array Slot} {rest : List Value} {A : Nat → Prop} {H0 : Heap}
theorem j_sld (hx : p.tables.exec = Jvm.exec) (hb : c.code = cc) {b L n : Nat} {xs : Nat → Int32} {z : Int} (hX : va_X b L xs s H0) (hbl : b < H0.size) (hbA : ¬ A b) (hS : va_S A H0 H locs) (hz : z = (n : Int)) (hL : L ≤ 3072) (hn : n < L) (hd : decode cc pc = .ok (.iaload, 1))
    (k : W p l e R s m args below meth c H locs cells slots Q (F0 m (pc + 1) ls (.int (ji (xz xs n)) :: rest))) : W p l e R s m args below meth c H locs cells slots Q (F0 m pc ls (.int (ji z) :: .ref b :: rest)) := by
  have e1 : (ji z).toNatClampNeg = n := by
    rw [hz, show (ji (n : Int)).toNatClampNeg = (ji (n : Int)).toInt.toNat from rfl, ji_toInt (by omega)]; omega
  refine va_sld hx hb hX hbl hbA hS ?_ hd (by rw [e1, ← ji_xz xs n]; exact k)
  intro q
  rcases q with q | q
  · have : (ji z) < ji 0 := q
    have := (ji_lt (x := z) (y := 0) (by omega) (by decide)).mp this
    omega
  · omega
theorem j_slen (hx : p.tables.exec = Jvm.exec) (hb : c.code = cc) {b L : Nat} {xs : Nat → Int32} (hX : va_X b L xs s H0) (hbl : b < H0.size) (hbA : ¬ A b) (hS : va_S A H0 H locs) (hd : decode cc pc = .ok (.arraylength, 1))
    (k : W p l e R s m args below meth c H locs cells slots Q (F0 m (pc + 1) ls (.int (ji (L : Int)) :: rest))) : W p l e R s m args below meth c H locs cells slots Q (F0 m pc ls (.ref b :: rest)) :=
  va_slen hx hb hX hbl hbA hS hd (by rw [show Int32.ofNat L = ji (L : Int) from Int32.ofInt_eq_ofNat.symm]; exact k)
end SC
theorem thA {s : State} {E : En} (h0 : th s) (hA : ∀ q, wA E q → s.heap.size ≤ q) {H : Heap} {locs : List Loc} (hS : va_S (wA E) s.heap H locs) : ∀ U : State, U.heap = H → s.WarmedH U.vm → th U := fun U hU hW => h0.tr hW.alike (fun q cell hc _ => by
  have hlt := (Array.getElem?_eq_some_iff.mp hc).1
  rw [hU, hS.2.1 q hlt (fun z => by have := hA q z; omega)]; exact hc)
/-- what holds all along the law -/
def lwC (p : Program) (l : Launch) (s : State) (m : MethodId) (meth : Method) (c : Code) (b L : Nat) (xs : Nat → Int32) (E : En) : Prop :=
  p.tables.exec = Jvm.exec ∧ c.code = code ∧ c.maxLocals = 8 ∧ s.vm.findClass "RationalFormsLaw" = some m.cls ∧ (∀ w ∈ GG, w.before #[Value.ref b] s = true) ∧ wK E s ∧ ncs s ∧ th s ∧ va_X b L xs s s.heap ∧ b < s.heap.size ∧ ¬ wA E b ∧ (∀ q, wA E q → s.heap.size ≤ q) ∧ L ≤ 3072 ∧ wJ E ∧ l.flags = pinnedFlags ++ [noTraceFlag]
theorem vL_begin {M M1 : Me} {nn : Nat → Nat} {f n : Int} {v : Option Value} (hq : qL_begin M f n v M1) : ∃ k : Int, v = some (.int (ji k)) := by
  rcases hq with h | h <;> exact ⟨_, h.1⟩
theorem kL28_begin {M M1 : Me} {nn : Nat → Nat} {f n : Int} {v : Option Value} (hI : Iv M nn) (hq : qL_begin M f n v M1) : ∀ q, q = 28 ∨ q = 29 ∨ q = 30 → M1 q = M q := by
  rcases hq with ⟨-, -, -, rfl⟩ | ⟨-, -, ok, hcl⟩
  · exact fun _ _ => rfl
  · obtain ⟨g, hg2, hfg⟩ := fo_g ok.1
    exact fun q hq => (hcl g hfg).2.2 q (by omega) (by omega)
theorem vL_put {M M1 : Me} {nn : Nat → Nat} {f i j w : Int} {v : Option Value} (hq : qL_put M f i j w nn v M1) : ∃ k : Int, v = some (.int (ji k)) := by
  rcases hq with h | h | h <;> exact ⟨_, h.1⟩
theorem kL28_put {M M1 : Me} {nn : Nat → Nat} {f i j w : Int} {v : Option Value} (hI : Iv M nn) (hq : qL_put M f i j w nn v M1) : ∀ q, q = 28 ∨ q = 29 ∨ q = 30 → M1 q = M q := by
  rcases hq with ⟨-, -, rfl⟩ | ⟨-, -, rfl⟩ | ⟨-, u, M8, -, ⟨ok, ok2, hcl⟩, rfl⟩
  · exact fun _ _ => rfl
  · exact fun _ _ => rfl
  · obtain ⟨g, hg2, hfg⟩ := fo_g ok.1
    obtain ⟨a, hia⟩ : ∃ a : Nat, i = a := ⟨i.toNat, by omega⟩
    obtain ⟨b, hjb⟩ : ∃ b : Nat, j = b := ⟨j.toNat, by omega⟩
    have c2 := (hcl g a b hfg hia hjb).2
    have hlt := ok2.2.2 g hfg
    have hn4 := (hI g hg2).2.1
    exact fun q hq => by rw [mu_k (by omega), c2, mu_k (by omega), mu_k (by omega)]
theorem vL_about {M M1 : Me} {nn : Nat → Nat} {f w : Int} {v : Option Value} (hq : qL_about M f w nn v M1) : ∃ k : Int, v = some (.int (ji k)) := by
  rcases hq with h | h <;> exact ⟨_, h.1⟩
theorem kL28_about {M M1 : Me} {nn : Nat → Nat} {f w : Int} {v : Option Value} (hI : Iv M nn) (hq : qL_about M f w nn v M1) : ∀ q, q = 28 ∨ q = 29 ∨ q = 30 → M1 q = M q := by
  rcases hq with ⟨-, -, -, rfl⟩ | ⟨-, u, M8, -, ⟨-, -, hF⟩, rfl⟩
  · exact fun _ _ => rfl
  · exact fun q hq => by rw [mu_k (by omega)]; exact hF q (by omega)
theorem vL_symbol {M M1 : Me} {nn : Nat → Nat} {a b p9 : Int} {v : Option Value} (hq : qL_symbol M a b p9 v M1) : ∃ k : Int, v = some (.int (ji k)) := by
  rcases hq with h | h | h <;> exact ⟨_, h.1⟩
theorem kL28_symbol {M M1 : Me} {nn : Nat → Nat} {a b p9 : Int} {v : Option Value} (hI : Iv M nn) (hq : qL_symbol M a b p9 v M1) : ∀ q, q = 28 ∨ q = 29 ∨ q = 30 → M1 q = M q := by
  rcases hq with ⟨-, -, rfl⟩ | ⟨-, -, rfl⟩ | ⟨-, u, M8, -, ⟨-, -, -, rfl⟩, rfl⟩
  · exact fun _ _ => rfl
  · exact fun _ _ => rfl
  · exact fun q hq => mu_k (by omega)
theorem vL_hasse {M M1 : Me} {nn : Nat → Nat} {f p9 : Int} {v : Option Value} (hq : qL_hasse M f p9 nn v M1) : ∃ k : Int, v = some (.int (ji k)) := by
  rcases hq with h | h <;> exact ⟨_, h.1⟩
theorem kL28_hasse {M M1 : Me} {nn : Nat → Nat} {f p9 : Int} {v : Option Value} (hI : Iv M nn) (hq : qL_hasse M f p9 nn v M1) : ∀ q, q = 28 ∨ q = 29 ∨ q = 30 → M1 q = M q := by
  rcases hq with ⟨-, -, -, rfl⟩ | ⟨-, u, M8, -, ⟨-, -, hF⟩, rfl⟩
  · exact fun _ _ => rfl
  · exact fun q hq => by rw [mu_k (by omega)]; exact hF q (by omega)
theorem vL_isotropicAt {M M1 : Me} {nn : Nat → Nat} {f p9 : Int} {v : Option Value} (hq : qL_isotropicAt M f p9 nn v M1) : ∃ k : Int, v = some (.int (ji k)) := by
  rcases hq with h | h <;> exact ⟨_, h.1⟩
theorem kL28_isotropicAt {M M1 : Me} {nn : Nat → Nat} {f p9 : Int} {v : Option Value} (hI : Iv M nn) (hq : qL_isotropicAt M f p9 nn v M1) : ∀ q, q = 28 ∨ q = 29 ∨ q = 30 → M1 q = M q := by
  rcases hq with ⟨-, -, -, rfl⟩ | ⟨-, u, M8, ⟨-, -, hF⟩, rfl⟩
  · exact fun _ _ => rfl
  · exact fun q hq => by rw [mu_k (by omega)]; exact hF q (by omega)
theorem vL_obstacle {M M1 : Me} {nn : Nat → Nat} {f : Int} {v : Option Value} (hq : qL_obstacle M f nn v M1) : ∃ k : Int, v = some (.int (ji k)) := by
  rcases hq with h | h <;> exact ⟨_, h.1⟩
theorem kL28_obstacle {M M1 : Me} {nn : Nat → Nat} {f : Int} {v : Option Value} (hI : Iv M nn) (hq : qL_obstacle M f nn v M1) : ∀ q, q = 28 ∨ q = 29 ∨ q = 30 → M1 q = M q := by
  rcases hq with ⟨-, -, -, rfl⟩ | ⟨-, u, M8, -, ⟨-, -, hF⟩, rfl⟩
  · exact fun _ _ => rfl
  · exact fun q hq => by rw [mu_k (by omega)]; exact hF q (by omega)
theorem vL_takes {M M1 : Me} {nn : Nat → Nat} {f w : Int} {v : Option Value} (hq : qL_takes M f w nn v M1) : ∃ k : Int, v = some (.int (ji k)) := by
  rcases hq with h | h | h <;> exact ⟨_, h.1⟩
theorem kL28_takes {M M1 : Me} {nn : Nat → Nat} {f w : Int} {v : Option Value} (hI : Iv M nn) (hq : qL_takes M f w nn v M1) : ∀ q, q = 28 ∨ q = 29 ∨ q = 30 → M1 q = M q := by
  rcases hq with ⟨-, -, rfl⟩ | ⟨-, -, rfl⟩ | ⟨-, u, M8, ⟨-, -, -, hF⟩, rfl⟩
  · exact fun _ _ => rfl
  · exact fun _ _ => rfl
  · exact fun q hq => by rw [mu_k (by omega)]; exact hF q (by omega)
theorem vL_value {M M1 : Me} {nn : Nat → Nat} {f x y z t : Int} {v : Option Value} (hq : qL_value M f x y z t nn v M1) : ∃ k : Int, v = some (.int (ji k)) := by
  rcases hq with h | h <;> exact ⟨_, h.1⟩
theorem kL28_value {M M1 : Me} {nn : Nat → Nat} {f x y z t : Int} {v : Option Value} (hI : Iv M nn) (hq : qL_value M f x y z t nn v M1) : ∀ q, q = 28 ∨ q = 29 ∨ q = 30 → M1 q = M q := by
  rcases hq with ⟨-, -, -, hF⟩ | ⟨-, u, M8, ⟨-, -, hF⟩, rfl⟩
  · exact fun q hq => hF q (by omega)
  · exact fun q hq => by rw [mu_k (by omega)]; exact hF q (by omega)
theorem vL_sign {M M1 : Me} {nn : Nat → Nat} {f k : Int} {v : Option Value} (hq : qL_sign M f k nn v M1) : ∃ k : Int, v = some (.int (ji k)) := by
  rcases hq with h | h | h <;> exact ⟨_, h.1⟩
theorem kL28_sign {M M1 : Me} {nn : Nat → Nat} {f k : Int} {v : Option Value} (hI : Iv M nn) (hq : qL_sign M f k nn v M1) : ∀ q, q = 28 ∨ q = 29 ∨ q = 30 → M1 q = M q := by
  rcases hq with ⟨-, hX⟩ | ⟨-, hX⟩ | ⟨-, u, M8, -, ⟨-, -, hF⟩, rfl⟩
  · rcases hX with ⟨-, -, rfl⟩ | ⟨-, -, -, hF⟩
    · exact fun _ _ => rfl
    · exact fun q hq => hF q (by omega)
  · rcases hX with ⟨-, -, rfl⟩ | ⟨-, -, -, hF⟩
    · exact fun _ _ => rfl
    · exact fun q hq => hF q (by omega)
  · exact fun q hq => by rw [mu_k (by omega)]; exact hF q (by omega)
