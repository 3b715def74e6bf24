/-! making cells: a world of cells in a row from h on -/
abbrev K0 (D : va_G) (cs : Nat → ClassId) (U : State) : Prop := va_K D cl5 (ty6 (D, fun _ => 0, cs)) U
def nP (D : va_G) (h : Nat) (L : List va_E) (H : Heap) : Prop := H.size = h + L.length ∧ ∀ (k : Nat) (e : va_E), L[k]? = some e → va_at D cl5 (h + k, e) H
def qA (c : ClassId) (n : Nat) (g : Nat → Option Nat) : va_E := .inl (c, n, .inr (.inr (.inr (.inr g))))
abbrev nA (h : Nat) : Nat → Prop := fun q => h ≤ q
def nW (h : Nat) (L : List va_E) : va_W := L.mapIdx (fun i e => (h + i, e))
theorem nW_at {h : Nat} {L : List va_E} {k : Nat} {e : va_E} (he : L[k]? = some e) : (nW h L)[k]? = some (h + k, e) := by
  rw [nW, List.getElem?_mapIdx, he]; rfl
theorem nP.P {D : va_G} {h : Nat} {L : List va_E} {H : Heap} (hP : nP D h L H) : va_P D cl5 (nW h L) H := by
  intro k q hq
  rw [nW, List.getElem?_mapIdx] at hq
  cases hL : L[k]? with
  | none => rw [hL] at hq; cases hq
  | some e => rw [hL] at hq; cases hq; exact hP.2 k e hL
theorem nP.push {D : va_G} {h : Nat} {L X : List va_E} {H H1 : Heap} (hP : nP D h L H) (z : H1.size = h + L.length + X.length) (o : ∀ q, q < h + L.length → H1[q]? = H[q]?) (hx : ∀ (k : Nat) (e : va_E), X[k]? = some e → va_at D cl5 (h + L.length + k, e) H1) : nP D h (L ++ X) H1 := by
  refine ⟨by rw [z, List.length_append]; omega, fun k e he => ?_⟩
  by_cases hk : k < L.length
  · rw [List.getElem?_append_left hk] at he
    exact (hP.2 k e he).kept (o _ (by show h + k < _; omega))
  · rw [List.getElem?_append_right (by omega)] at he
    have h9 := hx _ e he
    rw [show h + L.length + (k - L.length) = h + k by omega] at h9
    exact h9
theorem nP.push1 {D : va_G} {h : Nat} {L : List va_E} {e : va_E} {H H1 : Heap} (hP : nP D h L H) (z : H1.size = h + L.length + 1) (o : ∀ q, q < h + L.length → H1[q]? = H[q]?) (hx : va_at D cl5 (h + L.length, e) H1) : nP D h (L ++ [e]) H1 := by
  refine hP.push z o (fun k e' he => ?_)
  have hk : k < 1 := (List.getElem?_eq_some_iff.mp he).1
  have hk : k = 0 := by omega
  subst hk
  cases he
  exact hx
theorem nP.set {D : va_G} {h k : Nat} {L : List va_E} {e : va_E} {H H1 : Heap} (hP : nP D h L H) (hk : k < L.length) (z : H1.size = H.size) (o : ∀ q, q ≠ h + k → H1[q]? = H[q]?) (he : va_at D cl5 (h + k, e) H1) : nP D h (L.set k e) H1 := by
  refine ⟨by rw [z, hP.1, List.length_set], fun j f hj => ?_⟩
  by_cases hjk : j = k
  · subst hjk
    rw [List.getElem?_set_self hk] at hj
    cases hj
    exact he
  · rw [List.getElem?_set_ne (fun q => hjk q.symm)] at hj
    exact (hP.2 j f hj).kept (o _ (by show h + j ≠ h + k; omega))
theorem nP.last {D : va_G} {h : Nat} {L : List va_E} {e : va_E} {H : Heap} (hP : nP D h (L ++ [e]) H) : nP D (h + L.length) [e] H := by
  refine ⟨by have h9 := hP.1; rw [List.length_append] at h9; omega, fun k f hf => ?_⟩
  have hk : k < 1 := (List.getElem?_eq_some_iff.mp hf).1
  have hk : k = 0 := by omega
  subst hk
  cases hf
  exact hP.2 L.length e (by simp)
theorem nP.call {D : va_G} {h : Nat} {L X : List va_E} {e : va_E} {H H1 : Heap} (hP : nP D h (L ++ [e]) H) (hk : ∀ q, q < H.size → ¬ nA (h + L.length) q → H1[q]? = H[q]?) (hQ : nP D (h + L.length) X H1) : nP D h (L ++ X) H1 := by
  have hz := hP.1
  rw [List.length_append] at hz
  refine ⟨by rw [hQ.1, List.length_append]; omega, fun k f hf => ?_⟩
  by_cases hkl : k < L.length
  · rw [List.getElem?_append_left hkl] at hf
    refine (hP.2 k f (by rw [List.getElem?_append_left hkl]; exact hf)).kept (hk _ (by show h + k < _; omega) (fun q => ?_))
    have : h + L.length ≤ h + k := q
    omega
  · rw [List.getElem?_append_right (by omega)] at hf
    have h9 := hQ.2 _ f hf
    rw [show h + L.length + (k - L.length) = h + k by omega] at h9
    exact h9
theorem nS_push {A : Nat → Prop} {H0 H H1 : Heap} {locs : List Loc} {n : Nat} (hS : va_S A H0 H locs) (hn : H.size = n) (z : n ≤ H1.size) (o : ∀ q, q < n → H1[q]? = H[q]?) : va_S A H0 H1 locs := by
  subst hn
  exact ⟨Nat.le_trans hS.1 z, fun x h1 h2 => (o x (Nat.lt_of_lt_of_le h1 hS.1)).trans (hS.2.1 x h1 h2), hS.2.2⟩
theorem arrV_congr {c : ClassId} {n : Nat} {F G : Nat → Value} (h : ∀ j, j < n → F j = G j) : arrV c n F = arrV c n G := by
  have h9 : (fun j : Fin n => F j.val) = fun j => G j.val := funext fun j => h j.1 j.2
  simp only [arrV, h9]
theorem at_q {D : va_G} {cl : List vw_C} {a n : Nat} {c : ClassId} {g g' : Nat → Option Nat} {H : Heap} (h : va_at D cl (a, qA c n g) H) (hg : ∀ j, j < n → g j = g' j) : va_at D cl (a, qA c n g') H := by
  have h1 : H[a]? = some (arrV c n (fun j => va_rf (g j))) := h
  show H[a]? = some (arrV c n (fun j => va_rf (g' j)))
  rw [h1, arrV_congr (fun j hj => by rw [hg j hj])]
theorem at_i {D : va_G} {cl : List vw_C} {a n : Nat} {c : ClassId} {g g' : Nat → Int} {H : Heap} (h : va_at D cl (a, iA c n g) H) (hg : ∀ j, j < n → g j = g' j) : va_at D cl (a, iA c n g') H := by
  have h1 : H[a]? = some (arrV c n (fun j => .int (ji (g j)))) := h
  show H[a]? = some (arrV c n (fun j => .int (ji (g' j))))
  rw [h1, arrV_congr (fun j hj => by rw [hg j hj])]
theorem at_l {D : va_G} {cl : List vw_C} {a n : Nat} {c : ClassId} {g g' : Nat → Int} {H : Heap} (h : va_at D cl (a, lA c n g) H) (hg : ∀ j, j < n → g j = g' j) : va_at D cl (a, lA c n g') H := by
  have h1 : H[a]? = some (arrV c n (fun j => .long (jl (g j)))) := h
  show H[a]? = some (arrV c n (fun j => .long (jl (g' j))))
  rw [h1, arrV_congr (fun j hj => by rw [hg j hj])]
/-- arrays over arrays and objects can be made -/
def nAO (U : State) : Prop := (Cond.arrayOver (.array .int)).before #[] U = true ∧ (Cond.arrayOver (.array .long)).before #[] U = true ∧ (Cond.arrayOver (.object "RationalForms$Form")).before #[] U = true ∧ (Cond.arrayOver (.object "RationalForms$Diagonal")).before #[] U = true
theorem ao_moved {t : FieldType} {u U : State} (hvm : u.vm.Alike U.vm) (h : (Cond.arrayOver t).before #[] u = true) : (Cond.arrayOver t).before #[] U = true := (Cond.arrayOver_setVmC (args := #[]) (s := u) hvm t).trans h
theorem nAO.moved {u U : State} (hvm : u.vm.Alike U.vm) (h : nAO u) : nAO U := ⟨ao_moved hvm h.1, ao_moved hvm h.2.1, ao_moved hvm h.2.2.1, ao_moved hvm h.2.2.2⟩
/-- a constructor: its object lies at a, the last cell of all; behind it the cells L from a on -/
def nPre (D : va_G) (cs : Nat → ClassId) (a : Nat) (e0 : va_E) : Array Value → State → Prop := fun v U => v = [Value.ref a].toArray ∧ K0 D cs U ∧ nAO U ∧ nP D a [e0] U.heap
theorem nPre_blind (D : va_G) (cs : Nat → ClassId) (a : Nat) (e0 : va_E) : FrameBlind (nPre D cs a e0) := fun a U g mk h => ⟨h.1, va_K.moved (u := U) (U := U.calling g mk a) (Vm.Alike.refl U.vm) h.2.1, nAO.moved (u := U) (U := U.calling g mk a) (Vm.Alike.refl U.vm) h.2.2.1, h.2.2.2⟩
def nQ (D : va_G) (a : Nat) (L : List va_E) : Array Value → State → Outcome → State → Prop := fun _ st o t => (o = .returned none ∧ nP D a L t.heap) ∧ va_F (nA a) st t
def CT (l : Launch) (y : MethodName) (ws : List Cond) (rm : Room) (D : va_G) (cs : Nat → ClassId) (a : Nat) (e0 : va_E) (L : List va_E) (mc ms : Nat) : Prop := MetX l y ws rm (nPre D cs a e0) (nQ D a L) mc ms (nA a)
section MK
variable {p : Program} {l : Launch} {e : Env} {R : Room} {s : State} {m : MethodId} {args : Array Value} {below : List Frame} {meth : Method} {c : Code} {H : Heap} {locs : List Loc} {cells slots : Nat} {Q : State → Prop} {cc : ByteArray} {pc : Nat} {ls : Array Slot} {rest : List Value} {H0 : Heap} {D : va_G} {cs : Nat → ClassId} {h : Nat} {L : List va_E}
theorem CT.ofG {y : MethodName} {rm : Room} {a : Nat} {e0 : va_E} {mc ms : Nat} {maxL : Nat} (hy : plainFor y = true) (hyn : y.name = "<init>") (hL : (lg_sl [Value.ref a]).length ≤ maxL)
    (body : ∀ p e s m args below meth c, p.tables.exec = Jvm.exec → c.code = cc → c.maxLocals = maxL → meth.sig.returnType = none → meth.locks = false → meth.name = "<init>" → (∀ w ∈ GG, w.before args s = true) → s.vm.findClass y.cls = some m.cls → K0 D cs s → nAO s → nP D a [e0] s.heap → va_S (nA a) s.heap s.heap [] →
      ∀ ls, lv_has ls maxL (lv_args 0 [Value.ref a]) → W p l e rm s m args below meth c s.heap [] 0 0 (XQ below (nQ D a L) args s mc ms (nA a)) (F0 m 0 ls [])) : CT l y (Cond.code y cc maxL none :: GG) rm D cs a e0 L mc ms := by
  refine MetX.ofW (cc := cc) (maxL := maxL) (ret := none) hy rfl ?_
  intro p e s m args below meth c s₁ B hml hnx ha hP
  obtain ⟨rfl, hK, hAO, hP⟩ := hP
  rw [lg_entry_eq]
  exact body p e s m _ below meth c B.exec B.bytes hml B.returns B.notSynchronized ((name_of_methodNamed B.named B.method).1.trans hyn) (fun w h => atoms_spec (ws := Cond.code y cc maxL none :: GG) B.pre w (List.mem_cons_of_mem _ h)) (findClass_of_methodNamed B.named) hK hAO hP va_S.rf _ (lv_entry [Value.ref a] hL)
theorem n_vret (hx : p.tables.exec = Jvm.exec) (hb : c.code = cc) (hr : meth.sig.returnType = none) (hk : meth.locks = false) (hP : nP D h L H) (hS : va_S (nA h) s.heap H locs) (hd : decode cc pc = .ok (.return_, 1)) :
    W p l e R s m args below meth c H locs cells slots (XQ below (nQ D h L) args s cells slots (nA h)) (F0 m pc ls []) :=
  W.mono (fun _ => XQ.of) (W.vret hx hb hr (fun t ht _ => ⟨⟨rfl, by rw [ht]; exact hP⟩, hS.F ht⟩) hS.2.2 hd hk)
theorem n_new {own C : String} {T : u_T} {N ci index : Nat} {fs : List Value} (hx : p.tables.exec = Jvm.exec) (hb : c.code = cc) (hg : ∀ w ∈ GG, w.before args s = true) (hin : ∀ w ∈ u_ws C T N, w ∈ GG) (ty : Nat → FieldType) (hty : ∀ k, k < N → parseFieldDescriptor (T k).2.2.1 = some (ty k)) (hown : s.vm.findClass own = some m.cls) (h1 : Cond.classLink own index C ∈ GG) (h2 : Cond.instantiable C N ∈ GG) (h3 : Cond.initialized C ∈ GG) (hK : K0 D cs s) (hP : nP D h L H) (hS : va_S (nA h) H0 H locs) (hc : cl5[ci]? = some (C, T, N)) (hfs : ∀ j, j < N → defaultValue (ty j) = vp_V fs j) (hcells : cells + 1 ≤ R.cells) (hslots : slots + N ≤ R.slots) (hdg : decode cc pc = .ok (.new index, 3))
    (kk : ∀ H1 : Heap, nP D h (L ++ [.inr (ci, fs)]) H1 → va_S (nA h) H0 H1 locs → W p l e R s m args below meth c H1 locs (cells + 1) (slots + N) Q (F0 m (pc + 3) ls (.ref (h + L.length) :: rest))) : W p l e R s m args below meth c H locs cells slots Q (F0 m pc ls rest) := by
  have hKn := hK.1 ci _ hc
  refine W.newcK hx hb hown (hg _ h1) (hg _ h2) (hg _ h3) rfl hdg hcells hslots hKn.2.1 hP.1 fun H1 kC hkC e1 z1 o1 => ?_
  exact kk H1 (hP.push1 z1 o1 ⟨_, hc, (u_born ty hg hin hKn hkC e1 hty).to hfs⟩) (nS_push hS hP.1 (by omega) o1)
theorem n_newI {n : Int32} {N : Nat} (hx : p.tables.exec = Jvm.exec) (hb : c.code = cc) (hg : ∀ w ∈ GG, w.before args s = true) (harr : Cond.arrayClass .int ∈ GG) (hK : K0 D cs s) (hP : nP D h L H) (hS : va_S (nA h) H0 H locs) (hn : ¬ n < 0) (hN : n.toNatClampNeg = N) (hbytes : N * 4 ≤ 536870912) (hcells : cells + 1 ≤ R.cells) (hslots : slots + N ≤ R.slots) (hdg : decode cc pc = .ok (.newarray .int, 2))
    (kk : ∀ H1 : Heap, nP D h (L ++ [iA (cs 0) N (fun _ => 0)]) H1 → va_S (nA h) H0 H1 locs → W p l e R s m args below meth c H1 locs (cells + 1) (slots + N) Q (F0 m (pc + 2) ls (.ref (h + L.length) :: rest))) : W p l e R s m args below meth c H locs cells slots Q (F0 m pc ls (.int n :: rest)) := by
  refine va_newaK (atype := .int) hx hb (hg _ harr) rfl hdg rfl hn hN hbytes hcells hslots hP.1 fun H1 cA e1 z1 o1 hAr hNm => ?_
  have h9 : cs 0 = cA := Option.some.inj (((hK.2 0 _ rfl).2 : s.vm.findClass _ = some (cs 0)).symm.trans hNm)
  refine kk H1 (hP.push1 z1 o1 ?_) (nS_push hS hP.1 (by omega) o1)
  rw [h9]
  exact e1
theorem n_newL {n : Int32} {N : Nat} (hx : p.tables.exec = Jvm.exec) (hb : c.code = cc) (hg : ∀ w ∈ GG, w.before args s = true) (harr : Cond.arrayClass .long ∈ GG) (hK : K0 D cs s) (hP : nP D h L H) (hS : va_S (nA h) H0 H locs) (hn : ¬ n < 0) (hN : n.toNatClampNeg = N) (hbytes : N * 8 ≤ 536870912) (hcells : cells + 1 ≤ R.cells) (hslots : slots + N ≤ R.slots) (hdg : decode cc pc = .ok (.newarray .long, 2))
    (kk : ∀ H1 : Heap, nP D h (L ++ [lA (cs 1) N (fun _ => 0)]) H1 → va_S (nA h) H0 H1 locs → W p l e R s m args below meth c H1 locs (cells + 1) (slots + N) Q (F0 m (pc + 2) ls (.ref (h + L.length) :: rest))) : W p l e R s m args below meth c H locs cells slots Q (F0 m pc ls (.int n :: rest)) := by
  refine va_newaK (atype := .long) hx hb (hg _ harr) rfl hdg rfl hn hN hbytes hcells hslots hP.1 fun H1 cA e1 z1 o1 hAr hNm => ?_
  have h9 : cs 1 = cA := Option.some.inj (((hK.2 1 _ rfl).2 : s.vm.findClass _ = some (cs 1)).symm.trans hNm)
  refine kk H1 (hP.push1 z1 o1 ?_) (nS_push hS hP.1 (by omega) o1)
  rw [h9]
  exact e1
theorem n_newQ {own C : String} {t0 index : Nat} {n : Int32} {N : Nat} (hx : p.tables.exec = Jvm.exec) (hb : c.code = cc) (hg : ∀ w ∈ GG, w.before args s = true) (hown : s.vm.findClass own = some m.cls) (h1 : Cond.classLink own index C ∈ GG) (hover : (Cond.arrayOver (.object C)).before #[] s = true) (hK : K0 D cs s) (ht : (ty6 (D, fun _ => 0, cs))[t0]? = some (cs t0, .object C)) (hP : nP D h L H) (hS : va_S (nA h) H0 H locs) (hn : ¬ n < 0) (hN : n.toNatClampNeg = N) (hbytes : N * 4 ≤ 536870912) (hcells : cells + 1 ≤ R.cells) (hslots : slots + N ≤ R.slots) (hdg : decode cc pc = .ok (.anewarray index, 3))
    (kk : ∀ H1 : Heap, nP D h (L ++ [qA (cs t0) N (fun _ => none)]) H1 → va_S (nA h) H0 H1 locs → W p l e R s m args below meth c H1 locs (cells + 1) (slots + N) Q (F0 m (pc + 3) ls (.ref (h + L.length) :: rest))) : W p l e R s m args below meth c H locs cells slots Q (F0 m pc ls (.int n :: rest)) := by
  subst hN
  refine W.anew (C := C) hx hb hown (hg _ h1) hover rfl hdg rfl hn hbytes hcells hslots fun cA kA comp f1 f2 f3 f4 => ?_
  obtain ⟨kA', comp', k1, k2, k3, k4⟩ := (hK.2 t0 _ ht).2
  have h9 : cs t0 = cA := Option.some.inj (k4.symm.trans f1)
  generalize hH1 : H.push ({ cls := cA, slots := Array.replicate n.toNatClampNeg .null, vm := .none } : Cell) = H1
  have z1 : H1.size = h + L.length + 1 := by rw [← hH1, Array.size_push, hP.1]
  have e1 : H1[h + L.length]? = some (arrV cA n.toNatClampNeg (fun _ => .null)) := by rw [← hH1, ← hP.1, Array.getElem?_push_size, ← arrV_new]
  have o1 : ∀ q : Nat, q < h + L.length → H1[q]? = H[q]? := fun q hq => by rw [← hH1, Array.getElem?_push, if_neg (by rw [hP.1]; omega)]
  rw [hP.1]
  refine kk H1 (hP.push1 z1 o1 ?_) (nS_push hS hP.1 (by omega) o1)
  rw [h9]
  exact e1
theorem outer_ind (cA : ClassId) (N h0 : Nat) : ∀ i : Nat, Jvm.Free.Multi.outerC cA N h0 i = arrV cA N (fun j => if j < i then .ref (h0 + 1 + j) else .null)
  | 0 => by
    show ({ cls := cA, slots := Array.replicate N .null, vm := .none } : Cell) = _
    rw [arrV_new]
    exact arrV_congr fun j _ => by simp
  | i + 1 => by
    show (Jvm.Free.Multi.outerC cA N h0 i).setSlot i (.ref (h0 + 1 + i)) = _
    rw [outer_ind cA N h0 i, arrV_store]
    refine arrV_congr fun j _ => ?_
    by_cases e : j = i
    · subst e
      simp [updV]
    · by_cases h : j < i
      · simp [updV, e, h, Nat.lt_succ_of_lt h]
      · simp [updV, e, h, show ¬ j < i + 1 by omega]
theorem outer_arr (cA : ClassId) (N h0 : Nat) : Jvm.Free.Multi.outerC cA N h0 N = arrV cA N (fun j => .ref (h0 + 1 + j)) := by
  rw [outer_ind]
  exact arrV_congr fun j hj => by rw [if_pos hj]
theorem n_mna {own : String} {index : Nat} {ty : FieldType} {n k : Int32} {N K : Nat} (hx : p.tables.exec = Jvm.exec) (hb : c.code = cc) (hg : ∀ w ∈ GG, w.before args s = true) (hown : s.vm.findClass own = some m.cls) (hcl : Cond.classLink own index ("[" ++ (FieldType.array ty).toString) ∈ GG) (hover : (Cond.arrayOver (.array ty)).before #[] s = true) (harr : Cond.arrayClass ty ∈ GG)
    (hn : ¬ n < 0) (hk : ¬ k < 0) (hN : n.toNatClampNeg = N) (hKK : k.toNatClampNeg = K) (hb1 : N * 4 ≤ 536870912) (hb2 : K * componentBytes ty ≤ 536870912) (hb3 : K ≤ 536870912) (hdf : fits ty (defaultValue ty) = true) (hdd : (defaultValue ty).isDefault = true) (hcells : cells + (1 + N) ≤ R.cells) (hslots : slots + (N + N * K) ≤ R.slots) (hdg : decode cc pc = .ok (.multianewarray index 2, 4))
    (kk : ∀ (H1 : Heap) (cA comp : ClassId), s.vm.findClass ("[" ++ (FieldType.array ty).toString) = some cA → s.vm.findClass (FieldType.array ty).toString = some comp → H1.size = H.size + 1 + N → (∀ q, q < H.size → H1[q]? = H[q]?) → H1[H.size]? = some (arrV cA N (fun j => .ref (H.size + 1 + j))) → (∀ j, j < N → H1[H.size + 1 + j]? = some (arrV comp K (fun _ => defaultValue ty))) →
      W p l e R s m args below meth c H1 locs (cells + 1 + N) (slots + N + N * K) Q (F0 m (pc + 4) ls (.ref H.size :: rest))) : W p l e R s m args below meth c H locs cells slots Q (F0 m pc ls (.int k :: .int n :: rest)) := by
  intro T hT X
  subst hb; subst hN; subst hKK; subst hT
  obtain ⟨vm₁, cA, comp, hW, hfA, hfC, hO, hI, X1, step⟩ := X.multianewarray2F hx hown (hg _ hcl) hover (hg _ harr) (g := F0 m pc ls (.int k :: .int n :: rest)) rfl hdg rfl hn hk hb1 hb2 hb3 hdf hdd hcells hslots
  obtain ⟨f1, f2, -, -⟩ := Jvm.Free.Multi.fill_facts (T.setVm vm₁) cA comp n.toNatClampNeg k.toNatClampNeg (defaultValue ty) n.toNatClampNeg
  obtain ⟨t, a1, b1⟩ := kk _ cA comp hfA hfC f1 (fun q hq => Jvm.Free.Multi.fill_old (T.setVm vm₁) cA comp _ _ _ hq _) (f2.trans (by rw [outer_arr] <;> rfl)) (fun j hj => (Jvm.Free.Multi.fill_inner (T.setVm vm₁) cA comp _ _ _ _ j hj).trans (by rw [← arrV_new] <;> rfl)) _ rfl X1
  exact ⟨t, step t a1, b1⟩
theorem n_mnaI {own : String} {index : Nat} (hx : p.tables.exec = Jvm.exec) (hb : c.code = cc) (hg : ∀ w ∈ GG, w.before args s = true) (hown : s.vm.findClass own = some m.cls) (hcl : Cond.classLink own index "[[I" ∈ GG) (hover : (Cond.arrayOver (.array .int)).before #[] s = true) (harr : Cond.arrayClass .int ∈ GG) (hK : K0 D cs s) (hP : nP D h L H) (hS : va_S (nA h) H0 H locs) (hcells : cells + 5 ≤ R.cells) (hslots : slots + 20 ≤ R.slots) (hdg : decode cc pc = .ok (.multianewarray index 2, 4))
    (kk : ∀ H1 : Heap, nP D h (L ++ [qA (cs 2) 4 (fun j => some (h + L.length + 1 + j)), iA (cs 0) 4 (fun _ => 0), iA (cs 0) 4 (fun _ => 0), iA (cs 0) 4 (fun _ => 0), iA (cs 0) 4 (fun _ => 0)]) H1 → va_S (nA h) H0 H1 locs → W p l e R s m args below meth c H1 locs (cells + 5) (slots + 20) Q (F0 m (pc + 4) ls (.ref (h + L.length) :: rest))) : W p l e R s m args below meth c H locs cells slots Q (F0 m pc ls (.int (ji 4) :: .int (ji 4) :: rest)) := by
  refine n_mna (ty := .int) (N := 4) (K := 4) hx hb hg hown hcl hover harr (by decide) (by decide) (by decide) (by decide) (by decide) (by decide) (by decide) rfl rfl hcells hslots hdg fun H1 cA comp f1 f2 z o e1 e2 => ?_
  have h2 : cs 2 = cA := Option.some.inj (((hK.2 2 _ rfl).2 : s.vm.findClass _ = some (cs 2)).symm.trans f1)
  have h0 : cs 0 = comp := Option.some.inj (((hK.2 0 _ rfl).2 : s.vm.findClass _ = some (cs 0)).symm.trans f2)
  rw [hP.1] at z o e1 e2
  rw [hP.1]
  refine W.widen (k := cells + 5) (n := slots + 20) (by omega) (by omega) ?_
  refine kk H1 (hP.push (by rw [z]; rfl) o (fun k f hf => ?_)) (nS_push hS hP.1 (by omega) o)
  rw [h2, h0] at hf
  have hk : k < 5 := (List.getElem?_eq_some_iff.mp hf).1
  match k, hk, hf with
  | 0, _, hf => cases hf; exact e1
  | 1, _, hf => cases hf; exact e2 0 (by decide)
  | 2, _, hf => cases hf; exact e2 1 (by decide)
  | 3, _, hf => cases hf; exact e2 2 (by decide)
  | 4, _, hf => cases hf; exact e2 3 (by decide)
theorem n_mnaL {own : String} {index : Nat} (hx : p.tables.exec = Jvm.exec) (hb : c.code = cc) (hg : ∀ w ∈ GG, w.before args s = true) (hown : s.vm.findClass own = some m.cls) (hcl : Cond.classLink own index "[[J" ∈ GG) (hover : (Cond.arrayOver (.array .long)).before #[] s = true) (harr : Cond.arrayClass .long ∈ GG) (hK : K0 D cs s) (hP : nP D h L H) (hS : va_S (nA h) H0 H locs) (hcells : cells + 5 ≤ R.cells) (hslots : slots + 20 ≤ R.slots) (hdg : decode cc pc = .ok (.multianewarray index 2, 4))
    (kk : ∀ H1 : Heap, nP D h (L ++ [qA (cs 3) 4 (fun j => some (h + L.length + 1 + j)), lA (cs 1) 4 (fun _ => 0), lA (cs 1) 4 (fun _ => 0), lA (cs 1) 4 (fun _ => 0), lA (cs 1) 4 (fun _ => 0)]) H1 → va_S (nA h) H0 H1 locs → W p l e R s m args below meth c H1 locs (cells + 5) (slots + 20) Q (F0 m (pc + 4) ls (.ref (h + L.length) :: rest))) : W p l e R s m args below meth c H locs cells slots Q (F0 m pc ls (.int (ji 4) :: .int (ji 4) :: rest)) := by
  refine n_mna (ty := .long) (N := 4) (K := 4) hx hb hg hown hcl hover harr (by decide) (by decide) (by decide) (by decide) (by decide) (by decide) (by decide) rfl rfl hcells hslots hdg fun H1 cA comp f1 f2 z o e1 e2 => ?_
  have h2 : cs 3 = cA := Option.some.inj (((hK.2 3 _ rfl).2 : s.vm.findClass _ = some (cs 3)).symm.trans f1)
  have h0 : cs 1 = comp := Option.some.inj (((hK.2 1 _ rfl).2 : s.vm.findClass _ = some (cs 1)).symm.trans f2)
  rw [hP.1] at z o e1 e2
  rw [hP.1]
  refine W.widen (k := cells + 5) (n := slots + 20) (by omega) (by omega) ?_
  refine kk H1 (hP.push (by rw [z]; rfl) o (fun k f hf => ?_)) (nS_push hS hP.1 (by omega) o)
  rw [h2, h0] at hf
  have hk : k < 5 := (List.getElem?_eq_some_iff.mp hf).1
  match k, hk, hf with
  | 0, _, hf => cases hf; exact e1
  | 1, _, hf => cases hf; exact e2 0 (by decide)
  | 2, _, hf => cases hf; exact e2 1 (by decide)
  | 3, _, hf => cases hf; exact e2 2 (by decide)
  | 4, _, hf => cases hf; exact e2 3 (by decide)
theorem n_get {own C : String} {T : u_T} {N ci index : Nat} {k : Nat} {fs : List Value} (hx : p.tables.exec = Jvm.exec) (hb : c.code = cc) (hg : ∀ w ∈ GG, w.before args s = true) (hin : ∀ w ∈ u_ws C T N, w ∈ GG) (hown : s.vm.findClass own = some m.cls) (hK : K0 D cs s) (hP : nP D h L H) (he : L[k]? = some (.inr (ci, fs))) (hc : cl5[ci]? = some (C, T, N)) (j : Nat) (hj : j < N) (hl : Cond.fieldLink own index (T j).1 (T j).2.1 (T j).2.2.1 ∈ GG) {v : Value} (hv : fs[j]? = some v) (hd : decode cc pc = .ok (.getfield index, 3))
    (kk : W p l e R s m args below meth c H locs cells slots Q (F0 m (pc + 3) ls (v :: rest))) : W p l e R s m args below meth c H locs cells slots Q (F0 m pc ls (.ref (h + k) :: rest)) :=
  va_get (D := D) (ci := ci) (C := C) (T := T) (N := N) hx hb hg hin hown hK hP.P k (nW_at he) hc j hj (hg _ hl) (fun _ h => h) hv hd kk
theorem n_put {own C : String} {T : u_T} {N ci index : Nat} {k : Nat} {fs : List Value} (hx : p.tables.exec = Jvm.exec) (hb : c.code = cc) (hg : ∀ w ∈ GG, w.before args s = true) (hin : ∀ w ∈ u_ws C T N, w ∈ GG) (ty0 : Nat → FieldType) (hty : ∀ k, k < N → parseFieldDescriptor (T k).2.2.1 = some (ty0 k)) (hnm : ∀ a, a < N → ∀ b, b < N → a ≠ b → (T a).2.1 ≠ (T b).2.1) (hown : s.vm.findClass own = some m.cls) (hK : K0 D cs s) (hP : nP D h L H) (hS : va_S (nA h) H0 H locs) (he : L[k]? = some (.inr (ci, fs))) (hc : cl5[ci]? = some (C, T, N)) (j : Nat) (hj : j < N) (hl : Cond.fieldLink own index (T j).1 (T j).2.1 (T j).2.2.1 ∈ GG) (hfin : (T j).2.2.2 = false) {ty : FieldType} {v : Value} (hdd : parseFieldDescriptor (T j).2.2.1 = some ty) (hn : narrow ty v = v) (hft : fits ty v = true) (hlen : j < fs.length) (hd : decode cc pc = .ok (.putfield index, 3))
    (kk : ∀ (H1 : Heap) (locs1 : List Loc), nP D h (L.set k (.inr (ci, fs.set j v))) H1 → va_S (nA h) H0 H1 locs1 → W p l e R s m args below meth c H1 locs1 cells slots Q (F0 m (pc + 3) ls rest)) : W p l e R s m args below meth c H locs cells slots Q (F0 m pc ls (v :: .ref (h + k) :: rest)) := by
  have hap := va_apart (own := own) hg hin ty0 hty hnm hK hc
  obtain ⟨r, h1, cell, q1, q2, q3, q4⟩ := hP.2 k _ he
  have hr : r = (C, T, N) := Option.some.inj (h1.symm.trans hc)
  subst hr
  obtain ⟨hS1, hfc, kC, hkC, hkind⟩ := hK.1 ci _ hc
  obtain ⟨cf, kf, fi, f, hi, hsl⟩ := hS1 j hj
  have hlay := hg _ (hin _ (u_in_lay hj))
  unfold u_lay at hlay
  rw [if_neg (by rw [hfin]; decide)] at hlay
  have hst := (u_facts hfc hkC (u_lays hg hin hj) hi).1
  have h6 := u_store hfc hkC hkind hlay hi hdd hn hft
  refine W.putK hx hb (f := f) ⟨hown, hg _ hl, ⟨_, _, _, hi⟩, hst⟩ (by rw [q2]; exact h6) q1 q3 (by rw [hsl]; exact k2_hasslot (q4 j hj)) rfl rfl hd fun H' e1 e2 e3 => ?_
  rw [hsl] at e1 ⊢
  exact kk H' _ (hP.set (List.getElem?_eq_some_iff.mp he).1 e2 e3 ⟨_, hc, t_OB.to (V := updV (vp_V fs) j v) ⟨_, e1, q2, q3, t_set q4 hap hj v⟩ (fun i _ => vp_updV_set hlen v i)⟩) (hS.put e2 e3 (Nat.le_add_right h k))
theorem n_putF {own C : String} {T : u_T} {N ci index : Nat} {k : Nat} {fs : List Value} (hx : p.tables.exec = Jvm.exec) (hb : c.code = cc) (hg : ∀ w ∈ GG, w.before args s = true) (hin : ∀ w ∈ u_ws C T N, w ∈ GG) (ty0 : Nat → FieldType) (hty : ∀ k, k < N → parseFieldDescriptor (T k).2.2.1 = some (ty0 k)) (hnm : ∀ a, a < N → ∀ b, b < N → a ≠ b → (T a).2.1 ≠ (T b).2.1) (hown : s.vm.findClass own = some m.cls) (hK : K0 D cs s) (hP : nP D h L H) (hS : va_S (nA h) H0 H locs) (he : L[k]? = some (.inr (ci, fs))) (hc : cl5[ci]? = some (C, T, N)) (j : Nat) (hj : j < N) (hl : Cond.fieldLink own index (T j).1 (T j).2.1 (T j).2.2.1 ∈ GG) (hfin : (T j).2.2.2 = true) (hin2 : meth.name = "<init>") (hdecl : (T j).1 = own) {ty : FieldType} {v : Value} (hdd : parseFieldDescriptor (T j).2.2.1 = some ty) (hn : narrow ty v = v) (hft : fits ty v = true) (hlen : j < fs.length) (hd : decode cc pc = .ok (.putfield index, 3))
    (kk : ∀ (H1 : Heap) (locs1 : List Loc), nP D h (L.set k (.inr (ci, fs.set j v))) H1 → va_S (nA h) H0 H1 locs1 → W p l e R s m args below meth c H1 locs1 cells slots Q (F0 m (pc + 3) ls rest)) : W p l e R s m args below meth c H locs cells slots Q (F0 m pc ls (v :: .ref (h + k) :: rest)) := by
  have hap := va_apart (own := own) hg hin ty0 hty hnm hK hc
  obtain ⟨r, h1, cell, q1, q2, q3, q4⟩ := hP.2 k _ he
  have hr : r = (C, T, N) := Option.some.inj (h1.symm.trans hc)
  subst hr
  obtain ⟨hS1, hfc, kC, hkC, hkind⟩ := hK.1 ci _ hc
  obtain ⟨cf, kf, fi, f, hi, hsl⟩ := hS1 j hj
  have hlay := hg _ (hin _ (u_in_lay hj))
  unfold u_lay at hlay
  rw [if_pos hfin] at hlay
  have hst := (u_facts hfc hkC (u_lays hg hin hj) hi).1
  have hcf : m.cls = cf := by
    obtain ⟨_, _, c', _, _, _, -, -, hf', -, -, -, hown2, -⟩ := Cond.laysFinal_spec hlay
    have e1 : c' = cf := by have := hi.symm.trans hf'; simp at this; exact this.1.symm
    rw [hdecl] at hown2
    rw [← e1]; exact Option.some.inj (hown.symm.trans hown2)
  have h6 := u_fits hfc hkC hkind (Or.inr hlay) hi hdd hn hft
  refine W.putFinK hx hb hown (hg _ hl) hi hst hcf hin2 (by rw [q2]; exact h6) q1 q3 (by rw [hsl]; exact k2_hasslot (q4 j hj)) rfl rfl hd fun H' e1 e2 e3 => ?_
  rw [hsl] at e1 ⊢
  exact kk H' _ (hP.set (List.getElem?_eq_some_iff.mp he).1 e2 e3 ⟨_, hc, t_OB.to (V := updV (vp_V fs) j v) ⟨_, e1, q2, q3, t_set q4 hap hj v⟩ (fun i _ => vp_updV_set hlen v i)⟩) (hS.put e2 e3 (Nat.le_add_right h k))
theorem n_iast {k N : Nat} {r : Nat → Int} {z x : Int} {n : Nat} (hx : p.tables.exec = Jvm.exec) (hb : c.code = cc) (hK : K0 D cs s) (hP : nP D h L H) (hS : va_S (nA h) H0 H locs) (he : L[k]? = some (iA (cs 0) N r)) (hz : z = n) (hn : n < N) (hN : N ≤ 2147483647) (hd : decode cc pc = .ok (.iastore, 1))
    (kk : ∀ (H1 : Heap) (locs1 : List Loc), nP D h (L.set k (iA (cs 0) N (fun j => if j = n then x else r j))) H1 → va_S (nA h) H0 H1 locs1 → W p l e R s m args below meth c H1 locs1 cells slots Q (F0 m (pc + 1) ls rest)) : W p l e R s m args below meth c H locs cells slots Q (F0 m pc ls (.int (ji x) :: .int (ji z) :: .ref (h + k) :: rest)) := by
  subst hz
  have hin : vp_in (ji (n : Int)) N := ji_in (by omega) (by omega) hN
  have hat : H[h + k]? = some (arrV (cs 0) N (fun j => .int (ji (r j)))) := hP.2 k _ he
  refine W.iast hx hb hat ((hK.2 0 _ rfl).1 N (fun j => .int (ji (r j)))) (fun q => by cases q) (by rw [arrV_size]; exact hin) rfl rfl hd fun H1 e1 z1 oq => ?_
  refine kk H1 _ (hP.set (List.getElem?_eq_some_iff.mp he).1 z1 oq ?_) (hS.put z1 oq (Nat.le_add_right h k))
  show H1[h + k]? = some (arrV (cs 0) N (fun j => .int (ji (if j = n then x else r j))))
  rw [e1, arrV_store, ji_nat (by constructor <;> omega) (by omega)]
  refine congrArg some (arrV_congr fun j _ => ?_)
  by_cases hj : j = n
  · subst hj; simp [updV]
  · simp [updV, hj]
theorem n_astq {k kv N ci t0 : Nat} {q : vw_C} {vs : List Value} {g : Nat → Option Nat} {z : Int} {n : Nat} (hx : p.tables.exec = Jvm.exec) (hb : c.code = cc) (hK : K0 D cs s) (hP : nP D h L H) (hS : va_S (nA h) H0 H locs) (he : L[k]? = some (qA (cs t0) N g)) (ht : (ty6 (D, fun _ => 0, cs))[t0]? = some (cs t0, .object q.1)) (hv : L[kv]? = some (.inr (ci, vs))) (hc : cl5[ci]? = some q) (hz : z = n) (hn : n < N) (hN : N ≤ 2147483647) (hd : decode cc pc = .ok (.aastore, 1))
    (kk : ∀ (H1 : Heap) (locs1 : List Loc), nP D h (L.set k (qA (cs t0) N (fun j => if j = n then some (h + kv) else g j))) H1 → va_S (nA h) H0 H1 locs1 → W p l e R s m args below meth c H1 locs1 cells slots Q (F0 m (pc + 1) ls rest)) : W p l e R s m args below meth c H locs cells slots Q (F0 m pc ls (.ref (h + kv) :: .int (ji z) :: .ref (h + k) :: rest)) := by
  subst hz
  have hin : vp_in (ji (n : Int)) N := ji_in (by omega) (by omega) hN
  have hlt : (ji (n : Int)).toNatClampNeg < N := Nat.not_le.mp fun q => hin (Or.inr q)
  have h0 : ¬ ji (n : Int) < 0 := fun q => hin (Or.inl q)
  obtain ⟨r', hr', cellV, g1, g2, g3, -⟩ := hP.2 kv _ hv
  have hcls := (hK.1 ci _ hc).2
  obtain ⟨kA, comp, k1, k2, k3, -⟩ := (hK.2 t0 _ ht).2
  have hcomp : comp = D.1 ci := Option.some.inj (k3.symm.trans hcls.1)
  subst hcomp
  obtain ⟨kC, hkC, -⟩ := hcls.2
  have hat : H[h + k]? = some (arrV (cs t0) N (fun j => va_rf (g j))) := hP.2 k _ he
  refine W.aast hx hb hat (fun q h => by cases h) (fun h => by cases h) k1 k2 rfl hkC ⟨h0, by rw [arrV_size]; exact hlt⟩ g1 (fun q h => by rw [g3] at h; cases h) (by rw [g2]; exact hkC) (by rw [g2]; exact va_assign hcls) rfl rfl hd fun H1 e1 z1 oq => ?_
  refine kk H1 _ (hP.set (List.getElem?_eq_some_iff.mp he).1 z1 oq ?_) (hS.put z1 oq (Nat.le_add_right h k))
  show H1[h + k]? = some (arrV (cs t0) N (fun j => va_rf (if j = n then some (h + kv) else g j)))
  rw [e1, arrV_store, ji_nat (by constructor <;> omega) (by omega)]
  refine congrArg some (arrV_congr fun j _ => ?_)
  by_cases hj : j = n
  · subst hj; simp [updV, va_rf]
  · simp [updV, hj]
section MKC
variable {y : MethodName} {bytes : ByteArray} {maxL nL mc ms n index : Nat} {ws : List Cond} {rm : Room} {Pc : Array Value → State → Prop} {Qc : Array Value → State → Outcome → State → Prop} {free : Addr → Prop} {Ts : List Cond} {own host : String} {b : Addr} {As st : List Value} {g : JFrame} {lv : List (Nat × Value)} {X : List va_E} {e0 : va_E}
theorem x_runI (S : CallFix p m c cc nL s args Ts own) (hM : MetX l y ws rm Pc Qc mc ms free) (cw : CallB R s args own index y bytes maxL none ws rm mc ms n ∧ y.name = "<init>" ∧ (Cond.instanceMethod y).before args s = true) (hp : PreS s H Pc (.ref b :: As))
    (hg : g.method = m) (hn : As.length = n) (hsize : g.locals.size = nL) (hstack : g.stack = As.reverse ++ .ref b :: rest) (hW : 2 * g.monitorRoom + (rest.map fun v => v.category).sum ≤ 8) (hdg : decode cc g.pc = .ok (.invokespecial index, 3)) (hf : cells + mc ≤ R.cells ∧ slots + ms ≤ R.slots) :
    xRun p l e R s m args below meth c H locs cells slots mc ms g rest (Qc (Value.ref b :: As).toArray) free := by
  obtain ⟨⟨hrc, hrs, hfr, hlo, hws, hcw, hcode, hini, hy, hlen, hl⟩, hy1, hinst⟩ := cw
  obtain ⟨hx, hb, hml, hown, -⟩ := S
  obtain ⟨hbl, hPc⟩ := hp
  intro T hT X
  subst hg
  have hpl : e.platform.magicAccessors = ({} : Platform).magicAccessors := by rw [X.admits.platform]
  obtain ⟨mk, methM, cM, kP, vm₁, hnamed, hmethM, hcodeM, -, hlocalsM, -, hkP, -, hW₁, hstep₁⟩ := Steps.initColdArgs (e := e) X.here hx X.warmed hpl hown hy1 hy hl hinst hcode (f := g) rfl (fun sig h => hn.trans (hlen sig h)) hstack (by rw [hb]; exact hdg)
  have X₁ := X.noted hW₁
  obtain ⟨o, st₀, t, T', L, h0, h1, h2, h3, h4, h5, h6, h7⟩ := x_core (len := 3) (Wd := 8) (bytes := bytes) (maxL := maxL) (ret := none) (g := { g with stack := rest }) (ig := .invokespecial index) (mk := mk) (a := (Value.ref b :: As).toArray) hM hbl hrc hrs hfr hlo hws hcw (fun a' U hW => x_ini hW hini) X₁ rfl (hsize.trans hml.symm) (by rw [hb]; exact hdg) hW (X₁.named hnamed) hf.1 hf.2 (hPc _ hT X₁.warmed)
  exact ⟨o, st₀, t, T', L, h0.trans hT, h1, h2, h3, h4, h5, fun v hv tg h => hstep₁ _ fun acts => by rw [doInvoke_state]; exact (h6 v hv).trans h, fun x hx tg h => hstep₁ _ fun acts => by rw [doInvoke_state]; exact (h7 x hx).trans h⟩
theorem x_runIN (S : CallFix p m c cc nL s args Ts own) (hM : MetX l y ws rm Pc Qc mc ms free) (cw : va_CN R s args own index y host bytes maxL none ws rm mc ms n ∧ y.name = "<init>" ∧ (Cond.instanceMethod y).before args s = true) (hp : PreS s H Pc (.ref b :: As))
    (hg : g.method = m) (hn : As.length = n) (hsize : g.locals.size = nL) (hstack : g.stack = As.reverse ++ .ref b :: rest) (hW : 2 * g.monitorRoom + (rest.map fun v => v.category).sum ≤ 8) (hdg : decode cc g.pc = .ok (.invokespecial index, 3)) (hf : cells + mc ≤ R.cells ∧ slots + ms ≤ R.slots) :
    xRun p l e R s m args below meth c H locs cells slots mc ms g rest (Qc (Value.ref b :: As).toArray) free := by
  obtain ⟨⟨⟨hrc, hrs, hfr, hlo, hws, hcw⟩, hcode, hini, hy, hlen, hl⟩, hy1, hinst⟩ := cw
  obtain ⟨hx, hb, hml, hown, -⟩ := S
  obtain ⟨hbl, hPc⟩ := hp
  intro T hT X
  subst hg
  have hpl : e.platform.magicAccessors = ({} : Platform).magicAccessors := by rw [X.admits.platform]
  obtain ⟨mk, methM, cM, kP, vm₁, hnamed, hmethM, hcodeM, -, hlocalsM, -, hkP, -, hW₁, hstep₁⟩ := Steps.initColdArgsNest (e := e) X.here hx X.warmed hpl hown hy1 hy hl hinst hcode (f := g) rfl (fun sig h => hn.trans (hlen sig h)) hstack (by rw [hb]; exact hdg)
  have X₁ := X.noted hW₁
  obtain ⟨o, st₀, t, T', L, h0, h1, h2, h3, h4, h5, h6, h7⟩ := x_core (len := 3) (Wd := 8) (bytes := bytes) (maxL := maxL) (ret := none) (g := { g with stack := rest }) (ig := .invokespecial index) (mk := mk) (a := (Value.ref b :: As).toArray) hM hbl hrc hrs hfr hlo hws hcw (fun a' U hW => x_ini hW hini) X₁ rfl (hsize.trans hml.symm) (by rw [hb]; exact hdg) hW (X₁.named hnamed) hf.1 hf.2 (hPc _ hT X₁.warmed)
  exact ⟨o, st₀, t, T', L, h0.trans hT, h1, h2, h3, h4, h5, fun v hv tg h => hstep₁ _ fun acts => by rw [doInvoke_state]; exact (h6 v hv).trans h, fun x hx tg h => hstep₁ _ fun acts => by rw [doInvoke_state]; exact (h7 x hx).trans h⟩
theorem n_go {a : Array Value} (hr : xRun p l e R s m args below meth c H locs cells slots mc ms g rest (nQ D (h + L.length) X a) (nA (h + L.length))) (hP : nP D h (L ++ [e0]) H) (hS : va_S (nA h) H0 H locs)
    (kk : ∀ (H1 : Heap) (locs1 : List Loc), nP D h (L ++ X) H1 → va_S (nA h) H0 H1 locs1 → W p l e R s m args below meth c H1 locs1 (cells + mc) (slots + ms) Q { g with pc := g.pc + 3, stack := rest }) : W p l e R s m args below meth c H locs cells slots Q g := by
  intro T hT X0
  obtain ⟨o, st₀, t, T', L1, h0, h1, h2, ⟨⟨rfl, hQ⟩, hz, hk⟩, h4, X', h5, -⟩ := hr T hT X0
  rw [h0] at hz hk
  obtain ⟨tg, a1, b1⟩ := kk T'.heap (locs ++ L1) (by rw [h1]; exact hP.call hk hQ) (hS.callX (by rw [h1]; exact hz) (fun q q1 q2 => by rw [h1]; exact hk q q1 (fun z => q2 (Nat.le_trans (Nat.le_add_right h L.length) z))) (fun q hq => Nat.le_trans (Nat.le_add_right h L.length) (h4 q hq))) T' rfl X'
  exact ⟨tg, h5 none rfl tg a1, b1⟩
theorem g_callN {ret : Option FieldType} (hg : ∀ w ∈ GG, w.before args s = true) (h1 : Cond.methodLinkNest own index y host ∈ GG) (h3 : Cond.initialized y.cls ∈ GG) (h4 : Cond.code y bytes maxL ret ∈ GG) (hrm : rm.cells = mc ∧ rm.slots = ms)
    (hd : y.cls ≠ "java/lang/invoke/MethodHandle" ∧ y.cls ≠ "java/lang/invoke/VarHandle" ∧ (parseMethodDescriptor y.desc).map (fun d => d.parameters.length) = some n) (hR : rm.frames + 1 ≤ R.frames ∧ 8 + (maxL + 11) + rm.locals ≤ R.locals) :
    va_CN R s args own index y host bytes maxL ret (Cond.code y bytes maxL ret :: GG) rm mc ms n := by
  refine ⟨⟨hrm.1, hrm.2, hR.1, hR.2, fun w hw a' U hW => ?_, List.mem_cons_self⟩, hg _ h4, hg _ h3, ⟨hd.1, hd.2.1⟩, fun sig h => ?_, hg _ h1⟩
  · rcases List.mem_cons.mp hw with h | h
    · subst h; exact GG_warm h4 hW (hg _ h4)
    · exact GG_warm h hW (hg _ h)
  · have h2 := hd.2.2
    rw [h] at h2
    exact (Option.some.inj h2).symm
/-- a constructor's call: its object is the last cell -/
theorem n_call (hx : p.tables.exec = Jvm.exec) (hb : c.code = cc) (hml : c.maxLocals = nL) (hown : s.vm.findClass own = some m.cls) (hg : ∀ w ∈ GG, w.before args s = true) (hl : lv_has ls nL lv) (hK : K0 D cs s) (hAO : nAO s) (hP : nP D h (L ++ [e0]) H) (hS : va_S (nA h) H0 H locs) (hM : CT l y (Cond.code y bytes maxL none :: GG) rm D cs (h + L.length) e0 X mc ms)
    (h1 : Cond.methodLink own index y ∈ GG) (hyn : y.name = "<init>") (h2 : Cond.instanceMethod y ∈ GG) (h3 : Cond.initialized y.cls ∈ GG) (h4 : Cond.code y bytes maxL none ∈ GG) (hrm : rm.cells = mc ∧ rm.slots = ms)
    (hd : y.cls ≠ "java/lang/invoke/MethodHandle" ∧ y.cls ≠ "java/lang/invoke/VarHandle" ∧ (parseMethodDescriptor y.desc).map (fun d => d.parameters.length) = some 0) (hR : rm.frames + 1 ≤ R.frames ∧ 8 + (maxL + 11) + rm.locals ≤ R.locals)
    (hst : st = .ref (h + L.length) :: rest) (hW : (rest.map fun v => v.category).sum ≤ 8) (hdg : decode cc pc = .ok (.invokespecial index, 3)) (hcs : cells + mc ≤ R.cells ∧ slots + ms ≤ R.slots)
    (kk : ∀ (H1 : Heap) (locs1 : List Loc), nP D h (L ++ X) H1 → va_S (nA h) H0 H1 locs1 → W p l e R s m args below meth c H1 locs1 (cells + mc) (slots + ms) Q (F0 m (pc + 3) ls rest)) : W p l e R s m args below meth c H locs cells slots Q (F0 m pc ls st) :=
  n_go (x_runI (Ts := GG) (b := h + L.length) (As := []) (rest := rest) (g := F0 m pc ls st) ⟨hx, hb, hml, hown, hg⟩ hM ⟨g_callB hg h1 h3 h4 hrm hd hR, hyn, hg _ h2⟩ ⟨nPre_blind D cs _ _, fun U hU hW => ⟨rfl, va_K.moved hW.alike hK, hAO.moved hW.alike, by rw [hU]; exact hP.last⟩⟩ rfl rfl hl.1 hst (lv_room hW) hdg hcs) hP hS kk
theorem n_callN (hx : p.tables.exec = Jvm.exec) (hb : c.code = cc) (hml : c.maxLocals = nL) (hown : s.vm.findClass own = some m.cls) (hg : ∀ w ∈ GG, w.before args s = true) (hl : lv_has ls nL lv) (hK : K0 D cs s) (hAO : nAO s) (hP : nP D h (L ++ [e0]) H) (hS : va_S (nA h) H0 H locs) (hM : CT l y (Cond.code y bytes maxL none :: GG) rm D cs (h + L.length) e0 X mc ms)
    (h1 : Cond.methodLinkNest own index y host ∈ GG) (hyn : y.name = "<init>") (h2 : Cond.instanceMethod y ∈ GG) (h3 : Cond.initialized y.cls ∈ GG) (h4 : Cond.code y bytes maxL none ∈ GG) (hrm : rm.cells = mc ∧ rm.slots = ms)
    (hd : y.cls ≠ "java/lang/invoke/MethodHandle" ∧ y.cls ≠ "java/lang/invoke/VarHandle" ∧ (parseMethodDescriptor y.desc).map (fun d => d.parameters.length) = some 0) (hR : rm.frames + 1 ≤ R.frames ∧ 8 + (maxL + 11) + rm.locals ≤ R.locals)
    (hst : st = .ref (h + L.length) :: rest) (hW : (rest.map fun v => v.category).sum ≤ 8) (hdg : decode cc pc = .ok (.invokespecial index, 3)) (hcs : cells + mc ≤ R.cells ∧ slots + ms ≤ R.slots)
    (kk : ∀ (H1 : Heap) (locs1 : List Loc), nP D h (L ++ X) H1 → va_S (nA h) H0 H1 locs1 → W p l e R s m args below meth c H1 locs1 (cells + mc) (slots + ms) Q (F0 m (pc + 3) ls rest)) : W p l e R s m args below meth c H locs cells slots Q (F0 m pc ls st) :=
  n_go (x_runIN (Ts := GG) (b := h + L.length) (As := []) (rest := rest) (g := F0 m pc ls st) ⟨hx, hb, hml, hown, hg⟩ hM ⟨g_callN hg h1 h3 h4 hrm hd hR, hyn, hg _ h2⟩ ⟨nPre_blind D cs _ _, fun U hU hW => ⟨rfl, va_K.moved hW.alike hK, hAO.moved hW.alike, by rw [hU]; exact hP.last⟩⟩ rfl rfl hl.1 hst (lv_room hW) hdg hcs) hP hS kk
end MKC
end MK
