/-! throwing: a stand taken anew at the state reached; Throwable's statics; a new exception with a text -/
def sR (s T : State) : State := { s with vm := T.vm, heap := T.heap, slotsUsed := T.slotsUsed }
section TR
variable {p : Program} {l : Launch} {e : Env} {R : Room} {s : State} {m : MethodId} {args : Array Value} {below : List Frame} {meth : Method} {c : Code} {T : State} {locs : List Loc}
theorem sR_same (X : Stand p l e R s m args below meth c T locs 0 0) : T = { (sR s T).setFrames T.frames with heap := T.heap, slotsUsed := T.slotsUsed } := by
  have h := X.same.1
  have h2 : T = (T.setVm s.vm).setVm T.vm := rfl
  rw [h] at h2
  exact h2
theorem sR_size (X : Stand p l e R s m args below meth c T locs 0 0) : T.heap.size = s.heap.size := Nat.le_antisymm (by have := X.heapSize; omega) X.same.2.1
theorem sR_used (X : Stand p l e R s m args below meth c T locs 0 0) : T.slotsUsed = s.slotsUsed := by
  have h1 := X.used
  have h2 : T.slotsUsed = s.slotsUsed + _ := X.same.2.2.2.1
  omega
theorem Stand_re (X : Stand p l e R s m args below meth c T locs 0 0) : Stand p l e R (sR s T) m args below meth c T [] 0 0 := by
  have hal : ∀ m', T.vm.method? m' = s.vm.method? m' := fun m' => X.warmed.alike.method? m'
  have hli : (sR s T).localsInUse = s.localsInUse := by
    unfold State.localsInUse
    rw [show (sR s T).frames = s.frames from rfl, X.frames]
    show _ + ((((T.vm.method? m).bind (·.code)).map (·.maxLocals)).getD 0 + 11) = _
    rw [hal m]
  refine ⟨X.admits, X.cas, X.clock, X.frames, ?_, ?_, (hal m).trans X.method, X.code, X.here, X.tail, State.WarmedH.refl (sR s T), X.limits, X.bytes, ?_⟩
  · have h := X.room
    have hb := X.book
    simp only [State.hasRoom, Bool.and_eq_true, decide_eq_true_eq] at h ⊢
    rw [hli]
    refine ⟨⟨⟨⟨h.1.1.1.1, h.1.1.1.2⟩, ?_⟩, ?_⟩, hb⟩
    · show T.heap.size + _ ≤ _
      rw [sR_size X]; exact h.1.1.2
    · show T.slotsUsed + _ ≤ _
      rw [sR_used X]; exact h.1.2
  · have h := X.hears
    unfold State.hears at h ⊢
    cases below with
    | nil => simp only [show (sR s T).vm.method? m = s.vm.method? m from hal m]; exact h
    | cons b r =>
      cases b with
      | java g =>
        simp only [State.code?_eq] at h ⊢
        rw [show (sR s T).vm.method? g.method = s.vm.method? g.method from hal g.method]
        exact h
      | native _ => rfl
      | proc _ => rfl
      | _ => simp only [show (sR s T).vm.method? m = s.vm.method? m from hal m]; exact h
  · have e1 := sR_same X
    have e2 : ((T.heap.toList.drop T.heap.size).map (·.slots.size)).sum = 0 := by
      rw [List.drop_eq_nil_of_le (by simp)]; rfl
    refine ⟨e1, Nat.le_refl _, Nat.le_refl _, ?_, ?_, fun a c hc => ⟨c, hc, rfl, rfl, fun _ _ => rfl⟩⟩
    · show T.slotsUsed = T.slotsUsed + ((T.heap.toList.drop T.heap.size).map (·.slots.size)).sum
      rw [e2]; rfl
    · show ((T.heap.toList.drop T.heap.size).map (·.slots.size)).sum ≤ 0
      rw [e2]; exact Nat.le_refl _
theorem sR_join (X : Stand p l e R s m args below meth c T locs 0 0) {U : State} {k n : Nat} (h : (sR s T).sameButNew ({ U with vm := (sR s T).vm } : State) [] k n) : s.sameButNew ({ U with vm := s.vm } : State) locs k n := by
  have h1 : s.sameButNew ((T.setVm s.vm).setFrames s.frames) locs 0 0 := X.same.setFrames s.frames X.cur
  have e1 : (T.setVm s.vm).setFrames s.frames = (sR s T).setVm s.vm := by
    have := X.same.1
    rw [this, show ({ s.setFrames (T.setVm s.vm).frames with heap := (T.setVm s.vm).heap, slotsUsed := (T.setVm s.vm).slotsUsed } : State).setFrames s.frames = ({ (s.setFrames (T.setVm s.vm).frames).setFrames s.frames with heap := T.heap, slotsUsed := T.slotsUsed } : State) from rfl, State.setFrames_setFrames]
    obtain ⟨th, hth, -⟩ := State.frames_cons X.frames
    rw [State.setFrames_self hth]
    rfl
  rw [e1] at h1
  have h2 := h1.trans (h.setVm s.vm)
  simp only [List.append_nil, Nat.zero_add] at h2
  exact h2
end TR
def th2 (O f d : String) (U : State) : Prop := (Cond.laysStatic O f d).before #[] U = true ∧ (Cond.isRef (.static O f d)).before #[] U = true
theorem th2_spec {O f d : String} {U : State} (h : th2 O f d U) : ∃ c k i fd a cell v, U.vm.findClass O = some c ∧ U.fieldFound? O f d = some (c, k, i, fd) ∧ fd.isStatic = true ∧ k.statics = some a ∧ U.heap[a]? = some cell ∧ cell.vm.isStatics = true ∧ cell.cls = c ∧ fd.slot < cell.slots.size ∧ k.staticTypes[fd.slot]? = some fd.type ∧ cell.slots[fd.slot]? = some v ∧ v.isRef = true := by
  obtain ⟨c, k, i, fd, a, cell, hc, hf, hst, hsta, hcell, hiss, hcls, hlt, hty⟩ := Cond.laysStatic_spec h.1
  have hv : cell.slots[fd.slot]? = some cell.slots[fd.slot] := Array.getElem?_eq_getElem hlt
  have he : (Term.static O f d).eval #[] U none [] U = some cell.slots[fd.slot] := Term.static_eval hf hst hsta hcell hiss hv
  have h2 := h.2
  simp only [Cond.before, Cond.holds, Cond.value, he] at h2
  refine ⟨c, k, i, fd, a, cell, _, hc, hf, hst, hsta, hcell, hiss, hcls, hlt, hty, hv, ?_⟩
  cases hvv : cell.slots[fd.slot] <;> rw [hvv] at h2 <;> first | rfl | (simp at h2)
theorem th2_at {O f d : String} {U : State} (h : th2 O f d U) (a' : Array Value) : (Cond.laysStatic O f d).before a' U = true ∧ (Cond.isRef (.static O f d)).before a' U = true := by
  obtain ⟨c, k, i, fd, a, cell, v, hc, hf, hst, hsta, hcell, hiss, hcls, hlt, hty, hv, hr⟩ := th2_spec h
  refine ⟨Cond.laysStatic_of hc hf hst hsta hcell hiss hcls hlt hty, ?_⟩
  have he : (Term.static O f d).eval a' U none [] U = some v := Term.static_eval hf hst hsta hcell hiss hv
  simp only [Cond.before, Cond.holds, Cond.value, he]
  cases v <;> first | rfl | (simp [Value.isRef] at hr)
/-- what stays: the tables alike, the statics' cells as they were -/
theorem th2_tr {O f d : String} {U V : State} (h : th2 O f d U) (hW : U.vm.Alike V.vm) (hh : ∀ (q : Nat) (cell : Cell), U.heap[q]? = some cell → cell.vm.isStatics = true → V.heap[q]? = some cell) : th2 O f d V := by
  obtain ⟨c, k, i, fd, a, cell, v, hc, hf, hst, hsta, hcell, hiss, hcls, hlt, hty, hv, hr⟩ := th2_spec h
  obtain ⟨k', hi', hek⟩ := State.fieldFound?_setVm hW hf
  have hi2 : V.fieldFound? O f d = some (c, k', i, fd) := hi'
  have hcell' := hh a cell hcell hiss
  have hsta' : k'.statics = some a := by rw [hek]; exact hsta
  have hty' : k'.staticTypes[fd.slot]? = some fd.type := by rw [hek]; exact hty
  have hc' : V.vm.findClass O = some c := by rw [hW.findClass]; exact hc
  refine ⟨Cond.laysStatic_of hc' hi2 hst hsta' hcell' hiss hcls hlt hty', ?_⟩
  have he : (Term.static O f d).eval #[] V none [] V = some v := Term.static_eval hi2 hst hsta' hcell' hiss hv
  simp only [Cond.before, Cond.holds, Cond.value, he]
  cases v <;> first | rfl | (simp [Value.isRef] at hr)
def th (U : State) : Prop := th2 Bundle.tN "UNASSIGNED_STACK" Bundle.steD U ∧ th2 Bundle.tN "SUPPRESSED_SENTINEL" Bundle.listD U
theorem th.tr {U V : State} (h : th U) (hW : U.vm.Alike V.vm) (hh : ∀ (q : Nat) (cell : Cell), U.heap[q]? = some cell → cell.vm.isStatics = true → V.heap[q]? = some cell) : th V := ⟨th2_tr h.1 hW hh, th2_tr h.2 hW hh⟩
theorem str_of {own tx : String} {k : Nat} {A : Array Value} {U : State} (h : (Cond.stringRef own k tx).before A U = true) : ∃ q, vk_R own k tx q U := by
  have h1 : (Cond.stringRef own k tx).before #[] U = true := h
  simp only [Cond.before, Cond.holds, Cond.value] at h
  cases hc : U.vm.findClass own with
  | none => simp [hc] at h
  | some cc =>
    simp only [hc, Option.map_some] at h
    cases hr : U.resolvedAt? own k with
    | none => simp [hr] at h
    | some r =>
      cases r with
      | string q =>
        refine ⟨q, h1, ?_⟩
        unfold State.resolvedAt? at hr
        simp only [hc, Option.bind_eq_bind, Option.bind_some] at hr
        simp only [Term.eval, hc, Option.bind_eq_bind, Option.bind_some]
        cases hk : U.vm.classes[cc]? with
        | none => simp [hk] at hr
        | some kk =>
          simp only [hk, Option.bind_some] at hr ⊢
          rw [hr]
          rfl
      | _ => simp [hr] at h

/-- the room of a throwing method -/
abbrev rmt : Nat → Room
  | 0 => { frames := 6, cells := 1, slots := 6, locals := 120 }
  | 7 => { frames := 8, cells := 1, slots := 6, locals := 373 }
  | _ => { frames := 7, cells := 1, slots := 6, locals := 346 }
section TX
variable {p : Program} {l : Launch} {e : Env} {R : Room} {s : State} {m : MethodId} {args : Array Value} {below : List Frame} {meth : Method} {c : Code} {H : Heap} {locs : List Loc} {cc : ByteArray} {pc : Nat} {ls : Array Slot}
/-- throw new C("..") in a method without handlers: everything that was stays, and a cell of C is new -/
theorem x_thr {Qc : Array Value → State → Outcome → State → Prop} {free : Addr → Prop} {own cls tx : String} {names : List String} {ic kn ks nL : Nat} (hx : p.tables.exec = Jvm.exec) (hb : c.code = cc) (hml : c.maxLocals = nL) (hlf : l.flags = pinnedFlags ++ [noTraceFlag]) (hsz : ls.size = nL) (hk : meth.locks = false) (hnx : c.exceptionTable.toList = []) (hown : s.vm.findClass own = some m.cls)
    (hg : ∀ w ∈ GG, w.before args s = true) (hth : ∀ V : State, V.heap = H → s.WarmedH V.vm → th V) (hoa : ∀ V : State, (∀ w ∈ GG, w.before args V = true) → th V → ∀ a ∈ Bundle.ownAtoms own ic cls names, a.before args V = true) (hfit : Bundle.fit cls = true) (hnames : ∀ n ∈ names, Bundle.fit n = true)
    (w1 : Cond.classLink own kn cls ∈ GG) (w2 : Cond.instantiable cls 6 ∈ GG) (w3 : Cond.initialized cls ∈ GG) (w4 : Cond.stringRef own ks tx ∈ GG)
    (hd1 : decode cc pc = .ok (.new kn, 3)) (hd2 : decode cc (pc + 3) = .ok (.dup, 1)) (hd3 : decode cc (pc + 3 + 1) = .ok (.ldc ks, 2)) (hd4 : decode cc (pc + 3 + 1 + 2) = .ok (.invokespecial ic, 3)) (hd5 : decode cc (pc + 3 + 1 + 2 + 3) = .ok (.athrow, 1))
    (hR : names.length + 3 < R.frames ∧ 2 + (13 * (names.length + 1) + 42) ≤ R.locals ∧ 1 ≤ R.cells ∧ 6 ≤ R.slots) (hfr : ∀ q ∈ locs, free q.base)
    (hq : ∀ t : State, s.WarmedH t.vm → H.size ≤ t.heap.size → (∀ q, q < H.size → t.heap[q]? = H[q]?) → (∃ ce, t.heap[H.size]? = some ce ∧ ce.vm = .none ∧ s.vm.findClass cls = some ce.cls) → Qc args s (.threw H.size) t) :
    W p l e R s m args below meth c H locs 0 0 (XQ below Qc args s 1 6 free) (F0 m pc ls []) := by
  intro T hT X
  have X' := Stand_re X
  have hg' : ∀ w ∈ GG, w.before args (sR s T) = true := fun w hw => GG_warm hw X.warmed (hg w hw)
  have hth' : th (sR s T) := hth _ hT X.warmed
  have hown' : (sR s T).vm.findClass own = some m.cls := by
    show T.vm.findClass own = _
    rw [X.warmed.alike.findClass]; exact hown
  obtain ⟨msg, hZ⟩ := str_of (hg' _ w4)
  have htr : e.platform.stackTraces = false := Launch.traces_off hlf X.admits
  obtain ⟨cC, hcC⟩ : ∃ cC, (sR s T).vm.findClass cls = some cC := by
    obtain ⟨c1, kX, hc1, -⟩ := Cond.instantiable_spec (hg' _ w2)
    exact ⟨c1, hc1⟩
  have key : W p l e R (sR s T) m args below meth c H [] 0 0 (fun U => U.status = .running ∧ Ended U below (.threw H.size) ∧ (sR s T).WarmedH U.vm ∧ (sR s T).sameButNew ({ U with vm := (sR s T).vm } : State) [] 1 6 ∧ ∃ ce, U.heap[H.size]? = some ce ∧ ce.vm = .none ∧ (sR s T).vm.findClass cls = some ce.cls) (F0 m pc ls []) := by
    refine W.newcK hx hb hown' (hg' _ w1) (hg' _ w2) (hg' _ w3) rfl hd1 (by omega) (by omega) hcC rfl (fun H1 kC hkC e1 z1 o1 => ?_)
    refine lv_dup hx hb hd2 rfl ?_
    refine va_ldcS hx hb hown' hZ hd3 ?_
    intro T2 hT2 X2
    obtain ⟨U, u1, u2, u3, u4, u5, ce, u6, u7⟩ := X2.ctorThrowS hx htr hown' hfit hnames (hoa _ hg' hth') (fun x hx => by cases hx) (a := H.size) hcC hkC (by rw [hT2]; exact e1) (by show T.heap.size ≤ _; rw [hT]; exact Nat.le_refl _) (msg := .ref msg) rfl (g := F0 m (pc + 3 + 1 + 2) ls [.ref msg, .ref H.size, .ref H.size]) rfl (hsz.trans hml.symm) rfl rfl (rest := []) rfl (by rw [hb]; exact hd4) (by rw [hb]; exact hd5) (by rw [hnx]; intro x hx; cases hx) hR.1 (by show 2 * 0 + (1 + 0) + _ ≤ _; omega) hk
    exact ⟨U, u1, u2, u3, u4, u5, ce, u6, u7.vm, u7.cls⟩
  obtain ⟨t, t1, t2, t3, t4, t5, ce, t6, t7, t8⟩ := key T hT X'
  have hW : s.WarmedH t.vm := State.WarmedH.trans X.warmed t4
  have hcells : ∀ q, q < H.size → t.heap[q]? = H[q]? := fun q hq => by
    obtain ⟨a1, a2, a3, a4, a5, a6⟩ := t5
    have hlt : q < (sR s T).heap.size := by show q < T.heap.size; rw [hT]; exact hq
    obtain ⟨c', b1, b2, b3, b4⟩ := a6 q _ (Array.getElem?_eq_getElem hlt)
    have b1' : t.heap[q]? = some c' := b1
    have e9 : c' = (sR s T).heap[q] := by
      rw [b2]
      have : c'.slots = (sR s T).heap[q].slots := Array.ext b3 (fun i h1 h2 => by
        have := b4 i (by simp)
        rw [Array.getElem?_eq_getElem h1, Array.getElem?_eq_getElem h2] at this
        exact Option.some.inj this)
      rw [this]
    rw [b1', e9]
    rw [← hT]
    exact (Array.getElem?_eq_getElem hlt).symm
  refine ⟨t, t1, .threw H.size, t2, t3, hq t hW ?_ hcells ⟨ce, t6, t7, ?_⟩, locs, ⟨hW, sR_join X t5⟩, hfr⟩
  · have := t5.2.1
    show H.size ≤ _
    rw [← hT]
    exact this
  · rw [← X.warmed.alike.findClass]; exact t8
end TX
