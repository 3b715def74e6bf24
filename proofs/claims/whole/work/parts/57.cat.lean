/-! methods with handlers: their contract, catching, calls of methods that may throw -/
theorem nc_tr {C T : String} {u U : State} (hW : u.vm.Alike U.vm) (h : va_Nc C T u) : va_Nc C T U := by
  obtain ⟨c, t, h1, h2, h3⟩ := h
  exact ⟨c, t, by rw [hW.findClass]; exact h1, by rw [hW.findClass]; exact h2, by rw [hW.assignable]; exact h3⟩
def ncs (U : State) : Prop := va_Nc "java/lang/IndexOutOfBoundsException" "java/lang/IllegalArgumentException" U ∧ va_Nc "java/lang/IllegalArgumentException" "java/lang/ArithmeticException" U ∧ va_Nc "java/lang/ArithmeticException" "java/lang/IllegalArgumentException" U
theorem ncs.tr {u U : State} (hW : u.vm.Alike U.vm) (h : ncs u) : ncs U := ⟨nc_tr hW h.1, nc_tr hW h.2.1, nc_tr hW h.2.2⟩
def mPreL (E : En) (M : Me) (av : List Value) : Array Value → State → Prop := fun v U => v = av.toArray ∧ wK E U ∧ wP E M U.heap ∧ th U ∧ ncs U
theorem mPreL_blind (E : En) (M : Me) (av : List Value) : FrameBlind (mPreL E M av) := fun a U g mk h => ⟨h.1, va_K.moved (u := U) (U := U.calling g mk a) (Vm.Alike.refl U.vm) h.2.1, h.2.2.1, h.2.2.2.1.tr (Vm.Alike.refl U.vm) (fun _ _ h _ => h), h.2.2.2.2.tr (Vm.Alike.refl U.vm)⟩
def ML (l : Launch) (y : MethodName) (ws : List Cond) (rm : Room) (E : En) (M : Me) (av : List Value) (P : Option Value → Me → Prop) : Prop := MetX l y ws rm (mPreL E M av) (mmQ E P) 1 6 (wA E)
section CT
variable {p : Program} {l : Launch} {e : Env} {R : Room} {s : State} {m : MethodId} {args : Array Value} {below : List Frame} {meth : Method} {c : Code} {H : Heap} {locs : List Loc} {cells slots : Nat} {Q : State → Prop} {E : En} {M : Me} {H0 : Heap}
theorem MetX.ofWH {y : MethodName} {ws ws' : List Cond} {rm : Room} {Pc : Array Value → State → Prop} {Qc : Array Value → State → Outcome → State → Prop} {mc ms : Nat} {free : Addr → Prop} {cc : ByteArray} {maxL : Nat} {ret : Option FieldType} {hh : List (Nat × Nat × Nat × Nat)}
    (hy : plainFor y = true) (hw : ws = Cond.codeWith y cc maxL ret hh :: ws')
    (body : ∀ p e s m args below meth c s₁, BodyLoose p l y (headSpec ws rm) cc maxL ret e s m args below meth c s₁ → c.maxLocals = maxL → c.exceptionTable.toList = hh.map (fun x => ⟨x.1, x.2.1, x.2.2.1, x.2.2.2⟩) → l.admits e → Pc args s →
      W p l e rm s m args below meth c s.heap [] 0 0 (XQ below Qc args s mc ms free) (entryFrame m args maxL)) : MetX l y ws rm Pc Qc mc ms free := by
  have hmem : Cond.codeWith y cc maxL ret hh ∈ ws := by rw [hw]; exact List.mem_cons_self
  refine MetFree.of_bodySF (code := cc) (maxLocals := maxL) (ret := ret) hy ?_ ?_
  · intro args s m h hn
    obtain ⟨m9, meth, c, hn9, h1, h2, h3, h4, -, h5, h6, -⟩ := Cond.codeWith_spec (atoms_spec (ws := ws) h _ hmem)
    cases hn.symm.trans hn9
    exact ⟨meth, c, h1, h2, h3, h4, h5, h6⟩
  · intro p e s m args below meth c s₁ B hml hP _
    have X := Stand.of_body B
    have hh0 : s₁.heap = s.heap := by rw [B.state]; rfl
    have hnx : c.exceptionTable.toList = hh.map (fun x => (⟨x.1, x.2.1, x.2.2.1, x.2.2.2⟩ : ExceptionTableEntry)) := by
      obtain ⟨m9, meth', c', hn9, hm', hc', -, -, htab, -, -, -⟩ := Cond.codeWith_spec (atoms_spec (ws := ws) B.pre _ hmem)
      cases B.named.symm.trans hn9
      cases X.method.symm.trans hm'
      cases X.code.symm.trans hc'
      rw [← htab, List.map_map]
      exact (List.map_id c.exceptionTable.toList).symm
    obtain ⟨t, a1, o, b1, b2, b3, b4⟩ := body p e s m args below meth c s₁ B hml hnx X.admits hP s₁ hh0 X
    exact ⟨t, o, a1, b1, b2, b3, b4⟩
theorem ML.ofG {y : MethodName} {rm : Room} {av : List Value} {P : Option Value → Me → Prop} {cc : ByteArray} {maxL : Nat} {ret : Option FieldType} {hh : List (Nat × Nat × Nat × Nat)}
    (hy : plainFor y = true) (hL : (lg_sl av).length ≤ maxL)
    (body : ∀ p e s m args below meth c, p.tables.exec = Jvm.exec → c.code = cc → c.maxLocals = maxL → meth.sig.returnType = ret → meth.locks = false → (∀ w ∈ GG, w.before args s = true) → s.vm.findClass y.cls = some m.cls → wK E s → wP E M s.heap → va_S (wA E) s.heap s.heap [] → th s → ncs s → c.exceptionTable.toList = hh.map (fun x => (⟨x.1, x.2.1, x.2.2.1, x.2.2.2⟩ : ExceptionTableEntry)) →
      ∀ ls, lv_has ls maxL (lv_args 0 av) → W p l e rm s m args below meth c s.heap [] 0 0 (XQ below (mmQ E P) args s 1 6 (wA E)) (F0 m 0 ls [])) : ML l y (Cond.codeWith y cc maxL ret hh :: GG) rm E M av P := by
  refine MetX.ofWH (cc := cc) (maxL := maxL) (ret := ret) (hh := hh) hy rfl ?_
  intro p e s m args below meth c s₁ B hml hnx ha hP
  obtain ⟨rfl, hK, hP, hth, hnc⟩ := hP
  rw [lg_entry_eq]
  exact body p e s m _ below meth c B.exec B.bytes hml B.returns B.notSynchronized (fun w h => atoms_spec (ws := Cond.codeWith y cc maxL ret hh :: GG) B.pre w (List.mem_cons_of_mem _ h)) (findClass_of_methodNamed B.named) hK hP va_S.rf hth hnc hnx _ (lv_entry av hL)
/-- the exception is caught by a row of this method's own -/
theorem WN.catch {own C : String} {q : Addr} {pc : Nat} {ls : Array Slot} {rest : List Value} (hown : s.vm.findClass own = some m.cls) (hg : ∀ w ∈ GG, w.before args s = true) (pre : List ExceptionTableEntry) (x : ExceptionTableEntry) (suf : List ExceptionTableEntry) (hsplit : c.exceptionTable.toList = pre ++ x :: suf)
    (hpass : ∀ z ∈ pre, z.catchType ≠ 0 ∧ ∃ nm : String, Cond.classLink own z.catchType nm ∈ GG ∧ va_Nc C nm s) (hx : covers x pc = true) (h0 : x.catchType ≠ 0)
    (hlink : Cond.classLink own x.catchType C ∈ GG) (hex : ∃ ce, H[q]? = some ce ∧ ce.vm = .none ∧ s.vm.findClass C = some ce.cls)
    (kk : W p l e R s m args below meth c H locs cells slots Q (F0 m x.handlerPc ls [.ref q])) : WN p l e R s m args below meth c H locs cells slots Q q (F0 m pc ls rest) := by
  obtain ⟨ce, hcell, hv, hcl⟩ := hex
  intro T hT X
  have hpl : e.platform.magicAccessors = ({} : Platform).magicAccessors := by rw [X.admits.platform]
  obtain ⟨c5, hc5, hcl5⟩ := Cond.classLink_spec hown (hg _ hlink) e.platform hpl
  cases Option.some.inj (hcl.symm.trans hc5)
  obtain ⟨vm', X', st⟩ := X.thenCaughtThrough q (g := F0 m pc ls rest) rfl (Steps.refl _) (by rw [hT]; exact hcell) (by rw [hv]; rfl) (by obtain ⟨k9, h9, -⟩ := Vm.findClass_spec hcl; exact ⟨k9, h9⟩) pre x suf hsplit
    (fun z hz => by
      obtain ⟨hz0, nm, hl1, hn1⟩ := hpass z hz
      obtain ⟨c6, hc6, hcl6⟩ := Cond.classLink_spec hown (hg _ hl1) e.platform hpl
      obtain ⟨a8, b8, h1, h2, h3⟩ := hn1
      cases Option.some.inj (h1.symm.trans hcl)
      cases Option.some.inj (h2.symm.trans hc6)
      exact Or.inr ⟨hz0, _, hcl6, h3⟩) hx (Or.inr ⟨h0, ce.cls, hcl5, va_asg _ _⟩)
  obtain ⟨t, a1, b1⟩ := kk (T.setVm vm') hT X'
  exact ⟨t, st.trans a1, b1⟩
section CTC
variable {y : MethodName} {bytes cc : ByteArray} {maxL nL index pc n : Nat} {ret : Option FieldType} {rm : Room} {own : String} {As rest st : List Value} {ls : Array Slot} {P : Option Value → Me → Prop} {X : String → Me → Prop} {lv : List (Nat × Value)}
theorem mt_V {M0 : Me} {k ci : Nat} {fs : List Value} {q : vw_C} (hx : p.tables.exec = Jvm.exec) (hb : c.code = cc) (hml : c.maxLocals = nL) (hown : s.vm.findClass own = some m.cls) (hg : ∀ w ∈ GG, w.before args s = true) (hl : lv_has ls nL lv) (hK : wK E s) (hth : th s) (hP0 : wP E M0 s.heap) (hP : wP E M H) (hS : va_S (wA E) s.heap H locs) (hk : k < 36) (hs : shp E k (M k) = .inr (ci, fs)) (hc : cl5[ci]? = some q) (hM : MT l y (Cond.code y bytes maxL ret :: GG) rm E M (.ref (E.2.1 k) :: As) P X)
    (h1 : Cond.methodLink own index y ∈ GG) (h2 : Cond.instanceMethod y ∈ GG) (h5 : Cond.selects q.1 y y ∈ GG) (h3 : Cond.initialized y.cls ∈ GG) (h4 : Cond.code y bytes maxL ret ∈ GG) (hrm : rm.cells = 1 ∧ rm.slots = 6)
    (hd : y.cls ≠ "java/lang/invoke/MethodHandle" ∧ y.cls ≠ "java/lang/invoke/VarHandle" ∧ (parseMethodDescriptor y.desc).map (fun d => d.parameters.length) = some n) (hn : As.length = n) (hR : rm.frames + 1 ≤ R.frames ∧ 8 + (maxL + 11) + rm.locals ≤ R.locals)
    (hst : st = As.reverse ++ .ref (E.2.1 k) :: rest) (hW : (rest.map fun v => v.category).sum ≤ 8) (hdg : decode cc pc = .ok (.invokevirtual index, 3)) (hcs : cells + 1 ≤ R.cells ∧ slots + 6 ≤ R.slots)
    (kk : ∀ v M' H1 locs1, P v M' → wP E M' H1 → va_S (wA E) s.heap H1 locs1 → W p l e R s m args below meth c H1 locs1 (cells + 1) (slots + 6) Q (F0 m (pc + 3) ls (v.toList ++ rest)))
    (kx : ∀ x C M' H1 locs1, X C M' → wP E M' H1 → va_S (wA E) s.heap H1 locs1 → (∃ ce, H1[x]? = some ce ∧ ce.vm = .none ∧ s.vm.findClass C = some ce.cls) → WN p l e R s m args below meth c H1 locs1 (cells + 1) (slots + 6) Q x (F0 m pc ls rest)) : W p l e R s m args below meth c H locs cells slots Q (F0 m pc ls st) := by
  have hr := x_runV (e := e) (below := below) (meth := meth) (Ts := GG) (C := q.1) (b := E.2.1 k) (As := As) (rest := rest) (g := F0 m pc ls st) (H := H) (locs := locs) (cells := cells) (slots := slots) ⟨hx, hb, hml, hown, hg⟩ hM ⟨g_callB hg h1 h3 h4 hrm hd hR, hg _ h2, hg _ h5⟩
    ⟨mPreT_blind E M _, va_recv hK hP hc (by rw [wl_at hk, hs]), fun U hU hW => ⟨rfl, va_K.moved hW.alike hK, by rw [hU]; exact hP, th_now hth hP0 hS U hU hW⟩⟩ rfl hn hl.1 hst (lv_room hW) hdg ⟨hcs.1, hcs.2⟩
  intro T hT X0
  obtain ⟨o, st₀, t, T', L, h0, h1, h2, ⟨h3, hz, hk⟩, h4, X', h5, h6⟩ := hr T hT X0
  rw [h0] at hz hk
  have hS' : va_S (wA E) s.heap T'.heap (locs ++ L) := hS.callX (by rw [h1]; exact hz) (fun q q1 q2 => by rw [h1]; exact hk q q1 q2) h4
  rcases h3 with ⟨v, M', rfl, hPv, hW'⟩ | ⟨x, C, M', rfl, hX, hW', ce, g1, g2, g3⟩
  · obtain ⟨tg, a1, b1⟩ := kk v M' T'.heap (locs ++ L) hPv (by rw [h1]; exact hW') hS' T' rfl X'
    exact ⟨tg, h5 _ rfl tg a1, b1⟩
  · obtain ⟨tg, a1, b1⟩ := kx x C M' T'.heap (locs ++ L) hX (by rw [h1]; exact hW') hS' ⟨ce, by rw [h1]; exact g1, g2, by rw [← X'.warmed.alike.findClass, h2]; exact g3⟩ T' rfl X'
    exact ⟨tg, h6 _ rfl tg a1, b1⟩
end CTC
end CT
