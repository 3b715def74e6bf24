/-! methods that touch no cell: answer by a predicate, the heap stays -/
def pmQ (P : Value → Prop) : Array Value → State → Outcome → State → Prop := fun _ st o t => (∃ r, o = .returned (some r) ∧ P r) ∧ t.heap = st.heap
def PM (l : Launch) (y : MethodName) (ws : List Cond) (rm : Room) (av : List Value) (P : Value → Prop) : Prop :=
  MetX l y ws rm (fun a _ => a = av.toArray) (pmQ P) 0 0 (fun _ => False)
section PMS
variable {p : Program} {l : Launch} {e : Env} {R : Room} {s : State} {m : MethodId} {args : Array Value} {below : List Frame} {meth : Method} {c : Code} {H : Heap} {locs : List Loc} {cells slots : Nat} {Q : State → Prop}
theorem PM.ofW {y : MethodName} {ws ws' : List Cond} {rm : Room} {av : List Value} {P : Value → Prop} {cc : ByteArray} {maxL : Nat} {ret : Option FieldType}
    (hy : plainFor y = true) (hw : ws = Cond.code y cc maxL ret :: ws') (hL : (lg_sl av).length ≤ maxL)
    (body : ∀ p e s m args below meth c, p.tables.exec = Jvm.exec → c.code = cc → c.maxLocals = maxL → meth.sig.returnType = ret → meth.locks = false → (∀ w ∈ ws, w.before args s = true) → s.vm.findClass y.cls = some m.cls →
      ∀ ls, lv_has ls maxL (lv_args 0 av) → W p l e rm s m args below meth c s.heap [] 0 0 (XQ below (pmQ P) args s 0 0 (fun _ => False)) (F0 m 0 ls [])) : PM l y ws rm av P := by
  refine MetX.ofW (cc := cc) (maxL := maxL) (ret := ret) hy hw ?_
  intro p e s m args below meth c s₁ B hml hnx ha hP
  subst hP
  rw [lg_entry_eq]
  exact body p e s m _ below meth c B.exec B.bytes hml B.returns B.notSynchronized (atoms_spec (ws := ws) B.pre) (findClass_of_methodNamed B.named) _ (lv_entry av hL)
theorem pm_iret {cc : ByteArray} {P : Value → Prop} {v : Int32} {pc : Nat} {ls : Array Slot} (hx : p.tables.exec = Jvm.exec) (hb : c.code = cc) (hr : meth.sig.returnType = some .int) (hk : meth.locks = false) (hd : decode cc pc = .ok (.ireturn, 1)) (h : P (.int v)) :
    W p l e R s m args below meth c s.heap [] 0 0 (XQ below (pmQ P) args s 0 0 (fun _ => False)) (F0 m pc ls [.int v]) :=
  W.mono (fun _ => XQ.of) (W.iret hx hb hr (fun t ht _ => ⟨⟨_, rfl, h⟩, ht⟩) (fun q h => by cases h) hd hk)
theorem pm_zret {cc : ByteArray} {P : Value → Prop} {v : Int32} {pc : Nat} {ls : Array Slot} (hx : p.tables.exec = Jvm.exec) (hb : c.code = cc) (hr : meth.sig.returnType = some .boolean) (hk : meth.locks = false) (hd : decode cc pc = .ok (.ireturn, 1)) (hv : narrow .boolean (.int v) = .int v) (h : P (.int v)) :
    W p l e R s m args below meth c s.heap [] 0 0 (XQ below (pmQ P) args s 0 0 (fun _ => False)) (F0 m pc ls [.int v]) :=
  W.mono (fun _ => XQ.of) (W.zret hx hb hr hv (fun t ht _ => ⟨⟨_, rfl, h⟩, ht⟩) (fun q h => by cases h) hd hk)
theorem pm_lret {cc : ByteArray} {P : Value → Prop} {v : Int64} {pc : Nat} {ls : Array Slot} (hx : p.tables.exec = Jvm.exec) (hb : c.code = cc) (hr : meth.sig.returnType = some .long) (hk : meth.locks = false) (hd : decode cc pc = .ok (.lreturn, 1)) (h : P (.long v)) :
    W p l e R s m args below meth c s.heap [] 0 0 (XQ below (pmQ P) args s 0 0 (fun _ => False)) (F0 m pc ls [.long v]) :=
  W.mono (fun _ => XQ.of) (W.lret hx hb hr (fun t ht _ => ⟨⟨_, rfl, h⟩, ht⟩) (fun q h => by cases h) hd hk)
/-- a call of such a method -/
theorem pm_go {P : Value → Prop} {g : JFrame} {rest : List Value} {a : Array Value} (hr : xRun p l e R s m args below meth c H locs cells slots 0 0 g rest (pmQ P a) (fun _ => False))
    (k : ∀ r, P r → W p l e R s m args below meth c H locs cells slots Q { g with pc := g.pc + 3, stack := r :: rest }) : W p l e R s m args below meth c H locs cells slots Q g := by
  intro T hT X
  obtain ⟨o, st₀, t, T', L, h0, h1, h2, ⟨⟨r, rfl, hP⟩, h3⟩, h4, X', h5, -⟩ := hr T hT X
  have hL : L = [] := by
    cases L with
    | nil => rfl
    | cons q L => exact absurd (h4 q List.mem_cons_self) (fun h => h)
  subst hL
  rw [List.append_nil] at X'
  obtain ⟨tg, a1, b1⟩ := k r hP T' (h1.trans (h3.trans h0)) X'
  exact ⟨tg, h5 _ rfl tg a1, b1⟩
section PMC
variable {y : MethodName} {bytes cc : ByteArray} {maxL nL n index pc : Nat} {ret : Option FieldType} {ws ws' : List Cond} {rm : Room} {Ts : List Cond} {own host : String} {As rest st : List Value} {ls : Array Slot} {P : Value → Prop} {lv : List (Nat × Value)}
theorem pm_pre {av : List Value} : PreS s H (fun a _ => a = av.toArray) av := ⟨fun _ _ _ _ h => h, fun _ _ _ => rfl⟩
/-- invokestatic, of a method that may be named by its package -/
theorem pm_S (hx : p.tables.exec = Jvm.exec) (hb : c.code = cc) (hml : c.maxLocals = nL) (hown : s.vm.findClass own = some m.cls) (hts : ∀ w ∈ Ts, w.before args s = true) (hl : lv_has ls nL lv) (hM : PM l y ws rm As P) (hG : GoodIn Ts (va_wsS own index y ws)) (hw : ws = Cond.code y bytes maxL ret :: ws') (hrm : rm.cells = 0 ∧ rm.slots = 0)
    (hd : y.cls ≠ "java/lang/invoke/MethodHandle" ∧ y.cls ≠ "java/lang/invoke/VarHandle" ∧ (parseMethodDescriptor y.desc).map (fun d => d.parameters.length) = some As.length) (hR : rm.frames + 1 ≤ R.frames ∧ 8 + (maxL + 11) + rm.locals ≤ R.locals)
    (hst : st = As.reverse ++ rest) (hW : (rest.map fun v => v.category).sum ≤ 8) (hdg : decode cc pc = .ok (.invokestatic index, 3)) (hc : cells ≤ R.cells ∧ slots ≤ R.slots)
    (k : ∀ r, P r → W p l e R s m args below meth c H locs cells slots Q (F0 m (pc + 3) ls (r :: rest))) : W p l e R s m args below meth c H locs cells slots Q (F0 m pc ls st) :=
  pm_go (x_runS (Ts := Ts) (As := As) (rest := rest) (g := F0 m pc ls st) ⟨hx, hb, hml, hown, hts⟩ hM (va_cwS As.length hts hG hw hrm.1 hrm.2 hd hR) pm_pre rfl rfl hl.1 hst (lv_room hW) hdg ⟨hc.1, hc.2⟩) k
/-- invokestatic, of a private method of the nest -/
theorem pm_SN (hx : p.tables.exec = Jvm.exec) (hb : c.code = cc) (hml : c.maxLocals = nL) (hown : s.vm.findClass own = some m.cls) (hts : ∀ w ∈ Ts, w.before args s = true) (hl : lv_has ls nL lv) (hM : PM l y ws rm As P) (hG : GoodIn Ts ws) (hw : ws = Cond.code y bytes maxL ret :: ws') (hrm : rm.cells = 0 ∧ rm.slots = 0)
    (hlk : va_Nw (.methodLinkNest own index y host) s) (hini : (Cond.initialized y.cls).before args s = true) (hsta : (Cond.static y).before args s = true)
    (hd : y.cls ≠ "java/lang/invoke/MethodHandle" ∧ y.cls ≠ "java/lang/invoke/VarHandle" ∧ (parseMethodDescriptor y.desc).map (fun d => d.parameters.length) = some As.length) (hR : rm.frames + 1 ≤ R.frames ∧ 8 + (maxL + 11) + rm.locals ≤ R.locals)
    (hst : st = As.reverse ++ rest) (hW : (rest.map fun v => v.category).sum ≤ 8) (hdg : decode cc pc = .ok (.invokestatic index, 3)) (hc : cells ≤ R.cells ∧ slots ≤ R.slots)
    (k : ∀ r, P r → W p l e R s m args below meth c H locs cells slots Q (F0 m (pc + 3) ls (r :: rest))) : W p l e R s m args below meth c H locs cells slots Q (F0 m pc ls st) :=
  pm_go (x_runSN (Ts := Ts) (As := As) (rest := rest) (g := F0 m pc ls st) ⟨hx, hb, hml, hown, hts⟩ hM ⟨va_cnB As.length hts hG hw hrm.1 hrm.2 hlk hini hd hR, hsta⟩ pm_pre rfl rfl hl.1 hst (lv_room hW) hdg ⟨hc.1, hc.2⟩) k
end PMC
end PMS
