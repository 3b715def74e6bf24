/-! methods over the places that always return: contract, ends, calls -/
def mPre (E : En) (M : Me) (av : List Value) : Array Value → State → Prop := fun v U => v = av.toArray ∧ wK E U ∧ wP E M U.heap
theorem mPre_blind (E : En) (M : Me) (av : List Value) : FrameBlind (mPre E M av) := fun a U g mk h => ⟨h.1, va_K.moved (u := U) (U := U.calling g mk a) (Vm.Alike.refl U.vm) h.2.1, h.2.2⟩
def mmQ (E : En) (P : Option Value → Me → Prop) : Array Value → State → Outcome → State → Prop := fun _ st o t => (∃ v M', o = .returned v ∧ P v M' ∧ wP E M' t.heap) ∧ va_F (wA E) st t
def MM (l : Launch) (y : MethodName) (ws : List Cond) (rm : Room) (E : En) (M : Me) (av : List Value) (P : Option Value → Me → Prop) : Prop := MetX l y ws rm (mPre E M av) (mmQ E P) 0 0 (wA E)
section MMS
variable {p : Program} {l : Launch} {e : Env} {R : Room} {s : State} {m : MethodId} {args : Array Value} {below : List Frame} {meth : Method} {c : Code} {H : Heap} {locs : List Loc} {cells slots : Nat} {Q : State → Prop} {E : En} {M : Me} {H0 : Heap}
theorem MM.ofG {y : MethodName} {rm : Room} {av : List Value} {P : Option Value → Me → Prop} {cc : ByteArray} {maxL : Nat} {ret : Option FieldType}
    (hy : plainFor y = true) (hL : (lg_sl av).length ≤ maxL)
    (body : ∀ p e s m args below meth c, p.tables.exec = Jvm.exec → c.code = cc → c.maxLocals = maxL → meth.sig.returnType = ret → meth.locks = false → (∀ w ∈ GG, w.before args s = true) → s.vm.findClass y.cls = some m.cls → wK E s → wP E M s.heap → va_S (wA E) s.heap s.heap [] →
      ∀ ls, lv_has ls maxL (lv_args 0 av) → W p l e rm s m args below meth c s.heap [] 0 0 (XQ below (mmQ E P) args s 0 0 (wA E)) (F0 m 0 ls [])) : MM l y (Cond.code y cc maxL ret :: GG) rm E M av P := by
  refine MetX.ofW (cc := cc) (maxL := maxL) (ret := ret) hy rfl ?_
  intro p e s m args below meth c s₁ B hml hnx ha hP
  obtain ⟨rfl, hK, hP⟩ := hP
  rw [lg_entry_eq]
  exact body p e s m _ below meth c B.exec B.bytes hml B.returns B.notSynchronized (fun w h => atoms_spec (ws := Cond.code y cc maxL ret :: GG) B.pre w (List.mem_cons_of_mem _ h)) (findClass_of_methodNamed B.named) hK hP va_S.rf _ (lv_entry av hL)
theorem mm_iret {cc : ByteArray} {P : Option Value → Me → Prop} {v : Int32} {pc : Nat} {ls : Array Slot} (hx : p.tables.exec = Jvm.exec) (hb : c.code = cc) (hr : meth.sig.returnType = some .int) (hk : meth.locks = false) (hP : wP E M H) (hS : va_S (wA E) s.heap H locs) (hd : decode cc pc = .ok (.ireturn, 1)) (h : P (some (.int v)) M) :
    W p l e R s m args below meth c H locs cells slots (XQ below (mmQ E P) args s cells slots (wA E)) (F0 m pc ls [.int v]) :=
  W.mono (fun _ => XQ.of) (W.iret hx hb hr (fun t ht _ => ⟨⟨_, _, rfl, h, by rw [ht]; exact hP⟩, hS.F ht⟩) hS.2.2 hd hk)
theorem mm_zret {cc : ByteArray} {P : Option Value → Me → Prop} {v : Int32} {pc : Nat} {ls : Array Slot} (hx : p.tables.exec = Jvm.exec) (hb : c.code = cc) (hr : meth.sig.returnType = some .boolean) (hk : meth.locks = false) (hP : wP E M H) (hS : va_S (wA E) s.heap H locs) (hd : decode cc pc = .ok (.ireturn, 1)) (hv : narrow .boolean (.int v) = .int v) (h : P (some (.int v)) M) :
    W p l e R s m args below meth c H locs cells slots (XQ below (mmQ E P) args s cells slots (wA E)) (F0 m pc ls [.int v]) :=
  W.mono (fun _ => XQ.of) (W.zret hx hb hr hv (fun t ht _ => ⟨⟨_, _, rfl, h, by rw [ht]; exact hP⟩, hS.F ht⟩) hS.2.2 hd hk)
theorem mm_lret {cc : ByteArray} {P : Option Value → Me → Prop} {v : Int64} {pc : Nat} {ls : Array Slot} (hx : p.tables.exec = Jvm.exec) (hb : c.code = cc) (hr : meth.sig.returnType = some .long) (hk : meth.locks = false) (hP : wP E M H) (hS : va_S (wA E) s.heap H locs) (hd : decode cc pc = .ok (.lreturn, 1)) (h : P (some (.long v)) M) :
    W p l e R s m args below meth c H locs cells slots (XQ below (mmQ E P) args s cells slots (wA E)) (F0 m pc ls [.long v]) :=
  W.mono (fun _ => XQ.of) (W.lret hx hb hr (fun t ht _ => ⟨⟨_, _, rfl, h, by rw [ht]; exact hP⟩, hS.F ht⟩) hS.2.2 hd hk)
theorem mm_aret {cc : ByteArray} {P : Option Value → Me → Prop} {a : Nat} {C : String} {pc : Nat} {ls : Array Slot} (hx : p.tables.exec = Jvm.exec) (hb : c.code = cc) (hr : meth.sig.returnType = some (.object C)) (hk : meth.locks = false) (hP : wP E M H) (hS : va_S (wA E) s.heap H locs) (hd : decode cc pc = .ok (.areturn, 1)) (h : P (some (.ref a)) M) :
    W p l e R s m args below meth c H locs cells slots (XQ below (mmQ E P) args s cells slots (wA E)) (F0 m pc ls [.ref a]) :=
  W.mono (fun _ => XQ.of) (W.aret hx hb hr (Or.inl ⟨_, rfl⟩) (Or.inr ⟨_, rfl⟩) (fun t ht _ => ⟨⟨_, _, rfl, h, by rw [ht]; exact hP⟩, hS.F ht⟩) hS.2.2 hd hk)
theorem mm_vret {cc : ByteArray} {P : Option Value → Me → Prop} {pc : Nat} {ls : Array Slot} (hx : p.tables.exec = Jvm.exec) (hb : c.code = cc) (hr : meth.sig.returnType = none) (hk : meth.locks = false) (hP : wP E M H) (hS : va_S (wA E) s.heap H locs) (hd : decode cc pc = .ok (.return_, 1)) (h : P none M) :
    W p l e R s m args below meth c H locs cells slots (XQ below (mmQ E P) args s cells slots (wA E)) (F0 m pc ls []) :=
  W.mono (fun _ => XQ.of) (W.vret hx hb hr (fun t ht _ => ⟨⟨_, _, rfl, h, by rw [ht]; exact hP⟩, hS.F ht⟩) hS.2.2 hd hk)
theorem va_S.callX {H0 H H1 : Heap} {locs L : List Loc} {A : Nat → Prop} (hS : va_S A H0 H locs) (hz : H.size ≤ H1.size) (hk : ∀ q, q < H.size → ¬ A q → H1[q]? = H[q]?) (hL : ∀ q ∈ L, A q.base) : va_S A H0 H1 (locs ++ L) :=
  ⟨Nat.le_trans hS.1 hz, fun q h1 h2 => (hk q (Nat.lt_of_lt_of_le h1 hS.1) h2).trans (hS.2.1 q h1 h2), fun q hq => by
    rcases List.mem_append.mp hq with h | h
    · exact hS.2.2 q h
    · exact hL q h⟩
theorem mm_go {P : Option Value → Me → Prop} {g : JFrame} {rest : List Value} {a : Array Value} (hr : xRun p l e R s m args below meth c H locs cells slots 0 0 g rest (mmQ E P a) (wA E)) (hS : va_S (wA E) H0 H locs)
    (k : ∀ v M' H1 locs1, P v M' → wP E M' H1 → va_S (wA E) H0 H1 locs1 → W p l e R s m args below meth c H1 locs1 cells slots Q { g with pc := g.pc + 3, stack := v.toList ++ rest }) : W p l e R s m args below meth c H locs cells slots Q g := by
  intro T hT X
  obtain ⟨o, st₀, t, T', L, h0, h1, h2, ⟨⟨v, M', rfl, hP, hW⟩, hz, hk⟩, h4, X', h5, -⟩ := hr T hT X
  rw [h0] at hz hk
  obtain ⟨tg, a1, b1⟩ := k v M' T'.heap (locs ++ L) hP (by rw [h1]; exact hW) (hS.callX (by rw [h1]; exact hz) (fun q q1 q2 => by rw [h1]; exact hk q q1 q2) h4) T' rfl X'
  exact ⟨tg, h5 _ rfl tg a1, b1⟩
section MMC
variable {y : MethodName} {bytes cc : ByteArray} {maxL nL index pc n : Nat} {ret : Option FieldType} {rm : Room} {own C : String} {As rest st : List Value} {ls : Array Slot} {P : Option Value → Me → Prop} {lv : List (Nat × Value)}
theorem mm_V {k ci : Nat} {fs : List Value} {q : vw_C} (hx : p.tables.exec = Jvm.exec) (hb : c.code = cc) (hml : c.maxLocals = nL) (hown : s.vm.findClass own = some m.cls) (hg : ∀ w ∈ GG, w.before args s = true) (hl : lv_has ls nL lv) (hK : wK E s) (hP : wP E M H) (hS : va_S (wA E) H0 H locs) (hk : k < 36) (hs : shp E k (M k) = .inr (ci, fs)) (hc : cl5[ci]? = some q) (hM : MM l y (Cond.code y bytes maxL ret :: GG) rm E M (.ref (E.2.1 k) :: As) P)
    (h1 : Cond.methodLink own index y ∈ GG) (h2 : Cond.instanceMethod y ∈ GG) (h5 : Cond.selects q.1 y y ∈ GG) (h3 : Cond.initialized y.cls ∈ GG) (h4 : Cond.code y bytes maxL ret ∈ GG) (hrm : rm.cells = 0 ∧ rm.slots = 0)
    (hd : y.cls ≠ "java/lang/invoke/MethodHandle" ∧ y.cls ≠ "java/lang/invoke/VarHandle" ∧ (parseMethodDescriptor y.desc).map (fun d => d.parameters.length) = some n) (hn : As.length = n) (hR : rm.frames + 1 ≤ R.frames ∧ 8 + (maxL + 11) + rm.locals ≤ R.locals)
    (hst : st = As.reverse ++ .ref (E.2.1 k) :: rest) (hW : (rest.map fun v => v.category).sum ≤ 8) (hdg : decode cc pc = .ok (.invokevirtual index, 3)) (hcs : cells ≤ R.cells ∧ slots ≤ R.slots)
    (kk : ∀ v M' H1 locs1, P v M' → wP E M' H1 → va_S (wA E) H0 H1 locs1 → W p l e R s m args below meth c H1 locs1 cells slots Q (F0 m (pc + 3) ls (v.toList ++ rest))) : W p l e R s m args below meth c H locs cells slots Q (F0 m pc ls st) :=
  mm_go (x_runV (Ts := GG) (C := q.1) (b := E.2.1 k) (As := As) (rest := rest) (g := F0 m pc ls st) ⟨hx, hb, hml, hown, hg⟩ hM ⟨g_callB hg h1 h3 h4 hrm hd hR, hg _ h2, hg _ h5⟩
    ⟨mPre_blind E M _, va_recv hK hP hc (by rw [wl_at hk, hs]), fun U hU hW => ⟨rfl, va_K.moved hW.alike hK, by rw [hU]; exact hP⟩⟩ rfl hn hl.1 hst (lv_room hW) hdg ⟨hcs.1, hcs.2⟩) hS kk
end MMC
end MMS
