/-! methods over the places that may throw: words, contracts, ends, calls -/
theorem all_c {P : Cond → Prop} {a : Cond} {L : List Cond} (h : P a) (h2 : ∀ x ∈ L, P x) : ∀ x ∈ a :: L, P x := fun x hx => by
  rcases List.mem_cons.mp hx with rfl | hx
  · exact h
  · exact h2 x hx
theorem cst {X : String} {V : State} {args : Array Value} (h : (Cond.instantiable X 6).before args V = true) : (Cond.castable X X).before args V = true := by
  obtain ⟨c, k, hc, -⟩ := Cond.instantiable_spec h
  simp [Cond.before, Cond.holds, Cond.value, hc, va_asg]
theorem dcl {x : MethodName} {V : State} {args : Array Value} {b : ByteArray} {n : Nat} {r : Option FieldType} (h1 : (Cond.instanceMethod x).before args V = true) (h2 : (Cond.code x b n r).before args V = true) : (Cond.declares x).before args V = true := by
  obtain ⟨mk, methM, hnamed, hmethM, hstM, habM⟩ := Cond.instanceMethod_spec h1
  obtain ⟨methM', cM, hmethM', -, -, -, -, -, -, hsigM⟩ := Cond.code_spec hnamed h2
  cases hmethM.symm.trans hmethM'
  simp [Cond.before, Cond.holds, Cond.value, hnamed, hmethM, hstM, hsigM]
theorem all_n {P : Cond → Prop} : ∀ x ∈ ([] : List Cond), P x := fun x hx => by cases hx
set_option maxRecDepth 40000 in
set_option maxHeartbeats 2000000 in
theorem oa_IAE {args : Array Value} (V : State) (hg : ∀ w ∈ GG, w.before args V = true) (ht : th V) : ∀ a ∈ Bundle.ownAtoms "RationalForms" 42 "java/lang/IllegalArgumentException" ["java/lang/RuntimeException", "java/lang/Exception"], a.before args V = true :=
  all_c (hg _ (GG_t 6 rfl rfl)) (all_c (hg _ (GG_t 246 rfl rfl)) (all_c (hg _ (GG_t 255 rfl rfl)) (all_c (hg _ (GG_t 259 rfl rfl)) (all_c (hg _ (GG_t 262 rfl rfl)) (all_c (hg _ (GG_t 264 rfl rfl)) (all_c (hg _ (GG_t 247 rfl rfl)) (all_c (hg _ (GG_t 248 rfl rfl)) (all_c (hg _ (GG_t 21 rfl rfl)) (all_c (hg _ (GG_t 22 rfl rfl)) (all_c (hg _ (GG_t 249 rfl rfl)) (all_c (hg _ (GG_t 254 rfl rfl)) (all_c (hg _ (GG_t 260 rfl rfl)) (all_c (hg _ (GG_t 280 rfl rfl)) (all_c (hg _ (GG_t 236 rfl rfl)) (all_c (hg _ (GG_t 281 rfl rfl)) (all_c (hg _ (GG_t 238 rfl rfl)) (all_c (hg _ (GG_t 282 rfl rfl)) (all_c (hg _ (GG_t 240 rfl rfl)) (all_c (hg _ (GG_t 250 rfl rfl)) (all_c (th2_at ht.1 _).1 (all_c (hg _ (GG_t 252 rfl rfl)) (all_c (th2_at ht.2 _).1 (all_c (hg _ (GG_t 242 rfl rfl)) (all_c (hg _ (GG_t 276 rfl rfl)) (all_c (hg _ (GG_t 277 rfl rfl)) (all_c (hg _ (GG_t 279 rfl rfl)) (all_c (hg _ (GG_t 242 rfl rfl)) (all_c (hg _ (GG_t 267 rfl rfl)) (all_c (hg _ (GG_t 268 rfl rfl)) (all_c (hg _ (GG_t 269 rfl rfl)) (all_c (hg _ (GG_t 270 rfl rfl)) (all_c (dcl (hg _ (GG_t 270 rfl rfl)) (hg _ (GG_t 271 rfl rfl))) (all_c (hg _ (GG_t 270 rfl rfl)) (all_c (hg _ (GG_t 271 rfl rfl)) (all_c (hg _ (GG_t 272 rfl rfl)) (all_c (hg _ (GG_t 273 rfl rfl)) (all_c (dcl (hg _ (GG_t 273 rfl rfl)) (hg _ (GG_t 274 rfl rfl))) (all_c (hg _ (GG_t 273 rfl rfl)) (all_c (hg _ (GG_t 274 rfl rfl)) (all_c (hg _ (GG_t 275 rfl rfl)) (all_c (hg _ (GG_t 276 rfl rfl)) (all_c (dcl (hg _ (GG_t 276 rfl rfl)) (hg _ (GG_t 277 rfl rfl))) (all_c (hg _ (GG_t 266 rfl rfl)) (all_c (hg _ (GG_t 225 rfl rfl)) (all_c (cst (hg _ (GG_t 225 rfl rfl))) (all_c (hg _ (GG_t 233 rfl rfl)) (all_c (hg _ (GG_t 234 rfl rfl)) (all_c (hg _ (GG_t 235 rfl rfl)) (all_c (hg _ (GG_t 237 rfl rfl)) (all_c (hg _ (GG_t 239 rfl rfl)) (all_c (hg _ (GG_t 241 rfl rfl)) (all_c (th2_at ht.1 _).2 (all_c (th2_at ht.2 _).2 (all_c (hg _ (GG_t 245 rfl rfl)) (all_c (hg _ (GG_t 244 rfl rfl)) (all_c (hg _ (GG_t 243 rfl rfl)) (all_n)))))))))))))))))))))))))))))))))))))))))))))))))))))))))
set_option maxRecDepth 40000 in
set_option maxHeartbeats 2000000 in
theorem oa_IOE {args : Array Value} (V : State) (hg : ∀ w ∈ GG, w.before args V = true) (ht : th V) : ∀ a ∈ Bundle.ownAtoms "RationalForms" 58 "java/lang/IndexOutOfBoundsException" ["java/lang/RuntimeException", "java/lang/Exception"], a.before args V = true :=
  all_c (hg _ (GG_t 6 rfl rfl)) (all_c (hg _ (GG_t 246 rfl rfl)) (all_c (hg _ (GG_t 255 rfl rfl)) (all_c (hg _ (GG_t 259 rfl rfl)) (all_c (hg _ (GG_t 262 rfl rfl)) (all_c (hg _ (GG_t 264 rfl rfl)) (all_c (hg _ (GG_t 247 rfl rfl)) (all_c (hg _ (GG_t 248 rfl rfl)) (all_c (hg _ (GG_t 21 rfl rfl)) (all_c (hg _ (GG_t 22 rfl rfl)) (all_c (hg _ (GG_t 249 rfl rfl)) (all_c (hg _ (GG_t 254 rfl rfl)) (all_c (hg _ (GG_t 260 rfl rfl)) (all_c (hg _ (GG_t 280 rfl rfl)) (all_c (hg _ (GG_t 236 rfl rfl)) (all_c (hg _ (GG_t 281 rfl rfl)) (all_c (hg _ (GG_t 238 rfl rfl)) (all_c (hg _ (GG_t 282 rfl rfl)) (all_c (hg _ (GG_t 240 rfl rfl)) (all_c (hg _ (GG_t 250 rfl rfl)) (all_c (th2_at ht.1 _).1 (all_c (hg _ (GG_t 252 rfl rfl)) (all_c (th2_at ht.2 _).1 (all_c (hg _ (GG_t 242 rfl rfl)) (all_c (hg _ (GG_t 276 rfl rfl)) (all_c (hg _ (GG_t 277 rfl rfl)) (all_c (hg _ (GG_t 279 rfl rfl)) (all_c (hg _ (GG_t 242 rfl rfl)) (all_c (hg _ (GG_t 321 rfl rfl)) (all_c (hg _ (GG_t 322 rfl rfl)) (all_c (hg _ (GG_t 323 rfl rfl)) (all_c (hg _ (GG_t 270 rfl rfl)) (all_c (dcl (hg _ (GG_t 270 rfl rfl)) (hg _ (GG_t 271 rfl rfl))) (all_c (hg _ (GG_t 270 rfl rfl)) (all_c (hg _ (GG_t 271 rfl rfl)) (all_c (hg _ (GG_t 272 rfl rfl)) (all_c (hg _ (GG_t 273 rfl rfl)) (all_c (dcl (hg _ (GG_t 273 rfl rfl)) (hg _ (GG_t 274 rfl rfl))) (all_c (hg _ (GG_t 273 rfl rfl)) (all_c (hg _ (GG_t 274 rfl rfl)) (all_c (hg _ (GG_t 275 rfl rfl)) (all_c (hg _ (GG_t 276 rfl rfl)) (all_c (dcl (hg _ (GG_t 276 rfl rfl)) (hg _ (GG_t 277 rfl rfl))) (all_c (hg _ (GG_t 320 rfl rfl)) (all_c (hg _ (GG_t 311 rfl rfl)) (all_c (cst (hg _ (GG_t 311 rfl rfl))) (all_c (hg _ (GG_t 313 rfl rfl)) (all_c (hg _ (GG_t 258 rfl rfl)) (all_c (hg _ (GG_t 314 rfl rfl)) (all_c (hg _ (GG_t 315 rfl rfl)) (all_c (hg _ (GG_t 316 rfl rfl)) (all_c (hg _ (GG_t 317 rfl rfl)) (all_c (th2_at ht.1 _).2 (all_c (th2_at ht.2 _).2 (all_c (hg _ (GG_t 245 rfl rfl)) (all_c (hg _ (GG_t 244 rfl rfl)) (all_c (hg _ (GG_t 318 rfl rfl)) (all_n)))))))))))))))))))))))))))))))))))))))))))))))))))))))))
set_option maxRecDepth 40000 in
set_option maxHeartbeats 2000000 in
theorem oa_ARE {args : Array Value} (V : State) (hg : ∀ w ∈ GG, w.before args V = true) (ht : th V) : ∀ a ∈ Bundle.ownAtoms "RationalForms" 90 "java/lang/ArithmeticException" ["java/lang/RuntimeException", "java/lang/Exception"], a.before args V = true :=
  all_c (hg _ (GG_t 6 rfl rfl)) (all_c (hg _ (GG_t 246 rfl rfl)) (all_c (hg _ (GG_t 255 rfl rfl)) (all_c (hg _ (GG_t 259 rfl rfl)) (all_c (hg _ (GG_t 262 rfl rfl)) (all_c (hg _ (GG_t 264 rfl rfl)) (all_c (hg _ (GG_t 247 rfl rfl)) (all_c (hg _ (GG_t 248 rfl rfl)) (all_c (hg _ (GG_t 21 rfl rfl)) (all_c (hg _ (GG_t 22 rfl rfl)) (all_c (hg _ (GG_t 249 rfl rfl)) (all_c (hg _ (GG_t 254 rfl rfl)) (all_c (hg _ (GG_t 260 rfl rfl)) (all_c (hg _ (GG_t 280 rfl rfl)) (all_c (hg _ (GG_t 236 rfl rfl)) (all_c (hg _ (GG_t 281 rfl rfl)) (all_c (hg _ (GG_t 238 rfl rfl)) (all_c (hg _ (GG_t 282 rfl rfl)) (all_c (hg _ (GG_t 240 rfl rfl)) (all_c (hg _ (GG_t 250 rfl rfl)) (all_c (th2_at ht.1 _).1 (all_c (hg _ (GG_t 252 rfl rfl)) (all_c (th2_at ht.2 _).1 (all_c (hg _ (GG_t 242 rfl rfl)) (all_c (hg _ (GG_t 276 rfl rfl)) (all_c (hg _ (GG_t 277 rfl rfl)) (all_c (hg _ (GG_t 279 rfl rfl)) (all_c (hg _ (GG_t 242 rfl rfl)) (all_c (hg _ (GG_t 357 rfl rfl)) (all_c (hg _ (GG_t 358 rfl rfl)) (all_c (hg _ (GG_t 359 rfl rfl)) (all_c (hg _ (GG_t 270 rfl rfl)) (all_c (dcl (hg _ (GG_t 270 rfl rfl)) (hg _ (GG_t 271 rfl rfl))) (all_c (hg _ (GG_t 270 rfl rfl)) (all_c (hg _ (GG_t 271 rfl rfl)) (all_c (hg _ (GG_t 272 rfl rfl)) (all_c (hg _ (GG_t 273 rfl rfl)) (all_c (dcl (hg _ (GG_t 273 rfl rfl)) (hg _ (GG_t 274 rfl rfl))) (all_c (hg _ (GG_t 273 rfl rfl)) (all_c (hg _ (GG_t 274 rfl rfl)) (all_c (hg _ (GG_t 275 rfl rfl)) (all_c (hg _ (GG_t 276 rfl rfl)) (all_c (dcl (hg _ (GG_t 276 rfl rfl)) (hg _ (GG_t 277 rfl rfl))) (all_c (hg _ (GG_t 356 rfl rfl)) (all_c (hg _ (GG_t 347 rfl rfl)) (all_c (cst (hg _ (GG_t 347 rfl rfl))) (all_c (hg _ (GG_t 349 rfl rfl)) (all_c (hg _ (GG_t 257 rfl rfl)) (all_c (hg _ (GG_t 350 rfl rfl)) (all_c (hg _ (GG_t 351 rfl rfl)) (all_c (hg _ (GG_t 352 rfl rfl)) (all_c (hg _ (GG_t 353 rfl rfl)) (all_c (th2_at ht.1 _).2 (all_c (th2_at ht.2 _).2 (all_c (hg _ (GG_t 245 rfl rfl)) (all_c (hg _ (GG_t 244 rfl rfl)) (all_c (hg _ (GG_t 354 rfl rfl)) (all_n)))))))))))))))))))))))))))))))))))))))))))))))))))))))))
/-- a cell of the class C stands at x -/
def exC (C : String) (x : Addr) (t : State) : Prop := ∃ ce, t.heap[x]? = some ce ∧ ce.vm = .none ∧ t.vm.findClass C = some ce.cls
def mPreT (E : En) (M : Me) (av : List Value) : Array Value → State → Prop := fun v U => v = av.toArray ∧ wK E U ∧ wP E M U.heap ∧ th U
theorem mPreT_blind (E : En) (M : Me) (av : List Value) : FrameBlind (mPreT E M av) := fun a U g mk h => ⟨h.1, va_K.moved (u := U) (U := U.calling g mk a) (Vm.Alike.refl U.vm) h.2.1, h.2.2.1, h.2.2.2.tr (Vm.Alike.refl U.vm) (fun _ _ h _ => h)⟩
def mtQ (E : En) (P : Option Value → Me → Prop) (X : String → Me → Prop) : Array Value → State → Outcome → State → Prop := fun _ st o t => ((∃ v M', o = .returned v ∧ P v M' ∧ wP E M' t.heap) ∨ ∃ x C M', o = .threw x ∧ X C M' ∧ wP E M' t.heap ∧ exC C x t) ∧ va_F (wA E) st t
def MT (l : Launch) (y : MethodName) (ws : List Cond) (rm : Room) (E : En) (M : Me) (av : List Value) (P : Option Value → Me → Prop) (X : String → Me → Prop) : Prop := MetX l y ws rm (mPreT E M av) (mtQ E P X) 1 6 (wA E)
/-- a check: it returns and nothing has changed, or it throws a C -/
def ckQ (ok : Prop) (C : String) : Array Value → State → Outcome → State → Prop := fun _ st o t => (ok ∧ o = .returned none ∧ t.heap = st.heap) ∨ (¬ ok ∧ ∃ x, o = .threw x ∧ exC C x t ∧ st.heap.size ≤ t.heap.size ∧ ∀ q, q < st.heap.size → t.heap[q]? = st.heap[q]?)
def CK (l : Launch) (y : MethodName) (ws : List Cond) (rm : Room) (E : En) (M : Me) (av : List Value) (ok : Prop) (C : String) : Prop := MetX l y ws rm (mPreT E M av) (ckQ ok C) 1 6 (fun _ => False)
theorem wA_ns {E : En} {M : Me} {H : Heap} (hP : wP E M H) {q : Nat} {cell : Cell} (hc : H[q]? = some cell) (hs : cell.vm.isStatics = true) : ¬ wA E q := by
  rintro ⟨k, hk, rfl⟩
  have h := hP k _ (wl_at (M := M) hk)
  unfold va_at at h
  cases hq : shp E k (M k) with
  | inl a =>
    simp only [hq] at h
    rw [hc] at h
    have e9 := Option.some.inj h
    rw [e9] at hs
    refine absurd hs ?_
    unfold vp_cell
    split <;> simp [arrV, VmData.isStatics]
  | inr o =>
    simp only [hq] at h
    obtain ⟨r, -, cell', g1, g2, g3, -⟩ := h
    rw [hc] at g1
    have e9 := Option.some.inj g1
    rw [e9, g3] at hs
    exact absurd hs (by simp [VmData.isStatics])
theorem wP_kept {E : En} {M : Me} {H H1 : Heap} (hP : wP E M H) (h : ∀ q, q < H.size → H1[q]? = H[q]?) : wP E M H1 := hP.kept (fun k x hx => h x.1 ((hP k x hx).lt))
section MTS
variable {p : Program} {l : Launch} {e : Env} {R : Room} {s : State} {m : MethodId} {args : Array Value} {below : List Frame} {meth : Method} {c : Code} {H : Heap} {locs : List Loc} {cells slots : Nat} {Q : State → Prop} {E : En} {M : Me} {H0 : Heap} {T T' : State}
theorem th_now {M0 : Me} (h0 : th s) (hP0 : wP E M0 s.heap) (hS : va_S (wA E) s.heap H locs) : ∀ V : State, V.heap = H → s.WarmedH V.vm → th V := fun V hV hW => h0.tr hW.alike (fun q cell hc hs => by
  rw [hV, hS.2.1 q (Array.getElem?_eq_some_iff.mp hc).1 (wA_ns hP0 hc hs)]; exact hc)
theorem XQ.mt {P : Option Value → Me → Prop} {X : String → Me → Prop} {t : State} (h : XQ below (mmQ E P) args s 0 0 (wA E) t) : XQ below (mtQ E P X) args s 1 6 (wA E) t := by
  obtain ⟨o, h1, h2, ⟨⟨v, M', h3, h4, h5⟩, h6⟩, L, ⟨h7, h8⟩, h9⟩ := h
  exact ⟨o, h1, h2, ⟨Or.inl ⟨v, M', h3, h4, h5⟩, h6⟩, L, ⟨h7, h8.mono (by omega) (by omega)⟩, h9⟩
theorem MT.ofG {y : MethodName} {rm : Room} {av : List Value} {P : Option Value → Me → Prop} {X : String → Me → Prop} {cc : ByteArray} {maxL : Nat} {ret : Option FieldType}
    (hy : plainFor y = true) (hL : (lg_sl av).length ≤ maxL)
    (body : ∀ p e s m args below meth c, p.tables.exec = Jvm.exec → c.code = cc → c.maxLocals = maxL → meth.sig.returnType = ret → meth.locks = false → (∀ w ∈ GG, w.before args s = true) → s.vm.findClass y.cls = some m.cls → wK E s → wP E M s.heap → va_S (wA E) s.heap s.heap [] → th s → c.exceptionTable.toList = [] →
      ∀ ls, lv_has ls maxL (lv_args 0 av) → W p l e rm s m args below meth c s.heap [] 0 0 (XQ below (mtQ E P X) args s 1 6 (wA E)) (F0 m 0 ls [])) : MT l y (Cond.code y cc maxL ret :: GG) rm E M av P X := by
  refine MetX.ofW (cc := cc) (maxL := maxL) (ret := ret) hy rfl ?_
  intro p e s m args below meth c s₁ B hml hnx ha hP
  obtain ⟨rfl, hK, hP, hth⟩ := hP
  rw [lg_entry_eq]
  exact body p e s m _ below meth c B.exec B.bytes hml B.returns B.notSynchronized (fun w h => atoms_spec (ws := Cond.code y cc maxL ret :: GG) B.pre w (List.mem_cons_of_mem _ h)) (findClass_of_methodNamed B.named) hK hP va_S.rf hth hnx _ (lv_entry av hL)
theorem CK.ofG {y : MethodName} {rm : Room} {av : List Value} {ok : Prop} {C : String} {cc : ByteArray} {maxL : Nat} {ret : Option FieldType}
    (hy : plainFor y = true) (hL : (lg_sl av).length ≤ maxL)
    (body : ∀ p e s m args below meth c, p.tables.exec = Jvm.exec → c.code = cc → c.maxLocals = maxL → meth.sig.returnType = ret → meth.locks = false → (∀ w ∈ GG, w.before args s = true) → s.vm.findClass y.cls = some m.cls → wK E s → wP E M s.heap → va_S (fun _ => False) s.heap s.heap [] → th s → c.exceptionTable.toList = [] →
      ∀ ls, lv_has ls maxL (lv_args 0 av) → W p l e rm s m args below meth c s.heap [] 0 0 (XQ below (ckQ ok C) args s 1 6 (fun _ => False)) (F0 m 0 ls [])) : CK l y (Cond.code y cc maxL ret :: GG) rm E M av ok C := by
  refine MetX.ofW (cc := cc) (maxL := maxL) (ret := ret) hy rfl ?_
  intro p e s m args below meth c s₁ B hml hnx ha hP
  obtain ⟨rfl, hK, hP, hth⟩ := hP
  rw [lg_entry_eq]
  exact body p e s m _ below meth c B.exec B.bytes hml B.returns B.notSynchronized (fun w h => atoms_spec (ws := Cond.code y cc maxL ret :: GG) B.pre w (List.mem_cons_of_mem _ h)) (findClass_of_methodNamed B.named) hK hP va_S.rf hth hnx _ (lv_entry av hL)
theorem ck_ret {cc : ByteArray} {ok : Prop} {C : String} {pc : Nat} {ls : Array Slot} (hx : p.tables.exec = Jvm.exec) (hb : c.code = cc) (hr : meth.sig.returnType = none) (hk : meth.locks = false) (hd : decode cc pc = .ok (.return_, 1)) (h : ok) :
    W p l e R s m args below meth c s.heap [] 0 0 (XQ below (ckQ ok C) args s 1 6 (fun _ => False)) (F0 m pc ls []) :=
  W.mono (fun t ht => by
    obtain ⟨o, h1, h2, h3, L, ⟨h7, h8⟩, h9⟩ := XQ.of ht
    exact ⟨o, h1, h2, h3, L, ⟨h7, h8.mono (by omega) (by omega)⟩, h9⟩) (W.vret (Qc := ckQ ok C) (free := fun _ => False) hx hb hr (fun t ht _ => Or.inl ⟨h, rfl, ht⟩) (fun _ h => by cases h) hd hk)
theorem ck_thr {cc : ByteArray} {ok : Prop} {pc : Nat} {ls : Array Slot} {own cls tx : String} {names : List String} {ic kn ks nL : Nat} (hx : p.tables.exec = Jvm.exec) (hb : c.code = cc) (hml : c.maxLocals = nL) (hlf : l.flags = pinnedFlags ++ [noTraceFlag]) {lv : List (Nat × Value)} (hl : lv_has ls nL lv) (hk : meth.locks = false) (hnx : c.exceptionTable.toList = []) (hown : s.vm.findClass own = some m.cls)
    (hg : ∀ w ∈ GG, w.before args s = true) (hth : th s) (hoa : ∀ V : State, (∀ w ∈ GG, w.before args V = true) → th V → ∀ a ∈ Bundle.ownAtoms own ic cls names, a.before args V = true) (hfit : Bundle.fit cls = true) (hnames : ∀ n ∈ names, Bundle.fit n = true)
    (w1 : Cond.classLink own kn cls ∈ GG) (w2 : Cond.instantiable cls 6 ∈ GG) (w3 : Cond.initialized cls ∈ GG) (w4 : Cond.stringRef own ks tx ∈ GG)
    (hd1 : decode cc pc = .ok (.new kn, 3)) (hd2 : decode cc (pc + 3) = .ok (.dup, 1)) (hd3 : decode cc (pc + 3 + 1) = .ok (.ldc ks, 2)) (hd4 : decode cc (pc + 3 + 1 + 2) = .ok (.invokespecial ic, 3)) (hd5 : decode cc (pc + 3 + 1 + 2 + 3) = .ok (.athrow, 1))
    (hR : names.length + 3 < R.frames ∧ 2 + (13 * (names.length + 1) + 42) ≤ R.locals ∧ 1 ≤ R.cells ∧ 6 ≤ R.slots) (hno : ¬ ok) :
    W p l e R s m args below meth c s.heap [] 0 0 (XQ below (ckQ ok cls) args s 1 6 (fun _ => False)) (F0 m pc ls []) :=
  x_thr hx hb hml hlf hl.1 hk hnx hown hg (fun V hV hW => hth.tr hW.alike (fun q cell hc _ => by rw [hV]; exact hc)) hoa hfit hnames w1 w2 w3 w4 hd1 hd2 hd3 hd4 hd5 hR (fun _ h => by cases h)
    (fun t hW h1 h2 ⟨ce, h3, h4, h5⟩ => Or.inr ⟨hno, _, rfl, ⟨ce, h3, h4, by rw [hW.alike.findClass]; exact h5⟩, h1, h2⟩)
theorem mt_thr {cc : ByteArray} {P : Option Value → Me → Prop} {X : String → Me → Prop} {M0 : Me} {pc : Nat} {ls : Array Slot} {own cls tx : String} {names : List String} {ic kn ks nL : Nat} (hx : p.tables.exec = Jvm.exec) (hb : c.code = cc) (hml : c.maxLocals = nL) (hlf : l.flags = pinnedFlags ++ [noTraceFlag]) {lv : List (Nat × Value)} (hl : lv_has ls nL lv) (hk : meth.locks = false) (hnx : c.exceptionTable.toList = []) (hown : s.vm.findClass own = some m.cls)
    (hg : ∀ w ∈ GG, w.before args s = true) (hth : th s) (hP0 : wP E M0 s.heap) (hP : wP E M H) (hS : va_S (wA E) s.heap H locs) (hoa : ∀ V : State, (∀ w ∈ GG, w.before args V = true) → th V → ∀ a ∈ Bundle.ownAtoms own ic cls names, a.before args V = true) (hfit : Bundle.fit cls = true) (hnames : ∀ n ∈ names, Bundle.fit n = true)
    (w1 : Cond.classLink own kn cls ∈ GG) (w2 : Cond.instantiable cls 6 ∈ GG) (w3 : Cond.initialized cls ∈ GG) (w4 : Cond.stringRef own ks tx ∈ GG)
    (hd1 : decode cc pc = .ok (.new kn, 3)) (hd2 : decode cc (pc + 3) = .ok (.dup, 1)) (hd3 : decode cc (pc + 3 + 1) = .ok (.ldc ks, 2)) (hd4 : decode cc (pc + 3 + 1 + 2) = .ok (.invokespecial ic, 3)) (hd5 : decode cc (pc + 3 + 1 + 2 + 3) = .ok (.athrow, 1))
    (hR : names.length + 3 < R.frames ∧ 2 + (13 * (names.length + 1) + 42) ≤ R.locals ∧ 1 ≤ R.cells ∧ 6 ≤ R.slots) (hX : X cls M) :
    W p l e R s m args below meth c H locs 0 0 (XQ below (mtQ E P X) args s 1 6 (wA E)) (F0 m pc ls []) :=
  x_thr hx hb hml hlf hl.1 hk hnx hown hg (th_now hth hP0 hS) hoa hfit hnames w1 w2 w3 w4 hd1 hd2 hd3 hd4 hd5 hR hS.2.2
    (fun t hW h1 h2 ⟨ce, h3, h4, h5⟩ => ⟨Or.inr ⟨_, cls, M, rfl, hX, wP_kept hP h2, ce, h3, h4, by rw [hW.alike.findClass]; exact h5⟩, Nat.le_trans hS.1 h1, fun q q1 q2 => (h2 q (Nat.lt_of_lt_of_le q1 hS.1)).trans (hS.2.1 q q1 q2)⟩)
/-- the same heap: the same stand -/
theorem Stand_same {l2 : List Loc} {c2 n2 : Nat} (X : Stand p l e R s m args below meth c T locs cells slots) (X' : Stand p l e R s m args below meth c T' l2 c2 n2) (h : T'.heap = T.heap) : Stand p l e R s m args below meth c T' locs cells slots := by
  have b1 := X.book
  have b2 := X'.book
  unfold State.slotsTrue at b1 b2
  have hu : T'.slotsUsed = T.slotsUsed := by
    rw [h] at b2
    exact (eq_of_beq b2).trans (eq_of_beq b1).symm
  refine ⟨X'.admits, X'.cas, X'.clock, X'.frames, X'.room, X'.hears, X'.method, X'.code, X'.here, X'.tail, X'.warmed, X'.limits, X'.bytes, X'.same.1, ?_, ?_, ?_, ?_, ?_⟩
  · show s.heap.size ≤ T'.heap.size; rw [h]; exact X.same.2.1
  · show T'.heap.size ≤ _; rw [h]; exact X.same.2.2.1
  · show T'.slotsUsed = s.slotsUsed + ((T'.heap.toList.drop s.heap.size).map (·.slots.size)).sum; rw [h, hu]; exact X.same.2.2.2.1
  · show ((T'.heap.toList.drop s.heap.size).map (·.slots.size)).sum ≤ _; rw [h]; exact X.same.2.2.2.2.1
  · intro a cc hc
    obtain ⟨c', h1, h2⟩ := X.same.2.2.2.2.2 a cc hc
    exact ⟨c', by show T'.heap[a]? = _; rw [h]; exact h1, h2⟩
section CKC
variable {y : MethodName} {bytes cc : ByteArray} {maxL nL index pc n : Nat} {ret : Option FieldType} {rm : Room} {own C : String} {As rest st : List Value} {ls : Array Slot} {P : Option Value → Me → Prop} {lv : List (Nat × Value)}
theorem ck_run {M0 : Me} {ok : Prop} {k ci : Nat} {fs : List Value} {q : vw_C} (hx : p.tables.exec = Jvm.exec) (hb : c.code = cc) (hml : c.maxLocals = nL) (hown : s.vm.findClass own = some m.cls) (hg : ∀ w ∈ GG, w.before args s = true) (hl : lv_has ls nL lv) (hK : wK E s) (hth : th s) (hP0 : wP E M0 s.heap) (hP : wP E M H) (hS : va_S (wA E) s.heap H locs) (hk : k < 36) (hs : shp E k (M k) = .inr (ci, fs)) (hc : cl5[ci]? = some q) (hM : CK l y (Cond.code y bytes maxL ret :: GG) rm E M (.ref (E.2.1 k) :: As) ok C)
    (h1 : Cond.methodLink own index y ∈ GG) (h2 : Cond.instanceMethod y ∈ GG) (h5 : Cond.selects q.1 y y ∈ GG) (h3 : Cond.initialized y.cls ∈ GG) (h4 : Cond.code y bytes maxL ret ∈ GG) (hrm : rm.cells = 1 ∧ rm.slots = 6)
    (hd : y.cls ≠ "java/lang/invoke/MethodHandle" ∧ y.cls ≠ "java/lang/invoke/VarHandle" ∧ (parseMethodDescriptor y.desc).map (fun d => d.parameters.length) = some n) (hn : As.length = n) (hR : rm.frames + 1 ≤ R.frames ∧ 8 + (maxL + 11) + rm.locals ≤ R.locals)
    (hst : st = As.reverse ++ .ref (E.2.1 k) :: rest) (hW : (rest.map fun v => v.category).sum ≤ 8) (hdg : decode cc pc = .ok (.invokevirtual index, 3)) (hcs : cells + 1 ≤ R.cells ∧ slots + 6 ≤ R.slots) :
    xRun p l e R s m args below meth c H locs cells slots 1 6 (F0 m pc ls st) rest (ckQ ok C (Value.ref (E.2.1 k) :: As).toArray) (fun _ => False) :=
  x_runV (Ts := GG) (C := q.1) (b := E.2.1 k) (As := As) (rest := rest) (g := F0 m pc ls st) ⟨hx, hb, hml, hown, hg⟩ hM ⟨g_callB hg h1 h3 h4 hrm hd hR, hg _ h2, hg _ h5⟩
    ⟨mPreT_blind E M _, va_recv hK hP hc (by rw [wl_at hk, hs]), fun U hU hW => ⟨rfl, va_K.moved hW.alike hK, by rw [hU]; exact hP, th_now hth hP0 hS U hU hW⟩⟩ rfl hn hl.1 hst (lv_room hW) hdg ⟨hcs.1, hcs.2⟩
theorem ck_ok {ok : Prop} {g : JFrame} {a : Array Value} (hr : xRun p l e R s m args below meth c H locs cells slots 1 6 g rest (ckQ ok C a) (fun _ => False)) (hok : ok)
    (k : W p l e R s m args below meth c H locs cells slots Q { g with pc := g.pc + 3, stack := rest }) : W p l e R s m args below meth c H locs cells slots Q g := by
  intro T hT X
  obtain ⟨o, st₀, t, T', L, h0, h1, h2, h3, h4, X', h5, -⟩ := hr T hT X
  rcases h3 with ⟨-, rfl, h3⟩ | ⟨h3, -⟩
  · have e1 : T'.heap = T.heap := by rw [h1, h3, h0, hT]
    obtain ⟨tg, a1, b1⟩ := k T' (e1.trans hT) (Stand_same X X' e1)
    exact ⟨tg, h5 _ rfl tg a1, b1⟩
  · exact absurd hok h3
theorem ck_no {ok : Prop} {g : JFrame} {a : Array Value} (hr : xRun p l e R s m args below meth c H locs cells slots 1 6 g rest (ckQ ok C a) (fun _ => False)) (hno : ¬ ok)
    (k : ∀ x H1, H.size ≤ H1.size → (∀ q, q < H.size → H1[q]? = H[q]?) → (∃ ce, H1[x]? = some ce ∧ ce.vm = .none ∧ s.vm.findClass C = some ce.cls) → WN p l e R s m args below meth c H1 locs (cells + 1) (slots + 6) Q x { g with stack := rest }) : W p l e R s m args below meth c H locs cells slots Q g := by
  intro T hT X
  obtain ⟨o, st₀, t, T', L, h0, h1, h2, h3, h4, X', -, h6⟩ := hr T hT X
  rcases h3 with ⟨h3, -⟩ | ⟨-, x, rfl, ⟨ce, g1, g2, g3⟩, g4, g5⟩
  · exact absurd h3 hno
  · have hL : L = [] := List.eq_nil_iff_forall_not_mem.mpr (fun q hq => h4 q hq)
    rw [hL, List.append_nil] at X'
    obtain ⟨tg, a1, b1⟩ := k x T'.heap (by rw [h1, ← h0]; exact g4) (fun q hq => by rw [h1, ← h0]; exact g5 q (by rw [h0]; exact hq)) ⟨ce, by rw [h1]; exact g1, g2, by rw [← X'.warmed.alike.findClass, h2]; exact g3⟩ T' rfl X'
    exact ⟨tg, h6 _ rfl tg a1, b1⟩
/-- a check that fails ends the method that asked it -/
theorem ck_out {X : String → Me → Prop} {ok : Prop} {a : Array Value} (hr : xRun p l e R s m args below meth c H locs 0 0 1 6 (F0 m pc ls st) rest (ckQ ok C a) (fun _ => False)) (hno : ¬ ok) (hk : meth.locks = false) (hnx : c.exceptionTable.toList = []) (hP : wP E M H) (hS : va_S (wA E) s.heap H locs) (hX : X C M) :
    W p l e R s m args below meth c H locs 0 0 (XQ below (mtQ E P X) args s 1 6 (wA E)) (F0 m pc ls st) := by
  refine ck_no hr hno (fun x H1 h1 h2 ⟨ce, h3, h4, h5⟩ => ?_)
  exact WN.out (Qc := mtQ E P X) (st := rest) hnx hk (fun t ht hW => ⟨Or.inr ⟨x, C, M, rfl, hX, by rw [ht]; exact wP_kept hP h2, ce, by rw [ht]; exact h3, h4, by rw [hW.alike.findClass]; exact h5⟩, by rw [ht]; exact Nat.le_trans hS.1 h1, fun q q1 q2 => by rw [ht]; exact (h2 q (Nat.lt_of_lt_of_le q1 hS.1)).trans (hS.2.1 q q1 q2)⟩) hS.2.2
end CKC
end MTS
section CKF
variable {p : Program} {l : Launch} {e : Env} {R : Room} {s : State} {m : MethodId} {args : Array Value} {below : List Frame} {meth : Method} {c : Code} {H : Heap} {locs : List Loc} {cells slots : Nat} {Q : State → Prop} {pc : Nat} {ls : Array Slot} {st rest : List Value} {C : String}
theorem ck_okF {ok : Prop} {a : Array Value} (hr : xRun p l e R s m args below meth c H locs cells slots 1 6 (F0 m pc ls st) rest (ckQ ok C a) (fun _ => False)) (hok : ok)
    (k : W p l e R s m args below meth c H locs cells slots Q (F0 m (pc + 3) ls rest)) : W p l e R s m args below meth c H locs cells slots Q (F0 m pc ls st) := ck_ok hr hok k
end CKF
