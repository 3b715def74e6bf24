/-! the same over the one list of words -/
section PMG
variable {p : Program} {l : Launch} {e : Env} {R : Room} {s : State} {m : MethodId} {args : Array Value} {below : List Frame} {meth : Method} {c : Code} {H : Heap} {locs : List Loc} {cells slots : Nat} {Q : State → Prop}
theorem PM.ofG {y : MethodName} {rm : Room} {av : List Value} {P : Value → Prop} {cc : ByteArray} {maxL : Nat} {ret : Option FieldType}
    (hy : plainFor y = true) (hL : (lg_sl av).length ≤ maxL)
    (body : ∀ p e s m args below meth c, p.tables.exec = Jvm.exec → c.code = cc → c.maxLocals = maxL → meth.sig.returnType = ret → meth.locks = false → (∀ w ∈ GG, w.before args s = true) → s.vm.findClass y.cls = some m.cls →
      ∀ ls, lv_has ls maxL (lv_args 0 av) → W p l e rm s m args below meth c s.heap [] 0 0 (XQ below (pmQ P) args s 0 0 (fun _ => False)) (F0 m 0 ls [])) : PM l y (Cond.code y cc maxL ret :: GG) rm av P :=
  PM.ofW hy rfl hL fun p e s m args below meth c hx hb hml hr hk hts hown ls hl => body p e s m args below meth c hx hb hml hr hk (fun w h => hts w (List.mem_cons_of_mem _ h)) hown ls hl
section PMGC
variable {y : MethodName} {bytes cc : ByteArray} {maxL nL index pc : Nat} {ret : Option FieldType} {rm : Room} {own : String} {As rest st : List Value} {ls : Array Slot} {P : Value → Prop} {lv : List (Nat × Value)}
theorem g_callB {n mc ms : Nat} (hg : ∀ w ∈ GG, w.before args s = true) (h1 : Cond.methodLink own index y ∈ GG) (h3 : Cond.initialized y.cls ∈ GG) (h4 : Cond.code y bytes maxL ret ∈ GG) (hrm : rm.cells = mc ∧ rm.slots = ms)
    (hd : y.cls ≠ "java/lang/invoke/MethodHandle" ∧ y.cls ≠ "java/lang/invoke/VarHandle" ∧ (parseMethodDescriptor y.desc).map (fun d => d.parameters.length) = some n) (hR : rm.frames + 1 ≤ R.frames ∧ 8 + (maxL + 11) + rm.locals ≤ R.locals) :
    CallB R s args own index y bytes maxL ret (Cond.code y bytes maxL ret :: GG) rm mc ms n := by
  refine ⟨hrm.1, hrm.2, hR.1, hR.2, fun w hw a' U hW => ?_, List.mem_cons_self, hg _ h4, hg _ h3, ⟨hd.1, hd.2.1⟩, fun sig h => ?_, hg _ h1⟩
  · rcases List.mem_cons.mp hw with h | h
    · subst h; exact GG_warm h4 hW (hg _ h4)
    · exact GG_warm h hW (hg _ h)
  · have h2 := hd.2.2
    rw [h] at h2
    exact (Option.some.inj h2).symm
theorem pm_G {n : Nat} (hx : p.tables.exec = Jvm.exec) (hb : c.code = cc) (hml : c.maxLocals = nL) (hown : s.vm.findClass own = some m.cls) (hg : ∀ w ∈ GG, w.before args s = true) (hl : lv_has ls nL lv) (hM : PM l y (Cond.code y bytes maxL ret :: GG) rm As P)
    (h1 : Cond.methodLink own index y ∈ GG) (h2 : Cond.static y ∈ GG) (h3 : Cond.initialized y.cls ∈ GG) (h4 : Cond.code y bytes maxL ret ∈ GG) (hrm : rm.cells = 0 ∧ rm.slots = 0)
    (hd : y.cls ≠ "java/lang/invoke/MethodHandle" ∧ y.cls ≠ "java/lang/invoke/VarHandle" ∧ (parseMethodDescriptor y.desc).map (fun d => d.parameters.length) = some n) (hn : As.length = n) (hR : rm.frames + 1 ≤ R.frames ∧ 8 + (maxL + 11) + rm.locals ≤ R.locals)
    (hst : st = As.reverse ++ rest) (hW : (rest.map fun v => v.category).sum ≤ 8) (hdg : decode cc pc = .ok (.invokestatic index, 3)) (hc : cells ≤ R.cells ∧ slots ≤ R.slots)
    (k : ∀ r, P r → W p l e R s m args below meth c H locs cells slots Q (F0 m (pc + 3) ls (r :: rest))) : W p l e R s m args below meth c H locs cells slots Q (F0 m pc ls st) :=
  pm_go (x_runS (Ts := GG) (As := As) (rest := rest) (g := F0 m pc ls st) ⟨hx, hb, hml, hown, hg⟩ hM ⟨g_callB hg h1 h3 h4 hrm hd hR, hg _ h2⟩ pm_pre rfl hn hl.1 hst (lv_room hW) hdg ⟨hc.1, hc.2⟩) k
theorem j_ldc2 {v : Int64} {z : Int} (hx : p.tables.exec = Jvm.exec) (hb : c.code = cc) (hown : s.vm.findClass own = some m.cls) (hg : ∀ w ∈ GG, w.before args s = true) (h : Cond.constantLong own index v ∈ GG) (hv : v = jl z) (hdg : decode cc pc = .ok (.ldc2_w index, 3))
    (k : W p l e R s m args below meth c H locs cells slots Q (F0 m (pc + 3) ls (.long (jl z) :: st))) : W p l e R s m args below meth c H locs cells slots Q (F0 m pc ls st) :=
  lv_ldc2 hx hb hown (hg _ h) hdg (by rw [hv]; exact k)
end PMGC
end PMG
theorem tm_0 {a b : Int} : a.tmod b = 0 ↔ b ∣ a := ⟨fun h => Int.dvd_of_tmod_eq_zero h, fun h => Int.tmod_eq_zero_of_dvd h⟩
theorem td_e {a b : Int} (h : b ∣ a) : a.tdiv b = a / b := Int.tdiv_eq_ediv_of_dvd h
theorem nar_0 : narrow .boolean (.int (ji 0)) = .int (ji 0) := rfl
theorem nar_1 : narrow .boolean (.int (ji 1)) = .int (ji 1) := rfl
