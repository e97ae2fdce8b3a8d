/-! ===== a call by a contract that says how it ends ===== -/
theorem fr_call {p : Program} {l : Launch} {e : Env} {R : Room} {s : State} {m : MethodId} {args : Array Value} {below : List Frame} {meth : Method} {c : Code} {T : State} {locs : List Loc} {cells slots : Nat} (X : Stand p l e R s m args below meth c T locs cells slots)
    {y : MethodName} {S : Spec} {P : Array Value → State → Prop} {Q : Array Value → State → Outcome → State → Prop} (hM : MetFree l y S P (fun _ _ _ _ _ => True) Q) {g : JFrame} (hg : g.method = m) (hsize : g.locals.size = c.maxLocals) {ig : Instr} {len : Nat} (hdg : decode c.code g.pc = .ok (ig, len))
    {mk : MethodId} {methY : Method} {cY : Code} {kY : Class} {a : Array Value} (hn : T.methodNamed? y = some mk) (hmY : T.vm.method? mk = some methY) (hcY : methY.code = some cY) (hkY : T.vm.classes[mk.cls]? = some kY) (hinit : kY.init = .initialized)
    (hframes : S.room.frames + 1 ≤ R.frames) (hlocals : 2 * g.monitorRoom + (g.stack.map fun v => v.category).sum + (cY.maxLocals + 11) + S.room.locals ≤ R.locals) (hcells : cells + S.room.cells ≤ R.cells) (hslots : slots + S.room.slots ≤ R.slots)
    (hpre : S.pre.before a T = true) (hP : P a (T.calling g mk a)) :
    ∃ o t, Steps p.tables e below (doInvoke e (T.setTop g) [] mk a).1 t ∧ Ended t (.java g :: below) o ∧ Q a (T.calling g mk a) o t := by
  have h : At T g.method c below := by rw [hg]; exact X.here
  have happ : S.appliesLoose y e.platform (T.calling g mk a) = true :=
    Spec.appliesLoose_calling (g := g) h hdg hn hkY hinit (X.room_calling (g := g) (R' := S.room) hsize hmY hcY hframes hlocals hcells hslots) hpre
  obtain ⟨mid, hmid⟩ := h.above
  have hfr : (T.setTop g).frames = (.java g :: mid) ++ below := by rw [State.frames_setTop' g h.top, hmid]; rfl
  obtain ⟨o, s₂, hsteps, -, hend, hq⟩ := Steps.callFree hM p X.admits X.cas X.clock (acts := []) hfr happ hP trivial
  rw [State.frames_setTop' g h.top, X.tail] at hend
  exact ⟨o, s₂, hsteps, hend, hq⟩
theorem Met_ofWW {l : Launch} {y : MethodName} {ws ws' : List Cond} {rm : Room} {Pc : Array Value → State → Prop} {Qc : Array Value → State → Outcome → State → Prop} {mc ms : Nat} {free : Addr → Prop} {cc : ByteArray} {maxL : Nat} {ret : Option FieldType} {hd : List (Nat × Nat × Nat × Nat)}
    (hy : plainName y.cls = true) (hw : ws = Cond.codeWith y cc maxL ret hd :: ws')
    (body : ∀ p e s m args below meth c s₁, BodyLoose p l y (headSpec ws rm) cc maxL ret e s m args below meth c s₁ → c.maxLocals = maxL → c.exceptionTable.toList.map (fun h => (h.startPc, h.endPc, h.handlerPc, h.catchType)) = hd → Pc args s →
      W p l e (headSpec ws rm).room s m args below meth c s.heap [] 0 0 (MQ below Qc args s mc ms free) (entryFrame m args maxL)) : Met l y ws rm Pc Qc mc ms free := by
  refine MetFree.of_bodyS (code := cc) (maxLocals := maxL) (ret := ret) hy ?_ ?_
  · intro args s m h hn
    obtain ⟨m', meth, c, h0, h1, h2, h3, h4, -, h5, h6, -⟩ := Cond.codeWith_spec (atoms_spec (ws := ws) h _ (by rw [hw]; exact List.mem_cons_self))
    cases hn.symm.trans h0
    exact ⟨meth, c, h1, h2, h3, h4, h5, h6⟩
  · intro p e s m args below meth c s₁ B hml hP _
    have hh0 : s₁.heap = s.heap := by rw [B.state]; rfl
    have X := Stand.of_body B
    obtain ⟨m', meth', c', h0, h1, h2, -, -, h7, -, -, -⟩ := Cond.codeWith_spec (atoms_spec (ws := ws) B.pre _ (by rw [hw]; exact List.mem_cons_self))
    cases B.named.symm.trans h0
    cases B.method.symm.trans h1
    cases X.code.symm.trans h2
    obtain ⟨t, a1, o, b1, b2, b3, b4⟩ := body p e s m args below meth c s₁ B hml h7 hP s₁ hh0 X
    exact ⟨t, o, a1, b1, b2, b3, b4⟩
/-- a static call of a method that has handlers -/
theorem va_runSW {p : Program} {l : Launch} {e : Env} {R : Room} {s : State} {m : MethodId} {args : Array Value} {below : List Frame} {meth : Method} {c : Code} {H : Heap} {locs : List Loc} {cells slots : Nat}
    {y : MethodName} {bytes cc : ByteArray} {maxL nL mc ms index : Nat} {ret : Option FieldType} {hd : List (Nat × Nat × Nat × Nat)} {ws : List Cond} {rm : Room} {Pc : Array Value → State → Prop} {Qc : Array Value → State → Outcome → State → Prop} {free : Addr → Prop} {own : String} {As rest : List Value} {g : JFrame}
    (hx : p.tables.exec = Jvm.exec) (hb : c.code = cc) (hml : c.maxLocals = nL) (hown : s.vm.findClass own = some m.cls) (hM : Met l y ws rm Pc Qc mc ms free)
    (hws : ∀ w ∈ ws, ∀ (a' : Array Value) (U : State), s.WarmedH U.vm → w.before a' U = true)
    (hcode : (Cond.codeWith y bytes maxL ret hd).before args s = true) (hstat : (Cond.static y).before args s = true) (hini : (Cond.initialized y.cls).before args s = true) (hlink : (Cond.methodLink own index y).before args s = true)
    (hy : y.cls ≠ "java/lang/invoke/MethodHandle" ∧ y.cls ≠ "java/lang/invoke/VarHandle") (hlen : ∀ sig, parseMethodDescriptor y.desc = some sig → As.length = sig.parameters.length)
    (hrc : rm.cells = mc) (hrs : rm.slots = ms) (hfr : rm.frames + 1 ≤ R.frames) (hlo : 8 + (maxL + 11) + rm.locals ≤ R.locals)
    (hPc : ∀ U : State, U.heap = H → s.WarmedH U.vm → Pc As.toArray U) (hblind : FrameBlind Pc)
    (hg : g.method = m) (hsize : g.locals.size = nL) (hstack : g.stack = As.reverse ++ rest) (hW : 2 * g.monitorRoom + (rest.map fun v => v.category).sum ≤ 8) (hdg : decode cc g.pc = .ok (.invokestatic index, 3)) (hf : cells + mc ≤ R.cells ∧ slots + ms ≤ R.slots) :
    va_Run p l e R s m args below meth c H locs cells slots mc ms g rest (Qc As.toArray) free := by
  intro T hT X
  obtain ⟨mk, methM, cM, hnamed, hmethM, hcM, -, hmM, -, -, -, hsigM⟩ := Cond.codeWith_spec hcode
  have hstatic : methM.isStatic = true := Cond.static_spec hnamed hmethM hstat
  obtain ⟨kP, hkP, -⟩ := className_of_methodNamed hnamed
  have hinitP : kP.init = .initialized := Cond.initialized_spec (findClass_of_methodNamed hnamed) hkP hini
  obtain ⟨vm₁, X₁, hstep₁⟩ := X.invokestatic hx hown hlink hnamed hmethM hstatic hkP hinitP hy (g := g) hg (argsL := As) (rest := rest) (hlen _ hsigM) hstack (by rw [hb]; exact hdg)
  obtain ⟨k1, hk1, ek⟩ := X₁.warmed.alike.2.2 _ _ hkP
  obtain ⟨o, t, st1, hend, hq, L, ⟨⟨v, rfl⟩, hW1, hsame⟩, hL⟩ := fr_call X₁ (S := headSpec ws rm) hM (g := { g with stack := rest }) hg (hsize.trans hml.symm) (by rw [hb]; exact hdg) (a := As.toArray) (X₁.named hnamed)
    (show (T.setVm vm₁).vm.method? mk = some methM by rw [X₁.warmed.alike.method?]; exact hmethM) hcM hk1 (by rw [ek]; exact hinitP) hfr (by
      show 2 * g.monitorRoom + (rest.map fun v => v.category).sum + (cM.maxLocals + 11) + rm.locals ≤ R.locals
      rw [hmM]
      omega) (by rw [show (headSpec ws rm).room.cells = mc from hrc]; exact hf.1) (by rw [show (headSpec ws rm).room.slots = ms from hrs]; exact hf.2)
    (atoms_intro fun w hw => hws w hw _ _ X₁.warmed) (hblind _ _ _ _ (hPc _ hT X₁.warmed))
  obtain ⟨T', X', hW', hsame', et⟩ := X₁.outOf (g := { g with stack := rest }) hg (by rw [hb]; exact hdg) hend hW1 hsame
  refine ⟨v, _, t, T', L, ?_, X', hL, by rw [et]; rfl, by rw [et]; rfl, hq, fun target h => hstep₁ _ fun acts => ?_⟩
  · exact hT
  · rw [doInvoke_state]
    refine Steps.trans st1 ?_
    rw [et]
    exact h
