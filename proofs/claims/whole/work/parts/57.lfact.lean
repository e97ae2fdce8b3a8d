/-! ===== caught: one entry, its class resolved or not ===== -/
theorem fd_one {e : Env} {s : State} {f : JFrame} {a : Addr} {meth : Method} {code : Code} (hm : s.vm.method? f.method = some meth) (hc : meth.code = some code) {x : ExceptionTableEntry} (htab : code.exceptionTable.toList = [x]) (hx : covers x f.pc = true) (h0 : x.catchType ≠ 0) {c : ClassId} {cell : Cell} {kc : Class}
    (hl : s.vm.ClassLinks e.platform f.method.cls x.catchType c) (hcell : s.heap[a]? = some cell) (hv : cell.vm.isStatics = false) (hsame : cell.cls = c) (hkc : s.vm.classes[c]? = some kc) (hfit : s.vm.assignable c c = true)
    (Q : Handler → Pre) (E : CtlPost) (d : Bool) (acts : List Action) : wp (findHandler f a) Q E e d acts s ↔ Q (.found x.handlerPc) d acts (s.setVm (s.vm.noted f.method.cls x.catchType (.cls c))) := by
  subst hsame
  have al : s.vm.Alike (s.vm.noted f.method.cls x.catchType (.cls cell.cls)) := (Vm.Alike.refl s.vm).noted _ _ _
  obtain ⟨kc', hkc', -⟩ := al.2.2 _ _ hkc
  have hfit' : (s.vm.noted f.method.cls x.catchType (.cls cell.cls)).assignable cell.cls cell.cls = true := by rw [al.assignable]; exact hfit
  obtain ⟨hans, htb⟩ := (resolveClass_links e.toSetting hl).op (op := VmOp.resolveClass f.method.cls x.catchType) rfl
  have hno : ∀ k, cell.vm ≠ .statics k := fun k q => by rw [q] at hv; cases hv
  rw [W.findHandler_eq hm hc, htab]
  simp only [covers] at hx
  simp [findHandler.go, hx, h0, hans, htb, hcell, hno, hkc', hfit', VmOp.dirties, VmOp.acts]
theorem st_caught {p : Program} {l : Launch} {e : Env} {R : Room} {s : State} {m : MethodId} {args : Array Value} {below : List Frame} {meth : Method} {c : Code} {T : State} {locs : List Loc} {cells slots : Nat} (X : Stand p l e R s m args below meth c T locs cells slots)
    (a : Addr) {g : JFrame} (hg : g.method = m) {own name : String} (hown : s.vm.findClass own = some m.cls) {x : ExceptionTableEntry} (htab : c.exceptionTable.toList = [x]) (hx : covers x g.pc = true) (h0 : x.catchType ≠ 0)
    (hlink : (Cond.classLink own x.catchType name).before args s = true) {cell : Cell} (hcT : s.vm.findClass name = some cell.cls) (hcell : T.heap[a]? = some cell) (hv : cell.vm.isStatics = false) (hfit : s.vm.assignable cell.cls cell.cls = true) :
    ∃ vm', Stand p l e R s m args below meth c (T.setVm vm') locs cells slots ∧
      ∀ target, Steps p.tables e below ((T.setVm vm').setTop { g with pc := x.handlerPc, stack := [.ref a] }) target → Steps p.tables e below ((T.setTop g).pushFrame (.throwing a)) target := by
  subst hg
  have hpl : e.platform.magicAccessors = ({} : Platform).magicAccessors := by rw [X.admits.platform]
  obtain ⟨c', hc', hcl⟩ := Cond.classLink_spec hown hlink e.platform hpl
  cases hcT.symm.trans hc'
  obtain ⟨-, hW', -⟩ := State.classEntry (e := e) X.warmed hcl
  have hcl₀ := X.warmed.classLinks hcl
  obtain ⟨kc, hkc⟩ := Vm.classAt_of_findClass (show T.vm.findClass name = some cell.cls by rw [X.warmed.alike.findClass]; exact hcT)
  refine ⟨_, X.noted hW', fun target hrest => ?_⟩
  obtain ⟨hgo, hw⟩ := X.here.throwing a
  refine Steps.head hgo hw ?_
  rw [stepThread_throwing (frames_entered X.here.top _)]
  have hI : (stepThrowing e ((T.setTop g).pushFrame (.throwing a)) a (.java g :: T.frames.tail)).Is ((((T.setTop g).pushFrame (.throwing a)).setVm (T.vm.noted g.method.cls x.catchType (.cls cell.cls))).setFrames (.java { g with pc := x.handlerPc, stack := [.ref a] } :: T.frames.tail)) [] := by
    simp only [stepThrowing, searchFrame, vmDo]
    generalize hr : Sem.go _ e false [] ((T.setTop g).pushFrame (.throwing a)) = res
    obtain ⟨as, rfl, ha⟩ := Sem.eq_ok_of hr (a := Handler.found x.handlerPc) (s' := ((T.setTop g).pushFrame (.throwing a)).setVm (T.vm.noted g.method.cls x.catchType (.cls cell.cls))) (acts' := []) (by
      have hf := fd_one (e := e) (s := (T.setTop g).pushFrame (.throwing a)) (f := g) (a := a) X.method' X.code htab hx h0 (c := cell.cls) (cell := cell) hcl₀ hcell hv rfl hkc (show T.vm.assignable cell.cls cell.cls = true by rw [X.warmed.alike.assignable]; exact hfit)
      simp [hf _ _ _ _]
      try rfl)
    exact ⟨rfl, ha⟩
  rw [hI.1]
  obtain ⟨g₀, hg⟩ := Option.isSome_iff_exists.mp X.here.top
  obtain ⟨r, hr⟩ := State.topJava?_eq_some.mp hg
  have hr' : (T.setVm (T.vm.noted g.method.cls x.catchType (.cls cell.cls))).frames = .java g₀ :: r := hr
  rw [State.setTop_of_frames _ hr'] at hrest
  have e1 : ((((T.setTop g).pushFrame (.throwing a)).setVm (T.vm.noted g.method.cls x.catchType (.cls cell.cls))).setFrames (.java { g with pc := x.handlerPc, stack := [.ref a] } :: T.frames.tail)) = (T.setVm (T.vm.noted g.method.cls x.catchType (.cls cell.cls))).setFrames (.java { g with pc := x.handlerPc, stack := [.ref a] } :: r) := by
    rw [hr, List.tail_cons, State.pushFrame, State.setTop_of_frames _ hr, State.setFrames_setFrames]
    show ((T.setVm (T.vm.noted g.method.cls x.catchType (.cls cell.cls))).setFrames _).setFrames _ = _
    rw [State.setFrames_setFrames]
  rw [e1]
  exact hrest
def wsL_factT : List Cond := wsL_fact ++ (thA_ ++ [.classLink RL 13 "java/lang/ArrayIndexOutOfBoundsException"])
def rl_ (D : va_G) (tys : List (ClassId × FieldType)) (ws wo : va_W) (sa sz : Nat) (U : State) : Prop := U.heap.size = sz ∧ va_P D vwCl ws U.heap ∧ va_P D vwCl wo U.heap ∧ va_K D vwCl tys U ∧ va_D (fun _ => True) wo ∧ TH_ (va_A wo sz) sa U
theorem rl_blind {av : List Value} {D : va_G} {tys : List (ClassId × FieldType)} {ws wo : va_W} {sa sz : Nat} : FrameBlind (va_Pc av (rl_ D tys ws wo sa sz)) := fun a U g mk q => ⟨q.1, q.2.1, q.2.2.1, q.2.2.2.1, va_K.moved (u := U) (U := U.calling g mk a) (Vm.Alike.refl U.vm) q.2.2.2.2.1, q.2.2.2.2.2.1, q.2.2.2.2.2.2.calling⟩
theorem xt_one {L : List ExceptionTableEntry} {a b c d : Nat} (h : L.map (fun h => (h.startPc, h.endPc, h.handlerPc, h.catchType)) = [(a, b, c, d)]) : ∃ x : ExceptionTableEntry, L = [x] ∧ x.startPc = a ∧ x.endPc = b ∧ x.handlerPc = c ∧ x.catchType = d := by
  cases L with
  | nil => cases h
  | cons x t =>
    cases t with
    | nil =>
      simp only [List.map_cons, List.map_nil, List.cons.injEq, Prod.mk.injEq, and_true] at h
      exact ⟨x, rfl, h.1, h.2.1, h.2.2.1, h.2.2.2⟩
    | cons y z => simp at h
set_option maxHeartbeats 4000000 in
set_option maxRecDepth 100000 in
/-- the law's own fact(x, p0, out) -/
theorem c_L_fact (l : Launch) (hf : l.flags = pinnedFlags ++ [noTraceFlag]) (D : va_G) (cI cZ cJ : ClassId) (sa sz : Nat) (qx qa qb qh qw qf qu qg qm qn qo ql qs qp qr qo : Nat) (n : Nat) (Bd Hd Wt Fx : Nat → Int32) (g : Nat) (ck qk : Int32) (hc : CO_ n Bd Hd Fx g) (x : Int32) (f : Nat → Int64) : Met l yL_fact wsL_factT ({ frames := 8, cells := 1, slots := 6, locals := 126 } : Room) (va_Pc [.ref qx, .int x, .ref qo] (rl_ D [(cI, .int), (cZ, .boolean), (cJ, .long)] [(qx, .inr (4, [.ref qa, .ref qm, .ref ql, .ref qp, .int (nI g), .int ck, .int qk])), (qa, .inr (1, [.ref qb, .ref qh, .ref qw, .ref qf, .int (nI n), .ref qu, .ref qg])), (qb, .inl (cI, 14, .inl Bd)), (qh, .inl (cI, 14, .inl Hd))] [(qo, .inl (cJ, 1, .inr (.inl f)))] sa sz)) (va_Qi (S := Nat → Int64) (fun r u => ∃ w, qf_ (fl_ n Bd Hd) x r w ∧ (r = 0 → u 0 = Int32.toInt64 w)) (fun u => wd_ D [(cI, .int), (cZ, .boolean), (cJ, .long)] (va_A [(qo, .inl (cJ, 1, .inr (.inl f)))] sz) [(qo, .inl (cJ, 1, .inr (.inl u)))]) (va_A [(qo, .inl (cJ, 1, .inr (.inl f)))] sz)) 1 6 (va_A [(qo, .inl (cJ, 1, .inr (.inl f)))] sz) := by
  refine Met_ofWW (cc := cL_fact) (maxL := 4) (ret := (some .int)) (hd := [(0, 9, 12, 13)]) (by decide) rfl ?_
  intro p e s m args below meth c s₁ B hml hxt hv
  obtain ⟨rfl, hsz, hPx, hPo, hK, hD0, hT⟩ := hv
  have hx := B.exec
  have hb := B.bytes
  have hr := B.returns
  have htT := atoms_spec (ws := wsL_factT) B.pre
  have hts : ∀ w ∈ wsL_fact, w.before [Value.ref qx, .int x, .ref qo].toArray s = true := fun w h => htT w (List.mem_append_left _ h)
  have hown : s.vm.findClass RL = some m.cls := findClass_of_methodNamed B.named
  have hlocks := B.notSynchronized
  subst hsz
  have hD := hD0.self (sz := s.heap.size)
  generalize hAe : va_A [(qo, .inl (cJ, 1, .inr (.inl f)))] s.heap.size = A at hD hT ⊢
  have hA : ∀ q : Nat, s.heap.size ≤ q → A q := fun q h => by rw [← hAe]; exact Or.inr h
  have hS : va_S A s.heap s.heap [] := va_S.rf
  have hl := lv_entry ([.ref qx, .int x, .ref qo]) (n := 4) (Nat.le_of_ble_eq_true rfl)
  rw [lg_entry_eq]
  generalize (lg_sl ([.ref qx, .int x, .ref qo]) ++ List.replicate (4 - (lg_sl ([.ref qx, .int x, .ref qo])).length) Slot.unset).toArray = ls at hl ⊢
  have hl : lv_has ls 4 [(0, .ref qx), (1, .int x), (2, .ref qo)] := hl
  have k7 : ∀ r : Int32, qf_ (fl_ n Bd Hd) x 0 r → W p l e (headSpec wsL_factT ({ frames := 8, cells := 1, slots := 6, locals := 126 } : Room)).room s m ([.ref qx, .int x, .ref qo] : List Value).toArray below meth c s.heap [] 1 6 (MQ below (va_Qi (S := Nat → Int64) (fun r u => ∃ w, qf_ (fl_ n Bd Hd) x r w ∧ (r = 0 → u 0 = Int32.toInt64 w)) (fun u => wd_ D [(cI, .int), (cZ, .boolean), (cJ, .long)] A [(qo, .inl (cJ, 1, .inr (.inl u)))]) A) ([.ref qx, .int x, .ref qo] : List Value).toArray s 1 6 A) (F0 m 7 ls [.int r, .int (nI 0), .ref qo]) := by
    intro r hq
    refine lv_i2l (v := Int32.toInt64 r) hx hb dL_fact_7 rfl ?_
    refine r_last hx hb hK hPo hD hS 0 2 rfl rfl 0 (by omega) (by omega) dL_fact_8 (fun H locs hP hD hS => ?_)
    refine lv_goto (tgt := 15) hx hb dL_fact_9 (by decide) ?_
    refine lv_iconst (v := 0) hx hb dL_fact_15 (by decide +kernel) ?_
    exact W.iret (v := 0) hx hb hr (fun t ht hW => ⟨⟨0, vp_updL f 0 (Int32.toInt64 r), rfl, ⟨r, hq, fun _ => rfl⟩, by rw [ht]; exact hP, va_K.moved hW.alike hK, hD⟩, hS.F ht⟩) hS.2.2 dL_fact_16
  have k12 : ∀ (H1 : Heap) (xa : Nat), s.heap.size ≤ H1.size → (∀ q : Nat, q < s.heap.size → H1[q]? = s.heap[q]?) → qf_ (fl_ n Bd Hd) x 1 0 → W p l e (headSpec wsL_factT ({ frames := 8, cells := 1, slots := 6, locals := 126 } : Room)).room s m ([.ref qx, .int x, .ref qo] : List Value).toArray below meth c H1 [] 1 6 (MQ below (va_Qi (S := Nat → Int64) (fun r u => ∃ w, qf_ (fl_ n Bd Hd) x r w ∧ (r = 0 → u 0 = Int32.toInt64 w)) (fun u => wd_ D [(cI, .int), (cZ, .boolean), (cJ, .long)] A [(qo, .inl (cJ, 1, .inr (.inl u)))]) A) ([.ref qx, .int x, .ref qo] : List Value).toArray s 1 6 A) (F0 m 12 ls [.ref xa]) := by
    intro H1 xa z1 o1 hq
    have hP1 := hPo.kept (H1 := H1) (fun k y hy => o1 y.1 ((hPo k y hy).lt))
    have hS1 : va_S A s.heap H1 [] := ⟨z1, fun q h1 _ => o1 q h1, fun q h => by cases h⟩
    refine lv_astore_n (lv' := [(3, .ref xa)]) hx hb dL_fact_12 rfl (lv_sub hl [] rfl) (by decide) rfl (fun ls hl => ?_)
    refine lv_iconst (v := 1) hx hb dL_fact_13 (by decide +kernel) ?_
    exact W.iret (v := 1) hx hb hr (fun t ht hW => ⟨⟨1, f, rfl, ⟨0, hq, fun z => absurd z (by decide)⟩, by rw [ht]; exact hP1, va_K.moved hW.alike hK, hD⟩, hS1.F ht⟩) hS1.2.2 dL_fact_14
  refine lv_aload_n hx hb dL_fact_0 rfl (lv_at hl 2 rfl) ?_
  refine lv_iconst (v := (nI 0)) hx hb dL_fact_1 (by decide +kernel) ?_
  refine lv_aload_n hx hb dL_fact_2 rfl (lv_at hl 0 rfl) ?_
  refine lv_iload_n hx hb dL_fact_3 rfl (lv_at hl 1 rfl) ?_
  intro T hTh X
  have hinst : (Cond.instanceMethod yX3_fact).before [Value.ref qx, .int x, .ref qo].toArray s = true := hts _ (by decide +kernel)
  have hcode : (Cond.code yX3_fact cX3_fact 4 (some .int)).before [Value.ref qx, .int x, .ref qo].toArray s = true := hts _ (by decide +kernel)
  have hsel : (Cond.selects RX3 yX3_fact yX3_fact).before [Value.ref qx, .int x, .ref qo].toArray s = true := hts _ (by decide +kernel)
  have hlink : (Cond.methodLink RL 7 yX3_fact).before [Value.ref qx, .int x, .ref qo].toArray s = true := hts _ (by decide +kernel)
  have hini : (Cond.initialized RX3).before [Value.ref qx, .int x, .ref qo].toArray s = true := hts _ (by decide +kernel)
  have hy : yX3_fact.cls ≠ "java/lang/invoke/MethodHandle" ∧ yX3_fact.cls ≠ "java/lang/invoke/VarHandle" := by decide
  obtain ⟨mk, methM, hnamed, hmethM, hstM, habM⟩ := Cond.instanceMethod_spec hinst
  obtain ⟨methM', cM, hmethM', hcM, -, hmM, -, -, -, hsigM⟩ := Cond.code_spec hnamed hcode
  cases hmethM.symm.trans hmethM'
  obtain ⟨c2, r2, m2, q1, q2, q3, q4, kP, hkP, hkPi⟩ := Cond.selects_spec hsel
  obtain ⟨cellB, hcB, hoB, hclB⟩ := va_recv (q := (RX3, TX3, 7)) hK hPx (ci := 4) (q0 := 0) rfl rfl
  cases hclB.symm.trans q1
  cases (State.methodFound?_of_named hnamed hy).symm.trans q2
  cases hnamed.symm.trans q3
  have hselP : selectMethod e.platform s.vm cellB.cls mk = .method mk := by rw [Launch.admits_selectMethod X.admits]; exact q4
  have hlen : ([Value.int x] : List Value).length = methM.sig.parameters.length := by
    have h0 : parseMethodDescriptor yX3_fact.desc = some ⟨[.int], some .int⟩ := by decide +kernel
    rw [h0] at hsigM
    rw [← Option.some.inj hsigM]
    rfl
  obtain ⟨vm₁, X₁, hstep₁⟩ := X.invokevirtual hx hown hlink hnamed hmethM hstM hkP hkPi hy (a := qx) (cell := cellB) (by rw [hTh]; exact hcB)
    (fun z h => by rw [h] at hoB; cases hoB) hselP hmethM habM hkP hkPi (g := F0 m 4 ls [.int x, .ref qx, .int (nI 0), .ref qo]) rfl (argsL := [.int x]) (rest := [.int (nI 0), .ref qo]) hlen rfl (by rw [hb]; exact dL_fact_4)
  have hinitP : kP.init = .initialized := Cond.initialized_spec (findClass_of_methodNamed hnamed) hkP hini
  obtain ⟨k1, hk1, ek⟩ := X₁.warmed.alike.2.2 _ _ hkP
  have hwsX : ∀ w ∈ wsX3_factT, ∀ (a' : Array Value) (U : State), s.WarmedH U.vm → w.before a' U = true := by
    intro w hw a' U hW
    rcases List.mem_append.mp hw with h | h
    · exact pay_in hts ggL_fact_X3_fact w h a' U hW
    · exact word_at hW (thA_good w h).2 (htT w (List.mem_append_right _ (List.mem_append_left _ h)))
  have hT1 : TH_ (fun _ => False) sa (T.setVm vm₁) := hT.go (B := fun _ => False) hS (fun _ q => q.elim) hTh X₁.warmed
  obtain ⟨o, t, st1, hend, hq⟩ := fr_call X₁ (c_X3_fact l hf D cI cZ cJ sa qx qa qb qh qw qf qu qg qm qn qo ql qs qp qr n Bd Hd Wt Fx g ck qk hc x) (g := F0 m 4 ls [.int (nI 0), .ref qo]) rfl (hl.1.trans hml.symm) (by rw [hb]; exact dL_fact_4) (a := [Value.ref qx, .int x].toArray) (X₁.named hnamed)
    (show (T.setVm vm₁).vm.method? mk = some methM by rw [X₁.warmed.alike.method?]; exact hmethM) hcM hk1 (by rw [ek]; exact hinitP) (Nat.le_of_ble_eq_true rfl) (by rw [hmM]; exact Nat.le_of_ble_eq_true rfl) (Nat.le_of_ble_eq_true rfl) (Nat.le_of_ble_eq_true rfl)
    (atoms_intro fun w hw => hwsX w hw _ _ X₁.warmed) ⟨rfl, by show va_P D vwCl _ T.heap; rw [hTh]; exact hPx, va_K.moved X₁.warmed.alike hK, hT1.calling⟩
  have go1 : ∀ tg, Steps p.tables e below t tg → Steps p.tables e below (T.setTop (F0 m 4 ls [.int x, .ref qx, .int (nI 0), .ref qo])) tg := fun tg h => hstep₁ _ fun acts => by rw [doInvoke_state]; exact Steps.trans st1 h
  rcases hq with ⟨r, rfl, ⟨hq, hh⟩, -, hW1, hsame⟩ | ⟨xa, rfl, ⟨hq, hxa, ce, hce, hcv, hcf, hca⟩, hW1, hsame⟩
  · obtain ⟨T', X', hW', hsame', et⟩ := X₁.outOf (g := F0 m 4 ls [.int (nI 0), .ref qo]) rfl (by rw [hb]; exact dL_fact_4) hend hW1 hsame
    have e1 : T'.heap = s.heap := by
      have e2 : t.heap = T'.heap := by rw [et]; rfl
      rw [← e2, hh]; exact hTh
    obtain ⟨t2, a2, b2⟩ := k7 r hq T' e1 X'
    exact ⟨t2, go1 _ (by rw [et]; exact a2), b2⟩
  · obtain ⟨T', X', hW', hsame', et⟩ := X₁.outOfThrown (g := F0 m 4 ls [.int (nI 0), .ref qo]) rfl hend hW1 hsame
    have e2 : t.heap = T'.heap := by rw [et]; exact Stand.throwing_heap _ _ _
    have o1 : ∀ q : Nat, q < s.heap.size → T'.heap[q]? = s.heap[q]? := fun q h => by
      have := same_cells hsame' q (by show q < T.heap.size; rw [hTh]; exact h)
      rw [← hTh]; exact this
    have z1 : s.heap.size ≤ T'.heap.size := by rw [← hTh]; exact hsame'.2.1
    obtain ⟨xe, hxe, x1, x2, x3, x4⟩ := xt_one hxt
    have hcf' : s.vm.findClass "java/lang/ArrayIndexOutOfBoundsException" = some ce.cls := by rw [← X₁.warmed.alike.findClass]; exact hcf
    have hca' : s.vm.assignable ce.cls ce.cls = true := by rw [← X₁.warmed.alike.assignable]; exact hca
    obtain ⟨vm2, X2, go2⟩ := st_caught X' xa (g := F0 m 4 ls [.int (nI 0), .ref qo]) rfl (own := RL) (name := "java/lang/ArrayIndexOutOfBoundsException") hown hxe (by simp [covers, x1, x2]) (by rw [x4]; decide) (by rw [x4]; exact htT _ (List.mem_append_right _ (List.mem_append_right _ List.mem_cons_self))) hcf' (cell := ce) (by rw [← e2]; exact hce) (by rw [hcv]; rfl) hca'
    obtain ⟨t2, a2, b2⟩ := k12 T'.heap xa z1 o1 hq (T'.setVm vm2) rfl X2
    refine ⟨t2, go1 _ ?_, b2⟩
    rw [et]
    refine go2 _ ?_
    rw [x3]
    exact a2
