def rt_ (D : va_G) (tys : List (ClassId × FieldType)) (ws : va_W) (sa : Nat) (U : State) : Prop := va_P D vwCl ws U.heap ∧ va_K D vwCl tys U ∧ TH_ (fun _ => False) sa U
theorem rt_blind {av : List Value} {D : va_G} {tys : List (ClassId × FieldType)} {ws : va_W} {sa : Nat} : FrameBlind (va_Pc av (rt_ D tys ws sa)) := fun a U g mk q => ⟨q.1, q.2.1, va_K.moved (u := U) (U := U.calling g mk a) (Vm.Alike.refl U.vm) q.2.2.1, q.2.2.2.calling⟩
def Qr_ (n : Nat) (B Hd : Nat → Int32) (x : Int32) (st : State) (r : Int32) (t : State) : Prop := qf_ (fl_ n B Hd) x 0 r ∧ t.heap = st.heap
def Qt_ (n : Nat) (B Hd : Nat → Int32) (x : Int32) (st : State) (xa : Addr) (t : State) : Prop := qf_ (fl_ n B Hd) x 1 0 ∧ st.heap.size ≤ xa ∧ ∃ ce : Cell, t.heap[xa]? = some ce ∧ ce.vm = .none ∧ st.vm.findClass "java/lang/ArrayIndexOutOfBoundsException" = some ce.cls ∧ st.vm.assignable ce.cls ce.cls = true
def QW_ (below : List Frame) (args : Array Value) (s : State) (mc ms : Nat) (Qr : State → Int32 → State → Prop) (Qt : State → Addr → State → Prop) : State → Prop := fun t => ∃ o, t.status = .running ∧ Ended t below o ∧ QT_ mc ms Qr Qt args s o t
theorem fx_ret {p : Program} {l : Launch} {e : Env} {R : Room} {s : State} {m : MethodId} {args : Array Value} {below : List Frame} {meth : Method} {c : Code} {H : Heap} {cc : ByteArray} {pc : Nat} {ls : Array Slot} {mc ms : Nat} {Qr : State → Int32 → State → Prop} {Qt : State → Addr → State → Prop} {v : Int32} (hx : p.tables.exec = Jvm.exec) (hb : c.code = cc) (hr : meth.sig.returnType = some .int) (hlocks : meth.locks = false)
    (hq : ∀ t : State, t.heap = H → s.WarmedH t.vm → Qr s v t) (hdg : decode cc pc = .ok (.ireturn, 1)) : W p l e R s m args below meth c H [] 0 0 (QW_ below args s mc ms Qr Qt) (F0 m pc ls [.int v]) := by
  refine W.widen (k := mc) (n := ms) (Nat.zero_le _) (Nat.zero_le _) ?_
  refine W_mono (Q := MQ below (fun _ st o t => o = .returned (some (.int v)) ∧ Qr st v t) args s mc ms (fun _ => False)) ?_ (W.iret (v := v) hx hb hr (fun t ht hW => ⟨rfl, hq t ht hW⟩) (fun q h => by cases h) hdg)
  intro t ⟨o, h1, h2, ⟨h3, h4⟩, L, h5, h6⟩
  have hL : L = [] := by
    cases L with
    | nil => rfl
    | cons a b => exact (h6 a List.mem_cons_self).elim
  subst hL
  exact ⟨o, h1, h2, Or.inl ⟨v, h3, h4, h5⟩⟩
set_option maxHeartbeats 4000000 in
set_option maxRecDepth 100000 in
/-- fact(x) -/
theorem c_X3_fact (l : Launch) (hf : l.flags = pinnedFlags ++ [noTraceFlag]) (D : va_G) (cI cZ cJ : ClassId) (sa : Nat) (qx qa qb qh qw qf qu qg qm qn qo ql qs qp qr : Nat) (n : Nat) (Bd Hd Wt Fx : Nat → Int32) (g : Nat) (ck qk : Int32) (hc : CO_ n Bd Hd Fx g) (x : Int32) : MetFree l yX3_fact (headSpec wsX3_factT ({ frames := 7, cells := 1, slots := 6, locals := 103 } : Room)) (va_Pc [.ref qx, .int x] (rt_ D [(cI, .int), (cZ, .boolean), (cJ, .long)] [(qx, .inr (4, [.ref qa, .ref qm, .ref ql, .ref qp, .int (nI g), .int ck, .int qk])), (qa, .inr (1, [.ref qb, .ref qh, .ref qw, .ref qf, .int (nI n), .ref qu, .ref qg])), (qb, .inl (cI, 14, .inl Bd)), (qh, .inl (cI, 14, .inl Hd))] sa)) (fun _ _ _ _ _ => True) (QT_ 1 6 (Qr_ n Bd Hd x) (Qt_ n Bd Hd x)) := by
  refine MetT_ofW (cc := cX3_fact) (maxL := 4) (ret := (some .int)) (by decide) rfl ?_
  intro p e s m args below meth c s₁ B hml hv
  obtain ⟨rfl, hP, hK, hT⟩ := hv
  have hx := B.exec
  have hb := B.bytes
  have hr := B.returns
  have htT := atoms_spec (ws := wsX3_factT) B.pre
  have hts : ∀ w ∈ wsX3_fact, w.before [Value.ref qx, .int x].toArray s = true := fun w h => htT w (List.mem_append_left _ h)
  have hown : s.vm.findClass RX3 = some m.cls := findClass_of_methodNamed B.named
  have hlocks := B.notSynchronized
  have iX3 : ∀ w ∈ u_ws RX3 TX3 7, w ∈ wsX3_fact := by decide +kernel
  obtain ⟨hn, hg, hok0, hF⟩ := id hc
  have hok : ∀ a, a < n → uI_ (Hd a) < 24 := fun a ha => (hok0 a ha).2
  have hF24 : uI_ (cf_ n Bd Hd (-1) n) < 16777216 := cf_lt hok (-1) n
  have h32 : (fl_ n Bd Hd).length ≤ 32 := on_len _ 32 0
  have hl := lv_entry ([.ref qx, .int x]) (n := 4) (Nat.le_of_ble_eq_true rfl)
  rw [lg_entry_eq]
  generalize (lg_sl ([.ref qx, .int x]) ++ List.replicate (4 - (lg_sl ([.ref qx, .int x])).length) Slot.unset).toArray = ls at hl ⊢
  have hl : lv_has ls 4 [(0, .ref qx), (1, .int x)] := hl
  have thr : ∀ (ls : Array Slot), lv_has ls 4 [] → qf_ (fl_ n Bd Hd) x 1 0 → W p l e (headSpec wsX3_factT ({ frames := 7, cells := 1, slots := 6, locals := 103 } : Room)).room s m ([.ref qx, .int x] : List Value).toArray below meth c s.heap [] 0 0 (QW_ below ([.ref qx, .int x] : List Value).toArray s 1 6 (Qr_ n Bd Hd x) (Qt_ n Bd Hd x)) (F0 m 21 ls []) := by
    intro ls hl hq
    refine W.newc (own := "LeastSets") (C := "java/lang/ArrayIndexOutOfBoundsException") (index := 112) (n := 6) hx hb hown (hts _ (by decide +kernel : Cond.classLink RX3 112 RJx00060 ∈ wsX3_fact)) (hts _ (by decide +kernel : Cond.instantiable RJx00060 6 ∈ wsX3_fact)) (hts _ (by decide +kernel : Cond.initialized RJx00060 ∈ wsX3_fact)) (g := F0 m 21 ls []) rfl dX3_fact_21 (Nat.le_of_ble_eq_true rfl) (Nat.le_of_ble_eq_true rfl) (fun cC kC h1 h2 h3 h4 => ?_)
    refine W.eq (g2 := F0 m 24 ls [.ref s.heap.size]) rfl ?_
    refine lv_dup hx hb dX3_fact_24 rfl ?_
    refine va_ldcS hx hb hown hT.2.2.1 dX3_fact_25 ?_
    intro T hTh X
    have htr : e.platform.stackTraces = false := Launch.traces_off hf X.admits
    obtain ⟨U, hsteps, hrun, hend, hW, hsame, ce, hce, K⟩ := X.ctorThrowS hx htr (own := "LeastSets") (cls := "java/lang/ArrayIndexOutOfBoundsException") (names := upN_) (ic := 116) hown (by decide +kernel) (by decide +kernel) (hT.words (fun w h => htT w (List.mem_append_right _ h))) (fun y hy => by cases hy) h1 h2 (a := s.heap.size) (by rw [hTh]; exact Array.getElem?_push_size) (Nat.le_refl _) (msg := .ref sa) rfl (g := F0 m 27 ls [.ref sa, .ref s.heap.size, .ref s.heap.size]) rfl (hl.1.trans hml.symm) rfl rfl (rest := []) rfl (by rw [hb]; exact dX3_fact_27) (by rw [hb]; exact dX3_fact_30) (covers_of_empty (B.noHandlers (hts _ (by decide +kernel : Cond.code yX3_fact cX3_fact 4 (some .int) ∈ wsX3_fact))) _) (Nat.lt_of_lt_of_le (Nat.lt_of_sub_eq_succ rfl) (Nat.le_refl 7)) (Nat.le_of_ble_eq_true rfl)
    exact ⟨U, hsteps, .threw s.heap.size, hrun, hend, Or.inr ⟨s.heap.size, rfl, ⟨hq, Nat.le_refl _, ce, hce, K.vm, K.cls, K.self⟩, hW, hsame⟩⟩
  have loop : ∀ (d : Nat) (k m0 : Nat) (y : Int32) (ls : Array Slot), m0 < k + d → k ≤ m0 → m0 < (fl_ n Bd Hd).length → x = nI m0 → uI_ y < 2147483648 → on_ (bt y) 0 32 = (fl_ n Bd Hd).drop k → lv_has ls 4 [(3, .int (nI k)), (2, .int y), (0, .ref qx), (1, .int (nI m0))] → W p l e (headSpec wsX3_factT ({ frames := 7, cells := 1, slots := 6, locals := 103 } : Room)).room s m ([.ref qx, .int x] : List Value).toArray below meth c s.heap [] 0 0 (QW_ below ([.ref qx, .int x] : List Value).toArray s 1 6 (Qr_ n Bd Hd x) (Qt_ n Bd Hd x)) (F0 m 33 ls []) := by
    intro d
    induction d with
    | zero => intro k m0 y ls h1 h2; omega
    | succ d ih =>
      intro k m0 y ls h1 h2 h3 ex hu hd hl
      refine lv_iload_n hx hb dX3_fact_33 rfl (lv_at hl 0 rfl) ?_
      refine lv_iload_n hx hb dX3_fact_34 rfl (lv_at hl 3 rfl) ?_
      refine r_ige hx hb (tgt := 50) (by omega) (by omega) dX3_fact_35 (by decide) (fun c_35 => ?_) (fun c_35 => ?_)
      · have hs := List.drop_eq_getElem_cons (show k < (fl_ n Bd Hd).length by omega)
        rw [hs] at hd
        obtain ⟨-, -, g3, g4, g5⟩ := low_onI hu hd
        refine lv_iload_n hx hb dX3_fact_50 rfl (lv_at hl 1 rfl) ?_
        refine lv_i2l (v := (Int32.toInt64 y)) hx hb dX3_fact_51 rfl ?_
        refine vp_callSi (va_runS (As := [.long (Int32.toInt64 y)]) (rest := []) ⟨hx, hb, hml, hown, hts⟩ (c_X3_lowestPlace l (Int32.toInt64 y)) (va_cwS 1 hts gX3_fact_X3_lowestPlace rfl rfl rfl (by decide +kernel) ⟨Nat.le_of_ble_eq_true rfl, Nat.le_of_ble_eq_true rfl⟩) ⟨no_blind, no_pre trivial⟩ rfl rfl hl.1 rfl (lv_room (Nat.le_of_ble_eq_true rfl)) dX3_fact_52 ⟨Nat.le_of_ble_eq_true rfl, Nat.le_of_ble_eq_true rfl⟩).run (fun r_52 hr_52 => ?_)
        have ek : k = m0 := by omega
        subst ek
        have hq := qf_drop hs
        exact fx_ret hx hb hr hlocks (fun t ht hW => ⟨Or.inl ⟨rfl, k, h3, ex, by rw [hr_52, g3]; exact hq.2.symm⟩, ht⟩) dX3_fact_55
      · have hs := List.drop_eq_getElem_cons (show k < (fl_ n Bd Hd).length by omega)
        rw [hs] at hd
        obtain ⟨-, -, g3, g4, g5⟩ := low_onI hu hd
        refine lv_iload_n hx hb dX3_fact_38 rfl (lv_at hl 1 rfl) ?_
        refine lv_iload_n hx hb dX3_fact_39 rfl (lv_at hl 1 rfl) ?_
        refine lv_iconst (v := 1) hx hb dX3_fact_40 (by decide +kernel) ?_
        refine lv_isub hx hb dX3_fact_41 ?_
        refine lv_iand hx hb dX3_fact_42 ?_
        refine lv_istore_n (lv' := [(2, .int (y &&& (y - 1))), (3, .int (nI k)), (0, .ref qx), (1, .int (nI m0))]) hx hb dX3_fact_43 rfl hl (by decide) rfl (fun ls hl => ?_)
        refine lv_iinc (v := (nI (k + 1))) (lv' := [(3, .int (nI (k + 1))), (2, .int (y &&& (y - 1))), (0, .ref qx), (1, .int (nI m0))]) hx hb dX3_fact_44 hl (k := 1) rfl (nI_inc _) (by decide) rfl (fun ls hl => ?_)
        refine lv_goto (tgt := 33) hx hb dX3_fact_47 (by decide) ?_
        exact ih (k + 1) m0 (y &&& (y - 1)) ls (by omega) (by omega) h3 ex g5 g4 (lv_sub hl [0, 1, 2, 3] rfl)
  refine lv_aload_n hx hb dX3_fact_0 rfl (lv_at hl 0 rfl) ?_
  refine va_get (D := D) (ci := 4) (v := .ref qa) (C := RX3) (T := TX3) (N := 7) hx hb hts iX3 hown hK hP 0 rfl rfl 0 (by decide) (hts (.fieldLink RX3 12 "LeastSets" "rows" "LLeastSets$Axioms;") (by decide +kernel)) (fun _ h9 => h9) rfl dX3_fact_1 ?_
  refine lv_iconst (v := (-1)) hx hb dX3_fact_4 (by decide +kernel) ?_
  refine vp_callSi (va_runV (As := [.int (-1)]) (rest := []) ⟨hx, hb, hml, hown, hts⟩ (c_X0_factsFrom l D cI cZ cJ qa qb qh qw qf qu qg n hn Bd Hd (-1)) (cwV 1 hts gX3_fact_X0_factsFrom rfl rfl rfl (by decide +kernel) ⟨Nat.le_of_ble_eq_true rfl, Nat.le_of_ble_eq_true rfl⟩) ⟨ro_blind, va_recv hK hP (ci := 1) (q0 := 1) rfl rfl, ro_pre (hP.sub (ws' := [(qa, .inr (1, [.ref qb, .ref qh, .ref qw, .ref qf, .int (nI n), .ref qu, .ref qg])), (qb, .inl (cI, 14, .inl Bd)), (qh, .inl (cI, 14, .inl Hd))]) [1, 2, 3] rfl) hK [0, 1, 2] rfl⟩ rfl rfl hl.1 rfl (lv_room (Nat.le_of_ble_eq_true rfl)) dX3_fact_5 ⟨Nat.le_of_ble_eq_true rfl, Nat.le_of_ble_eq_true rfl⟩).run (fun r_5 hr_5 => ?_)
  subst hr_5
  refine lv_istore_n (lv' := [(2, .int (cf_ n Bd Hd (-1) n)), (0, .ref qx), (1, .int x)]) hx hb dX3_fact_8 rfl hl (by decide) rfl (fun ls hl => ?_)
  refine lv_iload_n hx hb dX3_fact_9 rfl (lv_at hl 2 rfl) ?_
  refine lv_if_lt (tgt := 21) hx hb dX3_fact_10 (by decide) (fun c_10 => ?_) (fun c_10 => ?_)
  · exact thr ls (lv_sub hl [] rfl) (by first | exact qf_neg h32 c_10 | exact qf_big h32 c_18)
  · refine lv_iload_n hx hb dX3_fact_13 rfl (lv_at hl 2 rfl) ?_
    refine lv_iload_n hx hb dX3_fact_14 rfl (lv_at hl 0 rfl) ?_
    refine vp_callSi (va_runS (As := [.int (cf_ n Bd Hd (-1) n)]) (rest := [.int x]) ⟨hx, hb, hml, hown, hts⟩ (c_J6_bitCount_0f7a4 l (cf_ n Bd Hd (-1) n)) (va_cwS 1 hts gX3_fact_J6_bitCount_0f7a4 rfl rfl rfl (by decide +kernel) ⟨Nat.le_of_ble_eq_true rfl, Nat.le_of_ble_eq_true rfl⟩) ⟨no_blind, no_pre trivial⟩ rfl rfl hl.1 rfl (lv_room (Nat.le_of_ble_eq_true rfl)) dX3_fact_15 ⟨Nat.le_of_ble_eq_true rfl, Nat.le_of_ble_eq_true rfl⟩).run (fun r_15 hr_15 => ?_)
    rw [gp_len] at hr_15
    subst hr_15
    refine lv_icmp_lt (tgt := 31) hx hb dX3_fact_18 (by decide) (fun c_18 => ?_) (fun c_18 => ?_)
    · refine lv_iconst (v := (nI 0)) hx hb dX3_fact_31 (by decide +kernel) ?_
      refine lv_istore_n (lv' := [(3, .int (nI 0)), (2, .int (cf_ n Bd Hd (-1) n)), (0, .ref qx), (1, .int x)]) hx hb dX3_fact_32 rfl hl (by decide) rfl (fun ls hl => ?_)
      obtain ⟨m0, hm0, ex⟩ := nI_of c_10
      have hlt : m0 < (fl_ n Bd Hd).length := by
        rw [ex] at c_18
        exact (nI_ltI hm0 (by omega)).mp c_18
      rw [ex] at hl
      exact loop (m0 + 1) 0 m0 (cf_ n Bd Hd (-1) n) ls (by omega) (Nat.zero_le _) hlt ex (by omega) rfl (lv_sub hl [0, 1, 2, 3] rfl)
    · exact thr ls (lv_sub hl [] rfl) (by first | exact qf_neg h32 c_10 | exact qf_big h32 c_18)
