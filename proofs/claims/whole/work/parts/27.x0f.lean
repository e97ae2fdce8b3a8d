set_option maxHeartbeats 4000000 in
set_option maxRecDepth 100000 in
/-- setsThatGive(g, v) -/
theorem c_X0_setsThatGive (l : Launch) (D : va_G) (cI cZ cJ : ClassId) (t1 t2 sz : Nat) (qa qb qh qw qf qu qg : Nat) (n : Nat) (hn : n ≤ 14) (Bd Hd : Nat → Int32) (U G : Nat → Int64) (g v : Nat) (hg : g < 24) (hv : v < 256) (hok : ∀ a, a < n → uI_ (Bd a) < 16777216 ∧ uI_ (Hd a) < 24) : Met l yX0_setsThatGive wsX0_setsThatGive ({ frames := 4, cells := 0, slots := 0, locals := 96 } : Room) (va_Pc [.ref qa, .int (nI g), .int (nI v)] (wr_ D [(cI, .int), (cZ, .boolean), (cJ, .long)] [(qa, .inr (1, [.ref qb, .ref qh, .ref qw, .ref qf, .int (nI n), .ref qu, .ref qg])), (qb, .inl (cI, 14, .inl Bd)), (qh, .inl (cI, 14, .inl Hd)), (qu, .inl (cJ, 14, .inr (.inl U))), (qg, .inl (cJ, 24, .inr (.inl G)))] t1 t2 sz)) (va_Ql (S := (Nat → Int64) × (Nat → Int64)) (fun r _ => ∀ j, j < 64 → (bl r j = true ↔ mc_ n Bd Hd g (v * 64 + j))) (fun u => wd_ D [(cI, .int), (cZ, .boolean), (cJ, .long)] (va_A [(qa, .inr (1, [.ref qb, .ref qh, .ref qw, .ref qf, .int (nI n), .ref qu, .ref qg])), (qb, .inl (cI, 14, .inl Bd)), (qh, .inl (cI, 14, .inl Hd)), (qu, .inl (cJ, 14, .inr (.inl U))), (qg, .inl (cJ, 24, .inr (.inl G)))] sz) [(qa, .inr (1, [.ref qb, .ref qh, .ref qw, .ref qf, .int (nI n), .ref qu, .ref qg])), (qb, .inl (cI, 14, .inl Bd)), (qh, .inl (cI, 14, .inl Hd)), (qu, .inl (cJ, 14, .inr (.inl u.1))), (qg, .inl (cJ, 24, .inr (.inl u.2)))]) (va_A [(qa, .inr (1, [.ref qb, .ref qh, .ref qw, .ref qf, .int (nI n), .ref qu, .ref qg])), (qb, .inl (cI, 14, .inl Bd)), (qh, .inl (cI, 14, .inl Hd)), (qu, .inl (cJ, 14, .inr (.inl U))), (qg, .inl (cJ, 24, .inr (.inl G)))] sz)) 0 0 (va_A [(qa, .inr (1, [.ref qb, .ref qh, .ref qw, .ref qf, .int (nI n), .ref qu, .ref qg])), (qb, .inl (cI, 14, .inl Bd)), (qh, .inl (cI, 14, .inl Hd)), (qu, .inl (cJ, 14, .inr (.inl U))), (qg, .inl (cJ, 24, .inr (.inl G)))] sz) := by
  refine Met.ofW (cc := cX0_setsThatGive) (maxL := 4) (ret := (some .long)) (by decide) rfl ?_
  intro p e s m args below meth c s₁ B hml hv
  obtain ⟨rfl, hsz, hP, hK, hD0, hE⟩ := hv
  have hx := B.exec
  have hb := B.bytes
  have hr := B.returns
  have hts := atoms_spec (ws := wsX0_setsThatGive) B.pre
  have hown : s.vm.findClass RX0 = some m.cls := findClass_of_methodNamed B.named
  have hlocks := B.notSynchronized
  have iX0 : ∀ w ∈ u_ws RX0 TX0 7, w ∈ wsX0_setsThatGive := by decide +kernel
  subst hsz
  have hD := hD0.self (sz := s.heap.size)
  generalize hAe : va_A [(qa, .inr (1, [.ref qb, .ref qh, .ref qw, .ref qf, .int (nI n), .ref qu, .ref qg])), (qb, .inl (cI, 14, .inl Bd)), (qh, .inl (cI, 14, .inl Hd)), (qu, .inl (cJ, 14, .inr (.inl U))), (qg, .inl (cJ, 24, .inr (.inl G)))] s.heap.size = A at hD hE ⊢
  have hA : ∀ q : Nat, s.heap.size ≤ q → A q := fun q h => by rw [← hAe]; exact Or.inr h
  have hS : va_S A s.heap s.heap [] := va_S.rf
  have hl := lv_entry ([.ref qa, .int (nI g), .int (nI v)]) (n := 4) (Nat.le_of_ble_eq_true rfl)
  rw [lg_entry_eq]
  generalize (lg_sl ([.ref qa, .int (nI g), .int (nI v)]) ++ List.replicate (4 - (lg_sl ([.ref qa, .int (nI g), .int (nI v)])).length) Slot.unset).toArray = ls at hl ⊢
  have hl : lv_has ls 4 [(0, .ref qa), (1, .int (nI g)), (2, .int (nI v))] := hl
  have loop : ∀ (d : Nat) (a : Nat) (U : Nat → Int64) (H : Heap) (locs : List Loc) (ls : Array Slot), n < a + d → a ≤ n → (∀ b, b < a → sw_is b v (U b)) → va_P D vwCl [(qa, .inr (1, [.ref qb, .ref qh, .ref qw, .ref qf, .int (nI n), .ref qu, .ref qg])), (qb, .inl (cI, 14, .inl Bd)), (qh, .inl (cI, 14, .inl Hd)), (qu, .inl (cJ, 14, .inr (.inl U))), (qg, .inl (cJ, 24, .inr (.inl G)))] H → va_D A [(qa, .inr (1, [.ref qb, .ref qh, .ref qw, .ref qf, .int (nI n), .ref qu, .ref qg])), (qb, .inl (cI, 14, .inl Bd)), (qh, .inl (cI, 14, .inl Hd)), (qu, .inl (cJ, 14, .inr (.inl U))), (qg, .inl (cJ, 24, .inr (.inl G)))] → va_S A s.heap H locs → lv_has ls 4 [(3, .int (nI a)), (0, .ref qa), (1, .int (nI g)), (2, .int (nI v))] → W p l e (headSpec wsX0_setsThatGive ({ frames := 4, cells := 0, slots := 0, locals := 96 } : Room)).room s m ([.ref qa, .int (nI g), .int (nI v)] : List Value).toArray below meth c H locs 0 0 (MQ below (va_Ql (S := (Nat → Int64) × (Nat → Int64)) (fun r _ => ∀ j, j < 64 → (bl r j = true ↔ mc_ n Bd Hd g (v * 64 + j))) (fun u => wd_ D [(cI, .int), (cZ, .boolean), (cJ, .long)] A [(qa, .inr (1, [.ref qb, .ref qh, .ref qw, .ref qf, .int (nI n), .ref qu, .ref qg])), (qb, .inl (cI, 14, .inl Bd)), (qh, .inl (cI, 14, .inl Hd)), (qu, .inl (cJ, 14, .inr (.inl u.1))), (qg, .inl (cJ, 24, .inr (.inl u.2)))]) A) ([.ref qa, .int (nI g), .int (nI v)] : List Value).toArray s 0 0 A) (F0 m 2 ls []) := by
    intro d
    induction d with
    | zero => intro a U H locs ls h1 h2; omega
    | succ d ih =>
      intro a U H locs ls h1 h2 hU hP hD hS hl
      refine lv_iload_n hx hb dX0_setsThatGive_2 rfl (lv_at hl 0 rfl) ?_
      refine lv_aload_n hx hb dX0_setsThatGive_3 rfl (lv_at hl 1 rfl) ?_
      refine va_get (D := D) (ci := 1) (v := .int (nI n)) (C := RX0) (T := TX0) (N := 7) hx hb hts iX0 hown hK hP 0 rfl rfl 4 (by decide) (hts (.fieldLink RX0 25 "LeastSets$Axioms" "count" "I") (by decide +kernel)) (fun _ h9 => h9) rfl dX0_setsThatGive_4 ?_
      refine r_ige hx hb (tgt := 28) (by omega) (by omega) dX0_setsThatGive_7 (by decide) (fun c_7 => ?_) (fun c_7 => ?_)
      · refine lv_aload_n hx hb dX0_setsThatGive_28 rfl (lv_at hl 1 rfl) ?_
        refine lv_iload_n hx hb dX0_setsThatGive_29 rfl (lv_at hl 2 rfl) ?_
        have hPc := hP.sub (ws' := [(qa, .inr (1, [.ref qb, .ref qh, .ref qw, .ref qf, .int (nI n), .ref qu, .ref qg])), (qb, .inl (cI, 14, .inl Bd)), (qh, .inl (cI, 14, .inl Hd)), (qu, .inl (cJ, 14, .inr (.inl U))), (qg, .inl (cJ, 24, .inr (.inl G)))]) [0, 1, 2, 3, 4] rfl
        have hDc := hD.sub (ws' := [(qa, .inr (1, [.ref qb, .ref qh, .ref qw, .ref qf, .int (nI n), .ref qu, .ref qg])), (qb, .inl (cI, 14, .inl Bd)), (qh, .inl (cI, 14, .inl Hd)), (qu, .inl (cJ, 14, .inr (.inl U))), (qg, .inl (cJ, 24, .inr (.inl G)))]) [0, 1, 2, 3, 4] (by decide) rfl
        have hFc := va_free (wc := [(qa, .inr (1, [.ref qb, .ref qh, .ref qw, .ref qf, .int (nI n), .ref qu, .ref qg])), (qb, .inl (cI, 14, .inl Bd)), (qh, .inl (cI, 14, .inl Hd)), (qu, .inl (cJ, 14, .inr (.inl U))), (qg, .inl (cJ, 24, .inr (.inl G)))]) hD hS hA [0, 1, 2, 3, 4] rfl
        refine va_calll (va_runV (As := [.int (nI g)]) (rest := []) ⟨hx, hb, hml, hown, hts⟩ (c_X0_setsGiving l D cI cZ cJ t1 t2 _ qa qb qh qw qf qu qg n hn Bd Hd U G g hg hok) (cwV 1 hts gX0_setsThatGive_X0_setsGiving rfl rfl rfl (by decide +kernel) ⟨Nat.le_of_ble_eq_true rfl, Nat.le_of_ble_eq_true rfl⟩) ⟨wr_blind, va_recv hK hP (ci := 1) (q0 := 0) rfl rfl, wr_pre hPc hDc hK hE hS hFc [0, 1, 2] rfl⟩ rfl rfl hl.1 rfl (lv_room (Nat.le_of_ble_eq_true rfl)) dX0_setsThatGive_30 ⟨Nat.le_of_ble_eq_true rfl, Nat.le_of_ble_eq_true rfl⟩) hS (fun q _ h => hFc q h) hFc (fun r_30 u_30 t H locs ht hvm hw_30 hB hz1 hk1 hS => ?_)
        obtain ⟨hP1, hK1, hD1⟩ := hB
        rw [ht] at hP1
        obtain ⟨hP, hD⟩ := va_join (wr := []) (w1 := [(qa, .inr (1, [.ref qb, .ref qh, .ref qw, .ref qf, .int (nI n), .ref qu, .ref qg])), (qb, .inl (cI, 14, .inl Bd)), (qh, .inl (cI, 14, .inl Hd)), (qu, .inl (cJ, 14, .inr (.inl U))), (qg, .inl (cJ, 24, .inr (.inl u_30)))]) hP hD [0, 1, 2, 3, 4] [] rfl rfl (by decide) (by decide) hk1 hFc hP1 hD1
        have hP : va_P D vwCl [(qa, .inr (1, [.ref qb, .ref qh, .ref qw, .ref qf, .int (nI n), .ref qu, .ref qg])), (qb, .inl (cI, 14, .inl Bd)), (qh, .inl (cI, 14, .inl Hd)), (qu, .inl (cJ, 14, .inr (.inl U))), (qg, .inl (cJ, 24, .inr (.inl u_30)))] H := hP.sub [0, 1, 2, 3, 4] rfl
        have hD : va_D A [(qa, .inr (1, [.ref qb, .ref qh, .ref qw, .ref qf, .int (nI n), .ref qu, .ref qg])), (qb, .inl (cI, 14, .inl Bd)), (qh, .inl (cI, 14, .inl Hd)), (qu, .inl (cJ, 14, .inr (.inl U))), (qg, .inl (cJ, 24, .inr (.inl u_30)))] := hD.sub [0, 1, 2, 3, 4] (by decide) rfl
        clear hPc hDc hFc hP1 hK1 hD1 hk1 hz1
        exact W.lret (v := r_30) hx hb hr (fun t ht hW => ⟨⟨r_30, (U, u_30), rfl, fun j hj => (hw_30 j hj).trans (mc_of (fun b hb => hU b (by omega)) hj), by rw [ht]; exact hP, va_K.moved hW.alike hK, hD⟩, hS.F ht⟩) hS.2.2 dX0_setsThatGive_33
      · refine lv_aload_n hx hb dX0_setsThatGive_10 rfl (lv_at hl 1 rfl) ?_
        refine va_get (D := D) (ci := 1) (v := .ref qu) (C := RX0) (T := TX0) (N := 7) hx hb hts iX0 hown hK hP 0 rfl rfl 5 (by decide) (hts (.fieldLink RX0 29 "LeastSets$Axioms" "usedBy" "[J") (by decide +kernel)) (fun _ h9 => h9) rfl dX0_setsThatGive_11 ?_
        refine lv_iload_n hx hb dX0_setsThatGive_14 rfl (lv_at hl 0 rfl) ?_
        refine lv_aload_n hx hb dX0_setsThatGive_15 rfl (lv_at hl 1 rfl) ?_
        refine lv_iload_n hx hb dX0_setsThatGive_16 rfl (lv_at hl 0 rfl) ?_
        refine lv_iload_n hx hb dX0_setsThatGive_17 rfl (lv_at hl 3 rfl) ?_
        refine vp_callSl (va_runV (As := [.int (nI a), .int (nI v)]) (rest := [.int (nI a), .ref qu]) ⟨hx, hb, hml, hown, hts⟩ (c_X0_setsWith l D cI cZ cJ qa qb qh qw qf qu qg n hn t1 t2 a v (by omega) hv) (cwV 2 hts gX0_setsThatGive_X0_setsWith rfl rfl rfl (by decide +kernel) ⟨Nat.le_of_ble_eq_true rfl, Nat.le_of_ble_eq_true rfl⟩) ⟨re_blind, va_recv hK hP (ci := 1) (q0 := 0) rfl rfl, re_pre (hP.sub (ws' := []) [] rfl) hK hE hS [] rfl⟩ rfl rfl hl.1 rfl (lv_room (Nat.le_of_ble_eq_true rfl)) dX0_setsThatGive_18 ⟨Nat.le_of_ble_eq_true rfl, Nat.le_of_ble_eq_true rfl⟩).run (fun r_18 hr_18 => ?_)
        refine r_last hx hb hK hP hD hS 3 2 rfl rfl a (by omega) (by omega) dX0_setsThatGive_21 (fun H locs hP hD hS => ?_)
        have hP : va_P D vwCl [(qa, .inr (1, [.ref qb, .ref qh, .ref qw, .ref qf, .int (nI n), .ref qu, .ref qg])), (qb, .inl (cI, 14, .inl Bd)), (qh, .inl (cI, 14, .inl Hd)), (qu, .inl (cJ, 14, .inr (.inl (vp_updL U a r_18)))), (qg, .inl (cJ, 24, .inr (.inl G)))] H := hP
        have hD : va_D A [(qa, .inr (1, [.ref qb, .ref qh, .ref qw, .ref qf, .int (nI n), .ref qu, .ref qg])), (qb, .inl (cI, 14, .inl Bd)), (qh, .inl (cI, 14, .inl Hd)), (qu, .inl (cJ, 14, .inr (.inl (vp_updL U a r_18)))), (qg, .inl (cJ, 24, .inr (.inl G)))] := hD
        refine lv_iinc (v := (nI (a + 1))) (lv' := [(3, .int (nI (a + 1))), (0, .ref qa), (1, .int (nI g)), (2, .int (nI v))]) hx hb dX0_setsThatGive_22 hl (k := 0) rfl (nI_inc _) (by decide) rfl (fun ls hl => ?_)
        refine lv_goto (tgt := 2) hx hb dX0_setsThatGive_25 (by decide) ?_
        exact ih (a + 1) _ H locs ls (by omega) (by omega) (up_lt (P := fun b x => sw_is b v x) rfl hU hr_18) hP hD hS (lv_sub hl [0, 1, 2, 3] rfl)
  refine lv_iconst (v := (nI 0)) hx hb dX0_setsThatGive_0 (by decide +kernel) ?_
  refine lv_istore_n (lv' := [(3, .int (nI 0)), (0, .ref qa), (1, .int (nI g)), (2, .int (nI v))]) hx hb dX0_setsThatGive_1 rfl hl (by decide) rfl (fun ls hl => ?_)
  exact loop (n + 1) 0 U s.heap [] ls (by omega) (Nat.zero_le _) (fun b hb => absurd hb (Nat.not_lt_zero b)) hP hD hS (lv_sub hl [0, 1, 2, 3] rfl)
set_option maxHeartbeats 4000000 in
set_option maxRecDepth 100000 in
/-- setsThatLeave(g, v) -/
theorem c_X0_setsThatLeave (l : Launch) (D : va_G) (cI cZ cJ : ClassId) (t1 t2 sz : Nat) (qa qb qh qw qf qu qg : Nat) (n : Nat) (hn : n ≤ 14) (Bd Hd Fx : Nat → Int32) (U G : Nat → Int64) (g v : Nat) (hg : g < 24) (hv : v < 256) (hok : ∀ a, a < n → uI_ (Bd a) < 16777216 ∧ uI_ (Hd a) < 24) : Met l yX0_setsThatLeave wsX0_setsThatLeave ({ frames := 4, cells := 0, slots := 0, locals := 96 } : Room) (va_Pc [.ref qa, .int (nI g), .int (nI v)] (wr_ D [(cI, .int), (cZ, .boolean), (cJ, .long)] [(qa, .inr (1, [.ref qb, .ref qh, .ref qw, .ref qf, .int (nI n), .ref qu, .ref qg])), (qb, .inl (cI, 14, .inl Bd)), (qh, .inl (cI, 14, .inl Hd)), (qf, .inl (cZ, 14, .inl Fx)), (qu, .inl (cJ, 14, .inr (.inl U))), (qg, .inl (cJ, 24, .inr (.inl G)))] t1 t2 sz)) (va_Ql (S := (Nat → Int64) × (Nat → Int64)) (fun r _ => ∀ j, j < 64 → (bl r j = true ↔ ¬ mq_ n Bd Hd Fx g (v * 64 + j))) (fun u => wd_ D [(cI, .int), (cZ, .boolean), (cJ, .long)] (va_A [(qa, .inr (1, [.ref qb, .ref qh, .ref qw, .ref qf, .int (nI n), .ref qu, .ref qg])), (qb, .inl (cI, 14, .inl Bd)), (qh, .inl (cI, 14, .inl Hd)), (qf, .inl (cZ, 14, .inl Fx)), (qu, .inl (cJ, 14, .inr (.inl U))), (qg, .inl (cJ, 24, .inr (.inl G)))] sz) [(qa, .inr (1, [.ref qb, .ref qh, .ref qw, .ref qf, .int (nI n), .ref qu, .ref qg])), (qb, .inl (cI, 14, .inl Bd)), (qh, .inl (cI, 14, .inl Hd)), (qf, .inl (cZ, 14, .inl Fx)), (qu, .inl (cJ, 14, .inr (.inl u.1))), (qg, .inl (cJ, 24, .inr (.inl u.2)))]) (va_A [(qa, .inr (1, [.ref qb, .ref qh, .ref qw, .ref qf, .int (nI n), .ref qu, .ref qg])), (qb, .inl (cI, 14, .inl Bd)), (qh, .inl (cI, 14, .inl Hd)), (qf, .inl (cZ, 14, .inl Fx)), (qu, .inl (cJ, 14, .inr (.inl U))), (qg, .inl (cJ, 24, .inr (.inl G)))] sz)) 0 0 (va_A [(qa, .inr (1, [.ref qb, .ref qh, .ref qw, .ref qf, .int (nI n), .ref qu, .ref qg])), (qb, .inl (cI, 14, .inl Bd)), (qh, .inl (cI, 14, .inl Hd)), (qf, .inl (cZ, 14, .inl Fx)), (qu, .inl (cJ, 14, .inr (.inl U))), (qg, .inl (cJ, 24, .inr (.inl G)))] sz) := by
  refine Met.ofW (cc := cX0_setsThatLeave) (maxL := 4) (ret := (some .long)) (by decide) rfl ?_
  intro p e s m args below meth c s₁ B hml hv
  obtain ⟨rfl, hsz, hP, hK, hD0, hE⟩ := hv
  have hx := B.exec
  have hb := B.bytes
  have hr := B.returns
  have hts := atoms_spec (ws := wsX0_setsThatLeave) B.pre
  have hown : s.vm.findClass RX0 = some m.cls := findClass_of_methodNamed B.named
  have hlocks := B.notSynchronized
  have iX0 : ∀ w ∈ u_ws RX0 TX0 7, w ∈ wsX0_setsThatLeave := by decide +kernel
  subst hsz
  have hD := hD0.self (sz := s.heap.size)
  generalize hAe : va_A [(qa, .inr (1, [.ref qb, .ref qh, .ref qw, .ref qf, .int (nI n), .ref qu, .ref qg])), (qb, .inl (cI, 14, .inl Bd)), (qh, .inl (cI, 14, .inl Hd)), (qf, .inl (cZ, 14, .inl Fx)), (qu, .inl (cJ, 14, .inr (.inl U))), (qg, .inl (cJ, 24, .inr (.inl G)))] s.heap.size = A at hD hE ⊢
  have hA : ∀ q : Nat, s.heap.size ≤ q → A q := fun q h => by rw [← hAe]; exact Or.inr h
  have hS : va_S A s.heap s.heap [] := va_S.rf
  have hl := lv_entry ([.ref qa, .int (nI g), .int (nI v)]) (n := 4) (Nat.le_of_ble_eq_true rfl)
  rw [lg_entry_eq]
  generalize (lg_sl ([.ref qa, .int (nI g), .int (nI v)]) ++ List.replicate (4 - (lg_sl ([.ref qa, .int (nI g), .int (nI v)])).length) Slot.unset).toArray = ls at hl ⊢
  have hl : lv_has ls 4 [(0, .ref qa), (1, .int (nI g)), (2, .int (nI v))] := hl
  have loop : ∀ (d : Nat) (a : Nat) (U : Nat → Int64) (H : Heap) (locs : List Loc) (ls : Array Slot), n < a + d → a ≤ n → (∀ b, b < a → sv_is Fx b v (U b)) → va_P D vwCl [(qa, .inr (1, [.ref qb, .ref qh, .ref qw, .ref qf, .int (nI n), .ref qu, .ref qg])), (qb, .inl (cI, 14, .inl Bd)), (qh, .inl (cI, 14, .inl Hd)), (qf, .inl (cZ, 14, .inl Fx)), (qu, .inl (cJ, 14, .inr (.inl U))), (qg, .inl (cJ, 24, .inr (.inl G)))] H → va_D A [(qa, .inr (1, [.ref qb, .ref qh, .ref qw, .ref qf, .int (nI n), .ref qu, .ref qg])), (qb, .inl (cI, 14, .inl Bd)), (qh, .inl (cI, 14, .inl Hd)), (qf, .inl (cZ, 14, .inl Fx)), (qu, .inl (cJ, 14, .inr (.inl U))), (qg, .inl (cJ, 24, .inr (.inl G)))] → va_S A s.heap H locs → lv_has ls 4 [(3, .int (nI a)), (0, .ref qa), (1, .int (nI g)), (2, .int (nI v))] → W p l e (headSpec wsX0_setsThatLeave ({ frames := 4, cells := 0, slots := 0, locals := 96 } : Room)).room s m ([.ref qa, .int (nI g), .int (nI v)] : List Value).toArray below meth c H locs 0 0 (MQ below (va_Ql (S := (Nat → Int64) × (Nat → Int64)) (fun r _ => ∀ j, j < 64 → (bl r j = true ↔ ¬ mq_ n Bd Hd Fx g (v * 64 + j))) (fun u => wd_ D [(cI, .int), (cZ, .boolean), (cJ, .long)] A [(qa, .inr (1, [.ref qb, .ref qh, .ref qw, .ref qf, .int (nI n), .ref qu, .ref qg])), (qb, .inl (cI, 14, .inl Bd)), (qh, .inl (cI, 14, .inl Hd)), (qf, .inl (cZ, 14, .inl Fx)), (qu, .inl (cJ, 14, .inr (.inl u.1))), (qg, .inl (cJ, 24, .inr (.inl u.2)))]) A) ([.ref qa, .int (nI g), .int (nI v)] : List Value).toArray s 0 0 A) (F0 m 2 ls []) := by
    intro d
    induction d with
    | zero => intro a U H locs ls h1 h2; omega
    | succ d ih =>
      intro a U H locs ls h1 h2 hU hP hD hS hl
      refine lv_iload_n hx hb dX0_setsThatLeave_2 rfl (lv_at hl 0 rfl) ?_
      refine lv_aload_n hx hb dX0_setsThatLeave_3 rfl (lv_at hl 1 rfl) ?_
      refine va_get (D := D) (ci := 1) (v := .int (nI n)) (C := RX0) (T := TX0) (N := 7) hx hb hts iX0 hown hK hP 0 rfl rfl 4 (by decide) (hts (.fieldLink RX0 25 "LeastSets$Axioms" "count" "I") (by decide +kernel)) (fun _ h9 => h9) rfl dX0_setsThatLeave_4 ?_
      refine r_ige hx hb (tgt := 47) (by omega) (by omega) dX0_setsThatLeave_7 (by decide) (fun c_7 => ?_) (fun c_7 => ?_)
      · refine lv_aload_n hx hb dX0_setsThatLeave_47 rfl (lv_at hl 1 rfl) ?_
        refine lv_iload_n hx hb dX0_setsThatLeave_48 rfl (lv_at hl 2 rfl) ?_
        have hPc := hP.sub (ws' := [(qa, .inr (1, [.ref qb, .ref qh, .ref qw, .ref qf, .int (nI n), .ref qu, .ref qg])), (qb, .inl (cI, 14, .inl Bd)), (qh, .inl (cI, 14, .inl Hd)), (qu, .inl (cJ, 14, .inr (.inl U))), (qg, .inl (cJ, 24, .inr (.inl G)))]) [0, 1, 2, 4, 5] rfl
        have hDc := hD.sub (ws' := [(qa, .inr (1, [.ref qb, .ref qh, .ref qw, .ref qf, .int (nI n), .ref qu, .ref qg])), (qb, .inl (cI, 14, .inl Bd)), (qh, .inl (cI, 14, .inl Hd)), (qu, .inl (cJ, 14, .inr (.inl U))), (qg, .inl (cJ, 24, .inr (.inl G)))]) [0, 1, 2, 4, 5] (by decide) rfl
        have hFc := va_free (wc := [(qa, .inr (1, [.ref qb, .ref qh, .ref qw, .ref qf, .int (nI n), .ref qu, .ref qg])), (qb, .inl (cI, 14, .inl Bd)), (qh, .inl (cI, 14, .inl Hd)), (qu, .inl (cJ, 14, .inr (.inl U))), (qg, .inl (cJ, 24, .inr (.inl G)))]) hD hS hA [0, 1, 2, 4, 5] rfl
        refine va_calll (va_runV (As := [.int (nI g)]) (rest := []) ⟨hx, hb, hml, hown, hts⟩ (c_X0_setsGiving l D cI cZ cJ t1 t2 _ qa qb qh qw qf qu qg n hn Bd Hd U G g hg hok) (cwV 1 hts gX0_setsThatLeave_X0_setsGiving rfl rfl rfl (by decide +kernel) ⟨Nat.le_of_ble_eq_true rfl, Nat.le_of_ble_eq_true rfl⟩) ⟨wr_blind, va_recv hK hP (ci := 1) (q0 := 0) rfl rfl, wr_pre hPc hDc hK hE hS hFc [0, 1, 2] rfl⟩ rfl rfl hl.1 rfl (lv_room (Nat.le_of_ble_eq_true rfl)) dX0_setsThatLeave_49 ⟨Nat.le_of_ble_eq_true rfl, Nat.le_of_ble_eq_true rfl⟩) hS (fun q _ h => hFc q h) hFc (fun r_49 u_49 t H locs ht hvm hw_49 hB hz1 hk1 hS => ?_)
        obtain ⟨hP1, hK1, hD1⟩ := hB
        rw [ht] at hP1
        obtain ⟨hP, hD⟩ := va_join (wr := [(qf, .inl (cZ, 14, .inl Fx))]) (w1 := [(qa, .inr (1, [.ref qb, .ref qh, .ref qw, .ref qf, .int (nI n), .ref qu, .ref qg])), (qb, .inl (cI, 14, .inl Bd)), (qh, .inl (cI, 14, .inl Hd)), (qu, .inl (cJ, 14, .inr (.inl U))), (qg, .inl (cJ, 24, .inr (.inl u_49)))]) hP hD [0, 1, 2, 4, 5] [3] rfl rfl (by decide) (by decide) hk1 hFc hP1 hD1
        have hP : va_P D vwCl [(qa, .inr (1, [.ref qb, .ref qh, .ref qw, .ref qf, .int (nI n), .ref qu, .ref qg])), (qb, .inl (cI, 14, .inl Bd)), (qh, .inl (cI, 14, .inl Hd)), (qf, .inl (cZ, 14, .inl Fx)), (qu, .inl (cJ, 14, .inr (.inl U))), (qg, .inl (cJ, 24, .inr (.inl u_49)))] H := hP.sub [1, 2, 3, 0, 4, 5] rfl
        have hD : va_D A [(qa, .inr (1, [.ref qb, .ref qh, .ref qw, .ref qf, .int (nI n), .ref qu, .ref qg])), (qb, .inl (cI, 14, .inl Bd)), (qh, .inl (cI, 14, .inl Hd)), (qf, .inl (cZ, 14, .inl Fx)), (qu, .inl (cJ, 14, .inr (.inl U))), (qg, .inl (cJ, 24, .inr (.inl u_49)))] := hD.sub [1, 2, 3, 0, 4, 5] (by decide) rfl
        clear hPc hDc hFc hP1 hK1 hD1 hk1 hz1
        exact W.lret (v := r_49) hx hb hr (fun t ht hW => ⟨⟨r_49, (U, u_49), rfl, fun j hj => (hw_49 j hj).trans (mq_of (fun b hb => hU b (by omega)) hj), by rw [ht]; exact hP, va_K.moved hW.alike hK, hD⟩, hS.F ht⟩) hS.2.2 dX0_setsThatLeave_52
      · refine lv_aload_n hx hb dX0_setsThatLeave_10 rfl (lv_at hl 1 rfl) ?_
        refine va_get (D := D) (ci := 1) (v := .ref qu) (C := RX0) (T := TX0) (N := 7) hx hb hts iX0 hown hK hP 0 rfl rfl 5 (by decide) (hts (.fieldLink RX0 29 "LeastSets$Axioms" "usedBy" "[J") (by decide +kernel)) (fun _ h9 => h9) rfl dX0_setsThatLeave_11 ?_
        refine lv_iload_n hx hb dX0_setsThatLeave_14 rfl (lv_at hl 0 rfl) ?_
        refine lv_aload_n hx hb dX0_setsThatLeave_15 rfl (lv_at hl 1 rfl) ?_
        refine va_get (D := D) (ci := 1) (v := .ref qf) (C := RX0) (T := TX0) (N := 7) hx hb hts iX0 hown hK hP 0 rfl rfl 3 (by decide) (hts (.fieldLink RX0 21 "LeastSets$Axioms" "fixed" "[Z") (by decide +kernel)) (fun _ h9 => h9) rfl dX0_setsThatLeave_16 ?_
        refine lv_iload_n hx hb dX0_setsThatLeave_19 rfl (lv_at hl 0 rfl) ?_
        refine r_zald hx hb hK hP 3 1 rfl rfl a (by omega) (by omega) dX0_setsThatLeave_20 ?_
        refine lv_if_eq (tgt := 30) hx hb dX0_setsThatLeave_21 (by decide) (fun c_21 => ?_) (fun c_21 => ?_)
        · refine lv_aload_n hx hb dX0_setsThatLeave_30 rfl (lv_at hl 1 rfl) ?_
          refine lv_iload_n hx hb dX0_setsThatLeave_31 rfl (lv_at hl 0 rfl) ?_
          refine lv_iload_n hx hb dX0_setsThatLeave_32 rfl (lv_at hl 3 rfl) ?_
          refine vp_callSl (va_runV (As := [.int (nI a), .int (nI v)]) (rest := [.int (nI a), .ref qu]) ⟨hx, hb, hml, hown, hts⟩ (c_X0_setsWith l D cI cZ cJ qa qb qh qw qf qu qg n hn t1 t2 a v (by omega) hv) (cwV 2 hts gX0_setsThatLeave_X0_setsWith rfl rfl rfl (by decide +kernel) ⟨Nat.le_of_ble_eq_true rfl, Nat.le_of_ble_eq_true rfl⟩) ⟨re_blind, va_recv hK hP (ci := 1) (q0 := 0) rfl rfl, re_pre (hP.sub (ws' := []) [] rfl) hK hE hS [] rfl⟩ rfl rfl hl.1 rfl (lv_room (Nat.le_of_ble_eq_true rfl)) dX0_setsThatLeave_33 ⟨Nat.le_of_ble_eq_true rfl, Nat.le_of_ble_eq_true rfl⟩).run (fun r_33 hr_33 => ?_)
          refine lv_ldc2 (v := (-1)) hx hb hown (hts (.constantLong RX0 52 (-1)) (by decide +kernel)) dX0_setsThatLeave_36 ?_
          refine lv_lxor hx hb dX0_setsThatLeave_39 ?_
          refine r_last hx hb hK hP hD hS 4 2 rfl rfl a (by omega) (by omega) dX0_setsThatLeave_40 (fun H locs hP hD hS => ?_)
          have hP : va_P D vwCl [(qa, .inr (1, [.ref qb, .ref qh, .ref qw, .ref qf, .int (nI n), .ref qu, .ref qg])), (qb, .inl (cI, 14, .inl Bd)), (qh, .inl (cI, 14, .inl Hd)), (qf, .inl (cZ, 14, .inl Fx)), (qu, .inl (cJ, 14, .inr (.inl (vp_updL U a (r_33 ^^^ (-1)))))), (qg, .inl (cJ, 24, .inr (.inl G)))] H := hP
          have hD : va_D A [(qa, .inr (1, [.ref qb, .ref qh, .ref qw, .ref qf, .int (nI n), .ref qu, .ref qg])), (qb, .inl (cI, 14, .inl Bd)), (qh, .inl (cI, 14, .inl Hd)), (qf, .inl (cZ, 14, .inl Fx)), (qu, .inl (cJ, 14, .inr (.inl (vp_updL U a (r_33 ^^^ (-1)))))), (qg, .inl (cJ, 24, .inr (.inl G)))] := hD
          refine lv_iinc (v := (nI (a + 1))) (lv' := [(3, .int (nI (a + 1))), (0, .ref qa), (1, .int (nI g)), (2, .int (nI v))]) hx hb dX0_setsThatLeave_41 hl (k := 0) rfl (nI_inc _) (by decide) rfl (fun ls hl => ?_)
          refine lv_goto (tgt := 2) hx hb dX0_setsThatLeave_44 (by decide) ?_
          exact ih (a + 1) _ H locs ls (by omega) (by omega) (up_lt (P := fun b x => sv_is Fx b v x) rfl hU (by first | exact sv_fix c_21 | exact sv_not c_21 hr_33)) hP hD hS (lv_sub hl [0, 1, 2, 3] rfl)
        · refine lv_ldc2 (v := (-1)) hx hb hown (hts (.constantLong RX0 52 (-1)) (by decide +kernel)) dX0_setsThatLeave_24 ?_
          refine lv_goto (tgt := 40) hx hb dX0_setsThatLeave_27 (by decide) ?_
          refine r_last hx hb hK hP hD hS 4 2 rfl rfl a (by omega) (by omega) dX0_setsThatLeave_40 (fun H locs hP hD hS => ?_)
          have hP : va_P D vwCl [(qa, .inr (1, [.ref qb, .ref qh, .ref qw, .ref qf, .int (nI n), .ref qu, .ref qg])), (qb, .inl (cI, 14, .inl Bd)), (qh, .inl (cI, 14, .inl Hd)), (qf, .inl (cZ, 14, .inl Fx)), (qu, .inl (cJ, 14, .inr (.inl (vp_updL U a (-1))))), (qg, .inl (cJ, 24, .inr (.inl G)))] H := hP
          have hD : va_D A [(qa, .inr (1, [.ref qb, .ref qh, .ref qw, .ref qf, .int (nI n), .ref qu, .ref qg])), (qb, .inl (cI, 14, .inl Bd)), (qh, .inl (cI, 14, .inl Hd)), (qf, .inl (cZ, 14, .inl Fx)), (qu, .inl (cJ, 14, .inr (.inl (vp_updL U a (-1))))), (qg, .inl (cJ, 24, .inr (.inl G)))] := hD
          refine lv_iinc (v := (nI (a + 1))) (lv' := [(3, .int (nI (a + 1))), (0, .ref qa), (1, .int (nI g)), (2, .int (nI v))]) hx hb dX0_setsThatLeave_41 hl (k := 0) rfl (nI_inc _) (by decide) rfl (fun ls hl => ?_)
          refine lv_goto (tgt := 2) hx hb dX0_setsThatLeave_44 (by decide) ?_
          exact ih (a + 1) _ H locs ls (by omega) (by omega) (up_lt (P := fun b x => sv_is Fx b v x) rfl hU (by first | exact sv_fix c_21 | exact sv_not c_21 hr_33)) hP hD hS (lv_sub hl [0, 1, 2, 3] rfl)
  refine lv_iconst (v := (nI 0)) hx hb dX0_setsThatLeave_0 (by decide +kernel) ?_
  refine lv_istore_n (lv' := [(3, .int (nI 0)), (0, .ref qa), (1, .int (nI g)), (2, .int (nI v))]) hx hb dX0_setsThatLeave_1 rfl hl (by decide) rfl (fun ls hl => ?_)
  exact loop (n + 1) 0 U s.heap [] ls (by omega) (Nat.zero_le _) (fun b hb => absurd hb (Nat.not_lt_zero b)) hP hD hS (lv_sub hl [0, 1, 2, 3] rfl)
set_option maxHeartbeats 4000000 in
set_option maxRecDepth 100000 in
/-- append(x, y) -/
theorem c_X0_append (l : Launch) (D : va_G) (cI cZ cJ : ClassId) (t1 t2 sz : Nat) (qa qb qh qw qf qu qg : Nat) (n : Nat) (hn : n ≤ 14) (hn2 : n < 14) (Bd Hd Wt Fx : Nat → Int32) (x y : Int32) : Met l yX0_append wsX0_append ({ frames := 0, cells := 0, slots := 0, locals := 0 } : Room) (va_Pc [.ref qa, .int x, .int y] (wr_ D [(cI, .int), (cZ, .boolean), (cJ, .long)] [(qa, .inr (1, [.ref qb, .ref qh, .ref qw, .ref qf, .int (nI n), .ref qu, .ref qg])), (qb, .inl (cI, 14, .inl Bd)), (qh, .inl (cI, 14, .inl Hd)), (qw, .inl (cI, 14, .inl Wt)), (qf, .inl (cZ, 14, .inl Fx))] t1 t2 sz)) (va_Qv (S := Unit) (fun _ => True) (fun _ => wd_ D [(cI, .int), (cZ, .boolean), (cJ, .long)] (va_A [(qa, .inr (1, [.ref qb, .ref qh, .ref qw, .ref qf, .int (nI n), .ref qu, .ref qg])), (qb, .inl (cI, 14, .inl Bd)), (qh, .inl (cI, 14, .inl Hd)), (qw, .inl (cI, 14, .inl Wt)), (qf, .inl (cZ, 14, .inl Fx))] sz) [(qa, .inr (1, [.ref qb, .ref qh, .ref qw, .ref qf, .int (nI (n + 1)), .ref qu, .ref qg])), (qb, .inl (cI, 14, .inl (upd Bd n x))), (qh, .inl (cI, 14, .inl (upd Hd n y))), (qw, .inl (cI, 14, .inl (upd Wt n 1))), (qf, .inl (cZ, 14, .inl (upd Fx n 0)))]) (va_A [(qa, .inr (1, [.ref qb, .ref qh, .ref qw, .ref qf, .int (nI n), .ref qu, .ref qg])), (qb, .inl (cI, 14, .inl Bd)), (qh, .inl (cI, 14, .inl Hd)), (qw, .inl (cI, 14, .inl Wt)), (qf, .inl (cZ, 14, .inl Fx))] sz)) 0 0 (va_A [(qa, .inr (1, [.ref qb, .ref qh, .ref qw, .ref qf, .int (nI n), .ref qu, .ref qg])), (qb, .inl (cI, 14, .inl Bd)), (qh, .inl (cI, 14, .inl Hd)), (qw, .inl (cI, 14, .inl Wt)), (qf, .inl (cZ, 14, .inl Fx))] sz) := by
  refine Met.ofW (cc := cX0_append) (maxL := 3) (ret := none) (by decide) rfl ?_
  intro p e s m args below meth c s₁ B hml hv
  obtain ⟨rfl, hsz, hP, hK, hD0, hE⟩ := hv
  have hx := B.exec
  have hb := B.bytes
  have hr := B.returns
  have hts := atoms_spec (ws := wsX0_append) B.pre
  have hown : s.vm.findClass RX0 = some m.cls := findClass_of_methodNamed B.named
  have hlocks := B.notSynchronized
  have iX0 : ∀ w ∈ u_ws RX0 TX0 7, w ∈ wsX0_append := by decide +kernel
  subst hsz
  have hD := hD0.self (sz := s.heap.size)
  generalize hAe : va_A [(qa, .inr (1, [.ref qb, .ref qh, .ref qw, .ref qf, .int (nI n), .ref qu, .ref qg])), (qb, .inl (cI, 14, .inl Bd)), (qh, .inl (cI, 14, .inl Hd)), (qw, .inl (cI, 14, .inl Wt)), (qf, .inl (cZ, 14, .inl Fx))] s.heap.size = A at hD hE ⊢
  have hA : ∀ q : Nat, s.heap.size ≤ q → A q := fun q h => by rw [← hAe]; exact Or.inr h
  have hS : va_S A s.heap s.heap [] := va_S.rf
  have hl := lv_entry ([.ref qa, .int x, .int y]) (n := 3) (Nat.le_of_ble_eq_true rfl)
  rw [lg_entry_eq]
  generalize (lg_sl ([.ref qa, .int x, .int y]) ++ List.replicate (3 - (lg_sl ([.ref qa, .int x, .int y])).length) Slot.unset).toArray = ls at hl ⊢
  have hl : lv_has ls 3 [(0, .ref qa), (1, .int x), (2, .int y)] := hl
  refine lv_aload_n hx hb dX0_append_0 rfl (lv_at hl 0 rfl) ?_
  refine va_get (D := D) (ci := 1) (v := .int (nI n)) (C := RX0) (T := TX0) (N := 7) hx hb hts iX0 hown hK hP 0 rfl rfl 4 (by decide) (hts (.fieldLink RX0 25 "LeastSets$Axioms" "count" "I") (by decide +kernel)) (fun _ h9 => h9) rfl dX0_append_1 ?_
  refine lv_bipush (v := (nI 14)) hx hb dX0_append_4 (by decide +kernel) ?_
  refine r_ige hx hb (tgt := 59) (by omega) (by omega) dX0_append_6 (by decide) (fun c_6 => ?_) (fun c_6 => ?_)
  · exact absurd c_6 (by omega)
  · refine lv_aload_n hx hb dX0_append_9 rfl (lv_at hl 0 rfl) ?_
    refine va_get (D := D) (ci := 1) (v := .ref qb) (C := RX0) (T := TX0) (N := 7) hx hb hts iX0 hown hK hP 0 rfl rfl 0 (by decide) (hts (.fieldLink RX0 9 "LeastSets$Axioms" "body" "[I") (by decide +kernel)) (fun _ h9 => h9) rfl dX0_append_10 ?_
    refine lv_aload_n hx hb dX0_append_13 rfl (lv_at hl 0 rfl) ?_
    refine va_get (D := D) (ci := 1) (v := .int (nI n)) (C := RX0) (T := TX0) (N := 7) hx hb hts iX0 hown hK hP 0 rfl rfl 4 (by decide) (hts (.fieldLink RX0 25 "LeastSets$Axioms" "count" "I") (by decide +kernel)) (fun _ h9 => h9) rfl dX0_append_14 ?_
    refine lv_iload_n hx hb dX0_append_17 rfl (lv_at hl 1 rfl) ?_
    refine r_iast hx hb hK hP hD hS 1 0 rfl rfl n (by omega) (by omega) dX0_append_18 (fun H locs hP hD hS => ?_)
    have hP : va_P D vwCl [(qa, .inr (1, [.ref qb, .ref qh, .ref qw, .ref qf, .int (nI n), .ref qu, .ref qg])), (qb, .inl (cI, 14, .inl (upd Bd n x))), (qh, .inl (cI, 14, .inl Hd)), (qw, .inl (cI, 14, .inl Wt)), (qf, .inl (cZ, 14, .inl Fx))] H := hP
    have hD : va_D A [(qa, .inr (1, [.ref qb, .ref qh, .ref qw, .ref qf, .int (nI n), .ref qu, .ref qg])), (qb, .inl (cI, 14, .inl (upd Bd n x))), (qh, .inl (cI, 14, .inl Hd)), (qw, .inl (cI, 14, .inl Wt)), (qf, .inl (cZ, 14, .inl Fx))] := hD
    refine lv_aload_n hx hb dX0_append_19 rfl (lv_at hl 0 rfl) ?_
    refine va_get (D := D) (ci := 1) (v := .ref qh) (C := RX0) (T := TX0) (N := 7) hx hb hts iX0 hown hK hP 0 rfl rfl 1 (by decide) (hts (.fieldLink RX0 15 "LeastSets$Axioms" "head" "[I") (by decide +kernel)) (fun _ h9 => h9) rfl dX0_append_20 ?_
    refine lv_aload_n hx hb dX0_append_23 rfl (lv_at hl 0 rfl) ?_
    refine va_get (D := D) (ci := 1) (v := .int (nI n)) (C := RX0) (T := TX0) (N := 7) hx hb hts iX0 hown hK hP 0 rfl rfl 4 (by decide) (hts (.fieldLink RX0 25 "LeastSets$Axioms" "count" "I") (by decide +kernel)) (fun _ h9 => h9) rfl dX0_append_24 ?_
    refine lv_iload_n hx hb dX0_append_27 rfl (lv_at hl 2 rfl) ?_
    refine r_iast hx hb hK hP hD hS 2 0 rfl rfl n (by omega) (by omega) dX0_append_28 (fun H locs hP hD hS => ?_)
    have hP : va_P D vwCl [(qa, .inr (1, [.ref qb, .ref qh, .ref qw, .ref qf, .int (nI n), .ref qu, .ref qg])), (qb, .inl (cI, 14, .inl (upd Bd n x))), (qh, .inl (cI, 14, .inl (upd Hd n y))), (qw, .inl (cI, 14, .inl Wt)), (qf, .inl (cZ, 14, .inl Fx))] H := hP
    have hD : va_D A [(qa, .inr (1, [.ref qb, .ref qh, .ref qw, .ref qf, .int (nI n), .ref qu, .ref qg])), (qb, .inl (cI, 14, .inl (upd Bd n x))), (qh, .inl (cI, 14, .inl (upd Hd n y))), (qw, .inl (cI, 14, .inl Wt)), (qf, .inl (cZ, 14, .inl Fx))] := hD
    refine lv_aload_n hx hb dX0_append_29 rfl (lv_at hl 0 rfl) ?_
    refine va_get (D := D) (ci := 1) (v := .ref qw) (C := RX0) (T := TX0) (N := 7) hx hb hts iX0 hown hK hP 0 rfl rfl 2 (by decide) (hts (.fieldLink RX0 18 "LeastSets$Axioms" "weight" "[I") (by decide +kernel)) (fun _ h9 => h9) rfl dX0_append_30 ?_
    refine lv_aload_n hx hb dX0_append_33 rfl (lv_at hl 0 rfl) ?_
    refine va_get (D := D) (ci := 1) (v := .int (nI n)) (C := RX0) (T := TX0) (N := 7) hx hb hts iX0 hown hK hP 0 rfl rfl 4 (by decide) (hts (.fieldLink RX0 25 "LeastSets$Axioms" "count" "I") (by decide +kernel)) (fun _ h9 => h9) rfl dX0_append_34 ?_
    refine lv_iconst (v := 1) hx hb dX0_append_37 (by decide +kernel) ?_
    refine r_iast hx hb hK hP hD hS 3 0 rfl rfl n (by omega) (by omega) dX0_append_38 (fun H locs hP hD hS => ?_)
    have hP : va_P D vwCl [(qa, .inr (1, [.ref qb, .ref qh, .ref qw, .ref qf, .int (nI n), .ref qu, .ref qg])), (qb, .inl (cI, 14, .inl (upd Bd n x))), (qh, .inl (cI, 14, .inl (upd Hd n y))), (qw, .inl (cI, 14, .inl (upd Wt n 1))), (qf, .inl (cZ, 14, .inl Fx))] H := hP
    have hD : va_D A [(qa, .inr (1, [.ref qb, .ref qh, .ref qw, .ref qf, .int (nI n), .ref qu, .ref qg])), (qb, .inl (cI, 14, .inl (upd Bd n x))), (qh, .inl (cI, 14, .inl (upd Hd n y))), (qw, .inl (cI, 14, .inl (upd Wt n 1))), (qf, .inl (cZ, 14, .inl Fx))] := hD
    refine lv_aload_n hx hb dX0_append_39 rfl (lv_at hl 0 rfl) ?_
    refine va_get (D := D) (ci := 1) (v := .ref qf) (C := RX0) (T := TX0) (N := 7) hx hb hts iX0 hown hK hP 0 rfl rfl 3 (by decide) (hts (.fieldLink RX0 21 "LeastSets$Axioms" "fixed" "[Z") (by decide +kernel)) (fun _ h9 => h9) rfl dX0_append_40 ?_
    refine lv_aload_n hx hb dX0_append_43 rfl (lv_at hl 0 rfl) ?_
    refine va_get (D := D) (ci := 1) (v := .int (nI n)) (C := RX0) (T := TX0) (N := 7) hx hb hts iX0 hown hK hP 0 rfl rfl 4 (by decide) (hts (.fieldLink RX0 25 "LeastSets$Axioms" "count" "I") (by decide +kernel)) (fun _ h9 => h9) rfl dX0_append_44 ?_
    refine lv_iconst (v := 0) hx hb dX0_append_47 (by decide +kernel) ?_
    refine r_zast hx hb hK hP hD hS 4 1 rfl rfl n (by decide) (by omega) (by omega) dX0_append_48 (fun H locs hP hD hS => ?_)
    have hP : va_P D vwCl [(qa, .inr (1, [.ref qb, .ref qh, .ref qw, .ref qf, .int (nI n), .ref qu, .ref qg])), (qb, .inl (cI, 14, .inl (upd Bd n x))), (qh, .inl (cI, 14, .inl (upd Hd n y))), (qw, .inl (cI, 14, .inl (upd Wt n 1))), (qf, .inl (cZ, 14, .inl (upd Fx n 0)))] H := hP
    have hD : va_D A [(qa, .inr (1, [.ref qb, .ref qh, .ref qw, .ref qf, .int (nI n), .ref qu, .ref qg])), (qb, .inl (cI, 14, .inl (upd Bd n x))), (qh, .inl (cI, 14, .inl (upd Hd n y))), (qw, .inl (cI, 14, .inl (upd Wt n 1))), (qf, .inl (cZ, 14, .inl (upd Fx n 0)))] := hD
    refine lv_aload_n hx hb dX0_append_49 rfl (lv_at hl 0 rfl) ?_
    refine lv_dup hx hb dX0_append_50 rfl ?_
    refine va_get (D := D) (ci := 1) (v := .int (nI n)) (C := RX0) (T := TX0) (N := 7) hx hb hts iX0 hown hK hP 0 rfl rfl 4 (by decide) (hts (.fieldLink RX0 25 "LeastSets$Axioms" "count" "I") (by decide +kernel)) (fun _ h9 => h9) rfl dX0_append_51 ?_
    refine lv_iconst (v := (nI 1)) hx hb dX0_append_54 (by decide +kernel) ?_
    refine r_iadd hx hb dX0_append_55 ?_
    refine va_put (D := D) (ci := 1) (v := .int (nI (n + 1))) (ty := .int) (C := RX0) (T := TX0) (N := 7) hx hb hts iX0 tyX0 tyX0_ok nmX0 hown hK hP hD hS 0 rfl rfl 4 (by decide) (hts (.fieldLink RX0 25 "LeastSets$Axioms" "count" "I") (by decide +kernel)) (fun _ h9 => h9) rfl (by decide +kernel) rfl rfl (Nat.le_of_ble_eq_true rfl) dX0_append_56 (fun H locs hP hD hS => ?_)
    have hP : va_P D vwCl [(qa, .inr (1, [.ref qb, .ref qh, .ref qw, .ref qf, .int (nI (n + 1)), .ref qu, .ref qg])), (qb, .inl (cI, 14, .inl (upd Bd n x))), (qh, .inl (cI, 14, .inl (upd Hd n y))), (qw, .inl (cI, 14, .inl (upd Wt n 1))), (qf, .inl (cZ, 14, .inl (upd Fx n 0)))] H := hP
    have hD : va_D A [(qa, .inr (1, [.ref qb, .ref qh, .ref qw, .ref qf, .int (nI (n + 1)), .ref qu, .ref qg])), (qb, .inl (cI, 14, .inl (upd Bd n x))), (qh, .inl (cI, 14, .inl (upd Hd n y))), (qw, .inl (cI, 14, .inl (upd Wt n 1))), (qf, .inl (cZ, 14, .inl (upd Fx n 0)))] := hD
    exact W.vret hx hb hr (fun t ht hW => ⟨⟨(), rfl, trivial, by rw [ht]; exact hP, va_K.moved hW.alike hK, hD⟩, hS.F ht⟩) hS.2.2 dX0_append_59
set_option maxHeartbeats 4000000 in
set_option maxRecDepth 100000 in
/-- remove(j) -/
theorem c_X0_remove (l : Launch) (D : va_G) (cI cZ cJ : ClassId) (t1 t2 sz : Nat) (qa qb qh qw qf qu qg : Nat) (n : Nat) (hn : n ≤ 14) (j : Nat) (hj : j < n) (Bd Hd Wt Fx : Nat → Int32) (hF : ∀ a, a < n → Fx a = 0 ∨ Fx a = 1) : Met l yX0_remove wsX0_remove ({ frames := 1, cells := 0, slots := 0, locals := 21 } : Room) (va_Pc [.ref qa, .int (nI j)] (wr_ D [(cI, .int), (cZ, .boolean), (cJ, .long)] [(qa, .inr (1, [.ref qb, .ref qh, .ref qw, .ref qf, .int (nI n), .ref qu, .ref qg])), (qb, .inl (cI, 14, .inl Bd)), (qh, .inl (cI, 14, .inl Hd)), (qw, .inl (cI, 14, .inl Wt)), (qf, .inl (cZ, 14, .inl Fx))] t1 t2 sz)) (va_Qv (S := Unit) (fun _ => True) (fun _ => wd_ D [(cI, .int), (cZ, .boolean), (cJ, .long)] (va_A [(qa, .inr (1, [.ref qb, .ref qh, .ref qw, .ref qf, .int (nI n), .ref qu, .ref qg])), (qb, .inl (cI, 14, .inl Bd)), (qh, .inl (cI, 14, .inl Hd)), (qw, .inl (cI, 14, .inl Wt)), (qf, .inl (cZ, 14, .inl Fx))] sz) [(qa, .inr (1, [.ref qb, .ref qh, .ref qw, .ref qf, .int (nI (n - 1)), .ref qu, .ref qg])), (qb, .inl (cI, 14, .inl (sh_ Bd j n))), (qh, .inl (cI, 14, .inl (sh_ Hd j n))), (qw, .inl (cI, 14, .inl (sh_ Wt j n))), (qf, .inl (cZ, 14, .inl (sh_ Fx j n)))]) (va_A [(qa, .inr (1, [.ref qb, .ref qh, .ref qw, .ref qf, .int (nI n), .ref qu, .ref qg])), (qb, .inl (cI, 14, .inl Bd)), (qh, .inl (cI, 14, .inl Hd)), (qw, .inl (cI, 14, .inl Wt)), (qf, .inl (cZ, 14, .inl Fx))] sz)) 0 0 (va_A [(qa, .inr (1, [.ref qb, .ref qh, .ref qw, .ref qf, .int (nI n), .ref qu, .ref qg])), (qb, .inl (cI, 14, .inl Bd)), (qh, .inl (cI, 14, .inl Hd)), (qw, .inl (cI, 14, .inl Wt)), (qf, .inl (cZ, 14, .inl Fx))] sz) := by
  refine Met.ofW (cc := cX0_remove) (maxL := 3) (ret := none) (by decide) rfl ?_
  intro p e s m args below meth c s₁ B hml hv
  obtain ⟨rfl, hsz, hP, hK, hD0, hE⟩ := hv
  have hx := B.exec
  have hb := B.bytes
  have hr := B.returns
  have hts := atoms_spec (ws := wsX0_remove) B.pre
  have hown : s.vm.findClass RX0 = some m.cls := findClass_of_methodNamed B.named
  have hlocks := B.notSynchronized
  have iX0 : ∀ w ∈ u_ws RX0 TX0 7, w ∈ wsX0_remove := by decide +kernel
  subst hsz
  have hD := hD0.self (sz := s.heap.size)
  generalize hAe : va_A [(qa, .inr (1, [.ref qb, .ref qh, .ref qw, .ref qf, .int (nI n), .ref qu, .ref qg])), (qb, .inl (cI, 14, .inl Bd)), (qh, .inl (cI, 14, .inl Hd)), (qw, .inl (cI, 14, .inl Wt)), (qf, .inl (cZ, 14, .inl Fx))] s.heap.size = A at hD hE ⊢
  have hA : ∀ q : Nat, s.heap.size ≤ q → A q := fun q h => by rw [← hAe]; exact Or.inr h
  have hS : va_S A s.heap s.heap [] := va_S.rf
  have hl := lv_entry ([.ref qa, .int (nI j)]) (n := 3) (Nat.le_of_ble_eq_true rfl)
  rw [lg_entry_eq]
  generalize (lg_sl ([.ref qa, .int (nI j)]) ++ List.replicate (3 - (lg_sl ([.ref qa, .int (nI j)])).length) Slot.unset).toArray = ls at hl ⊢
  have hl : lv_has ls 3 [(0, .ref qa), (1, .int (nI j))] := hl
  have loop : ∀ (d : Nat) (a : Nat) (H : Heap) (locs : List Loc) (ls : Array Slot), n < a + d + 1 → j ≤ a → a < n → va_P D vwCl [(qa, .inr (1, [.ref qb, .ref qh, .ref qw, .ref qf, .int (nI n), .ref qu, .ref qg])), (qb, .inl (cI, 14, .inl (sh_ Bd j (a + 1)))), (qh, .inl (cI, 14, .inl (sh_ Hd j (a + 1)))), (qw, .inl (cI, 14, .inl (sh_ Wt j (a + 1)))), (qf, .inl (cZ, 14, .inl (sh_ Fx j (a + 1))))] H → va_D A [(qa, .inr (1, [.ref qb, .ref qh, .ref qw, .ref qf, .int (nI n), .ref qu, .ref qg])), (qb, .inl (cI, 14, .inl (sh_ Bd j (a + 1)))), (qh, .inl (cI, 14, .inl (sh_ Hd j (a + 1)))), (qw, .inl (cI, 14, .inl (sh_ Wt j (a + 1)))), (qf, .inl (cZ, 14, .inl (sh_ Fx j (a + 1))))] → va_S A s.heap H locs → lv_has ls 3 [(2, .int (nI a)), (0, .ref qa), (1, .int (nI j))] → W p l e (headSpec wsX0_remove ({ frames := 1, cells := 0, slots := 0, locals := 21 } : Room)).room s m ([.ref qa, .int (nI j)] : List Value).toArray below meth c H locs 0 0 (MQ below (va_Qv (S := Unit) (fun _ => True) (fun _ => wd_ D [(cI, .int), (cZ, .boolean), (cJ, .long)] A [(qa, .inr (1, [.ref qb, .ref qh, .ref qw, .ref qf, .int (nI (n - 1)), .ref qu, .ref qg])), (qb, .inl (cI, 14, .inl (sh_ Bd j n))), (qh, .inl (cI, 14, .inl (sh_ Hd j n))), (qw, .inl (cI, 14, .inl (sh_ Wt j n))), (qf, .inl (cZ, 14, .inl (sh_ Fx j n)))]) A) ([.ref qa, .int (nI j)] : List Value).toArray s 0 0 A) (F0 m 10 ls []) := by
    intro d
    induction d with
    | zero => intro a H locs ls h1 h2; omega
    | succ d ih =>
      intro a H locs ls h1 h2 h3 hP hD hS hl
      refine lv_iload_n hx hb dX0_remove_10 rfl (lv_at hl 0 rfl) ?_
      refine lv_iconst (v := (nI 1)) hx hb dX0_remove_11 (by decide +kernel) ?_
      refine r_iadd hx hb dX0_remove_12 ?_
      refine lv_aload_n hx hb dX0_remove_13 rfl (lv_at hl 1 rfl) ?_
      refine va_get (D := D) (ci := 1) (v := .int (nI n)) (C := RX0) (T := TX0) (N := 7) hx hb hts iX0 hown hK hP 0 rfl rfl 4 (by decide) (hts (.fieldLink RX0 25 "LeastSets$Axioms" "count" "I") (by decide +kernel)) (fun _ h9 => h9) rfl dX0_remove_14 ?_
      refine r_ige hx hb (tgt := 82) (by omega) (by omega) dX0_remove_17 (by decide) (fun c_17 => ?_) (fun c_17 => ?_)
      · refine lv_aload_n hx hb dX0_remove_82 rfl (lv_at hl 1 rfl) ?_
        refine lv_dup hx hb dX0_remove_83 rfl ?_
        refine va_get (D := D) (ci := 1) (v := .int (nI n)) (C := RX0) (T := TX0) (N := 7) hx hb hts iX0 hown hK hP 0 rfl rfl 4 (by decide) (hts (.fieldLink RX0 25 "LeastSets$Axioms" "count" "I") (by decide +kernel)) (fun _ h9 => h9) rfl dX0_remove_84 ?_
        refine lv_iconst (v := (nI 1)) hx hb dX0_remove_87 (by decide +kernel) ?_
        refine r_isub hx hb (by omega) dX0_remove_88 ?_
        refine va_put (D := D) (ci := 1) (v := .int (nI (n - 1))) (ty := .int) (C := RX0) (T := TX0) (N := 7) hx hb hts iX0 tyX0 tyX0_ok nmX0 hown hK hP hD hS 0 rfl rfl 4 (by decide) (hts (.fieldLink RX0 25 "LeastSets$Axioms" "count" "I") (by decide +kernel)) (fun _ h9 => h9) rfl (by decide +kernel) rfl rfl (Nat.le_of_ble_eq_true rfl) dX0_remove_89 (fun H locs hP hD hS => ?_)
        have hP : va_P D vwCl [(qa, .inr (1, [.ref qb, .ref qh, .ref qw, .ref qf, .int (nI (n - 1)), .ref qu, .ref qg])), (qb, .inl (cI, 14, .inl (sh_ Bd j (a + 1)))), (qh, .inl (cI, 14, .inl (sh_ Hd j (a + 1)))), (qw, .inl (cI, 14, .inl (sh_ Wt j (a + 1)))), (qf, .inl (cZ, 14, .inl (sh_ Fx j (a + 1))))] H := hP
        have hD : va_D A [(qa, .inr (1, [.ref qb, .ref qh, .ref qw, .ref qf, .int (nI (n - 1)), .ref qu, .ref qg])), (qb, .inl (cI, 14, .inl (sh_ Bd j (a + 1)))), (qh, .inl (cI, 14, .inl (sh_ Hd j (a + 1)))), (qw, .inl (cI, 14, .inl (sh_ Wt j (a + 1)))), (qf, .inl (cZ, 14, .inl (sh_ Fx j (a + 1))))] := hD
        have ea : a + 1 = n := by omega
        subst ea
        exact W.vret hx hb hr (fun t ht hW => ⟨⟨(), rfl, trivial, by rw [ht]; exact hP, va_K.moved hW.alike hK, hD⟩, hS.F ht⟩) hS.2.2 dX0_remove_92
      · refine lv_aload_n hx hb dX0_remove_20 rfl (lv_at hl 1 rfl) ?_
        refine va_get (D := D) (ci := 1) (v := .ref qb) (C := RX0) (T := TX0) (N := 7) hx hb hts iX0 hown hK hP 0 rfl rfl 0 (by decide) (hts (.fieldLink RX0 9 "LeastSets$Axioms" "body" "[I") (by decide +kernel)) (fun _ h9 => h9) rfl dX0_remove_21 ?_
        refine lv_iload_n hx hb dX0_remove_24 rfl (lv_at hl 0 rfl) ?_
        refine lv_aload_n hx hb dX0_remove_25 rfl (lv_at hl 1 rfl) ?_
        refine va_get (D := D) (ci := 1) (v := .ref qb) (C := RX0) (T := TX0) (N := 7) hx hb hts iX0 hown hK hP 0 rfl rfl 0 (by decide) (hts (.fieldLink RX0 9 "LeastSets$Axioms" "body" "[I") (by decide +kernel)) (fun _ h9 => h9) rfl dX0_remove_26 ?_
        refine lv_iload_n hx hb dX0_remove_29 rfl (lv_at hl 0 rfl) ?_
        refine lv_iconst (v := (nI 1)) hx hb dX0_remove_30 (by decide +kernel) ?_
        refine r_iadd hx hb dX0_remove_31 ?_
        refine r_iald hx hb hK hP 1 0 rfl rfl (a + 1) (by omega) (by omega) dX0_remove_32 ?_
        refine r_iast hx hb hK hP hD hS 1 0 rfl rfl a (by omega) (by omega) dX0_remove_33 (fun H locs hP hD hS => ?_)
        have hP : va_P D vwCl [(qa, .inr (1, [.ref qb, .ref qh, .ref qw, .ref qf, .int (nI n), .ref qu, .ref qg])), (qb, .inl (cI, 14, .inl (upd (sh_ Bd j (a + 1)) a ((sh_ Bd j (a + 1)) (a + 1))))), (qh, .inl (cI, 14, .inl (sh_ Hd j (a + 1)))), (qw, .inl (cI, 14, .inl (sh_ Wt j (a + 1)))), (qf, .inl (cZ, 14, .inl (sh_ Fx j (a + 1))))] H := hP
        have hD : va_D A [(qa, .inr (1, [.ref qb, .ref qh, .ref qw, .ref qf, .int (nI n), .ref qu, .ref qg])), (qb, .inl (cI, 14, .inl (upd (sh_ Bd j (a + 1)) a ((sh_ Bd j (a + 1)) (a + 1))))), (qh, .inl (cI, 14, .inl (sh_ Hd j (a + 1)))), (qw, .inl (cI, 14, .inl (sh_ Wt j (a + 1)))), (qf, .inl (cZ, 14, .inl (sh_ Fx j (a + 1))))] := hD
        refine lv_aload_n hx hb dX0_remove_34 rfl (lv_at hl 1 rfl) ?_
        refine va_get (D := D) (ci := 1) (v := .ref qh) (C := RX0) (T := TX0) (N := 7) hx hb hts iX0 hown hK hP 0 rfl rfl 1 (by decide) (hts (.fieldLink RX0 15 "LeastSets$Axioms" "head" "[I") (by decide +kernel)) (fun _ h9 => h9) rfl dX0_remove_35 ?_
        refine lv_iload_n hx hb dX0_remove_38 rfl (lv_at hl 0 rfl) ?_
        refine lv_aload_n hx hb dX0_remove_39 rfl (lv_at hl 1 rfl) ?_
        refine va_get (D := D) (ci := 1) (v := .ref qh) (C := RX0) (T := TX0) (N := 7) hx hb hts iX0 hown hK hP 0 rfl rfl 1 (by decide) (hts (.fieldLink RX0 15 "LeastSets$Axioms" "head" "[I") (by decide +kernel)) (fun _ h9 => h9) rfl dX0_remove_40 ?_
        refine lv_iload_n hx hb dX0_remove_43 rfl (lv_at hl 0 rfl) ?_
        refine lv_iconst (v := (nI 1)) hx hb dX0_remove_44 (by decide +kernel) ?_
        refine r_iadd hx hb dX0_remove_45 ?_
        refine r_iald hx hb hK hP 2 0 rfl rfl (a + 1) (by omega) (by omega) dX0_remove_46 ?_
        refine r_iast hx hb hK hP hD hS 2 0 rfl rfl a (by omega) (by omega) dX0_remove_47 (fun H locs hP hD hS => ?_)
        have hP : va_P D vwCl [(qa, .inr (1, [.ref qb, .ref qh, .ref qw, .ref qf, .int (nI n), .ref qu, .ref qg])), (qb, .inl (cI, 14, .inl (upd (sh_ Bd j (a + 1)) a ((sh_ Bd j (a + 1)) (a + 1))))), (qh, .inl (cI, 14, .inl (upd (sh_ Hd j (a + 1)) a ((sh_ Hd j (a + 1)) (a + 1))))), (qw, .inl (cI, 14, .inl (sh_ Wt j (a + 1)))), (qf, .inl (cZ, 14, .inl (sh_ Fx j (a + 1))))] H := hP
        have hD : va_D A [(qa, .inr (1, [.ref qb, .ref qh, .ref qw, .ref qf, .int (nI n), .ref qu, .ref qg])), (qb, .inl (cI, 14, .inl (upd (sh_ Bd j (a + 1)) a ((sh_ Bd j (a + 1)) (a + 1))))), (qh, .inl (cI, 14, .inl (upd (sh_ Hd j (a + 1)) a ((sh_ Hd j (a + 1)) (a + 1))))), (qw, .inl (cI, 14, .inl (sh_ Wt j (a + 1)))), (qf, .inl (cZ, 14, .inl (sh_ Fx j (a + 1))))] := hD
        refine lv_aload_n hx hb dX0_remove_48 rfl (lv_at hl 1 rfl) ?_
        refine va_get (D := D) (ci := 1) (v := .ref qw) (C := RX0) (T := TX0) (N := 7) hx hb hts iX0 hown hK hP 0 rfl rfl 2 (by decide) (hts (.fieldLink RX0 18 "LeastSets$Axioms" "weight" "[I") (by decide +kernel)) (fun _ h9 => h9) rfl dX0_remove_49 ?_
        refine lv_iload_n hx hb dX0_remove_52 rfl (lv_at hl 0 rfl) ?_
        refine lv_aload_n hx hb dX0_remove_53 rfl (lv_at hl 1 rfl) ?_
        refine va_get (D := D) (ci := 1) (v := .ref qw) (C := RX0) (T := TX0) (N := 7) hx hb hts iX0 hown hK hP 0 rfl rfl 2 (by decide) (hts (.fieldLink RX0 18 "LeastSets$Axioms" "weight" "[I") (by decide +kernel)) (fun _ h9 => h9) rfl dX0_remove_54 ?_
        refine lv_iload_n hx hb dX0_remove_57 rfl (lv_at hl 0 rfl) ?_
        refine lv_iconst (v := (nI 1)) hx hb dX0_remove_58 (by decide +kernel) ?_
        refine r_iadd hx hb dX0_remove_59 ?_
        refine r_iald hx hb hK hP 3 0 rfl rfl (a + 1) (by omega) (by omega) dX0_remove_60 ?_
        refine r_iast hx hb hK hP hD hS 3 0 rfl rfl a (by omega) (by omega) dX0_remove_61 (fun H locs hP hD hS => ?_)
        have hP : va_P D vwCl [(qa, .inr (1, [.ref qb, .ref qh, .ref qw, .ref qf, .int (nI n), .ref qu, .ref qg])), (qb, .inl (cI, 14, .inl (upd (sh_ Bd j (a + 1)) a ((sh_ Bd j (a + 1)) (a + 1))))), (qh, .inl (cI, 14, .inl (upd (sh_ Hd j (a + 1)) a ((sh_ Hd j (a + 1)) (a + 1))))), (qw, .inl (cI, 14, .inl (upd (sh_ Wt j (a + 1)) a ((sh_ Wt j (a + 1)) (a + 1))))), (qf, .inl (cZ, 14, .inl (sh_ Fx j (a + 1))))] H := hP
        have hD : va_D A [(qa, .inr (1, [.ref qb, .ref qh, .ref qw, .ref qf, .int (nI n), .ref qu, .ref qg])), (qb, .inl (cI, 14, .inl (upd (sh_ Bd j (a + 1)) a ((sh_ Bd j (a + 1)) (a + 1))))), (qh, .inl (cI, 14, .inl (upd (sh_ Hd j (a + 1)) a ((sh_ Hd j (a + 1)) (a + 1))))), (qw, .inl (cI, 14, .inl (upd (sh_ Wt j (a + 1)) a ((sh_ Wt j (a + 1)) (a + 1))))), (qf, .inl (cZ, 14, .inl (sh_ Fx j (a + 1))))] := hD
        refine lv_aload_n hx hb dX0_remove_62 rfl (lv_at hl 1 rfl) ?_
        refine va_get (D := D) (ci := 1) (v := .ref qf) (C := RX0) (T := TX0) (N := 7) hx hb hts iX0 hown hK hP 0 rfl rfl 3 (by decide) (hts (.fieldLink RX0 21 "LeastSets$Axioms" "fixed" "[Z") (by decide +kernel)) (fun _ h9 => h9) rfl dX0_remove_63 ?_
        refine lv_iload_n hx hb dX0_remove_66 rfl (lv_at hl 0 rfl) ?_
        refine lv_aload_n hx hb dX0_remove_67 rfl (lv_at hl 1 rfl) ?_
        refine va_get (D := D) (ci := 1) (v := .ref qf) (C := RX0) (T := TX0) (N := 7) hx hb hts iX0 hown hK hP 0 rfl rfl 3 (by decide) (hts (.fieldLink RX0 21 "LeastSets$Axioms" "fixed" "[Z") (by decide +kernel)) (fun _ h9 => h9) rfl dX0_remove_68 ?_
        refine lv_iload_n hx hb dX0_remove_71 rfl (lv_at hl 0 rfl) ?_
        refine lv_iconst (v := (nI 1)) hx hb dX0_remove_72 (by decide +kernel) ?_
        refine r_iadd hx hb dX0_remove_73 ?_
        refine r_zald hx hb hK hP 4 1 rfl rfl (a + 1) (by omega) (by omega) dX0_remove_74 ?_
        refine r_zast hx hb hK hP hD hS 4 1 rfl rfl a (by rw [sh_at Fx h2]; exact hF (a + 1) c_17) (by omega) (by omega) dX0_remove_75 (fun H locs hP hD hS => ?_)
        have hP : va_P D vwCl [(qa, .inr (1, [.ref qb, .ref qh, .ref qw, .ref qf, .int (nI n), .ref qu, .ref qg])), (qb, .inl (cI, 14, .inl (upd (sh_ Bd j (a + 1)) a ((sh_ Bd j (a + 1)) (a + 1))))), (qh, .inl (cI, 14, .inl (upd (sh_ Hd j (a + 1)) a ((sh_ Hd j (a + 1)) (a + 1))))), (qw, .inl (cI, 14, .inl (upd (sh_ Wt j (a + 1)) a ((sh_ Wt j (a + 1)) (a + 1))))), (qf, .inl (cZ, 14, .inl (upd (sh_ Fx j (a + 1)) a ((sh_ Fx j (a + 1)) (a + 1)))))] H := hP
        have hD : va_D A [(qa, .inr (1, [.ref qb, .ref qh, .ref qw, .ref qf, .int (nI n), .ref qu, .ref qg])), (qb, .inl (cI, 14, .inl (upd (sh_ Bd j (a + 1)) a ((sh_ Bd j (a + 1)) (a + 1))))), (qh, .inl (cI, 14, .inl (upd (sh_ Hd j (a + 1)) a ((sh_ Hd j (a + 1)) (a + 1))))), (qw, .inl (cI, 14, .inl (upd (sh_ Wt j (a + 1)) a ((sh_ Wt j (a + 1)) (a + 1))))), (qf, .inl (cZ, 14, .inl (upd (sh_ Fx j (a + 1)) a ((sh_ Fx j (a + 1)) (a + 1)))))] := hD
        refine lv_iinc (v := (nI (a + 1))) (lv' := [(2, .int (nI (a + 1))), (0, .ref qa), (1, .int (nI j))]) hx hb dX0_remove_76 hl (k := 0) rfl (nI_inc _) (by decide) rfl (fun ls hl => ?_)
        refine lv_goto (tgt := 10) hx hb dX0_remove_79 (by decide) ?_
        rw [sh_next h2, sh_next h2, sh_next h2, sh_next h2] at hP hD
        exact ih (a + 1) H locs ls (by omega) (by omega) (by omega) hP hD hS (lv_sub hl [0, 1, 2] rfl)
  refine lv_aload_n hx hb dX0_remove_0 rfl (lv_at hl 0 rfl) ?_
  refine lv_iload_n hx hb dX0_remove_1 rfl (lv_at hl 1 rfl) ?_
  refine vp_callSi (va_runV (As := [.int (nI j)]) (rest := []) ⟨hx, hb, hml, hown, hts⟩ (c_X0_has l D cI cZ cJ qa qb qh qw qf qu qg n hn (nI j)) (cwV 1 hts gX0_remove_X0_has rfl rfl rfl (by decide +kernel) ⟨Nat.le_of_ble_eq_true rfl, Nat.le_of_ble_eq_true rfl⟩) ⟨ro_blind, va_recv hK hP (ci := 1) (q0 := 0) rfl rfl, ro_pre (hP.sub (ws' := [(qa, .inr (1, [.ref qb, .ref qh, .ref qw, .ref qf, .int (nI n), .ref qu, .ref qg]))]) [0] rfl) hK [0, 1, 2] rfl⟩ rfl rfl hl.1 rfl (lv_room (Nat.le_of_ble_eq_true rfl)) dX0_remove_2 ⟨Nat.le_of_ble_eq_true rfl, Nat.le_of_ble_eq_true rfl⟩).run (fun r_2 hr_2 => ?_)
  have e2 : r_2 = 1 := has_yes hj (by omega) hr_2
  subst e2
  refine lv_if_eq (tgt := 92) hx hb dX0_remove_5 (by decide) (fun c_5 => ?_) (fun c_5 => ?_)
  · exact absurd c_5 (by decide)
  · refine lv_iload_n hx hb dX0_remove_8 rfl (lv_at hl 1 rfl) ?_
    refine lv_istore_n (lv' := [(2, .int (nI j)), (0, .ref qa), (1, .int (nI j))]) hx hb dX0_remove_9 rfl hl (by decide) rfl (fun ls hl => ?_)
    rw [← sh_0 Bd j, ← sh_0 Hd j, ← sh_0 Wt j, ← sh_0 Fx j] at hP hD
    exact loop n j s.heap [] ls (by omega) (Nat.le_refl _) hj hP hD hS (lv_sub hl [0, 1, 2] rfl)
