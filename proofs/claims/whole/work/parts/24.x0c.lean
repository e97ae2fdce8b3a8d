set_option maxHeartbeats 4000000 in
set_option maxRecDepth 100000 in
/-- setsGivingAll(f, x) -/
theorem c_X0_setsGivingAll (l : Launch) (D : va_G) (cI cZ cJ : ClassId) (qa qb qh qw qf qu qg : Nat) (n : Nat) (hn : n ≤ 14) (t1 t2 : Nat) (G : Nat → Int64) (f : Int32) (x : Int64) (hf : uI_ f < 16777216) : Met l yX0_setsGivingAll wsX0_setsGivingAll ({ frames := 2, cells := 0, slots := 0, locals := 42 } : Room) (va_Pc [.ref qa, .int f, .long x] (re_ D [(cI, .int), (cZ, .boolean), (cJ, .long)] [(qa, .inr (1, [.ref qb, .ref qh, .ref qw, .ref qf, .int (nI n), .ref qu, .ref qg])), (qg, .inl (cJ, 24, .inr (.inl G)))] t1 t2)) (vp_Sl (fun r => ga_is G f x r)) 0 0 (fun _ => False) := by
  refine Met.ofW (cc := cX0_setsGivingAll) (maxL := 9) (ret := (some .long)) (by decide) rfl ?_
  intro p e s m args below meth c s₁ B hml hv
  obtain ⟨rfl, hP, hK, hE⟩ := hv
  have hx := B.exec
  have hb := B.bytes
  have hr := B.returns
  have hts := atoms_spec (ws := wsX0_setsGivingAll) B.pre
  have hown : s.vm.findClass RX0 = some m.cls := findClass_of_methodNamed B.named
  have hlocks := B.notSynchronized
  have iX0 : ∀ w ∈ u_ws RX0 TX0 7, w ∈ wsX0_setsGivingAll := by decide +kernel
  have hS : va_S (fun _ => False) s.heap s.heap [] := va_S.rf
  have h32 := gp_32 f
  have hl := lv_entry ([.ref qa, .int f, .long x]) (n := 9) (Nat.le_of_ble_eq_true rfl)
  rw [lg_entry_eq]
  generalize (lg_sl ([.ref qa, .int f, .long x]) ++ List.replicate (9 - (lg_sl ([.ref qa, .int f, .long x])).length) Slot.unset).toArray = ls at hl ⊢
  have hl : lv_has ls 9 [(0, .ref qa), (1, .int f), (2, .long x)] := hl
  have loop : ∀ (d k : Nat) (s6 : Int32) (s4 : Int64) (ls : Array Slot), (on_ (bt f) 0 32).length < k + d → k ≤ (on_ (bt f) 0 32).length → gp_is G f x k s6 s4 → lv_has ls 9 [(8, .int (nI k)), (6, .int s6), (4, .long s4), (7, .int (nI (on_ (bt f) 0 32).length)), (0, .ref qa), (1, .int f), (2, .long x)] → W p l e (headSpec wsX0_setsGivingAll ({ frames := 2, cells := 0, slots := 0, locals := 42 } : Room)).room s m ([.ref qa, .int f, .long x] : List Value).toArray below meth c s.heap [] 0 0 (MQ below (vp_Sl (fun r => ga_is G f x r)) ([.ref qa, .int f, .long x] : List Value).toArray s 0 0 (fun _ => False)) (F0 m 15 ls []) := by
    intro d
    induction d with
    | zero => intro k s6 s4 ls h1 h2; omega
    | succ d ih =>
      intro k s6 s4 ls h1 h2 hg hl
      refine lv_iload hx hb dX0_setsGivingAll_15 (lv_at hl 0 rfl) ?_
      refine lv_iload hx hb dX0_setsGivingAll_17 (lv_at hl 3 rfl) ?_
      refine r_ige hx hb (tgt := 60) (by omega) (by omega) dX0_setsGivingAll_19 (by decide) (fun c_19 => ?_) (fun c_19 => ?_)
      · refine lv_lload hx hb dX0_setsGivingAll_60 (lv_at hl 2 rfl) ?_
        exact W.lret (v := s4) hx hb hr (fun t ht hW => ⟨s4, rfl, by first | exact gp_end hg c_19 | exact gp_zero hg ((lg_cmp_eq _ _).mp c_26), ht⟩) (fun q h => by cases h) dX0_setsGivingAll_62
      · refine lv_lload hx hb dX0_setsGivingAll_22 (lv_at hl 2 rfl) ?_
        refine lv_lconst (v := 0) hx hb dX0_setsGivingAll_24 (by decide +kernel) ?_
        refine W.lcmp hx hb dX0_setsGivingAll_25 ?_
        refine lv_if_eq (tgt := 60) hx hb dX0_setsGivingAll_26 (by decide) (fun c_26 => ?_) (fun c_26 => ?_)
        · refine lv_lload hx hb dX0_setsGivingAll_60 (lv_at hl 2 rfl) ?_
          exact W.lret (v := s4) hx hb hr (fun t ht hW => ⟨s4, rfl, by first | exact gp_end hg c_19 | exact gp_zero hg ((lg_cmp_eq _ _).mp c_26), ht⟩) (fun q h => by cases h) dX0_setsGivingAll_62
        · refine lv_lload hx hb dX0_setsGivingAll_29 (lv_at hl 2 rfl) ?_
          refine lv_aload_n hx hb dX0_setsGivingAll_31 rfl (lv_at hl 4 rfl) ?_
          refine va_get (D := D) (ci := 1) (v := .ref qg) (C := RX0) (T := TX0) (N := 7) hx hb hts iX0 hown hK hP 0 rfl rfl 6 (by decide) (hts (.fieldLink RX0 33 "LeastSets$Axioms" "givenBy" "[J") (by decide +kernel)) (fun _ h9 => h9) rfl dX0_setsGivingAll_32 ?_
          refine lv_iload hx hb dX0_setsGivingAll_35 (lv_at hl 1 rfl) ?_
          refine lv_i2l (v := (Int32.toInt64 s6)) hx hb dX0_setsGivingAll_37 rfl ?_
          obtain ⟨p0, hp0, ep0, hg2⟩ := gp_step hf hg c_19
          refine vp_callSi (va_runSN (As := [.long (Int32.toInt64 s6)]) (rest := [.ref qg, .long s4]) ⟨hx, hb, hml, hown, hts⟩ (c_X3_lowestPlace l (Int32.toInt64 s6)) ⟨va_cnB (host := "LeastSets") 1 hts gX0_setsGivingAll_X3_lowestPlace_n73 rfl rfl rfl (hE.1 _ (List.mem_of_getElem? (i := 11) rfl)) (hts (.initialized RX3) (by decide +kernel)) (by decide +kernel) ⟨Nat.le_of_ble_eq_true rfl, Nat.le_of_ble_eq_true rfl⟩, hts (.static yX3_lowestPlace) (by decide +kernel), trivial⟩ ⟨no_blind, no_pre trivial⟩ rfl rfl hl.1 rfl (lv_room (Nat.le_of_ble_eq_true rfl)) dX0_setsGivingAll_38 ⟨Nat.le_of_ble_eq_true rfl, Nat.le_of_ble_eq_true rfl⟩).run (fun r_38 hr_38 => ?_)
          rw [ep0] at hr_38
          subst hr_38
          refine r_lald hx hb hK hP 1 2 rfl rfl p0 (by omega) (by omega) dX0_setsGivingAll_41 ?_
          refine lv_land hx hb dX0_setsGivingAll_42 ?_
          refine lv_lstore (lv' := [(4, .long (s4 &&& (G p0))), (8, .int (nI k)), (6, .int s6), (7, .int (nI (on_ (bt f) 0 32).length)), (0, .ref qa), (1, .int f), (2, .long x)]) hx hb dX0_setsGivingAll_43 hl (by decide) rfl (fun ls hl => ?_)
          refine lv_iload hx hb dX0_setsGivingAll_45 (lv_at hl 2 rfl) ?_
          refine lv_iload hx hb dX0_setsGivingAll_47 (lv_at hl 2 rfl) ?_
          refine lv_iconst (v := 1) hx hb dX0_setsGivingAll_49 (by decide +kernel) ?_
          refine lv_isub hx hb dX0_setsGivingAll_50 ?_
          refine lv_iand hx hb dX0_setsGivingAll_51 ?_
          refine lv_istore (lv' := [(6, .int (s6 &&& (s6 - 1))), (4, .long (s4 &&& (G p0))), (8, .int (nI k)), (7, .int (nI (on_ (bt f) 0 32).length)), (0, .ref qa), (1, .int f), (2, .long x)]) hx hb dX0_setsGivingAll_52 hl (by decide) rfl (fun ls hl => ?_)
          refine lv_iinc (v := (nI (k + 1))) (lv' := [(8, .int (nI (k + 1))), (6, .int (s6 &&& (s6 - 1))), (4, .long (s4 &&& (G p0))), (7, .int (nI (on_ (bt f) 0 32).length)), (0, .ref qa), (1, .int f), (2, .long x)]) hx hb dX0_setsGivingAll_54 hl (k := 2) rfl (nI_inc _) (by decide) rfl (fun ls hl => ?_)
          refine lv_goto (tgt := 15) hx hb dX0_setsGivingAll_57 (by decide) ?_
          exact ih (k + 1) _ _ ls (by omega) (by omega) hg2 (lv_sub hl [0, 1, 2, 3, 4, 5, 6] rfl)
  refine lv_lload_n hx hb dX0_setsGivingAll_0 rfl (lv_at hl 2 rfl) ?_
  refine lv_lstore (lv' := [(4, .long x), (0, .ref qa), (1, .int f), (2, .long x)]) hx hb dX0_setsGivingAll_1 hl (by decide) rfl (fun ls hl => ?_)
  refine lv_iload_n hx hb dX0_setsGivingAll_3 rfl (lv_at hl 2 rfl) ?_
  refine lv_istore (lv' := [(6, .int f), (4, .long x), (0, .ref qa), (1, .int f), (2, .long x)]) hx hb dX0_setsGivingAll_4 hl (by decide) rfl (fun ls hl => ?_)
  refine lv_iload_n hx hb dX0_setsGivingAll_6 rfl (lv_at hl 3 rfl) ?_
  refine vp_callSi (va_runS (As := [.int f]) (rest := []) ⟨hx, hb, hml, hown, hts⟩ (c_J6_bitCount_0f7a4 l f) (va_cwS 1 hts gX0_setsGivingAll_J6_bitCount_0f7a4 rfl rfl rfl (by decide +kernel) ⟨Nat.le_of_ble_eq_true rfl, Nat.le_of_ble_eq_true rfl⟩) ⟨no_blind, no_pre trivial⟩ rfl rfl hl.1 rfl (lv_room (Nat.le_of_ble_eq_true rfl)) dX0_setsGivingAll_7 ⟨Nat.le_of_ble_eq_true rfl, Nat.le_of_ble_eq_true rfl⟩).run (fun r_7 hr_7 => ?_)
  rw [gp_len] at hr_7
  subst hr_7
  refine lv_istore (lv' := [(7, .int (nI (on_ (bt f) 0 32).length)), (6, .int f), (4, .long x), (0, .ref qa), (1, .int f), (2, .long x)]) hx hb dX0_setsGivingAll_10 hl (by decide) rfl (fun ls hl => ?_)
  refine lv_iconst (v := (nI 0)) hx hb dX0_setsGivingAll_12 (by decide +kernel) ?_
  refine lv_istore (lv' := [(8, .int (nI 0)), (7, .int (nI (on_ (bt f) 0 32).length)), (6, .int f), (4, .long x), (0, .ref qa), (1, .int f), (2, .long x)]) hx hb dX0_setsGivingAll_13 hl (by decide) rfl (fun ls hl => ?_)
  exact loop ((on_ (bt f) 0 32).length + 1) 0 _ _ ls (by omega) (Nat.zero_le _) (gp_0 hf) (lv_sub hl [0, 2, 3, 1, 4, 5, 6] rfl)
