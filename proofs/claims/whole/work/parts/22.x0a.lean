set_option maxHeartbeats 4000000 in
set_option maxRecDepth 100000 in
/-- has(x) -/
theorem c_X0_has (l : Launch) (D : va_G) (cI cZ cJ : ClassId) (qa qb qh qw qf qu qg : Nat) (n : Nat) (hn : n ≤ 14) (x : Int32) : Met l yX0_has wsX0_has ({ frames := 0, cells := 0, slots := 0, locals := 0 } : Room) (va_Pc [.ref qa, .int x] (ro_ D [(cI, .int), (cZ, .boolean), (cJ, .long)] [(qa, .inr (1, [.ref qb, .ref qh, .ref qw, .ref qf, .int (nI n), .ref qu, .ref qg]))])) (vp_Si (fun r => has_is n x r)) 0 0 (fun _ => False) := by
  refine Met.ofW (cc := cX0_has) (maxL := 2) (ret := (some .boolean)) (by decide) rfl ?_
  intro p e s m args below meth c s₁ B hml hv
  obtain ⟨rfl, hP, hK⟩ := hv
  have hx := B.exec
  have hb := B.bytes
  have hr := B.returns
  have hts := atoms_spec (ws := wsX0_has) B.pre
  have hown : s.vm.findClass RX0 = some m.cls := findClass_of_methodNamed B.named
  have hlocks := B.notSynchronized
  have iX0 : ∀ w ∈ u_ws RX0 TX0 7, w ∈ wsX0_has := by decide +kernel
  have hl := lv_entry ([.ref qa, .int x]) (n := 2) (Nat.le_of_ble_eq_true rfl)
  rw [lg_entry_eq]
  generalize (lg_sl ([.ref qa, .int x]) ++ List.replicate (2 - (lg_sl ([.ref qa, .int x])).length) Slot.unset).toArray = ls at hl ⊢
  have hl : lv_has ls 2 [(0, .ref qa), (1, .int x)] := hl
  refine lv_iload_n hx hb dX0_has_0 rfl (lv_at hl 1 rfl) ?_
  refine lv_if_lt (tgt := 16) hx hb dX0_has_1 (by decide) (fun c_1 => ?_) (fun c_1 => ?_)
  · refine lv_iconst (v := 0) hx hb dX0_has_16 (by decide +kernel) ?_
    exact W.zret (v := 0) hx hb hr (by rfl) (fun t ht hW => ⟨0, rfl, by first | exact has_in hn c_1 c_9 | exact has_neg hn c_1 | exact has_big hn c_9, ht⟩) (fun q h => by cases h) dX0_has_17
  · refine lv_iload_n hx hb dX0_has_4 rfl (lv_at hl 1 rfl) ?_
    refine lv_aload_n hx hb dX0_has_5 rfl (lv_at hl 0 rfl) ?_
    refine va_get (D := D) (ci := 1) (v := .int (nI n)) (C := RX0) (T := TX0) (N := 7) hx hb hts iX0 hown hK hP 0 rfl rfl 4 (by decide) (hts (.fieldLink RX0 25 "LeastSets$Axioms" "count" "I") (by decide +kernel)) (fun _ h9 => h9) rfl dX0_has_6 ?_
    refine lv_icmp_ge (tgt := 16) hx hb dX0_has_9 (by decide) (fun c_9 => ?_) (fun c_9 => ?_)
    · refine lv_iconst (v := 0) hx hb dX0_has_16 (by decide +kernel) ?_
      exact W.zret (v := 0) hx hb hr (by rfl) (fun t ht hW => ⟨0, rfl, by first | exact has_in hn c_1 c_9 | exact has_neg hn c_1 | exact has_big hn c_9, ht⟩) (fun q h => by cases h) dX0_has_17
    · refine lv_iconst (v := 1) hx hb dX0_has_12 (by decide +kernel) ?_
      refine lv_goto (tgt := 17) hx hb dX0_has_13 (by decide) ?_
      exact W.zret (v := 1) hx hb hr (by rfl) (fun t ht hW => ⟨1, rfl, by first | exact has_in hn c_1 c_9 | exact has_neg hn c_1 | exact has_big hn c_9, ht⟩) (fun q h => by cases h) dX0_has_17
set_option maxHeartbeats 4000000 in
set_option maxRecDepth 100000 in
/-- weightOf(x) -/
theorem c_X0_weightOf (l : Launch) (D : va_G) (cI cZ cJ : ClassId) (qa qb qh qw qf qu qg : Nat) (n : Nat) (hn : n ≤ 14) (Wt : Nat → Int32) (x : Int32) : Met l yX0_weightOf wsX0_weightOf ({ frames := 0, cells := 0, slots := 0, locals := 0 } : Room) (va_Pc [.ref qa, .int x] (ro_ D [(cI, .int), (cZ, .boolean), (cJ, .long)] [(qa, .inr (1, [.ref qb, .ref qh, .ref qw, .ref qf, .int (nI n), .ref qu, .ref qg])), (qw, .inl (cI, 14, .inl Wt))])) (vp_Si (fun r => r = wo_ Wt x n)) 0 0 (fun _ => False) := by
  refine Met.ofW (cc := cX0_weightOf) (maxL := 4) (ret := (some .int)) (by decide) rfl ?_
  intro p e s m args below meth c s₁ B hml hv
  obtain ⟨rfl, hP, hK⟩ := hv
  have hx := B.exec
  have hb := B.bytes
  have hr := B.returns
  have hts := atoms_spec (ws := wsX0_weightOf) B.pre
  have hown : s.vm.findClass RX0 = some m.cls := findClass_of_methodNamed B.named
  have hlocks := B.notSynchronized
  have iX0 : ∀ w ∈ u_ws RX0 TX0 7, w ∈ wsX0_weightOf := by decide +kernel
  have hl := lv_entry ([.ref qa, .int x]) (n := 4) (Nat.le_of_ble_eq_true rfl)
  rw [lg_entry_eq]
  generalize (lg_sl ([.ref qa, .int x]) ++ List.replicate (4 - (lg_sl ([.ref qa, .int x])).length) Slot.unset).toArray = ls at hl ⊢
  have hl : lv_has ls 4 [(0, .ref qa), (1, .int x)] := hl
  have loop : ∀ (k a : Nat) (y : Int32) (ls : Array Slot), n < a + k → a ≤ n → y = wo_ Wt x a → lv_has ls 4 [(3, .int (nI a)), (2, .int y), (0, .ref qa), (1, .int x)] → W p l e (headSpec wsX0_weightOf ({ frames := 0, cells := 0, slots := 0, locals := 0 } : Room)).room s m ([.ref qa, .int x] : List Value).toArray below meth c s.heap [] 0 0 (MQ below (vp_Si (fun r => r = wo_ Wt x n)) ([.ref qa, .int x] : List Value).toArray s 0 0 (fun _ => False)) (F0 m 4 ls []) := by
    intro k
    induction k with
    | zero => intro a y ls h1 h2; omega
    | succ k ih =>
      intro a y ls h1 h2 hy hl
      refine lv_iload_n hx hb dX0_weightOf_4 rfl (lv_at hl 0 rfl) ?_
      refine lv_aload_n hx hb dX0_weightOf_5 rfl (lv_at hl 2 rfl) ?_
      refine va_get (D := D) (ci := 1) (v := .int (nI n)) (C := RX0) (T := TX0) (N := 7) hx hb hts iX0 hown hK hP 0 rfl rfl 4 (by decide) (hts (.fieldLink RX0 25 "LeastSets$Axioms" "count" "I") (by decide +kernel)) (fun _ h9 => h9) rfl dX0_weightOf_6 ?_
      refine r_ige hx hb (tgt := 35) (by omega) (by omega) dX0_weightOf_9 (by decide) (fun c_9 => ?_) (fun c_9 => ?_)
      · refine lv_iload_n hx hb dX0_weightOf_35 rfl (lv_at hl 1 rfl) ?_
        exact W.iret (v := y) hx hb hr (fun t ht hW => ⟨y, rfl, (by rw [hy, show a = n by omega]), ht⟩) (fun q h => by cases h) dX0_weightOf_36
      · refine lv_iload_n hx hb dX0_weightOf_12 rfl (lv_at hl 3 rfl) ?_
        refine lv_iload_n hx hb dX0_weightOf_13 rfl (lv_at hl 0 rfl) ?_
        refine lv_ishr hx hb dX0_weightOf_14 ?_
        refine lv_iconst (v := 1) hx hb dX0_weightOf_15 (by decide +kernel) ?_
        refine lv_iand hx hb dX0_weightOf_16 ?_
        refine lv_if_eq (tgt := 29) hx hb dX0_weightOf_17 (by decide) (fun c_17 => ?_) (fun c_17 => ?_)
        · refine lv_iinc (v := (nI (a + 1))) (lv' := [(3, .int (nI (a + 1))), (2, .int y), (0, .ref qa), (1, .int x)]) hx hb dX0_weightOf_29 hl (k := 0) rfl (nI_inc _) (by decide) rfl (fun ls hl => ?_)
          refine lv_goto (tgt := 4) hx hb dX0_weightOf_32 (by decide) ?_
          exact ih (a + 1) _ ls (by omega) (by omega) (by first | rw [wo_no (by omega) c_17, hy] | rw [wo_yes (by omega) c_17, hy]) (lv_sub hl [0, 1, 2, 3] rfl)
        · refine lv_iload_n hx hb dX0_weightOf_20 rfl (lv_at hl 1 rfl) ?_
          refine lv_aload_n hx hb dX0_weightOf_21 rfl (lv_at hl 2 rfl) ?_
          refine va_get (D := D) (ci := 1) (v := .ref qw) (C := RX0) (T := TX0) (N := 7) hx hb hts iX0 hown hK hP 0 rfl rfl 2 (by decide) (hts (.fieldLink RX0 18 "LeastSets$Axioms" "weight" "[I") (by decide +kernel)) (fun _ h9 => h9) rfl dX0_weightOf_22 ?_
          refine lv_iload_n hx hb dX0_weightOf_25 rfl (lv_at hl 0 rfl) ?_
          refine r_iald hx hb hK hP 1 0 rfl rfl a (by omega) (by omega) dX0_weightOf_26 ?_
          refine lv_iadd hx hb dX0_weightOf_27 ?_
          refine lv_istore_n (lv' := [(2, .int (y + (Wt a))), (3, .int (nI a)), (0, .ref qa), (1, .int x)]) hx hb dX0_weightOf_28 rfl hl (by decide) rfl (fun ls hl => ?_)
          refine lv_iinc (v := (nI (a + 1))) (lv' := [(3, .int (nI (a + 1))), (2, .int (y + (Wt a))), (0, .ref qa), (1, .int x)]) hx hb dX0_weightOf_29 hl (k := 1) rfl (nI_inc _) (by decide) rfl (fun ls hl => ?_)
          refine lv_goto (tgt := 4) hx hb dX0_weightOf_32 (by decide) ?_
          exact ih (a + 1) _ ls (by omega) (by omega) (by first | rw [wo_no (by omega) c_17, hy] | rw [wo_yes (by omega) c_17, hy]) (lv_sub hl [0, 1, 2, 3] rfl)
  refine lv_iconst (v := 0) hx hb dX0_weightOf_0 (by decide +kernel) ?_
  refine lv_istore_n (lv' := [(2, .int 0), (0, .ref qa), (1, .int x)]) hx hb dX0_weightOf_1 rfl hl (by decide) rfl (fun ls hl => ?_)
  refine lv_iconst (v := (nI 0)) hx hb dX0_weightOf_2 (by decide +kernel) ?_
  refine lv_istore_n (lv' := [(3, .int (nI 0)), (2, .int 0), (0, .ref qa), (1, .int x)]) hx hb dX0_weightOf_3 rfl hl (by decide) rfl (fun ls hl => ?_)
  exact loop (n + 1) 0 _ ls (by omega) (Nat.zero_le _) (by rfl) (lv_sub hl [0, 1, 2, 3] rfl)
set_option maxHeartbeats 4000000 in
set_option maxRecDepth 100000 in
/-- oneStepMore(x, f) -/
theorem c_X0_oneStepMore (l : Launch) (D : va_G) (cI cZ cJ : ClassId) (qa qb qh qw qf qu qg : Nat) (n : Nat) (hn : n ≤ 14) (Bd Hd : Nat → Int32) (x f : Int32) : Met l yX0_oneStepMore wsX0_oneStepMore ({ frames := 0, cells := 0, slots := 0, locals := 0 } : Room) (va_Pc [.ref qa, .int x, .int f] (ro_ D [(cI, .int), (cZ, .boolean), (cJ, .long)] [(qa, .inr (1, [.ref qb, .ref qh, .ref qw, .ref qf, .int (nI n), .ref qu, .ref qg])), (qb, .inl (cI, 14, .inl Bd)), (qh, .inl (cI, 14, .inl Hd))])) (vp_Si (fun r => r = cs_ Bd Hd x f n)) 0 0 (fun _ => False) := by
  refine Met.ofW (cc := cX0_oneStepMore) (maxL := 5) (ret := (some .int)) (by decide) rfl ?_
  intro p e s m args below meth c s₁ B hml hv
  obtain ⟨rfl, hP, hK⟩ := hv
  have hx := B.exec
  have hb := B.bytes
  have hr := B.returns
  have hts := atoms_spec (ws := wsX0_oneStepMore) B.pre
  have hown : s.vm.findClass RX0 = some m.cls := findClass_of_methodNamed B.named
  have hlocks := B.notSynchronized
  have iX0 : ∀ w ∈ u_ws RX0 TX0 7, w ∈ wsX0_oneStepMore := by decide +kernel
  have hl := lv_entry ([.ref qa, .int x, .int f]) (n := 5) (Nat.le_of_ble_eq_true rfl)
  rw [lg_entry_eq]
  generalize (lg_sl ([.ref qa, .int x, .int f]) ++ List.replicate (5 - (lg_sl ([.ref qa, .int x, .int f])).length) Slot.unset).toArray = ls at hl ⊢
  have hl : lv_has ls 5 [(0, .ref qa), (1, .int x), (2, .int f)] := hl
  have loop : ∀ (k a : Nat) (y : Int32) (ls : Array Slot), n < a + k → a ≤ n → y = cs_ Bd Hd x f a → lv_has ls 5 [(4, .int (nI a)), (3, .int y), (0, .ref qa), (1, .int x), (2, .int f)] → W p l e (headSpec wsX0_oneStepMore ({ frames := 0, cells := 0, slots := 0, locals := 0 } : Room)).room s m ([.ref qa, .int x, .int f] : List Value).toArray below meth c s.heap [] 0 0 (MQ below (vp_Si (fun r => r = cs_ Bd Hd x f n)) ([.ref qa, .int x, .int f] : List Value).toArray s 0 0 (fun _ => False)) (F0 m 5 ls []) := by
    intro k
    induction k with
    | zero => intro a y ls h1 h2; omega
    | succ k ih =>
      intro a y ls h1 h2 hy hl
      refine lv_iload hx hb dX0_oneStepMore_5 (lv_at hl 0 rfl) ?_
      refine lv_aload_n hx hb dX0_oneStepMore_7 rfl (lv_at hl 2 rfl) ?_
      refine va_get (D := D) (ci := 1) (v := .int (nI n)) (C := RX0) (T := TX0) (N := 7) hx hb hts iX0 hown hK hP 0 rfl rfl 4 (by decide) (hts (.fieldLink RX0 25 "LeastSets$Axioms" "count" "I") (by decide +kernel)) (fun _ h9 => h9) rfl dX0_oneStepMore_8 ?_
      refine r_ige hx hb (tgt := 55) (by omega) (by omega) dX0_oneStepMore_11 (by decide) (fun c_11 => ?_) (fun c_11 => ?_)
      · refine lv_iload_n hx hb dX0_oneStepMore_55 rfl (lv_at hl 1 rfl) ?_
        exact W.iret (v := y) hx hb hr (fun t ht hW => ⟨y, rfl, (by rw [hy, show a = n by omega]), ht⟩) (fun q h => by cases h) dX0_oneStepMore_56
      · refine lv_iload_n hx hb dX0_oneStepMore_14 rfl (lv_at hl 3 rfl) ?_
        refine lv_iload hx hb dX0_oneStepMore_15 (lv_at hl 0 rfl) ?_
        refine lv_ishr hx hb dX0_oneStepMore_17 ?_
        refine lv_iconst (v := 1) hx hb dX0_oneStepMore_18 (by decide +kernel) ?_
        refine lv_iand hx hb dX0_oneStepMore_19 ?_
        refine lv_if_eq (tgt := 49) hx hb dX0_oneStepMore_20 (by decide) (fun c_20 => ?_) (fun c_20 => ?_)
        · refine lv_iinc (v := (nI (a + 1))) (lv' := [(4, .int (nI (a + 1))), (3, .int y), (0, .ref qa), (1, .int x), (2, .int f)]) hx hb dX0_oneStepMore_49 hl (k := 0) rfl (nI_inc _) (by decide) rfl (fun ls hl => ?_)
          refine lv_goto (tgt := 5) hx hb dX0_oneStepMore_52 (by decide) ?_
          exact ih (a + 1) _ ls (by omega) (by omega) (by first | rw [cs_no1 (by omega) c_20, hy] | rw [cs_no2 c_34, hy] | rw [cs_yes (by omega) c_20 c_34, hy]) (lv_sub hl [0, 1, 2, 3, 4] rfl)
        · refine lv_aload_n hx hb dX0_oneStepMore_23 rfl (lv_at hl 2 rfl) ?_
          refine va_get (D := D) (ci := 1) (v := .ref qb) (C := RX0) (T := TX0) (N := 7) hx hb hts iX0 hown hK hP 0 rfl rfl 0 (by decide) (hts (.fieldLink RX0 9 "LeastSets$Axioms" "body" "[I") (by decide +kernel)) (fun _ h9 => h9) rfl dX0_oneStepMore_24 ?_
          refine lv_iload hx hb dX0_oneStepMore_27 (lv_at hl 0 rfl) ?_
          refine r_iald hx hb hK hP 1 0 rfl rfl a (by omega) (by omega) dX0_oneStepMore_29 ?_
          refine lv_iload_n hx hb dX0_oneStepMore_30 rfl (lv_at hl 4 rfl) ?_
          refine lv_iconst (v := (-1)) hx hb dX0_oneStepMore_31 (by decide +kernel) ?_
          refine lv_ixor hx hb dX0_oneStepMore_32 ?_
          refine lv_iand hx hb dX0_oneStepMore_33 ?_
          refine lv_if_ne (tgt := 49) hx hb dX0_oneStepMore_34 (by decide) (fun c_34 => ?_) (fun c_34 => ?_)
          · refine lv_iinc (v := (nI (a + 1))) (lv' := [(4, .int (nI (a + 1))), (3, .int y), (0, .ref qa), (1, .int x), (2, .int f)]) hx hb dX0_oneStepMore_49 hl (k := 0) rfl (nI_inc _) (by decide) rfl (fun ls hl => ?_)
            refine lv_goto (tgt := 5) hx hb dX0_oneStepMore_52 (by decide) ?_
            exact ih (a + 1) _ ls (by omega) (by omega) (by first | rw [cs_no1 (by omega) c_20, hy] | rw [cs_no2 c_34, hy] | rw [cs_yes (by omega) c_20 c_34, hy]) (lv_sub hl [0, 1, 2, 3, 4] rfl)
          · refine lv_iload_n hx hb dX0_oneStepMore_37 rfl (lv_at hl 1 rfl) ?_
            refine lv_iconst (v := 1) hx hb dX0_oneStepMore_38 (by decide +kernel) ?_
            refine lv_aload_n hx hb dX0_oneStepMore_39 rfl (lv_at hl 2 rfl) ?_
            refine va_get (D := D) (ci := 1) (v := .ref qh) (C := RX0) (T := TX0) (N := 7) hx hb hts iX0 hown hK hP 0 rfl rfl 1 (by decide) (hts (.fieldLink RX0 15 "LeastSets$Axioms" "head" "[I") (by decide +kernel)) (fun _ h9 => h9) rfl dX0_oneStepMore_40 ?_
            refine lv_iload hx hb dX0_oneStepMore_43 (lv_at hl 0 rfl) ?_
            refine r_iald hx hb hK hP 2 0 rfl rfl a (by omega) (by omega) dX0_oneStepMore_45 ?_
            refine lv_ishl hx hb dX0_oneStepMore_46 ?_
            refine lv_ior hx hb dX0_oneStepMore_47 ?_
            refine lv_istore_n (lv' := [(3, .int (y ||| (1 <<< ((Hd a) &&& 31)))), (4, .int (nI a)), (0, .ref qa), (1, .int x), (2, .int f)]) hx hb dX0_oneStepMore_48 rfl hl (by decide) rfl (fun ls hl => ?_)
            refine lv_iinc (v := (nI (a + 1))) (lv' := [(4, .int (nI (a + 1))), (3, .int (y ||| (1 <<< ((Hd a) &&& 31)))), (0, .ref qa), (1, .int x), (2, .int f)]) hx hb dX0_oneStepMore_49 hl (k := 1) rfl (nI_inc _) (by decide) rfl (fun ls hl => ?_)
            refine lv_goto (tgt := 5) hx hb dX0_oneStepMore_52 (by decide) ?_
            exact ih (a + 1) _ ls (by omega) (by omega) (by first | rw [cs_no1 (by omega) c_20, hy] | rw [cs_no2 c_34, hy] | rw [cs_yes (by omega) c_20 c_34, hy]) (lv_sub hl [0, 1, 2, 3, 4] rfl)
  refine lv_iload_n hx hb dX0_oneStepMore_0 rfl (lv_at hl 2 rfl) ?_
  refine lv_istore_n (lv' := [(3, .int f), (0, .ref qa), (1, .int x), (2, .int f)]) hx hb dX0_oneStepMore_1 rfl hl (by decide) rfl (fun ls hl => ?_)
  refine lv_iconst (v := (nI 0)) hx hb dX0_oneStepMore_2 (by decide +kernel) ?_
  refine lv_istore (lv' := [(4, .int (nI 0)), (3, .int f), (0, .ref qa), (1, .int x), (2, .int f)]) hx hb dX0_oneStepMore_3 hl (by decide) rfl (fun ls hl => ?_)
  exact loop (n + 1) 0 _ ls (by omega) (Nat.zero_le _) (by rfl) (lv_sub hl [0, 1, 2, 3, 4] rfl)
