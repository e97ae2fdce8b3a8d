set_option maxHeartbeats 4000000 in
set_option maxRecDepth 100000 in
/-- size(v) -/
theorem c_X4_size (l : Launch) (v : Nat) (hv : v < 16384) : Met l yX4_size wsX4_size ({ frames := 0, cells := 0, slots := 0, locals := 0 } : Room) (va_Pc [.int (nI v)] (fun _ => True)) (vp_Si (fun r => r = nI (pcF 14 v))) 0 0 (fun _ => False) := by
  refine Met.ofW (cc := cX4_size) (maxL := 3) (ret := (some .int)) (by decide) rfl ?_
  intro p e s m args below meth c s₁ B hml hv
  obtain ⟨rfl, -⟩ := hv
  have hx := B.exec
  have hb := B.bytes
  have hr := B.returns
  have hts := atoms_spec (ws := wsX4_size) B.pre
  have hown : s.vm.findClass RX4 = some m.cls := findClass_of_methodNamed B.named
  have hlocks := B.notSynchronized
  have hl := lv_entry ([.int (nI v)]) (n := 3) (Nat.le_of_ble_eq_true rfl)
  rw [lg_entry_eq]
  generalize (lg_sl ([.int (nI v)]) ++ List.replicate (3 - (lg_sl ([.int (nI v)])).length) Slot.unset).toArray = ls at hl ⊢
  have hl : lv_has ls 3 [(0, .int (nI v))] := hl
  have loop : ∀ (k b c0 : Nat) (ls : Array Slot), k ≤ 14 → b < 2 ^ k → c0 + pcF k b = pcF 14 v → lv_has ls 3 [(2, .int (nI b)), (1, .int (nI c0)), (0, .int (nI v))] → W p l e (headSpec wsX4_size ({ frames := 0, cells := 0, slots := 0, locals := 0 } : Room)).room s m ([.int (nI v)] : List Value).toArray below meth c s.heap [] 0 0 (MQ below (vp_Si (fun r => r = nI (pcF 14 v))) ([.int (nI v)] : List Value).toArray s 0 0 (fun _ => False)) (F0 m 4 ls []) := by
    have hpv := pcF_le 14 v
    intro k
    induction k with
    | zero =>
      intro b c0 ls hk hb2 hc hl
      have eb : b = 0 := by rw [Nat.pow_zero] at hb2; omega
      subst eb
      refine lv_iload_n hx hb dX4_size_4 rfl (lv_at hl 0 rfl) ?_
      refine lv_if_le (tgt := 21) hx hb dX4_size_5 (by decide) (fun c_5 => ?_) (fun c_5 => ?_)
      · refine lv_iload_n hx hb dX4_size_21 rfl (lv_at hl 1 rfl) ?_
        exact W.iret (v := (nI c0)) hx hb hr (fun t ht hW => ⟨(nI c0), rfl, (by rw [← hc, pcF_0]; rfl), ht⟩) (fun q h => by cases h) dX4_size_22
      · exact absurd (by decide : nI 0 ≤ 0) c_5
    | succ k ih =>
      intro b c0 ls hk hb2 hc hl
      have hb3 : b < 16384 := Nat.lt_of_lt_of_le hb2 (pow_le14 hk)
      obtain ⟨hs1, hs2⟩ := sz_step hb2 hc
      refine lv_iload_n hx hb dX4_size_4 rfl (lv_at hl 0 rfl) ?_
      refine lv_if_le (tgt := 21) hx hb dX4_size_5 (by decide) (fun c_5 => ?_) (fun c_5 => ?_)
      · refine lv_iload_n hx hb dX4_size_21 rfl (lv_at hl 1 rfl) ?_
        exact W.iret (v := (nI c0)) hx hb hr (fun t ht hW => ⟨(nI c0), rfl, (by rw [← hc, show b = 0 from Classical.byContradiction fun q => nI_nle (by omega) (by omega) c_5, pcF_0]; rfl), ht⟩) (fun q h => by cases h) dX4_size_22
      · refine lv_iload_n hx hb dX4_size_8 rfl (lv_at hl 1 rfl) ?_
        refine lv_iload_n hx hb dX4_size_9 rfl (lv_at hl 0 rfl) ?_
        refine lv_iconst (v := (nI 2)) hx hb dX4_size_10 (by decide +kernel) ?_
        refine lv_irem hx hb dX4_size_11 (by decide +kernel) ?_
        refine r_top (y := (nI (b % 2))) (pk_rem (by omega) (by omega) (by omega)) ?_
        refine r_iadd hx hb dX4_size_12 ?_
        refine lv_istore_n (lv' := [(1, .int (nI (c0 + (b % 2)))), (2, .int (nI b)), (0, .int (nI v))]) hx hb dX4_size_13 rfl hl (by decide) rfl (fun ls hl => ?_)
        refine lv_iload_n hx hb dX4_size_14 rfl (lv_at hl 1 rfl) ?_
        refine lv_iconst (v := (nI 2)) hx hb dX4_size_15 (by decide +kernel) ?_
        refine lv_idiv hx hb dX4_size_16 (by decide +kernel) ?_
        refine r_top (y := (nI (b / 2))) (pk_div (by omega) (by omega) (by omega)) ?_
        refine lv_istore_n (lv' := [(2, .int (nI (b / 2))), (1, .int (nI (c0 + (b % 2)))), (0, .int (nI v))]) hx hb dX4_size_17 rfl hl (by decide) rfl (fun ls hl => ?_)
        refine lv_goto (tgt := 4) hx hb dX4_size_18 (by decide) ?_
        exact ih (b / 2) (c0 + b % 2) ls (by omega) hs1 hs2 (lv_sub hl [0, 1, 2] rfl)
  refine lv_iconst (v := (nI 0)) hx hb dX4_size_0 (by decide +kernel) ?_
  refine lv_istore_n (lv' := [(1, .int (nI 0)), (0, .int (nI v))]) hx hb dX4_size_1 rfl hl (by decide) rfl (fun ls hl => ?_)
  refine lv_iload_n hx hb dX4_size_2 rfl (lv_at hl 1 rfl) ?_
  refine lv_istore_n (lv' := [(2, .int (nI v)), (1, .int (nI 0)), (0, .int (nI v))]) hx hb dX4_size_3 rfl hl (by decide) rfl (fun ls hl => ?_)
  exact loop 14 v 0 ls (by omega) hv (by omega) (lv_sub hl [0, 1, 2] rfl)
set_option maxHeartbeats 4000000 in
set_option maxRecDepth 100000 in
/-- isAxiom(x) -/
theorem c_X4_isAxiom (l : Launch) (D : va_G) (cI cZ cJ : ClassId) (qy m1 m2 m3 m4 m5 m6 m7 : Nat) (n : Nat) (Bd Hd Wt Fx : Nat → Int32) (g : Nat) (kn : Int32) (Gv : Nat → Int32) (z1 : Nat) (S1 : Nat → Int32) (z2 : Nat) (S2 : Nat → Int32) (sp th : Int32) (hn : n ≤ 14) (x : Int32) : Met l yX4_isAxiom wsX4_isAxiom ({ frames := 0, cells := 0, slots := 0, locals := 0 } : Room) (va_Pc [.ref qy, .int x] (ro_ D [(cI, .int), (cZ, .boolean), (cJ, .long)] [(qy, .inr (5, [.ref m1, .ref m2, .ref m3, .ref m4, .int (nI n), .int (nI g), .int kn, .ref m5, .ref m6, .int (nI z1), .ref m7, .int (nI z2), .int sp, .int th]))])) (vp_Si (fun r => has_is n x r)) 0 0 (fun _ => False) := by
  refine Met.ofW (cc := cX4_isAxiom) (maxL := 2) (ret := (some .boolean)) (by decide) rfl ?_
  intro p e s m args below meth c s₁ B hml hv
  obtain ⟨rfl, hP, hK⟩ := hv
  have hx := B.exec
  have hb := B.bytes
  have hr := B.returns
  have hts := atoms_spec (ws := wsX4_isAxiom) B.pre
  have hown : s.vm.findClass RX4 = some m.cls := findClass_of_methodNamed B.named
  have hlocks := B.notSynchronized
  have iX4 : ∀ w ∈ u_ws RX4 TX4 14, w ∈ wsX4_isAxiom := by decide +kernel
  have hl := lv_entry ([.ref qy, .int x]) (n := 2) (Nat.le_of_ble_eq_true rfl)
  rw [lg_entry_eq]
  generalize (lg_sl ([.ref qy, .int x]) ++ List.replicate (2 - (lg_sl ([.ref qy, .int x])).length) Slot.unset).toArray = ls at hl ⊢
  have hl : lv_has ls 2 [(0, .ref qy), (1, .int x)] := hl
  refine lv_iload_n hx hb dX4_isAxiom_0 rfl (lv_at hl 1 rfl) ?_
  refine lv_if_lt (tgt := 16) hx hb dX4_isAxiom_1 (by decide) (fun c_1 => ?_) (fun c_1 => ?_)
  · refine lv_iconst (v := 0) hx hb dX4_isAxiom_16 (by decide +kernel) ?_
    exact W.zret (v := 0) hx hb hr (by rfl) (fun t ht hW => ⟨0, rfl, by first | exact has_in hn c_1 c_9 | exact has_neg hn c_1 | exact has_big hn c_9, ht⟩) (fun q h => by cases h) dX4_isAxiom_17
  · refine lv_iload_n hx hb dX4_isAxiom_4 rfl (lv_at hl 1 rfl) ?_
    refine lv_aload_n hx hb dX4_isAxiom_5 rfl (lv_at hl 0 rfl) ?_
    refine va_get (D := D) (ci := 5) (v := .int (nI n)) (C := RX4) (T := TX4) (N := 14) hx hb hts iX4 hown hK hP 0 rfl rfl 4 (by decide) (hts (.fieldLink RX4 36 "LeastSetsModel" "count" "I") (by decide +kernel)) (fun _ h9 => h9) rfl dX4_isAxiom_6 ?_
    refine lv_icmp_ge (tgt := 16) hx hb dX4_isAxiom_9 (by decide) (fun c_9 => ?_) (fun c_9 => ?_)
    · refine lv_iconst (v := 0) hx hb dX4_isAxiom_16 (by decide +kernel) ?_
      exact W.zret (v := 0) hx hb hr (by rfl) (fun t ht hW => ⟨0, rfl, by first | exact has_in hn c_1 c_9 | exact has_neg hn c_1 | exact has_big hn c_9, ht⟩) (fun q h => by cases h) dX4_isAxiom_17
    · refine lv_iconst (v := 1) hx hb dX4_isAxiom_12 (by decide +kernel) ?_
      refine lv_goto (tgt := 17) hx hb dX4_isAxiom_13 (by decide) ?_
      exact W.zret (v := 1) hx hb hr (by rfl) (fun t ht hW => ⟨1, rfl, by first | exact has_in hn c_1 c_9 | exact has_neg hn c_1 | exact has_big hn c_9, ht⟩) (fun q h => by cases h) dX4_isAxiom_17
set_option maxHeartbeats 4000000 in
set_option maxRecDepth 100000 in
/-- isCause(v) -/
theorem c_X4_isCause (l : Launch) (D : va_G) (cI cZ cJ : ClassId) (qy m1 m2 m3 m4 m5 m6 m7 : Nat) (n : Nat) (Bd Hd Wt Fx : Nat → Int32) (g : Nat) (kn : Int32) (Gv : Nat → Int32) (z1 : Nat) (S1 : Nat → Int32) (z2 : Nat) (S2 : Nat → Int32) (sp th : Int32) (hn : n ≤ 14) (v : Nat) (hv : v < 2 ^ n) (hG : gv_is (mc_ n Bd Hd g) (2 ^ n) Gv) : Met l yX4_isCause wsX4_isCause ({ frames := 0, cells := 0, slots := 0, locals := 0 } : Room) (va_Pc [.ref qy, .int (nI v)] (ro_ D [(cI, .int), (cZ, .boolean), (cJ, .long)] [(qy, .inr (5, [.ref m1, .ref m2, .ref m3, .ref m4, .int (nI n), .int (nI g), .int kn, .ref m5, .ref m6, .int (nI z1), .ref m7, .int (nI z2), .int sp, .int th])), (m5, .inl (cZ, 16384, .inl Gv))])) (vp_Si (fun r => yn_ (lst_ (mc_ n Bd Hd g) v) r)) 0 0 (fun _ => False) := by
  refine Met.ofW (cc := cX4_isCause) (maxL := 4) (ret := (some .boolean)) (by decide) rfl ?_
  intro p e s m args below meth c s₁ B hml hv
  obtain ⟨rfl, hP, hK⟩ := hv
  have hx := B.exec
  have hb := B.bytes
  have hr := B.returns
  have hts := atoms_spec (ws := wsX4_isCause) B.pre
  have hown : s.vm.findClass RX4 = some m.cls := findClass_of_methodNamed B.named
  have hlocks := B.notSynchronized
  have iX4 : ∀ w ∈ u_ws RX4 TX4 14, w ∈ wsX4_isCause := by decide +kernel
  have h14 := pow_le14 hn
  have hl := lv_entry ([.ref qy, .int (nI v)]) (n := 4) (Nat.le_of_ble_eq_true rfl)
  rw [lg_entry_eq]
  generalize (lg_sl ([.ref qy, .int (nI v)]) ++ List.replicate (4 - (lg_sl ([.ref qy, .int (nI v)])).length) Slot.unset).toArray = ls at hl ⊢
  have hl : lv_has ls 4 [(0, .ref qy), (1, .int (nI v))] := hl
  have loop : ∀ (d : Nat) (a : Nat) (y : Int32) (ls : Array Slot), n < a + d → a ≤ n → ic_is (mc_ n Bd Hd g) v a y → lv_has ls 4 [(3, .int (nI a)), (2, .int y), (0, .ref qy), (1, .int (nI v))] → W p l e (headSpec wsX4_isCause ({ frames := 0, cells := 0, slots := 0, locals := 0 } : Room)).room s m ([.ref qy, .int (nI v)] : List Value).toArray below meth c s.heap [] 0 0 (MQ below (vp_Si (fun r => yn_ (lst_ (mc_ n Bd Hd g) v) r)) ([.ref qy, .int (nI v)] : List Value).toArray s 0 0 (fun _ => False)) (F0 m 9 ls []) := by
    intro d
    induction d with
    | zero => intro a y ls h1 h2; omega
    | succ d ih =>
      intro a y ls h1 h2 hy hl
      refine lv_iload_n hx hb dX4_isCause_9 rfl (lv_at hl 0 rfl) ?_
      refine lv_aload_n hx hb dX4_isCause_10 rfl (lv_at hl 2 rfl) ?_
      refine va_get (D := D) (ci := 5) (v := .int (nI n)) (C := RX4) (T := TX4) (N := 14) hx hb hts iX4 hown hK hP 0 rfl rfl 4 (by decide) (hts (.fieldLink RX4 36 "LeastSetsModel" "count" "I") (by decide +kernel)) (fun _ h9 => h9) rfl dX4_isCause_11 ?_
      refine r_ige hx hb (tgt := 54) (by omega) (by omega) dX4_isCause_14 (by decide) (fun c_14 => ?_) (fun c_14 => ?_)
      · refine lv_iload_n hx hb dX4_isCause_54 rfl (lv_at hl 1 rfl) ?_
        have h01 : y = 0 ∨ y = 1 := hy.elim (fun q => Or.inr q.1) (fun q => Or.inl q.1)
        exact W.zret (v := y) hx hb hr (by rcases h01 with q | q <;> rw [q] <;> rfl) (fun t ht hW => ⟨y, rfl, by first | exact ic_end hn hv (by rw [show a = n by omega] at hy; exact hy) | exact ic_zero hn h2 hv hy c_18, ht⟩) (fun q h => by cases h) dX4_isCause_55
      · refine lv_iload_n hx hb dX4_isCause_17 rfl (lv_at hl 1 rfl) ?_
        refine lv_if_eq (tgt := 54) hx hb dX4_isCause_18 (by decide) (fun c_18 => ?_) (fun c_18 => ?_)
        · refine lv_iload_n hx hb dX4_isCause_54 rfl (lv_at hl 1 rfl) ?_
          have h01 : y = 0 ∨ y = 1 := hy.elim (fun q => Or.inr q.1) (fun q => Or.inl q.1)
          exact W.zret (v := y) hx hb hr (by rcases h01 with q | q <;> rw [q] <;> rfl) (fun t ht hW => ⟨y, rfl, by first | exact ic_end hn hv (by rw [show a = n by omega] at hy; exact hy) | exact ic_zero hn h2 hv hy c_18, ht⟩) (fun q h => by cases h) dX4_isCause_55
        · refine lv_iload_n hx hb dX4_isCause_21 rfl (lv_at hl 3 rfl) ?_
          refine lv_iload_n hx hb dX4_isCause_22 rfl (lv_at hl 0 rfl) ?_
          refine lv_ishr hx hb dX4_isCause_23 ?_
          refine lv_iconst (v := 1) hx hb dX4_isCause_24 (by decide +kernel) ?_
          refine lv_iand hx hb dX4_isCause_25 ?_
          refine lv_if_eq (tgt := 42) hx hb dX4_isCause_26 (by decide) (fun c_26 => ?_) (fun c_26 => ?_)
          · refine lv_iconst (v := 1) hx hb dX4_isCause_42 (by decide +kernel) ?_
            refine lv_goto (tgt := 47) hx hb dX4_isCause_43 (by decide) ?_
            refine lv_istore_n (lv' := [(2, .int 1), (3, .int (nI a)), (0, .ref qy), (1, .int (nI v))]) hx hb dX4_isCause_47 rfl hl (by decide) rfl (fun ls hl => ?_)
            refine lv_iinc (v := (nI (a + 1))) (lv' := [(3, .int (nI (a + 1))), (2, .int 1), (0, .ref qy), (1, .int (nI v))]) hx hb dX4_isCause_48 hl (k := 1) rfl (nI_inc _) (by decide) rfl (fun ls hl => ?_)
            refine lv_goto (tgt := 9) hx hb dX4_isCause_51 (by decide) ?_
            exact ih (a + 1) _ ls (by omega) (by omega) (by first | exact ic_yes hy c_18 (Or.inl (bit_no (by omega) c_26)) | exact ic_yes hy c_18 (Or.inr (gv_n hG hfl c_39)) | exact ic_no (bit_yes (by omega) c_26) (gv_y hG hfl c_39)) (lv_sub hl [0, 1, 2, 3] rfl)
          · refine lv_aload_n hx hb dX4_isCause_29 rfl (lv_at hl 2 rfl) ?_
            refine va_get (D := D) (ci := 5) (v := .ref m5) (C := RX4) (T := TX4) (N := 14) hx hb hts iX4 hown hK hP 0 rfl rfl 7 (by decide) (hts (.fieldLink RX4 23 "LeastSetsModel" "gives" "[Z") (by decide +kernel)) (fun _ h9 => h9) rfl dX4_isCause_30 ?_
            refine lv_iload_n hx hb dX4_isCause_33 rfl (lv_at hl 3 rfl) ?_
            refine lv_iconst (v := 1) hx hb dX4_isCause_34 (by decide +kernel) ?_
            refine lv_iload_n hx hb dX4_isCause_35 rfl (lv_at hl 0 rfl) ?_
            refine lv_ishl hx hb dX4_isCause_36 ?_
            refine lv_ixor hx hb dX4_isCause_37 ?_
            have hfl := flip_in hv c_14
            refine r_top (y := nI (v ^^^ 2 ^ a)) (flipN (by omega)) ?_
            refine r_zald hx hb hK hP 1 1 rfl rfl (v ^^^ 2 ^ a) (by omega) (by omega) dX4_isCause_38 ?_
            refine lv_if_ne (tgt := 46) hx hb dX4_isCause_39 (by decide) (fun c_39 => ?_) (fun c_39 => ?_)
            · refine lv_iconst (v := 0) hx hb dX4_isCause_46 (by decide +kernel) ?_
              refine lv_istore_n (lv' := [(2, .int 0), (3, .int (nI a)), (0, .ref qy), (1, .int (nI v))]) hx hb dX4_isCause_47 rfl hl (by decide) rfl (fun ls hl => ?_)
              refine lv_iinc (v := (nI (a + 1))) (lv' := [(3, .int (nI (a + 1))), (2, .int 0), (0, .ref qy), (1, .int (nI v))]) hx hb dX4_isCause_48 hl (k := 1) rfl (nI_inc _) (by decide) rfl (fun ls hl => ?_)
              refine lv_goto (tgt := 9) hx hb dX4_isCause_51 (by decide) ?_
              exact ih (a + 1) _ ls (by omega) (by omega) (by first | exact ic_yes hy c_18 (Or.inl (bit_no (by omega) c_26)) | exact ic_yes hy c_18 (Or.inr (gv_n hG hfl c_39)) | exact ic_no (bit_yes (by omega) c_26) (gv_y hG hfl c_39)) (lv_sub hl [0, 1, 2, 3] rfl)
            · refine lv_iconst (v := 1) hx hb dX4_isCause_42 (by decide +kernel) ?_
              refine lv_goto (tgt := 47) hx hb dX4_isCause_43 (by decide) ?_
              refine lv_istore_n (lv' := [(2, .int 1), (3, .int (nI a)), (0, .ref qy), (1, .int (nI v))]) hx hb dX4_isCause_47 rfl hl (by decide) rfl (fun ls hl => ?_)
              refine lv_iinc (v := (nI (a + 1))) (lv' := [(3, .int (nI (a + 1))), (2, .int 1), (0, .ref qy), (1, .int (nI v))]) hx hb dX4_isCause_48 hl (k := 1) rfl (nI_inc _) (by decide) rfl (fun ls hl => ?_)
              refine lv_goto (tgt := 9) hx hb dX4_isCause_51 (by decide) ?_
              exact ih (a + 1) _ ls (by omega) (by omega) (by first | exact ic_yes hy c_18 (Or.inl (bit_no (by omega) c_26)) | exact ic_yes hy c_18 (Or.inr (gv_n hG hfl c_39)) | exact ic_no (bit_yes (by omega) c_26) (gv_y hG hfl c_39)) (lv_sub hl [0, 1, 2, 3] rfl)
  refine lv_aload_n hx hb dX4_isCause_0 rfl (lv_at hl 0 rfl) ?_
  refine va_get (D := D) (ci := 5) (v := .ref m5) (C := RX4) (T := TX4) (N := 14) hx hb hts iX4 hown hK hP 0 rfl rfl 7 (by decide) (hts (.fieldLink RX4 23 "LeastSetsModel" "gives" "[Z") (by decide +kernel)) (fun _ h9 => h9) rfl dX4_isCause_1 ?_
  refine lv_iload_n hx hb dX4_isCause_4 rfl (lv_at hl 1 rfl) ?_
  refine r_zald hx hb hK hP 1 1 rfl rfl v (by omega) (by omega) dX4_isCause_5 ?_
  refine lv_istore_n (lv' := [(2, .int (Gv v)), (0, .ref qy), (1, .int (nI v))]) hx hb dX4_isCause_6 rfl hl (by decide) rfl (fun ls hl => ?_)
  refine lv_iconst (v := (nI 0)) hx hb dX4_isCause_7 (by decide +kernel) ?_
  refine lv_istore_n (lv' := [(3, .int (nI 0)), (2, .int (Gv v)), (0, .ref qy), (1, .int (nI v))]) hx hb dX4_isCause_8 rfl hl (by decide) rfl (fun ls hl => ?_)
  exact loop (n + 1) 0 _ ls (by omega) (Nat.zero_le _) (ic_0 hG hv) (lv_sub hl [0, 1, 2, 3] rfl)
set_option maxHeartbeats 4000000 in
set_option maxRecDepth 100000 in
/-- isCure(v, all) -/
theorem c_X4_isCure (l : Launch) (D : va_G) (cI cZ cJ : ClassId) (qy m1 m2 m3 m4 m5 m6 m7 : Nat) (n : Nat) (Bd Hd Wt Fx : Nat → Int32) (g : Nat) (kn : Int32) (Gv : Nat → Int32) (z1 : Nat) (S1 : Nat → Int32) (z2 : Nat) (S2 : Nat → Int32) (sp th : Int32) (hn : n ≤ 14) (v : Nat) (hv : v < 2 ^ n) (hG : gv_is (mc_ n Bd Hd g) (2 ^ n) Gv) : Met l yX4_isCure wsX4_isCure ({ frames := 0, cells := 0, slots := 0, locals := 0 } : Room) (va_Pc [.ref qy, .int (nI v), .int (nI (2 ^ n - 1))] (ro_ D [(cI, .int), (cZ, .boolean), (cJ, .long)] [(qy, .inr (5, [.ref m1, .ref m2, .ref m3, .ref m4, .int (nI n), .int (nI g), .int kn, .ref m5, .ref m6, .int (nI z1), .ref m7, .int (nI z2), .int sp, .int th])), (m4, .inl (cZ, 14, .inl Fx)), (m5, .inl (cZ, 16384, .inl Gv))])) (vp_Si (fun r => yn_ (lst_ (mq_ n Bd Hd Fx g) v) r)) 0 0 (fun _ => False) := by
  refine Met.ofW (cc := cX4_isCure) (maxL := 5) (ret := (some .boolean)) (by decide) rfl ?_
  intro p e s m args below meth c s₁ B hml hv
  obtain ⟨rfl, hP, hK⟩ := hv
  have hx := B.exec
  have hb := B.bytes
  have hr := B.returns
  have hts := atoms_spec (ws := wsX4_isCure) B.pre
  have hown : s.vm.findClass RX4 = some m.cls := findClass_of_methodNamed B.named
  have hlocks := B.notSynchronized
  have iX4 : ∀ w ∈ u_ws RX4 TX4 14, w ∈ wsX4_isCure := by decide +kernel
  have h14 := pow_le14 hn
  have hal := all_in hv
  have hl := lv_entry ([.ref qy, .int (nI v), .int (nI (2 ^ n - 1))]) (n := 5) (Nat.le_of_ble_eq_true rfl)
  rw [lg_entry_eq]
  generalize (lg_sl ([.ref qy, .int (nI v), .int (nI (2 ^ n - 1))]) ++ List.replicate (5 - (lg_sl ([.ref qy, .int (nI v), .int (nI (2 ^ n - 1))])).length) Slot.unset).toArray = ls at hl ⊢
  have hl : lv_has ls 5 [(0, .ref qy), (1, .int (nI v)), (2, .int (nI (2 ^ n - 1)))] := hl
  have loop : ∀ (d : Nat) (a : Nat) (y : Int32) (ls : Array Slot), n < a + d → a ≤ n → iq_is (mc_ n Bd Hd g) Fx ((2 ^ n - 1) ^^^ v) v a y → lv_has ls 5 [(4, .int (nI a)), (3, .int y), (0, .ref qy), (1, .int (nI v)), (2, .int (nI (2 ^ n - 1)))] → W p l e (headSpec wsX4_isCure ({ frames := 0, cells := 0, slots := 0, locals := 0 } : Room)).room s m ([.ref qy, .int (nI v), .int (nI (2 ^ n - 1))] : List Value).toArray below meth c s.heap [] 0 0 (MQ below (vp_Si (fun r => yn_ (lst_ (mq_ n Bd Hd Fx g) v) r)) ([.ref qy, .int (nI v), .int (nI (2 ^ n - 1))] : List Value).toArray s 0 0 (fun _ => False)) (F0 m 20 ls []) := by
    intro d
    induction d with
    | zero => intro a y ls h1 h2; omega
    | succ d ih =>
      intro a y ls h1 h2 hy hl
      refine lv_iload hx hb dX4_isCure_20 (lv_at hl 0 rfl) ?_
      refine lv_aload_n hx hb dX4_isCure_22 rfl (lv_at hl 2 rfl) ?_
      refine va_get (D := D) (ci := 5) (v := .int (nI n)) (C := RX4) (T := TX4) (N := 14) hx hb hts iX4 hown hK hP 0 rfl rfl 4 (by decide) (hts (.fieldLink RX4 36 "LeastSetsModel" "count" "I") (by decide +kernel)) (fun _ h9 => h9) rfl dX4_isCure_23 ?_
      refine r_ige hx hb (tgt := 80) (by omega) (by omega) dX4_isCure_26 (by decide) (fun c_26 => ?_) (fun c_26 => ?_)
      · refine lv_iload_n hx hb dX4_isCure_80 rfl (lv_at hl 1 rfl) ?_
        have h01 : y = 0 ∨ y = 1 := hy.elim (fun q => Or.inr q.1) (fun q => Or.inl q.1)
        exact W.zret (v := y) hx hb hr (by rcases h01 with q | q <;> rw [q] <;> rfl) (fun t ht hW => ⟨y, rfl, by first | exact iq_end hn hv (by rw [show a = n by omega] at hy; exact hy) | exact iq_zero hn h2 hv hy c_30, ht⟩) (fun q h => by cases h) dX4_isCure_81
      · refine lv_iload_n hx hb dX4_isCure_29 rfl (lv_at hl 1 rfl) ?_
        refine lv_if_eq (tgt := 80) hx hb dX4_isCure_30 (by decide) (fun c_30 => ?_) (fun c_30 => ?_)
        · refine lv_iload_n hx hb dX4_isCure_80 rfl (lv_at hl 1 rfl) ?_
          have h01 : y = 0 ∨ y = 1 := hy.elim (fun q => Or.inr q.1) (fun q => Or.inl q.1)
          exact W.zret (v := y) hx hb hr (by rcases h01 with q | q <;> rw [q] <;> rfl) (fun t ht hW => ⟨y, rfl, by first | exact iq_end hn hv (by rw [show a = n by omega] at hy; exact hy) | exact iq_zero hn h2 hv hy c_30, ht⟩) (fun q h => by cases h) dX4_isCure_81
        · refine lv_iload_n hx hb dX4_isCure_33 rfl (lv_at hl 3 rfl) ?_
          refine lv_iload hx hb dX4_isCure_34 (lv_at hl 0 rfl) ?_
          refine lv_ishr hx hb dX4_isCure_36 ?_
          refine lv_iconst (v := 1) hx hb dX4_isCure_37 (by decide +kernel) ?_
          refine lv_iand hx hb dX4_isCure_38 ?_
          refine lv_if_eq (tgt := 68) hx hb dX4_isCure_39 (by decide) (fun c_39 => ?_) (fun c_39 => ?_)
          · refine lv_iconst (v := 1) hx hb dX4_isCure_68 (by decide +kernel) ?_
            refine lv_goto (tgt := 73) hx hb dX4_isCure_69 (by decide) ?_
            refine lv_istore_n (lv' := [(3, .int 1), (4, .int (nI a)), (0, .ref qy), (1, .int (nI v)), (2, .int (nI (2 ^ n - 1)))]) hx hb dX4_isCure_73 rfl hl (by decide) rfl (fun ls hl => ?_)
            refine lv_iinc (v := (nI (a + 1))) (lv' := [(4, .int (nI (a + 1))), (3, .int 1), (0, .ref qy), (1, .int (nI v)), (2, .int (nI (2 ^ n - 1)))]) hx hb dX4_isCure_74 hl (k := 1) rfl (nI_inc _) (by decide) rfl (fun ls hl => ?_)
            refine lv_goto (tgt := 20) hx hb dX4_isCure_77 (by decide) ?_
            exact ih (a + 1) _ ls (by omega) (by omega) (by first | exact iq_yes hy c_30 (Or.inl (bit_no (by omega) c_39)) | exact iq_yes hy c_30 (Or.inr ⟨c_49, gv_y hG hfl c_65⟩) | exact iq_no (bit_yes (by omega) c_39) (fun q => gv_n hG hfl c_65 q.2) | exact iq_no (bit_yes (by omega) c_39) (fun q => c_49 q.1)) (lv_sub hl [0, 1, 2, 3, 4] rfl)
          · refine lv_aload_n hx hb dX4_isCure_42 rfl (lv_at hl 2 rfl) ?_
            refine va_get (D := D) (ci := 5) (v := .ref m4) (C := RX4) (T := TX4) (N := 14) hx hb hts iX4 hown hK hP 0 rfl rfl 3 (by decide) (hts (.fieldLink RX4 19 "LeastSetsModel" "fixed" "[Z") (by decide +kernel)) (fun _ h9 => h9) rfl dX4_isCure_43 ?_
            refine lv_iload hx hb dX4_isCure_46 (lv_at hl 0 rfl) ?_
            refine r_zald hx hb hK hP 1 1 rfl rfl a (by omega) (by omega) dX4_isCure_48 ?_
            refine lv_if_ne (tgt := 72) hx hb dX4_isCure_49 (by decide) (fun c_49 => ?_) (fun c_49 => ?_)
            · refine lv_iconst (v := 0) hx hb dX4_isCure_72 (by decide +kernel) ?_
              refine lv_istore_n (lv' := [(3, .int 0), (4, .int (nI a)), (0, .ref qy), (1, .int (nI v)), (2, .int (nI (2 ^ n - 1)))]) hx hb dX4_isCure_73 rfl hl (by decide) rfl (fun ls hl => ?_)
              refine lv_iinc (v := (nI (a + 1))) (lv' := [(4, .int (nI (a + 1))), (3, .int 0), (0, .ref qy), (1, .int (nI v)), (2, .int (nI (2 ^ n - 1)))]) hx hb dX4_isCure_74 hl (k := 1) rfl (nI_inc _) (by decide) rfl (fun ls hl => ?_)
              refine lv_goto (tgt := 20) hx hb dX4_isCure_77 (by decide) ?_
              exact ih (a + 1) _ ls (by omega) (by omega) (by first | exact iq_yes hy c_30 (Or.inl (bit_no (by omega) c_39)) | exact iq_yes hy c_30 (Or.inr ⟨c_49, gv_y hG hfl c_65⟩) | exact iq_no (bit_yes (by omega) c_39) (fun q => gv_n hG hfl c_65 q.2) | exact iq_no (bit_yes (by omega) c_39) (fun q => c_49 q.1)) (lv_sub hl [0, 1, 2, 3, 4] rfl)
            · refine lv_aload_n hx hb dX4_isCure_52 rfl (lv_at hl 2 rfl) ?_
              refine va_get (D := D) (ci := 5) (v := .ref m5) (C := RX4) (T := TX4) (N := 14) hx hb hts iX4 hown hK hP 0 rfl rfl 7 (by decide) (hts (.fieldLink RX4 23 "LeastSetsModel" "gives" "[Z") (by decide +kernel)) (fun _ h9 => h9) rfl dX4_isCure_53 ?_
              refine lv_iload_n hx hb dX4_isCure_56 rfl (lv_at hl 4 rfl) ?_
              refine lv_iload_n hx hb dX4_isCure_57 rfl (lv_at hl 3 rfl) ?_
              refine lv_ixor hx hb dX4_isCure_58 ?_
              refine lv_iconst (v := 1) hx hb dX4_isCure_59 (by decide +kernel) ?_
              refine lv_iload hx hb dX4_isCure_60 (lv_at hl 0 rfl) ?_
              refine lv_ishl hx hb dX4_isCure_62 ?_
              refine lv_ixor hx hb dX4_isCure_63 ?_
              have hfl := flip_in hal c_26
              refine r_top (y := nI ((2 ^ n - 1) ^^^ v ^^^ 2 ^ a)) (by rw [xorN, flipN (by omega)]) ?_
              refine r_zald hx hb hK hP 2 1 rfl rfl ((2 ^ n - 1) ^^^ v ^^^ 2 ^ a) (by omega) (by omega) dX4_isCure_64 ?_
              refine lv_if_eq (tgt := 72) hx hb dX4_isCure_65 (by decide) (fun c_65 => ?_) (fun c_65 => ?_)
              · refine lv_iconst (v := 0) hx hb dX4_isCure_72 (by decide +kernel) ?_
                refine lv_istore_n (lv' := [(3, .int 0), (4, .int (nI a)), (0, .ref qy), (1, .int (nI v)), (2, .int (nI (2 ^ n - 1)))]) hx hb dX4_isCure_73 rfl hl (by decide) rfl (fun ls hl => ?_)
                refine lv_iinc (v := (nI (a + 1))) (lv' := [(4, .int (nI (a + 1))), (3, .int 0), (0, .ref qy), (1, .int (nI v)), (2, .int (nI (2 ^ n - 1)))]) hx hb dX4_isCure_74 hl (k := 1) rfl (nI_inc _) (by decide) rfl (fun ls hl => ?_)
                refine lv_goto (tgt := 20) hx hb dX4_isCure_77 (by decide) ?_
                exact ih (a + 1) _ ls (by omega) (by omega) (by first | exact iq_yes hy c_30 (Or.inl (bit_no (by omega) c_39)) | exact iq_yes hy c_30 (Or.inr ⟨c_49, gv_y hG hfl c_65⟩) | exact iq_no (bit_yes (by omega) c_39) (fun q => gv_n hG hfl c_65 q.2) | exact iq_no (bit_yes (by omega) c_39) (fun q => c_49 q.1)) (lv_sub hl [0, 1, 2, 3, 4] rfl)
              · refine lv_iconst (v := 1) hx hb dX4_isCure_68 (by decide +kernel) ?_
                refine lv_goto (tgt := 73) hx hb dX4_isCure_69 (by decide) ?_
                refine lv_istore_n (lv' := [(3, .int 1), (4, .int (nI a)), (0, .ref qy), (1, .int (nI v)), (2, .int (nI (2 ^ n - 1)))]) hx hb dX4_isCure_73 rfl hl (by decide) rfl (fun ls hl => ?_)
                refine lv_iinc (v := (nI (a + 1))) (lv' := [(4, .int (nI (a + 1))), (3, .int 1), (0, .ref qy), (1, .int (nI v)), (2, .int (nI (2 ^ n - 1)))]) hx hb dX4_isCure_74 hl (k := 1) rfl (nI_inc _) (by decide) rfl (fun ls hl => ?_)
                refine lv_goto (tgt := 20) hx hb dX4_isCure_77 (by decide) ?_
                exact ih (a + 1) _ ls (by omega) (by omega) (by first | exact iq_yes hy c_30 (Or.inl (bit_no (by omega) c_39)) | exact iq_yes hy c_30 (Or.inr ⟨c_49, gv_y hG hfl c_65⟩) | exact iq_no (bit_yes (by omega) c_39) (fun q => gv_n hG hfl c_65 q.2) | exact iq_no (bit_yes (by omega) c_39) (fun q => c_49 q.1)) (lv_sub hl [0, 1, 2, 3, 4] rfl)
  refine lv_aload_n hx hb dX4_isCure_0 rfl (lv_at hl 0 rfl) ?_
  refine va_get (D := D) (ci := 5) (v := .ref m5) (C := RX4) (T := TX4) (N := 14) hx hb hts iX4 hown hK hP 0 rfl rfl 7 (by decide) (hts (.fieldLink RX4 23 "LeastSetsModel" "gives" "[Z") (by decide +kernel)) (fun _ h9 => h9) rfl dX4_isCure_1 ?_
  refine lv_iload_n hx hb dX4_isCure_4 rfl (lv_at hl 2 rfl) ?_
  refine lv_iload_n hx hb dX4_isCure_5 rfl (lv_at hl 1 rfl) ?_
  refine lv_ixor hx hb dX4_isCure_6 ?_
  refine r_top (y := nI ((2 ^ n - 1) ^^^ v)) (xorN _ _) ?_
  refine r_zald hx hb hK hP 2 1 rfl rfl ((2 ^ n - 1) ^^^ v) (by omega) (by omega) dX4_isCure_7 ?_
  refine lv_if_ne (tgt := 15) hx hb dX4_isCure_8 (by decide) (fun c_8 => ?_) (fun c_8 => ?_)
  · refine lv_iconst (v := 0) hx hb dX4_isCure_15 (by decide +kernel) ?_
    refine lv_istore_n (lv' := [(3, .int 0), (0, .ref qy), (1, .int (nI v)), (2, .int (nI (2 ^ n - 1)))]) hx hb dX4_isCure_16 rfl hl (by decide) rfl (fun ls hl => ?_)
    refine lv_iconst (v := (nI 0)) hx hb dX4_isCure_17 (by decide +kernel) ?_
    refine lv_istore (lv' := [(4, .int (nI 0)), (3, .int 0), (0, .ref qy), (1, .int (nI v)), (2, .int (nI (2 ^ n - 1)))]) hx hb dX4_isCure_18 hl (by decide) rfl (fun ls hl => ?_)
    exact loop (n + 1) 0 _ ls (by omega) (Nat.zero_le _) (by first | exact iq_0y (gv_n hG hal c_8) | exact iq_0n (gv_y hG hal c_8)) (lv_sub hl [0, 1, 2, 3, 4] rfl)
  · refine lv_iconst (v := 1) hx hb dX4_isCure_11 (by decide +kernel) ?_
    refine lv_goto (tgt := 16) hx hb dX4_isCure_12 (by decide) ?_
    refine lv_istore_n (lv' := [(3, .int 1), (0, .ref qy), (1, .int (nI v)), (2, .int (nI (2 ^ n - 1)))]) hx hb dX4_isCure_16 rfl hl (by decide) rfl (fun ls hl => ?_)
    refine lv_iconst (v := (nI 0)) hx hb dX4_isCure_17 (by decide +kernel) ?_
    refine lv_istore (lv' := [(4, .int (nI 0)), (3, .int 1), (0, .ref qy), (1, .int (nI v)), (2, .int (nI (2 ^ n - 1)))]) hx hb dX4_isCure_18 hl (by decide) rfl (fun ls hl => ?_)
    exact loop (n + 1) 0 _ ls (by omega) (Nat.zero_le _) (by first | exact iq_0y (gv_n hG hal c_8) | exact iq_0n (gv_y hG hal c_8)) (lv_sub hl [0, 1, 2, 3, 4] rfl)
set_option maxHeartbeats 4000000 in
set_option maxRecDepth 100000 in
/-- reckon(x) -/
theorem c_X4_reckon (l : Launch) (D : va_G) (cI cZ cJ : ClassId) (t1 t2 sz : Nat) (qy m1 m2 m3 m4 m5 m6 m7 : Nat) (n : Nat) (Bd Hd Wt Fx : Nat → Int32) (g : Nat) (kn : Int32) (Gv : Nat → Int32) (z1 : Nat) (S1 : Nat → Int32) (z2 : Nat) (S2 : Nat → Int32) (sp th : Int32) (hn : n ≤ 14) (hg : g < 24) (hok : ∀ a, a < n → uI_ (Hd a) < 24) (x : Int32) : Met l yX4_reckon wsX4_reckon ({ frames := 0, cells := 0, slots := 0, locals := 0 } : Room) (va_Pc [.ref qy, .int x] (wr_ D [(cI, .int), (cZ, .boolean), (cJ, .long)] [(qy, .inr (5, [.ref m1, .ref m2, .ref m3, .ref m4, .int (nI n), .int (nI g), .int kn, .ref m5, .ref m6, .int (nI z1), .ref m7, .int (nI z2), .int sp, .int th])), (m1, .inl (cI, 14, .inl Bd)), (m2, .inl (cI, 14, .inl Hd))] t1 t2 sz)) (va_Qi (S := Int32) (fun r u => r = cf_ n Bd Hd x n ∧ st_is (cf_ n Bd Hd x) g u) (fun u => wd_ D [(cI, .int), (cZ, .boolean), (cJ, .long)] (va_A [(qy, .inr (5, [.ref m1, .ref m2, .ref m3, .ref m4, .int (nI n), .int (nI g), .int kn, .ref m5, .ref m6, .int (nI z1), .ref m7, .int (nI z2), .int sp, .int th])), (m1, .inl (cI, 14, .inl Bd)), (m2, .inl (cI, 14, .inl Hd))] sz) [(qy, .inr (5, [.ref m1, .ref m2, .ref m3, .ref m4, .int (nI n), .int (nI g), .int kn, .ref m5, .ref m6, .int (nI z1), .ref m7, .int (nI z2), .int u, .int th])), (m1, .inl (cI, 14, .inl Bd)), (m2, .inl (cI, 14, .inl Hd))]) (va_A [(qy, .inr (5, [.ref m1, .ref m2, .ref m3, .ref m4, .int (nI n), .int (nI g), .int kn, .ref m5, .ref m6, .int (nI z1), .ref m7, .int (nI z2), .int sp, .int th])), (m1, .inl (cI, 14, .inl Bd)), (m2, .inl (cI, 14, .inl Hd))] sz)) 0 0 (va_A [(qy, .inr (5, [.ref m1, .ref m2, .ref m3, .ref m4, .int (nI n), .int (nI g), .int kn, .ref m5, .ref m6, .int (nI z1), .ref m7, .int (nI z2), .int sp, .int th])), (m1, .inl (cI, 14, .inl Bd)), (m2, .inl (cI, 14, .inl Hd))] sz) := by
  refine Met.ofW (cc := cX4_reckon) (maxL := 7) (ret := (some .int)) (by decide) rfl ?_
  intro p e s m args below meth c s₁ B hml hv
  obtain ⟨rfl, hsz, hP, hK, hD0, hE⟩ := hv
  have hx := B.exec
  have hb := B.bytes
  have hr := B.returns
  have hts := atoms_spec (ws := wsX4_reckon) B.pre
  have hown : s.vm.findClass RX4 = some m.cls := findClass_of_methodNamed B.named
  have hlocks := B.notSynchronized
  have iX4 : ∀ w ∈ u_ws RX4 TX4 14, w ∈ wsX4_reckon := by decide +kernel
  subst hsz
  have hD := hD0.self (sz := s.heap.size)
  generalize hAe : va_A [(qy, .inr (5, [.ref m1, .ref m2, .ref m3, .ref m4, .int (nI n), .int (nI g), .int kn, .ref m5, .ref m6, .int (nI z1), .ref m7, .int (nI z2), .int sp, .int th])), (m1, .inl (cI, 14, .inl Bd)), (m2, .inl (cI, 14, .inl Hd))] s.heap.size = A at hD hE ⊢
  have hA : ∀ q : Nat, s.heap.size ≤ q → A q := fun q h => by rw [← hAe]; exact Or.inr h
  have hS : va_S A s.heap s.heap [] := va_S.rf
  have hl := lv_entry ([.ref qy, .int x]) (n := 7) (Nat.le_of_ble_eq_true rfl)
  rw [lg_entry_eq]
  generalize (lg_sl ([.ref qy, .int x]) ++ List.replicate (7 - (lg_sl ([.ref qy, .int x])).length) Slot.unset).toArray = ls at hl ⊢
  have hl : lv_has ls 7 [(0, .ref qy), (1, .int x)] := hl
  have outer : ∀ (d : Nat) (k : Nat) (y4 y2 sp : Int32) (H : Heap) (locs : List Loc) (ls : Array Slot), n + 1 < k + d → k ≤ n + 1 → (¬ y4 = 0 → k ≤ n) → (y4 = 0 → 1 ≤ k ∧ cf_ n Bd Hd x k = cf_ n Bd Hd x (k - 1)) → y2 = cf_ n Bd Hd x k → sp_is (cf_ n Bd Hd x) g k sp → va_P D vwCl [(qy, .inr (5, [.ref m1, .ref m2, .ref m3, .ref m4, .int (nI n), .int (nI g), .int kn, .ref m5, .ref m6, .int (nI z1), .ref m7, .int (nI z2), .int sp, .int th])), (m1, .inl (cI, 14, .inl Bd)), (m2, .inl (cI, 14, .inl Hd))] H → va_D A [(qy, .inr (5, [.ref m1, .ref m2, .ref m3, .ref m4, .int (nI n), .int (nI g), .int kn, .ref m5, .ref m6, .int (nI z1), .ref m7, .int (nI z2), .int sp, .int th])), (m1, .inl (cI, 14, .inl Bd)), (m2, .inl (cI, 14, .inl Hd))] → va_S A s.heap H locs → lv_has ls 7 [(3, .int (nI k)), (4, .int y4), (2, .int y2), (0, .ref qy), (1, .int x)] → W p l e (headSpec wsX4_reckon ({ frames := 0, cells := 0, slots := 0, locals := 0 } : Room)).room s m ([.ref qy, .int x] : List Value).toArray below meth c H locs 0 0 (MQ below (va_Qi (S := Int32) (fun r u => r = cf_ n Bd Hd x n ∧ st_is (cf_ n Bd Hd x) g u) (fun u => wd_ D [(cI, .int), (cZ, .boolean), (cJ, .long)] A [(qy, .inr (5, [.ref m1, .ref m2, .ref m3, .ref m4, .int (nI n), .int (nI g), .int kn, .ref m5, .ref m6, .int (nI z1), .ref m7, .int (nI z2), .int u, .int th])), (m1, .inl (cI, 14, .inl Bd)), (m2, .inl (cI, 14, .inl Hd))]) A) ([.ref qy, .int x] : List Value).toArray s 0 0 A) (F0 m 12 ls []) := by
    intro d
    induction d with
    | zero => intro k y4 y2 sp H locs ls h1 h2; omega
    | succ d ih =>
      intro k y4 y2 sp H locs ls h1 h2 h3 h4 h5 h6 hP hD hS hl
      refine lv_iload hx hb dX4_reckon_12 (lv_at hl 1 rfl) ?_
      refine lv_if_eq (tgt := 127) hx hb dX4_reckon_14 (by decide) (fun c_14 => ?_) (fun c_14 => ?_)
      · refine lv_iload_n hx hb dX4_reckon_127 rfl (lv_at hl 2 rfl) ?_
        exact W.iret (v := y2) hx hb hr (fun t ht hW => ⟨⟨y2, sp, rfl, ⟨by rw [h5]; exact cf_stop hok (h4 c_14).1 (h4 c_14).2, sp_end hok (by omega) h6 (cf_stop hok (h4 c_14).1 (h4 c_14).2)⟩, by rw [ht]; exact hP, va_K.moved hW.alike hK, hD⟩, hS.F ht⟩) hS.2.2 dX4_reckon_128
      · refine lv_iinc (v := (nI (k + 1))) (lv' := [(3, .int (nI (k + 1))), (4, .int y4), (2, .int y2), (0, .ref qy), (1, .int x)]) hx hb dX4_reckon_17 hl (k := 0) rfl (nI_inc _) (by decide) rfl (fun ls hl => ?_)
        refine lv_iload_n hx hb dX4_reckon_20 rfl (lv_at hl 2 rfl) ?_
        refine lv_istore (lv' := [(5, .int y2), (3, .int (nI (k + 1))), (4, .int y4), (2, .int y2), (0, .ref qy), (1, .int x)]) hx hb dX4_reckon_21 hl (by decide) rfl (fun ls hl => ?_)
        refine lv_iconst (v := (nI 0)) hx hb dX4_reckon_23 (by decide +kernel) ?_
        refine lv_istore (lv' := [(6, .int (nI 0)), (5, .int y2), (3, .int (nI (k + 1))), (4, .int y4), (2, .int y2), (0, .ref qy), (1, .int x)]) hx hb dX4_reckon_24 hl (by decide) rfl (fun ls hl => ?_)
        have hkn := h3 c_14
        have inner : ∀ (d2 : Nat) (a : Nat) (y5 : Int32) (H : Heap) (locs : List Loc) (ls : Array Slot), n < a + d2 → a ≤ n → y5 = cs_ Bd Hd x y2 a → va_P D vwCl [(qy, .inr (5, [.ref m1, .ref m2, .ref m3, .ref m4, .int (nI n), .int (nI g), .int kn, .ref m5, .ref m6, .int (nI z1), .ref m7, .int (nI z2), .int sp, .int th])), (m1, .inl (cI, 14, .inl Bd)), (m2, .inl (cI, 14, .inl Hd))] H → va_D A [(qy, .inr (5, [.ref m1, .ref m2, .ref m3, .ref m4, .int (nI n), .int (nI g), .int kn, .ref m5, .ref m6, .int (nI z1), .ref m7, .int (nI z2), .int sp, .int th])), (m1, .inl (cI, 14, .inl Bd)), (m2, .inl (cI, 14, .inl Hd))] → va_S A s.heap H locs → lv_has ls 7 [(6, .int (nI a)), (5, .int y5), (2, .int y2), (3, .int (nI (k + 1))), (4, .int y4), (0, .ref qy), (1, .int x)] → W p l e (headSpec wsX4_reckon ({ frames := 0, cells := 0, slots := 0, locals := 0 } : Room)).room s m ([.ref qy, .int x] : List Value).toArray below meth c H locs 0 0 (MQ below (va_Qi (S := Int32) (fun r u => r = cf_ n Bd Hd x n ∧ st_is (cf_ n Bd Hd x) g u) (fun u => wd_ D [(cI, .int), (cZ, .boolean), (cJ, .long)] A [(qy, .inr (5, [.ref m1, .ref m2, .ref m3, .ref m4, .int (nI n), .int (nI g), .int kn, .ref m5, .ref m6, .int (nI z1), .ref m7, .int (nI z2), .int u, .int th])), (m1, .inl (cI, 14, .inl Bd)), (m2, .inl (cI, 14, .inl Hd))]) A) ([.ref qy, .int x] : List Value).toArray s 0 0 A) (F0 m 26 ls []) := by
          intro d2
          induction d2 with
          | zero => intro a y5 H locs ls h1 h2; omega
          | succ d2 ih2 =>
            intro a y5 H locs ls g1 g2 g3 hP hD hS hl
            refine lv_iload hx hb dX4_reckon_26 (lv_at hl 0 rfl) ?_
            refine lv_aload_n hx hb dX4_reckon_28 rfl (lv_at hl 5 rfl) ?_
            refine va_get (D := D) (ci := 5) (v := .int (nI n)) (C := RX4) (T := TX4) (N := 14) hx hb hts iX4 hown hK hP 0 rfl rfl 4 (by decide) (hts (.fieldLink RX4 36 "LeastSetsModel" "count" "I") (by decide +kernel)) (fun _ h9 => h9) rfl dX4_reckon_29 ?_
            refine r_ige hx hb (tgt := 84) (by omega) (by omega) dX4_reckon_32 (by decide) (fun c_32 => ?_) (fun c_32 => ?_)
            · have e5 : y5 = cf_ n Bd Hd x (k + 1) := by rw [g3, show a = n by omega, h5]; rfl
              refine lv_iload hx hb dX4_reckon_84 (lv_at hl 1 rfl) ?_
              refine lv_iload_n hx hb dX4_reckon_86 rfl (lv_at hl 2 rfl) ?_
              refine lv_icmp_eq (tgt := 94) hx hb dX4_reckon_87 (by decide) (fun c_87 => ?_) (fun c_87 => ?_)
              · refine lv_iconst (v := 0) hx hb dX4_reckon_94 (by decide +kernel) ?_
                refine lv_istore (lv' := [(4, .int 0), (6, .int (nI a)), (5, .int y5), (2, .int y2), (3, .int (nI (k + 1))), (0, .ref qy), (1, .int x)]) hx hb dX4_reckon_95 hl (by decide) rfl (fun ls hl => ?_)
                refine lv_iload hx hb dX4_reckon_97 (lv_at hl 2 rfl) ?_
                refine lv_istore_n (lv' := [(2, .int y5), (4, .int 0), (6, .int (nI a)), (5, .int y5), (3, .int (nI (k + 1))), (0, .ref qy), (1, .int x)]) hx hb dX4_reckon_99 rfl hl (by decide) rfl (fun ls hl => ?_)
                refine lv_aload_n hx hb dX4_reckon_100 rfl (lv_at hl 5 rfl) ?_
                refine va_get (D := D) (ci := 5) (v := .int sp) (C := RX4) (T := TX4) (N := 14) hx hb hts iX4 hown hK hP 0 rfl rfl 12 (by decide) (hts (.fieldLink RX4 51 "LeastSetsModel" "steps" "I") (by decide +kernel)) (fun _ h9 => h9) rfl dX4_reckon_101 ?_
                refine lv_if_ne (tgt := 124) hx hb dX4_reckon_104 (by decide) (fun c_104 => ?_) (fun c_104 => ?_)
                · refine lv_goto (tgt := 12) hx hb dX4_reckon_124 (by decide) ?_
                  exact ih (k + 1) _ _ _ H locs ls (by omega) (by omega) (by first | exact fun q => absurd rfl q | exact fun _ => cf_more hok (fun q => c_87 (by rw [e5, h5]; exact q))) (by first | exact fun q => absurd q (by decide) | exact fun _ => ⟨by omega, by rw [Nat.add_sub_cancel, ← e5, ← h5]; exact c_87⟩) e5 (by first | exact sp_keep h6 c_104 | exact sp_no (by omega) (by omega) h6 c_104 (by rw [← e5]; exact c_116) | exact sp_yes (by omega) (by omega) h6 c_104 (by rw [← e5]; exact c_116)) hP hD hS (lv_sub hl [4, 1, 0, 5, 6] rfl)
                · refine lv_iload_n hx hb dX4_reckon_107 rfl (lv_at hl 0 rfl) ?_
                  refine lv_aload_n hx hb dX4_reckon_108 rfl (lv_at hl 5 rfl) ?_
                  refine va_get (D := D) (ci := 5) (v := .int (nI g)) (C := RX4) (T := TX4) (N := 14) hx hb hts iX4 hown hK hP 0 rfl rfl 5 (by decide) (hts (.fieldLink RX4 48 "LeastSetsModel" "goal" "I") (by decide +kernel)) (fun _ h9 => h9) rfl dX4_reckon_109 ?_
                  refine lv_ishr hx hb dX4_reckon_112 ?_
                  refine lv_iconst (v := 1) hx hb dX4_reckon_113 (by decide +kernel) ?_
                  refine lv_iand hx hb dX4_reckon_114 ?_
                  refine lv_iconst (v := 1) hx hb dX4_reckon_115 (by decide +kernel) ?_
                  refine lv_icmp_ne (tgt := 124) hx hb dX4_reckon_116 (by decide) (fun c_116 => ?_) (fun c_116 => ?_)
                  · refine lv_goto (tgt := 12) hx hb dX4_reckon_124 (by decide) ?_
                    exact ih (k + 1) _ _ _ H locs ls (by omega) (by omega) (by first | exact fun q => absurd rfl q | exact fun _ => cf_more hok (fun q => c_87 (by rw [e5, h5]; exact q))) (by first | exact fun q => absurd q (by decide) | exact fun _ => ⟨by omega, by rw [Nat.add_sub_cancel, ← e5, ← h5]; exact c_87⟩) e5 (by first | exact sp_keep h6 c_104 | exact sp_no (by omega) (by omega) h6 c_104 (by rw [← e5]; exact c_116) | exact sp_yes (by omega) (by omega) h6 c_104 (by rw [← e5]; exact c_116)) hP hD hS (lv_sub hl [4, 1, 0, 5, 6] rfl)
                  · refine lv_aload_n hx hb dX4_reckon_119 rfl (lv_at hl 5 rfl) ?_
                    refine lv_iload_n hx hb dX4_reckon_120 rfl (lv_at hl 4 rfl) ?_
                    refine va_put (D := D) (ci := 5) (v := .int (nI (k + 1))) (ty := .int) (C := RX4) (T := TX4) (N := 14) hx hb hts iX4 tyX4 tyX4_ok nmX4 hown hK hP hD hS 0 rfl rfl 12 (by decide) (hts (.fieldLink RX4 51 "LeastSetsModel" "steps" "I") (by decide +kernel)) (fun _ h9 => h9) rfl (by decide +kernel) rfl rfl (Nat.le_of_ble_eq_true rfl) dX4_reckon_121 (fun H locs hP hD hS => ?_)
                    have hP : va_P D vwCl [(qy, .inr (5, [.ref m1, .ref m2, .ref m3, .ref m4, .int (nI n), .int (nI g), .int kn, .ref m5, .ref m6, .int (nI z1), .ref m7, .int (nI z2), .int (nI (k + 1)), .int th])), (m1, .inl (cI, 14, .inl Bd)), (m2, .inl (cI, 14, .inl Hd))] H := hP
                    have hD : va_D A [(qy, .inr (5, [.ref m1, .ref m2, .ref m3, .ref m4, .int (nI n), .int (nI g), .int kn, .ref m5, .ref m6, .int (nI z1), .ref m7, .int (nI z2), .int (nI (k + 1)), .int th])), (m1, .inl (cI, 14, .inl Bd)), (m2, .inl (cI, 14, .inl Hd))] := hD
                    refine lv_goto (tgt := 12) hx hb dX4_reckon_124 (by decide) ?_
                    exact ih (k + 1) _ _ _ H locs ls (by omega) (by omega) (by first | exact fun q => absurd rfl q | exact fun _ => cf_more hok (fun q => c_87 (by rw [e5, h5]; exact q))) (by first | exact fun q => absurd q (by decide) | exact fun _ => ⟨by omega, by rw [Nat.add_sub_cancel, ← e5, ← h5]; exact c_87⟩) e5 (by first | exact sp_keep h6 c_104 | exact sp_no (by omega) (by omega) h6 c_104 (by rw [← e5]; exact c_116) | exact sp_yes (by omega) (by omega) h6 c_104 (by rw [← e5]; exact c_116)) hP hD hS (lv_sub hl [4, 1, 0, 5, 6] rfl)
              · refine lv_iconst (v := 1) hx hb dX4_reckon_90 (by decide +kernel) ?_
                refine lv_goto (tgt := 95) hx hb dX4_reckon_91 (by decide) ?_
                refine lv_istore (lv' := [(4, .int 1), (6, .int (nI a)), (5, .int y5), (2, .int y2), (3, .int (nI (k + 1))), (0, .ref qy), (1, .int x)]) hx hb dX4_reckon_95 hl (by decide) rfl (fun ls hl => ?_)
                refine lv_iload hx hb dX4_reckon_97 (lv_at hl 2 rfl) ?_
                refine lv_istore_n (lv' := [(2, .int y5), (4, .int 1), (6, .int (nI a)), (5, .int y5), (3, .int (nI (k + 1))), (0, .ref qy), (1, .int x)]) hx hb dX4_reckon_99 rfl hl (by decide) rfl (fun ls hl => ?_)
                refine lv_aload_n hx hb dX4_reckon_100 rfl (lv_at hl 5 rfl) ?_
                refine va_get (D := D) (ci := 5) (v := .int sp) (C := RX4) (T := TX4) (N := 14) hx hb hts iX4 hown hK hP 0 rfl rfl 12 (by decide) (hts (.fieldLink RX4 51 "LeastSetsModel" "steps" "I") (by decide +kernel)) (fun _ h9 => h9) rfl dX4_reckon_101 ?_
                refine lv_if_ne (tgt := 124) hx hb dX4_reckon_104 (by decide) (fun c_104 => ?_) (fun c_104 => ?_)
                · refine lv_goto (tgt := 12) hx hb dX4_reckon_124 (by decide) ?_
                  exact ih (k + 1) _ _ _ H locs ls (by omega) (by omega) (by first | exact fun q => absurd rfl q | exact fun _ => cf_more hok (fun q => c_87 (by rw [e5, h5]; exact q))) (by first | exact fun q => absurd q (by decide) | exact fun _ => ⟨by omega, by rw [Nat.add_sub_cancel, ← e5, ← h5]; exact c_87⟩) e5 (by first | exact sp_keep h6 c_104 | exact sp_no (by omega) (by omega) h6 c_104 (by rw [← e5]; exact c_116) | exact sp_yes (by omega) (by omega) h6 c_104 (by rw [← e5]; exact c_116)) hP hD hS (lv_sub hl [4, 1, 0, 5, 6] rfl)
                · refine lv_iload_n hx hb dX4_reckon_107 rfl (lv_at hl 0 rfl) ?_
                  refine lv_aload_n hx hb dX4_reckon_108 rfl (lv_at hl 5 rfl) ?_
                  refine va_get (D := D) (ci := 5) (v := .int (nI g)) (C := RX4) (T := TX4) (N := 14) hx hb hts iX4 hown hK hP 0 rfl rfl 5 (by decide) (hts (.fieldLink RX4 48 "LeastSetsModel" "goal" "I") (by decide +kernel)) (fun _ h9 => h9) rfl dX4_reckon_109 ?_
                  refine lv_ishr hx hb dX4_reckon_112 ?_
                  refine lv_iconst (v := 1) hx hb dX4_reckon_113 (by decide +kernel) ?_
                  refine lv_iand hx hb dX4_reckon_114 ?_
                  refine lv_iconst (v := 1) hx hb dX4_reckon_115 (by decide +kernel) ?_
                  refine lv_icmp_ne (tgt := 124) hx hb dX4_reckon_116 (by decide) (fun c_116 => ?_) (fun c_116 => ?_)
                  · refine lv_goto (tgt := 12) hx hb dX4_reckon_124 (by decide) ?_
                    exact ih (k + 1) _ _ _ H locs ls (by omega) (by omega) (by first | exact fun q => absurd rfl q | exact fun _ => cf_more hok (fun q => c_87 (by rw [e5, h5]; exact q))) (by first | exact fun q => absurd q (by decide) | exact fun _ => ⟨by omega, by rw [Nat.add_sub_cancel, ← e5, ← h5]; exact c_87⟩) e5 (by first | exact sp_keep h6 c_104 | exact sp_no (by omega) (by omega) h6 c_104 (by rw [← e5]; exact c_116) | exact sp_yes (by omega) (by omega) h6 c_104 (by rw [← e5]; exact c_116)) hP hD hS (lv_sub hl [4, 1, 0, 5, 6] rfl)
                  · refine lv_aload_n hx hb dX4_reckon_119 rfl (lv_at hl 5 rfl) ?_
                    refine lv_iload_n hx hb dX4_reckon_120 rfl (lv_at hl 4 rfl) ?_
                    refine va_put (D := D) (ci := 5) (v := .int (nI (k + 1))) (ty := .int) (C := RX4) (T := TX4) (N := 14) hx hb hts iX4 tyX4 tyX4_ok nmX4 hown hK hP hD hS 0 rfl rfl 12 (by decide) (hts (.fieldLink RX4 51 "LeastSetsModel" "steps" "I") (by decide +kernel)) (fun _ h9 => h9) rfl (by decide +kernel) rfl rfl (Nat.le_of_ble_eq_true rfl) dX4_reckon_121 (fun H locs hP hD hS => ?_)
                    have hP : va_P D vwCl [(qy, .inr (5, [.ref m1, .ref m2, .ref m3, .ref m4, .int (nI n), .int (nI g), .int kn, .ref m5, .ref m6, .int (nI z1), .ref m7, .int (nI z2), .int (nI (k + 1)), .int th])), (m1, .inl (cI, 14, .inl Bd)), (m2, .inl (cI, 14, .inl Hd))] H := hP
                    have hD : va_D A [(qy, .inr (5, [.ref m1, .ref m2, .ref m3, .ref m4, .int (nI n), .int (nI g), .int kn, .ref m5, .ref m6, .int (nI z1), .ref m7, .int (nI z2), .int (nI (k + 1)), .int th])), (m1, .inl (cI, 14, .inl Bd)), (m2, .inl (cI, 14, .inl Hd))] := hD
                    refine lv_goto (tgt := 12) hx hb dX4_reckon_124 (by decide) ?_
                    exact ih (k + 1) _ _ _ H locs ls (by omega) (by omega) (by first | exact fun q => absurd rfl q | exact fun _ => cf_more hok (fun q => c_87 (by rw [e5, h5]; exact q))) (by first | exact fun q => absurd q (by decide) | exact fun _ => ⟨by omega, by rw [Nat.add_sub_cancel, ← e5, ← h5]; exact c_87⟩) e5 (by first | exact sp_keep h6 c_104 | exact sp_no (by omega) (by omega) h6 c_104 (by rw [← e5]; exact c_116) | exact sp_yes (by omega) (by omega) h6 c_104 (by rw [← e5]; exact c_116)) hP hD hS (lv_sub hl [4, 1, 0, 5, 6] rfl)
            · refine lv_iload_n hx hb dX4_reckon_35 rfl (lv_at hl 6 rfl) ?_
              refine lv_iload hx hb dX4_reckon_36 (lv_at hl 0 rfl) ?_
              refine lv_ishr hx hb dX4_reckon_38 ?_
              refine lv_iconst (v := 1) hx hb dX4_reckon_39 (by decide +kernel) ?_
              refine lv_iand hx hb dX4_reckon_40 ?_
              refine lv_iconst (v := 1) hx hb dX4_reckon_41 (by decide +kernel) ?_
              refine lv_icmp_ne (tgt := 78) hx hb dX4_reckon_42 (by decide) (fun c_42 => ?_) (fun c_42 => ?_)
              · refine lv_iinc (v := (nI (a + 1))) (lv' := [(6, .int (nI (a + 1))), (5, .int y5), (2, .int y2), (3, .int (nI (k + 1))), (4, .int y4), (0, .ref qy), (1, .int x)]) hx hb dX4_reckon_78 hl (k := 0) rfl (nI_inc _) (by decide) rfl (fun ls hl => ?_)
                refine lv_goto (tgt := 26) hx hb dX4_reckon_81 (by decide) ?_
                exact ih2 (a + 1) _ H locs ls (by omega) (by omega) (by first | rw [cm_no1 (by omega) c_42, g3] | rw [cm_no2 c_61, g3] | rw [cm_yes (by omega) c_42 c_61, g3]) hP hD hS (lv_sub hl [0, 1, 2, 3, 4, 5, 6] rfl)
              · refine lv_aload_n hx hb dX4_reckon_45 rfl (lv_at hl 5 rfl) ?_
                refine va_get (D := D) (ci := 5) (v := .ref m1) (C := RX4) (T := TX4) (N := 14) hx hb hts iX4 hown hK hP 0 rfl rfl 0 (by decide) (hts (.fieldLink RX4 7 "LeastSetsModel" "bodies" "[I") (by decide +kernel)) (fun _ h9 => h9) rfl dX4_reckon_46 ?_
                refine lv_iload hx hb dX4_reckon_49 (lv_at hl 0 rfl) ?_
                refine r_iald hx hb hK hP 1 0 rfl rfl a (by omega) (by omega) dX4_reckon_51 ?_
                refine lv_iload_n hx hb dX4_reckon_52 rfl (lv_at hl 2 rfl) ?_
                refine lv_iand hx hb dX4_reckon_53 ?_
                refine lv_aload_n hx hb dX4_reckon_54 rfl (lv_at hl 5 rfl) ?_
                refine va_get (D := D) (ci := 5) (v := .ref m1) (C := RX4) (T := TX4) (N := 14) hx hb hts iX4 hown hK hP 0 rfl rfl 0 (by decide) (hts (.fieldLink RX4 7 "LeastSetsModel" "bodies" "[I") (by decide +kernel)) (fun _ h9 => h9) rfl dX4_reckon_55 ?_
                refine lv_iload hx hb dX4_reckon_58 (lv_at hl 0 rfl) ?_
                refine r_iald hx hb hK hP 1 0 rfl rfl a (by omega) (by omega) dX4_reckon_60 ?_
                refine lv_icmp_ne (tgt := 78) hx hb dX4_reckon_61 (by decide) (fun c_61 => ?_) (fun c_61 => ?_)
                · refine lv_iinc (v := (nI (a + 1))) (lv' := [(6, .int (nI (a + 1))), (5, .int y5), (2, .int y2), (3, .int (nI (k + 1))), (4, .int y4), (0, .ref qy), (1, .int x)]) hx hb dX4_reckon_78 hl (k := 0) rfl (nI_inc _) (by decide) rfl (fun ls hl => ?_)
                  refine lv_goto (tgt := 26) hx hb dX4_reckon_81 (by decide) ?_
                  exact ih2 (a + 1) _ H locs ls (by omega) (by omega) (by first | rw [cm_no1 (by omega) c_42, g3] | rw [cm_no2 c_61, g3] | rw [cm_yes (by omega) c_42 c_61, g3]) hP hD hS (lv_sub hl [0, 1, 2, 3, 4, 5, 6] rfl)
                · refine lv_iload hx hb dX4_reckon_64 (lv_at hl 1 rfl) ?_
                  refine lv_iconst (v := 1) hx hb dX4_reckon_66 (by decide +kernel) ?_
                  refine lv_aload_n hx hb dX4_reckon_67 rfl (lv_at hl 5 rfl) ?_
                  refine va_get (D := D) (ci := 5) (v := .ref m2) (C := RX4) (T := TX4) (N := 14) hx hb hts iX4 hown hK hP 0 rfl rfl 1 (by decide) (hts (.fieldLink RX4 13 "LeastSetsModel" "heads" "[I") (by decide +kernel)) (fun _ h9 => h9) rfl dX4_reckon_68 ?_
                  refine lv_iload hx hb dX4_reckon_71 (lv_at hl 0 rfl) ?_
                  refine r_iald hx hb hK hP 2 0 rfl rfl a (by omega) (by omega) dX4_reckon_73 ?_
                  refine lv_ishl hx hb dX4_reckon_74 ?_
                  refine lv_ior hx hb dX4_reckon_75 ?_
                  refine lv_istore (lv' := [(5, .int (y5 ||| (1 <<< ((Hd a) &&& 31)))), (6, .int (nI a)), (2, .int y2), (3, .int (nI (k + 1))), (4, .int y4), (0, .ref qy), (1, .int x)]) hx hb dX4_reckon_76 hl (by decide) rfl (fun ls hl => ?_)
                  refine lv_iinc (v := (nI (a + 1))) (lv' := [(6, .int (nI (a + 1))), (5, .int (y5 ||| (1 <<< ((Hd a) &&& 31)))), (2, .int y2), (3, .int (nI (k + 1))), (4, .int y4), (0, .ref qy), (1, .int x)]) hx hb dX4_reckon_78 hl (k := 1) rfl (nI_inc _) (by decide) rfl (fun ls hl => ?_)
                  refine lv_goto (tgt := 26) hx hb dX4_reckon_81 (by decide) ?_
                  exact ih2 (a + 1) _ H locs ls (by omega) (by omega) (by first | rw [cm_no1 (by omega) c_42, g3] | rw [cm_no2 c_61, g3] | rw [cm_yes (by omega) c_42 c_61, g3]) hP hD hS (lv_sub hl [0, 1, 2, 3, 4, 5, 6] rfl)
        exact inner (n + 1) 0 _ H locs ls (by omega) (Nat.zero_le _) rfl hP hD hS (lv_sub hl [0, 1, 4, 2, 3, 5, 6] rfl)
  refine lv_iconst (v := 0) hx hb dX4_reckon_0 (by decide +kernel) ?_
  refine lv_istore_n (lv' := [(2, .int 0), (0, .ref qy), (1, .int x)]) hx hb dX4_reckon_1 rfl hl (by decide) rfl (fun ls hl => ?_)
  refine lv_iconst (v := (nI 0)) hx hb dX4_reckon_2 (by decide +kernel) ?_
  refine lv_istore_n (lv' := [(3, .int (nI 0)), (2, .int 0), (0, .ref qy), (1, .int x)]) hx hb dX4_reckon_3 rfl hl (by decide) rfl (fun ls hl => ?_)
  refine lv_aload_n hx hb dX4_reckon_4 rfl (lv_at hl 2 rfl) ?_
  refine lv_iconst (v := 0) hx hb dX4_reckon_5 (by decide +kernel) ?_
  refine va_put (D := D) (ci := 5) (v := .int 0) (ty := .int) (C := RX4) (T := TX4) (N := 14) hx hb hts iX4 tyX4 tyX4_ok nmX4 hown hK hP hD hS 0 rfl rfl 12 (by decide) (hts (.fieldLink RX4 51 "LeastSetsModel" "steps" "I") (by decide +kernel)) (fun _ h9 => h9) rfl (by decide +kernel) rfl rfl (Nat.le_of_ble_eq_true rfl) dX4_reckon_6 (fun H locs hP hD hS => ?_)
  have hP : va_P D vwCl [(qy, .inr (5, [.ref m1, .ref m2, .ref m3, .ref m4, .int (nI n), .int (nI g), .int kn, .ref m5, .ref m6, .int (nI z1), .ref m7, .int (nI z2), .int 0, .int th])), (m1, .inl (cI, 14, .inl Bd)), (m2, .inl (cI, 14, .inl Hd))] H := hP
  have hD : va_D A [(qy, .inr (5, [.ref m1, .ref m2, .ref m3, .ref m4, .int (nI n), .int (nI g), .int kn, .ref m5, .ref m6, .int (nI z1), .ref m7, .int (nI z2), .int 0, .int th])), (m1, .inl (cI, 14, .inl Bd)), (m2, .inl (cI, 14, .inl Hd))] := hD
  refine lv_iconst (v := 1) hx hb dX4_reckon_9 (by decide +kernel) ?_
  refine lv_istore (lv' := [(4, .int 1), (3, .int (nI 0)), (2, .int 0), (0, .ref qy), (1, .int x)]) hx hb dX4_reckon_10 hl (by decide) rfl (fun ls hl => ?_)
  exact outer (n + 2) 0 _ _ _ H locs ls (by omega) (by omega) (fun _ => Nat.zero_le _) (fun q => absurd q (by decide)) rfl sp_0 hP hD hS (lv_sub hl [1, 0, 2, 3, 4] rfl)
