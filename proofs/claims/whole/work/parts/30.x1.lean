set_option maxHeartbeats 4000000 in
set_option maxRecDepth 100000 in
/-- leastOf(v) -/
theorem c_X1_leastOf (l : Launch) (D : va_G) (cI cZ cJ : ClassId) (qm qn qo : Nat) (t1 t2 : Nat) (Mb : Nat → Int64) (M : Nat → Prop) (words v : Nat) (hw : words ≤ 256) (hv : v < words) (hm : mb_ M words Mb) : Met l yX1_leastOf wsX1_leastOf ({ frames := 0, cells := 0, slots := 0, locals := 0 } : Room) (va_Pc [.ref qm, .int (nI v)] (re_ D [(cI, .int), (cZ, .boolean), (cJ, .long)] [(qm, .inr (2, [.ref qn, .ref qo])), (qn, .inl (cJ, 256, .inr (.inl Mb)))] t1 t2)) (vp_Sl (fun r => ∀ j, j < 64 → (bl r j = true ↔ lst_ M (v * 64 + j)))) 0 0 (fun _ => False) := by
  refine Met.ofW (cc := cX1_leastOf) (maxL := 7) (ret := (some .long)) (by decide) rfl ?_
  intro p e s m args below meth c s₁ B hml hv
  obtain ⟨rfl, hP, hK, hE⟩ := hv
  have hx := B.exec
  have hb := B.bytes
  have hr := B.returns
  have hts := atoms_spec (ws := wsX1_leastOf) B.pre
  have hown : s.vm.findClass RX1 = some m.cls := findClass_of_methodNamed B.named
  have hlocks := B.notSynchronized
  have iX1 : ∀ w ∈ u_ws RX1 TX1 2, w ∈ wsX1_leastOf := by decide +kernel
  have hS : va_S (fun _ => False) s.heap s.heap [] := va_S.rf
  have hl := lv_entry ([.ref qm, .int (nI v)]) (n := 7) (Nat.le_of_ble_eq_true rfl)
  rw [lg_entry_eq]
  generalize (lg_sl ([.ref qm, .int (nI v)]) ++ List.replicate (7 - (lg_sl ([.ref qm, .int (nI v)])).length) Slot.unset).toArray = ls at hl ⊢
  have hl : lv_has ls 7 [(0, .ref qm), (1, .int (nI v))] := hl
  have two : ∀ (d : Nat) (a : Nat) (y : Int64) (ls : Array Slot), 8 < a + d → a ≤ 8 → hi_is M v a y → lv_has ls 7 [(4, .int (nI a)), (2, .long y), (0, .ref qm), (1, .int (nI v))] → W p l e (headSpec wsX1_leastOf ({ frames := 0, cells := 0, slots := 0, locals := 0 } : Room)).room s m ([.ref qm, .int (nI v)] : List Value).toArray below meth c s.heap [] 0 0 (MQ below (vp_Sl (fun r => ∀ j, j < 64 → (bl r j = true ↔ lst_ M (v * 64 + j)))) ([.ref qm, .int (nI v)] : List Value).toArray s 0 0 (fun _ => False)) (F0 m 55 ls []) := by
    intro d
    induction d with
    | zero => intro a y ls h1 h2; omega
    | succ d ih =>
      intro a y ls h1 h2 hy hl
      refine lv_iload hx hb dX1_leastOf_55 (lv_at hl 0 rfl) ?_
      refine lv_bipush (v := (nI 8)) hx hb dX1_leastOf_57 (by decide +kernel) ?_
      refine r_ige hx hb (tgt := 95) (by omega) (by omega) dX1_leastOf_59 (by decide) (fun c_59 => ?_) (fun c_59 => ?_)
      · refine lv_lload_n hx hb dX1_leastOf_95 rfl (lv_at hl 1 rfl) ?_
        exact W.lret (v := y) hx hb hr (fun t ht hW => ⟨y, rfl, hi_end (by rw [show a = 8 by omega] at hy; exact hy), ht⟩) (fun q h => by cases h) dX1_leastOf_96
      · refine lv_iload_n hx hb dX1_leastOf_62 rfl (lv_at hl 3 rfl) ?_
        refine lv_iload hx hb dX1_leastOf_63 (lv_at hl 0 rfl) ?_
        refine lv_ishr hx hb dX1_leastOf_65 ?_
        refine lv_iconst (v := 1) hx hb dX1_leastOf_66 (by decide +kernel) ?_
        refine lv_iand hx hb dX1_leastOf_67 ?_
        refine lv_if_eq (tgt := 89) hx hb dX1_leastOf_68 (by decide) (fun c_68 => ?_) (fun c_68 => ?_)
        · refine lv_iinc (v := (nI (a + 1))) (lv' := [(4, .int (nI (a + 1))), (2, .long y), (0, .ref qm), (1, .int (nI v))]) hx hb dX1_leastOf_89 hl (k := 0) rfl (nI_inc _) (by decide) rfl (fun ls hl => ?_)
          refine lv_goto (tgt := 55) hx hb dX1_leastOf_92 (by decide) ?_
          exact ih (a + 1) _ ls (by omega) (by omega) (by first | exact hi_no c_59 c_68 hy | exact hi_yes hm hv hw c_59 hbit hy) (lv_sub hl [0, 1, 2, 3] rfl)
        · refine lv_lload_n hx hb dX1_leastOf_71 rfl (lv_at hl 1 rfl) ?_
          refine lv_aload_n hx hb dX1_leastOf_72 rfl (lv_at hl 2 rfl) ?_
          refine va_get (D := D) (ci := 2) (v := .ref qn) (C := RX1) (T := TX1) (N := 2) hx hb hts iX1 hown hK hP 0 rfl rfl 0 (by decide) (hts (.fieldLink RX1 9 "LeastSets$Family" "members" "[J") (by decide +kernel)) (fun _ h9 => h9) rfl dX1_leastOf_73 ?_
          refine lv_iload_n hx hb dX1_leastOf_76 rfl (lv_at hl 3 rfl) ?_
          refine lv_iconst (v := 1) hx hb dX1_leastOf_77 (by decide +kernel) ?_
          refine lv_iload hx hb dX1_leastOf_78 (lv_at hl 0 rfl) ?_
          refine lv_ishl hx hb dX1_leastOf_80 ?_
          refine lv_ixor hx hb dX1_leastOf_81 ?_
          have hbit := hi_bit c_59 c_68
          have hdn := flip_dn v (by omega) a c_59 hbit
          refine r_top (y := nI (v ^^^ 2 ^ a)) (flip_nI v (by omega) a c_59) ?_
          refine r_lald hx hb hK hP 1 2 rfl rfl (v ^^^ 2 ^ a) (by omega) (by omega) dX1_leastOf_82 ?_
          refine lv_ldc2 (v := (-1)) hx hb hown (hts (.constantLong RX1 43 (-1)) (by decide +kernel)) dX1_leastOf_83 ?_
          refine lv_lxor hx hb dX1_leastOf_86 ?_
          refine lv_land hx hb dX1_leastOf_87 ?_
          refine lv_lstore_n (lv' := [(2, .long (y &&& ((Mb (v ^^^ 2 ^ a)) ^^^ (-1)))), (4, .int (nI a)), (0, .ref qm), (1, .int (nI v))]) hx hb dX1_leastOf_88 rfl hl (by decide) rfl (fun ls hl => ?_)
          refine lv_iinc (v := (nI (a + 1))) (lv' := [(4, .int (nI (a + 1))), (2, .long (y &&& ((Mb (v ^^^ 2 ^ a)) ^^^ (-1)))), (0, .ref qm), (1, .int (nI v))]) hx hb dX1_leastOf_89 hl (k := 1) rfl (nI_inc _) (by decide) rfl (fun ls hl => ?_)
          refine lv_goto (tgt := 55) hx hb dX1_leastOf_92 (by decide) ?_
          exact ih (a + 1) _ ls (by omega) (by omega) (by first | exact hi_no c_59 c_68 hy | exact hi_yes hm hv hw c_59 hbit hy) (lv_sub hl [0, 1, 2, 3] rfl)
  have one : ∀ (d : Nat) (a : Nat) (y : Int64) (ls : Array Slot), 6 < a + d → a ≤ 6 → lo_is M v a y → lv_has ls 7 [(4, .int (nI a)), (2, .long y), (0, .ref qm), (1, .int (nI v))] → W p l e (headSpec wsX1_leastOf ({ frames := 0, cells := 0, slots := 0, locals := 0 } : Room)).room s m ([.ref qm, .int (nI v)] : List Value).toArray below meth c s.heap [] 0 0 (MQ below (vp_Sl (fun r => ∀ j, j < 64 → (bl r j = true ↔ lst_ M (v * 64 + j)))) ([.ref qm, .int (nI v)] : List Value).toArray s 0 0 (fun _ => False)) (F0 m 10 ls []) := by
    intro d
    induction d with
    | zero => intro a y ls h1 h2; omega
    | succ d ih =>
      intro a y ls h1 h2 hy hl
      refine lv_iload hx hb dX1_leastOf_10 (lv_at hl 0 rfl) ?_
      refine lv_bipush (v := (nI 6)) hx hb dX1_leastOf_12 (by decide +kernel) ?_
      refine r_ige hx hb (tgt := 52) (by omega) (by omega) dX1_leastOf_14 (by decide) (fun c_14 => ?_) (fun c_14 => ?_)
      · refine lv_iconst (v := (nI 0)) hx hb dX1_leastOf_52 (by decide +kernel) ?_
        refine lv_istore (lv' := [(4, .int (nI 0)), (2, .long y), (0, .ref qm), (1, .int (nI v))]) hx hb dX1_leastOf_53 hl (by decide) rfl (fun ls hl => ?_)
        exact two 9 0 _ ls (by omega) (by omega) (hi_0 (by rw [show a = 6 by omega] at hy; exact hy)) (lv_sub hl [0, 1, 2, 3] rfl)
      · refine lv_aload_n hx hb dX1_leastOf_17 rfl (lv_at hl 2 rfl) ?_
        refine va_get (D := D) (ci := 2) (v := .ref qn) (C := RX1) (T := TX1) (N := 2) hx hb hts iX1 hown hK hP 0 rfl rfl 0 (by decide) (hts (.fieldLink RX1 9 "LeastSets$Family" "members" "[J") (by decide +kernel)) (fun _ h9 => h9) rfl dX1_leastOf_18 ?_
        refine lv_iload_n hx hb dX1_leastOf_21 rfl (lv_at hl 3 rfl) ?_
        refine r_lald hx hb hK hP 1 2 rfl rfl v (by omega) (by omega) dX1_leastOf_22 ?_
        refine lv_iconst (v := 1) hx hb dX1_leastOf_23 (by decide +kernel) ?_
        refine lv_iload hx hb dX1_leastOf_24 (lv_at hl 0 rfl) ?_
        refine lv_ishl hx hb dX1_leastOf_26 ?_
        refine lv_lshl (v := ((Mb v) <<< (Int32.toInt64 (1 <<< ((nI a) &&& 31)) &&& 63))) hx hb dX1_leastOf_27 rfl ?_
        refine va_getsN (host := "LeastSets") hx hb hE.2.1 hS hown (va_Nw.use rfl (hE.1 _ (List.mem_of_getElem? (i := 6) rfl))) (fun _ h9 => h9) dX1_leastOf_28 ?_
        refine lv_iload hx hb dX1_leastOf_31 (lv_at hl 0 rfl) ?_
        refine va_tl (v := .long (pw_ a)) hx hb hE.2.2.1 hS (vp_in_nI c_14 (by omega)) (by rw [nI_clamp (by omega)]) dX1_leastOf_33 ?_
        refine lv_land hx hb dX1_leastOf_34 ?_
        refine lv_lstore (lv' := [(5, .long (((Mb v) <<< (Int32.toInt64 (1 <<< ((nI a) &&& 31)) &&& 63)) &&& (pw_ a))), (4, .int (nI a)), (2, .long y), (0, .ref qm), (1, .int (nI v))]) hx hb dX1_leastOf_35 hl (by decide) rfl (fun ls hl => ?_)
        refine lv_lload_n hx hb dX1_leastOf_37 rfl (lv_at hl 2 rfl) ?_
        refine lv_lload hx hb dX1_leastOf_38 (lv_at hl 0 rfl) ?_
        refine lv_ldc2 (v := (-1)) hx hb hown (hts (.constantLong RX1 43 (-1)) (by decide +kernel)) dX1_leastOf_40 ?_
        refine lv_lxor hx hb dX1_leastOf_43 ?_
        refine lv_land hx hb dX1_leastOf_44 ?_
        refine lv_lstore_n (lv' := [(2, .long (y &&& ((((Mb v) <<< (Int32.toInt64 (1 <<< ((nI a) &&& 31)) &&& 63)) &&& (pw_ a)) ^^^ (-1)))), (5, .long (((Mb v) <<< (Int32.toInt64 (1 <<< ((nI a) &&& 31)) &&& 63)) &&& (pw_ a))), (4, .int (nI a)), (0, .ref qm), (1, .int (nI v))]) hx hb dX1_leastOf_45 rfl hl (by decide) rfl (fun ls hl => ?_)
        refine lv_iinc (v := (nI (a + 1))) (lv' := [(4, .int (nI (a + 1))), (2, .long (y &&& ((((Mb v) <<< (Int32.toInt64 (1 <<< ((nI a) &&& 31)) &&& 63)) &&& (pw_ a)) ^^^ (-1)))), (5, .long (((Mb v) <<< (Int32.toInt64 (1 <<< ((nI a) &&& 31)) &&& 63)) &&& (pw_ a))), (0, .ref qm), (1, .int (nI v))]) hx hb dX1_leastOf_46 hl (k := 2) rfl (nI_inc _) (by decide) rfl (fun ls hl => ?_)
        refine lv_goto (tgt := 10) hx hb dX1_leastOf_49 (by decide) ?_
        exact ih (a + 1) _ ls (by omega) (by omega) (lo_step hm hv c_14 hy) (lv_sub hl [0, 1, 3, 4] rfl)
  refine lv_aload_n hx hb dX1_leastOf_0 rfl (lv_at hl 0 rfl) ?_
  refine va_get (D := D) (ci := 2) (v := .ref qn) (C := RX1) (T := TX1) (N := 2) hx hb hts iX1 hown hK hP 0 rfl rfl 0 (by decide) (hts (.fieldLink RX1 9 "LeastSets$Family" "members" "[J") (by decide +kernel)) (fun _ h9 => h9) rfl dX1_leastOf_1 ?_
  refine lv_iload_n hx hb dX1_leastOf_4 rfl (lv_at hl 1 rfl) ?_
  refine r_lald hx hb hK hP 1 2 rfl rfl v (by omega) (by omega) dX1_leastOf_5 ?_
  refine lv_lstore_n (lv' := [(2, .long (Mb v)), (0, .ref qm), (1, .int (nI v))]) hx hb dX1_leastOf_6 rfl hl (by decide) rfl (fun ls hl => ?_)
  refine lv_iconst (v := (nI 0)) hx hb dX1_leastOf_7 (by decide +kernel) ?_
  refine lv_istore (lv' := [(4, .int (nI 0)), (2, .long (Mb v)), (0, .ref qm), (1, .int (nI v))]) hx hb dX1_leastOf_8 hl (by decide) rfl (fun ls hl => ?_)
  exact one 7 0 _ ls (by omega) (by omega) (lo_0 hm hv) (lv_sub hl [0, 1, 2, 3] rfl)
set_option maxHeartbeats 4000000 in
set_option maxRecDepth 100000 in
/-- listLeast(words, list) -/
theorem c_X1_listLeast (l : Launch) (D : va_G) (cI cZ cJ : ClassId) (t1 t2 sz : Nat) (qm qn qo ql qs : Nat) (Mb Le : Nat → Int64) (z : Nat) (Sx : Nat → Int32) (M : Nat → Prop) (P : Nat → Bool) (hP0 : ∀ s, P s = true ↔ lst_ M s) (up : ∀ s t, ss_ s t → M s → M t) (words : Nat) (hw : words ≤ 256) (hm : mb_ M words Mb) : Met l yX1_listLeast wsX1_listLeast ({ frames := 3, cells := 0, slots := 0, locals := 69 } : Room) (va_Pc [.ref qm, .int (nI words), .ref ql] (wr_ D [(cI, .int), (cZ, .boolean), (cJ, .long)] [(qm, .inr (2, [.ref qn, .ref qo])), (qn, .inl (cJ, 256, .inr (.inl Mb))), (qo, .inl (cJ, 256, .inr (.inl Le))), (ql, .inr (3, [.ref qs, .int (nI z)])), (qs, .inl (cI, 3432, .inl Sx))] t1 t2 sz)) (va_Qv (S := (Nat → Int64) × (Nat → Int32)) (fun u => sx_ u.2 (ls_ P 15 (words * 64))) (fun u => wd_ D [(cI, .int), (cZ, .boolean), (cJ, .long)] (va_A [(qm, .inr (2, [.ref qn, .ref qo])), (qn, .inl (cJ, 256, .inr (.inl Mb))), (qo, .inl (cJ, 256, .inr (.inl Le))), (ql, .inr (3, [.ref qs, .int (nI z)])), (qs, .inl (cI, 3432, .inl Sx))] sz) [(qm, .inr (2, [.ref qn, .ref qo])), (qn, .inl (cJ, 256, .inr (.inl Mb))), (qo, .inl (cJ, 256, .inr (.inl u.1))), (ql, .inr (3, [.ref qs, .int (nI ((ls_ P 15 (words * 64))).length)])), (qs, .inl (cI, 3432, .inl u.2))]) (va_A [(qm, .inr (2, [.ref qn, .ref qo])), (qn, .inl (cJ, 256, .inr (.inl Mb))), (qo, .inl (cJ, 256, .inr (.inl Le))), (ql, .inr (3, [.ref qs, .int (nI z)])), (qs, .inl (cI, 3432, .inl Sx))] sz)) 0 0 (va_A [(qm, .inr (2, [.ref qn, .ref qo])), (qn, .inl (cJ, 256, .inr (.inl Mb))), (qo, .inl (cJ, 256, .inr (.inl Le))), (ql, .inr (3, [.ref qs, .int (nI z)])), (qs, .inl (cI, 3432, .inl Sx))] sz) := by
  refine Met.ofW (cc := cX1_listLeast) (maxL := 6) (ret := none) (by decide) rfl ?_
  intro p e s m args below meth c s₁ B hml hv
  obtain ⟨rfl, hsz, hP, hK, hD0, hE⟩ := hv
  have hx := B.exec
  have hb := B.bytes
  have hr := B.returns
  have hts := atoms_spec (ws := wsX1_listLeast) B.pre
  have hown : s.vm.findClass RX1 = some m.cls := findClass_of_methodNamed B.named
  have hlocks := B.notSynchronized
  have iX1 : ∀ w ∈ u_ws RX1 TX1 2, w ∈ wsX1_listLeast := by decide +kernel
  subst hsz
  have hD := hD0.self (sz := s.heap.size)
  generalize hAe : va_A [(qm, .inr (2, [.ref qn, .ref qo])), (qn, .inl (cJ, 256, .inr (.inl Mb))), (qo, .inl (cJ, 256, .inr (.inl Le))), (ql, .inr (3, [.ref qs, .int (nI z)])), (qs, .inl (cI, 3432, .inl Sx))] s.heap.size = A at hD hE ⊢
  have hA : ∀ q : Nat, s.heap.size ≤ q → A q := fun q h => by rw [← hAe]; exact Or.inr h
  have hS : va_S A s.heap s.heap [] := va_S.rf
  have hroom : (ls_ P 15 (words * 64)).length ≤ 3432 := ls_len (fun s h => (hP0 s).mp h) up (by omega)
  have hl := lv_entry ([.ref qm, .int (nI words), .ref ql]) (n := 6) (Nat.le_of_ble_eq_true rfl)
  rw [lg_entry_eq]
  generalize (lg_sl ([.ref qm, .int (nI words), .ref ql]) ++ List.replicate (6 - (lg_sl ([.ref qm, .int (nI words), .ref ql])).length) Slot.unset).toArray = ls at hl ⊢
  have hl : lv_has ls 6 [(0, .ref qm), (1, .int (nI words)), (2, .ref ql)] := hl
  have two : ∀ (d : Nat) (z : Nat) (Le : Nat → Int64) (L : List Nat) (Sx : Nat → Int32) (H : Heap) (locs : List Loc) (ls : Array Slot), 15 < z + d → z ≤ 15 → (∀ b, b < words → ∀ j, j < 64 → (bl (Le b) j = true ↔ lst_ M (b * 64 + j))) → L = ls_ P z (words * 64) → sx_ Sx L → va_P D vwCl [(qm, .inr (2, [.ref qn, .ref qo])), (qn, .inl (cJ, 256, .inr (.inl Mb))), (qo, .inl (cJ, 256, .inr (.inl Le))), (ql, .inr (3, [.ref qs, .int (nI (L).length)])), (qs, .inl (cI, 3432, .inl Sx))] H → va_D A [(qm, .inr (2, [.ref qn, .ref qo])), (qn, .inl (cJ, 256, .inr (.inl Mb))), (qo, .inl (cJ, 256, .inr (.inl Le))), (ql, .inr (3, [.ref qs, .int (nI (L).length)])), (qs, .inl (cI, 3432, .inl Sx))] → va_S A s.heap H locs → lv_has ls 6 [(3, .int (nI z)), (0, .ref qm), (1, .int (nI words)), (2, .ref ql)] → W p l e (headSpec wsX1_listLeast ({ frames := 3, cells := 0, slots := 0, locals := 69 } : Room)).room s m ([.ref qm, .int (nI words), .ref ql] : List Value).toArray below meth c H locs 0 0 (MQ below (va_Qv (S := (Nat → Int64) × (Nat → Int32)) (fun u => sx_ u.2 (ls_ P 15 (words * 64))) (fun u => wd_ D [(cI, .int), (cZ, .boolean), (cJ, .long)] A [(qm, .inr (2, [.ref qn, .ref qo])), (qn, .inl (cJ, 256, .inr (.inl Mb))), (qo, .inl (cJ, 256, .inr (.inl u.1))), (ql, .inr (3, [.ref qs, .int (nI ((ls_ P 15 (words * 64))).length)])), (qs, .inl (cI, 3432, .inl u.2))]) A) ([.ref qm, .int (nI words), .ref ql] : List Value).toArray s 0 0 A) (F0 m 30 ls []) := by
    intro d
    induction d with
    | zero => intro z Le L Sx H locs ls h1 h2; omega
    | succ d ih =>
      intro z Le L Sx H locs ls h1 h2 hLe eL hX hP hD hS hl
      refine lv_iload_n hx hb dX1_listLeast_30 rfl (lv_at hl 0 rfl) ?_
      refine lv_bipush (v := (nI 14)) hx hb dX1_listLeast_31 (by decide +kernel) ?_
      refine r_igt hx hb (tgt := 98) (by omega) (by omega) dX1_listLeast_33 (by decide) (fun c_33 => ?_) (fun c_33 => ?_)
      · have ez : z = 15 := by omega
        subst ez
        subst eL
        exact W.vret hx hb hr (fun t ht hW => ⟨⟨(Le, Sx), rfl, hX, by rw [ht]; exact hP, va_K.moved hW.alike hK, hD⟩, hS.F ht⟩) hS.2.2 dX1_listLeast_98
      · refine lv_iconst (v := (nI 0)) hx hb dX1_listLeast_36 (by decide +kernel) ?_
        refine lv_istore (lv' := [(4, .int (nI 0)), (3, .int (nI z)), (0, .ref qm), (1, .int (nI words)), (2, .ref ql)]) hx hb dX1_listLeast_37 hl (by decide) rfl (fun ls hl => ?_)
        have three : ∀ (d2 : Nat) (v : Nat) (L : List Nat) (Sx : Nat → Int32) (H : Heap) (locs : List Loc) (ls : Array Slot), words < v + d2 → v ≤ words → L = ls_ P z (words * 64) ++ on_ (fz_ P z) 0 (v * 64) → sx_ Sx L → va_P D vwCl [(qm, .inr (2, [.ref qn, .ref qo])), (qn, .inl (cJ, 256, .inr (.inl Mb))), (qo, .inl (cJ, 256, .inr (.inl Le))), (ql, .inr (3, [.ref qs, .int (nI (L).length)])), (qs, .inl (cI, 3432, .inl Sx))] H → va_D A [(qm, .inr (2, [.ref qn, .ref qo])), (qn, .inl (cJ, 256, .inr (.inl Mb))), (qo, .inl (cJ, 256, .inr (.inl Le))), (ql, .inr (3, [.ref qs, .int (nI (L).length)])), (qs, .inl (cI, 3432, .inl Sx))] → va_S A s.heap H locs → lv_has ls 6 [(4, .int (nI v)), (3, .int (nI z)), (0, .ref qm), (1, .int (nI words)), (2, .ref ql)] → W p l e (headSpec wsX1_listLeast ({ frames := 3, cells := 0, slots := 0, locals := 69 } : Room)).room s m ([.ref qm, .int (nI words), .ref ql] : List Value).toArray below meth c H locs 0 0 (MQ below (va_Qv (S := (Nat → Int64) × (Nat → Int32)) (fun u => sx_ u.2 (ls_ P 15 (words * 64))) (fun u => wd_ D [(cI, .int), (cZ, .boolean), (cJ, .long)] A [(qm, .inr (2, [.ref qn, .ref qo])), (qn, .inl (cJ, 256, .inr (.inl Mb))), (qo, .inl (cJ, 256, .inr (.inl u.1))), (ql, .inr (3, [.ref qs, .int (nI ((ls_ P 15 (words * 64))).length)])), (qs, .inl (cI, 3432, .inl u.2))]) A) ([.ref qm, .int (nI words), .ref ql] : List Value).toArray s 0 0 A) (F0 m 39 ls []) := by
          intro d2
          induction d2 with
          | zero => intro v L Sx H locs ls h1 h2; omega
          | succ d2 ih2 =>
            intro v L Sx H locs ls h3 h4 eL hX hP hD hS hl
            refine lv_iload hx hb dX1_listLeast_39 (lv_at hl 0 rfl) ?_
            refine lv_iload_n hx hb dX1_listLeast_41 rfl (lv_at hl 3 rfl) ?_
            refine r_ige hx hb (tgt := 92) (by omega) (by omega) dX1_listLeast_42 (by decide) (fun c_42 => ?_) (fun c_42 => ?_)
            · refine lv_iinc (v := (nI (z + 1))) (lv' := [(3, .int (nI (z + 1))), (4, .int (nI v)), (0, .ref qm), (1, .int (nI words)), (2, .ref ql)]) hx hb dX1_listLeast_92 hl (k := 1) rfl (nI_inc _) (by decide) rfl (fun ls hl => ?_)
              refine lv_goto (tgt := 30) hx hb dX1_listLeast_95 (by decide) ?_
              exact ih (z + 1) Le L Sx H locs ls (by omega) (by omega) hLe (by rw [eL, show v = words by omega]; rfl) hX hP hD hS (lv_sub hl [0, 2, 3, 4] rfl)
            · refine lv_iload_n hx hb dX1_listLeast_45 rfl (lv_at hl 1 rfl) ?_
              refine lv_iload hx hb dX1_listLeast_46 (lv_at hl 0 rfl) ?_
              refine vp_callSi (va_runS (As := [.int (nI v)]) (rest := [.int (nI z)]) ⟨hx, hb, hml, hown, hts⟩ (c_J6_bitCount_0f7a4 l (nI v)) (va_cwS 1 hts gX1_listLeast_J6_bitCount_0f7a4 rfl rfl rfl (by decide +kernel) ⟨Nat.le_of_ble_eq_true rfl, Nat.le_of_ble_eq_true rfl⟩) ⟨no_blind, no_pre trivial⟩ rfl rfl hl.1 rfl (lv_room (Nat.le_of_ble_eq_true rfl)) dX1_listLeast_48 ⟨Nat.le_of_ble_eq_true rfl, Nat.le_of_ble_eq_true rfl⟩).run (fun r_48 hr_48 => ?_)
              rw [bc_8 v (by omega)] at hr_48
              subst hr_48
              have hp8 := pcF_le 8 v
              refine lv_isub hx hb dX1_listLeast_51 ?_
              refine lv_istore (lv' := [(5, .int ((nI z) - (nI (pcF 8 v)))), (4, .int (nI v)), (3, .int (nI z)), (0, .ref qm), (1, .int (nI words)), (2, .ref ql)]) hx hb dX1_listLeast_52 hl (by decide) rfl (fun ls hl => ?_)
              refine lv_iload hx hb dX1_listLeast_54 (lv_at hl 0 rfl) ?_
              refine lv_if_lt (tgt := 86) hx hb dX1_listLeast_56 (by decide) (fun c_56 => ?_) (fun c_56 => ?_)
              · have hno : z < pcF 8 v ∨ pcF 8 v + 6 < z := Or.inl (Classical.byContradiction fun q => by rw [pk_sub (by omega)] at c_56; exact nI_pos (by omega) c_56)
                refine lv_iinc (v := (nI (v + 1))) (lv' := [(4, .int (nI (v + 1))), (5, .int ((nI z) - (nI (pcF 8 v)))), (3, .int (nI z)), (0, .ref qm), (1, .int (nI words)), (2, .ref ql)]) hx hb dX1_listLeast_86 hl (k := 1) rfl (nI_inc _) (by decide) rfl (fun ls hl => ?_)
                refine lv_goto (tgt := 39) hx hb dX1_listLeast_89 (by decide) ?_
                exact ih2 (v + 1) L Sx H locs ls (by omega) (by omega) (by rw [word_no (by omega) hno]; exact eL) hX hP hD hS (lv_sub hl [0, 2, 3, 4, 5] rfl)
              · have hge : pcF 8 v ≤ z := Classical.byContradiction fun q => c_56 (pk_sneg (by omega) (by omega))
                rw [pk_sub hge] at hl
                refine lv_iload hx hb dX1_listLeast_59 (lv_at hl 0 rfl) ?_
                refine lv_bipush (v := (nI 6)) hx hb dX1_listLeast_61 (by decide +kernel) ?_
                refine lv_icmp_gt (tgt := 86) hx hb dX1_listLeast_63 (by decide) (fun c_63 => ?_) (fun c_63 => ?_)
                · have hno : z < pcF 8 v ∨ pcF 8 v + 6 < z := Or.inr (by have := (nI_ltI (a := 6) (b := z - pcF 8 v) (by omega) (by omega)).mp c_63; omega)
                  refine lv_iinc (v := (nI (v + 1))) (lv' := [(4, .int (nI (v + 1))), (5, .int (nI (z - pcF 8 v))), (3, .int (nI z)), (0, .ref qm), (1, .int (nI words)), (2, .ref ql)]) hx hb dX1_listLeast_86 hl (k := 1) rfl (nI_inc _) (by decide) rfl (fun ls hl => ?_)
                  refine lv_goto (tgt := 39) hx hb dX1_listLeast_89 (by decide) ?_
                  exact ih2 (v + 1) L Sx H locs ls (by omega) (by omega) (by rw [word_no (by omega) hno]; exact eL) hX hP hD hS (lv_sub hl [0, 2, 3, 4, 5] rfl)
                · have hle6 : z - pcF 8 v ≤ 6 := Classical.byContradiction fun q => c_63 ((nI_ltI (a := 6) (b := z - pcF 8 v) (by omega) (by omega)).mpr (by omega))
                  refine lv_aload_n hx hb dX1_listLeast_66 rfl (lv_at hl 5 rfl) ?_
                  refine lv_iload hx hb dX1_listLeast_67 (lv_at hl 1 rfl) ?_
                  refine lv_aload_n hx hb dX1_listLeast_69 rfl (lv_at hl 3 rfl) ?_
                  refine va_get (D := D) (ci := 2) (v := .ref qo) (C := RX1) (T := TX1) (N := 2) hx hb hts iX1 hown hK hP 0 rfl rfl 1 (by decide) (hts (.fieldLink RX1 15 "LeastSets$Family" "least" "[J") (by decide +kernel)) (fun _ h9 => h9) rfl dX1_listLeast_70 ?_
                  refine lv_iload hx hb dX1_listLeast_73 (lv_at hl 1 rfl) ?_
                  refine r_lald hx hb hK hP 2 2 rfl rfl v (by omega) (by omega) dX1_listLeast_75 ?_
                  refine va_getsN (host := "LeastSets") hx hb hE.2.2.2.1 hS hown (va_Nw.use rfl (hE.1 _ (List.mem_of_getElem? (i := 7) rfl))) (fun _ h9 => h9) dX1_listLeast_76 ?_
                  refine lv_iload hx hb dX1_listLeast_79 (lv_at hl 0 rfl) ?_
                  refine va_tl (v := .long (ps_ (z - pcF 8 v))) hx hb hE.2.2.2.2 hS (vp_in_nI (by omega) (by omega)) (by rw [nI_clamp (by omega)]) dX1_listLeast_81 ?_
                  refine lv_land hx hb dX1_listLeast_82 ?_
                  have hPc := hP.sub (ws' := [(ql, .inr (3, [.ref qs, .int (nI (L).length)])), (qs, .inl (cI, 3432, .inl Sx))]) [3, 4] rfl
                  have hDc := hD.sub (ws' := [(ql, .inr (3, [.ref qs, .int (nI (L).length)])), (qs, .inl (cI, 3432, .inl Sx))]) [3, 4] (by decide) rfl
                  have hFc := va_free (wc := [(ql, .inr (3, [.ref qs, .int (nI (L).length)])), (qs, .inl (cI, 3432, .inl Sx))]) hD hS hA [3, 4] rfl
                  refine va_callv (va_runV (As := [.int (nI v), .long ((Le v) &&& (ps_ (z - pcF 8 v)))]) (rest := []) ⟨hx, hb, hml, hown, hts⟩ (c_X2_addAll l D cI cZ cJ t1 t2 _ ql qs L Sx hX v (by omega) ((Le v) &&& (ps_ (z - pcF 8 v))) (by rw [eL, List.append_assoc, ← word_yes hP0 (by omega) hge (by omega) (hLe v c_42)]; exact Nat.le_trans (ls_room (by omega) (by omega)) hroom)) (cwV 2 hts gX1_listLeast_X2_addAll rfl rfl rfl (by decide +kernel) ⟨Nat.le_of_ble_eq_true rfl, Nat.le_of_ble_eq_true rfl⟩) ⟨wr_blind, va_recv hK hP (ci := 3) (q0 := 3) rfl rfl, wr_pre hPc hDc hK hE hS hFc [0, 1, 2] rfl⟩ rfl rfl hl.1 rfl (lv_room (Nat.le_of_ble_eq_true rfl)) dX1_listLeast_83 ⟨Nat.le_of_ble_eq_true rfl, Nat.le_of_ble_eq_true rfl⟩) hS (fun q _ h => hFc q h) hFc (fun u_83 t H locs ht hvm hw_83 hB hz1 hk1 hS => ?_)
                  obtain ⟨hP1, hK1, hD1⟩ := hB
                  rw [ht] at hP1
                  obtain ⟨hP, hD⟩ := va_join (wr := [(qm, .inr (2, [.ref qn, .ref qo])), (qn, .inl (cJ, 256, .inr (.inl Mb))), (qo, .inl (cJ, 256, .inr (.inl Le)))]) (w1 := [(ql, .inr (3, [.ref qs, .int (nI (L ++ ml_ v (Le v &&& ps_ (z - pcF 8 v))).length)])), (qs, .inl (cI, 3432, .inl u_83))]) hP hD [3, 4] [0, 1, 2] rfl rfl (by decide) (by decide) hk1 hFc hP1 hD1
                  have hP : va_P D vwCl [(qm, .inr (2, [.ref qn, .ref qo])), (qn, .inl (cJ, 256, .inr (.inl Mb))), (qo, .inl (cJ, 256, .inr (.inl Le))), (ql, .inr (3, [.ref qs, .int (nI (L ++ ml_ v (Le v &&& ps_ (z - pcF 8 v))).length)])), (qs, .inl (cI, 3432, .inl u_83))] H := hP.sub [0, 1, 2, 3, 4] rfl
                  have hD : va_D A [(qm, .inr (2, [.ref qn, .ref qo])), (qn, .inl (cJ, 256, .inr (.inl Mb))), (qo, .inl (cJ, 256, .inr (.inl Le))), (ql, .inr (3, [.ref qs, .int (nI (L ++ ml_ v (Le v &&& ps_ (z - pcF 8 v))).length)])), (qs, .inl (cI, 3432, .inl u_83))] := hD.sub [0, 1, 2, 3, 4] (by decide) rfl
                  clear hPc hDc hFc hP1 hK1 hD1 hk1 hz1
                  refine lv_iinc (v := (nI (v + 1))) (lv' := [(4, .int (nI (v + 1))), (5, .int (nI (z - pcF 8 v))), (3, .int (nI z)), (0, .ref qm), (1, .int (nI words)), (2, .ref ql)]) hx hb dX1_listLeast_86 hl (k := 1) rfl (nI_inc _) (by decide) rfl (fun ls hl => ?_)
                  refine lv_goto (tgt := 39) hx hb dX1_listLeast_89 (by decide) ?_
                  exact ih2 (v + 1) _ _ H locs ls (by omega) (by omega) (by rw [word_yes hP0 (by omega) hge (by omega) (hLe v c_42), eL, List.append_assoc]) hw_83 hP hD hS (lv_sub hl [0, 2, 3, 4, 5] rfl)
        exact three (words + 1) 0 L Sx H locs ls (by omega) (Nat.zero_le _) (by rw [eL]; exact (List.append_nil _).symm) hX hP hD hS (lv_sub hl [0, 1, 2, 3, 4] rfl)
  have one : ∀ (d : Nat) (v : Nat) (Le : Nat → Int64) (H : Heap) (locs : List Loc) (ls : Array Slot), words < v + d → v ≤ words → (∀ b, b < v → ∀ j, j < 64 → (bl (Le b) j = true ↔ lst_ M (b * 64 + j))) → va_P D vwCl [(qm, .inr (2, [.ref qn, .ref qo])), (qn, .inl (cJ, 256, .inr (.inl Mb))), (qo, .inl (cJ, 256, .inr (.inl Le))), (ql, .inr (3, [.ref qs, .int (nI z)])), (qs, .inl (cI, 3432, .inl Sx))] H → va_D A [(qm, .inr (2, [.ref qn, .ref qo])), (qn, .inl (cJ, 256, .inr (.inl Mb))), (qo, .inl (cJ, 256, .inr (.inl Le))), (ql, .inr (3, [.ref qs, .int (nI z)])), (qs, .inl (cI, 3432, .inl Sx))] → va_S A s.heap H locs → lv_has ls 6 [(3, .int (nI v)), (0, .ref qm), (1, .int (nI words)), (2, .ref ql)] → W p l e (headSpec wsX1_listLeast ({ frames := 3, cells := 0, slots := 0, locals := 69 } : Room)).room s m ([.ref qm, .int (nI words), .ref ql] : List Value).toArray below meth c H locs 0 0 (MQ below (va_Qv (S := (Nat → Int64) × (Nat → Int32)) (fun u => sx_ u.2 (ls_ P 15 (words * 64))) (fun u => wd_ D [(cI, .int), (cZ, .boolean), (cJ, .long)] A [(qm, .inr (2, [.ref qn, .ref qo])), (qn, .inl (cJ, 256, .inr (.inl Mb))), (qo, .inl (cJ, 256, .inr (.inl u.1))), (ql, .inr (3, [.ref qs, .int (nI ((ls_ P 15 (words * 64))).length)])), (qs, .inl (cI, 3432, .inl u.2))]) A) ([.ref qm, .int (nI words), .ref ql] : List Value).toArray s 0 0 A) (F0 m 2 ls []) := by
    intro d
    induction d with
    | zero => intro v Le H locs ls h1 h2; omega
    | succ d ih =>
      intro v Le H locs ls h1 h2 hLe hP hD hS hl
      refine lv_iload_n hx hb dX1_listLeast_2 rfl (lv_at hl 0 rfl) ?_
      refine lv_iload_n hx hb dX1_listLeast_3 rfl (lv_at hl 2 rfl) ?_
      refine r_ige hx hb (tgt := 24) (by omega) (by omega) dX1_listLeast_4 (by decide) (fun c_4 => ?_) (fun c_4 => ?_)
      · refine lv_aload_n hx hb dX1_listLeast_24 rfl (lv_at hl 3 rfl) ?_
        have hPc := hP.sub (ws' := [(ql, .inr (3, [.ref qs, .int (nI z)]))]) [3] rfl
        have hDc := hD.sub (ws' := [(ql, .inr (3, [.ref qs, .int (nI z)]))]) [3] (by decide) rfl
        have hFc := va_free (wc := [(ql, .inr (3, [.ref qs, .int (nI z)]))]) hD hS hA [3] rfl
        refine va_callv (va_runV (As := []) (rest := []) ⟨hx, hb, hml, hown, hts⟩ (c_X2_clear l D cI cZ cJ t1 t2 _ ql qs z) (cwV 0 hts gX1_listLeast_X2_clear rfl rfl rfl (by decide +kernel) ⟨Nat.le_of_ble_eq_true rfl, Nat.le_of_ble_eq_true rfl⟩) ⟨wr_blind, va_recv hK hP (ci := 3) (q0 := 3) rfl rfl, wr_pre hPc hDc hK hE hS hFc [0, 1, 2] rfl⟩ rfl rfl hl.1 rfl (lv_room (Nat.le_of_ble_eq_true rfl)) dX1_listLeast_25 ⟨Nat.le_of_ble_eq_true rfl, Nat.le_of_ble_eq_true rfl⟩) hS (fun q _ h => hFc q h) hFc (fun u_25 t H locs ht hvm hw_25 hB hz1 hk1 hS => ?_)
        obtain ⟨hP1, hK1, hD1⟩ := hB
        rw [ht] at hP1
        obtain ⟨hP, hD⟩ := va_join (wr := [(qm, .inr (2, [.ref qn, .ref qo])), (qn, .inl (cJ, 256, .inr (.inl Mb))), (qo, .inl (cJ, 256, .inr (.inl Le))), (qs, .inl (cI, 3432, .inl Sx))]) (w1 := [(ql, .inr (3, [.ref qs, .int (nI 0)]))]) hP hD [3] [0, 1, 2, 4] rfl rfl (by decide) (by decide) hk1 hFc hP1 hD1
        have hP : va_P D vwCl [(qm, .inr (2, [.ref qn, .ref qo])), (qn, .inl (cJ, 256, .inr (.inl Mb))), (qo, .inl (cJ, 256, .inr (.inl Le))), (ql, .inr (3, [.ref qs, .int (nI 0)])), (qs, .inl (cI, 3432, .inl Sx))] H := hP.sub [0, 1, 2, 4, 3] rfl
        have hD : va_D A [(qm, .inr (2, [.ref qn, .ref qo])), (qn, .inl (cJ, 256, .inr (.inl Mb))), (qo, .inl (cJ, 256, .inr (.inl Le))), (ql, .inr (3, [.ref qs, .int (nI 0)])), (qs, .inl (cI, 3432, .inl Sx))] := hD.sub [0, 1, 2, 4, 3] (by decide) rfl
        clear hPc hDc hFc hP1 hK1 hD1 hk1 hz1
        refine lv_iconst (v := (nI 0)) hx hb dX1_listLeast_28 (by decide +kernel) ?_
        refine lv_istore_n (lv' := [(3, .int (nI 0)), (0, .ref qm), (1, .int (nI words)), (2, .ref ql)]) hx hb dX1_listLeast_29 rfl hl (by decide) rfl (fun ls hl => ?_)
        exact two 16 0 Le [] Sx H locs ls (by omega) (by omega) (fun b hb => hLe b (by omega)) rfl (sx_0 _) hP hD hS (lv_sub hl [0, 1, 2, 3] rfl)
      · refine lv_aload_n hx hb dX1_listLeast_7 rfl (lv_at hl 1 rfl) ?_
        refine va_get (D := D) (ci := 2) (v := .ref qo) (C := RX1) (T := TX1) (N := 2) hx hb hts iX1 hown hK hP 0 rfl rfl 1 (by decide) (hts (.fieldLink RX1 15 "LeastSets$Family" "least" "[J") (by decide +kernel)) (fun _ h9 => h9) rfl dX1_listLeast_8 ?_
        refine lv_iload_n hx hb dX1_listLeast_11 rfl (lv_at hl 0 rfl) ?_
        refine lv_aload_n hx hb dX1_listLeast_12 rfl (lv_at hl 1 rfl) ?_
        refine lv_iload_n hx hb dX1_listLeast_13 rfl (lv_at hl 0 rfl) ?_
        refine vp_callSl (va_runV (As := [.int (nI v)]) (rest := [.int (nI v), .ref qo]) ⟨hx, hb, hml, hown, hts⟩ (c_X1_leastOf l D cI cZ cJ qm qn qo t1 t2 Mb M words v hw c_4 hm) (cwV 1 hts gX1_listLeast_X1_leastOf rfl rfl rfl (by decide +kernel) ⟨Nat.le_of_ble_eq_true rfl, Nat.le_of_ble_eq_true rfl⟩) ⟨re_blind, va_recv hK hP (ci := 2) (q0 := 0) rfl rfl, re_pre (hP.sub (ws' := [(qm, .inr (2, [.ref qn, .ref qo])), (qn, .inl (cJ, 256, .inr (.inl Mb)))]) [0, 1] rfl) hK hE hS [0, 1, 2] rfl⟩ rfl rfl hl.1 rfl (lv_room (Nat.le_of_ble_eq_true rfl)) dX1_listLeast_14 ⟨Nat.le_of_ble_eq_true rfl, Nat.le_of_ble_eq_true rfl⟩).run (fun r_14 hr_14 => ?_)
        refine r_last hx hb hK hP hD hS 2 2 rfl rfl v (by omega) (by omega) dX1_listLeast_17 (fun H locs hP hD hS => ?_)
        have hP : va_P D vwCl [(qm, .inr (2, [.ref qn, .ref qo])), (qn, .inl (cJ, 256, .inr (.inl Mb))), (qo, .inl (cJ, 256, .inr (.inl (vp_updL Le v r_14)))), (ql, .inr (3, [.ref qs, .int (nI z)])), (qs, .inl (cI, 3432, .inl Sx))] H := hP
        have hD : va_D A [(qm, .inr (2, [.ref qn, .ref qo])), (qn, .inl (cJ, 256, .inr (.inl Mb))), (qo, .inl (cJ, 256, .inr (.inl (vp_updL Le v r_14)))), (ql, .inr (3, [.ref qs, .int (nI z)])), (qs, .inl (cI, 3432, .inl Sx))] := hD
        refine lv_iinc (v := (nI (v + 1))) (lv' := [(3, .int (nI (v + 1))), (0, .ref qm), (1, .int (nI words)), (2, .ref ql)]) hx hb dX1_listLeast_18 hl (k := 0) rfl (nI_inc _) (by decide) rfl (fun ls hl => ?_)
        refine lv_goto (tgt := 2) hx hb dX1_listLeast_21 (by decide) ?_
        exact ih (v + 1) _ H locs ls (by omega) (by omega) (up_lt (P := fun b x => ∀ j, j < 64 → (bl x j = true ↔ lst_ M (b * 64 + j))) rfl hLe hr_14) hP hD hS (lv_sub hl [0, 1, 2, 3] rfl)
  refine lv_iconst (v := (nI 0)) hx hb dX1_listLeast_0 (by decide +kernel) ?_
  refine lv_istore_n (lv' := [(3, .int (nI 0)), (0, .ref qm), (1, .int (nI words)), (2, .ref ql)]) hx hb dX1_listLeast_1 rfl hl (by decide) rfl (fun ls hl => ?_)
  exact one (words + 1) 0 Le s.heap [] ls (by omega) (Nat.zero_le _) (fun b hb => absurd hb (Nat.not_lt_zero b)) hP hD hS (lv_sub hl [0, 1, 2, 3] rfl)
