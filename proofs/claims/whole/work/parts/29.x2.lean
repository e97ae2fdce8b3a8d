set_option maxHeartbeats 4000000 in
set_option maxRecDepth 100000 in
/-- at(x) -/
theorem c_X2_at (l : Launch) (D : va_G) (cI cZ cJ : ClassId) (ql qs : Nat) (z : Nat) (hz : z ≤ 3432) (Sx : Nat → Int32) (x : Int32) : Met l yX2_at wsX2_at ({ frames := 0, cells := 0, slots := 0, locals := 0 } : Room) (va_Pc [.ref ql, .int x] (ro_ D [(cI, .int), (cZ, .boolean), (cJ, .long)] [(ql, .inr (3, [.ref qs, .int (nI z)])), (qs, .inl (cI, 3432, .inl Sx))])) (vp_Si (fun r => at_is Sx z x r)) 0 0 (fun _ => False) := by
  refine Met.ofW (cc := cX2_at) (maxL := 2) (ret := (some .int)) (by decide) rfl ?_
  intro p e s m args below meth c s₁ B hml hv
  obtain ⟨rfl, hP, hK⟩ := hv
  have hx := B.exec
  have hb := B.bytes
  have hr := B.returns
  have hts := atoms_spec (ws := wsX2_at) B.pre
  have hown : s.vm.findClass RX2 = some m.cls := findClass_of_methodNamed B.named
  have hlocks := B.notSynchronized
  have iX2 : ∀ w ∈ u_ws RX2 TX2 2, w ∈ wsX2_at := by decide +kernel
  have hl := lv_entry ([.ref ql, .int x]) (n := 2) (Nat.le_of_ble_eq_true rfl)
  rw [lg_entry_eq]
  generalize (lg_sl ([.ref ql, .int x]) ++ List.replicate (2 - (lg_sl ([.ref ql, .int x])).length) Slot.unset).toArray = ls at hl ⊢
  have hl : lv_has ls 2 [(0, .ref ql), (1, .int x)] := hl
  refine lv_iload_n hx hb dX2_at_0 rfl (lv_at hl 1 rfl) ?_
  refine lv_if_lt (tgt := 21) hx hb dX2_at_1 (by decide) (fun c_1 => ?_) (fun c_1 => ?_)
  · refine lv_bipush (v := (-2)) hx hb dX2_at_21 (by decide +kernel) ?_
    exact W.iret (v := (-2)) hx hb hr (fun t ht hW => ⟨(-2), rfl, by first | exact Or.inl ⟨j, hj, rfl, rfl⟩ | exact at_neg (by omega) c_1 | exact at_big (by omega) c_9, ht⟩) (fun q h => by cases h) dX2_at_23
  · refine lv_iload_n hx hb dX2_at_4 rfl (lv_at hl 1 rfl) ?_
    refine lv_aload_n hx hb dX2_at_5 rfl (lv_at hl 0 rfl) ?_
    refine va_get (D := D) (ci := 3) (v := .int (nI z)) (C := RX2) (T := TX2) (N := 2) hx hb hts iX2 hown hK hP 0 rfl rfl 1 (by decide) (hts (.fieldLink RX2 15 "LeastSets$SetList" "size" "I") (by decide +kernel)) (fun _ h9 => h9) rfl dX2_at_6 ?_
    refine lv_icmp_ge (tgt := 21) hx hb dX2_at_9 (by decide) (fun c_9 => ?_) (fun c_9 => ?_)
    · refine lv_bipush (v := (-2)) hx hb dX2_at_21 (by decide +kernel) ?_
      exact W.iret (v := (-2)) hx hb hr (fun t ht hW => ⟨(-2), rfl, by first | exact Or.inl ⟨j, hj, rfl, rfl⟩ | exact at_neg (by omega) c_1 | exact at_big (by omega) c_9, ht⟩) (fun q h => by cases h) dX2_at_23
    · obtain ⟨j, hj, ej⟩ := at_get (by omega) c_1 c_9
      subst ej
      refine lv_aload_n hx hb dX2_at_12 rfl (lv_at hl 0 rfl) ?_
      refine va_get (D := D) (ci := 3) (v := .ref qs) (C := RX2) (T := TX2) (N := 2) hx hb hts iX2 hown hK hP 0 rfl rfl 0 (by decide) (hts (.fieldLink RX2 9 "LeastSets$SetList" "sets" "[I") (by decide +kernel)) (fun _ h9 => h9) rfl dX2_at_13 ?_
      refine lv_iload_n hx hb dX2_at_16 rfl (lv_at hl 1 rfl) ?_
      refine r_iald hx hb hK hP 1 0 rfl rfl j (by omega) (by omega) dX2_at_17 ?_
      refine lv_goto (tgt := 23) hx hb dX2_at_18 (by decide) ?_
      exact W.iret (v := (Sx j)) hx hb hr (fun t ht hW => ⟨(Sx j), rfl, by first | exact Or.inl ⟨j, hj, rfl, rfl⟩ | exact at_neg (by omega) c_1 | exact at_big (by omega) c_9, ht⟩) (fun q h => by cases h) dX2_at_23
set_option maxHeartbeats 4000000 in
set_option maxRecDepth 100000 in
/-- howManyWith(x) -/
theorem c_X2_howManyWith (l : Launch) (D : va_G) (cI cZ cJ : ClassId) (ql qs : Nat) (z : Nat) (hz : z ≤ 3432) (Sx : Nat → Int32) (x : Int32) : Met l yX2_howManyWith wsX2_howManyWith ({ frames := 0, cells := 0, slots := 0, locals := 0 } : Room) (va_Pc [.ref ql, .int x] (ro_ D [(cI, .int), (cZ, .boolean), (cJ, .long)] [(ql, .inr (3, [.ref qs, .int (nI z)])), (qs, .inl (cI, 3432, .inl Sx))])) (vp_Si (fun r => r = hm_ Sx x z)) 0 0 (fun _ => False) := by
  refine Met.ofW (cc := cX2_howManyWith) (maxL := 4) (ret := (some .int)) (by decide) rfl ?_
  intro p e s m args below meth c s₁ B hml hv
  obtain ⟨rfl, hP, hK⟩ := hv
  have hx := B.exec
  have hb := B.bytes
  have hr := B.returns
  have hts := atoms_spec (ws := wsX2_howManyWith) B.pre
  have hown : s.vm.findClass RX2 = some m.cls := findClass_of_methodNamed B.named
  have hlocks := B.notSynchronized
  have iX2 : ∀ w ∈ u_ws RX2 TX2 2, w ∈ wsX2_howManyWith := by decide +kernel
  have hl := lv_entry ([.ref ql, .int x]) (n := 4) (Nat.le_of_ble_eq_true rfl)
  rw [lg_entry_eq]
  generalize (lg_sl ([.ref ql, .int x]) ++ List.replicate (4 - (lg_sl ([.ref ql, .int x])).length) Slot.unset).toArray = ls at hl ⊢
  have hl : lv_has ls 4 [(0, .ref ql), (1, .int x)] := hl
  have loop : ∀ (d : Nat) (k : Nat) (y : Int32) (ls : Array Slot), z < k + d → k ≤ z → y = hm_ Sx x k → lv_has ls 4 [(3, .int (nI k)), (2, .int y), (0, .ref ql), (1, .int x)] → W p l e (headSpec wsX2_howManyWith ({ frames := 0, cells := 0, slots := 0, locals := 0 } : Room)).room s m ([.ref ql, .int x] : List Value).toArray below meth c s.heap [] 0 0 (MQ below (vp_Si (fun r => r = hm_ Sx x z)) ([.ref ql, .int x] : List Value).toArray s 0 0 (fun _ => False)) (F0 m 4 ls []) := by
    intro d
    induction d with
    | zero => intro k y ls h1 h2; omega
    | succ d ih =>
      intro k y ls h1 h2 hy hl
      refine lv_iload_n hx hb dX2_howManyWith_4 rfl (lv_at hl 0 rfl) ?_
      refine lv_aload_n hx hb dX2_howManyWith_5 rfl (lv_at hl 2 rfl) ?_
      refine va_get (D := D) (ci := 3) (v := .int (nI z)) (C := RX2) (T := TX2) (N := 2) hx hb hts iX2 hown hK hP 0 rfl rfl 1 (by decide) (hts (.fieldLink RX2 15 "LeastSets$SetList" "size" "I") (by decide +kernel)) (fun _ h9 => h9) rfl dX2_howManyWith_6 ?_
      refine r_ige hx hb (tgt := 31) (by omega) (by omega) dX2_howManyWith_9 (by decide) (fun c_9 => ?_) (fun c_9 => ?_)
      · refine lv_iload_n hx hb dX2_howManyWith_31 rfl (lv_at hl 1 rfl) ?_
        exact W.iret (v := y) hx hb hr (fun t ht hW => ⟨y, rfl, (by rw [hy, show k = z by omega]), ht⟩) (fun q h => by cases h) dX2_howManyWith_32
      · refine lv_iload_n hx hb dX2_howManyWith_12 rfl (lv_at hl 1 rfl) ?_
        refine lv_aload_n hx hb dX2_howManyWith_13 rfl (lv_at hl 2 rfl) ?_
        refine va_get (D := D) (ci := 3) (v := .ref qs) (C := RX2) (T := TX2) (N := 2) hx hb hts iX2 hown hK hP 0 rfl rfl 0 (by decide) (hts (.fieldLink RX2 9 "LeastSets$SetList" "sets" "[I") (by decide +kernel)) (fun _ h9 => h9) rfl dX2_howManyWith_14 ?_
        refine lv_iload_n hx hb dX2_howManyWith_17 rfl (lv_at hl 0 rfl) ?_
        refine r_iald hx hb hK hP 1 0 rfl rfl k (by omega) (by omega) dX2_howManyWith_18 ?_
        refine lv_iload_n hx hb dX2_howManyWith_19 rfl (lv_at hl 3 rfl) ?_
        refine lv_ishr hx hb dX2_howManyWith_20 ?_
        refine lv_iconst (v := 1) hx hb dX2_howManyWith_21 (by decide +kernel) ?_
        refine lv_iand hx hb dX2_howManyWith_22 ?_
        refine lv_iadd hx hb dX2_howManyWith_23 ?_
        refine lv_istore_n (lv' := [(2, .int (y + (((Sx k) >>> (x &&& 31)) &&& 1))), (3, .int (nI k)), (0, .ref ql), (1, .int x)]) hx hb dX2_howManyWith_24 rfl hl (by decide) rfl (fun ls hl => ?_)
        refine lv_iinc (v := (nI (k + 1))) (lv' := [(3, .int (nI (k + 1))), (2, .int (y + (((Sx k) >>> (x &&& 31)) &&& 1))), (0, .ref ql), (1, .int x)]) hx hb dX2_howManyWith_25 hl (k := 1) rfl (nI_inc _) (by decide) rfl (fun ls hl => ?_)
        refine lv_goto (tgt := 4) hx hb dX2_howManyWith_28 (by decide) ?_
        exact ih (k + 1) _ ls (by omega) (by omega) (by rw [hy]; rfl) (lv_sub hl [0, 1, 2, 3] rfl)
  refine lv_iconst (v := 0) hx hb dX2_howManyWith_0 (by decide +kernel) ?_
  refine lv_istore_n (lv' := [(2, .int 0), (0, .ref ql), (1, .int x)]) hx hb dX2_howManyWith_1 rfl hl (by decide) rfl (fun ls hl => ?_)
  refine lv_iconst (v := (nI 0)) hx hb dX2_howManyWith_2 (by decide +kernel) ?_
  refine lv_istore_n (lv' := [(3, .int (nI 0)), (2, .int 0), (0, .ref ql), (1, .int x)]) hx hb dX2_howManyWith_3 rfl hl (by decide) rfl (fun ls hl => ?_)
  exact loop (z + 1) 0 _ ls (by omega) (Nat.zero_le _) rfl (lv_sub hl [0, 1, 2, 3] rfl)
set_option maxHeartbeats 4000000 in
set_option maxRecDepth 100000 in
/-- firstInside(x) -/
theorem c_X2_firstInside (l : Launch) (D : va_G) (cI cZ cJ : ClassId) (ql qs : Nat) (z : Nat) (hz : z ≤ 3432) (Sx : Nat → Int32) (x : Int32) : Met l yX2_firstInside wsX2_firstInside ({ frames := 0, cells := 0, slots := 0, locals := 0 } : Room) (va_Pc [.ref ql, .int x] (ro_ D [(cI, .int), (cZ, .boolean), (cJ, .long)] [(ql, .inr (3, [.ref qs, .int (nI z)])), (qs, .inl (cI, 3432, .inl Sx))])) (vp_Si (fun r => fi_is Sx z x r)) 0 0 (fun _ => False) := by
  refine Met.ofW (cc := cX2_firstInside) (maxL := 3) (ret := (some .int)) (by decide) rfl ?_
  intro p e s m args below meth c s₁ B hml hv
  obtain ⟨rfl, hP, hK⟩ := hv
  have hx := B.exec
  have hb := B.bytes
  have hr := B.returns
  have hts := atoms_spec (ws := wsX2_firstInside) B.pre
  have hown : s.vm.findClass RX2 = some m.cls := findClass_of_methodNamed B.named
  have hlocks := B.notSynchronized
  have iX2 : ∀ w ∈ u_ws RX2 TX2 2, w ∈ wsX2_firstInside := by decide +kernel
  have hl := lv_entry ([.ref ql, .int x]) (n := 3) (Nat.le_of_ble_eq_true rfl)
  rw [lg_entry_eq]
  generalize (lg_sl ([.ref ql, .int x]) ++ List.replicate (3 - (lg_sl ([.ref ql, .int x])).length) Slot.unset).toArray = ls at hl ⊢
  have hl : lv_has ls 3 [(0, .ref ql), (1, .int x)] := hl
  have loop : ∀ (d : Nat) (k : Nat) (ls : Array Slot), z < k + d → k ≤ z → (∀ j, j < k → ¬ Sx j &&& (x ^^^ (-1)) = 0) → lv_has ls 3 [(2, .int (nI k)), (0, .ref ql), (1, .int x)] → W p l e (headSpec wsX2_firstInside ({ frames := 0, cells := 0, slots := 0, locals := 0 } : Room)).room s m ([.ref ql, .int x] : List Value).toArray below meth c s.heap [] 0 0 (MQ below (vp_Si (fun r => fi_is Sx z x r)) ([.ref ql, .int x] : List Value).toArray s 0 0 (fun _ => False)) (F0 m 2 ls []) := by
    intro d
    induction d with
    | zero => intro k ls h1 h2; omega
    | succ d ih =>
      intro k ls h1 h2 hy hl
      refine lv_iload_n hx hb dX2_firstInside_2 rfl (lv_at hl 0 rfl) ?_
      refine lv_aload_n hx hb dX2_firstInside_3 rfl (lv_at hl 1 rfl) ?_
      refine va_get (D := D) (ci := 3) (v := .int (nI z)) (C := RX2) (T := TX2) (N := 2) hx hb hts iX2 hown hK hP 0 rfl rfl 1 (by decide) (hts (.fieldLink RX2 15 "LeastSets$SetList" "size" "I") (by decide +kernel)) (fun _ h9 => h9) rfl dX2_firstInside_4 ?_
      refine r_ige hx hb (tgt := 36) (by omega) (by omega) dX2_firstInside_7 (by decide) (fun c_7 => ?_) (fun c_7 => ?_)
      · refine lv_bipush (v := (-2)) hx hb dX2_firstInside_36 (by decide +kernel) ?_
        exact W.iret (v := (-2)) hx hb hr (fun t ht hW => ⟨(-2), rfl, by first | exact Or.inl ⟨k, c_7, rfl, c_20, hy⟩ | exact Or.inr ⟨rfl, fun j hj => hy j (by omega)⟩, ht⟩) (fun q h => by cases h) dX2_firstInside_38
      · refine lv_aload_n hx hb dX2_firstInside_10 rfl (lv_at hl 1 rfl) ?_
        refine va_get (D := D) (ci := 3) (v := .ref qs) (C := RX2) (T := TX2) (N := 2) hx hb hts iX2 hown hK hP 0 rfl rfl 0 (by decide) (hts (.fieldLink RX2 9 "LeastSets$SetList" "sets" "[I") (by decide +kernel)) (fun _ h9 => h9) rfl dX2_firstInside_11 ?_
        refine lv_iload_n hx hb dX2_firstInside_14 rfl (lv_at hl 0 rfl) ?_
        refine r_iald hx hb hK hP 1 0 rfl rfl k (by omega) (by omega) dX2_firstInside_15 ?_
        refine lv_iload_n hx hb dX2_firstInside_16 rfl (lv_at hl 2 rfl) ?_
        refine lv_iconst (v := (-1)) hx hb dX2_firstInside_17 (by decide +kernel) ?_
        refine lv_ixor hx hb dX2_firstInside_18 ?_
        refine lv_iand hx hb dX2_firstInside_19 ?_
        refine lv_if_ne (tgt := 30) hx hb dX2_firstInside_20 (by decide) (fun c_20 => ?_) (fun c_20 => ?_)
        · refine lv_iinc (v := (nI (k + 1))) (lv' := [(2, .int (nI (k + 1))), (0, .ref ql), (1, .int x)]) hx hb dX2_firstInside_30 hl (k := 0) rfl (nI_inc _) (by decide) rfl (fun ls hl => ?_)
          refine lv_goto (tgt := 2) hx hb dX2_firstInside_33 (by decide) ?_
          exact ih (k + 1) ls (by omega) (by omega) (lt_s hy c_20) (lv_sub hl [0, 1, 2] rfl)
        · refine lv_aload_n hx hb dX2_firstInside_23 rfl (lv_at hl 1 rfl) ?_
          refine va_get (D := D) (ci := 3) (v := .ref qs) (C := RX2) (T := TX2) (N := 2) hx hb hts iX2 hown hK hP 0 rfl rfl 0 (by decide) (hts (.fieldLink RX2 9 "LeastSets$SetList" "sets" "[I") (by decide +kernel)) (fun _ h9 => h9) rfl dX2_firstInside_24 ?_
          refine lv_iload_n hx hb dX2_firstInside_27 rfl (lv_at hl 0 rfl) ?_
          refine r_iald hx hb hK hP 1 0 rfl rfl k (by omega) (by omega) dX2_firstInside_28 ?_
          exact W.iret (v := (Sx k)) hx hb hr (fun t ht hW => ⟨(Sx k), rfl, by first | exact Or.inl ⟨k, c_7, rfl, c_20, hy⟩ | exact Or.inr ⟨rfl, fun j hj => hy j (by omega)⟩, ht⟩) (fun q h => by cases h) dX2_firstInside_29
  refine lv_iconst (v := (nI 0)) hx hb dX2_firstInside_0 (by decide +kernel) ?_
  refine lv_istore_n (lv' := [(2, .int (nI 0)), (0, .ref ql), (1, .int x)]) hx hb dX2_firstInside_1 rfl hl (by decide) rfl (fun ls hl => ?_)
  exact loop (z + 1) 0 ls (by omega) (Nat.zero_le _) lt_0 (lv_sub hl [0, 1, 2] rfl)
set_option maxHeartbeats 4000000 in
set_option maxRecDepth 100000 in
/-- sharedByAll() -/
theorem c_X2_sharedByAll (l : Launch) (D : va_G) (cI cZ cJ : ClassId) (ql qs : Nat) (z : Nat) (hz : z ≤ 3432) (Sx : Nat → Int32) : Met l yX2_sharedByAll wsX2_sharedByAll ({ frames := 0, cells := 0, slots := 0, locals := 0 } : Room) (va_Pc [.ref ql] (ro_ D [(cI, .int), (cZ, .boolean), (cJ, .long)] [(ql, .inr (3, [.ref qs, .int (nI z)])), (qs, .inl (cI, 3432, .inl Sx))])) (vp_Si (fun r => r = if z = 0 then -2 else sa_ Sx z)) 0 0 (fun _ => False) := by
  refine Met.ofW (cc := cX2_sharedByAll) (maxL := 3) (ret := (some .int)) (by decide) rfl ?_
  intro p e s m args below meth c s₁ B hml hv
  obtain ⟨rfl, hP, hK⟩ := hv
  have hx := B.exec
  have hb := B.bytes
  have hr := B.returns
  have hts := atoms_spec (ws := wsX2_sharedByAll) B.pre
  have hown : s.vm.findClass RX2 = some m.cls := findClass_of_methodNamed B.named
  have hlocks := B.notSynchronized
  have iX2 : ∀ w ∈ u_ws RX2 TX2 2, w ∈ wsX2_sharedByAll := by decide +kernel
  have hl := lv_entry ([.ref ql]) (n := 3) (Nat.le_of_ble_eq_true rfl)
  rw [lg_entry_eq]
  generalize (lg_sl ([.ref ql]) ++ List.replicate (3 - (lg_sl ([.ref ql])).length) Slot.unset).toArray = ls at hl ⊢
  have hl : lv_has ls 3 [(0, .ref ql)] := hl
  have loop : ∀ (d : Nat) (k : Nat) (y : Int32) (ls : Array Slot), z < k + d → k ≤ z → y = sa_ Sx k → z ≠ 0 → lv_has ls 3 [(2, .int (nI k)), (1, .int y), (0, .ref ql)] → W p l e (headSpec wsX2_sharedByAll ({ frames := 0, cells := 0, slots := 0, locals := 0 } : Room)).room s m ([.ref ql] : List Value).toArray below meth c s.heap [] 0 0 (MQ below (vp_Si (fun r => r = if z = 0 then -2 else sa_ Sx z)) ([.ref ql] : List Value).toArray s 0 0 (fun _ => False)) (F0 m 14 ls []) := by
    intro d
    induction d with
    | zero => intro k y ls h1 h2; omega
    | succ d ih =>
      intro k y ls h1 h2 hy hz0 hl
      refine lv_iload_n hx hb dX2_sharedByAll_14 rfl (lv_at hl 0 rfl) ?_
      refine lv_aload_n hx hb dX2_sharedByAll_15 rfl (lv_at hl 2 rfl) ?_
      refine va_get (D := D) (ci := 3) (v := .int (nI z)) (C := RX2) (T := TX2) (N := 2) hx hb hts iX2 hown hK hP 0 rfl rfl 1 (by decide) (hts (.fieldLink RX2 15 "LeastSets$SetList" "size" "I") (by decide +kernel)) (fun _ h9 => h9) rfl dX2_sharedByAll_16 ?_
      refine r_ige hx hb (tgt := 37) (by omega) (by omega) dX2_sharedByAll_19 (by decide) (fun c_19 => ?_) (fun c_19 => ?_)
      · refine lv_iload_n hx hb dX2_sharedByAll_37 rfl (lv_at hl 1 rfl) ?_
        exact W.iret (v := y) hx hb hr (fun t ht hW => ⟨y, rfl, (by rw [if_neg hz0, hy, show k = z by omega]), ht⟩) (fun q h => by cases h) dX2_sharedByAll_38
      · refine lv_iload_n hx hb dX2_sharedByAll_22 rfl (lv_at hl 1 rfl) ?_
        refine lv_aload_n hx hb dX2_sharedByAll_23 rfl (lv_at hl 2 rfl) ?_
        refine va_get (D := D) (ci := 3) (v := .ref qs) (C := RX2) (T := TX2) (N := 2) hx hb hts iX2 hown hK hP 0 rfl rfl 0 (by decide) (hts (.fieldLink RX2 9 "LeastSets$SetList" "sets" "[I") (by decide +kernel)) (fun _ h9 => h9) rfl dX2_sharedByAll_24 ?_
        refine lv_iload_n hx hb dX2_sharedByAll_27 rfl (lv_at hl 0 rfl) ?_
        refine r_iald hx hb hK hP 1 0 rfl rfl k (by omega) (by omega) dX2_sharedByAll_28 ?_
        refine lv_iand hx hb dX2_sharedByAll_29 ?_
        refine lv_istore_n (lv' := [(1, .int (y &&& (Sx k))), (2, .int (nI k)), (0, .ref ql)]) hx hb dX2_sharedByAll_30 rfl hl (by decide) rfl (fun ls hl => ?_)
        refine lv_iinc (v := (nI (k + 1))) (lv' := [(2, .int (nI (k + 1))), (1, .int (y &&& (Sx k))), (0, .ref ql)]) hx hb dX2_sharedByAll_31 hl (k := 1) rfl (nI_inc _) (by decide) rfl (fun ls hl => ?_)
        refine lv_goto (tgt := 14) hx hb dX2_sharedByAll_34 (by decide) ?_
        exact ih (k + 1) _ ls (by omega) (by omega) (by rw [hy]; rfl) hz0 (lv_sub hl [0, 1, 2] rfl)
  refine lv_aload_n hx hb dX2_sharedByAll_0 rfl (lv_at hl 0 rfl) ?_
  refine va_get (D := D) (ci := 3) (v := .int (nI z)) (C := RX2) (T := TX2) (N := 2) hx hb hts iX2 hown hK hP 0 rfl rfl 1 (by decide) (hts (.fieldLink RX2 15 "LeastSets$SetList" "size" "I") (by decide +kernel)) (fun _ h9 => h9) rfl dX2_sharedByAll_1 ?_
  refine lv_if_ne (tgt := 10) hx hb dX2_sharedByAll_4 (by decide) (fun c_4 => ?_) (fun c_4 => ?_)
  · refine lv_iconst (v := (-1)) hx hb dX2_sharedByAll_10 (by decide +kernel) ?_
    refine lv_istore_n (lv' := [(1, .int (-1)), (0, .ref ql)]) hx hb dX2_sharedByAll_11 rfl hl (by decide) rfl (fun ls hl => ?_)
    refine lv_iconst (v := (nI 0)) hx hb dX2_sharedByAll_12 (by decide +kernel) ?_
    refine lv_istore_n (lv' := [(2, .int (nI 0)), (1, .int (-1)), (0, .ref ql)]) hx hb dX2_sharedByAll_13 rfl hl (by decide) rfl (fun ls hl => ?_)
    exact loop (z + 1) 0 _ ls (by omega) (Nat.zero_le _) rfl (fun q => c_4 (by rw [q]; rfl)) (lv_sub hl [0, 1, 2] rfl)
  · refine lv_bipush (v := (-2)) hx hb dX2_sharedByAll_7 (by decide +kernel) ?_
    exact W.iret (v := (-2)) hx hb hr (fun t ht hW => ⟨(-2), rfl, (by rw [if_pos ((nI_eq (b := 0) (by omega) (by omega)).mp c_4)]), ht⟩) (fun q h => by cases h) dX2_sharedByAll_9
set_option maxHeartbeats 4000000 in
set_option maxRecDepth 100000 in
/-- clear() -/
theorem c_X2_clear (l : Launch) (D : va_G) (cI cZ cJ : ClassId) (t1 t2 sz : Nat) (ql qs : Nat) (z : Nat) : Met l yX2_clear wsX2_clear ({ frames := 0, cells := 0, slots := 0, locals := 0 } : Room) (va_Pc [.ref ql] (wr_ D [(cI, .int), (cZ, .boolean), (cJ, .long)] [(ql, .inr (3, [.ref qs, .int (nI z)]))] t1 t2 sz)) (va_Qv (S := Unit) (fun _ => True) (fun _ => wd_ D [(cI, .int), (cZ, .boolean), (cJ, .long)] (va_A [(ql, .inr (3, [.ref qs, .int (nI z)]))] sz) [(ql, .inr (3, [.ref qs, .int (nI 0)]))]) (va_A [(ql, .inr (3, [.ref qs, .int (nI z)]))] sz)) 0 0 (va_A [(ql, .inr (3, [.ref qs, .int (nI z)]))] sz) := by
  refine Met.ofW (cc := cX2_clear) (maxL := 1) (ret := none) (by decide) rfl ?_
  intro p e s m args below meth c s₁ B hml hv
  obtain ⟨rfl, hsz, hP, hK, hD0, hE⟩ := hv
  have hx := B.exec
  have hb := B.bytes
  have hr := B.returns
  have hts := atoms_spec (ws := wsX2_clear) B.pre
  have hown : s.vm.findClass RX2 = some m.cls := findClass_of_methodNamed B.named
  have hlocks := B.notSynchronized
  have iX2 : ∀ w ∈ u_ws RX2 TX2 2, w ∈ wsX2_clear := by decide +kernel
  subst hsz
  have hD := hD0.self (sz := s.heap.size)
  generalize hAe : va_A [(ql, .inr (3, [.ref qs, .int (nI z)]))] s.heap.size = A at hD hE ⊢
  have hA : ∀ q : Nat, s.heap.size ≤ q → A q := fun q h => by rw [← hAe]; exact Or.inr h
  have hS : va_S A s.heap s.heap [] := va_S.rf
  have hl := lv_entry ([.ref ql]) (n := 1) (Nat.le_of_ble_eq_true rfl)
  rw [lg_entry_eq]
  generalize (lg_sl ([.ref ql]) ++ List.replicate (1 - (lg_sl ([.ref ql])).length) Slot.unset).toArray = ls at hl ⊢
  have hl : lv_has ls 1 [(0, .ref ql)] := hl
  refine lv_aload_n hx hb dX2_clear_0 rfl (lv_at hl 0 rfl) ?_
  refine lv_iconst (v := (nI 0)) hx hb dX2_clear_1 (by decide +kernel) ?_
  refine va_put (D := D) (ci := 3) (v := .int (nI 0)) (ty := .int) (C := RX2) (T := TX2) (N := 2) hx hb hts iX2 tyX2 tyX2_ok nmX2 hown hK hP hD hS 0 rfl rfl 1 (by decide) (hts (.fieldLink RX2 15 "LeastSets$SetList" "size" "I") (by decide +kernel)) (fun _ h9 => h9) rfl (by decide +kernel) rfl rfl (Nat.le_of_ble_eq_true rfl) dX2_clear_2 (fun H locs hP hD hS => ?_)
  have hP : va_P D vwCl [(ql, .inr (3, [.ref qs, .int (nI 0)]))] H := hP
  have hD : va_D A [(ql, .inr (3, [.ref qs, .int (nI 0)]))] := hD
  exact W.vret hx hb hr (fun t ht hW => ⟨⟨(), rfl, trivial, by rw [ht]; exact hP, va_K.moved hW.alike hK, hD⟩, hS.F ht⟩) hS.2.2 dX2_clear_5
set_option maxHeartbeats 4000000 in
set_option maxRecDepth 100000 in
/-- addAll(v, x) -/
theorem c_X2_addAll (l : Launch) (D : va_G) (cI cZ cJ : ClassId) (t1 t2 sz : Nat) (ql qs : Nat) (L : List Nat) (Sx : Nat → Int32) (hS0 : sx_ Sx L) (v : Nat) (hv : v < 256) (x : Int64) (hroom : (L ++ ml_ v x).length ≤ 3432) : Met l yX2_addAll wsX2_addAll ({ frames := 2, cells := 0, slots := 0, locals := 42 } : Room) (va_Pc [.ref ql, .int (nI v), .long x] (wr_ D [(cI, .int), (cZ, .boolean), (cJ, .long)] [(ql, .inr (3, [.ref qs, .int (nI (L).length)])), (qs, .inl (cI, 3432, .inl Sx))] t1 t2 sz)) (va_Qv (S := Nat → Int32) (fun u => sx_ u (L ++ ml_ v x)) (fun u => wd_ D [(cI, .int), (cZ, .boolean), (cJ, .long)] (va_A [(ql, .inr (3, [.ref qs, .int (nI (L).length)])), (qs, .inl (cI, 3432, .inl Sx))] sz) [(ql, .inr (3, [.ref qs, .int (nI (L ++ ml_ v x).length)])), (qs, .inl (cI, 3432, .inl u))]) (va_A [(ql, .inr (3, [.ref qs, .int (nI (L).length)])), (qs, .inl (cI, 3432, .inl Sx))] sz)) 0 0 (va_A [(ql, .inr (3, [.ref qs, .int (nI (L).length)])), (qs, .inl (cI, 3432, .inl Sx))] sz) := by
  refine Met.ofW (cc := cX2_addAll) (maxL := 8) (ret := none) (by decide) rfl ?_
  intro p e s m args below meth c s₁ B hml hv
  obtain ⟨rfl, hsz, hP, hK, hD0, hE⟩ := hv
  have hx := B.exec
  have hb := B.bytes
  have hr := B.returns
  have hts := atoms_spec (ws := wsX2_addAll) B.pre
  have hown : s.vm.findClass RX2 = some m.cls := findClass_of_methodNamed B.named
  have hlocks := B.notSynchronized
  have iX2 : ∀ w ∈ u_ws RX2 TX2 2, w ∈ wsX2_addAll := by decide +kernel
  subst hsz
  have hD := hD0.self (sz := s.heap.size)
  generalize hAe : va_A [(ql, .inr (3, [.ref qs, .int (nI (L).length)])), (qs, .inl (cI, 3432, .inl Sx))] s.heap.size = A at hD hE ⊢
  have hA : ∀ q : Nat, s.heap.size ≤ q → A q := fun q h => by rw [← hAe]; exact Or.inr h
  have hS : va_S A s.heap s.heap [] := va_S.rf
  have h64 := ol_64 x
  have hl := lv_entry ([.ref ql, .int (nI v), .long x]) (n := 8) (Nat.le_of_ble_eq_true rfl)
  rw [lg_entry_eq]
  generalize (lg_sl ([.ref ql, .int (nI v), .long x]) ++ List.replicate (8 - (lg_sl ([.ref ql, .int (nI v), .long x])).length) Slot.unset).toArray = ls at hl ⊢
  have hl : lv_has ls 8 [(0, .ref ql), (1, .int (nI v)), (2, .long x)] := hl
  have loop : ∀ (d : Nat) (k : Nat) (s4 : Int64) (Lk : List Nat) (Sx : Nat → Int32) (H : Heap) (locs : List Loc) (ls : Array Slot), (on_ (bl x) 0 64).length < k + d → k ≤ (on_ (bl x) 0 64).length → ad_is x k s4 → Lk = L ++ (ml_ v x).take k → sx_ Sx Lk → va_P D vwCl [(ql, .inr (3, [.ref qs, .int (nI (Lk).length)])), (qs, .inl (cI, 3432, .inl Sx))] H → va_D A [(ql, .inr (3, [.ref qs, .int (nI (Lk).length)])), (qs, .inl (cI, 3432, .inl Sx))] → va_S A s.heap H locs → lv_has ls 8 [(7, .int (nI k)), (4, .long s4), (6, .int (nI (on_ (bl x) 0 64).length)), (0, .ref ql), (1, .int (nI v)), (2, .long x)] → W p l e (headSpec wsX2_addAll ({ frames := 2, cells := 0, slots := 0, locals := 42 } : Room)).room s m ([.ref ql, .int (nI v), .long x] : List Value).toArray below meth c H locs 0 0 (MQ below (va_Qv (S := Nat → Int32) (fun u => sx_ u (L ++ ml_ v x)) (fun u => wd_ D [(cI, .int), (cZ, .boolean), (cJ, .long)] A [(ql, .inr (3, [.ref qs, .int (nI (L ++ ml_ v x).length)])), (qs, .inl (cI, 3432, .inl u))]) A) ([.ref ql, .int (nI v), .long x] : List Value).toArray s 0 0 A) (F0 m 12 ls []) := by
    intro d
    induction d with
    | zero => intro k s4 Lk Sx H locs ls h1 h2; omega
    | succ d ih =>
      intro k s4 Lk Sx H locs ls h1 h2 ha eL hX hP hD hS hl
      have hlen : Lk.length + ((on_ (bl x) 0 64).length - k) ≤ 3432 := by
        rw [eL, List.length_append, List.length_take, List.length_map]
        rw [List.length_append, List.length_map] at hroom
        omega
      refine lv_iload hx hb dX2_addAll_12 (lv_at hl 0 rfl) ?_
      refine lv_iload hx hb dX2_addAll_14 (lv_at hl 2 rfl) ?_
      refine r_ige hx hb (tgt := 73) (by omega) (by omega) dX2_addAll_16 (by decide) (fun c_16 => ?_) (fun c_16 => ?_)
      · have ek : Lk = L ++ ml_ v x := by rw [eL, List.take_of_length_le (by rw [List.length_map]; omega)]
        subst ek
        exact W.vret hx hb hr (fun t ht hW => ⟨⟨Sx, rfl, hX, by rw [ht]; exact hP, va_K.moved hW.alike hK, hD⟩, hS.F ht⟩) hS.2.2 dX2_addAll_73
      · refine lv_aload_n hx hb dX2_addAll_19 rfl (lv_at hl 3 rfl) ?_
        refine va_get (D := D) (ci := 3) (v := .int (nI (Lk).length)) (C := RX2) (T := TX2) (N := 2) hx hb hts iX2 hown hK hP 0 rfl rfl 1 (by decide) (hts (.fieldLink RX2 15 "LeastSets$SetList" "size" "I") (by decide +kernel)) (fun _ h9 => h9) rfl dX2_addAll_20 ?_
        refine lv_sipush (v := (nI 3432)) hx hb dX2_addAll_23 (by decide +kernel) ?_
        refine r_ige hx hb (tgt := 73) (by omega) (by omega) dX2_addAll_26 (by decide) (fun c_26 => ?_) (fun c_26 => ?_)
        · exact absurd c_26 (by omega)
        · refine lv_aload_n hx hb dX2_addAll_29 rfl (lv_at hl 3 rfl) ?_
          refine va_get (D := D) (ci := 3) (v := .ref qs) (C := RX2) (T := TX2) (N := 2) hx hb hts iX2 hown hK hP 0 rfl rfl 0 (by decide) (hts (.fieldLink RX2 9 "LeastSets$SetList" "sets" "[I") (by decide +kernel)) (fun _ h9 => h9) rfl dX2_addAll_30 ?_
          refine lv_aload_n hx hb dX2_addAll_33 rfl (lv_at hl 3 rfl) ?_
          refine va_get (D := D) (ci := 3) (v := .int (nI (Lk).length)) (C := RX2) (T := TX2) (N := 2) hx hb hts iX2 hown hK hP 0 rfl rfl 1 (by decide) (hts (.fieldLink RX2 15 "LeastSets$SetList" "size" "I") (by decide +kernel)) (fun _ h9 => h9) rfl dX2_addAll_34 ?_
          refine lv_iload_n hx hb dX2_addAll_37 rfl (lv_at hl 4 rfl) ?_
          refine lv_bipush (v := (nI 6)) hx hb dX2_addAll_38 (by decide +kernel) ?_
          refine lv_ishl hx hb dX2_addAll_40 ?_
          refine lv_lload hx hb dX2_addAll_41 (lv_at hl 1 rfl) ?_
          obtain ⟨p0, hp0, ep0, ha2, et⟩ := ad_step ha c_16
          refine vp_callSi (va_runSN (As := [.long s4]) (rest := [.int ((nI v) <<< ((nI 6) &&& 31)), .int (nI (Lk).length), .ref qs]) ⟨hx, hb, hml, hown, hts⟩ (c_X3_lowestPlace l s4) ⟨va_cnB (host := "LeastSets") 1 hts gX2_addAll_X3_lowestPlace_n25 rfl rfl rfl (hE.1 _ (List.mem_of_getElem? (i := 12) rfl)) (hts (.initialized RX3) (by decide +kernel)) (by decide +kernel) ⟨Nat.le_of_ble_eq_true rfl, Nat.le_of_ble_eq_true rfl⟩, hts (.static yX3_lowestPlace) (by decide +kernel), trivial⟩ ⟨no_blind, no_pre trivial⟩ rfl rfl hl.1 rfl (lv_room (Nat.le_of_ble_eq_true rfl)) dX2_addAll_43 ⟨Nat.le_of_ble_eq_true rfl, Nat.le_of_ble_eq_true rfl⟩).run (fun r_43 hr_43 => ?_)
          rw [ep0] at hr_43
          subst hr_43
          refine lv_iadd hx hb dX2_addAll_46 ?_
          refine r_top (y := nI (v * 64 + p0)) (by rw [shl6 v hv, nI_add]) ?_
          refine r_iast hx hb hK hP hD hS 1 0 rfl rfl ((Lk).length) (by omega) (by omega) dX2_addAll_47 (fun H locs hP hD hS => ?_)
          have hP : va_P D vwCl [(ql, .inr (3, [.ref qs, .int (nI (Lk).length)])), (qs, .inl (cI, 3432, .inl (upd Sx ((Lk).length) (nI (v * 64 + p0)))))] H := hP
          have hD : va_D A [(ql, .inr (3, [.ref qs, .int (nI (Lk).length)])), (qs, .inl (cI, 3432, .inl (upd Sx ((Lk).length) (nI (v * 64 + p0)))))] := hD
          refine lv_aload_n hx hb dX2_addAll_48 rfl (lv_at hl 3 rfl) ?_
          refine lv_dup hx hb dX2_addAll_49 rfl ?_
          refine va_get (D := D) (ci := 3) (v := .int (nI (Lk).length)) (C := RX2) (T := TX2) (N := 2) hx hb hts iX2 hown hK hP 0 rfl rfl 1 (by decide) (hts (.fieldLink RX2 15 "LeastSets$SetList" "size" "I") (by decide +kernel)) (fun _ h9 => h9) rfl dX2_addAll_50 ?_
          refine lv_iconst (v := (nI 1)) hx hb dX2_addAll_53 (by decide +kernel) ?_
          refine r_iadd hx hb dX2_addAll_54 ?_
          refine va_put (D := D) (ci := 3) (v := .int (nI ((Lk).length + 1))) (ty := .int) (C := RX2) (T := TX2) (N := 2) hx hb hts iX2 tyX2 tyX2_ok nmX2 hown hK hP hD hS 0 rfl rfl 1 (by decide) (hts (.fieldLink RX2 15 "LeastSets$SetList" "size" "I") (by decide +kernel)) (fun _ h9 => h9) rfl (by decide +kernel) rfl rfl (Nat.le_of_ble_eq_true rfl) dX2_addAll_55 (fun H locs hP hD hS => ?_)
          have hP : va_P D vwCl [(ql, .inr (3, [.ref qs, .int (nI ((Lk).length + 1))])), (qs, .inl (cI, 3432, .inl (upd Sx ((Lk).length) (nI (v * 64 + p0)))))] H := hP
          have hD : va_D A [(ql, .inr (3, [.ref qs, .int (nI ((Lk).length + 1))])), (qs, .inl (cI, 3432, .inl (upd Sx ((Lk).length) (nI (v * 64 + p0)))))] := hD
          refine lv_lload hx hb dX2_addAll_58 (lv_at hl 1 rfl) ?_
          refine lv_lload hx hb dX2_addAll_60 (lv_at hl 1 rfl) ?_
          refine lv_lconst (v := 1) hx hb dX2_addAll_62 (by decide +kernel) ?_
          refine lv_lsub hx hb dX2_addAll_63 ?_
          refine lv_land hx hb dX2_addAll_64 ?_
          refine lv_lstore (lv' := [(4, .long (s4 &&& (s4 - 1))), (7, .int (nI k)), (6, .int (nI (on_ (bl x) 0 64).length)), (0, .ref ql), (1, .int (nI v)), (2, .long x)]) hx hb dX2_addAll_65 hl (by decide) rfl (fun ls hl => ?_)
          refine lv_iinc (v := (nI (k + 1))) (lv' := [(7, .int (nI (k + 1))), (4, .long (s4 &&& (s4 - 1))), (6, .int (nI (on_ (bl x) 0 64).length)), (0, .ref ql), (1, .int (nI v)), (2, .long x)]) hx hb dX2_addAll_67 hl (k := 1) rfl (nI_inc _) (by decide) rfl (fun ls hl => ?_)
          refine lv_goto (tgt := 12) hx hb dX2_addAll_70 (by decide) ?_
          rw [show Lk.length + 1 = (Lk ++ [v * 64 + p0]).length by rw [List.length_append]; rfl] at hP hD
          exact ih (k + 1) _ (Lk ++ [v * 64 + p0]) _ H locs ls (by omega) (by omega) ha2 (by rw [et v, eL, List.append_assoc]) (sx_push hX _) hP hD hS (lv_sub hl [0, 1, 2, 3, 4, 5] rfl)
  refine lv_lload_n hx hb dX2_addAll_0 rfl (lv_at hl 2 rfl) ?_
  refine lv_lstore (lv' := [(4, .long x), (0, .ref ql), (1, .int (nI v)), (2, .long x)]) hx hb dX2_addAll_1 hl (by decide) rfl (fun ls hl => ?_)
  refine lv_lload_n hx hb dX2_addAll_3 rfl (lv_at hl 3 rfl) ?_
  refine vp_callSi (va_runS (As := [.long x]) (rest := []) ⟨hx, hb, hml, hown, hts⟩ (c_J13_bitCount_95d88 l x) (va_cwS 1 hts gX2_addAll_J13_bitCount_95d88 rfl rfl rfl (by decide +kernel) ⟨Nat.le_of_ble_eq_true rfl, Nat.le_of_ble_eq_true rfl⟩) ⟨no_blind, no_pre trivial⟩ rfl rfl hl.1 rfl (lv_room (Nat.le_of_ble_eq_true rfl)) dX2_addAll_4 ⟨Nat.le_of_ble_eq_true rfl, Nat.le_of_ble_eq_true rfl⟩).run (fun r_4 hr_4 => ?_)
  rw [lc_len] at hr_4
  subst hr_4
  refine lv_istore (lv' := [(6, .int (nI (on_ (bl x) 0 64).length)), (4, .long x), (0, .ref ql), (1, .int (nI v)), (2, .long x)]) hx hb dX2_addAll_7 hl (by decide) rfl (fun ls hl => ?_)
  refine lv_iconst (v := (nI 0)) hx hb dX2_addAll_9 (by decide +kernel) ?_
  refine lv_istore (lv' := [(7, .int (nI 0)), (6, .int (nI (on_ (bl x) 0 64).length)), (4, .long x), (0, .ref ql), (1, .int (nI v)), (2, .long x)]) hx hb dX2_addAll_10 hl (by decide) rfl (fun ls hl => ?_)
  exact loop ((on_ (bl x) 0 64).length + 1) 0 x L Sx s.heap [] ls (by omega) (Nat.zero_le _) rfl (by rw [List.take_zero, List.append_nil]) hS0 hP hD hS (lv_sub hl [0, 2, 1, 3, 4, 5] rfl)
