set_option maxHeartbeats 4000000 in
set_option maxRecDepth 100000 in
/-- X0_init -/
theorem c_X0_init (l : Launch) (D : va_G) (cI cZ cJ : ClassId) (t1 t2 sz : Nat) (qa : Nat) : Met l yX0_init wsX0_init ({ frames := 1, cells := 6, slots := 94, locals := 12 } : Room) (va_Pc [.ref qa] (wr_ D [(cI, .int), (cZ, .boolean), (cJ, .long)] [(qa, .inr (1, [.null, .null, .null, .null, .int 0, .null, .null]))] t1 t2 sz)) (va_Qv (S := Nat × Nat × Nat × Nat × Nat × Nat) (fun _ => True) (fun u => wd_ D [(cI, .int), (cZ, .boolean), (cJ, .long)] (va_A [(qa, .inr (1, [.null, .null, .null, .null, .int 0, .null, .null]))] sz) [(qa, .inr (1, [.ref u.1, .ref u.2.1, .ref u.2.2.1, .ref u.2.2.2.1, .int (nI 0), .ref u.2.2.2.2.1, .ref u.2.2.2.2.2])), (u.1, .inl (cI, 14, .inl (fun _ => 0))), (u.2.1, .inl (cI, 14, .inl (fun _ => 0))), (u.2.2.1, .inl (cI, 14, .inl (fun _ => 0))), (u.2.2.2.1, .inl (cZ, 14, .inl (fun _ => 0))), (u.2.2.2.2.1, .inl (cJ, 14, .inr (.inl (fun _ => 0)))), (u.2.2.2.2.2, .inl (cJ, 24, .inr (.inl (fun _ => 0))))]) (va_A [(qa, .inr (1, [.null, .null, .null, .null, .int 0, .null, .null]))] sz)) 6 94 (va_A [(qa, .inr (1, [.null, .null, .null, .null, .int 0, .null, .null]))] sz) := by
  refine Met.ofW (cc := cX0_init) (maxL := 1) (ret := none) (by decide) rfl ?_
  intro p e s m args below meth c s₁ B hml hv
  obtain ⟨rfl, hsz, hP, hK, hD0, hE⟩ := hv
  have hx := B.exec
  have hb := B.bytes
  have hr := B.returns
  have hts := atoms_spec (ws := wsX0_init) B.pre
  have hown : s.vm.findClass RX0 = some m.cls := findClass_of_methodNamed B.named
  have hlocks := B.notSynchronized
  have iX0 : ∀ w ∈ u_ws RX0 TX0 7, w ∈ wsX0_init := by decide +kernel
  subst hsz
  have hD := hD0.self (sz := s.heap.size)
  generalize hAe : va_A [(qa, .inr (1, [.null, .null, .null, .null, .int 0, .null, .null]))] s.heap.size = A at hD hE ⊢
  have hA : ∀ q : Nat, s.heap.size ≤ q → A q := fun q h => by rw [← hAe]; exact Or.inr h
  have hS : va_S A s.heap s.heap [] := va_S.rf
  have hin : meth.name = "<init>" := (name_of_methodNamed B.named B.method).1
  have hl := lv_entry ([.ref qa]) (n := 1) (Nat.le_of_ble_eq_true rfl)
  rw [lg_entry_eq]
  generalize (lg_sl ([.ref qa]) ++ List.replicate (1 - (lg_sl ([.ref qa])).length) Slot.unset).toArray = ls at hl ⊢
  have hl : lv_has ls 1 [(0, .ref qa)] := hl
  refine lv_aload_n hx hb dX0_init_0 rfl (lv_at hl 0 rfl) ?_
  refine W.objInit hx hb hown (hts (.methodLink RX0 3 objectInit) (by decide +kernel)) (hts (.instanceMethod objectInit) (by decide +kernel)) (hts (.code objectInit ⟨#[0xb1]⟩ 1 none) (List.mem_of_getElem? (i := 3) rfl)) rfl (by rw [hml]; exact hl.1) rfl dX0_init_1 (Nat.le_of_ble_eq_true rfl) (Nat.le_of_ble_eq_true rfl) ?_
  refine W.eq (g2 := F0 m 4 ls []) rfl ?_
  refine lv_aload_n hx hb dX0_init_4 rfl (lv_at hl 0 rfl) ?_
  refine lv_bipush (v := (nI 14)) hx hb dX0_init_5 (by decide +kernel) ?_
  refine va_newa (atype := .int) (n := nI 14) hx hb (hts (.arrayClass .int) (by decide +kernel)) (ty := .int) rfl hK hP hD hS hA (N' := 14) (a0 := (14, .inl (fun _ => 0))) (fun cA => (vp_cell_i cA 14 _).trans (congrArg (arrV cA 14) (funext fun _ => rfl))) (by decide +kernel) (by decide +kernel) (by decide +kernel) (Nat.le_of_ble_eq_true rfl) (Nat.le_of_ble_eq_true rfl) dX0_init_7 (fun qb cA H hK2 hP hD hS => ?_)
  obtain ⟨ecA, -⟩ := K_same hK2 0 rfl (by decide +kernel)
  rw [ecA] at hP hD
  clear hK2
  have hP : va_P D vwCl [(qa, .inr (1, [.null, .null, .null, .null, .int 0, .null, .null])), (qb, .inl (cI, 14, .inl (fun _ => 0)))] H := hP
  have hD : va_D A [(qa, .inr (1, [.null, .null, .null, .null, .int 0, .null, .null])), (qb, .inl (cI, 14, .inl (fun _ => 0)))] := hD
  refine va_putF (D := D) (ci := 1) (v := .ref qb) (ty := .array .int) (C := RX0) (T := TX0) (N := 7) hx hb hts iX0 tyX0 tyX0_ok nmX0 hown hK hP hD hS 0 rfl rfl 0 (by decide) (hts (.fieldLink RX0 9 "LeastSets$Axioms" "body" "[I") (by decide +kernel)) (fun _ h9 => h9) rfl hin rfl (by decide +kernel) rfl rfl (Nat.le_of_ble_eq_true rfl) dX0_init_9 (fun H locs hP hD hS => ?_)
  have hP : va_P D vwCl [(qa, .inr (1, [.ref qb, .null, .null, .null, .int 0, .null, .null])), (qb, .inl (cI, 14, .inl (fun _ => 0)))] H := hP
  have hD : va_D A [(qa, .inr (1, [.ref qb, .null, .null, .null, .int 0, .null, .null])), (qb, .inl (cI, 14, .inl (fun _ => 0)))] := hD
  refine lv_aload_n hx hb dX0_init_12 rfl (lv_at hl 0 rfl) ?_
  refine lv_bipush (v := (nI 14)) hx hb dX0_init_13 (by decide +kernel) ?_
  refine va_newa (atype := .int) (n := nI 14) hx hb (hts (.arrayClass .int) (by decide +kernel)) (ty := .int) rfl hK hP hD hS hA (N' := 14) (a0 := (14, .inl (fun _ => 0))) (fun cA => (vp_cell_i cA 14 _).trans (congrArg (arrV cA 14) (funext fun _ => rfl))) (by decide +kernel) (by decide +kernel) (by decide +kernel) (Nat.le_of_ble_eq_true rfl) (Nat.le_of_ble_eq_true rfl) dX0_init_15 (fun qh cA H hK2 hP hD hS => ?_)
  obtain ⟨ecA, -⟩ := K_same hK2 0 rfl (by decide +kernel)
  rw [ecA] at hP hD
  clear hK2
  have hP : va_P D vwCl [(qa, .inr (1, [.ref qb, .null, .null, .null, .int 0, .null, .null])), (qb, .inl (cI, 14, .inl (fun _ => 0))), (qh, .inl (cI, 14, .inl (fun _ => 0)))] H := hP
  have hD : va_D A [(qa, .inr (1, [.ref qb, .null, .null, .null, .int 0, .null, .null])), (qb, .inl (cI, 14, .inl (fun _ => 0))), (qh, .inl (cI, 14, .inl (fun _ => 0)))] := hD
  refine va_putF (D := D) (ci := 1) (v := .ref qh) (ty := .array .int) (C := RX0) (T := TX0) (N := 7) hx hb hts iX0 tyX0 tyX0_ok nmX0 hown hK hP hD hS 0 rfl rfl 1 (by decide) (hts (.fieldLink RX0 15 "LeastSets$Axioms" "head" "[I") (by decide +kernel)) (fun _ h9 => h9) rfl hin rfl (by decide +kernel) rfl rfl (Nat.le_of_ble_eq_true rfl) dX0_init_17 (fun H locs hP hD hS => ?_)
  have hP : va_P D vwCl [(qa, .inr (1, [.ref qb, .ref qh, .null, .null, .int 0, .null, .null])), (qb, .inl (cI, 14, .inl (fun _ => 0))), (qh, .inl (cI, 14, .inl (fun _ => 0)))] H := hP
  have hD : va_D A [(qa, .inr (1, [.ref qb, .ref qh, .null, .null, .int 0, .null, .null])), (qb, .inl (cI, 14, .inl (fun _ => 0))), (qh, .inl (cI, 14, .inl (fun _ => 0)))] := hD
  refine lv_aload_n hx hb dX0_init_20 rfl (lv_at hl 0 rfl) ?_
  refine lv_bipush (v := (nI 14)) hx hb dX0_init_21 (by decide +kernel) ?_
  refine va_newa (atype := .int) (n := nI 14) hx hb (hts (.arrayClass .int) (by decide +kernel)) (ty := .int) rfl hK hP hD hS hA (N' := 14) (a0 := (14, .inl (fun _ => 0))) (fun cA => (vp_cell_i cA 14 _).trans (congrArg (arrV cA 14) (funext fun _ => rfl))) (by decide +kernel) (by decide +kernel) (by decide +kernel) (Nat.le_of_ble_eq_true rfl) (Nat.le_of_ble_eq_true rfl) dX0_init_23 (fun qw cA H hK2 hP hD hS => ?_)
  obtain ⟨ecA, -⟩ := K_same hK2 0 rfl (by decide +kernel)
  rw [ecA] at hP hD
  clear hK2
  have hP : va_P D vwCl [(qa, .inr (1, [.ref qb, .ref qh, .null, .null, .int 0, .null, .null])), (qb, .inl (cI, 14, .inl (fun _ => 0))), (qh, .inl (cI, 14, .inl (fun _ => 0))), (qw, .inl (cI, 14, .inl (fun _ => 0)))] H := hP
  have hD : va_D A [(qa, .inr (1, [.ref qb, .ref qh, .null, .null, .int 0, .null, .null])), (qb, .inl (cI, 14, .inl (fun _ => 0))), (qh, .inl (cI, 14, .inl (fun _ => 0))), (qw, .inl (cI, 14, .inl (fun _ => 0)))] := hD
  refine va_putF (D := D) (ci := 1) (v := .ref qw) (ty := .array .int) (C := RX0) (T := TX0) (N := 7) hx hb hts iX0 tyX0 tyX0_ok nmX0 hown hK hP hD hS 0 rfl rfl 2 (by decide) (hts (.fieldLink RX0 18 "LeastSets$Axioms" "weight" "[I") (by decide +kernel)) (fun _ h9 => h9) rfl hin rfl (by decide +kernel) rfl rfl (Nat.le_of_ble_eq_true rfl) dX0_init_25 (fun H locs hP hD hS => ?_)
  have hP : va_P D vwCl [(qa, .inr (1, [.ref qb, .ref qh, .ref qw, .null, .int 0, .null, .null])), (qb, .inl (cI, 14, .inl (fun _ => 0))), (qh, .inl (cI, 14, .inl (fun _ => 0))), (qw, .inl (cI, 14, .inl (fun _ => 0)))] H := hP
  have hD : va_D A [(qa, .inr (1, [.ref qb, .ref qh, .ref qw, .null, .int 0, .null, .null])), (qb, .inl (cI, 14, .inl (fun _ => 0))), (qh, .inl (cI, 14, .inl (fun _ => 0))), (qw, .inl (cI, 14, .inl (fun _ => 0)))] := hD
  refine lv_aload_n hx hb dX0_init_28 rfl (lv_at hl 0 rfl) ?_
  refine lv_bipush (v := (nI 14)) hx hb dX0_init_29 (by decide +kernel) ?_
  refine va_newa (atype := .boolean) (n := nI 14) hx hb (hts (.arrayClass .boolean) (by decide +kernel)) (ty := .boolean) rfl hK hP hD hS hA (N' := 14) (a0 := (14, .inl (fun _ => 0))) (fun cA => (vp_cell_i cA 14 _).trans (congrArg (arrV cA 14) (funext fun _ => rfl))) (by decide +kernel) (by decide +kernel) (by decide +kernel) (Nat.le_of_ble_eq_true rfl) (Nat.le_of_ble_eq_true rfl) dX0_init_31 (fun qf cA H hK2 hP hD hS => ?_)
  obtain ⟨ecA, -⟩ := K_same hK2 1 rfl (by decide +kernel)
  rw [ecA] at hP hD
  clear hK2
  have hP : va_P D vwCl [(qa, .inr (1, [.ref qb, .ref qh, .ref qw, .null, .int 0, .null, .null])), (qb, .inl (cI, 14, .inl (fun _ => 0))), (qh, .inl (cI, 14, .inl (fun _ => 0))), (qw, .inl (cI, 14, .inl (fun _ => 0))), (qf, .inl (cZ, 14, .inl (fun _ => 0)))] H := hP
  have hD : va_D A [(qa, .inr (1, [.ref qb, .ref qh, .ref qw, .null, .int 0, .null, .null])), (qb, .inl (cI, 14, .inl (fun _ => 0))), (qh, .inl (cI, 14, .inl (fun _ => 0))), (qw, .inl (cI, 14, .inl (fun _ => 0))), (qf, .inl (cZ, 14, .inl (fun _ => 0)))] := hD
  refine va_putF (D := D) (ci := 1) (v := .ref qf) (ty := .array .boolean) (C := RX0) (T := TX0) (N := 7) hx hb hts iX0 tyX0 tyX0_ok nmX0 hown hK hP hD hS 0 rfl rfl 3 (by decide) (hts (.fieldLink RX0 21 "LeastSets$Axioms" "fixed" "[Z") (by decide +kernel)) (fun _ h9 => h9) rfl hin rfl (by decide +kernel) rfl rfl (Nat.le_of_ble_eq_true rfl) dX0_init_33 (fun H locs hP hD hS => ?_)
  have hP : va_P D vwCl [(qa, .inr (1, [.ref qb, .ref qh, .ref qw, .ref qf, .int 0, .null, .null])), (qb, .inl (cI, 14, .inl (fun _ => 0))), (qh, .inl (cI, 14, .inl (fun _ => 0))), (qw, .inl (cI, 14, .inl (fun _ => 0))), (qf, .inl (cZ, 14, .inl (fun _ => 0)))] H := hP
  have hD : va_D A [(qa, .inr (1, [.ref qb, .ref qh, .ref qw, .ref qf, .int 0, .null, .null])), (qb, .inl (cI, 14, .inl (fun _ => 0))), (qh, .inl (cI, 14, .inl (fun _ => 0))), (qw, .inl (cI, 14, .inl (fun _ => 0))), (qf, .inl (cZ, 14, .inl (fun _ => 0)))] := hD
  refine lv_aload_n hx hb dX0_init_36 rfl (lv_at hl 0 rfl) ?_
  refine lv_iconst (v := (nI 0)) hx hb dX0_init_37 (by decide +kernel) ?_
  refine va_put (D := D) (ci := 1) (v := .int (nI 0)) (ty := .int) (C := RX0) (T := TX0) (N := 7) hx hb hts iX0 tyX0 tyX0_ok nmX0 hown hK hP hD hS 0 rfl rfl 4 (by decide) (hts (.fieldLink RX0 25 "LeastSets$Axioms" "count" "I") (by decide +kernel)) (fun _ h9 => h9) rfl (by decide +kernel) rfl rfl (Nat.le_of_ble_eq_true rfl) dX0_init_38 (fun H locs hP hD hS => ?_)
  have hP : va_P D vwCl [(qa, .inr (1, [.ref qb, .ref qh, .ref qw, .ref qf, .int (nI 0), .null, .null])), (qb, .inl (cI, 14, .inl (fun _ => 0))), (qh, .inl (cI, 14, .inl (fun _ => 0))), (qw, .inl (cI, 14, .inl (fun _ => 0))), (qf, .inl (cZ, 14, .inl (fun _ => 0)))] H := hP
  have hD : va_D A [(qa, .inr (1, [.ref qb, .ref qh, .ref qw, .ref qf, .int (nI 0), .null, .null])), (qb, .inl (cI, 14, .inl (fun _ => 0))), (qh, .inl (cI, 14, .inl (fun _ => 0))), (qw, .inl (cI, 14, .inl (fun _ => 0))), (qf, .inl (cZ, 14, .inl (fun _ => 0)))] := hD
  refine lv_aload_n hx hb dX0_init_41 rfl (lv_at hl 0 rfl) ?_
  refine lv_bipush (v := (nI 14)) hx hb dX0_init_42 (by decide +kernel) ?_
  refine va_newa (atype := .long) (n := nI 14) hx hb (hts (.arrayClass .long) (by decide +kernel)) (ty := .long) rfl hK hP hD hS hA (N' := 14) (a0 := (14, .inr (.inl (fun _ => 0)))) (fun cA => (vp_cell_l cA 14 _).trans (congrArg (arrV cA 14) (funext fun _ => rfl))) (by decide +kernel) (by decide +kernel) (by decide +kernel) (Nat.le_of_ble_eq_true rfl) (Nat.le_of_ble_eq_true rfl) dX0_init_44 (fun qu cA H hK2 hP hD hS => ?_)
  obtain ⟨ecA, -⟩ := K_same hK2 2 rfl (by decide +kernel)
  rw [ecA] at hP hD
  clear hK2
  have hP : va_P D vwCl [(qa, .inr (1, [.ref qb, .ref qh, .ref qw, .ref qf, .int (nI 0), .null, .null])), (qb, .inl (cI, 14, .inl (fun _ => 0))), (qh, .inl (cI, 14, .inl (fun _ => 0))), (qw, .inl (cI, 14, .inl (fun _ => 0))), (qf, .inl (cZ, 14, .inl (fun _ => 0))), (qu, .inl (cJ, 14, .inr (.inl (fun _ => 0))))] H := hP
  have hD : va_D A [(qa, .inr (1, [.ref qb, .ref qh, .ref qw, .ref qf, .int (nI 0), .null, .null])), (qb, .inl (cI, 14, .inl (fun _ => 0))), (qh, .inl (cI, 14, .inl (fun _ => 0))), (qw, .inl (cI, 14, .inl (fun _ => 0))), (qf, .inl (cZ, 14, .inl (fun _ => 0))), (qu, .inl (cJ, 14, .inr (.inl (fun _ => 0))))] := hD
  refine va_putF (D := D) (ci := 1) (v := .ref qu) (ty := .array .long) (C := RX0) (T := TX0) (N := 7) hx hb hts iX0 tyX0 tyX0_ok nmX0 hown hK hP hD hS 0 rfl rfl 5 (by decide) (hts (.fieldLink RX0 29 "LeastSets$Axioms" "usedBy" "[J") (by decide +kernel)) (fun _ h9 => h9) rfl hin rfl (by decide +kernel) rfl rfl (Nat.le_of_ble_eq_true rfl) dX0_init_46 (fun H locs hP hD hS => ?_)
  have hP : va_P D vwCl [(qa, .inr (1, [.ref qb, .ref qh, .ref qw, .ref qf, .int (nI 0), .ref qu, .null])), (qb, .inl (cI, 14, .inl (fun _ => 0))), (qh, .inl (cI, 14, .inl (fun _ => 0))), (qw, .inl (cI, 14, .inl (fun _ => 0))), (qf, .inl (cZ, 14, .inl (fun _ => 0))), (qu, .inl (cJ, 14, .inr (.inl (fun _ => 0))))] H := hP
  have hD : va_D A [(qa, .inr (1, [.ref qb, .ref qh, .ref qw, .ref qf, .int (nI 0), .ref qu, .null])), (qb, .inl (cI, 14, .inl (fun _ => 0))), (qh, .inl (cI, 14, .inl (fun _ => 0))), (qw, .inl (cI, 14, .inl (fun _ => 0))), (qf, .inl (cZ, 14, .inl (fun _ => 0))), (qu, .inl (cJ, 14, .inr (.inl (fun _ => 0))))] := hD
  refine lv_aload_n hx hb dX0_init_49 rfl (lv_at hl 0 rfl) ?_
  refine lv_bipush (v := (nI 24)) hx hb dX0_init_50 (by decide +kernel) ?_
  refine va_newa (atype := .long) (n := nI 24) hx hb (hts (.arrayClass .long) (by decide +kernel)) (ty := .long) rfl hK hP hD hS hA (N' := 24) (a0 := (24, .inr (.inl (fun _ => 0)))) (fun cA => (vp_cell_l cA 24 _).trans (congrArg (arrV cA 24) (funext fun _ => rfl))) (by decide +kernel) (by decide +kernel) (by decide +kernel) (Nat.le_of_ble_eq_true rfl) (Nat.le_of_ble_eq_true rfl) dX0_init_52 (fun qg cA H hK2 hP hD hS => ?_)
  obtain ⟨ecA, -⟩ := K_same hK2 2 rfl (by decide +kernel)
  rw [ecA] at hP hD
  clear hK2
  have hP : va_P D vwCl [(qa, .inr (1, [.ref qb, .ref qh, .ref qw, .ref qf, .int (nI 0), .ref qu, .null])), (qb, .inl (cI, 14, .inl (fun _ => 0))), (qh, .inl (cI, 14, .inl (fun _ => 0))), (qw, .inl (cI, 14, .inl (fun _ => 0))), (qf, .inl (cZ, 14, .inl (fun _ => 0))), (qu, .inl (cJ, 14, .inr (.inl (fun _ => 0)))), (qg, .inl (cJ, 24, .inr (.inl (fun _ => 0))))] H := hP
  have hD : va_D A [(qa, .inr (1, [.ref qb, .ref qh, .ref qw, .ref qf, .int (nI 0), .ref qu, .null])), (qb, .inl (cI, 14, .inl (fun _ => 0))), (qh, .inl (cI, 14, .inl (fun _ => 0))), (qw, .inl (cI, 14, .inl (fun _ => 0))), (qf, .inl (cZ, 14, .inl (fun _ => 0))), (qu, .inl (cJ, 14, .inr (.inl (fun _ => 0)))), (qg, .inl (cJ, 24, .inr (.inl (fun _ => 0))))] := hD
  refine va_putF (D := D) (ci := 1) (v := .ref qg) (ty := .array .long) (C := RX0) (T := TX0) (N := 7) hx hb hts iX0 tyX0 tyX0_ok nmX0 hown hK hP hD hS 0 rfl rfl 6 (by decide) (hts (.fieldLink RX0 33 "LeastSets$Axioms" "givenBy" "[J") (by decide +kernel)) (fun _ h9 => h9) rfl hin rfl (by decide +kernel) rfl rfl (Nat.le_of_ble_eq_true rfl) dX0_init_54 (fun H locs hP hD hS => ?_)
  have hP : va_P D vwCl [(qa, .inr (1, [.ref qb, .ref qh, .ref qw, .ref qf, .int (nI 0), .ref qu, .ref qg])), (qb, .inl (cI, 14, .inl (fun _ => 0))), (qh, .inl (cI, 14, .inl (fun _ => 0))), (qw, .inl (cI, 14, .inl (fun _ => 0))), (qf, .inl (cZ, 14, .inl (fun _ => 0))), (qu, .inl (cJ, 14, .inr (.inl (fun _ => 0)))), (qg, .inl (cJ, 24, .inr (.inl (fun _ => 0))))] H := hP
  have hD : va_D A [(qa, .inr (1, [.ref qb, .ref qh, .ref qw, .ref qf, .int (nI 0), .ref qu, .ref qg])), (qb, .inl (cI, 14, .inl (fun _ => 0))), (qh, .inl (cI, 14, .inl (fun _ => 0))), (qw, .inl (cI, 14, .inl (fun _ => 0))), (qf, .inl (cZ, 14, .inl (fun _ => 0))), (qu, .inl (cJ, 14, .inr (.inl (fun _ => 0)))), (qg, .inl (cJ, 24, .inr (.inl (fun _ => 0))))] := hD
  have hP : va_P D vwCl [(qa, .inr (1, [.ref qb, .ref qh, .ref qw, .ref qf, .int (nI 0), .ref qu, .ref qg])), (qb, .inl (cI, 14, .inl (fun _ => 0))), (qh, .inl (cI, 14, .inl (fun _ => 0))), (qw, .inl (cI, 14, .inl (fun _ => 0))), (qf, .inl (cZ, 14, .inl (fun _ => 0))), (qu, .inl (cJ, 14, .inr (.inl (fun _ => 0)))), (qg, .inl (cJ, 24, .inr (.inl (fun _ => 0))))] H := hP.sub [0, 1, 2, 3, 4, 5, 6] rfl
  have hD : va_D A [(qa, .inr (1, [.ref qb, .ref qh, .ref qw, .ref qf, .int (nI 0), .ref qu, .ref qg])), (qb, .inl (cI, 14, .inl (fun _ => 0))), (qh, .inl (cI, 14, .inl (fun _ => 0))), (qw, .inl (cI, 14, .inl (fun _ => 0))), (qf, .inl (cZ, 14, .inl (fun _ => 0))), (qu, .inl (cJ, 14, .inr (.inl (fun _ => 0)))), (qg, .inl (cJ, 24, .inr (.inl (fun _ => 0))))] := hD.sub [0, 1, 2, 3, 4, 5, 6] (by decide) rfl
  refine W.widen (k := 6) (n := 94) (Nat.le_of_ble_eq_true rfl) (Nat.le_of_ble_eq_true rfl) ?_
  exact W.vret hx hb hr (fun t ht hW => ⟨⟨(qb, qh, qw, qf, qu, qg), rfl, trivial, by rw [ht]; exact hP, va_K.moved hW.alike hK, hD⟩, hS.F ht⟩) hS.2.2 dX0_init_57
set_option maxHeartbeats 4000000 in
set_option maxRecDepth 100000 in
/-- X1_init -/
theorem c_X1_init (l : Launch) (D : va_G) (cI cZ cJ : ClassId) (t1 t2 sz : Nat) (qm : Nat) : Met l yX1_init wsX1_init ({ frames := 1, cells := 2, slots := 512, locals := 12 } : Room) (va_Pc [.ref qm] (wr_ D [(cI, .int), (cZ, .boolean), (cJ, .long)] [(qm, .inr (2, [.null, .null]))] t1 t2 sz)) (va_Qv (S := Nat × Nat) (fun _ => True) (fun u => wd_ D [(cI, .int), (cZ, .boolean), (cJ, .long)] (va_A [(qm, .inr (2, [.null, .null]))] sz) [(qm, .inr (2, [.ref u.1, .ref u.2])), (u.1, .inl (cJ, 256, .inr (.inl (fun _ => 0)))), (u.2, .inl (cJ, 256, .inr (.inl (fun _ => 0))))]) (va_A [(qm, .inr (2, [.null, .null]))] sz)) 2 512 (va_A [(qm, .inr (2, [.null, .null]))] sz) := by
  refine Met.ofW (cc := cX1_init) (maxL := 1) (ret := none) (by decide) rfl ?_
  intro p e s m args below meth c s₁ B hml hv
  obtain ⟨rfl, hsz, hP, hK, hD0, hE⟩ := hv
  have hx := B.exec
  have hb := B.bytes
  have hr := B.returns
  have hts := atoms_spec (ws := wsX1_init) B.pre
  have hown : s.vm.findClass RX1 = some m.cls := findClass_of_methodNamed B.named
  have hlocks := B.notSynchronized
  have iX1 : ∀ w ∈ u_ws RX1 TX1 2, w ∈ wsX1_init := by decide +kernel
  subst hsz
  have hD := hD0.self (sz := s.heap.size)
  generalize hAe : va_A [(qm, .inr (2, [.null, .null]))] s.heap.size = A at hD hE ⊢
  have hA : ∀ q : Nat, s.heap.size ≤ q → A q := fun q h => by rw [← hAe]; exact Or.inr h
  have hS : va_S A s.heap s.heap [] := va_S.rf
  have hin : meth.name = "<init>" := (name_of_methodNamed B.named B.method).1
  have hl := lv_entry ([.ref qm]) (n := 1) (Nat.le_of_ble_eq_true rfl)
  rw [lg_entry_eq]
  generalize (lg_sl ([.ref qm]) ++ List.replicate (1 - (lg_sl ([.ref qm])).length) Slot.unset).toArray = ls at hl ⊢
  have hl : lv_has ls 1 [(0, .ref qm)] := hl
  refine lv_aload_n hx hb dX1_init_0 rfl (lv_at hl 0 rfl) ?_
  refine W.objInit hx hb hown (hts (.methodLink RX1 3 objectInit) (by decide +kernel)) (hts (.instanceMethod objectInit) (by decide +kernel)) (hts (.code objectInit ⟨#[0xb1]⟩ 1 none) (List.mem_of_getElem? (i := 3) rfl)) rfl (by rw [hml]; exact hl.1) rfl dX1_init_1 (Nat.le_of_ble_eq_true rfl) (Nat.le_of_ble_eq_true rfl) ?_
  refine W.eq (g2 := F0 m 4 ls []) rfl ?_
  refine lv_aload_n hx hb dX1_init_4 rfl (lv_at hl 0 rfl) ?_
  refine lv_sipush (v := (nI 256)) hx hb dX1_init_5 (by decide +kernel) ?_
  refine va_newa (atype := .long) (n := nI 256) hx hb (hts (.arrayClass .long) (by decide +kernel)) (ty := .long) rfl hK hP hD hS hA (N' := 256) (a0 := (256, .inr (.inl (fun _ => 0)))) (fun cA => (vp_cell_l cA 256 _).trans (congrArg (arrV cA 256) (funext fun _ => rfl))) (by decide +kernel) (by decide +kernel) (by decide +kernel) (Nat.le_of_ble_eq_true rfl) (Nat.le_of_ble_eq_true rfl) dX1_init_8 (fun qn cA H hK2 hP hD hS => ?_)
  obtain ⟨ecA, -⟩ := K_same hK2 2 rfl (by decide +kernel)
  rw [ecA] at hP hD
  clear hK2
  have hP : va_P D vwCl [(qm, .inr (2, [.null, .null])), (qn, .inl (cJ, 256, .inr (.inl (fun _ => 0))))] H := hP
  have hD : va_D A [(qm, .inr (2, [.null, .null])), (qn, .inl (cJ, 256, .inr (.inl (fun _ => 0))))] := hD
  refine va_putF (D := D) (ci := 2) (v := .ref qn) (ty := .array .long) (C := RX1) (T := TX1) (N := 2) hx hb hts iX1 tyX1 tyX1_ok nmX1 hown hK hP hD hS 0 rfl rfl 0 (by decide) (hts (.fieldLink RX1 9 "LeastSets$Family" "members" "[J") (by decide +kernel)) (fun _ h9 => h9) rfl hin rfl (by decide +kernel) rfl rfl (Nat.le_of_ble_eq_true rfl) dX1_init_10 (fun H locs hP hD hS => ?_)
  have hP : va_P D vwCl [(qm, .inr (2, [.ref qn, .null])), (qn, .inl (cJ, 256, .inr (.inl (fun _ => 0))))] H := hP
  have hD : va_D A [(qm, .inr (2, [.ref qn, .null])), (qn, .inl (cJ, 256, .inr (.inl (fun _ => 0))))] := hD
  refine lv_aload_n hx hb dX1_init_13 rfl (lv_at hl 0 rfl) ?_
  refine lv_sipush (v := (nI 256)) hx hb dX1_init_14 (by decide +kernel) ?_
  refine va_newa (atype := .long) (n := nI 256) hx hb (hts (.arrayClass .long) (by decide +kernel)) (ty := .long) rfl hK hP hD hS hA (N' := 256) (a0 := (256, .inr (.inl (fun _ => 0)))) (fun cA => (vp_cell_l cA 256 _).trans (congrArg (arrV cA 256) (funext fun _ => rfl))) (by decide +kernel) (by decide +kernel) (by decide +kernel) (Nat.le_of_ble_eq_true rfl) (Nat.le_of_ble_eq_true rfl) dX1_init_17 (fun qo cA H hK2 hP hD hS => ?_)
  obtain ⟨ecA, -⟩ := K_same hK2 2 rfl (by decide +kernel)
  rw [ecA] at hP hD
  clear hK2
  have hP : va_P D vwCl [(qm, .inr (2, [.ref qn, .null])), (qn, .inl (cJ, 256, .inr (.inl (fun _ => 0)))), (qo, .inl (cJ, 256, .inr (.inl (fun _ => 0))))] H := hP
  have hD : va_D A [(qm, .inr (2, [.ref qn, .null])), (qn, .inl (cJ, 256, .inr (.inl (fun _ => 0)))), (qo, .inl (cJ, 256, .inr (.inl (fun _ => 0))))] := hD
  refine va_putF (D := D) (ci := 2) (v := .ref qo) (ty := .array .long) (C := RX1) (T := TX1) (N := 2) hx hb hts iX1 tyX1 tyX1_ok nmX1 hown hK hP hD hS 0 rfl rfl 1 (by decide) (hts (.fieldLink RX1 15 "LeastSets$Family" "least" "[J") (by decide +kernel)) (fun _ h9 => h9) rfl hin rfl (by decide +kernel) rfl rfl (Nat.le_of_ble_eq_true rfl) dX1_init_19 (fun H locs hP hD hS => ?_)
  have hP : va_P D vwCl [(qm, .inr (2, [.ref qn, .ref qo])), (qn, .inl (cJ, 256, .inr (.inl (fun _ => 0)))), (qo, .inl (cJ, 256, .inr (.inl (fun _ => 0))))] H := hP
  have hD : va_D A [(qm, .inr (2, [.ref qn, .ref qo])), (qn, .inl (cJ, 256, .inr (.inl (fun _ => 0)))), (qo, .inl (cJ, 256, .inr (.inl (fun _ => 0))))] := hD
  have hP : va_P D vwCl [(qm, .inr (2, [.ref qn, .ref qo])), (qn, .inl (cJ, 256, .inr (.inl (fun _ => 0)))), (qo, .inl (cJ, 256, .inr (.inl (fun _ => 0))))] H := hP.sub [0, 1, 2] rfl
  have hD : va_D A [(qm, .inr (2, [.ref qn, .ref qo])), (qn, .inl (cJ, 256, .inr (.inl (fun _ => 0)))), (qo, .inl (cJ, 256, .inr (.inl (fun _ => 0))))] := hD.sub [0, 1, 2] (by decide) rfl
  refine W.widen (k := 2) (n := 512) (Nat.le_of_ble_eq_true rfl) (Nat.le_of_ble_eq_true rfl) ?_
  exact W.vret hx hb hr (fun t ht hW => ⟨⟨(qn, qo), rfl, trivial, by rw [ht]; exact hP, va_K.moved hW.alike hK, hD⟩, hS.F ht⟩) hS.2.2 dX1_init_22
set_option maxHeartbeats 4000000 in
set_option maxRecDepth 100000 in
/-- X2_init -/
theorem c_X2_init (l : Launch) (D : va_G) (cI cZ cJ : ClassId) (t1 t2 sz : Nat) (ql : Nat) : Met l yX2_init wsX2_init ({ frames := 1, cells := 1, slots := 3432, locals := 12 } : Room) (va_Pc [.ref ql] (wr_ D [(cI, .int), (cZ, .boolean), (cJ, .long)] [(ql, .inr (3, [.null, .int 0]))] t1 t2 sz)) (va_Qv (S := Nat) (fun _ => True) (fun u => wd_ D [(cI, .int), (cZ, .boolean), (cJ, .long)] (va_A [(ql, .inr (3, [.null, .int 0]))] sz) [(ql, .inr (3, [.ref u, .int (nI 0)])), (u, .inl (cI, 3432, .inl (fun _ => 0)))]) (va_A [(ql, .inr (3, [.null, .int 0]))] sz)) 1 3432 (va_A [(ql, .inr (3, [.null, .int 0]))] sz) := by
  refine Met.ofW (cc := cX2_init) (maxL := 1) (ret := none) (by decide) rfl ?_
  intro p e s m args below meth c s₁ B hml hv
  obtain ⟨rfl, hsz, hP, hK, hD0, hE⟩ := hv
  have hx := B.exec
  have hb := B.bytes
  have hr := B.returns
  have hts := atoms_spec (ws := wsX2_init) B.pre
  have hown : s.vm.findClass RX2 = some m.cls := findClass_of_methodNamed B.named
  have hlocks := B.notSynchronized
  have iX2 : ∀ w ∈ u_ws RX2 TX2 2, w ∈ wsX2_init := by decide +kernel
  subst hsz
  have hD := hD0.self (sz := s.heap.size)
  generalize hAe : va_A [(ql, .inr (3, [.null, .int 0]))] s.heap.size = A at hD hE ⊢
  have hA : ∀ q : Nat, s.heap.size ≤ q → A q := fun q h => by rw [← hAe]; exact Or.inr h
  have hS : va_S A s.heap s.heap [] := va_S.rf
  have hin : meth.name = "<init>" := (name_of_methodNamed B.named B.method).1
  have hl := lv_entry ([.ref ql]) (n := 1) (Nat.le_of_ble_eq_true rfl)
  rw [lg_entry_eq]
  generalize (lg_sl ([.ref ql]) ++ List.replicate (1 - (lg_sl ([.ref ql])).length) Slot.unset).toArray = ls at hl ⊢
  have hl : lv_has ls 1 [(0, .ref ql)] := hl
  refine lv_aload_n hx hb dX2_init_0 rfl (lv_at hl 0 rfl) ?_
  refine W.objInit hx hb hown (hts (.methodLink RX2 3 objectInit) (by decide +kernel)) (hts (.instanceMethod objectInit) (by decide +kernel)) (hts (.code objectInit ⟨#[0xb1]⟩ 1 none) (List.mem_of_getElem? (i := 3) rfl)) rfl (by rw [hml]; exact hl.1) rfl dX2_init_1 (Nat.le_of_ble_eq_true rfl) (Nat.le_of_ble_eq_true rfl) ?_
  refine W.eq (g2 := F0 m 4 ls []) rfl ?_
  refine lv_aload_n hx hb dX2_init_4 rfl (lv_at hl 0 rfl) ?_
  refine lv_sipush (v := (nI 3432)) hx hb dX2_init_5 (by decide +kernel) ?_
  refine va_newa (atype := .int) (n := nI 3432) hx hb (hts (.arrayClass .int) (by decide +kernel)) (ty := .int) rfl hK hP hD hS hA (N' := 3432) (a0 := (3432, .inl (fun _ => 0))) (fun cA => (vp_cell_i cA 3432 _).trans (congrArg (arrV cA 3432) (funext fun _ => rfl))) (by decide +kernel) (by decide +kernel) (by decide +kernel) (Nat.le_of_ble_eq_true rfl) (Nat.le_of_ble_eq_true rfl) dX2_init_8 (fun qs cA H hK2 hP hD hS => ?_)
  obtain ⟨ecA, -⟩ := K_same hK2 0 rfl (by decide +kernel)
  rw [ecA] at hP hD
  clear hK2
  have hP : va_P D vwCl [(ql, .inr (3, [.null, .int 0])), (qs, .inl (cI, 3432, .inl (fun _ => 0)))] H := hP
  have hD : va_D A [(ql, .inr (3, [.null, .int 0])), (qs, .inl (cI, 3432, .inl (fun _ => 0)))] := hD
  refine va_putF (D := D) (ci := 3) (v := .ref qs) (ty := .array .int) (C := RX2) (T := TX2) (N := 2) hx hb hts iX2 tyX2 tyX2_ok nmX2 hown hK hP hD hS 0 rfl rfl 0 (by decide) (hts (.fieldLink RX2 9 "LeastSets$SetList" "sets" "[I") (by decide +kernel)) (fun _ h9 => h9) rfl hin rfl (by decide +kernel) rfl rfl (Nat.le_of_ble_eq_true rfl) dX2_init_10 (fun H locs hP hD hS => ?_)
  have hP : va_P D vwCl [(ql, .inr (3, [.ref qs, .int 0])), (qs, .inl (cI, 3432, .inl (fun _ => 0)))] H := hP
  have hD : va_D A [(ql, .inr (3, [.ref qs, .int 0])), (qs, .inl (cI, 3432, .inl (fun _ => 0)))] := hD
  refine lv_aload_n hx hb dX2_init_13 rfl (lv_at hl 0 rfl) ?_
  refine lv_iconst (v := (nI 0)) hx hb dX2_init_14 (by decide +kernel) ?_
  refine va_put (D := D) (ci := 3) (v := .int (nI 0)) (ty := .int) (C := RX2) (T := TX2) (N := 2) hx hb hts iX2 tyX2 tyX2_ok nmX2 hown hK hP hD hS 0 rfl rfl 1 (by decide) (hts (.fieldLink RX2 15 "LeastSets$SetList" "size" "I") (by decide +kernel)) (fun _ h9 => h9) rfl (by decide +kernel) rfl rfl (Nat.le_of_ble_eq_true rfl) dX2_init_15 (fun H locs hP hD hS => ?_)
  have hP : va_P D vwCl [(ql, .inr (3, [.ref qs, .int (nI 0)])), (qs, .inl (cI, 3432, .inl (fun _ => 0)))] H := hP
  have hD : va_D A [(ql, .inr (3, [.ref qs, .int (nI 0)])), (qs, .inl (cI, 3432, .inl (fun _ => 0)))] := hD
  have hP : va_P D vwCl [(ql, .inr (3, [.ref qs, .int (nI 0)])), (qs, .inl (cI, 3432, .inl (fun _ => 0)))] H := hP.sub [0, 1] rfl
  have hD : va_D A [(ql, .inr (3, [.ref qs, .int (nI 0)])), (qs, .inl (cI, 3432, .inl (fun _ => 0)))] := hD.sub [0, 1] (by decide) rfl
  refine W.widen (k := 1) (n := 3432) (Nat.le_of_ble_eq_true rfl) (Nat.le_of_ble_eq_true rfl) ?_
  exact W.vret hx hb hr (fun t ht hW => ⟨⟨(qs), rfl, trivial, by rw [ht]; exact hP, va_K.moved hW.alike hK, hD⟩, hS.F ht⟩) hS.2.2 dX2_init_18
set_option maxHeartbeats 4000000 in
set_option maxRecDepth 100000 in
/-- X4_init -/
theorem c_X4_init (l : Launch) (D : va_G) (cI cZ cJ : ClassId) (t1 t2 sz : Nat) (qy : Nat) : Met l yX4_init wsX4_init ({ frames := 1, cells := 7, slots := 24440, locals := 12 } : Room) (va_Pc [.ref qy] (wr_ D [(cI, .int), (cZ, .boolean), (cJ, .long)] [(qy, .inr (5, [.null, .null, .null, .null, .int 0, .int 0, .int 0, .null, .null, .int 0, .null, .int 0, .int 0, .int 0]))] t1 t2 sz)) (va_Qv (S := Nat × Nat × Nat × Nat × Nat × Nat × Nat) (fun _ => True) (fun u => wd_ D [(cI, .int), (cZ, .boolean), (cJ, .long)] (va_A [(qy, .inr (5, [.null, .null, .null, .null, .int 0, .int 0, .int 0, .null, .null, .int 0, .null, .int 0, .int 0, .int 0]))] sz) [(qy, .inr (5, [.ref u.1, .ref u.2.1, .ref u.2.2.1, .ref u.2.2.2.1, .int (nI 0), .int (nI 0), .int 0, .ref u.2.2.2.2.1, .ref u.2.2.2.2.2.1, .int (nI 0), .ref u.2.2.2.2.2.2, .int (nI 0), .int 0, .int 0])), (u.1, .inl (cI, 14, .inl (fun _ => 0))), (u.2.1, .inl (cI, 14, .inl (fun _ => 0))), (u.2.2.1, .inl (cI, 14, .inl (fun _ => 0))), (u.2.2.2.1, .inl (cZ, 14, .inl (fun _ => 0))), (u.2.2.2.2.1, .inl (cZ, 16384, .inl (fun _ => 0))), (u.2.2.2.2.2.1, .inl (cI, 4000, .inl (fun _ => 0))), (u.2.2.2.2.2.2, .inl (cI, 4000, .inl (fun _ => 0)))]) (va_A [(qy, .inr (5, [.null, .null, .null, .null, .int 0, .int 0, .int 0, .null, .null, .int 0, .null, .int 0, .int 0, .int 0]))] sz)) 7 24440 (va_A [(qy, .inr (5, [.null, .null, .null, .null, .int 0, .int 0, .int 0, .null, .null, .int 0, .null, .int 0, .int 0, .int 0]))] sz) := by
  refine Met.ofW (cc := cX4_init) (maxL := 1) (ret := none) (by decide) rfl ?_
  intro p e s m args below meth c s₁ B hml hv
  obtain ⟨rfl, hsz, hP, hK, hD0, hE⟩ := hv
  have hx := B.exec
  have hb := B.bytes
  have hr := B.returns
  have hts := atoms_spec (ws := wsX4_init) B.pre
  have hown : s.vm.findClass RX4 = some m.cls := findClass_of_methodNamed B.named
  have hlocks := B.notSynchronized
  have iX4 : ∀ w ∈ u_ws RX4 TX4 14, w ∈ wsX4_init := by decide +kernel
  subst hsz
  have hD := hD0.self (sz := s.heap.size)
  generalize hAe : va_A [(qy, .inr (5, [.null, .null, .null, .null, .int 0, .int 0, .int 0, .null, .null, .int 0, .null, .int 0, .int 0, .int 0]))] s.heap.size = A at hD hE ⊢
  have hA : ∀ q : Nat, s.heap.size ≤ q → A q := fun q h => by rw [← hAe]; exact Or.inr h
  have hS : va_S A s.heap s.heap [] := va_S.rf
  have hin : meth.name = "<init>" := (name_of_methodNamed B.named B.method).1
  have hl := lv_entry ([.ref qy]) (n := 1) (Nat.le_of_ble_eq_true rfl)
  rw [lg_entry_eq]
  generalize (lg_sl ([.ref qy]) ++ List.replicate (1 - (lg_sl ([.ref qy])).length) Slot.unset).toArray = ls at hl ⊢
  have hl : lv_has ls 1 [(0, .ref qy)] := hl
  refine lv_aload_n hx hb dX4_init_0 rfl (lv_at hl 0 rfl) ?_
  refine W.objInit hx hb hown (hts (.methodLink RX4 1 objectInit) (by decide +kernel)) (hts (.instanceMethod objectInit) (by decide +kernel)) (hts (.code objectInit ⟨#[0xb1]⟩ 1 none) (List.mem_of_getElem? (i := 3) rfl)) rfl (by rw [hml]; exact hl.1) rfl dX4_init_1 (Nat.le_of_ble_eq_true rfl) (Nat.le_of_ble_eq_true rfl) ?_
  refine W.eq (g2 := F0 m 4 ls []) rfl ?_
  refine lv_aload_n hx hb dX4_init_4 rfl (lv_at hl 0 rfl) ?_
  refine lv_bipush (v := (nI 14)) hx hb dX4_init_5 (by decide +kernel) ?_
  refine va_newa (atype := .int) (n := nI 14) hx hb (hts (.arrayClass .int) (by decide +kernel)) (ty := .int) rfl hK hP hD hS hA (N' := 14) (a0 := (14, .inl (fun _ => 0))) (fun cA => (vp_cell_i cA 14 _).trans (congrArg (arrV cA 14) (funext fun _ => rfl))) (by decide +kernel) (by decide +kernel) (by decide +kernel) (Nat.le_of_ble_eq_true rfl) (Nat.le_of_ble_eq_true rfl) dX4_init_7 (fun m1 cA H hK2 hP hD hS => ?_)
  obtain ⟨ecA, -⟩ := K_same hK2 0 rfl (by decide +kernel)
  rw [ecA] at hP hD
  clear hK2
  have hP : va_P D vwCl [(qy, .inr (5, [.null, .null, .null, .null, .int 0, .int 0, .int 0, .null, .null, .int 0, .null, .int 0, .int 0, .int 0])), (m1, .inl (cI, 14, .inl (fun _ => 0)))] H := hP
  have hD : va_D A [(qy, .inr (5, [.null, .null, .null, .null, .int 0, .int 0, .int 0, .null, .null, .int 0, .null, .int 0, .int 0, .int 0])), (m1, .inl (cI, 14, .inl (fun _ => 0)))] := hD
  refine va_putF (D := D) (ci := 5) (v := .ref m1) (ty := .array .int) (C := RX4) (T := TX4) (N := 14) hx hb hts iX4 tyX4 tyX4_ok nmX4 hown hK hP hD hS 0 rfl rfl 0 (by decide) (hts (.fieldLink RX4 7 "LeastSetsModel" "bodies" "[I") (by decide +kernel)) (fun _ h9 => h9) rfl hin rfl (by decide +kernel) rfl rfl (Nat.le_of_ble_eq_true rfl) dX4_init_9 (fun H locs hP hD hS => ?_)
  have hP : va_P D vwCl [(qy, .inr (5, [.ref m1, .null, .null, .null, .int 0, .int 0, .int 0, .null, .null, .int 0, .null, .int 0, .int 0, .int 0])), (m1, .inl (cI, 14, .inl (fun _ => 0)))] H := hP
  have hD : va_D A [(qy, .inr (5, [.ref m1, .null, .null, .null, .int 0, .int 0, .int 0, .null, .null, .int 0, .null, .int 0, .int 0, .int 0])), (m1, .inl (cI, 14, .inl (fun _ => 0)))] := hD
  refine lv_aload_n hx hb dX4_init_12 rfl (lv_at hl 0 rfl) ?_
  refine lv_bipush (v := (nI 14)) hx hb dX4_init_13 (by decide +kernel) ?_
  refine va_newa (atype := .int) (n := nI 14) hx hb (hts (.arrayClass .int) (by decide +kernel)) (ty := .int) rfl hK hP hD hS hA (N' := 14) (a0 := (14, .inl (fun _ => 0))) (fun cA => (vp_cell_i cA 14 _).trans (congrArg (arrV cA 14) (funext fun _ => rfl))) (by decide +kernel) (by decide +kernel) (by decide +kernel) (Nat.le_of_ble_eq_true rfl) (Nat.le_of_ble_eq_true rfl) dX4_init_15 (fun m2 cA H hK2 hP hD hS => ?_)
  obtain ⟨ecA, -⟩ := K_same hK2 0 rfl (by decide +kernel)
  rw [ecA] at hP hD
  clear hK2
  have hP : va_P D vwCl [(qy, .inr (5, [.ref m1, .null, .null, .null, .int 0, .int 0, .int 0, .null, .null, .int 0, .null, .int 0, .int 0, .int 0])), (m1, .inl (cI, 14, .inl (fun _ => 0))), (m2, .inl (cI, 14, .inl (fun _ => 0)))] H := hP
  have hD : va_D A [(qy, .inr (5, [.ref m1, .null, .null, .null, .int 0, .int 0, .int 0, .null, .null, .int 0, .null, .int 0, .int 0, .int 0])), (m1, .inl (cI, 14, .inl (fun _ => 0))), (m2, .inl (cI, 14, .inl (fun _ => 0)))] := hD
  refine va_putF (D := D) (ci := 5) (v := .ref m2) (ty := .array .int) (C := RX4) (T := TX4) (N := 14) hx hb hts iX4 tyX4 tyX4_ok nmX4 hown hK hP hD hS 0 rfl rfl 1 (by decide) (hts (.fieldLink RX4 13 "LeastSetsModel" "heads" "[I") (by decide +kernel)) (fun _ h9 => h9) rfl hin rfl (by decide +kernel) rfl rfl (Nat.le_of_ble_eq_true rfl) dX4_init_17 (fun H locs hP hD hS => ?_)
  have hP : va_P D vwCl [(qy, .inr (5, [.ref m1, .ref m2, .null, .null, .int 0, .int 0, .int 0, .null, .null, .int 0, .null, .int 0, .int 0, .int 0])), (m1, .inl (cI, 14, .inl (fun _ => 0))), (m2, .inl (cI, 14, .inl (fun _ => 0)))] H := hP
  have hD : va_D A [(qy, .inr (5, [.ref m1, .ref m2, .null, .null, .int 0, .int 0, .int 0, .null, .null, .int 0, .null, .int 0, .int 0, .int 0])), (m1, .inl (cI, 14, .inl (fun _ => 0))), (m2, .inl (cI, 14, .inl (fun _ => 0)))] := hD
  refine lv_aload_n hx hb dX4_init_20 rfl (lv_at hl 0 rfl) ?_
  refine lv_bipush (v := (nI 14)) hx hb dX4_init_21 (by decide +kernel) ?_
  refine va_newa (atype := .int) (n := nI 14) hx hb (hts (.arrayClass .int) (by decide +kernel)) (ty := .int) rfl hK hP hD hS hA (N' := 14) (a0 := (14, .inl (fun _ => 0))) (fun cA => (vp_cell_i cA 14 _).trans (congrArg (arrV cA 14) (funext fun _ => rfl))) (by decide +kernel) (by decide +kernel) (by decide +kernel) (Nat.le_of_ble_eq_true rfl) (Nat.le_of_ble_eq_true rfl) dX4_init_23 (fun m3 cA H hK2 hP hD hS => ?_)
  obtain ⟨ecA, -⟩ := K_same hK2 0 rfl (by decide +kernel)
  rw [ecA] at hP hD
  clear hK2
  have hP : va_P D vwCl [(qy, .inr (5, [.ref m1, .ref m2, .null, .null, .int 0, .int 0, .int 0, .null, .null, .int 0, .null, .int 0, .int 0, .int 0])), (m1, .inl (cI, 14, .inl (fun _ => 0))), (m2, .inl (cI, 14, .inl (fun _ => 0))), (m3, .inl (cI, 14, .inl (fun _ => 0)))] H := hP
  have hD : va_D A [(qy, .inr (5, [.ref m1, .ref m2, .null, .null, .int 0, .int 0, .int 0, .null, .null, .int 0, .null, .int 0, .int 0, .int 0])), (m1, .inl (cI, 14, .inl (fun _ => 0))), (m2, .inl (cI, 14, .inl (fun _ => 0))), (m3, .inl (cI, 14, .inl (fun _ => 0)))] := hD
  refine va_putF (D := D) (ci := 5) (v := .ref m3) (ty := .array .int) (C := RX4) (T := TX4) (N := 14) hx hb hts iX4 tyX4 tyX4_ok nmX4 hown hK hP hD hS 0 rfl rfl 2 (by decide) (hts (.fieldLink RX4 16 "LeastSetsModel" "weights" "[I") (by decide +kernel)) (fun _ h9 => h9) rfl hin rfl (by decide +kernel) rfl rfl (Nat.le_of_ble_eq_true rfl) dX4_init_25 (fun H locs hP hD hS => ?_)
  have hP : va_P D vwCl [(qy, .inr (5, [.ref m1, .ref m2, .ref m3, .null, .int 0, .int 0, .int 0, .null, .null, .int 0, .null, .int 0, .int 0, .int 0])), (m1, .inl (cI, 14, .inl (fun _ => 0))), (m2, .inl (cI, 14, .inl (fun _ => 0))), (m3, .inl (cI, 14, .inl (fun _ => 0)))] H := hP
  have hD : va_D A [(qy, .inr (5, [.ref m1, .ref m2, .ref m3, .null, .int 0, .int 0, .int 0, .null, .null, .int 0, .null, .int 0, .int 0, .int 0])), (m1, .inl (cI, 14, .inl (fun _ => 0))), (m2, .inl (cI, 14, .inl (fun _ => 0))), (m3, .inl (cI, 14, .inl (fun _ => 0)))] := hD
  refine lv_aload_n hx hb dX4_init_28 rfl (lv_at hl 0 rfl) ?_
  refine lv_bipush (v := (nI 14)) hx hb dX4_init_29 (by decide +kernel) ?_
  refine va_newa (atype := .boolean) (n := nI 14) hx hb (hts (.arrayClass .boolean) (by decide +kernel)) (ty := .boolean) rfl hK hP hD hS hA (N' := 14) (a0 := (14, .inl (fun _ => 0))) (fun cA => (vp_cell_i cA 14 _).trans (congrArg (arrV cA 14) (funext fun _ => rfl))) (by decide +kernel) (by decide +kernel) (by decide +kernel) (Nat.le_of_ble_eq_true rfl) (Nat.le_of_ble_eq_true rfl) dX4_init_31 (fun m4 cA H hK2 hP hD hS => ?_)
  obtain ⟨ecA, -⟩ := K_same hK2 1 rfl (by decide +kernel)
  rw [ecA] at hP hD
  clear hK2
  have hP : va_P D vwCl [(qy, .inr (5, [.ref m1, .ref m2, .ref m3, .null, .int 0, .int 0, .int 0, .null, .null, .int 0, .null, .int 0, .int 0, .int 0])), (m1, .inl (cI, 14, .inl (fun _ => 0))), (m2, .inl (cI, 14, .inl (fun _ => 0))), (m3, .inl (cI, 14, .inl (fun _ => 0))), (m4, .inl (cZ, 14, .inl (fun _ => 0)))] H := hP
  have hD : va_D A [(qy, .inr (5, [.ref m1, .ref m2, .ref m3, .null, .int 0, .int 0, .int 0, .null, .null, .int 0, .null, .int 0, .int 0, .int 0])), (m1, .inl (cI, 14, .inl (fun _ => 0))), (m2, .inl (cI, 14, .inl (fun _ => 0))), (m3, .inl (cI, 14, .inl (fun _ => 0))), (m4, .inl (cZ, 14, .inl (fun _ => 0)))] := hD
  refine va_putF (D := D) (ci := 5) (v := .ref m4) (ty := .array .boolean) (C := RX4) (T := TX4) (N := 14) hx hb hts iX4 tyX4 tyX4_ok nmX4 hown hK hP hD hS 0 rfl rfl 3 (by decide) (hts (.fieldLink RX4 19 "LeastSetsModel" "fixed" "[Z") (by decide +kernel)) (fun _ h9 => h9) rfl hin rfl (by decide +kernel) rfl rfl (Nat.le_of_ble_eq_true rfl) dX4_init_33 (fun H locs hP hD hS => ?_)
  have hP : va_P D vwCl [(qy, .inr (5, [.ref m1, .ref m2, .ref m3, .ref m4, .int 0, .int 0, .int 0, .null, .null, .int 0, .null, .int 0, .int 0, .int 0])), (m1, .inl (cI, 14, .inl (fun _ => 0))), (m2, .inl (cI, 14, .inl (fun _ => 0))), (m3, .inl (cI, 14, .inl (fun _ => 0))), (m4, .inl (cZ, 14, .inl (fun _ => 0)))] H := hP
  have hD : va_D A [(qy, .inr (5, [.ref m1, .ref m2, .ref m3, .ref m4, .int 0, .int 0, .int 0, .null, .null, .int 0, .null, .int 0, .int 0, .int 0])), (m1, .inl (cI, 14, .inl (fun _ => 0))), (m2, .inl (cI, 14, .inl (fun _ => 0))), (m3, .inl (cI, 14, .inl (fun _ => 0))), (m4, .inl (cZ, 14, .inl (fun _ => 0)))] := hD
  refine lv_aload_n hx hb dX4_init_36 rfl (lv_at hl 0 rfl) ?_
  refine lv_sipush (v := (nI 16384)) hx hb dX4_init_37 (by decide +kernel) ?_
  refine va_newa (atype := .boolean) (n := nI 16384) hx hb (hts (.arrayClass .boolean) (by decide +kernel)) (ty := .boolean) rfl hK hP hD hS hA (N' := 16384) (a0 := (16384, .inl (fun _ => 0))) (fun cA => (vp_cell_i cA 16384 _).trans (congrArg (arrV cA 16384) (funext fun _ => rfl))) (by decide +kernel) (by decide +kernel) (by decide +kernel) (Nat.le_of_ble_eq_true rfl) (Nat.le_of_ble_eq_true rfl) dX4_init_40 (fun m5 cA H hK2 hP hD hS => ?_)
  obtain ⟨ecA, -⟩ := K_same hK2 1 rfl (by decide +kernel)
  rw [ecA] at hP hD
  clear hK2
  have hP : va_P D vwCl [(qy, .inr (5, [.ref m1, .ref m2, .ref m3, .ref m4, .int 0, .int 0, .int 0, .null, .null, .int 0, .null, .int 0, .int 0, .int 0])), (m1, .inl (cI, 14, .inl (fun _ => 0))), (m2, .inl (cI, 14, .inl (fun _ => 0))), (m3, .inl (cI, 14, .inl (fun _ => 0))), (m4, .inl (cZ, 14, .inl (fun _ => 0))), (m5, .inl (cZ, 16384, .inl (fun _ => 0)))] H := hP
  have hD : va_D A [(qy, .inr (5, [.ref m1, .ref m2, .ref m3, .ref m4, .int 0, .int 0, .int 0, .null, .null, .int 0, .null, .int 0, .int 0, .int 0])), (m1, .inl (cI, 14, .inl (fun _ => 0))), (m2, .inl (cI, 14, .inl (fun _ => 0))), (m3, .inl (cI, 14, .inl (fun _ => 0))), (m4, .inl (cZ, 14, .inl (fun _ => 0))), (m5, .inl (cZ, 16384, .inl (fun _ => 0)))] := hD
  refine va_putF (D := D) (ci := 5) (v := .ref m5) (ty := .array .boolean) (C := RX4) (T := TX4) (N := 14) hx hb hts iX4 tyX4 tyX4_ok nmX4 hown hK hP hD hS 0 rfl rfl 7 (by decide) (hts (.fieldLink RX4 23 "LeastSetsModel" "gives" "[Z") (by decide +kernel)) (fun _ h9 => h9) rfl hin rfl (by decide +kernel) rfl rfl (Nat.le_of_ble_eq_true rfl) dX4_init_42 (fun H locs hP hD hS => ?_)
  have hP : va_P D vwCl [(qy, .inr (5, [.ref m1, .ref m2, .ref m3, .ref m4, .int 0, .int 0, .int 0, .ref m5, .null, .int 0, .null, .int 0, .int 0, .int 0])), (m1, .inl (cI, 14, .inl (fun _ => 0))), (m2, .inl (cI, 14, .inl (fun _ => 0))), (m3, .inl (cI, 14, .inl (fun _ => 0))), (m4, .inl (cZ, 14, .inl (fun _ => 0))), (m5, .inl (cZ, 16384, .inl (fun _ => 0)))] H := hP
  have hD : va_D A [(qy, .inr (5, [.ref m1, .ref m2, .ref m3, .ref m4, .int 0, .int 0, .int 0, .ref m5, .null, .int 0, .null, .int 0, .int 0, .int 0])), (m1, .inl (cI, 14, .inl (fun _ => 0))), (m2, .inl (cI, 14, .inl (fun _ => 0))), (m3, .inl (cI, 14, .inl (fun _ => 0))), (m4, .inl (cZ, 14, .inl (fun _ => 0))), (m5, .inl (cZ, 16384, .inl (fun _ => 0)))] := hD
  refine lv_aload_n hx hb dX4_init_45 rfl (lv_at hl 0 rfl) ?_
  refine lv_sipush (v := (nI 4000)) hx hb dX4_init_46 (by decide +kernel) ?_
  refine va_newa (atype := .int) (n := nI 4000) hx hb (hts (.arrayClass .int) (by decide +kernel)) (ty := .int) rfl hK hP hD hS hA (N' := 4000) (a0 := (4000, .inl (fun _ => 0))) (fun cA => (vp_cell_i cA 4000 _).trans (congrArg (arrV cA 4000) (funext fun _ => rfl))) (by decide +kernel) (by decide +kernel) (by decide +kernel) (Nat.le_of_ble_eq_true rfl) (Nat.le_of_ble_eq_true rfl) dX4_init_49 (fun m6 cA H hK2 hP hD hS => ?_)
  obtain ⟨ecA, -⟩ := K_same hK2 0 rfl (by decide +kernel)
  rw [ecA] at hP hD
  clear hK2
  have hP : va_P D vwCl [(qy, .inr (5, [.ref m1, .ref m2, .ref m3, .ref m4, .int 0, .int 0, .int 0, .ref m5, .null, .int 0, .null, .int 0, .int 0, .int 0])), (m1, .inl (cI, 14, .inl (fun _ => 0))), (m2, .inl (cI, 14, .inl (fun _ => 0))), (m3, .inl (cI, 14, .inl (fun _ => 0))), (m4, .inl (cZ, 14, .inl (fun _ => 0))), (m5, .inl (cZ, 16384, .inl (fun _ => 0))), (m6, .inl (cI, 4000, .inl (fun _ => 0)))] H := hP
  have hD : va_D A [(qy, .inr (5, [.ref m1, .ref m2, .ref m3, .ref m4, .int 0, .int 0, .int 0, .ref m5, .null, .int 0, .null, .int 0, .int 0, .int 0])), (m1, .inl (cI, 14, .inl (fun _ => 0))), (m2, .inl (cI, 14, .inl (fun _ => 0))), (m3, .inl (cI, 14, .inl (fun _ => 0))), (m4, .inl (cZ, 14, .inl (fun _ => 0))), (m5, .inl (cZ, 16384, .inl (fun _ => 0))), (m6, .inl (cI, 4000, .inl (fun _ => 0)))] := hD
  refine va_putF (D := D) (ci := 5) (v := .ref m6) (ty := .array .int) (C := RX4) (T := TX4) (N := 14) hx hb hts iX4 tyX4 tyX4_ok nmX4 hown hK hP hD hS 0 rfl rfl 8 (by decide) (hts (.fieldLink RX4 26 "LeastSetsModel" "causes" "[I") (by decide +kernel)) (fun _ h9 => h9) rfl hin rfl (by decide +kernel) rfl rfl (Nat.le_of_ble_eq_true rfl) dX4_init_51 (fun H locs hP hD hS => ?_)
  have hP : va_P D vwCl [(qy, .inr (5, [.ref m1, .ref m2, .ref m3, .ref m4, .int 0, .int 0, .int 0, .ref m5, .ref m6, .int 0, .null, .int 0, .int 0, .int 0])), (m1, .inl (cI, 14, .inl (fun _ => 0))), (m2, .inl (cI, 14, .inl (fun _ => 0))), (m3, .inl (cI, 14, .inl (fun _ => 0))), (m4, .inl (cZ, 14, .inl (fun _ => 0))), (m5, .inl (cZ, 16384, .inl (fun _ => 0))), (m6, .inl (cI, 4000, .inl (fun _ => 0)))] H := hP
  have hD : va_D A [(qy, .inr (5, [.ref m1, .ref m2, .ref m3, .ref m4, .int 0, .int 0, .int 0, .ref m5, .ref m6, .int 0, .null, .int 0, .int 0, .int 0])), (m1, .inl (cI, 14, .inl (fun _ => 0))), (m2, .inl (cI, 14, .inl (fun _ => 0))), (m3, .inl (cI, 14, .inl (fun _ => 0))), (m4, .inl (cZ, 14, .inl (fun _ => 0))), (m5, .inl (cZ, 16384, .inl (fun _ => 0))), (m6, .inl (cI, 4000, .inl (fun _ => 0)))] := hD
  refine lv_aload_n hx hb dX4_init_54 rfl (lv_at hl 0 rfl) ?_
  refine lv_sipush (v := (nI 4000)) hx hb dX4_init_55 (by decide +kernel) ?_
  refine va_newa (atype := .int) (n := nI 4000) hx hb (hts (.arrayClass .int) (by decide +kernel)) (ty := .int) rfl hK hP hD hS hA (N' := 4000) (a0 := (4000, .inl (fun _ => 0))) (fun cA => (vp_cell_i cA 4000 _).trans (congrArg (arrV cA 4000) (funext fun _ => rfl))) (by decide +kernel) (by decide +kernel) (by decide +kernel) (Nat.le_of_ble_eq_true rfl) (Nat.le_of_ble_eq_true rfl) dX4_init_58 (fun m7 cA H hK2 hP hD hS => ?_)
  obtain ⟨ecA, -⟩ := K_same hK2 0 rfl (by decide +kernel)
  rw [ecA] at hP hD
  clear hK2
  have hP : va_P D vwCl [(qy, .inr (5, [.ref m1, .ref m2, .ref m3, .ref m4, .int 0, .int 0, .int 0, .ref m5, .ref m6, .int 0, .null, .int 0, .int 0, .int 0])), (m1, .inl (cI, 14, .inl (fun _ => 0))), (m2, .inl (cI, 14, .inl (fun _ => 0))), (m3, .inl (cI, 14, .inl (fun _ => 0))), (m4, .inl (cZ, 14, .inl (fun _ => 0))), (m5, .inl (cZ, 16384, .inl (fun _ => 0))), (m6, .inl (cI, 4000, .inl (fun _ => 0))), (m7, .inl (cI, 4000, .inl (fun _ => 0)))] H := hP
  have hD : va_D A [(qy, .inr (5, [.ref m1, .ref m2, .ref m3, .ref m4, .int 0, .int 0, .int 0, .ref m5, .ref m6, .int 0, .null, .int 0, .int 0, .int 0])), (m1, .inl (cI, 14, .inl (fun _ => 0))), (m2, .inl (cI, 14, .inl (fun _ => 0))), (m3, .inl (cI, 14, .inl (fun _ => 0))), (m4, .inl (cZ, 14, .inl (fun _ => 0))), (m5, .inl (cZ, 16384, .inl (fun _ => 0))), (m6, .inl (cI, 4000, .inl (fun _ => 0))), (m7, .inl (cI, 4000, .inl (fun _ => 0)))] := hD
  refine va_putF (D := D) (ci := 5) (v := .ref m7) (ty := .array .int) (C := RX4) (T := TX4) (N := 14) hx hb hts iX4 tyX4 tyX4_ok nmX4 hown hK hP hD hS 0 rfl rfl 10 (by decide) (hts (.fieldLink RX4 29 "LeastSetsModel" "cures" "[I") (by decide +kernel)) (fun _ h9 => h9) rfl hin rfl (by decide +kernel) rfl rfl (Nat.le_of_ble_eq_true rfl) dX4_init_60 (fun H locs hP hD hS => ?_)
  have hP : va_P D vwCl [(qy, .inr (5, [.ref m1, .ref m2, .ref m3, .ref m4, .int 0, .int 0, .int 0, .ref m5, .ref m6, .int 0, .ref m7, .int 0, .int 0, .int 0])), (m1, .inl (cI, 14, .inl (fun _ => 0))), (m2, .inl (cI, 14, .inl (fun _ => 0))), (m3, .inl (cI, 14, .inl (fun _ => 0))), (m4, .inl (cZ, 14, .inl (fun _ => 0))), (m5, .inl (cZ, 16384, .inl (fun _ => 0))), (m6, .inl (cI, 4000, .inl (fun _ => 0))), (m7, .inl (cI, 4000, .inl (fun _ => 0)))] H := hP
  have hD : va_D A [(qy, .inr (5, [.ref m1, .ref m2, .ref m3, .ref m4, .int 0, .int 0, .int 0, .ref m5, .ref m6, .int 0, .ref m7, .int 0, .int 0, .int 0])), (m1, .inl (cI, 14, .inl (fun _ => 0))), (m2, .inl (cI, 14, .inl (fun _ => 0))), (m3, .inl (cI, 14, .inl (fun _ => 0))), (m4, .inl (cZ, 14, .inl (fun _ => 0))), (m5, .inl (cZ, 16384, .inl (fun _ => 0))), (m6, .inl (cI, 4000, .inl (fun _ => 0))), (m7, .inl (cI, 4000, .inl (fun _ => 0)))] := hD
  have hP : va_P D vwCl [(qy, .inr (5, [.ref m1, .ref m2, .ref m3, .ref m4, .int 0, .int 0, .int 0, .ref m5, .ref m6, .int 0, .ref m7, .int 0, .int 0, .int 0])), (m1, .inl (cI, 14, .inl (fun _ => 0))), (m2, .inl (cI, 14, .inl (fun _ => 0))), (m3, .inl (cI, 14, .inl (fun _ => 0))), (m4, .inl (cZ, 14, .inl (fun _ => 0))), (m5, .inl (cZ, 16384, .inl (fun _ => 0))), (m6, .inl (cI, 4000, .inl (fun _ => 0))), (m7, .inl (cI, 4000, .inl (fun _ => 0)))] H := hP.sub [0, 1, 2, 3, 4, 5, 6, 7] rfl
  have hD : va_D A [(qy, .inr (5, [.ref m1, .ref m2, .ref m3, .ref m4, .int 0, .int 0, .int 0, .ref m5, .ref m6, .int 0, .ref m7, .int 0, .int 0, .int 0])), (m1, .inl (cI, 14, .inl (fun _ => 0))), (m2, .inl (cI, 14, .inl (fun _ => 0))), (m3, .inl (cI, 14, .inl (fun _ => 0))), (m4, .inl (cZ, 14, .inl (fun _ => 0))), (m5, .inl (cZ, 16384, .inl (fun _ => 0))), (m6, .inl (cI, 4000, .inl (fun _ => 0))), (m7, .inl (cI, 4000, .inl (fun _ => 0)))] := hD.sub [0, 1, 2, 3, 4, 5, 6, 7] (by decide) rfl
  refine W.widen (k := 7) (n := 24440) (Nat.le_of_ble_eq_true rfl) (Nat.le_of_ble_eq_true rfl) ?_
  exact W.vret hx hb hr (fun t ht hW => ⟨⟨(m1, m2, m3, m4, m5, m6, m7), rfl, trivial, by rw [ht]; exact hP, va_K.moved hW.alike hK, hD⟩, hS.F ht⟩) hS.2.2 dX4_init_63
set_option maxHeartbeats 4000000 in
set_option maxRecDepth 100000 in
/-- X3_init -/
theorem c_X3_init (l : Launch) (D : va_G) (cI cZ cJ : ClassId) (t1 t2 sz : Nat) (qx : Nat) : Met l yX3_init wsX3_init ({ frames := 2, cells := 14, slots := 7483, locals := 32 } : Room) (va_Pc [.ref qx] (wr_ D [(cI, .int), (cZ, .boolean), (cJ, .long)] [(qx, .inr (4, [.null, .null, .null, .null, .int 0, .int 0, .int 0]))] t1 t2 sz)) (va_Qv (S := Nat × Nat × Nat × Nat × Nat × Nat × Nat × Nat × Nat × Nat × Nat × Nat × Nat × Nat) (fun _ => True) (fun u => wd_ D [(cI, .int), (cZ, .boolean), (cJ, .long)] (va_A [(qx, .inr (4, [.null, .null, .null, .null, .int 0, .int 0, .int 0]))] sz) [(qx, .inr (4, [.ref u.1, .ref u.2.2.2.2.2.2.2.1, .ref u.2.2.2.2.2.2.2.2.2.2.1, .ref u.2.2.2.2.2.2.2.2.2.2.2.2.1, .int (nI 0), .int 0, .int 0])), (u.1, .inr (1, [.ref u.2.1, .ref u.2.2.1, .ref u.2.2.2.1, .ref u.2.2.2.2.1, .int (nI 0), .ref u.2.2.2.2.2.1, .ref u.2.2.2.2.2.2.1])), (u.2.1, .inl (cI, 14, .inl (fun _ => 0))), (u.2.2.1, .inl (cI, 14, .inl (fun _ => 0))), (u.2.2.2.1, .inl (cI, 14, .inl (fun _ => 0))), (u.2.2.2.2.1, .inl (cZ, 14, .inl (fun _ => 0))), (u.2.2.2.2.2.1, .inl (cJ, 14, .inr (.inl (fun _ => 0)))), (u.2.2.2.2.2.2.1, .inl (cJ, 24, .inr (.inl (fun _ => 0)))), (u.2.2.2.2.2.2.2.1, .inr (2, [.ref u.2.2.2.2.2.2.2.2.1, .ref u.2.2.2.2.2.2.2.2.2.1])), (u.2.2.2.2.2.2.2.2.1, .inl (cJ, 256, .inr (.inl (fun _ => 0)))), (u.2.2.2.2.2.2.2.2.2.1, .inl (cJ, 256, .inr (.inl (fun _ => 0)))), (u.2.2.2.2.2.2.2.2.2.2.1, .inr (3, [.ref u.2.2.2.2.2.2.2.2.2.2.2.1, .int (nI 0)])), (u.2.2.2.2.2.2.2.2.2.2.2.1, .inl (cI, 3432, .inl (fun _ => 0))), (u.2.2.2.2.2.2.2.2.2.2.2.2.1, .inr (3, [.ref u.2.2.2.2.2.2.2.2.2.2.2.2.2, .int (nI 0)])), (u.2.2.2.2.2.2.2.2.2.2.2.2.2, .inl (cI, 3432, .inl (fun _ => 0)))]) (va_A [(qx, .inr (4, [.null, .null, .null, .null, .int 0, .int 0, .int 0]))] sz)) 14 7483 (va_A [(qx, .inr (4, [.null, .null, .null, .null, .int 0, .int 0, .int 0]))] sz) := by
  refine Met.ofW (cc := cX3_init) (maxL := 1) (ret := none) (by decide) rfl ?_
  intro p e s m args below meth c s₁ B hml hv
  obtain ⟨rfl, hsz, hP, hK, hD0, hE⟩ := hv
  have hx := B.exec
  have hb := B.bytes
  have hr := B.returns
  have hts := atoms_spec (ws := wsX3_init) B.pre
  have hown : s.vm.findClass RX3 = some m.cls := findClass_of_methodNamed B.named
  have hlocks := B.notSynchronized
  have iX3 : ∀ w ∈ u_ws RX3 TX3 7, w ∈ wsX3_init := by decide +kernel
  have iX0 : ∀ w ∈ u_ws RX0 TX0 7, w ∈ wsX3_init := by decide +kernel
  have iX1 : ∀ w ∈ u_ws RX1 TX1 2, w ∈ wsX3_init := by decide +kernel
  have iX2 : ∀ w ∈ u_ws RX2 TX2 2, w ∈ wsX3_init := by decide +kernel
  subst hsz
  have hD := hD0.self (sz := s.heap.size)
  generalize hAe : va_A [(qx, .inr (4, [.null, .null, .null, .null, .int 0, .int 0, .int 0]))] s.heap.size = A at hD hE ⊢
  have hA : ∀ q : Nat, s.heap.size ≤ q → A q := fun q h => by rw [← hAe]; exact Or.inr h
  have hS : va_S A s.heap s.heap [] := va_S.rf
  have hin : meth.name = "<init>" := (name_of_methodNamed B.named B.method).1
  have hl := lv_entry ([.ref qx]) (n := 1) (Nat.le_of_ble_eq_true rfl)
  rw [lg_entry_eq]
  generalize (lg_sl ([.ref qx]) ++ List.replicate (1 - (lg_sl ([.ref qx])).length) Slot.unset).toArray = ls at hl ⊢
  have hl : lv_has ls 1 [(0, .ref qx)] := hl
  refine lv_aload_n hx hb dX3_init_0 rfl (lv_at hl 0 rfl) ?_
  refine W.objInit hx hb hown (hts (.methodLink RX3 3 objectInit) (by decide +kernel)) (hts (.instanceMethod objectInit) (by decide +kernel)) (hts (.code objectInit ⟨#[0xb1]⟩ 1 none) (List.mem_of_getElem? (i := 3) rfl)) rfl (by rw [hml]; exact hl.1) rfl dX3_init_1 (Nat.le_of_ble_eq_true rfl) (Nat.le_of_ble_eq_true rfl) ?_
  refine W.eq (g2 := F0 m 4 ls []) rfl ?_
  refine lv_aload_n hx hb dX3_init_4 rfl (lv_at hl 0 rfl) ?_
  refine va_new (D := D) (ci := 1) (fs := [.null, .null, .null, .null, .int 0, .null, .null]) (C := RX0) (T := TX0) (N := 7) hx hb hts iX0 tyX0 tyX0_ok hown (hts (.classLink RX3 9 RX0) (by decide +kernel)) (hts (.instantiable RX0 7) (by decide +kernel)) (hts (.initialized RX0) (by decide +kernel)) hK hP hD hS hA rfl (by decide +kernel) (Nat.le_of_ble_eq_true rfl) (Nat.le_of_ble_eq_true rfl) dX3_init_5 (fun qa H hP hD hS => ?_)
  have hP : va_P D vwCl [(qx, .inr (4, [.null, .null, .null, .null, .int 0, .int 0, .int 0])), (qa, .inr (1, [.null, .null, .null, .null, .int 0, .null, .null]))] H := hP
  have hD : va_D A [(qx, .inr (4, [.null, .null, .null, .null, .int 0, .int 0, .int 0])), (qa, .inr (1, [.null, .null, .null, .null, .int 0, .null, .null]))] := hD
  refine lv_dup hx hb dX3_init_8 rfl ?_
  have hPc := hP.sub (ws' := [(qa, .inr (1, [.null, .null, .null, .null, .int 0, .null, .null]))]) [1] rfl
  have hDc := hD.sub (ws' := [(qa, .inr (1, [.null, .null, .null, .null, .int 0, .null, .null]))]) [1] (by decide) rfl
  have hFc := va_free (wc := [(qa, .inr (1, [.null, .null, .null, .null, .int 0, .null, .null]))]) hD hS hA [1] rfl
  refine va_callv (va_runIN (As := []) (rest := [.ref qa, .ref qx]) ⟨hx, hb, hml, hown, hts⟩ (c_X0_init l D cI cZ cJ t1 t2 _ qa) ⟨va_cnB (host := "LeastSets") 0 hts gX3_init_X0_init_n11 rfl rfl rfl (hE.1 _ (List.mem_of_getElem? (i := 8) rfl)) (hts (.initialized RX0) (by decide +kernel)) (by decide +kernel) ⟨Nat.le_of_ble_eq_true rfl, Nat.le_of_ble_eq_true rfl⟩, rfl, hts (.instanceMethod yX0_init) (by decide +kernel)⟩ ⟨wr_blind, wr_pre hPc hDc hK hE hS hFc [0, 1, 2] rfl⟩ rfl rfl hl.1 rfl (lv_room (Nat.le_of_ble_eq_true rfl)) dX3_init_9 ⟨Nat.le_of_ble_eq_true rfl, Nat.le_of_ble_eq_true rfl⟩) hS (fun q _ h => hFc q h) hFc (fun u_9 t H locs ht hvm hw_9 hB hz1 hk1 hS => ?_)
  obtain ⟨qb, qh, qw, qf, qu, qg⟩ := u_9
  obtain ⟨hP1, hK1, hD1⟩ := hB
  rw [ht] at hP1
  obtain ⟨hP, hD⟩ := va_join (wr := [(qx, .inr (4, [.null, .null, .null, .null, .int 0, .int 0, .int 0]))]) (w1 := [(qa, .inr (1, [.ref qb, .ref qh, .ref qw, .ref qf, .int (nI 0), .ref qu, .ref qg])), (qb, .inl (cI, 14, .inl (fun _ => 0))), (qh, .inl (cI, 14, .inl (fun _ => 0))), (qw, .inl (cI, 14, .inl (fun _ => 0))), (qf, .inl (cZ, 14, .inl (fun _ => 0))), (qu, .inl (cJ, 14, .inr (.inl (fun _ => 0)))), (qg, .inl (cJ, 24, .inr (.inl (fun _ => 0))))]) hP hD [1] [0] rfl rfl (by decide) (by decide) hk1 hFc hP1 hD1
  have hP : va_P D vwCl [(qx, .inr (4, [.null, .null, .null, .null, .int 0, .int 0, .int 0])), (qa, .inr (1, [.ref qb, .ref qh, .ref qw, .ref qf, .int (nI 0), .ref qu, .ref qg])), (qb, .inl (cI, 14, .inl (fun _ => 0))), (qh, .inl (cI, 14, .inl (fun _ => 0))), (qw, .inl (cI, 14, .inl (fun _ => 0))), (qf, .inl (cZ, 14, .inl (fun _ => 0))), (qu, .inl (cJ, 14, .inr (.inl (fun _ => 0)))), (qg, .inl (cJ, 24, .inr (.inl (fun _ => 0))))] H := hP.sub [0, 1, 2, 3, 4, 5, 6, 7] rfl
  have hD : va_D A [(qx, .inr (4, [.null, .null, .null, .null, .int 0, .int 0, .int 0])), (qa, .inr (1, [.ref qb, .ref qh, .ref qw, .ref qf, .int (nI 0), .ref qu, .ref qg])), (qb, .inl (cI, 14, .inl (fun _ => 0))), (qh, .inl (cI, 14, .inl (fun _ => 0))), (qw, .inl (cI, 14, .inl (fun _ => 0))), (qf, .inl (cZ, 14, .inl (fun _ => 0))), (qu, .inl (cJ, 14, .inr (.inl (fun _ => 0)))), (qg, .inl (cJ, 24, .inr (.inl (fun _ => 0))))] := hD.sub [0, 1, 2, 3, 4, 5, 6, 7] (by decide) rfl
  clear hPc hDc hFc hP1 hK1 hD1 hk1 hz1
  refine va_putF (D := D) (ci := 4) (v := .ref qa) (ty := .object "LeastSets$Axioms") (C := RX3) (T := TX3) (N := 7) hx hb hts iX3 tyX3 tyX3_ok nmX3 hown hK hP hD hS 0 rfl rfl 0 (by decide) (hts (.fieldLink RX3 12 "LeastSets" "rows" "LLeastSets$Axioms;") (by decide +kernel)) (fun _ h9 => h9) rfl hin rfl (by decide +kernel) rfl rfl (Nat.le_of_ble_eq_true rfl) dX3_init_12 (fun H locs hP hD hS => ?_)
  have hP : va_P D vwCl [(qx, .inr (4, [.ref qa, .null, .null, .null, .int 0, .int 0, .int 0])), (qa, .inr (1, [.ref qb, .ref qh, .ref qw, .ref qf, .int (nI 0), .ref qu, .ref qg])), (qb, .inl (cI, 14, .inl (fun _ => 0))), (qh, .inl (cI, 14, .inl (fun _ => 0))), (qw, .inl (cI, 14, .inl (fun _ => 0))), (qf, .inl (cZ, 14, .inl (fun _ => 0))), (qu, .inl (cJ, 14, .inr (.inl (fun _ => 0)))), (qg, .inl (cJ, 24, .inr (.inl (fun _ => 0))))] H := hP
  have hD : va_D A [(qx, .inr (4, [.ref qa, .null, .null, .null, .int 0, .int 0, .int 0])), (qa, .inr (1, [.ref qb, .ref qh, .ref qw, .ref qf, .int (nI 0), .ref qu, .ref qg])), (qb, .inl (cI, 14, .inl (fun _ => 0))), (qh, .inl (cI, 14, .inl (fun _ => 0))), (qw, .inl (cI, 14, .inl (fun _ => 0))), (qf, .inl (cZ, 14, .inl (fun _ => 0))), (qu, .inl (cJ, 14, .inr (.inl (fun _ => 0)))), (qg, .inl (cJ, 24, .inr (.inl (fun _ => 0))))] := hD
  refine lv_aload_n hx hb dX3_init_15 rfl (lv_at hl 0 rfl) ?_
  refine va_new (D := D) (ci := 2) (fs := [.null, .null]) (C := RX1) (T := TX1) (N := 2) hx hb hts iX1 tyX1 tyX1_ok hown (hts (.classLink RX3 16 RX1) (by decide +kernel)) (hts (.instantiable RX1 2) (by decide +kernel)) (hts (.initialized RX1) (by decide +kernel)) hK hP hD hS hA rfl (by decide +kernel) (Nat.le_of_ble_eq_true rfl) (Nat.le_of_ble_eq_true rfl) dX3_init_16 (fun qm H hP hD hS => ?_)
  have hP : va_P D vwCl [(qx, .inr (4, [.ref qa, .null, .null, .null, .int 0, .int 0, .int 0])), (qa, .inr (1, [.ref qb, .ref qh, .ref qw, .ref qf, .int (nI 0), .ref qu, .ref qg])), (qb, .inl (cI, 14, .inl (fun _ => 0))), (qh, .inl (cI, 14, .inl (fun _ => 0))), (qw, .inl (cI, 14, .inl (fun _ => 0))), (qf, .inl (cZ, 14, .inl (fun _ => 0))), (qu, .inl (cJ, 14, .inr (.inl (fun _ => 0)))), (qg, .inl (cJ, 24, .inr (.inl (fun _ => 0)))), (qm, .inr (2, [.null, .null]))] H := hP
  have hD : va_D A [(qx, .inr (4, [.ref qa, .null, .null, .null, .int 0, .int 0, .int 0])), (qa, .inr (1, [.ref qb, .ref qh, .ref qw, .ref qf, .int (nI 0), .ref qu, .ref qg])), (qb, .inl (cI, 14, .inl (fun _ => 0))), (qh, .inl (cI, 14, .inl (fun _ => 0))), (qw, .inl (cI, 14, .inl (fun _ => 0))), (qf, .inl (cZ, 14, .inl (fun _ => 0))), (qu, .inl (cJ, 14, .inr (.inl (fun _ => 0)))), (qg, .inl (cJ, 24, .inr (.inl (fun _ => 0)))), (qm, .inr (2, [.null, .null]))] := hD
  refine lv_dup hx hb dX3_init_19 rfl ?_
  have hPc := hP.sub (ws' := [(qm, .inr (2, [.null, .null]))]) [8] rfl
  have hDc := hD.sub (ws' := [(qm, .inr (2, [.null, .null]))]) [8] (by decide) rfl
  have hFc := va_free (wc := [(qm, .inr (2, [.null, .null]))]) hD hS hA [8] rfl
  refine va_callv (va_runIN (As := []) (rest := [.ref qm, .ref qx]) ⟨hx, hb, hml, hown, hts⟩ (c_X1_init l D cI cZ cJ t1 t2 _ qm) ⟨va_cnB (host := "LeastSets") 0 hts gX3_init_X1_init_n18 rfl rfl rfl (hE.1 _ (List.mem_of_getElem? (i := 9) rfl)) (hts (.initialized RX1) (by decide +kernel)) (by decide +kernel) ⟨Nat.le_of_ble_eq_true rfl, Nat.le_of_ble_eq_true rfl⟩, rfl, hts (.instanceMethod yX1_init) (by decide +kernel)⟩ ⟨wr_blind, wr_pre hPc hDc hK hE hS hFc [0, 1, 2] rfl⟩ rfl rfl hl.1 rfl (lv_room (Nat.le_of_ble_eq_true rfl)) dX3_init_20 ⟨Nat.le_of_ble_eq_true rfl, Nat.le_of_ble_eq_true rfl⟩) hS (fun q _ h => hFc q h) hFc (fun u_20 t H locs ht hvm hw_20 hB hz1 hk1 hS => ?_)
  obtain ⟨qn, qo⟩ := u_20
  obtain ⟨hP1, hK1, hD1⟩ := hB
  rw [ht] at hP1
  obtain ⟨hP, hD⟩ := va_join (wr := [(qx, .inr (4, [.ref qa, .null, .null, .null, .int 0, .int 0, .int 0])), (qa, .inr (1, [.ref qb, .ref qh, .ref qw, .ref qf, .int (nI 0), .ref qu, .ref qg])), (qb, .inl (cI, 14, .inl (fun _ => 0))), (qh, .inl (cI, 14, .inl (fun _ => 0))), (qw, .inl (cI, 14, .inl (fun _ => 0))), (qf, .inl (cZ, 14, .inl (fun _ => 0))), (qu, .inl (cJ, 14, .inr (.inl (fun _ => 0)))), (qg, .inl (cJ, 24, .inr (.inl (fun _ => 0))))]) (w1 := [(qm, .inr (2, [.ref qn, .ref qo])), (qn, .inl (cJ, 256, .inr (.inl (fun _ => 0)))), (qo, .inl (cJ, 256, .inr (.inl (fun _ => 0))))]) hP hD [8] [0, 1, 2, 3, 4, 5, 6, 7] rfl rfl (by decide) (by decide) hk1 hFc hP1 hD1
  have hP : va_P D vwCl [(qx, .inr (4, [.ref qa, .null, .null, .null, .int 0, .int 0, .int 0])), (qa, .inr (1, [.ref qb, .ref qh, .ref qw, .ref qf, .int (nI 0), .ref qu, .ref qg])), (qb, .inl (cI, 14, .inl (fun _ => 0))), (qh, .inl (cI, 14, .inl (fun _ => 0))), (qw, .inl (cI, 14, .inl (fun _ => 0))), (qf, .inl (cZ, 14, .inl (fun _ => 0))), (qu, .inl (cJ, 14, .inr (.inl (fun _ => 0)))), (qg, .inl (cJ, 24, .inr (.inl (fun _ => 0)))), (qm, .inr (2, [.ref qn, .ref qo])), (qn, .inl (cJ, 256, .inr (.inl (fun _ => 0)))), (qo, .inl (cJ, 256, .inr (.inl (fun _ => 0))))] H := hP.sub [0, 1, 2, 3, 4, 5, 6, 7, 8, 9, 10] rfl
  have hD : va_D A [(qx, .inr (4, [.ref qa, .null, .null, .null, .int 0, .int 0, .int 0])), (qa, .inr (1, [.ref qb, .ref qh, .ref qw, .ref qf, .int (nI 0), .ref qu, .ref qg])), (qb, .inl (cI, 14, .inl (fun _ => 0))), (qh, .inl (cI, 14, .inl (fun _ => 0))), (qw, .inl (cI, 14, .inl (fun _ => 0))), (qf, .inl (cZ, 14, .inl (fun _ => 0))), (qu, .inl (cJ, 14, .inr (.inl (fun _ => 0)))), (qg, .inl (cJ, 24, .inr (.inl (fun _ => 0)))), (qm, .inr (2, [.ref qn, .ref qo])), (qn, .inl (cJ, 256, .inr (.inl (fun _ => 0)))), (qo, .inl (cJ, 256, .inr (.inl (fun _ => 0))))] := hD.sub [0, 1, 2, 3, 4, 5, 6, 7, 8, 9, 10] (by decide) rfl
  clear hPc hDc hFc hP1 hK1 hD1 hk1 hz1
  refine va_putF (D := D) (ci := 4) (v := .ref qm) (ty := .object "LeastSets$Family") (C := RX3) (T := TX3) (N := 7) hx hb hts iX3 tyX3 tyX3_ok nmX3 hown hK hP hD hS 0 rfl rfl 1 (by decide) (hts (.fieldLink RX3 19 "LeastSets" "family" "LLeastSets$Family;") (by decide +kernel)) (fun _ h9 => h9) rfl hin rfl (by decide +kernel) rfl rfl (Nat.le_of_ble_eq_true rfl) dX3_init_23 (fun H locs hP hD hS => ?_)
  have hP : va_P D vwCl [(qx, .inr (4, [.ref qa, .ref qm, .null, .null, .int 0, .int 0, .int 0])), (qa, .inr (1, [.ref qb, .ref qh, .ref qw, .ref qf, .int (nI 0), .ref qu, .ref qg])), (qb, .inl (cI, 14, .inl (fun _ => 0))), (qh, .inl (cI, 14, .inl (fun _ => 0))), (qw, .inl (cI, 14, .inl (fun _ => 0))), (qf, .inl (cZ, 14, .inl (fun _ => 0))), (qu, .inl (cJ, 14, .inr (.inl (fun _ => 0)))), (qg, .inl (cJ, 24, .inr (.inl (fun _ => 0)))), (qm, .inr (2, [.ref qn, .ref qo])), (qn, .inl (cJ, 256, .inr (.inl (fun _ => 0)))), (qo, .inl (cJ, 256, .inr (.inl (fun _ => 0))))] H := hP
  have hD : va_D A [(qx, .inr (4, [.ref qa, .ref qm, .null, .null, .int 0, .int 0, .int 0])), (qa, .inr (1, [.ref qb, .ref qh, .ref qw, .ref qf, .int (nI 0), .ref qu, .ref qg])), (qb, .inl (cI, 14, .inl (fun _ => 0))), (qh, .inl (cI, 14, .inl (fun _ => 0))), (qw, .inl (cI, 14, .inl (fun _ => 0))), (qf, .inl (cZ, 14, .inl (fun _ => 0))), (qu, .inl (cJ, 14, .inr (.inl (fun _ => 0)))), (qg, .inl (cJ, 24, .inr (.inl (fun _ => 0)))), (qm, .inr (2, [.ref qn, .ref qo])), (qn, .inl (cJ, 256, .inr (.inl (fun _ => 0)))), (qo, .inl (cJ, 256, .inr (.inl (fun _ => 0))))] := hD
  refine lv_aload_n hx hb dX3_init_26 rfl (lv_at hl 0 rfl) ?_
  refine va_new (D := D) (ci := 3) (fs := [.null, .int 0]) (C := RX2) (T := TX2) (N := 2) hx hb hts iX2 tyX2 tyX2_ok hown (hts (.classLink RX3 23 RX2) (by decide +kernel)) (hts (.instantiable RX2 2) (by decide +kernel)) (hts (.initialized RX2) (by decide +kernel)) hK hP hD hS hA rfl (by decide +kernel) (Nat.le_of_ble_eq_true rfl) (Nat.le_of_ble_eq_true rfl) dX3_init_27 (fun ql H hP hD hS => ?_)
  have hP : va_P D vwCl [(qx, .inr (4, [.ref qa, .ref qm, .null, .null, .int 0, .int 0, .int 0])), (qa, .inr (1, [.ref qb, .ref qh, .ref qw, .ref qf, .int (nI 0), .ref qu, .ref qg])), (qb, .inl (cI, 14, .inl (fun _ => 0))), (qh, .inl (cI, 14, .inl (fun _ => 0))), (qw, .inl (cI, 14, .inl (fun _ => 0))), (qf, .inl (cZ, 14, .inl (fun _ => 0))), (qu, .inl (cJ, 14, .inr (.inl (fun _ => 0)))), (qg, .inl (cJ, 24, .inr (.inl (fun _ => 0)))), (qm, .inr (2, [.ref qn, .ref qo])), (qn, .inl (cJ, 256, .inr (.inl (fun _ => 0)))), (qo, .inl (cJ, 256, .inr (.inl (fun _ => 0)))), (ql, .inr (3, [.null, .int 0]))] H := hP
  have hD : va_D A [(qx, .inr (4, [.ref qa, .ref qm, .null, .null, .int 0, .int 0, .int 0])), (qa, .inr (1, [.ref qb, .ref qh, .ref qw, .ref qf, .int (nI 0), .ref qu, .ref qg])), (qb, .inl (cI, 14, .inl (fun _ => 0))), (qh, .inl (cI, 14, .inl (fun _ => 0))), (qw, .inl (cI, 14, .inl (fun _ => 0))), (qf, .inl (cZ, 14, .inl (fun _ => 0))), (qu, .inl (cJ, 14, .inr (.inl (fun _ => 0)))), (qg, .inl (cJ, 24, .inr (.inl (fun _ => 0)))), (qm, .inr (2, [.ref qn, .ref qo])), (qn, .inl (cJ, 256, .inr (.inl (fun _ => 0)))), (qo, .inl (cJ, 256, .inr (.inl (fun _ => 0)))), (ql, .inr (3, [.null, .int 0]))] := hD
  refine lv_dup hx hb dX3_init_30 rfl ?_
  have hPc := hP.sub (ws' := [(ql, .inr (3, [.null, .int 0]))]) [11] rfl
  have hDc := hD.sub (ws' := [(ql, .inr (3, [.null, .int 0]))]) [11] (by decide) rfl
  have hFc := va_free (wc := [(ql, .inr (3, [.null, .int 0]))]) hD hS hA [11] rfl
  refine va_callv (va_runIN (As := []) (rest := [.ref ql, .ref qx]) ⟨hx, hb, hml, hown, hts⟩ (c_X2_init l D cI cZ cJ t1 t2 _ ql) ⟨va_cnB (host := "LeastSets") 0 hts gX3_init_X2_init_n25 rfl rfl rfl (hE.1 _ (List.mem_of_getElem? (i := 10) rfl)) (hts (.initialized RX2) (by decide +kernel)) (by decide +kernel) ⟨Nat.le_of_ble_eq_true rfl, Nat.le_of_ble_eq_true rfl⟩, rfl, hts (.instanceMethod yX2_init) (by decide +kernel)⟩ ⟨wr_blind, wr_pre hPc hDc hK hE hS hFc [0, 1, 2] rfl⟩ rfl rfl hl.1 rfl (lv_room (Nat.le_of_ble_eq_true rfl)) dX3_init_31 ⟨Nat.le_of_ble_eq_true rfl, Nat.le_of_ble_eq_true rfl⟩) hS (fun q _ h => hFc q h) hFc (fun u_31 t H locs ht hvm hw_31 hB hz1 hk1 hS => ?_)
  obtain ⟨qs, e9⟩ : ∃ z, z = u_31 := ⟨_, rfl⟩
  subst e9
  obtain ⟨hP1, hK1, hD1⟩ := hB
  rw [ht] at hP1
  obtain ⟨hP, hD⟩ := va_join (wr := [(qx, .inr (4, [.ref qa, .ref qm, .null, .null, .int 0, .int 0, .int 0])), (qa, .inr (1, [.ref qb, .ref qh, .ref qw, .ref qf, .int (nI 0), .ref qu, .ref qg])), (qb, .inl (cI, 14, .inl (fun _ => 0))), (qh, .inl (cI, 14, .inl (fun _ => 0))), (qw, .inl (cI, 14, .inl (fun _ => 0))), (qf, .inl (cZ, 14, .inl (fun _ => 0))), (qu, .inl (cJ, 14, .inr (.inl (fun _ => 0)))), (qg, .inl (cJ, 24, .inr (.inl (fun _ => 0)))), (qm, .inr (2, [.ref qn, .ref qo])), (qn, .inl (cJ, 256, .inr (.inl (fun _ => 0)))), (qo, .inl (cJ, 256, .inr (.inl (fun _ => 0))))]) (w1 := [(ql, .inr (3, [.ref qs, .int (nI 0)])), (qs, .inl (cI, 3432, .inl (fun _ => 0)))]) hP hD [11] [0, 1, 2, 3, 4, 5, 6, 7, 8, 9, 10] rfl rfl (by decide) (by decide) hk1 hFc hP1 hD1
  have hP : va_P D vwCl [(qx, .inr (4, [.ref qa, .ref qm, .null, .null, .int 0, .int 0, .int 0])), (qa, .inr (1, [.ref qb, .ref qh, .ref qw, .ref qf, .int (nI 0), .ref qu, .ref qg])), (qb, .inl (cI, 14, .inl (fun _ => 0))), (qh, .inl (cI, 14, .inl (fun _ => 0))), (qw, .inl (cI, 14, .inl (fun _ => 0))), (qf, .inl (cZ, 14, .inl (fun _ => 0))), (qu, .inl (cJ, 14, .inr (.inl (fun _ => 0)))), (qg, .inl (cJ, 24, .inr (.inl (fun _ => 0)))), (qm, .inr (2, [.ref qn, .ref qo])), (qn, .inl (cJ, 256, .inr (.inl (fun _ => 0)))), (qo, .inl (cJ, 256, .inr (.inl (fun _ => 0)))), (ql, .inr (3, [.ref qs, .int (nI 0)])), (qs, .inl (cI, 3432, .inl (fun _ => 0)))] H := hP.sub [0, 1, 2, 3, 4, 5, 6, 7, 8, 9, 10, 11, 12] rfl
  have hD : va_D A [(qx, .inr (4, [.ref qa, .ref qm, .null, .null, .int 0, .int 0, .int 0])), (qa, .inr (1, [.ref qb, .ref qh, .ref qw, .ref qf, .int (nI 0), .ref qu, .ref qg])), (qb, .inl (cI, 14, .inl (fun _ => 0))), (qh, .inl (cI, 14, .inl (fun _ => 0))), (qw, .inl (cI, 14, .inl (fun _ => 0))), (qf, .inl (cZ, 14, .inl (fun _ => 0))), (qu, .inl (cJ, 14, .inr (.inl (fun _ => 0)))), (qg, .inl (cJ, 24, .inr (.inl (fun _ => 0)))), (qm, .inr (2, [.ref qn, .ref qo])), (qn, .inl (cJ, 256, .inr (.inl (fun _ => 0)))), (qo, .inl (cJ, 256, .inr (.inl (fun _ => 0)))), (ql, .inr (3, [.ref qs, .int (nI 0)])), (qs, .inl (cI, 3432, .inl (fun _ => 0)))] := hD.sub [0, 1, 2, 3, 4, 5, 6, 7, 8, 9, 10, 11, 12] (by decide) rfl
  clear hPc hDc hFc hP1 hK1 hD1 hk1 hz1
  refine va_putF (D := D) (ci := 4) (v := .ref ql) (ty := .object "LeastSets$SetList") (C := RX3) (T := TX3) (N := 7) hx hb hts iX3 tyX3 tyX3_ok nmX3 hown hK hP hD hS 0 rfl rfl 2 (by decide) (hts (.fieldLink RX3 26 "LeastSets" "causeList" "LLeastSets$SetList;") (by decide +kernel)) (fun _ h9 => h9) rfl hin rfl (by decide +kernel) rfl rfl (Nat.le_of_ble_eq_true rfl) dX3_init_34 (fun H locs hP hD hS => ?_)
  have hP : va_P D vwCl [(qx, .inr (4, [.ref qa, .ref qm, .ref ql, .null, .int 0, .int 0, .int 0])), (qa, .inr (1, [.ref qb, .ref qh, .ref qw, .ref qf, .int (nI 0), .ref qu, .ref qg])), (qb, .inl (cI, 14, .inl (fun _ => 0))), (qh, .inl (cI, 14, .inl (fun _ => 0))), (qw, .inl (cI, 14, .inl (fun _ => 0))), (qf, .inl (cZ, 14, .inl (fun _ => 0))), (qu, .inl (cJ, 14, .inr (.inl (fun _ => 0)))), (qg, .inl (cJ, 24, .inr (.inl (fun _ => 0)))), (qm, .inr (2, [.ref qn, .ref qo])), (qn, .inl (cJ, 256, .inr (.inl (fun _ => 0)))), (qo, .inl (cJ, 256, .inr (.inl (fun _ => 0)))), (ql, .inr (3, [.ref qs, .int (nI 0)])), (qs, .inl (cI, 3432, .inl (fun _ => 0)))] H := hP
  have hD : va_D A [(qx, .inr (4, [.ref qa, .ref qm, .ref ql, .null, .int 0, .int 0, .int 0])), (qa, .inr (1, [.ref qb, .ref qh, .ref qw, .ref qf, .int (nI 0), .ref qu, .ref qg])), (qb, .inl (cI, 14, .inl (fun _ => 0))), (qh, .inl (cI, 14, .inl (fun _ => 0))), (qw, .inl (cI, 14, .inl (fun _ => 0))), (qf, .inl (cZ, 14, .inl (fun _ => 0))), (qu, .inl (cJ, 14, .inr (.inl (fun _ => 0)))), (qg, .inl (cJ, 24, .inr (.inl (fun _ => 0)))), (qm, .inr (2, [.ref qn, .ref qo])), (qn, .inl (cJ, 256, .inr (.inl (fun _ => 0)))), (qo, .inl (cJ, 256, .inr (.inl (fun _ => 0)))), (ql, .inr (3, [.ref qs, .int (nI 0)])), (qs, .inl (cI, 3432, .inl (fun _ => 0)))] := hD
  refine lv_aload_n hx hb dX3_init_37 rfl (lv_at hl 0 rfl) ?_
  refine va_new (D := D) (ci := 3) (fs := [.null, .int 0]) (C := RX2) (T := TX2) (N := 2) hx hb hts iX2 tyX2 tyX2_ok hown (hts (.classLink RX3 23 RX2) (by decide +kernel)) (hts (.instantiable RX2 2) (by decide +kernel)) (hts (.initialized RX2) (by decide +kernel)) hK hP hD hS hA rfl (by decide +kernel) (Nat.le_of_ble_eq_true rfl) (Nat.le_of_ble_eq_true rfl) dX3_init_38 (fun qp H hP hD hS => ?_)
  have hP : va_P D vwCl [(qx, .inr (4, [.ref qa, .ref qm, .ref ql, .null, .int 0, .int 0, .int 0])), (qa, .inr (1, [.ref qb, .ref qh, .ref qw, .ref qf, .int (nI 0), .ref qu, .ref qg])), (qb, .inl (cI, 14, .inl (fun _ => 0))), (qh, .inl (cI, 14, .inl (fun _ => 0))), (qw, .inl (cI, 14, .inl (fun _ => 0))), (qf, .inl (cZ, 14, .inl (fun _ => 0))), (qu, .inl (cJ, 14, .inr (.inl (fun _ => 0)))), (qg, .inl (cJ, 24, .inr (.inl (fun _ => 0)))), (qm, .inr (2, [.ref qn, .ref qo])), (qn, .inl (cJ, 256, .inr (.inl (fun _ => 0)))), (qo, .inl (cJ, 256, .inr (.inl (fun _ => 0)))), (ql, .inr (3, [.ref qs, .int (nI 0)])), (qs, .inl (cI, 3432, .inl (fun _ => 0))), (qp, .inr (3, [.null, .int 0]))] H := hP
  have hD : va_D A [(qx, .inr (4, [.ref qa, .ref qm, .ref ql, .null, .int 0, .int 0, .int 0])), (qa, .inr (1, [.ref qb, .ref qh, .ref qw, .ref qf, .int (nI 0), .ref qu, .ref qg])), (qb, .inl (cI, 14, .inl (fun _ => 0))), (qh, .inl (cI, 14, .inl (fun _ => 0))), (qw, .inl (cI, 14, .inl (fun _ => 0))), (qf, .inl (cZ, 14, .inl (fun _ => 0))), (qu, .inl (cJ, 14, .inr (.inl (fun _ => 0)))), (qg, .inl (cJ, 24, .inr (.inl (fun _ => 0)))), (qm, .inr (2, [.ref qn, .ref qo])), (qn, .inl (cJ, 256, .inr (.inl (fun _ => 0)))), (qo, .inl (cJ, 256, .inr (.inl (fun _ => 0)))), (ql, .inr (3, [.ref qs, .int (nI 0)])), (qs, .inl (cI, 3432, .inl (fun _ => 0))), (qp, .inr (3, [.null, .int 0]))] := hD
  refine lv_dup hx hb dX3_init_41 rfl ?_
  have hPc := hP.sub (ws' := [(qp, .inr (3, [.null, .int 0]))]) [13] rfl
  have hDc := hD.sub (ws' := [(qp, .inr (3, [.null, .int 0]))]) [13] (by decide) rfl
  have hFc := va_free (wc := [(qp, .inr (3, [.null, .int 0]))]) hD hS hA [13] rfl
  refine va_callv (va_runIN (As := []) (rest := [.ref qp, .ref qx]) ⟨hx, hb, hml, hown, hts⟩ (c_X2_init l D cI cZ cJ t1 t2 _ qp) ⟨va_cnB (host := "LeastSets") 0 hts gX3_init_X2_init_n25 rfl rfl rfl (hE.1 _ (List.mem_of_getElem? (i := 10) rfl)) (hts (.initialized RX2) (by decide +kernel)) (by decide +kernel) ⟨Nat.le_of_ble_eq_true rfl, Nat.le_of_ble_eq_true rfl⟩, rfl, hts (.instanceMethod yX2_init) (by decide +kernel)⟩ ⟨wr_blind, wr_pre hPc hDc hK hE hS hFc [0, 1, 2] rfl⟩ rfl rfl hl.1 rfl (lv_room (Nat.le_of_ble_eq_true rfl)) dX3_init_42 ⟨Nat.le_of_ble_eq_true rfl, Nat.le_of_ble_eq_true rfl⟩) hS (fun q _ h => hFc q h) hFc (fun u_42 t H locs ht hvm hw_42 hB hz1 hk1 hS => ?_)
  obtain ⟨qr, e9⟩ : ∃ z, z = u_42 := ⟨_, rfl⟩
  subst e9
  obtain ⟨hP1, hK1, hD1⟩ := hB
  rw [ht] at hP1
  obtain ⟨hP, hD⟩ := va_join (wr := [(qx, .inr (4, [.ref qa, .ref qm, .ref ql, .null, .int 0, .int 0, .int 0])), (qa, .inr (1, [.ref qb, .ref qh, .ref qw, .ref qf, .int (nI 0), .ref qu, .ref qg])), (qb, .inl (cI, 14, .inl (fun _ => 0))), (qh, .inl (cI, 14, .inl (fun _ => 0))), (qw, .inl (cI, 14, .inl (fun _ => 0))), (qf, .inl (cZ, 14, .inl (fun _ => 0))), (qu, .inl (cJ, 14, .inr (.inl (fun _ => 0)))), (qg, .inl (cJ, 24, .inr (.inl (fun _ => 0)))), (qm, .inr (2, [.ref qn, .ref qo])), (qn, .inl (cJ, 256, .inr (.inl (fun _ => 0)))), (qo, .inl (cJ, 256, .inr (.inl (fun _ => 0)))), (ql, .inr (3, [.ref qs, .int (nI 0)])), (qs, .inl (cI, 3432, .inl (fun _ => 0)))]) (w1 := [(qp, .inr (3, [.ref qr, .int (nI 0)])), (qr, .inl (cI, 3432, .inl (fun _ => 0)))]) hP hD [13] [0, 1, 2, 3, 4, 5, 6, 7, 8, 9, 10, 11, 12] rfl rfl (by decide) (by decide) hk1 hFc hP1 hD1
  have hP : va_P D vwCl [(qx, .inr (4, [.ref qa, .ref qm, .ref ql, .null, .int 0, .int 0, .int 0])), (qa, .inr (1, [.ref qb, .ref qh, .ref qw, .ref qf, .int (nI 0), .ref qu, .ref qg])), (qb, .inl (cI, 14, .inl (fun _ => 0))), (qh, .inl (cI, 14, .inl (fun _ => 0))), (qw, .inl (cI, 14, .inl (fun _ => 0))), (qf, .inl (cZ, 14, .inl (fun _ => 0))), (qu, .inl (cJ, 14, .inr (.inl (fun _ => 0)))), (qg, .inl (cJ, 24, .inr (.inl (fun _ => 0)))), (qm, .inr (2, [.ref qn, .ref qo])), (qn, .inl (cJ, 256, .inr (.inl (fun _ => 0)))), (qo, .inl (cJ, 256, .inr (.inl (fun _ => 0)))), (ql, .inr (3, [.ref qs, .int (nI 0)])), (qs, .inl (cI, 3432, .inl (fun _ => 0))), (qp, .inr (3, [.ref qr, .int (nI 0)])), (qr, .inl (cI, 3432, .inl (fun _ => 0)))] H := hP.sub [0, 1, 2, 3, 4, 5, 6, 7, 8, 9, 10, 11, 12, 13, 14] rfl
  have hD : va_D A [(qx, .inr (4, [.ref qa, .ref qm, .ref ql, .null, .int 0, .int 0, .int 0])), (qa, .inr (1, [.ref qb, .ref qh, .ref qw, .ref qf, .int (nI 0), .ref qu, .ref qg])), (qb, .inl (cI, 14, .inl (fun _ => 0))), (qh, .inl (cI, 14, .inl (fun _ => 0))), (qw, .inl (cI, 14, .inl (fun _ => 0))), (qf, .inl (cZ, 14, .inl (fun _ => 0))), (qu, .inl (cJ, 14, .inr (.inl (fun _ => 0)))), (qg, .inl (cJ, 24, .inr (.inl (fun _ => 0)))), (qm, .inr (2, [.ref qn, .ref qo])), (qn, .inl (cJ, 256, .inr (.inl (fun _ => 0)))), (qo, .inl (cJ, 256, .inr (.inl (fun _ => 0)))), (ql, .inr (3, [.ref qs, .int (nI 0)])), (qs, .inl (cI, 3432, .inl (fun _ => 0))), (qp, .inr (3, [.ref qr, .int (nI 0)])), (qr, .inl (cI, 3432, .inl (fun _ => 0)))] := hD.sub [0, 1, 2, 3, 4, 5, 6, 7, 8, 9, 10, 11, 12, 13, 14] (by decide) rfl
  clear hPc hDc hFc hP1 hK1 hD1 hk1 hz1
  refine va_putF (D := D) (ci := 4) (v := .ref qp) (ty := .object "LeastSets$SetList") (C := RX3) (T := TX3) (N := 7) hx hb hts iX3 tyX3 tyX3_ok nmX3 hown hK hP hD hS 0 rfl rfl 3 (by decide) (hts (.fieldLink RX3 30 "LeastSets" "cureList" "LLeastSets$SetList;") (by decide +kernel)) (fun _ h9 => h9) rfl hin rfl (by decide +kernel) rfl rfl (Nat.le_of_ble_eq_true rfl) dX3_init_45 (fun H locs hP hD hS => ?_)
  have hP : va_P D vwCl [(qx, .inr (4, [.ref qa, .ref qm, .ref ql, .ref qp, .int 0, .int 0, .int 0])), (qa, .inr (1, [.ref qb, .ref qh, .ref qw, .ref qf, .int (nI 0), .ref qu, .ref qg])), (qb, .inl (cI, 14, .inl (fun _ => 0))), (qh, .inl (cI, 14, .inl (fun _ => 0))), (qw, .inl (cI, 14, .inl (fun _ => 0))), (qf, .inl (cZ, 14, .inl (fun _ => 0))), (qu, .inl (cJ, 14, .inr (.inl (fun _ => 0)))), (qg, .inl (cJ, 24, .inr (.inl (fun _ => 0)))), (qm, .inr (2, [.ref qn, .ref qo])), (qn, .inl (cJ, 256, .inr (.inl (fun _ => 0)))), (qo, .inl (cJ, 256, .inr (.inl (fun _ => 0)))), (ql, .inr (3, [.ref qs, .int (nI 0)])), (qs, .inl (cI, 3432, .inl (fun _ => 0))), (qp, .inr (3, [.ref qr, .int (nI 0)])), (qr, .inl (cI, 3432, .inl (fun _ => 0)))] H := hP
  have hD : va_D A [(qx, .inr (4, [.ref qa, .ref qm, .ref ql, .ref qp, .int 0, .int 0, .int 0])), (qa, .inr (1, [.ref qb, .ref qh, .ref qw, .ref qf, .int (nI 0), .ref qu, .ref qg])), (qb, .inl (cI, 14, .inl (fun _ => 0))), (qh, .inl (cI, 14, .inl (fun _ => 0))), (qw, .inl (cI, 14, .inl (fun _ => 0))), (qf, .inl (cZ, 14, .inl (fun _ => 0))), (qu, .inl (cJ, 14, .inr (.inl (fun _ => 0)))), (qg, .inl (cJ, 24, .inr (.inl (fun _ => 0)))), (qm, .inr (2, [.ref qn, .ref qo])), (qn, .inl (cJ, 256, .inr (.inl (fun _ => 0)))), (qo, .inl (cJ, 256, .inr (.inl (fun _ => 0)))), (ql, .inr (3, [.ref qs, .int (nI 0)])), (qs, .inl (cI, 3432, .inl (fun _ => 0))), (qp, .inr (3, [.ref qr, .int (nI 0)])), (qr, .inl (cI, 3432, .inl (fun _ => 0)))] := hD
  refine lv_aload_n hx hb dX3_init_48 rfl (lv_at hl 0 rfl) ?_
  refine lv_iconst (v := (nI 0)) hx hb dX3_init_49 (by decide +kernel) ?_
  refine va_put (D := D) (ci := 4) (v := .int (nI 0)) (ty := .int) (C := RX3) (T := TX3) (N := 7) hx hb hts iX3 tyX3 tyX3_ok nmX3 hown hK hP hD hS 0 rfl rfl 4 (by decide) (hts (.fieldLink RX3 33 "LeastSets" "goalFact" "I") (by decide +kernel)) (fun _ h9 => h9) rfl (by decide +kernel) rfl rfl (Nat.le_of_ble_eq_true rfl) dX3_init_50 (fun H locs hP hD hS => ?_)
  have hP : va_P D vwCl [(qx, .inr (4, [.ref qa, .ref qm, .ref ql, .ref qp, .int (nI 0), .int 0, .int 0])), (qa, .inr (1, [.ref qb, .ref qh, .ref qw, .ref qf, .int (nI 0), .ref qu, .ref qg])), (qb, .inl (cI, 14, .inl (fun _ => 0))), (qh, .inl (cI, 14, .inl (fun _ => 0))), (qw, .inl (cI, 14, .inl (fun _ => 0))), (qf, .inl (cZ, 14, .inl (fun _ => 0))), (qu, .inl (cJ, 14, .inr (.inl (fun _ => 0)))), (qg, .inl (cJ, 24, .inr (.inl (fun _ => 0)))), (qm, .inr (2, [.ref qn, .ref qo])), (qn, .inl (cJ, 256, .inr (.inl (fun _ => 0)))), (qo, .inl (cJ, 256, .inr (.inl (fun _ => 0)))), (ql, .inr (3, [.ref qs, .int (nI 0)])), (qs, .inl (cI, 3432, .inl (fun _ => 0))), (qp, .inr (3, [.ref qr, .int (nI 0)])), (qr, .inl (cI, 3432, .inl (fun _ => 0)))] H := hP
  have hD : va_D A [(qx, .inr (4, [.ref qa, .ref qm, .ref ql, .ref qp, .int (nI 0), .int 0, .int 0])), (qa, .inr (1, [.ref qb, .ref qh, .ref qw, .ref qf, .int (nI 0), .ref qu, .ref qg])), (qb, .inl (cI, 14, .inl (fun _ => 0))), (qh, .inl (cI, 14, .inl (fun _ => 0))), (qw, .inl (cI, 14, .inl (fun _ => 0))), (qf, .inl (cZ, 14, .inl (fun _ => 0))), (qu, .inl (cJ, 14, .inr (.inl (fun _ => 0)))), (qg, .inl (cJ, 24, .inr (.inl (fun _ => 0)))), (qm, .inr (2, [.ref qn, .ref qo])), (qn, .inl (cJ, 256, .inr (.inl (fun _ => 0)))), (qo, .inl (cJ, 256, .inr (.inl (fun _ => 0)))), (ql, .inr (3, [.ref qs, .int (nI 0)])), (qs, .inl (cI, 3432, .inl (fun _ => 0))), (qp, .inr (3, [.ref qr, .int (nI 0)])), (qr, .inl (cI, 3432, .inl (fun _ => 0)))] := hD
  refine lv_aload_n hx hb dX3_init_53 rfl (lv_at hl 0 rfl) ?_
  refine lv_iconst (v := 0) hx hb dX3_init_54 (by decide +kernel) ?_
  refine va_put (D := D) (ci := 4) (v := .int 0) (ty := .boolean) (C := RX3) (T := TX3) (N := 7) hx hb hts iX3 tyX3 tyX3_ok nmX3 hown hK hP hD hS 0 rfl rfl 5 (by decide) (hts (.fieldLink RX3 37 "LeastSets" "causesKnown" "Z") (by decide +kernel)) (fun _ h9 => h9) rfl (by decide +kernel) rfl rfl (Nat.le_of_ble_eq_true rfl) dX3_init_55 (fun H locs hP hD hS => ?_)
  have hP : va_P D vwCl [(qx, .inr (4, [.ref qa, .ref qm, .ref ql, .ref qp, .int (nI 0), .int 0, .int 0])), (qa, .inr (1, [.ref qb, .ref qh, .ref qw, .ref qf, .int (nI 0), .ref qu, .ref qg])), (qb, .inl (cI, 14, .inl (fun _ => 0))), (qh, .inl (cI, 14, .inl (fun _ => 0))), (qw, .inl (cI, 14, .inl (fun _ => 0))), (qf, .inl (cZ, 14, .inl (fun _ => 0))), (qu, .inl (cJ, 14, .inr (.inl (fun _ => 0)))), (qg, .inl (cJ, 24, .inr (.inl (fun _ => 0)))), (qm, .inr (2, [.ref qn, .ref qo])), (qn, .inl (cJ, 256, .inr (.inl (fun _ => 0)))), (qo, .inl (cJ, 256, .inr (.inl (fun _ => 0)))), (ql, .inr (3, [.ref qs, .int (nI 0)])), (qs, .inl (cI, 3432, .inl (fun _ => 0))), (qp, .inr (3, [.ref qr, .int (nI 0)])), (qr, .inl (cI, 3432, .inl (fun _ => 0)))] H := hP
  have hD : va_D A [(qx, .inr (4, [.ref qa, .ref qm, .ref ql, .ref qp, .int (nI 0), .int 0, .int 0])), (qa, .inr (1, [.ref qb, .ref qh, .ref qw, .ref qf, .int (nI 0), .ref qu, .ref qg])), (qb, .inl (cI, 14, .inl (fun _ => 0))), (qh, .inl (cI, 14, .inl (fun _ => 0))), (qw, .inl (cI, 14, .inl (fun _ => 0))), (qf, .inl (cZ, 14, .inl (fun _ => 0))), (qu, .inl (cJ, 14, .inr (.inl (fun _ => 0)))), (qg, .inl (cJ, 24, .inr (.inl (fun _ => 0)))), (qm, .inr (2, [.ref qn, .ref qo])), (qn, .inl (cJ, 256, .inr (.inl (fun _ => 0)))), (qo, .inl (cJ, 256, .inr (.inl (fun _ => 0)))), (ql, .inr (3, [.ref qs, .int (nI 0)])), (qs, .inl (cI, 3432, .inl (fun _ => 0))), (qp, .inr (3, [.ref qr, .int (nI 0)])), (qr, .inl (cI, 3432, .inl (fun _ => 0)))] := hD
  refine lv_aload_n hx hb dX3_init_58 rfl (lv_at hl 0 rfl) ?_
  refine lv_iconst (v := 0) hx hb dX3_init_59 (by decide +kernel) ?_
  refine va_put (D := D) (ci := 4) (v := .int 0) (ty := .boolean) (C := RX3) (T := TX3) (N := 7) hx hb hts iX3 tyX3 tyX3_ok nmX3 hown hK hP hD hS 0 rfl rfl 6 (by decide) (hts (.fieldLink RX3 41 "LeastSets" "curesKnown" "Z") (by decide +kernel)) (fun _ h9 => h9) rfl (by decide +kernel) rfl rfl (Nat.le_of_ble_eq_true rfl) dX3_init_60 (fun H locs hP hD hS => ?_)
  have hP : va_P D vwCl [(qx, .inr (4, [.ref qa, .ref qm, .ref ql, .ref qp, .int (nI 0), .int 0, .int 0])), (qa, .inr (1, [.ref qb, .ref qh, .ref qw, .ref qf, .int (nI 0), .ref qu, .ref qg])), (qb, .inl (cI, 14, .inl (fun _ => 0))), (qh, .inl (cI, 14, .inl (fun _ => 0))), (qw, .inl (cI, 14, .inl (fun _ => 0))), (qf, .inl (cZ, 14, .inl (fun _ => 0))), (qu, .inl (cJ, 14, .inr (.inl (fun _ => 0)))), (qg, .inl (cJ, 24, .inr (.inl (fun _ => 0)))), (qm, .inr (2, [.ref qn, .ref qo])), (qn, .inl (cJ, 256, .inr (.inl (fun _ => 0)))), (qo, .inl (cJ, 256, .inr (.inl (fun _ => 0)))), (ql, .inr (3, [.ref qs, .int (nI 0)])), (qs, .inl (cI, 3432, .inl (fun _ => 0))), (qp, .inr (3, [.ref qr, .int (nI 0)])), (qr, .inl (cI, 3432, .inl (fun _ => 0)))] H := hP
  have hD : va_D A [(qx, .inr (4, [.ref qa, .ref qm, .ref ql, .ref qp, .int (nI 0), .int 0, .int 0])), (qa, .inr (1, [.ref qb, .ref qh, .ref qw, .ref qf, .int (nI 0), .ref qu, .ref qg])), (qb, .inl (cI, 14, .inl (fun _ => 0))), (qh, .inl (cI, 14, .inl (fun _ => 0))), (qw, .inl (cI, 14, .inl (fun _ => 0))), (qf, .inl (cZ, 14, .inl (fun _ => 0))), (qu, .inl (cJ, 14, .inr (.inl (fun _ => 0)))), (qg, .inl (cJ, 24, .inr (.inl (fun _ => 0)))), (qm, .inr (2, [.ref qn, .ref qo])), (qn, .inl (cJ, 256, .inr (.inl (fun _ => 0)))), (qo, .inl (cJ, 256, .inr (.inl (fun _ => 0)))), (ql, .inr (3, [.ref qs, .int (nI 0)])), (qs, .inl (cI, 3432, .inl (fun _ => 0))), (qp, .inr (3, [.ref qr, .int (nI 0)])), (qr, .inl (cI, 3432, .inl (fun _ => 0)))] := hD
  have hP : va_P D vwCl [(qx, .inr (4, [.ref qa, .ref qm, .ref ql, .ref qp, .int (nI 0), .int 0, .int 0])), (qa, .inr (1, [.ref qb, .ref qh, .ref qw, .ref qf, .int (nI 0), .ref qu, .ref qg])), (qb, .inl (cI, 14, .inl (fun _ => 0))), (qh, .inl (cI, 14, .inl (fun _ => 0))), (qw, .inl (cI, 14, .inl (fun _ => 0))), (qf, .inl (cZ, 14, .inl (fun _ => 0))), (qu, .inl (cJ, 14, .inr (.inl (fun _ => 0)))), (qg, .inl (cJ, 24, .inr (.inl (fun _ => 0)))), (qm, .inr (2, [.ref qn, .ref qo])), (qn, .inl (cJ, 256, .inr (.inl (fun _ => 0)))), (qo, .inl (cJ, 256, .inr (.inl (fun _ => 0)))), (ql, .inr (3, [.ref qs, .int (nI 0)])), (qs, .inl (cI, 3432, .inl (fun _ => 0))), (qp, .inr (3, [.ref qr, .int (nI 0)])), (qr, .inl (cI, 3432, .inl (fun _ => 0)))] H := hP.sub [0, 1, 2, 3, 4, 5, 6, 7, 8, 9, 10, 11, 12, 13, 14] rfl
  have hD : va_D A [(qx, .inr (4, [.ref qa, .ref qm, .ref ql, .ref qp, .int (nI 0), .int 0, .int 0])), (qa, .inr (1, [.ref qb, .ref qh, .ref qw, .ref qf, .int (nI 0), .ref qu, .ref qg])), (qb, .inl (cI, 14, .inl (fun _ => 0))), (qh, .inl (cI, 14, .inl (fun _ => 0))), (qw, .inl (cI, 14, .inl (fun _ => 0))), (qf, .inl (cZ, 14, .inl (fun _ => 0))), (qu, .inl (cJ, 14, .inr (.inl (fun _ => 0)))), (qg, .inl (cJ, 24, .inr (.inl (fun _ => 0)))), (qm, .inr (2, [.ref qn, .ref qo])), (qn, .inl (cJ, 256, .inr (.inl (fun _ => 0)))), (qo, .inl (cJ, 256, .inr (.inl (fun _ => 0)))), (ql, .inr (3, [.ref qs, .int (nI 0)])), (qs, .inl (cI, 3432, .inl (fun _ => 0))), (qp, .inr (3, [.ref qr, .int (nI 0)])), (qr, .inl (cI, 3432, .inl (fun _ => 0)))] := hD.sub [0, 1, 2, 3, 4, 5, 6, 7, 8, 9, 10, 11, 12, 13, 14] (by decide) rfl
  refine W.widen (k := 14) (n := 7483) (Nat.le_of_ble_eq_true rfl) (Nat.le_of_ble_eq_true rfl) ?_
  exact W.vret hx hb hr (fun t ht hW => ⟨⟨(qa, qb, qh, qw, qf, qu, qg, qm, qn, qo, ql, qs, qp, qr), rfl, trivial, by rw [ht]; exact hP, va_K.moved hW.alike hK, hD⟩, hS.F ht⟩) hS.2.2 dX3_init_63
