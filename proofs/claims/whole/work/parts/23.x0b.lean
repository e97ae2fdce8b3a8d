set_option maxHeartbeats 4000000 in
set_option maxRecDepth 100000 in
/-- Integer.bitCount(x) -/
theorem c_J6_bitCount_0f7a4 (l : Launch) (x : Int32) : Met l yJ6_bitCount_0f7a4 wsJ6_bitCount_0f7a4 ({ frames := 0, cells := 0, slots := 0, locals := 0 } : Room) (va_Pc [.int x] (fun _ => True)) (vp_Si (fun r => r = bc_ x)) 0 0 (fun _ => False) := by
  refine Met.ofW (cc := cJ6_bitCount_0f7a4) (maxL := 1) (ret := (some .int)) (by decide) rfl ?_
  intro p e s m args below meth c s₁ B hml hv
  obtain ⟨rfl, -⟩ := hv
  have hx := B.exec
  have hb := B.bytes
  have hr := B.returns
  have hts := atoms_spec (ws := wsJ6_bitCount_0f7a4) B.pre
  have hown : s.vm.findClass RJ6 = some m.cls := findClass_of_methodNamed B.named
  have hlocks := B.notSynchronized
  have hl := lv_entry ([.int x]) (n := 1) (Nat.le_of_ble_eq_true rfl)
  rw [lg_entry_eq]
  generalize (lg_sl ([.int x]) ++ List.replicate (1 - (lg_sl ([.int x])).length) Slot.unset).toArray = ls at hl ⊢
  have hl : lv_has ls 1 [(0, .int x)] := hl
  refine lv_iload_n hx hb dJ6_bitCount_0f7a4_0 rfl (lv_at hl 0 rfl) ?_
  refine lv_iload_n hx hb dJ6_bitCount_0f7a4_1 rfl (lv_at hl 0 rfl) ?_
  refine lv_iconst (v := 1) hx hb dJ6_bitCount_0f7a4_2 (by decide +kernel) ?_
  refine lv_iushr (v := (us_ x 1)) hx hb dJ6_bitCount_0f7a4_3 rfl ?_
  refine lv_ldcw (v := 1431655765) hx hb hown (hts (.constant RJ6 265 (1431655765)) (by decide +kernel)) dJ6_bitCount_0f7a4_4 ?_
  refine lv_iand hx hb dJ6_bitCount_0f7a4_7 ?_
  refine lv_isub hx hb dJ6_bitCount_0f7a4_8 ?_
  refine lv_istore_n (lv' := [(0, .int (x - ((us_ x 1) &&& 1431655765)))]) hx hb dJ6_bitCount_0f7a4_9 rfl hl (by decide) rfl (fun ls hl => ?_)
  refine lv_iload_n hx hb dJ6_bitCount_0f7a4_10 rfl (lv_at hl 0 rfl) ?_
  refine lv_ldcw (v := 858993459) hx hb hown (hts (.constant RJ6 266 (858993459)) (by decide +kernel)) dJ6_bitCount_0f7a4_11 ?_
  refine lv_iand hx hb dJ6_bitCount_0f7a4_14 ?_
  refine lv_iload_n hx hb dJ6_bitCount_0f7a4_15 rfl (lv_at hl 0 rfl) ?_
  refine lv_iconst (v := 2) hx hb dJ6_bitCount_0f7a4_16 (by decide +kernel) ?_
  refine lv_iushr (v := (us_ (x - ((us_ x 1) &&& 1431655765)) 2)) hx hb dJ6_bitCount_0f7a4_17 rfl ?_
  refine lv_ldcw (v := 858993459) hx hb hown (hts (.constant RJ6 266 (858993459)) (by decide +kernel)) dJ6_bitCount_0f7a4_18 ?_
  refine lv_iand hx hb dJ6_bitCount_0f7a4_21 ?_
  refine lv_iadd hx hb dJ6_bitCount_0f7a4_22 ?_
  refine lv_istore_n (lv' := [(0, .int (((x - ((us_ x 1) &&& 1431655765)) &&& 858993459) + ((us_ (x - ((us_ x 1) &&& 1431655765)) 2) &&& 858993459)))]) hx hb dJ6_bitCount_0f7a4_23 rfl hl (by decide) rfl (fun ls hl => ?_)
  refine lv_iload_n hx hb dJ6_bitCount_0f7a4_24 rfl (lv_at hl 0 rfl) ?_
  refine lv_iload_n hx hb dJ6_bitCount_0f7a4_25 rfl (lv_at hl 0 rfl) ?_
  refine lv_iconst (v := 4) hx hb dJ6_bitCount_0f7a4_26 (by decide +kernel) ?_
  refine lv_iushr (v := (us_ (((x - ((us_ x 1) &&& 1431655765)) &&& 858993459) + ((us_ (x - ((us_ x 1) &&& 1431655765)) 2) &&& 858993459)) 4)) hx hb dJ6_bitCount_0f7a4_27 rfl ?_
  refine lv_iadd hx hb dJ6_bitCount_0f7a4_28 ?_
  refine lv_ldcw (v := 252645135) hx hb hown (hts (.constant RJ6 267 (252645135)) (by decide +kernel)) dJ6_bitCount_0f7a4_29 ?_
  refine lv_iand hx hb dJ6_bitCount_0f7a4_32 ?_
  refine lv_istore_n (lv' := [(0, .int (((((x - ((us_ x 1) &&& 1431655765)) &&& 858993459) + ((us_ (x - ((us_ x 1) &&& 1431655765)) 2) &&& 858993459)) + (us_ (((x - ((us_ x 1) &&& 1431655765)) &&& 858993459) + ((us_ (x - ((us_ x 1) &&& 1431655765)) 2) &&& 858993459)) 4)) &&& 252645135))]) hx hb dJ6_bitCount_0f7a4_33 rfl hl (by decide) rfl (fun ls hl => ?_)
  refine lv_iload_n hx hb dJ6_bitCount_0f7a4_34 rfl (lv_at hl 0 rfl) ?_
  refine lv_iload_n hx hb dJ6_bitCount_0f7a4_35 rfl (lv_at hl 0 rfl) ?_
  refine lv_bipush (v := 8) hx hb dJ6_bitCount_0f7a4_36 (by decide +kernel) ?_
  refine lv_iushr (v := (us_ (((((x - ((us_ x 1) &&& 1431655765)) &&& 858993459) + ((us_ (x - ((us_ x 1) &&& 1431655765)) 2) &&& 858993459)) + (us_ (((x - ((us_ x 1) &&& 1431655765)) &&& 858993459) + ((us_ (x - ((us_ x 1) &&& 1431655765)) 2) &&& 858993459)) 4)) &&& 252645135) 8)) hx hb dJ6_bitCount_0f7a4_38 rfl ?_
  refine lv_iadd hx hb dJ6_bitCount_0f7a4_39 ?_
  refine lv_istore_n (lv' := [(0, .int ((((((x - ((us_ x 1) &&& 1431655765)) &&& 858993459) + ((us_ (x - ((us_ x 1) &&& 1431655765)) 2) &&& 858993459)) + (us_ (((x - ((us_ x 1) &&& 1431655765)) &&& 858993459) + ((us_ (x - ((us_ x 1) &&& 1431655765)) 2) &&& 858993459)) 4)) &&& 252645135) + (us_ (((((x - ((us_ x 1) &&& 1431655765)) &&& 858993459) + ((us_ (x - ((us_ x 1) &&& 1431655765)) 2) &&& 858993459)) + (us_ (((x - ((us_ x 1) &&& 1431655765)) &&& 858993459) + ((us_ (x - ((us_ x 1) &&& 1431655765)) 2) &&& 858993459)) 4)) &&& 252645135) 8)))]) hx hb dJ6_bitCount_0f7a4_40 rfl hl (by decide) rfl (fun ls hl => ?_)
  refine lv_iload_n hx hb dJ6_bitCount_0f7a4_41 rfl (lv_at hl 0 rfl) ?_
  refine lv_iload_n hx hb dJ6_bitCount_0f7a4_42 rfl (lv_at hl 0 rfl) ?_
  refine lv_bipush (v := 16) hx hb dJ6_bitCount_0f7a4_43 (by decide +kernel) ?_
  refine lv_iushr (v := (us_ ((((((x - ((us_ x 1) &&& 1431655765)) &&& 858993459) + ((us_ (x - ((us_ x 1) &&& 1431655765)) 2) &&& 858993459)) + (us_ (((x - ((us_ x 1) &&& 1431655765)) &&& 858993459) + ((us_ (x - ((us_ x 1) &&& 1431655765)) 2) &&& 858993459)) 4)) &&& 252645135) + (us_ (((((x - ((us_ x 1) &&& 1431655765)) &&& 858993459) + ((us_ (x - ((us_ x 1) &&& 1431655765)) 2) &&& 858993459)) + (us_ (((x - ((us_ x 1) &&& 1431655765)) &&& 858993459) + ((us_ (x - ((us_ x 1) &&& 1431655765)) 2) &&& 858993459)) 4)) &&& 252645135) 8)) 16)) hx hb dJ6_bitCount_0f7a4_45 rfl ?_
  refine lv_iadd hx hb dJ6_bitCount_0f7a4_46 ?_
  refine lv_istore_n (lv' := [(0, .int (((((((x - ((us_ x 1) &&& 1431655765)) &&& 858993459) + ((us_ (x - ((us_ x 1) &&& 1431655765)) 2) &&& 858993459)) + (us_ (((x - ((us_ x 1) &&& 1431655765)) &&& 858993459) + ((us_ (x - ((us_ x 1) &&& 1431655765)) 2) &&& 858993459)) 4)) &&& 252645135) + (us_ (((((x - ((us_ x 1) &&& 1431655765)) &&& 858993459) + ((us_ (x - ((us_ x 1) &&& 1431655765)) 2) &&& 858993459)) + (us_ (((x - ((us_ x 1) &&& 1431655765)) &&& 858993459) + ((us_ (x - ((us_ x 1) &&& 1431655765)) 2) &&& 858993459)) 4)) &&& 252645135) 8)) + (us_ ((((((x - ((us_ x 1) &&& 1431655765)) &&& 858993459) + ((us_ (x - ((us_ x 1) &&& 1431655765)) 2) &&& 858993459)) + (us_ (((x - ((us_ x 1) &&& 1431655765)) &&& 858993459) + ((us_ (x - ((us_ x 1) &&& 1431655765)) 2) &&& 858993459)) 4)) &&& 252645135) + (us_ (((((x - ((us_ x 1) &&& 1431655765)) &&& 858993459) + ((us_ (x - ((us_ x 1) &&& 1431655765)) 2) &&& 858993459)) + (us_ (((x - ((us_ x 1) &&& 1431655765)) &&& 858993459) + ((us_ (x - ((us_ x 1) &&& 1431655765)) 2) &&& 858993459)) 4)) &&& 252645135) 8)) 16)))]) hx hb dJ6_bitCount_0f7a4_47 rfl hl (by decide) rfl (fun ls hl => ?_)
  refine lv_iload_n hx hb dJ6_bitCount_0f7a4_48 rfl (lv_at hl 0 rfl) ?_
  refine lv_bipush (v := 63) hx hb dJ6_bitCount_0f7a4_49 (by decide +kernel) ?_
  refine lv_iand hx hb dJ6_bitCount_0f7a4_51 ?_
  exact W.iret (v := ((((((((x - ((us_ x 1) &&& 1431655765)) &&& 858993459) + ((us_ (x - ((us_ x 1) &&& 1431655765)) 2) &&& 858993459)) + (us_ (((x - ((us_ x 1) &&& 1431655765)) &&& 858993459) + ((us_ (x - ((us_ x 1) &&& 1431655765)) 2) &&& 858993459)) 4)) &&& 252645135) + (us_ (((((x - ((us_ x 1) &&& 1431655765)) &&& 858993459) + ((us_ (x - ((us_ x 1) &&& 1431655765)) 2) &&& 858993459)) + (us_ (((x - ((us_ x 1) &&& 1431655765)) &&& 858993459) + ((us_ (x - ((us_ x 1) &&& 1431655765)) 2) &&& 858993459)) 4)) &&& 252645135) 8)) + (us_ ((((((x - ((us_ x 1) &&& 1431655765)) &&& 858993459) + ((us_ (x - ((us_ x 1) &&& 1431655765)) 2) &&& 858993459)) + (us_ (((x - ((us_ x 1) &&& 1431655765)) &&& 858993459) + ((us_ (x - ((us_ x 1) &&& 1431655765)) 2) &&& 858993459)) 4)) &&& 252645135) + (us_ (((((x - ((us_ x 1) &&& 1431655765)) &&& 858993459) + ((us_ (x - ((us_ x 1) &&& 1431655765)) 2) &&& 858993459)) + (us_ (((x - ((us_ x 1) &&& 1431655765)) &&& 858993459) + ((us_ (x - ((us_ x 1) &&& 1431655765)) 2) &&& 858993459)) 4)) &&& 252645135) 8)) 16)) &&& 63)) hx hb hr (fun t ht hW => ⟨((((((((x - ((us_ x 1) &&& 1431655765)) &&& 858993459) + ((us_ (x - ((us_ x 1) &&& 1431655765)) 2) &&& 858993459)) + (us_ (((x - ((us_ x 1) &&& 1431655765)) &&& 858993459) + ((us_ (x - ((us_ x 1) &&& 1431655765)) 2) &&& 858993459)) 4)) &&& 252645135) + (us_ (((((x - ((us_ x 1) &&& 1431655765)) &&& 858993459) + ((us_ (x - ((us_ x 1) &&& 1431655765)) 2) &&& 858993459)) + (us_ (((x - ((us_ x 1) &&& 1431655765)) &&& 858993459) + ((us_ (x - ((us_ x 1) &&& 1431655765)) 2) &&& 858993459)) 4)) &&& 252645135) 8)) + (us_ ((((((x - ((us_ x 1) &&& 1431655765)) &&& 858993459) + ((us_ (x - ((us_ x 1) &&& 1431655765)) 2) &&& 858993459)) + (us_ (((x - ((us_ x 1) &&& 1431655765)) &&& 858993459) + ((us_ (x - ((us_ x 1) &&& 1431655765)) 2) &&& 858993459)) 4)) &&& 252645135) + (us_ (((((x - ((us_ x 1) &&& 1431655765)) &&& 858993459) + ((us_ (x - ((us_ x 1) &&& 1431655765)) 2) &&& 858993459)) + (us_ (((x - ((us_ x 1) &&& 1431655765)) &&& 858993459) + ((us_ (x - ((us_ x 1) &&& 1431655765)) 2) &&& 858993459)) 4)) &&& 252645135) 8)) 16)) &&& 63), rfl, rfl, ht⟩) (fun q h => by cases h) dJ6_bitCount_0f7a4_52
set_option maxHeartbeats 4000000 in
set_option maxRecDepth 100000 in
/-- Long.bitCount(x) -/
theorem c_J13_bitCount_95d88 (l : Launch) (x : Int64) : Met l yJ13_bitCount_95d88 wsJ13_bitCount_95d88 ({ frames := 0, cells := 0, slots := 0, locals := 0 } : Room) (va_Pc [.long x] (fun _ => True)) (vp_Si (fun r => r = lc_ x)) 0 0 (fun _ => False) := by
  refine Met.ofW (cc := cJ13_bitCount_95d88) (maxL := 2) (ret := (some .int)) (by decide) rfl ?_
  intro p e s m args below meth c s₁ B hml hv
  obtain ⟨rfl, -⟩ := hv
  have hx := B.exec
  have hb := B.bytes
  have hr := B.returns
  have hts := atoms_spec (ws := wsJ13_bitCount_95d88) B.pre
  have hown : s.vm.findClass RJ13 = some m.cls := findClass_of_methodNamed B.named
  have hlocks := B.notSynchronized
  have hl := lv_entry ([.long x]) (n := 2) (Nat.le_of_ble_eq_true rfl)
  rw [lg_entry_eq]
  generalize (lg_sl ([.long x]) ++ List.replicate (2 - (lg_sl ([.long x])).length) Slot.unset).toArray = ls at hl ⊢
  have hl : lv_has ls 2 [(0, .long x)] := hl
  refine lv_lload_n hx hb dJ13_bitCount_95d88_0 rfl (lv_at hl 0 rfl) ?_
  refine lv_lload_n hx hb dJ13_bitCount_95d88_1 rfl (lv_at hl 0 rfl) ?_
  refine lv_iconst (v := 1) hx hb dJ13_bitCount_95d88_2 (by decide +kernel) ?_
  refine lv_lushr (v := (uls_ x 1)) hx hb dJ13_bitCount_95d88_3 rfl ?_
  refine lv_ldc2 (v := (6148914691236517205)) hx hb hown (hts (.constantLong RJ13 314 (6148914691236517205)) (by decide +kernel)) dJ13_bitCount_95d88_4 ?_
  refine lv_land hx hb dJ13_bitCount_95d88_7 ?_
  refine lv_lsub hx hb dJ13_bitCount_95d88_8 ?_
  refine lv_lstore_n (lv' := [(0, .long (x - ((uls_ x 1) &&& (6148914691236517205))))]) hx hb dJ13_bitCount_95d88_9 rfl hl (by decide) rfl (fun ls hl => ?_)
  refine lv_lload_n hx hb dJ13_bitCount_95d88_10 rfl (lv_at hl 0 rfl) ?_
  refine lv_ldc2 (v := (3689348814741910323)) hx hb hown (hts (.constantLong RJ13 316 (3689348814741910323)) (by decide +kernel)) dJ13_bitCount_95d88_11 ?_
  refine lv_land hx hb dJ13_bitCount_95d88_14 ?_
  refine lv_lload_n hx hb dJ13_bitCount_95d88_15 rfl (lv_at hl 0 rfl) ?_
  refine lv_iconst (v := 2) hx hb dJ13_bitCount_95d88_16 (by decide +kernel) ?_
  refine lv_lushr (v := (uls_ (x - ((uls_ x 1) &&& (6148914691236517205))) 2)) hx hb dJ13_bitCount_95d88_17 rfl ?_
  refine lv_ldc2 (v := (3689348814741910323)) hx hb hown (hts (.constantLong RJ13 316 (3689348814741910323)) (by decide +kernel)) dJ13_bitCount_95d88_18 ?_
  refine lv_land hx hb dJ13_bitCount_95d88_21 ?_
  refine lv_ladd hx hb dJ13_bitCount_95d88_22 ?_
  refine lv_lstore_n (lv' := [(0, .long (((x - ((uls_ x 1) &&& (6148914691236517205))) &&& (3689348814741910323)) + ((uls_ (x - ((uls_ x 1) &&& (6148914691236517205))) 2) &&& (3689348814741910323))))]) hx hb dJ13_bitCount_95d88_23 rfl hl (by decide) rfl (fun ls hl => ?_)
  refine lv_lload_n hx hb dJ13_bitCount_95d88_24 rfl (lv_at hl 0 rfl) ?_
  refine lv_lload_n hx hb dJ13_bitCount_95d88_25 rfl (lv_at hl 0 rfl) ?_
  refine lv_iconst (v := 4) hx hb dJ13_bitCount_95d88_26 (by decide +kernel) ?_
  refine lv_lushr (v := (uls_ (((x - ((uls_ x 1) &&& (6148914691236517205))) &&& (3689348814741910323)) + ((uls_ (x - ((uls_ x 1) &&& (6148914691236517205))) 2) &&& (3689348814741910323))) 4)) hx hb dJ13_bitCount_95d88_27 rfl ?_
  refine lv_ladd hx hb dJ13_bitCount_95d88_28 ?_
  refine lv_ldc2 (v := (1085102592571150095)) hx hb hown (hts (.constantLong RJ13 318 (1085102592571150095)) (by decide +kernel)) dJ13_bitCount_95d88_29 ?_
  refine lv_land hx hb dJ13_bitCount_95d88_32 ?_
  refine lv_lstore_n (lv' := [(0, .long (((((x - ((uls_ x 1) &&& (6148914691236517205))) &&& (3689348814741910323)) + ((uls_ (x - ((uls_ x 1) &&& (6148914691236517205))) 2) &&& (3689348814741910323))) + (uls_ (((x - ((uls_ x 1) &&& (6148914691236517205))) &&& (3689348814741910323)) + ((uls_ (x - ((uls_ x 1) &&& (6148914691236517205))) 2) &&& (3689348814741910323))) 4)) &&& (1085102592571150095)))]) hx hb dJ13_bitCount_95d88_33 rfl hl (by decide) rfl (fun ls hl => ?_)
  refine lv_lload_n hx hb dJ13_bitCount_95d88_34 rfl (lv_at hl 0 rfl) ?_
  refine lv_lload_n hx hb dJ13_bitCount_95d88_35 rfl (lv_at hl 0 rfl) ?_
  refine lv_bipush (v := 8) hx hb dJ13_bitCount_95d88_36 (by decide +kernel) ?_
  refine lv_lushr (v := (uls_ (((((x - ((uls_ x 1) &&& (6148914691236517205))) &&& (3689348814741910323)) + ((uls_ (x - ((uls_ x 1) &&& (6148914691236517205))) 2) &&& (3689348814741910323))) + (uls_ (((x - ((uls_ x 1) &&& (6148914691236517205))) &&& (3689348814741910323)) + ((uls_ (x - ((uls_ x 1) &&& (6148914691236517205))) 2) &&& (3689348814741910323))) 4)) &&& (1085102592571150095)) 8)) hx hb dJ13_bitCount_95d88_38 rfl ?_
  refine lv_ladd hx hb dJ13_bitCount_95d88_39 ?_
  refine lv_lstore_n (lv' := [(0, .long ((((((x - ((uls_ x 1) &&& (6148914691236517205))) &&& (3689348814741910323)) + ((uls_ (x - ((uls_ x 1) &&& (6148914691236517205))) 2) &&& (3689348814741910323))) + (uls_ (((x - ((uls_ x 1) &&& (6148914691236517205))) &&& (3689348814741910323)) + ((uls_ (x - ((uls_ x 1) &&& (6148914691236517205))) 2) &&& (3689348814741910323))) 4)) &&& (1085102592571150095)) + (uls_ (((((x - ((uls_ x 1) &&& (6148914691236517205))) &&& (3689348814741910323)) + ((uls_ (x - ((uls_ x 1) &&& (6148914691236517205))) 2) &&& (3689348814741910323))) + (uls_ (((x - ((uls_ x 1) &&& (6148914691236517205))) &&& (3689348814741910323)) + ((uls_ (x - ((uls_ x 1) &&& (6148914691236517205))) 2) &&& (3689348814741910323))) 4)) &&& (1085102592571150095)) 8)))]) hx hb dJ13_bitCount_95d88_40 rfl hl (by decide) rfl (fun ls hl => ?_)
  refine lv_lload_n hx hb dJ13_bitCount_95d88_41 rfl (lv_at hl 0 rfl) ?_
  refine lv_lload_n hx hb dJ13_bitCount_95d88_42 rfl (lv_at hl 0 rfl) ?_
  refine lv_bipush (v := 16) hx hb dJ13_bitCount_95d88_43 (by decide +kernel) ?_
  refine lv_lushr (v := (uls_ ((((((x - ((uls_ x 1) &&& (6148914691236517205))) &&& (3689348814741910323)) + ((uls_ (x - ((uls_ x 1) &&& (6148914691236517205))) 2) &&& (3689348814741910323))) + (uls_ (((x - ((uls_ x 1) &&& (6148914691236517205))) &&& (3689348814741910323)) + ((uls_ (x - ((uls_ x 1) &&& (6148914691236517205))) 2) &&& (3689348814741910323))) 4)) &&& (1085102592571150095)) + (uls_ (((((x - ((uls_ x 1) &&& (6148914691236517205))) &&& (3689348814741910323)) + ((uls_ (x - ((uls_ x 1) &&& (6148914691236517205))) 2) &&& (3689348814741910323))) + (uls_ (((x - ((uls_ x 1) &&& (6148914691236517205))) &&& (3689348814741910323)) + ((uls_ (x - ((uls_ x 1) &&& (6148914691236517205))) 2) &&& (3689348814741910323))) 4)) &&& (1085102592571150095)) 8)) 16)) hx hb dJ13_bitCount_95d88_45 rfl ?_
  refine lv_ladd hx hb dJ13_bitCount_95d88_46 ?_
  refine lv_lstore_n (lv' := [(0, .long (((((((x - ((uls_ x 1) &&& (6148914691236517205))) &&& (3689348814741910323)) + ((uls_ (x - ((uls_ x 1) &&& (6148914691236517205))) 2) &&& (3689348814741910323))) + (uls_ (((x - ((uls_ x 1) &&& (6148914691236517205))) &&& (3689348814741910323)) + ((uls_ (x - ((uls_ x 1) &&& (6148914691236517205))) 2) &&& (3689348814741910323))) 4)) &&& (1085102592571150095)) + (uls_ (((((x - ((uls_ x 1) &&& (6148914691236517205))) &&& (3689348814741910323)) + ((uls_ (x - ((uls_ x 1) &&& (6148914691236517205))) 2) &&& (3689348814741910323))) + (uls_ (((x - ((uls_ x 1) &&& (6148914691236517205))) &&& (3689348814741910323)) + ((uls_ (x - ((uls_ x 1) &&& (6148914691236517205))) 2) &&& (3689348814741910323))) 4)) &&& (1085102592571150095)) 8)) + (uls_ ((((((x - ((uls_ x 1) &&& (6148914691236517205))) &&& (3689348814741910323)) + ((uls_ (x - ((uls_ x 1) &&& (6148914691236517205))) 2) &&& (3689348814741910323))) + (uls_ (((x - ((uls_ x 1) &&& (6148914691236517205))) &&& (3689348814741910323)) + ((uls_ (x - ((uls_ x 1) &&& (6148914691236517205))) 2) &&& (3689348814741910323))) 4)) &&& (1085102592571150095)) + (uls_ (((((x - ((uls_ x 1) &&& (6148914691236517205))) &&& (3689348814741910323)) + ((uls_ (x - ((uls_ x 1) &&& (6148914691236517205))) 2) &&& (3689348814741910323))) + (uls_ (((x - ((uls_ x 1) &&& (6148914691236517205))) &&& (3689348814741910323)) + ((uls_ (x - ((uls_ x 1) &&& (6148914691236517205))) 2) &&& (3689348814741910323))) 4)) &&& (1085102592571150095)) 8)) 16)))]) hx hb dJ13_bitCount_95d88_47 rfl hl (by decide) rfl (fun ls hl => ?_)
  refine lv_lload_n hx hb dJ13_bitCount_95d88_48 rfl (lv_at hl 0 rfl) ?_
  refine lv_lload_n hx hb dJ13_bitCount_95d88_49 rfl (lv_at hl 0 rfl) ?_
  refine lv_bipush (v := 32) hx hb dJ13_bitCount_95d88_50 (by decide +kernel) ?_
  refine lv_lushr (v := (uls_ (((((((x - ((uls_ x 1) &&& (6148914691236517205))) &&& (3689348814741910323)) + ((uls_ (x - ((uls_ x 1) &&& (6148914691236517205))) 2) &&& (3689348814741910323))) + (uls_ (((x - ((uls_ x 1) &&& (6148914691236517205))) &&& (3689348814741910323)) + ((uls_ (x - ((uls_ x 1) &&& (6148914691236517205))) 2) &&& (3689348814741910323))) 4)) &&& (1085102592571150095)) + (uls_ (((((x - ((uls_ x 1) &&& (6148914691236517205))) &&& (3689348814741910323)) + ((uls_ (x - ((uls_ x 1) &&& (6148914691236517205))) 2) &&& (3689348814741910323))) + (uls_ (((x - ((uls_ x 1) &&& (6148914691236517205))) &&& (3689348814741910323)) + ((uls_ (x - ((uls_ x 1) &&& (6148914691236517205))) 2) &&& (3689348814741910323))) 4)) &&& (1085102592571150095)) 8)) + (uls_ ((((((x - ((uls_ x 1) &&& (6148914691236517205))) &&& (3689348814741910323)) + ((uls_ (x - ((uls_ x 1) &&& (6148914691236517205))) 2) &&& (3689348814741910323))) + (uls_ (((x - ((uls_ x 1) &&& (6148914691236517205))) &&& (3689348814741910323)) + ((uls_ (x - ((uls_ x 1) &&& (6148914691236517205))) 2) &&& (3689348814741910323))) 4)) &&& (1085102592571150095)) + (uls_ (((((x - ((uls_ x 1) &&& (6148914691236517205))) &&& (3689348814741910323)) + ((uls_ (x - ((uls_ x 1) &&& (6148914691236517205))) 2) &&& (3689348814741910323))) + (uls_ (((x - ((uls_ x 1) &&& (6148914691236517205))) &&& (3689348814741910323)) + ((uls_ (x - ((uls_ x 1) &&& (6148914691236517205))) 2) &&& (3689348814741910323))) 4)) &&& (1085102592571150095)) 8)) 16)) 32)) hx hb dJ13_bitCount_95d88_52 rfl ?_
  refine lv_ladd hx hb dJ13_bitCount_95d88_53 ?_
  refine lv_lstore_n (lv' := [(0, .long ((((((((x - ((uls_ x 1) &&& (6148914691236517205))) &&& (3689348814741910323)) + ((uls_ (x - ((uls_ x 1) &&& (6148914691236517205))) 2) &&& (3689348814741910323))) + (uls_ (((x - ((uls_ x 1) &&& (6148914691236517205))) &&& (3689348814741910323)) + ((uls_ (x - ((uls_ x 1) &&& (6148914691236517205))) 2) &&& (3689348814741910323))) 4)) &&& (1085102592571150095)) + (uls_ (((((x - ((uls_ x 1) &&& (6148914691236517205))) &&& (3689348814741910323)) + ((uls_ (x - ((uls_ x 1) &&& (6148914691236517205))) 2) &&& (3689348814741910323))) + (uls_ (((x - ((uls_ x 1) &&& (6148914691236517205))) &&& (3689348814741910323)) + ((uls_ (x - ((uls_ x 1) &&& (6148914691236517205))) 2) &&& (3689348814741910323))) 4)) &&& (1085102592571150095)) 8)) + (uls_ ((((((x - ((uls_ x 1) &&& (6148914691236517205))) &&& (3689348814741910323)) + ((uls_ (x - ((uls_ x 1) &&& (6148914691236517205))) 2) &&& (3689348814741910323))) + (uls_ (((x - ((uls_ x 1) &&& (6148914691236517205))) &&& (3689348814741910323)) + ((uls_ (x - ((uls_ x 1) &&& (6148914691236517205))) 2) &&& (3689348814741910323))) 4)) &&& (1085102592571150095)) + (uls_ (((((x - ((uls_ x 1) &&& (6148914691236517205))) &&& (3689348814741910323)) + ((uls_ (x - ((uls_ x 1) &&& (6148914691236517205))) 2) &&& (3689348814741910323))) + (uls_ (((x - ((uls_ x 1) &&& (6148914691236517205))) &&& (3689348814741910323)) + ((uls_ (x - ((uls_ x 1) &&& (6148914691236517205))) 2) &&& (3689348814741910323))) 4)) &&& (1085102592571150095)) 8)) 16)) + (uls_ (((((((x - ((uls_ x 1) &&& (6148914691236517205))) &&& (3689348814741910323)) + ((uls_ (x - ((uls_ x 1) &&& (6148914691236517205))) 2) &&& (3689348814741910323))) + (uls_ (((x - ((uls_ x 1) &&& (6148914691236517205))) &&& (3689348814741910323)) + ((uls_ (x - ((uls_ x 1) &&& (6148914691236517205))) 2) &&& (3689348814741910323))) 4)) &&& (1085102592571150095)) + (uls_ (((((x - ((uls_ x 1) &&& (6148914691236517205))) &&& (3689348814741910323)) + ((uls_ (x - ((uls_ x 1) &&& (6148914691236517205))) 2) &&& (3689348814741910323))) + (uls_ (((x - ((uls_ x 1) &&& (6148914691236517205))) &&& (3689348814741910323)) + ((uls_ (x - ((uls_ x 1) &&& (6148914691236517205))) 2) &&& (3689348814741910323))) 4)) &&& (1085102592571150095)) 8)) + (uls_ ((((((x - ((uls_ x 1) &&& (6148914691236517205))) &&& (3689348814741910323)) + ((uls_ (x - ((uls_ x 1) &&& (6148914691236517205))) 2) &&& (3689348814741910323))) + (uls_ (((x - ((uls_ x 1) &&& (6148914691236517205))) &&& (3689348814741910323)) + ((uls_ (x - ((uls_ x 1) &&& (6148914691236517205))) 2) &&& (3689348814741910323))) 4)) &&& (1085102592571150095)) + (uls_ (((((x - ((uls_ x 1) &&& (6148914691236517205))) &&& (3689348814741910323)) + ((uls_ (x - ((uls_ x 1) &&& (6148914691236517205))) 2) &&& (3689348814741910323))) + (uls_ (((x - ((uls_ x 1) &&& (6148914691236517205))) &&& (3689348814741910323)) + ((uls_ (x - ((uls_ x 1) &&& (6148914691236517205))) 2) &&& (3689348814741910323))) 4)) &&& (1085102592571150095)) 8)) 16)) 32)))]) hx hb dJ13_bitCount_95d88_54 rfl hl (by decide) rfl (fun ls hl => ?_)
  refine lv_lload_n hx hb dJ13_bitCount_95d88_55 rfl (lv_at hl 0 rfl) ?_
  refine lv_l2i (v := (Int64.toInt32 ((((((((x - ((uls_ x 1) &&& (6148914691236517205))) &&& (3689348814741910323)) + ((uls_ (x - ((uls_ x 1) &&& (6148914691236517205))) 2) &&& (3689348814741910323))) + (uls_ (((x - ((uls_ x 1) &&& (6148914691236517205))) &&& (3689348814741910323)) + ((uls_ (x - ((uls_ x 1) &&& (6148914691236517205))) 2) &&& (3689348814741910323))) 4)) &&& (1085102592571150095)) + (uls_ (((((x - ((uls_ x 1) &&& (6148914691236517205))) &&& (3689348814741910323)) + ((uls_ (x - ((uls_ x 1) &&& (6148914691236517205))) 2) &&& (3689348814741910323))) + (uls_ (((x - ((uls_ x 1) &&& (6148914691236517205))) &&& (3689348814741910323)) + ((uls_ (x - ((uls_ x 1) &&& (6148914691236517205))) 2) &&& (3689348814741910323))) 4)) &&& (1085102592571150095)) 8)) + (uls_ ((((((x - ((uls_ x 1) &&& (6148914691236517205))) &&& (3689348814741910323)) + ((uls_ (x - ((uls_ x 1) &&& (6148914691236517205))) 2) &&& (3689348814741910323))) + (uls_ (((x - ((uls_ x 1) &&& (6148914691236517205))) &&& (3689348814741910323)) + ((uls_ (x - ((uls_ x 1) &&& (6148914691236517205))) 2) &&& (3689348814741910323))) 4)) &&& (1085102592571150095)) + (uls_ (((((x - ((uls_ x 1) &&& (6148914691236517205))) &&& (3689348814741910323)) + ((uls_ (x - ((uls_ x 1) &&& (6148914691236517205))) 2) &&& (3689348814741910323))) + (uls_ (((x - ((uls_ x 1) &&& (6148914691236517205))) &&& (3689348814741910323)) + ((uls_ (x - ((uls_ x 1) &&& (6148914691236517205))) 2) &&& (3689348814741910323))) 4)) &&& (1085102592571150095)) 8)) 16)) + (uls_ (((((((x - ((uls_ x 1) &&& (6148914691236517205))) &&& (3689348814741910323)) + ((uls_ (x - ((uls_ x 1) &&& (6148914691236517205))) 2) &&& (3689348814741910323))) + (uls_ (((x - ((uls_ x 1) &&& (6148914691236517205))) &&& (3689348814741910323)) + ((uls_ (x - ((uls_ x 1) &&& (6148914691236517205))) 2) &&& (3689348814741910323))) 4)) &&& (1085102592571150095)) + (uls_ (((((x - ((uls_ x 1) &&& (6148914691236517205))) &&& (3689348814741910323)) + ((uls_ (x - ((uls_ x 1) &&& (6148914691236517205))) 2) &&& (3689348814741910323))) + (uls_ (((x - ((uls_ x 1) &&& (6148914691236517205))) &&& (3689348814741910323)) + ((uls_ (x - ((uls_ x 1) &&& (6148914691236517205))) 2) &&& (3689348814741910323))) 4)) &&& (1085102592571150095)) 8)) + (uls_ ((((((x - ((uls_ x 1) &&& (6148914691236517205))) &&& (3689348814741910323)) + ((uls_ (x - ((uls_ x 1) &&& (6148914691236517205))) 2) &&& (3689348814741910323))) + (uls_ (((x - ((uls_ x 1) &&& (6148914691236517205))) &&& (3689348814741910323)) + ((uls_ (x - ((uls_ x 1) &&& (6148914691236517205))) 2) &&& (3689348814741910323))) 4)) &&& (1085102592571150095)) + (uls_ (((((x - ((uls_ x 1) &&& (6148914691236517205))) &&& (3689348814741910323)) + ((uls_ (x - ((uls_ x 1) &&& (6148914691236517205))) 2) &&& (3689348814741910323))) + (uls_ (((x - ((uls_ x 1) &&& (6148914691236517205))) &&& (3689348814741910323)) + ((uls_ (x - ((uls_ x 1) &&& (6148914691236517205))) 2) &&& (3689348814741910323))) 4)) &&& (1085102592571150095)) 8)) 16)) 32)))) hx hb dJ13_bitCount_95d88_56 rfl ?_
  refine lv_bipush (v := 127) hx hb dJ13_bitCount_95d88_57 (by decide +kernel) ?_
  refine lv_iand hx hb dJ13_bitCount_95d88_59 ?_
  exact W.iret (v := ((Int64.toInt32 ((((((((x - ((uls_ x 1) &&& (6148914691236517205))) &&& (3689348814741910323)) + ((uls_ (x - ((uls_ x 1) &&& (6148914691236517205))) 2) &&& (3689348814741910323))) + (uls_ (((x - ((uls_ x 1) &&& (6148914691236517205))) &&& (3689348814741910323)) + ((uls_ (x - ((uls_ x 1) &&& (6148914691236517205))) 2) &&& (3689348814741910323))) 4)) &&& (1085102592571150095)) + (uls_ (((((x - ((uls_ x 1) &&& (6148914691236517205))) &&& (3689348814741910323)) + ((uls_ (x - ((uls_ x 1) &&& (6148914691236517205))) 2) &&& (3689348814741910323))) + (uls_ (((x - ((uls_ x 1) &&& (6148914691236517205))) &&& (3689348814741910323)) + ((uls_ (x - ((uls_ x 1) &&& (6148914691236517205))) 2) &&& (3689348814741910323))) 4)) &&& (1085102592571150095)) 8)) + (uls_ ((((((x - ((uls_ x 1) &&& (6148914691236517205))) &&& (3689348814741910323)) + ((uls_ (x - ((uls_ x 1) &&& (6148914691236517205))) 2) &&& (3689348814741910323))) + (uls_ (((x - ((uls_ x 1) &&& (6148914691236517205))) &&& (3689348814741910323)) + ((uls_ (x - ((uls_ x 1) &&& (6148914691236517205))) 2) &&& (3689348814741910323))) 4)) &&& (1085102592571150095)) + (uls_ (((((x - ((uls_ x 1) &&& (6148914691236517205))) &&& (3689348814741910323)) + ((uls_ (x - ((uls_ x 1) &&& (6148914691236517205))) 2) &&& (3689348814741910323))) + (uls_ (((x - ((uls_ x 1) &&& (6148914691236517205))) &&& (3689348814741910323)) + ((uls_ (x - ((uls_ x 1) &&& (6148914691236517205))) 2) &&& (3689348814741910323))) 4)) &&& (1085102592571150095)) 8)) 16)) + (uls_ (((((((x - ((uls_ x 1) &&& (6148914691236517205))) &&& (3689348814741910323)) + ((uls_ (x - ((uls_ x 1) &&& (6148914691236517205))) 2) &&& (3689348814741910323))) + (uls_ (((x - ((uls_ x 1) &&& (6148914691236517205))) &&& (3689348814741910323)) + ((uls_ (x - ((uls_ x 1) &&& (6148914691236517205))) 2) &&& (3689348814741910323))) 4)) &&& (1085102592571150095)) + (uls_ (((((x - ((uls_ x 1) &&& (6148914691236517205))) &&& (3689348814741910323)) + ((uls_ (x - ((uls_ x 1) &&& (6148914691236517205))) 2) &&& (3689348814741910323))) + (uls_ (((x - ((uls_ x 1) &&& (6148914691236517205))) &&& (3689348814741910323)) + ((uls_ (x - ((uls_ x 1) &&& (6148914691236517205))) 2) &&& (3689348814741910323))) 4)) &&& (1085102592571150095)) 8)) + (uls_ ((((((x - ((uls_ x 1) &&& (6148914691236517205))) &&& (3689348814741910323)) + ((uls_ (x - ((uls_ x 1) &&& (6148914691236517205))) 2) &&& (3689348814741910323))) + (uls_ (((x - ((uls_ x 1) &&& (6148914691236517205))) &&& (3689348814741910323)) + ((uls_ (x - ((uls_ x 1) &&& (6148914691236517205))) 2) &&& (3689348814741910323))) 4)) &&& (1085102592571150095)) + (uls_ (((((x - ((uls_ x 1) &&& (6148914691236517205))) &&& (3689348814741910323)) + ((uls_ (x - ((uls_ x 1) &&& (6148914691236517205))) 2) &&& (3689348814741910323))) + (uls_ (((x - ((uls_ x 1) &&& (6148914691236517205))) &&& (3689348814741910323)) + ((uls_ (x - ((uls_ x 1) &&& (6148914691236517205))) 2) &&& (3689348814741910323))) 4)) &&& (1085102592571150095)) 8)) 16)) 32))) &&& 127)) hx hb hr (fun t ht hW => ⟨((Int64.toInt32 ((((((((x - ((uls_ x 1) &&& (6148914691236517205))) &&& (3689348814741910323)) + ((uls_ (x - ((uls_ x 1) &&& (6148914691236517205))) 2) &&& (3689348814741910323))) + (uls_ (((x - ((uls_ x 1) &&& (6148914691236517205))) &&& (3689348814741910323)) + ((uls_ (x - ((uls_ x 1) &&& (6148914691236517205))) 2) &&& (3689348814741910323))) 4)) &&& (1085102592571150095)) + (uls_ (((((x - ((uls_ x 1) &&& (6148914691236517205))) &&& (3689348814741910323)) + ((uls_ (x - ((uls_ x 1) &&& (6148914691236517205))) 2) &&& (3689348814741910323))) + (uls_ (((x - ((uls_ x 1) &&& (6148914691236517205))) &&& (3689348814741910323)) + ((uls_ (x - ((uls_ x 1) &&& (6148914691236517205))) 2) &&& (3689348814741910323))) 4)) &&& (1085102592571150095)) 8)) + (uls_ ((((((x - ((uls_ x 1) &&& (6148914691236517205))) &&& (3689348814741910323)) + ((uls_ (x - ((uls_ x 1) &&& (6148914691236517205))) 2) &&& (3689348814741910323))) + (uls_ (((x - ((uls_ x 1) &&& (6148914691236517205))) &&& (3689348814741910323)) + ((uls_ (x - ((uls_ x 1) &&& (6148914691236517205))) 2) &&& (3689348814741910323))) 4)) &&& (1085102592571150095)) + (uls_ (((((x - ((uls_ x 1) &&& (6148914691236517205))) &&& (3689348814741910323)) + ((uls_ (x - ((uls_ x 1) &&& (6148914691236517205))) 2) &&& (3689348814741910323))) + (uls_ (((x - ((uls_ x 1) &&& (6148914691236517205))) &&& (3689348814741910323)) + ((uls_ (x - ((uls_ x 1) &&& (6148914691236517205))) 2) &&& (3689348814741910323))) 4)) &&& (1085102592571150095)) 8)) 16)) + (uls_ (((((((x - ((uls_ x 1) &&& (6148914691236517205))) &&& (3689348814741910323)) + ((uls_ (x - ((uls_ x 1) &&& (6148914691236517205))) 2) &&& (3689348814741910323))) + (uls_ (((x - ((uls_ x 1) &&& (6148914691236517205))) &&& (3689348814741910323)) + ((uls_ (x - ((uls_ x 1) &&& (6148914691236517205))) 2) &&& (3689348814741910323))) 4)) &&& (1085102592571150095)) + (uls_ (((((x - ((uls_ x 1) &&& (6148914691236517205))) &&& (3689348814741910323)) + ((uls_ (x - ((uls_ x 1) &&& (6148914691236517205))) 2) &&& (3689348814741910323))) + (uls_ (((x - ((uls_ x 1) &&& (6148914691236517205))) &&& (3689348814741910323)) + ((uls_ (x - ((uls_ x 1) &&& (6148914691236517205))) 2) &&& (3689348814741910323))) 4)) &&& (1085102592571150095)) 8)) + (uls_ ((((((x - ((uls_ x 1) &&& (6148914691236517205))) &&& (3689348814741910323)) + ((uls_ (x - ((uls_ x 1) &&& (6148914691236517205))) 2) &&& (3689348814741910323))) + (uls_ (((x - ((uls_ x 1) &&& (6148914691236517205))) &&& (3689348814741910323)) + ((uls_ (x - ((uls_ x 1) &&& (6148914691236517205))) 2) &&& (3689348814741910323))) 4)) &&& (1085102592571150095)) + (uls_ (((((x - ((uls_ x 1) &&& (6148914691236517205))) &&& (3689348814741910323)) + ((uls_ (x - ((uls_ x 1) &&& (6148914691236517205))) 2) &&& (3689348814741910323))) + (uls_ (((x - ((uls_ x 1) &&& (6148914691236517205))) &&& (3689348814741910323)) + ((uls_ (x - ((uls_ x 1) &&& (6148914691236517205))) 2) &&& (3689348814741910323))) 4)) &&& (1085102592571150095)) 8)) 16)) 32))) &&& 127), rfl, rfl, ht⟩) (fun q h => by cases h) dJ13_bitCount_95d88_60
set_option maxHeartbeats 4000000 in
set_option maxRecDepth 100000 in
/-- lowestPlace(x) -/
theorem c_X3_lowestPlace (l : Launch) (x : Int64) : Met l yX3_lowestPlace wsX3_lowestPlace ({ frames := 1, cells := 0, slots := 0, locals := 21 } : Room) (va_Pc [.long x] (fun _ => True)) (vp_Si (fun r => r = lc_ ((x &&& (-x)) - 1))) 0 0 (fun _ => False) := by
  refine Met.ofW (cc := cX3_lowestPlace) (maxL := 2) (ret := (some .int)) (by decide) rfl ?_
  intro p e s m args below meth c s₁ B hml hv
  obtain ⟨rfl, -⟩ := hv
  have hx := B.exec
  have hb := B.bytes
  have hr := B.returns
  have hts := atoms_spec (ws := wsX3_lowestPlace) B.pre
  have hown : s.vm.findClass RX3 = some m.cls := findClass_of_methodNamed B.named
  have hlocks := B.notSynchronized
  have hl := lv_entry ([.long x]) (n := 2) (Nat.le_of_ble_eq_true rfl)
  rw [lg_entry_eq]
  generalize (lg_sl ([.long x]) ++ List.replicate (2 - (lg_sl ([.long x])).length) Slot.unset).toArray = ls at hl ⊢
  have hl : lv_has ls 2 [(0, .long x)] := hl
  refine lv_lload_n hx hb dX3_lowestPlace_0 rfl (lv_at hl 0 rfl) ?_
  refine lv_lload_n hx hb dX3_lowestPlace_1 rfl (lv_at hl 0 rfl) ?_
  refine lv_lneg hx hb dX3_lowestPlace_2 ?_
  refine lv_land hx hb dX3_lowestPlace_3 ?_
  refine lv_lconst (v := 1) hx hb dX3_lowestPlace_4 (by decide +kernel) ?_
  refine lv_lsub hx hb dX3_lowestPlace_5 ?_
  refine vp_callSi (va_runS (As := [.long ((x &&& (-x)) - 1)]) (rest := []) ⟨hx, hb, hml, hown, hts⟩ (c_J13_bitCount_95d88 l ((x &&& (-x)) - 1)) (va_cwS 1 hts gX3_lowestPlace_J13_bitCount_95d88 rfl rfl rfl (by decide +kernel) ⟨Nat.le_of_ble_eq_true rfl, Nat.le_of_ble_eq_true rfl⟩) ⟨no_blind, no_pre trivial⟩ rfl rfl hl.1 rfl (lv_room (Nat.le_of_ble_eq_true rfl)) dX3_lowestPlace_6 ⟨Nat.le_of_ble_eq_true rfl, Nat.le_of_ble_eq_true rfl⟩).run (fun r_6 hr_6 => ?_)
  exact W.iret (v := r_6) hx hb hr (fun t ht hW => ⟨r_6, rfl, hr_6, ht⟩) (fun q h => by cases h) dX3_lowestPlace_9
set_option maxHeartbeats 4000000 in
set_option maxRecDepth 100000 in
/-- isFact(x) -/
theorem c_X3_isFact (l : Launch) (x : Int32) : Met l yX3_isFact wsX3_isFact ({ frames := 0, cells := 0, slots := 0, locals := 0 } : Room) (va_Pc [.int x] (fun _ => True)) (vp_Si (fun r => has_is 24 x r)) 0 0 (fun _ => False) := by
  refine Met.ofW (cc := cX3_isFact) (maxL := 1) (ret := (some .boolean)) (by decide) rfl ?_
  intro p e s m args below meth c s₁ B hml hv
  obtain ⟨rfl, -⟩ := hv
  have hx := B.exec
  have hb := B.bytes
  have hr := B.returns
  have hts := atoms_spec (ws := wsX3_isFact) B.pre
  have hown : s.vm.findClass RX3 = some m.cls := findClass_of_methodNamed B.named
  have hlocks := B.notSynchronized
  have hl := lv_entry ([.int x]) (n := 1) (Nat.le_of_ble_eq_true rfl)
  rw [lg_entry_eq]
  generalize (lg_sl ([.int x]) ++ List.replicate (1 - (lg_sl ([.int x])).length) Slot.unset).toArray = ls at hl ⊢
  have hl : lv_has ls 1 [(0, .int x)] := hl
  refine lv_iload_n hx hb dX3_isFact_0 rfl (lv_at hl 0 rfl) ?_
  refine lv_if_lt (tgt := 14) hx hb dX3_isFact_1 (by decide) (fun c_1 => ?_) (fun c_1 => ?_)
  · refine lv_iconst (v := 0) hx hb dX3_isFact_14 (by decide +kernel) ?_
    exact W.zret (v := 0) hx hb hr (by rfl) (fun t ht hW => ⟨0, rfl, by first | exact isF_in c_1 c_7 | exact isF_neg c_1 | exact isF_big c_7, ht⟩) (fun q h => by cases h) dX3_isFact_15
  · refine lv_iload_n hx hb dX3_isFact_4 rfl (lv_at hl 0 rfl) ?_
    refine lv_bipush (v := (nI 24)) hx hb dX3_isFact_5 (by decide +kernel) ?_
    refine lv_icmp_ge (tgt := 14) hx hb dX3_isFact_7 (by decide) (fun c_7 => ?_) (fun c_7 => ?_)
    · refine lv_iconst (v := 0) hx hb dX3_isFact_14 (by decide +kernel) ?_
      exact W.zret (v := 0) hx hb hr (by rfl) (fun t ht hW => ⟨0, rfl, by first | exact isF_in c_1 c_7 | exact isF_neg c_1 | exact isF_big c_7, ht⟩) (fun q h => by cases h) dX3_isFact_15
    · refine lv_iconst (v := 1) hx hb dX3_isFact_10 (by decide +kernel) ?_
      refine lv_goto (tgt := 15) hx hb dX3_isFact_11 (by decide) ?_
      exact W.zret (v := 1) hx hb hr (by rfl) (fun t ht hW => ⟨1, rfl, by first | exact isF_in c_1 c_7 | exact isF_neg c_1 | exact isF_big c_7, ht⟩) (fun q h => by cases h) dX3_isFact_15
set_option maxHeartbeats 4000000 in
set_option maxRecDepth 100000 in
/-- factsFrom(x) -/
theorem c_X0_factsFrom (l : Launch) (D : va_G) (cI cZ cJ : ClassId) (qa qb qh qw qf qu qg : Nat) (n : Nat) (hn : n ≤ 14) (Bd Hd : Nat → Int32) (x : Int32) : Met l yX0_factsFrom wsX0_factsFrom ({ frames := 1, cells := 0, slots := 0, locals := 24 } : Room) (va_Pc [.ref qa, .int x] (ro_ D [(cI, .int), (cZ, .boolean), (cJ, .long)] [(qa, .inr (1, [.ref qb, .ref qh, .ref qw, .ref qf, .int (nI n), .ref qu, .ref qg])), (qb, .inl (cI, 14, .inl Bd)), (qh, .inl (cI, 14, .inl Hd))])) (vp_Si (fun r => r = cf_ n Bd Hd x n)) 0 0 (fun _ => False) := by
  refine Met.ofW (cc := cX0_factsFrom) (maxL := 4) (ret := (some .int)) (by decide) rfl ?_
  intro p e s m args below meth c s₁ B hml hv
  obtain ⟨rfl, hP, hK⟩ := hv
  have hx := B.exec
  have hb := B.bytes
  have hr := B.returns
  have hts := atoms_spec (ws := wsX0_factsFrom) B.pre
  have hown : s.vm.findClass RX0 = some m.cls := findClass_of_methodNamed B.named
  have hlocks := B.notSynchronized
  have iX0 : ∀ w ∈ u_ws RX0 TX0 7, w ∈ wsX0_factsFrom := by decide +kernel
  have hl := lv_entry ([.ref qa, .int x]) (n := 4) (Nat.le_of_ble_eq_true rfl)
  rw [lg_entry_eq]
  generalize (lg_sl ([.ref qa, .int x]) ++ List.replicate (4 - (lg_sl ([.ref qa, .int x])).length) Slot.unset).toArray = ls at hl ⊢
  have hl : lv_has ls 4 [(0, .ref qa), (1, .int x)] := hl
  have loop : ∀ (k a : Nat) (y : Int32) (ls : Array Slot), n < a + k → a ≤ n → y = cf_ n Bd Hd x a → lv_has ls 4 [(3, .int (nI a)), (2, .int y), (0, .ref qa), (1, .int x)] → W p l e (headSpec wsX0_factsFrom ({ frames := 1, cells := 0, slots := 0, locals := 24 } : Room)).room s m ([.ref qa, .int x] : List Value).toArray below meth c s.heap [] 0 0 (MQ below (vp_Si (fun r => r = cf_ n Bd Hd x n)) ([.ref qa, .int x] : List Value).toArray s 0 0 (fun _ => False)) (F0 m 4 ls []) := by
    intro k
    induction k with
    | zero => intro a y ls h1 h2; omega
    | succ k ih =>
      intro a y ls h1 h2 hy hl
      refine lv_iload_n hx hb dX0_factsFrom_4 rfl (lv_at hl 0 rfl) ?_
      refine lv_aload_n hx hb dX0_factsFrom_5 rfl (lv_at hl 2 rfl) ?_
      refine va_get (D := D) (ci := 1) (v := .int (nI n)) (C := RX0) (T := TX0) (N := 7) hx hb hts iX0 hown hK hP 0 rfl rfl 4 (by decide) (hts (.fieldLink RX0 25 "LeastSets$Axioms" "count" "I") (by decide +kernel)) (fun _ h9 => h9) rfl dX0_factsFrom_6 ?_
      refine r_ige hx hb (tgt := 25) (by omega) (by omega) dX0_factsFrom_9 (by decide) (fun c_9 => ?_) (fun c_9 => ?_)
      · refine lv_iload_n hx hb dX0_factsFrom_25 rfl (lv_at hl 1 rfl) ?_
        exact W.iret (v := y) hx hb hr (fun t ht hW => ⟨y, rfl, (by rw [hy, show a = n by omega]), ht⟩) (fun q h => by cases h) dX0_factsFrom_26
      · refine lv_aload_n hx hb dX0_factsFrom_12 rfl (lv_at hl 2 rfl) ?_
        refine lv_iload_n hx hb dX0_factsFrom_13 rfl (lv_at hl 3 rfl) ?_
        refine lv_iload_n hx hb dX0_factsFrom_14 rfl (lv_at hl 1 rfl) ?_
        refine vp_callSi (va_runV (As := [.int x, .int y]) (rest := []) ⟨hx, hb, hml, hown, hts⟩ (c_X0_oneStepMore l D cI cZ cJ qa qb qh qw qf qu qg n hn Bd Hd x y) (cwV 2 hts gX0_factsFrom_X0_oneStepMore rfl rfl rfl (by decide +kernel) ⟨Nat.le_of_ble_eq_true rfl, Nat.le_of_ble_eq_true rfl⟩) ⟨ro_blind, va_recv hK hP (ci := 1) (q0 := 0) rfl rfl, ro_pre (hP.sub (ws' := [(qa, .inr (1, [.ref qb, .ref qh, .ref qw, .ref qf, .int (nI n), .ref qu, .ref qg])), (qb, .inl (cI, 14, .inl Bd)), (qh, .inl (cI, 14, .inl Hd))]) [0, 1, 2] rfl) hK [0, 1, 2] rfl⟩ rfl rfl hl.1 rfl (lv_room (Nat.le_of_ble_eq_true rfl)) dX0_factsFrom_15 ⟨Nat.le_of_ble_eq_true rfl, Nat.le_of_ble_eq_true rfl⟩).run (fun r_15 hr_15 => ?_)
        refine lv_istore_n (lv' := [(2, .int r_15), (3, .int (nI a)), (0, .ref qa), (1, .int x)]) hx hb dX0_factsFrom_18 rfl hl (by decide) rfl (fun ls hl => ?_)
        refine lv_iinc (v := (nI (a + 1))) (lv' := [(3, .int (nI (a + 1))), (2, .int r_15), (0, .ref qa), (1, .int x)]) hx hb dX0_factsFrom_19 hl (k := 1) rfl (nI_inc _) (by decide) rfl (fun ls hl => ?_)
        refine lv_goto (tgt := 4) hx hb dX0_factsFrom_22 (by decide) ?_
        exact ih (a + 1) _ ls (by omega) (by omega) (by rw [hr_15, hy]; rfl) (lv_sub hl [0, 1, 2, 3] rfl)
  refine lv_iconst (v := 0) hx hb dX0_factsFrom_0 (by decide +kernel) ?_
  refine lv_istore_n (lv' := [(2, .int 0), (0, .ref qa), (1, .int x)]) hx hb dX0_factsFrom_1 rfl hl (by decide) rfl (fun ls hl => ?_)
  refine lv_iconst (v := (nI 0)) hx hb dX0_factsFrom_2 (by decide +kernel) ?_
  refine lv_istore_n (lv' := [(3, .int (nI 0)), (2, .int 0), (0, .ref qa), (1, .int x)]) hx hb dX0_factsFrom_3 rfl hl (by decide) rfl (fun ls hl => ?_)
  exact loop (n + 1) 0 _ ls (by omega) (Nat.zero_le _) (by rfl) (lv_sub hl [0, 1, 2, 3] rfl)
set_option maxHeartbeats 4000000 in
set_option maxRecDepth 100000 in
/-- words() -/
theorem c_X0_words (l : Launch) (D : va_G) (cI cZ cJ : ClassId) (qa qb qh qw qf qu qg : Nat) (n : Nat) (hn : n ≤ 14) : Met l yX0_words wsX0_words ({ frames := 0, cells := 0, slots := 0, locals := 0 } : Room) (va_Pc [.ref qa] (ro_ D [(cI, .int), (cZ, .boolean), (cJ, .long)] [(qa, .inr (1, [.ref qb, .ref qh, .ref qw, .ref qf, .int (nI n), .ref qu, .ref qg]))])) (vp_Si (fun r => r = nI (nwd_ n))) 0 0 (fun _ => False) := by
  refine Met.ofW (cc := cX0_words) (maxL := 1) (ret := (some .int)) (by decide) rfl ?_
  intro p e s m args below meth c s₁ B hml hv
  obtain ⟨rfl, hP, hK⟩ := hv
  have hx := B.exec
  have hb := B.bytes
  have hr := B.returns
  have hts := atoms_spec (ws := wsX0_words) B.pre
  have hown : s.vm.findClass RX0 = some m.cls := findClass_of_methodNamed B.named
  have hlocks := B.notSynchronized
  have iX0 : ∀ w ∈ u_ws RX0 TX0 7, w ∈ wsX0_words := by decide +kernel
  have hl := lv_entry ([.ref qa]) (n := 1) (Nat.le_of_ble_eq_true rfl)
  rw [lg_entry_eq]
  generalize (lg_sl ([.ref qa]) ++ List.replicate (1 - (lg_sl ([.ref qa])).length) Slot.unset).toArray = ls at hl ⊢
  have hl : lv_has ls 1 [(0, .ref qa)] := hl
  refine lv_aload_n hx hb dX0_words_0 rfl (lv_at hl 0 rfl) ?_
  refine va_get (D := D) (ci := 1) (v := .int (nI n)) (C := RX0) (T := TX0) (N := 7) hx hb hts iX0 hown hK hP 0 rfl rfl 4 (by decide) (hts (.fieldLink RX0 25 "LeastSets$Axioms" "count" "I") (by decide +kernel)) (fun _ h9 => h9) rfl dX0_words_1 ?_
  refine lv_bipush (v := (nI 6)) hx hb dX0_words_4 (by decide +kernel) ?_
  refine r_igt hx hb (tgt := 13) (by omega) (by omega) dX0_words_6 (by decide) (fun c_6 => ?_) (fun c_6 => ?_)
  · refine lv_iconst (v := 1) hx hb dX0_words_13 (by decide +kernel) ?_
    refine lv_aload_n hx hb dX0_words_14 rfl (lv_at hl 0 rfl) ?_
    refine va_get (D := D) (ci := 1) (v := .int (nI n)) (C := RX0) (T := TX0) (N := 7) hx hb hts iX0 hown hK hP 0 rfl rfl 4 (by decide) (hts (.fieldLink RX0 25 "LeastSets$Axioms" "count" "I") (by decide +kernel)) (fun _ h9 => h9) rfl dX0_words_15 ?_
    refine lv_bipush (v := 6) hx hb dX0_words_18 (by decide +kernel) ?_
    refine lv_isub hx hb dX0_words_20 ?_
    refine lv_ishl hx hb dX0_words_21 ?_
    exact W.iret (v := (1 <<< (((nI n) - 6) &&& 31))) hx hb hr (fun t ht hW => ⟨(1 <<< (((nI n) - 6) &&& 31)), rfl, by first | exact nwd_lo c_6 | exact nwd_hi' n hn c_6, ht⟩) (fun q h => by cases h) dX0_words_22
  · refine lv_iconst (v := (nI 1)) hx hb dX0_words_9 (by decide +kernel) ?_
    refine lv_goto (tgt := 22) hx hb dX0_words_10 (by decide) ?_
    exact W.iret (v := (nI 1)) hx hb hr (fun t ht hW => ⟨(nI 1), rfl, by first | exact nwd_lo c_6 | exact nwd_hi' n hn c_6, ht⟩) (fun q h => by cases h) dX0_words_22
set_option maxHeartbeats 4000000 in
set_option maxRecDepth 100000 in
/-- setsWith(a, v) -/
theorem c_X0_setsWith (l : Launch) (D : va_G) (cI cZ cJ : ClassId) (qa qb qh qw qf qu qg : Nat) (n : Nat) (hn : n ≤ 14) (t1 t2 : Nat) (a v : Nat) (ha : a < 14) (hv : v < 256) : Met l yX0_setsWith wsX0_setsWith ({ frames := 0, cells := 0, slots := 0, locals := 0 } : Room) (va_Pc [.ref qa, .int (nI a), .int (nI v)] (re_ D [] [] t1 t2)) (vp_Sl (fun r => sw_is a v r)) 0 0 (fun _ => False) := by
  refine Met.ofW (cc := cX0_setsWith) (maxL := 3) (ret := (some .long)) (by decide) rfl ?_
  intro p e s m args below meth c s₁ B hml hv
  obtain ⟨rfl, hP, hK, hE⟩ := hv
  have hx := B.exec
  have hb := B.bytes
  have hr := B.returns
  have hts := atoms_spec (ws := wsX0_setsWith) B.pre
  have hown : s.vm.findClass RX0 = some m.cls := findClass_of_methodNamed B.named
  have hlocks := B.notSynchronized
  have hS : va_S (fun _ => False) s.heap s.heap [] := va_S.rf
  have hl := lv_entry ([.ref qa, .int (nI a), .int (nI v)]) (n := 3) (Nat.le_of_ble_eq_true rfl)
  rw [lg_entry_eq]
  generalize (lg_sl ([.ref qa, .int (nI a), .int (nI v)]) ++ List.replicate (3 - (lg_sl ([.ref qa, .int (nI a), .int (nI v)])).length) Slot.unset).toArray = ls at hl ⊢
  have hl : lv_has ls 3 [(0, .ref qa), (1, .int (nI a)), (2, .int (nI v))] := hl
  refine lv_iload_n hx hb dX0_setsWith_0 rfl (lv_at hl 1 rfl) ?_
  refine lv_bipush (v := (nI 6)) hx hb dX0_setsWith_1 (by decide +kernel) ?_
  refine r_ige hx hb (tgt := 12) (by omega) (by omega) dX0_setsWith_3 (by decide) (fun c_3 => ?_) (fun c_3 => ?_)
  · refine lv_iload_n hx hb dX0_setsWith_12 rfl (lv_at hl 2 rfl) ?_
    refine lv_iload_n hx hb dX0_setsWith_13 rfl (lv_at hl 1 rfl) ?_
    refine lv_bipush (v := (nI 6)) hx hb dX0_setsWith_14 (by decide +kernel) ?_
    refine r_isub hx hb (by omega) dX0_setsWith_16 ?_
    refine lv_ishr hx hb dX0_setsWith_17 ?_
    refine lv_iconst (v := 1) hx hb dX0_setsWith_18 (by decide +kernel) ?_
    refine lv_iand hx hb dX0_setsWith_19 ?_
    refine lv_if_eq (tgt := 29) hx hb dX0_setsWith_20 (by decide) (fun c_20 => ?_) (fun c_20 => ?_)
    · refine lv_lconst (v := 0) hx hb dX0_setsWith_29 (by decide +kernel) ?_
      exact W.lret (v := 0) hx hb hr (fun t ht hW => ⟨0, rfl, by first | exact sw_lo c_3 | exact sw_hi0 (by omega) ha c_20 | exact sw_hi1 (by omega) ha c_20, ht⟩) (fun q h => by cases h) dX0_setsWith_30
    · refine lv_ldc2 (v := (-1)) hx hb hown (hts (.constantLong RX0 52 (-1)) (by decide +kernel)) dX0_setsWith_23 ?_
      refine lv_goto (tgt := 30) hx hb dX0_setsWith_26 (by decide) ?_
      exact W.lret (v := (-1)) hx hb hr (fun t ht hW => ⟨(-1), rfl, by first | exact sw_lo c_3 | exact sw_hi0 (by omega) ha c_20 | exact sw_hi1 (by omega) ha c_20, ht⟩) (fun q h => by cases h) dX0_setsWith_30
  · refine va_getsN (host := "LeastSets") hx hb hE.2.1 hS hown (va_Nw.use rfl (hE.1 _ (List.mem_of_getElem? (i := 5) rfl))) (fun _ h9 => h9) dX0_setsWith_6 ?_
    refine lv_iload_n hx hb dX0_setsWith_9 rfl (lv_at hl 1 rfl) ?_
    refine va_tl (v := .long (pw_ a)) hx hb hE.2.2.1 hS (vp_in_nI c_3 (by omega)) (by rw [nI_clamp (by omega)]) dX0_setsWith_10 ?_
    exact W.lret (v := (pw_ a)) hx hb hr (fun t ht hW => ⟨(pw_ a), rfl, by first | exact sw_lo c_3 | exact sw_hi0 (by omega) ha c_20 | exact sw_hi1 (by omega) ha c_20, ht⟩) (fun q h => by cases h) dX0_setsWith_11
