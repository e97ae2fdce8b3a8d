/-! ===== what holds at the start ===== -/
theorem arr_known {ty : FieldType} {args : Array Value} {s : State} (h : (Cond.arrayClass ty).before args s = true) : ∃ cA : ClassId, ArrOfT s cA ty ∧ s.vm.findClass ("[" ++ ty.toString) = some cA := by
  obtain ⟨cA, kA, comp, h1, h2, h3⟩ := Cond.arrayClass_spec h
  exact ⟨cA, fun n z => ⟨fun k h => (by cases h), kA, h2, comp, h3⟩, h1⟩
set_option maxRecDepth 100000 in
theorem st_K {b : Nat} {s : State} (htl : ∀ w ∈ lw_tbl, w.before #[Value.ref b] s = true) : ∃ (D : va_G) (cI cZ cJ : ClassId), va_K D vwCl [(cI, .int), (cZ, .boolean), (cJ, .long)] s := by
  obtain ⟨c0, i0, h0⟩ := u_known (C := RJx00060) (T := TJx00060) (N := 6) htl (by decide +kernel) (htl (.instantiable RJx00060 6) (by decide +kernel))
  obtain ⟨c1, i1, h1⟩ := u_known (C := RX0) (T := TX0) (N := 7) htl (by decide +kernel) (htl (.instantiable RX0 7) (by decide +kernel))
  obtain ⟨c2, i2, h2⟩ := u_known (C := RX1) (T := TX1) (N := 2) htl (by decide +kernel) (htl (.instantiable RX1 2) (by decide +kernel))
  obtain ⟨c3, i3, h3⟩ := u_known (C := RX2) (T := TX2) (N := 2) htl (by decide +kernel) (htl (.instantiable RX2 2) (by decide +kernel))
  obtain ⟨c4, i4, h4⟩ := u_known (C := RX3) (T := TX3) (N := 7) htl (by decide +kernel) (htl (.instantiable RX3 7) (by decide +kernel))
  obtain ⟨c5, i5, h5⟩ := u_known (C := RX4) (T := TX4) (N := 14) htl (by decide +kernel) (htl (.instantiable RX4 14) (by decide +kernel))
  obtain ⟨cI, aI, nI_⟩ := arr_known (htl (.arrayClass .int) (by decide +kernel))
  obtain ⟨cZ, aZ, nZ_⟩ := arr_known (htl (.arrayClass .boolean) (by decide +kernel))
  obtain ⟨cJ, aJ, nJ_⟩ := arr_known (htl (.arrayClass .long) (by decide +kernel))
  refine ⟨(fun k => [c0, c1, c2, c3, c4, c5].getD k 0, fun k => [i0, i1, i2, i3, i4, i5].getD k i0), cI, cZ, cJ, fun k q hq => ?_, fun k q hq => ?_⟩
  · match k, hq with
    | 0, hq => cases hq; exact h0
    | 1, hq => cases hq; exact h1
    | 2, hq => cases hq; exact h2
    | 3, hq => cases hq; exact h3
    | 4, hq => cases hq; exact h4
    | 5, hq => cases hq; exact h5
    | k + 6, hq => cases hq
  · match k, hq with
    | 0, hq => cases hq; exact ⟨aI, nI_⟩
    | 1, hq => cases hq; exact ⟨aZ, nZ_⟩
    | 2, hq => cases hq; exact ⟨aJ, nJ_⟩
    | k + 3, hq => cases hq
theorem nl_in : ∀ w ∈ nl_, w ∈ lw_tbl := by decide +kernel
theorem nl_on : ∀ w ∈ nl_, w.onTables = true := by decide +kernel
set_option maxRecDepth 100000 in
theorem st_E {b : Nat} {s : State} {A : Nat → Prop} (hA : ∀ a : Nat, a < s.heap.size → ¬ A a) (htl : ∀ w ∈ lw_tbl, w.before #[Value.ref b] s = true) (hgv : (Jvm.Cond.and given_1 narrow_1).before #[Value.ref b] s = true) : ∃ t1 t2, EN_ t1 t2 A s := by
  have hs := flat_of_before _ hgv
  obtain ⟨t1, e1, h1⟩ := va_Tof (tm := .static "LeastSets" "PLACES_WITH" "[J") (ty := .long) (N := 6) (f := fun k => .long (pw_ k)) (by decide) (hs _ (by decide +kernel)) (va_eqt (z := 6) (hs _ (by decide +kernel))) (fun j hj => by
    match j, hj with
    | 0, _ => exact va_eqtl (z := -6148914691236517206) (hs _ (by decide +kernel))
    | 1, _ => exact va_eqtl (z := -3689348814741910324) (hs _ (by decide +kernel))
    | 2, _ => exact va_eqtl (z := -1085102592571150096) (hs _ (by decide +kernel))
    | 3, _ => exact va_eqtl (z := -71777214294589696) (hs _ (by decide +kernel))
    | 4, _ => exact va_eqtl (z := -281470681808896) (hs _ (by decide +kernel))
    | 5, _ => exact va_eqtl (z := -4294967296) (hs _ (by decide +kernel))
    | k + 6, hk => omega) hA
  obtain ⟨t2, e2, h2⟩ := va_Tof (tm := .static "LeastSets" "PLACES_OF_SIZE" "[J") (ty := .long) (N := 7) (f := fun k => .long (ps_ k)) (by decide) (hs _ (by decide +kernel)) (va_eqt (z := 7) (hs _ (by decide +kernel))) (fun j hj => by
    match j, hj with
    | 0, _ => exact va_eqtl (z := 1) (hs _ (by decide +kernel))
    | 1, _ => exact va_eqtl (z := 4295033110) (hs _ (by decide +kernel))
    | 2, _ => exact va_eqtl (z := 282668995843688) (hs _ (by decide +kernel))
    | 3, _ => exact va_eqtl (z := 78274679833913472) (hs _ (by decide +kernel))
    | 4, _ => exact va_eqtl (z := 1614655367130677248) (hs _ (by decide +kernel))
    | 5, _ => exact va_eqtl (z := 7530159316599308288) (hs _ (by decide +kernel))
    | 6, _ => exact va_eqtl (z := -9223372036854775808) (hs _ (by decide +kernel))
    | k + 7, hk => omega) hA
  exact ⟨t1, t2, fun w h => va_Nw.of (nl_on w h) (htl w (nl_in w h)), va_Zof (htl (.laysStatic "LeastSets" "PLACES_WITH" "[J") (by decide +kernel)) (htl (.initialized "LeastSets") (by decide +kernel)) e1 hA, h1, va_Zof (htl (.laysStatic "LeastSets" "PLACES_OF_SIZE" "[J") (by decide +kernel)) (htl (.initialized "LeastSets") (by decide +kernel)) e2 hA, h2⟩
theorem str_ref {args : Array Value} {s : State} {t : Term} {C : String} (h : (Cond.exactly t C).before args s = true) : ∃ a : Nat, t.eval args s none [] s = some (.ref a) := by
  cases hv : t.eval args s none [] s with
  | none => simp [Cond.before, Cond.holds, Cond.value, hv] at h
  | some w =>
    cases w with
    | ref a => exact ⟨a, rfl⟩
    | null =>
      simp only [Cond.before, Cond.holds, Cond.value, hv] at h
      cases hc : s.vm.findClass C <;> simp [hc] at h
    | _ => simp [Cond.before, Cond.holds, Cond.value, hv] at h
theorem st_T {b : Nat} {s : State} {A : Nat → Prop} (hA : ∀ a : Nat, a < s.heap.size → ¬ A a) (htl : ∀ w ∈ lw_tbl, w.before #[Value.ref b] s = true) (hgv : (Jvm.Cond.and given_1 narrow_1).before #[Value.ref b] s = true) : ∃ sa, TH_ A sa s := by
  have hs := flat_of_before _ hgv
  obtain ⟨sa, hsa⟩ := str_ref (t := .string "LeastSets" 114) (C := "java/lang/String") (hs _ (by decide +kernel))
  exact ⟨sa, zs_of (htl _ (by decide +kernel)) (hs _ (by decide +kernel)) hA, zs_of (htl _ (by decide +kernel)) (hs _ (by decide +kernel)) hA, vk_R.of (htl _ (by decide +kernel)) hsa, fun w q => (kf_any (thB_kf w q).1 (a := #[]) (a' := #[Value.ref b]) (U := s) (U' := s) rfl).trans (htl w (thB_in w q))⟩
