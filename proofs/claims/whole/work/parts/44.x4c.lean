set_option maxHeartbeats 4000000 in
set_option maxRecDepth 100000 in
/-- axioms() -/
theorem c_X4_axioms (l : Launch) (D : va_G) (cI cZ cJ : ClassId) (t1 t2 sz : Nat) (qy m1 m2 m3 m4 m5 m6 m7 : Nat) (n : Nat) (Bd Hd Wt Fx : Nat → Int32) (g : Nat) (kn : Int32) (Gv : Nat → Int32) (z1 : Nat) (S1 : Nat → Int32) (z2 : Nat) (S2 : Nat → Int32) (sp th : Int32) (hc : CO_ n Bd Hd Fx g) (hi : IM_ n Bd Hd Fx g kn z1 S1 z2 S2) : Met l yX4_axioms wsX4_axioms ({ frames := 0, cells := 0, slots := 0, locals := 0 } : Room) (va_Pc [.ref qy] (wr_ D [(cI, .int), (cZ, .boolean), (cJ, .long)] [(qy, .inr (5, [.ref m1, .ref m2, .ref m3, .ref m4, .int (nI n), .int (nI g), .int kn, .ref m5, .ref m6, .int (nI z1), .ref m7, .int (nI z2), .int sp, .int th])), (m1, .inl (cI, 14, .inl Bd)), (m2, .inl (cI, 14, .inl Hd)), (m3, .inl (cI, 14, .inl Wt)), (m4, .inl (cZ, 14, .inl Fx)), (m5, .inl (cZ, 16384, .inl Gv)), (m6, .inl (cI, 4000, .inl S1)), (m7, .inl (cI, 4000, .inl S2))] t1 t2 sz)) (va_Qi (S := Co_ × Jm_) (fun r u => u.1 = (n, Bd, Hd, Wt, Fx, g) ∧ q_axioms (n, Bd, Hd, Wt, Fx, g) r ∧ cok_ u.1 ∧ im_ u.1 u.2) (fun u => wd_ D [(cI, .int), (cZ, .boolean), (cJ, .long)] (va_A [(qy, .inr (5, [.ref m1, .ref m2, .ref m3, .ref m4, .int (nI n), .int (nI g), .int kn, .ref m5, .ref m6, .int (nI z1), .ref m7, .int (nI z2), .int sp, .int th])), (m1, .inl (cI, 14, .inl Bd)), (m2, .inl (cI, 14, .inl Hd)), (m3, .inl (cI, 14, .inl Wt)), (m4, .inl (cZ, 14, .inl Fx)), (m5, .inl (cZ, 16384, .inl Gv)), (m6, .inl (cI, 4000, .inl S1)), (m7, .inl (cI, 4000, .inl S2))] sz) [(qy, .inr (5, [.ref m1, .ref m2, .ref m3, .ref m4, .int (nI u.1.1), .int (nI u.1.2.2.2.2.2), .int u.2.1, .ref m5, .ref m6, .int (nI u.2.2.2.1), .ref m7, .int (nI u.2.2.2.2.2.1), .int u.2.2.2.2.2.2.2.1, .int u.2.2.2.2.2.2.2.2])), (m1, .inl (cI, 14, .inl u.1.2.1)), (m2, .inl (cI, 14, .inl u.1.2.2.1)), (m3, .inl (cI, 14, .inl u.1.2.2.2.1)), (m4, .inl (cZ, 14, .inl u.1.2.2.2.2.1)), (m5, .inl (cZ, 16384, .inl u.2.2.1)), (m6, .inl (cI, 4000, .inl u.2.2.2.2.1)), (m7, .inl (cI, 4000, .inl u.2.2.2.2.2.2.1))]) (va_A [(qy, .inr (5, [.ref m1, .ref m2, .ref m3, .ref m4, .int (nI n), .int (nI g), .int kn, .ref m5, .ref m6, .int (nI z1), .ref m7, .int (nI z2), .int sp, .int th])), (m1, .inl (cI, 14, .inl Bd)), (m2, .inl (cI, 14, .inl Hd)), (m3, .inl (cI, 14, .inl Wt)), (m4, .inl (cZ, 14, .inl Fx)), (m5, .inl (cZ, 16384, .inl Gv)), (m6, .inl (cI, 4000, .inl S1)), (m7, .inl (cI, 4000, .inl S2))] sz)) 0 0 (va_A [(qy, .inr (5, [.ref m1, .ref m2, .ref m3, .ref m4, .int (nI n), .int (nI g), .int kn, .ref m5, .ref m6, .int (nI z1), .ref m7, .int (nI z2), .int sp, .int th])), (m1, .inl (cI, 14, .inl Bd)), (m2, .inl (cI, 14, .inl Hd)), (m3, .inl (cI, 14, .inl Wt)), (m4, .inl (cZ, 14, .inl Fx)), (m5, .inl (cZ, 16384, .inl Gv)), (m6, .inl (cI, 4000, .inl S1)), (m7, .inl (cI, 4000, .inl S2))] sz) := by
  refine Met.ofW (cc := cX4_axioms) (maxL := 1) (ret := (some .int)) (by decide) rfl ?_
  intro p e s m args below meth c s₁ B hml hv
  obtain ⟨rfl, hsz, hP, hK, hD0, hE⟩ := hv
  have hx := B.exec
  have hb := B.bytes
  have hr := B.returns
  have hts := atoms_spec (ws := wsX4_axioms) B.pre
  have hown : s.vm.findClass RX4 = some m.cls := findClass_of_methodNamed B.named
  have hlocks := B.notSynchronized
  have iX4 : ∀ w ∈ u_ws RX4 TX4 14, w ∈ wsX4_axioms := by decide +kernel
  subst hsz
  have hD := hD0.self (sz := s.heap.size)
  generalize hAe : va_A [(qy, .inr (5, [.ref m1, .ref m2, .ref m3, .ref m4, .int (nI n), .int (nI g), .int kn, .ref m5, .ref m6, .int (nI z1), .ref m7, .int (nI z2), .int sp, .int th])), (m1, .inl (cI, 14, .inl Bd)), (m2, .inl (cI, 14, .inl Hd)), (m3, .inl (cI, 14, .inl Wt)), (m4, .inl (cZ, 14, .inl Fx)), (m5, .inl (cZ, 16384, .inl Gv)), (m6, .inl (cI, 4000, .inl S1)), (m7, .inl (cI, 4000, .inl S2))] s.heap.size = A at hD hE ⊢
  have hA : ∀ q : Nat, s.heap.size ≤ q → A q := fun q h => by rw [← hAe]; exact Or.inr h
  have hS : va_S A s.heap s.heap [] := va_S.rf
  obtain ⟨hn, hg, hok0, hF⟩ := id hc
  have hok : ∀ a, a < n → uI_ (Hd a) < 24 := fun a ha => (hok0 a ha).2
  have hl := lv_entry ([.ref qy]) (n := 1) (Nat.le_of_ble_eq_true rfl)
  rw [lg_entry_eq]
  generalize (lg_sl ([.ref qy]) ++ List.replicate (1 - (lg_sl ([.ref qy])).length) Slot.unset).toArray = ls at hl ⊢
  have hl : lv_has ls 1 [(0, .ref qy)] := hl
  refine lv_aload_n hx hb dX4_axioms_0 rfl (lv_at hl 0 rfl) ?_
  refine lv_iconst (v := 0) hx hb dX4_axioms_1 (by decide +kernel) ?_
  refine va_put (D := D) (ci := 5) (v := .int 0) (ty := .int) (C := RX4) (T := TX4) (N := 14) hx hb hts iX4 tyX4 tyX4_ok nmX4 hown hK hP hD hS 0 rfl rfl 13 (by decide) (hts (.fieldLink RX4 32 "LeastSetsModel" "thrown" "I") (by decide +kernel)) (fun _ h9 => h9) rfl (by decide +kernel) rfl rfl (Nat.le_of_ble_eq_true rfl) dX4_axioms_2 (fun H locs hP hD hS => ?_)
  have hP : va_P D vwCl [(qy, .inr (5, [.ref m1, .ref m2, .ref m3, .ref m4, .int (nI n), .int (nI g), .int kn, .ref m5, .ref m6, .int (nI z1), .ref m7, .int (nI z2), .int sp, .int 0])), (m1, .inl (cI, 14, .inl Bd)), (m2, .inl (cI, 14, .inl Hd)), (m3, .inl (cI, 14, .inl Wt)), (m4, .inl (cZ, 14, .inl Fx)), (m5, .inl (cZ, 16384, .inl Gv)), (m6, .inl (cI, 4000, .inl S1)), (m7, .inl (cI, 4000, .inl S2))] H := hP
  have hD : va_D A [(qy, .inr (5, [.ref m1, .ref m2, .ref m3, .ref m4, .int (nI n), .int (nI g), .int kn, .ref m5, .ref m6, .int (nI z1), .ref m7, .int (nI z2), .int sp, .int 0])), (m1, .inl (cI, 14, .inl Bd)), (m2, .inl (cI, 14, .inl Hd)), (m3, .inl (cI, 14, .inl Wt)), (m4, .inl (cZ, 14, .inl Fx)), (m5, .inl (cZ, 16384, .inl Gv)), (m6, .inl (cI, 4000, .inl S1)), (m7, .inl (cI, 4000, .inl S2))] := hD
  refine lv_aload_n hx hb dX4_axioms_5 rfl (lv_at hl 0 rfl) ?_
  refine va_get (D := D) (ci := 5) (v := .int (nI n)) (C := RX4) (T := TX4) (N := 14) hx hb hts iX4 hown hK hP 0 rfl rfl 4 (by decide) (hts (.fieldLink RX4 36 "LeastSetsModel" "count" "I") (by decide +kernel)) (fun _ h9 => h9) rfl dX4_axioms_6 ?_
  exact W.iret (v := (nI n)) hx hb hr (fun t ht hW => ⟨⟨(nI n), ((n, Bd, Hd, Wt, Fx, g), (kn, Gv, z1, S1, z2, S2, sp, 0)), rfl, ⟨rfl, rfl, hc, hi⟩, by rw [ht]; exact hP, va_K.moved hW.alike hK, hD⟩, hS.F ht⟩) hS.2.2 dX4_axioms_9
set_option maxHeartbeats 4000000 in
set_option maxRecDepth 100000 in
/-- follow(x) -/
theorem c_X4_follow (l : Launch) (D : va_G) (cI cZ cJ : ClassId) (t1 t2 sz : Nat) (qy m1 m2 m3 m4 m5 m6 m7 : Nat) (n : Nat) (Bd Hd Wt Fx : Nat → Int32) (g : Nat) (kn : Int32) (Gv : Nat → Int32) (z1 : Nat) (S1 : Nat → Int32) (z2 : Nat) (S2 : Nat → Int32) (sp th : Int32) (hc : CO_ n Bd Hd Fx g) (hi : IM_ n Bd Hd Fx g kn z1 S1 z2 S2) (x : Int32) : Met l yX4_follow wsX4_follow ({ frames := 1, cells := 0, slots := 0, locals := 26 } : Room) (va_Pc [.ref qy, .int x] (wr_ D [(cI, .int), (cZ, .boolean), (cJ, .long)] [(qy, .inr (5, [.ref m1, .ref m2, .ref m3, .ref m4, .int (nI n), .int (nI g), .int kn, .ref m5, .ref m6, .int (nI z1), .ref m7, .int (nI z2), .int sp, .int th])), (m1, .inl (cI, 14, .inl Bd)), (m2, .inl (cI, 14, .inl Hd)), (m3, .inl (cI, 14, .inl Wt)), (m4, .inl (cZ, 14, .inl Fx)), (m5, .inl (cZ, 16384, .inl Gv)), (m6, .inl (cI, 4000, .inl S1)), (m7, .inl (cI, 4000, .inl S2))] t1 t2 sz)) (va_Qi (S := Co_ × Jm_) (fun r u => u.1 = (n, Bd, Hd, Wt, Fx, g) ∧ q_follow (n, Bd, Hd, Wt, Fx, g) x r ∧ cok_ u.1 ∧ im_ u.1 u.2) (fun u => wd_ D [(cI, .int), (cZ, .boolean), (cJ, .long)] (va_A [(qy, .inr (5, [.ref m1, .ref m2, .ref m3, .ref m4, .int (nI n), .int (nI g), .int kn, .ref m5, .ref m6, .int (nI z1), .ref m7, .int (nI z2), .int sp, .int th])), (m1, .inl (cI, 14, .inl Bd)), (m2, .inl (cI, 14, .inl Hd)), (m3, .inl (cI, 14, .inl Wt)), (m4, .inl (cZ, 14, .inl Fx)), (m5, .inl (cZ, 16384, .inl Gv)), (m6, .inl (cI, 4000, .inl S1)), (m7, .inl (cI, 4000, .inl S2))] sz) [(qy, .inr (5, [.ref m1, .ref m2, .ref m3, .ref m4, .int (nI u.1.1), .int (nI u.1.2.2.2.2.2), .int u.2.1, .ref m5, .ref m6, .int (nI u.2.2.2.1), .ref m7, .int (nI u.2.2.2.2.2.1), .int u.2.2.2.2.2.2.2.1, .int u.2.2.2.2.2.2.2.2])), (m1, .inl (cI, 14, .inl u.1.2.1)), (m2, .inl (cI, 14, .inl u.1.2.2.1)), (m3, .inl (cI, 14, .inl u.1.2.2.2.1)), (m4, .inl (cZ, 14, .inl u.1.2.2.2.2.1)), (m5, .inl (cZ, 16384, .inl u.2.2.1)), (m6, .inl (cI, 4000, .inl u.2.2.2.2.1)), (m7, .inl (cI, 4000, .inl u.2.2.2.2.2.2.1))]) (va_A [(qy, .inr (5, [.ref m1, .ref m2, .ref m3, .ref m4, .int (nI n), .int (nI g), .int kn, .ref m5, .ref m6, .int (nI z1), .ref m7, .int (nI z2), .int sp, .int th])), (m1, .inl (cI, 14, .inl Bd)), (m2, .inl (cI, 14, .inl Hd)), (m3, .inl (cI, 14, .inl Wt)), (m4, .inl (cZ, 14, .inl Fx)), (m5, .inl (cZ, 16384, .inl Gv)), (m6, .inl (cI, 4000, .inl S1)), (m7, .inl (cI, 4000, .inl S2))] sz)) 0 0 (va_A [(qy, .inr (5, [.ref m1, .ref m2, .ref m3, .ref m4, .int (nI n), .int (nI g), .int kn, .ref m5, .ref m6, .int (nI z1), .ref m7, .int (nI z2), .int sp, .int th])), (m1, .inl (cI, 14, .inl Bd)), (m2, .inl (cI, 14, .inl Hd)), (m3, .inl (cI, 14, .inl Wt)), (m4, .inl (cZ, 14, .inl Fx)), (m5, .inl (cZ, 16384, .inl Gv)), (m6, .inl (cI, 4000, .inl S1)), (m7, .inl (cI, 4000, .inl S2))] sz) := by
  refine Met.ofW (cc := cX4_follow) (maxL := 2) (ret := (some .int)) (by decide) rfl ?_
  intro p e s m args below meth c s₁ B hml hv
  obtain ⟨rfl, hsz, hP, hK, hD0, hE⟩ := hv
  have hx := B.exec
  have hb := B.bytes
  have hr := B.returns
  have hts := atoms_spec (ws := wsX4_follow) B.pre
  have hown : s.vm.findClass RX4 = some m.cls := findClass_of_methodNamed B.named
  have hlocks := B.notSynchronized
  have iX4 : ∀ w ∈ u_ws RX4 TX4 14, w ∈ wsX4_follow := by decide +kernel
  subst hsz
  have hD := hD0.self (sz := s.heap.size)
  generalize hAe : va_A [(qy, .inr (5, [.ref m1, .ref m2, .ref m3, .ref m4, .int (nI n), .int (nI g), .int kn, .ref m5, .ref m6, .int (nI z1), .ref m7, .int (nI z2), .int sp, .int th])), (m1, .inl (cI, 14, .inl Bd)), (m2, .inl (cI, 14, .inl Hd)), (m3, .inl (cI, 14, .inl Wt)), (m4, .inl (cZ, 14, .inl Fx)), (m5, .inl (cZ, 16384, .inl Gv)), (m6, .inl (cI, 4000, .inl S1)), (m7, .inl (cI, 4000, .inl S2))] s.heap.size = A at hD hE ⊢
  have hA : ∀ q : Nat, s.heap.size ≤ q → A q := fun q h => by rw [← hAe]; exact Or.inr h
  have hS : va_S A s.heap s.heap [] := va_S.rf
  obtain ⟨hn, hg, hok0, hF⟩ := id hc
  have hok : ∀ a, a < n → uI_ (Hd a) < 24 := fun a ha => (hok0 a ha).2
  have hl := lv_entry ([.ref qy, .int x]) (n := 2) (Nat.le_of_ble_eq_true rfl)
  rw [lg_entry_eq]
  generalize (lg_sl ([.ref qy, .int x]) ++ List.replicate (2 - (lg_sl ([.ref qy, .int x])).length) Slot.unset).toArray = ls at hl ⊢
  have hl : lv_has ls 2 [(0, .ref qy), (1, .int x)] := hl
  refine lv_aload_n hx hb dX4_follow_0 rfl (lv_at hl 0 rfl) ?_
  refine lv_iconst (v := 0) hx hb dX4_follow_1 (by decide +kernel) ?_
  refine va_put (D := D) (ci := 5) (v := .int 0) (ty := .int) (C := RX4) (T := TX4) (N := 14) hx hb hts iX4 tyX4 tyX4_ok nmX4 hown hK hP hD hS 0 rfl rfl 13 (by decide) (hts (.fieldLink RX4 32 "LeastSetsModel" "thrown" "I") (by decide +kernel)) (fun _ h9 => h9) rfl (by decide +kernel) rfl rfl (Nat.le_of_ble_eq_true rfl) dX4_follow_2 (fun H locs hP hD hS => ?_)
  have hP : va_P D vwCl [(qy, .inr (5, [.ref m1, .ref m2, .ref m3, .ref m4, .int (nI n), .int (nI g), .int kn, .ref m5, .ref m6, .int (nI z1), .ref m7, .int (nI z2), .int sp, .int 0])), (m1, .inl (cI, 14, .inl Bd)), (m2, .inl (cI, 14, .inl Hd)), (m3, .inl (cI, 14, .inl Wt)), (m4, .inl (cZ, 14, .inl Fx)), (m5, .inl (cZ, 16384, .inl Gv)), (m6, .inl (cI, 4000, .inl S1)), (m7, .inl (cI, 4000, .inl S2))] H := hP
  have hD : va_D A [(qy, .inr (5, [.ref m1, .ref m2, .ref m3, .ref m4, .int (nI n), .int (nI g), .int kn, .ref m5, .ref m6, .int (nI z1), .ref m7, .int (nI z2), .int sp, .int 0])), (m1, .inl (cI, 14, .inl Bd)), (m2, .inl (cI, 14, .inl Hd)), (m3, .inl (cI, 14, .inl Wt)), (m4, .inl (cZ, 14, .inl Fx)), (m5, .inl (cZ, 16384, .inl Gv)), (m6, .inl (cI, 4000, .inl S1)), (m7, .inl (cI, 4000, .inl S2))] := hD
  refine lv_aload_n hx hb dX4_follow_5 rfl (lv_at hl 0 rfl) ?_
  refine lv_iload_n hx hb dX4_follow_6 rfl (lv_at hl 1 rfl) ?_
  have hPc := hP.sub (ws' := [(qy, .inr (5, [.ref m1, .ref m2, .ref m3, .ref m4, .int (nI n), .int (nI g), .int kn, .ref m5, .ref m6, .int (nI z1), .ref m7, .int (nI z2), .int sp, .int 0])), (m1, .inl (cI, 14, .inl Bd)), (m2, .inl (cI, 14, .inl Hd))]) [0, 1, 2] rfl
  have hDc := hD.sub (ws' := [(qy, .inr (5, [.ref m1, .ref m2, .ref m3, .ref m4, .int (nI n), .int (nI g), .int kn, .ref m5, .ref m6, .int (nI z1), .ref m7, .int (nI z2), .int sp, .int 0])), (m1, .inl (cI, 14, .inl Bd)), (m2, .inl (cI, 14, .inl Hd))]) [0, 1, 2] (by decide) rfl
  have hFc := va_free (wc := [(qy, .inr (5, [.ref m1, .ref m2, .ref m3, .ref m4, .int (nI n), .int (nI g), .int kn, .ref m5, .ref m6, .int (nI z1), .ref m7, .int (nI z2), .int sp, .int 0])), (m1, .inl (cI, 14, .inl Bd)), (m2, .inl (cI, 14, .inl Hd))]) hD hS hA [0, 1, 2] rfl
  refine va_calli (va_runV (As := [.int x]) (rest := []) ⟨hx, hb, hml, hown, hts⟩ (c_X4_reckon l D cI cZ cJ t1 t2 _ qy m1 m2 m3 m4 m5 m6 m7 n Bd Hd Wt Fx g kn Gv z1 S1 z2 S2 sp 0 hn hg hok x) (cwV 1 hts gX4_follow_X4_reckon rfl rfl rfl (by decide +kernel) ⟨Nat.le_of_ble_eq_true rfl, Nat.le_of_ble_eq_true rfl⟩) ⟨wr_blind, va_recv hK hP (ci := 5) (q0 := 0) rfl rfl, wr_pre hPc hDc hK hE hS hFc [0, 1, 2] rfl⟩ rfl rfl hl.1 rfl (lv_room (Nat.le_of_ble_eq_true rfl)) dX4_follow_7 ⟨Nat.le_of_ble_eq_true rfl, Nat.le_of_ble_eq_true rfl⟩) hS (fun q _ h => hFc q h) hFc (fun r_7 u_7 t H locs ht hvm hw_7 hB hz1 hk1 hS => ?_)
  obtain ⟨hP1, hK1, hD1⟩ := hB
  rw [ht] at hP1
  obtain ⟨hP, hD⟩ := va_join (wr := [(m3, .inl (cI, 14, .inl Wt)), (m4, .inl (cZ, 14, .inl Fx)), (m5, .inl (cZ, 16384, .inl Gv)), (m6, .inl (cI, 4000, .inl S1)), (m7, .inl (cI, 4000, .inl S2))]) (w1 := [(qy, .inr (5, [.ref m1, .ref m2, .ref m3, .ref m4, .int (nI n), .int (nI g), .int kn, .ref m5, .ref m6, .int (nI z1), .ref m7, .int (nI z2), .int u_7, .int 0])), (m1, .inl (cI, 14, .inl Bd)), (m2, .inl (cI, 14, .inl Hd))]) hP hD [0, 1, 2] [3, 4, 5, 6, 7] rfl rfl (by decide) (by decide) hk1 hFc hP1 hD1
  have hP : va_P D vwCl [(qy, .inr (5, [.ref m1, .ref m2, .ref m3, .ref m4, .int (nI n), .int (nI g), .int kn, .ref m5, .ref m6, .int (nI z1), .ref m7, .int (nI z2), .int u_7, .int 0])), (m1, .inl (cI, 14, .inl Bd)), (m2, .inl (cI, 14, .inl Hd)), (m3, .inl (cI, 14, .inl Wt)), (m4, .inl (cZ, 14, .inl Fx)), (m5, .inl (cZ, 16384, .inl Gv)), (m6, .inl (cI, 4000, .inl S1)), (m7, .inl (cI, 4000, .inl S2))] H := hP.sub [5, 6, 7, 0, 1, 2, 3, 4] rfl
  have hD : va_D A [(qy, .inr (5, [.ref m1, .ref m2, .ref m3, .ref m4, .int (nI n), .int (nI g), .int kn, .ref m5, .ref m6, .int (nI z1), .ref m7, .int (nI z2), .int u_7, .int 0])), (m1, .inl (cI, 14, .inl Bd)), (m2, .inl (cI, 14, .inl Hd)), (m3, .inl (cI, 14, .inl Wt)), (m4, .inl (cZ, 14, .inl Fx)), (m5, .inl (cZ, 16384, .inl Gv)), (m6, .inl (cI, 4000, .inl S1)), (m7, .inl (cI, 4000, .inl S2))] := hD.sub [5, 6, 7, 0, 1, 2, 3, 4] (by decide) rfl
  clear hPc hDc hFc hP1 hK1 hD1 hk1 hz1
  exact W.iret (v := r_7) hx hb hr (fun t ht hW => ⟨⟨r_7, ((n, Bd, Hd, Wt, Fx, g), (kn, Gv, z1, S1, z2, S2, u_7, 0)), rfl, ⟨rfl, hw_7.1, hc, hi⟩, by rw [ht]; exact hP, va_K.moved hW.alike hK, hD⟩, hS.F ht⟩) hS.2.2 dX4_follow_10
set_option maxHeartbeats 4000000 in
set_option maxRecDepth 100000 in
/-- steps(x) -/
theorem c_X4_steps (l : Launch) (D : va_G) (cI cZ cJ : ClassId) (t1 t2 sz : Nat) (qy m1 m2 m3 m4 m5 m6 m7 : Nat) (n : Nat) (Bd Hd Wt Fx : Nat → Int32) (g : Nat) (kn : Int32) (Gv : Nat → Int32) (z1 : Nat) (S1 : Nat → Int32) (z2 : Nat) (S2 : Nat → Int32) (sp th : Int32) (hc : CO_ n Bd Hd Fx g) (hi : IM_ n Bd Hd Fx g kn z1 S1 z2 S2) (x : Int32) : Met l yX4_steps wsX4_steps ({ frames := 1, cells := 0, slots := 0, locals := 26 } : Room) (va_Pc [.ref qy, .int x] (wr_ D [(cI, .int), (cZ, .boolean), (cJ, .long)] [(qy, .inr (5, [.ref m1, .ref m2, .ref m3, .ref m4, .int (nI n), .int (nI g), .int kn, .ref m5, .ref m6, .int (nI z1), .ref m7, .int (nI z2), .int sp, .int th])), (m1, .inl (cI, 14, .inl Bd)), (m2, .inl (cI, 14, .inl Hd)), (m3, .inl (cI, 14, .inl Wt)), (m4, .inl (cZ, 14, .inl Fx)), (m5, .inl (cZ, 16384, .inl Gv)), (m6, .inl (cI, 4000, .inl S1)), (m7, .inl (cI, 4000, .inl S2))] t1 t2 sz)) (va_Qi (S := Co_ × Jm_) (fun r u => u.1 = (n, Bd, Hd, Wt, Fx, g) ∧ q_steps (n, Bd, Hd, Wt, Fx, g) x r ∧ cok_ u.1 ∧ im_ u.1 u.2) (fun u => wd_ D [(cI, .int), (cZ, .boolean), (cJ, .long)] (va_A [(qy, .inr (5, [.ref m1, .ref m2, .ref m3, .ref m4, .int (nI n), .int (nI g), .int kn, .ref m5, .ref m6, .int (nI z1), .ref m7, .int (nI z2), .int sp, .int th])), (m1, .inl (cI, 14, .inl Bd)), (m2, .inl (cI, 14, .inl Hd)), (m3, .inl (cI, 14, .inl Wt)), (m4, .inl (cZ, 14, .inl Fx)), (m5, .inl (cZ, 16384, .inl Gv)), (m6, .inl (cI, 4000, .inl S1)), (m7, .inl (cI, 4000, .inl S2))] sz) [(qy, .inr (5, [.ref m1, .ref m2, .ref m3, .ref m4, .int (nI u.1.1), .int (nI u.1.2.2.2.2.2), .int u.2.1, .ref m5, .ref m6, .int (nI u.2.2.2.1), .ref m7, .int (nI u.2.2.2.2.2.1), .int u.2.2.2.2.2.2.2.1, .int u.2.2.2.2.2.2.2.2])), (m1, .inl (cI, 14, .inl u.1.2.1)), (m2, .inl (cI, 14, .inl u.1.2.2.1)), (m3, .inl (cI, 14, .inl u.1.2.2.2.1)), (m4, .inl (cZ, 14, .inl u.1.2.2.2.2.1)), (m5, .inl (cZ, 16384, .inl u.2.2.1)), (m6, .inl (cI, 4000, .inl u.2.2.2.2.1)), (m7, .inl (cI, 4000, .inl u.2.2.2.2.2.2.1))]) (va_A [(qy, .inr (5, [.ref m1, .ref m2, .ref m3, .ref m4, .int (nI n), .int (nI g), .int kn, .ref m5, .ref m6, .int (nI z1), .ref m7, .int (nI z2), .int sp, .int th])), (m1, .inl (cI, 14, .inl Bd)), (m2, .inl (cI, 14, .inl Hd)), (m3, .inl (cI, 14, .inl Wt)), (m4, .inl (cZ, 14, .inl Fx)), (m5, .inl (cZ, 16384, .inl Gv)), (m6, .inl (cI, 4000, .inl S1)), (m7, .inl (cI, 4000, .inl S2))] sz)) 0 0 (va_A [(qy, .inr (5, [.ref m1, .ref m2, .ref m3, .ref m4, .int (nI n), .int (nI g), .int kn, .ref m5, .ref m6, .int (nI z1), .ref m7, .int (nI z2), .int sp, .int th])), (m1, .inl (cI, 14, .inl Bd)), (m2, .inl (cI, 14, .inl Hd)), (m3, .inl (cI, 14, .inl Wt)), (m4, .inl (cZ, 14, .inl Fx)), (m5, .inl (cZ, 16384, .inl Gv)), (m6, .inl (cI, 4000, .inl S1)), (m7, .inl (cI, 4000, .inl S2))] sz) := by
  refine Met.ofW (cc := cX4_steps) (maxL := 2) (ret := (some .int)) (by decide) rfl ?_
  intro p e s m args below meth c s₁ B hml hv
  obtain ⟨rfl, hsz, hP, hK, hD0, hE⟩ := hv
  have hx := B.exec
  have hb := B.bytes
  have hr := B.returns
  have hts := atoms_spec (ws := wsX4_steps) B.pre
  have hown : s.vm.findClass RX4 = some m.cls := findClass_of_methodNamed B.named
  have hlocks := B.notSynchronized
  have iX4 : ∀ w ∈ u_ws RX4 TX4 14, w ∈ wsX4_steps := by decide +kernel
  subst hsz
  have hD := hD0.self (sz := s.heap.size)
  generalize hAe : va_A [(qy, .inr (5, [.ref m1, .ref m2, .ref m3, .ref m4, .int (nI n), .int (nI g), .int kn, .ref m5, .ref m6, .int (nI z1), .ref m7, .int (nI z2), .int sp, .int th])), (m1, .inl (cI, 14, .inl Bd)), (m2, .inl (cI, 14, .inl Hd)), (m3, .inl (cI, 14, .inl Wt)), (m4, .inl (cZ, 14, .inl Fx)), (m5, .inl (cZ, 16384, .inl Gv)), (m6, .inl (cI, 4000, .inl S1)), (m7, .inl (cI, 4000, .inl S2))] s.heap.size = A at hD hE ⊢
  have hA : ∀ q : Nat, s.heap.size ≤ q → A q := fun q h => by rw [← hAe]; exact Or.inr h
  have hS : va_S A s.heap s.heap [] := va_S.rf
  obtain ⟨hn, hg, hok0, hF⟩ := id hc
  have hok : ∀ a, a < n → uI_ (Hd a) < 24 := fun a ha => (hok0 a ha).2
  have hl := lv_entry ([.ref qy, .int x]) (n := 2) (Nat.le_of_ble_eq_true rfl)
  rw [lg_entry_eq]
  generalize (lg_sl ([.ref qy, .int x]) ++ List.replicate (2 - (lg_sl ([.ref qy, .int x])).length) Slot.unset).toArray = ls at hl ⊢
  have hl : lv_has ls 2 [(0, .ref qy), (1, .int x)] := hl
  refine lv_aload_n hx hb dX4_steps_0 rfl (lv_at hl 0 rfl) ?_
  refine lv_iconst (v := 0) hx hb dX4_steps_1 (by decide +kernel) ?_
  refine va_put (D := D) (ci := 5) (v := .int 0) (ty := .int) (C := RX4) (T := TX4) (N := 14) hx hb hts iX4 tyX4 tyX4_ok nmX4 hown hK hP hD hS 0 rfl rfl 13 (by decide) (hts (.fieldLink RX4 32 "LeastSetsModel" "thrown" "I") (by decide +kernel)) (fun _ h9 => h9) rfl (by decide +kernel) rfl rfl (Nat.le_of_ble_eq_true rfl) dX4_steps_2 (fun H locs hP hD hS => ?_)
  have hP : va_P D vwCl [(qy, .inr (5, [.ref m1, .ref m2, .ref m3, .ref m4, .int (nI n), .int (nI g), .int kn, .ref m5, .ref m6, .int (nI z1), .ref m7, .int (nI z2), .int sp, .int 0])), (m1, .inl (cI, 14, .inl Bd)), (m2, .inl (cI, 14, .inl Hd)), (m3, .inl (cI, 14, .inl Wt)), (m4, .inl (cZ, 14, .inl Fx)), (m5, .inl (cZ, 16384, .inl Gv)), (m6, .inl (cI, 4000, .inl S1)), (m7, .inl (cI, 4000, .inl S2))] H := hP
  have hD : va_D A [(qy, .inr (5, [.ref m1, .ref m2, .ref m3, .ref m4, .int (nI n), .int (nI g), .int kn, .ref m5, .ref m6, .int (nI z1), .ref m7, .int (nI z2), .int sp, .int 0])), (m1, .inl (cI, 14, .inl Bd)), (m2, .inl (cI, 14, .inl Hd)), (m3, .inl (cI, 14, .inl Wt)), (m4, .inl (cZ, 14, .inl Fx)), (m5, .inl (cZ, 16384, .inl Gv)), (m6, .inl (cI, 4000, .inl S1)), (m7, .inl (cI, 4000, .inl S2))] := hD
  refine lv_aload_n hx hb dX4_steps_5 rfl (lv_at hl 0 rfl) ?_
  refine lv_iload_n hx hb dX4_steps_6 rfl (lv_at hl 1 rfl) ?_
  have hPc := hP.sub (ws' := [(qy, .inr (5, [.ref m1, .ref m2, .ref m3, .ref m4, .int (nI n), .int (nI g), .int kn, .ref m5, .ref m6, .int (nI z1), .ref m7, .int (nI z2), .int sp, .int 0])), (m1, .inl (cI, 14, .inl Bd)), (m2, .inl (cI, 14, .inl Hd))]) [0, 1, 2] rfl
  have hDc := hD.sub (ws' := [(qy, .inr (5, [.ref m1, .ref m2, .ref m3, .ref m4, .int (nI n), .int (nI g), .int kn, .ref m5, .ref m6, .int (nI z1), .ref m7, .int (nI z2), .int sp, .int 0])), (m1, .inl (cI, 14, .inl Bd)), (m2, .inl (cI, 14, .inl Hd))]) [0, 1, 2] (by decide) rfl
  have hFc := va_free (wc := [(qy, .inr (5, [.ref m1, .ref m2, .ref m3, .ref m4, .int (nI n), .int (nI g), .int kn, .ref m5, .ref m6, .int (nI z1), .ref m7, .int (nI z2), .int sp, .int 0])), (m1, .inl (cI, 14, .inl Bd)), (m2, .inl (cI, 14, .inl Hd))]) hD hS hA [0, 1, 2] rfl
  refine va_calli (va_runV (As := [.int x]) (rest := []) ⟨hx, hb, hml, hown, hts⟩ (c_X4_reckon l D cI cZ cJ t1 t2 _ qy m1 m2 m3 m4 m5 m6 m7 n Bd Hd Wt Fx g kn Gv z1 S1 z2 S2 sp 0 hn hg hok x) (cwV 1 hts gX4_steps_X4_reckon rfl rfl rfl (by decide +kernel) ⟨Nat.le_of_ble_eq_true rfl, Nat.le_of_ble_eq_true rfl⟩) ⟨wr_blind, va_recv hK hP (ci := 5) (q0 := 0) rfl rfl, wr_pre hPc hDc hK hE hS hFc [0, 1, 2] rfl⟩ rfl rfl hl.1 rfl (lv_room (Nat.le_of_ble_eq_true rfl)) dX4_steps_7 ⟨Nat.le_of_ble_eq_true rfl, Nat.le_of_ble_eq_true rfl⟩) hS (fun q _ h => hFc q h) hFc (fun r_7 u_7 t H locs ht hvm hw_7 hB hz1 hk1 hS => ?_)
  obtain ⟨hP1, hK1, hD1⟩ := hB
  rw [ht] at hP1
  obtain ⟨hP, hD⟩ := va_join (wr := [(m3, .inl (cI, 14, .inl Wt)), (m4, .inl (cZ, 14, .inl Fx)), (m5, .inl (cZ, 16384, .inl Gv)), (m6, .inl (cI, 4000, .inl S1)), (m7, .inl (cI, 4000, .inl S2))]) (w1 := [(qy, .inr (5, [.ref m1, .ref m2, .ref m3, .ref m4, .int (nI n), .int (nI g), .int kn, .ref m5, .ref m6, .int (nI z1), .ref m7, .int (nI z2), .int u_7, .int 0])), (m1, .inl (cI, 14, .inl Bd)), (m2, .inl (cI, 14, .inl Hd))]) hP hD [0, 1, 2] [3, 4, 5, 6, 7] rfl rfl (by decide) (by decide) hk1 hFc hP1 hD1
  have hP : va_P D vwCl [(qy, .inr (5, [.ref m1, .ref m2, .ref m3, .ref m4, .int (nI n), .int (nI g), .int kn, .ref m5, .ref m6, .int (nI z1), .ref m7, .int (nI z2), .int u_7, .int 0])), (m1, .inl (cI, 14, .inl Bd)), (m2, .inl (cI, 14, .inl Hd)), (m3, .inl (cI, 14, .inl Wt)), (m4, .inl (cZ, 14, .inl Fx)), (m5, .inl (cZ, 16384, .inl Gv)), (m6, .inl (cI, 4000, .inl S1)), (m7, .inl (cI, 4000, .inl S2))] H := hP.sub [5, 6, 7, 0, 1, 2, 3, 4] rfl
  have hD : va_D A [(qy, .inr (5, [.ref m1, .ref m2, .ref m3, .ref m4, .int (nI n), .int (nI g), .int kn, .ref m5, .ref m6, .int (nI z1), .ref m7, .int (nI z2), .int u_7, .int 0])), (m1, .inl (cI, 14, .inl Bd)), (m2, .inl (cI, 14, .inl Hd)), (m3, .inl (cI, 14, .inl Wt)), (m4, .inl (cZ, 14, .inl Fx)), (m5, .inl (cZ, 16384, .inl Gv)), (m6, .inl (cI, 4000, .inl S1)), (m7, .inl (cI, 4000, .inl S2))] := hD.sub [5, 6, 7, 0, 1, 2, 3, 4] (by decide) rfl
  clear hPc hDc hFc hP1 hK1 hD1 hk1 hz1
  refine lv_pop hx hb dX4_steps_10 rfl ?_
  refine lv_aload_n hx hb dX4_steps_11 rfl (lv_at hl 0 rfl) ?_
  refine va_get (D := D) (ci := 5) (v := .int u_7) (C := RX4) (T := TX4) (N := 14) hx hb hts iX4 hown hK hP 0 rfl rfl 12 (by decide) (hts (.fieldLink RX4 51 "LeastSetsModel" "steps" "I") (by decide +kernel)) (fun _ h9 => h9) rfl dX4_steps_12 ?_
  exact W.iret (v := u_7) hx hb hr (fun t ht hW => ⟨⟨u_7, ((n, Bd, Hd, Wt, Fx, g), (kn, Gv, z1, S1, z2, S2, u_7, 0)), rfl, ⟨rfl, hw_7.2, hc, hi⟩, by rw [ht]; exact hP, va_K.moved hW.alike hK, hD⟩, hS.F ht⟩) hS.2.2 dX4_steps_15
set_option maxHeartbeats 4000000 in
set_option maxRecDepth 100000 in
/-- axiom(x, y) -/
theorem c_X4_axiom (l : Launch) (D : va_G) (cI cZ cJ : ClassId) (t1 t2 sz : Nat) (qy m1 m2 m3 m4 m5 m6 m7 : Nat) (n : Nat) (Bd Hd Wt Fx : Nat → Int32) (g : Nat) (kn : Int32) (Gv : Nat → Int32) (z1 : Nat) (S1 : Nat → Int32) (z2 : Nat) (S2 : Nat → Int32) (sp th : Int32) (hc : CO_ n Bd Hd Fx g) (hi : IM_ n Bd Hd Fx g kn z1 S1 z2 S2) (x y : Int32) : Met l yX4_axiom wsX4_axiom ({ frames := 0, cells := 0, slots := 0, locals := 0 } : Room) (va_Pc [.ref qy, .int x, .int y] (wr_ D [(cI, .int), (cZ, .boolean), (cJ, .long)] [(qy, .inr (5, [.ref m1, .ref m2, .ref m3, .ref m4, .int (nI n), .int (nI g), .int kn, .ref m5, .ref m6, .int (nI z1), .ref m7, .int (nI z2), .int sp, .int th])), (m1, .inl (cI, 14, .inl Bd)), (m2, .inl (cI, 14, .inl Hd)), (m3, .inl (cI, 14, .inl Wt)), (m4, .inl (cZ, 14, .inl Fx)), (m5, .inl (cZ, 16384, .inl Gv)), (m6, .inl (cI, 4000, .inl S1)), (m7, .inl (cI, 4000, .inl S2))] t1 t2 sz)) (va_Qi (S := Co_ × Jm_) (fun r u => u.1 = t_axiom (n, Bd, Hd, Wt, Fx, g) x y ∧ q_axiom (n, Bd, Hd, Wt, Fx, g) x y r ∧ cok_ u.1 ∧ im_ u.1 u.2) (fun u => wd_ D [(cI, .int), (cZ, .boolean), (cJ, .long)] (va_A [(qy, .inr (5, [.ref m1, .ref m2, .ref m3, .ref m4, .int (nI n), .int (nI g), .int kn, .ref m5, .ref m6, .int (nI z1), .ref m7, .int (nI z2), .int sp, .int th])), (m1, .inl (cI, 14, .inl Bd)), (m2, .inl (cI, 14, .inl Hd)), (m3, .inl (cI, 14, .inl Wt)), (m4, .inl (cZ, 14, .inl Fx)), (m5, .inl (cZ, 16384, .inl Gv)), (m6, .inl (cI, 4000, .inl S1)), (m7, .inl (cI, 4000, .inl S2))] sz) [(qy, .inr (5, [.ref m1, .ref m2, .ref m3, .ref m4, .int (nI u.1.1), .int (nI u.1.2.2.2.2.2), .int u.2.1, .ref m5, .ref m6, .int (nI u.2.2.2.1), .ref m7, .int (nI u.2.2.2.2.2.1), .int u.2.2.2.2.2.2.2.1, .int u.2.2.2.2.2.2.2.2])), (m1, .inl (cI, 14, .inl u.1.2.1)), (m2, .inl (cI, 14, .inl u.1.2.2.1)), (m3, .inl (cI, 14, .inl u.1.2.2.2.1)), (m4, .inl (cZ, 14, .inl u.1.2.2.2.2.1)), (m5, .inl (cZ, 16384, .inl u.2.2.1)), (m6, .inl (cI, 4000, .inl u.2.2.2.2.1)), (m7, .inl (cI, 4000, .inl u.2.2.2.2.2.2.1))]) (va_A [(qy, .inr (5, [.ref m1, .ref m2, .ref m3, .ref m4, .int (nI n), .int (nI g), .int kn, .ref m5, .ref m6, .int (nI z1), .ref m7, .int (nI z2), .int sp, .int th])), (m1, .inl (cI, 14, .inl Bd)), (m2, .inl (cI, 14, .inl Hd)), (m3, .inl (cI, 14, .inl Wt)), (m4, .inl (cZ, 14, .inl Fx)), (m5, .inl (cZ, 16384, .inl Gv)), (m6, .inl (cI, 4000, .inl S1)), (m7, .inl (cI, 4000, .inl S2))] sz)) 0 0 (va_A [(qy, .inr (5, [.ref m1, .ref m2, .ref m3, .ref m4, .int (nI n), .int (nI g), .int kn, .ref m5, .ref m6, .int (nI z1), .ref m7, .int (nI z2), .int sp, .int th])), (m1, .inl (cI, 14, .inl Bd)), (m2, .inl (cI, 14, .inl Hd)), (m3, .inl (cI, 14, .inl Wt)), (m4, .inl (cZ, 14, .inl Fx)), (m5, .inl (cZ, 16384, .inl Gv)), (m6, .inl (cI, 4000, .inl S1)), (m7, .inl (cI, 4000, .inl S2))] sz) := by
  refine Met.ofW (cc := cX4_axiom) (maxL := 3) (ret := (some .int)) (by decide) rfl ?_
  intro p e s m args below meth c s₁ B hml hv
  obtain ⟨rfl, hsz, hP, hK, hD0, hE⟩ := hv
  have hx := B.exec
  have hb := B.bytes
  have hr := B.returns
  have hts := atoms_spec (ws := wsX4_axiom) B.pre
  have hown : s.vm.findClass RX4 = some m.cls := findClass_of_methodNamed B.named
  have hlocks := B.notSynchronized
  have iX4 : ∀ w ∈ u_ws RX4 TX4 14, w ∈ wsX4_axiom := by decide +kernel
  subst hsz
  have hD := hD0.self (sz := s.heap.size)
  generalize hAe : va_A [(qy, .inr (5, [.ref m1, .ref m2, .ref m3, .ref m4, .int (nI n), .int (nI g), .int kn, .ref m5, .ref m6, .int (nI z1), .ref m7, .int (nI z2), .int sp, .int th])), (m1, .inl (cI, 14, .inl Bd)), (m2, .inl (cI, 14, .inl Hd)), (m3, .inl (cI, 14, .inl Wt)), (m4, .inl (cZ, 14, .inl Fx)), (m5, .inl (cZ, 16384, .inl Gv)), (m6, .inl (cI, 4000, .inl S1)), (m7, .inl (cI, 4000, .inl S2))] s.heap.size = A at hD hE ⊢
  have hA : ∀ q : Nat, s.heap.size ≤ q → A q := fun q h => by rw [← hAe]; exact Or.inr h
  have hS : va_S A s.heap s.heap [] := va_S.rf
  obtain ⟨hn, hg, hok0, hF⟩ := id hc
  have hok : ∀ a, a < n → uI_ (Hd a) < 24 := fun a ha => (hok0 a ha).2
  have hl := lv_entry ([.ref qy, .int x, .int y]) (n := 3) (Nat.le_of_ble_eq_true rfl)
  rw [lg_entry_eq]
  generalize (lg_sl ([.ref qy, .int x, .int y]) ++ List.replicate (3 - (lg_sl ([.ref qy, .int x, .int y])).length) Slot.unset).toArray = ls at hl ⊢
  have hl : lv_has ls 3 [(0, .ref qy), (1, .int x), (2, .int y)] := hl
  refine lv_aload_n hx hb dX4_axiom_0 rfl (lv_at hl 0 rfl) ?_
  refine lv_iconst (v := 0) hx hb dX4_axiom_1 (by decide +kernel) ?_
  refine va_put (D := D) (ci := 5) (v := .int 0) (ty := .int) (C := RX4) (T := TX4) (N := 14) hx hb hts iX4 tyX4 tyX4_ok nmX4 hown hK hP hD hS 0 rfl rfl 13 (by decide) (hts (.fieldLink RX4 32 "LeastSetsModel" "thrown" "I") (by decide +kernel)) (fun _ h9 => h9) rfl (by decide +kernel) rfl rfl (Nat.le_of_ble_eq_true rfl) dX4_axiom_2 (fun H locs hP hD hS => ?_)
  have hP : va_P D vwCl [(qy, .inr (5, [.ref m1, .ref m2, .ref m3, .ref m4, .int (nI n), .int (nI g), .int kn, .ref m5, .ref m6, .int (nI z1), .ref m7, .int (nI z2), .int sp, .int 0])), (m1, .inl (cI, 14, .inl Bd)), (m2, .inl (cI, 14, .inl Hd)), (m3, .inl (cI, 14, .inl Wt)), (m4, .inl (cZ, 14, .inl Fx)), (m5, .inl (cZ, 16384, .inl Gv)), (m6, .inl (cI, 4000, .inl S1)), (m7, .inl (cI, 4000, .inl S2))] H := hP
  have hD : va_D A [(qy, .inr (5, [.ref m1, .ref m2, .ref m3, .ref m4, .int (nI n), .int (nI g), .int kn, .ref m5, .ref m6, .int (nI z1), .ref m7, .int (nI z2), .int sp, .int 0])), (m1, .inl (cI, 14, .inl Bd)), (m2, .inl (cI, 14, .inl Hd)), (m3, .inl (cI, 14, .inl Wt)), (m4, .inl (cZ, 14, .inl Fx)), (m5, .inl (cZ, 16384, .inl Gv)), (m6, .inl (cI, 4000, .inl S1)), (m7, .inl (cI, 4000, .inl S2))] := hD
  refine lv_iload_n hx hb dX4_axiom_5 rfl (lv_at hl 1 rfl) ?_
  refine lv_if_lt (tgt := 25) hx hb dX4_axiom_6 (by decide) (fun c_6 => ?_) (fun c_6 => ?_)
  · have hno : ¬ (uI_ x < 16777216 ∧ uI_ y < 24) := fun q => ((lt_uI (by omega)).mpr q.1).1 c_6
    refine lv_iconst (v := (-1)) hx hb dX4_axiom_25 (by decide +kernel) ?_
    exact W.iret (v := (-1)) hx hb hr (fun t ht hW => ⟨⟨(-1), ((n, Bd, Hd, Wt, Fx, g), (kn, Gv, z1, S1, z2, S2, sp, 0)), rfl, ⟨(by first | exact (if_neg (fun q => hno ⟨q.1, q.2.1⟩)).symm | exact (if_neg (fun q => hge q.2.2)).symm | exact (if_pos ⟨hyes.1, hyes.2, hlt⟩).symm), (by first | exact (if_neg hno).symm | exact ((if_pos hyes).trans (if_neg hge)).symm | exact ((if_pos hyes).trans (if_pos hlt)).symm), (by first | exact hc | exact cok_axiom hc hyes.1 hyes.2 hlt), (by first | exact hi | exact IM_0)⟩, by rw [ht]; exact hP, va_K.moved hW.alike hK, hD⟩, hS.F ht⟩) hS.2.2 dX4_axiom_26
  · refine lv_iload_n hx hb dX4_axiom_9 rfl (lv_at hl 1 rfl) ?_
    refine lv_ldc (v := (nI 16777216)) hx hb hown (hts (.constant RX4 39 (nI 16777216)) (by decide +kernel)) dX4_axiom_10 ?_
    refine lv_icmp_ge (tgt := 25) hx hb dX4_axiom_12 (by decide) (fun c_12 => ?_) (fun c_12 => ?_)
    · have hno : ¬ (uI_ x < 16777216 ∧ uI_ y < 24) := fun q => ((lt_uI (by omega)).mpr q.1).2 c_12
      refine lv_iconst (v := (-1)) hx hb dX4_axiom_25 (by decide +kernel) ?_
      exact W.iret (v := (-1)) hx hb hr (fun t ht hW => ⟨⟨(-1), ((n, Bd, Hd, Wt, Fx, g), (kn, Gv, z1, S1, z2, S2, sp, 0)), rfl, ⟨(by first | exact (if_neg (fun q => hno ⟨q.1, q.2.1⟩)).symm | exact (if_neg (fun q => hge q.2.2)).symm | exact (if_pos ⟨hyes.1, hyes.2, hlt⟩).symm), (by first | exact (if_neg hno).symm | exact ((if_pos hyes).trans (if_neg hge)).symm | exact ((if_pos hyes).trans (if_pos hlt)).symm), (by first | exact hc | exact cok_axiom hc hyes.1 hyes.2 hlt), (by first | exact hi | exact IM_0)⟩, by rw [ht]; exact hP, va_K.moved hW.alike hK, hD⟩, hS.F ht⟩) hS.2.2 dX4_axiom_26
    · refine lv_iload_n hx hb dX4_axiom_15 rfl (lv_at hl 2 rfl) ?_
      refine lv_if_lt (tgt := 25) hx hb dX4_axiom_16 (by decide) (fun c_16 => ?_) (fun c_16 => ?_)
      · have hno : ¬ (uI_ x < 16777216 ∧ uI_ y < 24) := fun q => ((lt_uI (by omega)).mpr q.2).1 c_16
        refine lv_iconst (v := (-1)) hx hb dX4_axiom_25 (by decide +kernel) ?_
        exact W.iret (v := (-1)) hx hb hr (fun t ht hW => ⟨⟨(-1), ((n, Bd, Hd, Wt, Fx, g), (kn, Gv, z1, S1, z2, S2, sp, 0)), rfl, ⟨(by first | exact (if_neg (fun q => hno ⟨q.1, q.2.1⟩)).symm | exact (if_neg (fun q => hge q.2.2)).symm | exact (if_pos ⟨hyes.1, hyes.2, hlt⟩).symm), (by first | exact (if_neg hno).symm | exact ((if_pos hyes).trans (if_neg hge)).symm | exact ((if_pos hyes).trans (if_pos hlt)).symm), (by first | exact hc | exact cok_axiom hc hyes.1 hyes.2 hlt), (by first | exact hi | exact IM_0)⟩, by rw [ht]; exact hP, va_K.moved hW.alike hK, hD⟩, hS.F ht⟩) hS.2.2 dX4_axiom_26
      · refine lv_iload_n hx hb dX4_axiom_19 rfl (lv_at hl 2 rfl) ?_
        refine lv_bipush (v := (nI 24)) hx hb dX4_axiom_20 (by decide +kernel) ?_
        refine lv_icmp_lt (tgt := 27) hx hb dX4_axiom_22 (by decide) (fun c_22 => ?_) (fun c_22 => ?_)
        · have hyes : uI_ x < 16777216 ∧ uI_ y < 24 := ⟨(lt_uI (by omega)).mp ⟨c_6, c_12⟩, lt_uI2 (by omega) c_16 c_22⟩
          refine lv_aload_n hx hb dX4_axiom_27 rfl (lv_at hl 0 rfl) ?_
          refine va_get (D := D) (ci := 5) (v := .int (nI n)) (C := RX4) (T := TX4) (N := 14) hx hb hts iX4 hown hK hP 0 rfl rfl 4 (by decide) (hts (.fieldLink RX4 36 "LeastSetsModel" "count" "I") (by decide +kernel)) (fun _ h9 => h9) rfl dX4_axiom_28 ?_
          refine lv_bipush (v := (nI 14)) hx hb dX4_axiom_31 (by decide +kernel) ?_
          refine lv_icmp_ne (tgt := 39) hx hb dX4_axiom_33 (by decide) (fun c_33 => ?_) (fun c_33 => ?_)
          · have hlt : n < 14 := by
              have : ¬ n = 14 := fun q => c_33 (by rw [q])
              omega
            refine lv_aload_n hx hb dX4_axiom_39 rfl (lv_at hl 0 rfl) ?_
            refine va_get (D := D) (ci := 5) (v := .ref m1) (C := RX4) (T := TX4) (N := 14) hx hb hts iX4 hown hK hP 0 rfl rfl 0 (by decide) (hts (.fieldLink RX4 7 "LeastSetsModel" "bodies" "[I") (by decide +kernel)) (fun _ h9 => h9) rfl dX4_axiom_40 ?_
            refine lv_aload_n hx hb dX4_axiom_43 rfl (lv_at hl 0 rfl) ?_
            refine va_get (D := D) (ci := 5) (v := .int (nI n)) (C := RX4) (T := TX4) (N := 14) hx hb hts iX4 hown hK hP 0 rfl rfl 4 (by decide) (hts (.fieldLink RX4 36 "LeastSetsModel" "count" "I") (by decide +kernel)) (fun _ h9 => h9) rfl dX4_axiom_44 ?_
            refine lv_iload_n hx hb dX4_axiom_47 rfl (lv_at hl 1 rfl) ?_
            refine r_iast hx hb hK hP hD hS 1 0 rfl rfl n (by omega) (by omega) dX4_axiom_48 (fun H locs hP hD hS => ?_)
            have hP : va_P D vwCl [(qy, .inr (5, [.ref m1, .ref m2, .ref m3, .ref m4, .int (nI n), .int (nI g), .int kn, .ref m5, .ref m6, .int (nI z1), .ref m7, .int (nI z2), .int sp, .int 0])), (m1, .inl (cI, 14, .inl (upd Bd n x))), (m2, .inl (cI, 14, .inl Hd)), (m3, .inl (cI, 14, .inl Wt)), (m4, .inl (cZ, 14, .inl Fx)), (m5, .inl (cZ, 16384, .inl Gv)), (m6, .inl (cI, 4000, .inl S1)), (m7, .inl (cI, 4000, .inl S2))] H := hP
            have hD : va_D A [(qy, .inr (5, [.ref m1, .ref m2, .ref m3, .ref m4, .int (nI n), .int (nI g), .int kn, .ref m5, .ref m6, .int (nI z1), .ref m7, .int (nI z2), .int sp, .int 0])), (m1, .inl (cI, 14, .inl (upd Bd n x))), (m2, .inl (cI, 14, .inl Hd)), (m3, .inl (cI, 14, .inl Wt)), (m4, .inl (cZ, 14, .inl Fx)), (m5, .inl (cZ, 16384, .inl Gv)), (m6, .inl (cI, 4000, .inl S1)), (m7, .inl (cI, 4000, .inl S2))] := hD
            refine lv_aload_n hx hb dX4_axiom_49 rfl (lv_at hl 0 rfl) ?_
            refine va_get (D := D) (ci := 5) (v := .ref m2) (C := RX4) (T := TX4) (N := 14) hx hb hts iX4 hown hK hP 0 rfl rfl 1 (by decide) (hts (.fieldLink RX4 13 "LeastSetsModel" "heads" "[I") (by decide +kernel)) (fun _ h9 => h9) rfl dX4_axiom_50 ?_
            refine lv_aload_n hx hb dX4_axiom_53 rfl (lv_at hl 0 rfl) ?_
            refine va_get (D := D) (ci := 5) (v := .int (nI n)) (C := RX4) (T := TX4) (N := 14) hx hb hts iX4 hown hK hP 0 rfl rfl 4 (by decide) (hts (.fieldLink RX4 36 "LeastSetsModel" "count" "I") (by decide +kernel)) (fun _ h9 => h9) rfl dX4_axiom_54 ?_
            refine lv_iload_n hx hb dX4_axiom_57 rfl (lv_at hl 2 rfl) ?_
            refine r_iast hx hb hK hP hD hS 2 0 rfl rfl n (by omega) (by omega) dX4_axiom_58 (fun H locs hP hD hS => ?_)
            have hP : va_P D vwCl [(qy, .inr (5, [.ref m1, .ref m2, .ref m3, .ref m4, .int (nI n), .int (nI g), .int kn, .ref m5, .ref m6, .int (nI z1), .ref m7, .int (nI z2), .int sp, .int 0])), (m1, .inl (cI, 14, .inl (upd Bd n x))), (m2, .inl (cI, 14, .inl (upd Hd n y))), (m3, .inl (cI, 14, .inl Wt)), (m4, .inl (cZ, 14, .inl Fx)), (m5, .inl (cZ, 16384, .inl Gv)), (m6, .inl (cI, 4000, .inl S1)), (m7, .inl (cI, 4000, .inl S2))] H := hP
            have hD : va_D A [(qy, .inr (5, [.ref m1, .ref m2, .ref m3, .ref m4, .int (nI n), .int (nI g), .int kn, .ref m5, .ref m6, .int (nI z1), .ref m7, .int (nI z2), .int sp, .int 0])), (m1, .inl (cI, 14, .inl (upd Bd n x))), (m2, .inl (cI, 14, .inl (upd Hd n y))), (m3, .inl (cI, 14, .inl Wt)), (m4, .inl (cZ, 14, .inl Fx)), (m5, .inl (cZ, 16384, .inl Gv)), (m6, .inl (cI, 4000, .inl S1)), (m7, .inl (cI, 4000, .inl S2))] := hD
            refine lv_aload_n hx hb dX4_axiom_59 rfl (lv_at hl 0 rfl) ?_
            refine va_get (D := D) (ci := 5) (v := .ref m3) (C := RX4) (T := TX4) (N := 14) hx hb hts iX4 hown hK hP 0 rfl rfl 2 (by decide) (hts (.fieldLink RX4 16 "LeastSetsModel" "weights" "[I") (by decide +kernel)) (fun _ h9 => h9) rfl dX4_axiom_60 ?_
            refine lv_aload_n hx hb dX4_axiom_63 rfl (lv_at hl 0 rfl) ?_
            refine va_get (D := D) (ci := 5) (v := .int (nI n)) (C := RX4) (T := TX4) (N := 14) hx hb hts iX4 hown hK hP 0 rfl rfl 4 (by decide) (hts (.fieldLink RX4 36 "LeastSetsModel" "count" "I") (by decide +kernel)) (fun _ h9 => h9) rfl dX4_axiom_64 ?_
            refine lv_iconst (v := 1) hx hb dX4_axiom_67 (by decide +kernel) ?_
            refine r_iast hx hb hK hP hD hS 3 0 rfl rfl n (by omega) (by omega) dX4_axiom_68 (fun H locs hP hD hS => ?_)
            have hP : va_P D vwCl [(qy, .inr (5, [.ref m1, .ref m2, .ref m3, .ref m4, .int (nI n), .int (nI g), .int kn, .ref m5, .ref m6, .int (nI z1), .ref m7, .int (nI z2), .int sp, .int 0])), (m1, .inl (cI, 14, .inl (upd Bd n x))), (m2, .inl (cI, 14, .inl (upd Hd n y))), (m3, .inl (cI, 14, .inl (upd Wt n 1))), (m4, .inl (cZ, 14, .inl Fx)), (m5, .inl (cZ, 16384, .inl Gv)), (m6, .inl (cI, 4000, .inl S1)), (m7, .inl (cI, 4000, .inl S2))] H := hP
            have hD : va_D A [(qy, .inr (5, [.ref m1, .ref m2, .ref m3, .ref m4, .int (nI n), .int (nI g), .int kn, .ref m5, .ref m6, .int (nI z1), .ref m7, .int (nI z2), .int sp, .int 0])), (m1, .inl (cI, 14, .inl (upd Bd n x))), (m2, .inl (cI, 14, .inl (upd Hd n y))), (m3, .inl (cI, 14, .inl (upd Wt n 1))), (m4, .inl (cZ, 14, .inl Fx)), (m5, .inl (cZ, 16384, .inl Gv)), (m6, .inl (cI, 4000, .inl S1)), (m7, .inl (cI, 4000, .inl S2))] := hD
            refine lv_aload_n hx hb dX4_axiom_69 rfl (lv_at hl 0 rfl) ?_
            refine va_get (D := D) (ci := 5) (v := .ref m4) (C := RX4) (T := TX4) (N := 14) hx hb hts iX4 hown hK hP 0 rfl rfl 3 (by decide) (hts (.fieldLink RX4 19 "LeastSetsModel" "fixed" "[Z") (by decide +kernel)) (fun _ h9 => h9) rfl dX4_axiom_70 ?_
            refine lv_aload_n hx hb dX4_axiom_73 rfl (lv_at hl 0 rfl) ?_
            refine va_get (D := D) (ci := 5) (v := .int (nI n)) (C := RX4) (T := TX4) (N := 14) hx hb hts iX4 hown hK hP 0 rfl rfl 4 (by decide) (hts (.fieldLink RX4 36 "LeastSetsModel" "count" "I") (by decide +kernel)) (fun _ h9 => h9) rfl dX4_axiom_74 ?_
            refine lv_iconst (v := 0) hx hb dX4_axiom_77 (by decide +kernel) ?_
            refine r_zast hx hb hK hP hD hS 4 1 rfl rfl n (by decide) (by omega) (by omega) dX4_axiom_78 (fun H locs hP hD hS => ?_)
            have hP : va_P D vwCl [(qy, .inr (5, [.ref m1, .ref m2, .ref m3, .ref m4, .int (nI n), .int (nI g), .int kn, .ref m5, .ref m6, .int (nI z1), .ref m7, .int (nI z2), .int sp, .int 0])), (m1, .inl (cI, 14, .inl (upd Bd n x))), (m2, .inl (cI, 14, .inl (upd Hd n y))), (m3, .inl (cI, 14, .inl (upd Wt n 1))), (m4, .inl (cZ, 14, .inl (upd Fx n 0))), (m5, .inl (cZ, 16384, .inl Gv)), (m6, .inl (cI, 4000, .inl S1)), (m7, .inl (cI, 4000, .inl S2))] H := hP
            have hD : va_D A [(qy, .inr (5, [.ref m1, .ref m2, .ref m3, .ref m4, .int (nI n), .int (nI g), .int kn, .ref m5, .ref m6, .int (nI z1), .ref m7, .int (nI z2), .int sp, .int 0])), (m1, .inl (cI, 14, .inl (upd Bd n x))), (m2, .inl (cI, 14, .inl (upd Hd n y))), (m3, .inl (cI, 14, .inl (upd Wt n 1))), (m4, .inl (cZ, 14, .inl (upd Fx n 0))), (m5, .inl (cZ, 16384, .inl Gv)), (m6, .inl (cI, 4000, .inl S1)), (m7, .inl (cI, 4000, .inl S2))] := hD
            refine lv_aload_n hx hb dX4_axiom_79 rfl (lv_at hl 0 rfl) ?_
            refine lv_dup hx hb dX4_axiom_80 rfl ?_
            refine va_get (D := D) (ci := 5) (v := .int (nI n)) (C := RX4) (T := TX4) (N := 14) hx hb hts iX4 hown hK hP 0 rfl rfl 4 (by decide) (hts (.fieldLink RX4 36 "LeastSetsModel" "count" "I") (by decide +kernel)) (fun _ h9 => h9) rfl dX4_axiom_81 ?_
            refine lv_iconst (v := (nI 1)) hx hb dX4_axiom_84 (by decide +kernel) ?_
            refine r_iadd hx hb dX4_axiom_85 ?_
            refine va_put (D := D) (ci := 5) (v := .int (nI (n + 1))) (ty := .int) (C := RX4) (T := TX4) (N := 14) hx hb hts iX4 tyX4 tyX4_ok nmX4 hown hK hP hD hS 0 rfl rfl 4 (by decide) (hts (.fieldLink RX4 36 "LeastSetsModel" "count" "I") (by decide +kernel)) (fun _ h9 => h9) rfl (by decide +kernel) rfl rfl (Nat.le_of_ble_eq_true rfl) dX4_axiom_86 (fun H locs hP hD hS => ?_)
            have hP : va_P D vwCl [(qy, .inr (5, [.ref m1, .ref m2, .ref m3, .ref m4, .int (nI (n + 1)), .int (nI g), .int kn, .ref m5, .ref m6, .int (nI z1), .ref m7, .int (nI z2), .int sp, .int 0])), (m1, .inl (cI, 14, .inl (upd Bd n x))), (m2, .inl (cI, 14, .inl (upd Hd n y))), (m3, .inl (cI, 14, .inl (upd Wt n 1))), (m4, .inl (cZ, 14, .inl (upd Fx n 0))), (m5, .inl (cZ, 16384, .inl Gv)), (m6, .inl (cI, 4000, .inl S1)), (m7, .inl (cI, 4000, .inl S2))] H := hP
            have hD : va_D A [(qy, .inr (5, [.ref m1, .ref m2, .ref m3, .ref m4, .int (nI (n + 1)), .int (nI g), .int kn, .ref m5, .ref m6, .int (nI z1), .ref m7, .int (nI z2), .int sp, .int 0])), (m1, .inl (cI, 14, .inl (upd Bd n x))), (m2, .inl (cI, 14, .inl (upd Hd n y))), (m3, .inl (cI, 14, .inl (upd Wt n 1))), (m4, .inl (cZ, 14, .inl (upd Fx n 0))), (m5, .inl (cZ, 16384, .inl Gv)), (m6, .inl (cI, 4000, .inl S1)), (m7, .inl (cI, 4000, .inl S2))] := hD
            refine lv_aload_n hx hb dX4_axiom_89 rfl (lv_at hl 0 rfl) ?_
            refine lv_iconst (v := 0) hx hb dX4_axiom_90 (by decide +kernel) ?_
            refine va_put (D := D) (ci := 5) (v := .int 0) (ty := .boolean) (C := RX4) (T := TX4) (N := 14) hx hb hts iX4 tyX4 tyX4_ok nmX4 hown hK hP hD hS 0 rfl rfl 6 (by decide) (hts (.fieldLink RX4 40 "LeastSetsModel" "known" "Z") (by decide +kernel)) (fun _ h9 => h9) rfl (by decide +kernel) rfl rfl (Nat.le_of_ble_eq_true rfl) dX4_axiom_91 (fun H locs hP hD hS => ?_)
            have hP : va_P D vwCl [(qy, .inr (5, [.ref m1, .ref m2, .ref m3, .ref m4, .int (nI (n + 1)), .int (nI g), .int 0, .ref m5, .ref m6, .int (nI z1), .ref m7, .int (nI z2), .int sp, .int 0])), (m1, .inl (cI, 14, .inl (upd Bd n x))), (m2, .inl (cI, 14, .inl (upd Hd n y))), (m3, .inl (cI, 14, .inl (upd Wt n 1))), (m4, .inl (cZ, 14, .inl (upd Fx n 0))), (m5, .inl (cZ, 16384, .inl Gv)), (m6, .inl (cI, 4000, .inl S1)), (m7, .inl (cI, 4000, .inl S2))] H := hP
            have hD : va_D A [(qy, .inr (5, [.ref m1, .ref m2, .ref m3, .ref m4, .int (nI (n + 1)), .int (nI g), .int 0, .ref m5, .ref m6, .int (nI z1), .ref m7, .int (nI z2), .int sp, .int 0])), (m1, .inl (cI, 14, .inl (upd Bd n x))), (m2, .inl (cI, 14, .inl (upd Hd n y))), (m3, .inl (cI, 14, .inl (upd Wt n 1))), (m4, .inl (cZ, 14, .inl (upd Fx n 0))), (m5, .inl (cZ, 16384, .inl Gv)), (m6, .inl (cI, 4000, .inl S1)), (m7, .inl (cI, 4000, .inl S2))] := hD
            refine lv_aload_n hx hb dX4_axiom_94 rfl (lv_at hl 0 rfl) ?_
            refine va_get (D := D) (ci := 5) (v := .int (nI (n + 1))) (C := RX4) (T := TX4) (N := 14) hx hb hts iX4 hown hK hP 0 rfl rfl 4 (by decide) (hts (.fieldLink RX4 36 "LeastSetsModel" "count" "I") (by decide +kernel)) (fun _ h9 => h9) rfl dX4_axiom_95 ?_
            refine lv_iconst (v := (nI 1)) hx hb dX4_axiom_98 (by decide +kernel) ?_
            refine r_isub hx hb (by omega) dX4_axiom_99 ?_
            exact W.iret (v := (nI ((n + 1) - 1))) hx hb hr (fun t ht hW => ⟨⟨(nI ((n + 1) - 1)), ((n + 1, upd Bd n x, upd Hd n y, upd Wt n 1, upd Fx n 0, g), (0, Gv, z1, S1, z2, S2, sp, 0)), rfl, ⟨(by first | exact (if_neg (fun q => hno ⟨q.1, q.2.1⟩)).symm | exact (if_neg (fun q => hge q.2.2)).symm | exact (if_pos ⟨hyes.1, hyes.2, hlt⟩).symm), (by first | exact (if_neg hno).symm | exact ((if_pos hyes).trans (if_neg hge)).symm | exact ((if_pos hyes).trans (if_pos hlt)).symm), (by first | exact hc | exact cok_axiom hc hyes.1 hyes.2 hlt), (by first | exact hi | exact IM_0)⟩, by rw [ht]; exact hP, va_K.moved hW.alike hK, hD⟩, hS.F ht⟩) hS.2.2 dX4_axiom_100
          · have hge : ¬ n < 14 := by
              have := (nI_eq (by omega) (by omega)).mp c_33
              omega
            refine lv_bipush (v := (-3)) hx hb dX4_axiom_36 (by decide +kernel) ?_
            exact W.iret (v := (-3)) hx hb hr (fun t ht hW => ⟨⟨(-3), ((n, Bd, Hd, Wt, Fx, g), (kn, Gv, z1, S1, z2, S2, sp, 0)), rfl, ⟨(by first | exact (if_neg (fun q => hno ⟨q.1, q.2.1⟩)).symm | exact (if_neg (fun q => hge q.2.2)).symm | exact (if_pos ⟨hyes.1, hyes.2, hlt⟩).symm), (by first | exact (if_neg hno).symm | exact ((if_pos hyes).trans (if_neg hge)).symm | exact ((if_pos hyes).trans (if_pos hlt)).symm), (by first | exact hc | exact cok_axiom hc hyes.1 hyes.2 hlt), (by first | exact hi | exact IM_0)⟩, by rw [ht]; exact hP, va_K.moved hW.alike hK, hD⟩, hS.F ht⟩) hS.2.2 dX4_axiom_38
        · have hno : ¬ (uI_ x < 16777216 ∧ uI_ y < 24) := fun q => c_22 (i32_lt ((lt_uI (by omega)).mpr q.2).2)
          refine lv_iconst (v := (-1)) hx hb dX4_axiom_25 (by decide +kernel) ?_
          exact W.iret (v := (-1)) hx hb hr (fun t ht hW => ⟨⟨(-1), ((n, Bd, Hd, Wt, Fx, g), (kn, Gv, z1, S1, z2, S2, sp, 0)), rfl, ⟨(by first | exact (if_neg (fun q => hno ⟨q.1, q.2.1⟩)).symm | exact (if_neg (fun q => hge q.2.2)).symm | exact (if_pos ⟨hyes.1, hyes.2, hlt⟩).symm), (by first | exact (if_neg hno).symm | exact ((if_pos hyes).trans (if_neg hge)).symm | exact ((if_pos hyes).trans (if_pos hlt)).symm), (by first | exact hc | exact cok_axiom hc hyes.1 hyes.2 hlt), (by first | exact hi | exact IM_0)⟩, by rw [ht]; exact hP, va_K.moved hW.alike hK, hD⟩, hS.F ht⟩) hS.2.2 dX4_axiom_26
set_option maxHeartbeats 4000000 in
set_option maxRecDepth 100000 in
/-- drop(x) -/
theorem c_X4_drop (l : Launch) (D : va_G) (cI cZ cJ : ClassId) (t1 t2 sz : Nat) (qy m1 m2 m3 m4 m5 m6 m7 : Nat) (n : Nat) (Bd Hd Wt Fx : Nat → Int32) (g : Nat) (kn : Int32) (Gv : Nat → Int32) (z1 : Nat) (S1 : Nat → Int32) (z2 : Nat) (S2 : Nat → Int32) (sp th : Int32) (hc : CO_ n Bd Hd Fx g) (hi : IM_ n Bd Hd Fx g kn z1 S1 z2 S2) (x : Int32) : Met l yX4_drop wsX4_drop ({ frames := 1, cells := 0, slots := 0, locals := 21 } : Room) (va_Pc [.ref qy, .int x] (wr_ D [(cI, .int), (cZ, .boolean), (cJ, .long)] [(qy, .inr (5, [.ref m1, .ref m2, .ref m3, .ref m4, .int (nI n), .int (nI g), .int kn, .ref m5, .ref m6, .int (nI z1), .ref m7, .int (nI z2), .int sp, .int th])), (m1, .inl (cI, 14, .inl Bd)), (m2, .inl (cI, 14, .inl Hd)), (m3, .inl (cI, 14, .inl Wt)), (m4, .inl (cZ, 14, .inl Fx)), (m5, .inl (cZ, 16384, .inl Gv)), (m6, .inl (cI, 4000, .inl S1)), (m7, .inl (cI, 4000, .inl S2))] t1 t2 sz)) (va_Qi (S := Co_ × Jm_) (fun r u => u.1 = t_drop (n, Bd, Hd, Wt, Fx, g) x ∧ q_drop (n, Bd, Hd, Wt, Fx, g) x r ∧ cok_ u.1 ∧ im_ u.1 u.2) (fun u => wd_ D [(cI, .int), (cZ, .boolean), (cJ, .long)] (va_A [(qy, .inr (5, [.ref m1, .ref m2, .ref m3, .ref m4, .int (nI n), .int (nI g), .int kn, .ref m5, .ref m6, .int (nI z1), .ref m7, .int (nI z2), .int sp, .int th])), (m1, .inl (cI, 14, .inl Bd)), (m2, .inl (cI, 14, .inl Hd)), (m3, .inl (cI, 14, .inl Wt)), (m4, .inl (cZ, 14, .inl Fx)), (m5, .inl (cZ, 16384, .inl Gv)), (m6, .inl (cI, 4000, .inl S1)), (m7, .inl (cI, 4000, .inl S2))] sz) [(qy, .inr (5, [.ref m1, .ref m2, .ref m3, .ref m4, .int (nI u.1.1), .int (nI u.1.2.2.2.2.2), .int u.2.1, .ref m5, .ref m6, .int (nI u.2.2.2.1), .ref m7, .int (nI u.2.2.2.2.2.1), .int u.2.2.2.2.2.2.2.1, .int u.2.2.2.2.2.2.2.2])), (m1, .inl (cI, 14, .inl u.1.2.1)), (m2, .inl (cI, 14, .inl u.1.2.2.1)), (m3, .inl (cI, 14, .inl u.1.2.2.2.1)), (m4, .inl (cZ, 14, .inl u.1.2.2.2.2.1)), (m5, .inl (cZ, 16384, .inl u.2.2.1)), (m6, .inl (cI, 4000, .inl u.2.2.2.2.1)), (m7, .inl (cI, 4000, .inl u.2.2.2.2.2.2.1))]) (va_A [(qy, .inr (5, [.ref m1, .ref m2, .ref m3, .ref m4, .int (nI n), .int (nI g), .int kn, .ref m5, .ref m6, .int (nI z1), .ref m7, .int (nI z2), .int sp, .int th])), (m1, .inl (cI, 14, .inl Bd)), (m2, .inl (cI, 14, .inl Hd)), (m3, .inl (cI, 14, .inl Wt)), (m4, .inl (cZ, 14, .inl Fx)), (m5, .inl (cZ, 16384, .inl Gv)), (m6, .inl (cI, 4000, .inl S1)), (m7, .inl (cI, 4000, .inl S2))] sz)) 0 0 (va_A [(qy, .inr (5, [.ref m1, .ref m2, .ref m3, .ref m4, .int (nI n), .int (nI g), .int kn, .ref m5, .ref m6, .int (nI z1), .ref m7, .int (nI z2), .int sp, .int th])), (m1, .inl (cI, 14, .inl Bd)), (m2, .inl (cI, 14, .inl Hd)), (m3, .inl (cI, 14, .inl Wt)), (m4, .inl (cZ, 14, .inl Fx)), (m5, .inl (cZ, 16384, .inl Gv)), (m6, .inl (cI, 4000, .inl S1)), (m7, .inl (cI, 4000, .inl S2))] sz) := by
  refine Met.ofW (cc := cX4_drop) (maxL := 3) (ret := (some .int)) (by decide) rfl ?_
  intro p e s m args below meth c s₁ B hml hv
  obtain ⟨rfl, hsz, hP, hK, hD0, hE⟩ := hv
  have hx := B.exec
  have hb := B.bytes
  have hr := B.returns
  have hts := atoms_spec (ws := wsX4_drop) B.pre
  have hown : s.vm.findClass RX4 = some m.cls := findClass_of_methodNamed B.named
  have hlocks := B.notSynchronized
  have iX4 : ∀ w ∈ u_ws RX4 TX4 14, w ∈ wsX4_drop := by decide +kernel
  subst hsz
  have hD := hD0.self (sz := s.heap.size)
  generalize hAe : va_A [(qy, .inr (5, [.ref m1, .ref m2, .ref m3, .ref m4, .int (nI n), .int (nI g), .int kn, .ref m5, .ref m6, .int (nI z1), .ref m7, .int (nI z2), .int sp, .int th])), (m1, .inl (cI, 14, .inl Bd)), (m2, .inl (cI, 14, .inl Hd)), (m3, .inl (cI, 14, .inl Wt)), (m4, .inl (cZ, 14, .inl Fx)), (m5, .inl (cZ, 16384, .inl Gv)), (m6, .inl (cI, 4000, .inl S1)), (m7, .inl (cI, 4000, .inl S2))] s.heap.size = A at hD hE ⊢
  have hA : ∀ q : Nat, s.heap.size ≤ q → A q := fun q h => by rw [← hAe]; exact Or.inr h
  have hS : va_S A s.heap s.heap [] := va_S.rf
  obtain ⟨hn, hg, hok0, hF⟩ := id hc
  have hok : ∀ a, a < n → uI_ (Hd a) < 24 := fun a ha => (hok0 a ha).2
  have hl := lv_entry ([.ref qy, .int x]) (n := 3) (Nat.le_of_ble_eq_true rfl)
  rw [lg_entry_eq]
  generalize (lg_sl ([.ref qy, .int x]) ++ List.replicate (3 - (lg_sl ([.ref qy, .int x])).length) Slot.unset).toArray = ls at hl ⊢
  have hl : lv_has ls 3 [(0, .ref qy), (1, .int x)] := hl
  refine lv_aload_n hx hb dX4_drop_0 rfl (lv_at hl 0 rfl) ?_
  refine lv_iconst (v := 0) hx hb dX4_drop_1 (by decide +kernel) ?_
  refine va_put (D := D) (ci := 5) (v := .int 0) (ty := .int) (C := RX4) (T := TX4) (N := 14) hx hb hts iX4 tyX4 tyX4_ok nmX4 hown hK hP hD hS 0 rfl rfl 13 (by decide) (hts (.fieldLink RX4 32 "LeastSetsModel" "thrown" "I") (by decide +kernel)) (fun _ h9 => h9) rfl (by decide +kernel) rfl rfl (Nat.le_of_ble_eq_true rfl) dX4_drop_2 (fun H locs hP hD hS => ?_)
  have hP : va_P D vwCl [(qy, .inr (5, [.ref m1, .ref m2, .ref m3, .ref m4, .int (nI n), .int (nI g), .int kn, .ref m5, .ref m6, .int (nI z1), .ref m7, .int (nI z2), .int sp, .int 0])), (m1, .inl (cI, 14, .inl Bd)), (m2, .inl (cI, 14, .inl Hd)), (m3, .inl (cI, 14, .inl Wt)), (m4, .inl (cZ, 14, .inl Fx)), (m5, .inl (cZ, 16384, .inl Gv)), (m6, .inl (cI, 4000, .inl S1)), (m7, .inl (cI, 4000, .inl S2))] H := hP
  have hD : va_D A [(qy, .inr (5, [.ref m1, .ref m2, .ref m3, .ref m4, .int (nI n), .int (nI g), .int kn, .ref m5, .ref m6, .int (nI z1), .ref m7, .int (nI z2), .int sp, .int 0])), (m1, .inl (cI, 14, .inl Bd)), (m2, .inl (cI, 14, .inl Hd)), (m3, .inl (cI, 14, .inl Wt)), (m4, .inl (cZ, 14, .inl Fx)), (m5, .inl (cZ, 16384, .inl Gv)), (m6, .inl (cI, 4000, .inl S1)), (m7, .inl (cI, 4000, .inl S2))] := hD
  refine lv_aload_n hx hb dX4_drop_5 rfl (lv_at hl 0 rfl) ?_
  refine lv_iload_n hx hb dX4_drop_6 rfl (lv_at hl 1 rfl) ?_
  refine vp_callSi (va_runV (As := [.int x]) (rest := []) ⟨hx, hb, hml, hown, hts⟩ (c_X4_isAxiom l D cI cZ cJ qy m1 m2 m3 m4 m5 m6 m7 n Bd Hd Wt Fx g kn Gv z1 S1 z2 S2 sp 0 hn x) (cwV 1 hts gX4_drop_X4_isAxiom rfl rfl rfl (by decide +kernel) ⟨Nat.le_of_ble_eq_true rfl, Nat.le_of_ble_eq_true rfl⟩) ⟨ro_blind, va_recv hK hP (ci := 5) (q0 := 0) rfl rfl, ro_pre (hP.sub (ws' := [(qy, .inr (5, [.ref m1, .ref m2, .ref m3, .ref m4, .int (nI n), .int (nI g), .int kn, .ref m5, .ref m6, .int (nI z1), .ref m7, .int (nI z2), .int sp, .int 0]))]) [0] rfl) hK [0, 1, 2] rfl⟩ rfl rfl hl.1 rfl (lv_room (Nat.le_of_ble_eq_true rfl)) dX4_drop_7 ⟨Nat.le_of_ble_eq_true rfl, Nat.le_of_ble_eq_true rfl⟩).run (fun r_7 hr_7 => ?_)
  refine lv_if_ne (tgt := 15) hx hb dX4_drop_10 (by decide) (fun c_10 => ?_) (fun c_10 => ?_)
  · obtain ⟨hyes, ex⟩ := hu_yes (by omega) hr_7 c_10
    rw [ex] at hl
    refine lv_aload_n hx hb dX4_drop_15 rfl (lv_at hl 0 rfl) ?_
    refine lv_dup hx hb dX4_drop_16 rfl ?_
    refine va_get (D := D) (ci := 5) (v := .int (nI n)) (C := RX4) (T := TX4) (N := 14) hx hb hts iX4 hown hK hP 0 rfl rfl 4 (by decide) (hts (.fieldLink RX4 36 "LeastSetsModel" "count" "I") (by decide +kernel)) (fun _ h9 => h9) rfl dX4_drop_17 ?_
    refine lv_iconst (v := (nI 1)) hx hb dX4_drop_20 (by decide +kernel) ?_
    refine r_isub hx hb (by omega) dX4_drop_21 ?_
    refine va_put (D := D) (ci := 5) (v := .int (nI (n - 1))) (ty := .int) (C := RX4) (T := TX4) (N := 14) hx hb hts iX4 tyX4 tyX4_ok nmX4 hown hK hP hD hS 0 rfl rfl 4 (by decide) (hts (.fieldLink RX4 36 "LeastSetsModel" "count" "I") (by decide +kernel)) (fun _ h9 => h9) rfl (by decide +kernel) rfl rfl (Nat.le_of_ble_eq_true rfl) dX4_drop_22 (fun H locs hP hD hS => ?_)
    have hP : va_P D vwCl [(qy, .inr (5, [.ref m1, .ref m2, .ref m3, .ref m4, .int (nI (n - 1)), .int (nI g), .int kn, .ref m5, .ref m6, .int (nI z1), .ref m7, .int (nI z2), .int sp, .int 0])), (m1, .inl (cI, 14, .inl Bd)), (m2, .inl (cI, 14, .inl Hd)), (m3, .inl (cI, 14, .inl Wt)), (m4, .inl (cZ, 14, .inl Fx)), (m5, .inl (cZ, 16384, .inl Gv)), (m6, .inl (cI, 4000, .inl S1)), (m7, .inl (cI, 4000, .inl S2))] H := hP
    have hD : va_D A [(qy, .inr (5, [.ref m1, .ref m2, .ref m3, .ref m4, .int (nI (n - 1)), .int (nI g), .int kn, .ref m5, .ref m6, .int (nI z1), .ref m7, .int (nI z2), .int sp, .int 0])), (m1, .inl (cI, 14, .inl Bd)), (m2, .inl (cI, 14, .inl Hd)), (m3, .inl (cI, 14, .inl Wt)), (m4, .inl (cZ, 14, .inl Fx)), (m5, .inl (cZ, 16384, .inl Gv)), (m6, .inl (cI, 4000, .inl S1)), (m7, .inl (cI, 4000, .inl S2))] := hD
    refine lv_iload_n hx hb dX4_drop_25 rfl (lv_at hl 1 rfl) ?_
    refine lv_istore_n (lv' := [(2, .int (nI (uI_ x))), (0, .ref qy), (1, .int (nI (uI_ x)))]) hx hb dX4_drop_26 rfl hl (by decide) rfl (fun ls hl => ?_)
    have loop : ∀ (d : Nat) (a : Nat) (H : Heap) (locs : List Loc) (ls : Array Slot), n < a + d + 1 → uI_ x ≤ a → a < n → va_P D vwCl [(qy, .inr (5, [.ref m1, .ref m2, .ref m3, .ref m4, .int (nI (n - 1)), .int (nI g), .int kn, .ref m5, .ref m6, .int (nI z1), .ref m7, .int (nI z2), .int sp, .int 0])), (m1, .inl (cI, 14, .inl (sh_ Bd (uI_ x) (a + 1)))), (m2, .inl (cI, 14, .inl (sh_ Hd (uI_ x) (a + 1)))), (m3, .inl (cI, 14, .inl (sh_ Wt (uI_ x) (a + 1)))), (m4, .inl (cZ, 14, .inl (sh_ Fx (uI_ x) (a + 1)))), (m5, .inl (cZ, 16384, .inl Gv)), (m6, .inl (cI, 4000, .inl S1)), (m7, .inl (cI, 4000, .inl S2))] H → va_D A [(qy, .inr (5, [.ref m1, .ref m2, .ref m3, .ref m4, .int (nI (n - 1)), .int (nI g), .int kn, .ref m5, .ref m6, .int (nI z1), .ref m7, .int (nI z2), .int sp, .int 0])), (m1, .inl (cI, 14, .inl (sh_ Bd (uI_ x) (a + 1)))), (m2, .inl (cI, 14, .inl (sh_ Hd (uI_ x) (a + 1)))), (m3, .inl (cI, 14, .inl (sh_ Wt (uI_ x) (a + 1)))), (m4, .inl (cZ, 14, .inl (sh_ Fx (uI_ x) (a + 1)))), (m5, .inl (cZ, 16384, .inl Gv)), (m6, .inl (cI, 4000, .inl S1)), (m7, .inl (cI, 4000, .inl S2))] → va_S A s.heap H locs → lv_has ls 3 [(2, .int (nI a)), (0, .ref qy), (1, .int (nI (uI_ x)))] → W p l e (headSpec wsX4_drop ({ frames := 1, cells := 0, slots := 0, locals := 21 } : Room)).room s m ([.ref qy, .int x] : List Value).toArray below meth c H locs 0 0 (MQ below (va_Qi (S := Co_ × Jm_) (fun r u => u.1 = t_drop (n, Bd, Hd, Wt, Fx, g) x ∧ q_drop (n, Bd, Hd, Wt, Fx, g) x r ∧ cok_ u.1 ∧ im_ u.1 u.2) (fun u => wd_ D [(cI, .int), (cZ, .boolean), (cJ, .long)] A [(qy, .inr (5, [.ref m1, .ref m2, .ref m3, .ref m4, .int (nI u.1.1), .int (nI u.1.2.2.2.2.2), .int u.2.1, .ref m5, .ref m6, .int (nI u.2.2.2.1), .ref m7, .int (nI u.2.2.2.2.2.1), .int u.2.2.2.2.2.2.2.1, .int u.2.2.2.2.2.2.2.2])), (m1, .inl (cI, 14, .inl u.1.2.1)), (m2, .inl (cI, 14, .inl u.1.2.2.1)), (m3, .inl (cI, 14, .inl u.1.2.2.2.1)), (m4, .inl (cZ, 14, .inl u.1.2.2.2.2.1)), (m5, .inl (cZ, 16384, .inl u.2.2.1)), (m6, .inl (cI, 4000, .inl u.2.2.2.2.1)), (m7, .inl (cI, 4000, .inl u.2.2.2.2.2.2.1))]) A) ([.ref qy, .int x] : List Value).toArray s 0 0 A) (F0 m 27 ls []) := by
      intro d
      induction d with
      | zero => intro a H locs ls h1 h2; omega
      | succ d ih =>
        intro a H locs ls h1 h2 h3 hP hD hS hl
        refine lv_iload_n hx hb dX4_drop_27 rfl (lv_at hl 0 rfl) ?_
        refine lv_aload_n hx hb dX4_drop_28 rfl (lv_at hl 1 rfl) ?_
        refine va_get (D := D) (ci := 5) (v := .int (nI (n - 1))) (C := RX4) (T := TX4) (N := 14) hx hb hts iX4 hown hK hP 0 rfl rfl 4 (by decide) (hts (.fieldLink RX4 36 "LeastSetsModel" "count" "I") (by decide +kernel)) (fun _ h9 => h9) rfl dX4_drop_29 ?_
        refine r_ige hx hb (tgt := 97) (by omega) (by omega) dX4_drop_32 (by decide) (fun c_32 => ?_) (fun c_32 => ?_)
        · have ea : a + 1 = n := by omega
          rw [ea] at hP hD
          refine lv_aload_n hx hb dX4_drop_97 rfl (lv_at hl 1 rfl) ?_
          refine lv_iconst (v := 0) hx hb dX4_drop_98 (by decide +kernel) ?_
          refine va_put (D := D) (ci := 5) (v := .int 0) (ty := .boolean) (C := RX4) (T := TX4) (N := 14) hx hb hts iX4 tyX4 tyX4_ok nmX4 hown hK hP hD hS 0 rfl rfl 6 (by decide) (hts (.fieldLink RX4 40 "LeastSetsModel" "known" "Z") (by decide +kernel)) (fun _ h9 => h9) rfl (by decide +kernel) rfl rfl (Nat.le_of_ble_eq_true rfl) dX4_drop_99 (fun H locs hP hD hS => ?_)
          have hP : va_P D vwCl [(qy, .inr (5, [.ref m1, .ref m2, .ref m3, .ref m4, .int (nI (n - 1)), .int (nI g), .int 0, .ref m5, .ref m6, .int (nI z1), .ref m7, .int (nI z2), .int sp, .int 0])), (m1, .inl (cI, 14, .inl (sh_ Bd (uI_ x) n))), (m2, .inl (cI, 14, .inl (sh_ Hd (uI_ x) n))), (m3, .inl (cI, 14, .inl (sh_ Wt (uI_ x) n))), (m4, .inl (cZ, 14, .inl (sh_ Fx (uI_ x) n))), (m5, .inl (cZ, 16384, .inl Gv)), (m6, .inl (cI, 4000, .inl S1)), (m7, .inl (cI, 4000, .inl S2))] H := hP
          have hD : va_D A [(qy, .inr (5, [.ref m1, .ref m2, .ref m3, .ref m4, .int (nI (n - 1)), .int (nI g), .int 0, .ref m5, .ref m6, .int (nI z1), .ref m7, .int (nI z2), .int sp, .int 0])), (m1, .inl (cI, 14, .inl (sh_ Bd (uI_ x) n))), (m2, .inl (cI, 14, .inl (sh_ Hd (uI_ x) n))), (m3, .inl (cI, 14, .inl (sh_ Wt (uI_ x) n))), (m4, .inl (cZ, 14, .inl (sh_ Fx (uI_ x) n))), (m5, .inl (cZ, 16384, .inl Gv)), (m6, .inl (cI, 4000, .inl S1)), (m7, .inl (cI, 4000, .inl S2))] := hD
          refine lv_aload_n hx hb dX4_drop_102 rfl (lv_at hl 1 rfl) ?_
          refine va_get (D := D) (ci := 5) (v := .int (nI (n - 1))) (C := RX4) (T := TX4) (N := 14) hx hb hts iX4 hown hK hP 0 rfl rfl 4 (by decide) (hts (.fieldLink RX4 36 "LeastSetsModel" "count" "I") (by decide +kernel)) (fun _ h9 => h9) rfl dX4_drop_103 ?_
          exact W.iret (v := (nI (n - 1))) hx hb hr (fun t ht hW => ⟨⟨(nI (n - 1)), ((n - 1, sh_ Bd (uI_ x) n, sh_ Hd (uI_ x) n, sh_ Wt (uI_ x) n, sh_ Fx (uI_ x) n, g), (0, Gv, z1, S1, z2, S2, sp, 0)), rfl, ⟨(if_pos hyes).symm, (if_pos hyes).symm, cok_drop hc hyes, IM_0⟩, by rw [ht]; exact hP, va_K.moved hW.alike hK, hD⟩, hS.F ht⟩) hS.2.2 dX4_drop_106
        · refine lv_aload_n hx hb dX4_drop_35 rfl (lv_at hl 1 rfl) ?_
          refine va_get (D := D) (ci := 5) (v := .ref m1) (C := RX4) (T := TX4) (N := 14) hx hb hts iX4 hown hK hP 0 rfl rfl 0 (by decide) (hts (.fieldLink RX4 7 "LeastSetsModel" "bodies" "[I") (by decide +kernel)) (fun _ h9 => h9) rfl dX4_drop_36 ?_
          refine lv_iload_n hx hb dX4_drop_39 rfl (lv_at hl 0 rfl) ?_
          refine lv_aload_n hx hb dX4_drop_40 rfl (lv_at hl 1 rfl) ?_
          refine va_get (D := D) (ci := 5) (v := .ref m1) (C := RX4) (T := TX4) (N := 14) hx hb hts iX4 hown hK hP 0 rfl rfl 0 (by decide) (hts (.fieldLink RX4 7 "LeastSetsModel" "bodies" "[I") (by decide +kernel)) (fun _ h9 => h9) rfl dX4_drop_41 ?_
          refine lv_iload_n hx hb dX4_drop_44 rfl (lv_at hl 0 rfl) ?_
          refine lv_iconst (v := (nI 1)) hx hb dX4_drop_45 (by decide +kernel) ?_
          refine r_iadd hx hb dX4_drop_46 ?_
          refine r_iald hx hb hK hP 1 0 rfl rfl (a + 1) (by omega) (by omega) dX4_drop_47 ?_
          refine r_iast hx hb hK hP hD hS 1 0 rfl rfl a (by omega) (by omega) dX4_drop_48 (fun H locs hP hD hS => ?_)
          have hP : va_P D vwCl [(qy, .inr (5, [.ref m1, .ref m2, .ref m3, .ref m4, .int (nI (n - 1)), .int (nI g), .int kn, .ref m5, .ref m6, .int (nI z1), .ref m7, .int (nI z2), .int sp, .int 0])), (m1, .inl (cI, 14, .inl (upd (sh_ Bd (uI_ x) (a + 1)) a ((sh_ Bd (uI_ x) (a + 1)) (a + 1))))), (m2, .inl (cI, 14, .inl (sh_ Hd (uI_ x) (a + 1)))), (m3, .inl (cI, 14, .inl (sh_ Wt (uI_ x) (a + 1)))), (m4, .inl (cZ, 14, .inl (sh_ Fx (uI_ x) (a + 1)))), (m5, .inl (cZ, 16384, .inl Gv)), (m6, .inl (cI, 4000, .inl S1)), (m7, .inl (cI, 4000, .inl S2))] H := hP
          have hD : va_D A [(qy, .inr (5, [.ref m1, .ref m2, .ref m3, .ref m4, .int (nI (n - 1)), .int (nI g), .int kn, .ref m5, .ref m6, .int (nI z1), .ref m7, .int (nI z2), .int sp, .int 0])), (m1, .inl (cI, 14, .inl (upd (sh_ Bd (uI_ x) (a + 1)) a ((sh_ Bd (uI_ x) (a + 1)) (a + 1))))), (m2, .inl (cI, 14, .inl (sh_ Hd (uI_ x) (a + 1)))), (m3, .inl (cI, 14, .inl (sh_ Wt (uI_ x) (a + 1)))), (m4, .inl (cZ, 14, .inl (sh_ Fx (uI_ x) (a + 1)))), (m5, .inl (cZ, 16384, .inl Gv)), (m6, .inl (cI, 4000, .inl S1)), (m7, .inl (cI, 4000, .inl S2))] := hD
          refine lv_aload_n hx hb dX4_drop_49 rfl (lv_at hl 1 rfl) ?_
          refine va_get (D := D) (ci := 5) (v := .ref m2) (C := RX4) (T := TX4) (N := 14) hx hb hts iX4 hown hK hP 0 rfl rfl 1 (by decide) (hts (.fieldLink RX4 13 "LeastSetsModel" "heads" "[I") (by decide +kernel)) (fun _ h9 => h9) rfl dX4_drop_50 ?_
          refine lv_iload_n hx hb dX4_drop_53 rfl (lv_at hl 0 rfl) ?_
          refine lv_aload_n hx hb dX4_drop_54 rfl (lv_at hl 1 rfl) ?_
          refine va_get (D := D) (ci := 5) (v := .ref m2) (C := RX4) (T := TX4) (N := 14) hx hb hts iX4 hown hK hP 0 rfl rfl 1 (by decide) (hts (.fieldLink RX4 13 "LeastSetsModel" "heads" "[I") (by decide +kernel)) (fun _ h9 => h9) rfl dX4_drop_55 ?_
          refine lv_iload_n hx hb dX4_drop_58 rfl (lv_at hl 0 rfl) ?_
          refine lv_iconst (v := (nI 1)) hx hb dX4_drop_59 (by decide +kernel) ?_
          refine r_iadd hx hb dX4_drop_60 ?_
          refine r_iald hx hb hK hP 2 0 rfl rfl (a + 1) (by omega) (by omega) dX4_drop_61 ?_
          refine r_iast hx hb hK hP hD hS 2 0 rfl rfl a (by omega) (by omega) dX4_drop_62 (fun H locs hP hD hS => ?_)
          have hP : va_P D vwCl [(qy, .inr (5, [.ref m1, .ref m2, .ref m3, .ref m4, .int (nI (n - 1)), .int (nI g), .int kn, .ref m5, .ref m6, .int (nI z1), .ref m7, .int (nI z2), .int sp, .int 0])), (m1, .inl (cI, 14, .inl (upd (sh_ Bd (uI_ x) (a + 1)) a ((sh_ Bd (uI_ x) (a + 1)) (a + 1))))), (m2, .inl (cI, 14, .inl (upd (sh_ Hd (uI_ x) (a + 1)) a ((sh_ Hd (uI_ x) (a + 1)) (a + 1))))), (m3, .inl (cI, 14, .inl (sh_ Wt (uI_ x) (a + 1)))), (m4, .inl (cZ, 14, .inl (sh_ Fx (uI_ x) (a + 1)))), (m5, .inl (cZ, 16384, .inl Gv)), (m6, .inl (cI, 4000, .inl S1)), (m7, .inl (cI, 4000, .inl S2))] H := hP
          have hD : va_D A [(qy, .inr (5, [.ref m1, .ref m2, .ref m3, .ref m4, .int (nI (n - 1)), .int (nI g), .int kn, .ref m5, .ref m6, .int (nI z1), .ref m7, .int (nI z2), .int sp, .int 0])), (m1, .inl (cI, 14, .inl (upd (sh_ Bd (uI_ x) (a + 1)) a ((sh_ Bd (uI_ x) (a + 1)) (a + 1))))), (m2, .inl (cI, 14, .inl (upd (sh_ Hd (uI_ x) (a + 1)) a ((sh_ Hd (uI_ x) (a + 1)) (a + 1))))), (m3, .inl (cI, 14, .inl (sh_ Wt (uI_ x) (a + 1)))), (m4, .inl (cZ, 14, .inl (sh_ Fx (uI_ x) (a + 1)))), (m5, .inl (cZ, 16384, .inl Gv)), (m6, .inl (cI, 4000, .inl S1)), (m7, .inl (cI, 4000, .inl S2))] := hD
          refine lv_aload_n hx hb dX4_drop_63 rfl (lv_at hl 1 rfl) ?_
          refine va_get (D := D) (ci := 5) (v := .ref m3) (C := RX4) (T := TX4) (N := 14) hx hb hts iX4 hown hK hP 0 rfl rfl 2 (by decide) (hts (.fieldLink RX4 16 "LeastSetsModel" "weights" "[I") (by decide +kernel)) (fun _ h9 => h9) rfl dX4_drop_64 ?_
          refine lv_iload_n hx hb dX4_drop_67 rfl (lv_at hl 0 rfl) ?_
          refine lv_aload_n hx hb dX4_drop_68 rfl (lv_at hl 1 rfl) ?_
          refine va_get (D := D) (ci := 5) (v := .ref m3) (C := RX4) (T := TX4) (N := 14) hx hb hts iX4 hown hK hP 0 rfl rfl 2 (by decide) (hts (.fieldLink RX4 16 "LeastSetsModel" "weights" "[I") (by decide +kernel)) (fun _ h9 => h9) rfl dX4_drop_69 ?_
          refine lv_iload_n hx hb dX4_drop_72 rfl (lv_at hl 0 rfl) ?_
          refine lv_iconst (v := (nI 1)) hx hb dX4_drop_73 (by decide +kernel) ?_
          refine r_iadd hx hb dX4_drop_74 ?_
          refine r_iald hx hb hK hP 3 0 rfl rfl (a + 1) (by omega) (by omega) dX4_drop_75 ?_
          refine r_iast hx hb hK hP hD hS 3 0 rfl rfl a (by omega) (by omega) dX4_drop_76 (fun H locs hP hD hS => ?_)
          have hP : va_P D vwCl [(qy, .inr (5, [.ref m1, .ref m2, .ref m3, .ref m4, .int (nI (n - 1)), .int (nI g), .int kn, .ref m5, .ref m6, .int (nI z1), .ref m7, .int (nI z2), .int sp, .int 0])), (m1, .inl (cI, 14, .inl (upd (sh_ Bd (uI_ x) (a + 1)) a ((sh_ Bd (uI_ x) (a + 1)) (a + 1))))), (m2, .inl (cI, 14, .inl (upd (sh_ Hd (uI_ x) (a + 1)) a ((sh_ Hd (uI_ x) (a + 1)) (a + 1))))), (m3, .inl (cI, 14, .inl (upd (sh_ Wt (uI_ x) (a + 1)) a ((sh_ Wt (uI_ x) (a + 1)) (a + 1))))), (m4, .inl (cZ, 14, .inl (sh_ Fx (uI_ x) (a + 1)))), (m5, .inl (cZ, 16384, .inl Gv)), (m6, .inl (cI, 4000, .inl S1)), (m7, .inl (cI, 4000, .inl S2))] H := hP
          have hD : va_D A [(qy, .inr (5, [.ref m1, .ref m2, .ref m3, .ref m4, .int (nI (n - 1)), .int (nI g), .int kn, .ref m5, .ref m6, .int (nI z1), .ref m7, .int (nI z2), .int sp, .int 0])), (m1, .inl (cI, 14, .inl (upd (sh_ Bd (uI_ x) (a + 1)) a ((sh_ Bd (uI_ x) (a + 1)) (a + 1))))), (m2, .inl (cI, 14, .inl (upd (sh_ Hd (uI_ x) (a + 1)) a ((sh_ Hd (uI_ x) (a + 1)) (a + 1))))), (m3, .inl (cI, 14, .inl (upd (sh_ Wt (uI_ x) (a + 1)) a ((sh_ Wt (uI_ x) (a + 1)) (a + 1))))), (m4, .inl (cZ, 14, .inl (sh_ Fx (uI_ x) (a + 1)))), (m5, .inl (cZ, 16384, .inl Gv)), (m6, .inl (cI, 4000, .inl S1)), (m7, .inl (cI, 4000, .inl S2))] := hD
          refine lv_aload_n hx hb dX4_drop_77 rfl (lv_at hl 1 rfl) ?_
          refine va_get (D := D) (ci := 5) (v := .ref m4) (C := RX4) (T := TX4) (N := 14) hx hb hts iX4 hown hK hP 0 rfl rfl 3 (by decide) (hts (.fieldLink RX4 19 "LeastSetsModel" "fixed" "[Z") (by decide +kernel)) (fun _ h9 => h9) rfl dX4_drop_78 ?_
          refine lv_iload_n hx hb dX4_drop_81 rfl (lv_at hl 0 rfl) ?_
          refine lv_aload_n hx hb dX4_drop_82 rfl (lv_at hl 1 rfl) ?_
          refine va_get (D := D) (ci := 5) (v := .ref m4) (C := RX4) (T := TX4) (N := 14) hx hb hts iX4 hown hK hP 0 rfl rfl 3 (by decide) (hts (.fieldLink RX4 19 "LeastSetsModel" "fixed" "[Z") (by decide +kernel)) (fun _ h9 => h9) rfl dX4_drop_83 ?_
          refine lv_iload_n hx hb dX4_drop_86 rfl (lv_at hl 0 rfl) ?_
          refine lv_iconst (v := (nI 1)) hx hb dX4_drop_87 (by decide +kernel) ?_
          refine r_iadd hx hb dX4_drop_88 ?_
          refine r_zald hx hb hK hP 4 1 rfl rfl (a + 1) (by omega) (by omega) dX4_drop_89 ?_
          refine r_zast hx hb hK hP hD hS 4 1 rfl rfl a (by rw [sh_at Fx h2]; exact hF (a + 1) (by omega)) (by omega) (by omega) dX4_drop_90 (fun H locs hP hD hS => ?_)
          have hP : va_P D vwCl [(qy, .inr (5, [.ref m1, .ref m2, .ref m3, .ref m4, .int (nI (n - 1)), .int (nI g), .int kn, .ref m5, .ref m6, .int (nI z1), .ref m7, .int (nI z2), .int sp, .int 0])), (m1, .inl (cI, 14, .inl (upd (sh_ Bd (uI_ x) (a + 1)) a ((sh_ Bd (uI_ x) (a + 1)) (a + 1))))), (m2, .inl (cI, 14, .inl (upd (sh_ Hd (uI_ x) (a + 1)) a ((sh_ Hd (uI_ x) (a + 1)) (a + 1))))), (m3, .inl (cI, 14, .inl (upd (sh_ Wt (uI_ x) (a + 1)) a ((sh_ Wt (uI_ x) (a + 1)) (a + 1))))), (m4, .inl (cZ, 14, .inl (upd (sh_ Fx (uI_ x) (a + 1)) a ((sh_ Fx (uI_ x) (a + 1)) (a + 1))))), (m5, .inl (cZ, 16384, .inl Gv)), (m6, .inl (cI, 4000, .inl S1)), (m7, .inl (cI, 4000, .inl S2))] H := hP
          have hD : va_D A [(qy, .inr (5, [.ref m1, .ref m2, .ref m3, .ref m4, .int (nI (n - 1)), .int (nI g), .int kn, .ref m5, .ref m6, .int (nI z1), .ref m7, .int (nI z2), .int sp, .int 0])), (m1, .inl (cI, 14, .inl (upd (sh_ Bd (uI_ x) (a + 1)) a ((sh_ Bd (uI_ x) (a + 1)) (a + 1))))), (m2, .inl (cI, 14, .inl (upd (sh_ Hd (uI_ x) (a + 1)) a ((sh_ Hd (uI_ x) (a + 1)) (a + 1))))), (m3, .inl (cI, 14, .inl (upd (sh_ Wt (uI_ x) (a + 1)) a ((sh_ Wt (uI_ x) (a + 1)) (a + 1))))), (m4, .inl (cZ, 14, .inl (upd (sh_ Fx (uI_ x) (a + 1)) a ((sh_ Fx (uI_ x) (a + 1)) (a + 1))))), (m5, .inl (cZ, 16384, .inl Gv)), (m6, .inl (cI, 4000, .inl S1)), (m7, .inl (cI, 4000, .inl S2))] := hD
          refine lv_iinc (v := (nI (a + 1))) (lv' := [(2, .int (nI (a + 1))), (0, .ref qy), (1, .int (nI (uI_ x)))]) hx hb dX4_drop_91 hl (k := 0) rfl (nI_inc _) (by decide) rfl (fun ls hl => ?_)
          refine lv_goto (tgt := 27) hx hb dX4_drop_94 (by decide) ?_
          rw [sh_next h2, sh_next h2, sh_next h2, sh_next h2] at hP hD
          exact ih (a + 1) H locs ls (by omega) (by omega) (by omega) hP hD hS (lv_sub hl [0, 1, 2] rfl)
    rw [← sh_0 Bd (uI_ x), ← sh_0 Hd (uI_ x), ← sh_0 Wt (uI_ x), ← sh_0 Fx (uI_ x)] at hP hD
    exact loop n (uI_ x) H locs ls (by omega) (Nat.le_refl _) hyes hP hD hS (lv_sub hl [0, 1, 2] rfl)
  · have hno : ¬ uI_ x < n := hu_no (by omega) hr_7 c_10
    refine lv_iconst (v := (-1)) hx hb dX4_drop_13 (by decide +kernel) ?_
    exact W.iret (v := (-1)) hx hb hr (fun t ht hW => ⟨⟨(-1), ((n, Bd, Hd, Wt, Fx, g), (kn, Gv, z1, S1, z2, S2, sp, 0)), rfl, ⟨(if_neg hno).symm, (if_neg hno).symm, hc, hi⟩, by rw [ht]; exact hP, va_K.moved hW.alike hK, hD⟩, hS.F ht⟩) hS.2.2 dX4_drop_14
set_option maxHeartbeats 4000000 in
set_option maxRecDepth 100000 in
/-- fix(x, y) -/
theorem c_X4_fix (l : Launch) (D : va_G) (cI cZ cJ : ClassId) (t1 t2 sz : Nat) (qy m1 m2 m3 m4 m5 m6 m7 : Nat) (n : Nat) (Bd Hd Wt Fx : Nat → Int32) (g : Nat) (kn : Int32) (Gv : Nat → Int32) (z1 : Nat) (S1 : Nat → Int32) (z2 : Nat) (S2 : Nat → Int32) (sp th : Int32) (hc : CO_ n Bd Hd Fx g) (hi : IM_ n Bd Hd Fx g kn z1 S1 z2 S2) (x y : Int32) (hy : y = 0 ∨ y = 1) : Met l yX4_fix wsX4_fix ({ frames := 1, cells := 0, slots := 0, locals := 21 } : Room) (va_Pc [.ref qy, .int x, .int y] (wr_ D [(cI, .int), (cZ, .boolean), (cJ, .long)] [(qy, .inr (5, [.ref m1, .ref m2, .ref m3, .ref m4, .int (nI n), .int (nI g), .int kn, .ref m5, .ref m6, .int (nI z1), .ref m7, .int (nI z2), .int sp, .int th])), (m1, .inl (cI, 14, .inl Bd)), (m2, .inl (cI, 14, .inl Hd)), (m3, .inl (cI, 14, .inl Wt)), (m4, .inl (cZ, 14, .inl Fx)), (m5, .inl (cZ, 16384, .inl Gv)), (m6, .inl (cI, 4000, .inl S1)), (m7, .inl (cI, 4000, .inl S2))] t1 t2 sz)) (va_Qi (S := Co_ × Jm_) (fun r u => u.1 = t_fix (n, Bd, Hd, Wt, Fx, g) x y ∧ q_fix (n, Bd, Hd, Wt, Fx, g) x r ∧ cok_ u.1 ∧ im_ u.1 u.2) (fun u => wd_ D [(cI, .int), (cZ, .boolean), (cJ, .long)] (va_A [(qy, .inr (5, [.ref m1, .ref m2, .ref m3, .ref m4, .int (nI n), .int (nI g), .int kn, .ref m5, .ref m6, .int (nI z1), .ref m7, .int (nI z2), .int sp, .int th])), (m1, .inl (cI, 14, .inl Bd)), (m2, .inl (cI, 14, .inl Hd)), (m3, .inl (cI, 14, .inl Wt)), (m4, .inl (cZ, 14, .inl Fx)), (m5, .inl (cZ, 16384, .inl Gv)), (m6, .inl (cI, 4000, .inl S1)), (m7, .inl (cI, 4000, .inl S2))] sz) [(qy, .inr (5, [.ref m1, .ref m2, .ref m3, .ref m4, .int (nI u.1.1), .int (nI u.1.2.2.2.2.2), .int u.2.1, .ref m5, .ref m6, .int (nI u.2.2.2.1), .ref m7, .int (nI u.2.2.2.2.2.1), .int u.2.2.2.2.2.2.2.1, .int u.2.2.2.2.2.2.2.2])), (m1, .inl (cI, 14, .inl u.1.2.1)), (m2, .inl (cI, 14, .inl u.1.2.2.1)), (m3, .inl (cI, 14, .inl u.1.2.2.2.1)), (m4, .inl (cZ, 14, .inl u.1.2.2.2.2.1)), (m5, .inl (cZ, 16384, .inl u.2.2.1)), (m6, .inl (cI, 4000, .inl u.2.2.2.2.1)), (m7, .inl (cI, 4000, .inl u.2.2.2.2.2.2.1))]) (va_A [(qy, .inr (5, [.ref m1, .ref m2, .ref m3, .ref m4, .int (nI n), .int (nI g), .int kn, .ref m5, .ref m6, .int (nI z1), .ref m7, .int (nI z2), .int sp, .int th])), (m1, .inl (cI, 14, .inl Bd)), (m2, .inl (cI, 14, .inl Hd)), (m3, .inl (cI, 14, .inl Wt)), (m4, .inl (cZ, 14, .inl Fx)), (m5, .inl (cZ, 16384, .inl Gv)), (m6, .inl (cI, 4000, .inl S1)), (m7, .inl (cI, 4000, .inl S2))] sz)) 0 0 (va_A [(qy, .inr (5, [.ref m1, .ref m2, .ref m3, .ref m4, .int (nI n), .int (nI g), .int kn, .ref m5, .ref m6, .int (nI z1), .ref m7, .int (nI z2), .int sp, .int th])), (m1, .inl (cI, 14, .inl Bd)), (m2, .inl (cI, 14, .inl Hd)), (m3, .inl (cI, 14, .inl Wt)), (m4, .inl (cZ, 14, .inl Fx)), (m5, .inl (cZ, 16384, .inl Gv)), (m6, .inl (cI, 4000, .inl S1)), (m7, .inl (cI, 4000, .inl S2))] sz) := by
  refine Met.ofW (cc := cX4_fix) (maxL := 4) (ret := (some .int)) (by decide) rfl ?_
  intro p e s m args below meth c s₁ B hml hv
  obtain ⟨rfl, hsz, hP, hK, hD0, hE⟩ := hv
  have hx := B.exec
  have hb := B.bytes
  have hr := B.returns
  have hts := atoms_spec (ws := wsX4_fix) B.pre
  have hown : s.vm.findClass RX4 = some m.cls := findClass_of_methodNamed B.named
  have hlocks := B.notSynchronized
  have iX4 : ∀ w ∈ u_ws RX4 TX4 14, w ∈ wsX4_fix := by decide +kernel
  subst hsz
  have hD := hD0.self (sz := s.heap.size)
  generalize hAe : va_A [(qy, .inr (5, [.ref m1, .ref m2, .ref m3, .ref m4, .int (nI n), .int (nI g), .int kn, .ref m5, .ref m6, .int (nI z1), .ref m7, .int (nI z2), .int sp, .int th])), (m1, .inl (cI, 14, .inl Bd)), (m2, .inl (cI, 14, .inl Hd)), (m3, .inl (cI, 14, .inl Wt)), (m4, .inl (cZ, 14, .inl Fx)), (m5, .inl (cZ, 16384, .inl Gv)), (m6, .inl (cI, 4000, .inl S1)), (m7, .inl (cI, 4000, .inl S2))] s.heap.size = A at hD hE ⊢
  have hA : ∀ q : Nat, s.heap.size ≤ q → A q := fun q h => by rw [← hAe]; exact Or.inr h
  have hS : va_S A s.heap s.heap [] := va_S.rf
  obtain ⟨hn, hg, hok0, hF⟩ := id hc
  have hok : ∀ a, a < n → uI_ (Hd a) < 24 := fun a ha => (hok0 a ha).2
  have hl := lv_entry ([.ref qy, .int x, .int y]) (n := 4) (Nat.le_of_ble_eq_true rfl)
  rw [lg_entry_eq]
  generalize (lg_sl ([.ref qy, .int x, .int y]) ++ List.replicate (4 - (lg_sl ([.ref qy, .int x, .int y])).length) Slot.unset).toArray = ls at hl ⊢
  have hl : lv_has ls 4 [(0, .ref qy), (1, .int x), (2, .int y)] := hl
  refine lv_aload_n hx hb dX4_fix_0 rfl (lv_at hl 0 rfl) ?_
  refine lv_iconst (v := 0) hx hb dX4_fix_1 (by decide +kernel) ?_
  refine va_put (D := D) (ci := 5) (v := .int 0) (ty := .int) (C := RX4) (T := TX4) (N := 14) hx hb hts iX4 tyX4 tyX4_ok nmX4 hown hK hP hD hS 0 rfl rfl 13 (by decide) (hts (.fieldLink RX4 32 "LeastSetsModel" "thrown" "I") (by decide +kernel)) (fun _ h9 => h9) rfl (by decide +kernel) rfl rfl (Nat.le_of_ble_eq_true rfl) dX4_fix_2 (fun H locs hP hD hS => ?_)
  have hP : va_P D vwCl [(qy, .inr (5, [.ref m1, .ref m2, .ref m3, .ref m4, .int (nI n), .int (nI g), .int kn, .ref m5, .ref m6, .int (nI z1), .ref m7, .int (nI z2), .int sp, .int 0])), (m1, .inl (cI, 14, .inl Bd)), (m2, .inl (cI, 14, .inl Hd)), (m3, .inl (cI, 14, .inl Wt)), (m4, .inl (cZ, 14, .inl Fx)), (m5, .inl (cZ, 16384, .inl Gv)), (m6, .inl (cI, 4000, .inl S1)), (m7, .inl (cI, 4000, .inl S2))] H := hP
  have hD : va_D A [(qy, .inr (5, [.ref m1, .ref m2, .ref m3, .ref m4, .int (nI n), .int (nI g), .int kn, .ref m5, .ref m6, .int (nI z1), .ref m7, .int (nI z2), .int sp, .int 0])), (m1, .inl (cI, 14, .inl Bd)), (m2, .inl (cI, 14, .inl Hd)), (m3, .inl (cI, 14, .inl Wt)), (m4, .inl (cZ, 14, .inl Fx)), (m5, .inl (cZ, 16384, .inl Gv)), (m6, .inl (cI, 4000, .inl S1)), (m7, .inl (cI, 4000, .inl S2))] := hD
  refine lv_aload_n hx hb dX4_fix_5 rfl (lv_at hl 0 rfl) ?_
  refine lv_iload_n hx hb dX4_fix_6 rfl (lv_at hl 1 rfl) ?_
  refine vp_callSi (va_runV (As := [.int x]) (rest := []) ⟨hx, hb, hml, hown, hts⟩ (c_X4_isAxiom l D cI cZ cJ qy m1 m2 m3 m4 m5 m6 m7 n Bd Hd Wt Fx g kn Gv z1 S1 z2 S2 sp 0 hn x) (cwV 1 hts gX4_fix_X4_isAxiom rfl rfl rfl (by decide +kernel) ⟨Nat.le_of_ble_eq_true rfl, Nat.le_of_ble_eq_true rfl⟩) ⟨ro_blind, va_recv hK hP (ci := 5) (q0 := 0) rfl rfl, ro_pre (hP.sub (ws' := [(qy, .inr (5, [.ref m1, .ref m2, .ref m3, .ref m4, .int (nI n), .int (nI g), .int kn, .ref m5, .ref m6, .int (nI z1), .ref m7, .int (nI z2), .int sp, .int 0]))]) [0] rfl) hK [0, 1, 2] rfl⟩ rfl rfl hl.1 rfl (lv_room (Nat.le_of_ble_eq_true rfl)) dX4_fix_7 ⟨Nat.le_of_ble_eq_true rfl, Nat.le_of_ble_eq_true rfl⟩).run (fun r_7 hr_7 => ?_)
  refine lv_if_ne (tgt := 15) hx hb dX4_fix_10 (by decide) (fun c_10 => ?_) (fun c_10 => ?_)
  · obtain ⟨hyes, ex⟩ := hu_yes (by omega) hr_7 c_10
    rw [ex] at hl
    refine lv_aload_n hx hb dX4_fix_15 rfl (lv_at hl 0 rfl) ?_
    refine va_get (D := D) (ci := 5) (v := .ref m4) (C := RX4) (T := TX4) (N := 14) hx hb hts iX4 hown hK hP 0 rfl rfl 3 (by decide) (hts (.fieldLink RX4 19 "LeastSetsModel" "fixed" "[Z") (by decide +kernel)) (fun _ h9 => h9) rfl dX4_fix_16 ?_
    refine lv_iload_n hx hb dX4_fix_19 rfl (lv_at hl 1 rfl) ?_
    refine r_zald hx hb hK hP 4 1 rfl rfl (uI_ x) (by omega) (by omega) dX4_fix_20 ?_
    refine lv_if_eq (tgt := 28) hx hb dX4_fix_21 (by decide) (fun c_21 => ?_) (fun c_21 => ?_)
    · refine lv_iconst (v := 0) hx hb dX4_fix_28 (by decide +kernel) ?_
      refine lv_istore_n (lv' := [(3, .int 0), (0, .ref qy), (1, .int (nI (uI_ x))), (2, .int y)]) hx hb dX4_fix_29 rfl hl (by decide) rfl (fun ls hl => ?_)
      refine lv_aload_n hx hb dX4_fix_30 rfl (lv_at hl 1 rfl) ?_
      refine va_get (D := D) (ci := 5) (v := .ref m4) (C := RX4) (T := TX4) (N := 14) hx hb hts iX4 hown hK hP 0 rfl rfl 3 (by decide) (hts (.fieldLink RX4 19 "LeastSetsModel" "fixed" "[Z") (by decide +kernel)) (fun _ h9 => h9) rfl dX4_fix_31 ?_
      refine lv_iload_n hx hb dX4_fix_34 rfl (lv_at hl 2 rfl) ?_
      refine lv_iload_n hx hb dX4_fix_35 rfl (lv_at hl 3 rfl) ?_
      refine r_zast hx hb hK hP hD hS 4 1 rfl rfl (uI_ x) (hy) (by omega) (by omega) dX4_fix_36 (fun H locs hP hD hS => ?_)
      have hP : va_P D vwCl [(qy, .inr (5, [.ref m1, .ref m2, .ref m3, .ref m4, .int (nI n), .int (nI g), .int kn, .ref m5, .ref m6, .int (nI z1), .ref m7, .int (nI z2), .int sp, .int 0])), (m1, .inl (cI, 14, .inl Bd)), (m2, .inl (cI, 14, .inl Hd)), (m3, .inl (cI, 14, .inl Wt)), (m4, .inl (cZ, 14, .inl (upd Fx (uI_ x) y))), (m5, .inl (cZ, 16384, .inl Gv)), (m6, .inl (cI, 4000, .inl S1)), (m7, .inl (cI, 4000, .inl S2))] H := hP
      have hD : va_D A [(qy, .inr (5, [.ref m1, .ref m2, .ref m3, .ref m4, .int (nI n), .int (nI g), .int kn, .ref m5, .ref m6, .int (nI z1), .ref m7, .int (nI z2), .int sp, .int 0])), (m1, .inl (cI, 14, .inl Bd)), (m2, .inl (cI, 14, .inl Hd)), (m3, .inl (cI, 14, .inl Wt)), (m4, .inl (cZ, 14, .inl (upd Fx (uI_ x) y))), (m5, .inl (cZ, 16384, .inl Gv)), (m6, .inl (cI, 4000, .inl S1)), (m7, .inl (cI, 4000, .inl S2))] := hD
      refine lv_aload_n hx hb dX4_fix_37 rfl (lv_at hl 1 rfl) ?_
      refine lv_iconst (v := 0) hx hb dX4_fix_38 (by decide +kernel) ?_
      refine va_put (D := D) (ci := 5) (v := .int 0) (ty := .boolean) (C := RX4) (T := TX4) (N := 14) hx hb hts iX4 tyX4 tyX4_ok nmX4 hown hK hP hD hS 0 rfl rfl 6 (by decide) (hts (.fieldLink RX4 40 "LeastSetsModel" "known" "Z") (by decide +kernel)) (fun _ h9 => h9) rfl (by decide +kernel) rfl rfl (Nat.le_of_ble_eq_true rfl) dX4_fix_39 (fun H locs hP hD hS => ?_)
      have hP : va_P D vwCl [(qy, .inr (5, [.ref m1, .ref m2, .ref m3, .ref m4, .int (nI n), .int (nI g), .int 0, .ref m5, .ref m6, .int (nI z1), .ref m7, .int (nI z2), .int sp, .int 0])), (m1, .inl (cI, 14, .inl Bd)), (m2, .inl (cI, 14, .inl Hd)), (m3, .inl (cI, 14, .inl Wt)), (m4, .inl (cZ, 14, .inl (upd Fx (uI_ x) y))), (m5, .inl (cZ, 16384, .inl Gv)), (m6, .inl (cI, 4000, .inl S1)), (m7, .inl (cI, 4000, .inl S2))] H := hP
      have hD : va_D A [(qy, .inr (5, [.ref m1, .ref m2, .ref m3, .ref m4, .int (nI n), .int (nI g), .int 0, .ref m5, .ref m6, .int (nI z1), .ref m7, .int (nI z2), .int sp, .int 0])), (m1, .inl (cI, 14, .inl Bd)), (m2, .inl (cI, 14, .inl Hd)), (m3, .inl (cI, 14, .inl Wt)), (m4, .inl (cZ, 14, .inl (upd Fx (uI_ x) y))), (m5, .inl (cZ, 16384, .inl Gv)), (m6, .inl (cI, 4000, .inl S1)), (m7, .inl (cI, 4000, .inl S2))] := hD
      refine lv_iload_n hx hb dX4_fix_42 rfl (lv_at hl 0 rfl) ?_
      exact W.iret (v := 0) hx hb hr (fun t ht hW => ⟨⟨0, ((n, Bd, Hd, Wt, upd Fx (uI_ x) y, g), (0, Gv, z1, S1, z2, S2, sp, 0)), rfl, ⟨(by first | exact (if_neg hno).symm | exact (if_pos hyes).symm), (by first | exact (if_neg hno).symm | exact (((if_pos hyes).trans ((hF _ hyes).resolve_left c_21)).symm) | exact ((if_pos hyes).trans c_21).symm), (by first | exact hc | exact cok_fix hc hy), (by first | exact hi | exact IM_0)⟩, by rw [ht]; exact hP, va_K.moved hW.alike hK, hD⟩, hS.F ht⟩) hS.2.2 dX4_fix_43
    · refine lv_iconst (v := 1) hx hb dX4_fix_24 (by decide +kernel) ?_
      refine lv_goto (tgt := 29) hx hb dX4_fix_25 (by decide) ?_
      refine lv_istore_n (lv' := [(3, .int 1), (0, .ref qy), (1, .int (nI (uI_ x))), (2, .int y)]) hx hb dX4_fix_29 rfl hl (by decide) rfl (fun ls hl => ?_)
      refine lv_aload_n hx hb dX4_fix_30 rfl (lv_at hl 1 rfl) ?_
      refine va_get (D := D) (ci := 5) (v := .ref m4) (C := RX4) (T := TX4) (N := 14) hx hb hts iX4 hown hK hP 0 rfl rfl 3 (by decide) (hts (.fieldLink RX4 19 "LeastSetsModel" "fixed" "[Z") (by decide +kernel)) (fun _ h9 => h9) rfl dX4_fix_31 ?_
      refine lv_iload_n hx hb dX4_fix_34 rfl (lv_at hl 2 rfl) ?_
      refine lv_iload_n hx hb dX4_fix_35 rfl (lv_at hl 3 rfl) ?_
      refine r_zast hx hb hK hP hD hS 4 1 rfl rfl (uI_ x) (hy) (by omega) (by omega) dX4_fix_36 (fun H locs hP hD hS => ?_)
      have hP : va_P D vwCl [(qy, .inr (5, [.ref m1, .ref m2, .ref m3, .ref m4, .int (nI n), .int (nI g), .int kn, .ref m5, .ref m6, .int (nI z1), .ref m7, .int (nI z2), .int sp, .int 0])), (m1, .inl (cI, 14, .inl Bd)), (m2, .inl (cI, 14, .inl Hd)), (m3, .inl (cI, 14, .inl Wt)), (m4, .inl (cZ, 14, .inl (upd Fx (uI_ x) y))), (m5, .inl (cZ, 16384, .inl Gv)), (m6, .inl (cI, 4000, .inl S1)), (m7, .inl (cI, 4000, .inl S2))] H := hP
      have hD : va_D A [(qy, .inr (5, [.ref m1, .ref m2, .ref m3, .ref m4, .int (nI n), .int (nI g), .int kn, .ref m5, .ref m6, .int (nI z1), .ref m7, .int (nI z2), .int sp, .int 0])), (m1, .inl (cI, 14, .inl Bd)), (m2, .inl (cI, 14, .inl Hd)), (m3, .inl (cI, 14, .inl Wt)), (m4, .inl (cZ, 14, .inl (upd Fx (uI_ x) y))), (m5, .inl (cZ, 16384, .inl Gv)), (m6, .inl (cI, 4000, .inl S1)), (m7, .inl (cI, 4000, .inl S2))] := hD
      refine lv_aload_n hx hb dX4_fix_37 rfl (lv_at hl 1 rfl) ?_
      refine lv_iconst (v := 0) hx hb dX4_fix_38 (by decide +kernel) ?_
      refine va_put (D := D) (ci := 5) (v := .int 0) (ty := .boolean) (C := RX4) (T := TX4) (N := 14) hx hb hts iX4 tyX4 tyX4_ok nmX4 hown hK hP hD hS 0 rfl rfl 6 (by decide) (hts (.fieldLink RX4 40 "LeastSetsModel" "known" "Z") (by decide +kernel)) (fun _ h9 => h9) rfl (by decide +kernel) rfl rfl (Nat.le_of_ble_eq_true rfl) dX4_fix_39 (fun H locs hP hD hS => ?_)
      have hP : va_P D vwCl [(qy, .inr (5, [.ref m1, .ref m2, .ref m3, .ref m4, .int (nI n), .int (nI g), .int 0, .ref m5, .ref m6, .int (nI z1), .ref m7, .int (nI z2), .int sp, .int 0])), (m1, .inl (cI, 14, .inl Bd)), (m2, .inl (cI, 14, .inl Hd)), (m3, .inl (cI, 14, .inl Wt)), (m4, .inl (cZ, 14, .inl (upd Fx (uI_ x) y))), (m5, .inl (cZ, 16384, .inl Gv)), (m6, .inl (cI, 4000, .inl S1)), (m7, .inl (cI, 4000, .inl S2))] H := hP
      have hD : va_D A [(qy, .inr (5, [.ref m1, .ref m2, .ref m3, .ref m4, .int (nI n), .int (nI g), .int 0, .ref m5, .ref m6, .int (nI z1), .ref m7, .int (nI z2), .int sp, .int 0])), (m1, .inl (cI, 14, .inl Bd)), (m2, .inl (cI, 14, .inl Hd)), (m3, .inl (cI, 14, .inl Wt)), (m4, .inl (cZ, 14, .inl (upd Fx (uI_ x) y))), (m5, .inl (cZ, 16384, .inl Gv)), (m6, .inl (cI, 4000, .inl S1)), (m7, .inl (cI, 4000, .inl S2))] := hD
      refine lv_iload_n hx hb dX4_fix_42 rfl (lv_at hl 0 rfl) ?_
      exact W.iret (v := 1) hx hb hr (fun t ht hW => ⟨⟨1, ((n, Bd, Hd, Wt, upd Fx (uI_ x) y, g), (0, Gv, z1, S1, z2, S2, sp, 0)), rfl, ⟨(by first | exact (if_neg hno).symm | exact (if_pos hyes).symm), (by first | exact (if_neg hno).symm | exact (((if_pos hyes).trans ((hF _ hyes).resolve_left c_21)).symm) | exact ((if_pos hyes).trans c_21).symm), (by first | exact hc | exact cok_fix hc hy), (by first | exact hi | exact IM_0)⟩, by rw [ht]; exact hP, va_K.moved hW.alike hK, hD⟩, hS.F ht⟩) hS.2.2 dX4_fix_43
  · have hno : ¬ uI_ x < n := hu_no (by omega) hr_7 c_10
    refine lv_iconst (v := (-1)) hx hb dX4_fix_13 (by decide +kernel) ?_
    exact W.iret (v := (-1)) hx hb hr (fun t ht hW => ⟨⟨(-1), ((n, Bd, Hd, Wt, Fx, g), (kn, Gv, z1, S1, z2, S2, sp, 0)), rfl, ⟨(by first | exact (if_neg hno).symm | exact (if_pos hyes).symm), (by first | exact (if_neg hno).symm | exact (((if_pos hyes).trans ((hF _ hyes).resolve_left c_21)).symm) | exact ((if_pos hyes).trans c_21).symm), (by first | exact hc | exact cok_fix hc hy), (by first | exact hi | exact IM_0)⟩, by rw [ht]; exact hP, va_K.moved hW.alike hK, hD⟩, hS.F ht⟩) hS.2.2 dX4_fix_14
set_option maxHeartbeats 4000000 in
set_option maxRecDepth 100000 in
/-- weight(x, y) -/
theorem c_X4_weight (l : Launch) (D : va_G) (cI cZ cJ : ClassId) (t1 t2 sz : Nat) (qy m1 m2 m3 m4 m5 m6 m7 : Nat) (n : Nat) (Bd Hd Wt Fx : Nat → Int32) (g : Nat) (kn : Int32) (Gv : Nat → Int32) (z1 : Nat) (S1 : Nat → Int32) (z2 : Nat) (S2 : Nat → Int32) (sp th : Int32) (hc : CO_ n Bd Hd Fx g) (hi : IM_ n Bd Hd Fx g kn z1 S1 z2 S2) (x y : Int32) : Met l yX4_weight wsX4_weight ({ frames := 1, cells := 0, slots := 0, locals := 21 } : Room) (va_Pc [.ref qy, .int x, .int y] (wr_ D [(cI, .int), (cZ, .boolean), (cJ, .long)] [(qy, .inr (5, [.ref m1, .ref m2, .ref m3, .ref m4, .int (nI n), .int (nI g), .int kn, .ref m5, .ref m6, .int (nI z1), .ref m7, .int (nI z2), .int sp, .int th])), (m1, .inl (cI, 14, .inl Bd)), (m2, .inl (cI, 14, .inl Hd)), (m3, .inl (cI, 14, .inl Wt)), (m4, .inl (cZ, 14, .inl Fx)), (m5, .inl (cZ, 16384, .inl Gv)), (m6, .inl (cI, 4000, .inl S1)), (m7, .inl (cI, 4000, .inl S2))] t1 t2 sz)) (va_Qi (S := Co_ × Jm_) (fun r u => u.1 = t_weight (n, Bd, Hd, Wt, Fx, g) x y ∧ q_weight (n, Bd, Hd, Wt, Fx, g) x y r ∧ cok_ u.1 ∧ im_ u.1 u.2) (fun u => wd_ D [(cI, .int), (cZ, .boolean), (cJ, .long)] (va_A [(qy, .inr (5, [.ref m1, .ref m2, .ref m3, .ref m4, .int (nI n), .int (nI g), .int kn, .ref m5, .ref m6, .int (nI z1), .ref m7, .int (nI z2), .int sp, .int th])), (m1, .inl (cI, 14, .inl Bd)), (m2, .inl (cI, 14, .inl Hd)), (m3, .inl (cI, 14, .inl Wt)), (m4, .inl (cZ, 14, .inl Fx)), (m5, .inl (cZ, 16384, .inl Gv)), (m6, .inl (cI, 4000, .inl S1)), (m7, .inl (cI, 4000, .inl S2))] sz) [(qy, .inr (5, [.ref m1, .ref m2, .ref m3, .ref m4, .int (nI u.1.1), .int (nI u.1.2.2.2.2.2), .int u.2.1, .ref m5, .ref m6, .int (nI u.2.2.2.1), .ref m7, .int (nI u.2.2.2.2.2.1), .int u.2.2.2.2.2.2.2.1, .int u.2.2.2.2.2.2.2.2])), (m1, .inl (cI, 14, .inl u.1.2.1)), (m2, .inl (cI, 14, .inl u.1.2.2.1)), (m3, .inl (cI, 14, .inl u.1.2.2.2.1)), (m4, .inl (cZ, 14, .inl u.1.2.2.2.2.1)), (m5, .inl (cZ, 16384, .inl u.2.2.1)), (m6, .inl (cI, 4000, .inl u.2.2.2.2.1)), (m7, .inl (cI, 4000, .inl u.2.2.2.2.2.2.1))]) (va_A [(qy, .inr (5, [.ref m1, .ref m2, .ref m3, .ref m4, .int (nI n), .int (nI g), .int kn, .ref m5, .ref m6, .int (nI z1), .ref m7, .int (nI z2), .int sp, .int th])), (m1, .inl (cI, 14, .inl Bd)), (m2, .inl (cI, 14, .inl Hd)), (m3, .inl (cI, 14, .inl Wt)), (m4, .inl (cZ, 14, .inl Fx)), (m5, .inl (cZ, 16384, .inl Gv)), (m6, .inl (cI, 4000, .inl S1)), (m7, .inl (cI, 4000, .inl S2))] sz)) 0 0 (va_A [(qy, .inr (5, [.ref m1, .ref m2, .ref m3, .ref m4, .int (nI n), .int (nI g), .int kn, .ref m5, .ref m6, .int (nI z1), .ref m7, .int (nI z2), .int sp, .int th])), (m1, .inl (cI, 14, .inl Bd)), (m2, .inl (cI, 14, .inl Hd)), (m3, .inl (cI, 14, .inl Wt)), (m4, .inl (cZ, 14, .inl Fx)), (m5, .inl (cZ, 16384, .inl Gv)), (m6, .inl (cI, 4000, .inl S1)), (m7, .inl (cI, 4000, .inl S2))] sz) := by
  refine Met.ofW (cc := cX4_weight) (maxL := 4) (ret := (some .int)) (by decide) rfl ?_
  intro p e s m args below meth c s₁ B hml hv
  obtain ⟨rfl, hsz, hP, hK, hD0, hE⟩ := hv
  have hx := B.exec
  have hb := B.bytes
  have hr := B.returns
  have hts := atoms_spec (ws := wsX4_weight) B.pre
  have hown : s.vm.findClass RX4 = some m.cls := findClass_of_methodNamed B.named
  have hlocks := B.notSynchronized
  have iX4 : ∀ w ∈ u_ws RX4 TX4 14, w ∈ wsX4_weight := by decide +kernel
  subst hsz
  have hD := hD0.self (sz := s.heap.size)
  generalize hAe : va_A [(qy, .inr (5, [.ref m1, .ref m2, .ref m3, .ref m4, .int (nI n), .int (nI g), .int kn, .ref m5, .ref m6, .int (nI z1), .ref m7, .int (nI z2), .int sp, .int th])), (m1, .inl (cI, 14, .inl Bd)), (m2, .inl (cI, 14, .inl Hd)), (m3, .inl (cI, 14, .inl Wt)), (m4, .inl (cZ, 14, .inl Fx)), (m5, .inl (cZ, 16384, .inl Gv)), (m6, .inl (cI, 4000, .inl S1)), (m7, .inl (cI, 4000, .inl S2))] s.heap.size = A at hD hE ⊢
  have hA : ∀ q : Nat, s.heap.size ≤ q → A q := fun q h => by rw [← hAe]; exact Or.inr h
  have hS : va_S A s.heap s.heap [] := va_S.rf
  obtain ⟨hn, hg, hok0, hF⟩ := id hc
  have hok : ∀ a, a < n → uI_ (Hd a) < 24 := fun a ha => (hok0 a ha).2
  have hl := lv_entry ([.ref qy, .int x, .int y]) (n := 4) (Nat.le_of_ble_eq_true rfl)
  rw [lg_entry_eq]
  generalize (lg_sl ([.ref qy, .int x, .int y]) ++ List.replicate (4 - (lg_sl ([.ref qy, .int x, .int y])).length) Slot.unset).toArray = ls at hl ⊢
  have hl : lv_has ls 4 [(0, .ref qy), (1, .int x), (2, .int y)] := hl
  refine lv_aload_n hx hb dX4_weight_0 rfl (lv_at hl 0 rfl) ?_
  refine lv_iconst (v := 0) hx hb dX4_weight_1 (by decide +kernel) ?_
  refine va_put (D := D) (ci := 5) (v := .int 0) (ty := .int) (C := RX4) (T := TX4) (N := 14) hx hb hts iX4 tyX4 tyX4_ok nmX4 hown hK hP hD hS 0 rfl rfl 13 (by decide) (hts (.fieldLink RX4 32 "LeastSetsModel" "thrown" "I") (by decide +kernel)) (fun _ h9 => h9) rfl (by decide +kernel) rfl rfl (Nat.le_of_ble_eq_true rfl) dX4_weight_2 (fun H locs hP hD hS => ?_)
  have hP : va_P D vwCl [(qy, .inr (5, [.ref m1, .ref m2, .ref m3, .ref m4, .int (nI n), .int (nI g), .int kn, .ref m5, .ref m6, .int (nI z1), .ref m7, .int (nI z2), .int sp, .int 0])), (m1, .inl (cI, 14, .inl Bd)), (m2, .inl (cI, 14, .inl Hd)), (m3, .inl (cI, 14, .inl Wt)), (m4, .inl (cZ, 14, .inl Fx)), (m5, .inl (cZ, 16384, .inl Gv)), (m6, .inl (cI, 4000, .inl S1)), (m7, .inl (cI, 4000, .inl S2))] H := hP
  have hD : va_D A [(qy, .inr (5, [.ref m1, .ref m2, .ref m3, .ref m4, .int (nI n), .int (nI g), .int kn, .ref m5, .ref m6, .int (nI z1), .ref m7, .int (nI z2), .int sp, .int 0])), (m1, .inl (cI, 14, .inl Bd)), (m2, .inl (cI, 14, .inl Hd)), (m3, .inl (cI, 14, .inl Wt)), (m4, .inl (cZ, 14, .inl Fx)), (m5, .inl (cZ, 16384, .inl Gv)), (m6, .inl (cI, 4000, .inl S1)), (m7, .inl (cI, 4000, .inl S2))] := hD
  refine lv_aload_n hx hb dX4_weight_5 rfl (lv_at hl 0 rfl) ?_
  refine lv_iload_n hx hb dX4_weight_6 rfl (lv_at hl 1 rfl) ?_
  refine vp_callSi (va_runV (As := [.int x]) (rest := []) ⟨hx, hb, hml, hown, hts⟩ (c_X4_isAxiom l D cI cZ cJ qy m1 m2 m3 m4 m5 m6 m7 n Bd Hd Wt Fx g kn Gv z1 S1 z2 S2 sp 0 hn x) (cwV 1 hts gX4_weight_X4_isAxiom rfl rfl rfl (by decide +kernel) ⟨Nat.le_of_ble_eq_true rfl, Nat.le_of_ble_eq_true rfl⟩) ⟨ro_blind, va_recv hK hP (ci := 5) (q0 := 0) rfl rfl, ro_pre (hP.sub (ws' := [(qy, .inr (5, [.ref m1, .ref m2, .ref m3, .ref m4, .int (nI n), .int (nI g), .int kn, .ref m5, .ref m6, .int (nI z1), .ref m7, .int (nI z2), .int sp, .int 0]))]) [0] rfl) hK [0, 1, 2] rfl⟩ rfl rfl hl.1 rfl (lv_room (Nat.le_of_ble_eq_true rfl)) dX4_weight_7 ⟨Nat.le_of_ble_eq_true rfl, Nat.le_of_ble_eq_true rfl⟩).run (fun r_7 hr_7 => ?_)
  refine lv_if_eq (tgt := 24) hx hb dX4_weight_10 (by decide) (fun c_10 => ?_) (fun c_10 => ?_)
  · have hno : ¬ (uI_ x < n ∧ uI_ y ≤ 1000) := fun q => hu_no (by omega) hr_7 c_10 q.1
    refine lv_iconst (v := (-1)) hx hb dX4_weight_24 (by decide +kernel) ?_
    exact W.iret (v := (-1)) hx hb hr (fun t ht hW => ⟨⟨(-1), ((n, Bd, Hd, Wt, Fx, g), (kn, Gv, z1, S1, z2, S2, sp, 0)), rfl, ⟨(by first | exact (if_neg hno).symm | exact (if_pos hy2).symm), (by first | exact (if_neg hno).symm | exact (if_pos hy2).symm), hc, hi⟩, by rw [ht]; exact hP, va_K.moved hW.alike hK, hD⟩, hS.F ht⟩) hS.2.2 dX4_weight_25
  · obtain ⟨hyes, ex⟩ := hu_yes (by omega) hr_7 c_10
    rw [ex] at hl
    refine lv_iload_n hx hb dX4_weight_13 rfl (lv_at hl 2 rfl) ?_
    refine lv_if_lt (tgt := 24) hx hb dX4_weight_14 (by decide) (fun c_14 => ?_) (fun c_14 => ?_)
    · have hno : ¬ (uI_ x < n ∧ uI_ y ≤ 1000) := fun q => ((in_uI (by omega)).mpr q.2).1 c_14
      refine lv_iconst (v := (-1)) hx hb dX4_weight_24 (by decide +kernel) ?_
      exact W.iret (v := (-1)) hx hb hr (fun t ht hW => ⟨⟨(-1), ((n, Bd, Hd, Wt, Fx, g), (kn, Gv, z1, S1, z2, S2, sp, 0)), rfl, ⟨(by first | exact (if_neg hno).symm | exact (if_pos hy2).symm), (by first | exact (if_neg hno).symm | exact (if_pos hy2).symm), hc, hi⟩, by rw [ht]; exact hP, va_K.moved hW.alike hK, hD⟩, hS.F ht⟩) hS.2.2 dX4_weight_25
    · refine lv_iload_n hx hb dX4_weight_17 rfl (lv_at hl 2 rfl) ?_
      refine lv_sipush (v := (nI 1000)) hx hb dX4_weight_18 (by decide +kernel) ?_
      refine lv_icmp_le (tgt := 26) hx hb dX4_weight_21 (by decide) (fun c_21 => ?_) (fun c_21 => ?_)
      · have hy2 : uI_ x < n ∧ uI_ y ≤ 1000 := ⟨hyes, (in_uI (by omega)).mp ⟨c_14, c_21⟩⟩
        refine lv_aload_n hx hb dX4_weight_26 rfl (lv_at hl 0 rfl) ?_
        refine va_get (D := D) (ci := 5) (v := .ref m3) (C := RX4) (T := TX4) (N := 14) hx hb hts iX4 hown hK hP 0 rfl rfl 2 (by decide) (hts (.fieldLink RX4 16 "LeastSetsModel" "weights" "[I") (by decide +kernel)) (fun _ h9 => h9) rfl dX4_weight_27 ?_
        refine lv_iload_n hx hb dX4_weight_30 rfl (lv_at hl 1 rfl) ?_
        refine r_iald hx hb hK hP 3 0 rfl rfl (uI_ x) (by omega) (by omega) dX4_weight_31 ?_
        refine lv_istore_n (lv' := [(3, .int (Wt (uI_ x))), (0, .ref qy), (1, .int (nI (uI_ x))), (2, .int y)]) hx hb dX4_weight_32 rfl hl (by decide) rfl (fun ls hl => ?_)
        refine lv_aload_n hx hb dX4_weight_33 rfl (lv_at hl 1 rfl) ?_
        refine va_get (D := D) (ci := 5) (v := .ref m3) (C := RX4) (T := TX4) (N := 14) hx hb hts iX4 hown hK hP 0 rfl rfl 2 (by decide) (hts (.fieldLink RX4 16 "LeastSetsModel" "weights" "[I") (by decide +kernel)) (fun _ h9 => h9) rfl dX4_weight_34 ?_
        refine lv_iload_n hx hb dX4_weight_37 rfl (lv_at hl 2 rfl) ?_
        refine lv_iload_n hx hb dX4_weight_38 rfl (lv_at hl 3 rfl) ?_
        refine r_iast hx hb hK hP hD hS 3 0 rfl rfl (uI_ x) (by omega) (by omega) dX4_weight_39 (fun H locs hP hD hS => ?_)
        have hP : va_P D vwCl [(qy, .inr (5, [.ref m1, .ref m2, .ref m3, .ref m4, .int (nI n), .int (nI g), .int kn, .ref m5, .ref m6, .int (nI z1), .ref m7, .int (nI z2), .int sp, .int 0])), (m1, .inl (cI, 14, .inl Bd)), (m2, .inl (cI, 14, .inl Hd)), (m3, .inl (cI, 14, .inl (upd Wt (uI_ x) y))), (m4, .inl (cZ, 14, .inl Fx)), (m5, .inl (cZ, 16384, .inl Gv)), (m6, .inl (cI, 4000, .inl S1)), (m7, .inl (cI, 4000, .inl S2))] H := hP
        have hD : va_D A [(qy, .inr (5, [.ref m1, .ref m2, .ref m3, .ref m4, .int (nI n), .int (nI g), .int kn, .ref m5, .ref m6, .int (nI z1), .ref m7, .int (nI z2), .int sp, .int 0])), (m1, .inl (cI, 14, .inl Bd)), (m2, .inl (cI, 14, .inl Hd)), (m3, .inl (cI, 14, .inl (upd Wt (uI_ x) y))), (m4, .inl (cZ, 14, .inl Fx)), (m5, .inl (cZ, 16384, .inl Gv)), (m6, .inl (cI, 4000, .inl S1)), (m7, .inl (cI, 4000, .inl S2))] := hD
        refine lv_iload_n hx hb dX4_weight_40 rfl (lv_at hl 0 rfl) ?_
        exact W.iret (v := (Wt (uI_ x))) hx hb hr (fun t ht hW => ⟨⟨(Wt (uI_ x)), ((n, Bd, Hd, upd Wt (uI_ x) y, Fx, g), (kn, Gv, z1, S1, z2, S2, sp, 0)), rfl, ⟨(by first | exact (if_neg hno).symm | exact (if_pos hy2).symm), (by first | exact (if_neg hno).symm | exact (if_pos hy2).symm), hc, hi⟩, by rw [ht]; exact hP, va_K.moved hW.alike hK, hD⟩, hS.F ht⟩) hS.2.2 dX4_weight_41
      · have hno : ¬ (uI_ x < n ∧ uI_ y ≤ 1000) := fun q => c_21 ((in_uI (by omega)).mpr q.2).2
        refine lv_iconst (v := (-1)) hx hb dX4_weight_24 (by decide +kernel) ?_
        exact W.iret (v := (-1)) hx hb hr (fun t ht hW => ⟨⟨(-1), ((n, Bd, Hd, Wt, Fx, g), (kn, Gv, z1, S1, z2, S2, sp, 0)), rfl, ⟨(by first | exact (if_neg hno).symm | exact (if_pos hy2).symm), (by first | exact (if_neg hno).symm | exact (if_pos hy2).symm), hc, hi⟩, by rw [ht]; exact hP, va_K.moved hW.alike hK, hD⟩, hS.F ht⟩) hS.2.2 dX4_weight_25
set_option maxHeartbeats 4000000 in
set_option maxRecDepth 100000 in
/-- goal(x) -/
theorem c_X4_goal (l : Launch) (D : va_G) (cI cZ cJ : ClassId) (t1 t2 sz : Nat) (qy m1 m2 m3 m4 m5 m6 m7 : Nat) (n : Nat) (Bd Hd Wt Fx : Nat → Int32) (g : Nat) (kn : Int32) (Gv : Nat → Int32) (z1 : Nat) (S1 : Nat → Int32) (z2 : Nat) (S2 : Nat → Int32) (sp th : Int32) (hc : CO_ n Bd Hd Fx g) (hi : IM_ n Bd Hd Fx g kn z1 S1 z2 S2) (x : Int32) : Met l yX4_goal wsX4_goal ({ frames := 0, cells := 0, slots := 0, locals := 0 } : Room) (va_Pc [.ref qy, .int x] (wr_ D [(cI, .int), (cZ, .boolean), (cJ, .long)] [(qy, .inr (5, [.ref m1, .ref m2, .ref m3, .ref m4, .int (nI n), .int (nI g), .int kn, .ref m5, .ref m6, .int (nI z1), .ref m7, .int (nI z2), .int sp, .int th])), (m1, .inl (cI, 14, .inl Bd)), (m2, .inl (cI, 14, .inl Hd)), (m3, .inl (cI, 14, .inl Wt)), (m4, .inl (cZ, 14, .inl Fx)), (m5, .inl (cZ, 16384, .inl Gv)), (m6, .inl (cI, 4000, .inl S1)), (m7, .inl (cI, 4000, .inl S2))] t1 t2 sz)) (va_Qi (S := Co_ × Jm_) (fun r u => u.1 = t_goal (n, Bd, Hd, Wt, Fx, g) x ∧ q_goal (n, Bd, Hd, Wt, Fx, g) x r ∧ cok_ u.1 ∧ im_ u.1 u.2) (fun u => wd_ D [(cI, .int), (cZ, .boolean), (cJ, .long)] (va_A [(qy, .inr (5, [.ref m1, .ref m2, .ref m3, .ref m4, .int (nI n), .int (nI g), .int kn, .ref m5, .ref m6, .int (nI z1), .ref m7, .int (nI z2), .int sp, .int th])), (m1, .inl (cI, 14, .inl Bd)), (m2, .inl (cI, 14, .inl Hd)), (m3, .inl (cI, 14, .inl Wt)), (m4, .inl (cZ, 14, .inl Fx)), (m5, .inl (cZ, 16384, .inl Gv)), (m6, .inl (cI, 4000, .inl S1)), (m7, .inl (cI, 4000, .inl S2))] sz) [(qy, .inr (5, [.ref m1, .ref m2, .ref m3, .ref m4, .int (nI u.1.1), .int (nI u.1.2.2.2.2.2), .int u.2.1, .ref m5, .ref m6, .int (nI u.2.2.2.1), .ref m7, .int (nI u.2.2.2.2.2.1), .int u.2.2.2.2.2.2.2.1, .int u.2.2.2.2.2.2.2.2])), (m1, .inl (cI, 14, .inl u.1.2.1)), (m2, .inl (cI, 14, .inl u.1.2.2.1)), (m3, .inl (cI, 14, .inl u.1.2.2.2.1)), (m4, .inl (cZ, 14, .inl u.1.2.2.2.2.1)), (m5, .inl (cZ, 16384, .inl u.2.2.1)), (m6, .inl (cI, 4000, .inl u.2.2.2.2.1)), (m7, .inl (cI, 4000, .inl u.2.2.2.2.2.2.1))]) (va_A [(qy, .inr (5, [.ref m1, .ref m2, .ref m3, .ref m4, .int (nI n), .int (nI g), .int kn, .ref m5, .ref m6, .int (nI z1), .ref m7, .int (nI z2), .int sp, .int th])), (m1, .inl (cI, 14, .inl Bd)), (m2, .inl (cI, 14, .inl Hd)), (m3, .inl (cI, 14, .inl Wt)), (m4, .inl (cZ, 14, .inl Fx)), (m5, .inl (cZ, 16384, .inl Gv)), (m6, .inl (cI, 4000, .inl S1)), (m7, .inl (cI, 4000, .inl S2))] sz)) 0 0 (va_A [(qy, .inr (5, [.ref m1, .ref m2, .ref m3, .ref m4, .int (nI n), .int (nI g), .int kn, .ref m5, .ref m6, .int (nI z1), .ref m7, .int (nI z2), .int sp, .int th])), (m1, .inl (cI, 14, .inl Bd)), (m2, .inl (cI, 14, .inl Hd)), (m3, .inl (cI, 14, .inl Wt)), (m4, .inl (cZ, 14, .inl Fx)), (m5, .inl (cZ, 16384, .inl Gv)), (m6, .inl (cI, 4000, .inl S1)), (m7, .inl (cI, 4000, .inl S2))] sz) := by
  refine Met.ofW (cc := cX4_goal) (maxL := 3) (ret := (some .int)) (by decide) rfl ?_
  intro p e s m args below meth c s₁ B hml hv
  obtain ⟨rfl, hsz, hP, hK, hD0, hE⟩ := hv
  have hx := B.exec
  have hb := B.bytes
  have hr := B.returns
  have hts := atoms_spec (ws := wsX4_goal) B.pre
  have hown : s.vm.findClass RX4 = some m.cls := findClass_of_methodNamed B.named
  have hlocks := B.notSynchronized
  have iX4 : ∀ w ∈ u_ws RX4 TX4 14, w ∈ wsX4_goal := by decide +kernel
  subst hsz
  have hD := hD0.self (sz := s.heap.size)
  generalize hAe : va_A [(qy, .inr (5, [.ref m1, .ref m2, .ref m3, .ref m4, .int (nI n), .int (nI g), .int kn, .ref m5, .ref m6, .int (nI z1), .ref m7, .int (nI z2), .int sp, .int th])), (m1, .inl (cI, 14, .inl Bd)), (m2, .inl (cI, 14, .inl Hd)), (m3, .inl (cI, 14, .inl Wt)), (m4, .inl (cZ, 14, .inl Fx)), (m5, .inl (cZ, 16384, .inl Gv)), (m6, .inl (cI, 4000, .inl S1)), (m7, .inl (cI, 4000, .inl S2))] s.heap.size = A at hD hE ⊢
  have hA : ∀ q : Nat, s.heap.size ≤ q → A q := fun q h => by rw [← hAe]; exact Or.inr h
  have hS : va_S A s.heap s.heap [] := va_S.rf
  obtain ⟨hn, hg, hok0, hF⟩ := id hc
  have hok : ∀ a, a < n → uI_ (Hd a) < 24 := fun a ha => (hok0 a ha).2
  have hl := lv_entry ([.ref qy, .int x]) (n := 3) (Nat.le_of_ble_eq_true rfl)
  rw [lg_entry_eq]
  generalize (lg_sl ([.ref qy, .int x]) ++ List.replicate (3 - (lg_sl ([.ref qy, .int x])).length) Slot.unset).toArray = ls at hl ⊢
  have hl : lv_has ls 3 [(0, .ref qy), (1, .int x)] := hl
  refine lv_aload_n hx hb dX4_goal_0 rfl (lv_at hl 0 rfl) ?_
  refine lv_iconst (v := 0) hx hb dX4_goal_1 (by decide +kernel) ?_
  refine va_put (D := D) (ci := 5) (v := .int 0) (ty := .int) (C := RX4) (T := TX4) (N := 14) hx hb hts iX4 tyX4 tyX4_ok nmX4 hown hK hP hD hS 0 rfl rfl 13 (by decide) (hts (.fieldLink RX4 32 "LeastSetsModel" "thrown" "I") (by decide +kernel)) (fun _ h9 => h9) rfl (by decide +kernel) rfl rfl (Nat.le_of_ble_eq_true rfl) dX4_goal_2 (fun H locs hP hD hS => ?_)
  have hP : va_P D vwCl [(qy, .inr (5, [.ref m1, .ref m2, .ref m3, .ref m4, .int (nI n), .int (nI g), .int kn, .ref m5, .ref m6, .int (nI z1), .ref m7, .int (nI z2), .int sp, .int 0])), (m1, .inl (cI, 14, .inl Bd)), (m2, .inl (cI, 14, .inl Hd)), (m3, .inl (cI, 14, .inl Wt)), (m4, .inl (cZ, 14, .inl Fx)), (m5, .inl (cZ, 16384, .inl Gv)), (m6, .inl (cI, 4000, .inl S1)), (m7, .inl (cI, 4000, .inl S2))] H := hP
  have hD : va_D A [(qy, .inr (5, [.ref m1, .ref m2, .ref m3, .ref m4, .int (nI n), .int (nI g), .int kn, .ref m5, .ref m6, .int (nI z1), .ref m7, .int (nI z2), .int sp, .int 0])), (m1, .inl (cI, 14, .inl Bd)), (m2, .inl (cI, 14, .inl Hd)), (m3, .inl (cI, 14, .inl Wt)), (m4, .inl (cZ, 14, .inl Fx)), (m5, .inl (cZ, 16384, .inl Gv)), (m6, .inl (cI, 4000, .inl S1)), (m7, .inl (cI, 4000, .inl S2))] := hD
  refine lv_iload_n hx hb dX4_goal_5 rfl (lv_at hl 1 rfl) ?_
  refine lv_if_lt (tgt := 15) hx hb dX4_goal_6 (by decide) (fun c_6 => ?_) (fun c_6 => ?_)
  · have hno : ¬ uI_ x < 24 := fun q => ((lt_uI (by omega)).mpr q).1 c_6
    refine lv_iconst (v := (-1)) hx hb dX4_goal_15 (by decide +kernel) ?_
    exact W.iret (v := (-1)) hx hb hr (fun t ht hW => ⟨⟨(-1), ((n, Bd, Hd, Wt, Fx, g), (kn, Gv, z1, S1, z2, S2, sp, 0)), rfl, ⟨(by first | exact (if_neg hno).symm | exact (if_pos hyes).symm), (by first | exact (if_neg hno).symm | exact (if_pos hyes).symm), (by first | exact hc | exact cok_goal hc hyes), (by first | exact hi | exact IM_0)⟩, by rw [ht]; exact hP, va_K.moved hW.alike hK, hD⟩, hS.F ht⟩) hS.2.2 dX4_goal_16
  · refine lv_iload_n hx hb dX4_goal_9 rfl (lv_at hl 1 rfl) ?_
    refine lv_bipush (v := (nI 24)) hx hb dX4_goal_10 (by decide +kernel) ?_
    refine lv_icmp_lt (tgt := 17) hx hb dX4_goal_12 (by decide) (fun c_12 => ?_) (fun c_12 => ?_)
    · have hyes : uI_ x < 24 := lt_uI2 (by omega) c_6 c_12
      rw [← nI_uI x] at hl
      refine lv_aload_n hx hb dX4_goal_17 rfl (lv_at hl 0 rfl) ?_
      refine va_get (D := D) (ci := 5) (v := .int (nI g)) (C := RX4) (T := TX4) (N := 14) hx hb hts iX4 hown hK hP 0 rfl rfl 5 (by decide) (hts (.fieldLink RX4 48 "LeastSetsModel" "goal" "I") (by decide +kernel)) (fun _ h9 => h9) rfl dX4_goal_18 ?_
      refine lv_istore_n (lv' := [(2, .int (nI g)), (0, .ref qy), (1, .int (nI (uI_ x)))]) hx hb dX4_goal_21 rfl hl (by decide) rfl (fun ls hl => ?_)
      refine lv_aload_n hx hb dX4_goal_22 rfl (lv_at hl 1 rfl) ?_
      refine lv_iload_n hx hb dX4_goal_23 rfl (lv_at hl 2 rfl) ?_
      refine va_put (D := D) (ci := 5) (v := .int (nI (uI_ x))) (ty := .int) (C := RX4) (T := TX4) (N := 14) hx hb hts iX4 tyX4 tyX4_ok nmX4 hown hK hP hD hS 0 rfl rfl 5 (by decide) (hts (.fieldLink RX4 48 "LeastSetsModel" "goal" "I") (by decide +kernel)) (fun _ h9 => h9) rfl (by decide +kernel) rfl rfl (Nat.le_of_ble_eq_true rfl) dX4_goal_24 (fun H locs hP hD hS => ?_)
      have hP : va_P D vwCl [(qy, .inr (5, [.ref m1, .ref m2, .ref m3, .ref m4, .int (nI n), .int (nI (uI_ x)), .int kn, .ref m5, .ref m6, .int (nI z1), .ref m7, .int (nI z2), .int sp, .int 0])), (m1, .inl (cI, 14, .inl Bd)), (m2, .inl (cI, 14, .inl Hd)), (m3, .inl (cI, 14, .inl Wt)), (m4, .inl (cZ, 14, .inl Fx)), (m5, .inl (cZ, 16384, .inl Gv)), (m6, .inl (cI, 4000, .inl S1)), (m7, .inl (cI, 4000, .inl S2))] H := hP
      have hD : va_D A [(qy, .inr (5, [.ref m1, .ref m2, .ref m3, .ref m4, .int (nI n), .int (nI (uI_ x)), .int kn, .ref m5, .ref m6, .int (nI z1), .ref m7, .int (nI z2), .int sp, .int 0])), (m1, .inl (cI, 14, .inl Bd)), (m2, .inl (cI, 14, .inl Hd)), (m3, .inl (cI, 14, .inl Wt)), (m4, .inl (cZ, 14, .inl Fx)), (m5, .inl (cZ, 16384, .inl Gv)), (m6, .inl (cI, 4000, .inl S1)), (m7, .inl (cI, 4000, .inl S2))] := hD
      refine lv_aload_n hx hb dX4_goal_27 rfl (lv_at hl 1 rfl) ?_
      refine lv_iconst (v := 0) hx hb dX4_goal_28 (by decide +kernel) ?_
      refine va_put (D := D) (ci := 5) (v := .int 0) (ty := .boolean) (C := RX4) (T := TX4) (N := 14) hx hb hts iX4 tyX4 tyX4_ok nmX4 hown hK hP hD hS 0 rfl rfl 6 (by decide) (hts (.fieldLink RX4 40 "LeastSetsModel" "known" "Z") (by decide +kernel)) (fun _ h9 => h9) rfl (by decide +kernel) rfl rfl (Nat.le_of_ble_eq_true rfl) dX4_goal_29 (fun H locs hP hD hS => ?_)
      have hP : va_P D vwCl [(qy, .inr (5, [.ref m1, .ref m2, .ref m3, .ref m4, .int (nI n), .int (nI (uI_ x)), .int 0, .ref m5, .ref m6, .int (nI z1), .ref m7, .int (nI z2), .int sp, .int 0])), (m1, .inl (cI, 14, .inl Bd)), (m2, .inl (cI, 14, .inl Hd)), (m3, .inl (cI, 14, .inl Wt)), (m4, .inl (cZ, 14, .inl Fx)), (m5, .inl (cZ, 16384, .inl Gv)), (m6, .inl (cI, 4000, .inl S1)), (m7, .inl (cI, 4000, .inl S2))] H := hP
      have hD : va_D A [(qy, .inr (5, [.ref m1, .ref m2, .ref m3, .ref m4, .int (nI n), .int (nI (uI_ x)), .int 0, .ref m5, .ref m6, .int (nI z1), .ref m7, .int (nI z2), .int sp, .int 0])), (m1, .inl (cI, 14, .inl Bd)), (m2, .inl (cI, 14, .inl Hd)), (m3, .inl (cI, 14, .inl Wt)), (m4, .inl (cZ, 14, .inl Fx)), (m5, .inl (cZ, 16384, .inl Gv)), (m6, .inl (cI, 4000, .inl S1)), (m7, .inl (cI, 4000, .inl S2))] := hD
      refine lv_iload_n hx hb dX4_goal_32 rfl (lv_at hl 0 rfl) ?_
      exact W.iret (v := (nI g)) hx hb hr (fun t ht hW => ⟨⟨(nI g), ((n, Bd, Hd, Wt, Fx, uI_ x), (0, Gv, z1, S1, z2, S2, sp, 0)), rfl, ⟨(by first | exact (if_neg hno).symm | exact (if_pos hyes).symm), (by first | exact (if_neg hno).symm | exact (if_pos hyes).symm), (by first | exact hc | exact cok_goal hc hyes), (by first | exact hi | exact IM_0)⟩, by rw [ht]; exact hP, va_K.moved hW.alike hK, hD⟩, hS.F ht⟩) hS.2.2 dX4_goal_33
    · have hno : ¬ uI_ x < 24 := fun q => c_12 (i32_lt ((lt_uI (by omega)).mpr q).2)
      refine lv_iconst (v := (-1)) hx hb dX4_goal_15 (by decide +kernel) ?_
      exact W.iret (v := (-1)) hx hb hr (fun t ht hW => ⟨⟨(-1), ((n, Bd, Hd, Wt, Fx, g), (kn, Gv, z1, S1, z2, S2, sp, 0)), rfl, ⟨(by first | exact (if_neg hno).symm | exact (if_pos hyes).symm), (by first | exact (if_neg hno).symm | exact (if_pos hyes).symm), (by first | exact hc | exact cok_goal hc hyes), (by first | exact hi | exact IM_0)⟩, by rw [ht]; exact hP, va_K.moved hW.alike hK, hD⟩, hS.F ht⟩) hS.2.2 dX4_goal_16
