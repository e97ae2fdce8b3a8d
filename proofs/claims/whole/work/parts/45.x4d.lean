set_option maxHeartbeats 4000000 in
set_option maxRecDepth 100000 in
/-- causes() -/
theorem c_X4_causes (l : Launch) (D : va_G) (cI cZ cJ : ClassId) (t1 t2 sz : Nat) (qy m1 m2 m3 m4 m5 m6 m7 : Nat) (n : Nat) (Bd Hd Wt Fx : Nat → Int32) (g : Nat) (kn : Int32) (Gv : Nat → Int32) (z1 : Nat) (S1 : Nat → Int32) (z2 : Nat) (S2 : Nat → Int32) (sp th : Int32) (hc : CO_ n Bd Hd Fx g) (hi : IM_ n Bd Hd Fx g kn z1 S1 z2 S2) : Met l yX4_causes wsX4_causes ({ frames := 2, cells := 0, slots := 0, locals := 49 } : Room) (va_Pc [.ref qy] (wr_ D [(cI, .int), (cZ, .boolean), (cJ, .long)] [(qy, .inr (5, [.ref m1, .ref m2, .ref m3, .ref m4, .int (nI n), .int (nI g), .int kn, .ref m5, .ref m6, .int (nI z1), .ref m7, .int (nI z2), .int sp, .int th])), (m1, .inl (cI, 14, .inl Bd)), (m2, .inl (cI, 14, .inl Hd)), (m3, .inl (cI, 14, .inl Wt)), (m4, .inl (cZ, 14, .inl Fx)), (m5, .inl (cZ, 16384, .inl Gv)), (m6, .inl (cI, 4000, .inl S1)), (m7, .inl (cI, 4000, .inl S2))] t1 t2 sz)) (va_Qi (S := Co_ × Jm_) (fun r u => u.1 = (n, Bd, Hd, Wt, Fx, g) ∧ q_causes (n, Bd, Hd, Wt, Fx, g) r ∧ cok_ u.1 ∧ im_ u.1 u.2) (fun u => wd_ D [(cI, .int), (cZ, .boolean), (cJ, .long)] (va_A [(qy, .inr (5, [.ref m1, .ref m2, .ref m3, .ref m4, .int (nI n), .int (nI g), .int kn, .ref m5, .ref m6, .int (nI z1), .ref m7, .int (nI z2), .int sp, .int th])), (m1, .inl (cI, 14, .inl Bd)), (m2, .inl (cI, 14, .inl Hd)), (m3, .inl (cI, 14, .inl Wt)), (m4, .inl (cZ, 14, .inl Fx)), (m5, .inl (cZ, 16384, .inl Gv)), (m6, .inl (cI, 4000, .inl S1)), (m7, .inl (cI, 4000, .inl S2))] sz) [(qy, .inr (5, [.ref m1, .ref m2, .ref m3, .ref m4, .int (nI u.1.1), .int (nI u.1.2.2.2.2.2), .int u.2.1, .ref m5, .ref m6, .int (nI u.2.2.2.1), .ref m7, .int (nI u.2.2.2.2.2.1), .int u.2.2.2.2.2.2.2.1, .int u.2.2.2.2.2.2.2.2])), (m1, .inl (cI, 14, .inl u.1.2.1)), (m2, .inl (cI, 14, .inl u.1.2.2.1)), (m3, .inl (cI, 14, .inl u.1.2.2.2.1)), (m4, .inl (cZ, 14, .inl u.1.2.2.2.2.1)), (m5, .inl (cZ, 16384, .inl u.2.2.1)), (m6, .inl (cI, 4000, .inl u.2.2.2.2.1)), (m7, .inl (cI, 4000, .inl u.2.2.2.2.2.2.1))]) (va_A [(qy, .inr (5, [.ref m1, .ref m2, .ref m3, .ref m4, .int (nI n), .int (nI g), .int kn, .ref m5, .ref m6, .int (nI z1), .ref m7, .int (nI z2), .int sp, .int th])), (m1, .inl (cI, 14, .inl Bd)), (m2, .inl (cI, 14, .inl Hd)), (m3, .inl (cI, 14, .inl Wt)), (m4, .inl (cZ, 14, .inl Fx)), (m5, .inl (cZ, 16384, .inl Gv)), (m6, .inl (cI, 4000, .inl S1)), (m7, .inl (cI, 4000, .inl S2))] sz)) 0 0 (va_A [(qy, .inr (5, [.ref m1, .ref m2, .ref m3, .ref m4, .int (nI n), .int (nI g), .int kn, .ref m5, .ref m6, .int (nI z1), .ref m7, .int (nI z2), .int sp, .int th])), (m1, .inl (cI, 14, .inl Bd)), (m2, .inl (cI, 14, .inl Hd)), (m3, .inl (cI, 14, .inl Wt)), (m4, .inl (cZ, 14, .inl Fx)), (m5, .inl (cZ, 16384, .inl Gv)), (m6, .inl (cI, 4000, .inl S1)), (m7, .inl (cI, 4000, .inl S2))] sz) := by
  refine Met.ofW (cc := cX4_causes) (maxL := 1) (ret := (some .int)) (by decide) rfl ?_
  intro p e s m args below meth c s₁ B hml hv
  obtain ⟨rfl, hsz, hP, hK, hD0, hE⟩ := hv
  have hx := B.exec
  have hb := B.bytes
  have hr := B.returns
  have hts := atoms_spec (ws := wsX4_causes) B.pre
  have hown : s.vm.findClass RX4 = some m.cls := findClass_of_methodNamed B.named
  have hlocks := B.notSynchronized
  have iX4 : ∀ w ∈ u_ws RX4 TX4 14, w ∈ wsX4_causes := by decide +kernel
  subst hsz
  have hD := hD0.self (sz := s.heap.size)
  generalize hAe : va_A [(qy, .inr (5, [.ref m1, .ref m2, .ref m3, .ref m4, .int (nI n), .int (nI g), .int kn, .ref m5, .ref m6, .int (nI z1), .ref m7, .int (nI z2), .int sp, .int th])), (m1, .inl (cI, 14, .inl Bd)), (m2, .inl (cI, 14, .inl Hd)), (m3, .inl (cI, 14, .inl Wt)), (m4, .inl (cZ, 14, .inl Fx)), (m5, .inl (cZ, 16384, .inl Gv)), (m6, .inl (cI, 4000, .inl S1)), (m7, .inl (cI, 4000, .inl S2))] s.heap.size = A at hD hE ⊢
  have hA : ∀ q : Nat, s.heap.size ≤ q → A q := fun q h => by rw [← hAe]; exact Or.inr h
  have hS : va_S A s.heap s.heap [] := va_S.rf
  obtain ⟨hn, hg, hok0, hF⟩ := id hc
  have hok : ∀ a, a < n → uI_ (Hd a) < 24 := fun a ha => (hok0 a ha).2
  have hl := lv_entry ([.ref qy]) (n := 1) (Nat.le_of_ble_eq_true rfl)
  rw [lg_entry_eq]
  generalize (lg_sl ([.ref qy]) ++ List.replicate (1 - (lg_sl ([.ref qy])).length) Slot.unset).toArray = ls at hl ⊢
  have hl : lv_has ls 1 [(0, .ref qy)] := hl
  refine lv_aload_n hx hb dX4_causes_0 rfl (lv_at hl 0 rfl) ?_
  refine lv_iconst (v := 0) hx hb dX4_causes_1 (by decide +kernel) ?_
  refine va_put (D := D) (ci := 5) (v := .int 0) (ty := .int) (C := RX4) (T := TX4) (N := 14) hx hb hts iX4 tyX4 tyX4_ok nmX4 hown hK hP hD hS 0 rfl rfl 13 (by decide) (hts (.fieldLink RX4 32 "LeastSetsModel" "thrown" "I") (by decide +kernel)) (fun _ h9 => h9) rfl (by decide +kernel) rfl rfl (Nat.le_of_ble_eq_true rfl) dX4_causes_2 (fun H locs hP hD hS => ?_)
  have hP : va_P D vwCl [(qy, .inr (5, [.ref m1, .ref m2, .ref m3, .ref m4, .int (nI n), .int (nI g), .int kn, .ref m5, .ref m6, .int (nI z1), .ref m7, .int (nI z2), .int sp, .int 0])), (m1, .inl (cI, 14, .inl Bd)), (m2, .inl (cI, 14, .inl Hd)), (m3, .inl (cI, 14, .inl Wt)), (m4, .inl (cZ, 14, .inl Fx)), (m5, .inl (cZ, 16384, .inl Gv)), (m6, .inl (cI, 4000, .inl S1)), (m7, .inl (cI, 4000, .inl S2))] H := hP
  have hD : va_D A [(qy, .inr (5, [.ref m1, .ref m2, .ref m3, .ref m4, .int (nI n), .int (nI g), .int kn, .ref m5, .ref m6, .int (nI z1), .ref m7, .int (nI z2), .int sp, .int 0])), (m1, .inl (cI, 14, .inl Bd)), (m2, .inl (cI, 14, .inl Hd)), (m3, .inl (cI, 14, .inl Wt)), (m4, .inl (cZ, 14, .inl Fx)), (m5, .inl (cZ, 16384, .inl Gv)), (m6, .inl (cI, 4000, .inl S1)), (m7, .inl (cI, 4000, .inl S2))] := hD
  refine lv_aload_n hx hb dX4_causes_5 rfl (lv_at hl 0 rfl) ?_
  have hPc := hP.sub (ws' := [(qy, .inr (5, [.ref m1, .ref m2, .ref m3, .ref m4, .int (nI n), .int (nI g), .int kn, .ref m5, .ref m6, .int (nI z1), .ref m7, .int (nI z2), .int sp, .int 0])), (m1, .inl (cI, 14, .inl Bd)), (m2, .inl (cI, 14, .inl Hd)), (m4, .inl (cZ, 14, .inl Fx)), (m5, .inl (cZ, 16384, .inl Gv)), (m6, .inl (cI, 4000, .inl S1)), (m7, .inl (cI, 4000, .inl S2))]) [0, 1, 2, 4, 5, 6, 7] rfl
  have hDc := hD.sub (ws' := [(qy, .inr (5, [.ref m1, .ref m2, .ref m3, .ref m4, .int (nI n), .int (nI g), .int kn, .ref m5, .ref m6, .int (nI z1), .ref m7, .int (nI z2), .int sp, .int 0])), (m1, .inl (cI, 14, .inl Bd)), (m2, .inl (cI, 14, .inl Hd)), (m4, .inl (cZ, 14, .inl Fx)), (m5, .inl (cZ, 16384, .inl Gv)), (m6, .inl (cI, 4000, .inl S1)), (m7, .inl (cI, 4000, .inl S2))]) [0, 1, 2, 4, 5, 6, 7] (by decide) rfl
  have hFc := va_free (wc := [(qy, .inr (5, [.ref m1, .ref m2, .ref m3, .ref m4, .int (nI n), .int (nI g), .int kn, .ref m5, .ref m6, .int (nI z1), .ref m7, .int (nI z2), .int sp, .int 0])), (m1, .inl (cI, 14, .inl Bd)), (m2, .inl (cI, 14, .inl Hd)), (m4, .inl (cZ, 14, .inl Fx)), (m5, .inl (cZ, 16384, .inl Gv)), (m6, .inl (cI, 4000, .inl S1)), (m7, .inl (cI, 4000, .inl S2))]) hD hS hA [0, 1, 2, 4, 5, 6, 7] rfl
  refine va_callv (va_runV (As := []) (rest := []) ⟨hx, hb, hml, hown, hts⟩ (c_X4_find l D cI cZ cJ t1 t2 _ qy m1 m2 m3 m4 m5 m6 m7 n Bd Hd Wt Fx g kn Gv z1 S1 z2 S2 sp 0 hc hi) (cwV 0 hts gX4_causes_X4_find rfl rfl rfl (by decide +kernel) ⟨Nat.le_of_ble_eq_true rfl, Nat.le_of_ble_eq_true rfl⟩) ⟨wr_blind, va_recv hK hP (ci := 5) (q0 := 0) rfl rfl, wr_pre hPc hDc hK hE hS hFc [0, 1, 2] rfl⟩ rfl rfl hl.1 rfl (lv_room (Nat.le_of_ble_eq_true rfl)) dX4_causes_6 ⟨Nat.le_of_ble_eq_true rfl, Nat.le_of_ble_eq_true rfl⟩) hS (fun q _ h => hFc q h) hFc (fun u_6 t H locs ht hvm hw_6 hB hz1 hk1 hS => ?_)
  obtain ⟨hP1, hK1, hD1⟩ := hB
  rw [ht] at hP1
  obtain ⟨hP, hD⟩ := va_join (wr := [(m3, .inl (cI, 14, .inl Wt))]) (w1 := [(qy, .inr (5, [.ref m1, .ref m2, .ref m3, .ref m4, .int (nI n), .int (nI g), .int 1, .ref m5, .ref m6, .int (nI ((CL_ n Bd Hd g).length)), .ref m7, .int (nI ((QL_ n Bd Hd Fx g).length)), .int u_6.2.2.2, .int 0])), (m1, .inl (cI, 14, .inl Bd)), (m2, .inl (cI, 14, .inl Hd)), (m4, .inl (cZ, 14, .inl Fx)), (m5, .inl (cZ, 16384, .inl u_6.1)), (m6, .inl (cI, 4000, .inl u_6.2.1)), (m7, .inl (cI, 4000, .inl u_6.2.2.1))]) hP hD [0, 1, 2, 4, 5, 6, 7] [3] rfl rfl (by decide) (by decide) hk1 hFc hP1 hD1
  have hP : va_P D vwCl [(qy, .inr (5, [.ref m1, .ref m2, .ref m3, .ref m4, .int (nI n), .int (nI g), .int 1, .ref m5, .ref m6, .int (nI ((CL_ n Bd Hd g).length)), .ref m7, .int (nI ((QL_ n Bd Hd Fx g).length)), .int u_6.2.2.2, .int 0])), (m1, .inl (cI, 14, .inl Bd)), (m2, .inl (cI, 14, .inl Hd)), (m3, .inl (cI, 14, .inl Wt)), (m4, .inl (cZ, 14, .inl Fx)), (m5, .inl (cZ, 16384, .inl u_6.1)), (m6, .inl (cI, 4000, .inl u_6.2.1)), (m7, .inl (cI, 4000, .inl u_6.2.2.1))] H := hP.sub [1, 2, 3, 0, 4, 5, 6, 7] rfl
  have hD : va_D A [(qy, .inr (5, [.ref m1, .ref m2, .ref m3, .ref m4, .int (nI n), .int (nI g), .int 1, .ref m5, .ref m6, .int (nI ((CL_ n Bd Hd g).length)), .ref m7, .int (nI ((QL_ n Bd Hd Fx g).length)), .int u_6.2.2.2, .int 0])), (m1, .inl (cI, 14, .inl Bd)), (m2, .inl (cI, 14, .inl Hd)), (m3, .inl (cI, 14, .inl Wt)), (m4, .inl (cZ, 14, .inl Fx)), (m5, .inl (cZ, 16384, .inl u_6.1)), (m6, .inl (cI, 4000, .inl u_6.2.1)), (m7, .inl (cI, 4000, .inl u_6.2.2.1))] := hD.sub [1, 2, 3, 0, 4, 5, 6, 7] (by decide) rfl
  clear hPc hDc hFc hP1 hK1 hD1 hk1 hz1
  refine lv_aload_n hx hb dX4_causes_9 rfl (lv_at hl 0 rfl) ?_
  refine va_get (D := D) (ci := 5) (v := .int (nI ((CL_ n Bd Hd g).length))) (C := RX4) (T := TX4) (N := 14) hx hb hts iX4 hown hK hP 0 rfl rfl 9 (by decide) (hts (.fieldLink RX4 58 "LeastSetsModel" "causeCount" "I") (by decide +kernel)) (fun _ h9 => h9) rfl dX4_causes_10 ?_
  exact W.iret (v := (nI ((CL_ n Bd Hd g).length))) hx hb hr (fun t ht hW => ⟨⟨(nI ((CL_ n Bd Hd g).length)), ((n, Bd, Hd, Wt, Fx, g), (1, u_6.1, (CL_ n Bd Hd g).length, u_6.2.1, (QL_ n Bd Hd Fx g).length, u_6.2.2.1, u_6.2.2.2, 0)), rfl, ⟨rfl, rfl, hc, ⟨Or.inr rfl, fun _ => ⟨rfl, hw_6.1, rfl, hw_6.2⟩⟩⟩, by rw [ht]; exact hP, va_K.moved hW.alike hK, hD⟩, hS.F ht⟩) hS.2.2 dX4_causes_13
set_option maxHeartbeats 4000000 in
set_option maxRecDepth 100000 in
/-- cures() -/
theorem c_X4_cures (l : Launch) (D : va_G) (cI cZ cJ : ClassId) (t1 t2 sz : Nat) (qy m1 m2 m3 m4 m5 m6 m7 : Nat) (n : Nat) (Bd Hd Wt Fx : Nat → Int32) (g : Nat) (kn : Int32) (Gv : Nat → Int32) (z1 : Nat) (S1 : Nat → Int32) (z2 : Nat) (S2 : Nat → Int32) (sp th : Int32) (hc : CO_ n Bd Hd Fx g) (hi : IM_ n Bd Hd Fx g kn z1 S1 z2 S2) : Met l yX4_cures wsX4_cures ({ frames := 2, cells := 0, slots := 0, locals := 49 } : Room) (va_Pc [.ref qy] (wr_ D [(cI, .int), (cZ, .boolean), (cJ, .long)] [(qy, .inr (5, [.ref m1, .ref m2, .ref m3, .ref m4, .int (nI n), .int (nI g), .int kn, .ref m5, .ref m6, .int (nI z1), .ref m7, .int (nI z2), .int sp, .int th])), (m1, .inl (cI, 14, .inl Bd)), (m2, .inl (cI, 14, .inl Hd)), (m3, .inl (cI, 14, .inl Wt)), (m4, .inl (cZ, 14, .inl Fx)), (m5, .inl (cZ, 16384, .inl Gv)), (m6, .inl (cI, 4000, .inl S1)), (m7, .inl (cI, 4000, .inl S2))] t1 t2 sz)) (va_Qi (S := Co_ × Jm_) (fun r u => u.1 = (n, Bd, Hd, Wt, Fx, g) ∧ q_cures (n, Bd, Hd, Wt, Fx, g) r ∧ cok_ u.1 ∧ im_ u.1 u.2) (fun u => wd_ D [(cI, .int), (cZ, .boolean), (cJ, .long)] (va_A [(qy, .inr (5, [.ref m1, .ref m2, .ref m3, .ref m4, .int (nI n), .int (nI g), .int kn, .ref m5, .ref m6, .int (nI z1), .ref m7, .int (nI z2), .int sp, .int th])), (m1, .inl (cI, 14, .inl Bd)), (m2, .inl (cI, 14, .inl Hd)), (m3, .inl (cI, 14, .inl Wt)), (m4, .inl (cZ, 14, .inl Fx)), (m5, .inl (cZ, 16384, .inl Gv)), (m6, .inl (cI, 4000, .inl S1)), (m7, .inl (cI, 4000, .inl S2))] sz) [(qy, .inr (5, [.ref m1, .ref m2, .ref m3, .ref m4, .int (nI u.1.1), .int (nI u.1.2.2.2.2.2), .int u.2.1, .ref m5, .ref m6, .int (nI u.2.2.2.1), .ref m7, .int (nI u.2.2.2.2.2.1), .int u.2.2.2.2.2.2.2.1, .int u.2.2.2.2.2.2.2.2])), (m1, .inl (cI, 14, .inl u.1.2.1)), (m2, .inl (cI, 14, .inl u.1.2.2.1)), (m3, .inl (cI, 14, .inl u.1.2.2.2.1)), (m4, .inl (cZ, 14, .inl u.1.2.2.2.2.1)), (m5, .inl (cZ, 16384, .inl u.2.2.1)), (m6, .inl (cI, 4000, .inl u.2.2.2.2.1)), (m7, .inl (cI, 4000, .inl u.2.2.2.2.2.2.1))]) (va_A [(qy, .inr (5, [.ref m1, .ref m2, .ref m3, .ref m4, .int (nI n), .int (nI g), .int kn, .ref m5, .ref m6, .int (nI z1), .ref m7, .int (nI z2), .int sp, .int th])), (m1, .inl (cI, 14, .inl Bd)), (m2, .inl (cI, 14, .inl Hd)), (m3, .inl (cI, 14, .inl Wt)), (m4, .inl (cZ, 14, .inl Fx)), (m5, .inl (cZ, 16384, .inl Gv)), (m6, .inl (cI, 4000, .inl S1)), (m7, .inl (cI, 4000, .inl S2))] sz)) 0 0 (va_A [(qy, .inr (5, [.ref m1, .ref m2, .ref m3, .ref m4, .int (nI n), .int (nI g), .int kn, .ref m5, .ref m6, .int (nI z1), .ref m7, .int (nI z2), .int sp, .int th])), (m1, .inl (cI, 14, .inl Bd)), (m2, .inl (cI, 14, .inl Hd)), (m3, .inl (cI, 14, .inl Wt)), (m4, .inl (cZ, 14, .inl Fx)), (m5, .inl (cZ, 16384, .inl Gv)), (m6, .inl (cI, 4000, .inl S1)), (m7, .inl (cI, 4000, .inl S2))] sz) := by
  refine Met.ofW (cc := cX4_cures) (maxL := 1) (ret := (some .int)) (by decide) rfl ?_
  intro p e s m args below meth c s₁ B hml hv
  obtain ⟨rfl, hsz, hP, hK, hD0, hE⟩ := hv
  have hx := B.exec
  have hb := B.bytes
  have hr := B.returns
  have hts := atoms_spec (ws := wsX4_cures) B.pre
  have hown : s.vm.findClass RX4 = some m.cls := findClass_of_methodNamed B.named
  have hlocks := B.notSynchronized
  have iX4 : ∀ w ∈ u_ws RX4 TX4 14, w ∈ wsX4_cures := by decide +kernel
  subst hsz
  have hD := hD0.self (sz := s.heap.size)
  generalize hAe : va_A [(qy, .inr (5, [.ref m1, .ref m2, .ref m3, .ref m4, .int (nI n), .int (nI g), .int kn, .ref m5, .ref m6, .int (nI z1), .ref m7, .int (nI z2), .int sp, .int th])), (m1, .inl (cI, 14, .inl Bd)), (m2, .inl (cI, 14, .inl Hd)), (m3, .inl (cI, 14, .inl Wt)), (m4, .inl (cZ, 14, .inl Fx)), (m5, .inl (cZ, 16384, .inl Gv)), (m6, .inl (cI, 4000, .inl S1)), (m7, .inl (cI, 4000, .inl S2))] s.heap.size = A at hD hE ⊢
  have hA : ∀ q : Nat, s.heap.size ≤ q → A q := fun q h => by rw [← hAe]; exact Or.inr h
  have hS : va_S A s.heap s.heap [] := va_S.rf
  obtain ⟨hn, hg, hok0, hF⟩ := id hc
  have hok : ∀ a, a < n → uI_ (Hd a) < 24 := fun a ha => (hok0 a ha).2
  have hl := lv_entry ([.ref qy]) (n := 1) (Nat.le_of_ble_eq_true rfl)
  rw [lg_entry_eq]
  generalize (lg_sl ([.ref qy]) ++ List.replicate (1 - (lg_sl ([.ref qy])).length) Slot.unset).toArray = ls at hl ⊢
  have hl : lv_has ls 1 [(0, .ref qy)] := hl
  refine lv_aload_n hx hb dX4_cures_0 rfl (lv_at hl 0 rfl) ?_
  refine lv_iconst (v := 0) hx hb dX4_cures_1 (by decide +kernel) ?_
  refine va_put (D := D) (ci := 5) (v := .int 0) (ty := .int) (C := RX4) (T := TX4) (N := 14) hx hb hts iX4 tyX4 tyX4_ok nmX4 hown hK hP hD hS 0 rfl rfl 13 (by decide) (hts (.fieldLink RX4 32 "LeastSetsModel" "thrown" "I") (by decide +kernel)) (fun _ h9 => h9) rfl (by decide +kernel) rfl rfl (Nat.le_of_ble_eq_true rfl) dX4_cures_2 (fun H locs hP hD hS => ?_)
  have hP : va_P D vwCl [(qy, .inr (5, [.ref m1, .ref m2, .ref m3, .ref m4, .int (nI n), .int (nI g), .int kn, .ref m5, .ref m6, .int (nI z1), .ref m7, .int (nI z2), .int sp, .int 0])), (m1, .inl (cI, 14, .inl Bd)), (m2, .inl (cI, 14, .inl Hd)), (m3, .inl (cI, 14, .inl Wt)), (m4, .inl (cZ, 14, .inl Fx)), (m5, .inl (cZ, 16384, .inl Gv)), (m6, .inl (cI, 4000, .inl S1)), (m7, .inl (cI, 4000, .inl S2))] H := hP
  have hD : va_D A [(qy, .inr (5, [.ref m1, .ref m2, .ref m3, .ref m4, .int (nI n), .int (nI g), .int kn, .ref m5, .ref m6, .int (nI z1), .ref m7, .int (nI z2), .int sp, .int 0])), (m1, .inl (cI, 14, .inl Bd)), (m2, .inl (cI, 14, .inl Hd)), (m3, .inl (cI, 14, .inl Wt)), (m4, .inl (cZ, 14, .inl Fx)), (m5, .inl (cZ, 16384, .inl Gv)), (m6, .inl (cI, 4000, .inl S1)), (m7, .inl (cI, 4000, .inl S2))] := hD
  refine lv_aload_n hx hb dX4_cures_5 rfl (lv_at hl 0 rfl) ?_
  have hPc := hP.sub (ws' := [(qy, .inr (5, [.ref m1, .ref m2, .ref m3, .ref m4, .int (nI n), .int (nI g), .int kn, .ref m5, .ref m6, .int (nI z1), .ref m7, .int (nI z2), .int sp, .int 0])), (m1, .inl (cI, 14, .inl Bd)), (m2, .inl (cI, 14, .inl Hd)), (m4, .inl (cZ, 14, .inl Fx)), (m5, .inl (cZ, 16384, .inl Gv)), (m6, .inl (cI, 4000, .inl S1)), (m7, .inl (cI, 4000, .inl S2))]) [0, 1, 2, 4, 5, 6, 7] rfl
  have hDc := hD.sub (ws' := [(qy, .inr (5, [.ref m1, .ref m2, .ref m3, .ref m4, .int (nI n), .int (nI g), .int kn, .ref m5, .ref m6, .int (nI z1), .ref m7, .int (nI z2), .int sp, .int 0])), (m1, .inl (cI, 14, .inl Bd)), (m2, .inl (cI, 14, .inl Hd)), (m4, .inl (cZ, 14, .inl Fx)), (m5, .inl (cZ, 16384, .inl Gv)), (m6, .inl (cI, 4000, .inl S1)), (m7, .inl (cI, 4000, .inl S2))]) [0, 1, 2, 4, 5, 6, 7] (by decide) rfl
  have hFc := va_free (wc := [(qy, .inr (5, [.ref m1, .ref m2, .ref m3, .ref m4, .int (nI n), .int (nI g), .int kn, .ref m5, .ref m6, .int (nI z1), .ref m7, .int (nI z2), .int sp, .int 0])), (m1, .inl (cI, 14, .inl Bd)), (m2, .inl (cI, 14, .inl Hd)), (m4, .inl (cZ, 14, .inl Fx)), (m5, .inl (cZ, 16384, .inl Gv)), (m6, .inl (cI, 4000, .inl S1)), (m7, .inl (cI, 4000, .inl S2))]) hD hS hA [0, 1, 2, 4, 5, 6, 7] rfl
  refine va_callv (va_runV (As := []) (rest := []) ⟨hx, hb, hml, hown, hts⟩ (c_X4_find l D cI cZ cJ t1 t2 _ qy m1 m2 m3 m4 m5 m6 m7 n Bd Hd Wt Fx g kn Gv z1 S1 z2 S2 sp 0 hc hi) (cwV 0 hts gX4_cures_X4_find rfl rfl rfl (by decide +kernel) ⟨Nat.le_of_ble_eq_true rfl, Nat.le_of_ble_eq_true rfl⟩) ⟨wr_blind, va_recv hK hP (ci := 5) (q0 := 0) rfl rfl, wr_pre hPc hDc hK hE hS hFc [0, 1, 2] rfl⟩ rfl rfl hl.1 rfl (lv_room (Nat.le_of_ble_eq_true rfl)) dX4_cures_6 ⟨Nat.le_of_ble_eq_true rfl, Nat.le_of_ble_eq_true rfl⟩) hS (fun q _ h => hFc q h) hFc (fun u_6 t H locs ht hvm hw_6 hB hz1 hk1 hS => ?_)
  obtain ⟨hP1, hK1, hD1⟩ := hB
  rw [ht] at hP1
  obtain ⟨hP, hD⟩ := va_join (wr := [(m3, .inl (cI, 14, .inl Wt))]) (w1 := [(qy, .inr (5, [.ref m1, .ref m2, .ref m3, .ref m4, .int (nI n), .int (nI g), .int 1, .ref m5, .ref m6, .int (nI ((CL_ n Bd Hd g).length)), .ref m7, .int (nI ((QL_ n Bd Hd Fx g).length)), .int u_6.2.2.2, .int 0])), (m1, .inl (cI, 14, .inl Bd)), (m2, .inl (cI, 14, .inl Hd)), (m4, .inl (cZ, 14, .inl Fx)), (m5, .inl (cZ, 16384, .inl u_6.1)), (m6, .inl (cI, 4000, .inl u_6.2.1)), (m7, .inl (cI, 4000, .inl u_6.2.2.1))]) hP hD [0, 1, 2, 4, 5, 6, 7] [3] rfl rfl (by decide) (by decide) hk1 hFc hP1 hD1
  have hP : va_P D vwCl [(qy, .inr (5, [.ref m1, .ref m2, .ref m3, .ref m4, .int (nI n), .int (nI g), .int 1, .ref m5, .ref m6, .int (nI ((CL_ n Bd Hd g).length)), .ref m7, .int (nI ((QL_ n Bd Hd Fx g).length)), .int u_6.2.2.2, .int 0])), (m1, .inl (cI, 14, .inl Bd)), (m2, .inl (cI, 14, .inl Hd)), (m3, .inl (cI, 14, .inl Wt)), (m4, .inl (cZ, 14, .inl Fx)), (m5, .inl (cZ, 16384, .inl u_6.1)), (m6, .inl (cI, 4000, .inl u_6.2.1)), (m7, .inl (cI, 4000, .inl u_6.2.2.1))] H := hP.sub [1, 2, 3, 0, 4, 5, 6, 7] rfl
  have hD : va_D A [(qy, .inr (5, [.ref m1, .ref m2, .ref m3, .ref m4, .int (nI n), .int (nI g), .int 1, .ref m5, .ref m6, .int (nI ((CL_ n Bd Hd g).length)), .ref m7, .int (nI ((QL_ n Bd Hd Fx g).length)), .int u_6.2.2.2, .int 0])), (m1, .inl (cI, 14, .inl Bd)), (m2, .inl (cI, 14, .inl Hd)), (m3, .inl (cI, 14, .inl Wt)), (m4, .inl (cZ, 14, .inl Fx)), (m5, .inl (cZ, 16384, .inl u_6.1)), (m6, .inl (cI, 4000, .inl u_6.2.1)), (m7, .inl (cI, 4000, .inl u_6.2.2.1))] := hD.sub [1, 2, 3, 0, 4, 5, 6, 7] (by decide) rfl
  clear hPc hDc hFc hP1 hK1 hD1 hk1 hz1
  refine lv_aload_n hx hb dX4_cures_9 rfl (lv_at hl 0 rfl) ?_
  refine va_get (D := D) (ci := 5) (v := .int (nI ((QL_ n Bd Hd Fx g).length))) (C := RX4) (T := TX4) (N := 14) hx hb hts iX4 hown hK hP 0 rfl rfl 11 (by decide) (hts (.fieldLink RX4 61 "LeastSetsModel" "cureCount" "I") (by decide +kernel)) (fun _ h9 => h9) rfl dX4_cures_10 ?_
  exact W.iret (v := (nI ((QL_ n Bd Hd Fx g).length))) hx hb hr (fun t ht hW => ⟨⟨(nI ((QL_ n Bd Hd Fx g).length)), ((n, Bd, Hd, Wt, Fx, g), (1, u_6.1, (CL_ n Bd Hd g).length, u_6.2.1, (QL_ n Bd Hd Fx g).length, u_6.2.2.1, u_6.2.2.2, 0)), rfl, ⟨rfl, rfl, hc, ⟨Or.inr rfl, fun _ => ⟨rfl, hw_6.1, rfl, hw_6.2⟩⟩⟩, by rw [ht]; exact hP, va_K.moved hW.alike hK, hD⟩, hS.F ht⟩) hS.2.2 dX4_cures_13
set_option maxHeartbeats 4000000 in
set_option maxRecDepth 100000 in
/-- X4_cause -/
theorem c_X4_cause (l : Launch) (D : va_G) (cI cZ cJ : ClassId) (t1 t2 sz : Nat) (qy m1 m2 m3 m4 m5 m6 m7 : Nat) (n : Nat) (Bd Hd Wt Fx : Nat → Int32) (g : Nat) (kn : Int32) (Gv : Nat → Int32) (z1 : Nat) (S1 : Nat → Int32) (z2 : Nat) (S2 : Nat → Int32) (sp th : Int32) (hc : CO_ n Bd Hd Fx g) (hi : IM_ n Bd Hd Fx g kn z1 S1 z2 S2) (x : Int32) : Met l yX4_cause wsX4_cause ({ frames := 2, cells := 0, slots := 0, locals := 49 } : Room) (va_Pc [.ref qy, .int x] (wr_ D [(cI, .int), (cZ, .boolean), (cJ, .long)] [(qy, .inr (5, [.ref m1, .ref m2, .ref m3, .ref m4, .int (nI n), .int (nI g), .int kn, .ref m5, .ref m6, .int (nI z1), .ref m7, .int (nI z2), .int sp, .int th])), (m1, .inl (cI, 14, .inl Bd)), (m2, .inl (cI, 14, .inl Hd)), (m3, .inl (cI, 14, .inl Wt)), (m4, .inl (cZ, 14, .inl Fx)), (m5, .inl (cZ, 16384, .inl Gv)), (m6, .inl (cI, 4000, .inl S1)), (m7, .inl (cI, 4000, .inl S2))] t1 t2 sz)) (va_Qi (S := Co_ × Jm_) (fun r u => u.1 = (n, Bd, Hd, Wt, Fx, g) ∧ q_cause (n, Bd, Hd, Wt, Fx, g) x r ∧ cok_ u.1 ∧ im_ u.1 u.2) (fun u => wd_ D [(cI, .int), (cZ, .boolean), (cJ, .long)] (va_A [(qy, .inr (5, [.ref m1, .ref m2, .ref m3, .ref m4, .int (nI n), .int (nI g), .int kn, .ref m5, .ref m6, .int (nI z1), .ref m7, .int (nI z2), .int sp, .int th])), (m1, .inl (cI, 14, .inl Bd)), (m2, .inl (cI, 14, .inl Hd)), (m3, .inl (cI, 14, .inl Wt)), (m4, .inl (cZ, 14, .inl Fx)), (m5, .inl (cZ, 16384, .inl Gv)), (m6, .inl (cI, 4000, .inl S1)), (m7, .inl (cI, 4000, .inl S2))] sz) [(qy, .inr (5, [.ref m1, .ref m2, .ref m3, .ref m4, .int (nI u.1.1), .int (nI u.1.2.2.2.2.2), .int u.2.1, .ref m5, .ref m6, .int (nI u.2.2.2.1), .ref m7, .int (nI u.2.2.2.2.2.1), .int u.2.2.2.2.2.2.2.1, .int u.2.2.2.2.2.2.2.2])), (m1, .inl (cI, 14, .inl u.1.2.1)), (m2, .inl (cI, 14, .inl u.1.2.2.1)), (m3, .inl (cI, 14, .inl u.1.2.2.2.1)), (m4, .inl (cZ, 14, .inl u.1.2.2.2.2.1)), (m5, .inl (cZ, 16384, .inl u.2.2.1)), (m6, .inl (cI, 4000, .inl u.2.2.2.2.1)), (m7, .inl (cI, 4000, .inl u.2.2.2.2.2.2.1))]) (va_A [(qy, .inr (5, [.ref m1, .ref m2, .ref m3, .ref m4, .int (nI n), .int (nI g), .int kn, .ref m5, .ref m6, .int (nI z1), .ref m7, .int (nI z2), .int sp, .int th])), (m1, .inl (cI, 14, .inl Bd)), (m2, .inl (cI, 14, .inl Hd)), (m3, .inl (cI, 14, .inl Wt)), (m4, .inl (cZ, 14, .inl Fx)), (m5, .inl (cZ, 16384, .inl Gv)), (m6, .inl (cI, 4000, .inl S1)), (m7, .inl (cI, 4000, .inl S2))] sz)) 0 0 (va_A [(qy, .inr (5, [.ref m1, .ref m2, .ref m3, .ref m4, .int (nI n), .int (nI g), .int kn, .ref m5, .ref m6, .int (nI z1), .ref m7, .int (nI z2), .int sp, .int th])), (m1, .inl (cI, 14, .inl Bd)), (m2, .inl (cI, 14, .inl Hd)), (m3, .inl (cI, 14, .inl Wt)), (m4, .inl (cZ, 14, .inl Fx)), (m5, .inl (cZ, 16384, .inl Gv)), (m6, .inl (cI, 4000, .inl S1)), (m7, .inl (cI, 4000, .inl S2))] sz) := by
  refine Met.ofW (cc := cX4_cause) (maxL := 2) (ret := (some .int)) (by decide) rfl ?_
  intro p e s m args below meth c s₁ B hml hv
  obtain ⟨rfl, hsz, hP, hK, hD0, hE⟩ := hv
  have hx := B.exec
  have hb := B.bytes
  have hr := B.returns
  have hts := atoms_spec (ws := wsX4_cause) B.pre
  have hown : s.vm.findClass RX4 = some m.cls := findClass_of_methodNamed B.named
  have hlocks := B.notSynchronized
  have iX4 : ∀ w ∈ u_ws RX4 TX4 14, w ∈ wsX4_cause := by decide +kernel
  subst hsz
  have hD := hD0.self (sz := s.heap.size)
  generalize hAe : va_A [(qy, .inr (5, [.ref m1, .ref m2, .ref m3, .ref m4, .int (nI n), .int (nI g), .int kn, .ref m5, .ref m6, .int (nI z1), .ref m7, .int (nI z2), .int sp, .int th])), (m1, .inl (cI, 14, .inl Bd)), (m2, .inl (cI, 14, .inl Hd)), (m3, .inl (cI, 14, .inl Wt)), (m4, .inl (cZ, 14, .inl Fx)), (m5, .inl (cZ, 16384, .inl Gv)), (m6, .inl (cI, 4000, .inl S1)), (m7, .inl (cI, 4000, .inl S2))] s.heap.size = A at hD hE ⊢
  have hA : ∀ q : Nat, s.heap.size ≤ q → A q := fun q h => by rw [← hAe]; exact Or.inr h
  have hS : va_S A s.heap s.heap [] := va_S.rf
  obtain ⟨hn, hg, hok0, hF⟩ := id hc
  have hok : ∀ a, a < n → uI_ (Hd a) < 24 := fun a ha => (hok0 a ha).2
  have hlen := CL_len hn Bd Hd g
  have hl := lv_entry ([.ref qy, .int x]) (n := 2) (Nat.le_of_ble_eq_true rfl)
  rw [lg_entry_eq]
  generalize (lg_sl ([.ref qy, .int x]) ++ List.replicate (2 - (lg_sl ([.ref qy, .int x])).length) Slot.unset).toArray = ls at hl ⊢
  have hl : lv_has ls 2 [(0, .ref qy), (1, .int x)] := hl
  refine lv_aload_n hx hb dX4_cause_0 rfl (lv_at hl 0 rfl) ?_
  refine lv_iconst (v := 0) hx hb dX4_cause_1 (by decide +kernel) ?_
  refine va_put (D := D) (ci := 5) (v := .int 0) (ty := .int) (C := RX4) (T := TX4) (N := 14) hx hb hts iX4 tyX4 tyX4_ok nmX4 hown hK hP hD hS 0 rfl rfl 13 (by decide) (hts (.fieldLink RX4 32 "LeastSetsModel" "thrown" "I") (by decide +kernel)) (fun _ h9 => h9) rfl (by decide +kernel) rfl rfl (Nat.le_of_ble_eq_true rfl) dX4_cause_2 (fun H locs hP hD hS => ?_)
  have hP : va_P D vwCl [(qy, .inr (5, [.ref m1, .ref m2, .ref m3, .ref m4, .int (nI n), .int (nI g), .int kn, .ref m5, .ref m6, .int (nI z1), .ref m7, .int (nI z2), .int sp, .int 0])), (m1, .inl (cI, 14, .inl Bd)), (m2, .inl (cI, 14, .inl Hd)), (m3, .inl (cI, 14, .inl Wt)), (m4, .inl (cZ, 14, .inl Fx)), (m5, .inl (cZ, 16384, .inl Gv)), (m6, .inl (cI, 4000, .inl S1)), (m7, .inl (cI, 4000, .inl S2))] H := hP
  have hD : va_D A [(qy, .inr (5, [.ref m1, .ref m2, .ref m3, .ref m4, .int (nI n), .int (nI g), .int kn, .ref m5, .ref m6, .int (nI z1), .ref m7, .int (nI z2), .int sp, .int 0])), (m1, .inl (cI, 14, .inl Bd)), (m2, .inl (cI, 14, .inl Hd)), (m3, .inl (cI, 14, .inl Wt)), (m4, .inl (cZ, 14, .inl Fx)), (m5, .inl (cZ, 16384, .inl Gv)), (m6, .inl (cI, 4000, .inl S1)), (m7, .inl (cI, 4000, .inl S2))] := hD
  refine lv_aload_n hx hb dX4_cause_5 rfl (lv_at hl 0 rfl) ?_
  have hPc := hP.sub (ws' := [(qy, .inr (5, [.ref m1, .ref m2, .ref m3, .ref m4, .int (nI n), .int (nI g), .int kn, .ref m5, .ref m6, .int (nI z1), .ref m7, .int (nI z2), .int sp, .int 0])), (m1, .inl (cI, 14, .inl Bd)), (m2, .inl (cI, 14, .inl Hd)), (m4, .inl (cZ, 14, .inl Fx)), (m5, .inl (cZ, 16384, .inl Gv)), (m6, .inl (cI, 4000, .inl S1)), (m7, .inl (cI, 4000, .inl S2))]) [0, 1, 2, 4, 5, 6, 7] rfl
  have hDc := hD.sub (ws' := [(qy, .inr (5, [.ref m1, .ref m2, .ref m3, .ref m4, .int (nI n), .int (nI g), .int kn, .ref m5, .ref m6, .int (nI z1), .ref m7, .int (nI z2), .int sp, .int 0])), (m1, .inl (cI, 14, .inl Bd)), (m2, .inl (cI, 14, .inl Hd)), (m4, .inl (cZ, 14, .inl Fx)), (m5, .inl (cZ, 16384, .inl Gv)), (m6, .inl (cI, 4000, .inl S1)), (m7, .inl (cI, 4000, .inl S2))]) [0, 1, 2, 4, 5, 6, 7] (by decide) rfl
  have hFc := va_free (wc := [(qy, .inr (5, [.ref m1, .ref m2, .ref m3, .ref m4, .int (nI n), .int (nI g), .int kn, .ref m5, .ref m6, .int (nI z1), .ref m7, .int (nI z2), .int sp, .int 0])), (m1, .inl (cI, 14, .inl Bd)), (m2, .inl (cI, 14, .inl Hd)), (m4, .inl (cZ, 14, .inl Fx)), (m5, .inl (cZ, 16384, .inl Gv)), (m6, .inl (cI, 4000, .inl S1)), (m7, .inl (cI, 4000, .inl S2))]) hD hS hA [0, 1, 2, 4, 5, 6, 7] rfl
  refine va_callv (va_runV (As := []) (rest := []) ⟨hx, hb, hml, hown, hts⟩ (c_X4_find l D cI cZ cJ t1 t2 _ qy m1 m2 m3 m4 m5 m6 m7 n Bd Hd Wt Fx g kn Gv z1 S1 z2 S2 sp 0 hc hi) (cwV 0 hts gX4_cause_X4_find rfl rfl rfl (by decide +kernel) ⟨Nat.le_of_ble_eq_true rfl, Nat.le_of_ble_eq_true rfl⟩) ⟨wr_blind, va_recv hK hP (ci := 5) (q0 := 0) rfl rfl, wr_pre hPc hDc hK hE hS hFc [0, 1, 2] rfl⟩ rfl rfl hl.1 rfl (lv_room (Nat.le_of_ble_eq_true rfl)) dX4_cause_6 ⟨Nat.le_of_ble_eq_true rfl, Nat.le_of_ble_eq_true rfl⟩) hS (fun q _ h => hFc q h) hFc (fun u_6 t H locs ht hvm hw_6 hB hz1 hk1 hS => ?_)
  obtain ⟨hP1, hK1, hD1⟩ := hB
  rw [ht] at hP1
  obtain ⟨hP, hD⟩ := va_join (wr := [(m3, .inl (cI, 14, .inl Wt))]) (w1 := [(qy, .inr (5, [.ref m1, .ref m2, .ref m3, .ref m4, .int (nI n), .int (nI g), .int 1, .ref m5, .ref m6, .int (nI ((CL_ n Bd Hd g).length)), .ref m7, .int (nI ((QL_ n Bd Hd Fx g).length)), .int u_6.2.2.2, .int 0])), (m1, .inl (cI, 14, .inl Bd)), (m2, .inl (cI, 14, .inl Hd)), (m4, .inl (cZ, 14, .inl Fx)), (m5, .inl (cZ, 16384, .inl u_6.1)), (m6, .inl (cI, 4000, .inl u_6.2.1)), (m7, .inl (cI, 4000, .inl u_6.2.2.1))]) hP hD [0, 1, 2, 4, 5, 6, 7] [3] rfl rfl (by decide) (by decide) hk1 hFc hP1 hD1
  have hP : va_P D vwCl [(qy, .inr (5, [.ref m1, .ref m2, .ref m3, .ref m4, .int (nI n), .int (nI g), .int 1, .ref m5, .ref m6, .int (nI ((CL_ n Bd Hd g).length)), .ref m7, .int (nI ((QL_ n Bd Hd Fx g).length)), .int u_6.2.2.2, .int 0])), (m1, .inl (cI, 14, .inl Bd)), (m2, .inl (cI, 14, .inl Hd)), (m3, .inl (cI, 14, .inl Wt)), (m4, .inl (cZ, 14, .inl Fx)), (m5, .inl (cZ, 16384, .inl u_6.1)), (m6, .inl (cI, 4000, .inl u_6.2.1)), (m7, .inl (cI, 4000, .inl u_6.2.2.1))] H := hP.sub [1, 2, 3, 0, 4, 5, 6, 7] rfl
  have hD : va_D A [(qy, .inr (5, [.ref m1, .ref m2, .ref m3, .ref m4, .int (nI n), .int (nI g), .int 1, .ref m5, .ref m6, .int (nI ((CL_ n Bd Hd g).length)), .ref m7, .int (nI ((QL_ n Bd Hd Fx g).length)), .int u_6.2.2.2, .int 0])), (m1, .inl (cI, 14, .inl Bd)), (m2, .inl (cI, 14, .inl Hd)), (m3, .inl (cI, 14, .inl Wt)), (m4, .inl (cZ, 14, .inl Fx)), (m5, .inl (cZ, 16384, .inl u_6.1)), (m6, .inl (cI, 4000, .inl u_6.2.1)), (m7, .inl (cI, 4000, .inl u_6.2.2.1))] := hD.sub [1, 2, 3, 0, 4, 5, 6, 7] (by decide) rfl
  clear hPc hDc hFc hP1 hK1 hD1 hk1 hz1
  refine lv_iload_n hx hb dX4_cause_9 rfl (lv_at hl 1 rfl) ?_
  refine lv_if_lt (tgt := 30) hx hb dX4_cause_10 (by decide) (fun c_10 => ?_) (fun c_10 => ?_)
  · refine lv_bipush (v := (-2)) hx hb dX4_cause_30 (by decide +kernel) ?_
    exact W.iret (v := (-2)) hx hb hr (fun t ht hW => ⟨⟨(-2), ((n, Bd, Hd, Wt, Fx, g), (1, u_6.1, (CL_ n Bd Hd g).length, u_6.2.1, (QL_ n Bd Hd Fx g).length, u_6.2.2.1, u_6.2.2.2, 0)), rfl, ⟨rfl, (by first | exact Or.inl ⟨j, hj, ej, ln_sx hw_6.1 hj⟩ | exact at_neg (by omega) c_10 | exact at_big (by omega) c_18), hc, ⟨Or.inr rfl, fun _ => ⟨rfl, hw_6.1, rfl, hw_6.2⟩⟩⟩, by rw [ht]; exact hP, va_K.moved hW.alike hK, hD⟩, hS.F ht⟩) hS.2.2 dX4_cause_32
  · refine lv_iload_n hx hb dX4_cause_13 rfl (lv_at hl 1 rfl) ?_
    refine lv_aload_n hx hb dX4_cause_14 rfl (lv_at hl 0 rfl) ?_
    refine va_get (D := D) (ci := 5) (v := .int (nI ((CL_ n Bd Hd g).length))) (C := RX4) (T := TX4) (N := 14) hx hb hts iX4 hown hK hP 0 rfl rfl 9 (by decide) (hts (.fieldLink RX4 58 "LeastSetsModel" "causeCount" "I") (by decide +kernel)) (fun _ h9 => h9) rfl dX4_cause_15 ?_
    refine lv_icmp_ge (tgt := 30) hx hb dX4_cause_18 (by decide) (fun c_18 => ?_) (fun c_18 => ?_)
    · refine lv_bipush (v := (-2)) hx hb dX4_cause_30 (by decide +kernel) ?_
      exact W.iret (v := (-2)) hx hb hr (fun t ht hW => ⟨⟨(-2), ((n, Bd, Hd, Wt, Fx, g), (1, u_6.1, (CL_ n Bd Hd g).length, u_6.2.1, (QL_ n Bd Hd Fx g).length, u_6.2.2.1, u_6.2.2.2, 0)), rfl, ⟨rfl, (by first | exact Or.inl ⟨j, hj, ej, ln_sx hw_6.1 hj⟩ | exact at_neg (by omega) c_10 | exact at_big (by omega) c_18), hc, ⟨Or.inr rfl, fun _ => ⟨rfl, hw_6.1, rfl, hw_6.2⟩⟩⟩, by rw [ht]; exact hP, va_K.moved hW.alike hK, hD⟩, hS.F ht⟩) hS.2.2 dX4_cause_32
    · obtain ⟨j, hj, ej⟩ := at_get (by omega) c_10 c_18
      rw [ej] at hl
      refine lv_aload_n hx hb dX4_cause_21 rfl (lv_at hl 0 rfl) ?_
      refine va_get (D := D) (ci := 5) (v := .ref m6) (C := RX4) (T := TX4) (N := 14) hx hb hts iX4 hown hK hP 0 rfl rfl 8 (by decide) (hts (.fieldLink RX4 26 "LeastSetsModel" "causes" "[I") (by decide +kernel)) (fun _ h9 => h9) rfl dX4_cause_22 ?_
      refine lv_iload_n hx hb dX4_cause_25 rfl (lv_at hl 1 rfl) ?_
      refine r_iald hx hb hK hP 6 0 rfl rfl j (by omega) (by omega) dX4_cause_26 ?_
      refine lv_goto (tgt := 32) hx hb dX4_cause_27 (by decide) ?_
      exact W.iret (v := (u_6.2.1 j)) hx hb hr (fun t ht hW => ⟨⟨(u_6.2.1 j), ((n, Bd, Hd, Wt, Fx, g), (1, u_6.1, (CL_ n Bd Hd g).length, u_6.2.1, (QL_ n Bd Hd Fx g).length, u_6.2.2.1, u_6.2.2.2, 0)), rfl, ⟨rfl, (by first | exact Or.inl ⟨j, hj, ej, ln_sx hw_6.1 hj⟩ | exact at_neg (by omega) c_10 | exact at_big (by omega) c_18), hc, ⟨Or.inr rfl, fun _ => ⟨rfl, hw_6.1, rfl, hw_6.2⟩⟩⟩, by rw [ht]; exact hP, va_K.moved hW.alike hK, hD⟩, hS.F ht⟩) hS.2.2 dX4_cause_32
set_option maxHeartbeats 4000000 in
set_option maxRecDepth 100000 in
/-- X4_cure -/
theorem c_X4_cure (l : Launch) (D : va_G) (cI cZ cJ : ClassId) (t1 t2 sz : Nat) (qy m1 m2 m3 m4 m5 m6 m7 : Nat) (n : Nat) (Bd Hd Wt Fx : Nat → Int32) (g : Nat) (kn : Int32) (Gv : Nat → Int32) (z1 : Nat) (S1 : Nat → Int32) (z2 : Nat) (S2 : Nat → Int32) (sp th : Int32) (hc : CO_ n Bd Hd Fx g) (hi : IM_ n Bd Hd Fx g kn z1 S1 z2 S2) (x : Int32) : Met l yX4_cure wsX4_cure ({ frames := 2, cells := 0, slots := 0, locals := 49 } : Room) (va_Pc [.ref qy, .int x] (wr_ D [(cI, .int), (cZ, .boolean), (cJ, .long)] [(qy, .inr (5, [.ref m1, .ref m2, .ref m3, .ref m4, .int (nI n), .int (nI g), .int kn, .ref m5, .ref m6, .int (nI z1), .ref m7, .int (nI z2), .int sp, .int th])), (m1, .inl (cI, 14, .inl Bd)), (m2, .inl (cI, 14, .inl Hd)), (m3, .inl (cI, 14, .inl Wt)), (m4, .inl (cZ, 14, .inl Fx)), (m5, .inl (cZ, 16384, .inl Gv)), (m6, .inl (cI, 4000, .inl S1)), (m7, .inl (cI, 4000, .inl S2))] t1 t2 sz)) (va_Qi (S := Co_ × Jm_) (fun r u => u.1 = (n, Bd, Hd, Wt, Fx, g) ∧ q_cure (n, Bd, Hd, Wt, Fx, g) x r ∧ cok_ u.1 ∧ im_ u.1 u.2) (fun u => wd_ D [(cI, .int), (cZ, .boolean), (cJ, .long)] (va_A [(qy, .inr (5, [.ref m1, .ref m2, .ref m3, .ref m4, .int (nI n), .int (nI g), .int kn, .ref m5, .ref m6, .int (nI z1), .ref m7, .int (nI z2), .int sp, .int th])), (m1, .inl (cI, 14, .inl Bd)), (m2, .inl (cI, 14, .inl Hd)), (m3, .inl (cI, 14, .inl Wt)), (m4, .inl (cZ, 14, .inl Fx)), (m5, .inl (cZ, 16384, .inl Gv)), (m6, .inl (cI, 4000, .inl S1)), (m7, .inl (cI, 4000, .inl S2))] sz) [(qy, .inr (5, [.ref m1, .ref m2, .ref m3, .ref m4, .int (nI u.1.1), .int (nI u.1.2.2.2.2.2), .int u.2.1, .ref m5, .ref m6, .int (nI u.2.2.2.1), .ref m7, .int (nI u.2.2.2.2.2.1), .int u.2.2.2.2.2.2.2.1, .int u.2.2.2.2.2.2.2.2])), (m1, .inl (cI, 14, .inl u.1.2.1)), (m2, .inl (cI, 14, .inl u.1.2.2.1)), (m3, .inl (cI, 14, .inl u.1.2.2.2.1)), (m4, .inl (cZ, 14, .inl u.1.2.2.2.2.1)), (m5, .inl (cZ, 16384, .inl u.2.2.1)), (m6, .inl (cI, 4000, .inl u.2.2.2.2.1)), (m7, .inl (cI, 4000, .inl u.2.2.2.2.2.2.1))]) (va_A [(qy, .inr (5, [.ref m1, .ref m2, .ref m3, .ref m4, .int (nI n), .int (nI g), .int kn, .ref m5, .ref m6, .int (nI z1), .ref m7, .int (nI z2), .int sp, .int th])), (m1, .inl (cI, 14, .inl Bd)), (m2, .inl (cI, 14, .inl Hd)), (m3, .inl (cI, 14, .inl Wt)), (m4, .inl (cZ, 14, .inl Fx)), (m5, .inl (cZ, 16384, .inl Gv)), (m6, .inl (cI, 4000, .inl S1)), (m7, .inl (cI, 4000, .inl S2))] sz)) 0 0 (va_A [(qy, .inr (5, [.ref m1, .ref m2, .ref m3, .ref m4, .int (nI n), .int (nI g), .int kn, .ref m5, .ref m6, .int (nI z1), .ref m7, .int (nI z2), .int sp, .int th])), (m1, .inl (cI, 14, .inl Bd)), (m2, .inl (cI, 14, .inl Hd)), (m3, .inl (cI, 14, .inl Wt)), (m4, .inl (cZ, 14, .inl Fx)), (m5, .inl (cZ, 16384, .inl Gv)), (m6, .inl (cI, 4000, .inl S1)), (m7, .inl (cI, 4000, .inl S2))] sz) := by
  refine Met.ofW (cc := cX4_cure) (maxL := 2) (ret := (some .int)) (by decide) rfl ?_
  intro p e s m args below meth c s₁ B hml hv
  obtain ⟨rfl, hsz, hP, hK, hD0, hE⟩ := hv
  have hx := B.exec
  have hb := B.bytes
  have hr := B.returns
  have hts := atoms_spec (ws := wsX4_cure) B.pre
  have hown : s.vm.findClass RX4 = some m.cls := findClass_of_methodNamed B.named
  have hlocks := B.notSynchronized
  have iX4 : ∀ w ∈ u_ws RX4 TX4 14, w ∈ wsX4_cure := by decide +kernel
  subst hsz
  have hD := hD0.self (sz := s.heap.size)
  generalize hAe : va_A [(qy, .inr (5, [.ref m1, .ref m2, .ref m3, .ref m4, .int (nI n), .int (nI g), .int kn, .ref m5, .ref m6, .int (nI z1), .ref m7, .int (nI z2), .int sp, .int th])), (m1, .inl (cI, 14, .inl Bd)), (m2, .inl (cI, 14, .inl Hd)), (m3, .inl (cI, 14, .inl Wt)), (m4, .inl (cZ, 14, .inl Fx)), (m5, .inl (cZ, 16384, .inl Gv)), (m6, .inl (cI, 4000, .inl S1)), (m7, .inl (cI, 4000, .inl S2))] s.heap.size = A at hD hE ⊢
  have hA : ∀ q : Nat, s.heap.size ≤ q → A q := fun q h => by rw [← hAe]; exact Or.inr h
  have hS : va_S A s.heap s.heap [] := va_S.rf
  obtain ⟨hn, hg, hok0, hF⟩ := id hc
  have hok : ∀ a, a < n → uI_ (Hd a) < 24 := fun a ha => (hok0 a ha).2
  have hlen := QL_len hn Bd Hd Fx g
  have hl := lv_entry ([.ref qy, .int x]) (n := 2) (Nat.le_of_ble_eq_true rfl)
  rw [lg_entry_eq]
  generalize (lg_sl ([.ref qy, .int x]) ++ List.replicate (2 - (lg_sl ([.ref qy, .int x])).length) Slot.unset).toArray = ls at hl ⊢
  have hl : lv_has ls 2 [(0, .ref qy), (1, .int x)] := hl
  refine lv_aload_n hx hb dX4_cure_0 rfl (lv_at hl 0 rfl) ?_
  refine lv_iconst (v := 0) hx hb dX4_cure_1 (by decide +kernel) ?_
  refine va_put (D := D) (ci := 5) (v := .int 0) (ty := .int) (C := RX4) (T := TX4) (N := 14) hx hb hts iX4 tyX4 tyX4_ok nmX4 hown hK hP hD hS 0 rfl rfl 13 (by decide) (hts (.fieldLink RX4 32 "LeastSetsModel" "thrown" "I") (by decide +kernel)) (fun _ h9 => h9) rfl (by decide +kernel) rfl rfl (Nat.le_of_ble_eq_true rfl) dX4_cure_2 (fun H locs hP hD hS => ?_)
  have hP : va_P D vwCl [(qy, .inr (5, [.ref m1, .ref m2, .ref m3, .ref m4, .int (nI n), .int (nI g), .int kn, .ref m5, .ref m6, .int (nI z1), .ref m7, .int (nI z2), .int sp, .int 0])), (m1, .inl (cI, 14, .inl Bd)), (m2, .inl (cI, 14, .inl Hd)), (m3, .inl (cI, 14, .inl Wt)), (m4, .inl (cZ, 14, .inl Fx)), (m5, .inl (cZ, 16384, .inl Gv)), (m6, .inl (cI, 4000, .inl S1)), (m7, .inl (cI, 4000, .inl S2))] H := hP
  have hD : va_D A [(qy, .inr (5, [.ref m1, .ref m2, .ref m3, .ref m4, .int (nI n), .int (nI g), .int kn, .ref m5, .ref m6, .int (nI z1), .ref m7, .int (nI z2), .int sp, .int 0])), (m1, .inl (cI, 14, .inl Bd)), (m2, .inl (cI, 14, .inl Hd)), (m3, .inl (cI, 14, .inl Wt)), (m4, .inl (cZ, 14, .inl Fx)), (m5, .inl (cZ, 16384, .inl Gv)), (m6, .inl (cI, 4000, .inl S1)), (m7, .inl (cI, 4000, .inl S2))] := hD
  refine lv_aload_n hx hb dX4_cure_5 rfl (lv_at hl 0 rfl) ?_
  have hPc := hP.sub (ws' := [(qy, .inr (5, [.ref m1, .ref m2, .ref m3, .ref m4, .int (nI n), .int (nI g), .int kn, .ref m5, .ref m6, .int (nI z1), .ref m7, .int (nI z2), .int sp, .int 0])), (m1, .inl (cI, 14, .inl Bd)), (m2, .inl (cI, 14, .inl Hd)), (m4, .inl (cZ, 14, .inl Fx)), (m5, .inl (cZ, 16384, .inl Gv)), (m6, .inl (cI, 4000, .inl S1)), (m7, .inl (cI, 4000, .inl S2))]) [0, 1, 2, 4, 5, 6, 7] rfl
  have hDc := hD.sub (ws' := [(qy, .inr (5, [.ref m1, .ref m2, .ref m3, .ref m4, .int (nI n), .int (nI g), .int kn, .ref m5, .ref m6, .int (nI z1), .ref m7, .int (nI z2), .int sp, .int 0])), (m1, .inl (cI, 14, .inl Bd)), (m2, .inl (cI, 14, .inl Hd)), (m4, .inl (cZ, 14, .inl Fx)), (m5, .inl (cZ, 16384, .inl Gv)), (m6, .inl (cI, 4000, .inl S1)), (m7, .inl (cI, 4000, .inl S2))]) [0, 1, 2, 4, 5, 6, 7] (by decide) rfl
  have hFc := va_free (wc := [(qy, .inr (5, [.ref m1, .ref m2, .ref m3, .ref m4, .int (nI n), .int (nI g), .int kn, .ref m5, .ref m6, .int (nI z1), .ref m7, .int (nI z2), .int sp, .int 0])), (m1, .inl (cI, 14, .inl Bd)), (m2, .inl (cI, 14, .inl Hd)), (m4, .inl (cZ, 14, .inl Fx)), (m5, .inl (cZ, 16384, .inl Gv)), (m6, .inl (cI, 4000, .inl S1)), (m7, .inl (cI, 4000, .inl S2))]) hD hS hA [0, 1, 2, 4, 5, 6, 7] rfl
  refine va_callv (va_runV (As := []) (rest := []) ⟨hx, hb, hml, hown, hts⟩ (c_X4_find l D cI cZ cJ t1 t2 _ qy m1 m2 m3 m4 m5 m6 m7 n Bd Hd Wt Fx g kn Gv z1 S1 z2 S2 sp 0 hc hi) (cwV 0 hts gX4_cure_X4_find rfl rfl rfl (by decide +kernel) ⟨Nat.le_of_ble_eq_true rfl, Nat.le_of_ble_eq_true rfl⟩) ⟨wr_blind, va_recv hK hP (ci := 5) (q0 := 0) rfl rfl, wr_pre hPc hDc hK hE hS hFc [0, 1, 2] rfl⟩ rfl rfl hl.1 rfl (lv_room (Nat.le_of_ble_eq_true rfl)) dX4_cure_6 ⟨Nat.le_of_ble_eq_true rfl, Nat.le_of_ble_eq_true rfl⟩) hS (fun q _ h => hFc q h) hFc (fun u_6 t H locs ht hvm hw_6 hB hz1 hk1 hS => ?_)
  obtain ⟨hP1, hK1, hD1⟩ := hB
  rw [ht] at hP1
  obtain ⟨hP, hD⟩ := va_join (wr := [(m3, .inl (cI, 14, .inl Wt))]) (w1 := [(qy, .inr (5, [.ref m1, .ref m2, .ref m3, .ref m4, .int (nI n), .int (nI g), .int 1, .ref m5, .ref m6, .int (nI ((CL_ n Bd Hd g).length)), .ref m7, .int (nI ((QL_ n Bd Hd Fx g).length)), .int u_6.2.2.2, .int 0])), (m1, .inl (cI, 14, .inl Bd)), (m2, .inl (cI, 14, .inl Hd)), (m4, .inl (cZ, 14, .inl Fx)), (m5, .inl (cZ, 16384, .inl u_6.1)), (m6, .inl (cI, 4000, .inl u_6.2.1)), (m7, .inl (cI, 4000, .inl u_6.2.2.1))]) hP hD [0, 1, 2, 4, 5, 6, 7] [3] rfl rfl (by decide) (by decide) hk1 hFc hP1 hD1
  have hP : va_P D vwCl [(qy, .inr (5, [.ref m1, .ref m2, .ref m3, .ref m4, .int (nI n), .int (nI g), .int 1, .ref m5, .ref m6, .int (nI ((CL_ n Bd Hd g).length)), .ref m7, .int (nI ((QL_ n Bd Hd Fx g).length)), .int u_6.2.2.2, .int 0])), (m1, .inl (cI, 14, .inl Bd)), (m2, .inl (cI, 14, .inl Hd)), (m3, .inl (cI, 14, .inl Wt)), (m4, .inl (cZ, 14, .inl Fx)), (m5, .inl (cZ, 16384, .inl u_6.1)), (m6, .inl (cI, 4000, .inl u_6.2.1)), (m7, .inl (cI, 4000, .inl u_6.2.2.1))] H := hP.sub [1, 2, 3, 0, 4, 5, 6, 7] rfl
  have hD : va_D A [(qy, .inr (5, [.ref m1, .ref m2, .ref m3, .ref m4, .int (nI n), .int (nI g), .int 1, .ref m5, .ref m6, .int (nI ((CL_ n Bd Hd g).length)), .ref m7, .int (nI ((QL_ n Bd Hd Fx g).length)), .int u_6.2.2.2, .int 0])), (m1, .inl (cI, 14, .inl Bd)), (m2, .inl (cI, 14, .inl Hd)), (m3, .inl (cI, 14, .inl Wt)), (m4, .inl (cZ, 14, .inl Fx)), (m5, .inl (cZ, 16384, .inl u_6.1)), (m6, .inl (cI, 4000, .inl u_6.2.1)), (m7, .inl (cI, 4000, .inl u_6.2.2.1))] := hD.sub [1, 2, 3, 0, 4, 5, 6, 7] (by decide) rfl
  clear hPc hDc hFc hP1 hK1 hD1 hk1 hz1
  refine lv_iload_n hx hb dX4_cure_9 rfl (lv_at hl 1 rfl) ?_
  refine lv_if_lt (tgt := 30) hx hb dX4_cure_10 (by decide) (fun c_10 => ?_) (fun c_10 => ?_)
  · refine lv_bipush (v := (-2)) hx hb dX4_cure_30 (by decide +kernel) ?_
    exact W.iret (v := (-2)) hx hb hr (fun t ht hW => ⟨⟨(-2), ((n, Bd, Hd, Wt, Fx, g), (1, u_6.1, (CL_ n Bd Hd g).length, u_6.2.1, (QL_ n Bd Hd Fx g).length, u_6.2.2.1, u_6.2.2.2, 0)), rfl, ⟨rfl, (by first | exact Or.inl ⟨j, hj, ej, ln_sx hw_6.2 hj⟩ | exact at_neg (by omega) c_10 | exact at_big (by omega) c_18), hc, ⟨Or.inr rfl, fun _ => ⟨rfl, hw_6.1, rfl, hw_6.2⟩⟩⟩, by rw [ht]; exact hP, va_K.moved hW.alike hK, hD⟩, hS.F ht⟩) hS.2.2 dX4_cure_32
  · refine lv_iload_n hx hb dX4_cure_13 rfl (lv_at hl 1 rfl) ?_
    refine lv_aload_n hx hb dX4_cure_14 rfl (lv_at hl 0 rfl) ?_
    refine va_get (D := D) (ci := 5) (v := .int (nI ((QL_ n Bd Hd Fx g).length))) (C := RX4) (T := TX4) (N := 14) hx hb hts iX4 hown hK hP 0 rfl rfl 11 (by decide) (hts (.fieldLink RX4 61 "LeastSetsModel" "cureCount" "I") (by decide +kernel)) (fun _ h9 => h9) rfl dX4_cure_15 ?_
    refine lv_icmp_ge (tgt := 30) hx hb dX4_cure_18 (by decide) (fun c_18 => ?_) (fun c_18 => ?_)
    · refine lv_bipush (v := (-2)) hx hb dX4_cure_30 (by decide +kernel) ?_
      exact W.iret (v := (-2)) hx hb hr (fun t ht hW => ⟨⟨(-2), ((n, Bd, Hd, Wt, Fx, g), (1, u_6.1, (CL_ n Bd Hd g).length, u_6.2.1, (QL_ n Bd Hd Fx g).length, u_6.2.2.1, u_6.2.2.2, 0)), rfl, ⟨rfl, (by first | exact Or.inl ⟨j, hj, ej, ln_sx hw_6.2 hj⟩ | exact at_neg (by omega) c_10 | exact at_big (by omega) c_18), hc, ⟨Or.inr rfl, fun _ => ⟨rfl, hw_6.1, rfl, hw_6.2⟩⟩⟩, by rw [ht]; exact hP, va_K.moved hW.alike hK, hD⟩, hS.F ht⟩) hS.2.2 dX4_cure_32
    · obtain ⟨j, hj, ej⟩ := at_get (by omega) c_10 c_18
      rw [ej] at hl
      refine lv_aload_n hx hb dX4_cure_21 rfl (lv_at hl 0 rfl) ?_
      refine va_get (D := D) (ci := 5) (v := .ref m7) (C := RX4) (T := TX4) (N := 14) hx hb hts iX4 hown hK hP 0 rfl rfl 10 (by decide) (hts (.fieldLink RX4 29 "LeastSetsModel" "cures" "[I") (by decide +kernel)) (fun _ h9 => h9) rfl dX4_cure_22 ?_
      refine lv_iload_n hx hb dX4_cure_25 rfl (lv_at hl 1 rfl) ?_
      refine r_iald hx hb hK hP 7 0 rfl rfl j (by omega) (by omega) dX4_cure_26 ?_
      refine lv_goto (tgt := 32) hx hb dX4_cure_27 (by decide) ?_
      exact W.iret (v := (u_6.2.2.1 j)) hx hb hr (fun t ht hW => ⟨⟨(u_6.2.2.1 j), ((n, Bd, Hd, Wt, Fx, g), (1, u_6.1, (CL_ n Bd Hd g).length, u_6.2.1, (QL_ n Bd Hd Fx g).length, u_6.2.2.1, u_6.2.2.2, 0)), rfl, ⟨rfl, (by first | exact Or.inl ⟨j, hj, ej, ln_sx hw_6.2 hj⟩ | exact at_neg (by omega) c_10 | exact at_big (by omega) c_18), hc, ⟨Or.inr rfl, fun _ => ⟨rfl, hw_6.1, rfl, hw_6.2⟩⟩⟩, by rw [ht]; exact hP, va_K.moved hW.alike hK, hD⟩, hS.F ht⟩) hS.2.2 dX4_cure_32
set_option maxHeartbeats 4000000 in
set_option maxRecDepth 100000 in
/-- within(x) -/
theorem c_X4_within (l : Launch) (D : va_G) (cI cZ cJ : ClassId) (t1 t2 sz : Nat) (qy m1 m2 m3 m4 m5 m6 m7 : Nat) (n : Nat) (Bd Hd Wt Fx : Nat → Int32) (g : Nat) (kn : Int32) (Gv : Nat → Int32) (z1 : Nat) (S1 : Nat → Int32) (z2 : Nat) (S2 : Nat → Int32) (sp th : Int32) (hc : CO_ n Bd Hd Fx g) (hi : IM_ n Bd Hd Fx g kn z1 S1 z2 S2) (x : Int32) : Met l yX4_within wsX4_within ({ frames := 2, cells := 0, slots := 0, locals := 49 } : Room) (va_Pc [.ref qy, .int x] (wr_ D [(cI, .int), (cZ, .boolean), (cJ, .long)] [(qy, .inr (5, [.ref m1, .ref m2, .ref m3, .ref m4, .int (nI n), .int (nI g), .int kn, .ref m5, .ref m6, .int (nI z1), .ref m7, .int (nI z2), .int sp, .int th])), (m1, .inl (cI, 14, .inl Bd)), (m2, .inl (cI, 14, .inl Hd)), (m3, .inl (cI, 14, .inl Wt)), (m4, .inl (cZ, 14, .inl Fx)), (m5, .inl (cZ, 16384, .inl Gv)), (m6, .inl (cI, 4000, .inl S1)), (m7, .inl (cI, 4000, .inl S2))] t1 t2 sz)) (va_Qi (S := Co_ × Jm_) (fun r u => u.1 = (n, Bd, Hd, Wt, Fx, g) ∧ q_within (n, Bd, Hd, Wt, Fx, g) x r ∧ cok_ u.1 ∧ im_ u.1 u.2) (fun u => wd_ D [(cI, .int), (cZ, .boolean), (cJ, .long)] (va_A [(qy, .inr (5, [.ref m1, .ref m2, .ref m3, .ref m4, .int (nI n), .int (nI g), .int kn, .ref m5, .ref m6, .int (nI z1), .ref m7, .int (nI z2), .int sp, .int th])), (m1, .inl (cI, 14, .inl Bd)), (m2, .inl (cI, 14, .inl Hd)), (m3, .inl (cI, 14, .inl Wt)), (m4, .inl (cZ, 14, .inl Fx)), (m5, .inl (cZ, 16384, .inl Gv)), (m6, .inl (cI, 4000, .inl S1)), (m7, .inl (cI, 4000, .inl S2))] sz) [(qy, .inr (5, [.ref m1, .ref m2, .ref m3, .ref m4, .int (nI u.1.1), .int (nI u.1.2.2.2.2.2), .int u.2.1, .ref m5, .ref m6, .int (nI u.2.2.2.1), .ref m7, .int (nI u.2.2.2.2.2.1), .int u.2.2.2.2.2.2.2.1, .int u.2.2.2.2.2.2.2.2])), (m1, .inl (cI, 14, .inl u.1.2.1)), (m2, .inl (cI, 14, .inl u.1.2.2.1)), (m3, .inl (cI, 14, .inl u.1.2.2.2.1)), (m4, .inl (cZ, 14, .inl u.1.2.2.2.2.1)), (m5, .inl (cZ, 16384, .inl u.2.2.1)), (m6, .inl (cI, 4000, .inl u.2.2.2.2.1)), (m7, .inl (cI, 4000, .inl u.2.2.2.2.2.2.1))]) (va_A [(qy, .inr (5, [.ref m1, .ref m2, .ref m3, .ref m4, .int (nI n), .int (nI g), .int kn, .ref m5, .ref m6, .int (nI z1), .ref m7, .int (nI z2), .int sp, .int th])), (m1, .inl (cI, 14, .inl Bd)), (m2, .inl (cI, 14, .inl Hd)), (m3, .inl (cI, 14, .inl Wt)), (m4, .inl (cZ, 14, .inl Fx)), (m5, .inl (cZ, 16384, .inl Gv)), (m6, .inl (cI, 4000, .inl S1)), (m7, .inl (cI, 4000, .inl S2))] sz)) 0 0 (va_A [(qy, .inr (5, [.ref m1, .ref m2, .ref m3, .ref m4, .int (nI n), .int (nI g), .int kn, .ref m5, .ref m6, .int (nI z1), .ref m7, .int (nI z2), .int sp, .int th])), (m1, .inl (cI, 14, .inl Bd)), (m2, .inl (cI, 14, .inl Hd)), (m3, .inl (cI, 14, .inl Wt)), (m4, .inl (cZ, 14, .inl Fx)), (m5, .inl (cZ, 16384, .inl Gv)), (m6, .inl (cI, 4000, .inl S1)), (m7, .inl (cI, 4000, .inl S2))] sz) := by
  refine Met.ofW (cc := cX4_within) (maxL := 3) (ret := (some .int)) (by decide) rfl ?_
  intro p e s m args below meth c s₁ B hml hv
  obtain ⟨rfl, hsz, hP, hK, hD0, hE⟩ := hv
  have hx := B.exec
  have hb := B.bytes
  have hr := B.returns
  have hts := atoms_spec (ws := wsX4_within) B.pre
  have hown : s.vm.findClass RX4 = some m.cls := findClass_of_methodNamed B.named
  have hlocks := B.notSynchronized
  have iX4 : ∀ w ∈ u_ws RX4 TX4 14, w ∈ wsX4_within := by decide +kernel
  subst hsz
  have hD := hD0.self (sz := s.heap.size)
  generalize hAe : va_A [(qy, .inr (5, [.ref m1, .ref m2, .ref m3, .ref m4, .int (nI n), .int (nI g), .int kn, .ref m5, .ref m6, .int (nI z1), .ref m7, .int (nI z2), .int sp, .int th])), (m1, .inl (cI, 14, .inl Bd)), (m2, .inl (cI, 14, .inl Hd)), (m3, .inl (cI, 14, .inl Wt)), (m4, .inl (cZ, 14, .inl Fx)), (m5, .inl (cZ, 16384, .inl Gv)), (m6, .inl (cI, 4000, .inl S1)), (m7, .inl (cI, 4000, .inl S2))] s.heap.size = A at hD hE ⊢
  have hA : ∀ q : Nat, s.heap.size ≤ q → A q := fun q h => by rw [← hAe]; exact Or.inr h
  have hS : va_S A s.heap s.heap [] := va_S.rf
  obtain ⟨hn, hg, hok0, hF⟩ := id hc
  have hok : ∀ a, a < n → uI_ (Hd a) < 24 := fun a ha => (hok0 a ha).2
  have hlen := CL_len hn Bd Hd g
  have hl := lv_entry ([.ref qy, .int x]) (n := 3) (Nat.le_of_ble_eq_true rfl)
  rw [lg_entry_eq]
  generalize (lg_sl ([.ref qy, .int x]) ++ List.replicate (3 - (lg_sl ([.ref qy, .int x])).length) Slot.unset).toArray = ls at hl ⊢
  have hl : lv_has ls 3 [(0, .ref qy), (1, .int x)] := hl
  refine lv_aload_n hx hb dX4_within_0 rfl (lv_at hl 0 rfl) ?_
  refine lv_iconst (v := 0) hx hb dX4_within_1 (by decide +kernel) ?_
  refine va_put (D := D) (ci := 5) (v := .int 0) (ty := .int) (C := RX4) (T := TX4) (N := 14) hx hb hts iX4 tyX4 tyX4_ok nmX4 hown hK hP hD hS 0 rfl rfl 13 (by decide) (hts (.fieldLink RX4 32 "LeastSetsModel" "thrown" "I") (by decide +kernel)) (fun _ h9 => h9) rfl (by decide +kernel) rfl rfl (Nat.le_of_ble_eq_true rfl) dX4_within_2 (fun H locs hP hD hS => ?_)
  have hP : va_P D vwCl [(qy, .inr (5, [.ref m1, .ref m2, .ref m3, .ref m4, .int (nI n), .int (nI g), .int kn, .ref m5, .ref m6, .int (nI z1), .ref m7, .int (nI z2), .int sp, .int 0])), (m1, .inl (cI, 14, .inl Bd)), (m2, .inl (cI, 14, .inl Hd)), (m3, .inl (cI, 14, .inl Wt)), (m4, .inl (cZ, 14, .inl Fx)), (m5, .inl (cZ, 16384, .inl Gv)), (m6, .inl (cI, 4000, .inl S1)), (m7, .inl (cI, 4000, .inl S2))] H := hP
  have hD : va_D A [(qy, .inr (5, [.ref m1, .ref m2, .ref m3, .ref m4, .int (nI n), .int (nI g), .int kn, .ref m5, .ref m6, .int (nI z1), .ref m7, .int (nI z2), .int sp, .int 0])), (m1, .inl (cI, 14, .inl Bd)), (m2, .inl (cI, 14, .inl Hd)), (m3, .inl (cI, 14, .inl Wt)), (m4, .inl (cZ, 14, .inl Fx)), (m5, .inl (cZ, 16384, .inl Gv)), (m6, .inl (cI, 4000, .inl S1)), (m7, .inl (cI, 4000, .inl S2))] := hD
  refine lv_aload_n hx hb dX4_within_5 rfl (lv_at hl 0 rfl) ?_
  have hPc := hP.sub (ws' := [(qy, .inr (5, [.ref m1, .ref m2, .ref m3, .ref m4, .int (nI n), .int (nI g), .int kn, .ref m5, .ref m6, .int (nI z1), .ref m7, .int (nI z2), .int sp, .int 0])), (m1, .inl (cI, 14, .inl Bd)), (m2, .inl (cI, 14, .inl Hd)), (m4, .inl (cZ, 14, .inl Fx)), (m5, .inl (cZ, 16384, .inl Gv)), (m6, .inl (cI, 4000, .inl S1)), (m7, .inl (cI, 4000, .inl S2))]) [0, 1, 2, 4, 5, 6, 7] rfl
  have hDc := hD.sub (ws' := [(qy, .inr (5, [.ref m1, .ref m2, .ref m3, .ref m4, .int (nI n), .int (nI g), .int kn, .ref m5, .ref m6, .int (nI z1), .ref m7, .int (nI z2), .int sp, .int 0])), (m1, .inl (cI, 14, .inl Bd)), (m2, .inl (cI, 14, .inl Hd)), (m4, .inl (cZ, 14, .inl Fx)), (m5, .inl (cZ, 16384, .inl Gv)), (m6, .inl (cI, 4000, .inl S1)), (m7, .inl (cI, 4000, .inl S2))]) [0, 1, 2, 4, 5, 6, 7] (by decide) rfl
  have hFc := va_free (wc := [(qy, .inr (5, [.ref m1, .ref m2, .ref m3, .ref m4, .int (nI n), .int (nI g), .int kn, .ref m5, .ref m6, .int (nI z1), .ref m7, .int (nI z2), .int sp, .int 0])), (m1, .inl (cI, 14, .inl Bd)), (m2, .inl (cI, 14, .inl Hd)), (m4, .inl (cZ, 14, .inl Fx)), (m5, .inl (cZ, 16384, .inl Gv)), (m6, .inl (cI, 4000, .inl S1)), (m7, .inl (cI, 4000, .inl S2))]) hD hS hA [0, 1, 2, 4, 5, 6, 7] rfl
  refine va_callv (va_runV (As := []) (rest := []) ⟨hx, hb, hml, hown, hts⟩ (c_X4_find l D cI cZ cJ t1 t2 _ qy m1 m2 m3 m4 m5 m6 m7 n Bd Hd Wt Fx g kn Gv z1 S1 z2 S2 sp 0 hc hi) (cwV 0 hts gX4_within_X4_find rfl rfl rfl (by decide +kernel) ⟨Nat.le_of_ble_eq_true rfl, Nat.le_of_ble_eq_true rfl⟩) ⟨wr_blind, va_recv hK hP (ci := 5) (q0 := 0) rfl rfl, wr_pre hPc hDc hK hE hS hFc [0, 1, 2] rfl⟩ rfl rfl hl.1 rfl (lv_room (Nat.le_of_ble_eq_true rfl)) dX4_within_6 ⟨Nat.le_of_ble_eq_true rfl, Nat.le_of_ble_eq_true rfl⟩) hS (fun q _ h => hFc q h) hFc (fun u_6 t H locs ht hvm hw_6 hB hz1 hk1 hS => ?_)
  obtain ⟨hP1, hK1, hD1⟩ := hB
  rw [ht] at hP1
  obtain ⟨hP, hD⟩ := va_join (wr := [(m3, .inl (cI, 14, .inl Wt))]) (w1 := [(qy, .inr (5, [.ref m1, .ref m2, .ref m3, .ref m4, .int (nI n), .int (nI g), .int 1, .ref m5, .ref m6, .int (nI ((CL_ n Bd Hd g).length)), .ref m7, .int (nI ((QL_ n Bd Hd Fx g).length)), .int u_6.2.2.2, .int 0])), (m1, .inl (cI, 14, .inl Bd)), (m2, .inl (cI, 14, .inl Hd)), (m4, .inl (cZ, 14, .inl Fx)), (m5, .inl (cZ, 16384, .inl u_6.1)), (m6, .inl (cI, 4000, .inl u_6.2.1)), (m7, .inl (cI, 4000, .inl u_6.2.2.1))]) hP hD [0, 1, 2, 4, 5, 6, 7] [3] rfl rfl (by decide) (by decide) hk1 hFc hP1 hD1
  have hP : va_P D vwCl [(qy, .inr (5, [.ref m1, .ref m2, .ref m3, .ref m4, .int (nI n), .int (nI g), .int 1, .ref m5, .ref m6, .int (nI ((CL_ n Bd Hd g).length)), .ref m7, .int (nI ((QL_ n Bd Hd Fx g).length)), .int u_6.2.2.2, .int 0])), (m1, .inl (cI, 14, .inl Bd)), (m2, .inl (cI, 14, .inl Hd)), (m3, .inl (cI, 14, .inl Wt)), (m4, .inl (cZ, 14, .inl Fx)), (m5, .inl (cZ, 16384, .inl u_6.1)), (m6, .inl (cI, 4000, .inl u_6.2.1)), (m7, .inl (cI, 4000, .inl u_6.2.2.1))] H := hP.sub [1, 2, 3, 0, 4, 5, 6, 7] rfl
  have hD : va_D A [(qy, .inr (5, [.ref m1, .ref m2, .ref m3, .ref m4, .int (nI n), .int (nI g), .int 1, .ref m5, .ref m6, .int (nI ((CL_ n Bd Hd g).length)), .ref m7, .int (nI ((QL_ n Bd Hd Fx g).length)), .int u_6.2.2.2, .int 0])), (m1, .inl (cI, 14, .inl Bd)), (m2, .inl (cI, 14, .inl Hd)), (m3, .inl (cI, 14, .inl Wt)), (m4, .inl (cZ, 14, .inl Fx)), (m5, .inl (cZ, 16384, .inl u_6.1)), (m6, .inl (cI, 4000, .inl u_6.2.1)), (m7, .inl (cI, 4000, .inl u_6.2.2.1))] := hD.sub [1, 2, 3, 0, 4, 5, 6, 7] (by decide) rfl
  clear hPc hDc hFc hP1 hK1 hD1 hk1 hz1
  refine lv_iconst (v := (nI 0)) hx hb dX4_within_9 (by decide +kernel) ?_
  refine lv_istore_n (lv' := [(2, .int (nI 0)), (0, .ref qy), (1, .int x)]) hx hb dX4_within_10 rfl hl (by decide) rfl (fun ls hl => ?_)
  have loop : ∀ (d : Nat) (k : Nat) (H : Heap) (locs : List Loc) (ls : Array Slot), (CL_ n Bd Hd g).length < k + d → k ≤ (CL_ n Bd Hd g).length → (∀ j, j < k → ¬ ln_ (CL_ n Bd Hd g) j &&& (x ^^^ (-1)) = 0) → va_P D vwCl [(qy, .inr (5, [.ref m1, .ref m2, .ref m3, .ref m4, .int (nI n), .int (nI g), .int 1, .ref m5, .ref m6, .int (nI ((CL_ n Bd Hd g).length)), .ref m7, .int (nI ((QL_ n Bd Hd Fx g).length)), .int u_6.2.2.2, .int 0])), (m1, .inl (cI, 14, .inl Bd)), (m2, .inl (cI, 14, .inl Hd)), (m3, .inl (cI, 14, .inl Wt)), (m4, .inl (cZ, 14, .inl Fx)), (m5, .inl (cZ, 16384, .inl u_6.1)), (m6, .inl (cI, 4000, .inl u_6.2.1)), (m7, .inl (cI, 4000, .inl u_6.2.2.1))] H → va_D A [(qy, .inr (5, [.ref m1, .ref m2, .ref m3, .ref m4, .int (nI n), .int (nI g), .int 1, .ref m5, .ref m6, .int (nI ((CL_ n Bd Hd g).length)), .ref m7, .int (nI ((QL_ n Bd Hd Fx g).length)), .int u_6.2.2.2, .int 0])), (m1, .inl (cI, 14, .inl Bd)), (m2, .inl (cI, 14, .inl Hd)), (m3, .inl (cI, 14, .inl Wt)), (m4, .inl (cZ, 14, .inl Fx)), (m5, .inl (cZ, 16384, .inl u_6.1)), (m6, .inl (cI, 4000, .inl u_6.2.1)), (m7, .inl (cI, 4000, .inl u_6.2.2.1))] → va_S A s.heap H locs → lv_has ls 3 [(2, .int (nI k)), (0, .ref qy), (1, .int x)] → W p l e (headSpec wsX4_within ({ frames := 2, cells := 0, slots := 0, locals := 49 } : Room)).room s m ([.ref qy, .int x] : List Value).toArray below meth c H locs 0 0 (MQ below (va_Qi (S := Co_ × Jm_) (fun r u => u.1 = (n, Bd, Hd, Wt, Fx, g) ∧ q_within (n, Bd, Hd, Wt, Fx, g) x r ∧ cok_ u.1 ∧ im_ u.1 u.2) (fun u => wd_ D [(cI, .int), (cZ, .boolean), (cJ, .long)] A [(qy, .inr (5, [.ref m1, .ref m2, .ref m3, .ref m4, .int (nI u.1.1), .int (nI u.1.2.2.2.2.2), .int u.2.1, .ref m5, .ref m6, .int (nI u.2.2.2.1), .ref m7, .int (nI u.2.2.2.2.2.1), .int u.2.2.2.2.2.2.2.1, .int u.2.2.2.2.2.2.2.2])), (m1, .inl (cI, 14, .inl u.1.2.1)), (m2, .inl (cI, 14, .inl u.1.2.2.1)), (m3, .inl (cI, 14, .inl u.1.2.2.2.1)), (m4, .inl (cZ, 14, .inl u.1.2.2.2.2.1)), (m5, .inl (cZ, 16384, .inl u.2.2.1)), (m6, .inl (cI, 4000, .inl u.2.2.2.2.1)), (m7, .inl (cI, 4000, .inl u.2.2.2.2.2.2.1))]) A) ([.ref qy, .int x] : List Value).toArray s 0 0 A) (F0 m 11 ls []) := by
    intro d
    induction d with
    | zero => intro k H locs ls h1 h2; omega
    | succ d ih =>
      intro k H locs ls h1 h2 hy hP hD hS hl
      refine lv_iload_n hx hb dX4_within_11 rfl (lv_at hl 0 rfl) ?_
      refine lv_aload_n hx hb dX4_within_12 rfl (lv_at hl 1 rfl) ?_
      refine va_get (D := D) (ci := 5) (v := .int (nI ((CL_ n Bd Hd g).length))) (C := RX4) (T := TX4) (N := 14) hx hb hts iX4 hown hK hP 0 rfl rfl 9 (by decide) (hts (.fieldLink RX4 58 "LeastSetsModel" "causeCount" "I") (by decide +kernel)) (fun _ h9 => h9) rfl dX4_within_13 ?_
      refine r_ige hx hb (tgt := 49) (by omega) (by omega) dX4_within_16 (by decide) (fun c_16 => ?_) (fun c_16 => ?_)
      · refine lv_bipush (v := (-2)) hx hb dX4_within_49 (by decide +kernel) ?_
        exact W.iret (v := (-2)) hx hb hr (fun t ht hW => ⟨⟨(-2), ((n, Bd, Hd, Wt, Fx, g), (1, u_6.1, (CL_ n Bd Hd g).length, u_6.2.1, (QL_ n Bd Hd Fx g).length, u_6.2.2.1, u_6.2.2.2, 0)), rfl, ⟨rfl, (by first | exact Or.inl ⟨k, c_16, ln_sx hw_6.1 c_16, (by rw [← ln_sx hw_6.1 c_16]; exact (b_sub0 _ _).mpr ((b_subE _ _).mp c_33)), hy⟩ | exact Or.inr ⟨rfl, fun j hj => hy j (by omega)⟩), hc, ⟨Or.inr rfl, fun _ => ⟨rfl, hw_6.1, rfl, hw_6.2⟩⟩⟩, by rw [ht]; exact hP, va_K.moved hW.alike hK, hD⟩, hS.F ht⟩) hS.2.2 dX4_within_51
      · refine lv_aload_n hx hb dX4_within_19 rfl (lv_at hl 1 rfl) ?_
        refine va_get (D := D) (ci := 5) (v := .ref m6) (C := RX4) (T := TX4) (N := 14) hx hb hts iX4 hown hK hP 0 rfl rfl 8 (by decide) (hts (.fieldLink RX4 26 "LeastSetsModel" "causes" "[I") (by decide +kernel)) (fun _ h9 => h9) rfl dX4_within_20 ?_
        refine lv_iload_n hx hb dX4_within_23 rfl (lv_at hl 0 rfl) ?_
        refine r_iald hx hb hK hP 6 0 rfl rfl k (by omega) (by omega) dX4_within_24 ?_
        refine lv_iload_n hx hb dX4_within_25 rfl (lv_at hl 2 rfl) ?_
        refine lv_iand hx hb dX4_within_26 ?_
        refine lv_aload_n hx hb dX4_within_27 rfl (lv_at hl 1 rfl) ?_
        refine va_get (D := D) (ci := 5) (v := .ref m6) (C := RX4) (T := TX4) (N := 14) hx hb hts iX4 hown hK hP 0 rfl rfl 8 (by decide) (hts (.fieldLink RX4 26 "LeastSetsModel" "causes" "[I") (by decide +kernel)) (fun _ h9 => h9) rfl dX4_within_28 ?_
        refine lv_iload_n hx hb dX4_within_31 rfl (lv_at hl 0 rfl) ?_
        refine r_iald hx hb hK hP 6 0 rfl rfl k (by omega) (by omega) dX4_within_32 ?_
        refine lv_icmp_ne (tgt := 43) hx hb dX4_within_33 (by decide) (fun c_33 => ?_) (fun c_33 => ?_)
        · refine lv_iinc (v := (nI (k + 1))) (lv' := [(2, .int (nI (k + 1))), (0, .ref qy), (1, .int x)]) hx hb dX4_within_43 hl (k := 0) rfl (nI_inc _) (by decide) rfl (fun ls hl => ?_)
          refine lv_goto (tgt := 11) hx hb dX4_within_46 (by decide) ?_
          exact ih (k + 1) H locs ls (by omega) (by omega) (lt_s hy (fun q => c_33 (by rw [ln_sx hw_6.1 c_16]; exact (b_subE _ _).mpr ((b_sub0 _ _).mp q)))) hP hD hS (lv_sub hl [0, 1, 2] rfl)
        · refine lv_aload_n hx hb dX4_within_36 rfl (lv_at hl 1 rfl) ?_
          refine va_get (D := D) (ci := 5) (v := .ref m6) (C := RX4) (T := TX4) (N := 14) hx hb hts iX4 hown hK hP 0 rfl rfl 8 (by decide) (hts (.fieldLink RX4 26 "LeastSetsModel" "causes" "[I") (by decide +kernel)) (fun _ h9 => h9) rfl dX4_within_37 ?_
          refine lv_iload_n hx hb dX4_within_40 rfl (lv_at hl 0 rfl) ?_
          refine r_iald hx hb hK hP 6 0 rfl rfl k (by omega) (by omega) dX4_within_41 ?_
          exact W.iret (v := (u_6.2.1 k)) hx hb hr (fun t ht hW => ⟨⟨(u_6.2.1 k), ((n, Bd, Hd, Wt, Fx, g), (1, u_6.1, (CL_ n Bd Hd g).length, u_6.2.1, (QL_ n Bd Hd Fx g).length, u_6.2.2.1, u_6.2.2.2, 0)), rfl, ⟨rfl, (by first | exact Or.inl ⟨k, c_16, ln_sx hw_6.1 c_16, (by rw [← ln_sx hw_6.1 c_16]; exact (b_sub0 _ _).mpr ((b_subE _ _).mp c_33)), hy⟩ | exact Or.inr ⟨rfl, fun j hj => hy j (by omega)⟩), hc, ⟨Or.inr rfl, fun _ => ⟨rfl, hw_6.1, rfl, hw_6.2⟩⟩⟩, by rw [ht]; exact hP, va_K.moved hW.alike hK, hD⟩, hS.F ht⟩) hS.2.2 dX4_within_42
  exact loop ((CL_ n Bd Hd g).length + 1) 0 H locs ls (by omega) (Nat.zero_le _) lt_0 hP hD hS (lv_sub hl [0, 1, 2] rfl)
set_option maxHeartbeats 4000000 in
set_option maxRecDepth 100000 in
/-- common() -/
theorem c_X4_common (l : Launch) (D : va_G) (cI cZ cJ : ClassId) (t1 t2 sz : Nat) (qy m1 m2 m3 m4 m5 m6 m7 : Nat) (n : Nat) (Bd Hd Wt Fx : Nat → Int32) (g : Nat) (kn : Int32) (Gv : Nat → Int32) (z1 : Nat) (S1 : Nat → Int32) (z2 : Nat) (S2 : Nat → Int32) (sp th : Int32) (hc : CO_ n Bd Hd Fx g) (hi : IM_ n Bd Hd Fx g kn z1 S1 z2 S2) : Met l yX4_common wsX4_common ({ frames := 2, cells := 0, slots := 0, locals := 49 } : Room) (va_Pc [.ref qy] (wr_ D [(cI, .int), (cZ, .boolean), (cJ, .long)] [(qy, .inr (5, [.ref m1, .ref m2, .ref m3, .ref m4, .int (nI n), .int (nI g), .int kn, .ref m5, .ref m6, .int (nI z1), .ref m7, .int (nI z2), .int sp, .int th])), (m1, .inl (cI, 14, .inl Bd)), (m2, .inl (cI, 14, .inl Hd)), (m3, .inl (cI, 14, .inl Wt)), (m4, .inl (cZ, 14, .inl Fx)), (m5, .inl (cZ, 16384, .inl Gv)), (m6, .inl (cI, 4000, .inl S1)), (m7, .inl (cI, 4000, .inl S2))] t1 t2 sz)) (va_Qi (S := Co_ × Jm_) (fun r u => u.1 = (n, Bd, Hd, Wt, Fx, g) ∧ q_common (n, Bd, Hd, Wt, Fx, g) r ∧ cok_ u.1 ∧ im_ u.1 u.2) (fun u => wd_ D [(cI, .int), (cZ, .boolean), (cJ, .long)] (va_A [(qy, .inr (5, [.ref m1, .ref m2, .ref m3, .ref m4, .int (nI n), .int (nI g), .int kn, .ref m5, .ref m6, .int (nI z1), .ref m7, .int (nI z2), .int sp, .int th])), (m1, .inl (cI, 14, .inl Bd)), (m2, .inl (cI, 14, .inl Hd)), (m3, .inl (cI, 14, .inl Wt)), (m4, .inl (cZ, 14, .inl Fx)), (m5, .inl (cZ, 16384, .inl Gv)), (m6, .inl (cI, 4000, .inl S1)), (m7, .inl (cI, 4000, .inl S2))] sz) [(qy, .inr (5, [.ref m1, .ref m2, .ref m3, .ref m4, .int (nI u.1.1), .int (nI u.1.2.2.2.2.2), .int u.2.1, .ref m5, .ref m6, .int (nI u.2.2.2.1), .ref m7, .int (nI u.2.2.2.2.2.1), .int u.2.2.2.2.2.2.2.1, .int u.2.2.2.2.2.2.2.2])), (m1, .inl (cI, 14, .inl u.1.2.1)), (m2, .inl (cI, 14, .inl u.1.2.2.1)), (m3, .inl (cI, 14, .inl u.1.2.2.2.1)), (m4, .inl (cZ, 14, .inl u.1.2.2.2.2.1)), (m5, .inl (cZ, 16384, .inl u.2.2.1)), (m6, .inl (cI, 4000, .inl u.2.2.2.2.1)), (m7, .inl (cI, 4000, .inl u.2.2.2.2.2.2.1))]) (va_A [(qy, .inr (5, [.ref m1, .ref m2, .ref m3, .ref m4, .int (nI n), .int (nI g), .int kn, .ref m5, .ref m6, .int (nI z1), .ref m7, .int (nI z2), .int sp, .int th])), (m1, .inl (cI, 14, .inl Bd)), (m2, .inl (cI, 14, .inl Hd)), (m3, .inl (cI, 14, .inl Wt)), (m4, .inl (cZ, 14, .inl Fx)), (m5, .inl (cZ, 16384, .inl Gv)), (m6, .inl (cI, 4000, .inl S1)), (m7, .inl (cI, 4000, .inl S2))] sz)) 0 0 (va_A [(qy, .inr (5, [.ref m1, .ref m2, .ref m3, .ref m4, .int (nI n), .int (nI g), .int kn, .ref m5, .ref m6, .int (nI z1), .ref m7, .int (nI z2), .int sp, .int th])), (m1, .inl (cI, 14, .inl Bd)), (m2, .inl (cI, 14, .inl Hd)), (m3, .inl (cI, 14, .inl Wt)), (m4, .inl (cZ, 14, .inl Fx)), (m5, .inl (cZ, 16384, .inl Gv)), (m6, .inl (cI, 4000, .inl S1)), (m7, .inl (cI, 4000, .inl S2))] sz) := by
  refine Met.ofW (cc := cX4_common) (maxL := 3) (ret := (some .int)) (by decide) rfl ?_
  intro p e s m args below meth c s₁ B hml hv
  obtain ⟨rfl, hsz, hP, hK, hD0, hE⟩ := hv
  have hx := B.exec
  have hb := B.bytes
  have hr := B.returns
  have hts := atoms_spec (ws := wsX4_common) B.pre
  have hown : s.vm.findClass RX4 = some m.cls := findClass_of_methodNamed B.named
  have hlocks := B.notSynchronized
  have iX4 : ∀ w ∈ u_ws RX4 TX4 14, w ∈ wsX4_common := by decide +kernel
  subst hsz
  have hD := hD0.self (sz := s.heap.size)
  generalize hAe : va_A [(qy, .inr (5, [.ref m1, .ref m2, .ref m3, .ref m4, .int (nI n), .int (nI g), .int kn, .ref m5, .ref m6, .int (nI z1), .ref m7, .int (nI z2), .int sp, .int th])), (m1, .inl (cI, 14, .inl Bd)), (m2, .inl (cI, 14, .inl Hd)), (m3, .inl (cI, 14, .inl Wt)), (m4, .inl (cZ, 14, .inl Fx)), (m5, .inl (cZ, 16384, .inl Gv)), (m6, .inl (cI, 4000, .inl S1)), (m7, .inl (cI, 4000, .inl S2))] s.heap.size = A at hD hE ⊢
  have hA : ∀ q : Nat, s.heap.size ≤ q → A q := fun q h => by rw [← hAe]; exact Or.inr h
  have hS : va_S A s.heap s.heap [] := va_S.rf
  obtain ⟨hn, hg, hok0, hF⟩ := id hc
  have hok : ∀ a, a < n → uI_ (Hd a) < 24 := fun a ha => (hok0 a ha).2
  have hlen := CL_len hn Bd Hd g
  have hl := lv_entry ([.ref qy]) (n := 3) (Nat.le_of_ble_eq_true rfl)
  rw [lg_entry_eq]
  generalize (lg_sl ([.ref qy]) ++ List.replicate (3 - (lg_sl ([.ref qy])).length) Slot.unset).toArray = ls at hl ⊢
  have hl : lv_has ls 3 [(0, .ref qy)] := hl
  refine lv_aload_n hx hb dX4_common_0 rfl (lv_at hl 0 rfl) ?_
  refine lv_iconst (v := 0) hx hb dX4_common_1 (by decide +kernel) ?_
  refine va_put (D := D) (ci := 5) (v := .int 0) (ty := .int) (C := RX4) (T := TX4) (N := 14) hx hb hts iX4 tyX4 tyX4_ok nmX4 hown hK hP hD hS 0 rfl rfl 13 (by decide) (hts (.fieldLink RX4 32 "LeastSetsModel" "thrown" "I") (by decide +kernel)) (fun _ h9 => h9) rfl (by decide +kernel) rfl rfl (Nat.le_of_ble_eq_true rfl) dX4_common_2 (fun H locs hP hD hS => ?_)
  have hP : va_P D vwCl [(qy, .inr (5, [.ref m1, .ref m2, .ref m3, .ref m4, .int (nI n), .int (nI g), .int kn, .ref m5, .ref m6, .int (nI z1), .ref m7, .int (nI z2), .int sp, .int 0])), (m1, .inl (cI, 14, .inl Bd)), (m2, .inl (cI, 14, .inl Hd)), (m3, .inl (cI, 14, .inl Wt)), (m4, .inl (cZ, 14, .inl Fx)), (m5, .inl (cZ, 16384, .inl Gv)), (m6, .inl (cI, 4000, .inl S1)), (m7, .inl (cI, 4000, .inl S2))] H := hP
  have hD : va_D A [(qy, .inr (5, [.ref m1, .ref m2, .ref m3, .ref m4, .int (nI n), .int (nI g), .int kn, .ref m5, .ref m6, .int (nI z1), .ref m7, .int (nI z2), .int sp, .int 0])), (m1, .inl (cI, 14, .inl Bd)), (m2, .inl (cI, 14, .inl Hd)), (m3, .inl (cI, 14, .inl Wt)), (m4, .inl (cZ, 14, .inl Fx)), (m5, .inl (cZ, 16384, .inl Gv)), (m6, .inl (cI, 4000, .inl S1)), (m7, .inl (cI, 4000, .inl S2))] := hD
  refine lv_aload_n hx hb dX4_common_5 rfl (lv_at hl 0 rfl) ?_
  have hPc := hP.sub (ws' := [(qy, .inr (5, [.ref m1, .ref m2, .ref m3, .ref m4, .int (nI n), .int (nI g), .int kn, .ref m5, .ref m6, .int (nI z1), .ref m7, .int (nI z2), .int sp, .int 0])), (m1, .inl (cI, 14, .inl Bd)), (m2, .inl (cI, 14, .inl Hd)), (m4, .inl (cZ, 14, .inl Fx)), (m5, .inl (cZ, 16384, .inl Gv)), (m6, .inl (cI, 4000, .inl S1)), (m7, .inl (cI, 4000, .inl S2))]) [0, 1, 2, 4, 5, 6, 7] rfl
  have hDc := hD.sub (ws' := [(qy, .inr (5, [.ref m1, .ref m2, .ref m3, .ref m4, .int (nI n), .int (nI g), .int kn, .ref m5, .ref m6, .int (nI z1), .ref m7, .int (nI z2), .int sp, .int 0])), (m1, .inl (cI, 14, .inl Bd)), (m2, .inl (cI, 14, .inl Hd)), (m4, .inl (cZ, 14, .inl Fx)), (m5, .inl (cZ, 16384, .inl Gv)), (m6, .inl (cI, 4000, .inl S1)), (m7, .inl (cI, 4000, .inl S2))]) [0, 1, 2, 4, 5, 6, 7] (by decide) rfl
  have hFc := va_free (wc := [(qy, .inr (5, [.ref m1, .ref m2, .ref m3, .ref m4, .int (nI n), .int (nI g), .int kn, .ref m5, .ref m6, .int (nI z1), .ref m7, .int (nI z2), .int sp, .int 0])), (m1, .inl (cI, 14, .inl Bd)), (m2, .inl (cI, 14, .inl Hd)), (m4, .inl (cZ, 14, .inl Fx)), (m5, .inl (cZ, 16384, .inl Gv)), (m6, .inl (cI, 4000, .inl S1)), (m7, .inl (cI, 4000, .inl S2))]) hD hS hA [0, 1, 2, 4, 5, 6, 7] rfl
  refine va_callv (va_runV (As := []) (rest := []) ⟨hx, hb, hml, hown, hts⟩ (c_X4_find l D cI cZ cJ t1 t2 _ qy m1 m2 m3 m4 m5 m6 m7 n Bd Hd Wt Fx g kn Gv z1 S1 z2 S2 sp 0 hc hi) (cwV 0 hts gX4_common_X4_find rfl rfl rfl (by decide +kernel) ⟨Nat.le_of_ble_eq_true rfl, Nat.le_of_ble_eq_true rfl⟩) ⟨wr_blind, va_recv hK hP (ci := 5) (q0 := 0) rfl rfl, wr_pre hPc hDc hK hE hS hFc [0, 1, 2] rfl⟩ rfl rfl hl.1 rfl (lv_room (Nat.le_of_ble_eq_true rfl)) dX4_common_6 ⟨Nat.le_of_ble_eq_true rfl, Nat.le_of_ble_eq_true rfl⟩) hS (fun q _ h => hFc q h) hFc (fun u_6 t H locs ht hvm hw_6 hB hz1 hk1 hS => ?_)
  obtain ⟨hP1, hK1, hD1⟩ := hB
  rw [ht] at hP1
  obtain ⟨hP, hD⟩ := va_join (wr := [(m3, .inl (cI, 14, .inl Wt))]) (w1 := [(qy, .inr (5, [.ref m1, .ref m2, .ref m3, .ref m4, .int (nI n), .int (nI g), .int 1, .ref m5, .ref m6, .int (nI ((CL_ n Bd Hd g).length)), .ref m7, .int (nI ((QL_ n Bd Hd Fx g).length)), .int u_6.2.2.2, .int 0])), (m1, .inl (cI, 14, .inl Bd)), (m2, .inl (cI, 14, .inl Hd)), (m4, .inl (cZ, 14, .inl Fx)), (m5, .inl (cZ, 16384, .inl u_6.1)), (m6, .inl (cI, 4000, .inl u_6.2.1)), (m7, .inl (cI, 4000, .inl u_6.2.2.1))]) hP hD [0, 1, 2, 4, 5, 6, 7] [3] rfl rfl (by decide) (by decide) hk1 hFc hP1 hD1
  have hP : va_P D vwCl [(qy, .inr (5, [.ref m1, .ref m2, .ref m3, .ref m4, .int (nI n), .int (nI g), .int 1, .ref m5, .ref m6, .int (nI ((CL_ n Bd Hd g).length)), .ref m7, .int (nI ((QL_ n Bd Hd Fx g).length)), .int u_6.2.2.2, .int 0])), (m1, .inl (cI, 14, .inl Bd)), (m2, .inl (cI, 14, .inl Hd)), (m3, .inl (cI, 14, .inl Wt)), (m4, .inl (cZ, 14, .inl Fx)), (m5, .inl (cZ, 16384, .inl u_6.1)), (m6, .inl (cI, 4000, .inl u_6.2.1)), (m7, .inl (cI, 4000, .inl u_6.2.2.1))] H := hP.sub [1, 2, 3, 0, 4, 5, 6, 7] rfl
  have hD : va_D A [(qy, .inr (5, [.ref m1, .ref m2, .ref m3, .ref m4, .int (nI n), .int (nI g), .int 1, .ref m5, .ref m6, .int (nI ((CL_ n Bd Hd g).length)), .ref m7, .int (nI ((QL_ n Bd Hd Fx g).length)), .int u_6.2.2.2, .int 0])), (m1, .inl (cI, 14, .inl Bd)), (m2, .inl (cI, 14, .inl Hd)), (m3, .inl (cI, 14, .inl Wt)), (m4, .inl (cZ, 14, .inl Fx)), (m5, .inl (cZ, 16384, .inl u_6.1)), (m6, .inl (cI, 4000, .inl u_6.2.1)), (m7, .inl (cI, 4000, .inl u_6.2.2.1))] := hD.sub [1, 2, 3, 0, 4, 5, 6, 7] (by decide) rfl
  clear hPc hDc hFc hP1 hK1 hD1 hk1 hz1
  refine lv_aload_n hx hb dX4_common_9 rfl (lv_at hl 0 rfl) ?_
  refine va_get (D := D) (ci := 5) (v := .int (nI ((CL_ n Bd Hd g).length))) (C := RX4) (T := TX4) (N := 14) hx hb hts iX4 hown hK hP 0 rfl rfl 9 (by decide) (hts (.fieldLink RX4 58 "LeastSetsModel" "causeCount" "I") (by decide +kernel)) (fun _ h9 => h9) rfl dX4_common_10 ?_
  refine lv_if_ne (tgt := 19) hx hb dX4_common_13 (by decide) (fun c_13 => ?_) (fun c_13 => ?_)
  · refine lv_iconst (v := (-1)) hx hb dX4_common_19 (by decide +kernel) ?_
    refine lv_istore_n (lv' := [(1, .int (-1)), (0, .ref qy)]) hx hb dX4_common_20 rfl hl (by decide) rfl (fun ls hl => ?_)
    refine lv_iconst (v := (nI 0)) hx hb dX4_common_21 (by decide +kernel) ?_
    refine lv_istore_n (lv' := [(2, .int (nI 0)), (1, .int (-1)), (0, .ref qy)]) hx hb dX4_common_22 rfl hl (by decide) rfl (fun ls hl => ?_)
    have hz0 : ¬ (CL_ n Bd Hd g).length = 0 := fun q => c_13 (by rw [q]; rfl)
    have loop : ∀ (d : Nat) (k : Nat) (y : Int32) (H : Heap) (locs : List Loc) (ls : Array Slot), (CL_ n Bd Hd g).length < k + d → k ≤ (CL_ n Bd Hd g).length → y = sa_ (ln_ (CL_ n Bd Hd g)) k → va_P D vwCl [(qy, .inr (5, [.ref m1, .ref m2, .ref m3, .ref m4, .int (nI n), .int (nI g), .int 1, .ref m5, .ref m6, .int (nI ((CL_ n Bd Hd g).length)), .ref m7, .int (nI ((QL_ n Bd Hd Fx g).length)), .int u_6.2.2.2, .int 0])), (m1, .inl (cI, 14, .inl Bd)), (m2, .inl (cI, 14, .inl Hd)), (m3, .inl (cI, 14, .inl Wt)), (m4, .inl (cZ, 14, .inl Fx)), (m5, .inl (cZ, 16384, .inl u_6.1)), (m6, .inl (cI, 4000, .inl u_6.2.1)), (m7, .inl (cI, 4000, .inl u_6.2.2.1))] H → va_D A [(qy, .inr (5, [.ref m1, .ref m2, .ref m3, .ref m4, .int (nI n), .int (nI g), .int 1, .ref m5, .ref m6, .int (nI ((CL_ n Bd Hd g).length)), .ref m7, .int (nI ((QL_ n Bd Hd Fx g).length)), .int u_6.2.2.2, .int 0])), (m1, .inl (cI, 14, .inl Bd)), (m2, .inl (cI, 14, .inl Hd)), (m3, .inl (cI, 14, .inl Wt)), (m4, .inl (cZ, 14, .inl Fx)), (m5, .inl (cZ, 16384, .inl u_6.1)), (m6, .inl (cI, 4000, .inl u_6.2.1)), (m7, .inl (cI, 4000, .inl u_6.2.2.1))] → va_S A s.heap H locs → lv_has ls 3 [(2, .int (nI k)), (1, .int y), (0, .ref qy)] → W p l e (headSpec wsX4_common ({ frames := 2, cells := 0, slots := 0, locals := 49 } : Room)).room s m ([.ref qy] : List Value).toArray below meth c H locs 0 0 (MQ below (va_Qi (S := Co_ × Jm_) (fun r u => u.1 = (n, Bd, Hd, Wt, Fx, g) ∧ q_common (n, Bd, Hd, Wt, Fx, g) r ∧ cok_ u.1 ∧ im_ u.1 u.2) (fun u => wd_ D [(cI, .int), (cZ, .boolean), (cJ, .long)] A [(qy, .inr (5, [.ref m1, .ref m2, .ref m3, .ref m4, .int (nI u.1.1), .int (nI u.1.2.2.2.2.2), .int u.2.1, .ref m5, .ref m6, .int (nI u.2.2.2.1), .ref m7, .int (nI u.2.2.2.2.2.1), .int u.2.2.2.2.2.2.2.1, .int u.2.2.2.2.2.2.2.2])), (m1, .inl (cI, 14, .inl u.1.2.1)), (m2, .inl (cI, 14, .inl u.1.2.2.1)), (m3, .inl (cI, 14, .inl u.1.2.2.2.1)), (m4, .inl (cZ, 14, .inl u.1.2.2.2.2.1)), (m5, .inl (cZ, 16384, .inl u.2.2.1)), (m6, .inl (cI, 4000, .inl u.2.2.2.2.1)), (m7, .inl (cI, 4000, .inl u.2.2.2.2.2.2.1))]) A) ([.ref qy] : List Value).toArray s 0 0 A) (F0 m 23 ls []) := by
      intro d
      induction d with
      | zero => intro k y H locs ls h1 h2; omega
      | succ d ih =>
        intro k y H locs ls h1 h2 hy hP hD hS hl
        refine lv_iload_n hx hb dX4_common_23 rfl (lv_at hl 0 rfl) ?_
        refine lv_aload_n hx hb dX4_common_24 rfl (lv_at hl 2 rfl) ?_
        refine va_get (D := D) (ci := 5) (v := .int (nI ((CL_ n Bd Hd g).length))) (C := RX4) (T := TX4) (N := 14) hx hb hts iX4 hown hK hP 0 rfl rfl 9 (by decide) (hts (.fieldLink RX4 58 "LeastSetsModel" "causeCount" "I") (by decide +kernel)) (fun _ h9 => h9) rfl dX4_common_25 ?_
        refine r_ige hx hb (tgt := 46) (by omega) (by omega) dX4_common_28 (by decide) (fun c_28 => ?_) (fun c_28 => ?_)
        · refine lv_iload_n hx hb dX4_common_46 rfl (lv_at hl 1 rfl) ?_
          exact W.iret (v := y) hx hb hr (fun t ht hW => ⟨⟨y, ((n, Bd, Hd, Wt, Fx, g), (1, u_6.1, (CL_ n Bd Hd g).length, u_6.2.1, (QL_ n Bd Hd Fx g).length, u_6.2.2.1, u_6.2.2.2, 0)), rfl, ⟨rfl, ((by rw [hy, show k = (CL_ n Bd Hd g).length by omega]) : y = sa_ (ln_ (CL_ n Bd Hd g)) (CL_ n Bd Hd g).length).trans (if_neg hz0).symm, hc, ⟨Or.inr rfl, fun _ => ⟨rfl, hw_6.1, rfl, hw_6.2⟩⟩⟩, by rw [ht]; exact hP, va_K.moved hW.alike hK, hD⟩, hS.F ht⟩) hS.2.2 dX4_common_47
        · refine lv_iload_n hx hb dX4_common_31 rfl (lv_at hl 1 rfl) ?_
          refine lv_aload_n hx hb dX4_common_32 rfl (lv_at hl 2 rfl) ?_
          refine va_get (D := D) (ci := 5) (v := .ref m6) (C := RX4) (T := TX4) (N := 14) hx hb hts iX4 hown hK hP 0 rfl rfl 8 (by decide) (hts (.fieldLink RX4 26 "LeastSetsModel" "causes" "[I") (by decide +kernel)) (fun _ h9 => h9) rfl dX4_common_33 ?_
          refine lv_iload_n hx hb dX4_common_36 rfl (lv_at hl 0 rfl) ?_
          refine r_iald hx hb hK hP 6 0 rfl rfl k (by omega) (by omega) dX4_common_37 ?_
          refine lv_iand hx hb dX4_common_38 ?_
          refine lv_istore_n (lv' := [(1, .int (y &&& (u_6.2.1 k))), (2, .int (nI k)), (0, .ref qy)]) hx hb dX4_common_39 rfl hl (by decide) rfl (fun ls hl => ?_)
          refine lv_iinc (v := (nI (k + 1))) (lv' := [(2, .int (nI (k + 1))), (1, .int (y &&& (u_6.2.1 k))), (0, .ref qy)]) hx hb dX4_common_40 hl (k := 1) rfl (nI_inc _) (by decide) rfl (fun ls hl => ?_)
          refine lv_goto (tgt := 23) hx hb dX4_common_43 (by decide) ?_
          exact ih (k + 1) _ H locs ls (by omega) (by omega) (by rw [hy, ln_sx hw_6.1 c_28]; rfl) hP hD hS (lv_sub hl [0, 1, 2] rfl)
    exact loop ((CL_ n Bd Hd g).length + 1) 0 _ H locs ls (by omega) (Nat.zero_le _) rfl hP hD hS (lv_sub hl [0, 1, 2] rfl)
  · refine lv_bipush (v := (-2)) hx hb dX4_common_16 (by decide +kernel) ?_
    exact W.iret (v := (-2)) hx hb hr (fun t ht hW => ⟨⟨(-2), ((n, Bd, Hd, Wt, Fx, g), (1, u_6.1, (CL_ n Bd Hd g).length, u_6.2.1, (QL_ n Bd Hd Fx g).length, u_6.2.2.1, u_6.2.2.2, 0)), rfl, ⟨rfl, (if_pos ((nI_eq (b := 0) (by omega) (by omega)).mp c_13)).symm, hc, ⟨Or.inr rfl, fun _ => ⟨rfl, hw_6.1, rfl, hw_6.2⟩⟩⟩, by rw [ht]; exact hP, va_K.moved hW.alike hK, hD⟩, hS.F ht⟩) hS.2.2 dX4_common_18
set_option maxHeartbeats 4000000 in
set_option maxRecDepth 100000 in
/-- times(x, y) -/
theorem c_X4_times (l : Launch) (D : va_G) (cI cZ cJ : ClassId) (t1 t2 sz : Nat) (qy m1 m2 m3 m4 m5 m6 m7 : Nat) (n : Nat) (Bd Hd Wt Fx : Nat → Int32) (g : Nat) (kn : Int32) (Gv : Nat → Int32) (z1 : Nat) (S1 : Nat → Int32) (z2 : Nat) (S2 : Nat → Int32) (sp th : Int32) (hc : CO_ n Bd Hd Fx g) (hi : IM_ n Bd Hd Fx g kn z1 S1 z2 S2) (x y : Int32) : Met l yX4_times wsX4_times ({ frames := 2, cells := 0, slots := 0, locals := 49 } : Room) (va_Pc [.ref qy, .int x, .int y] (wr_ D [(cI, .int), (cZ, .boolean), (cJ, .long)] [(qy, .inr (5, [.ref m1, .ref m2, .ref m3, .ref m4, .int (nI n), .int (nI g), .int kn, .ref m5, .ref m6, .int (nI z1), .ref m7, .int (nI z2), .int sp, .int th])), (m1, .inl (cI, 14, .inl Bd)), (m2, .inl (cI, 14, .inl Hd)), (m3, .inl (cI, 14, .inl Wt)), (m4, .inl (cZ, 14, .inl Fx)), (m5, .inl (cZ, 16384, .inl Gv)), (m6, .inl (cI, 4000, .inl S1)), (m7, .inl (cI, 4000, .inl S2))] t1 t2 sz)) (va_Qi (S := Co_ × Jm_) (fun r u => u.1 = (n, Bd, Hd, Wt, Fx, g) ∧ q_times (n, Bd, Hd, Wt, Fx, g) x y r ∧ cok_ u.1 ∧ im_ u.1 u.2) (fun u => wd_ D [(cI, .int), (cZ, .boolean), (cJ, .long)] (va_A [(qy, .inr (5, [.ref m1, .ref m2, .ref m3, .ref m4, .int (nI n), .int (nI g), .int kn, .ref m5, .ref m6, .int (nI z1), .ref m7, .int (nI z2), .int sp, .int th])), (m1, .inl (cI, 14, .inl Bd)), (m2, .inl (cI, 14, .inl Hd)), (m3, .inl (cI, 14, .inl Wt)), (m4, .inl (cZ, 14, .inl Fx)), (m5, .inl (cZ, 16384, .inl Gv)), (m6, .inl (cI, 4000, .inl S1)), (m7, .inl (cI, 4000, .inl S2))] sz) [(qy, .inr (5, [.ref m1, .ref m2, .ref m3, .ref m4, .int (nI u.1.1), .int (nI u.1.2.2.2.2.2), .int u.2.1, .ref m5, .ref m6, .int (nI u.2.2.2.1), .ref m7, .int (nI u.2.2.2.2.2.1), .int u.2.2.2.2.2.2.2.1, .int u.2.2.2.2.2.2.2.2])), (m1, .inl (cI, 14, .inl u.1.2.1)), (m2, .inl (cI, 14, .inl u.1.2.2.1)), (m3, .inl (cI, 14, .inl u.1.2.2.2.1)), (m4, .inl (cZ, 14, .inl u.1.2.2.2.2.1)), (m5, .inl (cZ, 16384, .inl u.2.2.1)), (m6, .inl (cI, 4000, .inl u.2.2.2.2.1)), (m7, .inl (cI, 4000, .inl u.2.2.2.2.2.2.1))]) (va_A [(qy, .inr (5, [.ref m1, .ref m2, .ref m3, .ref m4, .int (nI n), .int (nI g), .int kn, .ref m5, .ref m6, .int (nI z1), .ref m7, .int (nI z2), .int sp, .int th])), (m1, .inl (cI, 14, .inl Bd)), (m2, .inl (cI, 14, .inl Hd)), (m3, .inl (cI, 14, .inl Wt)), (m4, .inl (cZ, 14, .inl Fx)), (m5, .inl (cZ, 16384, .inl Gv)), (m6, .inl (cI, 4000, .inl S1)), (m7, .inl (cI, 4000, .inl S2))] sz)) 0 0 (va_A [(qy, .inr (5, [.ref m1, .ref m2, .ref m3, .ref m4, .int (nI n), .int (nI g), .int kn, .ref m5, .ref m6, .int (nI z1), .ref m7, .int (nI z2), .int sp, .int th])), (m1, .inl (cI, 14, .inl Bd)), (m2, .inl (cI, 14, .inl Hd)), (m3, .inl (cI, 14, .inl Wt)), (m4, .inl (cZ, 14, .inl Fx)), (m5, .inl (cZ, 16384, .inl Gv)), (m6, .inl (cI, 4000, .inl S1)), (m7, .inl (cI, 4000, .inl S2))] sz) := by
  refine Met.ofW (cc := cX4_times) (maxL := 5) (ret := (some .int)) (by decide) rfl ?_
  intro p e s m args below meth c s₁ B hml hv
  obtain ⟨rfl, hsz, hP, hK, hD0, hE⟩ := hv
  have hx := B.exec
  have hb := B.bytes
  have hr := B.returns
  have hts := atoms_spec (ws := wsX4_times) B.pre
  have hown : s.vm.findClass RX4 = some m.cls := findClass_of_methodNamed B.named
  have hlocks := B.notSynchronized
  have iX4 : ∀ w ∈ u_ws RX4 TX4 14, w ∈ wsX4_times := by decide +kernel
  subst hsz
  have hD := hD0.self (sz := s.heap.size)
  generalize hAe : va_A [(qy, .inr (5, [.ref m1, .ref m2, .ref m3, .ref m4, .int (nI n), .int (nI g), .int kn, .ref m5, .ref m6, .int (nI z1), .ref m7, .int (nI z2), .int sp, .int th])), (m1, .inl (cI, 14, .inl Bd)), (m2, .inl (cI, 14, .inl Hd)), (m3, .inl (cI, 14, .inl Wt)), (m4, .inl (cZ, 14, .inl Fx)), (m5, .inl (cZ, 16384, .inl Gv)), (m6, .inl (cI, 4000, .inl S1)), (m7, .inl (cI, 4000, .inl S2))] s.heap.size = A at hD hE ⊢
  have hA : ∀ q : Nat, s.heap.size ≤ q → A q := fun q h => by rw [← hAe]; exact Or.inr h
  have hS : va_S A s.heap s.heap [] := va_S.rf
  obtain ⟨hn, hg, hok0, hF⟩ := id hc
  have hok : ∀ a, a < n → uI_ (Hd a) < 24 := fun a ha => (hok0 a ha).2
  have hlen := CL_len hn Bd Hd g
  have hlen2 := QL_len hn Bd Hd Fx g
  have hl := lv_entry ([.ref qy, .int x, .int y]) (n := 5) (Nat.le_of_ble_eq_true rfl)
  rw [lg_entry_eq]
  generalize (lg_sl ([.ref qy, .int x, .int y]) ++ List.replicate (5 - (lg_sl ([.ref qy, .int x, .int y])).length) Slot.unset).toArray = ls at hl ⊢
  have hl : lv_has ls 5 [(0, .ref qy), (1, .int x), (2, .int y)] := hl
  refine lv_aload_n hx hb dX4_times_0 rfl (lv_at hl 0 rfl) ?_
  refine lv_iconst (v := 0) hx hb dX4_times_1 (by decide +kernel) ?_
  refine va_put (D := D) (ci := 5) (v := .int 0) (ty := .int) (C := RX4) (T := TX4) (N := 14) hx hb hts iX4 tyX4 tyX4_ok nmX4 hown hK hP hD hS 0 rfl rfl 13 (by decide) (hts (.fieldLink RX4 32 "LeastSetsModel" "thrown" "I") (by decide +kernel)) (fun _ h9 => h9) rfl (by decide +kernel) rfl rfl (Nat.le_of_ble_eq_true rfl) dX4_times_2 (fun H locs hP hD hS => ?_)
  have hP : va_P D vwCl [(qy, .inr (5, [.ref m1, .ref m2, .ref m3, .ref m4, .int (nI n), .int (nI g), .int kn, .ref m5, .ref m6, .int (nI z1), .ref m7, .int (nI z2), .int sp, .int 0])), (m1, .inl (cI, 14, .inl Bd)), (m2, .inl (cI, 14, .inl Hd)), (m3, .inl (cI, 14, .inl Wt)), (m4, .inl (cZ, 14, .inl Fx)), (m5, .inl (cZ, 16384, .inl Gv)), (m6, .inl (cI, 4000, .inl S1)), (m7, .inl (cI, 4000, .inl S2))] H := hP
  have hD : va_D A [(qy, .inr (5, [.ref m1, .ref m2, .ref m3, .ref m4, .int (nI n), .int (nI g), .int kn, .ref m5, .ref m6, .int (nI z1), .ref m7, .int (nI z2), .int sp, .int 0])), (m1, .inl (cI, 14, .inl Bd)), (m2, .inl (cI, 14, .inl Hd)), (m3, .inl (cI, 14, .inl Wt)), (m4, .inl (cZ, 14, .inl Fx)), (m5, .inl (cZ, 16384, .inl Gv)), (m6, .inl (cI, 4000, .inl S1)), (m7, .inl (cI, 4000, .inl S2))] := hD
  refine lv_aload_n hx hb dX4_times_5 rfl (lv_at hl 0 rfl) ?_
  refine lv_iload_n hx hb dX4_times_6 rfl (lv_at hl 1 rfl) ?_
  refine vp_callSi (va_runV (As := [.int x]) (rest := []) ⟨hx, hb, hml, hown, hts⟩ (c_X4_isAxiom l D cI cZ cJ qy m1 m2 m3 m4 m5 m6 m7 n Bd Hd Wt Fx g kn Gv z1 S1 z2 S2 sp 0 hn x) (cwV 1 hts gX4_times_X4_isAxiom rfl rfl rfl (by decide +kernel) ⟨Nat.le_of_ble_eq_true rfl, Nat.le_of_ble_eq_true rfl⟩) ⟨ro_blind, va_recv hK hP (ci := 5) (q0 := 0) rfl rfl, ro_pre (hP.sub (ws' := [(qy, .inr (5, [.ref m1, .ref m2, .ref m3, .ref m4, .int (nI n), .int (nI g), .int kn, .ref m5, .ref m6, .int (nI z1), .ref m7, .int (nI z2), .int sp, .int 0]))]) [0] rfl) hK [0, 1, 2] rfl⟩ rfl rfl hl.1 rfl (lv_room (Nat.le_of_ble_eq_true rfl)) dX4_times_7 ⟨Nat.le_of_ble_eq_true rfl, Nat.le_of_ble_eq_true rfl⟩).run (fun r_7 hr_7 => ?_)
  refine lv_if_eq (tgt := 22) hx hb dX4_times_10 (by decide) (fun c_10 => ?_) (fun c_10 => ?_)
  · have hno : ¬ (uI_ x < n ∧ uI_ y ≤ 1) := fun q => hu_no (by omega) hr_7 c_10 q.1
    refine lv_iconst (v := (-1)) hx hb dX4_times_22 (by decide +kernel) ?_
    exact W.iret (v := (-1)) hx hb hr (fun t ht hW => ⟨⟨(-1), ((n, Bd, Hd, Wt, Fx, g), (kn, Gv, z1, S1, z2, S2, sp, 0)), rfl, ⟨rfl, (if_neg hno).symm, hc, hi⟩, by rw [ht]; exact hP, va_K.moved hW.alike hK, hD⟩, hS.F ht⟩) hS.2.2 dX4_times_23
  · refine lv_iload_n hx hb dX4_times_13 rfl (lv_at hl 2 rfl) ?_
    refine lv_if_lt (tgt := 22) hx hb dX4_times_14 (by decide) (fun c_14 => ?_) (fun c_14 => ?_)
    · have hno : ¬ (uI_ x < n ∧ uI_ y ≤ 1) := fun q => ((in_uI (by omega)).mpr q.2).1 c_14
      refine lv_iconst (v := (-1)) hx hb dX4_times_22 (by decide +kernel) ?_
      exact W.iret (v := (-1)) hx hb hr (fun t ht hW => ⟨⟨(-1), ((n, Bd, Hd, Wt, Fx, g), (kn, Gv, z1, S1, z2, S2, sp, 0)), rfl, ⟨rfl, (if_neg hno).symm, hc, hi⟩, by rw [ht]; exact hP, va_K.moved hW.alike hK, hD⟩, hS.F ht⟩) hS.2.2 dX4_times_23
    · refine lv_iload_n hx hb dX4_times_17 rfl (lv_at hl 2 rfl) ?_
      refine lv_iconst (v := (nI 1)) hx hb dX4_times_18 (by decide +kernel) ?_
      refine lv_icmp_le (tgt := 24) hx hb dX4_times_19 (by decide) (fun c_19 => ?_) (fun c_19 => ?_)
      · have hy2 : uI_ x < n ∧ uI_ y ≤ 1 := ⟨(hu_yes (by omega) hr_7 c_10).1, (in_uI (by omega)).mp ⟨c_14, c_19⟩⟩
        refine lv_aload_n hx hb dX4_times_24 rfl (lv_at hl 0 rfl) ?_
        have hPc := hP.sub (ws' := [(qy, .inr (5, [.ref m1, .ref m2, .ref m3, .ref m4, .int (nI n), .int (nI g), .int kn, .ref m5, .ref m6, .int (nI z1), .ref m7, .int (nI z2), .int sp, .int 0])), (m1, .inl (cI, 14, .inl Bd)), (m2, .inl (cI, 14, .inl Hd)), (m4, .inl (cZ, 14, .inl Fx)), (m5, .inl (cZ, 16384, .inl Gv)), (m6, .inl (cI, 4000, .inl S1)), (m7, .inl (cI, 4000, .inl S2))]) [0, 1, 2, 4, 5, 6, 7] rfl
        have hDc := hD.sub (ws' := [(qy, .inr (5, [.ref m1, .ref m2, .ref m3, .ref m4, .int (nI n), .int (nI g), .int kn, .ref m5, .ref m6, .int (nI z1), .ref m7, .int (nI z2), .int sp, .int 0])), (m1, .inl (cI, 14, .inl Bd)), (m2, .inl (cI, 14, .inl Hd)), (m4, .inl (cZ, 14, .inl Fx)), (m5, .inl (cZ, 16384, .inl Gv)), (m6, .inl (cI, 4000, .inl S1)), (m7, .inl (cI, 4000, .inl S2))]) [0, 1, 2, 4, 5, 6, 7] (by decide) rfl
        have hFc := va_free (wc := [(qy, .inr (5, [.ref m1, .ref m2, .ref m3, .ref m4, .int (nI n), .int (nI g), .int kn, .ref m5, .ref m6, .int (nI z1), .ref m7, .int (nI z2), .int sp, .int 0])), (m1, .inl (cI, 14, .inl Bd)), (m2, .inl (cI, 14, .inl Hd)), (m4, .inl (cZ, 14, .inl Fx)), (m5, .inl (cZ, 16384, .inl Gv)), (m6, .inl (cI, 4000, .inl S1)), (m7, .inl (cI, 4000, .inl S2))]) hD hS hA [0, 1, 2, 4, 5, 6, 7] rfl
        refine va_callv (va_runV (As := []) (rest := []) ⟨hx, hb, hml, hown, hts⟩ (c_X4_find l D cI cZ cJ t1 t2 _ qy m1 m2 m3 m4 m5 m6 m7 n Bd Hd Wt Fx g kn Gv z1 S1 z2 S2 sp 0 hc hi) (cwV 0 hts gX4_times_X4_find rfl rfl rfl (by decide +kernel) ⟨Nat.le_of_ble_eq_true rfl, Nat.le_of_ble_eq_true rfl⟩) ⟨wr_blind, va_recv hK hP (ci := 5) (q0 := 0) rfl rfl, wr_pre hPc hDc hK hE hS hFc [0, 1, 2] rfl⟩ rfl rfl hl.1 rfl (lv_room (Nat.le_of_ble_eq_true rfl)) dX4_times_25 ⟨Nat.le_of_ble_eq_true rfl, Nat.le_of_ble_eq_true rfl⟩) hS (fun q _ h => hFc q h) hFc (fun u_25 t H locs ht hvm hw_25 hB hz1 hk1 hS => ?_)
        obtain ⟨hP1, hK1, hD1⟩ := hB
        rw [ht] at hP1
        obtain ⟨hP, hD⟩ := va_join (wr := [(m3, .inl (cI, 14, .inl Wt))]) (w1 := [(qy, .inr (5, [.ref m1, .ref m2, .ref m3, .ref m4, .int (nI n), .int (nI g), .int 1, .ref m5, .ref m6, .int (nI ((CL_ n Bd Hd g).length)), .ref m7, .int (nI ((QL_ n Bd Hd Fx g).length)), .int u_25.2.2.2, .int 0])), (m1, .inl (cI, 14, .inl Bd)), (m2, .inl (cI, 14, .inl Hd)), (m4, .inl (cZ, 14, .inl Fx)), (m5, .inl (cZ, 16384, .inl u_25.1)), (m6, .inl (cI, 4000, .inl u_25.2.1)), (m7, .inl (cI, 4000, .inl u_25.2.2.1))]) hP hD [0, 1, 2, 4, 5, 6, 7] [3] rfl rfl (by decide) (by decide) hk1 hFc hP1 hD1
        have hP : va_P D vwCl [(qy, .inr (5, [.ref m1, .ref m2, .ref m3, .ref m4, .int (nI n), .int (nI g), .int 1, .ref m5, .ref m6, .int (nI ((CL_ n Bd Hd g).length)), .ref m7, .int (nI ((QL_ n Bd Hd Fx g).length)), .int u_25.2.2.2, .int 0])), (m1, .inl (cI, 14, .inl Bd)), (m2, .inl (cI, 14, .inl Hd)), (m3, .inl (cI, 14, .inl Wt)), (m4, .inl (cZ, 14, .inl Fx)), (m5, .inl (cZ, 16384, .inl u_25.1)), (m6, .inl (cI, 4000, .inl u_25.2.1)), (m7, .inl (cI, 4000, .inl u_25.2.2.1))] H := hP.sub [1, 2, 3, 0, 4, 5, 6, 7] rfl
        have hD : va_D A [(qy, .inr (5, [.ref m1, .ref m2, .ref m3, .ref m4, .int (nI n), .int (nI g), .int 1, .ref m5, .ref m6, .int (nI ((CL_ n Bd Hd g).length)), .ref m7, .int (nI ((QL_ n Bd Hd Fx g).length)), .int u_25.2.2.2, .int 0])), (m1, .inl (cI, 14, .inl Bd)), (m2, .inl (cI, 14, .inl Hd)), (m3, .inl (cI, 14, .inl Wt)), (m4, .inl (cZ, 14, .inl Fx)), (m5, .inl (cZ, 16384, .inl u_25.1)), (m6, .inl (cI, 4000, .inl u_25.2.1)), (m7, .inl (cI, 4000, .inl u_25.2.2.1))] := hD.sub [1, 2, 3, 0, 4, 5, 6, 7] (by decide) rfl
        clear hPc hDc hFc hP1 hK1 hD1 hk1 hz1
        refine lv_iconst (v := 0) hx hb dX4_times_28 (by decide +kernel) ?_
        refine lv_istore_n (lv' := [(3, .int 0), (0, .ref qy), (1, .int x), (2, .int y)]) hx hb dX4_times_29 rfl hl (by decide) rfl (fun ls hl => ?_)
        refine lv_iconst (v := (nI 0)) hx hb dX4_times_30 (by decide +kernel) ?_
        refine lv_istore (lv' := [(4, .int (nI 0)), (3, .int 0), (0, .ref qy), (1, .int x), (2, .int y)]) hx hb dX4_times_31 hl (by decide) rfl (fun ls hl => ?_)
        have lo0 : ∀ (d : Nat) (k : Nat) (y3 : Int32) (H : Heap) (locs : List Loc) (ls : Array Slot), (CL_ n Bd Hd g).length < k + d → k ≤ (CL_ n Bd Hd g).length → y = 0 → y3 = hm_ (ln_ (CL_ n Bd Hd g)) x k → va_P D vwCl [(qy, .inr (5, [.ref m1, .ref m2, .ref m3, .ref m4, .int (nI n), .int (nI g), .int 1, .ref m5, .ref m6, .int (nI ((CL_ n Bd Hd g).length)), .ref m7, .int (nI ((QL_ n Bd Hd Fx g).length)), .int u_25.2.2.2, .int 0])), (m1, .inl (cI, 14, .inl Bd)), (m2, .inl (cI, 14, .inl Hd)), (m3, .inl (cI, 14, .inl Wt)), (m4, .inl (cZ, 14, .inl Fx)), (m5, .inl (cZ, 16384, .inl u_25.1)), (m6, .inl (cI, 4000, .inl u_25.2.1)), (m7, .inl (cI, 4000, .inl u_25.2.2.1))] H → va_D A [(qy, .inr (5, [.ref m1, .ref m2, .ref m3, .ref m4, .int (nI n), .int (nI g), .int 1, .ref m5, .ref m6, .int (nI ((CL_ n Bd Hd g).length)), .ref m7, .int (nI ((QL_ n Bd Hd Fx g).length)), .int u_25.2.2.2, .int 0])), (m1, .inl (cI, 14, .inl Bd)), (m2, .inl (cI, 14, .inl Hd)), (m3, .inl (cI, 14, .inl Wt)), (m4, .inl (cZ, 14, .inl Fx)), (m5, .inl (cZ, 16384, .inl u_25.1)), (m6, .inl (cI, 4000, .inl u_25.2.1)), (m7, .inl (cI, 4000, .inl u_25.2.2.1))] → va_S A s.heap H locs → lv_has ls 5 [(4, .int (nI k)), (3, .int y3), (0, .ref qy), (1, .int x), (2, .int y)] → W p l e (headSpec wsX4_times ({ frames := 2, cells := 0, slots := 0, locals := 49 } : Room)).room s m ([.ref qy, .int x, .int y] : List Value).toArray below meth c H locs 0 0 (MQ below (va_Qi (S := Co_ × Jm_) (fun r u => u.1 = (n, Bd, Hd, Wt, Fx, g) ∧ q_times (n, Bd, Hd, Wt, Fx, g) x y r ∧ cok_ u.1 ∧ im_ u.1 u.2) (fun u => wd_ D [(cI, .int), (cZ, .boolean), (cJ, .long)] A [(qy, .inr (5, [.ref m1, .ref m2, .ref m3, .ref m4, .int (nI u.1.1), .int (nI u.1.2.2.2.2.2), .int u.2.1, .ref m5, .ref m6, .int (nI u.2.2.2.1), .ref m7, .int (nI u.2.2.2.2.2.1), .int u.2.2.2.2.2.2.2.1, .int u.2.2.2.2.2.2.2.2])), (m1, .inl (cI, 14, .inl u.1.2.1)), (m2, .inl (cI, 14, .inl u.1.2.2.1)), (m3, .inl (cI, 14, .inl u.1.2.2.2.1)), (m4, .inl (cZ, 14, .inl u.1.2.2.2.2.1)), (m5, .inl (cZ, 16384, .inl u.2.2.1)), (m6, .inl (cI, 4000, .inl u.2.2.2.2.1)), (m7, .inl (cI, 4000, .inl u.2.2.2.2.2.2.1))]) A) ([.ref qy, .int x, .int y] : List Value).toArray s 0 0 A) (F0 m 33 ls []) := by
          intro d
          induction d with
          | zero => intro k y3 H locs ls h1 h2; omega
          | succ d ih =>
            intro k y3 H locs ls h1 h2 hy0 hy hP hD hS hl
            refine lv_iload hx hb dX4_times_33 (lv_at hl 0 rfl) ?_
            refine lv_iload_n hx hb dX4_times_35 rfl (lv_at hl 4 rfl) ?_
            refine lv_if_ne (tgt := 46) hx hb dX4_times_36 (by decide) (fun c_36 => ?_) (fun c_36 => ?_)
            · exact absurd hy0 c_36
            · refine lv_aload_n hx hb dX4_times_39 rfl (lv_at hl 2 rfl) ?_
              refine va_get (D := D) (ci := 5) (v := .int (nI ((CL_ n Bd Hd g).length))) (C := RX4) (T := TX4) (N := 14) hx hb hts iX4 hown hK hP 0 rfl rfl 9 (by decide) (hts (.fieldLink RX4 58 "LeastSetsModel" "causeCount" "I") (by decide +kernel)) (fun _ h9 => h9) rfl dX4_times_40 ?_
              refine lv_goto (tgt := 50) hx hb dX4_times_43 (by decide) ?_
              refine r_ige hx hb (tgt := 87) (by omega) (by omega) dX4_times_50 (by decide) (fun c_50 => ?_) (fun c_50 => ?_)
              · refine lv_iload_n hx hb dX4_times_87 rfl (lv_at hl 1 rfl) ?_
                exact W.iret (v := y3) hx hb hr (fun t ht hW => ⟨⟨y3, ((n, Bd, Hd, Wt, Fx, g), (1, u_25.1, (CL_ n Bd Hd g).length, u_25.2.1, (QL_ n Bd Hd Fx g).length, u_25.2.2.1, u_25.2.2.2, 0)), rfl, ⟨rfl, ((by rw [hy, show k = (CL_ n Bd Hd g).length by omega]) : y3 = hm_ (ln_ (CL_ n Bd Hd g)) x (CL_ n Bd Hd g).length).trans ((if_pos hy2).trans (if_pos hy0)).symm, hc, ⟨Or.inr rfl, fun _ => ⟨rfl, hw_25.1, rfl, hw_25.2⟩⟩⟩, by rw [ht]; exact hP, va_K.moved hW.alike hK, hD⟩, hS.F ht⟩) hS.2.2 dX4_times_88
              · refine lv_iload_n hx hb dX4_times_53 rfl (lv_at hl 1 rfl) ?_
                refine lv_iload_n hx hb dX4_times_54 rfl (lv_at hl 4 rfl) ?_
                refine lv_if_ne (tgt := 68) hx hb dX4_times_55 (by decide) (fun c_55 => ?_) (fun c_55 => ?_)
                · exact absurd hy0 c_55
                · refine lv_aload_n hx hb dX4_times_58 rfl (lv_at hl 2 rfl) ?_
                  refine va_get (D := D) (ci := 5) (v := .ref m6) (C := RX4) (T := TX4) (N := 14) hx hb hts iX4 hown hK hP 0 rfl rfl 8 (by decide) (hts (.fieldLink RX4 26 "LeastSetsModel" "causes" "[I") (by decide +kernel)) (fun _ h9 => h9) rfl dX4_times_59 ?_
                  refine lv_iload hx hb dX4_times_62 (lv_at hl 0 rfl) ?_
                  refine r_iald hx hb hK hP 6 0 rfl rfl k (by omega) (by omega) dX4_times_64 ?_
                  refine lv_goto (tgt := 75) hx hb dX4_times_65 (by decide) ?_
                  refine lv_iload_n hx hb dX4_times_75 rfl (lv_at hl 3 rfl) ?_
                  refine lv_ishr hx hb dX4_times_76 ?_
                  refine lv_iconst (v := 1) hx hb dX4_times_77 (by decide +kernel) ?_
                  refine lv_iand hx hb dX4_times_78 ?_
                  refine lv_iadd hx hb dX4_times_79 ?_
                  refine lv_istore_n (lv' := [(3, .int (y3 + (((u_25.2.1 k) >>> (x &&& 31)) &&& 1))), (4, .int (nI k)), (0, .ref qy), (1, .int x), (2, .int y)]) hx hb dX4_times_80 rfl hl (by decide) rfl (fun ls hl => ?_)
                  refine lv_iinc (v := (nI (k + 1))) (lv' := [(4, .int (nI (k + 1))), (3, .int (y3 + (((u_25.2.1 k) >>> (x &&& 31)) &&& 1))), (0, .ref qy), (1, .int x), (2, .int y)]) hx hb dX4_times_81 hl (k := 1) rfl (nI_inc _) (by decide) rfl (fun ls hl => ?_)
                  refine lv_goto (tgt := 33) hx hb dX4_times_84 (by decide) ?_
                  exact ih (k + 1) _ H locs ls (by omega) (by omega) hy0 (by rw [hy, ln_sx hw_25.1 c_50]; rfl) hP hD hS (lv_sub hl [0, 1, 2, 3, 4] rfl)
        have lo1 : ∀ (d : Nat) (k : Nat) (y3 : Int32) (H : Heap) (locs : List Loc) (ls : Array Slot), (QL_ n Bd Hd Fx g).length < k + d → k ≤ (QL_ n Bd Hd Fx g).length → ¬ y = 0 → y3 = hm_ (ln_ (QL_ n Bd Hd Fx g)) x k → va_P D vwCl [(qy, .inr (5, [.ref m1, .ref m2, .ref m3, .ref m4, .int (nI n), .int (nI g), .int 1, .ref m5, .ref m6, .int (nI ((CL_ n Bd Hd g).length)), .ref m7, .int (nI ((QL_ n Bd Hd Fx g).length)), .int u_25.2.2.2, .int 0])), (m1, .inl (cI, 14, .inl Bd)), (m2, .inl (cI, 14, .inl Hd)), (m3, .inl (cI, 14, .inl Wt)), (m4, .inl (cZ, 14, .inl Fx)), (m5, .inl (cZ, 16384, .inl u_25.1)), (m6, .inl (cI, 4000, .inl u_25.2.1)), (m7, .inl (cI, 4000, .inl u_25.2.2.1))] H → va_D A [(qy, .inr (5, [.ref m1, .ref m2, .ref m3, .ref m4, .int (nI n), .int (nI g), .int 1, .ref m5, .ref m6, .int (nI ((CL_ n Bd Hd g).length)), .ref m7, .int (nI ((QL_ n Bd Hd Fx g).length)), .int u_25.2.2.2, .int 0])), (m1, .inl (cI, 14, .inl Bd)), (m2, .inl (cI, 14, .inl Hd)), (m3, .inl (cI, 14, .inl Wt)), (m4, .inl (cZ, 14, .inl Fx)), (m5, .inl (cZ, 16384, .inl u_25.1)), (m6, .inl (cI, 4000, .inl u_25.2.1)), (m7, .inl (cI, 4000, .inl u_25.2.2.1))] → va_S A s.heap H locs → lv_has ls 5 [(4, .int (nI k)), (3, .int y3), (0, .ref qy), (1, .int x), (2, .int y)] → W p l e (headSpec wsX4_times ({ frames := 2, cells := 0, slots := 0, locals := 49 } : Room)).room s m ([.ref qy, .int x, .int y] : List Value).toArray below meth c H locs 0 0 (MQ below (va_Qi (S := Co_ × Jm_) (fun r u => u.1 = (n, Bd, Hd, Wt, Fx, g) ∧ q_times (n, Bd, Hd, Wt, Fx, g) x y r ∧ cok_ u.1 ∧ im_ u.1 u.2) (fun u => wd_ D [(cI, .int), (cZ, .boolean), (cJ, .long)] A [(qy, .inr (5, [.ref m1, .ref m2, .ref m3, .ref m4, .int (nI u.1.1), .int (nI u.1.2.2.2.2.2), .int u.2.1, .ref m5, .ref m6, .int (nI u.2.2.2.1), .ref m7, .int (nI u.2.2.2.2.2.1), .int u.2.2.2.2.2.2.2.1, .int u.2.2.2.2.2.2.2.2])), (m1, .inl (cI, 14, .inl u.1.2.1)), (m2, .inl (cI, 14, .inl u.1.2.2.1)), (m3, .inl (cI, 14, .inl u.1.2.2.2.1)), (m4, .inl (cZ, 14, .inl u.1.2.2.2.2.1)), (m5, .inl (cZ, 16384, .inl u.2.2.1)), (m6, .inl (cI, 4000, .inl u.2.2.2.2.1)), (m7, .inl (cI, 4000, .inl u.2.2.2.2.2.2.1))]) A) ([.ref qy, .int x, .int y] : List Value).toArray s 0 0 A) (F0 m 33 ls []) := by
          intro d
          induction d with
          | zero => intro k y3 H locs ls h1 h2; omega
          | succ d ih =>
            intro k y3 H locs ls h1 h2 hy0 hy hP hD hS hl
            refine lv_iload hx hb dX4_times_33 (lv_at hl 0 rfl) ?_
            refine lv_iload_n hx hb dX4_times_35 rfl (lv_at hl 4 rfl) ?_
            refine lv_if_ne (tgt := 46) hx hb dX4_times_36 (by decide) (fun c_36 => ?_) (fun c_36 => ?_)
            · refine lv_aload_n hx hb dX4_times_46 rfl (lv_at hl 2 rfl) ?_
              refine va_get (D := D) (ci := 5) (v := .int (nI ((QL_ n Bd Hd Fx g).length))) (C := RX4) (T := TX4) (N := 14) hx hb hts iX4 hown hK hP 0 rfl rfl 11 (by decide) (hts (.fieldLink RX4 61 "LeastSetsModel" "cureCount" "I") (by decide +kernel)) (fun _ h9 => h9) rfl dX4_times_47 ?_
              refine r_ige hx hb (tgt := 87) (by omega) (by omega) dX4_times_50 (by decide) (fun c_50 => ?_) (fun c_50 => ?_)
              · refine lv_iload_n hx hb dX4_times_87 rfl (lv_at hl 1 rfl) ?_
                exact W.iret (v := y3) hx hb hr (fun t ht hW => ⟨⟨y3, ((n, Bd, Hd, Wt, Fx, g), (1, u_25.1, (CL_ n Bd Hd g).length, u_25.2.1, (QL_ n Bd Hd Fx g).length, u_25.2.2.1, u_25.2.2.2, 0)), rfl, ⟨rfl, ((by rw [hy, show k = (QL_ n Bd Hd Fx g).length by omega]) : y3 = hm_ (ln_ (QL_ n Bd Hd Fx g)) x (QL_ n Bd Hd Fx g).length).trans ((if_pos hy2).trans (if_neg hy0)).symm, hc, ⟨Or.inr rfl, fun _ => ⟨rfl, hw_25.1, rfl, hw_25.2⟩⟩⟩, by rw [ht]; exact hP, va_K.moved hW.alike hK, hD⟩, hS.F ht⟩) hS.2.2 dX4_times_88
              · refine lv_iload_n hx hb dX4_times_53 rfl (lv_at hl 1 rfl) ?_
                refine lv_iload_n hx hb dX4_times_54 rfl (lv_at hl 4 rfl) ?_
                refine lv_if_ne (tgt := 68) hx hb dX4_times_55 (by decide) (fun c_55 => ?_) (fun c_55 => ?_)
                · refine lv_aload_n hx hb dX4_times_68 rfl (lv_at hl 2 rfl) ?_
                  refine va_get (D := D) (ci := 5) (v := .ref m7) (C := RX4) (T := TX4) (N := 14) hx hb hts iX4 hown hK hP 0 rfl rfl 10 (by decide) (hts (.fieldLink RX4 29 "LeastSetsModel" "cures" "[I") (by decide +kernel)) (fun _ h9 => h9) rfl dX4_times_69 ?_
                  refine lv_iload hx hb dX4_times_72 (lv_at hl 0 rfl) ?_
                  refine r_iald hx hb hK hP 7 0 rfl rfl k (by omega) (by omega) dX4_times_74 ?_
                  refine lv_iload_n hx hb dX4_times_75 rfl (lv_at hl 3 rfl) ?_
                  refine lv_ishr hx hb dX4_times_76 ?_
                  refine lv_iconst (v := 1) hx hb dX4_times_77 (by decide +kernel) ?_
                  refine lv_iand hx hb dX4_times_78 ?_
                  refine lv_iadd hx hb dX4_times_79 ?_
                  refine lv_istore_n (lv' := [(3, .int (y3 + (((u_25.2.2.1 k) >>> (x &&& 31)) &&& 1))), (4, .int (nI k)), (0, .ref qy), (1, .int x), (2, .int y)]) hx hb dX4_times_80 rfl hl (by decide) rfl (fun ls hl => ?_)
                  refine lv_iinc (v := (nI (k + 1))) (lv' := [(4, .int (nI (k + 1))), (3, .int (y3 + (((u_25.2.2.1 k) >>> (x &&& 31)) &&& 1))), (0, .ref qy), (1, .int x), (2, .int y)]) hx hb dX4_times_81 hl (k := 1) rfl (nI_inc _) (by decide) rfl (fun ls hl => ?_)
                  refine lv_goto (tgt := 33) hx hb dX4_times_84 (by decide) ?_
                  exact ih (k + 1) _ H locs ls (by omega) (by omega) hy0 (by rw [hy, ln_sx hw_25.2 c_50]; rfl) hP hD hS (lv_sub hl [0, 1, 2, 3, 4] rfl)
                · exact absurd c_55 hy0
            · exact absurd c_36 hy0
        by_cases hy0 : y = 0
        · exact lo0 ((CL_ n Bd Hd g).length + 1) 0 _ H locs ls (by omega) (Nat.zero_le _) hy0 rfl hP hD hS (lv_sub hl [0, 1, 2, 3, 4] rfl)
        · exact lo1 ((QL_ n Bd Hd Fx g).length + 1) 0 _ H locs ls (by omega) (Nat.zero_le _) hy0 rfl hP hD hS (lv_sub hl [0, 1, 2, 3, 4] rfl)
      · have hno : ¬ (uI_ x < n ∧ uI_ y ≤ 1) := fun q => c_19 ((in_uI (by omega)).mpr q.2).2
        refine lv_iconst (v := (-1)) hx hb dX4_times_22 (by decide +kernel) ?_
        exact W.iret (v := (-1)) hx hb hr (fun t ht hW => ⟨⟨(-1), ((n, Bd, Hd, Wt, Fx, g), (kn, Gv, z1, S1, z2, S2, sp, 0)), rfl, ⟨rfl, (if_neg hno).symm, hc, hi⟩, by rw [ht]; exact hP, va_K.moved hW.alike hK, hD⟩, hS.F ht⟩) hS.2.2 dX4_times_23
set_option maxHeartbeats 4000000 in
set_option maxRecDepth 100000 in
/-- lightest() -/
theorem c_X4_lightest (l : Launch) (D : va_G) (cI cZ cJ : ClassId) (t1 t2 sz : Nat) (qy m1 m2 m3 m4 m5 m6 m7 : Nat) (n : Nat) (Bd Hd Wt Fx : Nat → Int32) (g : Nat) (kn : Int32) (Gv : Nat → Int32) (z1 : Nat) (S1 : Nat → Int32) (z2 : Nat) (S2 : Nat → Int32) (sp th : Int32) (hc : CO_ n Bd Hd Fx g) (hi : IM_ n Bd Hd Fx g kn z1 S1 z2 S2) : Met l yX4_lightest wsX4_lightest ({ frames := 2, cells := 0, slots := 0, locals := 49 } : Room) (va_Pc [.ref qy] (wr_ D [(cI, .int), (cZ, .boolean), (cJ, .long)] [(qy, .inr (5, [.ref m1, .ref m2, .ref m3, .ref m4, .int (nI n), .int (nI g), .int kn, .ref m5, .ref m6, .int (nI z1), .ref m7, .int (nI z2), .int sp, .int th])), (m1, .inl (cI, 14, .inl Bd)), (m2, .inl (cI, 14, .inl Hd)), (m3, .inl (cI, 14, .inl Wt)), (m4, .inl (cZ, 14, .inl Fx)), (m5, .inl (cZ, 16384, .inl Gv)), (m6, .inl (cI, 4000, .inl S1)), (m7, .inl (cI, 4000, .inl S2))] t1 t2 sz)) (va_Qi (S := Co_ × Jm_) (fun r u => u.1 = (n, Bd, Hd, Wt, Fx, g) ∧ q_lightest (n, Bd, Hd, Wt, Fx, g) r ∧ cok_ u.1 ∧ im_ u.1 u.2) (fun u => wd_ D [(cI, .int), (cZ, .boolean), (cJ, .long)] (va_A [(qy, .inr (5, [.ref m1, .ref m2, .ref m3, .ref m4, .int (nI n), .int (nI g), .int kn, .ref m5, .ref m6, .int (nI z1), .ref m7, .int (nI z2), .int sp, .int th])), (m1, .inl (cI, 14, .inl Bd)), (m2, .inl (cI, 14, .inl Hd)), (m3, .inl (cI, 14, .inl Wt)), (m4, .inl (cZ, 14, .inl Fx)), (m5, .inl (cZ, 16384, .inl Gv)), (m6, .inl (cI, 4000, .inl S1)), (m7, .inl (cI, 4000, .inl S2))] sz) [(qy, .inr (5, [.ref m1, .ref m2, .ref m3, .ref m4, .int (nI u.1.1), .int (nI u.1.2.2.2.2.2), .int u.2.1, .ref m5, .ref m6, .int (nI u.2.2.2.1), .ref m7, .int (nI u.2.2.2.2.2.1), .int u.2.2.2.2.2.2.2.1, .int u.2.2.2.2.2.2.2.2])), (m1, .inl (cI, 14, .inl u.1.2.1)), (m2, .inl (cI, 14, .inl u.1.2.2.1)), (m3, .inl (cI, 14, .inl u.1.2.2.2.1)), (m4, .inl (cZ, 14, .inl u.1.2.2.2.2.1)), (m5, .inl (cZ, 16384, .inl u.2.2.1)), (m6, .inl (cI, 4000, .inl u.2.2.2.2.1)), (m7, .inl (cI, 4000, .inl u.2.2.2.2.2.2.1))]) (va_A [(qy, .inr (5, [.ref m1, .ref m2, .ref m3, .ref m4, .int (nI n), .int (nI g), .int kn, .ref m5, .ref m6, .int (nI z1), .ref m7, .int (nI z2), .int sp, .int th])), (m1, .inl (cI, 14, .inl Bd)), (m2, .inl (cI, 14, .inl Hd)), (m3, .inl (cI, 14, .inl Wt)), (m4, .inl (cZ, 14, .inl Fx)), (m5, .inl (cZ, 16384, .inl Gv)), (m6, .inl (cI, 4000, .inl S1)), (m7, .inl (cI, 4000, .inl S2))] sz)) 0 0 (va_A [(qy, .inr (5, [.ref m1, .ref m2, .ref m3, .ref m4, .int (nI n), .int (nI g), .int kn, .ref m5, .ref m6, .int (nI z1), .ref m7, .int (nI z2), .int sp, .int th])), (m1, .inl (cI, 14, .inl Bd)), (m2, .inl (cI, 14, .inl Hd)), (m3, .inl (cI, 14, .inl Wt)), (m4, .inl (cZ, 14, .inl Fx)), (m5, .inl (cZ, 16384, .inl Gv)), (m6, .inl (cI, 4000, .inl S1)), (m7, .inl (cI, 4000, .inl S2))] sz) := by
  refine Met.ofW (cc := cX4_lightest) (maxL := 6) (ret := (some .int)) (by decide) rfl ?_
  intro p e s m args below meth c s₁ B hml hv
  obtain ⟨rfl, hsz, hP, hK, hD0, hE⟩ := hv
  have hx := B.exec
  have hb := B.bytes
  have hr := B.returns
  have hts := atoms_spec (ws := wsX4_lightest) B.pre
  have hown : s.vm.findClass RX4 = some m.cls := findClass_of_methodNamed B.named
  have hlocks := B.notSynchronized
  have iX4 : ∀ w ∈ u_ws RX4 TX4 14, w ∈ wsX4_lightest := by decide +kernel
  subst hsz
  have hD := hD0.self (sz := s.heap.size)
  generalize hAe : va_A [(qy, .inr (5, [.ref m1, .ref m2, .ref m3, .ref m4, .int (nI n), .int (nI g), .int kn, .ref m5, .ref m6, .int (nI z1), .ref m7, .int (nI z2), .int sp, .int th])), (m1, .inl (cI, 14, .inl Bd)), (m2, .inl (cI, 14, .inl Hd)), (m3, .inl (cI, 14, .inl Wt)), (m4, .inl (cZ, 14, .inl Fx)), (m5, .inl (cZ, 16384, .inl Gv)), (m6, .inl (cI, 4000, .inl S1)), (m7, .inl (cI, 4000, .inl S2))] s.heap.size = A at hD hE ⊢
  have hA : ∀ q : Nat, s.heap.size ≤ q → A q := fun q h => by rw [← hAe]; exact Or.inr h
  have hS : va_S A s.heap s.heap [] := va_S.rf
  obtain ⟨hn, hg, hok0, hF⟩ := id hc
  have hok : ∀ a, a < n → uI_ (Hd a) < 24 := fun a ha => (hok0 a ha).2
  have hlen := QL_len hn Bd Hd Fx g
  have hl := lv_entry ([.ref qy]) (n := 6) (Nat.le_of_ble_eq_true rfl)
  rw [lg_entry_eq]
  generalize (lg_sl ([.ref qy]) ++ List.replicate (6 - (lg_sl ([.ref qy])).length) Slot.unset).toArray = ls at hl ⊢
  have hl : lv_has ls 6 [(0, .ref qy)] := hl
  refine lv_aload_n hx hb dX4_lightest_0 rfl (lv_at hl 0 rfl) ?_
  refine lv_iconst (v := 0) hx hb dX4_lightest_1 (by decide +kernel) ?_
  refine va_put (D := D) (ci := 5) (v := .int 0) (ty := .int) (C := RX4) (T := TX4) (N := 14) hx hb hts iX4 tyX4 tyX4_ok nmX4 hown hK hP hD hS 0 rfl rfl 13 (by decide) (hts (.fieldLink RX4 32 "LeastSetsModel" "thrown" "I") (by decide +kernel)) (fun _ h9 => h9) rfl (by decide +kernel) rfl rfl (Nat.le_of_ble_eq_true rfl) dX4_lightest_2 (fun H locs hP hD hS => ?_)
  have hP : va_P D vwCl [(qy, .inr (5, [.ref m1, .ref m2, .ref m3, .ref m4, .int (nI n), .int (nI g), .int kn, .ref m5, .ref m6, .int (nI z1), .ref m7, .int (nI z2), .int sp, .int 0])), (m1, .inl (cI, 14, .inl Bd)), (m2, .inl (cI, 14, .inl Hd)), (m3, .inl (cI, 14, .inl Wt)), (m4, .inl (cZ, 14, .inl Fx)), (m5, .inl (cZ, 16384, .inl Gv)), (m6, .inl (cI, 4000, .inl S1)), (m7, .inl (cI, 4000, .inl S2))] H := hP
  have hD : va_D A [(qy, .inr (5, [.ref m1, .ref m2, .ref m3, .ref m4, .int (nI n), .int (nI g), .int kn, .ref m5, .ref m6, .int (nI z1), .ref m7, .int (nI z2), .int sp, .int 0])), (m1, .inl (cI, 14, .inl Bd)), (m2, .inl (cI, 14, .inl Hd)), (m3, .inl (cI, 14, .inl Wt)), (m4, .inl (cZ, 14, .inl Fx)), (m5, .inl (cZ, 16384, .inl Gv)), (m6, .inl (cI, 4000, .inl S1)), (m7, .inl (cI, 4000, .inl S2))] := hD
  refine lv_aload_n hx hb dX4_lightest_5 rfl (lv_at hl 0 rfl) ?_
  have hPc := hP.sub (ws' := [(qy, .inr (5, [.ref m1, .ref m2, .ref m3, .ref m4, .int (nI n), .int (nI g), .int kn, .ref m5, .ref m6, .int (nI z1), .ref m7, .int (nI z2), .int sp, .int 0])), (m1, .inl (cI, 14, .inl Bd)), (m2, .inl (cI, 14, .inl Hd)), (m4, .inl (cZ, 14, .inl Fx)), (m5, .inl (cZ, 16384, .inl Gv)), (m6, .inl (cI, 4000, .inl S1)), (m7, .inl (cI, 4000, .inl S2))]) [0, 1, 2, 4, 5, 6, 7] rfl
  have hDc := hD.sub (ws' := [(qy, .inr (5, [.ref m1, .ref m2, .ref m3, .ref m4, .int (nI n), .int (nI g), .int kn, .ref m5, .ref m6, .int (nI z1), .ref m7, .int (nI z2), .int sp, .int 0])), (m1, .inl (cI, 14, .inl Bd)), (m2, .inl (cI, 14, .inl Hd)), (m4, .inl (cZ, 14, .inl Fx)), (m5, .inl (cZ, 16384, .inl Gv)), (m6, .inl (cI, 4000, .inl S1)), (m7, .inl (cI, 4000, .inl S2))]) [0, 1, 2, 4, 5, 6, 7] (by decide) rfl
  have hFc := va_free (wc := [(qy, .inr (5, [.ref m1, .ref m2, .ref m3, .ref m4, .int (nI n), .int (nI g), .int kn, .ref m5, .ref m6, .int (nI z1), .ref m7, .int (nI z2), .int sp, .int 0])), (m1, .inl (cI, 14, .inl Bd)), (m2, .inl (cI, 14, .inl Hd)), (m4, .inl (cZ, 14, .inl Fx)), (m5, .inl (cZ, 16384, .inl Gv)), (m6, .inl (cI, 4000, .inl S1)), (m7, .inl (cI, 4000, .inl S2))]) hD hS hA [0, 1, 2, 4, 5, 6, 7] rfl
  refine va_callv (va_runV (As := []) (rest := []) ⟨hx, hb, hml, hown, hts⟩ (c_X4_find l D cI cZ cJ t1 t2 _ qy m1 m2 m3 m4 m5 m6 m7 n Bd Hd Wt Fx g kn Gv z1 S1 z2 S2 sp 0 hc hi) (cwV 0 hts gX4_lightest_X4_find rfl rfl rfl (by decide +kernel) ⟨Nat.le_of_ble_eq_true rfl, Nat.le_of_ble_eq_true rfl⟩) ⟨wr_blind, va_recv hK hP (ci := 5) (q0 := 0) rfl rfl, wr_pre hPc hDc hK hE hS hFc [0, 1, 2] rfl⟩ rfl rfl hl.1 rfl (lv_room (Nat.le_of_ble_eq_true rfl)) dX4_lightest_6 ⟨Nat.le_of_ble_eq_true rfl, Nat.le_of_ble_eq_true rfl⟩) hS (fun q _ h => hFc q h) hFc (fun u_6 t H locs ht hvm hw_6 hB hz1 hk1 hS => ?_)
  obtain ⟨hP1, hK1, hD1⟩ := hB
  rw [ht] at hP1
  obtain ⟨hP, hD⟩ := va_join (wr := [(m3, .inl (cI, 14, .inl Wt))]) (w1 := [(qy, .inr (5, [.ref m1, .ref m2, .ref m3, .ref m4, .int (nI n), .int (nI g), .int 1, .ref m5, .ref m6, .int (nI ((CL_ n Bd Hd g).length)), .ref m7, .int (nI ((QL_ n Bd Hd Fx g).length)), .int u_6.2.2.2, .int 0])), (m1, .inl (cI, 14, .inl Bd)), (m2, .inl (cI, 14, .inl Hd)), (m4, .inl (cZ, 14, .inl Fx)), (m5, .inl (cZ, 16384, .inl u_6.1)), (m6, .inl (cI, 4000, .inl u_6.2.1)), (m7, .inl (cI, 4000, .inl u_6.2.2.1))]) hP hD [0, 1, 2, 4, 5, 6, 7] [3] rfl rfl (by decide) (by decide) hk1 hFc hP1 hD1
  have hP : va_P D vwCl [(qy, .inr (5, [.ref m1, .ref m2, .ref m3, .ref m4, .int (nI n), .int (nI g), .int 1, .ref m5, .ref m6, .int (nI ((CL_ n Bd Hd g).length)), .ref m7, .int (nI ((QL_ n Bd Hd Fx g).length)), .int u_6.2.2.2, .int 0])), (m1, .inl (cI, 14, .inl Bd)), (m2, .inl (cI, 14, .inl Hd)), (m3, .inl (cI, 14, .inl Wt)), (m4, .inl (cZ, 14, .inl Fx)), (m5, .inl (cZ, 16384, .inl u_6.1)), (m6, .inl (cI, 4000, .inl u_6.2.1)), (m7, .inl (cI, 4000, .inl u_6.2.2.1))] H := hP.sub [1, 2, 3, 0, 4, 5, 6, 7] rfl
  have hD : va_D A [(qy, .inr (5, [.ref m1, .ref m2, .ref m3, .ref m4, .int (nI n), .int (nI g), .int 1, .ref m5, .ref m6, .int (nI ((CL_ n Bd Hd g).length)), .ref m7, .int (nI ((QL_ n Bd Hd Fx g).length)), .int u_6.2.2.2, .int 0])), (m1, .inl (cI, 14, .inl Bd)), (m2, .inl (cI, 14, .inl Hd)), (m3, .inl (cI, 14, .inl Wt)), (m4, .inl (cZ, 14, .inl Fx)), (m5, .inl (cZ, 16384, .inl u_6.1)), (m6, .inl (cI, 4000, .inl u_6.2.1)), (m7, .inl (cI, 4000, .inl u_6.2.2.1))] := hD.sub [1, 2, 3, 0, 4, 5, 6, 7] (by decide) rfl
  clear hPc hDc hFc hP1 hK1 hD1 hk1 hz1
  refine lv_bipush (v := (-2)) hx hb dX4_lightest_9 (by decide +kernel) ?_
  refine lv_istore_n (lv' := [(1, .int (-2)), (0, .ref qy)]) hx hb dX4_lightest_11 rfl hl (by decide) rfl (fun ls hl => ?_)
  refine lv_iconst (v := 0) hx hb dX4_lightest_12 (by decide +kernel) ?_
  refine lv_istore_n (lv' := [(2, .int 0), (1, .int (-2)), (0, .ref qy)]) hx hb dX4_lightest_13 rfl hl (by decide) rfl (fun ls hl => ?_)
  refine lv_iconst (v := (nI 0)) hx hb dX4_lightest_14 (by decide +kernel) ?_
  refine lv_istore_n (lv' := [(3, .int (nI 0)), (2, .int 0), (1, .int (-2)), (0, .ref qy)]) hx hb dX4_lightest_15 rfl hl (by decide) rfl (fun ls hl => ?_)
  have loop : ∀ (d : Nat) (k : Nat) (y2 y3 : Int32) (H : Heap) (locs : List Loc) (ls : Array Slot), (QL_ n Bd Hd Fx g).length < k + d → k ≤ (QL_ n Bd Hd Fx g).length → (y2, y3) = lt_ Wt (ln_ (QL_ n Bd Hd Fx g)) n k → va_P D vwCl [(qy, .inr (5, [.ref m1, .ref m2, .ref m3, .ref m4, .int (nI n), .int (nI g), .int 1, .ref m5, .ref m6, .int (nI ((CL_ n Bd Hd g).length)), .ref m7, .int (nI ((QL_ n Bd Hd Fx g).length)), .int u_6.2.2.2, .int 0])), (m1, .inl (cI, 14, .inl Bd)), (m2, .inl (cI, 14, .inl Hd)), (m3, .inl (cI, 14, .inl Wt)), (m4, .inl (cZ, 14, .inl Fx)), (m5, .inl (cZ, 16384, .inl u_6.1)), (m6, .inl (cI, 4000, .inl u_6.2.1)), (m7, .inl (cI, 4000, .inl u_6.2.2.1))] H → va_D A [(qy, .inr (5, [.ref m1, .ref m2, .ref m3, .ref m4, .int (nI n), .int (nI g), .int 1, .ref m5, .ref m6, .int (nI ((CL_ n Bd Hd g).length)), .ref m7, .int (nI ((QL_ n Bd Hd Fx g).length)), .int u_6.2.2.2, .int 0])), (m1, .inl (cI, 14, .inl Bd)), (m2, .inl (cI, 14, .inl Hd)), (m3, .inl (cI, 14, .inl Wt)), (m4, .inl (cZ, 14, .inl Fx)), (m5, .inl (cZ, 16384, .inl u_6.1)), (m6, .inl (cI, 4000, .inl u_6.2.1)), (m7, .inl (cI, 4000, .inl u_6.2.2.1))] → va_S A s.heap H locs → lv_has ls 6 [(3, .int (nI k)), (1, .int y2), (2, .int y3), (0, .ref qy)] → W p l e (headSpec wsX4_lightest ({ frames := 2, cells := 0, slots := 0, locals := 49 } : Room)).room s m ([.ref qy] : List Value).toArray below meth c H locs 0 0 (MQ below (va_Qi (S := Co_ × Jm_) (fun r u => u.1 = (n, Bd, Hd, Wt, Fx, g) ∧ q_lightest (n, Bd, Hd, Wt, Fx, g) r ∧ cok_ u.1 ∧ im_ u.1 u.2) (fun u => wd_ D [(cI, .int), (cZ, .boolean), (cJ, .long)] A [(qy, .inr (5, [.ref m1, .ref m2, .ref m3, .ref m4, .int (nI u.1.1), .int (nI u.1.2.2.2.2.2), .int u.2.1, .ref m5, .ref m6, .int (nI u.2.2.2.1), .ref m7, .int (nI u.2.2.2.2.2.1), .int u.2.2.2.2.2.2.2.1, .int u.2.2.2.2.2.2.2.2])), (m1, .inl (cI, 14, .inl u.1.2.1)), (m2, .inl (cI, 14, .inl u.1.2.2.1)), (m3, .inl (cI, 14, .inl u.1.2.2.2.1)), (m4, .inl (cZ, 14, .inl u.1.2.2.2.2.1)), (m5, .inl (cZ, 16384, .inl u.2.2.1)), (m6, .inl (cI, 4000, .inl u.2.2.2.2.1)), (m7, .inl (cI, 4000, .inl u.2.2.2.2.2.2.1))]) A) ([.ref qy] : List Value).toArray s 0 0 A) (F0 m 16 ls []) := by
    intro d
    induction d with
    | zero => intro k y2 y3 H locs ls h1 h2; omega
    | succ d ih =>
      intro k y2 y3 H locs ls h1 h2 hy hP hD hS hl
      refine lv_iload_n hx hb dX4_lightest_16 rfl (lv_at hl 0 rfl) ?_
      refine lv_aload_n hx hb dX4_lightest_17 rfl (lv_at hl 3 rfl) ?_
      refine va_get (D := D) (ci := 5) (v := .int (nI ((QL_ n Bd Hd Fx g).length))) (C := RX4) (T := TX4) (N := 14) hx hb hts iX4 hown hK hP 0 rfl rfl 11 (by decide) (hts (.fieldLink RX4 61 "LeastSetsModel" "cureCount" "I") (by decide +kernel)) (fun _ h9 => h9) rfl dX4_lightest_18 ?_
      refine r_ige hx hb (tgt := 93) (by omega) (by omega) dX4_lightest_21 (by decide) (fun c_21 => ?_) (fun c_21 => ?_)
      · refine lv_iload_n hx hb dX4_lightest_93 rfl (lv_at hl 1 rfl) ?_
        exact W.iret (v := y2) hx hb hr (fun t ht hW => ⟨⟨y2, ((n, Bd, Hd, Wt, Fx, g), (1, u_6.1, (CL_ n Bd Hd g).length, u_6.2.1, (QL_ n Bd Hd Fx g).length, u_6.2.2.1, u_6.2.2.2, 0)), rfl, ⟨rfl, (by have e := congrArg Prod.fst hy; rw [show k = (QL_ n Bd Hd Fx g).length by omega] at e; exact e), hc, ⟨Or.inr rfl, fun _ => ⟨rfl, hw_6.1, rfl, hw_6.2⟩⟩⟩, by rw [ht]; exact hP, va_K.moved hW.alike hK, hD⟩, hS.F ht⟩) hS.2.2 dX4_lightest_94
      · refine lv_iconst (v := 0) hx hb dX4_lightest_24 (by decide +kernel) ?_
        refine lv_istore (lv' := [(4, .int 0), (3, .int (nI k)), (1, .int y2), (2, .int y3), (0, .ref qy)]) hx hb dX4_lightest_25 hl (by decide) rfl (fun ls hl => ?_)
        refine lv_iconst (v := (nI 0)) hx hb dX4_lightest_27 (by decide +kernel) ?_
        refine lv_istore (lv' := [(5, .int (nI 0)), (4, .int 0), (3, .int (nI k)), (1, .int y2), (2, .int y3), (0, .ref qy)]) hx hb dX4_lightest_28 hl (by decide) rfl (fun ls hl => ?_)
        have inner : ∀ (d2 : Nat) (a : Nat) (y4 : Int32) (H : Heap) (locs : List Loc) (ls : Array Slot), n < a + d2 → a ≤ n → y4 = wo_ Wt (ln_ (QL_ n Bd Hd Fx g) k) a → va_P D vwCl [(qy, .inr (5, [.ref m1, .ref m2, .ref m3, .ref m4, .int (nI n), .int (nI g), .int 1, .ref m5, .ref m6, .int (nI ((CL_ n Bd Hd g).length)), .ref m7, .int (nI ((QL_ n Bd Hd Fx g).length)), .int u_6.2.2.2, .int 0])), (m1, .inl (cI, 14, .inl Bd)), (m2, .inl (cI, 14, .inl Hd)), (m3, .inl (cI, 14, .inl Wt)), (m4, .inl (cZ, 14, .inl Fx)), (m5, .inl (cZ, 16384, .inl u_6.1)), (m6, .inl (cI, 4000, .inl u_6.2.1)), (m7, .inl (cI, 4000, .inl u_6.2.2.1))] H → va_D A [(qy, .inr (5, [.ref m1, .ref m2, .ref m3, .ref m4, .int (nI n), .int (nI g), .int 1, .ref m5, .ref m6, .int (nI ((CL_ n Bd Hd g).length)), .ref m7, .int (nI ((QL_ n Bd Hd Fx g).length)), .int u_6.2.2.2, .int 0])), (m1, .inl (cI, 14, .inl Bd)), (m2, .inl (cI, 14, .inl Hd)), (m3, .inl (cI, 14, .inl Wt)), (m4, .inl (cZ, 14, .inl Fx)), (m5, .inl (cZ, 16384, .inl u_6.1)), (m6, .inl (cI, 4000, .inl u_6.2.1)), (m7, .inl (cI, 4000, .inl u_6.2.2.1))] → va_S A s.heap H locs → lv_has ls 6 [(5, .int (nI a)), (4, .int y4), (3, .int (nI k)), (1, .int y2), (2, .int y3), (0, .ref qy)] → W p l e (headSpec wsX4_lightest ({ frames := 2, cells := 0, slots := 0, locals := 49 } : Room)).room s m ([.ref qy] : List Value).toArray below meth c H locs 0 0 (MQ below (va_Qi (S := Co_ × Jm_) (fun r u => u.1 = (n, Bd, Hd, Wt, Fx, g) ∧ q_lightest (n, Bd, Hd, Wt, Fx, g) r ∧ cok_ u.1 ∧ im_ u.1 u.2) (fun u => wd_ D [(cI, .int), (cZ, .boolean), (cJ, .long)] A [(qy, .inr (5, [.ref m1, .ref m2, .ref m3, .ref m4, .int (nI u.1.1), .int (nI u.1.2.2.2.2.2), .int u.2.1, .ref m5, .ref m6, .int (nI u.2.2.2.1), .ref m7, .int (nI u.2.2.2.2.2.1), .int u.2.2.2.2.2.2.2.1, .int u.2.2.2.2.2.2.2.2])), (m1, .inl (cI, 14, .inl u.1.2.1)), (m2, .inl (cI, 14, .inl u.1.2.2.1)), (m3, .inl (cI, 14, .inl u.1.2.2.2.1)), (m4, .inl (cZ, 14, .inl u.1.2.2.2.2.1)), (m5, .inl (cZ, 16384, .inl u.2.2.1)), (m6, .inl (cI, 4000, .inl u.2.2.2.2.1)), (m7, .inl (cI, 4000, .inl u.2.2.2.2.2.2.1))]) A) ([.ref qy] : List Value).toArray s 0 0 A) (F0 m 30 ls []) := by
          intro d2
          induction d2 with
          | zero => intro a y4 H locs ls h1 h2; omega
          | succ d2 ih2 =>
            intro a y4 H locs ls g1 g2 g3 hP hD hS hl
            refine lv_iload hx hb dX4_lightest_30 (lv_at hl 0 rfl) ?_
            refine lv_aload_n hx hb dX4_lightest_32 rfl (lv_at hl 5 rfl) ?_
            refine va_get (D := D) (ci := 5) (v := .int (nI n)) (C := RX4) (T := TX4) (N := 14) hx hb hts iX4 hown hK hP 0 rfl rfl 4 (by decide) (hts (.fieldLink RX4 36 "LeastSetsModel" "count" "I") (by decide +kernel)) (fun _ h9 => h9) rfl dX4_lightest_33 ?_
            refine r_ige hx hb (tgt := 69) (by omega) (by omega) dX4_lightest_36 (by decide) (fun c_36 => ?_) (fun c_36 => ?_)
            · have e4 : y4 = wo_ Wt (ln_ (QL_ n Bd Hd Fx g) k) n := by rw [g3, show a = n by omega]
              refine lv_iload_n hx hb dX4_lightest_69 rfl (lv_at hl 3 rfl) ?_
              refine lv_if_lt (tgt := 82) hx hb dX4_lightest_70 (by decide) (fun c_70 => ?_) (fun c_70 => ?_)
              · refine lv_iload_n hx hb dX4_lightest_82 rfl (lv_at hl 2 rfl) ?_
                refine lv_istore_n (lv' := [(1, .int (nI k)), (5, .int (nI a)), (4, .int y4), (3, .int (nI k)), (2, .int y3), (0, .ref qy)]) hx hb dX4_lightest_83 rfl hl (by decide) rfl (fun ls hl => ?_)
                refine lv_iload hx hb dX4_lightest_84 (lv_at hl 2 rfl) ?_
                refine lv_istore_n (lv' := [(2, .int y4), (1, .int (nI k)), (5, .int (nI a)), (4, .int y4), (3, .int (nI k)), (0, .ref qy)]) hx hb dX4_lightest_86 rfl hl (by decide) rfl (fun ls hl => ?_)
                refine lv_iinc (v := (nI (k + 1))) (lv' := [(3, .int (nI (k + 1))), (2, .int y4), (1, .int (nI k)), (5, .int (nI a)), (4, .int y4), (0, .ref qy)]) hx hb dX4_lightest_87 hl (k := 4) rfl (nI_inc _) (by decide) rfl (fun ls hl => ?_)
                refine lv_goto (tgt := 16) hx hb dX4_lightest_90 (by decide) ?_
                exact ih (k + 1) _ _ H locs ls (by omega) (by omega) (by rw [e4] at *; first | exact lt_yes hy (Or.inl (lt_neg (by omega) hy c_70)) | exact lt_yes hy (Or.inr c_76) | exact lt_no hy (lt_pos c_70) c_76) hP hD hS (lv_sub hl [0, 2, 1, 5] rfl)
              · refine lv_iload hx hb dX4_lightest_73 (lv_at hl 1 rfl) ?_
                refine lv_iload_n hx hb dX4_lightest_75 rfl (lv_at hl 4 rfl) ?_
                refine lv_icmp_lt (tgt := 82) hx hb dX4_lightest_76 (by decide) (fun c_76 => ?_) (fun c_76 => ?_)
                · refine lv_iload_n hx hb dX4_lightest_82 rfl (lv_at hl 2 rfl) ?_
                  refine lv_istore_n (lv' := [(1, .int (nI k)), (5, .int (nI a)), (4, .int y4), (3, .int (nI k)), (2, .int y3), (0, .ref qy)]) hx hb dX4_lightest_83 rfl hl (by decide) rfl (fun ls hl => ?_)
                  refine lv_iload hx hb dX4_lightest_84 (lv_at hl 2 rfl) ?_
                  refine lv_istore_n (lv' := [(2, .int y4), (1, .int (nI k)), (5, .int (nI a)), (4, .int y4), (3, .int (nI k)), (0, .ref qy)]) hx hb dX4_lightest_86 rfl hl (by decide) rfl (fun ls hl => ?_)
                  refine lv_iinc (v := (nI (k + 1))) (lv' := [(3, .int (nI (k + 1))), (2, .int y4), (1, .int (nI k)), (5, .int (nI a)), (4, .int y4), (0, .ref qy)]) hx hb dX4_lightest_87 hl (k := 4) rfl (nI_inc _) (by decide) rfl (fun ls hl => ?_)
                  refine lv_goto (tgt := 16) hx hb dX4_lightest_90 (by decide) ?_
                  exact ih (k + 1) _ _ H locs ls (by omega) (by omega) (by rw [e4] at *; first | exact lt_yes hy (Or.inl (lt_neg (by omega) hy c_70)) | exact lt_yes hy (Or.inr c_76) | exact lt_no hy (lt_pos c_70) c_76) hP hD hS (lv_sub hl [0, 2, 1, 5] rfl)
                · refine lv_goto (tgt := 87) hx hb dX4_lightest_79 (by decide) ?_
                  refine lv_iinc (v := (nI (k + 1))) (lv' := [(3, .int (nI (k + 1))), (5, .int (nI a)), (4, .int y4), (1, .int y2), (2, .int y3), (0, .ref qy)]) hx hb dX4_lightest_87 hl (k := 2) rfl (nI_inc _) (by decide) rfl (fun ls hl => ?_)
                  refine lv_goto (tgt := 16) hx hb dX4_lightest_90 (by decide) ?_
                  exact ih (k + 1) _ _ H locs ls (by omega) (by omega) (by rw [e4] at *; first | exact lt_yes hy (Or.inl (lt_neg (by omega) hy c_70)) | exact lt_yes hy (Or.inr c_76) | exact lt_no hy (lt_pos c_70) c_76) hP hD hS (lv_sub hl [0, 3, 4, 5] rfl)
            · refine lv_iload hx hb dX4_lightest_39 (lv_at hl 1 rfl) ?_
              refine lv_aload_n hx hb dX4_lightest_41 rfl (lv_at hl 5 rfl) ?_
              refine va_get (D := D) (ci := 5) (v := .ref m7) (C := RX4) (T := TX4) (N := 14) hx hb hts iX4 hown hK hP 0 rfl rfl 10 (by decide) (hts (.fieldLink RX4 29 "LeastSetsModel" "cures" "[I") (by decide +kernel)) (fun _ h9 => h9) rfl dX4_lightest_42 ?_
              refine lv_iload_n hx hb dX4_lightest_45 rfl (lv_at hl 2 rfl) ?_
              refine r_iald hx hb hK hP 7 0 rfl rfl k (by omega) (by omega) dX4_lightest_46 ?_
              refine lv_iload hx hb dX4_lightest_47 (lv_at hl 0 rfl) ?_
              refine lv_ishr hx hb dX4_lightest_49 ?_
              refine lv_iconst (v := 1) hx hb dX4_lightest_50 (by decide +kernel) ?_
              refine lv_iand hx hb dX4_lightest_51 ?_
              refine lv_aload_n hx hb dX4_lightest_52 rfl (lv_at hl 5 rfl) ?_
              refine va_get (D := D) (ci := 5) (v := .ref m3) (C := RX4) (T := TX4) (N := 14) hx hb hts iX4 hown hK hP 0 rfl rfl 2 (by decide) (hts (.fieldLink RX4 16 "LeastSetsModel" "weights" "[I") (by decide +kernel)) (fun _ h9 => h9) rfl dX4_lightest_53 ?_
              refine lv_iload hx hb dX4_lightest_56 (lv_at hl 0 rfl) ?_
              refine r_iald hx hb hK hP 3 0 rfl rfl a (by omega) (by omega) dX4_lightest_58 ?_
              refine lv_imul hx hb dX4_lightest_59 ?_
              refine lv_iadd hx hb dX4_lightest_60 ?_
              refine lv_istore (lv' := [(4, .int (y4 + ((((u_6.2.2.1 k) >>> ((nI a) &&& 31)) &&& 1) * (Wt a)))), (5, .int (nI a)), (3, .int (nI k)), (1, .int y2), (2, .int y3), (0, .ref qy)]) hx hb dX4_lightest_61 hl (by decide) rfl (fun ls hl => ?_)
              refine lv_iinc (v := (nI (a + 1))) (lv' := [(5, .int (nI (a + 1))), (4, .int (y4 + ((((u_6.2.2.1 k) >>> ((nI a) &&& 31)) &&& 1) * (Wt a)))), (3, .int (nI k)), (1, .int y2), (2, .int y3), (0, .ref qy)]) hx hb dX4_lightest_63 hl (k := 1) rfl (nI_inc _) (by decide) rfl (fun ls hl => ?_)
              refine lv_goto (tgt := 30) hx hb dX4_lightest_66 (by decide) ?_
              exact ih2 (a + 1) _ H locs ls (by omega) (by omega) (by rw [g3, ln_sx hw_6.2 c_21]; exact wm_step (by omega)) hP hD hS (lv_sub hl [0, 1, 2, 3, 4, 5] rfl)
        exact inner (n + 1) 0 _ H locs ls (by omega) (Nat.zero_le _) rfl hP hD hS (lv_sub hl [0, 1, 2, 3, 4, 5] rfl)
  exact loop ((QL_ n Bd Hd Fx g).length + 1) 0 _ _ H locs ls (by omega) (Nat.zero_le _) rfl hP hD hS (lv_sub hl [0, 2, 1, 3] rfl)
