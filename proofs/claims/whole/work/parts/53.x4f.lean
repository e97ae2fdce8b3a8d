set_option maxHeartbeats 4000000 in
set_option maxRecDepth 100000 in
/-- thrown() -/
theorem c_X4_thrown (l : Launch) (D : va_G) (cI cZ cJ : ClassId) (qy m1 m2 m3 m4 m5 m6 m7 : Nat) (n : Nat) (Bd Hd Wt Fx : Nat → Int32) (g : Nat) (kn : Int32) (Gv : Nat → Int32) (z1 : Nat) (S1 : Nat → Int32) (z2 : Nat) (S2 : Nat → Int32) (sp th : Int32) : Met l yX4_thrown wsX4_thrown ({ frames := 0, cells := 0, slots := 0, locals := 0 } : Room) (va_Pc [.ref qy] (ro_ D [(cI, .int), (cZ, .boolean), (cJ, .long)] [(qy, .inr (5, [.ref m1, .ref m2, .ref m3, .ref m4, .int (nI n), .int (nI g), .int kn, .ref m5, .ref m6, .int (nI z1), .ref m7, .int (nI z2), .int sp, .int th]))])) (vp_Si (fun r => r = th)) 0 0 (fun _ => False) := by
  refine Met.ofW (cc := cX4_thrown) (maxL := 1) (ret := (some .int)) (by decide) rfl ?_
  intro p e s m args below meth c s₁ B hml hv
  obtain ⟨rfl, hP, hK⟩ := hv
  have hx := B.exec
  have hb := B.bytes
  have hr := B.returns
  have hts := atoms_spec (ws := wsX4_thrown) B.pre
  have hown : s.vm.findClass RX4 = some m.cls := findClass_of_methodNamed B.named
  have hlocks := B.notSynchronized
  have iX4 : ∀ w ∈ u_ws RX4 TX4 14, w ∈ wsX4_thrown := by decide +kernel
  have hl := lv_entry ([.ref qy]) (n := 1) (Nat.le_of_ble_eq_true rfl)
  rw [lg_entry_eq]
  generalize (lg_sl ([.ref qy]) ++ List.replicate (1 - (lg_sl ([.ref qy])).length) Slot.unset).toArray = ls at hl ⊢
  have hl : lv_has ls 1 [(0, .ref qy)] := hl
  refine lv_aload_n hx hb dX4_thrown_0 rfl (lv_at hl 0 rfl) ?_
  refine va_get (D := D) (ci := 5) (v := .int th) (C := RX4) (T := TX4) (N := 14) hx hb hts iX4 hown hK hP 0 rfl rfl 13 (by decide) (hts (.fieldLink RX4 32 "LeastSetsModel" "thrown" "I") (by decide +kernel)) (fun _ h9 => h9) rfl dX4_thrown_1 ?_
  exact W.iret (v := th) hx hb hr (fun t ht hW => ⟨th, rfl, rfl, ht⟩) (fun q h => by cases h) dX4_thrown_4
set_option maxHeartbeats 4000000 in
set_option maxRecDepth 100000 in
/-- fact(x) -/
theorem c_X4_fact (l : Launch) (D : va_G) (cI cZ cJ : ClassId) (t1 t2 sz : Nat) (qy m1 m2 m3 m4 m5 m6 m7 : Nat) (n : Nat) (Bd Hd Wt Fx : Nat → Int32) (g : Nat) (kn : Int32) (Gv : Nat → Int32) (z1 : Nat) (S1 : Nat → Int32) (z2 : Nat) (S2 : Nat → Int32) (sp th : Int32) (hc : CO_ n Bd Hd Fx g) (hi : IM_ n Bd Hd Fx g kn z1 S1 z2 S2) (x : Int32) : Met l yX4_fact wsX4_fact ({ frames := 1, cells := 0, slots := 0, locals := 26 } : Room) (va_Pc [.ref qy, .int x] (wr_ D [(cI, .int), (cZ, .boolean), (cJ, .long)] [(qy, .inr (5, [.ref m1, .ref m2, .ref m3, .ref m4, .int (nI n), .int (nI g), .int kn, .ref m5, .ref m6, .int (nI z1), .ref m7, .int (nI z2), .int sp, .int th])), (m1, .inl (cI, 14, .inl Bd)), (m2, .inl (cI, 14, .inl Hd)), (m3, .inl (cI, 14, .inl Wt)), (m4, .inl (cZ, 14, .inl Fx)), (m5, .inl (cZ, 16384, .inl Gv)), (m6, .inl (cI, 4000, .inl S1)), (m7, .inl (cI, 4000, .inl S2))] t1 t2 sz)) (va_Qi (S := Co_ × Jm_) (fun r u => u.1 = (n, Bd, Hd, Wt, Fx, g) ∧ qf_ (fl_ n Bd Hd) x u.2.2.2.2.2.2.2.2 r ∧ cok_ u.1 ∧ im_ u.1 u.2) (fun u => wd_ D [(cI, .int), (cZ, .boolean), (cJ, .long)] (va_A [(qy, .inr (5, [.ref m1, .ref m2, .ref m3, .ref m4, .int (nI n), .int (nI g), .int kn, .ref m5, .ref m6, .int (nI z1), .ref m7, .int (nI z2), .int sp, .int th])), (m1, .inl (cI, 14, .inl Bd)), (m2, .inl (cI, 14, .inl Hd)), (m3, .inl (cI, 14, .inl Wt)), (m4, .inl (cZ, 14, .inl Fx)), (m5, .inl (cZ, 16384, .inl Gv)), (m6, .inl (cI, 4000, .inl S1)), (m7, .inl (cI, 4000, .inl S2))] sz) [(qy, .inr (5, [.ref m1, .ref m2, .ref m3, .ref m4, .int (nI u.1.1), .int (nI u.1.2.2.2.2.2), .int u.2.1, .ref m5, .ref m6, .int (nI u.2.2.2.1), .ref m7, .int (nI u.2.2.2.2.2.1), .int u.2.2.2.2.2.2.2.1, .int u.2.2.2.2.2.2.2.2])), (m1, .inl (cI, 14, .inl u.1.2.1)), (m2, .inl (cI, 14, .inl u.1.2.2.1)), (m3, .inl (cI, 14, .inl u.1.2.2.2.1)), (m4, .inl (cZ, 14, .inl u.1.2.2.2.2.1)), (m5, .inl (cZ, 16384, .inl u.2.2.1)), (m6, .inl (cI, 4000, .inl u.2.2.2.2.1)), (m7, .inl (cI, 4000, .inl u.2.2.2.2.2.2.1))]) (va_A [(qy, .inr (5, [.ref m1, .ref m2, .ref m3, .ref m4, .int (nI n), .int (nI g), .int kn, .ref m5, .ref m6, .int (nI z1), .ref m7, .int (nI z2), .int sp, .int th])), (m1, .inl (cI, 14, .inl Bd)), (m2, .inl (cI, 14, .inl Hd)), (m3, .inl (cI, 14, .inl Wt)), (m4, .inl (cZ, 14, .inl Fx)), (m5, .inl (cZ, 16384, .inl Gv)), (m6, .inl (cI, 4000, .inl S1)), (m7, .inl (cI, 4000, .inl S2))] sz)) 0 0 (va_A [(qy, .inr (5, [.ref m1, .ref m2, .ref m3, .ref m4, .int (nI n), .int (nI g), .int kn, .ref m5, .ref m6, .int (nI z1), .ref m7, .int (nI z2), .int sp, .int th])), (m1, .inl (cI, 14, .inl Bd)), (m2, .inl (cI, 14, .inl Hd)), (m3, .inl (cI, 14, .inl Wt)), (m4, .inl (cZ, 14, .inl Fx)), (m5, .inl (cZ, 16384, .inl Gv)), (m6, .inl (cI, 4000, .inl S1)), (m7, .inl (cI, 4000, .inl S2))] sz) := by
  refine Met.ofW (cc := cX4_fact) (maxL := 5) (ret := (some .int)) (by decide) rfl ?_
  intro p e s m args below meth c s₁ B hml hv
  obtain ⟨rfl, hsz, hP, hK, hD0, hE⟩ := hv
  have hx := B.exec
  have hb := B.bytes
  have hr := B.returns
  have hts := atoms_spec (ws := wsX4_fact) B.pre
  have hown : s.vm.findClass RX4 = some m.cls := findClass_of_methodNamed B.named
  have hlocks := B.notSynchronized
  have iX4 : ∀ w ∈ u_ws RX4 TX4 14, w ∈ wsX4_fact := by decide +kernel
  subst hsz
  have hD := hD0.self (sz := s.heap.size)
  generalize hAe : va_A [(qy, .inr (5, [.ref m1, .ref m2, .ref m3, .ref m4, .int (nI n), .int (nI g), .int kn, .ref m5, .ref m6, .int (nI z1), .ref m7, .int (nI z2), .int sp, .int th])), (m1, .inl (cI, 14, .inl Bd)), (m2, .inl (cI, 14, .inl Hd)), (m3, .inl (cI, 14, .inl Wt)), (m4, .inl (cZ, 14, .inl Fx)), (m5, .inl (cZ, 16384, .inl Gv)), (m6, .inl (cI, 4000, .inl S1)), (m7, .inl (cI, 4000, .inl S2))] s.heap.size = A at hD hE ⊢
  have hA : ∀ q : Nat, s.heap.size ≤ q → A q := fun q h => by rw [← hAe]; exact Or.inr h
  have hS : va_S A s.heap s.heap [] := va_S.rf
  obtain ⟨hn, hg, hok0, hF⟩ := id hc
  have hok : ∀ a, a < n → uI_ (Hd a) < 24 := fun a ha => (hok0 a ha).2
  have h32 : (fl_ n Bd Hd).length ≤ 32 := on_len _ 32 0
  have hF24 : uI_ (cf_ n Bd Hd (-1) n) < 16777216 := cf_lt hok (-1) n
  have hl := lv_entry ([.ref qy, .int x]) (n := 5) (Nat.le_of_ble_eq_true rfl)
  rw [lg_entry_eq]
  generalize (lg_sl ([.ref qy, .int x]) ++ List.replicate (5 - (lg_sl ([.ref qy, .int x])).length) Slot.unset).toArray = ls at hl ⊢
  have hl : lv_has ls 5 [(0, .ref qy), (1, .int x)] := hl
  refine lv_aload_n hx hb dX4_fact_0 rfl (lv_at hl 0 rfl) ?_
  refine lv_iconst (v := (-1)) hx hb dX4_fact_1 (by decide +kernel) ?_
  have hPc := hP.sub (ws' := [(qy, .inr (5, [.ref m1, .ref m2, .ref m3, .ref m4, .int (nI n), .int (nI g), .int kn, .ref m5, .ref m6, .int (nI z1), .ref m7, .int (nI z2), .int sp, .int th])), (m1, .inl (cI, 14, .inl Bd)), (m2, .inl (cI, 14, .inl Hd))]) [0, 1, 2] rfl
  have hDc := hD.sub (ws' := [(qy, .inr (5, [.ref m1, .ref m2, .ref m3, .ref m4, .int (nI n), .int (nI g), .int kn, .ref m5, .ref m6, .int (nI z1), .ref m7, .int (nI z2), .int sp, .int th])), (m1, .inl (cI, 14, .inl Bd)), (m2, .inl (cI, 14, .inl Hd))]) [0, 1, 2] (by decide) rfl
  have hFc := va_free (wc := [(qy, .inr (5, [.ref m1, .ref m2, .ref m3, .ref m4, .int (nI n), .int (nI g), .int kn, .ref m5, .ref m6, .int (nI z1), .ref m7, .int (nI z2), .int sp, .int th])), (m1, .inl (cI, 14, .inl Bd)), (m2, .inl (cI, 14, .inl Hd))]) hD hS hA [0, 1, 2] rfl
  refine va_calli (va_runV (As := [.int (-1)]) (rest := []) ⟨hx, hb, hml, hown, hts⟩ (c_X4_reckon l D cI cZ cJ t1 t2 _ qy m1 m2 m3 m4 m5 m6 m7 n Bd Hd Wt Fx g kn Gv z1 S1 z2 S2 sp th hn hg hok (-1)) (cwV 1 hts gX4_fact_X4_reckon rfl rfl rfl (by decide +kernel) ⟨Nat.le_of_ble_eq_true rfl, Nat.le_of_ble_eq_true rfl⟩) ⟨wr_blind, va_recv hK hP (ci := 5) (q0 := 0) rfl rfl, wr_pre hPc hDc hK hE hS hFc [0, 1, 2] rfl⟩ rfl rfl hl.1 rfl (lv_room (Nat.le_of_ble_eq_true rfl)) dX4_fact_2 ⟨Nat.le_of_ble_eq_true rfl, Nat.le_of_ble_eq_true rfl⟩) hS (fun q _ h => hFc q h) hFc (fun r_2 u_2 t H locs ht hvm hw_2 hB hz1 hk1 hS => ?_)
  obtain ⟨hP1, hK1, hD1⟩ := hB
  rw [ht] at hP1
  obtain ⟨hP, hD⟩ := va_join (wr := [(m3, .inl (cI, 14, .inl Wt)), (m4, .inl (cZ, 14, .inl Fx)), (m5, .inl (cZ, 16384, .inl Gv)), (m6, .inl (cI, 4000, .inl S1)), (m7, .inl (cI, 4000, .inl S2))]) (w1 := [(qy, .inr (5, [.ref m1, .ref m2, .ref m3, .ref m4, .int (nI n), .int (nI g), .int kn, .ref m5, .ref m6, .int (nI z1), .ref m7, .int (nI z2), .int u_2, .int th])), (m1, .inl (cI, 14, .inl Bd)), (m2, .inl (cI, 14, .inl Hd))]) hP hD [0, 1, 2] [3, 4, 5, 6, 7] rfl rfl (by decide) (by decide) hk1 hFc hP1 hD1
  have hP : va_P D vwCl [(qy, .inr (5, [.ref m1, .ref m2, .ref m3, .ref m4, .int (nI n), .int (nI g), .int kn, .ref m5, .ref m6, .int (nI z1), .ref m7, .int (nI z2), .int u_2, .int th])), (m1, .inl (cI, 14, .inl Bd)), (m2, .inl (cI, 14, .inl Hd)), (m3, .inl (cI, 14, .inl Wt)), (m4, .inl (cZ, 14, .inl Fx)), (m5, .inl (cZ, 16384, .inl Gv)), (m6, .inl (cI, 4000, .inl S1)), (m7, .inl (cI, 4000, .inl S2))] H := hP.sub [5, 6, 7, 0, 1, 2, 3, 4] rfl
  have hD : va_D A [(qy, .inr (5, [.ref m1, .ref m2, .ref m3, .ref m4, .int (nI n), .int (nI g), .int kn, .ref m5, .ref m6, .int (nI z1), .ref m7, .int (nI z2), .int u_2, .int th])), (m1, .inl (cI, 14, .inl Bd)), (m2, .inl (cI, 14, .inl Hd)), (m3, .inl (cI, 14, .inl Wt)), (m4, .inl (cZ, 14, .inl Fx)), (m5, .inl (cZ, 16384, .inl Gv)), (m6, .inl (cI, 4000, .inl S1)), (m7, .inl (cI, 4000, .inl S2))] := hD.sub [5, 6, 7, 0, 1, 2, 3, 4] (by decide) rfl
  clear hPc hDc hFc hP1 hK1 hD1 hk1 hz1
  obtain ⟨er, -⟩ := hw_2
  subst er
  refine lv_istore_n (lv' := [(2, .int (cf_ n Bd Hd (-1) n)), (0, .ref qy), (1, .int x)]) hx hb dX4_fact_5 rfl hl (by decide) rfl (fun ls hl => ?_)
  refine lv_iload_n hx hb dX4_fact_6 rfl (lv_at hl 2 rfl) ?_
  refine lv_istore_n (lv' := [(3, .int x), (2, .int (cf_ n Bd Hd (-1) n)), (0, .ref qy), (1, .int x)]) hx hb dX4_fact_7 rfl hl (by decide) rfl (fun ls hl => ?_)
  refine lv_iconst (v := (nI 0)) hx hb dX4_fact_8 (by decide +kernel) ?_
  refine lv_istore (lv' := [(4, .int (nI 0)), (3, .int x), (2, .int (cf_ n Bd Hd (-1) n)), (0, .ref qy), (1, .int x)]) hx hb dX4_fact_9 hl (by decide) rfl (fun ls hl => ?_)
  by_cases hx0 : x < 0
  · refine lv_iload hx hb dX4_fact_11 (lv_at hl 0 rfl) ?_
    refine lv_bipush (v := (nI 24)) hx hb dX4_fact_13 (by decide +kernel) ?_
    refine r_ige hx hb (tgt := 55) (by omega) (by omega) dX4_fact_15 (by decide) (fun c_15 => ?_) (fun c_15 => ?_)
    · exact absurd c_15 (by omega)
    · refine lv_iload_n hx hb dX4_fact_18 rfl (lv_at hl 4 rfl) ?_
      refine lv_if_lt (tgt := 55) hx hb dX4_fact_19 (by decide) (fun c_19 => ?_) (fun c_19 => ?_)
      · refine lv_aload_n hx hb dX4_fact_55 rfl (lv_at hl 3 rfl) ?_
        refine lv_iconst (v := 1) hx hb dX4_fact_56 (by decide +kernel) ?_
        refine va_put (D := D) (ci := 5) (v := .int 1) (ty := .int) (C := RX4) (T := TX4) (N := 14) hx hb hts iX4 tyX4 tyX4_ok nmX4 hown hK hP hD hS 0 rfl rfl 13 (by decide) (hts (.fieldLink RX4 32 "LeastSetsModel" "thrown" "I") (by decide +kernel)) (fun _ h9 => h9) rfl (by decide +kernel) rfl rfl (Nat.le_of_ble_eq_true rfl) dX4_fact_57 (fun H locs hP hD hS => ?_)
        have hP : va_P D vwCl [(qy, .inr (5, [.ref m1, .ref m2, .ref m3, .ref m4, .int (nI n), .int (nI g), .int kn, .ref m5, .ref m6, .int (nI z1), .ref m7, .int (nI z2), .int u_2, .int 1])), (m1, .inl (cI, 14, .inl Bd)), (m2, .inl (cI, 14, .inl Hd)), (m3, .inl (cI, 14, .inl Wt)), (m4, .inl (cZ, 14, .inl Fx)), (m5, .inl (cZ, 16384, .inl Gv)), (m6, .inl (cI, 4000, .inl S1)), (m7, .inl (cI, 4000, .inl S2))] H := hP
        have hD : va_D A [(qy, .inr (5, [.ref m1, .ref m2, .ref m3, .ref m4, .int (nI n), .int (nI g), .int kn, .ref m5, .ref m6, .int (nI z1), .ref m7, .int (nI z2), .int u_2, .int 1])), (m1, .inl (cI, 14, .inl Bd)), (m2, .inl (cI, 14, .inl Hd)), (m3, .inl (cI, 14, .inl Wt)), (m4, .inl (cZ, 14, .inl Fx)), (m5, .inl (cZ, 16384, .inl Gv)), (m6, .inl (cI, 4000, .inl S1)), (m7, .inl (cI, 4000, .inl S2))] := hD
        refine lv_iconst (v := 0) hx hb dX4_fact_60 (by decide +kernel) ?_
        exact W.iret (v := 0) hx hb hr (fun t ht hW => ⟨⟨0, ((n, Bd, Hd, Wt, Fx, g), (kn, Gv, z1, S1, z2, S2, u_2, 1)), rfl, ⟨rfl, qf_neg h32 hx0, hc, hi⟩, by rw [ht]; exact hP, va_K.moved hW.alike hK, hD⟩, hS.F ht⟩) hS.2.2 dX4_fact_61
      · exact absurd hx0 c_19
  · obtain ⟨m0, hm0, ex⟩ := nI_of hx0
    rw [ex] at hl
    have loop : ∀ (d : Nat) (f : Nat) (H : Heap) (locs : List Loc) (ls : Array Slot), 24 < f + d → f ≤ 24 → (on_ (bt (cf_ n Bd Hd (-1) n)) 0 f).length ≤ m0 → va_P D vwCl [(qy, .inr (5, [.ref m1, .ref m2, .ref m3, .ref m4, .int (nI n), .int (nI g), .int kn, .ref m5, .ref m6, .int (nI z1), .ref m7, .int (nI z2), .int u_2, .int th])), (m1, .inl (cI, 14, .inl Bd)), (m2, .inl (cI, 14, .inl Hd)), (m3, .inl (cI, 14, .inl Wt)), (m4, .inl (cZ, 14, .inl Fx)), (m5, .inl (cZ, 16384, .inl Gv)), (m6, .inl (cI, 4000, .inl S1)), (m7, .inl (cI, 4000, .inl S2))] H → va_D A [(qy, .inr (5, [.ref m1, .ref m2, .ref m3, .ref m4, .int (nI n), .int (nI g), .int kn, .ref m5, .ref m6, .int (nI z1), .ref m7, .int (nI z2), .int u_2, .int th])), (m1, .inl (cI, 14, .inl Bd)), (m2, .inl (cI, 14, .inl Hd)), (m3, .inl (cI, 14, .inl Wt)), (m4, .inl (cZ, 14, .inl Fx)), (m5, .inl (cZ, 16384, .inl Gv)), (m6, .inl (cI, 4000, .inl S1)), (m7, .inl (cI, 4000, .inl S2))] → va_S A s.heap H locs → lv_has ls 5 [(4, .int (nI f)), (3, .int (nI (m0 - (on_ (bt (cf_ n Bd Hd (-1) n)) 0 f).length))), (2, .int (cf_ n Bd Hd (-1) n)), (0, .ref qy), (1, .int (nI m0))] → W p l e (headSpec wsX4_fact ({ frames := 1, cells := 0, slots := 0, locals := 26 } : Room)).room s m ([.ref qy, .int x] : List Value).toArray below meth c H locs 0 0 (MQ below (va_Qi (S := Co_ × Jm_) (fun r u => u.1 = (n, Bd, Hd, Wt, Fx, g) ∧ qf_ (fl_ n Bd Hd) x u.2.2.2.2.2.2.2.2 r ∧ cok_ u.1 ∧ im_ u.1 u.2) (fun u => wd_ D [(cI, .int), (cZ, .boolean), (cJ, .long)] A [(qy, .inr (5, [.ref m1, .ref m2, .ref m3, .ref m4, .int (nI u.1.1), .int (nI u.1.2.2.2.2.2), .int u.2.1, .ref m5, .ref m6, .int (nI u.2.2.2.1), .ref m7, .int (nI u.2.2.2.2.2.1), .int u.2.2.2.2.2.2.2.1, .int u.2.2.2.2.2.2.2.2])), (m1, .inl (cI, 14, .inl u.1.2.1)), (m2, .inl (cI, 14, .inl u.1.2.2.1)), (m3, .inl (cI, 14, .inl u.1.2.2.2.1)), (m4, .inl (cZ, 14, .inl u.1.2.2.2.2.1)), (m5, .inl (cZ, 16384, .inl u.2.2.1)), (m6, .inl (cI, 4000, .inl u.2.2.2.2.1)), (m7, .inl (cI, 4000, .inl u.2.2.2.2.2.2.1))]) A) ([.ref qy, .int x] : List Value).toArray s 0 0 A) (F0 m 11 ls []) := by
      intro d
      induction d with
      | zero => intro f H locs ls h1 h2; omega
      | succ d ih =>
        intro f H locs ls h1 h2 h3 hP hD hS hl
        have hsu := fl_succ (cf_ n Bd Hd (-1) n) f
        refine lv_iload hx hb dX4_fact_11 (lv_at hl 0 rfl) ?_
        refine lv_bipush (v := (nI 24)) hx hb dX4_fact_13 (by decide +kernel) ?_
        refine r_ige hx hb (tgt := 55) (by omega) (by omega) dX4_fact_15 (by decide) (fun c_15 => ?_) (fun c_15 => ?_)
        · refine lv_aload_n hx hb dX4_fact_55 rfl (lv_at hl 3 rfl) ?_
          refine lv_iconst (v := 1) hx hb dX4_fact_56 (by decide +kernel) ?_
          refine va_put (D := D) (ci := 5) (v := .int 1) (ty := .int) (C := RX4) (T := TX4) (N := 14) hx hb hts iX4 tyX4 tyX4_ok nmX4 hown hK hP hD hS 0 rfl rfl 13 (by decide) (hts (.fieldLink RX4 32 "LeastSetsModel" "thrown" "I") (by decide +kernel)) (fun _ h9 => h9) rfl (by decide +kernel) rfl rfl (Nat.le_of_ble_eq_true rfl) dX4_fact_57 (fun H locs hP hD hS => ?_)
          have hP : va_P D vwCl [(qy, .inr (5, [.ref m1, .ref m2, .ref m3, .ref m4, .int (nI n), .int (nI g), .int kn, .ref m5, .ref m6, .int (nI z1), .ref m7, .int (nI z2), .int u_2, .int 1])), (m1, .inl (cI, 14, .inl Bd)), (m2, .inl (cI, 14, .inl Hd)), (m3, .inl (cI, 14, .inl Wt)), (m4, .inl (cZ, 14, .inl Fx)), (m5, .inl (cZ, 16384, .inl Gv)), (m6, .inl (cI, 4000, .inl S1)), (m7, .inl (cI, 4000, .inl S2))] H := hP
          have hD : va_D A [(qy, .inr (5, [.ref m1, .ref m2, .ref m3, .ref m4, .int (nI n), .int (nI g), .int kn, .ref m5, .ref m6, .int (nI z1), .ref m7, .int (nI z2), .int u_2, .int 1])), (m1, .inl (cI, 14, .inl Bd)), (m2, .inl (cI, 14, .inl Hd)), (m3, .inl (cI, 14, .inl Wt)), (m4, .inl (cZ, 14, .inl Fx)), (m5, .inl (cZ, 16384, .inl Gv)), (m6, .inl (cI, 4000, .inl S1)), (m7, .inl (cI, 4000, .inl S2))] := hD
          refine lv_iconst (v := 0) hx hb dX4_fact_60 (by decide +kernel) ?_
          exact W.iret (v := 0) hx hb hr (fun t ht hW => ⟨⟨0, ((n, Bd, Hd, Wt, Fx, g), (kn, Gv, z1, S1, z2, S2, u_2, 1)), rfl, ⟨rfl, (by rw [ex]; first | exact Or.inl ⟨rfl, _, (fl_get c_15 hb1).1, by rw [heq], (fl_get c_15 hb1).2.symm⟩ | exact qf_no hF24 hm0 (by rw [show f = 24 by omega] at h3; exact h3)), hc, hi⟩, by rw [ht]; exact hP, va_K.moved hW.alike hK, hD⟩, hS.F ht⟩) hS.2.2 dX4_fact_61
        · refine lv_iload_n hx hb dX4_fact_18 rfl (lv_at hl 4 rfl) ?_
          refine lv_if_lt (tgt := 55) hx hb dX4_fact_19 (by decide) (fun c_19 => ?_) (fun c_19 => ?_)
          · exact absurd c_19 (nI_pos hm0)
          · refine lv_iload_n hx hb dX4_fact_22 rfl (lv_at hl 2 rfl) ?_
            refine lv_iload hx hb dX4_fact_23 (lv_at hl 0 rfl) ?_
            refine lv_ishr hx hb dX4_fact_25 ?_
            refine lv_iconst (v := 1) hx hb dX4_fact_26 (by decide +kernel) ?_
            refine lv_iand hx hb dX4_fact_27 ?_
            refine lv_if_ne (tgt := 34) hx hb dX4_fact_28 (by decide) (fun c_28 => ?_) (fun c_28 => ?_)
            · have hb1 : bt (cf_ n Bd Hd (-1) n) f = true := by simpa using fun q => c_28 ((b_ask0 (by omega) _).mpr q)
              rw [hb1] at hsu
              refine lv_iload_n hx hb dX4_fact_34 rfl (lv_at hl 1 rfl) ?_
              refine lv_if_ne (tgt := 46) hx hb dX4_fact_35 (by decide) (fun c_35 => ?_) (fun c_35 => ?_)
              · have hlt : (on_ (bt (cf_ n Bd Hd (-1) n)) 0 f).length < m0 := Nat.lt_of_le_of_ne h3 (fun q => c_35 (by rw [q, Nat.sub_self]; rfl))
                refine lv_iinc (v := (nI (m0 - ((on_ (bt (cf_ n Bd Hd (-1) n)) 0 f).length + 1)))) (lv' := [(3, .int (nI (m0 - ((on_ (bt (cf_ n Bd Hd (-1) n)) 0 f).length + 1)))), (4, .int (nI f)), (2, .int (cf_ n Bd Hd (-1) n)), (0, .ref qy), (1, .int (nI m0))]) hx hb dX4_fact_46 hl (k := 1) rfl (fc_dec hlt) (by decide) rfl (fun ls hl => ?_)
                refine lv_iinc (v := (nI (f + 1))) (lv' := [(4, .int (nI (f + 1))), (3, .int (nI (m0 - ((on_ (bt (cf_ n Bd Hd (-1) n)) 0 f).length + 1)))), (2, .int (cf_ n Bd Hd (-1) n)), (0, .ref qy), (1, .int (nI m0))]) hx hb dX4_fact_49 hl (k := 1) rfl (nI_inc _) (by decide) rfl (fun ls hl => ?_)
                refine lv_goto (tgt := 11) hx hb dX4_fact_52 (by decide) ?_
                rw [show (on_ (bt (cf_ n Bd Hd (-1) n)) 0 f).length + 1 = (on_ (bt (cf_ n Bd Hd (-1) n)) 0 (f + 1)).length by rw [hsu]; rfl] at hl
                exact ih (f + 1) H locs ls (by omega) (by omega) (by rw [hsu]; first | exact h3 | exact hlt) hP hD hS (lv_sub hl [0, 1, 2, 3, 4] rfl)
              · have heq : m0 = (on_ (bt (cf_ n Bd Hd (-1) n)) 0 f).length := by
                  have q0 := (nI_eq (b := 0) (by omega) (by omega)).mp c_35
                  omega
                refine lv_aload_n hx hb dX4_fact_38 rfl (lv_at hl 3 rfl) ?_
                refine lv_iconst (v := 0) hx hb dX4_fact_39 (by decide +kernel) ?_
                refine va_put (D := D) (ci := 5) (v := .int 0) (ty := .int) (C := RX4) (T := TX4) (N := 14) hx hb hts iX4 tyX4 tyX4_ok nmX4 hown hK hP hD hS 0 rfl rfl 13 (by decide) (hts (.fieldLink RX4 32 "LeastSetsModel" "thrown" "I") (by decide +kernel)) (fun _ h9 => h9) rfl (by decide +kernel) rfl rfl (Nat.le_of_ble_eq_true rfl) dX4_fact_40 (fun H locs hP hD hS => ?_)
                have hP : va_P D vwCl [(qy, .inr (5, [.ref m1, .ref m2, .ref m3, .ref m4, .int (nI n), .int (nI g), .int kn, .ref m5, .ref m6, .int (nI z1), .ref m7, .int (nI z2), .int u_2, .int 0])), (m1, .inl (cI, 14, .inl Bd)), (m2, .inl (cI, 14, .inl Hd)), (m3, .inl (cI, 14, .inl Wt)), (m4, .inl (cZ, 14, .inl Fx)), (m5, .inl (cZ, 16384, .inl Gv)), (m6, .inl (cI, 4000, .inl S1)), (m7, .inl (cI, 4000, .inl S2))] H := hP
                have hD : va_D A [(qy, .inr (5, [.ref m1, .ref m2, .ref m3, .ref m4, .int (nI n), .int (nI g), .int kn, .ref m5, .ref m6, .int (nI z1), .ref m7, .int (nI z2), .int u_2, .int 0])), (m1, .inl (cI, 14, .inl Bd)), (m2, .inl (cI, 14, .inl Hd)), (m3, .inl (cI, 14, .inl Wt)), (m4, .inl (cZ, 14, .inl Fx)), (m5, .inl (cZ, 16384, .inl Gv)), (m6, .inl (cI, 4000, .inl S1)), (m7, .inl (cI, 4000, .inl S2))] := hD
                refine lv_iload hx hb dX4_fact_43 (lv_at hl 0 rfl) ?_
                exact W.iret (v := (nI f)) hx hb hr (fun t ht hW => ⟨⟨(nI f), ((n, Bd, Hd, Wt, Fx, g), (kn, Gv, z1, S1, z2, S2, u_2, 0)), rfl, ⟨rfl, (by rw [ex]; first | exact Or.inl ⟨rfl, _, (fl_get c_15 hb1).1, by rw [heq], (fl_get c_15 hb1).2.symm⟩ | exact qf_no hF24 hm0 (by rw [show f = 24 by omega] at h3; exact h3)), hc, hi⟩, by rw [ht]; exact hP, va_K.moved hW.alike hK, hD⟩, hS.F ht⟩) hS.2.2 dX4_fact_45
            · have hb0 : bt (cf_ n Bd Hd (-1) n) f = false := (b_ask0 (by omega) _).mp c_28
              rw [hb0] at hsu
              refine lv_goto (tgt := 49) hx hb dX4_fact_31 (by decide) ?_
              refine lv_iinc (v := (nI (f + 1))) (lv' := [(4, .int (nI (f + 1))), (3, .int (nI (m0 - (on_ (bt (cf_ n Bd Hd (-1) n)) 0 f).length))), (2, .int (cf_ n Bd Hd (-1) n)), (0, .ref qy), (1, .int (nI m0))]) hx hb dX4_fact_49 hl (k := 0) rfl (nI_inc _) (by decide) rfl (fun ls hl => ?_)
              refine lv_goto (tgt := 11) hx hb dX4_fact_52 (by decide) ?_
              rw [show (on_ (bt (cf_ n Bd Hd (-1) n)) 0 f).length = (on_ (bt (cf_ n Bd Hd (-1) n)) 0 (f + 1)).length by rw [hsu]; rfl] at hl
              exact ih (f + 1) H locs ls (by omega) (by omega) (by rw [hsu]; first | exact h3 | exact hlt) hP hD hS (lv_sub hl [0, 1, 2, 3, 4] rfl)
    exact loop 25 0 H locs ls (by omega) (by omega) (Nat.zero_le _) hP hD hS (lv_sub hl [0, 1, 2, 3, 4] rfl)
