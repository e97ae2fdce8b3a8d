set_option maxHeartbeats 4000000 in
set_option maxRecDepth 100000 in
/-- find() -/
theorem c_X4_find (l : Launch) (D : va_G) (cI cZ cJ : ClassId) (t1 t2 sz : Nat) (qy m1 m2 m3 m4 m5 m6 m7 : Nat) (n : Nat) (Bd Hd Wt Fx : Nat → Int32) (g : Nat) (kn : Int32) (Gv : Nat → Int32) (z1 : Nat) (S1 : Nat → Int32) (z2 : Nat) (S2 : Nat → Int32) (sp th : Int32) (hc : CO_ n Bd Hd Fx g) (hi : IM_ n Bd Hd Fx g kn z1 S1 z2 S2) : Met l yX4_find wsX4_find ({ frames := 1, cells := 0, slots := 0, locals := 26 } : Room) (va_Pc [.ref qy] (wr_ D [(cI, .int), (cZ, .boolean), (cJ, .long)] [(qy, .inr (5, [.ref m1, .ref m2, .ref m3, .ref m4, .int (nI n), .int (nI g), .int kn, .ref m5, .ref m6, .int (nI z1), .ref m7, .int (nI z2), .int sp, .int th])), (m1, .inl (cI, 14, .inl Bd)), (m2, .inl (cI, 14, .inl Hd)), (m4, .inl (cZ, 14, .inl Fx)), (m5, .inl (cZ, 16384, .inl Gv)), (m6, .inl (cI, 4000, .inl S1)), (m7, .inl (cI, 4000, .inl S2))] t1 t2 sz)) (va_Qv (S := (Nat → Int32) × (Nat → Int32) × (Nat → Int32) × Int32) (fun u => sx_ u.2.1 (CL_ n Bd Hd g) ∧ sx_ u.2.2.1 (QL_ n Bd Hd Fx g)) (fun u => wd_ D [(cI, .int), (cZ, .boolean), (cJ, .long)] (va_A [(qy, .inr (5, [.ref m1, .ref m2, .ref m3, .ref m4, .int (nI n), .int (nI g), .int kn, .ref m5, .ref m6, .int (nI z1), .ref m7, .int (nI z2), .int sp, .int th])), (m1, .inl (cI, 14, .inl Bd)), (m2, .inl (cI, 14, .inl Hd)), (m4, .inl (cZ, 14, .inl Fx)), (m5, .inl (cZ, 16384, .inl Gv)), (m6, .inl (cI, 4000, .inl S1)), (m7, .inl (cI, 4000, .inl S2))] sz) [(qy, .inr (5, [.ref m1, .ref m2, .ref m3, .ref m4, .int (nI n), .int (nI g), .int 1, .ref m5, .ref m6, .int (nI ((CL_ n Bd Hd g).length)), .ref m7, .int (nI ((QL_ n Bd Hd Fx g).length)), .int u.2.2.2, .int th])), (m1, .inl (cI, 14, .inl Bd)), (m2, .inl (cI, 14, .inl Hd)), (m4, .inl (cZ, 14, .inl Fx)), (m5, .inl (cZ, 16384, .inl u.1)), (m6, .inl (cI, 4000, .inl u.2.1)), (m7, .inl (cI, 4000, .inl u.2.2.1))]) (va_A [(qy, .inr (5, [.ref m1, .ref m2, .ref m3, .ref m4, .int (nI n), .int (nI g), .int kn, .ref m5, .ref m6, .int (nI z1), .ref m7, .int (nI z2), .int sp, .int th])), (m1, .inl (cI, 14, .inl Bd)), (m2, .inl (cI, 14, .inl Hd)), (m4, .inl (cZ, 14, .inl Fx)), (m5, .inl (cZ, 16384, .inl Gv)), (m6, .inl (cI, 4000, .inl S1)), (m7, .inl (cI, 4000, .inl S2))] sz)) 0 0 (va_A [(qy, .inr (5, [.ref m1, .ref m2, .ref m3, .ref m4, .int (nI n), .int (nI g), .int kn, .ref m5, .ref m6, .int (nI z1), .ref m7, .int (nI z2), .int sp, .int th])), (m1, .inl (cI, 14, .inl Bd)), (m2, .inl (cI, 14, .inl Hd)), (m4, .inl (cZ, 14, .inl Fx)), (m5, .inl (cZ, 16384, .inl Gv)), (m6, .inl (cI, 4000, .inl S1)), (m7, .inl (cI, 4000, .inl S2))] sz) := by
  refine Met.ofW (cc := cX4_find) (maxL := 4) (ret := none) (by decide) rfl ?_
  intro p e s m args below meth c s₁ B hml hv
  obtain ⟨rfl, hsz, hP, hK, hD0, hE⟩ := hv
  have hx := B.exec
  have hb := B.bytes
  have hr := B.returns
  have hts := atoms_spec (ws := wsX4_find) B.pre
  have hown : s.vm.findClass RX4 = some m.cls := findClass_of_methodNamed B.named
  have hlocks := B.notSynchronized
  have iX4 : ∀ w ∈ u_ws RX4 TX4 14, w ∈ wsX4_find := by decide +kernel
  subst hsz
  have hD := hD0.self (sz := s.heap.size)
  generalize hAe : va_A [(qy, .inr (5, [.ref m1, .ref m2, .ref m3, .ref m4, .int (nI n), .int (nI g), .int kn, .ref m5, .ref m6, .int (nI z1), .ref m7, .int (nI z2), .int sp, .int th])), (m1, .inl (cI, 14, .inl Bd)), (m2, .inl (cI, 14, .inl Hd)), (m4, .inl (cZ, 14, .inl Fx)), (m5, .inl (cZ, 16384, .inl Gv)), (m6, .inl (cI, 4000, .inl S1)), (m7, .inl (cI, 4000, .inl S2))] s.heap.size = A at hD hE ⊢
  have hA : ∀ q : Nat, s.heap.size ≤ q → A q := fun q h => by rw [← hAe]; exact Or.inr h
  have hS : va_S A s.heap s.heap [] := va_S.rf
  obtain ⟨hn, hg, hok0, hF⟩ := id hc
  have hok : ∀ a, a < n → uI_ (Hd a) < 24 := fun a ha => (hok0 a ha).2
  have h14 := pow_le14 hn
  have hpos := Nat.two_pow_pos n
  have hCL := CL_len hn Bd Hd g
  have hQL := QL_len hn Bd Hd Fx g
  have hl := lv_entry ([.ref qy]) (n := 4) (Nat.le_of_ble_eq_true rfl)
  rw [lg_entry_eq]
  generalize (lg_sl ([.ref qy]) ++ List.replicate (4 - (lg_sl ([.ref qy])).length) Slot.unset).toArray = ls at hl ⊢
  have hl : lv_has ls 4 [(0, .ref qy)] := hl
  have two : ∀ (d : Nat) (z : Nat) (L1 : List Nat) (S1 : Nat → Int32) (L2 : List Nat) (S2 : Nat → Int32) (Gv : Nat → Int32) (sp : Int32) (H : Heap) (locs : List Loc) (ls : Array Slot), n + 1 < z + d → z ≤ n + 1 → L1 = ls_ (cp_ n Bd Hd g) z (2 ^ n) → sx_ S1 L1 → L2 = ls_ (qp_ n Bd Hd Fx g) z (2 ^ n) → sx_ S2 L2 → gv_is (mc_ n Bd Hd g) (2 ^ n) Gv → va_P D vwCl [(qy, .inr (5, [.ref m1, .ref m2, .ref m3, .ref m4, .int (nI n), .int (nI g), .int 1, .ref m5, .ref m6, .int (nI L1.length), .ref m7, .int (nI L2.length), .int sp, .int th])), (m1, .inl (cI, 14, .inl Bd)), (m2, .inl (cI, 14, .inl Hd)), (m4, .inl (cZ, 14, .inl Fx)), (m5, .inl (cZ, 16384, .inl Gv)), (m6, .inl (cI, 4000, .inl S1)), (m7, .inl (cI, 4000, .inl S2))] H → va_D A [(qy, .inr (5, [.ref m1, .ref m2, .ref m3, .ref m4, .int (nI n), .int (nI g), .int 1, .ref m5, .ref m6, .int (nI L1.length), .ref m7, .int (nI L2.length), .int sp, .int th])), (m1, .inl (cI, 14, .inl Bd)), (m2, .inl (cI, 14, .inl Hd)), (m4, .inl (cZ, 14, .inl Fx)), (m5, .inl (cZ, 16384, .inl Gv)), (m6, .inl (cI, 4000, .inl S1)), (m7, .inl (cI, 4000, .inl S2))] → va_S A s.heap H locs → lv_has ls 4 [(2, .int (nI z)), (0, .ref qy), (1, .int (nI (2 ^ n - 1)))] → W p l e (headSpec wsX4_find ({ frames := 1, cells := 0, slots := 0, locals := 26 } : Room)).room s m ([.ref qy] : List Value).toArray below meth c H locs 0 0 (MQ below (va_Qv (S := (Nat → Int32) × (Nat → Int32) × (Nat → Int32) × Int32) (fun u => sx_ u.2.1 (CL_ n Bd Hd g) ∧ sx_ u.2.2.1 (QL_ n Bd Hd Fx g)) (fun u => wd_ D [(cI, .int), (cZ, .boolean), (cJ, .long)] A [(qy, .inr (5, [.ref m1, .ref m2, .ref m3, .ref m4, .int (nI n), .int (nI g), .int 1, .ref m5, .ref m6, .int (nI ((CL_ n Bd Hd g).length)), .ref m7, .int (nI ((QL_ n Bd Hd Fx g).length)), .int u.2.2.2, .int th])), (m1, .inl (cI, 14, .inl Bd)), (m2, .inl (cI, 14, .inl Hd)), (m4, .inl (cZ, 14, .inl Fx)), (m5, .inl (cZ, 16384, .inl u.1)), (m6, .inl (cI, 4000, .inl u.2.1)), (m7, .inl (cI, 4000, .inl u.2.2.1))]) A) ([.ref qy] : List Value).toArray s 0 0 A) (F0 m 74 ls []) := by
    intro d
    induction d with
    | zero => intro z L1 S1 L2 S2 Gv sp H locs ls h1 h2; omega
    | succ d ih =>
      intro z L1 S1 L2 S2 Gv sp H locs ls h1 h2 e1 x1 e2 x2 hG hP hD hS hl
      refine lv_iload_n hx hb dX4_find_74 rfl (lv_at hl 0 rfl) ?_
      refine lv_aload_n hx hb dX4_find_75 rfl (lv_at hl 1 rfl) ?_
      refine va_get (D := D) (ci := 5) (v := .int (nI n)) (C := RX4) (T := TX4) (N := 14) hx hb hts iX4 hown hK hP 0 rfl rfl 4 (by decide) (hts (.fieldLink RX4 36 "LeastSetsModel" "count" "I") (by decide +kernel)) (fun _ h9 => h9) rfl dX4_find_76 ?_
      refine r_igt hx hb (tgt := 169) (by omega) (by omega) dX4_find_79 (by decide) (fun c_79 => ?_) (fun c_79 => ?_)
      · have ez : z = n + 1 := by omega
        subst ez
        have e1 : L1 = (CL_ n Bd Hd g) := e1
        have e2 : L2 = (QL_ n Bd Hd Fx g) := e2
        subst e1
        subst e2
        exact W.vret hx hb hr (fun t ht hW => ⟨⟨(Gv, S1, S2, sp), rfl, ⟨x1, x2⟩, by rw [ht]; exact hP, va_K.moved hW.alike hK, hD⟩, hS.F ht⟩) hS.2.2 dX4_find_169
      · refine lv_iconst (v := (nI 0)) hx hb dX4_find_82 (by decide +kernel) ?_
        refine lv_istore_n (lv' := [(3, .int (nI 0)), (2, .int (nI z)), (0, .ref qy), (1, .int (nI (2 ^ n - 1)))]) hx hb dX4_find_83 rfl hl (by decide) rfl (fun ls hl => ?_)
        have three : ∀ (d2 : Nat) (v : Nat) (L1 : List Nat) (S1 : Nat → Int32) (L2 : List Nat) (S2 : Nat → Int32) (H : Heap) (locs : List Loc) (ls : Array Slot), 2 ^ n < v + d2 → v ≤ 2 ^ n → L1 = ls_ (cp_ n Bd Hd g) z (2 ^ n) ++ on_ (fz_ (cp_ n Bd Hd g) z) 0 v → sx_ S1 L1 → L2 = ls_ (qp_ n Bd Hd Fx g) z (2 ^ n) ++ on_ (fz_ (qp_ n Bd Hd Fx g) z) 0 v → sx_ S2 L2 → va_P D vwCl [(qy, .inr (5, [.ref m1, .ref m2, .ref m3, .ref m4, .int (nI n), .int (nI g), .int 1, .ref m5, .ref m6, .int (nI L1.length), .ref m7, .int (nI L2.length), .int sp, .int th])), (m1, .inl (cI, 14, .inl Bd)), (m2, .inl (cI, 14, .inl Hd)), (m4, .inl (cZ, 14, .inl Fx)), (m5, .inl (cZ, 16384, .inl Gv)), (m6, .inl (cI, 4000, .inl S1)), (m7, .inl (cI, 4000, .inl S2))] H → va_D A [(qy, .inr (5, [.ref m1, .ref m2, .ref m3, .ref m4, .int (nI n), .int (nI g), .int 1, .ref m5, .ref m6, .int (nI L1.length), .ref m7, .int (nI L2.length), .int sp, .int th])), (m1, .inl (cI, 14, .inl Bd)), (m2, .inl (cI, 14, .inl Hd)), (m4, .inl (cZ, 14, .inl Fx)), (m5, .inl (cZ, 16384, .inl Gv)), (m6, .inl (cI, 4000, .inl S1)), (m7, .inl (cI, 4000, .inl S2))] → va_S A s.heap H locs → lv_has ls 4 [(3, .int (nI v)), (2, .int (nI z)), (0, .ref qy), (1, .int (nI (2 ^ n - 1)))] → W p l e (headSpec wsX4_find ({ frames := 1, cells := 0, slots := 0, locals := 26 } : Room)).room s m ([.ref qy] : List Value).toArray below meth c H locs 0 0 (MQ below (va_Qv (S := (Nat → Int32) × (Nat → Int32) × (Nat → Int32) × Int32) (fun u => sx_ u.2.1 (CL_ n Bd Hd g) ∧ sx_ u.2.2.1 (QL_ n Bd Hd Fx g)) (fun u => wd_ D [(cI, .int), (cZ, .boolean), (cJ, .long)] A [(qy, .inr (5, [.ref m1, .ref m2, .ref m3, .ref m4, .int (nI n), .int (nI g), .int 1, .ref m5, .ref m6, .int (nI ((CL_ n Bd Hd g).length)), .ref m7, .int (nI ((QL_ n Bd Hd Fx g).length)), .int u.2.2.2, .int th])), (m1, .inl (cI, 14, .inl Bd)), (m2, .inl (cI, 14, .inl Hd)), (m4, .inl (cZ, 14, .inl Fx)), (m5, .inl (cZ, 16384, .inl u.1)), (m6, .inl (cI, 4000, .inl u.2.1)), (m7, .inl (cI, 4000, .inl u.2.2.1))]) A) ([.ref qy] : List Value).toArray s 0 0 A) (F0 m 84 ls []) := by
          intro d2
          induction d2 with
          | zero => intro v L1 S1 L2 S2 H locs ls h1 h2; omega
          | succ d2 ih2 =>
            intro v L1 S1 L2 S2 H locs ls g1 g2 e1 x1 e2 x2 hP hD hS hl
            have hl1 : L1.length ≤ 3432 := by rw [e1]; exact Nat.le_trans (ls_room2 (m := n + 1) (by omega) g2) hCL
            have hl2 : L2.length ≤ 3432 := by rw [e2]; exact Nat.le_trans (ls_room2 (m := n + 1) (by omega) g2) hQL
            refine lv_iload_n hx hb dX4_find_84 rfl (lv_at hl 0 rfl) ?_
            refine lv_iload_n hx hb dX4_find_85 rfl (lv_at hl 3 rfl) ?_
            refine r_igt hx hb (tgt := 163) (by omega) (by omega) dX4_find_86 (by decide) (fun c_86 => ?_) (fun c_86 => ?_)
            · refine lv_iinc (v := (nI (z + 1))) (lv' := [(2, .int (nI (z + 1))), (3, .int (nI v)), (0, .ref qy), (1, .int (nI (2 ^ n - 1)))]) hx hb dX4_find_163 hl (k := 1) rfl (nI_inc _) (by decide) rfl (fun ls hl => ?_)
              refine lv_goto (tgt := 74) hx hb dX4_find_166 (by decide) ?_
              exact ih (z + 1) L1 S1 L2 S2 Gv sp H locs ls (by omega) (by omega) (by rw [e1, show v = 2 ^ n by omega]; rfl) x1 (by rw [e2, show v = 2 ^ n by omega]; rfl) x2 hG hP hD hS (lv_sub hl [0, 2, 3] rfl)
            · refine lv_iload_n hx hb dX4_find_89 rfl (lv_at hl 0 rfl) ?_
              refine vp_callSi (va_runS (As := [.int (nI v)]) (rest := []) ⟨hx, hb, hml, hown, hts⟩ (c_X4_size l v (by omega)) (va_cwS 1 hts gX4_find_X4_size rfl rfl rfl (by decide +kernel) ⟨Nat.le_of_ble_eq_true rfl, Nat.le_of_ble_eq_true rfl⟩) ⟨no_blind, no_pre trivial⟩ rfl rfl hl.1 rfl (lv_room (Nat.le_of_ble_eq_true rfl)) dX4_find_90 ⟨Nat.le_of_ble_eq_true rfl, Nat.le_of_ble_eq_true rfl⟩).run (fun r_90 hr_90 => ?_)
              subst hr_90
              have hp14 := pcF_le 14 v
              refine lv_iload_n hx hb dX4_find_93 rfl (lv_at hl 1 rfl) ?_
              refine lv_icmp_eq (tgt := 100) hx hb dX4_find_94 (by decide) (fun c_94 => ?_) (fun c_94 => ?_)
              · have hez : pcF 14 v = z := (nI_eq (by omega) (by omega)).mp c_94
                refine lv_aload_n hx hb dX4_find_100 rfl (lv_at hl 2 rfl) ?_
                refine lv_iload_n hx hb dX4_find_101 rfl (lv_at hl 0 rfl) ?_
                refine vp_callSi (va_runV (As := [.int (nI v)]) (rest := []) ⟨hx, hb, hml, hown, hts⟩ (c_X4_isCause l D cI cZ cJ qy m1 m2 m3 m4 m5 m6 m7 n Bd Hd Wt Fx g 1 Gv L1.length S1 L2.length S2 sp th hn v (by omega) hG) (cwV 1 hts gX4_find_X4_isCause rfl rfl rfl (by decide +kernel) ⟨Nat.le_of_ble_eq_true rfl, Nat.le_of_ble_eq_true rfl⟩) ⟨ro_blind, va_recv hK hP (ci := 5) (q0 := 0) rfl rfl, ro_pre (hP.sub (ws' := [(qy, .inr (5, [.ref m1, .ref m2, .ref m3, .ref m4, .int (nI n), .int (nI g), .int 1, .ref m5, .ref m6, .int (nI L1.length), .ref m7, .int (nI L2.length), .int sp, .int th])), (m5, .inl (cZ, 16384, .inl Gv))]) [0, 4] rfl) hK [0, 1, 2] rfl⟩ rfl rfl hl.1 rfl (lv_room (Nat.le_of_ble_eq_true rfl)) dX4_find_102 ⟨Nat.le_of_ble_eq_true rfl, Nat.le_of_ble_eq_true rfl⟩).run (fun r_102 hr_102 => ?_)
                refine lv_if_eq (tgt := 128) hx hb dX4_find_105 (by decide) (fun c_105 => ?_) (fun c_105 => ?_)
                · have n1 : ¬ (cp_ n Bd Hd g) v = true := fun q => by rcases hr_102 with z9 | z9; exact absurd (z9.1 ▸ c_105) (by decide); exact z9.2 (cp_iff.mp q)
                  refine lv_aload_n hx hb dX4_find_128 rfl (lv_at hl 2 rfl) ?_
                  refine lv_iload_n hx hb dX4_find_129 rfl (lv_at hl 0 rfl) ?_
                  refine lv_iload_n hx hb dX4_find_130 rfl (lv_at hl 3 rfl) ?_
                  refine vp_callSi (va_runV (As := [.int (nI v), .int (nI (2 ^ n - 1))]) (rest := []) ⟨hx, hb, hml, hown, hts⟩ (c_X4_isCure l D cI cZ cJ qy m1 m2 m3 m4 m5 m6 m7 n Bd Hd Wt Fx g 1 Gv L1.length S1 L2.length S2 sp th hn v (by omega) hG) (cwV 2 hts gX4_find_X4_isCure rfl rfl rfl (by decide +kernel) ⟨Nat.le_of_ble_eq_true rfl, Nat.le_of_ble_eq_true rfl⟩) ⟨ro_blind, va_recv hK hP (ci := 5) (q0 := 0) rfl rfl, ro_pre (hP.sub (ws' := [(qy, .inr (5, [.ref m1, .ref m2, .ref m3, .ref m4, .int (nI n), .int (nI g), .int 1, .ref m5, .ref m6, .int (nI L1.length), .ref m7, .int (nI L2.length), .int sp, .int th])), (m4, .inl (cZ, 14, .inl Fx)), (m5, .inl (cZ, 16384, .inl Gv))]) [0, 3, 4] rfl) hK [0, 1, 2] rfl⟩ rfl rfl hl.1 rfl (lv_room (Nat.le_of_ble_eq_true rfl)) dX4_find_131 ⟨Nat.le_of_ble_eq_true rfl, Nat.le_of_ble_eq_true rfl⟩).run (fun r_131 hr_131 => ?_)
                  refine lv_if_eq (tgt := 157) hx hb dX4_find_134 (by decide) (fun c_134 => ?_) (fun c_134 => ?_)
                  · have n2 : ¬ (qp_ n Bd Hd Fx g) v = true := fun q => by rcases hr_131 with z9 | z9; exact absurd (z9.1 ▸ c_134) (by decide); exact z9.2 (qp_iff.mp q)
                    refine lv_iinc (v := (nI (v + 1))) (lv' := [(3, .int (nI (v + 1))), (2, .int (nI z)), (0, .ref qy), (1, .int (nI (2 ^ n - 1)))]) hx hb dX4_find_157 hl (k := 0) rfl (nI_inc _) (by decide) rfl (fun ls hl => ?_)
                    refine lv_goto (tgt := 84) hx hb dX4_find_160 (by decide) ?_
                    exact ih2 (v + 1) L1 _ L2 _ H locs ls (by omega) (by omega) (by rw [on_no (by first | exact fun q => hne q.1 | exact fun q => n1 q.2)]; exact e1) x1 (by rw [on_no (by first | exact fun q => hne q.1 | exact fun q => n2 q.2)]; exact e2) x2 hP hD hS (lv_sub hl [0, 1, 2, 3] rfl)
                  · have y2 : (qp_ n Bd Hd Fx g) v = true := qp_iff.mpr (iq_y hr_131 c_134)
                    refine lv_aload_n hx hb dX4_find_137 rfl (lv_at hl 2 rfl) ?_
                    refine va_get (D := D) (ci := 5) (v := .ref m7) (C := RX4) (T := TX4) (N := 14) hx hb hts iX4 hown hK hP 0 rfl rfl 10 (by decide) (hts (.fieldLink RX4 29 "LeastSetsModel" "cures" "[I") (by decide +kernel)) (fun _ h9 => h9) rfl dX4_find_138 ?_
                    refine lv_aload_n hx hb dX4_find_141 rfl (lv_at hl 2 rfl) ?_
                    refine va_get (D := D) (ci := 5) (v := .int (nI L2.length)) (C := RX4) (T := TX4) (N := 14) hx hb hts iX4 hown hK hP 0 rfl rfl 11 (by decide) (hts (.fieldLink RX4 61 "LeastSetsModel" "cureCount" "I") (by decide +kernel)) (fun _ h9 => h9) rfl dX4_find_142 ?_
                    refine lv_iload_n hx hb dX4_find_145 rfl (lv_at hl 0 rfl) ?_
                    refine r_iast hx hb hK hP hD hS 6 0 rfl rfl L2.length (by omega) (by omega) dX4_find_146 (fun H locs hP hD hS => ?_)
                    have hP : va_P D vwCl [(qy, .inr (5, [.ref m1, .ref m2, .ref m3, .ref m4, .int (nI n), .int (nI g), .int 1, .ref m5, .ref m6, .int (nI L1.length), .ref m7, .int (nI L2.length), .int sp, .int th])), (m1, .inl (cI, 14, .inl Bd)), (m2, .inl (cI, 14, .inl Hd)), (m4, .inl (cZ, 14, .inl Fx)), (m5, .inl (cZ, 16384, .inl Gv)), (m6, .inl (cI, 4000, .inl S1)), (m7, .inl (cI, 4000, .inl (upd S2 L2.length (nI v))))] H := hP
                    have hD : va_D A [(qy, .inr (5, [.ref m1, .ref m2, .ref m3, .ref m4, .int (nI n), .int (nI g), .int 1, .ref m5, .ref m6, .int (nI L1.length), .ref m7, .int (nI L2.length), .int sp, .int th])), (m1, .inl (cI, 14, .inl Bd)), (m2, .inl (cI, 14, .inl Hd)), (m4, .inl (cZ, 14, .inl Fx)), (m5, .inl (cZ, 16384, .inl Gv)), (m6, .inl (cI, 4000, .inl S1)), (m7, .inl (cI, 4000, .inl (upd S2 L2.length (nI v))))] := hD
                    refine lv_aload_n hx hb dX4_find_147 rfl (lv_at hl 2 rfl) ?_
                    refine lv_dup hx hb dX4_find_148 rfl ?_
                    refine va_get (D := D) (ci := 5) (v := .int (nI L2.length)) (C := RX4) (T := TX4) (N := 14) hx hb hts iX4 hown hK hP 0 rfl rfl 11 (by decide) (hts (.fieldLink RX4 61 "LeastSetsModel" "cureCount" "I") (by decide +kernel)) (fun _ h9 => h9) rfl dX4_find_149 ?_
                    refine lv_iconst (v := (nI 1)) hx hb dX4_find_152 (by decide +kernel) ?_
                    refine r_iadd hx hb dX4_find_153 ?_
                    refine va_put (D := D) (ci := 5) (v := .int (nI (L2.length + 1))) (ty := .int) (C := RX4) (T := TX4) (N := 14) hx hb hts iX4 tyX4 tyX4_ok nmX4 hown hK hP hD hS 0 rfl rfl 11 (by decide) (hts (.fieldLink RX4 61 "LeastSetsModel" "cureCount" "I") (by decide +kernel)) (fun _ h9 => h9) rfl (by decide +kernel) rfl rfl (Nat.le_of_ble_eq_true rfl) dX4_find_154 (fun H locs hP hD hS => ?_)
                    have hP : va_P D vwCl [(qy, .inr (5, [.ref m1, .ref m2, .ref m3, .ref m4, .int (nI n), .int (nI g), .int 1, .ref m5, .ref m6, .int (nI L1.length), .ref m7, .int (nI (L2.length + 1)), .int sp, .int th])), (m1, .inl (cI, 14, .inl Bd)), (m2, .inl (cI, 14, .inl Hd)), (m4, .inl (cZ, 14, .inl Fx)), (m5, .inl (cZ, 16384, .inl Gv)), (m6, .inl (cI, 4000, .inl S1)), (m7, .inl (cI, 4000, .inl (upd S2 L2.length (nI v))))] H := hP
                    have hD : va_D A [(qy, .inr (5, [.ref m1, .ref m2, .ref m3, .ref m4, .int (nI n), .int (nI g), .int 1, .ref m5, .ref m6, .int (nI L1.length), .ref m7, .int (nI (L2.length + 1)), .int sp, .int th])), (m1, .inl (cI, 14, .inl Bd)), (m2, .inl (cI, 14, .inl Hd)), (m4, .inl (cZ, 14, .inl Fx)), (m5, .inl (cZ, 16384, .inl Gv)), (m6, .inl (cI, 4000, .inl S1)), (m7, .inl (cI, 4000, .inl (upd S2 L2.length (nI v))))] := hD
                    refine lv_iinc (v := (nI (v + 1))) (lv' := [(3, .int (nI (v + 1))), (2, .int (nI z)), (0, .ref qy), (1, .int (nI (2 ^ n - 1)))]) hx hb dX4_find_157 hl (k := 0) rfl (nI_inc _) (by decide) rfl (fun ls hl => ?_)
                    refine lv_goto (tgt := 84) hx hb dX4_find_160 (by decide) ?_
                    rw [show L2.length + 1 = (L2 ++ [v]).length by rw [List.length_append]; rfl] at hP hD
                    exact ih2 (v + 1) L1 _ (L2 ++ [v]) _ H locs ls (by omega) (by omega) (by rw [on_no (by first | exact fun q => hne q.1 | exact fun q => n1 q.2)]; exact e1) x1 (by rw [on_yes hez y2, e2, List.append_assoc]) (sx_push x2 v) hP hD hS (lv_sub hl [0, 1, 2, 3] rfl)
                · have y1 : (cp_ n Bd Hd g) v = true := cp_iff.mpr (iq_y hr_102 c_105)
                  refine lv_aload_n hx hb dX4_find_108 rfl (lv_at hl 2 rfl) ?_
                  refine va_get (D := D) (ci := 5) (v := .ref m6) (C := RX4) (T := TX4) (N := 14) hx hb hts iX4 hown hK hP 0 rfl rfl 8 (by decide) (hts (.fieldLink RX4 26 "LeastSetsModel" "causes" "[I") (by decide +kernel)) (fun _ h9 => h9) rfl dX4_find_109 ?_
                  refine lv_aload_n hx hb dX4_find_112 rfl (lv_at hl 2 rfl) ?_
                  refine va_get (D := D) (ci := 5) (v := .int (nI L1.length)) (C := RX4) (T := TX4) (N := 14) hx hb hts iX4 hown hK hP 0 rfl rfl 9 (by decide) (hts (.fieldLink RX4 58 "LeastSetsModel" "causeCount" "I") (by decide +kernel)) (fun _ h9 => h9) rfl dX4_find_113 ?_
                  refine lv_iload_n hx hb dX4_find_116 rfl (lv_at hl 0 rfl) ?_
                  refine r_iast hx hb hK hP hD hS 5 0 rfl rfl L1.length (by omega) (by omega) dX4_find_117 (fun H locs hP hD hS => ?_)
                  have hP : va_P D vwCl [(qy, .inr (5, [.ref m1, .ref m2, .ref m3, .ref m4, .int (nI n), .int (nI g), .int 1, .ref m5, .ref m6, .int (nI L1.length), .ref m7, .int (nI L2.length), .int sp, .int th])), (m1, .inl (cI, 14, .inl Bd)), (m2, .inl (cI, 14, .inl Hd)), (m4, .inl (cZ, 14, .inl Fx)), (m5, .inl (cZ, 16384, .inl Gv)), (m6, .inl (cI, 4000, .inl (upd S1 L1.length (nI v)))), (m7, .inl (cI, 4000, .inl S2))] H := hP
                  have hD : va_D A [(qy, .inr (5, [.ref m1, .ref m2, .ref m3, .ref m4, .int (nI n), .int (nI g), .int 1, .ref m5, .ref m6, .int (nI L1.length), .ref m7, .int (nI L2.length), .int sp, .int th])), (m1, .inl (cI, 14, .inl Bd)), (m2, .inl (cI, 14, .inl Hd)), (m4, .inl (cZ, 14, .inl Fx)), (m5, .inl (cZ, 16384, .inl Gv)), (m6, .inl (cI, 4000, .inl (upd S1 L1.length (nI v)))), (m7, .inl (cI, 4000, .inl S2))] := hD
                  refine lv_aload_n hx hb dX4_find_118 rfl (lv_at hl 2 rfl) ?_
                  refine lv_dup hx hb dX4_find_119 rfl ?_
                  refine va_get (D := D) (ci := 5) (v := .int (nI L1.length)) (C := RX4) (T := TX4) (N := 14) hx hb hts iX4 hown hK hP 0 rfl rfl 9 (by decide) (hts (.fieldLink RX4 58 "LeastSetsModel" "causeCount" "I") (by decide +kernel)) (fun _ h9 => h9) rfl dX4_find_120 ?_
                  refine lv_iconst (v := (nI 1)) hx hb dX4_find_123 (by decide +kernel) ?_
                  refine r_iadd hx hb dX4_find_124 ?_
                  refine va_put (D := D) (ci := 5) (v := .int (nI (L1.length + 1))) (ty := .int) (C := RX4) (T := TX4) (N := 14) hx hb hts iX4 tyX4 tyX4_ok nmX4 hown hK hP hD hS 0 rfl rfl 9 (by decide) (hts (.fieldLink RX4 58 "LeastSetsModel" "causeCount" "I") (by decide +kernel)) (fun _ h9 => h9) rfl (by decide +kernel) rfl rfl (Nat.le_of_ble_eq_true rfl) dX4_find_125 (fun H locs hP hD hS => ?_)
                  have hP : va_P D vwCl [(qy, .inr (5, [.ref m1, .ref m2, .ref m3, .ref m4, .int (nI n), .int (nI g), .int 1, .ref m5, .ref m6, .int (nI (L1.length + 1)), .ref m7, .int (nI L2.length), .int sp, .int th])), (m1, .inl (cI, 14, .inl Bd)), (m2, .inl (cI, 14, .inl Hd)), (m4, .inl (cZ, 14, .inl Fx)), (m5, .inl (cZ, 16384, .inl Gv)), (m6, .inl (cI, 4000, .inl (upd S1 L1.length (nI v)))), (m7, .inl (cI, 4000, .inl S2))] H := hP
                  have hD : va_D A [(qy, .inr (5, [.ref m1, .ref m2, .ref m3, .ref m4, .int (nI n), .int (nI g), .int 1, .ref m5, .ref m6, .int (nI (L1.length + 1)), .ref m7, .int (nI L2.length), .int sp, .int th])), (m1, .inl (cI, 14, .inl Bd)), (m2, .inl (cI, 14, .inl Hd)), (m4, .inl (cZ, 14, .inl Fx)), (m5, .inl (cZ, 16384, .inl Gv)), (m6, .inl (cI, 4000, .inl (upd S1 L1.length (nI v)))), (m7, .inl (cI, 4000, .inl S2))] := hD
                  refine lv_aload_n hx hb dX4_find_128 rfl (lv_at hl 2 rfl) ?_
                  refine lv_iload_n hx hb dX4_find_129 rfl (lv_at hl 0 rfl) ?_
                  refine lv_iload_n hx hb dX4_find_130 rfl (lv_at hl 3 rfl) ?_
                  refine vp_callSi (va_runV (As := [.int (nI v), .int (nI (2 ^ n - 1))]) (rest := []) ⟨hx, hb, hml, hown, hts⟩ (c_X4_isCure l D cI cZ cJ qy m1 m2 m3 m4 m5 m6 m7 n Bd Hd Wt Fx g 1 Gv (L1.length + 1) (upd S1 L1.length (nI v)) L2.length S2 sp th hn v (by omega) hG) (cwV 2 hts gX4_find_X4_isCure rfl rfl rfl (by decide +kernel) ⟨Nat.le_of_ble_eq_true rfl, Nat.le_of_ble_eq_true rfl⟩) ⟨ro_blind, va_recv hK hP (ci := 5) (q0 := 0) rfl rfl, ro_pre (hP.sub (ws' := [(qy, .inr (5, [.ref m1, .ref m2, .ref m3, .ref m4, .int (nI n), .int (nI g), .int 1, .ref m5, .ref m6, .int (nI (L1.length + 1)), .ref m7, .int (nI L2.length), .int sp, .int th])), (m4, .inl (cZ, 14, .inl Fx)), (m5, .inl (cZ, 16384, .inl Gv))]) [0, 3, 4] rfl) hK [0, 1, 2] rfl⟩ rfl rfl hl.1 rfl (lv_room (Nat.le_of_ble_eq_true rfl)) dX4_find_131 ⟨Nat.le_of_ble_eq_true rfl, Nat.le_of_ble_eq_true rfl⟩).run (fun r_131 hr_131 => ?_)
                  refine lv_if_eq (tgt := 157) hx hb dX4_find_134 (by decide) (fun c_134 => ?_) (fun c_134 => ?_)
                  · have n2 : ¬ (qp_ n Bd Hd Fx g) v = true := fun q => by rcases hr_131 with z9 | z9; exact absurd (z9.1 ▸ c_134) (by decide); exact z9.2 (qp_iff.mp q)
                    refine lv_iinc (v := (nI (v + 1))) (lv' := [(3, .int (nI (v + 1))), (2, .int (nI z)), (0, .ref qy), (1, .int (nI (2 ^ n - 1)))]) hx hb dX4_find_157 hl (k := 0) rfl (nI_inc _) (by decide) rfl (fun ls hl => ?_)
                    refine lv_goto (tgt := 84) hx hb dX4_find_160 (by decide) ?_
                    rw [show L1.length + 1 = (L1 ++ [v]).length by rw [List.length_append]; rfl] at hP hD
                    exact ih2 (v + 1) (L1 ++ [v]) _ L2 _ H locs ls (by omega) (by omega) (by rw [on_yes hez y1, e1, List.append_assoc]) (sx_push x1 v) (by rw [on_no (by first | exact fun q => hne q.1 | exact fun q => n2 q.2)]; exact e2) x2 hP hD hS (lv_sub hl [0, 1, 2, 3] rfl)
                  · have y2 : (qp_ n Bd Hd Fx g) v = true := qp_iff.mpr (iq_y hr_131 c_134)
                    refine lv_aload_n hx hb dX4_find_137 rfl (lv_at hl 2 rfl) ?_
                    refine va_get (D := D) (ci := 5) (v := .ref m7) (C := RX4) (T := TX4) (N := 14) hx hb hts iX4 hown hK hP 0 rfl rfl 10 (by decide) (hts (.fieldLink RX4 29 "LeastSetsModel" "cures" "[I") (by decide +kernel)) (fun _ h9 => h9) rfl dX4_find_138 ?_
                    refine lv_aload_n hx hb dX4_find_141 rfl (lv_at hl 2 rfl) ?_
                    refine va_get (D := D) (ci := 5) (v := .int (nI L2.length)) (C := RX4) (T := TX4) (N := 14) hx hb hts iX4 hown hK hP 0 rfl rfl 11 (by decide) (hts (.fieldLink RX4 61 "LeastSetsModel" "cureCount" "I") (by decide +kernel)) (fun _ h9 => h9) rfl dX4_find_142 ?_
                    refine lv_iload_n hx hb dX4_find_145 rfl (lv_at hl 0 rfl) ?_
                    refine r_iast hx hb hK hP hD hS 6 0 rfl rfl L2.length (by omega) (by omega) dX4_find_146 (fun H locs hP hD hS => ?_)
                    have hP : va_P D vwCl [(qy, .inr (5, [.ref m1, .ref m2, .ref m3, .ref m4, .int (nI n), .int (nI g), .int 1, .ref m5, .ref m6, .int (nI (L1.length + 1)), .ref m7, .int (nI L2.length), .int sp, .int th])), (m1, .inl (cI, 14, .inl Bd)), (m2, .inl (cI, 14, .inl Hd)), (m4, .inl (cZ, 14, .inl Fx)), (m5, .inl (cZ, 16384, .inl Gv)), (m6, .inl (cI, 4000, .inl (upd S1 L1.length (nI v)))), (m7, .inl (cI, 4000, .inl (upd S2 L2.length (nI v))))] H := hP
                    have hD : va_D A [(qy, .inr (5, [.ref m1, .ref m2, .ref m3, .ref m4, .int (nI n), .int (nI g), .int 1, .ref m5, .ref m6, .int (nI (L1.length + 1)), .ref m7, .int (nI L2.length), .int sp, .int th])), (m1, .inl (cI, 14, .inl Bd)), (m2, .inl (cI, 14, .inl Hd)), (m4, .inl (cZ, 14, .inl Fx)), (m5, .inl (cZ, 16384, .inl Gv)), (m6, .inl (cI, 4000, .inl (upd S1 L1.length (nI v)))), (m7, .inl (cI, 4000, .inl (upd S2 L2.length (nI v))))] := hD
                    refine lv_aload_n hx hb dX4_find_147 rfl (lv_at hl 2 rfl) ?_
                    refine lv_dup hx hb dX4_find_148 rfl ?_
                    refine va_get (D := D) (ci := 5) (v := .int (nI L2.length)) (C := RX4) (T := TX4) (N := 14) hx hb hts iX4 hown hK hP 0 rfl rfl 11 (by decide) (hts (.fieldLink RX4 61 "LeastSetsModel" "cureCount" "I") (by decide +kernel)) (fun _ h9 => h9) rfl dX4_find_149 ?_
                    refine lv_iconst (v := (nI 1)) hx hb dX4_find_152 (by decide +kernel) ?_
                    refine r_iadd hx hb dX4_find_153 ?_
                    refine va_put (D := D) (ci := 5) (v := .int (nI (L2.length + 1))) (ty := .int) (C := RX4) (T := TX4) (N := 14) hx hb hts iX4 tyX4 tyX4_ok nmX4 hown hK hP hD hS 0 rfl rfl 11 (by decide) (hts (.fieldLink RX4 61 "LeastSetsModel" "cureCount" "I") (by decide +kernel)) (fun _ h9 => h9) rfl (by decide +kernel) rfl rfl (Nat.le_of_ble_eq_true rfl) dX4_find_154 (fun H locs hP hD hS => ?_)
                    have hP : va_P D vwCl [(qy, .inr (5, [.ref m1, .ref m2, .ref m3, .ref m4, .int (nI n), .int (nI g), .int 1, .ref m5, .ref m6, .int (nI (L1.length + 1)), .ref m7, .int (nI (L2.length + 1)), .int sp, .int th])), (m1, .inl (cI, 14, .inl Bd)), (m2, .inl (cI, 14, .inl Hd)), (m4, .inl (cZ, 14, .inl Fx)), (m5, .inl (cZ, 16384, .inl Gv)), (m6, .inl (cI, 4000, .inl (upd S1 L1.length (nI v)))), (m7, .inl (cI, 4000, .inl (upd S2 L2.length (nI v))))] H := hP
                    have hD : va_D A [(qy, .inr (5, [.ref m1, .ref m2, .ref m3, .ref m4, .int (nI n), .int (nI g), .int 1, .ref m5, .ref m6, .int (nI (L1.length + 1)), .ref m7, .int (nI (L2.length + 1)), .int sp, .int th])), (m1, .inl (cI, 14, .inl Bd)), (m2, .inl (cI, 14, .inl Hd)), (m4, .inl (cZ, 14, .inl Fx)), (m5, .inl (cZ, 16384, .inl Gv)), (m6, .inl (cI, 4000, .inl (upd S1 L1.length (nI v)))), (m7, .inl (cI, 4000, .inl (upd S2 L2.length (nI v))))] := hD
                    refine lv_iinc (v := (nI (v + 1))) (lv' := [(3, .int (nI (v + 1))), (2, .int (nI z)), (0, .ref qy), (1, .int (nI (2 ^ n - 1)))]) hx hb dX4_find_157 hl (k := 0) rfl (nI_inc _) (by decide) rfl (fun ls hl => ?_)
                    refine lv_goto (tgt := 84) hx hb dX4_find_160 (by decide) ?_
                    rw [show L1.length + 1 = (L1 ++ [v]).length by rw [List.length_append]; rfl] at hP hD
                    rw [show L2.length + 1 = (L2 ++ [v]).length by rw [List.length_append]; rfl] at hP hD
                    exact ih2 (v + 1) (L1 ++ [v]) _ (L2 ++ [v]) _ H locs ls (by omega) (by omega) (by rw [on_yes hez y1, e1, List.append_assoc]) (sx_push x1 v) (by rw [on_yes hez y2, e2, List.append_assoc]) (sx_push x2 v) hP hD hS (lv_sub hl [0, 1, 2, 3] rfl)
              · have hne : ¬ pcF 14 v = z := fun q => c_94 (by rw [q])
                refine lv_goto (tgt := 157) hx hb dX4_find_97 (by decide) ?_
                refine lv_iinc (v := (nI (v + 1))) (lv' := [(3, .int (nI (v + 1))), (2, .int (nI z)), (0, .ref qy), (1, .int (nI (2 ^ n - 1)))]) hx hb dX4_find_157 hl (k := 0) rfl (nI_inc _) (by decide) rfl (fun ls hl => ?_)
                refine lv_goto (tgt := 84) hx hb dX4_find_160 (by decide) ?_
                exact ih2 (v + 1) L1 _ L2 _ H locs ls (by omega) (by omega) (by rw [on_no (by first | exact fun q => hne q.1 | exact fun q => n1 q.2)]; exact e1) x1 (by rw [on_no (by first | exact fun q => hne q.1 | exact fun q => n2 q.2)]; exact e2) x2 hP hD hS (lv_sub hl [0, 1, 2, 3] rfl)
        exact three (2 ^ n + 1) 0 L1 S1 L2 S2 H locs ls (by omega) (Nat.zero_le _) (by rw [e1]; exact (List.append_nil _).symm) x1 (by rw [e2]; exact (List.append_nil _).symm) x2 hP hD hS (lv_sub hl [0, 1, 2, 3] rfl)
  have one : ∀ (d : Nat) (v : Nat) (Gv : Nat → Int32) (sp : Int32) (H : Heap) (locs : List Loc) (ls : Array Slot), 2 ^ n < v + d → v ≤ 2 ^ n → gv_is (mc_ n Bd Hd g) v Gv → va_P D vwCl [(qy, .inr (5, [.ref m1, .ref m2, .ref m3, .ref m4, .int (nI n), .int (nI g), .int 1, .ref m5, .ref m6, .int (nI z1), .ref m7, .int (nI z2), .int sp, .int th])), (m1, .inl (cI, 14, .inl Bd)), (m2, .inl (cI, 14, .inl Hd)), (m4, .inl (cZ, 14, .inl Fx)), (m5, .inl (cZ, 16384, .inl Gv)), (m6, .inl (cI, 4000, .inl S1)), (m7, .inl (cI, 4000, .inl S2))] H → va_D A [(qy, .inr (5, [.ref m1, .ref m2, .ref m3, .ref m4, .int (nI n), .int (nI g), .int 1, .ref m5, .ref m6, .int (nI z1), .ref m7, .int (nI z2), .int sp, .int th])), (m1, .inl (cI, 14, .inl Bd)), (m2, .inl (cI, 14, .inl Hd)), (m4, .inl (cZ, 14, .inl Fx)), (m5, .inl (cZ, 16384, .inl Gv)), (m6, .inl (cI, 4000, .inl S1)), (m7, .inl (cI, 4000, .inl S2))] → va_S A s.heap H locs → lv_has ls 4 [(2, .int (nI v)), (0, .ref qy), (1, .int (nI (2 ^ n - 1)))] → W p l e (headSpec wsX4_find ({ frames := 1, cells := 0, slots := 0, locals := 26 } : Room)).room s m ([.ref qy] : List Value).toArray below meth c H locs 0 0 (MQ below (va_Qv (S := (Nat → Int32) × (Nat → Int32) × (Nat → Int32) × Int32) (fun u => sx_ u.2.1 (CL_ n Bd Hd g) ∧ sx_ u.2.2.1 (QL_ n Bd Hd Fx g)) (fun u => wd_ D [(cI, .int), (cZ, .boolean), (cJ, .long)] A [(qy, .inr (5, [.ref m1, .ref m2, .ref m3, .ref m4, .int (nI n), .int (nI g), .int 1, .ref m5, .ref m6, .int (nI ((CL_ n Bd Hd g).length)), .ref m7, .int (nI ((QL_ n Bd Hd Fx g).length)), .int u.2.2.2, .int th])), (m1, .inl (cI, 14, .inl Bd)), (m2, .inl (cI, 14, .inl Hd)), (m4, .inl (cZ, 14, .inl Fx)), (m5, .inl (cZ, 16384, .inl u.1)), (m6, .inl (cI, 4000, .inl u.2.1)), (m7, .inl (cI, 4000, .inl u.2.2.1))]) A) ([.ref qy] : List Value).toArray s 0 0 A) (F0 m 24 ls []) := by
    intro d
    induction d with
    | zero => intro v Gv sp H locs ls h1 h2; omega
    | succ d ih =>
      intro v Gv sp H locs ls h1 h2 hG hP hD hS hl
      refine lv_iload_n hx hb dX4_find_24 rfl (lv_at hl 0 rfl) ?_
      refine lv_iload_n hx hb dX4_find_25 rfl (lv_at hl 2 rfl) ?_
      refine r_igt hx hb (tgt := 62) (by omega) (by omega) dX4_find_26 (by decide) (fun c_26 => ?_) (fun c_26 => ?_)
      · refine lv_aload_n hx hb dX4_find_62 rfl (lv_at hl 1 rfl) ?_
        refine lv_iconst (v := (nI 0)) hx hb dX4_find_63 (by decide +kernel) ?_
        refine va_put (D := D) (ci := 5) (v := .int (nI 0)) (ty := .int) (C := RX4) (T := TX4) (N := 14) hx hb hts iX4 tyX4 tyX4_ok nmX4 hown hK hP hD hS 0 rfl rfl 9 (by decide) (hts (.fieldLink RX4 58 "LeastSetsModel" "causeCount" "I") (by decide +kernel)) (fun _ h9 => h9) rfl (by decide +kernel) rfl rfl (Nat.le_of_ble_eq_true rfl) dX4_find_64 (fun H locs hP hD hS => ?_)
        have hP : va_P D vwCl [(qy, .inr (5, [.ref m1, .ref m2, .ref m3, .ref m4, .int (nI n), .int (nI g), .int 1, .ref m5, .ref m6, .int (nI 0), .ref m7, .int (nI z2), .int sp, .int th])), (m1, .inl (cI, 14, .inl Bd)), (m2, .inl (cI, 14, .inl Hd)), (m4, .inl (cZ, 14, .inl Fx)), (m5, .inl (cZ, 16384, .inl Gv)), (m6, .inl (cI, 4000, .inl S1)), (m7, .inl (cI, 4000, .inl S2))] H := hP
        have hD : va_D A [(qy, .inr (5, [.ref m1, .ref m2, .ref m3, .ref m4, .int (nI n), .int (nI g), .int 1, .ref m5, .ref m6, .int (nI 0), .ref m7, .int (nI z2), .int sp, .int th])), (m1, .inl (cI, 14, .inl Bd)), (m2, .inl (cI, 14, .inl Hd)), (m4, .inl (cZ, 14, .inl Fx)), (m5, .inl (cZ, 16384, .inl Gv)), (m6, .inl (cI, 4000, .inl S1)), (m7, .inl (cI, 4000, .inl S2))] := hD
        refine lv_aload_n hx hb dX4_find_67 rfl (lv_at hl 1 rfl) ?_
        refine lv_iconst (v := (nI 0)) hx hb dX4_find_68 (by decide +kernel) ?_
        refine va_put (D := D) (ci := 5) (v := .int (nI 0)) (ty := .int) (C := RX4) (T := TX4) (N := 14) hx hb hts iX4 tyX4 tyX4_ok nmX4 hown hK hP hD hS 0 rfl rfl 11 (by decide) (hts (.fieldLink RX4 61 "LeastSetsModel" "cureCount" "I") (by decide +kernel)) (fun _ h9 => h9) rfl (by decide +kernel) rfl rfl (Nat.le_of_ble_eq_true rfl) dX4_find_69 (fun H locs hP hD hS => ?_)
        have hP : va_P D vwCl [(qy, .inr (5, [.ref m1, .ref m2, .ref m3, .ref m4, .int (nI n), .int (nI g), .int 1, .ref m5, .ref m6, .int (nI 0), .ref m7, .int (nI 0), .int sp, .int th])), (m1, .inl (cI, 14, .inl Bd)), (m2, .inl (cI, 14, .inl Hd)), (m4, .inl (cZ, 14, .inl Fx)), (m5, .inl (cZ, 16384, .inl Gv)), (m6, .inl (cI, 4000, .inl S1)), (m7, .inl (cI, 4000, .inl S2))] H := hP
        have hD : va_D A [(qy, .inr (5, [.ref m1, .ref m2, .ref m3, .ref m4, .int (nI n), .int (nI g), .int 1, .ref m5, .ref m6, .int (nI 0), .ref m7, .int (nI 0), .int sp, .int th])), (m1, .inl (cI, 14, .inl Bd)), (m2, .inl (cI, 14, .inl Hd)), (m4, .inl (cZ, 14, .inl Fx)), (m5, .inl (cZ, 16384, .inl Gv)), (m6, .inl (cI, 4000, .inl S1)), (m7, .inl (cI, 4000, .inl S2))] := hD
        refine lv_iconst (v := (nI 0)) hx hb dX4_find_72 (by decide +kernel) ?_
        refine lv_istore_n (lv' := [(2, .int (nI 0)), (0, .ref qy), (1, .int (nI (2 ^ n - 1)))]) hx hb dX4_find_73 rfl hl (by decide) rfl (fun ls hl => ?_)
        exact two (n + 2) 0 [] S1 [] S2 Gv sp H locs ls (by omega) (by omega) rfl (sx_0 _) rfl (sx_0 _) (by rw [show v = 2 ^ n by omega] at hG; exact hG) hP hD hS (lv_sub hl [0, 1, 2] rfl)
      · refine lv_aload_n hx hb dX4_find_29 rfl (lv_at hl 1 rfl) ?_
        refine va_get (D := D) (ci := 5) (v := .ref m5) (C := RX4) (T := TX4) (N := 14) hx hb hts iX4 hown hK hP 0 rfl rfl 7 (by decide) (hts (.fieldLink RX4 23 "LeastSetsModel" "gives" "[Z") (by decide +kernel)) (fun _ h9 => h9) rfl dX4_find_30 ?_
        refine lv_iload_n hx hb dX4_find_33 rfl (lv_at hl 0 rfl) ?_
        refine lv_aload_n hx hb dX4_find_34 rfl (lv_at hl 1 rfl) ?_
        refine lv_iload_n hx hb dX4_find_35 rfl (lv_at hl 0 rfl) ?_
        have hPc := hP.sub (ws' := [(qy, .inr (5, [.ref m1, .ref m2, .ref m3, .ref m4, .int (nI n), .int (nI g), .int 1, .ref m5, .ref m6, .int (nI z1), .ref m7, .int (nI z2), .int sp, .int th])), (m1, .inl (cI, 14, .inl Bd)), (m2, .inl (cI, 14, .inl Hd))]) [0, 1, 2] rfl
        have hDc := hD.sub (ws' := [(qy, .inr (5, [.ref m1, .ref m2, .ref m3, .ref m4, .int (nI n), .int (nI g), .int 1, .ref m5, .ref m6, .int (nI z1), .ref m7, .int (nI z2), .int sp, .int th])), (m1, .inl (cI, 14, .inl Bd)), (m2, .inl (cI, 14, .inl Hd))]) [0, 1, 2] (by decide) rfl
        have hFc := va_free (wc := [(qy, .inr (5, [.ref m1, .ref m2, .ref m3, .ref m4, .int (nI n), .int (nI g), .int 1, .ref m5, .ref m6, .int (nI z1), .ref m7, .int (nI z2), .int sp, .int th])), (m1, .inl (cI, 14, .inl Bd)), (m2, .inl (cI, 14, .inl Hd))]) hD hS hA [0, 1, 2] rfl
        refine va_calli (va_runV (As := [.int (nI v)]) (rest := [.int (nI v), .ref m5]) ⟨hx, hb, hml, hown, hts⟩ (c_X4_reckon l D cI cZ cJ t1 t2 _ qy m1 m2 m3 m4 m5 m6 m7 n Bd Hd Wt Fx g 1 Gv z1 S1 z2 S2 sp th hn hg hok (nI v)) (cwV 1 hts gX4_find_X4_reckon rfl rfl rfl (by decide +kernel) ⟨Nat.le_of_ble_eq_true rfl, Nat.le_of_ble_eq_true rfl⟩) ⟨wr_blind, va_recv hK hP (ci := 5) (q0 := 0) rfl rfl, wr_pre hPc hDc hK hE hS hFc [0, 1, 2] rfl⟩ rfl rfl hl.1 rfl (lv_room (Nat.le_of_ble_eq_true rfl)) dX4_find_36 ⟨Nat.le_of_ble_eq_true rfl, Nat.le_of_ble_eq_true rfl⟩) hS (fun q _ h => hFc q h) hFc (fun r_36 u_36 t H locs ht hvm hw_36 hB hz1 hk1 hS => ?_)
        obtain ⟨hP1, hK1, hD1⟩ := hB
        rw [ht] at hP1
        obtain ⟨hP, hD⟩ := va_join (wr := [(m4, .inl (cZ, 14, .inl Fx)), (m5, .inl (cZ, 16384, .inl Gv)), (m6, .inl (cI, 4000, .inl S1)), (m7, .inl (cI, 4000, .inl S2))]) (w1 := [(qy, .inr (5, [.ref m1, .ref m2, .ref m3, .ref m4, .int (nI n), .int (nI g), .int 1, .ref m5, .ref m6, .int (nI z1), .ref m7, .int (nI z2), .int u_36, .int th])), (m1, .inl (cI, 14, .inl Bd)), (m2, .inl (cI, 14, .inl Hd))]) hP hD [0, 1, 2] [3, 4, 5, 6] rfl rfl (by decide) (by decide) hk1 hFc hP1 hD1
        have hP : va_P D vwCl [(qy, .inr (5, [.ref m1, .ref m2, .ref m3, .ref m4, .int (nI n), .int (nI g), .int 1, .ref m5, .ref m6, .int (nI z1), .ref m7, .int (nI z2), .int u_36, .int th])), (m1, .inl (cI, 14, .inl Bd)), (m2, .inl (cI, 14, .inl Hd)), (m4, .inl (cZ, 14, .inl Fx)), (m5, .inl (cZ, 16384, .inl Gv)), (m6, .inl (cI, 4000, .inl S1)), (m7, .inl (cI, 4000, .inl S2))] H := hP.sub [4, 5, 6, 0, 1, 2, 3] rfl
        have hD : va_D A [(qy, .inr (5, [.ref m1, .ref m2, .ref m3, .ref m4, .int (nI n), .int (nI g), .int 1, .ref m5, .ref m6, .int (nI z1), .ref m7, .int (nI z2), .int u_36, .int th])), (m1, .inl (cI, 14, .inl Bd)), (m2, .inl (cI, 14, .inl Hd)), (m4, .inl (cZ, 14, .inl Fx)), (m5, .inl (cZ, 16384, .inl Gv)), (m6, .inl (cI, 4000, .inl S1)), (m7, .inl (cI, 4000, .inl S2))] := hD.sub [4, 5, 6, 0, 1, 2, 3] (by decide) rfl
        clear hPc hDc hFc hP1 hK1 hD1 hk1 hz1
        obtain ⟨er, -⟩ := hw_36
        subst er
        refine lv_aload_n hx hb dX4_find_39 rfl (lv_at hl 1 rfl) ?_
        refine va_get (D := D) (ci := 5) (v := .int (nI g)) (C := RX4) (T := TX4) (N := 14) hx hb hts iX4 hown hK hP 0 rfl rfl 5 (by decide) (hts (.fieldLink RX4 48 "LeastSetsModel" "goal" "I") (by decide +kernel)) (fun _ h9 => h9) rfl dX4_find_40 ?_
        refine lv_ishr hx hb dX4_find_43 ?_
        refine lv_iconst (v := 1) hx hb dX4_find_44 (by decide +kernel) ?_
        refine lv_iand hx hb dX4_find_45 ?_
        refine lv_iconst (v := 1) hx hb dX4_find_46 (by decide +kernel) ?_
        refine lv_icmp_ne (tgt := 54) hx hb dX4_find_47 (by decide) (fun c_47 => ?_) (fun c_47 => ?_)
        · refine lv_iconst (v := 0) hx hb dX4_find_54 (by decide +kernel) ?_
          refine r_zast hx hb hK hP hD hS 4 1 rfl rfl v (by decide) (by omega) (by omega) dX4_find_55 (fun H locs hP hD hS => ?_)
          have hP : va_P D vwCl [(qy, .inr (5, [.ref m1, .ref m2, .ref m3, .ref m4, .int (nI n), .int (nI g), .int 1, .ref m5, .ref m6, .int (nI z1), .ref m7, .int (nI z2), .int u_36, .int th])), (m1, .inl (cI, 14, .inl Bd)), (m2, .inl (cI, 14, .inl Hd)), (m4, .inl (cZ, 14, .inl Fx)), (m5, .inl (cZ, 16384, .inl (upd Gv v 0))), (m6, .inl (cI, 4000, .inl S1)), (m7, .inl (cI, 4000, .inl S2))] H := hP
          have hD : va_D A [(qy, .inr (5, [.ref m1, .ref m2, .ref m3, .ref m4, .int (nI n), .int (nI g), .int 1, .ref m5, .ref m6, .int (nI z1), .ref m7, .int (nI z2), .int u_36, .int th])), (m1, .inl (cI, 14, .inl Bd)), (m2, .inl (cI, 14, .inl Hd)), (m4, .inl (cZ, 14, .inl Fx)), (m5, .inl (cZ, 16384, .inl (upd Gv v 0))), (m6, .inl (cI, 4000, .inl S1)), (m7, .inl (cI, 4000, .inl S2))] := hD
          refine lv_iinc (v := (nI (v + 1))) (lv' := [(2, .int (nI (v + 1))), (0, .ref qy), (1, .int (nI (2 ^ n - 1)))]) hx hb dX4_find_56 hl (k := 0) rfl (nI_inc _) (by decide) rfl (fun ls hl => ?_)
          refine lv_goto (tgt := 24) hx hb dX4_find_59 (by decide) ?_
          exact ih (v + 1) _ _ H locs ls (by omega) (by omega) (gv_next hG (by first | exact Or.inr ⟨rfl, fun q => c_47 ((gv_of hok hn hg).mpr q)⟩ | exact Or.inl ⟨rfl, (gv_of hok hn hg).mp c_47⟩)) hP hD hS (lv_sub hl [0, 1, 2] rfl)
        · refine lv_iconst (v := 1) hx hb dX4_find_50 (by decide +kernel) ?_
          refine lv_goto (tgt := 55) hx hb dX4_find_51 (by decide) ?_
          refine r_zast hx hb hK hP hD hS 4 1 rfl rfl v (by decide) (by omega) (by omega) dX4_find_55 (fun H locs hP hD hS => ?_)
          have hP : va_P D vwCl [(qy, .inr (5, [.ref m1, .ref m2, .ref m3, .ref m4, .int (nI n), .int (nI g), .int 1, .ref m5, .ref m6, .int (nI z1), .ref m7, .int (nI z2), .int u_36, .int th])), (m1, .inl (cI, 14, .inl Bd)), (m2, .inl (cI, 14, .inl Hd)), (m4, .inl (cZ, 14, .inl Fx)), (m5, .inl (cZ, 16384, .inl (upd Gv v 1))), (m6, .inl (cI, 4000, .inl S1)), (m7, .inl (cI, 4000, .inl S2))] H := hP
          have hD : va_D A [(qy, .inr (5, [.ref m1, .ref m2, .ref m3, .ref m4, .int (nI n), .int (nI g), .int 1, .ref m5, .ref m6, .int (nI z1), .ref m7, .int (nI z2), .int u_36, .int th])), (m1, .inl (cI, 14, .inl Bd)), (m2, .inl (cI, 14, .inl Hd)), (m4, .inl (cZ, 14, .inl Fx)), (m5, .inl (cZ, 16384, .inl (upd Gv v 1))), (m6, .inl (cI, 4000, .inl S1)), (m7, .inl (cI, 4000, .inl S2))] := hD
          refine lv_iinc (v := (nI (v + 1))) (lv' := [(2, .int (nI (v + 1))), (0, .ref qy), (1, .int (nI (2 ^ n - 1)))]) hx hb dX4_find_56 hl (k := 0) rfl (nI_inc _) (by decide) rfl (fun ls hl => ?_)
          refine lv_goto (tgt := 24) hx hb dX4_find_59 (by decide) ?_
          exact ih (v + 1) _ _ H locs ls (by omega) (by omega) (gv_next hG (by first | exact Or.inr ⟨rfl, fun q => c_47 ((gv_of hok hn hg).mpr q)⟩ | exact Or.inl ⟨rfl, (gv_of hok hn hg).mp c_47⟩)) hP hD hS (lv_sub hl [0, 1, 2] rfl)
  refine lv_aload_n hx hb dX4_find_0 rfl (lv_at hl 0 rfl) ?_
  refine va_get (D := D) (ci := 5) (v := .int kn) (C := RX4) (T := TX4) (N := 14) hx hb hts iX4 hown hK hP 0 rfl rfl 6 (by decide) (hts (.fieldLink RX4 40 "LeastSetsModel" "known" "Z") (by decide +kernel)) (fun _ h9 => h9) rfl dX4_find_1 ?_
  refine lv_if_eq (tgt := 8) hx hb dX4_find_4 (by decide) (fun c_4 => ?_) (fun c_4 => ?_)
  · refine lv_aload_n hx hb dX4_find_8 rfl (lv_at hl 0 rfl) ?_
    refine lv_iconst (v := 1) hx hb dX4_find_9 (by decide +kernel) ?_
    refine va_put (D := D) (ci := 5) (v := .int 1) (ty := .boolean) (C := RX4) (T := TX4) (N := 14) hx hb hts iX4 tyX4 tyX4_ok nmX4 hown hK hP hD hS 0 rfl rfl 6 (by decide) (hts (.fieldLink RX4 40 "LeastSetsModel" "known" "Z") (by decide +kernel)) (fun _ h9 => h9) rfl (by decide +kernel) rfl rfl (Nat.le_of_ble_eq_true rfl) dX4_find_10 (fun H locs hP hD hS => ?_)
    have hP : va_P D vwCl [(qy, .inr (5, [.ref m1, .ref m2, .ref m3, .ref m4, .int (nI n), .int (nI g), .int 1, .ref m5, .ref m6, .int (nI z1), .ref m7, .int (nI z2), .int sp, .int th])), (m1, .inl (cI, 14, .inl Bd)), (m2, .inl (cI, 14, .inl Hd)), (m4, .inl (cZ, 14, .inl Fx)), (m5, .inl (cZ, 16384, .inl Gv)), (m6, .inl (cI, 4000, .inl S1)), (m7, .inl (cI, 4000, .inl S2))] H := hP
    have hD : va_D A [(qy, .inr (5, [.ref m1, .ref m2, .ref m3, .ref m4, .int (nI n), .int (nI g), .int 1, .ref m5, .ref m6, .int (nI z1), .ref m7, .int (nI z2), .int sp, .int th])), (m1, .inl (cI, 14, .inl Bd)), (m2, .inl (cI, 14, .inl Hd)), (m4, .inl (cZ, 14, .inl Fx)), (m5, .inl (cZ, 16384, .inl Gv)), (m6, .inl (cI, 4000, .inl S1)), (m7, .inl (cI, 4000, .inl S2))] := hD
    refine lv_iconst (v := 1) hx hb dX4_find_13 (by decide +kernel) ?_
    refine lv_aload_n hx hb dX4_find_14 rfl (lv_at hl 0 rfl) ?_
    refine va_get (D := D) (ci := 5) (v := .int (nI n)) (C := RX4) (T := TX4) (N := 14) hx hb hts iX4 hown hK hP 0 rfl rfl 4 (by decide) (hts (.fieldLink RX4 36 "LeastSetsModel" "count" "I") (by decide +kernel)) (fun _ h9 => h9) rfl dX4_find_15 ?_
    refine lv_ishl hx hb dX4_find_18 ?_
    refine lv_iconst (v := 1) hx hb dX4_find_19 (by decide +kernel) ?_
    refine lv_isub hx hb dX4_find_20 ?_
    refine r_top (y := nI (2 ^ n - 1)) (allN n hn) ?_
    refine lv_istore_n (lv' := [(1, .int (nI (2 ^ n - 1))), (0, .ref qy)]) hx hb dX4_find_21 rfl hl (by decide) rfl (fun ls hl => ?_)
    refine lv_iconst (v := (nI 0)) hx hb dX4_find_22 (by decide +kernel) ?_
    refine lv_istore_n (lv' := [(2, .int (nI 0)), (1, .int (nI (2 ^ n - 1))), (0, .ref qy)]) hx hb dX4_find_23 rfl hl (by decide) rfl (fun ls hl => ?_)
    exact one (2 ^ n + 1) 0 Gv sp H locs ls (by omega) (Nat.zero_le _) (fun s9 h9 => absurd h9 (Nat.not_lt_zero s9)) hP hD hS (lv_sub hl [0, 2, 1] rfl)
  · have e1 : kn = 1 := hi.1.resolve_left c_4
    subst e1
    obtain ⟨ez1, x1, ez2, x2⟩ := hi.2 rfl
    subst ez1
    subst ez2
    exact W.vret hx hb hr (fun t ht hW => ⟨⟨(Gv, S1, S2, sp), rfl, ⟨x1, x2⟩, by rw [ht]; exact hP, va_K.moved hW.alike hK, hD⟩, hS.F ht⟩) hS.2.2 dX4_find_7
