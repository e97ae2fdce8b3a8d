set_option maxHeartbeats 4000000 in
set_option maxRecDepth 100000 in
/-- setsGiving(g) -/
theorem c_X0_setsGiving (l : Launch) (D : va_G) (cI cZ cJ : ClassId) (t1 t2 sz : Nat) (qa qb qh qw qf qu qg : Nat) (n : Nat) (hn : n ≤ 14) (Bd Hd : Nat → Int32) (U G : Nat → Int64) (g : Nat) (hg : g < 24) (hok : ∀ a, a < n → uI_ (Bd a) < 16777216 ∧ uI_ (Hd a) < 24) : Met l yX0_setsGiving wsX0_setsGiving ({ frames := 3, cells := 0, slots := 0, locals := 70 } : Room) (va_Pc [.ref qa, .int (nI g)] (wr_ D [(cI, .int), (cZ, .boolean), (cJ, .long)] [(qa, .inr (1, [.ref qb, .ref qh, .ref qw, .ref qf, .int (nI n), .ref qu, .ref qg])), (qb, .inl (cI, 14, .inl Bd)), (qh, .inl (cI, 14, .inl Hd)), (qu, .inl (cJ, 14, .inr (.inl U))), (qg, .inl (cJ, 24, .inr (.inl G)))] t1 t2 sz)) (va_Ql (S := Nat → Int64) (fun r _ => ∀ j, j < 64 → (bl r j = true ↔ dj_ n Bd Hd U j n g)) (fun G2 => wd_ D [(cI, .int), (cZ, .boolean), (cJ, .long)] (va_A [(qa, .inr (1, [.ref qb, .ref qh, .ref qw, .ref qf, .int (nI n), .ref qu, .ref qg])), (qb, .inl (cI, 14, .inl Bd)), (qh, .inl (cI, 14, .inl Hd)), (qu, .inl (cJ, 14, .inr (.inl U))), (qg, .inl (cJ, 24, .inr (.inl G)))] sz) [(qa, .inr (1, [.ref qb, .ref qh, .ref qw, .ref qf, .int (nI n), .ref qu, .ref qg])), (qb, .inl (cI, 14, .inl Bd)), (qh, .inl (cI, 14, .inl Hd)), (qu, .inl (cJ, 14, .inr (.inl U))), (qg, .inl (cJ, 24, .inr (.inl G2)))]) (va_A [(qa, .inr (1, [.ref qb, .ref qh, .ref qw, .ref qf, .int (nI n), .ref qu, .ref qg])), (qb, .inl (cI, 14, .inl Bd)), (qh, .inl (cI, 14, .inl Hd)), (qu, .inl (cJ, 14, .inr (.inl U))), (qg, .inl (cJ, 24, .inr (.inl G)))] sz)) 0 0 (va_A [(qa, .inr (1, [.ref qb, .ref qh, .ref qw, .ref qf, .int (nI n), .ref qu, .ref qg])), (qb, .inl (cI, 14, .inl Bd)), (qh, .inl (cI, 14, .inl Hd)), (qu, .inl (cJ, 14, .inr (.inl U))), (qg, .inl (cJ, 24, .inr (.inl G)))] sz) := by
  refine Met.ofW (cc := cX0_setsGiving) (maxL := 7) (ret := (some .long)) (by decide) rfl ?_
  intro p e s m args below meth c s₁ B hml hv
  obtain ⟨rfl, hsz, hP, hK, hD0, hE⟩ := hv
  have hx := B.exec
  have hb := B.bytes
  have hr := B.returns
  have hts := atoms_spec (ws := wsX0_setsGiving) B.pre
  have hown : s.vm.findClass RX0 = some m.cls := findClass_of_methodNamed B.named
  have hlocks := B.notSynchronized
  have iX0 : ∀ w ∈ u_ws RX0 TX0 7, w ∈ wsX0_setsGiving := by decide +kernel
  subst hsz
  have hD := hD0.self (sz := s.heap.size)
  generalize hAe : va_A [(qa, .inr (1, [.ref qb, .ref qh, .ref qw, .ref qf, .int (nI n), .ref qu, .ref qg])), (qb, .inl (cI, 14, .inl Bd)), (qh, .inl (cI, 14, .inl Hd)), (qu, .inl (cJ, 14, .inr (.inl U))), (qg, .inl (cJ, 24, .inr (.inl G)))] s.heap.size = A at hD hE ⊢
  have hA : ∀ q : Nat, s.heap.size ≤ q → A q := fun q h => by rw [← hAe]; exact Or.inr h
  have hS : va_S A s.heap s.heap [] := va_S.rf
  have hl := lv_entry ([.ref qa, .int (nI g)]) (n := 7) (Nat.le_of_ble_eq_true rfl)
  rw [lg_entry_eq]
  generalize (lg_sl ([.ref qa, .int (nI g)]) ++ List.replicate (7 - (lg_sl ([.ref qa, .int (nI g)])).length) Slot.unset).toArray = ls at hl ⊢
  have hl : lv_has ls 7 [(0, .ref qa), (1, .int (nI g))] := hl
  have outer : ∀ (d r : Nat) (gr : Int32) (G : Nat → Int64) (H : Heap) (locs : List Loc) (ls : Array Slot), n < r + d → r ≤ n → g_snd n Bd Hd U G → g_prg n Bd Hd U G r → (gr = 0 → g_all n Bd Hd U G) → va_P D vwCl [(qa, .inr (1, [.ref qb, .ref qh, .ref qw, .ref qf, .int (nI n), .ref qu, .ref qg])), (qb, .inl (cI, 14, .inl Bd)), (qh, .inl (cI, 14, .inl Hd)), (qu, .inl (cJ, 14, .inr (.inl U))), (qg, .inl (cJ, 24, .inr (.inl G)))] H → va_D A [(qa, .inr (1, [.ref qb, .ref qh, .ref qw, .ref qf, .int (nI n), .ref qu, .ref qg])), (qb, .inl (cI, 14, .inl Bd)), (qh, .inl (cI, 14, .inl Hd)), (qu, .inl (cJ, 14, .inr (.inl U))), (qg, .inl (cJ, 24, .inr (.inl G)))] → va_S A s.heap H locs → lv_has ls 7 [(3, .int (nI r)), (2, .int gr), (0, .ref qa), (1, .int (nI g))] → W p l e (headSpec wsX0_setsGiving ({ frames := 3, cells := 0, slots := 0, locals := 70 } : Room)).room s m ([.ref qa, .int (nI g)] : List Value).toArray below meth c H locs 0 0 (MQ below (va_Ql (S := Nat → Int64) (fun r _ => ∀ j, j < 64 → (bl r j = true ↔ dj_ n Bd Hd U j n g)) (fun G2 => wd_ D [(cI, .int), (cZ, .boolean), (cJ, .long)] A [(qa, .inr (1, [.ref qb, .ref qh, .ref qw, .ref qf, .int (nI n), .ref qu, .ref qg])), (qb, .inl (cI, 14, .inl Bd)), (qh, .inl (cI, 14, .inl Hd)), (qu, .inl (cJ, 14, .inr (.inl U))), (qg, .inl (cJ, 24, .inr (.inl G2)))]) A) ([.ref qa, .int (nI g)] : List Value).toArray s 0 0 A) (F0 m 12 ls []) := by
    intro d
    induction d with
    | zero => intro r gr G H locs ls h1 h2; omega
    | succ d ih =>
      intro r gr G H locs ls h1 h2 hs1 hs2 hs3 hP hD hS hl
      refine lv_iload_n hx hb dX0_setsGiving_12 rfl (lv_at hl 0 rfl) ?_
      refine lv_aload_n hx hb dX0_setsGiving_13 rfl (lv_at hl 2 rfl) ?_
      refine va_get (D := D) (ci := 1) (v := .int (nI n)) (C := RX0) (T := TX0) (N := 7) hx hb hts iX0 hown hK hP 0 rfl rfl 4 (by decide) (hts (.fieldLink RX0 25 "LeastSets$Axioms" "count" "I") (by decide +kernel)) (fun _ h9 => h9) rfl dX0_setsGiving_14 ?_
      refine r_ige hx hb (tgt := 121) (by omega) (by omega) dX0_setsGiving_17 (by decide) (fun c_17 => ?_) (fun c_17 => ?_)
      · refine lv_aload_n hx hb dX0_setsGiving_121 rfl (lv_at hl 2 rfl) ?_
        refine va_get (D := D) (ci := 1) (v := .ref qg) (C := RX0) (T := TX0) (N := 7) hx hb hts iX0 hown hK hP 0 rfl rfl 6 (by decide) (hts (.fieldLink RX0 33 "LeastSets$Axioms" "givenBy" "[J") (by decide +kernel)) (fun _ h9 => h9) rfl dX0_setsGiving_122 ?_
        refine lv_iload_n hx hb dX0_setsGiving_125 rfl (lv_at hl 3 rfl) ?_
        refine r_lald hx hb hK hP 4 2 rfl rfl g (by omega) (by omega) dX0_setsGiving_126 ?_
        exact W.lret (v := (G g)) hx hb hr (fun t ht hW => ⟨⟨(G g), _, rfl, by first | exact fun j hj => g_endn hs1 (by rw [show r = n by omega] at hs2; exact hs2) j hj g | exact fun j hj => hs3 c_21 j hj g, by rw [ht]; exact hP, va_K.moved hW.alike hK, hD⟩, hS.F ht⟩) hS.2.2 dX0_setsGiving_127
      · refine lv_iload_n hx hb dX0_setsGiving_20 rfl (lv_at hl 1 rfl) ?_
        refine lv_if_eq (tgt := 121) hx hb dX0_setsGiving_21 (by decide) (fun c_21 => ?_) (fun c_21 => ?_)
        · refine lv_aload_n hx hb dX0_setsGiving_121 rfl (lv_at hl 2 rfl) ?_
          refine va_get (D := D) (ci := 1) (v := .ref qg) (C := RX0) (T := TX0) (N := 7) hx hb hts iX0 hown hK hP 0 rfl rfl 6 (by decide) (hts (.fieldLink RX0 33 "LeastSets$Axioms" "givenBy" "[J") (by decide +kernel)) (fun _ h9 => h9) rfl dX0_setsGiving_122 ?_
          refine lv_iload_n hx hb dX0_setsGiving_125 rfl (lv_at hl 3 rfl) ?_
          refine r_lald hx hb hK hP 4 2 rfl rfl g (by omega) (by omega) dX0_setsGiving_126 ?_
          exact W.lret (v := (G g)) hx hb hr (fun t ht hW => ⟨⟨(G g), _, rfl, by first | exact fun j hj => g_endn hs1 (by rw [show r = n by omega] at hs2; exact hs2) j hj g | exact fun j hj => hs3 c_21 j hj g, by rw [ht]; exact hP, va_K.moved hW.alike hK, hD⟩, hS.F ht⟩) hS.2.2 dX0_setsGiving_127
        · refine lv_iconst (v := 0) hx hb dX0_setsGiving_24 (by decide +kernel) ?_
          refine lv_istore_n (lv' := [(2, .int 0), (3, .int (nI r)), (0, .ref qa), (1, .int (nI g))]) hx hb dX0_setsGiving_25 rfl hl (by decide) rfl (fun ls hl => ?_)
          refine lv_iconst (v := (nI 0)) hx hb dX0_setsGiving_26 (by decide +kernel) ?_
          refine lv_istore (lv' := [(4, .int (nI 0)), (2, .int 0), (3, .int (nI r)), (0, .ref qa), (1, .int (nI g))]) hx hb dX0_setsGiving_27 hl (by decide) rfl (fun ls hl => ?_)
          clear hs3
          have inner : ∀ (d2 a : Nat) (gr : Int32) (G : Nat → Int64) (H : Heap) (locs : List Loc) (ls : Array Slot), n < a + d2 → a ≤ n → g_in n Bd Hd U r a G gr → va_P D vwCl [(qa, .inr (1, [.ref qb, .ref qh, .ref qw, .ref qf, .int (nI n), .ref qu, .ref qg])), (qb, .inl (cI, 14, .inl Bd)), (qh, .inl (cI, 14, .inl Hd)), (qu, .inl (cJ, 14, .inr (.inl U))), (qg, .inl (cJ, 24, .inr (.inl G)))] H → va_D A [(qa, .inr (1, [.ref qb, .ref qh, .ref qw, .ref qf, .int (nI n), .ref qu, .ref qg])), (qb, .inl (cI, 14, .inl Bd)), (qh, .inl (cI, 14, .inl Hd)), (qu, .inl (cJ, 14, .inr (.inl U))), (qg, .inl (cJ, 24, .inr (.inl G)))] → va_S A s.heap H locs → lv_has ls 7 [(4, .int (nI a)), (2, .int gr), (3, .int (nI r)), (0, .ref qa), (1, .int (nI g))] → W p l e (headSpec wsX0_setsGiving ({ frames := 3, cells := 0, slots := 0, locals := 70 } : Room)).room s m ([.ref qa, .int (nI g)] : List Value).toArray below meth c H locs 0 0 (MQ below (va_Ql (S := Nat → Int64) (fun r _ => ∀ j, j < 64 → (bl r j = true ↔ dj_ n Bd Hd U j n g)) (fun G2 => wd_ D [(cI, .int), (cZ, .boolean), (cJ, .long)] A [(qa, .inr (1, [.ref qb, .ref qh, .ref qw, .ref qf, .int (nI n), .ref qu, .ref qg])), (qb, .inl (cI, 14, .inl Bd)), (qh, .inl (cI, 14, .inl Hd)), (qu, .inl (cJ, 14, .inr (.inl U))), (qg, .inl (cJ, 24, .inr (.inl G2)))]) A) ([.ref qa, .int (nI g)] : List Value).toArray s 0 0 A) (F0 m 29 ls []) := by
            intro d2
            induction d2 with
            | zero => intro a gr G H locs ls h1 h2; omega
            | succ d2 ih2 =>
              intro a gr G H locs ls h3 h4 hgi hP hD hS hl
              refine lv_iload hx hb dX0_setsGiving_29 (lv_at hl 0 rfl) ?_
              refine lv_aload_n hx hb dX0_setsGiving_31 rfl (lv_at hl 3 rfl) ?_
              refine va_get (D := D) (ci := 1) (v := .int (nI n)) (C := RX0) (T := TX0) (N := 7) hx hb hts iX0 hown hK hP 0 rfl rfl 4 (by decide) (hts (.fieldLink RX0 25 "LeastSets$Axioms" "count" "I") (by decide +kernel)) (fun _ h9 => h9) rfl dX0_setsGiving_32 ?_
              refine r_ige hx hb (tgt := 115) (by omega) (by omega) dX0_setsGiving_35 (by decide) (fun c_35 => ?_) (fun c_35 => ?_)
              · have ea : a = n := by omega
                subst ea
                refine lv_iinc (v := (nI (r + 1))) (lv' := [(3, .int (nI (r + 1))), (4, .int (nI a)), (2, .int gr), (0, .ref qa), (1, .int (nI g))]) hx hb dX0_setsGiving_115 hl (k := 2) rfl (nI_inc _) (by decide) rfl (fun ls hl => ?_)
                refine lv_goto (tgt := 12) hx hb dX0_setsGiving_118 (by decide) ?_
                exact ih (r + 1) _ _ H locs ls (by omega) (by omega) (g_round hgi).1 (g_round hgi).2 (fun e0 => by subst e0; exact g_end0 hgi) hP hD hS (lv_sub hl [0, 2, 3, 4] rfl)
              · refine lv_aload_n hx hb dX0_setsGiving_38 rfl (lv_at hl 3 rfl) ?_
                refine lv_aload_n hx hb dX0_setsGiving_39 rfl (lv_at hl 3 rfl) ?_
                refine va_get (D := D) (ci := 1) (v := .ref qb) (C := RX0) (T := TX0) (N := 7) hx hb hts iX0 hown hK hP 0 rfl rfl 0 (by decide) (hts (.fieldLink RX0 9 "LeastSets$Axioms" "body" "[I") (by decide +kernel)) (fun _ h9 => h9) rfl dX0_setsGiving_40 ?_
                refine lv_iload hx hb dX0_setsGiving_43 (lv_at hl 0 rfl) ?_
                refine r_iald hx hb hK hP 1 0 rfl rfl a (by omega) (by omega) dX0_setsGiving_45 ?_
                refine lv_aload_n hx hb dX0_setsGiving_46 rfl (lv_at hl 3 rfl) ?_
                refine va_get (D := D) (ci := 1) (v := .ref qu) (C := RX0) (T := TX0) (N := 7) hx hb hts iX0 hown hK hP 0 rfl rfl 5 (by decide) (hts (.fieldLink RX0 29 "LeastSets$Axioms" "usedBy" "[J") (by decide +kernel)) (fun _ h9 => h9) rfl dX0_setsGiving_47 ?_
                refine lv_iload hx hb dX0_setsGiving_50 (lv_at hl 0 rfl) ?_
                refine r_lald hx hb hK hP 3 2 rfl rfl a (by omega) (by omega) dX0_setsGiving_52 ?_
                refine lv_aload_n hx hb dX0_setsGiving_53 rfl (lv_at hl 3 rfl) ?_
                refine va_get (D := D) (ci := 1) (v := .ref qg) (C := RX0) (T := TX0) (N := 7) hx hb hts iX0 hown hK hP 0 rfl rfl 6 (by decide) (hts (.fieldLink RX0 33 "LeastSets$Axioms" "givenBy" "[J") (by decide +kernel)) (fun _ h9 => h9) rfl dX0_setsGiving_54 ?_
                refine lv_aload_n hx hb dX0_setsGiving_57 rfl (lv_at hl 3 rfl) ?_
                refine va_get (D := D) (ci := 1) (v := .ref qh) (C := RX0) (T := TX0) (N := 7) hx hb hts iX0 hown hK hP 0 rfl rfl 1 (by decide) (hts (.fieldLink RX0 15 "LeastSets$Axioms" "head" "[I") (by decide +kernel)) (fun _ h9 => h9) rfl dX0_setsGiving_58 ?_
                refine lv_iload hx hb dX0_setsGiving_61 (lv_at hl 0 rfl) ?_
                refine r_iald hx hb hK hP 2 0 rfl rfl a (by omega) (by omega) dX0_setsGiving_63 ?_
                refine r_top (y := nI (hd_ Hd a)) (nI_uI _).symm ?_
                refine r_lald hx hb hK hP 4 2 rfl rfl (hd_ Hd a) (hok a c_35).2 (by omega) dX0_setsGiving_64 ?_
                refine lv_ldc2 (v := (-1)) hx hb hown (hts (.constantLong RX0 52 (-1)) (by decide +kernel)) dX0_setsGiving_65 ?_
                refine lv_lxor hx hb dX0_setsGiving_68 ?_
                refine lv_land hx hb dX0_setsGiving_69 ?_
                refine vp_callSl (va_runV (As := [.int (Bd a), .long ((U a) &&& ((G (hd_ Hd a)) ^^^ (-1)))]) (rest := []) ⟨hx, hb, hml, hown, hts⟩ (c_X0_setsGivingAll l D cI cZ cJ qa qb qh qw qf qu qg n hn t1 t2 G (Bd a) ((U a) &&& ((G (hd_ Hd a)) ^^^ (-1))) (hok a c_35).1) (cwV 2 hts gX0_setsGiving_X0_setsGivingAll rfl rfl rfl (by decide +kernel) ⟨Nat.le_of_ble_eq_true rfl, Nat.le_of_ble_eq_true rfl⟩) ⟨re_blind, va_recv hK hP (ci := 1) (q0 := 0) rfl rfl, re_pre (hP.sub (ws' := [(qa, .inr (1, [.ref qb, .ref qh, .ref qw, .ref qf, .int (nI n), .ref qu, .ref qg])), (qg, .inl (cJ, 24, .inr (.inl G)))]) [0, 4] rfl) hK hE hS [0, 1, 2] rfl⟩ rfl rfl hl.1 rfl (lv_room (Nat.le_of_ble_eq_true rfl)) dX0_setsGiving_70 ⟨Nat.le_of_ble_eq_true rfl, Nat.le_of_ble_eq_true rfl⟩).run (fun r_70 hr_70 => ?_)
                refine lv_lstore (lv' := [(5, .long r_70), (4, .int (nI a)), (2, .int gr), (3, .int (nI r)), (0, .ref qa), (1, .int (nI g))]) hx hb dX0_setsGiving_73 hl (by decide) rfl (fun ls hl => ?_)
                refine lv_aload_n hx hb dX0_setsGiving_75 rfl (lv_at hl 4 rfl) ?_
                refine va_get (D := D) (ci := 1) (v := .ref qg) (C := RX0) (T := TX0) (N := 7) hx hb hts iX0 hown hK hP 0 rfl rfl 6 (by decide) (hts (.fieldLink RX0 33 "LeastSets$Axioms" "givenBy" "[J") (by decide +kernel)) (fun _ h9 => h9) rfl dX0_setsGiving_76 ?_
                refine lv_aload_n hx hb dX0_setsGiving_79 rfl (lv_at hl 4 rfl) ?_
                refine va_get (D := D) (ci := 1) (v := .ref qh) (C := RX0) (T := TX0) (N := 7) hx hb hts iX0 hown hK hP 0 rfl rfl 1 (by decide) (hts (.fieldLink RX0 15 "LeastSets$Axioms" "head" "[I") (by decide +kernel)) (fun _ h9 => h9) rfl dX0_setsGiving_80 ?_
                refine lv_iload hx hb dX0_setsGiving_83 (lv_at hl 1 rfl) ?_
                refine r_iald hx hb hK hP 2 0 rfl rfl a (by omega) (by omega) dX0_setsGiving_85 ?_
                refine r_top (y := nI (hd_ Hd a)) (nI_uI _).symm ?_
                refine lv_dup2_11 hx hb dX0_setsGiving_86 rfl rfl ?_
                refine r_lald hx hb hK hP 4 2 rfl rfl (hd_ Hd a) (hok a c_35).2 (by omega) dX0_setsGiving_87 ?_
                refine lv_lload hx hb dX0_setsGiving_88 (lv_at hl 0 rfl) ?_
                refine lv_lor hx hb dX0_setsGiving_90 ?_
                refine r_last hx hb hK hP hD hS 4 2 rfl rfl (hd_ Hd a) (hok a c_35).2 (by omega) dX0_setsGiving_91 (fun H locs hP hD hS => ?_)
                have hP : va_P D vwCl [(qa, .inr (1, [.ref qb, .ref qh, .ref qw, .ref qf, .int (nI n), .ref qu, .ref qg])), (qb, .inl (cI, 14, .inl Bd)), (qh, .inl (cI, 14, .inl Hd)), (qu, .inl (cJ, 14, .inr (.inl U))), (qg, .inl (cJ, 24, .inr (.inl (vp_updL G (hd_ Hd a) ((G (hd_ Hd a)) ||| r_70)))))] H := hP
                have hD : va_D A [(qa, .inr (1, [.ref qb, .ref qh, .ref qw, .ref qf, .int (nI n), .ref qu, .ref qg])), (qb, .inl (cI, 14, .inl Bd)), (qh, .inl (cI, 14, .inl Hd)), (qu, .inl (cJ, 14, .inr (.inl U))), (qg, .inl (cJ, 24, .inr (.inl (vp_updL G (hd_ Hd a) ((G (hd_ Hd a)) ||| r_70)))))] := hD
                refine lv_iload_n hx hb dX0_setsGiving_92 rfl (lv_at hl 2 rfl) ?_
                refine lv_if_ne (tgt := 103) hx hb dX0_setsGiving_93 (by decide) (fun c_93 => ?_) (fun c_93 => ?_)
                · refine lv_iconst (v := 1) hx hb dX0_setsGiving_103 (by decide +kernel) ?_
                  refine lv_goto (tgt := 108) hx hb dX0_setsGiving_104 (by decide) ?_
                  refine lv_istore_n (lv' := [(2, .int 1), (5, .long r_70), (4, .int (nI a)), (3, .int (nI r)), (0, .ref qa), (1, .int (nI g))]) hx hb dX0_setsGiving_108 rfl hl (by decide) rfl (fun ls hl => ?_)
                  refine lv_iinc (v := (nI (a + 1))) (lv' := [(4, .int (nI (a + 1))), (2, .int 1), (5, .long r_70), (3, .int (nI r)), (0, .ref qa), (1, .int (nI g))]) hx hb dX0_setsGiving_109 hl (k := 2) rfl (nI_inc _) (by decide) rfl (fun ls hl => ?_)
                  refine lv_goto (tgt := 29) hx hb dX0_setsGiving_112 (by decide) ?_
                  exact ih2 (a + 1) _ _ H locs ls (by omega) (by omega) (g_step c_35 hgi hr_70 (by first | exact fun h => absurd h (by decide) | exact fun _ => ⟨c_93, (lg_cmp_eq _ _).mp c_100⟩)) hP hD hS (lv_sub hl [0, 1, 3, 4, 5] rfl)
                · refine lv_lload hx hb dX0_setsGiving_96 (lv_at hl 0 rfl) ?_
                  refine lv_lconst (v := 0) hx hb dX0_setsGiving_98 (by decide +kernel) ?_
                  refine W.lcmp hx hb dX0_setsGiving_99 ?_
                  refine lv_if_eq (tgt := 107) hx hb dX0_setsGiving_100 (by decide) (fun c_100 => ?_) (fun c_100 => ?_)
                  · refine lv_iconst (v := 0) hx hb dX0_setsGiving_107 (by decide +kernel) ?_
                    refine lv_istore_n (lv' := [(2, .int 0), (5, .long r_70), (4, .int (nI a)), (3, .int (nI r)), (0, .ref qa), (1, .int (nI g))]) hx hb dX0_setsGiving_108 rfl hl (by decide) rfl (fun ls hl => ?_)
                    refine lv_iinc (v := (nI (a + 1))) (lv' := [(4, .int (nI (a + 1))), (2, .int 0), (5, .long r_70), (3, .int (nI r)), (0, .ref qa), (1, .int (nI g))]) hx hb dX0_setsGiving_109 hl (k := 2) rfl (nI_inc _) (by decide) rfl (fun ls hl => ?_)
                    refine lv_goto (tgt := 29) hx hb dX0_setsGiving_112 (by decide) ?_
                    exact ih2 (a + 1) _ _ H locs ls (by omega) (by omega) (g_step c_35 hgi hr_70 (by first | exact fun h => absurd h (by decide) | exact fun _ => ⟨c_93, (lg_cmp_eq _ _).mp c_100⟩)) hP hD hS (lv_sub hl [0, 1, 3, 4, 5] rfl)
                  · refine lv_iconst (v := 1) hx hb dX0_setsGiving_103 (by decide +kernel) ?_
                    refine lv_goto (tgt := 108) hx hb dX0_setsGiving_104 (by decide) ?_
                    refine lv_istore_n (lv' := [(2, .int 1), (5, .long r_70), (4, .int (nI a)), (3, .int (nI r)), (0, .ref qa), (1, .int (nI g))]) hx hb dX0_setsGiving_108 rfl hl (by decide) rfl (fun ls hl => ?_)
                    refine lv_iinc (v := (nI (a + 1))) (lv' := [(4, .int (nI (a + 1))), (2, .int 1), (5, .long r_70), (3, .int (nI r)), (0, .ref qa), (1, .int (nI g))]) hx hb dX0_setsGiving_109 hl (k := 2) rfl (nI_inc _) (by decide) rfl (fun ls hl => ?_)
                    refine lv_goto (tgt := 29) hx hb dX0_setsGiving_112 (by decide) ?_
                    exact ih2 (a + 1) _ _ H locs ls (by omega) (by omega) (g_step c_35 hgi hr_70 (by first | exact fun h => absurd h (by decide) | exact fun _ => ⟨c_93, (lg_cmp_eq _ _).mp c_100⟩)) hP hD hS (lv_sub hl [0, 1, 3, 4, 5] rfl)
          exact inner (n + 1) 0 _ _ H locs ls (by omega) (Nat.zero_le _) (g_open hs1 hs2 _) hP hD hS (lv_sub hl [0, 1, 2, 3, 4] rfl)
  refine lv_aload_n hx hb dX0_setsGiving_0 rfl (lv_at hl 0 rfl) ?_
  refine va_get (D := D) (ci := 1) (v := .ref qg) (C := RX0) (T := TX0) (N := 7) hx hb hts iX0 hown hK hP 0 rfl rfl 6 (by decide) (hts (.fieldLink RX0 33 "LeastSets$Axioms" "givenBy" "[J") (by decide +kernel)) (fun _ h9 => h9) rfl dX0_setsGiving_1 ?_
  refine lv_lconst (v := 0) hx hb dX0_setsGiving_4 (by decide +kernel) ?_
  have hPc := hP.sub (ws' := [(qg, .inl (cJ, 24, .inr (.inl G)))]) [4] rfl
  have hDc := hD.sub (ws' := [(qg, .inl (cJ, 24, .inr (.inl G)))]) [4] (by decide) rfl
  have hFc := va_free (wc := [(qg, .inl (cJ, 24, .inr (.inl G)))]) hD hS hA [4] rfl
  refine va_callv (va_runS (As := [.ref qg, .long 0]) (rest := []) ⟨hx, hb, hml, hown, hts⟩ (c_J7_fill_d0a16 l D cJ t1 t2 _ qg 24 (by omega) G 0) (va_cwS 2 hts gX0_setsGiving_J7_fill_d0a16 rfl rfl rfl (by decide +kernel) ⟨Nat.le_of_ble_eq_true rfl, Nat.le_of_ble_eq_true rfl⟩) ⟨wr_blind, wr_pre hPc hDc hK hE hS hFc [2] rfl⟩ rfl rfl hl.1 rfl (lv_room (Nat.le_of_ble_eq_true rfl)) dX0_setsGiving_5 ⟨Nat.le_of_ble_eq_true rfl, Nat.le_of_ble_eq_true rfl⟩) hS (fun q _ h => hFc q h) hFc (fun u_5 t H locs ht hvm hw_5 hB hz1 hk1 hS => ?_)
  obtain ⟨hP1, hK1, hD1⟩ := hB
  rw [ht] at hP1
  obtain ⟨hP, hD⟩ := va_join (wr := [(qa, .inr (1, [.ref qb, .ref qh, .ref qw, .ref qf, .int (nI n), .ref qu, .ref qg])), (qb, .inl (cI, 14, .inl Bd)), (qh, .inl (cI, 14, .inl Hd)), (qu, .inl (cJ, 14, .inr (.inl U)))]) (w1 := [(qg, .inl (cJ, 24, .inr (.inl (fun _ => 0))))]) hP hD [4] [0, 1, 2, 3] rfl rfl (by decide) (by decide) hk1 hFc hP1 hD1
  have hP : va_P D vwCl [(qa, .inr (1, [.ref qb, .ref qh, .ref qw, .ref qf, .int (nI n), .ref qu, .ref qg])), (qb, .inl (cI, 14, .inl Bd)), (qh, .inl (cI, 14, .inl Hd)), (qu, .inl (cJ, 14, .inr (.inl U))), (qg, .inl (cJ, 24, .inr (.inl (fun _ => 0))))] H := hP.sub [0, 1, 2, 3, 4] rfl
  have hD : va_D A [(qa, .inr (1, [.ref qb, .ref qh, .ref qw, .ref qf, .int (nI n), .ref qu, .ref qg])), (qb, .inl (cI, 14, .inl Bd)), (qh, .inl (cI, 14, .inl Hd)), (qu, .inl (cJ, 14, .inr (.inl U))), (qg, .inl (cJ, 24, .inr (.inl (fun _ => 0))))] := hD.sub [0, 1, 2, 3, 4] (by decide) rfl
  clear hPc hDc hFc hP1 hK1 hD1 hk1 hz1
  refine lv_iconst (v := 1) hx hb dX0_setsGiving_8 (by decide +kernel) ?_
  refine lv_istore_n (lv' := [(2, .int 1), (0, .ref qa), (1, .int (nI g))]) hx hb dX0_setsGiving_9 rfl hl (by decide) rfl (fun ls hl => ?_)
  refine lv_iconst (v := (nI 0)) hx hb dX0_setsGiving_10 (by decide +kernel) ?_
  refine lv_istore_n (lv' := [(3, .int (nI 0)), (2, .int 1), (0, .ref qa), (1, .int (nI g))]) hx hb dX0_setsGiving_11 rfl hl (by decide) rfl (fun ls hl => ?_)
  exact outer (n + 1) 0 _ _ H locs ls (by omega) (Nat.zero_le _) g_start.1 g_start.2 (fun h => absurd h (by decide)) hP hD hS (lv_sub hl [0, 1, 2, 3] rfl)
