set_option maxHeartbeats 4000000 in
set_option maxRecDepth 100000 in
/-- from the entry, for every script of at most 1536 ints, the law comes to its end with true -/
theorem whole_start {p : Program} {e : Env} {s : State} {m : MethodId} {below : List Frame} {meth : Method} {c : Code} (l : Launch) (hf : l.flags = flags0) {b L : Nat} {xs : Nat → Int32} (hL : L ≤ 1536) (C0 : lw_At p s m meth c b L xs) : W p l e room_1 s m #[Value.ref b] below meth c s.heap [] 0 0 (lw_Z below #[Value.ref b] s) (entryFrame m ([Value.ref b] : List Value).toArray 7) := by
  obtain ⟨hx, hb, hr, hml, hown, htl, hX, hbl, hlocks, hgv⟩ := C0
  have hts : ∀ w ∈ wsL_law, w.before #[Value.ref b] s = true := fun w h => htl w (wsL_law_in w h)
  obtain ⟨D, cI, cZ, cJ, hK⟩ := st_K htl
  obtain ⟨A, eA⟩ : ∃ A : Nat → Prop, A = fun q => s.heap.size ≤ q := ⟨_, rfl⟩
  have hA : ∀ q : Nat, s.heap.size ≤ q → A q := fun q h => by rw [eA]; exact h
  have hA2 : ∀ q : Nat, A q → s.heap.size ≤ q := fun q h => by rw [eA] at h; exact h
  have hAn : ∀ a : Nat, a < s.heap.size → ¬ A a := fun a h z => by have := hA2 a z; omega
  obtain ⟨t1, t2, hE⟩ := st_E hAn htl hgv
  obtain ⟨sa, hT⟩ := st_T hAn htl hgv
  have C : LC_ p s m meth c b L xs D cI cZ cJ t1 t2 A := ⟨hx, hb, hml, hown, hts, hX, hbl, hAn b hbl, hK, hE, hA⟩
  have iX3 : ∀ w ∈ u_ws RX3 TX3 7, w ∈ wsL_law := by decide +kernel
  have iX4 : ∀ w ∈ u_ws RX4 TX4 14, w ∈ wsL_law := by decide +kernel
  have hP : va_P D vwCl [] s.heap := fun k q h => by cases h
  have hD : va_D A [] := ⟨(fun i j p q h => by cases h), (fun k q h => by cases h)⟩
  have hS : va_S A s.heap s.heap [] := va_S.rf
  have hl := lv_entry ([.ref b]) (n := 7) (Nat.le_of_ble_eq_true rfl)
  rw [lg_entry_eq]
  generalize (lg_sl ([.ref b]) ++ List.replicate (7 - (lg_sl ([.ref b])).length) Slot.unset).toArray = ls at hl ⊢
  have hl : lv_has ls 7 [(0, .ref b)] := hl
  refine va_new (D := D) (ci := 4) (fs := [.null, .null, .null, .null, .int 0, .int 0, .int 0]) (C := RX3) (T := TX3) (N := 7) hx hb hts iX3 tyX3 tyX3_ok hown (hts (.classLink RL 8 RX3) (by decide +kernel)) (hts (.instantiable RX3 7) (by decide +kernel)) (hts (.initialized RX3) (by decide +kernel)) hK hP hD hS hA rfl (by decide +kernel) (Nat.le_of_ble_eq_true rfl) (Nat.le_of_ble_eq_true rfl) dL_law_0 (fun qx H hP hD hS => ?_)
  have hP : va_P D vwCl [(qx, .inr (4, [.null, .null, .null, .null, .int 0, .int 0, .int 0]))] H := hP
  have hD : va_D A [(qx, .inr (4, [.null, .null, .null, .null, .int 0, .int 0, .int 0]))] := hD
  refine lv_dup hx hb dL_law_3 rfl ?_
  have hPc := hP.sub (ws' := [(qx, .inr (4, [.null, .null, .null, .null, .int 0, .int 0, .int 0]))]) [0] rfl
  have hDc := hD.sub (ws' := [(qx, .inr (4, [.null, .null, .null, .null, .int 0, .int 0, .int 0]))]) [0] (by decide) rfl
  have hFc := va_free (wc := [(qx, .inr (4, [.null, .null, .null, .null, .int 0, .int 0, .int 0]))]) hD hS hA [0] rfl
  refine va_callv (va_runI (As := []) (rest := [.ref qx]) ⟨hx, hb, hml, hown, hts⟩ (c_X3_init l D cI cZ cJ t1 t2 _ qx) (cwI 0 hts gL_law_X3_init rfl rfl rfl (hts (.initialized RX3) (by decide +kernel)) (hts (.methodLink RL 15 yX3_init) (by decide +kernel)) (hts (.instanceMethod yX3_init) (by decide +kernel)) rfl (by decide +kernel) ⟨Nat.le_of_ble_eq_true rfl, Nat.le_of_ble_eq_true rfl⟩) ⟨wr_blind, wr_pre hPc hDc hK hE hS hFc [0, 1, 2] rfl⟩ rfl rfl hl.1 rfl (lv_room (Nat.le_of_ble_eq_true rfl)) dL_law_4 ⟨Nat.le_of_ble_eq_true rfl, Nat.le_of_ble_eq_true rfl⟩) hS (fun q _ h => hFc q h) hFc (fun u_4 t H locs ht hvm hw_4 hB hz1 hk1 hS => ?_)
  obtain ⟨qa, qb, qh, qw, qf, qu, qg, qm, qn, qo, ql, qs, qp, qr⟩ := u_4
  obtain ⟨hP1, hK1, hD1⟩ := hB
  rw [ht] at hP1
  obtain ⟨hP, hD⟩ := va_join (wr := []) (w1 := [(qx, .inr (4, [.ref qa, .ref qm, .ref ql, .ref qp, .int (nI 0), .int 0, .int 0])), (qa, .inr (1, [.ref qb, .ref qh, .ref qw, .ref qf, .int (nI 0), .ref qu, .ref qg])), (qb, .inl (cI, 14, .inl (fun _ => 0))), (qh, .inl (cI, 14, .inl (fun _ => 0))), (qw, .inl (cI, 14, .inl (fun _ => 0))), (qf, .inl (cZ, 14, .inl (fun _ => 0))), (qu, .inl (cJ, 14, .inr (.inl (fun _ => 0)))), (qg, .inl (cJ, 24, .inr (.inl (fun _ => 0)))), (qm, .inr (2, [.ref qn, .ref qo])), (qn, .inl (cJ, 256, .inr (.inl (fun _ => 0)))), (qo, .inl (cJ, 256, .inr (.inl (fun _ => 0)))), (ql, .inr (3, [.ref qs, .int (nI 0)])), (qs, .inl (cI, 3432, .inl (fun _ => 0))), (qp, .inr (3, [.ref qr, .int (nI 0)])), (qr, .inl (cI, 3432, .inl (fun _ => 0)))]) hP hD [0] [] rfl rfl (by decide) (by decide) hk1 hFc hP1 hD1
  have hP : va_P D vwCl [(qx, .inr (4, [.ref qa, .ref qm, .ref ql, .ref qp, .int (nI 0), .int 0, .int 0])), (qa, .inr (1, [.ref qb, .ref qh, .ref qw, .ref qf, .int (nI 0), .ref qu, .ref qg])), (qb, .inl (cI, 14, .inl (fun _ => 0))), (qh, .inl (cI, 14, .inl (fun _ => 0))), (qw, .inl (cI, 14, .inl (fun _ => 0))), (qf, .inl (cZ, 14, .inl (fun _ => 0))), (qu, .inl (cJ, 14, .inr (.inl (fun _ => 0)))), (qg, .inl (cJ, 24, .inr (.inl (fun _ => 0)))), (qm, .inr (2, [.ref qn, .ref qo])), (qn, .inl (cJ, 256, .inr (.inl (fun _ => 0)))), (qo, .inl (cJ, 256, .inr (.inl (fun _ => 0)))), (ql, .inr (3, [.ref qs, .int (nI 0)])), (qs, .inl (cI, 3432, .inl (fun _ => 0))), (qp, .inr (3, [.ref qr, .int (nI 0)])), (qr, .inl (cI, 3432, .inl (fun _ => 0)))] H := hP.sub [0, 1, 2, 3, 4, 5, 6, 7, 8, 9, 10, 11, 12, 13, 14] rfl
  have hD : va_D A [(qx, .inr (4, [.ref qa, .ref qm, .ref ql, .ref qp, .int (nI 0), .int 0, .int 0])), (qa, .inr (1, [.ref qb, .ref qh, .ref qw, .ref qf, .int (nI 0), .ref qu, .ref qg])), (qb, .inl (cI, 14, .inl (fun _ => 0))), (qh, .inl (cI, 14, .inl (fun _ => 0))), (qw, .inl (cI, 14, .inl (fun _ => 0))), (qf, .inl (cZ, 14, .inl (fun _ => 0))), (qu, .inl (cJ, 14, .inr (.inl (fun _ => 0)))), (qg, .inl (cJ, 24, .inr (.inl (fun _ => 0)))), (qm, .inr (2, [.ref qn, .ref qo])), (qn, .inl (cJ, 256, .inr (.inl (fun _ => 0)))), (qo, .inl (cJ, 256, .inr (.inl (fun _ => 0)))), (ql, .inr (3, [.ref qs, .int (nI 0)])), (qs, .inl (cI, 3432, .inl (fun _ => 0))), (qp, .inr (3, [.ref qr, .int (nI 0)])), (qr, .inl (cI, 3432, .inl (fun _ => 0)))] := hD.sub [0, 1, 2, 3, 4, 5, 6, 7, 8, 9, 10, 11, 12, 13, 14] (by decide) rfl
  clear hPc hDc hFc hP1 hK1 hD1 hk1 hz1
  refine lv_astore_n (lv' := [(1, .ref qx), (0, .ref b)]) hx hb dL_law_7 rfl hl (by decide) rfl (fun ls hl => ?_)
  refine va_new (D := D) (ci := 5) (fs := [.null, .null, .null, .null, .int 0, .int 0, .int 0, .null, .null, .int 0, .null, .int 0, .int 0, .int 0]) (C := RX4) (T := TX4) (N := 14) hx hb hts iX4 tyX4 tyX4_ok hown (hts (.classLink RL 16 RX4) (by decide +kernel)) (hts (.instantiable RX4 14) (by decide +kernel)) (hts (.initialized RX4) (by decide +kernel)) hK hP hD hS hA rfl (by decide +kernel) (Nat.le_of_ble_eq_true rfl) (Nat.le_of_ble_eq_true rfl) dL_law_8 (fun qy H hP hD hS => ?_)
  have hP : va_P D vwCl [(qx, .inr (4, [.ref qa, .ref qm, .ref ql, .ref qp, .int (nI 0), .int 0, .int 0])), (qa, .inr (1, [.ref qb, .ref qh, .ref qw, .ref qf, .int (nI 0), .ref qu, .ref qg])), (qb, .inl (cI, 14, .inl (fun _ => 0))), (qh, .inl (cI, 14, .inl (fun _ => 0))), (qw, .inl (cI, 14, .inl (fun _ => 0))), (qf, .inl (cZ, 14, .inl (fun _ => 0))), (qu, .inl (cJ, 14, .inr (.inl (fun _ => 0)))), (qg, .inl (cJ, 24, .inr (.inl (fun _ => 0)))), (qm, .inr (2, [.ref qn, .ref qo])), (qn, .inl (cJ, 256, .inr (.inl (fun _ => 0)))), (qo, .inl (cJ, 256, .inr (.inl (fun _ => 0)))), (ql, .inr (3, [.ref qs, .int (nI 0)])), (qs, .inl (cI, 3432, .inl (fun _ => 0))), (qp, .inr (3, [.ref qr, .int (nI 0)])), (qr, .inl (cI, 3432, .inl (fun _ => 0))), (qy, .inr (5, [.null, .null, .null, .null, .int 0, .int 0, .int 0, .null, .null, .int 0, .null, .int 0, .int 0, .int 0]))] H := hP
  have hD : va_D A [(qx, .inr (4, [.ref qa, .ref qm, .ref ql, .ref qp, .int (nI 0), .int 0, .int 0])), (qa, .inr (1, [.ref qb, .ref qh, .ref qw, .ref qf, .int (nI 0), .ref qu, .ref qg])), (qb, .inl (cI, 14, .inl (fun _ => 0))), (qh, .inl (cI, 14, .inl (fun _ => 0))), (qw, .inl (cI, 14, .inl (fun _ => 0))), (qf, .inl (cZ, 14, .inl (fun _ => 0))), (qu, .inl (cJ, 14, .inr (.inl (fun _ => 0)))), (qg, .inl (cJ, 24, .inr (.inl (fun _ => 0)))), (qm, .inr (2, [.ref qn, .ref qo])), (qn, .inl (cJ, 256, .inr (.inl (fun _ => 0)))), (qo, .inl (cJ, 256, .inr (.inl (fun _ => 0)))), (ql, .inr (3, [.ref qs, .int (nI 0)])), (qs, .inl (cI, 3432, .inl (fun _ => 0))), (qp, .inr (3, [.ref qr, .int (nI 0)])), (qr, .inl (cI, 3432, .inl (fun _ => 0))), (qy, .inr (5, [.null, .null, .null, .null, .int 0, .int 0, .int 0, .null, .null, .int 0, .null, .int 0, .int 0, .int 0]))] := hD
  refine lv_dup hx hb dL_law_11 rfl ?_
  have hPc := hP.sub (ws' := [(qy, .inr (5, [.null, .null, .null, .null, .int 0, .int 0, .int 0, .null, .null, .int 0, .null, .int 0, .int 0, .int 0]))]) [15] rfl
  have hDc := hD.sub (ws' := [(qy, .inr (5, [.null, .null, .null, .null, .int 0, .int 0, .int 0, .null, .null, .int 0, .null, .int 0, .int 0, .int 0]))]) [15] (by decide) rfl
  have hFc := va_free (wc := [(qy, .inr (5, [.null, .null, .null, .null, .int 0, .int 0, .int 0, .null, .null, .int 0, .null, .int 0, .int 0, .int 0]))]) hD hS hA [15] rfl
  refine va_callv (va_runI (As := []) (rest := [.ref qy]) ⟨hx, hb, hml, hown, hts⟩ (c_X4_init l D cI cZ cJ t1 t2 _ qy) (cwI 0 hts gL_law_X4_init rfl rfl rfl (hts (.initialized RX4) (by decide +kernel)) (hts (.methodLink RL 18 yX4_init) (by decide +kernel)) (hts (.instanceMethod yX4_init) (by decide +kernel)) rfl (by decide +kernel) ⟨Nat.le_of_ble_eq_true rfl, Nat.le_of_ble_eq_true rfl⟩) ⟨wr_blind, wr_pre hPc hDc hK hE hS hFc [0, 1, 2] rfl⟩ rfl rfl hl.1 rfl (lv_room (Nat.le_of_ble_eq_true rfl)) dL_law_12 ⟨Nat.le_of_ble_eq_true rfl, Nat.le_of_ble_eq_true rfl⟩) hS (fun q _ h => hFc q h) hFc (fun u_12 t H locs ht hvm hw_12 hB hz1 hk1 hS => ?_)
  obtain ⟨m1, m2, m3, m4, m5, m6, m7⟩ := u_12
  obtain ⟨hP1, hK1, hD1⟩ := hB
  rw [ht] at hP1
  obtain ⟨hP, hD⟩ := va_join (wr := [(qx, .inr (4, [.ref qa, .ref qm, .ref ql, .ref qp, .int (nI 0), .int 0, .int 0])), (qa, .inr (1, [.ref qb, .ref qh, .ref qw, .ref qf, .int (nI 0), .ref qu, .ref qg])), (qb, .inl (cI, 14, .inl (fun _ => 0))), (qh, .inl (cI, 14, .inl (fun _ => 0))), (qw, .inl (cI, 14, .inl (fun _ => 0))), (qf, .inl (cZ, 14, .inl (fun _ => 0))), (qu, .inl (cJ, 14, .inr (.inl (fun _ => 0)))), (qg, .inl (cJ, 24, .inr (.inl (fun _ => 0)))), (qm, .inr (2, [.ref qn, .ref qo])), (qn, .inl (cJ, 256, .inr (.inl (fun _ => 0)))), (qo, .inl (cJ, 256, .inr (.inl (fun _ => 0)))), (ql, .inr (3, [.ref qs, .int (nI 0)])), (qs, .inl (cI, 3432, .inl (fun _ => 0))), (qp, .inr (3, [.ref qr, .int (nI 0)])), (qr, .inl (cI, 3432, .inl (fun _ => 0)))]) (w1 := [(qy, .inr (5, [.ref m1, .ref m2, .ref m3, .ref m4, .int (nI 0), .int (nI 0), .int 0, .ref m5, .ref m6, .int (nI 0), .ref m7, .int (nI 0), .int 0, .int 0])), (m1, .inl (cI, 14, .inl (fun _ => 0))), (m2, .inl (cI, 14, .inl (fun _ => 0))), (m3, .inl (cI, 14, .inl (fun _ => 0))), (m4, .inl (cZ, 14, .inl (fun _ => 0))), (m5, .inl (cZ, 16384, .inl (fun _ => 0))), (m6, .inl (cI, 4000, .inl (fun _ => 0))), (m7, .inl (cI, 4000, .inl (fun _ => 0)))]) hP hD [15] [0, 1, 2, 3, 4, 5, 6, 7, 8, 9, 10, 11, 12, 13, 14] rfl rfl (by decide) (by decide) hk1 hFc hP1 hD1
  have hP : va_P D vwCl [(qx, .inr (4, [.ref qa, .ref qm, .ref ql, .ref qp, .int (nI 0), .int 0, .int 0])), (qa, .inr (1, [.ref qb, .ref qh, .ref qw, .ref qf, .int (nI 0), .ref qu, .ref qg])), (qb, .inl (cI, 14, .inl (fun _ => 0))), (qh, .inl (cI, 14, .inl (fun _ => 0))), (qw, .inl (cI, 14, .inl (fun _ => 0))), (qf, .inl (cZ, 14, .inl (fun _ => 0))), (qu, .inl (cJ, 14, .inr (.inl (fun _ => 0)))), (qg, .inl (cJ, 24, .inr (.inl (fun _ => 0)))), (qm, .inr (2, [.ref qn, .ref qo])), (qn, .inl (cJ, 256, .inr (.inl (fun _ => 0)))), (qo, .inl (cJ, 256, .inr (.inl (fun _ => 0)))), (ql, .inr (3, [.ref qs, .int (nI 0)])), (qs, .inl (cI, 3432, .inl (fun _ => 0))), (qp, .inr (3, [.ref qr, .int (nI 0)])), (qr, .inl (cI, 3432, .inl (fun _ => 0))), (qy, .inr (5, [.ref m1, .ref m2, .ref m3, .ref m4, .int (nI 0), .int (nI 0), .int 0, .ref m5, .ref m6, .int (nI 0), .ref m7, .int (nI 0), .int 0, .int 0])), (m1, .inl (cI, 14, .inl (fun _ => 0))), (m2, .inl (cI, 14, .inl (fun _ => 0))), (m3, .inl (cI, 14, .inl (fun _ => 0))), (m4, .inl (cZ, 14, .inl (fun _ => 0))), (m5, .inl (cZ, 16384, .inl (fun _ => 0))), (m6, .inl (cI, 4000, .inl (fun _ => 0))), (m7, .inl (cI, 4000, .inl (fun _ => 0)))] H := hP.sub [0, 1, 2, 3, 4, 5, 6, 7, 8, 9, 10, 11, 12, 13, 14, 15, 16, 17, 18, 19, 20, 21, 22] rfl
  have hD : va_D A [(qx, .inr (4, [.ref qa, .ref qm, .ref ql, .ref qp, .int (nI 0), .int 0, .int 0])), (qa, .inr (1, [.ref qb, .ref qh, .ref qw, .ref qf, .int (nI 0), .ref qu, .ref qg])), (qb, .inl (cI, 14, .inl (fun _ => 0))), (qh, .inl (cI, 14, .inl (fun _ => 0))), (qw, .inl (cI, 14, .inl (fun _ => 0))), (qf, .inl (cZ, 14, .inl (fun _ => 0))), (qu, .inl (cJ, 14, .inr (.inl (fun _ => 0)))), (qg, .inl (cJ, 24, .inr (.inl (fun _ => 0)))), (qm, .inr (2, [.ref qn, .ref qo])), (qn, .inl (cJ, 256, .inr (.inl (fun _ => 0)))), (qo, .inl (cJ, 256, .inr (.inl (fun _ => 0)))), (ql, .inr (3, [.ref qs, .int (nI 0)])), (qs, .inl (cI, 3432, .inl (fun _ => 0))), (qp, .inr (3, [.ref qr, .int (nI 0)])), (qr, .inl (cI, 3432, .inl (fun _ => 0))), (qy, .inr (5, [.ref m1, .ref m2, .ref m3, .ref m4, .int (nI 0), .int (nI 0), .int 0, .ref m5, .ref m6, .int (nI 0), .ref m7, .int (nI 0), .int 0, .int 0])), (m1, .inl (cI, 14, .inl (fun _ => 0))), (m2, .inl (cI, 14, .inl (fun _ => 0))), (m3, .inl (cI, 14, .inl (fun _ => 0))), (m4, .inl (cZ, 14, .inl (fun _ => 0))), (m5, .inl (cZ, 16384, .inl (fun _ => 0))), (m6, .inl (cI, 4000, .inl (fun _ => 0))), (m7, .inl (cI, 4000, .inl (fun _ => 0)))] := hD.sub [0, 1, 2, 3, 4, 5, 6, 7, 8, 9, 10, 11, 12, 13, 14, 15, 16, 17, 18, 19, 20, 21, 22] (by decide) rfl
  clear hPc hDc hFc hP1 hK1 hD1 hk1 hz1
  refine lv_astore_n (lv' := [(2, .ref qy), (1, .ref qx), (0, .ref b)]) hx hb dL_law_15 rfl hl (by decide) rfl (fun ls hl => ?_)
  refine lv_iconst (v := (nI 1)) hx hb dL_law_16 (by decide +kernel) ?_
  refine va_newa (atype := .long) (n := nI 1) hx hb (hts (.arrayClass .long) (by decide +kernel)) (ty := .long) rfl hK hP hD hS hA (N' := 1) (a0 := (1, .inr (.inl (fun _ => 0)))) (fun cA => (vp_cell_l cA 1 _).trans (congrArg (arrV cA 1) (funext fun _ => rfl))) (by decide +kernel) (by decide +kernel) (by decide +kernel) (Nat.le_of_ble_eq_true rfl) (Nat.le_of_ble_eq_true rfl) dL_law_17 (fun qz cA H hK2 hP hD hS => ?_)
  obtain ⟨ecA, -⟩ := K_same hK2 2 rfl (by decide +kernel)
  rw [ecA] at hP hD
  clear hK2
  have hP : va_P D vwCl [(qx, .inr (4, [.ref qa, .ref qm, .ref ql, .ref qp, .int (nI 0), .int 0, .int 0])), (qa, .inr (1, [.ref qb, .ref qh, .ref qw, .ref qf, .int (nI 0), .ref qu, .ref qg])), (qb, .inl (cI, 14, .inl (fun _ => 0))), (qh, .inl (cI, 14, .inl (fun _ => 0))), (qw, .inl (cI, 14, .inl (fun _ => 0))), (qf, .inl (cZ, 14, .inl (fun _ => 0))), (qu, .inl (cJ, 14, .inr (.inl (fun _ => 0)))), (qg, .inl (cJ, 24, .inr (.inl (fun _ => 0)))), (qm, .inr (2, [.ref qn, .ref qo])), (qn, .inl (cJ, 256, .inr (.inl (fun _ => 0)))), (qo, .inl (cJ, 256, .inr (.inl (fun _ => 0)))), (ql, .inr (3, [.ref qs, .int (nI 0)])), (qs, .inl (cI, 3432, .inl (fun _ => 0))), (qp, .inr (3, [.ref qr, .int (nI 0)])), (qr, .inl (cI, 3432, .inl (fun _ => 0))), (qy, .inr (5, [.ref m1, .ref m2, .ref m3, .ref m4, .int (nI 0), .int (nI 0), .int 0, .ref m5, .ref m6, .int (nI 0), .ref m7, .int (nI 0), .int 0, .int 0])), (m1, .inl (cI, 14, .inl (fun _ => 0))), (m2, .inl (cI, 14, .inl (fun _ => 0))), (m3, .inl (cI, 14, .inl (fun _ => 0))), (m4, .inl (cZ, 14, .inl (fun _ => 0))), (m5, .inl (cZ, 16384, .inl (fun _ => 0))), (m6, .inl (cI, 4000, .inl (fun _ => 0))), (m7, .inl (cI, 4000, .inl (fun _ => 0))), (qz, .inl (cJ, 1, .inr (.inl (fun _ => 0))))] H := hP
  have hD : va_D A [(qx, .inr (4, [.ref qa, .ref qm, .ref ql, .ref qp, .int (nI 0), .int 0, .int 0])), (qa, .inr (1, [.ref qb, .ref qh, .ref qw, .ref qf, .int (nI 0), .ref qu, .ref qg])), (qb, .inl (cI, 14, .inl (fun _ => 0))), (qh, .inl (cI, 14, .inl (fun _ => 0))), (qw, .inl (cI, 14, .inl (fun _ => 0))), (qf, .inl (cZ, 14, .inl (fun _ => 0))), (qu, .inl (cJ, 14, .inr (.inl (fun _ => 0)))), (qg, .inl (cJ, 24, .inr (.inl (fun _ => 0)))), (qm, .inr (2, [.ref qn, .ref qo])), (qn, .inl (cJ, 256, .inr (.inl (fun _ => 0)))), (qo, .inl (cJ, 256, .inr (.inl (fun _ => 0)))), (ql, .inr (3, [.ref qs, .int (nI 0)])), (qs, .inl (cI, 3432, .inl (fun _ => 0))), (qp, .inr (3, [.ref qr, .int (nI 0)])), (qr, .inl (cI, 3432, .inl (fun _ => 0))), (qy, .inr (5, [.ref m1, .ref m2, .ref m3, .ref m4, .int (nI 0), .int (nI 0), .int 0, .ref m5, .ref m6, .int (nI 0), .ref m7, .int (nI 0), .int 0, .int 0])), (m1, .inl (cI, 14, .inl (fun _ => 0))), (m2, .inl (cI, 14, .inl (fun _ => 0))), (m3, .inl (cI, 14, .inl (fun _ => 0))), (m4, .inl (cZ, 14, .inl (fun _ => 0))), (m5, .inl (cZ, 16384, .inl (fun _ => 0))), (m6, .inl (cI, 4000, .inl (fun _ => 0))), (m7, .inl (cI, 4000, .inl (fun _ => 0))), (qz, .inl (cJ, 1, .inr (.inl (fun _ => 0))))] := hD
  refine lv_astore_n (lv' := [(3, .ref qz), (2, .ref qy), (1, .ref qx), (0, .ref b)]) hx hb dL_law_19 rfl hl (by decide) rfl (fun ls hl => ?_)
  refine lv_iconst (v := (nI 0)) hx hb dL_law_20 (by decide +kernel) ?_
  refine lv_istore (lv' := [(4, .int (nI 0)), (3, .ref qz), (2, .ref qy), (1, .ref qx), (0, .ref b)]) hx hb dL_law_21 hl (by decide) rfl (fun ls hl => ?_)
  exact law_loop (q := fun k => [qx, qa, qb, qh, qw, qf, qu, qg, qm, qn, qo, ql, qs, qp, qr, qy, m1, m2, m3, m4, m5, m6, m7, qz].getD k 0) C hL hr hlocks hA2 hf hT htl (L + 1) 0 ((0, fun _ => 0, fun _ => 0, fun _ => 0, fun _ => 0, 0), (fun _ => 0, fun _ => 0, fun _ => 0, fun _ => 0, 0, fun _ => 0, 0, fun _ => 0, 0, 0)) ((0, fun _ => 0, fun _ => 0, fun _ => 0, fun _ => 0, 0), (0, fun _ => 0, 0, fun _ => 0, 0, fun _ => 0, 0, 0)) (fun _ => 0) H locs ls _ _ (by omega) (Nat.zero_le _) (Nat.le_of_ble_eq_true rfl) (Nat.le_of_ble_eq_true rfl) (lv_sub hl [0, 4, 3, 2, 1] rfl) ⟨rfl, ⟨by omega, by omega, fun a h => absurd h (by omega), fun a h => absurd h (by omega)⟩, IV_0, IM_0, hP, hD, hS⟩
set_option maxHeartbeats 4000000 in
theorem lw_walk (l : Launch) (hfl : l.flags = flags0) (b : Addr) (xs : List Int32) : MetFree l x (headSpec (Jvm.Cond.code x code maxLocals ret :: tables_1) room_1) (lw_P b xs) (fun _ _ _ _ _ => True) lw_Q := by
  refine MetFree.of_bodyS (code := code) (maxLocals := maxLocals) (ret := ret) (by decide) ?_ ?_
  · intro args s m h hn
    obtain ⟨meth, c, h1, h2, h3, h4, h5, h6, -, -⟩ := Cond.code_spec hn (atoms_spec (ws := Jvm.Cond.code x code maxLocals ret :: tables_1) h _ List.mem_cons_self)
    exact ⟨meth, c, h1, h2, h3, h4, h5, h6⟩
  · intro p e s m args below meth c s₁ B hml0 hP _
    obtain ⟨rfl, hx, hbd, hgv⟩ := hP
    obtain ⟨scr, harrAt, hlist, hof, hsmall⟩ := hx
    obtain ⟨hcb, hkn, -, -⟩ := State.arrayAt?_spec harrAt
    have hown : s.vm.findClass R_law = some m.cls := findClass_of_methodNamed B.named
    have hts0 : ∀ c ∈ (Jvm.Cond.code x code maxLocals ret :: tables_1), c.before #[Value.ref b] s = true := atoms_spec (ws := Jvm.Cond.code x code maxLocals ret :: tables_1) B.pre
    have hts : ∀ w ∈ lw_tbl, w.before #[Value.ref b] s = true := k2_hts_sels lw_privs (fun w hw => hts0 w (List.mem_cons_of_mem _ hw)) lw_privs_ok
    have hml : c.maxLocals = 7 := B.maxLocals_eq (hts0 _ List.mem_cons_self)
    have X₀ : Stand p l e room_1 s m #[Value.ref b] below meth c s₁ [] 0 0 := Stand.of_body B
    have hh0 : s₁.heap = s.heap := by rw [B.state]; rfl
    have hsz : scr.slots.size = xs.length := by rw [← Array.length_toList, hlist, List.length_map]
    have hval : ∀ j : Nat, j < xs.length → scr.slots[j]? = some (.int (xs.getD j 0)) := fun j hj => by
      rw [← Array.getElem?_toList, hlist]
      simp [hj]
    have hbl : b < s.heap.size := (Array.getElem?_eq_some_iff.mp hcb).1
    have hX : va_X b xs.length (fun j => xs.getD j 0) s s.heap := ⟨scr, hcb, hof, hkn, hsz, hval⟩
    have K : W p l e room_1 s m #[Value.ref b] below meth c s₁.heap [] 0 0 (lw_Z below #[Value.ref b] s) (entryFrame m ([Value.ref b] : List Value).toArray 7) := by
      rw [hh0]
      exact whole_start l hfl hbd ⟨B.exec, B.bytes, B.returns, hml, hown, hts, hX, hbl, B.notSynchronized, hgv⟩
    obtain ⟨t, a1, o, b1, b2, b3⟩ := K s₁ rfl X₀
    exact ⟨t, o, a1, b1, b2, b3⟩
theorem lw_pre_spec {args : Array Value} {s : State} (h : (Jvm.Cond.and given_1 narrow_1).before args s = true) (hr : rest_1_c.before args s = true) : ∃ (b : Addr) (xs : List Int32), lw_P b xs args s := by
  have hs := flat_of_before _ h
  have hq := flat_of_before _ hr
  have hc : (Cond.count 1).before args s = true := hs _ (by decide +kernel)
  have harr : (Cond.arrayOf (.arg 0) .int).before args s = true := hs _ (by decide +kernel)
  have hle : (Cond.le (.length (.arg 0)) (.int 1536)).before args s = true := hs _ (by decide +kernel)
  have hlen : (Cond.isInt (.length (.arg 0))).before args s = true := hq _ (by decide +kernel)
  have hall : (Cond.all (.arg 0) (.isInt (.elem (.arg 0) (.index 0)))).before args s = true := hq _ (by decide +kernel)
  obtain ⟨b, xs, hb, hx⟩ := State.ints_of_pre rfl harr hlen hall
  have hsm : xs.length < 2 ^ 31 := hx.choose_spec.2.2.2
  have hev : (Term.length (.arg 0)).eval args s none [] s = some (.int xs.length.toInt32) := hx.length_eval hb
  have hv := Cond.le_ints hev (show (Term.int 1536).eval args s none [] s = some (.int 1536) from rfl)
  have hd : xs.length.toInt32 ≤ 1536 := by
    simpa [Cond.before, Cond.holds, hv] using hle
  have hN : xs.length ≤ 1536 := (Int32.ofNat_le_ofNat hsm (by decide)).mp (show Int32.ofNat xs.length ≤ Int32.ofNat 1536 from hd)
  exact ⟨b, xs, Cond.one_arg hc (show args[0]? = some (.ref b) from hb), hx, hN, h⟩
theorem lw_comes (l : Launch) (hfl : l.flags = flags0) : Comes l x (Jvm.Cond.code x code maxLocals ret :: tables_1) room_1 (fun tb e args s => Calls_1 tb e args s ∧ rest_1 tb e args s ∧ Pre_1 tb e args s)
    (fun _ _ args s o t => lw_Q args s o t) := by
  intro p e ha hc hk s m args below hf hfit hheap happ hpre
  obtain ⟨b, xs, hP⟩ := lw_pre_spec hpre.2.2 hpre.2.1
  obtain ⟨k, o, h1, h2, h3, hQ⟩ := lw_walk l hfl b xs p e ha hc hk s m args below hf ((Spec.applies_iff_loose hf).mp happ).1 hP trivial
  exact ⟨k, o, h1, h2, h3, hQ⟩
theorem lw_frame {s t : State} {o : Outcome} {args : Array Value} (h : Framed s o t [] 1049 40143) :
    Framed s o t (fieldLocs frame_1_writes args s ++ arrayLocs frame_1_arrays args s ++ staticLocs frame_1_statics s) 1049 40143 := h
theorem lw_limb (L : Cond) (hL : ∀ (args : Array Value) (s t : State), L.after args s (.returned (some (.int 1))) t = true) :
    ArmFor flags0 classFile x code maxLocals ret World_1 tables_1 room_1 Calls_1 rest_1 Pre_1
      (fun tb e a s o t => postC L tb e a s o t ∧ Framed s o t (fieldLocs frame_1_writes a s ++ arrayLocs frame_1_arrays a s ++ staticLocs frame_1_statics s) 1049 40143) := by
  intro l hfl _ _ p e ha hc hk s m args below hf hfit hheap happ hpre
  obtain ⟨k, o, h1, h2, h3, rfl, hF⟩ := lw_comes l hfl p e ha hc hk s m args below hf hfit hheap happ hpre
  exact ⟨k, _, h1, h2, h3, hL args s _, lw_frame hF⟩
theorem i_vc : Claimed_1_1 ∧ Claimed_1_2 := ⟨lw_limb limb_1_1 (fun args s t => by simp [limb_1_1, Cond.after, Cond.holds, Cond.value]), lw_limb limb_1_2 (fun args s t => Cond.after_iff.mpr (by
  first | (rw [show limb_1_2 = Cond.eq .result (.int 1) from rfl, Cond.eq_ints (x := 1) (y := 1) rfl rfl]; simp; done) | (simp [limb_1_2, Cond.value, Term.eval]; done)))⟩
