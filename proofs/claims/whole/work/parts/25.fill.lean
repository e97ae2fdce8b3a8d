set_option maxHeartbeats 4000000 in
set_option maxRecDepth 100000 in
/-- Arrays.fill -/
theorem c_J7_fill_d0a16 (l : Launch) (D : va_G) (cJ : ClassId) (t1 t2 sz : Nat) (q N : Nat) (hN : N < 2147483647) (G : Nat → Int64) (x : Int64) : Met l yJ7_fill_d0a16 wsJ7_fill_d0a16 ({ frames := 0, cells := 0, slots := 0, locals := 0 } : Room) (va_Pc [.ref q, .long x] (wr_ D [(cJ, .long)] [(q, .inl (cJ, N, .inr (.inl G)))] t1 t2 sz)) (va_Qv (S := Unit) (fun _ => True) (fun _ => wd_ D [(cJ, .long)] (va_A [(q, .inl (cJ, N, .inr (.inl G)))] sz) [(q, .inl (cJ, N, .inr (.inl (fun _ => x))))]) (va_A [(q, .inl (cJ, N, .inr (.inl G)))] sz)) 0 0 (va_A [(q, .inl (cJ, N, .inr (.inl G)))] sz) := by
  refine Met.ofW (cc := cJ7_fill_d0a16) (maxL := 5) (ret := none) (by decide) rfl ?_
  intro p e s m args below meth c s₁ B hml hv
  obtain ⟨rfl, hsz, hP, hK, hD0, hE⟩ := hv
  have hx := B.exec
  have hb := B.bytes
  have hr := B.returns
  have hts := atoms_spec (ws := wsJ7_fill_d0a16) B.pre
  have hown : s.vm.findClass RJ7 = some m.cls := findClass_of_methodNamed B.named
  have hlocks := B.notSynchronized
  subst hsz
  have hD := hD0.self (sz := s.heap.size)
  generalize hAe : va_A [(q, .inl (cJ, N, .inr (.inl G)))] s.heap.size = A at hD hE ⊢
  have hA : ∀ q : Nat, s.heap.size ≤ q → A q := fun q h => by rw [← hAe]; exact Or.inr h
  have hS : va_S A s.heap s.heap [] := va_S.rf
  have hl := lv_entry ([.ref q, .long x]) (n := 5) (Nat.le_of_ble_eq_true rfl)
  rw [lg_entry_eq]
  generalize (lg_sl ([.ref q, .long x]) ++ List.replicate (5 - (lg_sl ([.ref q, .long x])).length) Slot.unset).toArray = ls at hl ⊢
  have hl : lv_has ls 5 [(0, .ref q), (1, .long x)] := hl
  have loop : ∀ (d i : Nat) (Gc : Nat → Int64) (H : Heap) (locs : List Loc) (ls : Array Slot), N < i + d → i ≤ N → (∀ j, j < i → Gc j = x) → va_P D vwCl [(q, .inl (cJ, N, .inr (.inl Gc)))] H → va_D A [(q, .inl (cJ, N, .inr (.inl Gc)))] → va_S A s.heap H locs → lv_has ls 5 [(3, .int (nI i)), (4, .int (nI N)), (0, .ref q), (1, .long x)] → W p l e (headSpec wsJ7_fill_d0a16 ({ frames := 0, cells := 0, slots := 0, locals := 0 } : Room)).room s m ([.ref q, .long x] : List Value).toArray below meth c H locs 0 0 (MQ below (va_Qv (S := Unit) (fun _ => True) (fun _ => wd_ D [(cJ, .long)] A [(q, .inl (cJ, N, .inr (.inl (fun _ => x))))]) A) ([.ref q, .long x] : List Value).toArray s 0 0 A) (F0 m 6 ls []) := by
    intro d
    induction d with
    | zero => intro i Gc H locs ls h1 h2; omega
    | succ d ih =>
      intro i Gc H locs ls h1 h2 hG hP hD hS hl
      refine lv_iload_n hx hb dJ7_fill_d0a16_6 rfl (lv_at hl 0 rfl) ?_
      refine lv_iload hx hb dJ7_fill_d0a16_7 (lv_at hl 1 rfl) ?_
      refine r_ige hx hb (tgt := 22) (by omega) (by omega) dJ7_fill_d0a16_9 (by decide) (fun c_9 => ?_) (fun c_9 => ?_)
      · have hP : va_P D vwCl [(q, .inl (cJ, N, .inr (.inl (fun _ => x))))] H := P_eqL 0 hP rfl (fun j hj => hG j (by omega))
        have hD : va_D A [(q, .inl (cJ, N, .inr (.inl (fun _ => x))))] := hD.set (p := 0) rfl
        exact W.vret hx hb hr (fun t ht hW => ⟨⟨(), rfl, trivial, by rw [ht]; exact hP, va_K.moved hW.alike hK, hD⟩, hS.F ht⟩) hS.2.2 dJ7_fill_d0a16_22
      · refine lv_aload_n hx hb dJ7_fill_d0a16_12 rfl (lv_at hl 2 rfl) ?_
        refine lv_iload_n hx hb dJ7_fill_d0a16_13 rfl (lv_at hl 0 rfl) ?_
        refine lv_lload_n hx hb dJ7_fill_d0a16_14 rfl (lv_at hl 3 rfl) ?_
        refine r_last hx hb hK hP hD hS 0 0 rfl rfl i (by omega) (by omega) dJ7_fill_d0a16_15 (fun H locs hP hD hS => ?_)
        have hP : va_P D vwCl [(q, .inl (cJ, N, .inr (.inl (vp_updL Gc i x))))] H := hP
        have hD : va_D A [(q, .inl (cJ, N, .inr (.inl (vp_updL Gc i x))))] := hD
        refine lv_iinc (v := (nI (i + 1))) (lv' := [(3, .int (nI (i + 1))), (4, .int (nI N)), (0, .ref q), (1, .long x)]) hx hb dJ7_fill_d0a16_16 hl (k := 0) rfl (nI_inc _) (by decide) rfl (fun ls hl => ?_)
        refine lv_goto (tgt := 6) hx hb dJ7_fill_d0a16_19 (by decide) ?_
        exact ih (i + 1) _ H locs ls (by omega) (by omega) (fun j hj => by
          by_cases e : j = i
          · subst e; exact pk_uLs
          · rw [pk_uLn e]; exact hG j (by omega)) hP hD hS (lv_sub hl [0, 1, 2, 3] rfl)
  refine lv_iconst (v := (nI 0)) hx hb dJ7_fill_d0a16_0 (by decide +kernel) ?_
  refine lv_istore_n (lv' := [(3, .int (nI 0)), (0, .ref q), (1, .long x)]) hx hb dJ7_fill_d0a16_1 rfl hl (by decide) rfl (fun ls hl => ?_)
  refine lv_aload_n hx hb dJ7_fill_d0a16_2 rfl (lv_at hl 1 rfl) ?_
  refine va_alen hx hb hK hP 0 0 rfl rfl (v := nI N) rfl dJ7_fill_d0a16_3 ?_
  refine lv_istore (lv' := [(4, .int (nI N)), (3, .int (nI 0)), (0, .ref q), (1, .long x)]) hx hb dJ7_fill_d0a16_4 hl (by decide) rfl (fun ls hl => ?_)
  exact loop (N + 1) 0 G s.heap [] ls (by omega) (Nat.zero_le _) (fun j hj => absurd hj (Nat.not_lt_zero j)) hP hD hS (lv_sub hl [1, 0, 2, 3] rfl)
