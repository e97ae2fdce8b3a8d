set_option maxHeartbeats 4000000 in
set_option maxRecDepth 100000 in
theorem ca_fix {p : Program} {l : Launch} {e : Env} {s : State} {m : MethodId} {below : List Frame} {meth : Method} {c : Code} {H : Heap} {locs : List Loc} {cells slots : Nat} {Q : State → Prop} {ls : Array Slot} {D : va_G} {cI cZ cJ : ClassId} {t1 t2 b L i : Nat} {xs : Nat → Int32} {q : Nat → Nat} {A : Nat → Prop} {u : Co_ × Jk_} {v : Co_ × Jm_} {f : Nat → Int64} (C : LC_ p s m meth c b L xs D cI cZ cJ t1 t2 A) (hi2 : i + 2 < L) (hL : L ≤ 1536) (hl : lv_has ls 7 [(4, .int (nI i)), (0, .ref b), (1, .ref (q 0)), (2, .ref (q 15)), (3, .ref (q 23))]) (I : LI_ s D cI cZ cJ q A u v f H locs) (hR1 : cells + 0 ≤ 1049) (hR2 : slots + 0 ≤ 40143)
    (kk : ∀ (u : Co_ × Jk_) (v : Co_ × Jm_) (H : Heap) (locs : List Loc), LI_ s D cI cZ cJ q A u v f H locs → W p l e room_1 s m #[Value.ref b] below meth c H locs cells slots Q (F0 m 580 ls [])) : W p l e room_1 s m #[Value.ref b] below meth c H locs cells slots Q (F0 m 182 ls []) := by
  obtain ⟨hx, hb, hml, hown, hts, hX, hbl, hbA, hK, hE, hA⟩ := C
  obtain ⟨he, hc, hi, hj, hP, hD, hS⟩ := I
  have hd : cok_ v.1 := he ▸ hc
  refine lv_aload_n hx hb dL_law_182 rfl (lv_at hl 2 rfl) ?_
  refine lv_aload_n hx hb dL_law_183 rfl (lv_at hl 1 rfl) ?_
  refine lv_iload hx hb dL_law_184 (lv_at hl 0 rfl) ?_
  refine lv_iconst (v := (nI 1)) hx hb dL_law_186 (by decide +kernel) ?_
  refine r_iadd hx hb dL_law_187 ?_
  refine r_sld hx hb hX hbl hbA hS (i + 1) (by omega) hL dL_law_188 ?_
  refine lv_aload_n hx hb dL_law_189 rfl (lv_at hl 1 rfl) ?_
  refine lv_iload hx hb dL_law_190 (lv_at hl 0 rfl) ?_
  refine lv_iconst (v := (nI 2)) hx hb dL_law_192 (by decide +kernel) ?_
  refine r_iadd hx hb dL_law_193 ?_
  refine r_sld hx hb hX hbl hbA hS (i + 2) (by omega) hL dL_law_194 ?_
  refine lv_if_eq (tgt := 202) hx hb dL_law_195 (by decide) (fun c_195 => ?_) (fun c_195 => ?_)
  · refine lv_iconst (v := 0) hx hb dL_law_202 (by decide +kernel) ?_
    refine lc_X (va_runV (As := [.int (xs (i + 1)), .int 0]) (rest := []) ⟨hx, hb, hml, hown, hts⟩ (k_X3_fix l D cI cZ cJ t1 t2 _ q u hc hi (xs (i + 1)) 0 (by first | exact Or.inl rfl | exact Or.inr rfl)) (cwV 2 hts gL_law_X3_fix rfl rfl rfl (by decide +kernel) ⟨Nat.le_of_ble_eq_true rfl, Nat.le_of_ble_eq_true rfl⟩) (lp_X hP hD hS hA hK hE) rfl rfl hl.1 rfl (lv_room (Nat.le_of_ble_eq_true rfl)) dL_law_203 ⟨hR1, hR2⟩) hP hD hS hA (fun r_203 u1 H locs ⟨hw_203, hq_203, hc_203, hi_203⟩ hP hD hS => ?_)
    refine lv_aload_n hx hb dL_law_206 rfl (lv_at hl 3 rfl) ?_
    refine lv_aload_n hx hb dL_law_207 rfl (lv_at hl 1 rfl) ?_
    refine lv_iload hx hb dL_law_208 (lv_at hl 0 rfl) ?_
    refine lv_iconst (v := (nI 1)) hx hb dL_law_210 (by decide +kernel) ?_
    refine r_iadd hx hb dL_law_211 ?_
    refine r_sld hx hb hX hbl hbA hS (i + 1) (by omega) hL dL_law_212 ?_
    refine lv_aload_n hx hb dL_law_213 rfl (lv_at hl 1 rfl) ?_
    refine lv_iload hx hb dL_law_214 (lv_at hl 0 rfl) ?_
    refine lv_iconst (v := (nI 2)) hx hb dL_law_216 (by decide +kernel) ?_
    refine r_iadd hx hb dL_law_217 ?_
    refine r_sld hx hb hX hbl hbA hS (i + 2) (by omega) hL dL_law_218 ?_
    refine lv_if_eq (tgt := 226) hx hb dL_law_219 (by decide) (fun c_219 => ?_) (fun c_219 => ?_)
    · refine lv_iconst (v := 0) hx hb dL_law_226 (by decide +kernel) ?_
      refine lc_M (va_runV (As := [.int (xs (i + 1)), .int 0]) (rest := [.int r_203]) ⟨hx, hb, hml, hown, hts⟩ (k_X4_fix l D cI cZ cJ t1 t2 _ q v hd hj (xs (i + 1)) 0 (by first | exact Or.inl rfl | exact Or.inr rfl)) (cwV 2 hts gL_law_X4_fix rfl rfl rfl (by decide +kernel) ⟨Nat.le_of_ble_eq_true rfl, Nat.le_of_ble_eq_true rfl⟩) (lp_M hP hD hS hA hK hE) rfl rfl hl.1 rfl (lv_room (Nat.le_of_ble_eq_true rfl)) dL_law_227 ⟨hR1, hR2⟩) hP hD hS hA (fun r_227 v1 H locs ⟨hw_227, hq_227, hc_227, hi_227⟩ hP hD hS => ?_)
      refine lv_icmp_eq (tgt := 580) hx hb dL_law_230 (by decide) (fun c_230 => ?_) (fun c_230 => ?_)
      · exact kk u1 v1 H locs ⟨by rw [hw_203, hw_227, he], hc_203, hi_203, hi_227, hP, hD, hS⟩
      · exact absurd (o_fix hc he hq_203 hq_227) c_230
    · exact absurd c_195 c_219
  · refine lv_iconst (v := 1) hx hb dL_law_198 (by decide +kernel) ?_
    refine lv_goto (tgt := 203) hx hb dL_law_199 (by decide) ?_
    refine lc_X (va_runV (As := [.int (xs (i + 1)), .int 1]) (rest := []) ⟨hx, hb, hml, hown, hts⟩ (k_X3_fix l D cI cZ cJ t1 t2 _ q u hc hi (xs (i + 1)) 1 (by first | exact Or.inl rfl | exact Or.inr rfl)) (cwV 2 hts gL_law_X3_fix rfl rfl rfl (by decide +kernel) ⟨Nat.le_of_ble_eq_true rfl, Nat.le_of_ble_eq_true rfl⟩) (lp_X hP hD hS hA hK hE) rfl rfl hl.1 rfl (lv_room (Nat.le_of_ble_eq_true rfl)) dL_law_203 ⟨hR1, hR2⟩) hP hD hS hA (fun r_203 u1 H locs ⟨hw_203, hq_203, hc_203, hi_203⟩ hP hD hS => ?_)
    refine lv_aload_n hx hb dL_law_206 rfl (lv_at hl 3 rfl) ?_
    refine lv_aload_n hx hb dL_law_207 rfl (lv_at hl 1 rfl) ?_
    refine lv_iload hx hb dL_law_208 (lv_at hl 0 rfl) ?_
    refine lv_iconst (v := (nI 1)) hx hb dL_law_210 (by decide +kernel) ?_
    refine r_iadd hx hb dL_law_211 ?_
    refine r_sld hx hb hX hbl hbA hS (i + 1) (by omega) hL dL_law_212 ?_
    refine lv_aload_n hx hb dL_law_213 rfl (lv_at hl 1 rfl) ?_
    refine lv_iload hx hb dL_law_214 (lv_at hl 0 rfl) ?_
    refine lv_iconst (v := (nI 2)) hx hb dL_law_216 (by decide +kernel) ?_
    refine r_iadd hx hb dL_law_217 ?_
    refine r_sld hx hb hX hbl hbA hS (i + 2) (by omega) hL dL_law_218 ?_
    refine lv_if_eq (tgt := 226) hx hb dL_law_219 (by decide) (fun c_219 => ?_) (fun c_219 => ?_)
    · exact absurd c_219 c_195
    · refine lv_iconst (v := 1) hx hb dL_law_222 (by decide +kernel) ?_
      refine lv_goto (tgt := 227) hx hb dL_law_223 (by decide) ?_
      refine lc_M (va_runV (As := [.int (xs (i + 1)), .int 1]) (rest := [.int r_203]) ⟨hx, hb, hml, hown, hts⟩ (k_X4_fix l D cI cZ cJ t1 t2 _ q v hd hj (xs (i + 1)) 1 (by first | exact Or.inl rfl | exact Or.inr rfl)) (cwV 2 hts gL_law_X4_fix rfl rfl rfl (by decide +kernel) ⟨Nat.le_of_ble_eq_true rfl, Nat.le_of_ble_eq_true rfl⟩) (lp_M hP hD hS hA hK hE) rfl rfl hl.1 rfl (lv_room (Nat.le_of_ble_eq_true rfl)) dL_law_227 ⟨hR1, hR2⟩) hP hD hS hA (fun r_227 v1 H locs ⟨hw_227, hq_227, hc_227, hi_227⟩ hP hD hS => ?_)
      refine lv_icmp_eq (tgt := 580) hx hb dL_law_230 (by decide) (fun c_230 => ?_) (fun c_230 => ?_)
      · exact kk u1 v1 H locs ⟨by rw [hw_203, hw_227, he], hc_203, hi_203, hi_227, hP, hD, hS⟩
      · exact absurd (o_fix hc he hq_203 hq_227) c_230
set_option maxHeartbeats 1000000 in
theorem k_L_fact (l : Launch) (hf : l.flags = pinnedFlags ++ [noTraceFlag]) (D : va_G) (cI cZ cJ : ClassId) (sa sz : Nat) (q : Nat → Nat) (u : Co_ × Jk_) (hc : cok_ u.1) (x : Int32) (f : Nat → Int64) : Met l yL_fact wsL_factT ({ frames := 8, cells := 1, slots := 6, locals := 126 } : Room) (va_Pc [.ref (q 0), .int x, .ref (q 23)] (rl_ D [(cI, .int), (cZ, .boolean), (cJ, .long)] ((xw_ cI cZ cJ q u).take 4) [(q 23, .inl (cJ, 1, .inr (.inl f)))] sa sz)) (va_Qi (S := Nat → Int64) (fun r z => ∃ w, qf_ (fl_ u.1.1 u.1.2.1 u.1.2.2.1) x r w ∧ (r = 0 → z 0 = Int32.toInt64 w)) (fun z => wd_ D [(cI, .int), (cZ, .boolean), (cJ, .long)] (va_A [(q 23, .inl (cJ, 1, .inr (.inl f)))] sz) [(q 23, .inl (cJ, 1, .inr (.inl z)))]) (va_A [(q 23, .inl (cJ, 1, .inr (.inl f)))] sz)) 1 6 (va_A [(q 23, .inl (cJ, 1, .inr (.inl f)))] sz) := by
  obtain ⟨⟨n, Bd, Hd, Wt, Fx, g⟩, U, G, Mb, Le, z1, S1, z2, S2, ck, qk⟩ := u
  exact c_L_fact l hf D cI cZ cJ sa sz (q 0) (q 1) (q 2) (q 3) (q 4) (q 5) (q 6) (q 7) (q 8) (q 9) (q 10) (q 11) (q 12) (q 13) (q 14) (q 23) n Bd Hd Wt Fx g ck qk hc x f
set_option maxHeartbeats 1000000 in
theorem k_X4_thrown (l : Launch) (D : va_G) (cI cZ cJ : ClassId) (q : Nat → Nat) (v : Co_ × Jm_) : Met l yX4_thrown wsX4_thrown ({ frames := 0, cells := 0, slots := 0, locals := 0 } : Room) (va_Pc [.ref (q 15)] (ro_ D [(cI, .int), (cZ, .boolean), (cJ, .long)] ((mw_ cI cZ q v).take 1))) (vp_Si (fun r => r = v.2.2.2.2.2.2.2.2)) 0 0 (fun _ => False) := by
  obtain ⟨⟨n, Bd, Hd, Wt, Fx, g⟩, kn, Gv, z1, S1, z2, S2, sp, th⟩ := v
  exact c_X4_thrown l D cI cZ cJ (q 15) (q 16) (q 17) (q 18) (q 19) (q 20) (q 21) (q 22) n Bd Hd Wt Fx g kn Gv z1 S1 z2 S2 sp th
set_option maxHeartbeats 1000000 in
theorem lc_L {p : Program} {l : Launch} {e : Env} {R : Room} {s : State} {m : MethodId} {args : Array Value} {below : List Frame} {meth : Method} {c : Code} {H : Heap} {locs : List Loc} {cells slots : Nat} {Q : State → Prop} {ls : Array Slot} {pc : Nat} {st0 rest : List Value} {D : va_G} {cI cZ cJ : ClassId} {q : Nat → Nat} {A : Nat → Prop} {u : Co_ × Jk_} {v : Co_ × Jm_} {f : Nat → Int64} {mc ms : Nat} {post : Int32 → (Nat → Int64) → Prop} {a : Array Value} (hr : va_Run p l e R s m args below meth c H locs cells slots mc ms (F0 m pc ls st0) rest (va_Qi (S := Nat → Int64) post (fun z => wd_ D [(cI, .int), (cZ, .boolean), (cJ, .long)] (va_A [(q 23, .inl (cJ, 1, .inr (.inl f)))] H.size) [(q 23, .inl (cJ, 1, .inr (.inl z)))]) (va_A [(q 23, .inl (cJ, 1, .inr (.inl f)))] H.size) a) (va_A [(q 23, .inl (cJ, 1, .inr (.inl f)))] H.size)) (hP : va_P D vwCl (lw_ cI cZ cJ q u v f) H) (hD : va_D A (lw_ cI cZ cJ q u v f)) (hS : va_S A s.heap H locs) (hA : ∀ q : Nat, s.heap.size ≤ q → A q)
    (kk : ∀ (r : Int32) (z : Nat → Int64) (H1 : Heap) (locs1 : List Loc), post r z → va_P D vwCl (lw_ cI cZ cJ q u v z) H1 → va_D A (lw_ cI cZ cJ q u v z) → va_S A s.heap H1 locs1 → W p l e R s m args below meth c H1 locs1 (cells + mc) (slots + ms) Q (F0 m (pc + 3) ls (.int r :: rest))) : W p l e R s m args below meth c H locs cells slots Q (F0 m pc ls st0) := by
  have hFc := va_free (wc := [(q 23, .inl (cJ, 1, .inr (.inl f)))]) hD hS hA [23] rfl
  refine va_calli hr hS (fun q _ h => hFc q h) hFc (fun r z t H1 locs1 ht hvm hw hB hz1 hk1 hS => ?_)
  obtain ⟨hP1, hK1, hD1⟩ := hB
  rw [ht] at hP1
  obtain ⟨hP, hD⟩ := va_join (wr := xw_ cI cZ cJ q u ++ mw_ cI cZ q v) (w1 := [(q 23, .inl (cJ, 1, .inr (.inl z)))]) hP hD [23] [0, 1, 2, 3, 4, 5, 6, 7, 8, 9, 10, 11, 12, 13, 14, 15, 16, 17, 18, 19, 20, 21, 22] rfl rfl (by decide) (by decide) hk1 hFc hP1 hD1
  exact kk r z H1 locs1 hw (hP.sub [0, 1, 2, 3, 4, 5, 6, 7, 8, 9, 10, 11, 12, 13, 14, 15, 16, 17, 18, 19, 20, 21, 22, 23] rfl) (hD.sub [0, 1, 2, 3, 4, 5, 6, 7, 8, 9, 10, 11, 12, 13, 14, 15, 16, 17, 18, 19, 20, 21, 22, 23] (by decide) rfl) hS
theorem lg_same (x : Int64) : lg_cmp x x = 0 := by simp [lg_cmp]
set_option maxHeartbeats 4000000 in
set_option maxRecDepth 100000 in
theorem ca_fact {p : Program} {l : Launch} {e : Env} {s : State} {m : MethodId} {below : List Frame} {meth : Method} {c : Code} {H : Heap} {locs : List Loc} {cells slots : Nat} {Q : State → Prop} {ls : Array Slot} {D : va_G} {cI cZ cJ : ClassId} {t1 t2 b L i : Nat} {xs : Nat → Int32} {q : Nat → Nat} {A : Nat → Prop} {u : Co_ × Jk_} {v : Co_ × Jm_} {f : Nat → Int64} (C : LC_ p s m meth c b L xs D cI cZ cJ t1 t2 A) (hi2 : i + 2 < L) (hL : L ≤ 1536) (hl : lv_has ls 7 [(4, .int (nI i)), (0, .ref b), (1, .ref (q 0)), (2, .ref (q 15)), (3, .ref (q 23))]) (I : LI_ s D cI cZ cJ q A u v f H locs) (hR1 : cells + 1 ≤ 1049) (hR2 : slots + 6 ≤ 40143) (hf : l.flags = pinnedFlags ++ [noTraceFlag]) {sa : Nat} (hT : TH_ A sa s) (htl : ∀ w ∈ lw_tbl, w.before #[Value.ref b] s = true)
    (kk : ∀ (u : Co_ × Jk_) (v : Co_ × Jm_) (f : Nat → Int64) (H : Heap) (locs : List Loc) (ls : Array Slot), lv_has ls 7 [(4, .int (nI i)), (0, .ref b), (1, .ref (q 0)), (2, .ref (q 15)), (3, .ref (q 23))] → LI_ s D cI cZ cJ q A u v f H locs → W p l e room_1 s m #[Value.ref b] below meth c H locs (cells + 1) (slots + 6) Q (F0 m 580 ls [])) : W p l e room_1 s m #[Value.ref b] below meth c H locs cells slots Q (F0 m 524 ls []) := by
  obtain ⟨hx, hb, hml, hown, hts, hX, hbl, hbA, hK, hE, hA⟩ := C
  obtain ⟨he, hc, hi, hj, hP, hD, hS⟩ := I
  have hd : cok_ v.1 := he ▸ hc
  have hwsL : ∀ w ∈ wsL_factT, ∀ (a' : Array Value) (U : State), s.WarmedH U.vm → w.before a' U = true := by
    intro w hw a' U hW
    rcases List.mem_append.mp hw with h | h
    · exact pay_in hts ggL_law_L_fact w h a' U hW
    · rcases List.mem_append.mp h with h | h
      · exact word_at hW (thA_good w h).2 (htl w (thA_in w h))
      · have e1 : w = .classLink RL 13 "java/lang/ArrayIndexOutOfBoundsException" := by simpa using h
        subst e1
        exact word_at hW (Or.inl rfl) (htl _ (by decide +kernel))
  refine lv_aload_n hx hb dL_law_524 rfl (lv_at hl 2 rfl) ?_
  refine lv_aload_n hx hb dL_law_525 rfl (lv_at hl 1 rfl) ?_
  refine lv_iload hx hb dL_law_526 (lv_at hl 0 rfl) ?_
  refine lv_iconst (v := (nI 1)) hx hb dL_law_528 (by decide +kernel) ?_
  refine r_iadd hx hb dL_law_529 ?_
  refine r_sld hx hb hX hbl hbA hS (i + 1) (by omega) hL dL_law_530 ?_
  refine lv_aload_n hx hb dL_law_531 rfl (lv_at hl 4 rfl) ?_
  have hFo := va_free (wc := [(q 23, .inl (cJ, 1, .inr (.inl f)))]) hD hS hA [23] rfl
  refine lc_L (va_runSW (As := [.ref (q 0), .int (xs (i + 1)), .ref (q 23)]) (rest := []) hx hb hml hown (k_L_fact l hf D cI cZ cJ sa _ q u hc (xs (i + 1)) f) hwsL (hts (.codeWith yL_fact cL_fact 4 (some .int) [(0, 9, 12, 13)]) (by decide +kernel)) (hts (.static yL_fact) (by decide +kernel)) (hts (.initialized RL) (by decide +kernel)) (hts (.methodLink RL 86 yL_fact) (by decide +kernel)) (by decide) (fun sig h => by rw [show parseMethodDescriptor yL_fact.desc = some ⟨[.object "LeastSets", .int, .array .long], some .int⟩ by decide +kernel] at h; rw [← Option.some.inj h]; rfl) rfl rfl (Nat.le_of_ble_eq_true rfl) (Nat.le_of_ble_eq_true rfl) (fun U hU hW => ⟨rfl, by rw [hU], by rw [hU]; exact hP.sub [0, 1, 2, 3] rfl, by rw [hU]; exact hP.sub [23] rfl, va_K.moved hW.alike hK, (hD.sub (ws' := [(q 23, .inl (cJ, 1, .inr (.inl f)))]) [23] (by decide) rfl).weaken (fun _ _ _ _ => trivial), hT.go hS hFo hU hW⟩) rl_blind rfl hl.1 rfl (lv_room (Nat.le_of_ble_eq_true rfl)) dL_law_532 ⟨hR1, hR2⟩) hP hD hS hA (fun r_532 f1 H locs hq_532 hP hD hS => ?_)
  obtain ⟨w0, hw0, hv0⟩ := hq_532
  refine lv_istore (lv' := [(5, .int r_532), (4, .int (nI i)), (0, .ref b), (1, .ref (q 0)), (2, .ref (q 15)), (3, .ref (q 23))]) hx hb dL_law_535 hl (by decide) rfl (fun ls hl => ?_)
  refine lv_aload_n hx hb dL_law_537 rfl (lv_at hl 4 rfl) ?_
  refine lv_aload_n hx hb dL_law_538 rfl (lv_at hl 2 rfl) ?_
  refine lv_iload hx hb dL_law_539 (lv_at hl 1 rfl) ?_
  refine lv_iconst (v := (nI 1)) hx hb dL_law_541 (by decide +kernel) ?_
  refine r_iadd hx hb dL_law_542 ?_
  refine r_sld hx hb hX hbl hbA hS (i + 1) (by omega) hL dL_law_543 ?_
  refine lc_M (va_runV (As := [.int (xs (i + 1))]) (rest := []) ⟨hx, hb, hml, hown, hts⟩ (k_X4_fact l D cI cZ cJ t1 t2 _ q v hd hj (xs (i + 1))) (cwV 1 hts gL_law_X4_fact rfl rfl rfl (by decide +kernel) ⟨Nat.le_of_ble_eq_true rfl, Nat.le_of_ble_eq_true rfl⟩) (lp_M hP hD hS hA hK hE) rfl rfl hl.1 rfl (lv_room (Nat.le_of_ble_eq_true rfl)) dL_law_544 ⟨hR1, hR2⟩) hP hD hS hA (fun r_544 v1 H locs ⟨hw_544, hq_544, hc_544, hi_544⟩ hP hD hS => ?_)
  rw [← he] at hq_544
  obtain ⟨ek, er⟩ := qf_one (on_len _ 32 0) hw0 hq_544
  refine lv_istore (lv' := [(6, .int r_544), (5, .int r_532), (4, .int (nI i)), (0, .ref b), (1, .ref (q 0)), (2, .ref (q 15)), (3, .ref (q 23))]) hx hb dL_law_547 hl (by decide) rfl (fun ls hl => ?_)
  refine lv_aload_n hx hb dL_law_549 rfl (lv_at hl 5 rfl) ?_
  refine vp_callSi (va_runV (As := []) (rest := []) ⟨hx, hb, hml, hown, hts⟩ (k_X4_thrown l D cI cZ cJ q v1) (cwV 0 hts gL_law_X4_thrown rfl rfl rfl (by decide +kernel) ⟨Nat.le_of_ble_eq_true rfl, Nat.le_of_ble_eq_true rfl⟩) ⟨ro_blind, va_recv hK hP (ci := 5) (q0 := 15) rfl rfl, ro_pre (hP.sub (ws' := (mw_ cI cZ q v1).take 1) [15] rfl) hK [0, 1, 2] rfl⟩ rfl rfl hl.1 rfl (lv_room (Nat.le_of_ble_eq_true rfl)) dL_law_550 ⟨hR1, hR2⟩).run (fun r_550 hr_550 => ?_)
  refine lv_iload hx hb dL_law_553 (lv_at hl 1 rfl) ?_
  refine lv_icmp_eq (tgt := 560) hx hb dL_law_555 (by decide) (fun c_555 => ?_) (fun c_555 => ?_)
  · refine lv_iload hx hb dL_law_560 (lv_at hl 1 rfl) ?_
    refine lv_if_ne (tgt := 577) hx hb dL_law_562 (by decide) (fun c_562 => ?_) (fun c_562 => ?_)
    · refine lv_goto (tgt := 580) hx hb dL_law_577 (by decide) ?_
      exact kk u v1 f1 H locs ls (lv_sub hl [2, 3, 4, 5, 6] rfl) ⟨by rw [hw_544, he], hc, hi, hi_544, hP, hD, hS⟩
    · have c0 : r_532 = 0 := by simpa using c_562
      refine lv_aload_n hx hb dL_law_565 rfl (lv_at hl 6 rfl) ?_
      refine lv_iconst (v := (nI 0)) hx hb dL_law_566 (by decide +kernel) ?_
      refine r_lald hx hb hK hP 23 2 rfl rfl 0 (by omega) (by omega) dL_law_567 ?_
      refine lv_iload hx hb dL_law_568 (lv_at hl 0 rfl) ?_
      refine lv_i2l (v := (Int32.toInt64 r_544)) hx hb dL_law_570 rfl ?_
      refine W.lcmp hx hb dL_law_571 ?_
      refine lv_if_eq (tgt := 577) hx hb dL_law_572 (by decide) (fun c_572 => ?_) (fun c_572 => ?_)
      · refine lv_goto (tgt := 580) hx hb dL_law_577 (by decide) ?_
        exact kk u v1 f1 H locs ls (lv_sub hl [2, 3, 4, 5, 6] rfl) ⟨by rw [hw_544, he], hc, hi, hi_544, hP, hD, hS⟩
      · exact absurd (by rw [hv0 c0, er c0]; exact lg_same _) c_572
  · exact absurd (hr_550.trans ek) c_555
