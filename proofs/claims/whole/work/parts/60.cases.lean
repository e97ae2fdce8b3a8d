/-! ===== the law's cases ===== -/
def LC_ (p : Program) (s : State) (m : MethodId) (meth : Method) (c : Code) (b L : Nat) (xs : Nat → Int32) (D : va_G) (cI cZ cJ : ClassId) (t1 t2 : Nat) (A : Nat → Prop) : Prop :=
  p.tables.exec = Jvm.exec ∧ c.code = code ∧ c.maxLocals = 7 ∧ s.vm.findClass RL = some m.cls ∧ (∀ w ∈ wsL_law, w.before #[Value.ref b] s = true) ∧ va_X b L xs s s.heap ∧ b < s.heap.size ∧ ¬ A b ∧ va_K D vwCl [(cI, .int), (cZ, .boolean), (cJ, .long)] s ∧ EN_ t1 t2 A s ∧ ∀ q : Nat, s.heap.size ≤ q → A q
def LI_ (s : State) (D : va_G) (cI cZ cJ : ClassId) (q : Nat → Nat) (A : Nat → Prop) (u : Co_ × Jk_) (v : Co_ × Jm_) (f : Nat → Int64) (H : Heap) (locs : List Loc) : Prop :=
  u.1 = v.1 ∧ cok_ u.1 ∧ iv_ u.1 u.2 ∧ im_ v.1 v.2 ∧ va_P D vwCl (lw_ cI cZ cJ q u v f) H ∧ va_D A (lw_ cI cZ cJ q u v f) ∧ va_S A s.heap H locs
theorem r_sld {p : Program} {l : Launch} {e : Env} {R : Room} {s : State} {m : MethodId} {args : Array Value} {below : List Frame} {meth : Method} {c : Code} {H : Heap} {locs : List Loc} {cells slots : Nat} {Q : State → Prop} {ls : Array Slot} {pc : Nat} {rest : List Value} {A : Nat → Prop} {cc : ByteArray} (hexec : p.tables.exec = Jvm.exec) (hb : c.code = cc) {b L : Nat} {xs : Nat → Int32} (hX : va_X b L xs s s.heap) (hbl : b < s.heap.size) (hbA : ¬ A b) (hS : va_S A s.heap H locs) (k : Nat) (hk : k < L) (hL : L ≤ 1536) (hdg : decode cc pc = .ok (.iaload, 1))
    (kk : W p l e R s m args below meth c H locs cells slots Q (F0 m (pc + 1) ls (.int (xs k) :: rest))) : W p l e R s m args below meth c H locs cells slots Q (F0 m pc ls (.int (nI k) :: .ref b :: rest)) := by
  refine va_sld hexec hb hX hbl hbA hS (vp_in_nI hk (by omega)) hdg ?_
  rw [nI_clamp (by omega)]
  exact kk
set_option maxHeartbeats 4000000 in
set_option maxRecDepth 100000 in
theorem ca_axiom {p : Program} {l : Launch} {e : Env} {s : State} {m : MethodId} {below : List Frame} {meth : Method} {c : Code} {H : Heap} {locs : List Loc} {cells slots : Nat} {Q : State → Prop} {ls : Array Slot} {D : va_G} {cI cZ cJ : ClassId} {t1 t2 b L i : Nat} {xs : Nat → Int32} {q : Nat → Nat} {A : Nat → Prop} {u : Co_ × Jk_} {v : Co_ × Jm_} {f : Nat → Int64} (C : LC_ p s m meth c b L xs D cI cZ cJ t1 t2 A) (hi2 : i + 2 < L) (hL : L ≤ 1536) (hl : lv_has ls 7 [(4, .int (nI i)), (0, .ref b), (1, .ref (q 0)), (2, .ref (q 15)), (3, .ref (q 23))]) (I : LI_ s D cI cZ cJ q A u v f H locs) (hR1 : cells + 0 ≤ 1049) (hR2 : slots + 0 ≤ 40143)
    (kk : ∀ (u : Co_ × Jk_) (v : Co_ × Jm_) (H : Heap) (locs : List Loc), LI_ s D cI cZ cJ q A u v f H locs → W p l e room_1 s m #[Value.ref b] below meth c H locs cells slots Q (F0 m 580 ls [])) : W p l e room_1 s m #[Value.ref b] below meth c H locs cells slots Q (F0 m 120 ls []) := by
  obtain ⟨hx, hb, hml, hown, hts, hX, hbl, hbA, hK, hE, hA⟩ := C
  obtain ⟨he, hc, hi, hj, hP, hD, hS⟩ := I
  have hd : cok_ v.1 := he ▸ hc
  refine lv_aload_n hx hb dL_law_120 rfl (lv_at hl 2 rfl) ?_
  refine lv_aload_n hx hb dL_law_121 rfl (lv_at hl 1 rfl) ?_
  refine lv_iload hx hb dL_law_122 (lv_at hl 0 rfl) ?_
  refine lv_iconst (v := (nI 1)) hx hb dL_law_124 (by decide +kernel) ?_
  refine r_iadd hx hb dL_law_125 ?_
  refine r_sld hx hb hX hbl hbA hS (i + 1) (by omega) hL dL_law_126 ?_
  refine lv_aload_n hx hb dL_law_127 rfl (lv_at hl 1 rfl) ?_
  refine lv_iload hx hb dL_law_128 (lv_at hl 0 rfl) ?_
  refine lv_iconst (v := (nI 2)) hx hb dL_law_130 (by decide +kernel) ?_
  refine r_iadd hx hb dL_law_131 ?_
  refine r_sld hx hb hX hbl hbA hS (i + 2) (by omega) hL dL_law_132 ?_
  refine lc_X (va_runV (As := [.int (xs (i + 1)), .int (xs (i + 2))]) (rest := []) ⟨hx, hb, hml, hown, hts⟩ (k_X3_axiom l D cI cZ cJ t1 t2 _ q u hc hi (xs (i + 1)) (xs (i + 2))) (cwV 2 hts gL_law_X3_axiom rfl rfl rfl (by decide +kernel) ⟨Nat.le_of_ble_eq_true rfl, Nat.le_of_ble_eq_true rfl⟩) (lp_X hP hD hS hA hK hE) rfl rfl hl.1 rfl (lv_room (Nat.le_of_ble_eq_true rfl)) dL_law_133 ⟨hR1, hR2⟩) hP hD hS hA (fun r_133 u1 H locs ⟨hw_133, hq_133, hc_133, hi_133⟩ hP hD hS => ?_)
  refine lv_aload_n hx hb dL_law_136 rfl (lv_at hl 3 rfl) ?_
  refine lv_aload_n hx hb dL_law_137 rfl (lv_at hl 1 rfl) ?_
  refine lv_iload hx hb dL_law_138 (lv_at hl 0 rfl) ?_
  refine lv_iconst (v := (nI 1)) hx hb dL_law_140 (by decide +kernel) ?_
  refine r_iadd hx hb dL_law_141 ?_
  refine r_sld hx hb hX hbl hbA hS (i + 1) (by omega) hL dL_law_142 ?_
  refine lv_aload_n hx hb dL_law_143 rfl (lv_at hl 1 rfl) ?_
  refine lv_iload hx hb dL_law_144 (lv_at hl 0 rfl) ?_
  refine lv_iconst (v := (nI 2)) hx hb dL_law_146 (by decide +kernel) ?_
  refine r_iadd hx hb dL_law_147 ?_
  refine r_sld hx hb hX hbl hbA hS (i + 2) (by omega) hL dL_law_148 ?_
  refine lc_M (va_runV (As := [.int (xs (i + 1)), .int (xs (i + 2))]) (rest := [.int r_133]) ⟨hx, hb, hml, hown, hts⟩ (k_X4_axiom l D cI cZ cJ t1 t2 _ q v hd hj (xs (i + 1)) (xs (i + 2))) (cwV 2 hts gL_law_X4_axiom rfl rfl rfl (by decide +kernel) ⟨Nat.le_of_ble_eq_true rfl, Nat.le_of_ble_eq_true rfl⟩) (lp_M hP hD hS hA hK hE) rfl rfl hl.1 rfl (lv_room (Nat.le_of_ble_eq_true rfl)) dL_law_149 ⟨hR1, hR2⟩) hP hD hS hA (fun r_149 v1 H locs ⟨hw_149, hq_149, hc_149, hi_149⟩ hP hD hS => ?_)
  refine lv_icmp_eq (tgt := 580) hx hb dL_law_152 (by decide) (fun c_152 => ?_) (fun c_152 => ?_)
  · exact kk u1 v1 H locs ⟨by rw [hw_133, hw_149, he], hc_133, hi_133, hi_149, hP, hD, hS⟩
  · exact absurd (o_axiom hc he hq_133 hq_149) c_152
set_option maxHeartbeats 4000000 in
set_option maxRecDepth 100000 in
theorem ca_drop {p : Program} {l : Launch} {e : Env} {s : State} {m : MethodId} {below : List Frame} {meth : Method} {c : Code} {H : Heap} {locs : List Loc} {cells slots : Nat} {Q : State → Prop} {ls : Array Slot} {D : va_G} {cI cZ cJ : ClassId} {t1 t2 b L i : Nat} {xs : Nat → Int32} {q : Nat → Nat} {A : Nat → Prop} {u : Co_ × Jk_} {v : Co_ × Jm_} {f : Nat → Int64} (C : LC_ p s m meth c b L xs D cI cZ cJ t1 t2 A) (hi2 : i + 2 < L) (hL : L ≤ 1536) (hl : lv_has ls 7 [(4, .int (nI i)), (0, .ref b), (1, .ref (q 0)), (2, .ref (q 15)), (3, .ref (q 23))]) (I : LI_ s D cI cZ cJ q A u v f H locs) (hR1 : cells + 0 ≤ 1049) (hR2 : slots + 0 ≤ 40143)
    (kk : ∀ (u : Co_ × Jk_) (v : Co_ × Jm_) (H : Heap) (locs : List Loc), LI_ s D cI cZ cJ q A u v f H locs → W p l e room_1 s m #[Value.ref b] below meth c H locs cells slots Q (F0 m 580 ls [])) : W p l e room_1 s m #[Value.ref b] below meth c H locs cells slots Q (F0 m 157 ls []) := by
  obtain ⟨hx, hb, hml, hown, hts, hX, hbl, hbA, hK, hE, hA⟩ := C
  obtain ⟨he, hc, hi, hj, hP, hD, hS⟩ := I
  have hd : cok_ v.1 := he ▸ hc
  refine lv_aload_n hx hb dL_law_157 rfl (lv_at hl 2 rfl) ?_
  refine lv_aload_n hx hb dL_law_158 rfl (lv_at hl 1 rfl) ?_
  refine lv_iload hx hb dL_law_159 (lv_at hl 0 rfl) ?_
  refine lv_iconst (v := (nI 1)) hx hb dL_law_161 (by decide +kernel) ?_
  refine r_iadd hx hb dL_law_162 ?_
  refine r_sld hx hb hX hbl hbA hS (i + 1) (by omega) hL dL_law_163 ?_
  refine lc_X (va_runV (As := [.int (xs (i + 1))]) (rest := []) ⟨hx, hb, hml, hown, hts⟩ (k_X3_drop l D cI cZ cJ t1 t2 _ q u hc hi (xs (i + 1))) (cwV 1 hts gL_law_X3_drop rfl rfl rfl (by decide +kernel) ⟨Nat.le_of_ble_eq_true rfl, Nat.le_of_ble_eq_true rfl⟩) (lp_X hP hD hS hA hK hE) rfl rfl hl.1 rfl (lv_room (Nat.le_of_ble_eq_true rfl)) dL_law_164 ⟨hR1, hR2⟩) hP hD hS hA (fun r_164 u1 H locs ⟨hw_164, hq_164, hc_164, hi_164⟩ hP hD hS => ?_)
  refine lv_aload_n hx hb dL_law_167 rfl (lv_at hl 3 rfl) ?_
  refine lv_aload_n hx hb dL_law_168 rfl (lv_at hl 1 rfl) ?_
  refine lv_iload hx hb dL_law_169 (lv_at hl 0 rfl) ?_
  refine lv_iconst (v := (nI 1)) hx hb dL_law_171 (by decide +kernel) ?_
  refine r_iadd hx hb dL_law_172 ?_
  refine r_sld hx hb hX hbl hbA hS (i + 1) (by omega) hL dL_law_173 ?_
  refine lc_M (va_runV (As := [.int (xs (i + 1))]) (rest := [.int r_164]) ⟨hx, hb, hml, hown, hts⟩ (k_X4_drop l D cI cZ cJ t1 t2 _ q v hd hj (xs (i + 1))) (cwV 1 hts gL_law_X4_drop rfl rfl rfl (by decide +kernel) ⟨Nat.le_of_ble_eq_true rfl, Nat.le_of_ble_eq_true rfl⟩) (lp_M hP hD hS hA hK hE) rfl rfl hl.1 rfl (lv_room (Nat.le_of_ble_eq_true rfl)) dL_law_174 ⟨hR1, hR2⟩) hP hD hS hA (fun r_174 v1 H locs ⟨hw_174, hq_174, hc_174, hi_174⟩ hP hD hS => ?_)
  refine lv_icmp_eq (tgt := 580) hx hb dL_law_177 (by decide) (fun c_177 => ?_) (fun c_177 => ?_)
  · exact kk u1 v1 H locs ⟨by rw [hw_164, hw_174, he], hc_164, hi_164, hi_174, hP, hD, hS⟩
  · exact absurd (o_drop hc he hq_164 hq_174) c_177
set_option maxHeartbeats 4000000 in
set_option maxRecDepth 100000 in
theorem ca_weight {p : Program} {l : Launch} {e : Env} {s : State} {m : MethodId} {below : List Frame} {meth : Method} {c : Code} {H : Heap} {locs : List Loc} {cells slots : Nat} {Q : State → Prop} {ls : Array Slot} {D : va_G} {cI cZ cJ : ClassId} {t1 t2 b L i : Nat} {xs : Nat → Int32} {q : Nat → Nat} {A : Nat → Prop} {u : Co_ × Jk_} {v : Co_ × Jm_} {f : Nat → Int64} (C : LC_ p s m meth c b L xs D cI cZ cJ t1 t2 A) (hi2 : i + 2 < L) (hL : L ≤ 1536) (hl : lv_has ls 7 [(4, .int (nI i)), (0, .ref b), (1, .ref (q 0)), (2, .ref (q 15)), (3, .ref (q 23))]) (I : LI_ s D cI cZ cJ q A u v f H locs) (hR1 : cells + 0 ≤ 1049) (hR2 : slots + 0 ≤ 40143)
    (kk : ∀ (u : Co_ × Jk_) (v : Co_ × Jm_) (H : Heap) (locs : List Loc), LI_ s D cI cZ cJ q A u v f H locs → W p l e room_1 s m #[Value.ref b] below meth c H locs cells slots Q (F0 m 580 ls [])) : W p l e room_1 s m #[Value.ref b] below meth c H locs cells slots Q (F0 m 235 ls []) := by
  obtain ⟨hx, hb, hml, hown, hts, hX, hbl, hbA, hK, hE, hA⟩ := C
  obtain ⟨he, hc, hi, hj, hP, hD, hS⟩ := I
  have hd : cok_ v.1 := he ▸ hc
  refine lv_aload_n hx hb dL_law_235 rfl (lv_at hl 2 rfl) ?_
  refine lv_aload_n hx hb dL_law_236 rfl (lv_at hl 1 rfl) ?_
  refine lv_iload hx hb dL_law_237 (lv_at hl 0 rfl) ?_
  refine lv_iconst (v := (nI 1)) hx hb dL_law_239 (by decide +kernel) ?_
  refine r_iadd hx hb dL_law_240 ?_
  refine r_sld hx hb hX hbl hbA hS (i + 1) (by omega) hL dL_law_241 ?_
  refine lv_aload_n hx hb dL_law_242 rfl (lv_at hl 1 rfl) ?_
  refine lv_iload hx hb dL_law_243 (lv_at hl 0 rfl) ?_
  refine lv_iconst (v := (nI 2)) hx hb dL_law_245 (by decide +kernel) ?_
  refine r_iadd hx hb dL_law_246 ?_
  refine r_sld hx hb hX hbl hbA hS (i + 2) (by omega) hL dL_law_247 ?_
  refine lc_X (va_runV (As := [.int (xs (i + 1)), .int (xs (i + 2))]) (rest := []) ⟨hx, hb, hml, hown, hts⟩ (k_X3_weight l D cI cZ cJ t1 t2 _ q u hc hi (xs (i + 1)) (xs (i + 2))) (cwV 2 hts gL_law_X3_weight rfl rfl rfl (by decide +kernel) ⟨Nat.le_of_ble_eq_true rfl, Nat.le_of_ble_eq_true rfl⟩) (lp_X hP hD hS hA hK hE) rfl rfl hl.1 rfl (lv_room (Nat.le_of_ble_eq_true rfl)) dL_law_248 ⟨hR1, hR2⟩) hP hD hS hA (fun r_248 u1 H locs ⟨hw_248, hq_248, hc_248, hi_248⟩ hP hD hS => ?_)
  refine lv_aload_n hx hb dL_law_251 rfl (lv_at hl 3 rfl) ?_
  refine lv_aload_n hx hb dL_law_252 rfl (lv_at hl 1 rfl) ?_
  refine lv_iload hx hb dL_law_253 (lv_at hl 0 rfl) ?_
  refine lv_iconst (v := (nI 1)) hx hb dL_law_255 (by decide +kernel) ?_
  refine r_iadd hx hb dL_law_256 ?_
  refine r_sld hx hb hX hbl hbA hS (i + 1) (by omega) hL dL_law_257 ?_
  refine lv_aload_n hx hb dL_law_258 rfl (lv_at hl 1 rfl) ?_
  refine lv_iload hx hb dL_law_259 (lv_at hl 0 rfl) ?_
  refine lv_iconst (v := (nI 2)) hx hb dL_law_261 (by decide +kernel) ?_
  refine r_iadd hx hb dL_law_262 ?_
  refine r_sld hx hb hX hbl hbA hS (i + 2) (by omega) hL dL_law_263 ?_
  refine lc_M (va_runV (As := [.int (xs (i + 1)), .int (xs (i + 2))]) (rest := [.int r_248]) ⟨hx, hb, hml, hown, hts⟩ (k_X4_weight l D cI cZ cJ t1 t2 _ q v hd hj (xs (i + 1)) (xs (i + 2))) (cwV 2 hts gL_law_X4_weight rfl rfl rfl (by decide +kernel) ⟨Nat.le_of_ble_eq_true rfl, Nat.le_of_ble_eq_true rfl⟩) (lp_M hP hD hS hA hK hE) rfl rfl hl.1 rfl (lv_room (Nat.le_of_ble_eq_true rfl)) dL_law_264 ⟨hR1, hR2⟩) hP hD hS hA (fun r_264 v1 H locs ⟨hw_264, hq_264, hc_264, hi_264⟩ hP hD hS => ?_)
  refine lv_icmp_eq (tgt := 580) hx hb dL_law_267 (by decide) (fun c_267 => ?_) (fun c_267 => ?_)
  · exact kk u1 v1 H locs ⟨by rw [hw_248, hw_264, he], hc_248, hi_248, hi_264, hP, hD, hS⟩
  · exact absurd (o_weight hc he hq_248 hq_264) c_267
set_option maxHeartbeats 4000000 in
set_option maxRecDepth 100000 in
theorem ca_goal {p : Program} {l : Launch} {e : Env} {s : State} {m : MethodId} {below : List Frame} {meth : Method} {c : Code} {H : Heap} {locs : List Loc} {cells slots : Nat} {Q : State → Prop} {ls : Array Slot} {D : va_G} {cI cZ cJ : ClassId} {t1 t2 b L i : Nat} {xs : Nat → Int32} {q : Nat → Nat} {A : Nat → Prop} {u : Co_ × Jk_} {v : Co_ × Jm_} {f : Nat → Int64} (C : LC_ p s m meth c b L xs D cI cZ cJ t1 t2 A) (hi2 : i + 2 < L) (hL : L ≤ 1536) (hl : lv_has ls 7 [(4, .int (nI i)), (0, .ref b), (1, .ref (q 0)), (2, .ref (q 15)), (3, .ref (q 23))]) (I : LI_ s D cI cZ cJ q A u v f H locs) (hR1 : cells + 0 ≤ 1049) (hR2 : slots + 0 ≤ 40143)
    (kk : ∀ (u : Co_ × Jk_) (v : Co_ × Jm_) (H : Heap) (locs : List Loc), LI_ s D cI cZ cJ q A u v f H locs → W p l e room_1 s m #[Value.ref b] below meth c H locs cells slots Q (F0 m 580 ls [])) : W p l e room_1 s m #[Value.ref b] below meth c H locs cells slots Q (F0 m 272 ls []) := by
  obtain ⟨hx, hb, hml, hown, hts, hX, hbl, hbA, hK, hE, hA⟩ := C
  obtain ⟨he, hc, hi, hj, hP, hD, hS⟩ := I
  have hd : cok_ v.1 := he ▸ hc
  refine lv_aload_n hx hb dL_law_272 rfl (lv_at hl 2 rfl) ?_
  refine lv_aload_n hx hb dL_law_273 rfl (lv_at hl 1 rfl) ?_
  refine lv_iload hx hb dL_law_274 (lv_at hl 0 rfl) ?_
  refine lv_iconst (v := (nI 1)) hx hb dL_law_276 (by decide +kernel) ?_
  refine r_iadd hx hb dL_law_277 ?_
  refine r_sld hx hb hX hbl hbA hS (i + 1) (by omega) hL dL_law_278 ?_
  refine lc_X (va_runV (As := [.int (xs (i + 1))]) (rest := []) ⟨hx, hb, hml, hown, hts⟩ (k_X3_goal l D cI cZ cJ t1 t2 _ q u hc hi (xs (i + 1))) (cwV 1 hts gL_law_X3_goal rfl rfl rfl (by decide +kernel) ⟨Nat.le_of_ble_eq_true rfl, Nat.le_of_ble_eq_true rfl⟩) (lp_X hP hD hS hA hK hE) rfl rfl hl.1 rfl (lv_room (Nat.le_of_ble_eq_true rfl)) dL_law_279 ⟨hR1, hR2⟩) hP hD hS hA (fun r_279 u1 H locs ⟨hw_279, hq_279, hc_279, hi_279⟩ hP hD hS => ?_)
  refine lv_aload_n hx hb dL_law_282 rfl (lv_at hl 3 rfl) ?_
  refine lv_aload_n hx hb dL_law_283 rfl (lv_at hl 1 rfl) ?_
  refine lv_iload hx hb dL_law_284 (lv_at hl 0 rfl) ?_
  refine lv_iconst (v := (nI 1)) hx hb dL_law_286 (by decide +kernel) ?_
  refine r_iadd hx hb dL_law_287 ?_
  refine r_sld hx hb hX hbl hbA hS (i + 1) (by omega) hL dL_law_288 ?_
  refine lc_M (va_runV (As := [.int (xs (i + 1))]) (rest := [.int r_279]) ⟨hx, hb, hml, hown, hts⟩ (k_X4_goal l D cI cZ cJ t1 t2 _ q v hd hj (xs (i + 1))) (cwV 1 hts gL_law_X4_goal rfl rfl rfl (by decide +kernel) ⟨Nat.le_of_ble_eq_true rfl, Nat.le_of_ble_eq_true rfl⟩) (lp_M hP hD hS hA hK hE) rfl rfl hl.1 rfl (lv_room (Nat.le_of_ble_eq_true rfl)) dL_law_289 ⟨hR1, hR2⟩) hP hD hS hA (fun r_289 v1 H locs ⟨hw_289, hq_289, hc_289, hi_289⟩ hP hD hS => ?_)
  refine lv_icmp_eq (tgt := 580) hx hb dL_law_292 (by decide) (fun c_292 => ?_) (fun c_292 => ?_)
  · exact kk u1 v1 H locs ⟨by rw [hw_279, hw_289, he], hc_279, hi_279, hi_289, hP, hD, hS⟩
  · exact absurd (o_goal hc he hq_279 hq_289) c_292
set_option maxHeartbeats 4000000 in
set_option maxRecDepth 100000 in
theorem ca_follow {p : Program} {l : Launch} {e : Env} {s : State} {m : MethodId} {below : List Frame} {meth : Method} {c : Code} {H : Heap} {locs : List Loc} {cells slots : Nat} {Q : State → Prop} {ls : Array Slot} {D : va_G} {cI cZ cJ : ClassId} {t1 t2 b L i : Nat} {xs : Nat → Int32} {q : Nat → Nat} {A : Nat → Prop} {u : Co_ × Jk_} {v : Co_ × Jm_} {f : Nat → Int64} (C : LC_ p s m meth c b L xs D cI cZ cJ t1 t2 A) (hi2 : i + 2 < L) (hL : L ≤ 1536) (hl : lv_has ls 7 [(4, .int (nI i)), (0, .ref b), (1, .ref (q 0)), (2, .ref (q 15)), (3, .ref (q 23))]) (I : LI_ s D cI cZ cJ q A u v f H locs) (hR1 : cells + 0 ≤ 1049) (hR2 : slots + 0 ≤ 40143)
    (kk : ∀ (u : Co_ × Jk_) (v : Co_ × Jm_) (H : Heap) (locs : List Loc), LI_ s D cI cZ cJ q A u v f H locs → W p l e room_1 s m #[Value.ref b] below meth c H locs cells slots Q (F0 m 580 ls [])) : W p l e room_1 s m #[Value.ref b] below meth c H locs cells slots Q (F0 m 297 ls []) := by
  obtain ⟨hx, hb, hml, hown, hts, hX, hbl, hbA, hK, hE, hA⟩ := C
  obtain ⟨he, hc, hi, hj, hP, hD, hS⟩ := I
  have hd : cok_ v.1 := he ▸ hc
  refine lv_aload_n hx hb dL_law_297 rfl (lv_at hl 2 rfl) ?_
  refine lv_aload_n hx hb dL_law_298 rfl (lv_at hl 1 rfl) ?_
  refine lv_iload hx hb dL_law_299 (lv_at hl 0 rfl) ?_
  refine lv_iconst (v := (nI 1)) hx hb dL_law_301 (by decide +kernel) ?_
  refine r_iadd hx hb dL_law_302 ?_
  refine r_sld hx hb hX hbl hbA hS (i + 1) (by omega) hL dL_law_303 ?_
  refine lc_X (va_runV (As := [.int (xs (i + 1))]) (rest := []) ⟨hx, hb, hml, hown, hts⟩ (k_X3_follow l D cI cZ cJ t1 t2 _ q u hc hi (xs (i + 1))) (cwV 1 hts gL_law_X3_follow rfl rfl rfl (by decide +kernel) ⟨Nat.le_of_ble_eq_true rfl, Nat.le_of_ble_eq_true rfl⟩) (lp_X hP hD hS hA hK hE) rfl rfl hl.1 rfl (lv_room (Nat.le_of_ble_eq_true rfl)) dL_law_304 ⟨hR1, hR2⟩) hP hD hS hA (fun r_304 u1 H locs ⟨hw_304, hq_304, hc_304, hi_304⟩ hP hD hS => ?_)
  refine lv_aload_n hx hb dL_law_307 rfl (lv_at hl 3 rfl) ?_
  refine lv_aload_n hx hb dL_law_308 rfl (lv_at hl 1 rfl) ?_
  refine lv_iload hx hb dL_law_309 (lv_at hl 0 rfl) ?_
  refine lv_iconst (v := (nI 1)) hx hb dL_law_311 (by decide +kernel) ?_
  refine r_iadd hx hb dL_law_312 ?_
  refine r_sld hx hb hX hbl hbA hS (i + 1) (by omega) hL dL_law_313 ?_
  refine lc_M (va_runV (As := [.int (xs (i + 1))]) (rest := [.int r_304]) ⟨hx, hb, hml, hown, hts⟩ (k_X4_follow l D cI cZ cJ t1 t2 _ q v hd hj (xs (i + 1))) (cwV 1 hts gL_law_X4_follow rfl rfl rfl (by decide +kernel) ⟨Nat.le_of_ble_eq_true rfl, Nat.le_of_ble_eq_true rfl⟩) (lp_M hP hD hS hA hK hE) rfl rfl hl.1 rfl (lv_room (Nat.le_of_ble_eq_true rfl)) dL_law_314 ⟨hR1, hR2⟩) hP hD hS hA (fun r_314 v1 H locs ⟨hw_314, hq_314, hc_314, hi_314⟩ hP hD hS => ?_)
  refine lv_icmp_eq (tgt := 580) hx hb dL_law_317 (by decide) (fun c_317 => ?_) (fun c_317 => ?_)
  · exact kk u1 v1 H locs ⟨by rw [hw_304, hw_314, he], hc_304, hi_304, hi_314, hP, hD, hS⟩
  · exact absurd (o_follow hc he hq_304 hq_314) c_317
set_option maxHeartbeats 4000000 in
set_option maxRecDepth 100000 in
theorem ca_steps {p : Program} {l : Launch} {e : Env} {s : State} {m : MethodId} {below : List Frame} {meth : Method} {c : Code} {H : Heap} {locs : List Loc} {cells slots : Nat} {Q : State → Prop} {ls : Array Slot} {D : va_G} {cI cZ cJ : ClassId} {t1 t2 b L i : Nat} {xs : Nat → Int32} {q : Nat → Nat} {A : Nat → Prop} {u : Co_ × Jk_} {v : Co_ × Jm_} {f : Nat → Int64} (C : LC_ p s m meth c b L xs D cI cZ cJ t1 t2 A) (hi2 : i + 2 < L) (hL : L ≤ 1536) (hl : lv_has ls 7 [(4, .int (nI i)), (0, .ref b), (1, .ref (q 0)), (2, .ref (q 15)), (3, .ref (q 23))]) (I : LI_ s D cI cZ cJ q A u v f H locs) (hR1 : cells + 0 ≤ 1049) (hR2 : slots + 0 ≤ 40143)
    (kk : ∀ (u : Co_ × Jk_) (v : Co_ × Jm_) (H : Heap) (locs : List Loc), LI_ s D cI cZ cJ q A u v f H locs → W p l e room_1 s m #[Value.ref b] below meth c H locs cells slots Q (F0 m 580 ls [])) : W p l e room_1 s m #[Value.ref b] below meth c H locs cells slots Q (F0 m 322 ls []) := by
  obtain ⟨hx, hb, hml, hown, hts, hX, hbl, hbA, hK, hE, hA⟩ := C
  obtain ⟨he, hc, hi, hj, hP, hD, hS⟩ := I
  have hd : cok_ v.1 := he ▸ hc
  refine lv_aload_n hx hb dL_law_322 rfl (lv_at hl 2 rfl) ?_
  refine lv_aload_n hx hb dL_law_323 rfl (lv_at hl 1 rfl) ?_
  refine lv_iload hx hb dL_law_324 (lv_at hl 0 rfl) ?_
  refine lv_iconst (v := (nI 1)) hx hb dL_law_326 (by decide +kernel) ?_
  refine r_iadd hx hb dL_law_327 ?_
  refine r_sld hx hb hX hbl hbA hS (i + 1) (by omega) hL dL_law_328 ?_
  refine lc_X (va_runV (As := [.int (xs (i + 1))]) (rest := []) ⟨hx, hb, hml, hown, hts⟩ (k_X3_steps l D cI cZ cJ t1 t2 _ q u hc hi (xs (i + 1))) (cwV 1 hts gL_law_X3_steps rfl rfl rfl (by decide +kernel) ⟨Nat.le_of_ble_eq_true rfl, Nat.le_of_ble_eq_true rfl⟩) (lp_X hP hD hS hA hK hE) rfl rfl hl.1 rfl (lv_room (Nat.le_of_ble_eq_true rfl)) dL_law_329 ⟨hR1, hR2⟩) hP hD hS hA (fun r_329 u1 H locs ⟨hw_329, hq_329, hc_329, hi_329⟩ hP hD hS => ?_)
  refine lv_aload_n hx hb dL_law_332 rfl (lv_at hl 3 rfl) ?_
  refine lv_aload_n hx hb dL_law_333 rfl (lv_at hl 1 rfl) ?_
  refine lv_iload hx hb dL_law_334 (lv_at hl 0 rfl) ?_
  refine lv_iconst (v := (nI 1)) hx hb dL_law_336 (by decide +kernel) ?_
  refine r_iadd hx hb dL_law_337 ?_
  refine r_sld hx hb hX hbl hbA hS (i + 1) (by omega) hL dL_law_338 ?_
  refine lc_M (va_runV (As := [.int (xs (i + 1))]) (rest := [.int r_329]) ⟨hx, hb, hml, hown, hts⟩ (k_X4_steps l D cI cZ cJ t1 t2 _ q v hd hj (xs (i + 1))) (cwV 1 hts gL_law_X4_steps rfl rfl rfl (by decide +kernel) ⟨Nat.le_of_ble_eq_true rfl, Nat.le_of_ble_eq_true rfl⟩) (lp_M hP hD hS hA hK hE) rfl rfl hl.1 rfl (lv_room (Nat.le_of_ble_eq_true rfl)) dL_law_339 ⟨hR1, hR2⟩) hP hD hS hA (fun r_339 v1 H locs ⟨hw_339, hq_339, hc_339, hi_339⟩ hP hD hS => ?_)
  refine lv_icmp_eq (tgt := 580) hx hb dL_law_342 (by decide) (fun c_342 => ?_) (fun c_342 => ?_)
  · exact kk u1 v1 H locs ⟨by rw [hw_329, hw_339, he], hc_329, hi_329, hi_339, hP, hD, hS⟩
  · exact absurd (o_steps hc he hq_329 hq_339) c_342
set_option maxHeartbeats 4000000 in
set_option maxRecDepth 100000 in
theorem ca_causes {p : Program} {l : Launch} {e : Env} {s : State} {m : MethodId} {below : List Frame} {meth : Method} {c : Code} {H : Heap} {locs : List Loc} {cells slots : Nat} {Q : State → Prop} {ls : Array Slot} {D : va_G} {cI cZ cJ : ClassId} {t1 t2 b L i : Nat} {xs : Nat → Int32} {q : Nat → Nat} {A : Nat → Prop} {u : Co_ × Jk_} {v : Co_ × Jm_} {f : Nat → Int64} (C : LC_ p s m meth c b L xs D cI cZ cJ t1 t2 A) (hi2 : i + 2 < L) (hL : L ≤ 1536) (hl : lv_has ls 7 [(4, .int (nI i)), (0, .ref b), (1, .ref (q 0)), (2, .ref (q 15)), (3, .ref (q 23))]) (I : LI_ s D cI cZ cJ q A u v f H locs) (hR1 : cells + 0 ≤ 1049) (hR2 : slots + 0 ≤ 40143)
    (kk : ∀ (u : Co_ × Jk_) (v : Co_ × Jm_) (H : Heap) (locs : List Loc), LI_ s D cI cZ cJ q A u v f H locs → W p l e room_1 s m #[Value.ref b] below meth c H locs cells slots Q (F0 m 580 ls [])) : W p l e room_1 s m #[Value.ref b] below meth c H locs cells slots Q (F0 m 347 ls []) := by
  obtain ⟨hx, hb, hml, hown, hts, hX, hbl, hbA, hK, hE, hA⟩ := C
  obtain ⟨he, hc, hi, hj, hP, hD, hS⟩ := I
  have hd : cok_ v.1 := he ▸ hc
  refine lv_aload_n hx hb dL_law_347 rfl (lv_at hl 2 rfl) ?_
  refine lc_X (va_runV (As := []) (rest := []) ⟨hx, hb, hml, hown, hts⟩ (k_X3_causes l D cI cZ cJ t1 t2 _ q u hc hi ) (cwV 0 hts gL_law_X3_causes rfl rfl rfl (by decide +kernel) ⟨Nat.le_of_ble_eq_true rfl, Nat.le_of_ble_eq_true rfl⟩) (lp_X hP hD hS hA hK hE) rfl rfl hl.1 rfl (lv_room (Nat.le_of_ble_eq_true rfl)) dL_law_348 ⟨hR1, hR2⟩) hP hD hS hA (fun r_348 u1 H locs ⟨hw_348, hq_348, hc_348, hi_348⟩ hP hD hS => ?_)
  refine lv_aload_n hx hb dL_law_351 rfl (lv_at hl 3 rfl) ?_
  refine lc_M (va_runV (As := []) (rest := [.int r_348]) ⟨hx, hb, hml, hown, hts⟩ (k_X4_causes l D cI cZ cJ t1 t2 _ q v hd hj ) (cwV 0 hts gL_law_X4_causes rfl rfl rfl (by decide +kernel) ⟨Nat.le_of_ble_eq_true rfl, Nat.le_of_ble_eq_true rfl⟩) (lp_M hP hD hS hA hK hE) rfl rfl hl.1 rfl (lv_room (Nat.le_of_ble_eq_true rfl)) dL_law_352 ⟨hR1, hR2⟩) hP hD hS hA (fun r_352 v1 H locs ⟨hw_352, hq_352, hc_352, hi_352⟩ hP hD hS => ?_)
  refine lv_icmp_eq (tgt := 580) hx hb dL_law_355 (by decide) (fun c_355 => ?_) (fun c_355 => ?_)
  · exact kk u1 v1 H locs ⟨by rw [hw_348, hw_352, he], hc_348, hi_348, hi_352, hP, hD, hS⟩
  · exact absurd (o_causes hc he hq_348 hq_352) c_355
set_option maxHeartbeats 4000000 in
set_option maxRecDepth 100000 in
theorem ca_cures {p : Program} {l : Launch} {e : Env} {s : State} {m : MethodId} {below : List Frame} {meth : Method} {c : Code} {H : Heap} {locs : List Loc} {cells slots : Nat} {Q : State → Prop} {ls : Array Slot} {D : va_G} {cI cZ cJ : ClassId} {t1 t2 b L i : Nat} {xs : Nat → Int32} {q : Nat → Nat} {A : Nat → Prop} {u : Co_ × Jk_} {v : Co_ × Jm_} {f : Nat → Int64} (C : LC_ p s m meth c b L xs D cI cZ cJ t1 t2 A) (hi2 : i + 2 < L) (hL : L ≤ 1536) (hl : lv_has ls 7 [(4, .int (nI i)), (0, .ref b), (1, .ref (q 0)), (2, .ref (q 15)), (3, .ref (q 23))]) (I : LI_ s D cI cZ cJ q A u v f H locs) (hR1 : cells + 0 ≤ 1049) (hR2 : slots + 0 ≤ 40143)
    (kk : ∀ (u : Co_ × Jk_) (v : Co_ × Jm_) (H : Heap) (locs : List Loc), LI_ s D cI cZ cJ q A u v f H locs → W p l e room_1 s m #[Value.ref b] below meth c H locs cells slots Q (F0 m 580 ls [])) : W p l e room_1 s m #[Value.ref b] below meth c H locs cells slots Q (F0 m 360 ls []) := by
  obtain ⟨hx, hb, hml, hown, hts, hX, hbl, hbA, hK, hE, hA⟩ := C
  obtain ⟨he, hc, hi, hj, hP, hD, hS⟩ := I
  have hd : cok_ v.1 := he ▸ hc
  refine lv_aload_n hx hb dL_law_360 rfl (lv_at hl 2 rfl) ?_
  refine lc_X (va_runV (As := []) (rest := []) ⟨hx, hb, hml, hown, hts⟩ (k_X3_cures l D cI cZ cJ t1 t2 _ q u hc hi ) (cwV 0 hts gL_law_X3_cures rfl rfl rfl (by decide +kernel) ⟨Nat.le_of_ble_eq_true rfl, Nat.le_of_ble_eq_true rfl⟩) (lp_X hP hD hS hA hK hE) rfl rfl hl.1 rfl (lv_room (Nat.le_of_ble_eq_true rfl)) dL_law_361 ⟨hR1, hR2⟩) hP hD hS hA (fun r_361 u1 H locs ⟨hw_361, hq_361, hc_361, hi_361⟩ hP hD hS => ?_)
  refine lv_aload_n hx hb dL_law_364 rfl (lv_at hl 3 rfl) ?_
  refine lc_M (va_runV (As := []) (rest := [.int r_361]) ⟨hx, hb, hml, hown, hts⟩ (k_X4_cures l D cI cZ cJ t1 t2 _ q v hd hj ) (cwV 0 hts gL_law_X4_cures rfl rfl rfl (by decide +kernel) ⟨Nat.le_of_ble_eq_true rfl, Nat.le_of_ble_eq_true rfl⟩) (lp_M hP hD hS hA hK hE) rfl rfl hl.1 rfl (lv_room (Nat.le_of_ble_eq_true rfl)) dL_law_365 ⟨hR1, hR2⟩) hP hD hS hA (fun r_365 v1 H locs ⟨hw_365, hq_365, hc_365, hi_365⟩ hP hD hS => ?_)
  refine lv_icmp_eq (tgt := 580) hx hb dL_law_368 (by decide) (fun c_368 => ?_) (fun c_368 => ?_)
  · exact kk u1 v1 H locs ⟨by rw [hw_361, hw_365, he], hc_361, hi_361, hi_365, hP, hD, hS⟩
  · exact absurd (o_cures hc he hq_361 hq_365) c_368
set_option maxHeartbeats 4000000 in
set_option maxRecDepth 100000 in
theorem ca_cause {p : Program} {l : Launch} {e : Env} {s : State} {m : MethodId} {below : List Frame} {meth : Method} {c : Code} {H : Heap} {locs : List Loc} {cells slots : Nat} {Q : State → Prop} {ls : Array Slot} {D : va_G} {cI cZ cJ : ClassId} {t1 t2 b L i : Nat} {xs : Nat → Int32} {q : Nat → Nat} {A : Nat → Prop} {u : Co_ × Jk_} {v : Co_ × Jm_} {f : Nat → Int64} (C : LC_ p s m meth c b L xs D cI cZ cJ t1 t2 A) (hi2 : i + 2 < L) (hL : L ≤ 1536) (hl : lv_has ls 7 [(4, .int (nI i)), (0, .ref b), (1, .ref (q 0)), (2, .ref (q 15)), (3, .ref (q 23))]) (I : LI_ s D cI cZ cJ q A u v f H locs) (hR1 : cells + 0 ≤ 1049) (hR2 : slots + 0 ≤ 40143)
    (kk : ∀ (u : Co_ × Jk_) (v : Co_ × Jm_) (H : Heap) (locs : List Loc), LI_ s D cI cZ cJ q A u v f H locs → W p l e room_1 s m #[Value.ref b] below meth c H locs cells slots Q (F0 m 580 ls [])) : W p l e room_1 s m #[Value.ref b] below meth c H locs cells slots Q (F0 m 373 ls []) := by
  obtain ⟨hx, hb, hml, hown, hts, hX, hbl, hbA, hK, hE, hA⟩ := C
  obtain ⟨he, hc, hi, hj, hP, hD, hS⟩ := I
  have hd : cok_ v.1 := he ▸ hc
  refine lv_aload_n hx hb dL_law_373 rfl (lv_at hl 2 rfl) ?_
  refine lv_aload_n hx hb dL_law_374 rfl (lv_at hl 1 rfl) ?_
  refine lv_iload hx hb dL_law_375 (lv_at hl 0 rfl) ?_
  refine lv_iconst (v := (nI 1)) hx hb dL_law_377 (by decide +kernel) ?_
  refine r_iadd hx hb dL_law_378 ?_
  refine r_sld hx hb hX hbl hbA hS (i + 1) (by omega) hL dL_law_379 ?_
  refine lc_X (va_runV (As := [.int (xs (i + 1))]) (rest := []) ⟨hx, hb, hml, hown, hts⟩ (k_X3_cause l D cI cZ cJ t1 t2 _ q u hc hi (xs (i + 1))) (cwV 1 hts gL_law_X3_cause rfl rfl rfl (by decide +kernel) ⟨Nat.le_of_ble_eq_true rfl, Nat.le_of_ble_eq_true rfl⟩) (lp_X hP hD hS hA hK hE) rfl rfl hl.1 rfl (lv_room (Nat.le_of_ble_eq_true rfl)) dL_law_380 ⟨hR1, hR2⟩) hP hD hS hA (fun r_380 u1 H locs ⟨hw_380, hq_380, hc_380, hi_380⟩ hP hD hS => ?_)
  refine lv_aload_n hx hb dL_law_383 rfl (lv_at hl 3 rfl) ?_
  refine lv_aload_n hx hb dL_law_384 rfl (lv_at hl 1 rfl) ?_
  refine lv_iload hx hb dL_law_385 (lv_at hl 0 rfl) ?_
  refine lv_iconst (v := (nI 1)) hx hb dL_law_387 (by decide +kernel) ?_
  refine r_iadd hx hb dL_law_388 ?_
  refine r_sld hx hb hX hbl hbA hS (i + 1) (by omega) hL dL_law_389 ?_
  refine lc_M (va_runV (As := [.int (xs (i + 1))]) (rest := [.int r_380]) ⟨hx, hb, hml, hown, hts⟩ (k_X4_cause l D cI cZ cJ t1 t2 _ q v hd hj (xs (i + 1))) (cwV 1 hts gL_law_X4_cause rfl rfl rfl (by decide +kernel) ⟨Nat.le_of_ble_eq_true rfl, Nat.le_of_ble_eq_true rfl⟩) (lp_M hP hD hS hA hK hE) rfl rfl hl.1 rfl (lv_room (Nat.le_of_ble_eq_true rfl)) dL_law_390 ⟨hR1, hR2⟩) hP hD hS hA (fun r_390 v1 H locs ⟨hw_390, hq_390, hc_390, hi_390⟩ hP hD hS => ?_)
  refine lv_icmp_eq (tgt := 580) hx hb dL_law_393 (by decide) (fun c_393 => ?_) (fun c_393 => ?_)
  · exact kk u1 v1 H locs ⟨by rw [hw_380, hw_390, he], hc_380, hi_380, hi_390, hP, hD, hS⟩
  · exact absurd (o_cause hc he hq_380 hq_390) c_393
set_option maxHeartbeats 4000000 in
set_option maxRecDepth 100000 in
theorem ca_cure {p : Program} {l : Launch} {e : Env} {s : State} {m : MethodId} {below : List Frame} {meth : Method} {c : Code} {H : Heap} {locs : List Loc} {cells slots : Nat} {Q : State → Prop} {ls : Array Slot} {D : va_G} {cI cZ cJ : ClassId} {t1 t2 b L i : Nat} {xs : Nat → Int32} {q : Nat → Nat} {A : Nat → Prop} {u : Co_ × Jk_} {v : Co_ × Jm_} {f : Nat → Int64} (C : LC_ p s m meth c b L xs D cI cZ cJ t1 t2 A) (hi2 : i + 2 < L) (hL : L ≤ 1536) (hl : lv_has ls 7 [(4, .int (nI i)), (0, .ref b), (1, .ref (q 0)), (2, .ref (q 15)), (3, .ref (q 23))]) (I : LI_ s D cI cZ cJ q A u v f H locs) (hR1 : cells + 0 ≤ 1049) (hR2 : slots + 0 ≤ 40143)
    (kk : ∀ (u : Co_ × Jk_) (v : Co_ × Jm_) (H : Heap) (locs : List Loc), LI_ s D cI cZ cJ q A u v f H locs → W p l e room_1 s m #[Value.ref b] below meth c H locs cells slots Q (F0 m 580 ls [])) : W p l e room_1 s m #[Value.ref b] below meth c H locs cells slots Q (F0 m 398 ls []) := by
  obtain ⟨hx, hb, hml, hown, hts, hX, hbl, hbA, hK, hE, hA⟩ := C
  obtain ⟨he, hc, hi, hj, hP, hD, hS⟩ := I
  have hd : cok_ v.1 := he ▸ hc
  refine lv_aload_n hx hb dL_law_398 rfl (lv_at hl 2 rfl) ?_
  refine lv_aload_n hx hb dL_law_399 rfl (lv_at hl 1 rfl) ?_
  refine lv_iload hx hb dL_law_400 (lv_at hl 0 rfl) ?_
  refine lv_iconst (v := (nI 1)) hx hb dL_law_402 (by decide +kernel) ?_
  refine r_iadd hx hb dL_law_403 ?_
  refine r_sld hx hb hX hbl hbA hS (i + 1) (by omega) hL dL_law_404 ?_
  refine lc_X (va_runV (As := [.int (xs (i + 1))]) (rest := []) ⟨hx, hb, hml, hown, hts⟩ (k_X3_cure l D cI cZ cJ t1 t2 _ q u hc hi (xs (i + 1))) (cwV 1 hts gL_law_X3_cure rfl rfl rfl (by decide +kernel) ⟨Nat.le_of_ble_eq_true rfl, Nat.le_of_ble_eq_true rfl⟩) (lp_X hP hD hS hA hK hE) rfl rfl hl.1 rfl (lv_room (Nat.le_of_ble_eq_true rfl)) dL_law_405 ⟨hR1, hR2⟩) hP hD hS hA (fun r_405 u1 H locs ⟨hw_405, hq_405, hc_405, hi_405⟩ hP hD hS => ?_)
  refine lv_aload_n hx hb dL_law_408 rfl (lv_at hl 3 rfl) ?_
  refine lv_aload_n hx hb dL_law_409 rfl (lv_at hl 1 rfl) ?_
  refine lv_iload hx hb dL_law_410 (lv_at hl 0 rfl) ?_
  refine lv_iconst (v := (nI 1)) hx hb dL_law_412 (by decide +kernel) ?_
  refine r_iadd hx hb dL_law_413 ?_
  refine r_sld hx hb hX hbl hbA hS (i + 1) (by omega) hL dL_law_414 ?_
  refine lc_M (va_runV (As := [.int (xs (i + 1))]) (rest := [.int r_405]) ⟨hx, hb, hml, hown, hts⟩ (k_X4_cure l D cI cZ cJ t1 t2 _ q v hd hj (xs (i + 1))) (cwV 1 hts gL_law_X4_cure rfl rfl rfl (by decide +kernel) ⟨Nat.le_of_ble_eq_true rfl, Nat.le_of_ble_eq_true rfl⟩) (lp_M hP hD hS hA hK hE) rfl rfl hl.1 rfl (lv_room (Nat.le_of_ble_eq_true rfl)) dL_law_415 ⟨hR1, hR2⟩) hP hD hS hA (fun r_415 v1 H locs ⟨hw_415, hq_415, hc_415, hi_415⟩ hP hD hS => ?_)
  refine lv_icmp_eq (tgt := 580) hx hb dL_law_418 (by decide) (fun c_418 => ?_) (fun c_418 => ?_)
  · exact kk u1 v1 H locs ⟨by rw [hw_405, hw_415, he], hc_405, hi_405, hi_415, hP, hD, hS⟩
  · exact absurd (o_cure hc he hq_405 hq_415) c_418
set_option maxHeartbeats 4000000 in
set_option maxRecDepth 100000 in
theorem ca_lightest {p : Program} {l : Launch} {e : Env} {s : State} {m : MethodId} {below : List Frame} {meth : Method} {c : Code} {H : Heap} {locs : List Loc} {cells slots : Nat} {Q : State → Prop} {ls : Array Slot} {D : va_G} {cI cZ cJ : ClassId} {t1 t2 b L i : Nat} {xs : Nat → Int32} {q : Nat → Nat} {A : Nat → Prop} {u : Co_ × Jk_} {v : Co_ × Jm_} {f : Nat → Int64} (C : LC_ p s m meth c b L xs D cI cZ cJ t1 t2 A) (hi2 : i + 2 < L) (hL : L ≤ 1536) (hl : lv_has ls 7 [(4, .int (nI i)), (0, .ref b), (1, .ref (q 0)), (2, .ref (q 15)), (3, .ref (q 23))]) (I : LI_ s D cI cZ cJ q A u v f H locs) (hR1 : cells + 0 ≤ 1049) (hR2 : slots + 0 ≤ 40143)
    (kk : ∀ (u : Co_ × Jk_) (v : Co_ × Jm_) (H : Heap) (locs : List Loc), LI_ s D cI cZ cJ q A u v f H locs → W p l e room_1 s m #[Value.ref b] below meth c H locs cells slots Q (F0 m 580 ls [])) : W p l e room_1 s m #[Value.ref b] below meth c H locs cells slots Q (F0 m 423 ls []) := by
  obtain ⟨hx, hb, hml, hown, hts, hX, hbl, hbA, hK, hE, hA⟩ := C
  obtain ⟨he, hc, hi, hj, hP, hD, hS⟩ := I
  have hd : cok_ v.1 := he ▸ hc
  refine lv_aload_n hx hb dL_law_423 rfl (lv_at hl 2 rfl) ?_
  refine lc_X (va_runV (As := []) (rest := []) ⟨hx, hb, hml, hown, hts⟩ (k_X3_lightest l D cI cZ cJ t1 t2 _ q u hc hi ) (cwV 0 hts gL_law_X3_lightest rfl rfl rfl (by decide +kernel) ⟨Nat.le_of_ble_eq_true rfl, Nat.le_of_ble_eq_true rfl⟩) (lp_X hP hD hS hA hK hE) rfl rfl hl.1 rfl (lv_room (Nat.le_of_ble_eq_true rfl)) dL_law_424 ⟨hR1, hR2⟩) hP hD hS hA (fun r_424 u1 H locs ⟨hw_424, hq_424, hc_424, hi_424⟩ hP hD hS => ?_)
  refine lv_aload_n hx hb dL_law_427 rfl (lv_at hl 3 rfl) ?_
  refine lc_M (va_runV (As := []) (rest := [.int r_424]) ⟨hx, hb, hml, hown, hts⟩ (k_X4_lightest l D cI cZ cJ t1 t2 _ q v hd hj ) (cwV 0 hts gL_law_X4_lightest rfl rfl rfl (by decide +kernel) ⟨Nat.le_of_ble_eq_true rfl, Nat.le_of_ble_eq_true rfl⟩) (lp_M hP hD hS hA hK hE) rfl rfl hl.1 rfl (lv_room (Nat.le_of_ble_eq_true rfl)) dL_law_428 ⟨hR1, hR2⟩) hP hD hS hA (fun r_428 v1 H locs ⟨hw_428, hq_428, hc_428, hi_428⟩ hP hD hS => ?_)
  refine lv_icmp_eq (tgt := 580) hx hb dL_law_431 (by decide) (fun c_431 => ?_) (fun c_431 => ?_)
  · exact kk u1 v1 H locs ⟨by rw [hw_424, hw_428, he], hc_424, hi_424, hi_428, hP, hD, hS⟩
  · exact absurd (o_lightest hc he hq_424 hq_428) c_431
set_option maxHeartbeats 4000000 in
set_option maxRecDepth 100000 in
theorem ca_times {p : Program} {l : Launch} {e : Env} {s : State} {m : MethodId} {below : List Frame} {meth : Method} {c : Code} {H : Heap} {locs : List Loc} {cells slots : Nat} {Q : State → Prop} {ls : Array Slot} {D : va_G} {cI cZ cJ : ClassId} {t1 t2 b L i : Nat} {xs : Nat → Int32} {q : Nat → Nat} {A : Nat → Prop} {u : Co_ × Jk_} {v : Co_ × Jm_} {f : Nat → Int64} (C : LC_ p s m meth c b L xs D cI cZ cJ t1 t2 A) (hi2 : i + 2 < L) (hL : L ≤ 1536) (hl : lv_has ls 7 [(4, .int (nI i)), (0, .ref b), (1, .ref (q 0)), (2, .ref (q 15)), (3, .ref (q 23))]) (I : LI_ s D cI cZ cJ q A u v f H locs) (hR1 : cells + 0 ≤ 1049) (hR2 : slots + 0 ≤ 40143)
    (kk : ∀ (u : Co_ × Jk_) (v : Co_ × Jm_) (H : Heap) (locs : List Loc), LI_ s D cI cZ cJ q A u v f H locs → W p l e room_1 s m #[Value.ref b] below meth c H locs cells slots Q (F0 m 580 ls [])) : W p l e room_1 s m #[Value.ref b] below meth c H locs cells slots Q (F0 m 436 ls []) := by
  obtain ⟨hx, hb, hml, hown, hts, hX, hbl, hbA, hK, hE, hA⟩ := C
  obtain ⟨he, hc, hi, hj, hP, hD, hS⟩ := I
  have hd : cok_ v.1 := he ▸ hc
  refine lv_aload_n hx hb dL_law_436 rfl (lv_at hl 2 rfl) ?_
  refine lv_aload_n hx hb dL_law_437 rfl (lv_at hl 1 rfl) ?_
  refine lv_iload hx hb dL_law_438 (lv_at hl 0 rfl) ?_
  refine lv_iconst (v := (nI 1)) hx hb dL_law_440 (by decide +kernel) ?_
  refine r_iadd hx hb dL_law_441 ?_
  refine r_sld hx hb hX hbl hbA hS (i + 1) (by omega) hL dL_law_442 ?_
  refine lv_aload_n hx hb dL_law_443 rfl (lv_at hl 1 rfl) ?_
  refine lv_iload hx hb dL_law_444 (lv_at hl 0 rfl) ?_
  refine lv_iconst (v := (nI 2)) hx hb dL_law_446 (by decide +kernel) ?_
  refine r_iadd hx hb dL_law_447 ?_
  refine r_sld hx hb hX hbl hbA hS (i + 2) (by omega) hL dL_law_448 ?_
  refine lc_X (va_runV (As := [.int (xs (i + 1)), .int (xs (i + 2))]) (rest := []) ⟨hx, hb, hml, hown, hts⟩ (k_X3_times l D cI cZ cJ t1 t2 _ q u hc hi (xs (i + 1)) (xs (i + 2))) (cwV 2 hts gL_law_X3_times rfl rfl rfl (by decide +kernel) ⟨Nat.le_of_ble_eq_true rfl, Nat.le_of_ble_eq_true rfl⟩) (lp_X hP hD hS hA hK hE) rfl rfl hl.1 rfl (lv_room (Nat.le_of_ble_eq_true rfl)) dL_law_449 ⟨hR1, hR2⟩) hP hD hS hA (fun r_449 u1 H locs ⟨hw_449, hq_449, hc_449, hi_449⟩ hP hD hS => ?_)
  refine lv_aload_n hx hb dL_law_452 rfl (lv_at hl 3 rfl) ?_
  refine lv_aload_n hx hb dL_law_453 rfl (lv_at hl 1 rfl) ?_
  refine lv_iload hx hb dL_law_454 (lv_at hl 0 rfl) ?_
  refine lv_iconst (v := (nI 1)) hx hb dL_law_456 (by decide +kernel) ?_
  refine r_iadd hx hb dL_law_457 ?_
  refine r_sld hx hb hX hbl hbA hS (i + 1) (by omega) hL dL_law_458 ?_
  refine lv_aload_n hx hb dL_law_459 rfl (lv_at hl 1 rfl) ?_
  refine lv_iload hx hb dL_law_460 (lv_at hl 0 rfl) ?_
  refine lv_iconst (v := (nI 2)) hx hb dL_law_462 (by decide +kernel) ?_
  refine r_iadd hx hb dL_law_463 ?_
  refine r_sld hx hb hX hbl hbA hS (i + 2) (by omega) hL dL_law_464 ?_
  refine lc_M (va_runV (As := [.int (xs (i + 1)), .int (xs (i + 2))]) (rest := [.int r_449]) ⟨hx, hb, hml, hown, hts⟩ (k_X4_times l D cI cZ cJ t1 t2 _ q v hd hj (xs (i + 1)) (xs (i + 2))) (cwV 2 hts gL_law_X4_times rfl rfl rfl (by decide +kernel) ⟨Nat.le_of_ble_eq_true rfl, Nat.le_of_ble_eq_true rfl⟩) (lp_M hP hD hS hA hK hE) rfl rfl hl.1 rfl (lv_room (Nat.le_of_ble_eq_true rfl)) dL_law_465 ⟨hR1, hR2⟩) hP hD hS hA (fun r_465 v1 H locs ⟨hw_465, hq_465, hc_465, hi_465⟩ hP hD hS => ?_)
  refine lv_icmp_eq (tgt := 580) hx hb dL_law_468 (by decide) (fun c_468 => ?_) (fun c_468 => ?_)
  · exact kk u1 v1 H locs ⟨by rw [hw_449, hw_465, he], hc_449, hi_449, hi_465, hP, hD, hS⟩
  · exact absurd (o_times hc he hq_449 hq_465) c_468
set_option maxHeartbeats 4000000 in
set_option maxRecDepth 100000 in
theorem ca_within {p : Program} {l : Launch} {e : Env} {s : State} {m : MethodId} {below : List Frame} {meth : Method} {c : Code} {H : Heap} {locs : List Loc} {cells slots : Nat} {Q : State → Prop} {ls : Array Slot} {D : va_G} {cI cZ cJ : ClassId} {t1 t2 b L i : Nat} {xs : Nat → Int32} {q : Nat → Nat} {A : Nat → Prop} {u : Co_ × Jk_} {v : Co_ × Jm_} {f : Nat → Int64} (C : LC_ p s m meth c b L xs D cI cZ cJ t1 t2 A) (hi2 : i + 2 < L) (hL : L ≤ 1536) (hl : lv_has ls 7 [(4, .int (nI i)), (0, .ref b), (1, .ref (q 0)), (2, .ref (q 15)), (3, .ref (q 23))]) (I : LI_ s D cI cZ cJ q A u v f H locs) (hR1 : cells + 0 ≤ 1049) (hR2 : slots + 0 ≤ 40143)
    (kk : ∀ (u : Co_ × Jk_) (v : Co_ × Jm_) (H : Heap) (locs : List Loc), LI_ s D cI cZ cJ q A u v f H locs → W p l e room_1 s m #[Value.ref b] below meth c H locs cells slots Q (F0 m 580 ls [])) : W p l e room_1 s m #[Value.ref b] below meth c H locs cells slots Q (F0 m 473 ls []) := by
  obtain ⟨hx, hb, hml, hown, hts, hX, hbl, hbA, hK, hE, hA⟩ := C
  obtain ⟨he, hc, hi, hj, hP, hD, hS⟩ := I
  have hd : cok_ v.1 := he ▸ hc
  refine lv_aload_n hx hb dL_law_473 rfl (lv_at hl 2 rfl) ?_
  refine lv_aload_n hx hb dL_law_474 rfl (lv_at hl 1 rfl) ?_
  refine lv_iload hx hb dL_law_475 (lv_at hl 0 rfl) ?_
  refine lv_iconst (v := (nI 1)) hx hb dL_law_477 (by decide +kernel) ?_
  refine r_iadd hx hb dL_law_478 ?_
  refine r_sld hx hb hX hbl hbA hS (i + 1) (by omega) hL dL_law_479 ?_
  refine lc_X (va_runV (As := [.int (xs (i + 1))]) (rest := []) ⟨hx, hb, hml, hown, hts⟩ (k_X3_within l D cI cZ cJ t1 t2 _ q u hc hi (xs (i + 1))) (cwV 1 hts gL_law_X3_within rfl rfl rfl (by decide +kernel) ⟨Nat.le_of_ble_eq_true rfl, Nat.le_of_ble_eq_true rfl⟩) (lp_X hP hD hS hA hK hE) rfl rfl hl.1 rfl (lv_room (Nat.le_of_ble_eq_true rfl)) dL_law_480 ⟨hR1, hR2⟩) hP hD hS hA (fun r_480 u1 H locs ⟨hw_480, hq_480, hc_480, hi_480⟩ hP hD hS => ?_)
  refine lv_aload_n hx hb dL_law_483 rfl (lv_at hl 3 rfl) ?_
  refine lv_aload_n hx hb dL_law_484 rfl (lv_at hl 1 rfl) ?_
  refine lv_iload hx hb dL_law_485 (lv_at hl 0 rfl) ?_
  refine lv_iconst (v := (nI 1)) hx hb dL_law_487 (by decide +kernel) ?_
  refine r_iadd hx hb dL_law_488 ?_
  refine r_sld hx hb hX hbl hbA hS (i + 1) (by omega) hL dL_law_489 ?_
  refine lc_M (va_runV (As := [.int (xs (i + 1))]) (rest := [.int r_480]) ⟨hx, hb, hml, hown, hts⟩ (k_X4_within l D cI cZ cJ t1 t2 _ q v hd hj (xs (i + 1))) (cwV 1 hts gL_law_X4_within rfl rfl rfl (by decide +kernel) ⟨Nat.le_of_ble_eq_true rfl, Nat.le_of_ble_eq_true rfl⟩) (lp_M hP hD hS hA hK hE) rfl rfl hl.1 rfl (lv_room (Nat.le_of_ble_eq_true rfl)) dL_law_490 ⟨hR1, hR2⟩) hP hD hS hA (fun r_490 v1 H locs ⟨hw_490, hq_490, hc_490, hi_490⟩ hP hD hS => ?_)
  refine lv_icmp_eq (tgt := 580) hx hb dL_law_493 (by decide) (fun c_493 => ?_) (fun c_493 => ?_)
  · exact kk u1 v1 H locs ⟨by rw [hw_480, hw_490, he], hc_480, hi_480, hi_490, hP, hD, hS⟩
  · exact absurd (o_within hc he hq_480 hq_490) c_493
set_option maxHeartbeats 4000000 in
set_option maxRecDepth 100000 in
theorem ca_common {p : Program} {l : Launch} {e : Env} {s : State} {m : MethodId} {below : List Frame} {meth : Method} {c : Code} {H : Heap} {locs : List Loc} {cells slots : Nat} {Q : State → Prop} {ls : Array Slot} {D : va_G} {cI cZ cJ : ClassId} {t1 t2 b L i : Nat} {xs : Nat → Int32} {q : Nat → Nat} {A : Nat → Prop} {u : Co_ × Jk_} {v : Co_ × Jm_} {f : Nat → Int64} (C : LC_ p s m meth c b L xs D cI cZ cJ t1 t2 A) (hi2 : i + 2 < L) (hL : L ≤ 1536) (hl : lv_has ls 7 [(4, .int (nI i)), (0, .ref b), (1, .ref (q 0)), (2, .ref (q 15)), (3, .ref (q 23))]) (I : LI_ s D cI cZ cJ q A u v f H locs) (hR1 : cells + 0 ≤ 1049) (hR2 : slots + 0 ≤ 40143)
    (kk : ∀ (u : Co_ × Jk_) (v : Co_ × Jm_) (H : Heap) (locs : List Loc), LI_ s D cI cZ cJ q A u v f H locs → W p l e room_1 s m #[Value.ref b] below meth c H locs cells slots Q (F0 m 580 ls [])) : W p l e room_1 s m #[Value.ref b] below meth c H locs cells slots Q (F0 m 498 ls []) := by
  obtain ⟨hx, hb, hml, hown, hts, hX, hbl, hbA, hK, hE, hA⟩ := C
  obtain ⟨he, hc, hi, hj, hP, hD, hS⟩ := I
  have hd : cok_ v.1 := he ▸ hc
  refine lv_aload_n hx hb dL_law_498 rfl (lv_at hl 2 rfl) ?_
  refine lc_X (va_runV (As := []) (rest := []) ⟨hx, hb, hml, hown, hts⟩ (k_X3_common l D cI cZ cJ t1 t2 _ q u hc hi ) (cwV 0 hts gL_law_X3_common rfl rfl rfl (by decide +kernel) ⟨Nat.le_of_ble_eq_true rfl, Nat.le_of_ble_eq_true rfl⟩) (lp_X hP hD hS hA hK hE) rfl rfl hl.1 rfl (lv_room (Nat.le_of_ble_eq_true rfl)) dL_law_499 ⟨hR1, hR2⟩) hP hD hS hA (fun r_499 u1 H locs ⟨hw_499, hq_499, hc_499, hi_499⟩ hP hD hS => ?_)
  refine lv_aload_n hx hb dL_law_502 rfl (lv_at hl 3 rfl) ?_
  refine lc_M (va_runV (As := []) (rest := [.int r_499]) ⟨hx, hb, hml, hown, hts⟩ (k_X4_common l D cI cZ cJ t1 t2 _ q v hd hj ) (cwV 0 hts gL_law_X4_common rfl rfl rfl (by decide +kernel) ⟨Nat.le_of_ble_eq_true rfl, Nat.le_of_ble_eq_true rfl⟩) (lp_M hP hD hS hA hK hE) rfl rfl hl.1 rfl (lv_room (Nat.le_of_ble_eq_true rfl)) dL_law_503 ⟨hR1, hR2⟩) hP hD hS hA (fun r_503 v1 H locs ⟨hw_503, hq_503, hc_503, hi_503⟩ hP hD hS => ?_)
  refine lv_icmp_eq (tgt := 580) hx hb dL_law_506 (by decide) (fun c_506 => ?_) (fun c_506 => ?_)
  · exact kk u1 v1 H locs ⟨by rw [hw_499, hw_503, he], hc_499, hi_499, hi_503, hP, hD, hS⟩
  · exact absurd (o_common hc he hq_499 hq_503) c_506
set_option maxHeartbeats 4000000 in
set_option maxRecDepth 100000 in
theorem ca_axioms {p : Program} {l : Launch} {e : Env} {s : State} {m : MethodId} {below : List Frame} {meth : Method} {c : Code} {H : Heap} {locs : List Loc} {cells slots : Nat} {Q : State → Prop} {ls : Array Slot} {D : va_G} {cI cZ cJ : ClassId} {t1 t2 b L i : Nat} {xs : Nat → Int32} {q : Nat → Nat} {A : Nat → Prop} {u : Co_ × Jk_} {v : Co_ × Jm_} {f : Nat → Int64} (C : LC_ p s m meth c b L xs D cI cZ cJ t1 t2 A) (hi2 : i + 2 < L) (hL : L ≤ 1536) (hl : lv_has ls 7 [(4, .int (nI i)), (0, .ref b), (1, .ref (q 0)), (2, .ref (q 15)), (3, .ref (q 23))]) (I : LI_ s D cI cZ cJ q A u v f H locs) (hR1 : cells + 0 ≤ 1049) (hR2 : slots + 0 ≤ 40143)
    (kk : ∀ (u : Co_ × Jk_) (v : Co_ × Jm_) (H : Heap) (locs : List Loc), LI_ s D cI cZ cJ q A u v f H locs → W p l e room_1 s m #[Value.ref b] below meth c H locs cells slots Q (F0 m 580 ls [])) : W p l e room_1 s m #[Value.ref b] below meth c H locs cells slots Q (F0 m 511 ls []) := by
  obtain ⟨hx, hb, hml, hown, hts, hX, hbl, hbA, hK, hE, hA⟩ := C
  obtain ⟨he, hc, hi, hj, hP, hD, hS⟩ := I
  have hd : cok_ v.1 := he ▸ hc
  refine lv_aload_n hx hb dL_law_511 rfl (lv_at hl 2 rfl) ?_
  refine lc_X (va_runV (As := []) (rest := []) ⟨hx, hb, hml, hown, hts⟩ (k_X3_axioms l D cI cZ cJ t1 t2 _ q u hc hi ) (cwV 0 hts gL_law_X3_axioms rfl rfl rfl (by decide +kernel) ⟨Nat.le_of_ble_eq_true rfl, Nat.le_of_ble_eq_true rfl⟩) (lp_X hP hD hS hA hK hE) rfl rfl hl.1 rfl (lv_room (Nat.le_of_ble_eq_true rfl)) dL_law_512 ⟨hR1, hR2⟩) hP hD hS hA (fun r_512 u1 H locs ⟨hw_512, hq_512, hc_512, hi_512⟩ hP hD hS => ?_)
  refine lv_aload_n hx hb dL_law_515 rfl (lv_at hl 3 rfl) ?_
  refine lc_M (va_runV (As := []) (rest := [.int r_512]) ⟨hx, hb, hml, hown, hts⟩ (k_X4_axioms l D cI cZ cJ t1 t2 _ q v hd hj ) (cwV 0 hts gL_law_X4_axioms rfl rfl rfl (by decide +kernel) ⟨Nat.le_of_ble_eq_true rfl, Nat.le_of_ble_eq_true rfl⟩) (lp_M hP hD hS hA hK hE) rfl rfl hl.1 rfl (lv_room (Nat.le_of_ble_eq_true rfl)) dL_law_516 ⟨hR1, hR2⟩) hP hD hS hA (fun r_516 v1 H locs ⟨hw_516, hq_516, hc_516, hi_516⟩ hP hD hS => ?_)
  refine lv_icmp_eq (tgt := 580) hx hb dL_law_519 (by decide) (fun c_519 => ?_) (fun c_519 => ?_)
  · exact kk u1 v1 H locs ⟨by rw [hw_512, hw_516, he], hc_512, hi_512, hi_516, hP, hD, hS⟩
  · exact absurd (o_axioms hc he hq_512 hq_516) c_519
