set_option maxHeartbeats 1000000 in
theorem lc_X {p : Program} {l : Launch} {e : Env} {R : Room} {s : State} {m : MethodId} {args : Array Value} {below : List Frame} {meth : Method} {c : Code} {H : Heap} {locs : List Loc} {cells slots : Nat} {Q : State → Prop} {ls : Array Slot} {pc : Nat} {st0 rest : List Value} {D : va_G} {cI cZ cJ : ClassId} {q : Nat → Nat} {A : Nat → Prop} {u : Co_ × Jk_} {v : Co_ × Jm_} {f : Nat → Int64} {post : Int32 → Co_ × Jk_ → Prop} {a : Array Value} (hr : va_Run p l e R s m args below meth c H locs cells slots 0 0 (F0 m pc ls st0) rest (va_Qi (S := Co_ × Jk_) post (fun z => wd_ D [(cI, .int), (cZ, .boolean), (cJ, .long)] (va_A (xw_ cI cZ cJ q u) H.size) (xw_ cI cZ cJ q z)) (va_A (xw_ cI cZ cJ q u) H.size) a) (va_A (xw_ cI cZ cJ q u) H.size)) (hP : va_P D vwCl (lw_ cI cZ cJ q u v f) H) (hD : va_D A (lw_ cI cZ cJ q u v f)) (hS : va_S A s.heap H locs) (hA : ∀ q : Nat, s.heap.size ≤ q → A q)
    (kk : ∀ (r : Int32) (z : Co_ × Jk_) (H1 : Heap) (locs1 : List Loc), post r z → va_P D vwCl (lw_ cI cZ cJ q z v f) H1 → va_D A (lw_ cI cZ cJ q z v f) → va_S A s.heap H1 locs1 → W p l e R s m args below meth c H1 locs1 cells slots Q (F0 m (pc + 3) ls (.int r :: rest))) : W p l e R s m args below meth c H locs cells slots Q (F0 m pc ls st0) := by
  have hFc := va_free (wc := (xw_ cI cZ cJ q u)) hD hS hA [0, 1, 2, 3, 4, 5, 6, 7, 8, 9, 10, 11, 12, 13, 14] rfl
  refine va_calli hr hS (fun q _ h => hFc q h) hFc (fun r z t H1 locs1 ht hvm hw hB hz1 hk1 hS => ?_)
  obtain ⟨hP1, hK1, hD1⟩ := hB
  rw [ht] at hP1
  obtain ⟨hP, hD⟩ := va_join (wr := (mw_ cI cZ q v ++ [(q 23, .inl (cJ, 1, .inr (.inl f)))])) (w1 := (xw_ cI cZ cJ q z)) hP hD [0, 1, 2, 3, 4, 5, 6, 7, 8, 9, 10, 11, 12, 13, 14] [15, 16, 17, 18, 19, 20, 21, 22, 23] rfl rfl (by decide) (by decide) hk1 hFc hP1 hD1
  exact kk r z H1 locs1 hw (hP.sub [9, 10, 11, 12, 13, 14, 15, 16, 17, 18, 19, 20, 21, 22, 23, 0, 1, 2, 3, 4, 5, 6, 7, 8] rfl) (hD.sub [9, 10, 11, 12, 13, 14, 15, 16, 17, 18, 19, 20, 21, 22, 23, 0, 1, 2, 3, 4, 5, 6, 7, 8] (by decide) rfl) hS
set_option maxHeartbeats 1000000 in
theorem lp_X {s : State} {H : Heap} {locs : List Loc} {D : va_G} {cI cZ cJ : ClassId} {t1 t2 : Nat} {q : Nat → Nat} {A : Nat → Prop} {u : Co_ × Jk_} {v : Co_ × Jm_} {f : Nat → Int64} {As : List Value} (hP : va_P D vwCl (lw_ cI cZ cJ q u v f) H) (hD : va_D A (lw_ cI cZ cJ q u v f)) (hS : va_S A s.heap H locs) (hA : ∀ q : Nat, s.heap.size ≤ q → A q) (hK : va_K D vwCl [(cI, .int), (cZ, .boolean), (cJ, .long)] s) (hE : EN_ t1 t2 A s) : PreV s H RX3 (q 0) (va_Pc (.ref (q 0) :: As) (wr_ D [(cI, .int), (cZ, .boolean), (cJ, .long)] (xw_ cI cZ cJ q u) t1 t2 H.size)) As :=
  ⟨wr_blind, va_recv hK hP (ci := 4) (q0 := 0) rfl rfl, wr_pre (hP.sub (ws' := (xw_ cI cZ cJ q u)) [0, 1, 2, 3, 4, 5, 6, 7, 8, 9, 10, 11, 12, 13, 14] rfl) (hD.sub (ws' := (xw_ cI cZ cJ q u)) [0, 1, 2, 3, 4, 5, 6, 7, 8, 9, 10, 11, 12, 13, 14] (by decide) rfl) hK hE hS (va_free (wc := (xw_ cI cZ cJ q u)) hD hS hA [0, 1, 2, 3, 4, 5, 6, 7, 8, 9, 10, 11, 12, 13, 14] rfl) [0, 1, 2] rfl⟩
set_option maxHeartbeats 1000000 in
theorem lc_M {p : Program} {l : Launch} {e : Env} {R : Room} {s : State} {m : MethodId} {args : Array Value} {below : List Frame} {meth : Method} {c : Code} {H : Heap} {locs : List Loc} {cells slots : Nat} {Q : State → Prop} {ls : Array Slot} {pc : Nat} {st0 rest : List Value} {D : va_G} {cI cZ cJ : ClassId} {q : Nat → Nat} {A : Nat → Prop} {u : Co_ × Jk_} {v : Co_ × Jm_} {f : Nat → Int64} {post : Int32 → Co_ × Jm_ → Prop} {a : Array Value} (hr : va_Run p l e R s m args below meth c H locs cells slots 0 0 (F0 m pc ls st0) rest (va_Qi (S := Co_ × Jm_) post (fun z => wd_ D [(cI, .int), (cZ, .boolean), (cJ, .long)] (va_A (mw_ cI cZ q v) H.size) (mw_ cI cZ q z)) (va_A (mw_ cI cZ q v) H.size) a) (va_A (mw_ cI cZ q v) H.size)) (hP : va_P D vwCl (lw_ cI cZ cJ q u v f) H) (hD : va_D A (lw_ cI cZ cJ q u v f)) (hS : va_S A s.heap H locs) (hA : ∀ q : Nat, s.heap.size ≤ q → A q)
    (kk : ∀ (r : Int32) (z : Co_ × Jm_) (H1 : Heap) (locs1 : List Loc), post r z → va_P D vwCl (lw_ cI cZ cJ q u z f) H1 → va_D A (lw_ cI cZ cJ q u z f) → va_S A s.heap H1 locs1 → W p l e R s m args below meth c H1 locs1 cells slots Q (F0 m (pc + 3) ls (.int r :: rest))) : W p l e R s m args below meth c H locs cells slots Q (F0 m pc ls st0) := by
  have hFc := va_free (wc := (mw_ cI cZ q v)) hD hS hA [15, 16, 17, 18, 19, 20, 21, 22] rfl
  refine va_calli hr hS (fun q _ h => hFc q h) hFc (fun r z t H1 locs1 ht hvm hw hB hz1 hk1 hS => ?_)
  obtain ⟨hP1, hK1, hD1⟩ := hB
  rw [ht] at hP1
  obtain ⟨hP, hD⟩ := va_join (wr := (xw_ cI cZ cJ q u ++ [(q 23, .inl (cJ, 1, .inr (.inl f)))])) (w1 := (mw_ cI cZ q z)) hP hD [15, 16, 17, 18, 19, 20, 21, 22] [0, 1, 2, 3, 4, 5, 6, 7, 8, 9, 10, 11, 12, 13, 14, 23] rfl rfl (by decide) (by decide) hk1 hFc hP1 hD1
  exact kk r z H1 locs1 hw (hP.sub [0, 1, 2, 3, 4, 5, 6, 7, 8, 9, 10, 11, 12, 13, 14, 16, 17, 18, 19, 20, 21, 22, 23, 15] rfl) (hD.sub [0, 1, 2, 3, 4, 5, 6, 7, 8, 9, 10, 11, 12, 13, 14, 16, 17, 18, 19, 20, 21, 22, 23, 15] (by decide) rfl) hS
set_option maxHeartbeats 1000000 in
theorem lp_M {s : State} {H : Heap} {locs : List Loc} {D : va_G} {cI cZ cJ : ClassId} {t1 t2 : Nat} {q : Nat → Nat} {A : Nat → Prop} {u : Co_ × Jk_} {v : Co_ × Jm_} {f : Nat → Int64} {As : List Value} (hP : va_P D vwCl (lw_ cI cZ cJ q u v f) H) (hD : va_D A (lw_ cI cZ cJ q u v f)) (hS : va_S A s.heap H locs) (hA : ∀ q : Nat, s.heap.size ≤ q → A q) (hK : va_K D vwCl [(cI, .int), (cZ, .boolean), (cJ, .long)] s) (hE : EN_ t1 t2 A s) : PreV s H RX4 (q 15) (va_Pc (.ref (q 15) :: As) (wr_ D [(cI, .int), (cZ, .boolean), (cJ, .long)] (mw_ cI cZ q v) t1 t2 H.size)) As :=
  ⟨wr_blind, va_recv hK hP (ci := 5) (q0 := 15) rfl rfl, wr_pre (hP.sub (ws' := (mw_ cI cZ q v)) [15, 16, 17, 18, 19, 20, 21, 22] rfl) (hD.sub (ws' := (mw_ cI cZ q v)) [15, 16, 17, 18, 19, 20, 21, 22] (by decide) rfl) hK hE hS (va_free (wc := (mw_ cI cZ q v)) hD hS hA [15, 16, 17, 18, 19, 20, 21, 22] rfl) [0, 1, 2] rfl⟩
theorem o_axiom {c d : Co_} {x y r r' : Int32} (hc : cok_ c) (e : c = d) (h : q_axiom c x y r) (h' : q_axiom d x y r') : r = r' := by
  subst e
  obtain ⟨n, B, Hd, Wt, Fx, g⟩ := c
  exact Eq.trans h (Eq.symm h')
theorem o_drop {c d : Co_} {x r r' : Int32} (hc : cok_ c) (e : c = d) (h : q_drop c x r) (h' : q_drop d x r') : r = r' := by
  subst e
  obtain ⟨n, B, Hd, Wt, Fx, g⟩ := c
  exact Eq.trans h (Eq.symm h')
theorem o_fix {c d : Co_} {x r r' : Int32} (hc : cok_ c) (e : c = d) (h : q_fix c x r) (h' : q_fix d x r') : r = r' := by
  subst e
  obtain ⟨n, B, Hd, Wt, Fx, g⟩ := c
  exact Eq.trans h (Eq.symm h')
theorem o_weight {c d : Co_} {x y r r' : Int32} (hc : cok_ c) (e : c = d) (h : q_weight c x y r) (h' : q_weight d x y r') : r = r' := by
  subst e
  obtain ⟨n, B, Hd, Wt, Fx, g⟩ := c
  exact Eq.trans h (Eq.symm h')
theorem o_goal {c d : Co_} {x r r' : Int32} (hc : cok_ c) (e : c = d) (h : q_goal c x r) (h' : q_goal d x r') : r = r' := by
  subst e
  obtain ⟨n, B, Hd, Wt, Fx, g⟩ := c
  exact Eq.trans h (Eq.symm h')
theorem o_follow {c d : Co_} {x r r' : Int32} (hc : cok_ c) (e : c = d) (h : q_follow c x r) (h' : q_follow d x r') : r = r' := by
  subst e
  obtain ⟨n, B, Hd, Wt, Fx, g⟩ := c
  exact Eq.trans h (Eq.symm h')
theorem o_steps {c d : Co_} {x r r' : Int32} (hc : cok_ c) (e : c = d) (h : q_steps c x r) (h' : q_steps d x r') : r = r' := by
  subst e
  obtain ⟨n, B, Hd, Wt, Fx, g⟩ := c
  exact st_one h h'
theorem o_causes {c d : Co_} {r r' : Int32} (hc : cok_ c) (e : c = d) (h : q_causes c  r) (h' : q_causes d  r') : r = r' := by
  subst e
  obtain ⟨n, B, Hd, Wt, Fx, g⟩ := c
  exact Eq.trans h (Eq.symm h')
theorem o_cures {c d : Co_} {r r' : Int32} (hc : cok_ c) (e : c = d) (h : q_cures c  r) (h' : q_cures d  r') : r = r' := by
  subst e
  obtain ⟨n, B, Hd, Wt, Fx, g⟩ := c
  exact Eq.trans h (Eq.symm h')
theorem o_cause {c d : Co_} {x r r' : Int32} (hc : cok_ c) (e : c = d) (h : q_cause c x r) (h' : q_cause d x r') : r = r' := by
  subst e
  obtain ⟨n, B, Hd, Wt, Fx, g⟩ := c
  exact at_one (Nat.lt_of_le_of_lt (CL_len hc.1 _ _ _) (by decide)) (fun _ _ => rfl) h h'
theorem o_cure {c d : Co_} {x r r' : Int32} (hc : cok_ c) (e : c = d) (h : q_cure c x r) (h' : q_cure d x r') : r = r' := by
  subst e
  obtain ⟨n, B, Hd, Wt, Fx, g⟩ := c
  exact at_one (Nat.lt_of_le_of_lt (QL_len hc.1 _ _ _ _) (by decide)) (fun _ _ => rfl) h h'
theorem o_lightest {c d : Co_} {r r' : Int32} (hc : cok_ c) (e : c = d) (h : q_lightest c  r) (h' : q_lightest d  r') : r = r' := by
  subst e
  obtain ⟨n, B, Hd, Wt, Fx, g⟩ := c
  exact Eq.trans h (Eq.symm h')
theorem o_times {c d : Co_} {x y r r' : Int32} (hc : cok_ c) (e : c = d) (h : q_times c x y r) (h' : q_times d x y r') : r = r' := by
  subst e
  obtain ⟨n, B, Hd, Wt, Fx, g⟩ := c
  exact Eq.trans h (Eq.symm h')
theorem o_within {c d : Co_} {x r r' : Int32} (hc : cok_ c) (e : c = d) (h : q_within c x r) (h' : q_within d x r') : r = r' := by
  subst e
  obtain ⟨n, B, Hd, Wt, Fx, g⟩ := c
  exact fi_one (fun _ _ => rfl) h h'
theorem o_common {c d : Co_} {r r' : Int32} (hc : cok_ c) (e : c = d) (h : q_common c  r) (h' : q_common d  r') : r = r' := by
  subst e
  obtain ⟨n, B, Hd, Wt, Fx, g⟩ := c
  exact Eq.trans h (Eq.symm h')
theorem o_axioms {c d : Co_} {r r' : Int32} (hc : cok_ c) (e : c = d) (h : q_axioms c  r) (h' : q_axioms d  r') : r = r' := by
  subst e
  obtain ⟨n, B, Hd, Wt, Fx, g⟩ := c
  exact Eq.trans h (Eq.symm h')
set_option maxHeartbeats 1000000 in
theorem k_X4_fact (l : Launch) (D : va_G) (cI cZ cJ : ClassId) (t1 t2 sz : Nat) (q : Nat → Nat) (u : Co_ × Jm_) (hc : cok_ u.1) (hi : im_ u.1 u.2) (x : Int32) : Met l yX4_fact wsX4_fact ({ frames := 1, cells := 0, slots := 0, locals := 26 } : Room) (va_Pc [.ref (q 15), .int x] (wr_ D [(cI, .int), (cZ, .boolean), (cJ, .long)] (mw_ cI cZ q u) t1 t2 sz)) (va_Qi (S := Co_ × Jm_) (fun r z => z.1 = u.1 ∧ qf_ (fl_ u.1.1 u.1.2.1 u.1.2.2.1) x z.2.2.2.2.2.2.2.2 r ∧ cok_ z.1 ∧ im_ z.1 z.2) (fun z => wd_ D [(cI, .int), (cZ, .boolean), (cJ, .long)] (va_A (mw_ cI cZ q u) sz) (mw_ cI cZ q z)) (va_A (mw_ cI cZ q u) sz)) 0 0 (va_A (mw_ cI cZ q u) sz) := by
  obtain ⟨⟨n, Bd, Hd, Wt, Fx, g⟩, kn, Gv, z1, S1, z2, S2, sp, th⟩ := u
  exact c_X4_fact l D cI cZ cJ t1 t2 sz (q 15) (q 16) (q 17) (q 18) (q 19) (q 20) (q 21) (q 22) n Bd Hd Wt Fx g kn Gv z1 S1 z2 S2 sp th hc hi x
