/-! ===== rows of our own: numbers by Nat ===== -/
theorem nI_inc (a : Nat) : nI a + Int32.ofInt 1 = nI (a + 1) := nI_1 a
section RW
variable {p : Program} {l : Launch} {e : Env} {R : Room} {s : State} {m : MethodId} {args : Array Value} {below : List Frame} {meth : Method} {c : Code} {H : Heap} {locs : List Loc} {cells slots : Nat} {Q : State → Prop}
variable {cc : ByteArray} {pc : Nat} {ls : Array Slot} {rest : List Value} {D : va_G} {cl : List vw_C} {A : Nat → Prop} {q : Nat} {tys : List (ClassId × FieldType)} {ws : va_W} {H0 : Heap}
theorem r_iald (hexec : p.tables.exec = Jvm.exec) (hb : c.code = cc) (hK : va_K D cl tys s) (hP : va_P D cl ws H) (q0 t0 : Nat) {cA : ClassId} {n : Nat} {f : Nat → Int32} (ha : ws[q0]? = some (q, .inl (cA, n, .inl f))) (ht : tys[t0]? = some (cA, .int)) (k : Nat) (hk : k < n) (hn : n < 2 ^ 31) (hdg : decode cc pc = .ok (.iaload, 1))
    (kk : W p l e R s m args below meth c H locs cells slots Q (F0 m (pc + 1) ls (.int (f k) :: rest))) : W p l e R s m args below meth c H locs cells slots Q (F0 m pc ls (.int (nI k) :: .ref q :: rest)) :=
  va_iald hexec hb hK hP q0 t0 ha ht (vp_in_nI hk hn) hdg (by rw [nI_clamp (by omega)]; exact kk)
theorem r_zald (hexec : p.tables.exec = Jvm.exec) (hb : c.code = cc) (hK : va_K D cl tys s) (hP : va_P D cl ws H) (q0 t0 : Nat) {cA : ClassId} {n : Nat} {f : Nat → Int32} (ha : ws[q0]? = some (q, .inl (cA, n, .inl f))) (ht : tys[t0]? = some (cA, .boolean)) (k : Nat) (hk : k < n) (hn : n < 2 ^ 31) (hdg : decode cc pc = .ok (.baload, 1))
    (kk : W p l e R s m args below meth c H locs cells slots Q (F0 m (pc + 1) ls (.int (f k) :: rest))) : W p l e R s m args below meth c H locs cells slots Q (F0 m pc ls (.int (nI k) :: .ref q :: rest)) :=
  va_zald hexec hb hK hP q0 t0 ha ht (vp_in_nI hk hn) hdg (by rw [nI_clamp (by omega)]; exact kk)
theorem r_lald (hexec : p.tables.exec = Jvm.exec) (hb : c.code = cc) (hK : va_K D cl tys s) (hP : va_P D cl ws H) (q0 t0 : Nat) {cA : ClassId} {n : Nat} {f : Nat → Int64} (ha : ws[q0]? = some (q, .inl (cA, n, .inr (.inl f)))) (ht : tys[t0]? = some (cA, .long)) (k : Nat) (hk : k < n) (hn : n < 2 ^ 31) (hdg : decode cc pc = .ok (.laload, 1))
    (kk : W p l e R s m args below meth c H locs cells slots Q (F0 m (pc + 1) ls (.long (f k) :: rest))) : W p l e R s m args below meth c H locs cells slots Q (F0 m pc ls (.int (nI k) :: .ref q :: rest)) :=
  va_lald hexec hb hK hP q0 t0 ha ht (vp_in_nI hk hn) hdg (by rw [nI_clamp (by omega)]; exact kk)
theorem r_iast (hexec : p.tables.exec = Jvm.exec) (hb : c.code = cc) (hK : va_K D cl tys s) (hP : va_P D cl ws H) (hD : va_D A ws) (hS : va_S A H0 H locs) (q0 t0 : Nat) {cA : ClassId} {n : Nat} {f : Nat → Int32} (ha : ws[q0]? = some (q, .inl (cA, n, .inl f))) (ht : tys[t0]? = some (cA, .int)) (k : Nat) {x : Int32} (hk : k < n) (hn : n < 2 ^ 31) (hdg : decode cc pc = .ok (.iastore, 1))
    (kk : ∀ (H1 : Heap) (locs1 : List Loc), va_P D cl (ws.set q0 (q, .inl (cA, n, .inl (upd f k x)))) H1 → va_D A (ws.set q0 (q, .inl (cA, n, .inl (upd f k x)))) → va_S A H0 H1 locs1 → W p l e R s m args below meth c H1 locs1 cells slots Q (F0 m (pc + 1) ls rest)) : W p l e R s m args below meth c H locs cells slots Q (F0 m pc ls (.int x :: .int (nI k) :: .ref q :: rest)) :=
  va_iast hexec hb hK hP hD hS q0 t0 ha ht (vp_in_nI hk hn) hdg (by rw [nI_clamp (by omega)]; exact kk)
theorem r_nar01 {x : Int32} (h : x = 0 ∨ x = 1) : vp_nar .boolean x = x := by
  rcases h with rfl | rfl <;> decide +kernel
theorem r_zast (hexec : p.tables.exec = Jvm.exec) (hb : c.code = cc) (hK : va_K D cl tys s) (hP : va_P D cl ws H) (hD : va_D A ws) (hS : va_S A H0 H locs) (q0 t0 : Nat) {cA : ClassId} {n : Nat} {f : Nat → Int32} (ha : ws[q0]? = some (q, .inl (cA, n, .inl f))) (ht : tys[t0]? = some (cA, .boolean)) (k : Nat) {x : Int32} (hx01 : x = 0 ∨ x = 1) (hk : k < n) (hn : n < 2 ^ 31) (hdg : decode cc pc = .ok (.bastore, 1))
    (kk : ∀ (H1 : Heap) (locs1 : List Loc), va_P D cl (ws.set q0 (q, .inl (cA, n, .inl (upd f k x)))) H1 → va_D A (ws.set q0 (q, .inl (cA, n, .inl (upd f k x)))) → va_S A H0 H1 locs1 → W p l e R s m args below meth c H1 locs1 cells slots Q (F0 m (pc + 1) ls rest)) : W p l e R s m args below meth c H locs cells slots Q (F0 m pc ls (.int x :: .int (nI k) :: .ref q :: rest)) :=
  va_zast hexec hb hK hP hD hS q0 t0 ha ht (vp_in_nI hk hn) hdg (by rw [nI_clamp (by omega), r_nar01 hx01]; exact kk)
theorem r_last (hexec : p.tables.exec = Jvm.exec) (hb : c.code = cc) (hK : va_K D cl tys s) (hP : va_P D cl ws H) (hD : va_D A ws) (hS : va_S A H0 H locs) (q0 t0 : Nat) {cA : ClassId} {n : Nat} {f : Nat → Int64} (ha : ws[q0]? = some (q, .inl (cA, n, .inr (.inl f)))) (ht : tys[t0]? = some (cA, .long)) (k : Nat) {x : Int64} (hk : k < n) (hn : n < 2 ^ 31) (hdg : decode cc pc = .ok (.lastore, 1))
    (kk : ∀ (H1 : Heap) (locs1 : List Loc), va_P D cl (ws.set q0 (q, .inl (cA, n, .inr (.inl (vp_updL f k x))))) H1 → va_D A (ws.set q0 (q, .inl (cA, n, .inr (.inl (vp_updL f k x))))) → va_S A H0 H1 locs1 → W p l e R s m args below meth c H1 locs1 cells slots Q (F0 m (pc + 1) ls rest)) : W p l e R s m args below meth c H locs cells slots Q (F0 m pc ls (.long x :: .int (nI k) :: .ref q :: rest)) :=
  va_last hexec hb hK hP hD hS q0 t0 ha ht (vp_in_nI hk hn) hdg (by rw [nI_clamp (by omega)]; exact kk)
theorem r_ige (hexec : p.tables.exec = Jvm.exec) (hb : c.code = cc) {a b : Nat} {off : Int} {tgt : Nat} (ha : a < 2 ^ 31) (hb2 : b < 2 ^ 31) (hdg : decode cc pc = .ok (.if_icmp .ge off, 3)) (ht : (pc : Int) + off = (tgt : Int))
    (kt : b ≤ a → W p l e R s m args below meth c H locs cells slots Q (F0 m tgt ls rest)) (kf : a < b → W p l e R s m args below meth c H locs cells slots Q (F0 m (pc + 3) ls rest)) : W p l e R s m args below meth c H locs cells slots Q (F0 m pc ls (.int (nI b) :: .int (nI a) :: rest)) :=
  lv_icmp_ge hexec hb hdg ht (fun h => kt ((nI_leI hb2 ha).mp h)) (fun h => kf (Nat.lt_of_not_le fun q => h ((nI_leI hb2 ha).mpr q)))
theorem r_igt (hexec : p.tables.exec = Jvm.exec) (hb : c.code = cc) {a b : Nat} {off : Int} {tgt : Nat} (ha : a < 2 ^ 31) (hb2 : b < 2 ^ 31) (hdg : decode cc pc = .ok (.if_icmp .gt off, 3)) (ht : (pc : Int) + off = (tgt : Int))
    (kt : b < a → W p l e R s m args below meth c H locs cells slots Q (F0 m tgt ls rest)) (kf : a ≤ b → W p l e R s m args below meth c H locs cells slots Q (F0 m (pc + 3) ls rest)) : W p l e R s m args below meth c H locs cells slots Q (F0 m pc ls (.int (nI b) :: .int (nI a) :: rest)) :=
  lv_icmp_gt hexec hb hdg ht (fun h => kt ((nI_ltI hb2 ha).mp h)) (fun h => kf (Nat.le_of_not_lt fun q => h ((nI_ltI hb2 ha).mpr q)))
theorem r_ilt (hexec : p.tables.exec = Jvm.exec) (hb : c.code = cc) {a b : Nat} {off : Int} {tgt : Nat} (ha : a < 2 ^ 31) (hb2 : b < 2 ^ 31) (hdg : decode cc pc = .ok (.if_icmp .lt off, 3)) (ht : (pc : Int) + off = (tgt : Int))
    (kt : a < b → W p l e R s m args below meth c H locs cells slots Q (F0 m tgt ls rest)) (kf : b ≤ a → W p l e R s m args below meth c H locs cells slots Q (F0 m (pc + 3) ls rest)) : W p l e R s m args below meth c H locs cells slots Q (F0 m pc ls (.int (nI b) :: .int (nI a) :: rest)) :=
  lv_icmp_lt hexec hb hdg ht (fun h => kt ((nI_ltI ha hb2).mp h)) (fun h => kf (Nat.le_of_not_lt fun q => h ((nI_ltI ha hb2).mpr q)))
theorem r_ile (hexec : p.tables.exec = Jvm.exec) (hb : c.code = cc) {a b : Nat} {off : Int} {tgt : Nat} (ha : a < 2 ^ 31) (hb2 : b < 2 ^ 31) (hdg : decode cc pc = .ok (.if_icmp .le off, 3)) (ht : (pc : Int) + off = (tgt : Int))
    (kt : a ≤ b → W p l e R s m args below meth c H locs cells slots Q (F0 m tgt ls rest)) (kf : b < a → W p l e R s m args below meth c H locs cells slots Q (F0 m (pc + 3) ls rest)) : W p l e R s m args below meth c H locs cells slots Q (F0 m pc ls (.int (nI b) :: .int (nI a) :: rest)) :=
  lv_icmp_le hexec hb hdg ht (fun h => kt ((nI_leI ha hb2).mp h)) (fun h => kf (Nat.lt_of_not_le fun q => h ((nI_leI ha hb2).mpr q)))
theorem r_iadd (hexec : p.tables.exec = Jvm.exec) (hb : c.code = cc) {a b : Nat} (hdg : decode cc pc = .ok (.iadd, 1)) (k : W p l e R s m args below meth c H locs cells slots Q (F0 m (pc + 1) ls (.int (nI (a + b)) :: rest))) : W p l e R s m args below meth c H locs cells slots Q (F0 m pc ls (.int (nI b) :: .int (nI a) :: rest)) :=
  lv_iadd hexec hb hdg (by rw [nI_add]; exact k)
theorem r_isub (hexec : p.tables.exec = Jvm.exec) (hb : c.code = cc) {a b : Nat} (h : b ≤ a) (hdg : decode cc pc = .ok (.isub, 1)) (k : W p l e R s m args below meth c H locs cells slots Q (F0 m (pc + 1) ls (.int (nI (a - b)) :: rest))) : W p l e R s m args below meth c H locs cells slots Q (F0 m pc ls (.int (nI b) :: .int (nI a) :: rest)) :=
  lv_isub hexec hb hdg (by rw [pk_sub h]; exact k)
theorem r_top {x y : Int32} (h : x = y) (k : W p l e R s m args below meth c H locs cells slots Q (F0 m pc ls (.int y :: rest))) : W p l e R s m args below meth c H locs cells slots Q (F0 m pc ls (.int x :: rest)) := h ▸ k
end RW
/-! ===== what stays as it is: nest links, the two tables ===== -/
def nl_ : List Cond := [.fieldLinkNest "LeastSets" 69 "LeastSets$Axioms" "weight" "[I" "LeastSets", .fieldLinkNest "LeastSets" 65 "LeastSets$Axioms" "fixed" "[Z" "LeastSets", .fieldLinkNest "LeastSets" 48 "LeastSets$Axioms" "count" "I" "LeastSets", .fieldLinkNest "LeastSets" 130 "LeastSets$Family" "members" "[J" "LeastSets", .fieldLinkNest "LeastSets" 85 "LeastSets$SetList" "size" "I" "LeastSets", .fieldLinkNest "LeastSets$Axioms" 54 "LeastSets" "PLACES_WITH" "[J" "LeastSets", .fieldLinkNest "LeastSets$Family" 40 "LeastSets" "PLACES_WITH" "[J" "LeastSets", .fieldLinkNest "LeastSets$Family" 33 "LeastSets" "PLACES_OF_SIZE" "[J" "LeastSets",
  .methodLinkNest "LeastSets" 11 yX0_init "LeastSets", .methodLinkNest "LeastSets" 18 yX1_init "LeastSets", .methodLinkNest "LeastSets" 25 yX2_init "LeastSets", .methodLinkNest "LeastSets$Axioms" 73 yX3_lowestPlace "LeastSets", .methodLinkNest "LeastSets$SetList" 25 yX3_lowestPlace "LeastSets"]
theorem nl_warm {s U : State} (hW : s.WarmedH U.vm) (h : ∀ w ∈ nl_, va_Nw w s) : ∀ w ∈ nl_, va_Nw w U := by
  simp only [nl_, List.forall_mem_cons, List.forall_mem_nil] at h ⊢
  obtain ⟨h1, h2, h3, h4, h5, h6, h7, h8, h9, h10, h11, h12, h13, -⟩ := h
  exact ⟨va_Nw.warmF hW h1, va_Nw.warmF hW h2, va_Nw.warmF hW h3, va_Nw.warmF hW h4, va_Nw.warmF hW h5, va_Nw.warmF hW h6, va_Nw.warmF hW h7, va_Nw.warmF hW h8, va_Nw.warmM hW h9, va_Nw.warmM hW h10, va_Nw.warmM hW h11, va_Nw.warmM hW h12, va_Nw.warmM hW h13, fun _ h => by cases h⟩
theorem nl_same {u U : State} (hv : u.vm = U.vm) (h : ∀ w ∈ nl_, va_Nw w u) : ∀ w ∈ nl_, va_Nw w U := by
  have ok : ∀ w ∈ nl_, w.onTables = true := by
    simp only [nl_, List.forall_mem_cons, List.forall_mem_nil]
    exact ⟨rfl, rfl, rfl, rfl, rfl, rfl, rfl, rfl, rfl, rfl, rfl, rfl, rfl, fun _ h => by cases h⟩
  exact fun w hw => va_Nw.same (ok w hw) hv (h w hw)
/-- the nest's links, the two tables at t1 and t2: nothing of them in A -/
def EN_ (t1 t2 : Nat) (A : Nat → Prop) (U : State) : Prop := (∀ w ∈ nl_, va_Nw w U) ∧ va_Z "LeastSets" "PLACES_WITH" "[J" (.ref t1) A U U.heap ∧ va_T .long t1 6 (fun k => .long (pw_ k)) A U U.heap ∧ va_Z "LeastSets" "PLACES_OF_SIZE" "[J" (.ref t2) A U U.heap ∧ va_T .long t2 7 (fun k => .long (ps_ k)) A U U.heap
theorem EN_.go {t1 t2 : Nat} {A B : Nat → Prop} {s U : State} {H : Heap} {locs : List Loc} (h : EN_ t1 t2 A s) (hS : va_S A s.heap H locs) (hAB : ∀ q, B q → A q) (hU : U.heap = H) (hW : s.WarmedH U.vm) : EN_ t1 t2 B U := by
  obtain ⟨h1, h2, h3, h4, h5⟩ := h
  have k : ∀ a : Nat, a < s.heap.size → ¬ A a → U.heap[a]? = s.heap[a]? := fun a ha hn => by rw [hU]; exact hS.2.1 a ha hn
  exact ⟨nl_warm hW h1, ((h2.kept k).moved hW.alike).narrow hAB, ((h3.kept k).moved hW.alike).narrow hAB, ((h4.kept k).moved hW.alike).narrow hAB, ((h5.kept k).moved hW.alike).narrow hAB⟩
theorem EN_.calling {t1 t2 : Nat} {A : Nat → Prop} {U : State} {a : Array Value} {g : JFrame} {mk : MethodId} (h : EN_ t1 t2 A U) : EN_ t1 t2 A (U.calling g mk a) := by
  obtain ⟨h1, h2, h3, h4, h5⟩ := h
  exact ⟨nl_same (u := U) (U := U.calling g mk a) rfl h1, va_Z.moved (u := U) (U := U.calling g mk a) (Vm.Alike.refl U.vm) h2, va_T.moved (u := U) (U := U.calling g mk a) (Vm.Alike.refl U.vm) h3, va_Z.moved (u := U) (U := U.calling g mk a) (Vm.Alike.refl U.vm) h4, va_T.moved (u := U) (U := U.calling g mk a) (Vm.Alike.refl U.vm) h5⟩
/-! ===== starts of contracts ===== -/
/-- a method that only reads the cells ws -/
def ro_ (D : va_G) (tys : List (ClassId × FieldType)) (ws : va_W) (U : State) : Prop := va_P D vwCl ws U.heap ∧ va_K D vwCl tys U
/-- .. and the tables -/
def re_ (D : va_G) (tys : List (ClassId × FieldType)) (ws : va_W) (t1 t2 : Nat) (U : State) : Prop := va_P D vwCl ws U.heap ∧ va_K D vwCl tys U ∧ EN_ t1 t2 (fun _ => False) U
/-- a method that writes the cells ws -/
def wr_ (D : va_G) (tys : List (ClassId × FieldType)) (ws : va_W) (t1 t2 sz : Nat) (U : State) : Prop := U.heap.size = sz ∧ va_P D vwCl ws U.heap ∧ va_K D vwCl tys U ∧ va_D (fun _ => True) ws ∧ EN_ t1 t2 (va_A ws sz) U
/-- its end: the cells are now as in ws -/
def wd_ (D : va_G) (tys : List (ClassId × FieldType)) (A : Nat → Prop) (ws : va_W) (t : State) : Prop := va_P D vwCl ws t.heap ∧ va_K D vwCl tys t ∧ va_D A ws
theorem no_blind {av : List Value} {B : Prop} : FrameBlind (va_Pc av (fun _ => B)) := fun _ _ _ _ q => q
theorem ro_blind {av : List Value} {D : va_G} {tys : List (ClassId × FieldType)} {ws : va_W} : FrameBlind (va_Pc av (ro_ D tys ws)) := fun a U g mk q => ⟨q.1, q.2.1, va_K.moved (u := U) (U := U.calling g mk a) (Vm.Alike.refl U.vm) q.2.2⟩
theorem re_blind {av : List Value} {D : va_G} {tys : List (ClassId × FieldType)} {ws : va_W} {t1 t2 : Nat} : FrameBlind (va_Pc av (re_ D tys ws t1 t2)) := fun a U g mk q => ⟨q.1, q.2.1, va_K.moved (u := U) (U := U.calling g mk a) (Vm.Alike.refl U.vm) q.2.2.1, q.2.2.2.calling⟩
theorem wr_blind {av : List Value} {D : va_G} {tys : List (ClassId × FieldType)} {ws : va_W} {t1 t2 sz : Nat} : FrameBlind (va_Pc av (wr_ D tys ws t1 t2 sz)) := fun a U g mk q => ⟨q.1, q.2.1, q.2.2.1, va_K.moved (u := U) (U := U.calling g mk a) (Vm.Alike.refl U.vm) q.2.2.2.1, q.2.2.2.2.1, q.2.2.2.2.2.calling⟩
theorem no_pre {s : State} {H : Heap} {av : List Value} {B : Prop} (h : B) : ∀ U : State, U.heap = H → s.WarmedH U.vm → va_Pc av (fun _ => B) av.toArray U := fun _ _ _ => ⟨rfl, h⟩
theorem ro_pre {s : State} {H : Heap} {av : List Value} {D : va_G} {tys tys0 : List (ClassId × FieldType)} {ws : va_W} (hP : va_P D vwCl ws H) (hK : va_K D vwCl tys0 s) (is : List Nat) (hs : is.filterMap (fun i => tys0[i]?) = tys) : ∀ U : State, U.heap = H → s.WarmedH U.vm → va_Pc av (ro_ D tys ws) av.toArray U := fun U hU hW => ⟨rfl, by rw [hU]; exact hP, va_K.moved hW.alike (hK.sub is hs)⟩
theorem re_pre {s : State} {H : Heap} {locs : List Loc} {A : Nat → Prop} {av : List Value} {D : va_G} {tys tys0 : List (ClassId × FieldType)} {ws : va_W} {t1 t2 : Nat} (hP : va_P D vwCl ws H) (hK : va_K D vwCl tys0 s) (hE : EN_ t1 t2 A s) (hS : va_S A s.heap H locs) (is : List Nat) (hs : is.filterMap (fun i => tys0[i]?) = tys) : ∀ U : State, U.heap = H → s.WarmedH U.vm → va_Pc av (re_ D tys ws t1 t2) av.toArray U := fun U hU hW => ⟨rfl, by rw [hU]; exact hP, va_K.moved hW.alike (hK.sub is hs), hE.go hS (fun _ h => h.elim) hU hW⟩
theorem wr_pre {s : State} {H : Heap} {locs : List Loc} {A : Nat → Prop} {av : List Value} {D : va_G} {tys tys0 : List (ClassId × FieldType)} {ws : va_W} {t1 t2 : Nat} (hP : va_P D vwCl ws H) (hD : va_D A ws) (hK : va_K D vwCl tys0 s) (hE : EN_ t1 t2 A s) (hS : va_S A s.heap H locs) (hF : ∀ q, va_A ws H.size q → A q) (is : List Nat) (hs : is.filterMap (fun i => tys0[i]?) = tys) : ∀ U : State, U.heap = H → s.WarmedH U.vm → va_Pc av (wr_ D tys ws t1 t2 H.size) av.toArray U := fun U hU hW => ⟨rfl, by rw [hU], by rw [hU]; exact hP, va_K.moved hW.alike (hK.sub is hs), hD.weaken (fun _ _ _ _ => trivial), hE.go hS hF hU hW⟩
