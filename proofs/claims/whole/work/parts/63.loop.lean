/-! THE CLAIM OUT OF ONE WALK OF THE LAW'S BODY. Your part is whole_start (and what it stands on); all else here is the same for every law, but numbers. -/
def R_law : String := "LeastSetsLaw"
def lw_P (b : Addr) (xs : List Int32) (args : Array Value) (s : State) : Prop := args = #[.ref b] ∧ s.IntsAt b xs ∧ xs.length ≤ 1536 ∧ (Jvm.Cond.and given_1 narrow_1).before args s = true
def lw_Q (_ : Array Value) (s : State) (o : Outcome) (t : State) : Prop := o = .returned (some (.int 1)) ∧ Framed s o t [] 1049 40143
def lw_Z (below : List Frame) (a : Array Value) (s : State) : State → Prop := fun t => ∃ o, t.status = .running ∧ Ended t below o ∧ lw_Q a s o t
/-- the law's own end, with 1 on the stack, nothing written that was there before, its room as the claim has it -/
theorem lw_ret {p : Program} {l : Launch} {e : Env} {s : State} {m : MethodId} {below : List Frame} {meth : Method} {c : Code} {b : Nat} (hx : p.tables.exec = Jvm.exec) (hb : c.code = code) (hr : meth.sig.returnType = ret) (hlocks : meth.locks = false) {pc : Nat} {H : Heap} {ls : Array Slot} (hdg : decode code pc = .ok (.ireturn, 1)) : W p l e room_1 s m #[Value.ref b] below meth c H [] 1049 40143 (lw_Z below #[Value.ref b] s) (F0 m pc ls [.int 1]) := by
  intro T hT X
  obtain ⟨fs, hret, hrun, hended, hW, hframe⟩ := X.leave (v := some (.int 1)) (hlocks := hlocks) (fun h => by rw [hr] at h; cases h)
  have hmeth' : T.vm.method? m = some meth := X.method'
  refine ⟨T.setFrames fs, ?_, .returned (some (.int 1)), hrun, hended, rfl, ⟨_, rfl⟩, hW, hframe⟩
  jvm_step X.here [X.here.top, hx, hb, hdg, hmeth', hr, ret, narrow_b1]
  (try refine ⟨rfl, ?_⟩); (try refine ⟨rfl, ?_⟩)
  first | (intro acts; rw [hret _ acts rfl rfl rfl]) | rw [hret _ _ rfl rfl rfl]
  exact Steps.refl _
/-- what holds at the law's entry: the machine, the code, the tables' words (any of lw_tbl by 'hts w (by decide +kernel)'), the script of L ints xs at the cell b, what the Statement gives of the start (any of its parts by flat_of_before) -/
def lw_At (p : Program) (s : State) (m : MethodId) (meth : Method) (c : Code) (b L : Nat) (xs : Nat → Int32) : Prop :=
  p.tables.exec = Jvm.exec ∧ c.code = code ∧ meth.sig.returnType = ret ∧ c.maxLocals = 7 ∧ s.vm.findClass R_law = some m.cls ∧ (∀ w ∈ lw_tbl, w.before #[Value.ref b] s = true) ∧ va_X b L xs s s.heap ∧ b < s.heap.size ∧ meth.locks = false ∧ (Jvm.Cond.and given_1 narrow_1).before #[Value.ref b] s = true
theorem law_gt {L i : Nat} (hL : L ≤ 1536) (hi : i ≤ 1536) : nI L - 3 < nI i ↔ L < i + 3 := by
  have e1 : (nI L).toInt = (L : Int) := Int32.toInt_ofNat_small (by omega)
  have e2 : (nI i).toInt = (i : Int) := Int32.toInt_ofNat_small (by omega)
  have e3 : (nI L - 3).toInt = (L : Int) - 3 := by
    rw [Int32.toInt_sub, e1, show (3 : Int32).toInt = 3 by decide]
    exact Int.bmod_eq_of_le (by omega) (by omega)
  rw [Int32.lt_iff_toInt_lt, e2, e3]
  omega
theorem nI_3 (i : Nat) : nI i + Int32.ofInt 3 = nI (i + 3) := by
  rw [show nI (i + 3) = nI i + nI 3 from Int32.ofNat_add i 3]
  rfl
theorem and_31 (x : Int32) : ∃ k, k < 32 ∧ x &&& 31 = nI k := by
  refine ⟨uI_ (x &&& 31), ?_, (nI_uI _).symm⟩
  unfold uI_
  rw [Int32.toBitVec_and, BitVec.toNat_and]
  exact Nat.lt_of_le_of_lt Nat.and_le_right (by decide)
set_option maxHeartbeats 4000000 in
set_option maxRecDepth 100000 in
theorem law_loop {p : Program} {l : Launch} {e : Env} {s : State} {m : MethodId} {below : List Frame} {meth : Method} {c : Code} {D : va_G} {cI cZ cJ : ClassId} {t1 t2 b L : Nat} {xs : Nat → Int32} {q : Nat → Nat} {A : Nat → Prop}  (C : LC_ p s m meth c b L xs D cI cZ cJ t1 t2 A) (hL : L ≤ 1536) (hr : meth.sig.returnType = ret) (hlocks : meth.locks = false) (hA2 : ∀ q, A q → s.heap.size ≤ q) (hf : l.flags = pinnedFlags ++ [noTraceFlag]) {sa : Nat} (hT : TH_ A sa s) (htl : ∀ w ∈ lw_tbl, w.before #[Value.ref b] s = true) :
    ∀ (d i : Nat) (u : Co_ × Jk_) (v : Co_ × Jm_) (f : Nat → Int64) (H : Heap) (locs : List Loc) (ls : Array Slot) (cells slots : Nat), L < i + d → i ≤ L → 3 * cells ≤ 72 + i → slots ≤ 31945 + 2 * i → lv_has ls 7 [(4, .int (nI i)), (0, .ref b), (1, .ref (q 0)), (2, .ref (q 15)), (3, .ref (q 23))] → LI_ s D cI cZ cJ q A u v f H locs → W p l e room_1 s m #[Value.ref b] below meth c H locs cells slots (lw_Z below #[Value.ref b] s) (F0 m 23 ls []) := by
  intro d
  induction d with
  | zero => intro i u v f H locs ls cells slots h1 h2; omega
  | succ d ih =>
    intro i u v f H locs ls cells slots h1 h2 h3 h4 hl I
    obtain ⟨hx, hb, hml, hown, hts, hX, hbl, hbA, hK, hE, hA⟩ := id C
    obtain ⟨he, hc, hi, hj, hP, hD, hS⟩ := id I
    refine lv_iload hx hb dL_law_23 (lv_at hl 0 rfl) ?_
    refine lv_aload_n hx hb dL_law_25 rfl (lv_at hl 1 rfl) ?_
    refine va_slen hx hb hX hbl hbA hS dL_law_26 ?_
    refine lv_iconst (v := 3) hx hb dL_law_27 (by decide +kernel) ?_
    refine lv_isub hx hb dL_law_28 ?_
    refine lv_icmp_gt (tgt := 586) hx hb dL_law_29 (by decide) (fun c_29 => ?_) (fun c_29 => ?_)
    · refine va_forget (fun z h => hA2 z.base (hS.2.2 z h)) ?_
      refine W.widen (k := 1049) (n := 40143) (by omega) (by omega) ?_
      refine lv_iconst (v := 1) hx hb dL_law_586 (by decide +kernel) ?_
      exact lw_ret hx hb hr hlocks dL_law_587
    · have hi2 : i + 2 < L := by
        have := mt (law_gt hL (by omega)).mpr c_29
        omega
      have back : ∀ (u : Co_ × Jk_) (v : Co_ × Jm_) (f : Nat → Int64) (H : Heap) (locs : List Loc) (ls : Array Slot) (cells slots : Nat), 3 * cells ≤ 75 + i → slots ≤ 31951 + 2 * i → lv_has ls 7 [(4, .int (nI i)), (0, .ref b), (1, .ref (q 0)), (2, .ref (q 15)), (3, .ref (q 23))] → LI_ s D cI cZ cJ q A u v f H locs → W p l e room_1 s m #[Value.ref b] below meth c H locs cells slots (lw_Z below #[Value.ref b] s) (F0 m 580 ls []) := by
        intro u v f H locs ls cells slots g3 g4 hl I
        refine lv_iinc (v := nI (i + 3)) (lv' := [(4, .int (nI (i + 3))), (0, .ref b), (1, .ref (q 0)), (2, .ref (q 15)), (3, .ref (q 23))]) hx hb dL_law_580 hl (k := 0) rfl (nI_3 i) (by decide) rfl (fun ls hl => ?_)
        refine lv_goto (tgt := 23) hx hb dL_law_583 (by decide) ?_
        exact ih (i + 3) u v f H locs ls cells slots (by omega) (by omega) (by omega) (by omega) hl I
      have kk : ∀ (u : Co_ × Jk_) (v : Co_ × Jm_) (H : Heap) (locs : List Loc), LI_ s D cI cZ cJ q A u v f H locs → W p l e room_1 s m #[Value.ref b] below meth c H locs cells slots (lw_Z below #[Value.ref b] s) (F0 m 580 ls []) := fun u v H locs I => back u v f H locs ls cells slots (by omega) (by omega) hl I
      have hR1 : cells + 0 ≤ 1049 := by omega
      have hR2 : slots + 0 ≤ 40143 := by omega
      refine lv_aload_n hx hb dL_law_32 rfl (lv_at hl 1 rfl) ?_
      refine lv_iload hx hb dL_law_33 (lv_at hl 0 rfl) ?_
      refine r_sld hx hb hX hbl hbA hS i (by omega) hL dL_law_35 ?_
      refine lv_bipush (v := 31) hx hb dL_law_36 (by decide +kernel) ?_
      refine lv_iand hx hb dL_law_38 ?_
      obtain ⟨k, hk, ek⟩ := and_31 (xs i)
      rw [ek]
      match k, hk with
      | 0, _ => exact lv_tableIn (off := 81) (tgt := 120) hx hb dL_law_39 (by decide +kernel) (by decide +kernel) (by decide +kernel) (by decide) (ca_axiom C hi2 hL hl I hR1 hR2 kk)
      | 1, _ => exact lv_tableIn (off := 118) (tgt := 157) hx hb dL_law_39 (by decide +kernel) (by decide +kernel) (by decide +kernel) (by decide) (ca_drop C hi2 hL hl I hR1 hR2 kk)
      | 2, _ => exact lv_tableIn (off := 143) (tgt := 182) hx hb dL_law_39 (by decide +kernel) (by decide +kernel) (by decide +kernel) (by decide) (ca_fix C hi2 hL hl I hR1 hR2 kk)
      | 3, _ => exact lv_tableIn (off := 196) (tgt := 235) hx hb dL_law_39 (by decide +kernel) (by decide +kernel) (by decide +kernel) (by decide) (ca_weight C hi2 hL hl I hR1 hR2 kk)
      | 4, _ => exact lv_tableIn (off := 233) (tgt := 272) hx hb dL_law_39 (by decide +kernel) (by decide +kernel) (by decide +kernel) (by decide) (ca_goal C hi2 hL hl I hR1 hR2 kk)
      | 5, _ => exact lv_tableIn (off := 258) (tgt := 297) hx hb dL_law_39 (by decide +kernel) (by decide +kernel) (by decide +kernel) (by decide) (ca_follow C hi2 hL hl I hR1 hR2 kk)
      | 6, _ => exact lv_tableIn (off := 283) (tgt := 322) hx hb dL_law_39 (by decide +kernel) (by decide +kernel) (by decide +kernel) (by decide) (ca_steps C hi2 hL hl I hR1 hR2 kk)
      | 7, _ => exact lv_tableIn (off := 308) (tgt := 347) hx hb dL_law_39 (by decide +kernel) (by decide +kernel) (by decide +kernel) (by decide) (ca_causes C hi2 hL hl I hR1 hR2 kk)
      | 8, _ => exact lv_tableIn (off := 321) (tgt := 360) hx hb dL_law_39 (by decide +kernel) (by decide +kernel) (by decide +kernel) (by decide) (ca_cures C hi2 hL hl I hR1 hR2 kk)
      | 9, _ => exact lv_tableIn (off := 334) (tgt := 373) hx hb dL_law_39 (by decide +kernel) (by decide +kernel) (by decide +kernel) (by decide) (ca_cause C hi2 hL hl I hR1 hR2 kk)
      | 10, _ => exact lv_tableIn (off := 359) (tgt := 398) hx hb dL_law_39 (by decide +kernel) (by decide +kernel) (by decide +kernel) (by decide) (ca_cure C hi2 hL hl I hR1 hR2 kk)
      | 11, _ => exact lv_tableIn (off := 384) (tgt := 423) hx hb dL_law_39 (by decide +kernel) (by decide +kernel) (by decide +kernel) (by decide) (ca_lightest C hi2 hL hl I hR1 hR2 kk)
      | 12, _ => exact lv_tableIn (off := 397) (tgt := 436) hx hb dL_law_39 (by decide +kernel) (by decide +kernel) (by decide +kernel) (by decide) (ca_times C hi2 hL hl I hR1 hR2 kk)
      | 13, _ => exact lv_tableIn (off := 434) (tgt := 473) hx hb dL_law_39 (by decide +kernel) (by decide +kernel) (by decide +kernel) (by decide) (ca_within C hi2 hL hl I hR1 hR2 kk)
      | 14, _ => exact lv_tableIn (off := 459) (tgt := 498) hx hb dL_law_39 (by decide +kernel) (by decide +kernel) (by decide +kernel) (by decide) (ca_common C hi2 hL hl I hR1 hR2 kk)
      | 15, _ => exact lv_tableIn (off := 472) (tgt := 511) hx hb dL_law_39 (by decide +kernel) (by decide +kernel) (by decide +kernel) (by decide) (ca_axioms C hi2 hL hl I hR1 hR2 kk)
      | 16, _ => exact lv_tableIn (off := 485) (tgt := 524) hx hb dL_law_39 (by decide +kernel) (by decide +kernel) (by decide +kernel) (by decide) (ca_fact C hi2 hL hl I (by omega) (by omega) hf hT htl (fun u v f H locs ls hl I => back u v f H locs ls (cells + 1) (slots + 6) (by omega) (by omega) hl I))
      | k + 17, hk => exact lv_tableOut (tgt := 580) hx hb dL_law_39 (Or.inr (by rw [show (nI (k + 17)).toInt = ((k + 17 : Nat) : Int) from Int32.toInt_ofNat_small (by omega)]; omega)) (by decide) (kk u v H locs I)
