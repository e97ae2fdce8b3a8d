/-! ===== fact(i): the facts of all axioms, in order ===== -/
abbrev fl_ (n : Nat) (B Hd : Nat → Int32) : List Nat := on_ (bt (cf_ n B Hd (-1) n)) 0 32
def qf_ (L : List Nat) (x k r : Int32) : Prop := (k = 0 ∧ ∃ j, j < L.length ∧ x = nI j ∧ r = ln_ L j) ∨ (k = 1 ∧ ∀ j, j < L.length → x ≠ nI j)
theorem qf_one {L : List Nat} {x k r k' r' : Int32} (hL : L.length ≤ 32) (h : qf_ L x k r) (h' : qf_ L x k' r') : k' = k ∧ (k = 0 → r' = r) := by
  rcases h with ⟨h1, j, hj, e, er⟩ | ⟨h1, h2⟩
  · rcases h' with ⟨h1', j', hj', e', er'⟩ | ⟨h1', h2'⟩
    · have : j = j' := (nI_eq (by omega) (by omega)).mp (e.symm.trans e')
      subst this
      exact ⟨h1'.trans h1.symm, fun _ => er'.trans er.symm⟩
    · exact absurd e (h2' j hj)
  · rcases h' with ⟨h1', j', hj', e', er'⟩ | ⟨h1', h2'⟩
    · exact absurd e' (h2 j' hj')
    · exact ⟨h1'.trans h1.symm, fun q => by rw [h1] at q; exact absurd q (by decide)⟩
theorem fl_24 {F : Int32} (h : uI_ F < 16777216) : on_ (bt F) 0 32 = on_ (bt F) 0 24 := by
  rw [show (32 : Nat) = 24 + 8 from rfl, on_app, on_nil 8 (0 + 24) (fun j h1 _ => ?_), List.append_nil]
  rw [uI_bt]
  exact Nat.testBit_lt_two_pow (Nat.lt_of_lt_of_le h (show 16777216 ≤ 2 ^ j from Nat.pow_le_pow_right (n := 2) (i := 24) (j := j) (by omega) (by omega)))
theorem fl_get {F : Int32} {f : Nat} (hf : f < 24) (hb : bt F f = true) : (on_ (bt F) 0 f).length < (on_ (bt F) 0 32).length ∧ ln_ (on_ (bt F) 0 32) (on_ (bt F) 0 f).length = nI f := by
  have e : on_ (bt F) 0 32 = on_ (bt F) 0 f ++ f :: on_ (bt F) (f + 1) (31 - f) := by
    rw [show (32 : Nat) = f + ((31 - f) + 1) by omega, on_app, Nat.zero_add]
    show _ ++ (if bt F f = true then _ else _) = _
    rw [if_pos hb]
  refine ⟨by rw [e, List.length_append, List.length_cons]; omega, ?_⟩
  unfold ln_
  rw [e, List.getD_eq_getElem?_getD, List.getElem?_append_right (Nat.le_refl _), Nat.sub_self]
  rfl
theorem fl_succ (F : Int32) (f : Nat) : (on_ (bt F) 0 (f + 1)).length = (on_ (bt F) 0 f).length + (if bt F f = true then 1 else 0) := by
  rw [on_succ, List.length_append, Nat.zero_add]
  split <;> rfl
theorem fc_dec {m c0 : Nat} (h : c0 < m) : nI (m - c0) + Int32.ofInt (-1) = nI (m - (c0 + 1)) := by
  have e : m - c0 = (m - (c0 + 1)) + 1 := by omega
  rw [e]
  exact pk_m1 _
theorem qf_no {F : Int32} (hF : uI_ F < 16777216) {m : Nat} (hm : m < 2147483648) (h : (on_ (bt F) 0 24).length ≤ m) : qf_ (on_ (bt F) 0 32) (nI m) 1 0 := by
  refine Or.inr ⟨rfl, fun j hj e => ?_⟩
  rw [fl_24 hF] at hj
  have := (nI_eq (a := m) (b := j) (by omega) (by omega)).mp e
  omega
theorem qf_neg {L : List Nat} (hL : L.length ≤ 32) {x r : Int32} (h : x < 0) : qf_ L x 1 r := Or.inr ⟨rfl, fun j hj e => nI_pos (n := j) (by omega) (e ▸ h)⟩
theorem qf_big {L : List Nat} (hL : L.length ≤ 32) {x r : Int32} (h : ¬ x < nI L.length) : qf_ L x 1 r := Or.inr ⟨rfl, fun j hj e => h (e ▸ nI_lt hj (by omega))⟩
theorem qf_drop {F : Int32} {m p : Nat} {t : List Nat} (h : (on_ (bt F) 0 32).drop m = p :: t) : m < (on_ (bt F) 0 32).length ∧ ln_ (on_ (bt F) 0 32) m = nI p := by
  have hl : m < (on_ (bt F) 0 32).length := by
    refine Classical.byContradiction fun q => ?_
    rw [List.drop_of_length_le (by omega)] at h
    cases h
  rw [List.drop_eq_getElem_cons hl] at h
  injection h with h1 h2
  refine ⟨hl, ?_⟩
  unfold ln_
  rw [List.getD_eq_getElem?_getD, List.getElem?_eq_getElem hl, h1]
  rfl
