/-! ===== lists of sets, held in an array ===== -/
def sx_ (Sx : Nat → Int32) (L : List Nat) : Prop := ∀ (j : Nat) (h : j < L.length), Sx j = nI L[j]
theorem sx_0 (Sx : Nat → Int32) : sx_ Sx [] := fun j h => absurd h (Nat.not_lt_zero j)
theorem sx_push {Sx : Nat → Int32} {L : List Nat} (h : sx_ Sx L) (x : Nat) : sx_ (upd Sx L.length (nI x)) (L ++ [x]) := by
  intro j hj
  rw [List.length_append, List.length_singleton] at hj
  by_cases e : j = L.length
  · subst e
    rw [pk_us, List.getElem_append_right (Nat.le_refl _)]
    simp
  · rw [pk_un e, List.getElem_append_left (by omega)]
    exact h j (by omega)
/-- which axioms of small numbers stand in how many -/
def hm_ (Sx : Nat → Int32) (x : Int32) : Nat → Int32
  | 0 => 0
  | k + 1 => hm_ Sx x k + ((Sx k >>> (x &&& 31)) &&& 1)
def sa_ (Sx : Nat → Int32) : Nat → Int32
  | 0 => -1
  | k + 1 => sa_ Sx k &&& Sx k
def at_is (Sx : Nat → Int32) (z : Nat) (x r : Int32) : Prop := (∃ j, j < z ∧ x = nI j ∧ r = Sx j) ∨ (r = -2 ∧ ∀ j, j < z → x ≠ nI j)
theorem at_neg {Sx : Nat → Int32} {z : Nat} {x : Int32} (hz : z < 2147483648) (h : x < 0) : at_is Sx z x (-2) := Or.inr ⟨rfl, fun j hj e => nI_pos (n := j) (by omega) (e ▸ h)⟩
theorem at_big {Sx : Nat → Int32} {z : Nat} {x : Int32} (hz : z < 2147483648) (h : nI z ≤ x) : at_is Sx z x (-2) := Or.inr ⟨rfl, fun j hj e => nI_ge (a := j) (b := z) hj hz (e ▸ h)⟩
theorem at_get {z : Nat} {x : Int32} (hz : z < 2147483648) (h1 : ¬ x < 0) (h2 : ¬ nI z ≤ x) : ∃ j, j < z ∧ x = nI j := by
  obtain ⟨j, hj, e, -⟩ := pk_mu h1 h2 hz
  exact ⟨j, hj, e⟩
theorem at_one {Sx Sy : Nat → Int32} {z : Nat} {x r r' : Int32} (hz : z < 2147483648) (hS : ∀ j, j < z → Sx j = Sy j) (h : at_is Sx z x r) (h' : at_is Sy z x r') : r = r' := by
  rcases h with ⟨j, hj, e, er⟩ | ⟨er, h⟩
  · rcases h' with ⟨j', hj', e', er'⟩ | ⟨er', h'⟩
    · have : j = j' := (nI_eq (by omega) (by omega)).mp (e.symm.trans e')
      subst this
      rw [er, er', hS j hj]
    · exact absurd e (h' j hj)
  · rcases h' with ⟨j', hj', e', er'⟩ | ⟨er', h'⟩
    · exact absurd e' (h j' hj')
    · rw [er, er']
def fi_is (Sx : Nat → Int32) (z : Nat) (x r : Int32) : Prop := (∃ k, k < z ∧ r = Sx k ∧ Sx k &&& (x ^^^ (-1)) = 0 ∧ ∀ j, j < k → ¬ Sx j &&& (x ^^^ (-1)) = 0) ∨ (r = -2 ∧ ∀ j, j < z → ¬ Sx j &&& (x ^^^ (-1)) = 0)
theorem fi_one {Sx Sy : Nat → Int32} {z : Nat} {x r r' : Int32} (hS : ∀ j, j < z → Sx j = Sy j) (h : fi_is Sx z x r) (h' : fi_is Sy z x r') : r = r' := by
  rcases h with ⟨k, hk, er, h1, h2⟩ | ⟨er, h⟩
  · rcases h' with ⟨k', hk', er', h1', h2'⟩ | ⟨er', h'⟩
    · rcases Nat.lt_trichotomy k k' with q | q | q
      · exact absurd (hS k hk ▸ h1) (h2' k q)
      · subst q
        rw [er, er', hS k hk]
      · exact absurd ((hS k' hk').symm ▸ h1') (h2 k' q)
    · exact absurd (hS k hk ▸ h1) (h' k hk)
  · rcases h' with ⟨k', hk', er', h1', h2'⟩ | ⟨er', h'⟩
    · exact absurd ((hS k' hk').symm ▸ h1') (h k' hk')
    · rw [er, er']
/-! addAll: k of the places have been added -/
abbrev ml_ (v : Nat) (x : Int64) : List Nat := (on_ (bl x) 0 64).map (fun p => v * 64 + p)
theorem lc_len (x : Int64) : lc_ x = nI (on_ (bl x) 0 64).length := by
  rw [lc_u, ← pcF_on]
  rfl
theorem ol_64 (x : Int64) : (on_ (bl x) 0 64).length ≤ 64 := on_len _ 64 0
theorem shl6 : ∀ v, v < 256 → nI v <<< (nI 6 &&& 31) = nI (v * 64) := by decide +kernel
def ad_is (x : Int64) (k : Nat) (s4 : Int64) : Prop := on_ (bl s4) 0 64 = (on_ (bl x) 0 64).drop k
theorem ad_step {x s4 : Int64} {k : Nat} (h : ad_is x k s4) (hk : k < (on_ (bl x) 0 64).length) : ∃ p, p < 64 ∧ lc_ ((s4 &&& (-s4)) - 1) = nI p ∧ ad_is x (k + 1) (s4 &&& (s4 - 1)) ∧ ∀ v : Nat, (ml_ v x).take (k + 1) = (ml_ v x).take k ++ [v * 64 + p] := by
  unfold ad_is at h
  rw [List.drop_eq_getElem_cons hk] at h
  obtain ⟨g1, g2, g3, g4⟩ := low_on h
  refine ⟨_, g1, g3, g4, fun v => ?_⟩
  have hl : k < (ml_ v x).length := by rw [List.length_map]; exact hk
  rw [List.take_succ_eq_append_getElem hl, List.getElem_map]
/-! leastOf -/
def lo_is (M : Nat → Prop) (v a : Nat) (x : Int64) : Prop := ∀ j, j < 64 → (bl x j = true ↔ M (v * 64 + j) ∧ ∀ b, b < a → j.testBit b = true → ¬ M (v * 64 + (j ^^^ 2 ^ b)))
def hi_is (M : Nat → Prop) (v a : Nat) (x : Int64) : Prop := ∀ j, j < 64 → (bl x j = true ↔ (M (v * 64 + j) ∧ ∀ b, b < 6 → j.testBit b = true → ¬ M (v * 64 + (j ^^^ 2 ^ b))) ∧ ∀ b, b < a → v.testBit b = true → ¬ M ((v ^^^ 2 ^ b) * 64 + j))
theorem lo_0 {M : Nat → Prop} {words v : Nat} {Mb : Nat → Int64} (hm : mb_ M words Mb) (hv : v < words) : lo_is M v 0 (Mb v) := fun j hj => by
  rw [hm v hv j hj]
  exact ⟨fun h => ⟨h, fun b hb => absurd hb (Nat.not_lt_zero b)⟩, fun h => h.1⟩
theorem sh_amt : ∀ a, a < 6 → (((((1 : Int32) <<< (nI a &&& 31)).toInt64) &&& 63).toBitVec.smod 64).toNat = 2 ^ a := by decide +kernel
theorem lo_step {M : Nat → Prop} {words v a : Nat} {Mb : Nat → Int64} {x : Int64} (hm : mb_ M words Mb) (hv : v < words) (ha : a < 6) (h : lo_is M v a x) : lo_is M v (a + 1) (x &&& ((Mb v <<< (Int32.toInt64 ((1 : Int32) <<< (nI a &&& 31)) &&& 63) &&& pw_ a) ^^^ (-1))) := fun j hj => by
  have e := one_more (k := (1 : Int32) <<< (nI a &&& 31)) hm hv ha (sh_amt a ha) hj
  rw [l_and, l_not _ hj, Bool.and_eq_true, h j hj, Bool.not_eq_true', ← Bool.not_eq_true, e]
  constructor
  · rintro ⟨⟨h1, h2⟩, h3⟩
    refine ⟨h1, fun b hb ht hM => ?_⟩
    by_cases q : b = a
    · subst q; exact h3 ⟨ht, hM⟩
    · exact h2 b (by omega) ht hM
  · rintro ⟨h1, h2⟩
    exact ⟨⟨h1, fun b hb => h2 b (by omega)⟩, fun q => h2 a (by omega) q.1 q.2⟩
theorem hi_0 {M : Nat → Prop} {v : Nat} {x : Int64} (h : lo_is M v 6 x) : hi_is M v 0 x := fun j hj => by
  rw [h j hj]
  exact ⟨fun h => ⟨h, fun b hb => absurd hb (Nat.not_lt_zero b)⟩, fun h => h.1⟩
theorem hi_no {M : Nat → Prop} {v a : Nat} {x : Int64} (ha : a < 8) (hb : (nI v >>> (nI a &&& 31)) &&& 1 = 0) (h : hi_is M v a x) : hi_is M v (a + 1) x := fun j hj => by
  rw [b_ask0 (by omega), b_nI (by omega)] at hb
  rw [h j hj]
  constructor
  · rintro ⟨h1, h2⟩
    refine ⟨h1, fun b hb2 ht => ?_⟩
    by_cases q : b = a
    · subst q; rw [hb] at ht; cases ht
    · exact h2 b (by omega) ht
  · rintro ⟨h1, h2⟩
    exact ⟨h1, fun b hb2 => h2 b (by omega)⟩
theorem flip_nI : ∀ v, v < 256 → ∀ a, a < 8 → nI v ^^^ ((1 : Int32) <<< (nI a &&& 31)) = nI (v ^^^ 2 ^ a) := by decide +kernel
theorem flip_dn : ∀ v, v < 256 → ∀ a, a < 8 → v.testBit a = true → v ^^^ 2 ^ a < v := by decide +kernel
theorem hi_bit {v a : Nat} (ha : a < 8) (hb : ¬ (nI v >>> (nI a &&& 31)) &&& 1 = 0) : v.testBit a = true := by
  rw [b_ask0 (by omega), b_nI (by omega)] at hb
  simpa using hb
theorem hi_yes {M : Nat → Prop} {words v a : Nat} {Mb : Nat → Int64} {x : Int64} (hm : mb_ M words Mb) (hv : v < words) (hw : words ≤ 256) (ha : a < 8) (hb : v.testBit a = true) (h : hi_is M v a x) : hi_is M v (a + 1) (x &&& (Mb (v ^^^ 2 ^ a) ^^^ (-1))) := fun j hj => by
  have hlt := flip_dn v (by omega) a ha hb
  rw [l_and, l_not _ hj, Bool.and_eq_true, h j hj, Bool.not_eq_true', ← Bool.not_eq_true, hm (v ^^^ 2 ^ a) (by omega) j hj]
  constructor
  · rintro ⟨⟨h1, h2⟩, h3⟩
    refine ⟨h1, fun b hb2 ht => ?_⟩
    by_cases q : b = a
    · subst q; exact h3
    · exact h2 b (by omega) ht
  · rintro ⟨h1, h2⟩
    exact ⟨⟨h1, fun b hb2 => h2 b (by omega)⟩, h2 a (by omega) hb⟩
theorem hi_end {M : Nat → Prop} {v : Nat} {x : Int64} (h : hi_is M v 8 x) : ∀ j, j < 64 → (bl x j = true ↔ lst_ M (v * 64 + j)) := fun j hj => by
  rw [h j hj, lst_split hj]
  exact ⟨fun q => ⟨q.1.1, q.1.2, q.2⟩, fun q => ⟨⟨q.1, q.2.1⟩, q.2.2⟩⟩
/-! listLeast -/
theorem bc_8 : ∀ w, w < 256 → bc_ (nI w) = nI (pcF 8 w) := by
  intro w hw
  rw [bc_u, uI_nI (by omega), show (32 : Nat) = 8 + 24 from rfl, pcF_add, Nat.div_eq_of_lt (show w < 2 ^ 8 from hw), pcF_0, Nat.add_zero]
abbrev fz_ (P : Nat → Bool) (z : Nat) : Nat → Bool := fun s => decide (pcF 14 s = z) && P s
theorem word_no {P : Nat → Bool} {z w : Nat} (hw : w < 256) (h : z < pcF 8 w ∨ pcF 8 w + 6 < z) : on_ (fz_ P z) 0 ((w + 1) * 64) = on_ (fz_ P z) 0 (w * 64) := by
  rw [show (w + 1) * 64 = w * 64 + 64 by omega, on_app, on_nil 64 (0 + w * 64) (fun s h1 h2 => ?_), List.append_nil]
  have e : s = w * 64 + (s - w * 64) := by omega
  have hl := pcF_le 6 (s - w * 64)
  have : ¬ pcF 14 s = z := by
    rw [e, pc_wj w hw _ (by omega)]
    omega
  simp [fz_, this]
theorem word_yes {P : Nat → Bool} {M : Nat → Prop} {z w : Nat} {x : Int64} (hP : ∀ s, P s = true ↔ lst_ M s) (hw : w < 256) (h1 : pcF 8 w ≤ z) (h2 : z ≤ pcF 8 w + 6) (hx : ∀ j, j < 64 → (bl x j = true ↔ lst_ M (w * 64 + j))) : on_ (fz_ P z) 0 ((w + 1) * 64) = on_ (fz_ P z) 0 (w * 64) ++ ml_ w (x &&& ps_ (z - pcF 8 w)) := by
  rw [show (w + 1) * 64 = w * 64 + 64 by omega, on_app]
  congr 1
  rw [show 0 + w * 64 = w * 64 + 0 by omega, on_shift]
  congr 1
  refine on_congr 64 0 (fun j _ hj => ?_)
  rw [l_and, ps_bit _ (by omega) j (by omega)]
  show (decide (pcF 14 (w * 64 + j) = z) && P (w * 64 + j)) = _
  rw [pc_wj w hw j (by omega), Bool.and_comm]
  have e : (pcF 6 j + pcF 8 w = z) ↔ (pcF 6 j = z - pcF 8 w) := by omega
  congr 1
  · rw [Bool.eq_iff_iff, hP, hx j (by omega)]
  · exact decide_eq_decide.mpr e
theorem cc_len {g : Nat → List Nat} {n : Nat} : ∀ m, n ≤ m → (cc_ g n).length ≤ (cc_ g m).length := by
  intro m
  induction m with
  | zero => intro h; rw [show n = 0 by omega]; exact Nat.le_refl _
  | succ m ih =>
    intro h
    by_cases q : n = m + 1
    · rw [q]; exact Nat.le_refl _
    · have := ih (by omega)
      show _ ≤ (cc_ g m ++ g m).length
      rw [List.length_append]
      omega
theorem ls_room {P : Nat → Bool} {z w W : Nat} (hz : z < 15) (hw : w ≤ W) : (ls_ P z (W * 64) ++ on_ (fz_ P z) 0 (w * 64)).length ≤ (ls_ P 15 (W * 64)).length := by
  have h1 : (ls_ P (z + 1) (W * 64)).length ≤ (ls_ P 15 (W * 64)).length := cc_len 15 (by omega)
  have h2 : ls_ P (z + 1) (W * 64) = ls_ P z (W * 64) ++ on_ (fz_ P z) 0 (W * 64) := rfl
  have h3 : on_ (fz_ P z) 0 (W * 64) = on_ (fz_ P z) 0 (w * 64) ++ on_ (fz_ P z) (0 + w * 64) ((W - w) * 64) := by
    rw [← on_app]
    congr 1
    have : W * 64 = (w + (W - w)) * 64 := by rw [Nat.add_sub_cancel' hw]
    omega
  rw [h2, h3] at h1
  rw [List.length_append] at h1 ⊢
  rw [List.length_append] at h1
  omega
