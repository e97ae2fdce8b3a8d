/-! ===== the reference: its steps, its sizes, its tests ===== -/
theorem cm_no1 {B Hd : Nat → Int32} {set facts : Int32} {a : Nat} (ha : a < 32) (h : ¬ (set >>> (nI a &&& 31)) &&& 1 = 1) : cs_ B Hd set facts (a + 1) = cs_ B Hd set facts a := by
  refine cs_no1 ha ((b_ask0 ha set).mpr ?_)
  rw [b_ask1 ha set] at h
  simpa using h
theorem cm_no2 {B Hd : Nat → Int32} {set facts : Int32} {a : Nat} (h : ¬ B a &&& facts = B a) : cs_ B Hd set facts (a + 1) = cs_ B Hd set facts a := by
  refine cs_no2 fun q => h ?_
  rw [b_subE]
  exact (b_sub0 _ _).mp q
theorem cm_yes {B Hd : Nat → Int32} {set facts : Int32} {a : Nat} (ha : a < 32) (h : (set >>> (nI a &&& 31)) &&& 1 = 1) (h2 : B a &&& facts = B a) : cs_ B Hd set facts (a + 1) = cs_ B Hd set facts a ||| ((1 : Int32) <<< (Hd a &&& 31)) := by
  refine cs_yes ha (fun q => ?_) ((b_sub0 _ _).mpr ((b_subE _ _).mp h2))
  rw [h] at q
  exact absurd q (by decide)
/-- the goal's step, as far as k steps have shown it -/
def sp_is (F : Nat → Int32) (g k : Nat) (r : Int32) : Prop := (r = 0 ∧ ∀ j, j ≤ k → bt (F j) g = false) ∨ ∃ i, 1 ≤ i ∧ i ≤ k ∧ r = nI i ∧ bt (F i) g = true ∧ ∀ j, j < i → bt (F j) g = false
theorem sp_0 {n : Nat} {B Hd : Nat → Int32} {x : Int32} {g : Nat} : sp_is (cf_ n B Hd x) g 0 0 := Or.inl ⟨rfl, fun j hj => by rw [show j = 0 by omega]; exact b_0 g⟩
theorem sp_keep {F : Nat → Int32} {g k : Nat} {r : Int32} (h : sp_is F g k r) (hr : ¬ r = 0) : sp_is F g (k + 1) r := by
  rcases h with ⟨h, -⟩ | ⟨i, h1, h2, h3⟩
  · exact absurd h hr
  · exact Or.inr ⟨i, h1, by omega, h3⟩
theorem sp_no {F : Nat → Int32} {g k : Nat} {r : Int32} (hg : g < 32) (hk : k < 2000) (h : sp_is F g k r) (hr : r = 0) (hb : ¬ (F (k + 1) >>> (nI g &&& 31)) &&& 1 = 1) : sp_is F g (k + 1) r := by
  rcases h with ⟨h, h2⟩ | ⟨i, h1, h2, h3, -⟩
  · refine Or.inl ⟨h, fun j hj => ?_⟩
    by_cases e : j = k + 1
    · subst e
      rw [b_ask1 hg] at hb
      simpa using hb
    · exact h2 j (by omega)
  · rw [hr] at h3
    exact absurd h3.symm (nI_ne0 (by omega) (by omega))
theorem sp_yes {F : Nat → Int32} {g k : Nat} {r : Int32} (hg : g < 32) (hk : k < 2000) (h : sp_is F g k r) (hr : r = 0) (hb : (F (k + 1) >>> (nI g &&& 31)) &&& 1 = 1) : sp_is F g (k + 1) (nI (k + 1)) := by
  rcases h with ⟨h, h2⟩ | ⟨i, h1, h2, h3, -⟩
  · exact Or.inr ⟨k + 1, by omega, by omega, rfl, (b_ask1 hg _).mp hb, fun j hj => h2 j (by omega)⟩
  · rw [hr] at h3
    exact absurd h3.symm (nI_ne0 (by omega) (by omega))
theorem sp_end {n : Nat} {B Hd : Nat → Int32} (hok : ∀ a, a < n → uI_ (Hd a) < 24) {x : Int32} {g k : Nat} {r : Int32} (hk : k < 2000) (h : sp_is (cf_ n B Hd x) g k r) (hf : cf_ n B Hd x k = cf_ n B Hd x n) : st_is (cf_ n B Hd x) g r := by
  rcases h with ⟨h, h2⟩ | ⟨i, h1, h2, h3, h4⟩
  · refine Or.inl ⟨h, fun j => ?_⟩
    rcases Nat.lt_or_ge k j with q | q
    · by_cases e : n ≤ j
      · rw [cf_fix hok x e, ← hf]; exact h2 k (Nat.le_refl _)
      · cases hb : bt (cf_ n B Hd x j) g
        · rfl
        · have h5 := (cf_dr (B := B) hok x n g).mpr (dr_all j g ((cf_dr (B := B) hok x j g).mp hb))
          rw [← hf, h2 k (Nat.le_refl _)] at h5
          cases h5
    · exact h2 j q
  · exact Or.inr ⟨i, h1, by omega, h3, h4⟩
/-- the last step but one gave nothing -/
theorem cf_stop {n : Nat} {B Hd : Nat → Int32} (hok : ∀ a, a < n → uI_ (Hd a) < 24) {x : Int32} {k : Nat} (h1 : 1 ≤ k) (h : cf_ n B Hd x k = cf_ n B Hd x (k - 1)) : cf_ n B Hd x k = cf_ n B Hd x n := by
  rw [h]
  refine cf_last hok x ?_
  rw [show k - 1 + 1 = k by omega]
  exact h
theorem cf_more {n : Nat} {B Hd : Nat → Int32} (hok : ∀ a, a < n → uI_ (Hd a) < 24) {x : Int32} {k : Nat} (h : ¬ cf_ n B Hd x (k + 1) = cf_ n B Hd x k) : k + 1 ≤ n := by
  refine Classical.byContradiction fun q => h ?_
  rw [cf_fix hok x (show n ≤ k + 1 by omega), cf_fix hok x (show n ≤ k by omega)]
theorem flipN {v a : Nat} (ha : a < 32) : nI v ^^^ ((1 : Int32) <<< (nI a &&& 31)) = nI (v ^^^ 2 ^ a) := by
  apply b_ext
  intro i hi
  rw [b_xor, b_nI hi, b_1shl ha hi, b_nI hi, tb_flip]
  congr 1
  exact decide_eq_decide.mpr ⟨fun h => h.symm, fun h => h.symm⟩
theorem xorN (a b : Nat) : nI a ^^^ nI b = nI (a ^^^ b) := by
  apply b_ext
  intro i hi
  rw [b_xor, b_nI hi, b_nI hi, b_nI hi, Nat.testBit_xor]
theorem allN : ∀ n, n ≤ 14 → (1 : Int32) <<< (nI n &&& 31) - 1 = nI (2 ^ n - 1) := by decide +kernel
/-- where the reference keeps what follows from each set -/
def gv_is (M : Nat → Prop) (N : Nat) (Gv : Nat → Int32) : Prop := ∀ s, s < N → (Gv s = 1 ∧ M s) ∨ (Gv s = 0 ∧ ¬ M s)
theorem gv_next {M : Nat → Prop} {v : Nat} {Gv : Nat → Int32} {x : Int32} (h : gv_is M v Gv) (hx : (x = 1 ∧ M v) ∨ (x = 0 ∧ ¬ M v)) : gv_is M (v + 1) (upd Gv v x) := by
  intro s hs
  by_cases e : s = v
  · subst e; rw [pk_us]; exact hx
  · rw [pk_un e]; exact h s (by omega)
theorem gv_of {n : Nat} {B Hd : Nat → Int32} (hok : ∀ a, a < n → uI_ (Hd a) < 24) (hn : n ≤ 14) {g v : Nat} (hg : g < 24) : (cf_ n B Hd (nI v) n >>> (nI g &&& 31)) &&& 1 = 1 ↔ mc_ n B Hd g v := by
  rw [b_ask1 (by omega), cf_dr hok (nI v) n g]
  exact ⟨dr_congr (fun a ha h => by rw [b_nI (by omega)] at h; exact h) n g, dr_congr (fun a ha h => by rw [b_nI (by omega)]; exact h) n g⟩
theorem gv_y {M : Nat → Prop} {N s : Nat} {Gv : Nat → Int32} (h : gv_is M N Gv) (hs : s < N) (h1 : ¬ Gv s = 0) : M s := by
  rcases h s hs with q | q
  · exact q.2
  · exact absurd q.1 h1
theorem gv_n {M : Nat → Prop} {N s : Nat} {Gv : Nat → Int32} (h : gv_is M N Gv) (hs : s < N) (h1 : Gv s = 0) : ¬ M s := by
  rcases h s hs with q | q
  · rw [q.1] at h1; exact absurd h1 (by decide)
  · exact q.2
/-- isCause: the first a axioms have been looked at -/
def ic_is (M : Nat → Prop) (v a : Nat) (y : Int32) : Prop := (y = 1 ∧ M v ∧ ∀ b, b < a → v.testBit b = true → ¬ M (v ^^^ 2 ^ b)) ∨ (y = 0 ∧ ¬ (M v ∧ ∀ b, b < a → v.testBit b = true → ¬ M (v ^^^ 2 ^ b)))
theorem ic_0 {M : Nat → Prop} {N v : Nat} {Gv : Nat → Int32} (h : gv_is M N Gv) (hv : v < N) : ic_is M v 0 (Gv v) := by
  rcases h v hv with q | q
  · exact Or.inl ⟨q.1, q.2, fun b hb => absurd hb (Nat.not_lt_zero b)⟩
  · exact Or.inr ⟨q.1, fun z => q.2 z.1⟩
theorem ic_y {M : Nat → Prop} {v a : Nat} {y : Int32} (h : ic_is M v a y) (hy : ¬ y = 0) : M v ∧ ∀ b, b < a → v.testBit b = true → ¬ M (v ^^^ 2 ^ b) := by
  rcases h with q | q
  · exact q.2
  · exact absurd q.1 hy
theorem ic_yes {M : Nat → Prop} {v a : Nat} {y : Int32} (h : ic_is M v a y) (hy : ¬ y = 0) (hq : v.testBit a = false ∨ ¬ M (v ^^^ 2 ^ a)) : ic_is M v (a + 1) 1 := by
  obtain ⟨h1, h2⟩ := ic_y h hy
  refine Or.inl ⟨rfl, h1, fun b hb ht => ?_⟩
  by_cases e : b = a
  · subst e
    rcases hq with q | q
    · rw [q] at ht; cases ht
    · exact q
  · exact h2 b (by omega) ht
theorem ic_no {M : Nat → Prop} {v a : Nat} (ht : v.testBit a = true) (hm : M (v ^^^ 2 ^ a)) : ic_is M v (a + 1) 0 := Or.inr ⟨rfl, fun q => q.2 a (by omega) ht hm⟩
/-- the answer -/
def yn_ (Q : Prop) (r : Int32) : Prop := (r = 1 ∧ Q) ∨ (r = 0 ∧ ¬ Q)
theorem ic_end {n : Nat} {B Hd : Nat → Int32} {g v : Nat} {y : Int32} (hn : n ≤ 14) (hv : v < 2 ^ n) (h : ic_is (mc_ n B Hd g) v n y) : yn_ (lst_ (mc_ n B Hd g) v) y := by
  unfold yn_
  rw [cause_iff hn hv]
  exact h
theorem ic_zero {n a : Nat} {B Hd : Nat → Int32} {g v : Nat} {y : Int32} (hn : n ≤ 14) (ha : a ≤ n) (hv : v < 2 ^ n) (h : ic_is (mc_ n B Hd g) v a y) (hy : y = 0) : yn_ (lst_ (mc_ n B Hd g) v) y := by
  unfold yn_
  rw [cause_iff hn hv]
  rcases h with q | q
  · rw [q.1] at hy; exact absurd hy (by decide)
  · exact Or.inr ⟨q.1, fun z => q.2 ⟨z.1, fun b hb => z.2 b (by omega)⟩⟩
/-- isCure -/
def iq_is (M : Nat → Prop) (Fx : Nat → Int32) (w v a : Nat) (y : Int32) : Prop := yn_ (¬ M w ∧ ∀ b, b < a → v.testBit b = true → Fx b = 0 ∧ M (w ^^^ 2 ^ b)) y
theorem iq_y {Q : Prop} {y : Int32} (h : yn_ Q y) (hy : ¬ y = 0) : Q := by
  rcases h with q | q
  · exact q.2
  · exact absurd q.1 hy
theorem iq_0y {M : Nat → Prop} {Fx : Nat → Int32} {w v : Nat} (h : ¬ M w) : iq_is M Fx w v 0 1 := Or.inl ⟨rfl, h, fun b hb => absurd hb (Nat.not_lt_zero b)⟩
theorem iq_0n {M : Nat → Prop} {Fx : Nat → Int32} {w v : Nat} (h : M w) : iq_is M Fx w v 0 0 := Or.inr ⟨rfl, fun q => q.1 h⟩
theorem iq_yes {M : Nat → Prop} {Fx : Nat → Int32} {w v a : Nat} {y : Int32} (h : iq_is M Fx w v a y) (hy : ¬ y = 0) (hq : v.testBit a = false ∨ (Fx a = 0 ∧ M (w ^^^ 2 ^ a))) : iq_is M Fx w v (a + 1) 1 := by
  obtain ⟨h1, h2⟩ := iq_y h hy
  refine Or.inl ⟨rfl, h1, fun b hb ht => ?_⟩
  by_cases e : b = a
  · subst e
    rcases hq with q | q
    · rw [q] at ht; cases ht
    · exact q
  · exact h2 b (by omega) ht
theorem iq_no {M : Nat → Prop} {Fx : Nat → Int32} {w v a : Nat} (ht : v.testBit a = true) (hm : ¬ (Fx a = 0 ∧ M (w ^^^ 2 ^ a))) : iq_is M Fx w v (a + 1) 0 := Or.inr ⟨rfl, fun q => hm (q.2 a (by omega) ht)⟩
theorem iq_end {n : Nat} {B Hd Fx : Nat → Int32} {g v : Nat} {y : Int32} (hn : n ≤ 14) (hv : v < 2 ^ n) (h : iq_is (mc_ n B Hd g) Fx ((2 ^ n - 1) ^^^ v) v n y) : yn_ (lst_ (mq_ n B Hd Fx g) v) y := by
  unfold yn_
  rw [cure_iff hn hv]
  exact h
theorem iq_zero {n a : Nat} {B Hd Fx : Nat → Int32} {g v : Nat} {y : Int32} (hn : n ≤ 14) (ha : a ≤ n) (hv : v < 2 ^ n) (h : iq_is (mc_ n B Hd g) Fx ((2 ^ n - 1) ^^^ v) v a y) (hy : y = 0) : yn_ (lst_ (mq_ n B Hd Fx g) v) y := by
  unfold yn_
  rw [cure_iff hn hv]
  rcases h with q | q
  · rw [q.1] at hy; exact absurd hy (by decide)
  · exact Or.inr ⟨q.1, fun z => q.2 ⟨z.1, fun b hb => z.2 b (by omega)⟩⟩
theorem bit_no {v a : Nat} (ha : a < 32) (h : (nI v >>> (nI a &&& 31)) &&& 1 = 0) : v.testBit a = false := by
  rw [b_ask0 ha, b_nI ha] at h
  exact h
theorem bit_yes {v a : Nat} (ha : a < 32) (h : ¬ (nI v >>> (nI a &&& 31)) &&& 1 = 0) : v.testBit a = true := by
  rw [b_ask0 ha, b_nI ha] at h
  simpa using h
theorem flip_in {n v a : Nat} (hv : v < 2 ^ n) (ha : a < n) : v ^^^ 2 ^ a < 2 ^ n := Nat.xor_lt_two_pow hv (Nat.pow_lt_pow_right (by omega) ha)
theorem all_in {n v : Nat} (hv : v < 2 ^ n) : (2 ^ n - 1) ^^^ v < 2 ^ n := Nat.xor_lt_two_pow (by have := Nat.two_pow_pos n; omega) hv
/-- the lists grow by one set -/
theorem on_yes {P : Nat → Bool} {z v : Nat} (h1 : pcF 14 v = z) (h2 : P v = true) : on_ (fz_ P z) 0 (v + 1) = on_ (fz_ P z) 0 v ++ [v] := by
  rw [on_succ, if_pos (by simp [fz_, h1, h2]), Nat.zero_add]
theorem on_no {P : Nat → Bool} {z v : Nat} (h : ¬ (pcF 14 v = z ∧ P v = true)) : on_ (fz_ P z) 0 (v + 1) = on_ (fz_ P z) 0 v := by
  rw [on_succ, if_neg (by simp only [fz_, Nat.zero_add, Bool.and_eq_true, decide_eq_true_eq]; exact h), List.append_nil]
theorem ls_room2 {P : Nat → Bool} {z v N m : Nat} (hz : z < m) (hv : v ≤ N) : (ls_ P z N ++ on_ (fz_ P z) 0 v).length ≤ (ls_ P m N).length := by
  have h1 : (ls_ P (z + 1) N).length ≤ (ls_ P m N).length := cc_len m (by omega)
  have h2 : ls_ P (z + 1) N = ls_ P z N ++ on_ (fz_ P z) 0 N := rfl
  have h3 : on_ (fz_ P z) 0 N = on_ (fz_ P z) 0 v ++ on_ (fz_ P z) (0 + v) (N - v) := by
    rw [← on_app, Nat.add_sub_cancel' hv]
  rw [h2, h3] at h1
  rw [List.length_append] at h1 ⊢
  rw [List.length_append] at h1
  omega
