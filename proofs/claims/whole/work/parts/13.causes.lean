/-! ===== causes and cures ===== -/
/-- the goal g follows from set s -/
def mc_ (n : Nat) (B Hd : Nat → Int32) (g : Nat) (s : Nat) : Prop := dr_ n (bd_ B) (hd_ Hd) (fun a => s.testBit a = true) n g
/-- without s (but with what is fixed) it does not -/
def mq_ (n : Nat) (B Hd Fx : Nat → Int32) (g : Nat) (s : Nat) : Prop := ¬ dr_ n (bd_ B) (hd_ Hd) (fun a => ¬ Fx a = 0 ∨ s.testBit a = false) n g
theorem mc_up {n : Nat} {B Hd : Nat → Int32} {g : Nat} (s t : Nat) (h : ss_ s t) (hm : mc_ n B Hd g s) : mc_ n B Hd g t := dr_congr (fun a _ ha => h a ha) n g hm
theorem mq_up {n : Nat} {B Hd Fx : Nat → Int32} {g : Nat} (s t : Nat) (h : ss_ s t) (hm : mq_ n B Hd Fx g s) : mq_ n B Hd Fx g t := fun hd => hm (dr_congr (fun a _ ha => by
  rcases ha with ha | ha
  · exact Or.inl ha
  · refine Or.inr ?_
    cases hs : s.testBit a
    · rfl
    · rw [h a hs] at ha; cases ha) n g hd)
theorem mc_same {n : Nat} {B Hd : Nat → Int32} {g s t : Nat} (h : ∀ a, a < n → s.testBit a = t.testBit a) : mc_ n B Hd g s ↔ mc_ n B Hd g t :=
  ⟨dr_congr (fun a ha q => by rw [← h a ha]; exact q) n g, dr_congr (fun a ha q => by rw [h a ha]; exact q) n g⟩
theorem mq_same {n : Nat} {B Hd Fx : Nat → Int32} {g s t : Nat} (h : ∀ a, a < n → Fx a = 0 → s.testBit a = t.testBit a) : mq_ n B Hd Fx g s ↔ mq_ n B Hd Fx g t := by
  have key : ∀ s t : Nat, (∀ a, a < n → Fx a = 0 → s.testBit a = t.testBit a) → mq_ n B Hd Fx g s → mq_ n B Hd Fx g t := by
    intro s t h hm hd
    refine hm (dr_congr (fun a ha q => ?_) n g hd)
    by_cases e : Fx a = 0
    · rcases q with q | q
      · exact Or.inl q
      · exact Or.inr (by rw [h a ha e]; exact q)
    · exact Or.inl e
  exact ⟨key s t h, key t s (fun a ha e => (h a ha e).symm)⟩
noncomputable def cp_ (n : Nat) (B Hd : Nat → Int32) (g : Nat) (s : Nat) : Bool := @decide (lst_ (mc_ n B Hd g) s) (Classical.propDecidable _)
noncomputable def qp_ (n : Nat) (B Hd Fx : Nat → Int32) (g : Nat) (s : Nat) : Bool := @decide (lst_ (mq_ n B Hd Fx g) s) (Classical.propDecidable _)
theorem cp_iff {n : Nat} {B Hd : Nat → Int32} {g s : Nat} : cp_ n B Hd g s = true ↔ lst_ (mc_ n B Hd g) s := by
  unfold cp_
  exact @decide_eq_true_iff _ (Classical.propDecidable _)
theorem qp_iff {n : Nat} {B Hd Fx : Nat → Int32} {g s : Nat} : qp_ n B Hd Fx g s = true ↔ lst_ (mq_ n B Hd Fx g) s := by
  unfold qp_
  exact @decide_eq_true_iff _ (Classical.propDecidable _)
/-- a least set has axioms alone that there are -/
theorem lst_low {M : Nat → Prop} {n s : Nat} (hs : s < 16384) (hM : ∀ s a, n ≤ a → M s → M (s ^^^ 2 ^ a)) (h : lst_ M s) : s < 2 ^ n := by
  refine Nat.lt_pow_two_of_testBit _ fun i hi => ?_
  cases hb : s.testBit i
  · rfl
  · exact absurd (hM s i hi h.1) (h.2 i (tb_lt hs hb) hb)
theorem mc_hi {n : Nat} {B Hd : Nat → Int32} {g : Nat} (s a : Nat) (ha : n ≤ a) (h : mc_ n B Hd g s) : mc_ n B Hd g (s ^^^ 2 ^ a) := (mc_same (fun b hb => by
  rw [tb_flip]
  have : ¬ a = b := by omega
  simp [this])).mp h
theorem mq_hi {n : Nat} {B Hd Fx : Nat → Int32} {g : Nat} (s a : Nat) (ha : n ≤ a) (h : mq_ n B Hd Fx g s) : mq_ n B Hd Fx g (s ^^^ 2 ^ a) := (mq_same (fun b hb _ => by
  rw [tb_flip]
  have : ¬ a = b := by omega
  simp [this])).mp h
theorem pc_low {n s : Nat} (hn : n ≤ 14) (hs : s < 2 ^ n) : pcF 14 s < n + 1 := by
  have e : 14 = n + (14 - n) := by omega
  rw [e, pcF_add, Nat.div_eq_of_lt hs, pcF_0]
  have := pcF_le n s
  omega
theorem pow_le14 {n : Nat} (hn : n ≤ 14) : 2 ^ n ≤ 16384 := Nat.pow_le_pow_right (n := 2) (i := n) (j := 14) (by omega) hn
/-- the class's list and the reference's -/
theorem ls_both {P : Nat → Bool} {M : Nat → Prop} {n N : Nat} (hn : n ≤ 14) (hP : ∀ s, P s = true → lst_ M s) (hM : ∀ s a, n ≤ a → M s → M (s ^^^ 2 ^ a)) (hN : 2 ^ n ≤ N) (hN2 : N ≤ 16384) : ls_ P 15 N = ls_ P (n + 1) (2 ^ n) :=
  ls_cut (by omega) hN (fun s hs hp => by
    have h := lst_low (by omega) hM (hP s hp)
    exact ⟨pc_low hn h, h⟩)
/-- a set taken from all n axioms -/
theorem tb_all {n s a : Nat} (hs : s < 2 ^ n) (ha : a < n) : ((2 ^ n - 1) ^^^ s).testBit a = !s.testBit a := by
  rw [Nat.testBit_xor, Nat.testBit_two_pow_sub_one]
  simp [ha]
/-- a cure, as the reference asks for it -/
theorem cure_iff {n : Nat} {B Hd Fx : Nat → Int32} {g s : Nat} (hn : n ≤ 14) (hs : s < 2 ^ n) : lst_ (mq_ n B Hd Fx g) s ↔ ¬ mc_ n B Hd g ((2 ^ n - 1) ^^^ s) ∧ ∀ a, a < n → s.testBit a = true → Fx a = 0 ∧ mc_ n B Hd g ((2 ^ n - 1) ^^^ s ^^^ 2 ^ a) := by
  have plain : ∀ t : Nat, (∀ a, a < n → t.testBit a = true → Fx a = 0) → ∀ r : Nat, (∀ a, a < n → r.testBit a = !t.testBit a) → (mq_ n B Hd Fx g t ↔ ¬ mc_ n B Hd g r) := by
    intro t ht r hr
    have e : dr_ n (bd_ B) (hd_ Hd) (fun a => ¬ Fx a = 0 ∨ t.testBit a = false) n g ↔ mc_ n B Hd g r := by
      constructor
      · refine dr_congr (fun a ha q => ?_) n g
        rw [hr a ha]
        cases hb : t.testBit a
        · rfl
        · rcases q with q | q
          · exact absurd (ht a ha hb) q
          · rw [hb] at q; cases q
      · refine dr_congr (fun a ha q => ?_) n g
        rw [hr a ha] at q
        exact Or.inr (by simpa using q)
    unfold mq_
    rw [e]
  have sub : ∀ a, a < n → s.testBit a = true → (∀ b, b < n → s.testBit b = true → Fx b = 0) → (mq_ n B Hd Fx g (s ^^^ 2 ^ a) ↔ ¬ mc_ n B Hd g ((2 ^ n - 1) ^^^ s ^^^ 2 ^ a)) := by
    intro a ha hb hF
    refine plain _ (fun b hbn q => hF b hbn ?_) _ (fun b hbn => ?_)
    · rw [tb_flip] at q
      by_cases e : a = b
      · subst e; exact hb
      · simpa [e] using q
    · rw [tb_flip, tb_all hs hbn, tb_flip]
      cases s.testBit b <;> cases decide (a = b) <;> rfl
  constructor
  · rintro ⟨h1, h2⟩
    have hF : ∀ b, b < n → s.testBit b = true → Fx b = 0 := by
      intro b hbn hb
      refine Classical.byContradiction fun e => h2 b (by omega) hb ((mq_same (fun c hc e2 => ?_)).mp h1)
      rw [tb_flip]
      have : ¬ b = c := by
        intro q
        subst q
        exact e e2
      simp [this]
    refine ⟨(plain s hF _ (fun a ha => tb_all hs ha)).mp h1, fun a ha hb => ⟨hF a ha hb, ?_⟩⟩
    have h3 := h2 a (by omega) hb
    rw [sub a ha hb hF] at h3
    exact Classical.byContradiction h3
  · rintro ⟨h1, h2⟩
    have hF : ∀ b, b < n → s.testBit b = true → Fx b = 0 := fun b hbn hb => (h2 b hbn hb).1
    refine ⟨(plain s hF _ (fun a ha => tb_all hs ha)).mpr h1, fun a ha hb => ?_⟩
    have han : a < n := by
      refine Classical.byContradiction fun q => ?_
      have : s.testBit a = false := Nat.testBit_lt_two_pow (Nat.lt_of_lt_of_le hs (Nat.pow_le_pow_right (by omega) (by omega)))
      rw [this] at hb
      cases hb
    rw [sub a han hb hF]
    exact fun q => q (h2 a han hb).2
theorem cause_iff {n : Nat} {B Hd : Nat → Int32} {g s : Nat} (hn : n ≤ 14) (hs : s < 2 ^ n) : lst_ (mc_ n B Hd g) s ↔ mc_ n B Hd g s ∧ ∀ a, a < n → s.testBit a = true → ¬ mc_ n B Hd g (s ^^^ 2 ^ a) := by
  constructor
  · rintro ⟨h1, h2⟩
    exact ⟨h1, fun a ha => h2 a (by omega)⟩
  · rintro ⟨h1, h2⟩
    refine ⟨h1, fun a _ hb => h2 a (Classical.byContradiction fun q => ?_) hb⟩
    have : s.testBit a = false := Nat.testBit_lt_two_pow (Nat.lt_of_lt_of_le hs (Nat.pow_le_pow_right (by omega) (by omega)))
    rw [this] at hb
    cases hb
