/-! ===== what follows, as masks ===== -/
/-- one step: the first a axioms have been looked at -/
def cs_ (B Hd : Nat → Int32) (set facts : Int32) : Nat → Int32
  | 0 => facts
  | a + 1 => if bt set a = true ∧ B a &&& (facts ^^^ (-1)) = 0 then cs_ B Hd set facts a ||| ((1 : Int32) <<< (Hd a &&& 31)) else cs_ B Hd set facts a
/-- k steps of n axioms -/
def cf_ (n : Nat) (B Hd : Nat → Int32) (set : Int32) : Nat → Int32
  | 0 => 0
  | k + 1 => cs_ B Hd set (cf_ n B Hd set k) n
/-- n axioms are as they may be -/
def ax_ok (n : Nat) (B Hd : Nat → Int32) : Prop := n ≤ 14 ∧ ∀ a, a < n → uI_ (B a) < 16777216 ∧ uI_ (Hd a) < 24
abbrev bd_ (B : Nat → Int32) (a g : Nat) : Prop := bt (B a) g = true
abbrev hd_ (Hd : Nat → Int32) (a : Nat) : Nat := uI_ (Hd a)
theorem nI_uI (x : Int32) : nI (uI_ x) = x := uI_inj (by rw [uI_nI (uI_lt x)])
theorem cs_bit {n : Nat} {B Hd : Nat → Int32} (hok : ∀ a, a < n → uI_ (Hd a) < 24) (set facts : Int32) : ∀ k, k ≤ n → ∀ f, f < 32 → (bt (cs_ B Hd set facts k) f = true ↔ bt facts f = true ∨ ∃ a, a < k ∧ bt set a = true ∧ hd_ Hd a = f ∧ ∀ g, bd_ B a g → bt facts g = true) := by
  intro k
  induction k with
  | zero =>
    intro _ f _
    constructor
    · intro h; exact Or.inl h
    · rintro (h | ⟨a, ha, -⟩)
      · exact h
      · omega
  | succ k ih =>
    intro hk f hf
    have ih := ih (by omega) f hf
    have hh := hok k (by omega)
    have e1 : ((1 : Int32) <<< (Hd k &&& 31)) = ((1 : Int32) <<< (nI (uI_ (Hd k)) &&& 31)) := by rw [nI_uI]
    have hsub : B k &&& (facts ^^^ (-1)) = 0 ↔ ∀ g, bd_ B k g → bt facts g = true := by
      rw [b_sub0]
      constructor
      · intro h g hg
        refine h g (Classical.byContradiction fun z => ?_) hg
        unfold bd_ at hg
        rw [b_big (by omega)] at hg
        cases hg
      · intro h i _ hi
        exact h i hi
    show bt (if bt set k = true ∧ B k &&& (facts ^^^ (-1)) = 0 then cs_ B Hd set facts k ||| ((1 : Int32) <<< (Hd k &&& 31)) else cs_ B Hd set facts k) f = true ↔ _
    by_cases hc : bt set k = true ∧ B k &&& (facts ^^^ (-1)) = 0
    · rw [if_pos hc, b_or, e1, b_1shl (by omega) hf, Bool.or_eq_true, ih, decide_eq_true_eq]
      constructor
      · rintro ((h | ⟨a, ha, h⟩) | h)
        · exact Or.inl h
        · exact Or.inr ⟨a, by omega, h⟩
        · exact Or.inr ⟨k, by omega, hc.1, h.symm, hsub.mp hc.2⟩
      · rintro (h | ⟨a, ha, h1, h2, h3⟩)
        · exact Or.inl (Or.inl h)
        · by_cases e : a = k
          · subst e
            exact Or.inr h2.symm
          · exact Or.inl (Or.inr ⟨a, by omega, h1, h2, h3⟩)
    · rw [if_neg hc, ih]
      constructor
      · rintro (h | ⟨a, ha, h⟩)
        · exact Or.inl h
        · exact Or.inr ⟨a, by omega, h⟩
      · rintro (h | ⟨a, ha, h1, h2, h3⟩)
        · exact Or.inl h
        · by_cases e : a = k
          · subst e
            exact absurd ⟨h1, hsub.mpr h3⟩ hc
          · exact Or.inr ⟨a, by omega, h1, h2, h3⟩
theorem dr_lt24 {n : Nat} {B Hd : Nat → Int32} (hok : ∀ a, a < n → uI_ (Hd a) < 24) {S : Nat → Prop} {k f : Nat} (h : dr_ n (bd_ B) (hd_ Hd) S k f) : f < 24 := by
  obtain ⟨b, hb, -, e⟩ := h
  rw [← e]
  exact hok b hb
theorem cf_dr {n : Nat} {B Hd : Nat → Int32} (hok : ∀ a, a < n → uI_ (Hd a) < 24) (set : Int32) : ∀ k f, bt (cf_ n B Hd set k) f = true ↔ dr_ n (bd_ B) (hd_ Hd) (fun a => bt set a = true) k f := by
  intro k
  induction k with
  | zero =>
    intro f
    constructor
    · intro h
      rw [show cf_ n B Hd set 0 = 0 from rfl, b_0] at h
      cases h
    · rintro ⟨b, -, he, -⟩
      exact he.elim
  | succ k ih =>
    intro f
    by_cases hf : f < 32
    · show bt (cs_ B Hd set (cf_ n B Hd set k) n) f = true ↔ _
      rw [cs_bit hok set (cf_ n B Hd set k) n (Nat.le_refl _) f hf, ih f, dr_step]
      constructor
      · rintro (h | ⟨a, ha, h1, h2, h3⟩)
        · exact (dr_step k f).mp (dr_mono k f h)
        · exact ⟨a, ha, h1, h2, fun g hg => (ih g).mp (h3 g hg)⟩
      · rintro ⟨a, ha, h1, h2, h3⟩
        exact Or.inr ⟨a, ha, h1, h2, fun g hg => (ih g).mpr (h3 g hg)⟩
    · constructor
      · intro h
        rw [b_big (by omega)] at h
        cases h
      · intro h
        have := dr_lt24 hok h
        omega
/-- the masks stand still from step n on -/
theorem cf_fix {n : Nat} {B Hd : Nat → Int32} (hok : ∀ a, a < n → uI_ (Hd a) < 24) (set : Int32) {k : Nat} (hk : n ≤ k) : cf_ n B Hd set k = cf_ n B Hd set n := by
  apply b_ext
  intro i _
  have h1 := cf_dr (B := B) hok set k i
  have h2 := cf_dr (B := B) hok set n i
  have h3 : dr_ n (bd_ B) (hd_ Hd) (fun a => bt set a = true) k i ↔ dr_ n (bd_ B) (hd_ Hd) (fun a => bt set a = true) n i := ⟨dr_all k i, dr_le hk⟩
  rw [Bool.eq_iff_iff, h1, h2, h3]
/-- where a step gives nothing new, that is all -/
theorem cf_last {n : Nat} {B Hd : Nat → Int32} (hok : ∀ a, a < n → uI_ (Hd a) < 24) (set : Int32) {k : Nat} (h : cf_ n B Hd set (k + 1) = cf_ n B Hd set k) : cf_ n B Hd set k = cf_ n B Hd set n := by
  apply b_ext
  intro i _
  have h1 := cf_dr (B := B) hok set k i
  have h2 := cf_dr (B := B) hok set n i
  have h3 : dr_ n (bd_ B) (hd_ Hd) (fun a => bt set a = true) k i ↔ dr_ n (bd_ B) (hd_ Hd) (fun a => bt set a = true) n i := by
    constructor
    · exact dr_all k i
    · refine dr_last (fun f hf => ?_) i
      rw [← cf_dr hok set k f, ← h, cf_dr hok set (k + 1) f]
      exact hf
  rw [Bool.eq_iff_iff, h1, h2, h3]
theorem cf_lt {n : Nat} {B Hd : Nat → Int32} (hok : ∀ a, a < n → uI_ (Hd a) < 24) (set : Int32) (k : Nat) : uI_ (cf_ n B Hd set k) < 16777216 := by
  refine Nat.lt_pow_two_of_testBit (n := 24) _ fun i hi => ?_
  cases hb : (uI_ (cf_ n B Hd set k)).testBit i
  · rfl
  · have := dr_lt24 hok ((cf_dr (B := B) hok set k i).mp hb)
    omega
/-- in which step the goal follows: r -/
def st_is (F : Nat → Int32) (g : Nat) (r : Int32) : Prop := (r = 0 ∧ ∀ k, bt (F k) g = false) ∨ ∃ k, 1 ≤ k ∧ k < 2147483648 ∧ r = nI k ∧ bt (F k) g = true ∧ ∀ j, j < k → bt (F j) g = false
theorem st_one {F : Nat → Int32} {g : Nat} {r r' : Int32} (h : st_is F g r) (h' : st_is F g r') : r = r' := by
  rcases h with ⟨h1, h2⟩ | ⟨k, -, -, h1, h2, h3⟩
  · rcases h' with ⟨g1, g2⟩ | ⟨k', -, -, g1, g2, g3⟩
    · rw [h1, g1]
    · rw [h2 k'] at g2; cases g2
  · rcases h' with ⟨g1, g2⟩ | ⟨k', -, -, g1, g2, g3⟩
    · rw [g2 k] at h2; cases h2
    · rcases Nat.lt_trichotomy k k' with q | q | q
      · rw [g3 k q] at h2; cases h2
      · rw [h1, g1, q]
      · rw [h3 k' q] at g2; cases g2
