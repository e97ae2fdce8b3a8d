/-! ===== how many of the first n have a property ===== -/
noncomputable def ct_ (P : Nat → Prop) : Nat → Nat
  | 0 => 0
  | n + 1 => ct_ P n + @ite Nat (P n) (Classical.propDecidable _) 1 0
theorem ct_le (P : Nat → Prop) (n : Nat) : ct_ P n ≤ n := by
  induction n with
  | zero => exact Nat.le_refl 0
  | succ n ih =>
    unfold ct_
    split <;> omega
theorem ct_mono {P Q : Nat → Prop} {n : Nat} (h : ∀ a, a < n → P a → Q a) : ct_ P n ≤ ct_ Q n := by
  induction n with
  | zero => exact Nat.le_refl 0
  | succ n ih =>
    have h1 := ih (fun a ha => h a (by omega))
    unfold ct_
    by_cases hp : P n
    · have hq := h n (by omega) hp
      simp [hp, hq]
      exact h1
    · simp [hp]
      split <;> omega
theorem ct_lt {P Q : Nat → Prop} {n : Nat} (h : ∀ a, a < n → P a → Q a) (hx : ∃ a, a < n ∧ Q a ∧ ¬ P a) : ct_ P n + 1 ≤ ct_ Q n := by
  induction n with
  | zero =>
    obtain ⟨a, ha, -⟩ := hx
    omega
  | succ n ih =>
    obtain ⟨a, ha, hq, hp⟩ := hx
    by_cases e : a = n
    · subst e
      have h1 := ct_mono (P := P) (Q := Q) (n := a) (fun b hb => h b (by omega))
      unfold ct_
      simp [hp, hq]
      exact h1
    · have h1 := ih (fun b hb => h b (by omega)) ⟨a, by omega, hq, hp⟩
      unfold ct_
      by_cases hp2 : P n
      · have hq2 := h n (by omega) hp2
        simp [hp2, hq2]
        omega
      · simp [hp2]
        split <;> omega
/-! ===== what follows, step by step: n axioms with bodies bd and heads hd, those of S used ===== -/
def en_ (n : Nat) (bd : Nat → Nat → Prop) (hd : Nat → Nat) (S : Nat → Prop) : Nat → Nat → Prop
  | 0, _ => False
  | k + 1, a => S a ∧ ∀ g, bd a g → ∃ b, b < n ∧ en_ n bd hd S k b ∧ hd b = g
def dr_ (n : Nat) (bd : Nat → Nat → Prop) (hd : Nat → Nat) (S : Nat → Prop) (k f : Nat) : Prop := ∃ b, b < n ∧ en_ n bd hd S k b ∧ hd b = f
theorem en_mono {n : Nat} {bd : Nat → Nat → Prop} {hd : Nat → Nat} {S : Nat → Prop} : ∀ (k a : Nat), en_ n bd hd S k a → en_ n bd hd S (k + 1) a := by
  intro k
  induction k with
  | zero => intro a h; exact h.elim
  | succ k ih =>
    intro a h
    obtain ⟨h1, h2⟩ := h
    refine ⟨h1, fun g hg => ?_⟩
    obtain ⟨b, hb, he, hf⟩ := h2 g hg
    exact ⟨b, hb, ih b he, hf⟩
theorem dr_mono {n : Nat} {bd : Nat → Nat → Prop} {hd : Nat → Nat} {S : Nat → Prop} (k f : Nat) (h : dr_ n bd hd S k f) : dr_ n bd hd S (k + 1) f := by
  obtain ⟨b, hb, he, hf⟩ := h
  exact ⟨b, hb, en_mono k b he, hf⟩
theorem dr_le {n : Nat} {bd : Nat → Nat → Prop} {hd : Nat → Nat} {S : Nat → Prop} {k j f : Nat} (h : k ≤ j) (hd1 : dr_ n bd hd S k f) : dr_ n bd hd S j f := by
  induction h with
  | refl => exact hd1
  | step _ ih => exact dr_mono _ _ ih
/-- one step more -/
theorem dr_step {n : Nat} {bd : Nat → Nat → Prop} {hd : Nat → Nat} {S : Nat → Prop} (k f : Nat) : dr_ n bd hd S (k + 1) f ↔ ∃ a, a < n ∧ S a ∧ hd a = f ∧ ∀ g, bd a g → dr_ n bd hd S k g := by
  constructor
  · rintro ⟨b, hb, ⟨h1, h2⟩, hf⟩
    exact ⟨b, hb, h1, hf, h2⟩
  · rintro ⟨a, ha, h1, hf, h2⟩
    exact ⟨a, ha, ⟨h1, h2⟩, hf⟩
theorem en_stab {n : Nat} {bd : Nat → Nat → Prop} {hd : Nat → Nat} {S : Nat → Prop} (k : Nat) (h : ∀ a, a < n → en_ n bd hd S (k + 1) a → en_ n bd hd S k a) : ∀ a, a < n → en_ n bd hd S (k + 2) a → en_ n bd hd S (k + 1) a := by
  intro a ha h2
  obtain ⟨h3, h4⟩ := h2
  refine ⟨h3, fun g hg => ?_⟩
  obtain ⟨b, hb, he, hf⟩ := h4 g hg
  exact ⟨b, hb, h b hb he, hf⟩
theorem en_count {n : Nat} {bd : Nat → Nat → Prop} {hd : Nat → Nat} {S : Nat → Prop} : ∀ k, (∀ a, a < n → en_ n bd hd S (k + 1) a → en_ n bd hd S k a) ∨ k + 1 ≤ ct_ (en_ n bd hd S (k + 1)) n := by
  intro k
  induction k with
  | zero =>
    by_cases h : ∀ a, a < n → en_ n bd hd S (0 + 1) a → en_ n bd hd S 0 a
    · exact Or.inl h
    · right
      have hx : ∃ a, a < n ∧ en_ n bd hd S (0 + 1) a ∧ ¬ en_ n bd hd S 0 a := by
        refine Classical.byContradiction fun q => h fun a ha h1 => Classical.byContradiction fun h2 => q ⟨a, ha, h1, h2⟩
      have := ct_lt (P := en_ n bd hd S 0) (Q := en_ n bd hd S (0 + 1)) (fun a _ => en_mono (n := n) (bd := bd) (hd := hd) (S := S) 0 a) hx
      omega
  | succ k ih =>
    rcases ih with h | h
    · exact Or.inl (en_stab k h)
    · by_cases h0 : ∀ a, a < n → en_ n bd hd S (k + 1 + 1) a → en_ n bd hd S (k + 1) a
      · exact Or.inl h0
      · right
        have hx : ∃ a, a < n ∧ en_ n bd hd S (k + 1 + 1) a ∧ ¬ en_ n bd hd S (k + 1) a := by
          refine Classical.byContradiction fun q => h0 fun a ha h1 => Classical.byContradiction fun h2 => q ⟨a, ha, h1, h2⟩
        have := ct_lt (P := en_ n bd hd S (k + 1)) (Q := en_ n bd hd S (k + 1 + 1)) (fun a _ => en_mono (n := n) (bd := bd) (hd := hd) (S := S) (k + 1) a) hx
        omega
theorem en_fix {n : Nat} {bd : Nat → Nat → Prop} {hd : Nat → Nat} {S : Nat → Prop} : ∀ a, a < n → en_ n bd hd S (n + 1) a → en_ n bd hd S n a := by
  rcases en_count (n := n) (bd := bd) (hd := hd) (S := S) n with h | h
  · exact h
  · have := ct_le (en_ n bd hd S (n + 1)) n
    omega
/-- behind as many steps as there are axioms nothing more follows -/
theorem dr_fix {n : Nat} {bd : Nat → Nat → Prop} {hd : Nat → Nat} {S : Nat → Prop} (f : Nat) (h : dr_ n bd hd S (n + 1) f) : dr_ n bd hd S n f := by
  obtain ⟨b, hb, he, hf⟩ := h
  exact ⟨b, hb, en_fix b hb he, hf⟩
theorem dr_closed {n : Nat} {bd : Nat → Nat → Prop} {hd : Nat → Nat} {S : Nat → Prop} {a : Nat} (ha : a < n) (hS : S a) (h : ∀ g, bd a g → dr_ n bd hd S n g) : dr_ n bd hd S n (hd a) := dr_fix _ ((dr_step n (hd a)).mpr ⟨a, ha, hS, rfl, h⟩)
/-- what is closed holds all that follows -/
theorem dr_least {n : Nat} {bd : Nat → Nat → Prop} {hd : Nat → Nat} {S G : Nat → Prop} (hG : ∀ a, a < n → S a → (∀ g, bd a g → G g) → G (hd a)) : ∀ k f, dr_ n bd hd S k f → G f := by
  intro k
  induction k with
  | zero =>
    rintro f ⟨b, -, he, -⟩
    exact he.elim
  | succ k ih =>
    intro f h
    obtain ⟨a, ha, hS, hf, hb⟩ := (dr_step k f).mp h
    subst hf
    exact hG a ha hS (fun g hg => ih g (hb g hg))
theorem dr_all {n : Nat} {bd : Nat → Nat → Prop} {hd : Nat → Nat} {S : Nat → Prop} (k f : Nat) (h : dr_ n bd hd S k f) : dr_ n bd hd S n f := dr_least (fun _ ha hS hb => dr_closed ha hS hb) k f h
/-- a step that gives nothing new is the last -/
theorem dr_last {n : Nat} {bd : Nat → Nat → Prop} {hd : Nat → Nat} {S : Nat → Prop} {k : Nat} (h : ∀ f, dr_ n bd hd S (k + 1) f → dr_ n bd hd S k f) (f : Nat) (hf : dr_ n bd hd S n f) : dr_ n bd hd S k f := dr_least (G := dr_ n bd hd S k) (fun a ha hS hb => h _ ((dr_step k (hd a)).mpr ⟨a, ha, hS, rfl, hb⟩)) n f hf
theorem dr_congr {n : Nat} {bd : Nat → Nat → Prop} {hd : Nat → Nat} {S S' : Nat → Prop} (h : ∀ a, a < n → S a → S' a) : ∀ k f, dr_ n bd hd S k f → dr_ n bd hd S' k f := by
  intro k
  induction k with
  | zero =>
    rintro f ⟨b, -, he, -⟩
    exact he.elim
  | succ k ih =>
    intro f hf
    obtain ⟨a, ha, hS, e, hb⟩ := (dr_step k f).mp hf
    exact (dr_step k f).mpr ⟨a, ha, h a ha hS, e, fun g hg => ih g (hb g hg)⟩
