/-! ===== the numbers from i on, k of them, that have a property, in order ===== -/
def on_ (f : Nat → Bool) : Nat → Nat → List Nat
  | _, 0 => []
  | i, k + 1 => if f i = true then i :: on_ f (i + 1) k else on_ f (i + 1) k
theorem on_app (f : Nat → Bool) : ∀ (k1 i k2 : Nat), on_ f i (k1 + k2) = on_ f i k1 ++ on_ f (i + k1) k2 := by
  intro k1
  induction k1 with
  | zero =>
    intro i k2
    rw [Nat.zero_add, Nat.add_zero]
    rfl
  | succ k1 ih =>
    intro i k2
    rw [show k1 + 1 + k2 = (k1 + k2) + 1 by omega]
    show (if f i = true then i :: on_ f (i + 1) (k1 + k2) else on_ f (i + 1) (k1 + k2)) = (if f i = true then i :: on_ f (i + 1) k1 else on_ f (i + 1) k1) ++ _
    rw [ih (i + 1) k2, show i + 1 + k1 = i + (k1 + 1) by omega]
    split <;> rfl
theorem on_succ (f : Nat → Bool) (i k : Nat) : on_ f i (k + 1) = on_ f i k ++ (if f (i + k) = true then [i + k] else []) := by
  rw [on_app f k i 1]
  rfl
theorem on_congr {f g : Nat → Bool} : ∀ (k i : Nat), (∀ j, i ≤ j → j < i + k → f j = g j) → on_ f i k = on_ g i k := by
  intro k
  induction k with
  | zero => intro i _; rfl
  | succ k ih =>
    intro i h
    show (if f i = true then i :: on_ f (i + 1) k else on_ f (i + 1) k) = (if g i = true then i :: on_ g (i + 1) k else on_ g (i + 1) k)
    rw [h i (by omega) (by omega), ih (i + 1) (fun j h1 h2 => h j (by omega) (by omega))]
theorem on_nil {f : Nat → Bool} : ∀ (k i : Nat), (∀ j, i ≤ j → j < i + k → f j = false) → on_ f i k = [] := by
  intro k
  induction k with
  | zero => intro i _; rfl
  | succ k ih =>
    intro i h
    show (if f i = true then i :: on_ f (i + 1) k else on_ f (i + 1) k) = []
    rw [h i (by omega) (by omega), ih (i + 1) (fun j h1 h2 => h j (by omega) (by omega))]
    rfl
theorem on_mem {f : Nat → Bool} {j : Nat} : ∀ (k i : Nat), j ∈ on_ f i k ↔ i ≤ j ∧ j < i + k ∧ f j = true := by
  intro k
  induction k with
  | zero =>
    intro i
    constructor
    · intro h; cases h
    · rintro ⟨h1, h2, -⟩; omega
  | succ k ih =>
    intro i
    show j ∈ (if f i = true then i :: on_ f (i + 1) k else on_ f (i + 1) k) ↔ _
    by_cases hf : f i = true
    · rw [if_pos hf, List.mem_cons, ih]
      constructor
      · rintro (rfl | ⟨h1, h2, h3⟩)
        · exact ⟨Nat.le_refl _, by omega, hf⟩
        · exact ⟨by omega, by omega, h3⟩
      · rintro ⟨h1, h2, h3⟩
        by_cases e : j = i
        · exact Or.inl e
        · exact Or.inr ⟨by omega, by omega, h3⟩
    · rw [if_neg hf, ih]
      constructor
      · rintro ⟨h1, h2, h3⟩
        exact ⟨by omega, by omega, h3⟩
      · rintro ⟨h1, h2, h3⟩
        have : j ≠ i := by
          intro e
          subst e
          exact hf h3
        exact ⟨by omega, by omega, h3⟩
theorem on_len (f : Nat → Bool) : ∀ (k i : Nat), (on_ f i k).length ≤ k := by
  intro k
  induction k with
  | zero => intro i; exact Nat.le_refl 0
  | succ k ih =>
    intro i
    have := ih (i + 1)
    show (if f i = true then i :: on_ f (i + 1) k else on_ f (i + 1) k).length ≤ k + 1
    split
    · rw [List.length_cons]; omega
    · omega
/-- the numbers move along -/
theorem on_shift (f : Nat → Bool) (d : Nat) : ∀ (k i : Nat), on_ f (d + i) k = (on_ (fun j => f (d + j)) i k).map (fun j => d + j) := by
  intro k
  induction k with
  | zero => intro i; rfl
  | succ k ih =>
    intro i
    show (if f (d + i) = true then (d + i) :: on_ f (d + i + 1) k else on_ f (d + i + 1) k) = ((if f (d + i) = true then i :: on_ (fun j => f (d + j)) (i + 1) k else on_ (fun j => f (d + j)) (i + 1) k)).map _
    rw [show d + i + 1 = d + (i + 1) by omega, ih (i + 1)]
    split <;> simp
/-- the first of them is taken away -/
theorem on_first {f g : Nat → Bool} {p : Nat} : ∀ (k i : Nat), i ≤ p → p < i + k → f p = true → (∀ j, i ≤ j → j < p → f j = false) → (∀ j, i ≤ j → j < i + k → g j = (f j && decide (j ≠ p))) → on_ f i k = p :: on_ g i k := by
  intro k
  induction k with
  | zero => intro i h1 h2; omega
  | succ k ih =>
    intro i h1 h2 hp hlo hg
    show (if f i = true then i :: on_ f (i + 1) k else on_ f (i + 1) k) = p :: (if g i = true then i :: on_ g (i + 1) k else on_ g (i + 1) k)
    by_cases e : i = p
    · subst e
      have hgi : g i = false := by rw [hg i (by omega) (by omega)]; simp
      rw [if_pos hp, hgi, if_neg (by decide)]
      have e2 : on_ f (i + 1) k = on_ g (i + 1) k := on_congr k (i + 1) (fun j h3 h4 => by
        rw [hg j (by omega) (by omega)]
        have hne : j ≠ i := by omega
        simp [hne])
      rw [e2]
    · have hfi : f i = false := hlo i (by omega) (by omega)
      have hgi : g i = false := by rw [hg i (by omega) (by omega), hfi]; rfl
      rw [hfi, hgi, if_neg (by decide), if_neg (by decide)]
      exact ih (i + 1) (by omega) (by omega) hp (fun j h3 h4 => hlo j (by omega) h4) (fun j h3 h4 => hg j (by omega) (by omega))
/-- the list of a table of lists -/
def cc_ (g : Nat → List Nat) : Nat → List Nat
  | 0 => []
  | n + 1 => cc_ g n ++ g n
theorem cc_congr {g h : Nat → List Nat} : ∀ n, (∀ k, k < n → g k = h k) → cc_ g n = cc_ h n := by
  intro n
  induction n with
  | zero => intro _; rfl
  | succ n ih =>
    intro e
    show cc_ g n ++ g n = cc_ h n ++ h n
    rw [ih (fun k hk => e k (by omega)), e n (by omega)]
theorem cc_more {g : Nat → List Nat} {n : Nat} : ∀ m, n ≤ m → (∀ k, n ≤ k → k < m → g k = []) → cc_ g m = cc_ g n := by
  intro m
  induction m with
  | zero =>
    intro h _
    rw [show n = 0 by omega]
  | succ m ih =>
    intro h e
    by_cases q : n = m + 1
    · rw [q]
    · show cc_ g m ++ g m = _
      rw [ih (by omega) (fun k h1 h2 => e k h1 (by omega)), e m (by omega) (by omega), List.append_nil]
theorem cc_mem {g : Nat → List Nat} {x : Nat} : ∀ n, x ∈ cc_ g n ↔ ∃ k, k < n ∧ x ∈ g k := by
  intro n
  induction n with
  | zero =>
    constructor
    · intro h; cases h
    · rintro ⟨k, hk, -⟩; omega
  | succ n ih =>
    show x ∈ cc_ g n ++ g n ↔ _
    rw [List.mem_append, ih]
    constructor
    · rintro (⟨k, hk, h⟩ | h)
      · exact ⟨k, by omega, h⟩
      · exact ⟨n, by omega, h⟩
    · rintro ⟨k, hk, h⟩
      by_cases e : k = n
      · subst e; exact Or.inr h
      · exact Or.inl ⟨k, by omega, h⟩
