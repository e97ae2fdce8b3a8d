theorem st_none {n : Nat} {B Hd : Nat → Int32} (hok : ∀ a, a < n → uI_ (Hd a) < 24) {x : Int32} {g : Nat} (h : ∀ j, j ≤ n → bt (cf_ n B Hd x j) g = false) : st_is (cf_ n B Hd x) g 0 := by
  refine Or.inl ⟨rfl, fun k => ?_⟩
  rcases Nat.lt_or_ge n k with q | q
  · rw [cf_fix hok x (by omega)]; exact h n (Nat.le_refl _)
  · exact h k q
theorem hu_no {n : Nat} {x r : Int32} (hn : n < 2147483648) (h : has_is n x r) (c : r = 0) : ¬ uI_ x < n := by
  rcases has_uI hn h with h | h
  · rw [h.1] at c; exact absurd c (by decide)
  · exact h.2
theorem hu_yes {n : Nat} {x r : Int32} (hn : n < 2147483648) (h : has_is n x r) (c : ¬ r = 0) : uI_ x < n ∧ x = nI (uI_ x) := by
  rcases has_uI hn h with h | h
  · exact h.2
  · exact absurd h.1 c
