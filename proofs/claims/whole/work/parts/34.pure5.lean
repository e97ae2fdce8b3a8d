theorem st_none {n : Nat} {B Hd : Nat → Int32} (hok : ∀ a, a < n → uI_ (Hd a) < 24) {x : Int32} {g : Nat} (h : ∀ j, j ≤ n → bt (cf_ n B Hd x j) g = false) : st_is (cf_ n B Hd x) g 0 := by
  refine Or.inl ⟨rfl, fun k => ?_⟩
  rcases Nat.lt_or_ge n k with q | q
  · rw [cf_fix hok x (by omega)]; exact h n (Nat.le_refl _)
  · exact h k q
theorem hu_no {n : Nat} {x r : Int32} (hn : n < 2147483648) (h : has_is n x r) (c : r = 0) : ¬ uI_ x < n := by
  rcases has_uI hn h with h | h
  · rw [h.1] at c; exact absurd c (by decide)
  · exact h.2
theorem hu_yes {n : Nat} {x r : Int32} (hn : n < 2147483648) (h : has_is n x r) (c : ¬ r = 0) : uI_ x < n ∧ x = nI (uI_ x) := by
  rcases has_uI hn h with h | h
  · exact h.2
  · exact absurd h.1 c
theorem at_val {S : Nat → Int32} {z k : Nat} {r : Int32} (hz : z < 2147483648) (hk : k < z) (h : at_is S z (nI k) r) : r = S k := by
  rcases h with ⟨j, hj, e, er⟩ | ⟨-, h⟩
  · have : k = j := (nI_eq (by omega) (by omega)).mp e
    subst this
    exact er
  · exact absurd rfl (h k hk)
theorem y_01 {y : Int32} (h : uI_ y ≤ 1) (h1 : ¬ y = nI 1) : y = 0 := by
  have h0 : uI_ y = 0 := by
    rcases Nat.lt_or_ge (uI_ y) 1 with q | q
    · omega
    · exact absurd (by rw [← nI_uI y, show uI_ y = 1 by omega]) h1
  rw [← nI_uI y, h0]
  rfl
theorem lt_yes {W S : Nat → Int32} {n k : Nat} {y2 y3 : Int32} (e : (y2, y3) = lt_ W S n k) (h : y2 = -2 ∨ wo_ W (S k) n < y3) : (nI k, wo_ W (S k) n) = lt_ W S n (k + 1) := by
  show _ = if (lt_ W S n k).1 = -2 ∨ wo_ W (S k) n < (lt_ W S n k).2 then _ else _
  rw [← e, if_pos h]
theorem lt_no {W S : Nat → Int32} {n k : Nat} {y2 y3 : Int32} (e : (y2, y3) = lt_ W S n k) (h : ¬ y2 = -2) (h2 : ¬ wo_ W (S k) n < y3) : (y2, y3) = lt_ W S n (k + 1) := by
  show _ = if (lt_ W S n k).1 = -2 ∨ wo_ W (S k) n < (lt_ W S n k).2 then _ else _
  rw [← e, if_neg (fun q => q.elim h h2)]
theorem i32_nlt {x y : Int32} (h : y ≤ x) : ¬ x < y := by
  rw [Int32.le_iff_toInt_le] at h
  rw [Int32.lt_iff_toInt_lt]
  omega
theorem i32_lt {x y : Int32} (h : ¬ y ≤ x) : x < y := by
  rw [Int32.le_iff_toInt_le] at h
  rw [Int32.lt_iff_toInt_lt]
  omega
