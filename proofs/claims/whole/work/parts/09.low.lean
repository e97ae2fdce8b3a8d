/-! ===== the lowest bit of a number, and the number without it ===== -/
theorem low_dec {n p : Nat} (hp : n.testBit p = true) (hl : ∀ i, i < p → n.testBit i = false) (i : Nat) : (n - 1).testBit i = (decide (i < p) || (decide (p < i) && n.testBit i)) := by
  have hm : n % 2 ^ p = 0 := by
    apply Nat.eq_of_testBit_eq
    intro j
    rw [Nat.testBit_mod_two_pow, Nat.zero_testBit]
    by_cases h : j < p
    · rw [hl j h]; simp
    · simp [h]
  have hq : n / 2 ^ p % 2 = 1 := by
    rw [Nat.testBit_eq_decide_div_mod_eq] at hp
    exact of_decide_eq_true hp
  have hd := Nat.div_add_mod n (2 ^ p)
  generalize hk : n / 2 ^ p = k at *
  have hpos : 0 < 2 ^ p := Nat.two_pow_pos p
  have hk2 : k = (k - 1) + 1 := by omega
  have e : n - 1 = 2 ^ p * (k - 1) + (2 ^ p - 1) := by
    have e2 : 2 ^ p * k = 2 ^ p * (k - 1) + 2 ^ p := by
      conv => lhs; rw [hk2]
      rw [Nat.mul_add, Nat.mul_one]
    omega
  have e3 : n = 2 ^ p * k + 0 := by omega
  rw [e, Nat.testBit_two_pow_mul_add (k - 1) (by omega) i]
  by_cases h1 : i < p
  · rw [if_pos h1, Nat.testBit_two_pow_sub_one]
    simp [h1]
  · rw [if_neg h1]
    by_cases h2 : i = p
    · subst h2
      rw [Nat.sub_self, Nat.testBit_zero]
      have : ¬ (k - 1) % 2 = 1 := by omega
      simp [this]
    · have h3 : p < i := by omega
      conv => rhs; rw [e3]
      rw [Nat.testBit_two_pow_mul_add k hpos i, if_neg h1]
      have h4 : i - p = (i - p - 1) + 1 := by omega
      rw [h4, Nat.testBit_succ, Nat.testBit_succ]
      have h5 : (k - 1) / 2 = k / 2 := by omega
      rw [h5]
      simp [h1, h3]
theorem uL_1 : uL_ 1 = 1 := by decide +kernel
theorem uI_1 : uI_ 1 = 1 := by decide +kernel
theorem tb_pos {n p : Nat} (hp : n.testBit p = true) : 1 ≤ n := by
  rcases Nat.eq_zero_or_pos n with h | h
  · subst h
    rw [Nat.zero_testBit] at hp
    cases hp
  · exact h
theorem l_dec {x : Int64} {p : Nat} (hp : bl x p = true) (hl : ∀ i, i < p → bl x i = false) (i : Nat) : bl (x - 1) i = (decide (i < p) || (decide (p < i) && bl x i)) := by
  rw [uL_bl, uL_sub (by rw [uL_1]; exact tb_pos hp), uL_1]
  exact low_dec hp hl i
theorem b_dec {x : Int32} {p : Nat} (hp : bt x p = true) (hl : ∀ i, i < p → bt x i = false) (i : Nat) : bt (x - 1) i = (decide (i < p) || (decide (p < i) && bt x i)) := by
  rw [uI_bt, uI_sub (by rw [uI_1]; exact tb_pos hp), uI_1]
  exact low_dec hp hl i
theorem l_neg {x : Int64} (hx : 1 ≤ uL_ x) {i : Nat} (hi : i < 64) : bl (-x) i = !bl (x - 1) i := by
  rw [uL_bl, uL_bl, uL_sub (by rw [uL_1]; exact hx), uL_1]
  have hlt := uL_lt x
  have e : uL_ (-x) = 2 ^ 64 - ((uL_ x - 1) + 1) := by
    unfold uL_ at *
    rw [Int64.toBitVec_neg, BitVec.toNat_neg]
    omega
  rw [e, Nat.testBit_two_pow_sub_succ (by omega) i]
  simp [hi]
theorem l_low {x : Int64} {p : Nat} (hp64 : p < 64) (hp : bl x p = true) (hl : ∀ i, i < p → bl x i = false) : x &&& (-x) = lN (2 ^ p) := by
  apply l_ext
  intro i hi
  rw [l_and, l_neg (tb_pos hp) hi, l_dec hp hl i]
  have hlt : 2 ^ p < 18446744073709551616 := Nat.pow_lt_pow_right (by omega) hp64
  rw [uL_bl (lN (2 ^ p)), uL_lN hlt, Nat.testBit_two_pow]
  by_cases h1 : i < p
  · rw [hl i h1]
    have : ¬ p = i := by omega
    simp [this]
  · by_cases h2 : p = i
    · subst h2
      rw [hp]
      simp
    · have h3 : p < i := by omega
      simp [h1, h2, h3]
theorem lc_low : ∀ p, p < 64 → lc_ (lN (2 ^ p) - 1) = nI p := by decide +kernel
theorem low_on {x : Int64} {p : Nat} {t : List Nat} (h : on_ (bl x) 0 64 = p :: t) : p < 64 ∧ bl x p = true ∧ lc_ ((x &&& (-x)) - 1) = nI p ∧ on_ (bl (x &&& (x - 1))) 0 64 = t := by
  have hm : p ∈ on_ (bl x) 0 64 := by rw [h]; exact List.mem_cons_self
  obtain ⟨-, h1, h2⟩ := (on_mem 64 0).mp hm
  obtain ⟨q, hq, hq2⟩ := pk_least (fun i => bl x i = true) ⟨p, h2⟩
  have hq3 : ∀ i, i < q → bl x i = false := fun i hi => by
    cases hb : bl x i
    · rfl
    · exact absurd hb (hq2 i hi)
  have hq4 : q < 64 := by
    refine Classical.byContradiction fun z => ?_
    rw [l_big (by omega)] at hq
    cases hq
  have hf := on_first (f := bl x) (g := bl (x &&& (x - 1))) (p := q) 64 0 (Nat.zero_le _) (by omega) hq (fun j _ hj => hq3 j hj) (fun j _ hj => by
    rw [l_and, l_dec hq hq3 j]
    by_cases a : j < q
    · have : j ≠ q := by omega
      rw [hq3 j a]; simp
    · by_cases b : j = q
      · subst b; simp
      · have c : q < j := by omega
        cases bl x j <;> simp [a, b, c])
  rw [h] at hf
  injection hf with e1 e2
  subst e1
  refine ⟨by omega, h2, ?_, e2.symm⟩
  rw [l_low (by omega) hq hq3, lc_low p (by omega)]
theorem i2l_bits {x : Int32} (hx : uI_ x < 2147483648) : x.toInt64 = lN (uI_ x) := by
  have e : x = nI (uI_ x) := uI_inj (by rw [uI_nI (uI_lt x)])
  conv => lhs; rw [e]
  exact nI_l hx
theorem low_onI {x : Int32} {p : Nat} {t : List Nat} (hx : uI_ x < 2147483648) (h : on_ (bt x) 0 32 = p :: t) : p < 32 ∧ bt x p = true ∧ lc_ ((x.toInt64 &&& (-x.toInt64)) - 1) = nI p ∧ on_ (bt (x &&& (x - 1))) 0 32 = t ∧ uI_ (x &&& (x - 1)) < 2147483648 := by
  have hm : p ∈ on_ (bt x) 0 32 := by rw [h]; exact List.mem_cons_self
  obtain ⟨-, h1, h2⟩ := (on_mem 32 0).mp hm
  obtain ⟨q, hq, hq2⟩ := pk_least (fun i => bt x i = true) ⟨p, h2⟩
  have hq3 : ∀ i, i < q → bt x i = false := fun i hi => by
    cases hb : bt x i
    · rfl
    · exact absurd hb (hq2 i hi)
  have hq4 : q < 32 := by
    refine Classical.byContradiction fun z => ?_
    rw [b_big (by omega)] at hq
    cases hq
  have hf := on_first (f := bt x) (g := bt (x &&& (x - 1))) (p := q) 32 0 (Nat.zero_le _) (by omega) hq (fun j _ hj => hq3 j hj) (fun j _ hj => by
    rw [b_and, b_dec hq hq3 j]
    by_cases a : j < q
    · have : j ≠ q := by omega
      rw [hq3 j a]; simp
    · by_cases b : j = q
      · subst b; simp
      · have c : q < j := by omega
        cases bt x j <;> simp [a, b, c])
  rw [h] at hf
  injection hf with e1 e2
  subst e1
  refine ⟨by omega, h2, ?_, e2.symm, ?_⟩
  · rw [i2l_bits hx]
    have hb : ∀ i, bl (lN (uI_ x)) i = bt x i := fun i => by rw [uL_bl, uL_lN (by omega), uI_bt]
    rw [l_low (p := p) (by omega) (by rw [hb]; exact hq) (fun i hi => by rw [hb]; exact hq3 i hi), lc_low p (by omega)]
  · rw [uI_and]
    exact Nat.lt_of_le_of_lt Nat.and_le_left hx
