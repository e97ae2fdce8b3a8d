/-! ===== counting bits as the JDK does it, over Nat, byte by byte ===== -/
theorem and_split {a b c d : Nat} (hb : b < 256) (hd : d < 256) : (256 * a + b) &&& (256 * c + d) = 256 * (a &&& c) + (b &&& d) := by
  have hbd : b &&& d < 2 ^ 8 := Nat.and_lt_two_pow b hd
  apply Nat.eq_of_testBit_eq
  intro i
  rw [Nat.testBit_and]
  rw [show 256 * a + b = 2 ^ 8 * a + b from rfl, show 256 * c + d = 2 ^ 8 * c + d from rfl, show 256 * (a &&& c) + (b &&& d) = 2 ^ 8 * (a &&& c) + (b &&& d) from rfl]
  rw [Nat.testBit_two_pow_mul_add a (show b < 2 ^ 8 from hb) i, Nat.testBit_two_pow_mul_add c (show d < 2 ^ 8 from hd) i, Nat.testBit_two_pow_mul_add (a &&& c) hbd i]
  split
  · rw [Nat.testBit_and]
  · rw [Nat.testBit_and]
def m55 : Nat → Nat
  | 0 => 0
  | k + 1 => 256 * m55 k + 0x55
def m33 : Nat → Nat
  | 0 => 0
  | k + 1 => 256 * m33 k + 0x33
def m0f : Nat → Nat
  | 0 => 0
  | k + 1 => 256 * m0f k + 0x0f
def p1_ (m x : Nat) : Nat := x - ((x / 2) &&& m)
def p2_ (m x : Nat) : Nat := (x &&& m) + ((x / 4) &&& m)
def p3_ (m x : Nat) : Nat := (x + x / 16) &&& m
theorem pd_1 : ∀ b, b < 256 → ∀ r, r < 2 → (128 * r + b / 2) &&& 0x55 = (b / 2) &&& 0x55 ∧ (b / 2) &&& 0x55 ≤ b ∧ p1_ 0x55 b < 256 := by decide +kernel
theorem pd_2 : ∀ b, b < 256 → ∀ r, r < 4 → (64 * r + b / 4) &&& 0x33 = (b / 4) &&& 0x33 := by decide +kernel
theorem pd_2b : ∀ b, b < 256 → p2_ 0x33 (p1_ 0x55 b) < 69 ∧ p2_ 0x33 (p1_ 0x55 b) / 16 ≤ 4 ∧ p2_ 0x33 (p1_ 0x55 b) % 16 ≤ 4 ∧ p3_ 0x0f (p2_ 0x33 (p1_ 0x55 b)) = pcF 8 b := by decide +kernel
theorem pd_3 : ∀ q, q < 69 → q / 16 ≤ 4 → ∀ r, r < 5 → (q + q / 16 + 16 * r) &&& 0x0f = (q + q / 16) &&& 0x0f ∧ q + q / 16 + 16 * r < 256 := by decide +kernel
theorem p1_split (k y b : Nat) (hb : b < 256) : p1_ (m55 (k + 1)) (256 * y + b) = 256 * p1_ (m55 k) y + p1_ 0x55 b := by
  unfold p1_
  have e1 : (256 * y + b) / 2 = 256 * (y / 2) + (128 * (y % 2) + b / 2) := by omega
  have h2 : y % 2 < 2 := Nat.mod_lt _ (by omega)
  obtain ⟨g1, g2, g3⟩ := pd_1 b hb (y % 2) h2
  rw [e1]
  show _ - ((256 * (y / 2) + (128 * (y % 2) + b / 2)) &&& (256 * m55 k + 0x55)) = _
  rw [and_split (by omega) (by omega), g1]
  have h3 : (y / 2) &&& m55 k ≤ y / 2 := Nat.and_le_left
  omega
theorem p2_split (k y b : Nat) (hb : b < 256) : p2_ (m33 (k + 1)) (256 * y + b) = 256 * p2_ (m33 k) y + p2_ 0x33 b := by
  unfold p2_
  have e1 : (256 * y + b) / 4 = 256 * (y / 4) + (64 * (y % 4) + b / 4) := by omega
  have h2 : y % 4 < 4 := Nat.mod_lt _ (by omega)
  have g1 := pd_2 b hb (y % 4) h2
  rw [e1]
  show ((256 * y + b) &&& (256 * m33 k + 0x33)) + ((256 * (y / 4) + (64 * (y % 4) + b / 4)) &&& (256 * m33 k + 0x33)) = _
  rw [and_split hb (by omega), and_split (by omega) (by omega), g1]
  omega
theorem p3_split (k y q : Nat) (hq : q < 69) (hq2 : q / 16 ≤ 4) (hy : y % 16 ≤ 4) : p3_ (m0f (k + 1)) (256 * y + q) = 256 * p3_ (m0f k) y + p3_ 0x0f q := by
  unfold p3_
  have e1 : 256 * y + q + (256 * y + q) / 16 = 256 * (y + y / 16) + (q + q / 16 + 16 * (y % 16)) := by omega
  obtain ⟨g1, g2⟩ := pd_3 q hq hq2 (y % 16) (by omega)
  rw [e1]
  show (256 * (y + y / 16) + (q + q / 16 + 16 * (y % 16))) &&& (256 * m0f k + 0x0f) = _
  rw [and_split g2 (by omega), g1]
def pb_ (k x : Nat) : Nat := p3_ (m0f k) (p2_ (m33 k) (p1_ (m55 k) x))
theorem pb_low (k x : Nat) (h : x < 256 ^ k) : p2_ (m33 k) (p1_ (m55 k) x) % 16 ≤ 4 := by
  match k with
  | 0 =>
    have : x = 0 := by
      have : 256 ^ 0 = 1 := rfl
      omega
    subst this
    decide
  | k + 1 =>
    have hb : x % 256 < 256 := Nat.mod_lt _ (by omega)
    have e : x = 256 * (x / 256) + x % 256 := by omega
    rw [e, p1_split k _ _ hb, p2_split k _ _ (pd_1 _ hb 0 (by omega)).2.2]
    have := (pd_2b _ hb).2.2.1
    omega
theorem pb_split (k x : Nat) (h : x < 256 ^ (k + 1)) : pb_ (k + 1) x = 256 * pb_ k (x / 256) + pcF 8 (x % 256) := by
  have hb : x % 256 < 256 := Nat.mod_lt _ (by omega)
  have e : x = 256 * (x / 256) + x % 256 := by omega
  have hy : x / 256 < 256 ^ k := by
    rw [Nat.pow_succ] at h
    exact Nat.div_lt_of_lt_mul (by rw [Nat.mul_comm]; exact h)
  obtain ⟨g1, g2, g3, g4⟩ := pd_2b _ hb
  unfold pb_
  conv => lhs; rw [e]
  rw [p1_split k _ _ hb, p2_split k _ _ (pd_1 _ hb 0 (by omega)).2.2, p3_split k _ _ g1 g2 (pb_low k _ hy), g4]
theorem pcF_mod (k s : Nat) : pcF k (s % 2 ^ k) = pcF k s := by
  rw [← pcF_on, ← pcF_on]
  congr 1
  exact on_congr k 0 (fun j _ h => by rw [Nat.testBit_mod_two_pow]; simp [show j < k by omega])
theorem pcF_8 (k s : Nat) : pcF (8 + k) s = pcF 8 (s % 256) + pcF k (s / 256) := by
  rw [pcF_add, show (256 : Nat) = 2 ^ 8 from rfl, pcF_mod]
