abbrev Jm_ : Type := Int32 × (Nat → Int32) × Nat × (Nat → Int32) × Nat × (Nat → Int32) × Int32 × Int32
def IM_ (n : Nat) (B Hd Fx : Nat → Int32) (g : Nat) (kn : Int32) (z1 : Nat) (S1 : Nat → Int32) (z2 : Nat) (S2 : Nat → Int32) : Prop :=
  (kn = 0 ∨ kn = 1) ∧ (kn = 1 → z1 = (CL_ n B Hd g).length ∧ sx_ S1 (CL_ n B Hd g) ∧ z2 = (QL_ n B Hd Fx g).length ∧ sx_ S2 (QL_ n B Hd Fx g))
def im_ : Co_ → Jm_ → Prop
  | (n, B, H, _, F, g), (kn, _, z1, S1, z2, S2, _, _) => IM_ n B H F g kn z1 S1 z2 S2
theorem IM_0 {n : Nat} {B Hd Fx : Nat → Int32} {g : Nat} {z1 : Nat} {S1 : Nat → Int32} {z2 : Nat} {S2 : Nat → Int32} : IM_ n B Hd Fx g 0 z1 S1 z2 S2 := ⟨Or.inl rfl, fun h => absurd h (by decide)⟩
theorem lt_uI {x : Int32} {m : Nat} (hm : m < 2147483648) : (¬ x < 0 ∧ ¬ nI m ≤ x) ↔ uI_ x < m := by
  constructor
  · rintro ⟨h1, h2⟩
    obtain ⟨j, hj, e, -⟩ := pk_mu h1 h2 hm
    rw [e, uI_nI (by omega)]
    exact hj
  · intro h
    rw [← nI_uI x]
    exact ⟨nI_pos (by omega), nI_ge h (by omega)⟩
theorem i32_nle {x y : Int32} (h : x < y) : ¬ y ≤ x := by
  rw [Int32.lt_iff_toInt_lt] at h
  rw [Int32.le_iff_toInt_le]
  omega
theorem lt_uI2 {x : Int32} {m : Nat} (hm : m < 2147483648) (h1 : ¬ x < 0) (h2 : x < nI m) : uI_ x < m := (lt_uI hm).mp ⟨h1, i32_nle h2⟩
theorem wm_step {W : Nat → Int32} {s : Int32} {a : Nat} (ha : a < 32) : wo_ W s a + ((s >>> (nI a &&& 31)) &&& 1) * W a = wo_ W s (a + 1) := by
  rw [b_ask ha]
  show _ = if bt s a = true then _ else _
  cases bt s a
  · simp
  · simp
theorem lt_sgn {W S : Nat → Int32} {n : Nat} : ∀ k, k < 2147483648 → ((lt_ W S n k).1 = -2 ∨ ∃ j, j < k ∧ (lt_ W S n k).1 = nI j) := by
  intro k
  induction k with
  | zero => intro _; exact Or.inl rfl
  | succ k ih =>
    intro hk
    show (if (lt_ W S n k).1 = -2 ∨ wo_ W (S k) n < (lt_ W S n k).2 then (nI k, wo_ W (S k) n) else lt_ W S n k).1 = -2 ∨ ∃ j, j < k + 1 ∧ (if (lt_ W S n k).1 = -2 ∨ wo_ W (S k) n < (lt_ W S n k).2 then (nI k, wo_ W (S k) n) else lt_ W S n k).1 = nI j
    split
    · exact Or.inr ⟨k, by omega, rfl⟩
    · rcases ih (by omega) with q | ⟨j, hj, e⟩
      · exact Or.inl q
      · exact Or.inr ⟨j, by omega, e⟩
theorem lt_neg {W S : Nat → Int32} {n k : Nat} {y2 y3 : Int32} (hk : k < 2147483648) (e : (y2, y3) = lt_ W S n k) (h : y2 < 0) : y2 = -2 := by
  have e1 : y2 = (lt_ W S n k).1 := congrArg Prod.fst e
  rcases lt_sgn (W := W) (S := S) (n := n) k hk with q | ⟨j, hj, q⟩
  · rw [e1, q]
  · rw [e1, q] at h
    exact absurd h (nI_pos (by omega))
theorem lt_pos {y2 : Int32} (h : ¬ y2 < 0) : ¬ y2 = -2 := fun q => by rw [q] at h; exact h (by decide)
theorem sz_step {k w c t : Nat} (hw : w < 2 ^ (k + 1)) (h : c + pcF (k + 1) w = t) : w / 2 < 2 ^ k ∧ (c + w % 2) + pcF k (w / 2) = t := by
  refine ⟨Nat.div_lt_of_lt_mul (by rw [Nat.mul_comm, ← Nat.pow_succ]; exact hw), ?_⟩
  have e : pcF (k + 1) w = w % 2 + pcF k (w / 2) := rfl
  omega
