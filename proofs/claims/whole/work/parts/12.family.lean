/-! ===== set s is bit s % 64 of word s / 64 ===== -/
theorem tb_wj {w j : Nat} (hj : j < 64) (i : Nat) : (w * 64 + j).testBit i = if i < 6 then j.testBit i else w.testBit (i - 6) := by
  rw [show w * 64 + j = 2 ^ 6 * w + j by omega]
  exact Nat.testBit_two_pow_mul_add w (show j < 2 ^ 6 from hj) i
theorem flip_lo {w j a : Nat} (hj : j < 64) (ha : a < 6) : (w * 64 + j) ^^^ 2 ^ a = w * 64 + (j ^^^ 2 ^ a) := by
  have h2 : j ^^^ 2 ^ a < 64 := Nat.xor_lt_two_pow (n := 6) hj (Nat.pow_lt_pow_right (by omega) ha)
  apply Nat.eq_of_testBit_eq
  intro i
  rw [tb_flip, tb_wj hj, tb_wj h2, tb_flip]
  by_cases h : i < 6
  · simp [h]
  · have : ¬ a = i := by omega
    simp [h, this]
theorem flip_hi {w j a : Nat} (hj : j < 64) : (w * 64 + j) ^^^ 2 ^ (a + 6) = (w ^^^ 2 ^ a) * 64 + j := by
  apply Nat.eq_of_testBit_eq
  intro i
  rw [tb_flip, tb_wj hj, tb_wj hj, tb_flip]
  by_cases h : i < 6
  · have : ¬ a + 6 = i := by omega
    simp [h, this]
  · have : (a + 6 = i) ↔ (a = i - 6) := by omega
    simp [h, this]
theorem wj_lt {w j W : Nat} (hj : j < 64) (hw : w < W) : w * 64 + j < W * 64 := by omega
/-- the members, a bit each -/
def mb_ (M : Nat → Prop) (words : Nat) (f : Nat → Int64) : Prop := ∀ w, w < words → ∀ j, j < 64 → (bl (f w) j = true ↔ M (w * 64 + j))
theorem lst_split {M : Nat → Prop} {w j : Nat} (hj : j < 64) : lst_ M (w * 64 + j) ↔ M (w * 64 + j) ∧ (∀ a, a < 6 → j.testBit a = true → ¬ M (w * 64 + (j ^^^ 2 ^ a))) ∧ (∀ a, a < 8 → w.testBit a = true → ¬ M ((w ^^^ 2 ^ a) * 64 + j)) := by
  constructor
  · rintro ⟨h1, h2⟩
    refine ⟨h1, fun a ha hb => ?_, fun a ha hb => ?_⟩
    · rw [← flip_lo hj ha]
      exact h2 a (by omega) (by rw [tb_wj hj, if_pos ha]; exact hb)
    · rw [← flip_hi hj]
      exact h2 (a + 6) (by omega) (by rw [tb_wj hj, if_neg (by omega), Nat.add_sub_cancel]; exact hb)
  · rintro ⟨h1, h2, h3⟩
    refine ⟨h1, fun a ha hb => ?_⟩
    rw [tb_wj hj] at hb
    by_cases h : a < 6
    · rw [if_pos h] at hb
      rw [flip_lo hj h]
      exact h2 a h hb
    · rw [if_neg h] at hb
      have e : a = (a - 6) + 6 := by omega
      rw [e, flip_hi hj]
      exact h3 (a - 6) (by omega) hb
/-- a bit of a word moved up by 2^a -/
theorem l_shl (x : Int64) (k : Int32) (d : Nat) (hk : ((k.toInt64 &&& 63).toBitVec.smod 64).toNat = d) {j : Nat} (hj : j < 64) : bl (x <<< (k.toInt64 &&& 63)) j = (decide (d ≤ j) && bl x (j - d)) := by
  unfold bl
  rw [Int64.toBitVec_shiftLeft]
  show (x.toBitVec <<< ((k.toInt64 &&& 63).toBitVec.smod 64).toNat).getLsbD j = _
  rw [hk, BitVec.getLsbD_shiftLeft]
  rcases Nat.lt_or_ge j d with h | h
  · simp [h, Nat.not_le.mpr h]
  · simp [hj, h, Nat.not_lt.mpr h]
theorem dn_bit : ∀ a, a < 6 → ∀ j, j < 64 → j.testBit a = true → 2 ^ a ≤ j ∧ j - 2 ^ a = j ^^^ 2 ^ a := by decide +kernel
/-- the sets of a word that have axiom a, one of the first six -/
def pw_ (a : Nat) : Int64 := [-6148914691236517206, -3689348814741910324, -1085102592571150096, -71777214294589696, -281470681808896, -4294967296].getD a 0
theorem pw_bit : ∀ a, a < 6 → ∀ j, j < 64 → bl (pw_ a) j = j.testBit a := by decide +kernel
/-- those that have k of the first six -/
def ps_ (k : Nat) : Int64 := [1, 4295033110, 282668995843688, 78274679833913472, 1614655367130677248, 7530159316599308288, -9223372036854775808].getD k 0
theorem ps_bit : ∀ k, k < 7 → ∀ j, j < 64 → bl (ps_ k) j = decide (pcF 6 j = k) := by decide +kernel
theorem pc_wj : ∀ w, w < 256 → ∀ j, j < 64 → pcF 14 (w * 64 + j) = pcF 6 j + pcF 8 w := by
  intro w _ j hj
  rw [show (14 : Nat) = 6 + 8 from rfl, pcF_add, show (w * 64 + j) / 2 ^ 6 = w by show (w * 64 + j) / 64 = w; omega]
  rw [← pcF_mod 6, show (w * 64 + j) % 2 ^ 6 = j by show (w * 64 + j) % 64 = j; omega]
/-- a part of a word's members, with one axiom taken from them -/
theorem one_more {M : Nat → Prop} {words w a j : Nat} {f : Nat → Int64} {k : Int32} (hm : mb_ M words f) (hw : w < words) (ha : a < 6) (hk : ((k.toInt64 &&& 63).toBitVec.smod 64).toNat = 2 ^ a) (hj : j < 64) : bl ((f w <<< (k.toInt64 &&& 63)) &&& pw_ a) j = true ↔ j.testBit a = true ∧ M (w * 64 + (j ^^^ 2 ^ a)) := by
  rw [l_and, l_shl _ k (2 ^ a) hk hj, pw_bit a ha j hj]
  cases hb : j.testBit a
  · simp
  · obtain ⟨h1, h2⟩ := dn_bit a ha j hj hb
    have h3 : j ^^^ 2 ^ a < 64 := Nat.xor_lt_two_pow (n := 6) hj (Nat.pow_lt_pow_right (by omega) ha)
    rw [← hm w hw (j ^^^ 2 ^ a) h3, h2]
    simp [h1]
