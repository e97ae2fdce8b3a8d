def uI_ (x : Int32) : Nat := x.toBitVec.toNat
def uL_ (x : Int64) : Nat := x.toBitVec.toNat
theorem uI_lt (x : Int32) : uI_ x < 4294967296 := x.toBitVec.isLt
theorem uL_lt (x : Int64) : uL_ x < 18446744073709551616 := x.toBitVec.isLt
theorem uI_and (x y : Int32) : uI_ (x &&& y) = uI_ x &&& uI_ y := by unfold uI_; rw [Int32.toBitVec_and, BitVec.toNat_and]
theorem uL_and (x y : Int64) : uL_ (x &&& y) = uL_ x &&& uL_ y := by unfold uL_; rw [Int64.toBitVec_and, BitVec.toNat_and]
theorem uI_add (x y : Int32) : uI_ (x + y) = (uI_ x + uI_ y) % 4294967296 := by unfold uI_; rw [Int32.toBitVec_add, BitVec.toNat_add]
theorem uL_add (x y : Int64) : uL_ (x + y) = (uL_ x + uL_ y) % 18446744073709551616 := by unfold uL_; rw [Int64.toBitVec_add, BitVec.toNat_add]
theorem uI_sub {x y : Int32} (h : uI_ y ≤ uI_ x) : uI_ (x - y) = uI_ x - uI_ y := by
  have h1 := uI_lt x
  have h2 := uI_lt y
  unfold uI_ at *
  rw [Int32.toBitVec_sub, BitVec.toNat_sub]
  omega
theorem uL_sub {x y : Int64} (h : uL_ y ≤ uL_ x) : uL_ (x - y) = uL_ x - uL_ y := by
  have h1 := uL_lt x
  have h2 := uL_lt y
  unfold uL_ at *
  rw [Int64.toBitVec_sub, BitVec.toNat_sub]
  omega
theorem uI_nI {n : Nat} (h : n < 4294967296) : uI_ (nI n) = n := Nat.mod_eq_of_lt h
theorem uI_nIm (n : Nat) : uI_ (nI n) = n % 4294967296 := rfl
theorem uL_lN {n : Nat} (h : n < 18446744073709551616) : uL_ (lN n) = n := Nat.mod_eq_of_lt h
theorem uI_inj {x y : Int32} (h : uI_ x = uI_ y) : x = y := Int32.toBitVec_inj.mp (BitVec.eq_of_toNat_eq h)
theorem uL_inj {x y : Int64} (h : uL_ x = uL_ y) : x = y := Int64.toBitVec_inj.mp (BitVec.eq_of_toNat_eq h)
theorem uI_bt (x : Int32) (i : Nat) : bt x i = (uI_ x).testBit i := rfl
theorem uL_bl (x : Int64) (i : Nat) : bl x i = (uL_ x).testBit i := rfl
/-- x >>> k, k a number from 0 to 31 -/
abbrev us_ (x k : Int32) : Int32 := (x.toUInt32 >>> (k.toUInt32 &&& Int32.toUInt32 31)).toInt32
abbrev uls_ (x : Int64) (k : Int32) : Int64 := (x.toUInt64 >>> (k.toInt64.toUInt64 &&& Int64.toUInt64 63)).toInt64
theorem uI_shr (x s : Int32) (k : Nat) (hs : ((s.toUInt32 &&& Int32.toUInt32 31).toBitVec % 32).toNat = k) : uI_ (us_ x s) = uI_ x / 2 ^ k := pk_ushr x s k hs
theorem uL_shr (x : Int64) (s : Int32) (k : Nat) (hs : (s.toInt64.toUInt64 &&& Int64.toUInt64 63).toNat % 64 = k) : uL_ (uls_ x s) = uL_ x / 2 ^ k := by
  unfold uL_ uls_
  show (x.toUInt64 >>> (s.toInt64.toUInt64 &&& Int64.toUInt64 63)).toNat = _
  rw [UInt64.toNat_shiftRight, hs, Nat.shiftRight_eq_div_pow]
  rfl
theorem st_8 {a R : Nat} (h : a < 256) : (a + 256 * R) / 256 = R := by omega
theorem st_16 {a R : Nat} (h : a < 65536) : (a + 65536 * R) / 65536 = R := by omega
theorem st_32 {a R : Nat} (h : a < 4294967296) : (a + 4294967296 * R) / 4294967296 = R := by omega
theorem sum_4 {c0 c1 c2 c3 y y4 y5 : Nat} (g0 : c0 ≤ 8) (g1 : c1 ≤ 8) (g2 : c2 ≤ 8) (g3 : c3 ≤ 8) (h3 : y = c0 + 256 * (c1 + 256 * (c2 + 256 * c3))) (h4 : y4 = y + y / 256) (h5 : y5 = y4 + y4 / 65536) : y + y / 256 < 4294967296 ∧ y4 + y4 / 65536 < 4294967296 ∧ y5 % 64 = c0 + (c1 + (c2 + (c3 + 0))) := by
  have e1 : y / 256 = c1 + 256 * (c2 + 256 * c3) := by rw [h3]; exact st_8 (by omega)
  have e4 : y4 = (c0 + c1 + 256 * (c1 + c2)) + 65536 * (c2 + c3 + 256 * c3) := by rw [h4, e1, h3]; omega
  have e2 : y4 / 65536 = c2 + c3 + 256 * c3 := by rw [e4]; exact st_16 (by omega)
  have e5 : y5 = (c0 + c1 + (c2 + c3)) + 64 * (4 * (c1 + c2) + 1024 * (c2 + c3 + 256 * c3) + 4 * c3) := by rw [h5, e2, e4]; omega
  refine ⟨by rw [e1, h3]; omega, by rw [e2, e4]; omega, ?_⟩
  rw [e5, Nat.add_mul_mod_self_left, Nat.mod_eq_of_lt (by omega)]
  omega
theorem sum_8 {c0 c1 c2 c3 c4 c5 c6 c7 y y4 y5 y6 : Nat} (g0 : c0 ≤ 8) (g1 : c1 ≤ 8) (g2 : c2 ≤ 8) (g3 : c3 ≤ 8) (g4 : c4 ≤ 8) (g5 : c5 ≤ 8) (g6 : c6 ≤ 8) (g7 : c7 ≤ 8) (h3 : y = c0 + 256 * (c1 + 256 * (c2 + 256 * (c3 + 256 * (c4 + 256 * (c5 + 256 * (c6 + 256 * c7))))))) (h4 : y4 = y + y / 256) (h5 : y5 = y4 + y4 / 65536) (h6 : y6 = y5 + y5 / 4294967296) : y + y / 256 < 18446744073709551616 ∧ y4 + y4 / 65536 < 18446744073709551616 ∧ y5 + y5 / 4294967296 < 18446744073709551616 ∧ y6 % 128 = c0 + (c1 + (c2 + (c3 + (c4 + (c5 + (c6 + (c7 + 0))))))) := by
  have e1 : y / 256 = c1 + 256 * (c2 + 256 * (c3 + 256 * (c4 + 256 * (c5 + 256 * (c6 + 256 * c7))))) := by rw [h3]; exact st_8 (Nat.lt_of_le_of_lt g0 (by decide))
  have e4 : y4 = (c0 + c1 + 256 * (c1 + c2)) + 65536 * (c2 + c3 + 256 * (c3 + c4) + 65536 * (c4 + c5 + 256 * (c5 + c6) + 65536 * (c6 + c7 + 256 * c7))) := by
    rw [h4, e1, h3]
    clear h3 h4 h5 h6 e1 g0 g1 g2 g3 g4 g5 g6 g7
    omega
  have e2 : y4 / 65536 = c2 + c3 + 256 * (c3 + c4) + 65536 * (c4 + c5 + 256 * (c5 + c6) + 65536 * (c6 + c7 + 256 * c7)) := by
    rw [e4]
    refine st_16 ?_
    clear h3 h4 h5 h6 e1 e4
    omega
  have e5 : y5 = (c0 + c1 + c2 + c3 + 256 * (c1 + c2 + c3 + c4) + 65536 * (c2 + c3 + c4 + c5) + 16777216 * (c3 + c4 + c5 + c6)) + 4294967296 * (c4 + c5 + c6 + c7 + 256 * (c5 + c6 + c7) + 65536 * (c6 + c7) + 16777216 * c7) := by
    rw [h5, e2, e4]
    clear h3 h4 h5 h6 e1 e4 e2 g0 g1 g2 g3 g4 g5 g6 g7
    omega
  have e3 : y5 / 4294967296 = c4 + c5 + c6 + c7 + 256 * (c5 + c6 + c7) + 65536 * (c6 + c7) + 16777216 * c7 := by
    rw [e5]
    refine st_32 ?_
    clear h3 h4 h5 h6 e1 e4 e2 e5
    omega
  have e6 : y6 = (c0 + c1 + c2 + c3 + (c4 + c5 + c6 + c7)) + 128 * (2 * (c1 + c2 + c3 + c4) + 512 * (c2 + c3 + c4 + c5) + 131072 * (c3 + c4 + c5 + c6) + 33554432 * (c4 + c5 + c6 + c7 + 256 * (c5 + c6 + c7) + 65536 * (c6 + c7) + 16777216 * c7) + 2 * (c5 + c6 + c7) + 512 * (c6 + c7) + 131072 * c7) := by
    rw [h6, e3, e5]
    clear h3 h4 h5 h6 e1 e4 e2 e5 e3 g0 g1 g2 g3 g4 g5 g6 g7
    omega
  refine ⟨?_, ?_, ?_, ?_⟩
  · rw [e1, h3]
    clear h3 h4 h5 h6 e1 e4 e2 e5 e3 e6
    omega
  · rw [e2, e4]
    clear h3 h4 h5 h6 e1 e4 e2 e5 e3 e6
    omega
  · rw [e3, e5]
    clear h3 h4 h5 h6 e1 e4 e2 e5 e3 e6
    omega
  · have hlt : c0 + c1 + c2 + c3 + (c4 + c5 + c6 + c7) < 128 := by
      clear h3 h4 h5 h6 e1 e4 e2 e5 e3 e6
      omega
    rw [e6, Nat.add_mul_mod_self_left, Nat.mod_eq_of_lt hlt]
    clear h3 h4 h5 h6 e1 e4 e2 e5 e3 e6 g0 g1 g2 g3 g4 g5 g6 g7 hlt
    omega
def q8_ (x k : Nat) : Nat := x / 256 ^ k % 256
theorem q8_s (x k : Nat) : q8_ (x / 256) k = q8_ x (k + 1) := by
  unfold q8_
  rw [Nat.div_div_eq_div_mul, Nat.pow_succ, Nat.mul_comm]
theorem q8_0 (x : Nat) : x % 256 = q8_ x 0 := by
  unfold q8_
  rw [Nat.pow_zero, Nat.div_one]
theorem pcF_8q (k s : Nat) : pcF (8 + k) s = pcF 8 (q8_ s 0) + pcF k (s / 256) := by rw [pcF_8, q8_0]
theorem pcF_64 (s : Nat) : pcF 64 s = pcF 8 (q8_ s 0) + (pcF 8 (q8_ s 1) + (pcF 8 (q8_ s 2) + (pcF 8 (q8_ s 3) + (pcF 8 (q8_ s 4) + (pcF 8 (q8_ s 5) + (pcF 8 (q8_ s 6) + (pcF 8 (q8_ s 7) + 0))))))) := by
  rw [show (64 : Nat) = 8 + (8 + (8 + (8 + (8 + (8 + (8 + (8 + 0))))))) from rfl, pcF_8q, pcF_8q, pcF_8q, pcF_8q, pcF_8q, pcF_8q, pcF_8q, pcF_8q]
  simp only [q8_s, Nat.reduceAdd]
  rfl
theorem pb_s {k x : Nat} (h : x < 256 ^ (k + 1)) : pb_ (k + 1) x = pcF 8 (q8_ x 0) + 256 * pb_ k (x / 256) := by
  rw [pb_split k x h, q8_0, Nat.add_comm]
theorem pb_lt {k x : Nat} (h : x < 256 ^ (k + 1)) : x / 256 < 256 ^ k := by
  rw [Nat.pow_succ] at h
  exact Nat.div_lt_of_lt_mul (by rw [Nat.mul_comm]; exact h)
/-! Integer.bitCount -/
def bc1_ (x : Int32) : Int32 := x - (us_ x 1 &&& 1431655765)
def bc2_ (x : Int32) : Int32 := (x &&& 858993459) + (us_ x 2 &&& 858993459)
def bc3_ (x : Int32) : Int32 := (x + us_ x 4) &&& 252645135
def bc4_ (x : Int32) : Int32 := x + us_ x 8
def bc5_ (x : Int32) : Int32 := x + us_ x 16
def bc_ (x : Int32) : Int32 := bc5_ (bc4_ (bc3_ (bc2_ (bc1_ x)))) &&& 63
theorem m55_4 : m55 4 = uI_ 1431655765 := by decide +kernel
theorem m33_4 : m33 4 = uI_ 858993459 := by decide +kernel
theorem m0f_4 : m0f 4 = uI_ 252645135 := by decide +kernel
theorem bc1_u (x : Int32) : uI_ (bc1_ x) = p1_ (m55 4) (uI_ x) := by
  have e : uI_ (us_ x 1 &&& 1431655765) = (uI_ x / 2) &&& m55 4 := by
    rw [uI_and, uI_shr x 1 1 (by decide +kernel), m55_4]
  have h : (uI_ x / 2) &&& m55 4 ≤ uI_ x / 2 := Nat.and_le_left
  unfold bc1_ p1_
  rw [uI_sub (by rw [e]; omega), e]
theorem p2_lt4 (x : Nat) : p2_ (m33 4) x < 4294967296 := by
  have h1 : x &&& m33 4 ≤ m33 4 := Nat.and_le_right
  have h2 : (x / 4) &&& m33 4 ≤ m33 4 := Nat.and_le_right
  have h3 : m33 4 < 2147483648 := by decide +kernel
  unfold p2_
  omega
theorem bc2_u (x : Int32) : uI_ (bc2_ x) = p2_ (m33 4) (uI_ x) := by
  have e1 : uI_ (x &&& 858993459) = uI_ x &&& m33 4 := by rw [uI_and, m33_4]
  have e2 : uI_ (us_ x 2 &&& 858993459) = (uI_ x / 4) &&& m33 4 := by rw [uI_and, uI_shr x 2 2 (by decide +kernel), m33_4]
  have h := p2_lt4 (uI_ x)
  unfold bc2_
  rw [uI_add, e1, e2]
  exact Nat.mod_eq_of_lt h
theorem p2_top4 (x : Nat) : p2_ (m33 4) x ≤ 1717986918 := by
  have h1 : x &&& m33 4 ≤ m33 4 := Nat.and_le_right
  have h2 : (x / 4) &&& m33 4 ≤ m33 4 := Nat.and_le_right
  have h3 : m33 4 = 858993459 := by decide +kernel
  unfold p2_
  omega
theorem bc3_u (x : Int32) (h : uI_ x ≤ 1717986918) : uI_ (bc3_ x) = p3_ (m0f 4) (uI_ x) := by
  unfold bc3_ p3_
  rw [uI_and, uI_add, uI_shr x 4 4 (by decide +kernel), m0f_4]
  rw [Nat.mod_eq_of_lt (by omega)]
theorem pcF_32 (s : Nat) : pcF 32 s = pcF 8 (q8_ s 0) + (pcF 8 (q8_ s 1) + (pcF 8 (q8_ s 2) + (pcF 8 (q8_ s 3) + 0))) := by
  rw [show (32 : Nat) = 8 + (8 + (8 + (8 + 0))) from rfl, pcF_8q, pcF_8q, pcF_8q, pcF_8q]
  simp only [q8_s, Nat.reduceAdd]
  rfl
theorem pb_4 (x : Nat) (h : x < 4294967296) : pb_ 4 x = pcF 8 (q8_ x 0) + 256 * (pcF 8 (q8_ x 1) + 256 * (pcF 8 (q8_ x 2) + 256 * pcF 8 (q8_ x 3))) := by
  have h4 : x < 256 ^ (3 + 1) := by
    rw [show (256 : Nat) ^ (3 + 1) = 4294967296 by decide +kernel]
    exact h
  have h3 := pb_lt h4
  have h2 := pb_lt (k := 2) h3
  have h1 := pb_lt (k := 1) h2
  have h0 := pb_lt (k := 0) h1
  have e : pb_ 0 (x / 256 / 256 / 256 / 256) = 0 := by
    rw [Nat.pow_zero] at h0
    rw [show x / 256 / 256 / 256 / 256 = 0 from Nat.lt_one_iff.mp h0]
    decide
  rw [pb_s h4, pb_s (k := 2) h3, pb_s (k := 1) h2, pb_s (k := 0) h1, e]
  simp only [q8_s, Nat.reduceAdd, Nat.mul_zero, Nat.add_zero]
theorem bc_u (x : Int32) : bc_ x = nI (pcF 32 (uI_ x)) := by
  have hx := uI_lt x
  have h3 : uI_ (bc3_ (bc2_ (bc1_ x))) = pb_ 4 (uI_ x) := by
    rw [bc3_u _ (by rw [bc2_u]; exact p2_top4 _), bc2_u, bc1_u]
    rfl
  rw [pb_4 _ hx] at h3
  have hp := pcF_32 (uI_ x)
  have g0 := pcF_le 8 (q8_ (uI_ x) 0)
  have g1 := pcF_le 8 (q8_ (uI_ x) 1)
  have g2 := pcF_le 8 (q8_ (uI_ x) 2)
  have g3 := pcF_le 8 (q8_ (uI_ x) 3)
  generalize pcF 8 (q8_ (uI_ x) 0) = c0 at *
  generalize pcF 8 (q8_ (uI_ x) 1) = c1 at *
  generalize pcF 8 (q8_ (uI_ x) 2) = c2 at *
  generalize pcF 8 (q8_ (uI_ x) 3) = c3 at *
  have hy : bc_ x = bc5_ (bc4_ (bc3_ (bc2_ (bc1_ x)))) &&& 63 := rfl
  rw [hy]
  generalize bc3_ (bc2_ (bc1_ x)) = y at *
  obtain ⟨k1, k2, k3⟩ := sum_4 g0 g1 g2 g3 h3 rfl rfl
  have h4 : uI_ (bc4_ y) = uI_ y + uI_ y / 256 := by
    unfold bc4_
    rw [uI_add, uI_shr y 8 8 (by decide +kernel)]
    exact Nat.mod_eq_of_lt k1
  have h5 : uI_ (bc5_ (bc4_ y)) = uI_ (bc4_ y) + uI_ (bc4_ y) / 65536 := by
    unfold bc5_
    rw [uI_add, uI_shr (bc4_ y) 16 16 (by decide +kernel)]
    rw [h4]
    exact Nat.mod_eq_of_lt k2
  apply uI_inj
  rw [uI_nI (by omega), uI_and, show uI_ 63 = 2 ^ 6 - 1 by decide +kernel, Nat.and_two_pow_sub_one_eq_mod, h5, h4, hp]
  exact k3
/-! Long.bitCount -/
def lc1_ (x : Int64) : Int64 := x - (uls_ x 1 &&& 6148914691236517205)
def lc2_ (x : Int64) : Int64 := (x &&& 3689348814741910323) + (uls_ x 2 &&& 3689348814741910323)
def lc3_ (x : Int64) : Int64 := (x + uls_ x 4) &&& 1085102592571150095
def lc4_ (x : Int64) : Int64 := x + uls_ x 8
def lc5_ (x : Int64) : Int64 := x + uls_ x 16
def lc6_ (x : Int64) : Int64 := x + uls_ x 32
def lc_ (x : Int64) : Int32 := (lc6_ (lc5_ (lc4_ (lc3_ (lc2_ (lc1_ x)))))).toInt32 &&& 127
theorem m55_8 : m55 8 = uL_ 6148914691236517205 := by decide +kernel
theorem m33_8 : m33 8 = uL_ 3689348814741910323 := by decide +kernel
theorem m0f_8 : m0f 8 = uL_ 1085102592571150095 := by decide +kernel
theorem lc1_u (x : Int64) : uL_ (lc1_ x) = p1_ (m55 8) (uL_ x) := by
  have e : uL_ (uls_ x 1 &&& 6148914691236517205) = (uL_ x / 2) &&& m55 8 := by
    rw [uL_and, uL_shr x 1 1 (by decide +kernel), m55_8]
  have h : (uL_ x / 2) &&& m55 8 ≤ uL_ x / 2 := Nat.and_le_left
  unfold lc1_ p1_
  rw [uL_sub (by rw [e]; omega), e]
theorem p2_top8 (x : Nat) : p2_ (m33 8) x ≤ 7378697629483820646 := by
  have h1 : x &&& m33 8 ≤ m33 8 := Nat.and_le_right
  have h2 : (x / 4) &&& m33 8 ≤ m33 8 := Nat.and_le_right
  have h3 : m33 8 = 3689348814741910323 := by decide +kernel
  unfold p2_
  omega
theorem lc2_u (x : Int64) : uL_ (lc2_ x) = p2_ (m33 8) (uL_ x) := by
  have e1 : uL_ (x &&& 3689348814741910323) = uL_ x &&& m33 8 := by rw [uL_and, m33_8]
  have e2 : uL_ (uls_ x 2 &&& 3689348814741910323) = (uL_ x / 4) &&& m33 8 := by rw [uL_and, uL_shr x 2 2 (by decide +kernel), m33_8]
  have h := p2_top8 (uL_ x)
  unfold lc2_
  rw [uL_add, e1, e2]
  exact Nat.mod_eq_of_lt (show p2_ (m33 8) (uL_ x) < _ by omega)
theorem lc3_u (x : Int64) (h : uL_ x ≤ 7378697629483820646) : uL_ (lc3_ x) = p3_ (m0f 8) (uL_ x) := by
  unfold lc3_ p3_
  rw [uL_and, uL_add, uL_shr x 4 4 (by decide +kernel), m0f_8]
  rw [Nat.mod_eq_of_lt (by omega)]
theorem pb_8 (x : Nat) (h : x < 18446744073709551616) : pb_ 8 x = pcF 8 (q8_ x 0) + 256 * (pcF 8 (q8_ x 1) + 256 * (pcF 8 (q8_ x 2) + 256 * (pcF 8 (q8_ x 3) + 256 * (pcF 8 (q8_ x 4) + 256 * (pcF 8 (q8_ x 5) + 256 * (pcF 8 (q8_ x 6) + 256 * pcF 8 (q8_ x 7))))))) := by
  have h8 : x < 256 ^ (7 + 1) := by
    rw [show (256 : Nat) ^ (7 + 1) = 18446744073709551616 by decide +kernel]
    exact h
  have h7 := pb_lt h8
  have h6 := pb_lt (k := 6) h7
  have h5 := pb_lt (k := 5) h6
  have h4 := pb_lt (k := 4) h5
  have h3 := pb_lt (k := 3) h4
  have h2 := pb_lt (k := 2) h3
  have h1 := pb_lt (k := 1) h2
  have h0 := pb_lt (k := 0) h1
  have e : pb_ 0 (x / 256 / 256 / 256 / 256 / 256 / 256 / 256 / 256) = 0 := by
    rw [Nat.pow_zero] at h0
    rw [show x / 256 / 256 / 256 / 256 / 256 / 256 / 256 / 256 = 0 from Nat.lt_one_iff.mp h0]
    decide
  rw [pb_s h8, pb_s (k := 6) h7, pb_s (k := 5) h6, pb_s (k := 4) h5, pb_s (k := 3) h4, pb_s (k := 2) h3, pb_s (k := 1) h2, pb_s (k := 0) h1, e]
  simp only [q8_s, Nat.reduceAdd, Nat.mul_zero, Nat.add_zero]
theorem lN_i32 {x : Int64} (h : uL_ x < 4294967296) : x.toInt32 = nI (uL_ x) := by
  have e : x = lN (uL_ x) := uL_inj (by rw [uL_lN (uL_lt x)])
  conv => lhs; rw [e]
  rw [lN_i]
theorem lc_u (x : Int64) : lc_ x = nI (pcF 64 (uL_ x)) := by
  have hx := uL_lt x
  have h3 : uL_ (lc3_ (lc2_ (lc1_ x))) = pb_ 8 (uL_ x) := by
    rw [lc3_u _ (by rw [lc2_u]; exact p2_top8 _), lc2_u, lc1_u]
    rfl
  rw [pb_8 _ hx] at h3
  have hp := pcF_64 (uL_ x)
  have g0 := pcF_le 8 (q8_ (uL_ x) 0)
  have g1 := pcF_le 8 (q8_ (uL_ x) 1)
  have g2 := pcF_le 8 (q8_ (uL_ x) 2)
  have g3 := pcF_le 8 (q8_ (uL_ x) 3)
  have g4 := pcF_le 8 (q8_ (uL_ x) 4)
  have g5 := pcF_le 8 (q8_ (uL_ x) 5)
  have g6 := pcF_le 8 (q8_ (uL_ x) 6)
  have g7 := pcF_le 8 (q8_ (uL_ x) 7)
  generalize pcF 8 (q8_ (uL_ x) 0) = c0 at *
  generalize pcF 8 (q8_ (uL_ x) 1) = c1 at *
  generalize pcF 8 (q8_ (uL_ x) 2) = c2 at *
  generalize pcF 8 (q8_ (uL_ x) 3) = c3 at *
  generalize pcF 8 (q8_ (uL_ x) 4) = c4 at *
  generalize pcF 8 (q8_ (uL_ x) 5) = c5 at *
  generalize pcF 8 (q8_ (uL_ x) 6) = c6 at *
  generalize pcF 8 (q8_ (uL_ x) 7) = c7 at *
  have hy : lc_ x = (lc6_ (lc5_ (lc4_ (lc3_ (lc2_ (lc1_ x)))))).toInt32 &&& 127 := rfl
  rw [hy]
  generalize lc3_ (lc2_ (lc1_ x)) = y at *
  obtain ⟨k1, k2, k3, k4⟩ := sum_8 g0 g1 g2 g3 g4 g5 g6 g7 h3 rfl rfl rfl
  have h4 : uL_ (lc4_ y) = uL_ y + uL_ y / 256 := by
    unfold lc4_
    rw [uL_add, uL_shr y 8 8 (by decide +kernel)]
    exact Nat.mod_eq_of_lt k1
  have h5 : uL_ (lc5_ (lc4_ y)) = uL_ (lc4_ y) + uL_ (lc4_ y) / 65536 := by
    unfold lc5_
    rw [uL_add, uL_shr (lc4_ y) 16 16 (by decide +kernel), h4]
    exact Nat.mod_eq_of_lt k2
  have h6 : uL_ (lc6_ (lc5_ (lc4_ y))) = uL_ (lc5_ (lc4_ y)) + uL_ (lc5_ (lc4_ y)) / 4294967296 := by
    unfold lc6_
    rw [uL_add, uL_shr (lc5_ (lc4_ y)) 32 32 (by decide +kernel), h5, h4]
    exact Nat.mod_eq_of_lt k3
  rw [← h4, ← h5, ← h6, ← hp] at k4
  have hle := pcF_le 64 (uL_ x)
  generalize pcF 64 (uL_ x) = w at *
  have e7 : lc6_ (lc5_ (lc4_ y)) = lN (uL_ (lc6_ (lc5_ (lc4_ y)))) := uL_inj (by rw [uL_lN (uL_lt _)])
  rw [e7, lN_i]
  clear h6 h5 h4 e7 k1 k2 k3
  generalize uL_ (lc6_ (lc5_ (lc4_ y))) = z at *
  apply uI_inj
  rw [uI_and, show uI_ 127 = 2 ^ 7 - 1 by decide +kernel, Nat.and_two_pow_sub_one_eq_mod, uI_nIm z, uI_nI (n := w) (Nat.lt_of_le_of_lt hle (by decide))]
  show z % 4294967296 % 128 = _
  rw [show (4294967296 : Nat) = 128 * 33554432 from rfl, Nat.mod_mul_right_mod]
  exact k4
