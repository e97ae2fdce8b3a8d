def uI_ (x : Int32) : Nat := x.toBitVec.toNat
def uL_ (x : Int64) : Nat := x.toBitVec.toNat
theorem uI_lt (x : Int32) : uI_ x < 4294967296 := x.toBitVec.isLt
theorem uL_lt (x : Int64) : uL_ x < 18446744073709551616 := x.toBitVec.isLt
theorem uI_and (x y : Int32) : uI_ (x &&& y) = uI_ x &&& uI_ y := by unfold uI_; rw [Int32.toBitVec_and, BitVec.toNat_and]
theorem uL_and (x y : Int64) : uL_ (x &&& y) = uL_ x &&& uL_ y := by unfold uL_; rw [Int64.toBitVec_and, BitVec.toNat_and]
theorem uI_add (x y : Int32) : uI_ (x + y) = (uI_ x + uI_ y) % 4294967296 := by unfold uI_; rw [Int32.toBitVec_add, BitVec.toNat_add]
theorem uL_add (x y : Int64) : uL_ (x + y) = (uL_ x + uL_ y) % 18446744073709551616 := by unfold uL_; rw [Int64.toBitVec_add, BitVec.toNat_add]
theorem uI_sub {x y : Int32} (h : uI_ y ≤ uI_ x) : uI_ (x - y) = uI_ x - uI_ y := by
  have h1 := uI_lt x
  have h2 := uI_lt y
  unfold uI_ at *
  rw [Int32.toBitVec_sub, BitVec.toNat_sub]
  omega
theorem uL_sub {x y : Int64} (h : uL_ y ≤ uL_ x) : uL_ (x - y) = uL_ x - uL_ y := by
  have h1 := uL_lt x
  have h2 := uL_lt y
  unfold uL_ at *
  rw [Int64.toBitVec_sub, BitVec.toNat_sub]
  omega
theorem uI_nI {n : Nat} (h : n < 4294967296) : uI_ (nI n) = n := Nat.mod_eq_of_lt h
theorem uL_lN {n : Nat} (h : n < 18446744073709551616) : uL_ (lN n) = n := Nat.mod_eq_of_lt h
theorem uI_inj {x y : Int32} (h : uI_ x = uI_ y) : x = y := Int32.toBitVec_inj.mp (BitVec.eq_of_toNat_eq h)
theorem uL_inj {x y : Int64} (h : uL_ x = uL_ y) : x = y := Int64.toBitVec_inj.mp (BitVec.eq_of_toNat_eq h)
theorem uI_bt (x : Int32) (i : Nat) : bt x i = (uI_ x).testBit i := rfl
theorem uL_bl (x : Int64) (i : Nat) : bl x i = (uL_ x).testBit i := rfl
/-- x >>> k, k a number from 0 to 31 -/
abbrev us_ (x k : Int32) : Int32 := (x.toUInt32 >>> (k.toUInt32 &&& Int32.toUInt32 31)).toInt32
abbrev uls_ (x : Int64) (k : Int32) : Int64 := (x.toUInt64 >>> (k.toInt64.toUInt64 &&& Int64.toUInt64 63)).toInt64
theorem uI_shr (x s : Int32) (k : Nat) (hs : ((s.toUInt32 &&& Int32.toUInt32 31).toBitVec % 32).toNat = k) : uI_ (us_ x s) = uI_ x / 2 ^ k := pk_ushr x s k hs
theorem uL_shr (x : Int64) (s : Int32) (k : Nat) (hs : (s.toInt64.toUInt64 &&& Int64.toUInt64 63).toNat % 64 = k) : uL_ (uls_ x s) = uL_ x / 2 ^ k := by
  unfold uL_ uls_
  show (x.toUInt64 >>> (s.toInt64.toUInt64 &&& Int64.toUInt64 63)).toNat = _
  rw [UInt64.toNat_shiftRight, hs, Nat.shiftRight_eq_div_pow]
  rfl
/-! Integer.bitCount -/
def bc1_ (x : Int32) : Int32 := x - (us_ x 1 &&& 1431655765)
def bc2_ (x : Int32) : Int32 := (x &&& 858993459) + (us_ x 2 &&& 858993459)
def bc3_ (x : Int32) : Int32 := (x + us_ x 4) &&& 252645135
def bc4_ (x : Int32) : Int32 := x + us_ x 8
def bc5_ (x : Int32) : Int32 := x + us_ x 16
def bc_ (x : Int32) : Int32 := bc5_ (bc4_ (bc3_ (bc2_ (bc1_ x)))) &&& 63
theorem m55_4 : m55 4 = uI_ 1431655765 := by decide +kernel
theorem m33_4 : m33 4 = uI_ 858993459 := by decide +kernel
theorem m0f_4 : m0f 4 = uI_ 252645135 := by decide +kernel
theorem bc1_u (x : Int32) : uI_ (bc1_ x) = p1_ (m55 4) (uI_ x) := by
  have e : uI_ (us_ x 1 &&& 1431655765) = (uI_ x / 2) &&& m55 4 := by
    rw [uI_and, uI_shr x 1 1 (by decide +kernel), m55_4]
  have h : (uI_ x / 2) &&& m55 4 ≤ uI_ x / 2 := Nat.and_le_left
  unfold bc1_ p1_
  rw [uI_sub (by rw [e]; omega), e]
theorem p2_lt4 (x : Nat) : p2_ (m33 4) x < 4294967296 := by
  have h1 : x &&& m33 4 ≤ m33 4 := Nat.and_le_right
  have h2 : (x / 4) &&& m33 4 ≤ m33 4 := Nat.and_le_right
  have h3 : m33 4 < 2147483648 := by decide +kernel
  unfold p2_
  omega
theorem bc2_u (x : Int32) : uI_ (bc2_ x) = p2_ (m33 4) (uI_ x) := by
  have e1 : uI_ (x &&& 858993459) = uI_ x &&& m33 4 := by rw [uI_and, m33_4]
  have e2 : uI_ (us_ x 2 &&& 858993459) = (uI_ x / 4) &&& m33 4 := by rw [uI_and, uI_shr x 2 2 (by decide +kernel), m33_4]
  have h := p2_lt4 (uI_ x)
  unfold bc2_
  rw [uI_add, e1, e2]
  exact Nat.mod_eq_of_lt h
theorem p2_top4 (x : Nat) : p2_ (m33 4) x ≤ 1717986918 := by
  have h1 : x &&& m33 4 ≤ m33 4 := Nat.and_le_right
  have h2 : (x / 4) &&& m33 4 ≤ m33 4 := Nat.and_le_right
  have h3 : m33 4 = 858993459 := by decide +kernel
  unfold p2_
  omega
theorem bc3_u (x : Int32) (h : uI_ x ≤ 1717986918) : uI_ (bc3_ x) = p3_ (m0f 4) (uI_ x) := by
  unfold bc3_ p3_
  rw [uI_and, uI_add, uI_shr x 4 4 (by decide +kernel), m0f_4]
  rw [Nat.mod_eq_of_lt (by omega)]
theorem pcF_32 (s : Nat) : pcF 32 s = pcF 8 (s % 256) + (pcF 8 (s / 256 % 256) + (pcF 8 (s / 256 / 256 % 256) + (pcF 8 (s / 256 / 256 / 256 % 256) + 0))) := by
  rw [show (32 : Nat) = 8 + (8 + (8 + (8 + 0))) from rfl, pcF_8, pcF_8, pcF_8, pcF_8]
  rfl
theorem pb_4 (x : Nat) (h : x < 4294967296) : pb_ 4 x = 256 * (256 * (256 * pcF 8 (x / 256 / 256 / 256 % 256) + pcF 8 (x / 256 / 256 % 256)) + pcF 8 (x / 256 % 256)) + pcF 8 (x % 256) := by
  rw [pb_split 3 x (by show x < 4294967296; exact h), pb_split 2 (x / 256) (by show x / 256 < 16777216; omega), pb_split 1 (x / 256 / 256) (by show x / 256 / 256 < 65536; omega), pb_split 0 (x / 256 / 256 / 256) (by show x / 256 / 256 / 256 < 256; omega)]
  have e : pb_ 0 (x / 256 / 256 / 256 / 256) = 0 := by
    rw [show x / 256 / 256 / 256 / 256 = 0 by omega]
    decide
  rw [e]
theorem bc_u (x : Int32) : bc_ x = nI (pcF 32 (uI_ x)) := by
  have hx := uI_lt x
  have h3 : uI_ (bc3_ (bc2_ (bc1_ x))) = pb_ 4 (uI_ x) := by
    rw [bc3_u _ (by rw [bc2_u]; exact p2_top4 _), bc2_u, bc1_u]
    rfl
  rw [pb_4 _ hx] at h3
  have hp := pcF_32 (uI_ x)
  have g0 := pcF_le 8 (uI_ x % 256)
  have g1 := pcF_le 8 (uI_ x / 256 % 256)
  have g2 := pcF_le 8 (uI_ x / 256 / 256 % 256)
  have g3 := pcF_le 8 (uI_ x / 256 / 256 / 256 % 256)
  generalize pcF 8 (uI_ x % 256) = c0 at *
  generalize pcF 8 (uI_ x / 256 % 256) = c1 at *
  generalize pcF 8 (uI_ x / 256 / 256 % 256) = c2 at *
  generalize pcF 8 (uI_ x / 256 / 256 / 256 % 256) = c3 at *
  generalize bc3_ (bc2_ (bc1_ x)) = y at *
  have h4 : uI_ (bc4_ y) = uI_ y + uI_ y / 256 := by
    unfold bc4_
    rw [uI_add, uI_shr y 8 8 (by decide +kernel)]
    exact Nat.mod_eq_of_lt (by omega)
  have h5 : uI_ (bc5_ (bc4_ y)) = uI_ (bc4_ y) + uI_ (bc4_ y) / 65536 := by
    unfold bc5_
    rw [uI_add, uI_shr (bc4_ y) 16 16 (by decide +kernel)]
    exact Nat.mod_eq_of_lt (by omega)
  apply uI_inj
  rw [uI_nI (by omega)]
  show uI_ (bc5_ (bc4_ y) &&& 63) = _
  rw [uI_and, show uI_ 63 = 2 ^ 6 - 1 by decide +kernel, Nat.and_two_pow_sub_one_eq_mod, h5, h4, h3, hp]
  omega
/-! Long.bitCount -/
def lc1_ (x : Int64) : Int64 := x - (uls_ x 1 &&& 6148914691236517205)
def lc2_ (x : Int64) : Int64 := (x &&& 3689348814741910323) + (uls_ x 2 &&& 3689348814741910323)
def lc3_ (x : Int64) : Int64 := (x + uls_ x 4) &&& 1085102592571150095
def lc4_ (x : Int64) : Int64 := x + uls_ x 8
def lc5_ (x : Int64) : Int64 := x + uls_ x 16
def lc6_ (x : Int64) : Int64 := x + uls_ x 32
def lc_ (x : Int64) : Int32 := (lc6_ (lc5_ (lc4_ (lc3_ (lc2_ (lc1_ x)))))).toInt32 &&& 127
theorem m55_8 : m55 8 = uL_ 6148914691236517205 := by decide +kernel
theorem m33_8 : m33 8 = uL_ 3689348814741910323 := by decide +kernel
theorem m0f_8 : m0f 8 = uL_ 1085102592571150095 := by decide +kernel
theorem lc1_u (x : Int64) : uL_ (lc1_ x) = p1_ (m55 8) (uL_ x) := by
  have e : uL_ (uls_ x 1 &&& 6148914691236517205) = (uL_ x / 2) &&& m55 8 := by
    rw [uL_and, uL_shr x 1 1 (by decide +kernel), m55_8]
  have h : (uL_ x / 2) &&& m55 8 ≤ uL_ x / 2 := Nat.and_le_left
  unfold lc1_ p1_
  rw [uL_sub (by rw [e]; omega), e]
theorem p2_top8 (x : Nat) : p2_ (m33 8) x ≤ 7378697629483820646 := by
  have h1 : x &&& m33 8 ≤ m33 8 := Nat.and_le_right
  have h2 : (x / 4) &&& m33 8 ≤ m33 8 := Nat.and_le_right
  have h3 : m33 8 = 3689348814741910323 := by decide +kernel
  unfold p2_
  omega
theorem lc2_u (x : Int64) : uL_ (lc2_ x) = p2_ (m33 8) (uL_ x) := by
  have e1 : uL_ (x &&& 3689348814741910323) = uL_ x &&& m33 8 := by rw [uL_and, m33_8]
  have e2 : uL_ (uls_ x 2 &&& 3689348814741910323) = (uL_ x / 4) &&& m33 8 := by rw [uL_and, uL_shr x 2 2 (by decide +kernel), m33_8]
  have h := p2_top8 (uL_ x)
  unfold lc2_
  rw [uL_add, e1, e2]
  exact Nat.mod_eq_of_lt (show p2_ (m33 8) (uL_ x) < _ by omega)
theorem lc3_u (x : Int64) (h : uL_ x ≤ 7378697629483820646) : uL_ (lc3_ x) = p3_ (m0f 8) (uL_ x) := by
  unfold lc3_ p3_
  rw [uL_and, uL_add, uL_shr x 4 4 (by decide +kernel), m0f_8]
  rw [Nat.mod_eq_of_lt (by omega)]
def q8_ (x k : Nat) : Nat := x / 256 ^ k % 256
theorem pcF_64 (s : Nat) : pcF 64 s = pcF 8 (q8_ s 0) + (pcF 8 (q8_ s 1) + (pcF 8 (q8_ s 2) + (pcF 8 (q8_ s 3) + (pcF 8 (q8_ s 4) + (pcF 8 (q8_ s 5) + (pcF 8 (q8_ s 6) + (pcF 8 (q8_ s 7) + 0))))))) := by
  rw [show (64 : Nat) = 8 + (8 + (8 + (8 + (8 + (8 + (8 + (8 + 0))))))) from rfl, pcF_8, pcF_8, pcF_8, pcF_8, pcF_8, pcF_8, pcF_8, pcF_8]
  simp only [q8_, Nat.div_div_eq_div_mul, Nat.reducePow, Nat.reduceMul, Nat.div_one]
  rfl
theorem pb_8 (x : Nat) (h : x < 18446744073709551616) : pb_ 8 x = pcF 8 (q8_ x 0) + 256 * (pcF 8 (q8_ x 1) + 256 * (pcF 8 (q8_ x 2) + 256 * (pcF 8 (q8_ x 3) + 256 * (pcF 8 (q8_ x 4) + 256 * (pcF 8 (q8_ x 5) + 256 * (pcF 8 (q8_ x 6) + 256 * pcF 8 (q8_ x 7))))))) := by
  rw [pb_split 7 x (by show x < 18446744073709551616; exact h),
    pb_split 6 (x / 256) (by show x / 256 < 72057594037927936; omega),
    pb_split 5 (x / 256 / 256) (by show x / 256 / 256 < 281474976710656; omega),
    pb_split 4 (x / 256 / 256 / 256) (by show x / 256 / 256 / 256 < 1099511627776; omega),
    pb_split 3 (x / 256 / 256 / 256 / 256) (by show x / 256 / 256 / 256 / 256 < 4294967296; omega),
    pb_split 2 (x / 256 / 256 / 256 / 256 / 256) (by show x / 256 / 256 / 256 / 256 / 256 < 16777216; omega),
    pb_split 1 (x / 256 / 256 / 256 / 256 / 256 / 256) (by show x / 256 / 256 / 256 / 256 / 256 / 256 < 65536; omega),
    pb_split 0 (x / 256 / 256 / 256 / 256 / 256 / 256 / 256) (by show x / 256 / 256 / 256 / 256 / 256 / 256 / 256 < 256; omega)]
  have e : pb_ 0 (x / 256 / 256 / 256 / 256 / 256 / 256 / 256 / 256) = 0 := by
    rw [show x / 256 / 256 / 256 / 256 / 256 / 256 / 256 / 256 = 0 by omega]
    decide
  rw [e]
  simp only [q8_, Nat.div_div_eq_div_mul, Nat.reducePow, Nat.reduceMul, Nat.div_one]
  omega
theorem lN_i32 {x : Int64} (h : uL_ x < 4294967296) : x.toInt32 = nI (uL_ x) := by
  have e : x = lN (uL_ x) := uL_inj (by rw [uL_lN (uL_lt x)])
  conv => lhs; rw [e]
  rw [lN_i]
theorem lc_u (x : Int64) : lc_ x = nI (pcF 64 (uL_ x)) := by
  have hx := uL_lt x
  have h3 : uL_ (lc3_ (lc2_ (lc1_ x))) = pb_ 8 (uL_ x) := by
    rw [lc3_u _ (by rw [lc2_u]; exact p2_top8 _), lc2_u, lc1_u]
    rfl
  rw [pb_8 _ hx] at h3
  have hp := pcF_64 (uL_ x)
  have g0 := pcF_le 8 (q8_ (uL_ x) 0)
  have g1 := pcF_le 8 (q8_ (uL_ x) 1)
  have g2 := pcF_le 8 (q8_ (uL_ x) 2)
  have g3 := pcF_le 8 (q8_ (uL_ x) 3)
  have g4 := pcF_le 8 (q8_ (uL_ x) 4)
  have g5 := pcF_le 8 (q8_ (uL_ x) 5)
  have g6 := pcF_le 8 (q8_ (uL_ x) 6)
  have g7 := pcF_le 8 (q8_ (uL_ x) 7)
  generalize pcF 8 (q8_ (uL_ x) 0) = c0 at *
  generalize pcF 8 (q8_ (uL_ x) 1) = c1 at *
  generalize pcF 8 (q8_ (uL_ x) 2) = c2 at *
  generalize pcF 8 (q8_ (uL_ x) 3) = c3 at *
  generalize pcF 8 (q8_ (uL_ x) 4) = c4 at *
  generalize pcF 8 (q8_ (uL_ x) 5) = c5 at *
  generalize pcF 8 (q8_ (uL_ x) 6) = c6 at *
  generalize pcF 8 (q8_ (uL_ x) 7) = c7 at *
  generalize hy : lc3_ (lc2_ (lc1_ x)) = y at *
  have h4 : uL_ (lc4_ y) = uL_ y + uL_ y / 256 := by
    unfold lc4_
    rw [uL_add, uL_shr y 8 8 (by decide +kernel)]
    exact Nat.mod_eq_of_lt (by omega)
  have e4 : uL_ (lc4_ y) = (c0 + c1) + 256 * ((c1 + c2) + 256 * ((c2 + c3) + 256 * ((c3 + c4) + 256 * ((c4 + c5) + 256 * ((c5 + c6) + 256 * ((c6 + c7) + 256 * c7)))))) := by omega
  have h5 : uL_ (lc5_ (lc4_ y)) = uL_ (lc4_ y) + uL_ (lc4_ y) / 65536 := by
    unfold lc5_
    rw [uL_add, uL_shr (lc4_ y) 16 16 (by decide +kernel)]
    exact Nat.mod_eq_of_lt (by omega)
  have e5 : uL_ (lc5_ (lc4_ y)) = (c0 + c1 + c2 + c3) + 256 * ((c1 + c2 + c3 + c4) + 256 * ((c2 + c3 + c4 + c5) + 256 * ((c3 + c4 + c5 + c6) + 256 * ((c4 + c5 + c6 + c7) + 256 * ((c5 + c6 + c7) + 256 * ((c6 + c7) + 256 * c7)))))) := by omega
  have h6 : uL_ (lc6_ (lc5_ (lc4_ y))) = uL_ (lc5_ (lc4_ y)) + uL_ (lc5_ (lc4_ y)) / 4294967296 := by
    unfold lc6_
    rw [uL_add, uL_shr (lc5_ (lc4_ y)) 32 32 (by decide +kernel)]
    exact Nat.mod_eq_of_lt (by omega)
  have e6 : uL_ (lc6_ (lc5_ (lc4_ y))) % 128 = c0 + c1 + c2 + c3 + c4 + c5 + c6 + c7 := by omega
  unfold lc_
  rw [hy]
  have e7 : lc6_ (lc5_ (lc4_ y)) = lN (uL_ (lc6_ (lc5_ (lc4_ y)))) := uL_inj (by rw [uL_lN (uL_lt _)])
  rw [e7, lN_i]
  generalize uL_ (lc6_ (lc5_ (lc4_ y))) = z at *
  apply uI_inj
  rw [uI_and, show uI_ 127 = 2 ^ 7 - 1 by decide +kernel, Nat.and_two_pow_sub_one_eq_mod, uI_nI (by omega)]
  show z % 4294967296 % 2 ^ 7 = _
  rw [hp]
  omega
