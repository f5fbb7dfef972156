/-! the machine's operations on natural Ints -/
def bvn (x : Int32) : Nat := x.toBitVec.toNat
theorem bvn_oI (z : Int) : bvn (oI z) = (z % 4294967296).toNat := by
  unfold bvn oI
  rw [Int32.toBitVec_ofInt]
  simp
theorem bvn_pos {z : Int} (h : 0 ≤ z ∧ z < 4294967296) : bvn (oI z) = z.toNat := by
  rw [bvn_oI]
  omega
theorem bvn_toInt {x : Int32} (h : bvn x < 2147483648) : x.toInt = (bvn x : Int) := by
  unfold bvn at *
  show x.toBitVec.toInt = _
  rw [BitVec.toInt_eq_toNat_cond, if_pos (by omega)]
theorem bvn_us {x y : Int} (hy : 0 ≤ y ∧ y < 32) : bvn (us (oI x) (oI y)) = bvn (oI x) >>> y.toNat := by
  obtain ⟨k, rfl⟩ := Int.eq_ofNat_of_zero_le hy.1
  have hk : k < 32 := by omega
  have e : ((oI (k : Int)).toUInt32 &&& Int32.toUInt32 31).toBitVec.toNat = k := by
    have h2 : ∀ k, k < 32 → ((nI k).toUInt32 &&& Int32.toUInt32 31).toBitVec.toNat = k := by decide +kernel
    exact h2 k hk
  unfold bvn us
  show ((oI x).toUInt32 >>> ((oI (k : Int)).toUInt32 &&& Int32.toUInt32 31)).toBitVec.toNat = _
  rw [UInt32.toBitVec_shiftRight, BitVec.ushiftRight_eq', BitVec.toNat_ushiftRight, BitVec.toNat_umod, e]
  show _ >>> (k % 32) = _
  rw [Nat.mod_eq_of_lt hk]
  simp
theorem zush_n {x y : Int} (h : 0 ≤ x ∧ x < 2147483648) (hy : 0 ≤ y ∧ y < 32) : zush x y = x / 2 ^ y.toNat := by
  unfold zush
  rw [bvn_toInt, bvn_us hy, bvn_pos ⟨h.1, by omega⟩, Nat.shiftRight_eq_div_pow]
  · obtain ⟨k, rfl⟩ := Int.eq_ofNat_of_zero_le h.1
    simp
  · rw [bvn_us hy, bvn_pos ⟨h.1, by omega⟩, Nat.shiftRight_eq_div_pow]
    have := Nat.div_le_self x.toNat (2 ^ y.toNat)
    omega
theorem bvn_and (a b : Int32) : bvn (a &&& b) = bvn a &&& bvn b := by unfold bvn; rw [Int32.toBitVec_and, BitVec.toNat_and]
theorem bvn_or (a b : Int32) : bvn (a ||| b) = bvn a ||| bvn b := by unfold bvn; rw [Int32.toBitVec_or, BitVec.toNat_or]
theorem bvn_xor (a b : Int32) : bvn (a ^^^ b) = bvn a ^^^ bvn b := by unfold bvn; rw [Int32.toBitVec_xor, BitVec.toNat_xor]
theorem zxor_oct {x y : Int} (hx : 0 ≤ x ∧ x < 256) (hy : 0 ≤ y ∧ y < 256) : 0 ≤ zxor x y ∧ zxor x y < 256 := by
  have e : bvn (oI x ^^^ oI y) < 256 := by
    rw [bvn_xor, bvn_pos ⟨hx.1, by omega⟩, bvn_pos ⟨hy.1, by omega⟩]
    exact Nat.xor_lt_two_pow (n := 8) (by omega) (by omega)
  unfold zxor
  rw [bvn_toInt (by omega)]
  omega
theorem zxor_nat {x y : Int} (hx : 0 ≤ x ∧ x < 256) (hy : 0 ≤ y ∧ y < 256) : zxor x y = ((x.toNat ^^^ y.toNat : Nat) : Int) := by
  have e : bvn (oI x ^^^ oI y) = x.toNat ^^^ y.toNat := by
    rw [bvn_xor, bvn_pos ⟨hx.1, by omega⟩, bvn_pos ⟨hy.1, by omega⟩]
  have e2 : x.toNat ^^^ y.toNat < 256 := Nat.xor_lt_two_pow (n := 8) (by omega) (by omega)
  unfold zxor
  rw [bvn_toInt (by omega), e]
theorem zxor_comm (x y : Int) : zxor x y = zxor y x := by unfold zxor; rw [Int32.xor_comm]
theorem zor_256 {x y : Int} (hx : 0 ≤ x ∧ x < 32768) (hy : 0 ≤ y ∧ y < 256) : zor (zshl x 8) y = x * 256 + y := by
  have hs : oI x <<< (oI 8 &&& 31) = oI (x * 256) := by
    apply Int32.toBitVec_inj.mp
    apply BitVec.eq_of_toNat_eq
    have e1 : bvn (oI (x * 256)) = (x * 256).toNat := bvn_pos ⟨by omega, by omega⟩
    have e2 : bvn (oI x) = x.toNat := bvn_pos ⟨by omega, by omega⟩
    unfold bvn at e1 e2
    rw [e1]
    show (oI x <<< (8 : Int32)).toBitVec.toNat = _
    rw [Int32.toBitVec_shiftLeft, show (8 : Int32).toBitVec.smod 32 = 8#32 from by decide, BitVec.shiftLeft_eq', BitVec.toNat_shiftLeft, e2, Nat.shiftLeft_eq]
    show x.toNat * 2 ^ 8 % 4294967296 = _
    omega
  have e : bvn (oI (zshl x 8) ||| oI y) = (x * 256 + y).toNat := by
    unfold zshl
    rw [oI_of, hs, bvn_or, bvn_pos ⟨by omega, by omega⟩, bvn_pos ⟨by omega, by omega⟩]
    have := Nat.two_pow_add_eq_or_of_lt (i := 8) (b := y.toNat) (by omega) x.toNat
    rw [show (x * 256).toNat = 2 ^ 8 * x.toNat by omega, ← this]
    omega
  unfold zor
  rw [bvn_toInt (by omega), e]
  omega
