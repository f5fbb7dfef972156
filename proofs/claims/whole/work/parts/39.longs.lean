/-! longs -/
theorem l2i_small {x : Int64} (h : 0 ≤ x.toInt ∧ x.toInt < 2147483648) : zl2i x = x.toInt := by
  unfold zl2i
  rw [Int64.toInt_toInt32]
  exact Int.bmod_eq_of_le (by omega) (by omega)
theorem i2l_toInt {z : Int} (h : R32 z) : (zi2l z).toInt = z := by
  unfold zi2l
  rw [Int32.toInt_toInt64, oI_toInt h]
theorem land255 (x : Int64) : (x &&& 255).toInt = x.toInt % 256 := by
  have h1 : (x &&& 255).toBitVec.toNat = x.toBitVec.toNat % 256 := by
    rw [Int64.toBitVec_and, BitVec.toNat_and]
    have : (255 : Int64).toBitVec.toNat = 255 := by decide
    rw [this]
    exact Nat.and_two_pow_sub_one_eq_mod _ 8
  have h2 : (x &&& 255).toInt = ((x &&& 255).toBitVec.toNat : Int) := by
    show (x &&& 255).toBitVec.toInt = _
    rw [BitVec.toInt_eq_toNat_cond, if_pos (by omega)]
  rw [h2, h1]
  show _ = x.toBitVec.toInt % 256
  rw [BitVec.toInt_eq_toNat_cond]
  split <;> omega
theorem yshr_toInt {x : Int64} {y : Int} (hy : 0 ≤ y ∧ y < 64) : (yshr x y).toInt = x.toInt / 2 ^ y.toNat := by
  obtain ⟨k, rfl⟩ := Int.eq_ofNat_of_zero_le hy.1
  have hk : k < 64 := by omega
  have e : (((oI (k : Int)).toInt64 &&& 63).toBitVec.smod 64).toNat = k := by
    have h2 : ∀ k, k < 64 → (((nI k).toInt64 &&& 63).toBitVec.smod 64).toNat = k := by decide +kernel
    exact h2 k hk
  unfold yshr
  show (x >>> ((oI (k : Int)).toInt64 &&& 63)).toBitVec.toInt = _
  rw [Int64.toBitVec_shiftRight, BitVec.sshiftRight_eq', BitVec.toInt_sshiftRight, e, Int.shiftRight_eq_div_pow]
  simp
theorem loct {x : Int64} {y : Int} (hy : 0 ≤ y ∧ y < 64) : zl2i ((yshr x y) &&& 255) = x.toInt / 2 ^ y.toNat % 256 := by
  rw [l2i_small (by rw [land255]; omega), land255, yshr_toInt hy]
theorem yush_toInt {x : Int64} {y : Int} (hy : 0 ≤ y ∧ y < 64) (hx : 0 ≤ x.toInt) : (yush x y).toInt = x.toInt / 2 ^ y.toNat := by
  obtain ⟨k, rfl⟩ := Int.eq_ofNat_of_zero_le hy.1
  have hk : k < 64 := by omega
  have e : ((oI (k : Int)).toInt64.toUInt64 &&& Int64.toUInt64 63).toBitVec.toNat = k := by
    have h2 : ∀ k, k < 64 → ((nI k).toInt64.toUInt64 &&& Int64.toUInt64 63).toBitVec.toNat = k := by decide +kernel
    exact h2 k hk
  have hx2 : x.toInt = (x.toBitVec.toNat : Int) := by
    have h3 : x.toInt = x.toBitVec.toInt := rfl
    rw [h3, BitVec.toInt_eq_toNat_cond] at hx ⊢
    by_cases q : 2 * x.toBitVec.toNat < 2 ^ 64
    · rw [if_pos q]
    · rw [if_neg q] at hx
      have := x.toBitVec.isLt
      omega
  have hn : (yush x (k : Int)).toBitVec.toNat = x.toBitVec.toNat >>> k := by
    unfold yush
    show (x.toUInt64 >>> ((oI (k : Int)).toInt64.toUInt64 &&& Int64.toUInt64 63)).toBitVec.toNat = _
    rw [UInt64.toBitVec_shiftRight, BitVec.ushiftRight_eq', BitVec.toNat_ushiftRight, BitVec.toNat_umod, e]
    show _ >>> (k % 64) = _
    rw [Nat.mod_eq_of_lt hk]
    rfl
  have hle : x.toBitVec.toNat >>> k ≤ x.toBitVec.toNat := by rw [Nat.shiftRight_eq_div_pow]; exact Nat.div_le_self _ _
  have hb : x.toBitVec.toNat < 2 ^ 63 := by
    have h3 : x.toInt = x.toBitVec.toInt := rfl
    rw [h3, BitVec.toInt_eq_toNat_cond] at hx2
    by_cases q : 2 * x.toBitVec.toNat < 2 ^ 64
    · omega
    · rw [if_neg q] at hx2
      omega
  have : (yush x (k : Int)).toInt = ((yush x (k : Int)).toBitVec.toNat : Int) := by
    show (yush x (k : Int)).toBitVec.toInt = _
    rw [BitVec.toInt_eq_toNat_cond, if_pos (by rw [hn]; omega)]
  rw [this, hn, hx2, Nat.shiftRight_eq_div_pow]
  simp
theorem uoct {x : Int64} {y : Int} (hy : y = 0 ∨ y = 8 ∨ y = 16 ∨ y = 24 ∨ y = 32 ∨ y = 40 ∨ y = 48 ∨ y = 56) : zand (zl2i (yush x y)) 255 = x.toInt / 2 ^ y.toNat % 256 := by
  obtain ⟨k, rfl⟩ := Int.eq_ofNat_of_zero_le (show 0 ≤ y by omega)
  have hk : k < 64 := by omega
  have e : ((oI (k : Int)).toInt64.toUInt64 &&& Int64.toUInt64 63).toBitVec.toNat = k := by
    have h2 : ∀ k, k < 64 → ((nI k).toInt64.toUInt64 &&& Int64.toUInt64 63).toBitVec.toNat = k := by decide +kernel
    exact h2 k hk
  have hn : (yush x (k : Int)).toBitVec.toNat = x.toBitVec.toNat >>> k := by
    unfold yush
    show (x.toUInt64 >>> ((oI (k : Int)).toInt64.toUInt64 &&& Int64.toUInt64 63)).toBitVec.toNat = _
    rw [UInt64.toBitVec_shiftRight, BitVec.ushiftRight_eq', BitVec.toNat_ushiftRight, BitVec.toNat_umod, e]
    show _ >>> (k % 64) = _
    rw [Nat.mod_eq_of_lt hk]
    rfl
  rw [Nat.shiftRight_eq_div_pow] at hn
  rw [zand255]
  unfold zl2i
  rw [Int64.toInt_toInt32, Int.bmod_def]
  have h9 : (yush x (k : Int)).toInt = (yush x (k : Int)).toBitVec.toInt := rfl
  have hx9 : x.toInt = x.toBitVec.toInt := rfl
  rw [h9, hx9, BitVec.toInt_eq_toNat_cond, BitVec.toInt_eq_toNat_cond, hn, Int.toNat_natCast]
  have hb := x.toBitVec.isLt
  have hk8 : k = 0 ∨ k = 8 ∨ k = 16 ∨ k = 24 ∨ k = 32 ∨ k = 40 ∨ k = 48 ∨ k = 56 := by omega
  generalize x.toBitVec.toNat = u at *
  rcases hk8 with rfl | rfl | rfl | rfl | rfl | rfl | rfl | rfl <;> (simp only [Nat.reducePow, Int.reducePow]; (repeat' split) <;> omega)
