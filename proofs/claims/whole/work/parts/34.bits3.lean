theorem zshr_n {x y : Int} (h : R32 x) (hy : 0 ≤ y ∧ y < 32) : zshr x y = x / 2 ^ y.toNat := by
  obtain ⟨k, rfl⟩ := Int.eq_ofNat_of_zero_le hy.1
  have hk : k < 32 := by omega
  have e : ((oI (k : Int) &&& 31).toBitVec.smod 32).toNat = k := by
    have h2 : ∀ k, k < 32 → ((nI k &&& 31).toBitVec.smod 32).toNat = k := by decide +kernel
    exact h2 k hk
  unfold zshr
  show (oI x >>> (oI (k : Int) &&& 31)).toBitVec.toInt = _
  rw [Int32.toBitVec_shiftRight, BitVec.sshiftRight_eq', BitVec.toInt_sshiftRight, e, Int.shiftRight_eq_div_pow]
  have hx : (oI x).toBitVec.toInt = x := oI_toInt h
  rw [hx]
  simp
theorem zdiv_n {x y : Int} (hx : 0 ≤ x ∧ x < 2147483648) (hy : 0 < y ∧ y < 2147483648) : zdiv x y = x / y := by
  unfold zdiv
  rw [Int32.toInt_div, oI_toInt ⟨by omega, by omega⟩, oI_toInt ⟨by omega, by omega⟩, Int.tdiv_eq_ediv_of_nonneg hx.1]
  obtain ⟨a, rfl⟩ := Int.eq_ofNat_of_zero_le hx.1
  obtain ⟨b, rfl⟩ := Int.eq_ofNat_of_zero_le (Int.le_of_lt hy.1)
  have h1 : (a : Int) / (b : Int) = ((a / b : Nat) : Int) := rfl
  have h2 := Nat.div_le_self a b
  obtain ⟨q, hq⟩ : ∃ q, q = a / b := ⟨_, rfl⟩
  rw [← hq] at h1 h2
  rw [h1, Int.bmod_eq_of_le (by omega) (by omega)]
theorem zrem_n {x y : Int} (hx : 0 ≤ x ∧ x < 2147483648) (hy : 0 < y ∧ y < 2147483648) : zrem x y = x % y := by
  have h0 := zdiv_n hx hy
  unfold zdiv at h0
  have h1 : oI x / oI y = oI (x / y) := by rw [← h0, oI_of]
  unfold zrem
  rw [h1, oI_mul, oI_sub]
  have h2 := Int.emod_add_mul_ediv x y
  have h3 := Int.emod_nonneg x (show y ≠ 0 by omega)
  have h4 := Int.emod_lt_of_pos x hy.1
  have h5 : x - x / y * y = x % y := by rw [Int.mul_comm]; omega
  rw [h5, oI_toInt ⟨by omega, by omega⟩]
