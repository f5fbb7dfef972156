/-! powers modulo the prime -/
def pq : Nat → Nat → Nat → Nat → Nat
  | 0, r, _, _ => r
  | k + 1, r, b, e => pq k (if e % 2 = 1 then r * b % 2147483647 else r) (b * b % 2147483647) (e / 2)
def pw (b e : Nat) : Nat := pq 32 1 (b % 2147483647) e
theorem pq_0 (k r b : Nat) : pq k r b 0 = r := by
  induction k generalizing r b with
  | zero => rfl
  | succ k ih => unfold pq; rw [if_neg (by decide)]; exact ih _ _
theorem pq_lt {k r b e : Nat} (h : r < 2147483647) : pq k r b e < 2147483647 := by
  induction k generalizing r b e with
  | zero => exact h
  | succ k ih =>
    unfold pq
    split
    · exact ih (Nat.mod_lt _ (by decide))
    · exact ih h
theorem pw_lt (b e : Nat) : pw b e < 2147483647 := pq_lt (by decide)
theorem cop_mod {x : Nat} (h : Nat.gcd x 2147483647 = 1) : Nat.gcd (x % 2147483647) 2147483647 = 1 := by
  rw [← Nat.gcd_rec, Nat.gcd_comm]
  exact h
theorem pq_cop {k r b e : Nat} (hr : Nat.gcd r 2147483647 = 1) (hb : Nat.gcd b 2147483647 = 1) : Nat.gcd (pq k r b e) 2147483647 = 1 := by
  induction k generalizing r b e with
  | zero => exact hr
  | succ k ih =>
    unfold pq
    have hm : ∀ x y, Nat.gcd x 2147483647 = 1 → Nat.gcd y 2147483647 = 1 → Nat.gcd (x * y % 2147483647) 2147483647 = 1 := fun x y hx hy => cop_mod (Nat.Coprime.mul_left hx hy)
    split
    · exact ih (hm _ _ hr hb) (hm _ _ hb hb)
    · exact ih hr (hm _ _ hb hb)
theorem pw7 (e : Nat) : pw 7 e ≠ 0 := by
  intro h
  have h1 : Nat.gcd (pw 7 e) 2147483647 = 1 := pq_cop (by decide) (by decide)
  rw [h] at h1
  exact absurd h1 (by decide)
/-- a long that is a natural number -/
def lN' (x : Int64) (n : Nat) : Prop := x.toInt = (n : Int)
theorem lmod {x : Int64} {n : Nat} (h : lN' x n) (hn : n < 2 ^ 63) {y : Int64} {d : Nat} (hy : lN' y d) (hd : 0 < d ∧ d < 2 ^ 63) : lN' (yrem x y) (n % d) := by
  unfold lN' at *
  unfold yrem
  have h1 : (x / y).toInt = ((n / d : Nat) : Int) := by
    rw [Int64.toInt_div, h, hy]
    have e : Int.tdiv (n : Int) (d : Int) = ((n / d : Nat) : Int) := rfl
    have h2 := Nat.div_le_self n d
    rw [e]
    obtain ⟨q, hq⟩ : ∃ q, q = n / d := ⟨_, rfl⟩
    rw [← hq] at h2 ⊢
    exact Int.bmod_eq_of_le (by omega) (by omega)
  have h3 : (x / y * y).toInt = ((n / d * d : Nat) : Int) := by
    rw [Int64.toInt_mul, h1, hy, ← Int.natCast_mul]
    have h2 := Nat.div_mul_le_self n d
    obtain ⟨q, hq⟩ : ∃ q, q = n / d * d := ⟨_, rfl⟩
    rw [← hq] at h2 ⊢
    exact Int.bmod_eq_of_le (by omega) (by omega)
  rw [Int64.toInt_sub, h, h3]
  have h4 := Nat.div_mul_le_self n d
  have h5 := Nat.div_add_mod n d
  rw [Nat.mul_comm] at h5
  obtain ⟨q, hq⟩ : ∃ q, q = n / d * d := ⟨_, rfl⟩
  obtain ⟨u, hu⟩ : ∃ u, u = n % d := ⟨_, rfl⟩
  rw [← hq] at h4 h5 ⊢
  rw [← hu] at h5 ⊢
  rw [Int.bmod_eq_of_le (by omega) (by omega)]
  omega
theorem lmul {x y : Int64} {a b : Nat} (hx : lN' x a) (hy : lN' y b) (ha : a < 2147483648) (hb : b < 2147483648) : lN' (x * y) (a * b) := by
  unfold lN' at *
  rw [Int64.toInt_mul, hx, hy, ← Int.natCast_mul]
  have : a * b ≤ 2147483647 * 2147483647 := Nat.mul_le_mul (by omega) (by omega)
  obtain ⟨q, hq⟩ : ∃ q, q = a * b := ⟨_, rfl⟩
  rw [← hq] at this ⊢
  exact Int.bmod_eq_of_le (by omega) (by omega)
theorem lmm {x y : Int64} {a b : Nat} (hx : lN' x a) (hy : lN' y b) (ha : a < 2147483648) (hb : b < 2147483648) : lN' (yrem (x * y) 2147483647) (a * b % 2147483647) := by
  refine lmod (lmul hx hy ha hb) ?_ (d := 2147483647) (by unfold lN'; decide) (by decide)
  have : a * b ≤ 2147483647 * 2147483647 := Nat.mul_le_mul (by omega) (by omega)
  omega
theorem land1 (x : Int64) : (x &&& 1).toInt = x.toInt % 2 := by
  have h1 : (x &&& 1).toBitVec.toNat = x.toBitVec.toNat % 2 := by
    rw [Int64.toBitVec_and, BitVec.toNat_and]
    have : (1 : Int64).toBitVec.toNat = 1 := by decide
    rw [this]
    exact Nat.and_two_pow_sub_one_eq_mod _ 1
  have h2 : (x &&& 1).toInt = ((x &&& 1).toBitVec.toNat : Int) := by
    show (x &&& 1).toBitVec.toInt = _
    rw [BitVec.toInt_eq_toNat_cond, if_pos (by omega)]
  rw [h2, h1]
  show _ = x.toBitVec.toInt % 2
  rw [BitVec.toInt_eq_toNat_cond]
  split <;> omega
theorem zcmp_eq (x y : Int64) : zcmp x y = 0 ↔ x = y := by
  unfold zcmp lg_cmp
  by_cases c1 : x > y
  · rw [if_pos c1]
    constructor
    · intro h; exact absurd h (by decide)
    · rintro rfl; exact (Int64.lt_irrefl c1).elim
  · rw [if_neg c1]
    by_cases c2 : x = y
    · rw [if_pos c2]; exact ⟨fun _ => c2, fun _ => by decide⟩
    · rw [if_neg c2]
      exact ⟨fun h => absurd h (by decide), fun h => absurd h c2⟩
theorem zcmp_pos (x y : Int64) : 0 < zcmp x y ↔ y < x := by
  unfold zcmp lg_cmp
  by_cases c1 : x > y
  · rw [if_pos c1]; exact ⟨fun _ => c1, fun _ => by decide⟩
  · rw [if_neg c1]
    by_cases c2 : x = y
    · rw [if_pos c2]; exact ⟨fun h => absurd h (by decide), fun h => absurd h c1⟩
    · rw [if_neg c2]; exact ⟨fun h => absurd h (by decide), fun h => absurd h c1⟩
theorem l_eq {x y : Int64} : x = y ↔ x.toInt = y.toInt := Int64.toInt_inj.symm
theorem s_powerX {b e : Int64} {bn en : Nat} {J : zM} {L : yM} {Q : Int64 → zM → yM → Prop} (hb : lN' b bn) (hb2 : bn < 2 ^ 63) (he : lN' e en) (hQ : ∀ r, lN' r (pw bn en) → Q r J L) : w_X11_power b e J L Q := by
  unfold w_X11_power
  intro x1 e1
  have h1 : lN' x1 (bn % 2147483647) := by rw [e1]; exact lmod hb hb2 (d := 2147483647) (by unfold lN'; decide) (by decide)
  refine zl_llz.by (fun m r c i J' L' => (m : Int) = 32 - i ∧ 0 ≤ i ∧ J' = J ∧ L' = L ∧ ∃ rn cn : Nat, lN' r rn ∧ lN' c cn ∧ rn < 2147483648 ∧ cn < 2147483648 ∧ pq (32 - i).toNat rn cn (en / 2 ^ i.toNat) = pw bn en) ?_ 32 1 x1 0 J L ⟨by omega, by omega, rfl, rfl, 1, bn % 2147483647, by unfold lN'; decide, h1, by decide, by have := Nat.mod_lt bn (show 2147483647 > 0 by decide); omega, by simp [pw]⟩
  rintro m r c i J1 L1 K ⟨hm, hi, rfl, rfl, rn, cn, hr, hc, hr2, hc2, hp⟩ hK
  refine ⟨⟨by omega, by omega⟩, ?_⟩
  by_cases q : i < 32
  · rw [if_pos q]
    intro K2 hK2
    rw [show (32 - i).toNat = (32 - (i + 1)).toNat + 1 by omega] at hp
    unfold pq at hp
    rw [Nat.div_div_eq_div_mul, show 2 ^ i.toNat * 2 = 2 ^ (i + 1).toNat by rw [show (i + 1).toNat = i.toNat + 1 by omega, Nat.pow_succ]] at hp
    have hb1 : ((yush e i) &&& 1).toInt = ((en / 2 ^ i.toNat % 2 : Nat) : Int) := by
      rw [land1, yush_toInt ⟨hi, by omega⟩ (by unfold lN' at he; omega), he]
      simp
    have hcc := lmm hc hc hc2 hc2
    by_cases q2 : en / 2 ^ i.toNat % 2 = 1
    · rw [if_neg (by rw [zcmp_eq, l_eq, hb1, q2]; decide)]
      rw [if_pos q2] at hp
      intro x2 e2
      have h2 : lN' x2 (rn * cn % 2147483647) := by rw [e2]; exact lmm hr hc hr2 hc2
      refine hK2 x2 J1 L1 (fun x3 e3 => hK (m - 1) x2 x3 (i + 1) J1 L1 (by omega) ⟨by omega, by omega, rfl, rfl, rn * cn % 2147483647, cn * cn % 2147483647, h2, by rw [e3]; exact hcc, ?_, ?_, hp⟩)
      · have := Nat.mod_lt (rn * cn) (show 2147483647 > 0 by decide); omega
      · have := Nat.mod_lt (cn * cn) (show 2147483647 > 0 by decide); omega
    · rw [if_pos (by rw [zcmp_eq, l_eq, hb1, show en / 2 ^ i.toNat % 2 = 0 by omega]; rfl)]
      rw [if_neg q2] at hp
      refine hK2 r J1 L1 (fun x3 e3 => hK (m - 1) r x3 (i + 1) J1 L1 (by omega) ⟨by omega, by omega, rfl, rfl, rn, cn * cn % 2147483647, hr, by rw [e3]; exact hcc, hr2, ?_, hp⟩)
      have := Nat.mod_lt (cn * cn) (show 2147483647 > 0 by decide); omega
  · rw [if_neg q]
    have : i = 32 := by omega
    subst this
    have hp : rn = pw bn en := hp
    rw [hp] at hr
    exact hQ r hr
theorem s_powerM {b e : Int64} {bn en : Nat} {J : zM} {L : yM} {Q : Int64 → zM → yM → Prop} (hb : lN' b bn) (hb2 : bn < 2 ^ 63) (he : lN' e en) (he2 : en < 2 ^ 32) (hQ : ∀ r, lN' r (pw bn en) → Q r J L) : w_X12_power b e J L Q := by
  unfold w_X12_power
  intro x1 e1
  have h1 : lN' x1 (bn % 2147483647) := by rw [e1]; exact lmod hb hb2 (d := 2147483647) (by unfold lN'; decide) (by decide)
  refine zl_lll.by (fun m r c x J' L' => J' = J ∧ L' = L ∧ ∃ rn cn xn : Nat, lN' r rn ∧ lN' c cn ∧ lN' x xn ∧ rn < 2147483648 ∧ cn < 2147483648 ∧ xn < 2 ^ m ∧ pq m rn cn xn = pw bn en) ?_ 32 1 x1 e J L ⟨rfl, rfl, 1, bn % 2147483647, en, by unfold lN'; decide, h1, he, by decide, by have := Nat.mod_lt bn (show 2147483647 > 0 by decide); omega, he2, rfl⟩
  rintro m r c x J1 L1 K ⟨rfl, rfl, rn, cn, xn, hr, hc, hx, hr2, hc2, hxm, hp⟩ hK
  have hpos : (0 < zcmp x 0) ↔ 0 < xn := by
    rw [zcmp_pos, Int64.lt_iff_toInt_lt, hx]
    show (0 : Int64).toInt < (xn : Int) ↔ _
    rw [show (0 : Int64).toInt = 0 by decide]
    omega
  by_cases q : 0 < xn
  · rw [if_pos (hpos.mpr q)]
    intro K2 hK2
    cases m with
    | zero => exact absurd hxm (by simp; omega)
    | succ m =>
      unfold pq at hp
      have hb1 : (x &&& 1).toInt = ((xn % 2 : Nat) : Int) := by
        rw [land1, hx]
        rfl
      have hcc := lmm hc hc hc2 hc2
      have hsh : ∀ y, y = yshr x 1 → lN' y (xn / 2) := fun y ey => by
        unfold lN'
        rw [ey, yshr_toInt (by decide), hx]
        rfl
      have hlt : xn / 2 < 2 ^ m := by rw [Nat.pow_succ] at hxm; omega
      by_cases q2 : xn % 2 = 1
      · rw [if_pos (by rw [zcmp_eq, l_eq, hb1, q2]; decide)]
        rw [if_pos q2] at hp
        intro x2 e2
        have h2 : lN' x2 (rn * cn % 2147483647) := by rw [e2]; exact lmm hr hc hr2 hc2
        refine hK2 x2 J1 L1 (fun x3 e3 x4 e4 => hK m x2 x3 x4 J1 L1 (by omega) ⟨rfl, rfl, rn * cn % 2147483647, cn * cn % 2147483647, xn / 2, h2, by rw [e3]; exact hcc, hsh x4 e4, ?_, ?_, hlt, hp⟩)
        · have := Nat.mod_lt (rn * cn) (show 2147483647 > 0 by decide); omega
        · have := Nat.mod_lt (cn * cn) (show 2147483647 > 0 by decide); omega
      · rw [if_neg (by rw [zcmp_eq, l_eq, hb1, show xn % 2 = 0 by omega]; decide)]
        rw [if_neg q2] at hp
        refine hK2 r J1 L1 (fun x3 e3 x4 e4 => hK m r x3 x4 J1 L1 (by omega) ⟨rfl, rfl, rn, cn * cn % 2147483647, xn / 2, hr, by rw [e3]; exact hcc, hsh x4 e4, hr2, ?_, hlt, hp⟩)
        have := Nat.mod_lt (cn * cn) (show 2147483647 > 0 by decide); omega
  · rw [if_neg (fun u => q (hpos.mp u))]
    have hx0 : xn = 0 := by omega
    rw [hx0, pq_0] at hp
    rw [hp] at hr
    exact hQ r hr
