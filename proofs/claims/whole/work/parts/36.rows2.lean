theorem zcp_succ2 {J : zM} {a b : Nat} {sp dp n : Int} (hn : 0 ≤ n) (h : a ≠ b ∨ ¬ (dp ≤ sp + n ∧ sp + n < dp + n)) : zs (zcp J a sp b dp n) b (dp + n) (zcp J a sp b dp n a (sp + n)) = zcp J a sp b dp (n + 1) := by
  have e : zcp J a sp b dp n a (sp + n) = J a (sp + n) := by
    unfold zcp
    rw [if_neg]
    rintro ⟨q1, q2⟩
    rcases h with h | h
    · exact h q1
    · exact h q2
  rw [e]
  funext c k
  by_cases q : c = b ∧ k = dp + n
  · obtain ⟨rfl, rfl⟩ := q
    rw [zs_s, zcp_in J (by omega)]
    congr 1
    omega
  · rw [zs_n _ (by omega)]
    unfold zcp
    by_cases q2 : c = b ∧ dp ≤ k ∧ k < dp + n
    · rw [if_pos q2, if_pos ⟨q2.1, by omega, by omega⟩]
    · rw [if_neg q2, if_neg (by omega)]
theorem s_add {r p : Nat} {n : Int} {J : zM} {L : yM} {Q : Int → zM → yM → Prop} (hi : iR r J) (hp : ¬ cR r p ∨ ∃ i, 0 ≤ i ∧ i < J r 5 ∧ p = r + 2 + (rO r J i).toNat) (n0 : 0 ≤ n) (n1 : n ≤ (rw0 r : Int)) (n2 : n ≤ (ln0 p : Int)) (hm : J r 5 < (rq r : Int)) (hQ : ∀ J', rL r J' = rL r J ++ [sg J p 0 n.toNat] → iR r J' → zF (cR r) J J' → Q 1 J' L) : w_X4_add r p n J L Q := by
  have hq := rq_b r
  have hw := rw0_b r
  have h5 := ln0_lt p
  obtain ⟨i1, i2, i3, i4, i5⟩ := hi
  have h3 := i3 (J r 5) i1.1 hm
  unfold w_X4_add
  refine ⟨⟨by omega, by omega⟩, ⟨by omega, by omega⟩, ?_⟩
  rw [if_pos (by omega)]
  refine ⟨⟨by omega, by omega⟩, ?_⟩
  rw [if_neg (by omega)]
  refine ⟨⟨by omega, by omega⟩, ?_⟩
  rw [if_neg (by omega)]
  refine ⟨⟨by omega, by omega⟩, ?_⟩
  rw [if_neg (by omega)]
  refine ⟨⟨by omega, by omega⟩, fun x ex => ?_⟩
  subst ex
  refine ⟨h3, ⟨by omega, by omega, by omega, by omega, by omega⟩, fun J1 e1 => ⟨h3, fun J2 e2 J3 e3 => ?_⟩⟩
  obtain ⟨P, hP⟩ : ∃ P, P = rO r J (J r 5) := ⟨_, rfl⟩
  have hP' : J (r + 3 + rq r) (J r 5) = P := hP.symm
  rw [hP'] at e1 e2
  rw [← hP] at h3
  have f1 : ∀ a, a ≠ r + 2 + P.toNat → J1 a = J a := fun a ha => by rw [e1]; exact zcp_r J ha
  have f2 : ∀ a, a ≠ r + 2 + rq r → J2 a = J1 a := fun a ha => by rw [e2]; exact zs_r J1 ha
  have f3 : ∀ a, a ≠ r → J3 a = J2 a := fun a ha => by rw [e3]; exact zs_r J2 ha
  have g0 : J3 r 5 = J r 5 + 1 := by rw [e3, zs_s, f2 r (by omega), f1 r (by omega)]
  have gr : ∀ k, k ≠ 5 → J3 r k = J r k := fun k hk => by rw [e3, zs_n J2 (Or.inr hk), f2 r (by omega), f1 r (by omega)]
  have gO : J3 (r + 3 + rq r) = J (r + 3 + rq r) := by rw [f3 _ (by omega), f2 _ (by omega), f1 _ (by omega)]
  have gN : ∀ k, k ≠ P → J3 (r + 2 + rq r) k = J (r + 2 + rq r) k := fun k hk => by rw [f3 _ (by omega), e2, zs_n J1 (Or.inr hk), f1 _ (by omega)]
  have gP : J3 (r + 2 + rq r) P = n := by rw [f3 _ (by omega), e2, zs_s]
  have gF : zF (cR r) J J3 := fun a ha => by
    unfold cR at ha
    rw [f3 a (by omega), f2 a (by omega), f1 a (by omega)]
  have ne : ∀ i, 0 ≤ i → i < J r 5 → rO r J i ≠ P := fun i q0 q1 e => by
    have := i4 i (J r 5) q0 (by omega) i1.1 hm (e.trans hP)
    omega
  have gD : ∀ i, 0 ≤ i → i < J r 5 → rD r J3 i = rD r J i := fun i q0 q1 => by
    have h9 := i3 i q0 (by omega)
    have h8 := ne i q0 q1
    unfold rD rO rN
    unfold rO at h9 h8
    rw [gO, gN _ h8]
    refine sg_row ?_
    rw [f3 _ (by omega), f2 _ (by omega), f1 _ (by omega)]
  refine hQ J3 ?_ ?_ gF
  · unfold rL
    rw [g0, mr_succ i1.1, mr_cong gD]
    congr 2
    unfold rD rO rN
    rw [gO, hP', gP]
    have g9 : J3 (r + 2 + P.toNat) = J1 (r + 2 + P.toNat) := by rw [f3 _ (by omega), f2 _ (by omega)]
    rw [sg_row g9, e1]
    exact sg_zcp (by omega)
  · refine ⟨by omega, ⟨by rw [gr 0 (by omega)]; exact i2.1, by rw [gr 1 (by omega)]; exact i2.2⟩, ?_, ?_, ?_⟩
    · unfold rO; rw [gO]; exact i3
    · unfold rO; rw [gO]; exact i4
    · intro i q0 q1
      rw [g0] at q1
      unfold rO rN
      rw [gO]
      by_cases q : i = J r 5
      · rw [q, hP', gP]; omega
      · rw [gN _ (ne i q0 (by omega))]
        exact i5 i q0 (by omega)
theorem s_addFull {r p : Nat} {n : Int} {J : zM} {L : yM} {Q : Int → zM → yM → Prop} (hi : iR r J) (hm : ¬ J r 5 < (rq r : Int)) (hQ : Q 0 J L) : w_X4_add r p n J L Q := by
  have hq := rq_b r
  obtain ⟨i1, i2, i3, i4, i5⟩ := hi
  unfold w_X4_add
  refine ⟨⟨by omega, by omega⟩, ⟨by omega, by omega⟩, ?_⟩
  rw [if_neg (by omega)]
  exact hQ
theorem s_addCopy {r : Nat} {i : Int} {J : zM} {L : yM} {Q : Int → zM → yM → Prop} (hr : iRows r) (hi : iR r J) (h0 : 0 ≤ i) (h1 : i < J r 5) (hm : J r 5 < (rq r : Int)) (hQ : ∀ J', rL r J' = rL r J ++ [rD r J i] → iR r J' → zF (cR r) J J' → Q 1 J' L) : w_X4_addCopy r i J L Q := by
  have hq := rq_b r
  have hw := rw0_b r
  have h2 := hi.1
  have h3 := hi.2.2.1 i h0 (by omega)
  have h4 := hi.2.2.2.2 i h0 h1
  unfold w_X4_addCopy
  refine ⟨⟨by omega, by omega⟩, ?_⟩
  rw [if_neg (by omega)]
  refine ⟨⟨by omega, by omega⟩, ?_⟩
  rw [if_pos h1]
  refine ⟨⟨h0, by omega⟩, h3, ⟨h0, by omega⟩, h3, ?_⟩
  refine s_add hi (Or.inr ⟨i, h0, h1, rfl⟩) h4.1 h4.2 ?_ hm (fun J' a b c => ⟨by decide, ?_⟩)
  · have := (rows_row hr (i := (rO r J i).toNat) (by omega)).2.2
    show _ ≤ ((ln0 (r + 2 + (rO r J i).toNat) : Nat) : Int)
    rw [this]
    exact h4.2
  · rw [if_neg (by decide)]
    exact hQ J' a b c
theorem s_addCopyFull {r : Nat} {i : Int} {J : zM} {L : yM} {Q : Int → zM → yM → Prop} (hi : iR r J) (h0 : 0 ≤ i) (h1 : i < J r 5) (hm : ¬ J r 5 < (rq r : Int)) (hQ : Q 0 J L) : w_X4_addCopy r i J L Q := by
  have hq := rq_b r
  have h2 := hi.1
  have h3 := hi.2.2.1 i h0 (by omega)
  unfold w_X4_addCopy
  refine ⟨⟨by omega, by omega⟩, ?_⟩
  rw [if_neg (by omega)]
  refine ⟨⟨by omega, by omega⟩, ?_⟩
  rw [if_pos h1]
  refine ⟨⟨h0, by omega⟩, h3, ⟨h0, by omega⟩, h3, ?_⟩
  refine s_addFull hi hm ⟨by decide, ?_⟩
  rw [if_pos rfl]
  exact hQ
def rpi (i n k : Int) : Int := if k < i then k else if k < n - 1 then k + 1 else if k = n - 1 then i else k
theorem rpi_a {i n k : Int} (h : k < i) : rpi i n k = k := by unfold rpi; rw [if_pos h]
theorem rpi_b {i n k : Int} (h : i ≤ k) (h2 : k < n - 1) : rpi i n k = k + 1 := by unfold rpi; rw [if_neg (by omega), if_pos h2]
theorem rpi_c {i n : Int} (h : i ≤ n - 1) : rpi i n (n - 1) = i := by unfold rpi; rw [if_neg (by omega), if_neg (by omega), if_pos rfl]
theorem rpi_d {i n k : Int} (h : i ≤ k) (h2 : n - 1 < k) : rpi i n k = k := by unfold rpi; rw [if_neg (by omega), if_neg (by omega), if_neg (by omega)]
theorem rpi_of {i n : Int} (k : Int) (h : 0 ≤ i ∧ i < n) : (k < i ∧ rpi i n k = k) ∨ (i ≤ k ∧ k < n - 1 ∧ rpi i n k = k + 1) ∨ (k = n - 1 ∧ rpi i n k = i) ∨ (n - 1 < k ∧ rpi i n k = k) := by
  by_cases q1 : k < i
  · exact Or.inl ⟨q1, rpi_a q1⟩
  · by_cases q2 : k < n - 1
    · exact Or.inr (Or.inl ⟨by omega, q2, rpi_b (by omega) q2⟩)
    · by_cases q3 : k = n - 1
      · subst q3
        exact Or.inr (Or.inr (Or.inl ⟨rfl, rpi_c (by omega)⟩))
      · exact Or.inr (Or.inr (Or.inr ⟨by omega, rpi_d (by omega) (by omega)⟩))
theorem s_drop {r : Nat} {i : Int} {J : zM} {L : yM} {Q : zM → yM → Prop} (hi : iR r J) (h0 : 0 ≤ i) (h1 : i < J r 5) (hQ : ∀ J', rL r J' = (rL r J).eraseIdx i.toNat → iR r J' → J' r 5 = J r 5 - 1 → zF (cR r) J J' → Q J' L) : w_X4_drop r i J L Q := by
  have hq := rq_b r
  have hw := rw0_b r
  obtain ⟨i1, i2, i3, i4, i5⟩ := hi
  unfold w_X4_drop
  refine ⟨⟨by omega, by omega⟩, ?_⟩
  rw [if_neg (by omega)]
  refine ⟨⟨by omega, by omega⟩, ?_⟩
  rw [if_pos h1]
  refine ⟨⟨h0, by omega⟩, fun x ex => ?_⟩
  refine zl_z.by (fun m k J' L' => (m : Int) = J r 5 - 1 - k ∧ i ≤ k ∧ J' = zcp J (r + 3 + rq r) (i + 1) (r + 3 + rq r) i (k - i) ∧ L' = L) ?_ (J r 5 - 1 - i).toNat i J L ⟨by omega, by omega, by rw [Int.sub_self, zcp_0], rfl⟩
  rintro m k J1 L1 K ⟨hm, hk, e1, rfl⟩ hK
  have g1 : J1 r = J r := by rw [e1]; exact zcp_r J (by omega)
  refine ⟨⟨by omega, by omega⟩, ⟨by rw [g1]; omega, by rw [g1]; omega⟩, ?_⟩
  rw [g1]
  by_cases q : k < J r 5 - 1
  · rw [if_pos q]
    refine ⟨⟨by omega, by omega⟩, ⟨by omega, by omega⟩, fun J2 e2 => ?_⟩
    refine hK (m - 1) (k + 1) J2 L1 (by omega) ⟨by omega, by omega, ?_, rfl⟩
    rw [e2, e1]
    have := zcp_succ2 (J := J) (a := r + 3 + rq r) (b := r + 3 + rq r) (sp := i + 1) (dp := i) (n := k - i) (by omega) (Or.inr (by omega))
    rw [show i + (k - i) = k by omega, show i + 1 + (k - i) = k + 1 by omega, show k - i + 1 = k + 1 - i by omega] at this
    exact this
  · rw [if_neg q]
    have hk2 : k = J r 5 - 1 := by omega
    intro J2 e2
    have g2 : J2 r 5 = J r 5 - 1 := by rw [e2, zs_s]
    refine ⟨by rw [g2]; omega, fun J3 e3 => ?_⟩
    rw [g2] at e3
    subst hk2
    have f2 : ∀ a, a ≠ r → J2 a = J1 a := fun a ha => by rw [e2]; exact zs_r J1 ha
    have f3 : ∀ a, a ≠ r + 3 + rq r → J3 a = J2 a := fun a ha => by rw [e3]; exact zs_r J2 ha
    have f1 : ∀ a, a ≠ r + 3 + rq r → J1 a = J a := fun a ha => by rw [e1]; exact zcp_r J ha
    have gr5 : J3 r 5 = J r 5 - 1 := by rw [f3 r (by omega), g2]
    have gr : ∀ k, k ≠ 5 → J3 r k = J r k := fun k hk => by rw [f3 r (by omega), e2, zs_n J1 (Or.inr hk), g1]
    have hin : 0 ≤ i ∧ i < J r 5 := ⟨h0, h1⟩
    have hO : ∀ k, rO r J3 k = rO r J (rpi i (J r 5) k) := fun k => by
      unfold rO
      by_cases q1 : k = J r 5 - 1
      · subst q1
        rw [e3, zs_s, ex, rpi_c (by omega)]
      · rw [e3, zs_n J2 (Or.inr q1), f2 _ (by omega), e1]
        rcases rpi_of k hin with ⟨u, e⟩ | ⟨u, u2, e⟩ | ⟨u, e⟩ | ⟨u, e⟩
        · rw [e, zcp_out J (by omega)]
        · rw [e, zcp_in J (by omega)]
          congr 1
          omega
        · exact absurd u q1
        · rw [e, zcp_out J (by omega)]
    have hN : ∀ k, rN r J3 k = rN r J k := fun k => by
      unfold rN
      rw [f3 _ (by omega), f2 _ (by omega), f1 _ (by omega)]
    have hc : ∀ p : Nat, p < rq r → J3 (r + 2 + p) = J (r + 2 + p) := fun p hp => by rw [f3 _ (by omega), f2 _ (by omega), f1 _ (by omega)]
    have hpr : ∀ k, 0 ≤ k → k < (rq r : Int) → 0 ≤ rpi i (J r 5) k ∧ rpi i (J r 5) k < (rq r : Int) := fun k k0 k1 => by
      have := rpi_of k hin
      omega
    have hpj : ∀ k j, rpi i (J r 5) k = rpi i (J r 5) j → k = j := fun k j e => by
      have u := rpi_of k hin
      have v := rpi_of j hin
      omega
    refine hQ J3 ?_ ?_ gr5 ?_
    · unfold rL
      rw [gr5, mr_erase h0 h1]
      refine mr_cong (fun k k0 k1 => ?_)
      have h9 := hpr k k0 (by omega)
      have h8 := i3 (rpi i (J r 5) k) h9.1 h9.2
      have e9 : rD r J3 k = rD r J (rpi i (J r 5) k) := by
        unfold rD
        rw [hO, hN]
        exact sg_row (hc _ (by omega))
      rw [e9]
      by_cases q9 : k < i
      · rw [if_pos q9, rpi_a q9]
      · rw [if_neg q9, rpi_b (by omega) k1]
    · refine ⟨by omega, ⟨by rw [gr 0 (by omega)]; exact i2.1, by rw [gr 1 (by omega)]; exact i2.2⟩, ?_, ?_, ?_⟩
      · intro k k0 k1
        rw [hO]
        exact i3 _ (hpr k k0 k1).1 (hpr k k0 k1).2
      · intro k j k0 k1 j0 j1 e
        rw [hO, hO] at e
        exact hpj k j (i4 _ _ (hpr k k0 k1).1 (hpr k k0 k1).2 (hpr j j0 j1).1 (hpr j j0 j1).2 e)
      · intro k k0 k1
        rw [gr5] at k1
        rw [hO, hN]
        refine i5 _ (hpr k k0 (by omega)).1 ?_
        have := rpi_of k hin
        omega
    · intro a ha
      unfold cR at ha
      rw [f3 a (by omega), f2 a (by omega), f1 a (by omega)]
