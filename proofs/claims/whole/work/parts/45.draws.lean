theorem s_numberAt {at_ : Int} {J : zM} {L : yM} {Q : Int64 → zM → yM → Prop} (h0 : 0 ≤ at_) (h1 : at_ + 4 ≤ 2048) (ho : oct (sg J 492 at_ 4)) (hQ : ∀ r, lN' r (be (sg J 492 at_ 4)) → Q r J L) : w_X12_numberAt at_ 4 J L Q := by
  unfold w_X12_numberAt
  refine zl_lz.by (fun m v i J' L' => (m : Int) = 4 - i ∧ 0 ≤ i ∧ J' = J ∧ L' = L ∧ lN' v (be (sg J 492 at_ i.toNat))) ?_ 4 0 0 J L ⟨by omega, by omega, rfl, rfl, (rfl : (0 : Int64).toInt = 0)⟩
  rintro m v i J1 L1 K ⟨hm, hi, rfl, rfl, hv⟩ hK
  refine ⟨⟨by omega, by omega⟩, by decide, ?_⟩
  by_cases c : i < 4
  · rw [if_pos c]
    refine ⟨⟨by omega, by omega⟩, fun x ex => ?_⟩
    refine hK (m - 1) x (i + 1) J1 L1 (by omega) ⟨by omega, by omega, rfl, rfl, ?_⟩
    have ho2 : oct (sg J1 492 at_ i.toNat) := oct_sg.mpr (fun k k0 k1 => (oct_sg.mp ho) k k0 (by omega))
    have hb := be_lt ho2
    rw [sg_len] at hb
    have hb3 : be (sg J1 492 at_ i.toNat) < 2 ^ 48 := Nat.lt_of_lt_of_le hb (by
      have : 256 ^ i.toNat ≤ 256 ^ 4 := Nat.pow_le_pow_right (by decide) (by omega)
      omega)
    have hd := (oct_sg.mp ho) (at_ + i) (by omega) (by omega)
    rw [show (i + 1).toNat = i.toNat + 1 by omega, sg_succ, be_snoc, show (i.toNat : Int) = i by omega, ex]
    exact lor8 hv hb3 hd
  · rw [if_neg c]
    have : i = 4 := by omega
    subst this
    exact hQ v hv
theorem s_putLong {x : Int64} {p : Nat} {at_ : Int} {J : zM} {L : yM} {Q : zM → yM → Prop} (h0 : 0 ≤ at_) (h1 : at_ + 8 ≤ (ln0 p : Int)) (hQ : Q (zw J p at_ (nb 8 x.toInt)) L) : w_X11_putLong x p at_ J L Q := by
  have hl := ln0_lt p
  unfold w_X11_putLong
  refine zl_z.by (fun m k J' L' => (m : Int) = 8 - k ∧ 0 ≤ k ∧ L' = L ∧ J' = zw J p at_ ((nb 8 x.toInt).take k.toNat)) ?_ 8 0 J L ⟨by omega, by omega, rfl, by rw [show (0 : Int).toNat = 0 from rfl, List.take_zero, zw_nil]⟩
  rintro m k J1 L1 K ⟨hm, hk, rfl, e1⟩ hK
  refine ⟨⟨by omega, by omega⟩, ?_⟩
  by_cases c : k < 8
  · rw [if_pos c]
    refine ⟨⟨by omega, by omega⟩, ⟨by omega, by omega⟩, ?_⟩
    rw [if_pos (by omega)]
    refine ⟨⟨by omega, by omega⟩, fun J2 e2 => ?_⟩
    refine hK (m - 1) (k + 1) J2 L1 (by omega) ⟨by omega, by omega, rfl, ?_⟩
    rw [show (k + 1).toNat = k.toNat + 1 by omega, List.take_succ, nb_get (by omega), e2, e1, uoct (by omega)]
    have hl2 : ((nb 8 x.toInt).take k.toNat).length = k.toNat := by rw [List.length_take, nb_len]; omega
    rw [show 8 - 1 - k.toNat = (7 - k).toNat by omega, show (56 - 8 * k).toNat = 8 * (7 - k).toNat by omega, Int.pow_mul]
    have := zw_snoc J p at_ ((nb 8 x.toInt).take k.toNat) (x.toInt / (2 ^ 8) ^ (7 - k).toNat % 256)
    rw [hl2, show (k.toNat : Int) = k by omega] at this
    exact this
  · rw [if_neg c, e1, List.take_of_length_le (by rw [nb_len]; omega)]
    exact hQ
theorem s_putWord {v : Int} {p : Nat} {at_ : Int} {J : zM} {L : yM} {Q : zM → yM → Prop} (hv : 0 ≤ v ∧ v < 2147483648) (h0 : 0 ≤ at_) (h1 : at_ + 4 ≤ (ln0 p : Int)) (hQ : Q (zw J p at_ (nb 4 v)) L) : w_X11_putWord v p at_ J L Q := by
  have hl := ln0_lt p
  unfold w_X11_putWord
  refine zl_z.by (fun m k J' L' => (m : Int) = 4 - k ∧ 0 ≤ k ∧ L' = L ∧ J' = zw J p at_ ((nb 4 v).take k.toNat)) ?_ 4 0 J L ⟨by omega, by omega, rfl, by rw [show (0 : Int).toNat = 0 from rfl, List.take_zero, zw_nil]⟩
  rintro m k J1 L1 K ⟨hm, hk, rfl, e1⟩ hK
  refine ⟨⟨by omega, by omega⟩, ?_⟩
  by_cases c : k < 4
  · rw [if_pos c]
    refine ⟨⟨by omega, by omega⟩, ⟨by omega, by omega⟩, ?_⟩
    rw [if_pos (by omega)]
    refine ⟨⟨by omega, by omega⟩, fun J2 e2 => ?_⟩
    refine hK (m - 1) (k + 1) J2 L1 (by omega) ⟨by omega, by omega, rfl, ?_⟩
    rw [show (k + 1).toNat = k.toNat + 1 by omega, List.take_succ, nb_get (by omega), e2, e1, zand255, zush_n hv (by omega)]
    have hl2 : ((nb 4 v).take k.toNat).length = k.toNat := by rw [List.length_take, nb_len]; omega
    rw [show 4 - 1 - k.toNat = (3 - k).toNat by omega, show (24 - 8 * k).toNat = 8 * (3 - k).toNat by omega, Int.pow_mul]
    have := zw_snoc J p at_ ((nb 4 v).take k.toNat) (v / (2 ^ 8) ^ (3 - k).toNat % 256)
    rw [hl2, show (k.toNat : Int) = k by omega] at this
    exact this
  · rw [if_neg c, e1, List.take_of_length_le (by rw [nb_len]; omega)]
    exact hQ
theorem s_sameOctets {a b : Nat} {p q n : Int} {J : zM} {L : yM} {Q : Int → zM → yM → Prop} (hp : 0 ≤ p) (hq : 0 ≤ q) (hn : 0 ≤ n) (h1 : p + n ≤ (ln0 a : Int)) (h2 : q + n ≤ (ln0 b : Int)) (o1 : oct (sg J a p n.toNat)) (o2 : oct (sg J b q n.toNat)) (hQ : Q (if sg J a p n.toNat = sg J b q n.toNat then 1 else 0) J L) : w_X11_sameOctets a p b q n J L Q := by
  have hl1 := ln0_lt a
  have hl2 := ln0_lt b
  unfold w_X11_sameOctets
  refine ⟨⟨by omega, by omega⟩, ⟨by omega, by omega⟩, ?_⟩
  rw [if_neg (by omega)]
  refine ⟨⟨by omega, by omega⟩, ⟨by omega, by omega⟩, ?_⟩
  rw [if_neg (by omega)]
  refine zl_z.by (fun m x J' L' => (m : Int) = n - x ∧ 0 ≤ x ∧ L' = L ∧ J' = J ∧ sg J a p x.toNat = sg J b q x.toNat) ?_ n.toNat 0 J L ⟨by omega, by omega, rfl, rfl, rfl⟩
  rintro m x J1 L1 K ⟨hm, hx, rfl, rfl, hs⟩ hK
  refine ⟨⟨by omega, by omega⟩, ⟨by omega, by omega⟩, ?_⟩
  by_cases c : x < n
  · rw [if_pos c]
    have b1 := (oct_sg.mp o1) (p + x) (by omega) (by omega)
    have b2 := (oct_sg.mp o2) (q + x) (by omega) (by omega)
    refine ⟨⟨by omega, by omega⟩, ⟨by omega, by omega⟩, ⟨by omega, by omega⟩, ⟨by omega, by omega⟩, ?_⟩
    by_cases c2 : J1 a (p + x) = J1 b (q + x)
    · rw [if_pos c2]
      refine hK (m - 1) (x + 1) J1 L1 (by omega) ⟨by omega, by omega, rfl, rfl, ?_⟩
      rw [show (x + 1).toNat = x.toNat + 1 by omega, sg_succ, sg_succ, hs, show (x.toNat : Int) = x by omega, c2]
    · rw [if_neg c2]
      rw [if_neg] at hQ
      · exact hQ
      · intro h
        have h3 : (sg J1 a p n.toNat).getD x.toNat 0 = (sg J1 b q n.toNat).getD x.toNat 0 := by rw [h]
        rw [sg_get (by omega), sg_get (by omega), show (x.toNat : Int) = x by omega] at h3
        exact c2 h3
  · rw [if_neg c]
    have : x = n := by omega
    subst this
    rw [if_pos hs] at hQ
    exact hQ
/-- the own number by CHANCE -/
def numI (d : List Int) : Nat := be (d.take 4) % 2147483646 + 1
theorem numI_b (d : List Int) : 0 < numI d ∧ numI d < 2147483647 := by
  unfold numI
  have := Nat.mod_lt (be (d.take 4)) (show 2147483646 > 0 by decide)
  omega
theorem sg_take (J : zM) (a : Nat) (i : Int) (c d : Nat) (h : d ≤ c) : (sg J a i c).take d = sg J a i d := by
  unfold sg
  rw [← List.map_take, List.take_range, Nat.min_eq_left h]
theorem ladd1 {x : Int64} {n : Nat} (h : lN' x n) (hn : n < 2 ^ 62) : lN' (x + 1) (n + 1) := by
  unfold lN' at *
  rw [Int64.toInt_add, h, show (1 : Int64).toInt = 1 by decide]
  rw [Int.bmod_eq_of_le (by omega) (by omega)]
  omega
theorem s_drawShare {e o : Nat} {s n : Int} {J : zM} {L : yM} {Q : zM → yM → Prop} (he : iSide e) (hs : s01 s) (hn : J (e + 1) 8 = n) (hn2 : 0 ≤ n ∧ n < 65536) (ho : 10 < o ∧ o ≠ e + 1) (hl : 32 ≤ ln0 o)
    (hQ : ∀ J' L', J' (e + 1) = (zs (zs J (e + 1) 8 (n + 1)) (e + 1) 12 (pw 7 (numI (chI (sg J (e + 4) 0 8) s n)) : Int)) (e + 1) → (∀ i, ¬ (0 ≤ i ∧ i < 32) → J' o i = J o i) → zF (fun a => cMac o a ∨ a = e + 1) J J' → lN' (L' (e + 1) 13) (numI (chI (sg J (e + 4) 0 8) s n)) → (∀ a i, (a ≠ e + 1 ∨ i ≠ 13) → L' a i = L a i) → Q J' L') : w_X9_drawShare e s o J L Q := by
  have hlo := ln0_lt o
  unfold w_X9_drawShare
  refine s_chanceInto he hs hn hn2 ho hl (fun J1 h1 h2 h3 f1 => ?_)
  obtain ⟨d, hd⟩ : ∃ d, d = chI (sg J (e + 4) 0 8) s n := ⟨_, rfl⟩
  rw [← hd] at h1 hQ
  have hod : oct d := by rw [hd]; exact mcI_oct _ _
  have h4 : sg J1 o 0 4 = d.take 4 := by rw [← h1, sg_take _ _ _ _ _ (by decide)]
  have ho4 : oct (sg J1 o 0 4) := by
    rw [h4]
    exact fun x hx => hod x (List.mem_of_mem_take hx)
  refine s_wordAt (by decide) (by omega) ho4 (fun r hr L1 e1 => ?_)
  rw [h4] at hr
  have hb : be (d.take 4) < 2 ^ 32 := by
    have := be_lt (h4 ▸ ho4)
    have h5 : (d.take 4).length ≤ 4 := by rw [List.length_take]; omega
    exact Nat.lt_of_lt_of_le this (Nat.le_trans (Nat.pow_le_pow_right (by decide) h5) (by decide))
  have h5 : lN' (L1 (e + 1) 13) (numI d) := by
    rw [e1, ys_s]
    refine ladd1 (lmod hr (by omega) (d := 2147483646) (by unfold lN'; decide) (by decide)) ?_
    have := Nat.mod_lt (be (d.take 4)) (show 2147483646 > 0 by decide)
    omega
  refine s_powerX (b := 7) (bn := 7) (by unfold lN'; decide) (by decide) h5 (fun r2 hr2 J2 e2 => ?_)
  have hp := pw_lt 7 (numI d)
  have hz : zl2i r2 = (pw 7 (numI d) : Int) := by
    rw [l2i_small (by unfold lN' at hr2; omega)]
    exact hr2
  rw [hz] at e2
  refine hQ J2 L1 ?_ ?_ ?_ h5 ?_
  · rw [e2]
    funext i
    by_cases q : i = 12
    · subst q; rw [zs_s, zs_s]
    · rw [zs_n _ (Or.inr q), zs_n _ (Or.inr q), h2]
  · intro i hi
    rw [e2, zs_r _ ho.2]
    exact h3 i hi
  · rw [e2]
    exact f1.tr (zF.zs (Or.inr rfl))
  · intro a i h
    rw [e1]
    exact ys_n _ h
theorem s_takeShare {s n : Int} {J : zM} {L : yM} {Q : zM → yM → Prop} (hs : s01 s) (hn : J 503 s = n) (hn2 : 0 ≤ n ∧ n < 65536) (ho : oct (sg J 492 (1024 * s + 24) 8)) (hK : mK (zi J))
    (hQ : ∀ J' L', J' 503 = (zs J 503 s (n + 1)) 503 → mF cCh t13 J J' → lN' (L' 504 s) (numI (chI (sg J 492 (1024 * s + 24) 8) s n)) → lN' (L' 505 s) (pw 7 (numI (chI (sg J 492 (1024 * s + 24) 8) s n))) → (∀ a i, (a ≠ 504 ∨ i ≠ s) → (a ≠ 505 ∨ i ≠ s) → L' a i = L a i) → Q J' L') : w_X12_takeShare s J L Q := by
  have hs2 : 0 ≤ s ∧ s < 2 := by omega
  unfold w_X12_takeShare
  refine s_chance hs hn hn2 ho hK (fun J1 h1 h2 f1 => ?_)
  obtain ⟨d, hd⟩ : ∃ d, d = chI (sg J 492 (1024 * s + 24) 8) s n := ⟨_, rfl⟩
  rw [← hd] at h1 hQ
  have hod : oct d := by rw [hd]; exact mcI_oct _ _
  have h4 : sg J1 500 0 4 = d.take 4 := by rw [← h1, sg_take _ _ _ _ _ (by decide)]
  have ho4 : oct (sg J1 500 0 4) := by
    rw [h4]
    exact fun x hx => hod x (List.mem_of_mem_take hx)
  have hb : be (d.take 4) < 2 ^ 32 := by
    have := be_lt (h4 ▸ ho4)
    have h5 : (d.take 4).length ≤ 4 := by rw [List.length_take]; omega
    exact Nat.lt_of_lt_of_le this (Nat.le_trans (Nat.pow_le_pow_right (by decide) h5) (by decide))
  refine zl_lz.by (fun m v i J' L' => (m : Int) = 4 - i ∧ 0 ≤ i ∧ J' = J1 ∧ L' = L ∧ lN' v (be (sg J1 500 0 i.toNat))) ?_ 4 0 0 J1 L ⟨by omega, by omega, rfl, rfl, (rfl : (0 : Int64).toInt = 0)⟩
  rintro m v i J2 L2 K ⟨hm, hi, rfl, rfl, hv⟩ hK2
  refine ⟨⟨by omega, by omega⟩, ?_⟩
  by_cases c : i < 4
  · rw [if_pos c]
    refine ⟨⟨by omega, by omega⟩, fun x ex => ?_⟩
    refine hK2 (m - 1) x (i + 1) J2 L2 (by omega) ⟨by omega, by omega, rfl, rfl, ?_⟩
    have ho2 : oct (sg J2 500 0 i.toNat) := oct_sg.mpr (fun k k0 k1 => (oct_sg.mp ho4) k k0 (by omega))
    have hb1 := be_lt ho2
    rw [sg_len] at hb1
    have hb3 : be (sg J2 500 0 i.toNat) < 2 ^ 48 := Nat.lt_of_lt_of_le hb1 (by
      have : 256 ^ i.toNat ≤ 256 ^ 4 := Nat.pow_le_pow_right (by decide) (by omega)
      omega)
    have hd2 := (oct_sg.mp ho4) i (by omega) (by omega)
    rw [show (i + 1).toNat = i.toNat + 1 by omega, sg_succ, be_snoc, show (0 : Int) + (i.toNat : Int) = i by omega, ex]
    exact lor8 hv hb3 hd2
  · rw [if_neg c]
    have : i = 4 := by omega
    subst this
    rw [show sg J2 500 0 (4 : Int).toNat = d.take 4 from h4] at hv
    refine ⟨hs2, fun L3 e3 => ⟨hs2, ?_⟩⟩
    have h5 : lN' (L3 504 s) (numI d) := by
      rw [e3, ys_s]
      refine ladd1 (lmod hv (by omega) (d := 2147483646) (by unfold lN'; decide) (by decide)) ?_
      have := Nat.mod_lt (be (d.take 4)) (show 2147483646 > 0 by decide)
      omega
    refine s_powerM (b := 7) (bn := 7) (by unfold lN'; decide) (by decide) h5 (by have := numI_b d; omega) (fun r2 hr2 => ⟨hs2, fun L4 e4 => ?_⟩)
    refine hQ J2 L4 h2 f1 ?_ ?_ ?_
    · rw [e4, ys_n _ (Or.inl (by decide))]; exact h5
    · rw [e4, ys_s]; exact hr2
    · intro a i q1 q2
      rw [e4, ys_n _ q2, e3, ys_n _ q1]
