/-! the nets of the model -/
abbrev s01 (s : Int) : Prop := s = 0 ∨ s = 1
def mD (s : Int) (J : zM) (i : Int) : List Int := sg J 511 (500 * (60 * s + i)) (J 510 (60 * s + i)).toNat
def mN (s : Int) (J : zM) : List (List Int) := mr (J 509 s) (mD s J)
def mI (J : zM) : Prop := ∀ s, s01 s → (0 ≤ J 509 s ∧ J 509 s ≤ 60) ∧ ∀ i, 0 ≤ i → i < J 509 s → 0 ≤ J 510 (60 * s + i) ∧ J 510 (60 * s + i) ≤ 500
theorem mN_fr {J J' : zM} (h1 : J' 509 = J 509) (h2 : J' 510 = J 510) (h3 : J' 511 = J 511) (s : Int) : mN s J' = mN s J := by
  unfold mN mD
  rw [h1, h2]
  exact mr_cong (fun i _ _ => sg_row h3)
theorem mI_fr {J J' : zM} (h1 : J' 509 = J 509) (h2 : J' 510 = J 510) (h : mI J) : mI J' := by
  unfold mI
  rw [h1, h2]
  exact h
theorem s_copyPlace {p q : Int} {J : zM} {L : yM} {Q : zM → yM → Prop} (hp : 0 ≤ p ∧ p < 120) (hq : 0 ≤ q ∧ q < 120) (hpq : p ≠ q) (hl : 0 ≤ J 510 p ∧ J 510 p ≤ 500) (hQ : Q (zcp (zs J 510 q (J 510 p)) 511 (500 * p) 511 (500 * q) (J 510 p)) L) : w_X12_copyPlace p q J L Q := by
  unfold w_X12_copyPlace
  refine ⟨hp, hq, fun J1 e1 => ?_⟩
  have g1 : J1 510 p = J 510 p := by rw [e1, zs_n J (Or.inr hpq)]
  refine zl_z.by (fun m k J' L' => (m : Int) = J 510 p - k ∧ 0 ≤ k ∧ J' = zcp J1 511 (500 * p) 511 (500 * q) k ∧ L' = L) ?_ (J 510 p).toNat 0 J1 L ⟨by omega, by omega, by rw [zcp_0], rfl⟩
  rintro m k J2 L2 K ⟨hm, hk, e2, rfl⟩ hK
  have g2 : J2 510 p = J 510 p := by rw [e2, zcp_r J1 (by omega), g1]
  refine ⟨hp, ⟨by omega, by omega⟩, ⟨by omega, by omega⟩, ?_⟩
  rw [g2]
  by_cases c : k < J 510 p
  · rw [if_pos c]
    refine ⟨⟨by omega, by omega⟩, ⟨by omega, by omega⟩, fun J3 e3 => ?_⟩
    refine hK (m - 1) (k + 1) J3 L2 (by omega) ⟨by omega, by omega, ?_, rfl⟩
    rw [e3, e2]
    exact zcp_succ2 hk (Or.inr (by omega))
  · rw [if_neg c]
    have hk2 : k = J 510 p := by omega
    subst hk2
    rw [e2, e1]
    exact hQ
/-- behind a removal: place i of side s is gone -/
def mGone (s i : Int) (J J' : zM) : Prop := mN s J' = (mN s J).eraseIdx i.toNat ∧ (∀ t, s01 t → t ≠ s → mN t J' = mN t J) ∧ mI J' ∧ J' 509 s = J 509 s - 1 ∧ (∀ t, t ≠ s → J' 509 t = J 509 t) ∧ zF (fun a => a = 509 ∨ a = 510 ∨ a = 511) J J'
theorem s_removePlace {s i : Int} {J : zM} {L : yM} {Q : zM → yM → Prop} (hs : s01 s) (hI : mI J) (h0 : 0 ≤ i) (h1 : i < J 509 s) (hQ : ∀ J', mGone s i J J' → Q J' L) : w_X12_removePlace s i J L Q := by
  have hI0 := hI s hs
  have hs2 : 0 ≤ s ∧ s < 2 := by omega
  unfold w_X12_removePlace
  refine zl_z.by (fun m k J' L' => (m : Int) = J 509 s - 1 - k ∧ i ≤ k ∧ L' = L ∧ (∀ a, a ≠ 510 → a ≠ 511 → J' a = J a) ∧ (∀ q, q < 60 * s + i ∨ 60 * s + k ≤ q → J' 510 q = J 510 q) ∧ (∀ q, q < 500 * (60 * s + i) ∨ 500 * (60 * s + k) ≤ q → J' 511 q = J 511 q) ∧ ∀ j, i ≤ j → j < k → J' 510 (60 * s + j) = J 510 (60 * s + (j + 1)) ∧ ∀ z, 0 ≤ z → z < J 510 (60 * s + (j + 1)) → J' 511 (500 * (60 * s + j) + z) = J 511 (500 * (60 * s + (j + 1)) + z)) ?_ (J 509 s - 1 - i).toNat i J L ⟨by omega, by omega, rfl, fun _ _ _ => rfl, fun _ _ => rfl, fun _ _ => rfl, fun j q1 q2 => absurd q1 (by omega)⟩
  rintro m k J1 L1 K ⟨hm, hk, rfl, a1, a2, a3, a4⟩ hK
  have g1 : J1 509 = J 509 := a1 509 (by omega) (by omega)
  refine ⟨hs2, ⟨by omega, by omega⟩, ⟨by rw [g1]; omega, by rw [g1]; omega⟩, ?_⟩
  rw [g1]
  by_cases c : k + 1 < J 509 s
  · rw [if_pos c]
    have e510 : J1 510 (60 * s + k + 1) = J 510 (60 * s + (k + 1)) := by
      rw [show 60 * s + k + 1 = 60 * s + (k + 1) by omega]
      exact a2 _ (Or.inr (by omega))
    have hl := hI0.2 (k + 1) (by omega) (by omega)
    refine s_copyPlace ⟨by omega, by omega⟩ ⟨by omega, by omega⟩ (by omega) (by rw [e510]; exact hl) ?_
    rw [e510]
    refine hK (m - 1) (k + 1) _ L1 (by omega) ⟨by omega, by omega, rfl, ?_, ?_, ?_, ?_⟩
    · intro a h510 h511
      rw [zcp_r _ h511, zs_r _ h510]
      exact a1 a h510 h511
    · intro q hq
      rw [zcp_r _ (by omega), zs_n _ (Or.inr (by omega))]
      exact a2 q (by omega)
    · intro q hq
      rw [zcp_out _ (by omega), zs_r _ (by omega)]
      exact a3 q (by omega)
    · intro j q1 q2
      by_cases hj : j = k
      · subst hj
        refine ⟨by rw [zcp_r _ (by omega), zs_s], fun z z0 z1 => ?_⟩
        rw [zcp_in _ (by omega), zs_r _ (by omega)]
        rw [a3 _ (Or.inr (by omega))]
        congr 1
        omega
      · have h9 := a4 j q1 (by omega)
        refine ⟨by rw [zcp_r _ (by omega), zs_n _ (Or.inr (by omega))]; exact h9.1, fun z z0 z1 => ?_⟩
        have hl2 := hI0.2 (j + 1) (by omega) (by omega)
        rw [zcp_out _ (by omega), zs_r _ (by omega)]
        exact h9.2 z z0 z1
  · rw [if_neg c]
    refine ⟨hs2, hs2, fun J2 e2 => hQ J2 ?_⟩
    have hk2 : k = J 509 s - 1 := by omega
    have f2 : ∀ a, a ≠ 509 → J2 a = J1 a := fun a ha => by rw [e2]; exact zs_r J1 ha
    have n1 : J2 509 s = J 509 s - 1 := by rw [e2, zs_s]
    have n2 : ∀ t, t ≠ s → J2 509 t = J 509 t := fun t ht => by rw [e2, zs_n J1 (Or.inr ht), g1]
    have l1 : ∀ j, 0 ≤ j → j < J 509 s - 1 → J2 510 (60 * s + j) = J 510 (60 * s + (if j < i then j else j + 1)) := fun j j0 j1 => by
      rw [f2 510 (by omega)]
      by_cases q : j < i
      · rw [if_pos q]; exact a2 _ (Or.inl (by omega))
      · rw [if_neg q]; exact (a4 j (by omega) (by omega)).1
    refine ⟨?_, ?_, ?_, n1, n2, ?_⟩
    · unfold mN
      rw [n1, mr_erase h0 h1]
      refine mr_cong (fun j j0 j1 => ?_)
      have e5 := l1 j j0 j1
      unfold mD
      rw [e5]
      by_cases q : j < i
      · rw [if_pos q, if_pos q]
        have hl := hI0.2 j (by omega) (by omega)
        refine sg_fr (fun z z0 z1 => ?_)
        rw [f2 511 (by omega)]
        exact a3 z (Or.inl (by omega))
      · rw [if_neg q, if_neg q]
        have hl := hI0.2 (j + 1) (by omega) (by omega)
        refine sg_cong (fun z z1 => ?_)
        rw [f2 511 (by omega)]
        exact (a4 j (by omega) (by omega)).2 z (by omega) (by omega)
    · intro t ht hts
      unfold mN
      rw [n2 t hts]
      have hlt := hI t ht
      refine mr_cong (fun j j0 j1 => ?_)
      unfold mD
      rw [f2 510 (by omega), a2 _ (by omega)]
      have hl := hlt.2 j j0 j1
      exact sg_fr (fun z z0 z1 => by rw [f2 511 (by omega)]; exact a3 z (by omega))
    · intro t ht
      by_cases hts : t = s
      · subst hts
        rw [n1]
        refine ⟨by omega, fun j j0 j1 => ?_⟩
        rw [l1 j j0 j1]
        split
        · exact hI0.2 _ (by omega) (by omega)
        · exact hI0.2 _ (by omega) (by omega)
      · rw [n2 t hts]
        refine ⟨(hI t ht).1, fun j j0 j1 => ?_⟩
        have hlt := (hI t ht).1
        rw [f2 510 (by omega), a2 _ (by omega)]
        exact (hI t ht).2 j j0 j1
    · intro a ha
      rw [f2 a (by omega), a1 a (by omega) (by omega)]
/-- a datagram is put into the net of side t, if there is room -/
def mPut (t : Int) (d : List Int) (J J' : zM) : Prop := mN t J' = (if J 509 t < 60 then mN t J ++ [d] else mN t J) ∧ (∀ u, s01 u → u ≠ t → mN u J' = mN u J) ∧ mI J'
theorem s_mput {t n : Int} {src : Nat} {J J1 J2 J3 : zM} (ht : s01 t) (hI : mI J) (hn : 0 ≤ n ∧ n ≤ 500) (hr : J 509 t < 60) (hs : src ≠ 509 ∧ src ≠ 510 ∧ src ≠ 511) (h1 : J1 = zs J 510 (60 * t + J 509 t) n) (h2 : J2 = zcp J1 src 0 511 (500 * (60 * t + J 509 t)) n) (h3 : J3 = zs J2 509 t (J 509 t + 1)) : mPut t (sg J src 0 n.toNat) J J3 := by
  have hI0 := hI t ht
  have k1 : ∀ a, a ≠ 510 → J1 a = J a := fun a ha => by rw [h1]; exact zs_r J ha
  have k2 : ∀ a, a ≠ 511 → J2 a = J1 a := fun a ha => by rw [h2]; exact zcp_r J1 ha
  have k3 : ∀ a, a ≠ 509 → J3 a = J2 a := fun a ha => by rw [h3]; exact zs_r J2 ha
  have n1 : J3 509 t = J 509 t + 1 := by rw [h3, zs_s]
  have n2 : ∀ u, u ≠ t → J3 509 u = J 509 u := fun u hu => by rw [h3, zs_n J2 (Or.inr hu), k2 _ (by omega), k1 _ (by omega)]
  have l1 : ∀ q, q ≠ 60 * t + J 509 t → J3 510 q = J 510 q := fun q hq => by rw [k3 _ (by omega), k2 _ (by omega), h1, zs_n J (Or.inr hq)]
  have l2 : J3 510 (60 * t + J 509 t) = n := by rw [k3 _ (by omega), k2 _ (by omega), h1, zs_s]
  have o1 : ∀ q, q < 500 * (60 * t + J 509 t) ∨ 500 * (60 * t + J 509 t) + n ≤ q → J3 511 q = J 511 q := fun q hq => by rw [k3 _ (by omega), h2, zcp_out J1 (by omega), k1 _ (by omega)]
  refine ⟨?_, ?_, ?_⟩
  · rw [if_pos hr]
    unfold mN
    rw [n1, mr_succ hI0.1.1]
    congr 1
    · refine mr_cong (fun j j0 j1 => ?_)
      have hl := hI0.2 j j0 j1
      unfold mD
      rw [l1 _ (by omega)]
      exact sg_fr (fun z z0 z1 => o1 z (by omega))
    · congr 1
      unfold mD
      rw [l2]
      refine sg_cong (fun z z1 => ?_)
      rw [k3 _ (by omega), h2, zcp_in J1 (by omega), k1 _ hs.2.1]
      congr 1
      omega
  · intro u hu hut
    have hlu := hI u hu
    unfold mN
    rw [n2 u hut]
    refine mr_cong (fun j j0 j1 => ?_)
    have hl := hlu.2 j j0 j1
    unfold mD
    rw [l1 _ (by omega)]
    exact sg_fr (fun z z0 z1 => o1 z (by omega))
  · intro u hu
    have hlu := hI u hu
    by_cases hut : u = t
    · subst hut
      rw [n1]
      refine ⟨by omega, fun j j0 j1 => ?_⟩
      by_cases q : j = J 509 u
      · subst q
        rw [l2]; exact hn
      · rw [l1 _ (by omega)]
        exact hI0.2 j j0 (by omega)
    · rw [n2 u hut]
      refine ⟨hlu.1, fun j j0 j1 => ?_⟩
      rw [l1 _ (by omega)]
      exact hlu.2 j j0 j1
/-- the datagram that is made goes to the other side's net -/
theorem s_sendMade {s n : Int} {J : zM} {L : yM} {Q : zM → yM → Prop} (hs : s01 s) (hI : mI J) (hn : J 491 30 = n) (hn2 : 0 < n ∧ n ≤ 500) (hQ : ∀ J', mPut (1 - s) (sg J 513 0 n.toNat) J J' → J' 512 = (zs J 512 s (J 512 s + 1)) 512 → J' 491 = (zs J 491 30 0) 491 → zF (fun a => a = 491 ∨ a = 509 ∨ a = 510 ∨ a = 511 ∨ a = 512) J J' → Q J' L) : w_X12_sendMade s J L Q := by
  have hs2 : 0 ≤ s ∧ s < 2 := by omega
  have ht : s01 (1 - s) := by unfold s01; omega
  have hI0 := hI _ ht
  unfold w_X12_sendMade
  refine ⟨⟨by omega, by omega⟩, ?_⟩
  rw [if_neg (by omega)]
  refine ⟨hs2, hs2, fun J1 e1 x ex => ⟨by omega, fun K hK => ?_⟩⟩
  subst ex
  have g1 : ∀ a, a ≠ 512 → J1 a = J a := fun a ha => by rw [e1]; exact zs_r J ha
  have hI1 : mI J1 := mI_fr (g1 _ (by omega)) (g1 _ (by omega)) hI
  refine ⟨by rw [g1 509 (by omega)]; omega, ?_⟩
  rw [g1 509 (by omega)]
  by_cases c : J 509 (1 - s) < 60
  · rw [if_pos c]
    refine ⟨by omega, fun p ep => ⟨by omega, fun J2 e2 => ?_⟩⟩
    have g2 : ∀ a, a ≠ 510 → J2 a = J1 a := fun a ha => by rw [e2]; exact zs_r J1 ha
    have en : J1 491 30 = n := by rw [g1 491 (by omega)]; exact hn
    rw [en] at e2
    refine zl_z.by (fun m k J' L' => (m : Int) = n - k ∧ 0 ≤ k ∧ J' = zcp J2 513 0 511 (500 * p) k ∧ L' = L) ?_ n.toNat 0 J2 L ⟨by omega, by omega, by rw [zcp_0], rfl⟩
    rintro m k J3 L3 K3 ⟨hm, hk, e3, rfl⟩ hK3
    have g3 : ∀ a, a ≠ 511 → J3 a = J2 a := fun a ha => by rw [e3]; exact zcp_r J2 ha
    have en3 : J3 491 30 = n := by rw [g3 491 (by omega), g2 491 (by omega)]; exact en
    refine ⟨⟨by omega, by omega⟩, ⟨by omega, by omega⟩, ?_⟩
    rw [en3]
    by_cases c2 : k < n
    · rw [if_pos c2]
      refine ⟨⟨by omega, by omega⟩, ⟨by omega, by omega⟩, fun J4 e4 => ?_⟩
      refine hK3 (m - 1) (k + 1) J4 L3 (by omega) ⟨by omega, by omega, ?_, rfl⟩
      rw [e4, e3]
      have := zcp_succ2 (J := J2) (a := 513) (b := 511) (sp := 0) (dp := 500 * p) hk (Or.inl (by omega))
      rw [Int.zero_add] at this
      exact this
    · rw [if_neg c2]
      have hk2 : k = n := by omega
      subst hk2
      refine ⟨by omega, by omega, fun J4 e4 => hK J4 L3 (fun J5 e5 => ?_)⟩
      have g4 : ∀ a, a ≠ 509 → J4 a = J3 a := fun a ha => by rw [e4]; exact zs_r J3 ha
      have g5 : ∀ a, a ≠ 491 → J5 a = J4 a := fun a ha => by rw [e5]; exact zs_r J4 ha
      have e509 : J3 509 (1 - s) = J1 509 (1 - s) := by rw [g3 509 (by omega), g2 509 (by omega)]
      rw [e509] at e4
      have ep2 : p = 60 * (1 - s) + J1 509 (1 - s) := by rw [ep, g1 509 (by omega)]
      rw [ep2] at e2 e3
      have hp := s_mput ht hI1 (n := k) (by omega) (by rw [g1 509 (by omega)]; exact c) (by decide) e2 e3 e4
      have hsg : sg J1 513 0 k.toNat = sg J 513 0 k.toNat := sg_row (g1 513 (by omega))
      refine hQ J5 ?_ ?_ ?_ ?_
      · refine ⟨?_, ?_, mI_fr (g5 _ (by omega)) (g5 _ (by omega)) hp.2.2⟩
        · rw [mN_fr (g5 _ (by omega)) (g5 _ (by omega)) (g5 _ (by omega)), hp.1, hsg, g1 509 (by omega), mN_fr (g1 _ (by omega)) (g1 _ (by omega)) (g1 _ (by omega))]
        · intro u hu hut
          rw [mN_fr (g5 _ (by omega)) (g5 _ (by omega)) (g5 _ (by omega)), hp.2.1 u hu hut, mN_fr (g1 _ (by omega)) (g1 _ (by omega)) (g1 _ (by omega))]
      · rw [g5 _ (by omega), g4 _ (by omega), g3 _ (by omega), g2 _ (by omega), e1]
      · rw [e5]
        funext q
        by_cases hq : q = 30
        · subst hq; rw [zs_s, zs_s]
        · rw [zs_n _ (Or.inr hq), zs_n _ (Or.inr hq), g4 _ (by omega), g3 _ (by omega), g2 _ (by omega), g1 _ (by omega)]
      · intro a ha
        rw [g5 _ (by omega), g4 _ (by omega), g3 _ (by omega), g2 _ (by omega), g1 _ (by omega)]
  · rw [if_neg c]
    refine hK J1 L (fun J5 e5 => ?_)
    have g5 : ∀ a, a ≠ 491 → J5 a = J1 a := fun a ha => by rw [e5]; exact zs_r J1 ha
    refine hQ J5 ?_ ?_ ?_ ?_
    · refine ⟨?_, ?_, mI_fr (g5 _ (by omega)) (g5 _ (by omega)) hI1⟩
      · rw [if_neg c, mN_fr (g5 _ (by omega)) (g5 _ (by omega)) (g5 _ (by omega)), mN_fr (g1 _ (by omega)) (g1 _ (by omega)) (g1 _ (by omega))]
      · intro u hu hut
        rw [mN_fr (g5 _ (by omega)) (g5 _ (by omega)) (g5 _ (by omega)), mN_fr (g1 _ (by omega)) (g1 _ (by omega)) (g1 _ (by omega))]
    · rw [g5 _ (by omega), e1]
    · rw [e5]
      funext q
      by_cases hq : q = 30
      · subst hq; rw [zs_s, zs_s]
      · rw [zs_n _ (Or.inr hq), zs_n _ (Or.inr hq), g1 _ (by omega)]
    · intro a ha
      rw [g5 _ (by omega), g1 _ (by omega)]
theorem s_take {s i : Int} {J : zM} {L : yM} {Q : zM → yM → Prop} (hs : s01 s) (hI : mI J) (h0 : 0 ≤ i) (h1 : i < J 509 s) (hQ : ∀ J1 J', mGone s i J1 J' → (∀ t, mN t J1 = mN t J) → J1 509 = J 509 → J' 491 = (zs J 491 72 (J 510 (60 * s + i))) 491 → sg J' 551 0 (J 510 (60 * s + i)).toNat = mD s J i → zF (fun a => a = 491 ∨ a = 509 ∨ a = 510 ∨ a = 511 ∨ a = 551) J J' → Q J' L) : w_X12_take s i J L Q := by
  have hs2 : 0 ≤ s ∧ s < 2 := by omega
  have hI0 := hI s hs
  have hl := hI0.2 i h0 h1
  unfold w_X12_take
  intro x ex
  refine ⟨by omega, fun J1 e1 => ?_⟩
  subst ex
  obtain ⟨n, hn⟩ : ∃ n, n = J 510 (60 * s + i) := ⟨_, rfl⟩
  rw [← hn] at hl e1 hQ
  have g1 : ∀ a, a ≠ 491 → J1 a = J a := fun a ha => by rw [e1]; exact zs_r J ha
  have n1 : J1 491 72 = n := by rw [e1, zs_s]
  refine zl_z.by (fun m k J' L' => (m : Int) = n - k ∧ 0 ≤ k ∧ J' = zcp J1 511 (500 * (60 * s + i)) 551 0 k ∧ L' = L) ?_ n.toNat 0 J1 L ⟨by omega, by omega, by rw [zcp_0], rfl⟩
  rintro m k J2 L2 K ⟨hm, hk, e2, rfl⟩ hK
  have g2 : ∀ a, a ≠ 551 → J2 a = J1 a := fun a ha => by rw [e2]; exact zcp_r J1 ha
  have n2 : J2 491 72 = n := by rw [g2 491 (by omega)]; exact n1
  refine ⟨⟨by omega, by omega⟩, ⟨by omega, by omega⟩, ?_⟩
  rw [n2]
  by_cases c : k < n
  · rw [if_pos c]
    refine ⟨⟨by omega, by omega⟩, ⟨by omega, by omega⟩, fun J3 e3 => ?_⟩
    refine hK (m - 1) (k + 1) J3 L2 (by omega) ⟨by omega, by omega, ?_, rfl⟩
    rw [e3, e2]
    have := zcp_succ2 (J := J1) (a := 511) (b := 551) (sp := 500 * (60 * s + i)) (dp := 0) hk (Or.inl (by omega))
    rw [Int.zero_add] at this
    exact this
  · rw [if_neg c]
    have hk2 : k = n := by omega
    subst hk2
    have hI2 : mI J2 := mI_fr (by rw [g2 _ (by omega), g1 _ (by omega)]) (by rw [g2 _ (by omega), g1 _ (by omega)]) hI
    refine s_removePlace hs hI2 h0 (by rw [g2 509 (by omega), g1 509 (by omega)]; exact h1) (fun J' hg => ?_)
    refine hQ J2 J' hg (fun t => ?_) ?_ ?_ ?_ ?_
    · rw [mN_fr (g2 _ (by omega)) (g2 _ (by omega)) (g2 _ (by omega)), mN_fr (g1 _ (by omega)) (g1 _ (by omega)) (g1 _ (by omega))]
    · rw [g2 _ (by omega), g1 _ (by omega)]
    · rw [hg.2.2.2.2.2 491 (by omega), g2 _ (by omega), e1]
    · rw [sg_row (hg.2.2.2.2.2 551 (by omega)), e2, sg_zcp (by omega)]
      unfold mD
      rw [← hn]
      exact sg_row (g1 511 (by omega))
    · intro a ha
      rw [hg.2.2.2.2.2 a (by omega), g2 _ (by omega), g1 _ (by omega)]
