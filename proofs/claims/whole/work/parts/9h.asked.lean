/-! gotOctet, secret, told, close -/
theorem r_len {r : Nat} {i : Int} {W : List (List Int)} {J : zM} {L : yM} {Q : Int → zM → yM → Prop} (n1 : rL r J = W) (n2 : iR r J) (h0 : 0 ≤ i) (h1 : i < (W.length : Int)) (hQ : Q ((W.getD i.toNat []).length : Int) J L) : w_X4_lengthOf r i J L Q := by
  have hw : (W.length : Int) = J r 5 := by rw [← n1, rL_len]; have := n2.1.1; omega
  have hi : i < J r 5 := by omega
  refine s_lengthOf n2 h0 hi ?_
  have e : W.getD i.toNat [] = rD r J i := by rw [← n1]; exact mr_getD h0 hi
  have l := n2.2.2.2.2 i h0 hi
  rw [e] at hQ
  unfold rD at hQ
  rw [sg_len, show ((rN r J (rO r J i)).toNat : Int) = rN r J (rO r J i) by omega] at hQ
  exact hQ
theorem r_oct {r : Nat} {i k : Int} {W : List (List Int)} {J : zM} {L : yM} {Q : Int → zM → yM → Prop} (n1 : rL r J = W) (n2 : iR r J) (h0 : 0 ≤ i) (h1 : i < (W.length : Int)) (k0 : 0 ≤ k) (k1 : k < ((W.getD i.toNat []).length : Int)) (hQ : Q ((W.getD i.toNat []).getD k.toNat 0) J L) : w_X4_octetOf r i k J L Q := by
  have hw : (W.length : Int) = J r 5 := by rw [← n1, rL_len]; have := n2.1.1; omega
  have hi : i < J r 5 := by omega
  have e : W.getD i.toNat [] = rD r J i := by rw [← n1]; exact mr_getD h0 hi
  have l := n2.2.2.2.2 i h0 hi
  rw [e] at hQ k1
  unfold rD at hQ k1
  rw [sg_len] at k1
  rw [sg_get (by omega), show (0 : Int) + (k.toNat : Int) = k by omega] at hQ
  exact s_octetOf n2 h0 hi k0 (by omega) hQ
theorem getD_some {α : Type} {W : List α} {i : Nat} {d : α} (h : i < W.length) : W[i]? = some (W.getD i d) := by
  rw [List.getD_eq_getElem?_getD, List.getElem?_eq_getElem h]
  rfl
theorem call_gotOctet {bd s k i : Int} {J : zM} {L : yM} (h : PB bd J L) (hbd : bd ≤ 2000000000) (rs : R32 s) (rk : R32 k) (ri : R32 i) : w_X11_gotOctet s k i J L (QA bd (w_X12_gotOctet s k i)) (XA bd [(IOB, 1)] (w_X12_gotOctet s k i)) := by
  obtain ⟨G, D, N, hx, hm, hI⟩ := h
  unfold w_X11_gotOctet
  refine x_side rs (fun hs => ⟨s01b hs, s01b hs, ?_⟩) (fun ns => ⟨1, List.mem_singleton.mpr rfl, ?_⟩)
  · have ai := hI.ai hs
    obtain ⟨A, hA⟩ : ∃ A, A = G s := ⟨_, rfl⟩
    have X := hx.1 s hs
    have M0 := hm.1 s hs
    rw [← hA] at ai X M0
    have d5 := ai.b5
    have w6 := ai.b6
    have wl := ai.2.2.2.2.2.2.2.2.1
    obtain ⟨r1, r2⟩ := X.2.2.2.2.2.2.2.1
    have e5 : J (sd s + 38) 5 = ((aW A).length : Int) := by rw [← r1, rL_len]; have := r2.1.1; omega
    rw [show J (sd s) 17 = aZ A 5 from X.1.2.2.2.2.2.2.1, e5]
    intro x7 e7
    -- it is refused
    have bad : ¬ (x7 ≤ k ∧ k < aZ A 5 ∧ -1 ≤ i ∧ i < (((aW A).getD (k - x7).toNat []).length : Int)) → XA bd [(IOB, 1)] (w_X12_gotOctet s k i) IOB J L := fun q => ⟨1, List.mem_singleton.mpr rfl, by
      unfold w_X12_gotOctet
      refine m_side rs (fun _ K7 hK7 K33 hK33 => if01.mpr ⟨rk, ?_⟩) (fun n => absurd hs n)
      have go : K33 J L := hK33 J L (m_thrK hK7 hm (by decide) (fun J8 P M z => ⟨z, trivial, PB.q hx hI P M⟩))
      by_cases c1 : k < 0
      · rw [if_pos c1]; exact go
      rw [if_neg c1, show J 547 s = aZ A 5 from M0.1.2.2.2.2.1]
      refine ⟨s01b hs, ⟨by omega, by omega⟩, ?_⟩
      by_cases c2 : k < aZ A 5
      · rw [if_pos c2]
        refine ⟨s01b hs, ⟨by omega, by omega⟩, ?_⟩
        by_cases c3 : k < aZ A 5 - 100
        · rw [if_pos c3]; exact go
        · rw [if_neg c3]
          have kx : x7 ≤ k := by omega
          refine m_thr0 hK7 hm (fun J8 P M z _ _ => ?_)
          intro x11 e11
          rw [zrem_n ⟨by omega, by omega⟩ ⟨by decide, by decide⟩] at e11
          have W8 := (P.1 s hs).2.2.2.2.2.2.2.1
          rw [← hA] at W8
          obtain ⟨q1, q2, q3⟩ := W8 (k - x7).toNat _ (getD_some (d := []) (by omega))
          rw [show (aZ A 5 - ((aW A).length : Int) + (((k - x7).toNat : Nat) : Int)) = k by omega, ← e11] at q1 q2
          intro K15 hK15 K25 hK25
          have go2 : K25 J8 L := hK25 J8 L (m_thrK hK15 P (by decide) (fun J9 P9 M9 z9 => ⟨z9, trivial, PB.q (hx.mg M) hI P9 M9⟩))
          refine ⟨ri, ?_⟩
          by_cases c4 : i < -1
          · rw [if_pos c4]; exact go2
          · rw [if_neg c4, q1]
            refine ⟨⟨by omega, by omega⟩, ⟨by omega, by omega⟩, ?_⟩
            rw [if_neg (fun w => q ⟨kx, c2, by omega, w⟩)]
            exact go2
      · rw [if_neg c2]; exact go⟩
    refine ⟨rk, ⟨by omega, by omega⟩, ?_⟩
    by_cases c1 : k < x7
    · rw [if_pos c1]; exact bad (by omega)
    rw [if_neg c1]
    refine ⟨s01b hs, ⟨by omega, by omega⟩, ?_⟩
    by_cases c2 : k < aZ A 5
    rotate_left
    · rw [if_neg c2]; exact bad (fun q => c2 q.2.1)
    rw [if_pos c2]
    have jl : k - x7 < ((aW A).length : Int) := by omega
    obtain ⟨w, hw⟩ : ∃ w, w = (aW A).getD (k - x7).toNat [] := ⟨_, rfl⟩
    rw [← hw] at bad
    have w60 : w.length ≤ 60 := wl w (by rw [hw]; exact getD_mem (by omega))
    -- it is answered
    have good : -1 ≤ i → i < (w.length : Int) → QA bd (w_X12_gotOctet s k i) (if i = -1 then (w.length : Int) else w.getD i.toNat 0) J L := fun i0 i1 => by
      unfold QA
      intro L eL
      have hx := hx.o eL
      have hm := hm.o hI eL
      unfold w_X12_gotOctet
      refine m_side rs (fun _ K7 hK7 K33 hK33 => if01.mpr ⟨rk, ?_⟩) (fun n => absurd hs n)
      rw [if_neg (by omega), show J 547 s = aZ A 5 from M0.1.2.2.2.2.1]
      refine ⟨s01b hs, ⟨by omega, by omega⟩, ?_⟩
      rw [if_pos c2]
      refine ⟨s01b hs, ⟨by omega, by omega⟩, ?_⟩
      rw [if_neg (by omega)]
      refine m_thr0 hK7 hm (fun J8 P M z _ _ => ?_)
      intro x11 e11
      rw [zrem_n ⟨by omega, by omega⟩ ⟨by decide, by decide⟩] at e11
      have W8 := (P.1 s hs).2.2.2.2.2.2.2.1
      rw [← hA] at W8
      obtain ⟨q1, q2, q3⟩ := W8 (k - x7).toNat _ (getD_some (d := []) (by omega))
      rw [show (aZ A 5 - ((aW A).length : Int) + (((k - x7).toNat : Nat) : Int)) = k by omega, ← e11] at q1 q2
      rw [← hw] at q1 q2
      intro K15 hK15 K25 hK25
      refine ⟨ri, ?_⟩
      rw [if_neg (by omega), q1]
      refine ⟨⟨by omega, by omega⟩, ⟨by omega, by omega⟩, ?_⟩
      rw [if_pos i1]
      refine m_thr0 hK15 P (fun J9 P9 M9 z9 f9 _ => ⟨ri, ?_⟩)
      have fin := PB.q (hx.mg M) hI P9 M9
      by_cases c4 : i = -1
      · rw [if_pos c4, if_pos c4, f9 548 (by decide), q1]
        exact ⟨⟨by omega, by omega⟩, z9, ⟨rfl, (M9 552 (Or.inr rfl)).2.trans (M 552 (Or.inr rfl)).2⟩, fin⟩
      · rw [if_neg c4, if_neg c4, f9 549 (by decide)]
        refine ⟨⟨by omega, by omega⟩, z9, ⟨?_, (M9 552 (Or.inr rfl)).2.trans (M 552 (Or.inr rfl)).2⟩, fin⟩
        have g := sg_get (J := J8) (a := 549) (i := 60 * x11) (c := w.length) (j := i.toNat) (by omega)
        rw [q2, show ((i.toNat : Nat) : Int) = i by omega] at g
        exact g.symm
    refine ⟨ri, ?_⟩
    by_cases c3 : i = -1
    · rw [if_pos c3]
      refine r_len r1 r2 (by omega) jl ?_
      rw [← hw]
      have g := good (by omega) (by omega)
      rw [if_pos c3] at g
      exact g
    rw [if_neg c3]
    by_cases c4 : i < 0
    · rw [if_pos c4]; exact bad (by omega)
    rw [if_neg c4]
    refine r_len r1 r2 (by omega) jl ?_
    rw [← hw]
    refine ⟨ri, ⟨by omega, by omega⟩, ?_⟩
    by_cases c5 : i < (w.length : Int)
    · rw [if_pos c5]
      refine r_oct r1 r2 (by omega) jl (by omega) (by rw [← hw]; exact c5) ?_
      rw [← hw]
      have g := good (by omega) c5
      rw [if_neg c3] at g
      exact g
    · rw [if_neg c5]; exact bad (fun q => c5 q.2.2.2)
  · unfold w_X12_gotOctet
    exact m_side rs (fun q => absurd q ns) (fun _ K7 hK7 K33 hK33 => if11.mpr (hK33 J L (m_thrK hK7 hm (by decide) (fun J8 P M z => ⟨z, trivial, PB.q hx hI P M⟩))))
/-! secret -/
theorem call_secret {bd s n k : Int} {J : zM} {L : yM} (h : PB bd J L) (rs : R32 s) (rn : R32 n) (rk : R32 k) : w_X11_secret s n k J L (QA bd (w_X12_secret s n k)) (XA bd [(IOB, 1)] (w_X12_secret s n k)) := by
  obtain ⟨G, D, N, hx, hm, hI⟩ := h
  have bad : ¬ (s01 s ∧ 0 ≤ n ∧ n ≤ 5 ∧ 0 ≤ k ∧ k < 32) → XA bd [(IOB, 1)] (w_X12_secret s n k) IOB J L := fun q => ⟨1, List.mem_singleton.mpr rfl, by
    unfold w_X12_secret
    have go : ∀ (K7 : Int → zM → yM → Prop) {T B : zM → yM → Prop}, (∀ (x4 : Int) (J5 : zM) (L6 : yM), (∀ J8 : zM, J8 = zs J5 491 0 x4 → R32 (J8 491 0) ∧ (if 0 < (J8 491 0) then T J8 L6 else B J8 L6)) → K7 x4 J5 L6) → (∀ J8, AN bd 1 True J8 L → T J8 L) → K7 1 J L := fun K7 T B hK7 hT => m_thrK hK7 hm (by decide) (fun J8 P M z => hT J8 ⟨z, trivial, PB.q hx hI P M⟩)
    refine m_side rs (fun hs K7 hK7 K35 hK35 => if01.mpr ⟨rn, ?_⟩) (fun n K7 hK7 K35 hK35 => if11.mpr (hK35 J L (go K7 hK7 (fun _ w => w))))
    have g := hK35 J L (go K7 hK7 (fun _ w => w))
    by_cases c1 : n < 0
    · rw [if_pos c1]; exact g
    rw [if_neg c1]
    by_cases c2 : 5 < n
    · rw [if_pos c2]; exact g
    rw [if_neg c2]
    refine ⟨rk, ?_⟩
    by_cases c3 : k < 0
    · rw [if_pos c3]; exact g
    rw [if_neg c3, if_pos (by omega)]
    exact g⟩
  unfold w_X11_secret
  refine x_side rs (fun hs => ⟨rn, ?_⟩) (fun ns => bad (fun q => ns q.1))
  by_cases c1 : n < 0
  · rw [if_pos c1]; exact bad (by omega)
  rw [if_neg c1]
  by_cases c2 : 5 < n
  · rw [if_pos c2]; exact bad (by omega)
  rw [if_neg c2]
  refine ⟨rk, ?_⟩
  by_cases c3 : k < 0
  · rw [if_pos c3]; exact bad (by omega)
  rw [if_neg c3]
  by_cases c4 : k < 32
  rotate_left
  · rw [if_neg c4]; exact bad (by omega)
  rw [if_pos c4]
  clear bad
  have ai := hI.ai hs
  obtain ⟨A, hA⟩ : ∃ A, A = G s := ⟨_, rfl⟩
  have X := hx.1 s hs
  rw [← hA] at ai X
  have b13 : 0 ≤ aZ A 13 ∧ aZ A 13 ≤ 3 := by have := ai.b13; omega
  have x13 : J (sd s + 144) 11 = aZ A 13 := X.2.2.2.2.2.2.2.2.1.1
  have xs := X.2.2.2.2.2.2.2.2.1.2.2.2.1
  -- the model
  have model : ∀ v lim : Int, lim = (if n = 2 ∨ n = 3 then 3 else 2) → v = (if aZ A 13 < lim then -1 else (aY A (10 + n.toNat)).getD k.toNat 0) → QA bd (w_X12_secret s n k) v J L := fun v lim hlim hv => by
    unfold QA
    intro L eL
    have hx := hx.o eL
    have hm := hm.o hI eL
    unfold w_X12_secret
    refine m_side rs (fun _ K7 hK7 K35 hK35 => if01.mpr ⟨rn, ?_⟩) (fun n => absurd hs n)
    rw [if_neg c1, if_neg c2]
    refine ⟨rk, ?_⟩
    rw [if_neg c3, if_neg (by omega)]
    refine m_thr0 hK7 hm (fun J8 P M z _ _ => ?_)
    have M8 := P.1 s hs
    rw [← hA] at M8
    have fin := PB.q hx hI P M
    obtain ⟨-, k2, k3, -⟩ := M8.2.2.2.2.2.2.2.2.1
    have q1 := M8.2.1.2.2.2.2.2
    intro K14 hK14 K27 hK27
    have g14 : ∀ x11 : Int, x11 = (if lim ≤ aZ A 13 then 1 else 0) → K14 x11 J8 L := fun x11 e11 => hK14 x11 J8 L (by
      intro K18 hK18
      have g18 : ∀ x15 : Int, (lim ≤ aZ A 13 → sg J8 492 (1024 * s + x15) 32 = aY A (10 + n.toNat)) → 0 ≤ x15 ∧ x15 ≤ 300 → K18 x15 J8 L := fun x15 h15 hb => hK18 x15 J8 L (by
        by_cases c : lim ≤ aZ A 13
        · rw [if_pos c] at e11
          rw [if_neg (by omega)] at hv
          subst e11
          refine ⟨by decide, ?_⟩
          rw [if_neg (by decide)]
          refine ⟨⟨by omega, by omega⟩, z, ⟨?_, (M 552 (Or.inr rfl)).2⟩, fin⟩
          have g := sg_get (J := J8) (a := 492) (i := 1024 * s + x15) (c := 32) (j := k.toNat) (by omega)
          rw [h15 c, show ((k.toNat : Nat) : Int) = k by omega] at g
          rw [hv]
          exact g.symm
        · rw [if_neg c] at e11
          rw [if_pos (by omega)] at hv
          subst e11
          refine ⟨by decide, ?_⟩
          rw [if_pos rfl]
          exact ⟨z, ⟨hv.symm, (M 552 (Or.inr rfl)).2⟩, fin⟩)
      refine ⟨rn, ?_⟩
      by_cases d1 : n = 4
      · rw [if_pos d1]
        subst d1
        exact g18 64 (fun q => (k2 (by rw [hlim, if_neg (by decide)] at q; exact q)).1) (by decide)
      · rw [if_neg d1]
        by_cases d2 : n = 5
        · rw [if_pos d2]
          subst d2
          exact g18 96 (fun q => (k2 (by rw [hlim, if_neg (by decide)] at q; exact q)).2.1) (by decide)
        · rw [if_neg d2]
          refine g18 (128 + 32 * n) (fun q => ?_) (by omega)
          by_cases d3 : n = 2 ∨ n = 3
          · rw [hlim, if_pos d3] at q
            have w := (k3 q n.toNat (by omega) (by omega)).1
            rw [show 1024 * s + 128 + 32 * ((n.toNat : Nat) : Int) = 1024 * s + (128 + 32 * n) by omega] at w
            exact w
          · rw [hlim, if_neg d3] at q
            have w := ((k2 q).2.2 n.toNat (by omega)).1
            rw [show 1024 * s + 128 + 32 * ((n.toNat : Nat) : Int) = 1024 * s + (128 + 32 * n) by omega] at w
            exact w)
    have g27 : lim = 3 → K27 J8 L := fun e => hK27 J8 L ⟨s01b hs, g14 _ (by rw [q1.2, e])⟩
    refine ⟨rn, ?_⟩
    by_cases d1 : n = 2
    · rw [if_pos d1]; exact g27 (by rw [hlim, if_pos (Or.inl d1)])
    · rw [if_neg d1]
      by_cases d2 : n = 3
      · rw [if_pos d2]; exact g27 (by rw [hlim, if_pos (Or.inr d2)])
      · rw [if_neg d2]
        have e2 : lim = 2 := by rw [hlim, if_neg (by omega)]
        exact ⟨s01b hs, g14 _ (by rw [q1.1, e2])⟩
  refine ⟨s01b hs, fun K14 hK14 K23 hK23 => ?_⟩
  have g14 : ∀ lim : Int, lim = (if n = 2 ∨ n = 3 then 3 else 2) → K14 lim J L := fun lim hlim => hK14 lim J L (by
    rw [x13]
    have lb : 2 ≤ lim ∧ lim ≤ 3 := by rw [hlim]; split <;> omega
    refine ⟨⟨by omega, by omega⟩, ⟨by omega, by omega⟩, ?_⟩
    by_cases c : aZ A 13 < lim
    · rw [if_pos c]
      exact model _ lim hlim (by rw [if_pos c])
    · rw [if_neg c]
      refine ⟨⟨by omega, by omega⟩, ⟨by omega, by omega⟩, ?_⟩
      refine model _ lim hlim ?_
      rw [if_neg c, ← xs n.toNat (by omega), sg_get (by omega)]
      congr 1
      omega)
  by_cases d1 : n = 2
  · rw [if_pos d1]; exact hK23 J L (g14 3 (by rw [if_pos (Or.inl d1)]))
  · rw [if_neg d1]
    by_cases d2 : n = 3
    · rw [if_pos d2]; exact hK23 J L (g14 3 (by rw [if_pos (Or.inr d2)]))
    · rw [if_neg d2]; exact g14 2 (by rw [if_neg (by omega)])
