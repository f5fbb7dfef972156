/-! a record is cut from what is left of a datagram -/
def shR (r : List Int) (k : Nat) : Int := 256 * r.getD k 0 + r.getD (k + 1) 0
theorem shR_b {r : List Int} (h : oct r) (k : Nat) : 0 ≤ shR r k ∧ shR r k < 65536 := by
  have a := oct1 h k
  have b := oct1 h (k + 1)
  unfold shR
  omega
/-- what is left: from o on -/
def XD (J : zM) (o : Int) (r : List Int) : Prop := 0 ≤ o ∧ o + (r.length : Int) = J 3 1 ∧ J 3 1 ≤ 500 ∧ sg J 4 o r.length = r ∧ oct r
theorem XD.get {J : zM} {o : Int} {r : List Int} (h : XD J o r) {i : Nat} (hi : i < r.length) : J 4 (o + (i : Int)) = r.getD i 0 := by
  rw [← sg_get (J := J) (a := 4) (i := o) hi, h.2.2.2.1]
theorem XD.fr {J J' : zM} {o : Int} {r : List Int} (h : XD J o r) (h1 : J' 3 1 = J 3 1) (h4 : J' 4 = J 4) : XD J' o r := ⟨h.1, by rw [h1]; exact h.2.1, by rw [h1]; exact h.2.2.1, by rw [sg_row h4]; exact h.2.2.2.1, h.2.2.2.2⟩
theorem x_sh {J : zM} {L : yM} {o i : Int} {r : List Int} {k : Nat} {Q : Int → zM → yM → Prop} (h : XD J o r) (hi : i = o + (k : Int)) (hk : k + 1 < r.length) (hQ : Q (shR r k) J L) : w_X1_shortAt i J L Q := by
  obtain ⟨h0, h1, h2, h3, h4⟩ := id h
  refine x_short (x := r.getD k 0) (y := r.getD (k + 1) 0) (by omega) (by omega) h2 (by rw [hi]; exact h.get (by omega)) (by rw [hi, Int.add_assoc]; exact h.get (i := k + 1) hk) (oct1 h4 k) (oct1 h4 (k + 1)) hQ
/-- the record at hand -/
def CUT (J J' : zM) (o ep t hd n nm : Int) : Prop := J' 3 1 = J 3 1 ∧ J' 3 2 = o ∧ J' 3 3 = o + hd + n ∧ J' 3 4 = ep ∧ J' 3 5 = t ∧ J' 3 6 = nm ∧ J' 3 7 = o + hd ∧ J' 3 8 = n ∧ zF (fun a => a = 3) J J'
theorem x_cutEnd {J J27 J31 J36 J37 : zM} {L : yM} {o ep t n x32 : Int} {hd k : Nat} {r : List Int} {Q : Int → zM → yM → Prop} (h : XD J o r) (f27 : zF (fun a => a = 3) J J27) (v1 : J27 3 1 = J 3 1) (v2 : J27 3 2 = o) (v7 : J27 3 7 = o + (hd : Int)) (v8 : J27 3 8 = n) (e31 : J31 = zs J27 3 3 (J27 3 7 + J27 3 8)) (h32 : x32 = ep) (e36 : J36 = zs J31 3 4 x32) (e37 : J37 = zs J36 3 5 t) (hk : hd = k + 4) (hl : hd ≤ r.length) (hQ : ∀ J', CUT J J' o ep t (hd : Int) n (shR r k) → Q 1 J' L) : w_X1_shortAt (J37 3 7 - 4) J37 L (fun r40 J38 L39 => ∀ J41, J41 = zs J38 3 6 r40 → Q 1 J41 L39) := by
  have g : ∀ k, k ≠ 3 → k ≠ 4 → k ≠ 5 → J37 3 k = J27 3 k := fun k p q w => by rw [e37, zs_n _ (Or.inr w), e36, zs_n _ (Or.inr q), e31, zs_n _ (Or.inr p)]
  have f37 : zF (fun a => a = 3) J J37 := fun a ha => by rw [e37, zs_r _ ha, e36, zs_r _ ha, e31, zs_r _ ha]; exact f27 a ha
  have w1 : J37 3 1 = J 3 1 := (g 1 (by decide) (by decide) (by decide)).trans v1
  have w3 : J37 3 3 = o + (hd : Int) + n := by rw [e37, zs_n _ (Or.inr (by decide)), e36, zs_n _ (Or.inr (by decide)), e31, zs_s, v7, v8]
  have w4 : J37 3 4 = ep := by rw [e37, zs_n _ (Or.inr (by decide)), e36, zs_s]; exact h32
  have w5 : J37 3 5 = t := by rw [e37]; exact zs_s _ _ _ _
  have w7 : J37 3 7 = o + (hd : Int) := (g 7 (by decide) (by decide) (by decide)).trans v7
  refine x_sh (k := k) (h.fr w1 (f37 4 (by decide))) (by rw [w7]; omega) (by omega) (fun J41 e41 => ?_)
  have m : ∀ k, k ≠ 6 → J41 3 k = J37 3 k := fun k p => by rw [e41, zs_n _ (Or.inr p)]
  exact hQ J41 ⟨(m 1 (by decide)).trans w1, (m 2 (by decide)).trans ((g 2 (by decide) (by decide) (by decide)).trans v2), (m 3 (by decide)).trans w3, (m 4 (by decide)).trans w4, (m 5 (by decide)).trans w5, by rw [e41]; exact zs_s _ _ _ _, (m 7 (by decide)).trans w7, (m 8 (by decide)).trans ((g 8 (by decide) (by decide) (by decide)).trans v8), fun a ha => by rw [e41, zs_r _ ha]; exact f37 a ha⟩
/-- sealed -/
theorem x_cutS {J : zM} {L : yM} {o ep : Int} {r : List Int} {Q : Int → zM → yM → Prop} (h : XD J o r) (h3 : J 3 3 = o) (hp : 0 < r.length) (hr : r.getD 0 0 = 32 + ep) (hep : 2 ≤ ep ∧ ep ≤ 3) (hQ0 : ∀ J', ¬ (5 ≤ r.length ∧ 5 + shR r 3 ≤ (r.length : Int)) → zF (fun a => a = 3) J J' → Q 0 J' L) (hQ1 : ∀ J', 5 ≤ r.length → 5 + shR r 3 ≤ (r.length : Int) → CUT J J' o ep (32 + ep) 5 (shR r 3) (shR r 1) → Q 1 J' L) : w_X1_cutRecord J L Q := by
  obtain ⟨h0, h1, h2, h4, ob⟩ := id h
  have g0 : J 4 o = 32 + ep := by have := h.get (i := 0) hp; rw [show o + ((0 : Nat) : Int) = o by omega, hr] at this; exact this
  have bL := shR_b ob 3
  unfold w_X1_cutRecord
  intro J1 e1
  rw [h3] at e1
  have f1 : zF (fun a => a = 3) J J1 := fun a ha => by rw [e1]; exact zs_r J ha
  have k1 : J1 3 1 = J 3 1 := by rw [e1]; exact zs_n J (Or.inr (by decide))
  have k2 : J1 3 2 = o := by rw [e1]; exact zs_s _ _ _ _
  have k4 : J1 4 o = 32 + ep := by rw [f1 4 (by decide)]; exact g0
  clear e1
  intro K5 hK5
  rw [k2, k1, k4]
  refine ⟨⟨by omega, by omega⟩, ⟨by omega, by omega⟩, ?_⟩
  rw [if_pos (by omega)]
  refine ⟨⟨by omega, by omega⟩, hK5 _ J1 L ?_⟩
  intro K9 hK9
  clear hK5
  have go : K9 1 J1 L := hK9 1 J1 L (by
    clear hK9
    intro K12 hK12
    refine ⟨by decide, ?_⟩
    rw [if_neg (by decide)]
    refine hK12 J1 L ?_
    clear hK12
    intro K16 hK16
    refine ⟨by decide, ?_⟩
    rw [if_neg (by decide)]
    refine hK16 5 J1 L ?_
    clear hK16
    intro J17 e17
    rw [k2] at e17
    have f17 : zF (fun a => a = 3) J J17 := fun a ha => by rw [e17, zs_r _ ha]; exact f1 a ha
    have u1 : J17 3 1 = J 3 1 := by rw [e17, zs_n _ (Or.inr (by decide))]; exact k1
    have u2 : J17 3 2 = o := by rw [e17, zs_n _ (Or.inr (by decide))]; exact k2
    have u7 : J17 3 7 = o + 5 := by rw [e17]; exact zs_s _ _ _ _
    clear e17
    rw [u7, u1]
    refine ⟨⟨by omega, by omega⟩, ⟨by omega, by omega⟩, ?_⟩
    by_cases c1 : J 3 1 < o + 5
    · rw [if_pos c1]
      exact hQ0 J17 (fun q => by have := q.1; omega) f17
    · rw [if_neg c1]
      intro K23 hK23
      refine ⟨by decide, ?_⟩
      rw [if_neg (by decide)]
      refine hK23 J17 L ?_
      clear hK23
      have l5 : 5 ≤ r.length := by omega
      refine x_sh (k := 3) (h.fr u1 (f17 4 (by decide))) (by rw [u7]; omega) (by omega) (fun J27 e27 => ?_)
      have f27 : zF (fun a => a = 3) J J27 := fun a ha => by rw [e27, zs_r _ ha]; exact f17 a ha
      have v1 : J27 3 1 = J 3 1 := by rw [e27, zs_n _ (Or.inr (by decide))]; exact u1
      have v2 : J27 3 2 = o := by rw [e27, zs_n _ (Or.inr (by decide))]; exact u2
      have v7 : J27 3 7 = o + 5 := by rw [e27, zs_n _ (Or.inr (by decide))]; exact u7
      have v8 : J27 3 8 = shR r 3 := by rw [e27]; exact zs_s _ _ _ _
      clear e27
      rw [v7, v8, v1]
      refine ⟨⟨by omega, by omega⟩, ⟨by omega, by omega⟩, ?_⟩
      by_cases c2 : J 3 1 < o + 5 + shR r 3
      · rw [if_pos c2]
        exact hQ0 J27 (fun q => by have := q.2; omega) f27
      · rw [if_neg c2]
        intro J31 e31 K35 hK35
        refine ⟨by decide, ?_⟩
        rw [if_neg (by decide)]
        refine hK35 _ J31 L ?_
        clear hK35
        intro J36 e36 J37 e37
        exact x_cutEnd (hd := 5) (k := 1) h f27 v1 v2 v7 v8 (by rw [v7, v8]; exact e31) (by omega) e36 e37 rfl l5 (fun J' q => hQ1 J' l5 (by omega) q))
  intro K59 hK59
  refine ⟨⟨by omega, by omega⟩, ?_⟩
  by_cases c1 : 32 + ep = 34
  · rw [if_pos c1]; exact hK59 J1 L go
  · rw [if_neg c1, if_pos (by omega)]; exact hK59 J1 L go
/-- plain, or nothing known -/
abbrev plT3 (t : Int) : Prop := t = 21 ∨ t = 22 ∨ t = 26
theorem x_cutP {J : zM} {L : yM} {o t : Int} {r : List Int} {Q : Int → zM → yM → Prop} (h : XD J o r) (h3 : J 3 3 = o) (hp : 0 < r.length) (hr : r.getD 0 0 = t) (n34 : t ≠ 34) (n35 : t ≠ 35) (hQ0 : ∀ J', ¬ (plT3 t ∧ r.getD 1 0 = 0 ∧ 6 ≤ r.length ∧ 6 + shR r 4 ≤ (r.length : Int)) → zF (fun a => a = 3) J J' → Q 0 J' L) (hQ1 : ∀ J', plT3 t → r.getD 1 0 = 0 → 6 ≤ r.length → 6 + shR r 4 ≤ (r.length : Int) → CUT J J' o 0 t 6 (shR r 4) (shR r 2) → Q 1 J' L) : w_X1_cutRecord J L Q := by
  obtain ⟨h0, h1, h2, h4, ob⟩ := id h
  have g0 : J 4 o = t := by have := h.get (i := 0) hp; rw [show o + ((0 : Nat) : Int) = o by omega, hr] at this; exact this
  have o0 : 0 ≤ t ∧ t < 256 := by rw [← hr]; exact oct1 ob 0
  have bL := shR_b ob 4
  unfold w_X1_cutRecord
  intro J1 e1
  rw [h3] at e1
  have f1 : zF (fun a => a = 3) J J1 := fun a ha => by rw [e1]; exact zs_r J ha
  have k1 : J1 3 1 = J 3 1 := by rw [e1]; exact zs_n J (Or.inr (by decide))
  have k2 : J1 3 2 = o := by rw [e1]; exact zs_s _ _ _ _
  have k4 : J1 4 o = t := by rw [f1 4 (by decide)]; exact g0
  clear e1
  intro K5 hK5
  rw [k2, k1, k4]
  refine ⟨⟨by omega, by omega⟩, ⟨by omega, by omega⟩, ?_⟩
  rw [if_pos (by omega)]
  refine ⟨⟨by omega, by omega⟩, hK5 _ J1 L ?_⟩
  intro K9 hK9
  clear hK5
  have go : K9 0 J1 L := hK9 0 J1 L (by
    clear hK9
    intro K12 hK12
    have g12 : plT3 t → K12 J1 L := fun hkind => hK12 J1 L (by
      clear hK12
      intro K16 hK16
      refine ⟨by decide, ?_⟩
      rw [if_pos rfl]
      refine hK16 6 J1 L ?_
      clear hK16
      intro J17 e17
      rw [k2] at e17
      have f17 : zF (fun a => a = 3) J J17 := fun a ha => by rw [e17, zs_r _ ha]; exact f1 a ha
      have u1 : J17 3 1 = J 3 1 := by rw [e17, zs_n _ (Or.inr (by decide))]; exact k1
      have u2 : J17 3 2 = o := by rw [e17, zs_n _ (Or.inr (by decide))]; exact k2
      have u7 : J17 3 7 = o + 6 := by rw [e17]; exact zs_s _ _ _ _
      have x17 : XD J17 o r := h.fr u1 (f17 4 (by decide))
      clear e17
      rw [u7, u1]
      refine ⟨⟨by clear hkind; omega, by clear hkind; omega⟩, ⟨by clear hkind; omega, by clear hkind; omega⟩, ?_⟩
      by_cases c1 : J 3 1 < o + 6
      · rw [if_pos c1]
        exact hQ0 J17 (fun q => by have := q.2.2.1; clear q hkind; omega) f17
      · rw [if_neg c1]
        intro K23 hK23
        have l5 : 6 ≤ r.length := by clear hkind; omega
        have o1 := oct1 ob 1
        refine ⟨by decide, ?_⟩
        rw [if_pos rfl, u2, show J17 4 (o + 1) = r.getD 1 0 from x17.get (i := 1) (by clear hkind; omega)]
        refine ⟨⟨by clear hkind; omega, by clear hkind; omega⟩, R_o o1, ?_⟩
        by_cases c3 : r.getD 1 0 = 0
        · rw [if_pos c3]
          refine hK23 J17 L ?_
          clear hK23
          refine x_sh (k := 4) x17 (by rw [u7]; clear hkind; omega) (by clear hkind; omega) (fun J27 e27 => ?_)
          have f27 : zF (fun a => a = 3) J J27 := fun a ha => by rw [e27, zs_r _ ha]; exact f17 a ha
          have v1 : J27 3 1 = J 3 1 := by rw [e27, zs_n _ (Or.inr (by decide))]; exact u1
          have v2 : J27 3 2 = o := by rw [e27, zs_n _ (Or.inr (by decide))]; exact u2
          have v7 : J27 3 7 = o + 6 := by rw [e27, zs_n _ (Or.inr (by decide))]; exact u7
          have v8 : J27 3 8 = shR r 4 := by rw [e27]; exact zs_s _ _ _ _
          clear e27
          rw [v7, v8, v1]
          refine ⟨⟨by clear hkind; omega, by clear hkind; omega⟩, ⟨by clear hkind; omega, by clear hkind; omega⟩, ?_⟩
          by_cases c2 : J 3 1 < o + 6 + shR r 4
          · rw [if_pos c2]
            exact hQ0 J27 (fun q => by have := q.2.2.2; clear q hkind; omega) f27
          · rw [if_neg c2]
            intro J31 e31 K35 hK35
            refine ⟨by decide, ?_⟩
            rw [if_pos rfl]
            refine hK35 _ J31 L ?_
            clear hK35
            intro J36 e36 J37 e37
            exact x_cutEnd (hd := 6) (k := 2) h f27 v1 v2 v7 v8 (by rw [v7, v8]; exact e31) rfl e36 e37 rfl l5 (fun J' q => hQ1 J' hkind c3 l5 (by clear hkind; omega) q)
        · rw [if_neg c3]
          exact hQ0 J17 (fun q => c3 q.2.1) f17)
    refine ⟨by decide, ?_⟩
    rw [if_pos rfl]
    refine ⟨R_o o0, ?_⟩
    by_cases c1 : t = 21
    · rw [if_pos c1]; exact g12 (Or.inl c1)
    · rw [if_neg c1]
      by_cases c2 : t = 22
      · rw [if_pos c2]; exact g12 (Or.inr (Or.inl c2))
      · rw [if_neg c2]
        by_cases c3 : t = 26
        · rw [if_pos c3]; exact g12 (Or.inr (Or.inr c3))
        · rw [if_neg c3]
          exact hQ0 J1 (fun q => q.1.elim c1 (fun w => w.elim c2 c3)) f1)
  intro K59 hK59
  refine ⟨R_o o0, ?_⟩
  rw [if_neg n34, if_neg n35]
  exact go
