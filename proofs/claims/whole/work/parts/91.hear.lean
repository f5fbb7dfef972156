/-! what is in a record: ALERTS, DATA -/
/-- the record at hand in the class: its EPOCH, its content -/
def XC (J : zM) (ep : Int) (c : List Int) : Prop := J 3 4 = ep ∧ J 3 8 = (c.length : Int) ∧ 0 ≤ J 3 7 ∧ J 3 7 + (c.length : Int) ≤ 500 ∧ sg J 4 (J 3 7) c.length = c ∧ oct c
def MCt (J : zM) (c : List Int) : Prop := J 491 70 = (c.length : Int) ∧ sg J 550 0 c.length = c ∧ c.length ≤ 500 ∧ oct c
theorem XC.fr {J J' : zM} {ep : Int} {c : List Int} (h : XC J ep c) (h3 : J' 3 = J 3) (h4 : J' 4 = J 4) : XC J' ep c := by
  unfold XC at *
  rw [h3, sg_row h4]
  exact h
theorem MCt.fr {J J' : zM} {c : List Int} (h : MCt J c) (h1 : J' 491 70 = J 491 70) (h2 : J' 550 = J 550) : MCt J' c := by
  unfold MCt at *
  rw [h1, sg_row h2]
  exact h
theorem XC.get {J : zM} {ep : Int} {c : List Int} (h : XC J ep c) {i : Nat} (hi : i < c.length) : J 4 (J 3 7 + (i : Int)) = c.getD i 0 := by
  rw [← sg_get (J := J) (a := 4) (i := J 3 7) hi, h.2.2.2.2.1]
theorem MCt.get {J : zM} {c : List Int} (h : MCt J c) {i : Nat} (hi : i < c.length) : J 550 (i : Int) = c.getD i 0 := by
  have := sg_get (J := J) (a := 550) (i := 0) hi
  rw [h.2.1, Int.zero_add] at this
  exact this.symm
theorem x_octet {J : zM} {L : yM} {ep i : Int} {c : List Int} {Q : Int → zM → yM → Prop} (h : XC J ep c) (h0 : 0 ≤ i ∧ i < (c.length : Int)) (hQ : Q (c.getD i.toNat 0) J L) : w_X1_contentOctet i J L Q := by
  have hl := h.2.2.2.1
  have h7 := h.2.2.1
  unfold w_X1_contentOctet
  rw [h.2.1]
  refine ⟨⟨by omega, by omega⟩, ?_⟩
  rw [if_neg (by omega)]
  refine ⟨⟨by omega, by omega⟩, ?_⟩
  rw [if_pos h0.2]
  refine ⟨⟨by omega, by omega⟩, ?_⟩
  have := h.get (i := i.toNat) (by omega)
  rw [show ((i.toNat : Nat) : Int) = i by omega] at this
  rw [this]
  exact hQ
def malA (A : SA) : SA := uz 21 (aZ A 21 + 1) A
def alertC (ep : Int) (c : List Int) (A : SA) : SA := if c.length ≠ 1 then malA A else if ep = 0 ∧ 0 < aZ A 13 then A else if c.getD 0 0 = 0 then uz 4 1 A else dieA (noteA (c.getD 0 0) A)
def dataC (ep : Int) (c : List Int) (A : SA) : SA := if ep = 3 ∧ 1 ≤ c.length ∧ c.length ≤ 60 then uz 10 0 (uz 5 (aZ A 5 + 1) (uw ((if (aW A).length = 100 then (aW A).eraseIdx 0 else aW A) ++ [c]) A)) else malA A
/-- what hear does behind: it counts, if it is not sound -/
theorem xs_mal {e : Nat} {s : Int} {A : SA} {J : zM} {L : yM} (he : iSide e) (h : XS e s J L A) : XS e s (zs J (e + 37) 0 (J (e + 37) 0 + 1)) L (malA A) ∧ XO e J L (zs J (e + 37) 0 (J (e + 37) 0 + 1)) L := by
  have e0 : J (e + 37) 0 = aZ A 21 := h.2.2.2.2.2.2.1 0 (by decide)
  rw [e0]
  exact ⟨XS_z21 he h _, XO.zs (Or.inl (by omega))⟩
theorem ms_cnt {s : Int} {A : SA} {J : zM} {L : yM} {k : Nat} (hs : s01 s) (hk : k < 5) (h : MS s J L A) : MS s (zs J 537 (10 * s + (k : Int)) (J 537 (10 * s + (k : Int)) + 1)) L (uz (21 + k) (aZ A (21 + k) + 1) A) ∧ MO s J L (zs J 537 (10 * s + (k : Int)) (J 537 (10 * s + (k : Int)) + 1)) L := by
  obtain ⟨a0, a1, a2, a3, a4, a5, a6, a7, a8, a9, a10, a11, a12⟩ := h
  obtain ⟨v, hv⟩ : ∃ v, v = J 537 (10 * s + (k : Int)) + 1 := ⟨_, rfl⟩
  rw [← hv]
  rw [a6 k hk] at hv
  have c : ∀ (C : Nat → Prop), ¬ C 537 → oEq s C J (zs J 537 (10 * s + (k : Int)) v) := fun C hC => oEq.zs (Or.inl hC)
  have z : ∀ j, j < 21 → aZ (uz (21 + k) (aZ A (21 + k) + 1) A) j = aZ A j := fun j hj => if_neg (by omega)
  refine ⟨⟨?_, ?_, ?_, ?_, ?_, ?_, fun j hj => ?_, ?_, ?_, MSn.zs a9 (by omega) (by omega), a10.fr (c _ (by omega)) (fun _ _ _ => rfl), ?_, mKa a12 (c _ (by omega))⟩, MO_zs (fun q => by have := ow10 q; omega) (by omega) (by omega) (by omega)⟩
  · unfold M0
    rw [z 0 (by decide), z 2 (by decide), z 3 (by decide), z 4 (by decide), z 5 (by decide), z 6 (by decide), z 7 (by decide), z 8 (by decide), z 9 (by decide), z 11 (by decide), z 15 (by decide), z 16 (by decide)]
    exact a0.fr (c _ (by omega)) (fun _ _ _ => rfl)
  · unfold M1; rw [z 0 (by decide), z 1 (by decide), z 12 (by decide), z 13 (by decide)]; exact a1.fr (c _ (by omega))
  · unfold M2; rw [z 0 (by decide)]; exact a2.fr (c _ (by omega))
  · unfold M8; rw [z 0 (by decide), z 10 (by decide)]; exact a3.fr hs (c _ (by omega))
  · rw [z 2 (by decide)]; exact ⟨a4.1.fr hs (c _ (by omega)), a4.2.fr (c _ (by omega))⟩
  · unfold M33; rw [z 14 (by decide)]; exact a5.fr (c _ (by omega))
  · show _ = if 21 + j = 21 + k then aZ A (21 + k) + 1 else aZ A (21 + j)
    by_cases q : j = k
    · subst q; rw [if_pos rfl, zs_s]; exact hv
    · rw [if_neg (by omega), zs_n _ (Or.inr (by omega))]; exact a6 j hj
  · rw [z 5 (by decide)]; exact a7.fr hs (c _ (by omega))
  · unfold M44; rw [z 0 (by decide), z 13 (by decide)]; exact a8.fr (c _ (by omega))
  · unfold M15; rw [z 18 (by decide), z 19 (by decide), z 20 (by decide)]; exact a11.fr (c _ (by omega))
theorem ms_mal {s : Int} {A : SA} {J : zM} {L : yM} {Q : zM → yM → Prop} (hs : s01 s) (h : MS s J L A) (hQ : ∀ J', MS s J' L (malA A) → MO s J L J' L → Q J' L) : w_X12_malformed s J L Q := by
  unfold w_X12_malformed
  refine ⟨by omega, by omega, fun J3 e3 => ?_⟩
  have r := ms_cnt (k := 0) hs (by decide) h
  rw [show 10 * s + ((0 : Nat) : Int) = 10 * s by omega, ← e3] at r
  exact hQ J3 r.1 r.2
theorem AI_cnt {bd s v : Int} {A : SA} {k : Nat} (ai : AI bd s A) (hk : 21 ≤ k) : AI bd s (uz k v A) := by
  have z : ∀ j, j < 21 → aZ (uz k v A) j = aZ A j := fun j hj => if_neg (by omega)
  obtain ⟨h1, h2, h3, h4, h5, h6⟩ := ai
  refine ⟨?_, h2, ?_, ?_, ?_, h6⟩
  · unfold AIz
    rw [z 0 (by decide), z 1 (by decide), z 2 (by decide), z 3 (by decide), z 4 (by decide), z 5 (by decide), z 7 (by decide), z 8 (by decide), z 9 (by decide), z 10 (by decide), z 11 (by decide), z 12 (by decide), z 13 (by decide), z 14 (by decide), z 15 (by decide), z 16 (by decide), z 17 (by decide), z 18 (by decide), z 19 (by decide), z 20 (by decide)]
    exact h1
  · unfold AIm; rw [z 0 (by decide), z 1 (by decide)]; exact h3
  · unfold AIf; rw [z 13 (by decide)]; exact h4
  · unfold AIk; rw [z 0 (by decide), z 2 (by decide)]; exact h5
theorem oct1 {c : List Int} (h : oct c) (i : Nat) : 0 ≤ c.getD i 0 ∧ c.getD i 0 < 256 := oct_get h i
theorem xs_hearAlert {e : Nat} {bd s ep : Int} {c : List Int} {A : SA} {J : zM} {L : yM} {Q : Int → zM → yM → Prop} (he : iSide e) (h : XS e s J L A) (ai : AI bd s A) (hc : XC J ep c) (hep : ep3 ep) (h0 : c.length ≠ 1 → Q 0 J L) (h1 : ∀ J', c.length = 1 → XS e s J' L (alertC ep c A) → XO e J L J' L → Q 1 J' L) : w_X8_hearAlert e J L Q := by
  have hl := hc.2.2.2.1
  have h7 := hc.2.2.1
  have b13 := ai.b13
  unfold w_X8_hearAlert
  rw [hc.2.1, hc.1]
  refine ⟨⟨by omega, by omega⟩, ?_⟩
  by_cases c1 : c.length = 1
  · rw [if_pos (by omega)]
    intro K5 hK5
    unfold alertC at h1
    rw [if_neg (fun q => q c1)] at h1
    have e11 : J (e + 144) 11 = aZ A 13 := h.2.2.2.2.2.2.2.2.1.1
    have go : ¬ (ep = 0 ∧ 0 < aZ A 13) → K5 J L := fun hno => hK5 J L (by
      rw [if_neg hno] at h1
      refine x_octet hc (by omega) ?_
      have ho := oct1 hc.2.2.2.2.2 0
      refine ⟨⟨by show -2147483648 ≤ c.getD 0 0; omega, by show c.getD 0 0 < 2147483648; omega⟩, ?_⟩
      show if c.getD 0 0 = 0 then _ else _
      by_cases d : c.getD 0 0 = 0
      · rw [if_pos d]
        rw [if_pos d] at h1
        intro J15 e15
        have g := XS_z4 he h 1
        rw [← e15] at g
        refine h1 J15 c1 g ?_
        rw [e15]
        exact XO.zs (Or.inl (by omega))
      · rw [if_neg d]
        rw [if_neg d] at h1
        exact xs_note he h ai ho (fun J2 g2 o2 => xs_die he g2 (fun J3 g3 o3 => h1 J3 c1 g3 (o2.tr o3))))
    refine ⟨⟨by omega, by omega⟩, ?_⟩
    by_cases c0 : ep = 0
    · rw [if_pos c0, e11]
      refine ⟨⟨by omega, by omega⟩, ?_⟩
      by_cases d : 0 < aZ A 13
      · rw [if_pos d]
        rw [if_pos ⟨c0, d⟩] at h1
        exact h1 J c1 h XO.rf
      · rw [if_neg d]
        exact go (fun q => d q.2)
    · rw [if_neg c0]
      exact go (fun q => c0 q.1)
  · rw [if_neg (by omega)]
    exact h0 c1
theorem ms_alertComes {bd s ep : Int} {c : List Int} {A : SA} {J : zM} {L : yM} {Q : zM → yM → Prop} (hs : s01 s) (h : MS s J L A) (ai : AI bd s A) (hc : MCt J c) (hep : ep3 ep) (hQ : ∀ J', MS s J' L (alertC ep c A) → MO s J L J' L → Q J' L) : w_X12_alertComes s ep J L Q := by
  have hl := hc.2.2.1
  have b13 := ai.b13
  have hs2 : 0 ≤ s ∧ s < 2 := by omega
  unfold w_X12_alertComes
  rw [hc.1]
  refine ⟨⟨by omega, by omega⟩, ?_⟩
  unfold alertC at hQ
  by_cases c1 : c.length = 1
  · rw [if_pos (by omega)]
    rw [if_neg (fun q => q c1)] at hQ
    intro K5 hK5
    have e506 : J 506 s = if 2 ≤ aZ A 13 then 1 else 0 := h.2.1.2.2.2.2.2.1
    have go : ¬ (ep = 0 ∧ 0 < aZ A 13) → K5 J L := fun hno => hK5 J L (by
      rw [if_neg hno] at hQ
      have ho := oct1 hc.2.2.2 0
      have e0 : J 550 0 = c.getD 0 0 := hc.get (i := 0) (by omega)
      rw [e0]
      refine ⟨⟨by omega, by omega⟩, ?_⟩
      by_cases d : c.getD 0 0 = 0
      · rw [if_pos d]
        rw [if_pos d] at hQ
        refine ⟨hs2, fun J13 e13 => ?_⟩
        have g := MS_z4 hs h 1
        rw [← e13] at g
        exact hQ J13 g.1 g.2
      · rw [if_neg d]
        rw [if_neg d] at hQ
        exact ms_note hs h ai ⟨by omega, ho.2⟩ (fun J2 g2 o2 => ms_die hs g2 (fun J3 g3 o3 => hQ J3 g3 (o2.tr o3))))
    refine ⟨⟨by omega, by omega⟩, ?_⟩
    by_cases c0 : ep = 0
    · rw [if_pos c0, e506]
      refine ⟨hs2, by split <;> decide, ?_⟩
      by_cases d : 0 < aZ A 13
      · rw [if_pos (show 2 ≤ aZ A 13 by omega), if_neg (by decide)]
        rw [if_pos ⟨c0, d⟩] at hQ
        exact hQ J h MO.rf
      · rw [if_neg (show ¬ 2 ≤ aZ A 13 by omega), if_pos rfl]
        exact go (fun q => d q.2)
    · rw [if_neg c0]
      exact go (fun q => c0 q.1)
  · rw [if_neg (by omega)]
    rw [if_pos c1] at hQ
    exact ms_mal hs h hQ
theorem AI_heard {bd s : Int} {A : SA} (ai : AI bd s A) : AI bd s (uz 4 1 A) := by
  have z := ai.1
  exact ⟨⟨z.1, z.2.1, z.2.2.1, z.2.2.2.1, Or.inr rfl, z.2.2.2.2.2⟩, ai.2⟩
theorem AI_alertC {bd s ep : Int} {c : List Int} {A : SA} (ai : AI bd s A) (hc : oct c) : AI bd s (alertC ep c A) := by
  unfold alertC
  split
  · exact AI_cnt ai (by decide)
  · split
    · exact ai
    · split
      · exact AI_heard ai
      · exact AI_die (AI_note ai (oct1 hc 0))
