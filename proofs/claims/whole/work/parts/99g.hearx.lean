theorem x_toKeep {e : Nat} {bd s : Int} {c : List Int} {A B : SA} {J : zM} {L : yM} {Q : Int → zM → yM → Prop} (h : XS e s J L B) (ai : AI bd s A) (h0 : aZ B 0 = aZ A 0) (h2 : aZ B 2 = aZ A 2) (h11 : J 3 11 = fN c) (ob : oct c) (hQ0 : ¬ toK (fN c) A → Q 0 J L) (hQ1 : toK (fN c) A → Q 1 J L) : w_X8_isToKeep e J L Q := by
  have b0 := ai.b0
  have b2 := ai.b2
  have bn := (f_b ob).2.2.1
  have e12 : J e 12 = aZ A 0 := h.1.2.1.trans h0
  have e14 : J e 14 = aZ A 2 := h.1.2.2.2.1.trans h2
  unfold w_X8_isToKeep
  rw [e12, e14, h11]
  refine ⟨⟨by omega, by omega⟩, ?_⟩
  by_cases c0 : aZ A 0 = 1
  · rw [if_pos c0]
    refine ⟨⟨by omega, by omega⟩, ⟨by omega, by omega⟩, ?_⟩
    by_cases c1 : fN c < aZ A 2
    · rw [if_pos c1]
      exact hQ0 (fun q => by have := q.2.1; omega)
    · rw [if_neg c1]
      refine ⟨⟨by omega, by omega⟩, ?_⟩
      by_cases c2 : fN c < aZ A 2 + 5
      · rw [if_pos c2]
        exact hQ1 ⟨c0, by omega, c2⟩
      · rw [if_neg c2]
        exact hQ0 (fun q => c2 q.2.2)
  · rw [if_neg c0]
    exact hQ0 (fun q => c0 q.1)
theorem x_agrees {e : Nat} {bd s : Int} {c : List Int} {A : SA} {J : zM} {L : yM} {Q : Int → zM → yM → Prop} (h : XS e s J L A) (ai : AI bd s A) (hf : FR J c) (ob : oct c) (hk : toK (fN c) A) (hQ0 : ¬ agr c A → Q 0 J L) (hQ1 : agr c A → Q 1 J L) : w_X8_agreesWithKept e J L Q := by
  have b2 := ai.b2
  obtain ⟨bk, bl, bn, -⟩ := f_b ob
  have hx := h.2.2.2.2.1 (fN c) hk.2.1 hk.2.2
  unfold w_X8_agreesWithKept w_X3_agrees
  rw [hf.1, hf.2.1, hf.2.2.1]
  intro x1 ex1
  have ex1 : x1 = fN c % 5 := by rw [ex1]; exact zrem_n (by omega) (by decide)
  rw [ex1, hx.1]
  have a5 : 0 ≤ fN c % 5 ∧ fN c % 5 < 5 := by omega
  refine ⟨a5, ?_⟩
  by_cases d : (aK A (fN c)).1 = -1
  · rw [d]
    refine ⟨by decide, ?_⟩
    rw [if_pos rfl]
    exact ⟨by decide, hQ1 (Or.inl d)⟩
  · have hy := hx.2 d
    have kl := (ai.2.2.2.2.1 (fN c) hk.2.1 d).2.2.2.1
    have lb := kLen_b kl
    have kb : 0 ≤ (aK A (fN c)).1 ∧ (aK A (fN c)).1 < 256 := by have := (kln kl).2.2.2.2.2; omega
    refine ⟨R_o kb, ?_⟩
    rw [if_neg d]
    refine ⟨a5, R_o bk, ?_⟩
    by_cases d1 : (aK A (fN c)).1 = fKd c
    · rw [if_pos d1, hy.1]
      refine ⟨a5, ⟨by omega, by omega⟩, R_u bl, ?_⟩
      by_cases d2 : (aK A (fN c)).2.1 = fLn c
      · rw [if_pos d2]
        exact ⟨by decide, hQ1 (Or.inr ⟨d1, d2⟩)⟩
      · rw [if_neg d2]
        exact ⟨by decide, hQ0 (fun q => q.elim d (fun q => d2 q.2))⟩
    · rw [if_neg d1]
      exact ⟨by decide, hQ0 (fun q => q.elim d (fun q => d1 q.1))⟩
theorem x_isOpen {e : Nat} {bd s : Int} {A B : SA} {J : zM} {L : yM} {Q : Int → zM → yM → Prop} (h : XS e s J L B) (ai : AI bd s A) (h0 : aZ B 0 = aZ A 0) (hQ0 : ¬ opn A → Q 0 J L) (hQ1 : opn A → Q 1 J L) : w_X8_isOpen e J L Q := by
  have b0 := ai.b0
  have e12 : J e 12 = aZ A 0 := h.1.2.1.trans h0
  unfold w_X8_isOpen
  rw [e12]
  refine ⟨⟨by omega, by omega⟩, ?_⟩
  by_cases c2 : aZ A 0 = 2
  · rw [if_pos c2]; exact hQ1 (Or.inl c2)
  · rw [if_neg c2]
    by_cases c3 : aZ A 0 = 3
    · rw [if_pos c3]; exact hQ1 (Or.inr c3)
    · rw [if_neg c3]; exact hQ0 (fun q => q.elim c2 c3)
theorem x_act0 {e : Nat} {J : zM} {L : yM} {Q : zM → yM → Prop} (h : Q J L) : w_X8_act e 0 J L Q := by
  unfold w_X8_act
  refine ⟨by decide, ?_⟩
  rw [if_neg (by decide), if_neg (by decide), if_neg (by decide)]
  exact h
theorem uz7_same (A : SA) : uz 7 (aZ A 7) A = A := by
  unfold uz
  have : (fun j => if j = 7 then aZ A 7 else A.1 j) = A.1 := by
    funext j
    by_cases q : j = 7
    · rw [if_pos q, q]
    · rw [if_neg q]
  rw [this]
theorem AI.agn {s bd : Int} {A : SA} (h : AI bd s A) (h9 : aZ A 9 < 8) : AI bd s (uz 6 (aZ A 6 + 1) (uz 9 (aZ A 9 + 1) A)) := by
  have := h.again h9 (aZ A 7) (Or.inl rfl)
  rw [uz7_same] at this
  exact this
theorem AI_old {s bd k : Int} {A : SA} (h : AI bd s A) : AI bd s (oldA s k A) := by
  unfold oldA
  split
  · exact AI_acks h
  · split
    · unfold agnA
      split
      · rename_i q
        refine AI_fly (h.agn q.2.1) ?_
        have := h.b21
        show ((aT A).2.2.2.2.length : Int) ≤ 204 * (aZ A 9 + 1)
        exact this
      · exact h
    · exact h
/-- ACKS and the FLIGHT again -/
theorem x_act3 {e : Nat} {bd s : Int} {A : SA} {J : zM} {L : yM} {Q : zM → yM → Prop} (he : iSide e) (hs : s01 s) (h : XS e s J L A) (ai : AI bd s A) (hQ : ∀ J', XS e s J' L (acksA s A) → XO e J L J' L → Q J' L) : w_X8_act e 3 J L Q := by
  unfold w_X8_act
  refine ⟨by decide, ?_⟩
  rw [if_pos rfl]
  exact xs_acks he hs h ai hQ
theorem x_act2 {e : Nat} {bd s : Int} {A : SA} {J : zM} {L : yM} {Q : zM → yM → Prop} (he : iSide e) (hs : s01 s) (h : XS e s J L A) (ai : AI bd s A) (h9 : aZ A 9 < 8) (hQ : ∀ J', XS e s J' L (flyA s (uz 6 (aZ A 6 + 1) (uz 9 (aZ A 9 + 1) A))) → XO e J L J' L → Q J' L) : w_X8_act e 2 J L Q := by
  have b9 := ai.b9
  unfold w_X8_act
  refine ⟨by decide, ?_⟩
  rw [if_neg (by decide), if_pos rfl]
  unfold w_X8_countAgain
  intro J1 g1 J2 g2
  rw [show J (e + 8) 12 = aZ A 9 from h.2.2.2.1.2.2.1] at g1
  have h1 := XS_z9 he h (aZ A 9 + 1)
  rw [← g1] at h1
  rw [show J1 e 18 = aZ A 6 from h1.1.2.2.2.2.2.2.2.1] at g2
  have h2 := XS_z6 he h1 (aZ A 6 + 1)
  rw [← g2] at h2
  have hlg := ai.log (by omega)
  refine xs_fly he hs h2 (ai.agn h9) ?_ (fun J' k1 k2 => hQ J' k1 ?_)
  · show (aT A).2.2.2.2.length + 204 ≤ 1836
    omega
  · refine XO.tr ?_ k2
    rw [g2, g1]
    exact (XO.zs (Or.inl (by omega))).tr (XO.zs (Or.inl (by omega)))
