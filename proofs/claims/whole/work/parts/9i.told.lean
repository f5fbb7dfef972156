/-! told -/
def tellA (k : Int) (A : SA) : Int := if k = 5 then (aT A).2.1 else if k = 6 then aZ A 6 else if k = 7 then (if aZ A 10 = 0 then 0 else aZ A 7) else if k = 8 then aZ A 3 else if k = 9 then aZ A 4 else if k = 10 then ((aL A).length : Int) else if k = 11 then aZ A 2 else if k = 12 then (if aZ A 10 = 0 then 0 else miss (aF A).2.2.2.2 (fs (aF A).2.2.2.1 (aF A).1)) else aZ A (21 + k.toNat)
theorem x_tell {e : Nat} {bd s k : Int} {A : SA} {J : zM} {L : yM} {Q : Int → zM → yM → Prop} (h : XS e s J L A) (ai : AI bd s A) (rk : R32 k) (hk : 0 ≤ k ∧ k < 13) (hQ : Q (tellA k A) J L) : w_X8_tellOf e k J L Q := by
  have x13 : J (e + 8) 13 = aZ A 10 := h.2.2.2.1.2.2.2.1
  have b10 := ai.b10
  unfold w_X8_tellOf
  unfold tellA at hQ
  refine ⟨rk, ?_⟩
  by_cases c5 : k = 5
  · rw [if_pos c5] at hQ ⊢
    rw [show J (e + 168) 8 = (aT A).2.1 from h.2.2.2.2.2.2.2.2.2.1.2.2.2.1]
    exact hQ
  rw [if_neg c5] at hQ ⊢
  by_cases c6 : k = 6
  · rw [if_pos c6] at hQ ⊢
    rw [show J e 18 = aZ A 6 from h.1.2.2.2.2.2.2.2.1]
    exact hQ
  rw [if_neg c6] at hQ ⊢
  by_cases c7 : k = 7
  · rw [if_pos c7] at hQ ⊢
    rw [x13]
    refine ⟨⟨by omega, by omega⟩, ?_⟩
    by_cases c : aZ A 10 = 0
    · rw [if_pos c] at hQ ⊢; exact hQ
    · rw [if_neg c] at hQ ⊢
      rw [show J (e + 8) 10 = aZ A 7 from h.2.2.2.1.1]
      exact hQ
  rw [if_neg c7] at hQ ⊢
  by_cases c8 : k = 8
  · rw [if_pos c8] at hQ ⊢
    rw [show J e 15 = aZ A 3 from h.1.2.2.2.2.1]
    exact hQ
  rw [if_neg c8] at hQ ⊢
  by_cases c9 : k = 9
  · rw [if_pos c9] at hQ ⊢
    rw [show J e 16 = aZ A 4 from h.1.2.2.2.2.2.1]
    exact hQ
  rw [if_neg c9] at hQ ⊢
  by_cases c10 : k = 10
  · rw [if_pos c10] at hQ ⊢
    rw [show J (e + 33) 2 = ((aL A).length : Int) from h.2.2.2.2.2.1.1.1]
    exact hQ
  rw [if_neg c10] at hQ ⊢
  by_cases c11 : k = 11
  · rw [if_pos c11] at hQ ⊢
    rw [show J e 14 = aZ A 2 from h.1.2.2.2.1]
    exact hQ
  rw [if_neg c11] at hQ ⊢
  by_cases c12 : k = 12
  · rw [if_pos c12] at hQ ⊢
    rw [x13]
    refine ⟨⟨by omega, by omega⟩, ?_⟩
    by_cases c : aZ A 10 = 0
    · rw [if_pos c] at hQ ⊢; exact hQ
    · rw [if_neg c] at hQ ⊢
      exact s_notAcked h.2.2.2.1.2.2.2.2 hQ
  rw [if_neg c12] at hQ ⊢
  rw [if_neg (by omega), if_pos (by omega)]
  have v := h.2.2.2.2.2.2.1 k.toNat (by omega)
  rw [show ((k.toNat : Nat) : Int) = k by omega] at v
  rw [v]
  exact ⟨⟨by omega, by omega⟩, hQ⟩
theorem m_left {bd s : Int} {A : SA} {J : zM} {L : yM} {Q : Int → zM → yM → Prop} (hs : s01 s) (h : MS s J L A) (ai : AI bd s A) (n4 : aZ A 0 ≠ 4) (hQ : Q (if aZ A 10 = 0 then 0 else miss (aF A).2.2.2.2 (fs (aF A).2.2.2.1 (aF A).1)) J L) : w_X12_left s J L Q := by
  obtain ⟨b1, b2, b3, ack, b4, b5, b6⟩ := h.2.2.2.1
  have f204 := ai.2.2.2.1.1.2.2
  have b10 := ai.b10
  by_cases c : aZ A 10 = 0
  · rw [if_pos c] at hQ
    have h517 : R32 (J 517 s) := by rw [b6.1]; have := b6.2.1; exact ⟨by omega, by omega⟩
    rcases b3 c n4 with q | q
    · exact s_left0 hs h517 q hQ
    · rcases b1 with w | w
      · refine s_left hs b6 f204 w b4 ?_
        rw [q]
        exact hQ
      · exact s_left0 hs h517 w hQ
  · rw [if_neg c] at hQ
    have c1 : aZ A 10 = 1 := by omega
    have e : ack = (aF A).2.2.2.2 := funext (fun i => b5 c1 i)
    rw [← e] at hQ
    exact s_left hs b6 f204 (b2 c1).1 b4 hQ
theorem call_told {bd s k : Int} {J : zM} {L : yM} (h : PB bd J L) (rs : R32 s) (rk : R32 k) : w_X11_told s k J L (QA bd (w_X12_told s k)) (XA bd [(IOB, 1)] (w_X12_told s k)) := by
  obtain ⟨G, D, N, hx, hm, hI⟩ := h
  have bad : ¬ (s01 s ∧ 0 ≤ k ∧ k < 13) → XA bd [(IOB, 1)] (w_X12_told s k) IOB J L := fun q => ⟨1, List.mem_singleton.mpr rfl, by
    unfold w_X12_told
    refine m_side rs (fun hs K7 hK7 K43 hK43 => if01.mpr ⟨rk, ?_⟩) (fun _ K7 hK7 K43 hK43 => if11.mpr (hK43 J L (m_thrK hK7 hm (by decide) (fun J8 P M z => ⟨z, trivial, PB.q hx hI P M⟩))))
    have g := hK43 J L (m_thrK hK7 hm (by decide) (fun J8 P M z => ⟨z, trivial, PB.q hx hI P M⟩))
    by_cases c1 : k < 0
    · rw [if_pos c1]; exact g
    · rw [if_neg c1, if_pos (by omega)]; exact g⟩
  unfold w_X11_told
  refine x_side rs (fun hs => ⟨rk, ?_⟩) (fun ns => bad (fun q => ns q.1))
  by_cases c1 : k < 0
  · rw [if_pos c1]; exact bad (by omega)
  rw [if_neg c1]
  by_cases c2 : k < 13
  rotate_left
  · rw [if_neg c2]; exact bad (by omega)
  rw [if_pos c2]
  clear bad
  have ai := hI.ai hs
  refine ⟨s01b hs, x_tell (hx.1 s hs) ai rk (by omega) ?_⟩
  unfold QA
  intro L eL
  have hx := hx.o eL
  have hm := hm.o hI eL
  unfold w_X12_told
  refine m_side rs (fun _ K7 hK7 K43 hK43 => if01.mpr ⟨rk, ?_⟩) (fun n => absurd hs n)
  rw [if_neg c1, if_neg (by omega)]
  refine m_thr0 hK7 hm (fun J8 P M z _ _ => ⟨rk, ?_⟩)
  have fin := PB.q hx hI P M
  have X := P.1 s hs
  obtain ⟨A, hA⟩ : ∃ A, A = G s := ⟨_, rfl⟩
  rw [← hA] at ai X ⊢
  have s2 := s01b hs
  have b10 := ai.b10
  obtain ⟨t, ht⟩ : ∃ t, t = tellA k A := ⟨_, rfl⟩
  rw [← ht]
  unfold tellA at ht
  by_cases c5 : k = 5
  · rw [if_pos c5] at ht ⊢
    rw [show J8 512 s = (aT A).2.1 from X.2.2.2.2.2.2.2.2.2.1.2.1]
    exact ⟨s2, z, ⟨ht.symm, (M 552 (Or.inr rfl)).2⟩, fin⟩
  rw [if_neg c5] at ht ⊢
  by_cases c6 : k = 6
  · rw [if_pos c6] at ht ⊢
    rw [show J8 527 s = aZ A 6 from X.1.2.2.2.2.2.1]
    exact ⟨s2, z, ⟨ht.symm, (M 552 (Or.inr rfl)).2⟩, fin⟩
  rw [if_neg c6] at ht ⊢
  by_cases c7 : k = 7
  · rw [if_pos c7] at ht ⊢
    refine ms_timer hs X ai ⟨⟨by omega, by omega⟩, ?_⟩
    by_cases c : aZ A 10 = 0
    · rw [if_pos c] at ht ⊢; exact ⟨z, ⟨ht.symm, (M 552 (Or.inr rfl)).2⟩, fin⟩
    · rw [if_neg c] at ht ⊢
      rw [show J8 524 s = aZ A 7 from X.1.2.2.2.2.2.2.1]
      exact ⟨s2, z, ⟨ht.symm, (M 552 (Or.inr rfl)).2⟩, fin⟩
  rw [if_neg c7] at ht ⊢
  by_cases c8 : k = 8
  · rw [if_pos c8] at ht ⊢
    rw [show J8 538 s = aZ A 3 from X.1.2.2.1]
    exact ⟨s2, z, ⟨ht.symm, (M 552 (Or.inr rfl)).2⟩, fin⟩
  rw [if_neg c8] at ht ⊢
  by_cases c9 : k = 9
  · rw [if_pos c9] at ht ⊢
    have b4 := ai.b4
    rw [show J8 539 s = aZ A 4 from X.1.2.2.2.1]
    refine ⟨s2, ⟨by omega, by omega⟩, ?_⟩
    by_cases c : aZ A 4 = 0
    · rw [if_pos c]; exact ⟨z, ⟨by rw [ht, c], (M 552 (Or.inr rfl)).2⟩, fin⟩
    · rw [if_neg c]; exact ⟨z, ⟨by omega, (M 552 (Or.inr rfl)).2⟩, fin⟩
  rw [if_neg c9] at ht ⊢
  by_cases c10 : k = 10
  · rw [if_pos c10] at ht ⊢
    rw [show J8 530 s = ((aL A).length : Int) from X.2.2.2.2.2.1.1.1]
    exact ⟨s2, z, ⟨ht.symm, (M 552 (Or.inr rfl)).2⟩, fin⟩
  rw [if_neg c10] at ht ⊢
  by_cases c11 : k = 11
  · rw [if_pos c11] at ht ⊢
    rw [show J8 535 s = aZ A 2 from X.1.2.1]
    exact ⟨s2, z, ⟨ht.symm, (M 552 (Or.inr rfl)).2⟩, fin⟩
  rw [if_neg c11] at ht ⊢
  by_cases c12 : k = 12
  · rw [if_pos c12] at ht ⊢
    have b0 := ai.b0
    rw [show J8 534 s = aZ A 0 from X.1.1]
    refine ⟨s2, ⟨by omega, by omega⟩, ?_⟩
    by_cases c : aZ A 0 = 4
    · rw [if_pos c]
      have z10 : aZ A 10 = 0 := by
        rcases b10 with w | w
        · exact w
        · have := (ai.b7 w).2; unfold live at this; omega
      rw [if_pos z10] at ht
      exact ⟨z, ⟨ht.symm, (M 552 (Or.inr rfl)).2⟩, fin⟩
    · rw [if_neg c]
      exact m_left hs X ai c ⟨z, ⟨ht.symm, (M 552 (Or.inr rfl)).2⟩, fin⟩
  rw [if_neg c12] at ht ⊢
  have v := X.2.2.2.2.2.2.1 k.toNat (by omega)
  rw [show ((k.toNat : Nat) : Int) = k by omega] at v
  rw [v]
  exact ⟨⟨by omega, by omega⟩, z, ⟨ht.symm, (M 552 (Or.inr rfl)).2⟩, fin⟩
