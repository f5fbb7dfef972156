/-! a FRAGMENT is listed, an older one answered, in the model -/
theorem ms_list {s ep nm : Int} {A : SA} {J : zM} {L : yM} {Q : zM → yM → Prop} (hs : s01 s) (h : MS s J L A) (hnow : J 491 3 = aZ A 17) (hQ : ∀ J', MS s J' L (listA ep nm A) → MO s J L J' L → (∀ a, ¬ (530 ≤ a ∧ a ≤ 533) → J' a = J a) → Q J' L) : w_X12_listed s ep nm J L Q := by
  obtain ⟨a0, a1, a2, a3, a4, a5, a6, a7, a8, a9, a10, a11, a12⟩ := h
  refine s_listM hs hnow a5.1 (fun J' q1 q2 q3 q4 q5 => ?_)
  have r : ∀ a, ¬ (530 ≤ a ∧ a ≤ 533) → J' a = J a := fun a ha => q5 a ha
  have c : ∀ (C : Nat → Prop), (∀ a, C a → ¬ (530 ≤ a ∧ a ≤ 533)) → oEq s C J J' := fun C hC a i _ hc => by rw [r a (hC a hc)]
  refine hQ J' ⟨a0.fr (c _ (fun a q => by omega)) (fun _ _ _ => rfl), a1.fr (c _ (fun a q => by omega)), a2.fr (c _ (fun a q => by omega)), a3.fr hs (c _ (fun a q => by omega)), ⟨a4.1.fr hs (c _ (fun a q => by omega)), a4.2.fr (c _ (fun a q => by omega))⟩, ⟨q1, fun _ => ?_⟩, ?_, a7.fr hs (c _ (fun a q => by omega)), a8.fr (c _ (fun a q => by omega)), MSn.fr a9 (fun b hb => r b (by omega)) (by rw [r 491 (by omega)]), a10.fr (c _ (fun a q => by omega)) (fun _ _ _ => rfl), a11.fr (c _ (fun a q => by omega)), mKa a12 (c _ (fun a q => by omega))⟩ ?_ r
  · rw [q2, zs_s]; rfl
  · intro k hk
    rw [r 537 (by omega), a6 k hk]
    show _ = if 21 + k = 14 then _ else _
    rw [if_neg (by omega)]
    rfl
  · refine ⟨fun a i ho => ?_, fun _ _ _ => rfl, mN_fr (r 509 (by omega)) (r 510 (by omega)) (r 511 (by omega)) s, by rw [r 509 (by omega)], fun hi => mI_fr (r 509 (by omega)) (r 510 (by omega)) hi, fun h30 => by rw [r 491 (by omega)]; exact h30, fun b hb => ⟨r b (by omega), rfl⟩⟩
    by_cases q : 530 ≤ a ∧ a ≤ 533
    · have : a = 530 ∨ a = 531 ∨ a = 532 ∨ a = 533 := by omega
      rcases this with rfl | rfl | rfl | rfl
      · exact q3 i (by have := ow1 ho (by omega); omega)
      · exact (q4 i (by have := ow8 ho (by omega); omega)).1
      · exact (q4 i (by have := ow8 ho (by omega); omega)).2
      · rw [q2]; exact zs_n _ (Or.inr (by have := ow1 ho (by omega); omega))
    · rw [r a q]
theorem m_isOpen {bd s : Int} {A : SA} {J : zM} {L : yM} {Q : Int → zM → yM → Prop} (hs : s01 s) (h : MS s J L A) (ai : AI bd s A) (hQ0 : ¬ opn A → Q 0 J L) (hQ1 : opn A → Q 1 J L) : w_X12_isOpen s J L Q := by
  have b0 := ai.b0
  have hs2 : 0 ≤ s ∧ s < 2 := by omega
  unfold w_X12_isOpen
  rw [h.1.1]
  refine ⟨hs2, ⟨by omega, by omega⟩, ?_⟩
  by_cases c2 : aZ A 0 = 2
  · rw [if_pos c2]; exact hQ1 (Or.inl c2)
  · rw [if_neg c2]
    refine ⟨hs2, ?_⟩
    by_cases c3 : aZ A 0 = 3
    · rw [if_pos c3]; exact hQ1 (Or.inr c3)
    · rw [if_neg c3]; exact hQ0 (fun q => q.elim c2 c3)
theorem ms_older {bd s k : Int} {A : SA} {J : zM} {L : yM} {Q : zM → yM → Prop} (hs : s01 s) (h : MS s J L A) (ai : AI bd s A) (h4 : live (aZ A 0)) (hk : 0 ≤ k ∧ k < 256) (hnow : J 491 3 = aZ A 17) (hbd : bd ≤ 2000000000) (hQ : ∀ J', MS s J' L (oldA s k A) → MO s J L J' L → Q J' L) : w_X12_older s k J L Q := by
  have hs2 : 0 ≤ s ∧ s < 2 := by omega
  have b0 := ai.b0
  have b8 := ai.b8
  have b9 := ai.b9
  have b10 := ai.b10
  have b17 := ai.b17
  have hlg := ai.log (by omega)
  unfold w_X12_older
  intro K3 hK3
  have agn : ∀ K7 : Int → zM → yM → Prop, (∀ (x4 : Int) (J5 : zM) (L6 : yM), (R32 x4 ∧ (if x4 = 0 then Q J5 L6 else w_X12_hasTimer s J5 L6 (fun r12 J10 L11 => R32 r12 ∧ (if r12 = 0 then Q J10 L11 else ((0 : Int) ≤ s ∧ s < 2) ∧ R32 (J10 491 3) ∧ R32 (J10 525 s) ∧ (if (J10 525 s) < (J10 491 3) then ((0 : Int) ≤ s ∧ s < 2) ∧ R32 (J10 526 s) ∧ (if (J10 526 s) < 8 then ((0 : Int) ≤ s ∧ s < 2) ∧ ((0 : Int) ≤ s ∧ s < 2) ∧ ∀ J24 : zM, J24 = zs J10 526 s ((J10 526 s) + 1) → ((0 : Int) ≤ s ∧ s < 2) ∧ ((0 : Int) ≤ s ∧ s < 2) ∧ ∀ J27 : zM, J27 = zs J24 527 s ((J24 527 s) + 1) → w_X12_fly s J27 L11 (fun J28 L29 => Q J28 L29) else Q J10 L11) else Q J10 L11))))) → K7 x4 J5 L6) → oldA s k A = agnA s A → K7 1 J L := fun K7 hK7 hE => hK7 1 J L ⟨by decide, by
    rw [if_neg (by decide)]
    rw [hE] at hQ
    unfold agnA at hQ
    refine ms_timer hs h ai ⟨⟨by omega, by omega⟩, ?_⟩
    by_cases t1 : aZ A 10 = 0
    · rw [if_pos t1]
      rw [if_neg (fun q => by have := q.1; omega)] at hQ
      exact hQ J h MO.rf
    · rw [if_neg t1]
      have t1' : aZ A 10 = 1 := b10.elim (fun q => absurd q t1) id
      have y8 : J 525 s = aZ A 8 := h.1.2.2.2.2.2.2.2.1
      have y9 : J 526 s = aZ A 9 := h.1.2.2.2.2.2.2.2.2.1
      rw [hnow, y8, y9]
      refine ⟨hs2, R_z ⟨b17.1, b17.2⟩ hbd, R_z ⟨b8.1, Int.le_trans b8.2 b17.2⟩ hbd, ?_⟩
      by_cases t2 : aZ A 8 < aZ A 17
      · rw [if_pos t2]
        refine ⟨hs2, ⟨by omega, by omega⟩, ?_⟩
        by_cases t3 : aZ A 9 < 8
        · rw [if_pos t3]
          rw [if_pos ⟨t1', t3, t2⟩] at hQ
          refine ⟨hs2, hs2, fun J24 e24 => ⟨hs2, hs2, fun J27 e27 => ?_⟩⟩
          have g23 := MS_z9 hs h (aZ A 9 + 1)
          rw [← e24] at g23
          rw [show J24 527 s = aZ A 6 from g23.1.1.2.2.2.2.2.1] at e27
          have g26 := MS_z6 hs g23.1 (aZ A 6 + 1)
          rw [← e27] at g26
          refine ms_fly hs g26.1 (ai.agn t3) ?_ t1' h4 ?_ (fun J' k1 k2 => hQ J' k1 (g23.2.tr (g26.2.tr k2)))
          · show J27 491 3 = aZ A 17
            rw [e27, zs_r _ (by decide), e24, zs_r _ (by decide), hnow]
          · show (aT A).2.2.2.2.length + 204 ≤ 1836
            omega
        · rw [if_neg t3]
          rw [if_neg (fun q => t3 q.2.1)] at hQ
          exact hQ J h MO.rf
      · rw [if_neg t2]
        rw [if_neg (fun q => t2 q.2.2)] at hQ
        exact hQ J h MO.rf⟩
  have Rk := R_o hk
  refine ⟨R_s hs, ?_⟩
  by_cases s1 : s = 1
  · rw [if_pos s1]
    have go : ∀ J1 : zM, J1 534 1 = aZ A 0 → (¬ (aZ A 0 = 1 ∧ k = 1) → Q J1 L) → (aZ A 0 = 1 ∧ k = 1 → J1 = J ∧ oldA s k A = agnA s A) → K3 J1 L := fun J1 e1 q0 q1 => hK3 J1 L (by
      intro K7 hK7
      refine ⟨R_s hs, ?_⟩
      rw [if_neg (by omega)]
      intro K34 hK34
      have no : ¬ (aZ A 0 = 1 ∧ k = 1) → K34 J1 L := fun q => hK34 J1 L (hK7 0 J1 L ⟨by decide, by rw [if_pos rfl]; exact q0 q⟩)
      rw [e1]
      refine ⟨⟨by omega, by omega⟩, ?_⟩
      by_cases d1 : aZ A 0 = 1
      · rw [if_pos d1]
        refine ⟨Rk, ?_⟩
        by_cases d2 : k = 1
        · rw [if_pos d2]
          obtain ⟨rfl, hE⟩ := q1 ⟨d1, d2⟩
          exact agn K7 hK7 hE
        · rw [if_neg d2]
          exact no (fun q => d2 q.2)
      · rw [if_neg d1]
        exact no (fun q => d1 q.1))
    have m534 : J 534 1 = aZ A 0 := by have := h.1.1; rw [s1] at this; exact this
    have h1 : MS 1 J L A := by rw [← s1]; exact h
    have ai1 : AI bd 1 A := by rw [← s1]; exact ai
    refine m_isOpen (by decide) h1 ai1 (fun q => ?_) (fun q => ?_)
    · refine ⟨by decide, ?_⟩
      rw [if_pos rfl]
      refine go J m534 (fun u => hQ J ?_ MO.rf) (fun u => ⟨rfl, ?_⟩)
      · unfold oldA
        rw [if_neg (fun v => q v.2), if_neg (fun v => v.elim (fun w => u ⟨by have := h4; unfold opn at q; unfold live at this; omega, w.2⟩) (fun w => by have := w.1; omega))]
        exact h
      · unfold oldA
        rw [if_neg (fun v => q v.2), if_pos (Or.inl ⟨s1, u.2⟩)]
    · refine ⟨by decide, ?_⟩
      rw [if_neg (by decide)]
      refine ms_acks (by decide) h1 ai1 (fun J2 k1 k2 => ?_)
      have z0 : J2 534 1 = aZ A 0 := by have := k1.1.1; rw [acks_z] at this; exact this
      refine go J2 z0 (fun u => hQ J2 ?_ (by rw [s1]; exact k2)) (fun u => by have := u.1; unfold opn at q; omega)
      unfold oldA
      rw [if_pos ⟨s1, q⟩, s1]
      exact k1
  · rw [if_neg s1]
    have s0 : s = 0 := hs.elim id (fun q => absurd q s1)
    refine hK3 J L (fun K7 hK7 => ⟨R_s hs, ?_⟩)
    rw [if_pos s0]
    have h0 : MS 0 J L A := by rw [← s0]; exact h
    have ai0 : AI bd 0 A := by rw [← s0]; exact ai
    refine m_isOpen (by decide) h0 ai0 (fun q => ?_) (fun q => ?_)
    · refine hK7 0 J L ⟨by decide, ?_⟩
      rw [if_pos rfl]
      refine hQ J ?_ MO.rf
      unfold oldA
      rw [if_neg (fun v => s1 v.1), if_neg (fun v => v.elim (fun w => s1 w.1) (fun w => q w.2))]
      exact h
    · refine agn K7 hK7 ?_
      unfold oldA
      rw [if_neg (fun v => s1 v.1), if_pos (Or.inr ⟨s0, q⟩)]
