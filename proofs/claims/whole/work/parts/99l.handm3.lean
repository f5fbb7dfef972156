theorem zand11 : zand 1 1 = 1 ∧ zand 1 0 = 0 ∧ zand 0 1 = 0 ∧ zand 0 0 = 0 := by decide
theorem ms_handshake {bd s ep nm : Int} {c : List Int} {A : SA} {J : zM} {L : yM} {Q : zM → yM → Prop} (hs : s01 s) (h : MS s J L A) (ai : AI bd s A) (hc : MCt J c) (hep : ep3 ep) (hnm : 0 ≤ nm ∧ nm < 65536) (h13 : ep ≤ aZ A 13) (h4 : aZ A 0 ≠ 4) (hnow : J 491 3 = aZ A 17) (hbd : bd ≤ 2000000000) (hQ : ∀ J' L', MS s J' L' (hndM s ep nm c A) → MO s J L J' L' → Q J' L') : w_X12_handshake s ep nm J L Q := by
  have hs2 : 0 ≤ s ∧ s < 2 := by omega
  have ob := hc.2.2.2
  have hcl := hc.2.2.1
  obtain ⟨bk, bl, bn, bf, bc⟩ := f_b ob
  have b0 := ai.b0
  have b2 := ai.b2
  have Rk := R_o bk
  have Rl := R_u bl
  have Rn := R_o bn
  have Rf := R_u bf
  have Rc := R_u bc
  have R0 : R32 (aZ A 0) := ⟨by omega, by omega⟩
  have R2 : R32 (aZ A 2) := ⟨by omega, by omega⟩
  have R24 : R32 (aZ A 2 + 4) := ⟨by omega, by omega⟩
  have R8 : R32 (8 + fCn c) := ⟨by omega, by omega⟩
  have Rfc : R32 (fFr c + fCn c) := ⟨by omega, by omega⟩
  have mal : ¬ goodF s ep c A → w_X12_malformed s J L (fun J' L' => Q J' L') := fun q => ms_mal hs h (fun J' u1 u2 => hQ J' L (by
    unfold hndM handC
    rw [if_neg (fun u => q u.1), if_pos q]
    exact u1) u2)
  unfold w_X12_handshake
  intro x1 e1
  rw [hc.1] at e1
  subst e1
  refine ⟨⟨by omega, by omega⟩, ?_⟩
  by_cases c8 : (c.length : Int) < 8
  · rw [if_pos c8]
    exact mal (fun q => by have := q.1.1; omega)
  · rw [if_neg c8]
    have c9 : 8 ≤ c.length := by omega
    intro x4 e4 x5 e5 x6 e6 x7 e7 x8 e8
    have G : ∀ i : Nat, i < 8 → J 550 (i : Int) = c.getD i 0 := fun i hi => hc.get (by omega)
    rw [show J 550 0 = c.getD 0 0 from G 0 (by decide)] at e4
    rw [show J 550 1 = c.getD 1 0 from G 1 (by decide), show J 550 2 = c.getD 2 0 from G 2 (by decide)] at e5
    rw [show J 550 3 = c.getD 3 0 from G 3 (by decide)] at e6
    rw [show J 550 4 = c.getD 4 0 from G 4 (by decide), show J 550 5 = c.getD 5 0 from G 5 (by decide)] at e7
    rw [show J 550 6 = c.getD 6 0 from G 6 (by decide), show J 550 7 = c.getD 7 0 from G 7 (by decide)] at e8
    have e4 : x4 = fKd c := e4
    have e5 : x5 = fLn c := e5
    have e6 : x6 = fN c := e6
    have e7 : x7 = fFr c := e7
    have e8 : x8 = fCn c := e8
    subst e4 e5 e6 e7 e8
    clear G
    intro K12 hK12
    have k12 : ∀ x9 : Int, (x9 = 0 ∧ ¬ (frW c ∧ kOn s ep (fKd c) ∧ kLen (fKd c) (fLn c))) ∨ (x9 = 1 ∧ (frW c ∧ kOn s ep (fKd c) ∧ kLen (fKd c) (fLn c))) → K12 x9 J L := fun x9 h9 => hK12 x9 J L (by
      intro K16 hK16
      have k16 : ∀ x13 : Int, (x13 = 0 ∧ (frW c → ¬ (fKd c = 1 → fCn c = fLn c ∧ fN c ≤ 1))) ∨ (x13 = 1 ∧ (fKd c = 1 → fCn c = fLn c ∧ fN c ≤ 1)) → K16 x13 J L := fun x13 h13' => hK16 x13 J L (by
        intro x17 e17
        have h17 : (x17 = 0 ∧ ¬ (frW c ∧ sndF s ep c)) ∨ (x17 = 1 ∧ (frW c ∧ sndF s ep c)) := by
          rcases h9 with ⟨rfl, q9⟩ | ⟨rfl, q9⟩ <;> rcases h13' with ⟨rfl, q13⟩ | ⟨rfl, q13⟩
          · exact Or.inl ⟨by rw [e17]; exact zand11.2.2.2, fun u => q9 ⟨u.1, u.2.1, u.2.2.1⟩⟩
          · exact Or.inl ⟨by rw [e17]; exact zand11.2.2.1, fun u => q9 ⟨u.1, u.2.1, u.2.2.1⟩⟩
          · exact Or.inl ⟨by rw [e17]; exact zand11.2.1, fun u => q13 u.1 u.2.2.2⟩
          · exact Or.inr ⟨by rw [e17]; exact zand11.1, q9.1, q9.2.1, q9.2.2, q13⟩
        clear e17 h9 h13'
        have R17 : R32 x17 := h17.elim (fun q => by rw [q.1]; decide) (fun q => by rw [q.1]; decide)
        intro K21 hK21
        have k21 : ∀ x18 : Int, ((x18 = 0 ∧ ((frW c ∧ sndF s ep c) → ¬ toK (fN c) A)) ∨ (x18 = 1 ∧ (frW c ∧ sndF s ep c) ∧ toK (fN c) A)) → K21 x18 J L := fun x18 h18 => hK21 x18 J L (by
          unfold w_X12_slotOf
          rw [zrem_n ⟨by omega, by omega⟩ (by decide)]
          intro K28 hK28
          have k28 : ∀ x25 : Int, (x25 = 0 ∧ ¬ goodF s ep c A) ∨ (x25 = 1 ∧ goodF s ep c A) → K28 x25 J L := fun x25 h25 => hK28 x25 J L (by
            rcases h25 with ⟨rfl, q⟩ | ⟨rfl, q⟩
            · refine ⟨by decide, ?_⟩
              rw [if_pos rfl]
              exact mal q
            · refine ⟨by decide, ?_⟩
              rw [if_neg (by decide)]
              exact ms_hand1 hs h ai hc hep hnm h13 h4 hnow hbd q hQ x18 (h18.elim (fun u => Or.inl ⟨u.1, u.2 ⟨q.1, q.2.1⟩⟩) (fun u => Or.inr ⟨u.1, u.2.2⟩)))
          rcases h18 with ⟨rfl, q18⟩ | ⟨rfl, q18, tk⟩
          · refine ⟨by decide, ?_⟩
            rw [if_pos rfl]
            exact k28 x17 (h17.elim (fun u => Or.inl ⟨u.1, fun v => u.2 ⟨v.1, v.2.1⟩⟩) (fun u => Or.inr ⟨u.1, u.2.1, u.2.2, fun v => absurd v (q18 u.2)⟩))
          · refine ⟨by decide, ?_⟩
            rw [if_neg (by decide)]
            have one : x17 = 1 := h17.elim (fun u => absurd q18 u.2) (fun u => u.1)
            have hp := h.2.2.2.2.1.1 (fN c) tk.2.1
            have hr := h.2.2.2.2.1.2 (fN c % 8) (by omega) (by omega)
            have sl : 0 ≤ 8 * s + fN c % 8 ∧ 8 * s + fN c % 8 < 16 := by omega
            refine ⟨sl, hr, Rn, ?_⟩
            by_cases d : J 540 (8 * s + fN c % 8) = fN c
            · rw [if_pos d]
              have nm1 := hp.1.mp d
              have hy := hp.2 nm1
              have kl := (ai.2.2.2.2.1 (fN c) tk.2.1 nm1).2.2.2.1
              have lb := kLen_b kl
              have kb : 0 ≤ (aK A (fN c)).1 ∧ (aK A (fN c)).1 < 256 := by have := (kln kl).2.2.2.2.2; omega
              refine ⟨sl, fun K69 hK69 => ?_⟩
              have k69 : ¬ ((aK A (fN c)).1 = fKd c ∧ (aK A (fN c)).2.1 = fLn c) → K69 J L := fun q => hK69 J L (k28 0 (Or.inl ⟨rfl, fun v => (v.2.2 tk).elim nm1 q⟩))
              rw [hy.1, hy.2.1]
              refine ⟨R_o kb, Rk, ?_⟩
              by_cases d1 : (aK A (fN c)).1 = fKd c
              · rw [if_pos d1]
                refine ⟨sl, ⟨by omega, by omega⟩, Rl, ?_⟩
                by_cases d2 : (aK A (fN c)).2.1 = fLn c
                · rw [if_pos d2]
                  exact k28 x17 (Or.inr ⟨one, q18.1, q18.2, fun _ => Or.inr ⟨d1, d2⟩⟩)
                · rw [if_neg d2]
                  exact k69 (fun q => d2 q.2)
              · rw [if_neg d1]
                exact k69 (fun q => d1 q.1)
            · rw [if_neg d]
              refine k28 x17 (Or.inr ⟨one, q18.1, q18.2, fun _ => Or.inl ?_⟩)
              by_cases u : (aK A (fN c)).1 = -1
              · exact u
              · exact absurd (hp.1.mpr u) d)
        intro K79 hK79
        have k79 : ((frW c ∧ sndF s ep c) → ¬ toK (fN c) A) → K79 J L := fun q => hK79 J L (k21 0 (Or.inl ⟨rfl, q⟩))
        refine ⟨R17, ?_⟩
        rcases h17 with ⟨rfl, q17⟩ | ⟨rfl, q17⟩
        · rw [if_pos rfl]
          exact k79 (fun u => absurd u q17)
        · rw [if_neg (by decide), show J 534 s = aZ A 0 from h.1.1, show J 535 s = aZ A 2 from h.1.2.1]
          refine ⟨hs2, R0, ?_⟩
          by_cases d1 : aZ A 0 = 1
          · rw [if_pos d1]
            refine ⟨hs2, Rn, R2, ?_⟩
            by_cases d2 : fN c < aZ A 2
            · rw [if_pos d2]
              exact k79 (fun _ u => Int.not_lt.mpr u.2.1 d2)
            · rw [if_neg d2]
              refine ⟨hs2, R24, ?_⟩
              by_cases d3 : aZ A 2 + 4 < fN c
              · rw [if_pos d3]
                exact k79 (fun _ u => by have := u.2.2; omega)
              · rw [if_neg d3]
                exact k21 1 (Or.inr ⟨rfl, q17, d1, Int.not_lt.mp d2, by omega⟩)
          · rw [if_neg d1]
            exact k79 (fun _ u => d1 u.1))
      intro K94 hK94
      refine ⟨Rk, ?_⟩
      by_cases d1 : fKd c = 1
      · rw [if_pos d1]
        intro K99 hK99
        have k99 : (frW c → ¬ (fCn c = fLn c ∧ fN c ≤ 1)) → K99 J L := fun q => hK99 J L (k16 0 (Or.inl ⟨rfl, fun w u => q w (u d1)⟩))
        refine ⟨Rf, ?_⟩
        by_cases d2 : fFr c = 0
        · rw [if_pos d2]
          refine ⟨Rc, Rl, ?_⟩
          by_cases d3 : fCn c = fLn c
          · rw [if_pos d3]
            refine ⟨Rn, ?_⟩
            by_cases d4 : 1 < fN c
            · rw [if_pos d4]
              exact k99 (fun _ u => Int.not_lt.mpr u.2 d4)
            · rw [if_neg d4]
              exact hK94 J L (k16 1 (Or.inr ⟨rfl, fun _ => ⟨d3, Int.not_lt.mp d4⟩⟩))
          · rw [if_neg d3]
            exact k99 (fun _ u => d3 u.1)
        · rw [if_neg d2]
          exact k99 (fun w u => by have := w.2.2.2; have := u.1; omega)
      · rw [if_neg d1]
        exact hK94 J L (k16 1 (Or.inr ⟨rfl, fun u => absurd u d1⟩)))
    intro K109 hK109
    have k109 : ¬ (frW c ∧ kOn s ep (fKd c) ∧ kLen (fKd c) (fLn c)) → K109 J L := fun q => hK109 J L (k12 0 (Or.inl ⟨rfl, q⟩))
    refine ⟨R8, ?_⟩
    by_cases d1 : (c.length : Int) = 8 + fCn c
    · rw [if_pos d1]
      refine ⟨Rc, ?_⟩
      by_cases d2 : 0 < fCn c
      · rw [if_pos d2]
        refine m_isKind hs hep bk (fun q => ?_) (fun q => ?_)
        · refine ⟨by decide, ?_⟩
          rw [if_pos rfl]
          exact k109 (fun u => q u.2.1)
        · refine ⟨by decide, ?_⟩
          rw [if_neg (by decide)]
          refine m_isLength q bk bl (fun w => ?_) (fun w => ?_)
          · refine ⟨by decide, ?_⟩
            rw [if_pos rfl]
            exact k109 (fun u => w u.2.2)
          · refine ⟨by decide, ?_⟩
            rw [if_neg (by decide)]
            refine ⟨Rfc, Rl, ?_⟩
            by_cases d3 : fLn c < fFr c + fCn c
            · rw [if_pos d3]
              exact k109 (fun u => Int.not_lt.mpr u.1.2.2.2 d3)
            · rw [if_neg d3]
              exact k12 1 (Or.inr ⟨rfl, ⟨c9, d1, d2, Int.not_lt.mp d3⟩, q, w⟩)
      · rw [if_neg d2]
        exact k109 (fun u => d2 u.1.2.2.1)
    · rw [if_neg d1]
      exact k109 (fun u => d1 u.1.2.1)
