/-! what a side keeps to, one by one -/
theorem AI.b0 {bd s : Int} {A : SA} (h : AI bd s A) : 0 ≤ aZ A 0 ∧ aZ A 0 ≤ 4 := h.1.1
theorem AI.b1 {bd s : Int} {A : SA} (h : AI bd s A) : aZ A 1 = 2 ∨ aZ A 1 = 8 ∨ aZ A 1 = 20 := h.1.2.1
theorem AI.b2 {bd s : Int} {A : SA} (h : AI bd s A) : 0 ≤ aZ A 2 ∧ aZ A 2 ≤ 256 := h.1.2.2.1
theorem AI.b3 {bd s : Int} {A : SA} (h : AI bd s A) : -1 ≤ aZ A 3 ∧ aZ A 3 < 256 := h.1.2.2.2.1
theorem AI.b4 {bd s : Int} {A : SA} (h : AI bd s A) : aZ A 4 = 0 ∨ aZ A 4 = 1 := h.1.2.2.2.2.1
theorem AI.b5 {bd s : Int} {A : SA} (h : AI bd s A) : 0 ≤ aZ A 5 ∧ aZ A 5 ≤ bd := h.1.2.2.2.2.2.1
theorem AI.b6 {bd s : Int} {A : SA} (h : AI bd s A) : ((aW A).length : Int) ≤ 100 ∧ ((aW A).length : Int) ≤ aZ A 5 ∧ (((aW A).length : Int) = aZ A 5 ∨ (aW A).length = 100) := h.1.2.2.2.2.2.2.1
theorem AI.b7 {bd s : Int} {A : SA} (h : AI bd s A) : aZ A 10 = 1 → (aZ A 7 = 4 ∨ aZ A 7 = 8 ∨ aZ A 7 = 16 ∨ aZ A 7 = 32) ∧ live (aZ A 0) := h.1.2.2.2.2.2.2.2.1
theorem AI.b8 {bd s : Int} {A : SA} (h : AI bd s A) : 0 ≤ aZ A 8 ∧ aZ A 8 ≤ aZ A 17 := h.1.2.2.2.2.2.2.2.2.1
theorem AI.b9 {bd s : Int} {A : SA} (h : AI bd s A) : 0 ≤ aZ A 9 ∧ aZ A 9 ≤ 8 := h.1.2.2.2.2.2.2.2.2.2.1
theorem AI.b10 {bd s : Int} {A : SA} (h : AI bd s A) : aZ A 10 = 0 ∨ aZ A 10 = 1 := h.1.2.2.2.2.2.2.2.2.2.2.1
theorem AI.b11 {bd s : Int} {A : SA} (h : AI bd s A) : 0 ≤ aZ A 11 ∧ aZ A 11 ≤ 2 := h.1.2.2.2.2.2.2.2.2.2.2.2.1
theorem AI.b12 {bd s : Int} {A : SA} (h : AI bd s A) : aZ A 12 = 0 ∨ aZ A 12 = 1 := h.1.2.2.2.2.2.2.2.2.2.2.2.2.1
theorem AI.b13 {bd s : Int} {A : SA} (h : AI bd s A) : aZ A 13 = 0 ∨ aZ A 13 = 2 ∨ aZ A 13 = 3 := h.1.2.2.2.2.2.2.2.2.2.2.2.2.2.1
theorem AI.b14 {bd s : Int} {A : SA} (h : AI bd s A) : 0 ≤ aZ A 14 ∧ aZ A 14 ≤ aZ A 17 := h.1.2.2.2.2.2.2.2.2.2.2.2.2.2.2.1
theorem AI.b15 {bd s : Int} {A : SA} (h : AI bd s A) : 0 ≤ aZ A 15 ∧ aZ A 15 < 2147483647 := h.1.2.2.2.2.2.2.2.2.2.2.2.2.2.2.2.1
theorem AI.b16 {bd s : Int} {A : SA} (h : AI bd s A) : 0 ≤ aZ A 16 ∧ aZ A 16 < 2147483647 := h.1.2.2.2.2.2.2.2.2.2.2.2.2.2.2.2.2.1
theorem AI.b17 {bd s : Int} {A : SA} (h : AI bd s A) : 0 ≤ aZ A 17 ∧ aZ A 17 ≤ bd := h.1.2.2.2.2.2.2.2.2.2.2.2.2.2.2.2.2.2.1
theorem AI.b18 {bd s : Int} {A : SA} (h : AI bd s A) : 100 ≤ aZ A 18 ∧ aZ A 18 ≤ 500 := h.1.2.2.2.2.2.2.2.2.2.2.2.2.2.2.2.2.2.2.1
theorem AI.b19 {bd s : Int} {A : SA} (h : AI bd s A) : aZ A 19 = 0 ∨ aZ A 19 = 1 := h.1.2.2.2.2.2.2.2.2.2.2.2.2.2.2.2.2.2.2.2.1
theorem AI.b20 {bd s : Int} {A : SA} (h : AI bd s A) : aZ A 20 = 0 ∨ aZ A 20 = 1 := h.1.2.2.2.2.2.2.2.2.2.2.2.2.2.2.2.2.2.2.2.2.1
theorem AI.b21 {bd s : Int} {A : SA} (h : AI bd s A) : ((aT A).2.2.2.2.length : Int) ≤ 204 * (aZ A 9 + 1) := h.1.2.2.2.2.2.2.2.2.2.2.2.2.2.2.2.2.2.2.2.2.2.1
theorem AI.b22 {bd s : Int} {A : SA} (h : AI bd s A) : aZ A 0 = 0 → aZ A 11 = 0 ∧ aZ A 15 = 0 ∧ aZ A 16 = 0 ∧ aZ A 10 = 0 ∧ aZ A 13 = 0 ∧ aZ A 2 = 0 ∧ (s = 0 → aZ A 1 = 2) ∧ (aY A 5).length = 0 ∧ (aF A).1 = 0 := h.1.2.2.2.2.2.2.2.2.2.2.2.2.2.2.2.2.2.2.2.2.2.2.1
theorem AI.b23 {bd s : Int} {A : SA} (h : AI bd s A) : s = 1 → (aZ A 0 = 2 ∨ aZ A 0 = 3) → aZ A 10 = 0 := h.1.2.2.2.2.2.2.2.2.2.2.2.2.2.2.2.2.2.2.2.2.2.2.2.1
theorem AI.b24 {bd s : Int} {A : SA} (h : AI bd s A) : s = 1 → aZ A 1 = 20 := h.1.2.2.2.2.2.2.2.2.2.2.2.2.2.2.2.2.2.2.2.2.2.2.2.2.1
theorem AI.b25 {bd s : Int} {A : SA} (h : AI bd s A) : live (aZ A 0) → 0 < (aF A).1 := h.1.2.2.2.2.2.2.2.2.2.2.2.2.2.2.2.2.2.2.2.2.2.2.2.2.2.1
theorem AI.b26 {bd s : Int} {A : SA} (h : AI bd s A) : s = 0 → aZ A 0 = 1 → (aZ A 1 = 2 → aZ A 13 = 0) ∧ (aZ A 1 ≠ 2 → aZ A 13 = 2) := h.1.2.2.2.2.2.2.2.2.2.2.2.2.2.2.2.2.2.2.2.2.2.2.2.2.2.2.1
theorem AI.b27 {bd s : Int} {A : SA} (h : AI bd s A) : s = 1 → live (aZ A 0) → aZ A 13 = 3 := h.1.2.2.2.2.2.2.2.2.2.2.2.2.2.2.2.2.2.2.2.2.2.2.2.2.2.2.2.1
theorem AI.b28 {bd s : Int} {A : SA} (h : AI bd s A) : (aZ A 0 = 2 ∨ aZ A 0 = 3) → aZ A 13 = 3 := h.1.2.2.2.2.2.2.2.2.2.2.2.2.2.2.2.2.2.2.2.2.2.2.2.2.2.2.2.2.1
theorem AI.b29 {bd s : Int} {A : SA} (h : AI bd s A) : (aY A 5).length = 0 → aZ A 12 = 0 := h.1.2.2.2.2.2.2.2.2.2.2.2.2.2.2.2.2.2.2.2.2.2.2.2.2.2.2.2.2.2
/-- a tick, for a side -/
def tickB (s n : Int) (A : SA) : SA := if aZ A 10 = 1 ∧ n - aZ A 8 = aZ A 7 then (if aZ A 9 < 8 then flyA s (uz 6 (aZ A 6 + 1) (uz 9 (aZ A 9 + 1) (uz 7 (min (2 * aZ A 7) 32) A))) else dieA A) else A
def tickA (s n : Int) (A : SA) : SA := tickB s n (if aZ A 0 = 1 ∧ n - aZ A 14 = 2 then acksA s (uz 17 n A) else uz 17 n A)
/-- the TIMER has not run out -/
def AQt (A : SA) : Prop := aZ A 10 = 1 → aZ A 17 - aZ A 8 < aZ A 7
theorem snd_z (s ep ty : Int) (l : List Int) (A : SA) : aZ (sndE s ep ty l A) = aZ A := rfl
theorem acks_z (s : Int) (A : SA) : aZ (acksA s A) = aZ A := by unfold acksA; split <;> rfl
theorem AIz.mono {s bd bd' : Int} {z : Nat → Int} {ll wl fm cl : Nat} (h : AIz s bd z ll wl fm cl) (hb : bd ≤ bd') : AIz s bd' z ll wl fm cl := by
  obtain ⟨b0, b1, b2, b3, b4, b5, b6, b7, b8, b9, b10, b11, b12, b13, b14, b15, b16, b17, b18⟩ := h
  exact ⟨b0, b1, b2, b3, b4, ⟨b5.1, by omega⟩, b6, b7, b8, b9, b10, b11, b12, b13, b14, b15, b16, ⟨b17.1, by omega⟩, b18⟩
theorem AI.mono {s bd bd' : Int} {A : SA} (h : AI bd s A) (hb : bd ≤ bd') : AI bd' s A := ⟨h.1.mono hb, h.2⟩
theorem AI.uz17 {s bd n : Int} {A : SA} (h : AI bd s A) (hn : n = aZ A 17 + 1) (hb : n ≤ bd) : AI bd s (uz 17 n A) := by
  have b8 := h.b8
  have b14 := h.b14
  have b17 := h.b17
  have z := h.1
  exact ⟨⟨z.1, z.2.1, z.2.2.1, z.2.2.2.1, z.2.2.2.2.1, z.2.2.2.2.2.1, z.2.2.2.2.2.2.1, z.2.2.2.2.2.2.2.1, ⟨b8.1, show aZ A 8 ≤ n by omega⟩, h.b9, h.b10, h.b11, h.b12, h.b13, ⟨b14.1, show aZ A 14 ≤ n by omega⟩, h.b15, h.b16, ⟨show 0 ≤ n by omega, hb⟩, z.2.2.2.2.2.2.2.2.2.2.2.2.2.2.2.2.2.2⟩, h.2⟩
theorem AI.again {s bd : Int} {A : SA} (h : AI bd s A) (h9 : aZ A 9 < 8) (v : Int) (hv : v = aZ A 7 ∨ (aZ A 10 = 1 ∧ v = min (2 * aZ A 7) 32)) : AI bd s (uz 6 (aZ A 6 + 1) (uz 9 (aZ A 9 + 1) (uz 7 v A))) := by
  have b9 := h.b9
  have b21 := h.b21
  have z := h.1
  refine ⟨⟨h.b0, h.b1, h.b2, h.b3, h.b4, h.b5, h.b6, fun q => ⟨?_, (h.b7 q).2⟩, h.b8, ⟨show 0 ≤ aZ A 9 + 1 by omega, show aZ A 9 + 1 ≤ 8 by omega⟩, h.b10, h.b11, h.b12, h.b13, h.b14, h.b15, h.b16, h.b17, h.b18, h.b19, h.b20, show ((aT A).2.2.2.2.length : Int) ≤ 204 * (aZ A 9 + 1 + 1) by omega, z.2.2.2.2.2.2.2.2.2.2.2.2.2.2.2.2.2.2.2.2.2.2⟩, h.2⟩
  have q : aZ A 10 = 1 := q
  have t := (h.b7 q).1
  show v = 4 ∨ v = 8 ∨ v = 16 ∨ v = 32
  rcases hv with hv | hv
  · rw [hv]; exact t
  · rcases t with t | t | t | t <;> (rw [hv.2, t]; decide)
theorem AI_tickB {s bd n : Int} {A : SA} (h : AI bd s A) : AI bd s (tickB s n A) := by
  unfold tickB
  split
  · rename_i c
    split
    · rename_i c2
      refine AI_fly (h.again c2 _ (Or.inr ⟨c.1, rfl⟩)) ?_
      exact h.log (by omega)
    · exact AI_die h
  · exact h
theorem AI_tickA {s bd n : Int} {A : SA} (h : AI bd s A) (hn : n = aZ A 17 + 1) (hb : n ≤ bd) : AI bd s (tickA s n A) := by
  unfold tickA
  refine AI_tickB ?_
  split
  · exact AI_acks (h.uz17 hn hb)
  · exact h.uz17 hn hb
theorem AQt_tickA {s bd n : Int} {A : SA} (h : AI bd s A) (hq : AQt A) (hn : n = aZ A 17 + 1) : AQt (tickA s n A) := by
  have key : ∀ B : SA, aZ B = aZ (uz 17 n A) → AQt (tickB s n B) := by
    intro B hB
    have e10 : aZ B 10 = aZ A 10 := congrFun hB 10
    have e8 : aZ B 8 = aZ A 8 := congrFun hB 8
    have e7 : aZ B 7 = aZ A 7 := congrFun hB 7
    have e17 : aZ B 17 = n := congrFun hB 17
    unfold tickB
    split
    · rename_i c
      split
      · intro _
        show aZ B 17 - aZ B 17 < min (2 * aZ B 7) 32
        have := (h.b7 (by omega)).1
        omega
      · intro q
        exact (d01 q).elim
    · rename_i c
      intro q
      have q : aZ B 10 = 1 := q
      have := hq (by omega)
      show aZ B 17 - aZ B 8 < aZ B 7
      omega
  unfold tickA
  refine key _ ?_
  split
  · rw [acks_z]
  · rfl
theorem R_z {z b : Int} (h : 0 ≤ z ∧ z ≤ b) (hb : b ≤ 2000000000) : R32 z := ⟨by omega, by omega⟩
theorem xs_tickB {e : Nat} {s bd n : Int} {A : SA} {J : zM} {L : yM} {Q : zM → yM → Prop} (he : iSide e) (hs : s01 s) (h : XS e s J L A) (ai : AI bd s A) (hbd : bd ≤ 2000000000) (hn : aZ A 17 = n) (hQ : ∀ J', XS e s J' L (tickB s n A) → XO e J L J' L → Q J' L) : R32 (J (e + 8) 13) ∧ (if (J (e + 8) 13) = 0 then Q J L else R32 ((J e 19) - (J (e + 8) 11)) ∧ R32 (J (e + 8) 10) ∧ (if ((J e 19) - (J (e + 8) 11)) = (J (e + 8) 10) then R32 (J (e + 8) 12) ∧ (if (J (e + 8) 12) < 8 then R32 (2 * (J (e + 8) 10)) ∧ ∀ J13 : zM, J13 = zs J (e + 8) 10 (min (2 * (J (e + 8) 10)) 32) → w_X8_countAgain e J13 L (fun J14 L15 => w_X8_sendFlight e J14 L15 (fun J16 L17 => Q J16 L17)) else w_X8_die e J L (fun J18 L19 => Q J18 L19)) else Q J L)) := by
  have b8 := ai.b8
  have b9 := ai.b9
  have b10 := ai.b10
  have b17 := ai.b17
  have e13 : J (e + 8) 13 = aZ A 10 := h.2.2.2.1.2.2.2.1
  have e10 : J (e + 8) 10 = aZ A 7 := h.2.2.2.1.1
  have e11 : J (e + 8) 11 = aZ A 8 := h.2.2.2.1.2.1
  have e12 : J (e + 8) 12 = aZ A 9 := h.2.2.2.1.2.2.1
  have e19 : J e 19 = aZ A 17 := h.1.2.2.2.2.2.2.2.2
  unfold tickB at hQ
  rw [e13, e10, e11, e12, e19, hn]
  refine ⟨⟨by omega, by omega⟩, ?_⟩
  by_cases c : aZ A 10 = 0
  · rw [if_pos c]
    rw [if_neg (by omega)] at hQ
    exact hQ J h XO.rf
  · rw [if_neg c]
    have c1 : aZ A 10 = 1 := by omega
    have t7 : 4 ≤ aZ A 7 ∧ aZ A 7 ≤ 32 := by have := (ai.b7 c1).1; omega
    refine ⟨⟨by omega, by omega⟩, ⟨by omega, by omega⟩, ?_⟩
    by_cases c2 : n - aZ A 8 = aZ A 7
    · rw [if_pos c2]
      rw [if_pos ⟨c1, c2⟩] at hQ
      refine ⟨⟨by omega, by omega⟩, ?_⟩
      by_cases c3 : aZ A 9 < 8
      · rw [if_pos c3]
        rw [if_pos c3] at hQ
        refine ⟨⟨by omega, by omega⟩, fun J13 e13 => ?_⟩
        have h13 := XS_z7 he h (min (2 * aZ A 7) 32)
        rw [← e13] at h13
        unfold w_X8_countAgain
        intro J1 g1 J2 g2
        rw [show J13 (e + 8) 12 = aZ A 9 from h13.2.2.2.1.2.2.1] at g1
        have h1 := XS_z9 he h13 (aZ A 9 + 1)
        rw [← g1] at h1
        rw [show J1 e 18 = aZ A 6 from h1.1.2.2.2.2.2.2.2.1] at g2
        have h2 := XS_z6 he h1 (aZ A 6 + 1)
        rw [← g2] at h2
        have ai2 := ai.again c3 _ (Or.inr ⟨c1, rfl⟩)
        have hlg := ai.log (by omega)
        refine xs_fly he hs h2 ai2 ?_ (fun J' k1 k2 => hQ J' k1 ?_)
        · show (aT A).2.2.2.2.length + 204 ≤ 1836
          omega
        · refine XO.tr ?_ k2
          rw [g2, g1, e13]
          exact (XO.zs (Or.inl (by omega))).tr ((XO.zs (Or.inl (by omega))).tr (XO.zs (Or.inl (by omega))))
      · rw [if_neg c3]
        rw [if_neg c3] at hQ
        exact xs_die he h hQ
    · rw [if_neg c2]
      rw [if_neg (fun q => c2 q.2)] at hQ
      exact hQ J h XO.rf
theorem xs_tick {e : Nat} {s bd n : Int} {A : SA} {J : zM} {L : yM} {Q : zM → yM → Prop} (he : iSide e) (hs : s01 s) (h : XS e s J L A) (ai : AI bd s A) (hbd : bd ≤ 2000000000) (hn : n = aZ A 17 + 1) (hb : n ≤ bd) (hQ : ∀ J', XS e s J' L (tickA s n A) → XO e J L J' L → Q J' L) : w_X8_passTick e n J L Q := by
  have b0 := ai.b0
  have b14 := ai.b14
  have b17 := ai.b17
  unfold w_X8_passTick
  intro J1 e1 K4 hK4
  have h1 := XS_z17 he h n
  rw [← e1] at h1
  have o1 : XO e J L J1 L := by rw [e1]; exact XO.zs (Or.inl (by omega))
  have ai1 := ai.uz17 hn hb
  have go : ∀ (B : SA) (J2 : zM), XS e s J2 L B → AI bd s B → XO e J1 L J2 L → aZ B 17 = n → tickA s n A = tickB s n B → K4 J2 L := fun B J2 hB aB oB hz hT => hK4 J2 L (xs_tickB he hs hB aB hbd hz (fun J' k1 k2 => hQ J' (by rw [hT]; exact k1) (o1.tr (oB.tr k2))))
  have x12 : J1 e 12 = aZ A 0 := h1.1.2.1
  have x19 : J1 e 19 = n := h1.1.2.2.2.2.2.2.2.2
  have x33 : J1 (e + 33) 3 = aZ A 14 := h1.2.2.2.2.2.1.2
  rw [x12, x19, x33]
  refine ⟨⟨by omega, by omega⟩, ?_⟩
  by_cases c : aZ A 0 = 1
  · rw [if_pos c]
    refine ⟨⟨by omega, by omega⟩, ?_⟩
    by_cases c2 : n - aZ A 14 = 2
    · rw [if_pos c2]
      exact xs_acks he hs h1 ai1 (fun J2 k1 k2 => go _ J2 k1 (AI_acks ai1) k2 (by rw [acks_z]; rfl) (by unfold tickA; rw [if_pos ⟨c, c2⟩]))
    · rw [if_neg c2]
      exact go _ J1 h1 ai1 XO.rf rfl (by unfold tickA; rw [if_neg (fun q => c2 q.2)])
  · rw [if_neg c]
    exact go _ J1 h1 ai1 XO.rf rfl (by unfold tickA; rw [if_neg (fun q => c q.1)])
/-! in the model -/
theorem MS_z17 {s : Int} {A : SA} {J : zM} {L : yM} (h : MS s J L A) (n : Int) : MS s J L (uz 17 n A) := by
  obtain ⟨a0, a1, a2, a3, a4, a5, a6, a7, a8, a9, a10, a11, a12⟩ := h
  exact ⟨a0, a1, a2, a3, a4, a5, a6.cg (fun k hk => if_neg (by omega)), a7, a8, a9, a10, a11, a12⟩
theorem ms_tick {s bd n : Int} {A : SA} {J : zM} {L : yM} {Q : zM → yM → Prop} (hs : s01 s) (h : MS s J L A) (ai : AI bd s A) (hq : AQt A) (hbd : bd ≤ 2000000000) (hn : n = aZ A 17 + 1) (hb : n ≤ bd) (hnow : J 491 3 = n) (hQ : ∀ J', MS s J' L (tickA s n A) → MO s J L J' L → Q J' L) : w_X12_sideTick s J L Q := by
  have hs2 : 0 ≤ s ∧ s < 2 := by omega
  have b0 := ai.b0
  have b8 := ai.b8
  have b9 := ai.b9
  have b10 := ai.b10
  have b14 := ai.b14
  have b17 := ai.b17
  have h1 := MS_z17 h n
  have ai1 := ai.uz17 hn hb
  have m0 : J 534 s = aZ A 0 := h.1.1
  unfold w_X12_sideTick
  rw [m0]
  refine ⟨hs2, ⟨by omega, by omega⟩, ?_⟩
  by_cases c4 : aZ A 0 = 4
  · rw [if_pos c4]
    refine hQ J ?_ MO.rf
    have z10 : aZ A 10 ≠ 1 := fun q => by have := (ai.b7 q).2; unfold live at this; omega
    have : tickA s n A = uz 17 n A := by
      unfold tickA tickB
      rw [if_neg (show ¬ (aZ A 0 = 1 ∧ n - aZ A 14 = 2) from fun q => by omega)]
      exact if_neg (fun q => z10 q.1)
    rw [this]
    exact h1
  · rw [if_neg c4]
    refine ⟨hs2, fun K7 hK7 => ?_⟩
    have go : ∀ (B : SA) (J2 : zM), MS s J2 L B → AI bd s B → MO s J L J2 L → aZ B = aZ (uz 17 n A) → tickA s n A = tickB s n B → J2 491 3 = n → K7 J2 L := by
      intro B J2 hB aB oB hz hT h3
      refine hK7 J2 L (ms_timer hs hB aB ?_)
      have z10 : aZ B 10 = aZ A 10 := congrFun hz 10
      have z8 : aZ B 8 = aZ A 8 := congrFun hz 8
      have z7 : aZ B 7 = aZ A 7 := congrFun hz 7
      have z9 : aZ B 9 = aZ A 9 := congrFun hz 9
      have z6 : aZ B 6 = aZ A 6 := congrFun hz 6
      have z0 : aZ B 0 = aZ A 0 := congrFun hz 0
      have z17 : aZ B 17 = n := congrFun hz 17
      have y8 : J2 525 s = aZ B 8 := hB.1.2.2.2.2.2.2.2.1
      have y7 : J2 524 s = aZ B 7 := hB.1.2.2.2.2.2.2.1
      have y9 : J2 526 s = aZ B 9 := hB.1.2.2.2.2.2.2.2.2.1
      rw [hT] at hQ
      unfold tickB at hQ
      rw [h3, y8, y7, y9]
      refine ⟨⟨by omega, by omega⟩, ?_⟩
      by_cases c : aZ B 10 = 0
      · rw [if_pos c]
        rw [if_neg (by omega)] at hQ
        exact hQ J2 hB oB
      · rw [if_neg c]
        have c1 : aZ B 10 = 1 := by omega
        have t7 : 4 ≤ aZ A 7 ∧ aZ A 7 ≤ 32 := by have := (ai.b7 (by omega)).1; omega
        have tq := hq (by omega)
        refine ⟨hs2, hs2, ⟨by omega, by omega⟩, ⟨by omega, by omega⟩, ?_⟩
        by_cases c2 : n - aZ B 8 < aZ B 7
        · rw [if_pos c2]
          rw [if_neg (by omega)] at hQ
          exact hQ J2 hB oB
        · rw [if_neg c2]
          rw [if_pos ⟨c1, by omega⟩] at hQ
          refine ⟨hs2, ⟨by omega, by omega⟩, ?_⟩
          by_cases c3 : aZ B 9 = 8
          · rw [if_pos c3]
            rw [if_neg (by omega)] at hQ
            exact ms_die hs hB (fun J' k1 k2 => hQ J' k1 (oB.tr k2))
          · rw [if_neg c3]
            rw [if_pos (by omega)] at hQ
            refine ⟨hs2, hs2, fun J23 e23 => ⟨hs2, hs2, fun J26 e26 => ⟨hs2, fun K31 hK31 => ?_⟩⟩⟩
            have g23 := MS_z9 hs hB (aZ B 9 + 1)
            rw [← e23] at g23
            rw [show J23 527 s = aZ B 6 from g23.1.1.2.2.2.2.2.1] at e26
            have g26 := MS_z6 hs g23.1 (aZ B 6 + 1)
            rw [← e26] at g26
            have fin : ∀ v, v = min (2 * aZ B 7) 32 → K31 v J26 L := fun v hv => hK31 v J26 L ⟨hs2, fun J33 e33 => by
              have g33 := MS_z7 hs g26.1 v
              rw [← e33] at g33
              have eq : uz 7 v (uz 6 (aZ B 6 + 1) (uz 9 (aZ B 9 + 1) B)) = uz 6 (aZ B 6 + 1) (uz 9 (aZ B 9 + 1) (uz 7 (min (2 * aZ B 7) 32) B)) := by rw [hv, uz_comm (j := 7) (k := 6) (by decide), uz_comm (j := 7) (k := 9) (by decide)]
              rw [eq] at g33
              have ai2 := aB.again (by omega) _ (Or.inr ⟨c1, rfl⟩)
              have hlg := aB.log (by omega)
              have lv := (ai.b7 (by omega)).2
              refine ms_fly hs g33.1 ai2 ?_ c1 (by show live (aZ B 0); rw [z0]; exact lv) ?_ (fun J' k1 k2 => hQ J' k1 (oB.tr (g23.2.tr (g26.2.tr (g33.2.tr k2)))))
              · show J33 491 3 = aZ B 17
                rw [e33, zs_r _ (by decide), e26, zs_r _ (by decide), e23, zs_r _ (by decide), h3, z17]
              · show (aT B).2.2.2.2.length + 204 ≤ 1836
                omega⟩
            have x7 : J26 524 s = aZ B 7 := g26.1.1.2.2.2.2.2.2.1
            rw [x7]
            refine ⟨⟨by omega, by omega⟩, ?_⟩
            by_cases c5 : 32 < aZ B 7 * 2
            · rw [if_pos c5]
              exact fin 32 (by omega)
            · rw [if_neg c5]
              exact ⟨hs2, fin _ (by omega)⟩
    have hl := h.2.2.2.2.2.1
    by_cases c : aZ A 0 = 1
    · rw [if_pos c]
      have l1 : J 530 s = ((aL A).length : Int) := hl.1.1
      have l8 := hl.1.2.1
      rw [l1]
      refine ⟨hs2, ⟨by omega, by omega⟩, ?_⟩
      by_cases cl : aL A = []
      · rw [if_neg (by rw [cl]; decide)]
        by_cases c2 : n - aZ A 14 = 2
        · refine go _ J h1 ai1 MO.rf rfl ?_ hnow
          unfold tickA
          rw [if_pos ⟨c, c2⟩]
          unfold acksA
          rw [if_pos (show aL (uz 17 n A) = [] from cl)]
        · exact go _ J h1 ai1 MO.rf rfl (by unfold tickA; rw [if_neg (fun q => c2 q.2)]) hnow
      · have hp : 0 < (aL A).length := List.length_pos_iff.mpr cl
        rw [if_pos (by omega)]
        have l2 : J 533 s = aZ A 14 := hl.2 cl
        rw [hnow, l2]
        refine ⟨hs2, ⟨by omega, by omega⟩, ⟨by omega, by omega⟩, ?_⟩
        by_cases c2 : n = aZ A 14 + 2
        · rw [if_pos c2]
          exact ms_acks hs h1 ai1 (fun J2 k1 k2 => go _ J2 k1 (AI_acks ai1) k2 (acks_z _ _) (by unfold tickA; rw [if_pos ⟨c, by omega⟩]) (by rw [k2.1 491 3 (own491 (by omega))]; exact hnow))
        · rw [if_neg c2]
          exact go _ J h1 ai1 MO.rf rfl (by unfold tickA; rw [if_neg (fun q => by omega)]) hnow
    · rw [if_neg c]
      exact go _ J h1 ai1 MO.rf rfl (by unfold tickA; rw [if_neg (fun q => c q.1)]) hnow
