theorem xs_answer {e : Nat} {bd its : Int} {b : List Int} {A : SA} {J : zM} {L : yM} {Q : zM → yM → Prop} (he : iSide e) (h : XS e 1 J L A) (ai : AI bd 1 A) (h0 : aZ A 0 = 0) (hb : XH J its b) (hits : 0 ≤ its ∧ its ≤ 1) (hT : xTr e J (msgI 1 b)) (hQ : ∀ J' L', XS e 1 J' L' (ansS its b A) → XO e J L J' L' → Q J' L') : w_X8_composeAnswer e J L (fun J1 L1 => w_X8_startFlight e J1 L1 (fun J2 L2 => w_X8_sendFlight e J2 L2 Q)) := by
  have he2 : 139 ≤ e := by unfold iSide at he; omega
  obtain ⟨e11, e10, c0, c1, hsb, hbo, hbl⟩ := id hb
  have r := ai.b22 h0
  have b19 := ai.b19
  obtain ⟨o, ho⟩ : ∃ o, o = be (partI b (b.length - 44) 4) := ⟨_, rfl⟩
  have p4 : sg J 4 (J 3 14 + J 3 10 - 32 - 12) 4 = partI b (b.length - 44) 4 := by
    have := hb.part (b.length - 44) 4 (by omega)
    rw [show J 3 14 + ((b.length - 44 : Nat) : Int) = J 3 14 + J 3 10 - 32 - 12 by omega] at this
    exact this
  have ho4 : oct (partI b (b.length - 44) 4) := partI_oct hbo
  have hlt : o < 2 ^ 32 := by
    have := be_lt ho4
    rw [partI_len (by omega)] at this
    rw [ho]
    exact this
  -- from the point where all is drawn
  have go : ∀ (A1 : SA) (J1 : zM) (L1 : yM) (x9 : Int), A1 = uz 11 (anC o A) (uz 15 (anS o A) (uz 16 (anO o A) (uy 4 (anR A) A))) → x9 = anB o A → XS e 1 J1 L1 A1 → XO e J L J1 L1 → XH J1 its b → xTr e J1 (msgI 1 b) → cA2 e x9 J1 L1 (fun J1 L1 => w_X8_startFlight e J1 L1 (fun J2 L2 => w_X8_sendFlight e J2 L2 Q)) := fun A1 J1 L1 x9 hA1 hx g1 o1 b1 t1 => xs_ansEnd he hA1 hx g1 ai h0 b1 hits t1 ho (fun J' g o' => hQ J' L1 g (o1.tr o'))
  unfold w_X8_composeAnswer
  refine s_wordAt (by omega) (by rw [ln_4]; omega) (by rw [p4]; exact ho4) (fun r3 hr3 => ?_)
  rw [p4, ← ho] at hr3
  rw [show J e 0 = 1 from h.1.1]
  refine xs_random he (by decide) h ai (fun J4 g4 o4 r4 => ?_)
  have b4 : XH J4 its b := hb.fr (r4 3 (by unfold cDr; omega)) (r4 4 (by unfold cDr; omega))
  have t4 : xTr e J4 (msgI 1 b) := hT.fr (by rw [r4 _ (by unfold cDr; omega)]) (r4 _ (by unfold cDr; omega))
  intro K8 hK8
  have v6 : J4 (e + 1) 6 = aZ A 19 := g4.2.1.2.2.1
  -- nothing drawn
  have no : ¬ drawn o A → K8 J4 L := fun hd => hK8 J4 L (by
    intro K12 hK12
    have v12 : J4 (e + 1) 12 = aZ A 15 := g4.2.1.2.2.2.2.2.2.1
    rw [v12, r.2.1]
    refine ⟨by decide, ?_⟩
    rw [if_pos rfl]
    refine hK12 0 J4 L (go _ J4 L 0 ?_ ?_ g4 o4 b4 t4)
    · unfold anC anS anO anR; rw [if_neg hd, if_neg hd, if_neg hd]
    · unfold anB; rw [if_neg hd])
  by_cases c : o = 0
  · rw [if_pos ((zcmp0 hr3).mpr c)]
    exact no (fun q => q.1 c)
  · rw [if_neg (fun q => c ((zcmp0 hr3).mp q)), v6]
    refine ⟨⟨by omega, by omega⟩, ?_⟩
    by_cases d : aZ A 19 = 0
    · rw [if_pos d]
      exact no (fun q => by have := q.2; omega)
    · rw [if_neg d]
      have hd : drawn o A := ⟨c, by omega⟩
      rw [show J4 e 0 = 1 from g4.1.1]
      refine xs_share (bd := bd) he (by decide) g4 (by show 0 ≤ aZ A 11 + 1 ∧ aZ A 11 + 1 < 65536; omega) (fun J5 L5 g5 o5 r5 => ?_)
      have b5 : XH J5 its b := b4.fr (r5 3 (by unfold cDr; omega)) (r5 4 (by unfold cDr; omega))
      have t5 : xTr e J5 (msgI 1 b) := t4.fr (by rw [r5 _ (by unfold cDr; omega)]) (r5 _ (by unfold cDr; omega))
      obtain ⟨num, hnum⟩ : ∃ num, num = numI (chI (aY A 2) 1 (aZ A 11 + 1)) := ⟨_, rfl⟩
      have g5 : XS e 1 J5 L5 (uz 11 (aZ A 11 + 1 + 1) (uz 15 (pw 7 num : Int) (uz 16 (num : Int) (uy 4 (anR A) (uz 11 (aZ A 11 + 1) (uz 15 (aZ A 15) (uz 16 (aZ A 16) (uy 4 (anR A) A)))))))) := by rw [hnum]; exact g5
      have eA : uz 11 (aZ A 11 + 1 + 1) (uz 15 (pw 7 num : Int) (uz 16 (num : Int) (uy 4 (anR A) (uz 11 (aZ A 11 + 1) (uz 15 (aZ A 15) (uz 16 (aZ A 16) (uy 4 (anR A) A))))))) = uz 11 (anC o A) (uz 15 (anS o A) (uz 16 (anO o A) (uy 4 (anR A) A))) := by
        have e1 : anC o A = aZ A 11 + 1 + 1 := by unfold anC; rw [if_pos hd]; omega
        have e2 : anS o A = (pw 7 num : Int) := by unfold anS; rw [if_pos hd, hnum]
        have e3 : anO o A = (num : Int) := by unfold anO; rw [if_pos hd, hnum]
        rw [e1, e2, e3]
        refine Prod.ext (funext fun j => ?_) (Prod.ext (funext fun k => ?_) rfl)
        · show (if j = 11 then aZ A 11 + 1 + 1 else if j = 15 then (pw 7 num : Int) else if j = 16 then (num : Int) else if j = 11 then aZ A 11 + 1 else if j = 15 then aZ A 15 else if j = 16 then aZ A 16 else A.1 j) = if j = 11 then aZ A 11 + 1 + 1 else if j = 15 then (pw 7 num : Int) else if j = 16 then (num : Int) else A.1 j
          by_cases h11 : j = 11
          · subst h11; rfl
          by_cases h15 : j = 15
          · subst h15; rfl
          by_cases h16 : j = 16
          · subst h16; rfl
          simp only [h11, h15, h16, if_false]
        · show (if k = 4 then anR A else if k = 4 then anR A else A.2.1 k) = if k = 4 then anR A else A.2.1 k
          split <;> rfl
      refine hK8 J5 L5 ?_
      intro K12 hK12
      have v12 : J5 (e + 1) 12 = (pw 7 num : Int) := g5.2.1.2.2.2.2.2.2.1
      have p7 := pw7 num
      have p7l := pw_lt 7 num
      rw [v12]
      refine ⟨⟨by omega, by omega⟩, ?_⟩
      rw [if_neg (by omega)]
      have vo : (L5 (e + 1) 13).toInt = (num : Int) := g5.2.1.2.2.2.2.2.2.2.2
      refine s_powerX hr3 (by omega) (en := num) vo (fun r41 h41 => ?_)
      have hpw := pw_lt o num
      rw [l2i_small (by rw [h41]; omega), h41]
      refine hK12 _ J5 L5 (go _ J5 L5 _ eA ?_ g5 (o4.tr o5) b5 t5)
      unfold anB
      rw [if_pos hd, hnum]
theorem xs_hello1 {e : Nat} {bd its : Int} {b : List Int} {A : SA} {J : zM} {L : yM} {Q : zM → yM → Prop} (he : iSide e) (h : XS e 1 J L A) (ai : AI bd 1 A) (h0 : aZ A 0 = 0) (hb : XH J its b) (hits : 0 ≤ its ∧ its ≤ 1) (hQ : ∀ J' L', XS e 1 J' L' (helS its b A) → XO e J L J' L' → Q J' L') : w_X8_act e 1 J L Q := by
  unfold w_X8_act
  refine ⟨by decide, ?_⟩
  rw [if_neg (by decide), if_neg (by decide), if_pos rfl]
  unfold helS at hQ
  refine xs_judge he h ai h0 hb (fun d => ?_) (fun J1 d c g1 o1 b1 k1 => ?_) (fun J1 d c n g1 o1 => ?_) (fun J1 d c n m g1 o1 => ?_) (fun J1 d c n m g1 o1 b1 t1 => ?_)
  · rw [if_pos d] at hQ
    refine ⟨by decide, ?_⟩
    rw [if_neg (by decide), if_neg (by decide)]
    exact xs_alert he (by decide) h ai (by decide) (fun J' k1 k2 => hQ J' L k1 k2)
  · rw [if_neg (fun q => q d), if_pos c] at hQ
    refine ⟨by decide, ?_⟩
    rw [if_pos rfl]
    exact xs_retry he g1 ai b1 k1 (fun J' k1 k2 => hQ J' L k1 (o1.tr k2))
  · rw [if_neg (fun q => q d), if_neg c, if_pos n] at hQ
    refine ⟨by decide, ?_⟩
    rw [if_neg (by decide), if_neg (by decide)]
    exact xs_alert he (by decide) g1 ai (by decide) (fun J' k1 k2 => hQ J' L k1 (o1.tr k2))
  · rw [if_neg (fun q => q d), if_neg c, if_neg (fun q => q n), if_pos m] at hQ
    refine ⟨by decide, ?_⟩
    rw [if_neg (by decide), if_neg (by decide)]
    exact xs_alert he (by decide) g1 ai (by decide) (fun J' k1 k2 => hQ J' L k1 (o1.tr k2))
  · rw [if_neg (fun q => q d), if_neg c, if_neg (fun q => q n), if_neg (fun q => q m)] at hQ
    refine ⟨by decide, ?_⟩
    rw [if_neg (by decide), if_pos rfl]
    exact xs_answer he g1 ai h0 b1 hits t1 (fun J' L' k1 k2 => hQ J' L' k1 (o1.tr k2))
