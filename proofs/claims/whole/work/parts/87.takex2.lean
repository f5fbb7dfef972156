/-- the class takes the MESSAGE that is next and whole -/
theorem XS.ck {e : Nat} {s : Int} {b : List Int} {A : SA} {J J' : zM} {L : yM} (he : iSide e) (h : XS e s J L A) (hb : b.length = 16) (h1 : sg J' (e + 7) 0 16 = b) (h2 : J' (e + 1) 11 = 16) (f : ∀ a, a ≠ e + 1 → a ≠ e + 7 → J' a = J a) (g : ∀ k, k ≠ 11 → J' (e + 1) k = J (e + 1) k) : XS e s J' L (uy 5 b A) ∧ XO e J L J' L := by
  obtain ⟨h0, h1', h2', h3, h4, h5, h6, h7, h8, h9, h10⟩ := h
  refine ⟨⟨h0.fr (f _ (by omega) (by omega)), ?_, ?_, h3.fr (fun x p q => f x (by omega) (by omega)) (fun k _ => by rw [f _ (by omega) (by omega)]), h4.fr (fun x p q => f x (by omega) (by omega)), h5.fr (fun x p q => f x (by omega) (by omega)), h6.fr (f _ (by omega) (by omega)), h7.fr he (fun x p q => f x (by omega) (by omega)), (h8.fr (fun x p q => f x (by omega) (by omega)) (f _ (by omega) (by omega))).cg rfl id (fun k k0 k1 => if_neg (by omega)), h9.fr (fun x p => f x (nwy (c := 1) he p (by omega)) (nwy (c := 7) he p (by omega))) (by rw [f _ (by omega) (by omega)]), h10.fr (fun x p q => f x (by omega) (by omega)) (fun _ _ _ => rfl)⟩, fun x hx => f x (fun q => hx (Or.inl (by omega))) (fun q => hx (Or.inl (by omega))), fun _ _ => rfl⟩
  · obtain ⟨q1, q2, q3, q4, q5, q6, q7, q8, q9⟩ := h1'
    refine ⟨by rw [g 4 (by decide)]; exact q1, by rw [g 5 (by decide)]; exact q2, by rw [g 6 (by decide)]; exact q3, by rw [g 7 (by decide)]; exact q4, by rw [g 8 (by decide)]; exact q5, ?_, by rw [g 12 (by decide)]; exact q7, by rw [g 14 (by decide)]; exact q8, q9⟩
    show J' (e + 1) 11 = (b.length : Int)
    rw [h2, hb]
    rfl
  · obtain ⟨q1, q2, q3, q4, q5, q6⟩ := h2'
    refine ⟨by rw [sg_row (f _ (by omega) (by omega))]; exact q1, by rw [sg_row (f _ (by omega) (by omega))]; exact q2, by rw [sg_row (f _ (by omega) (by omega))]; exact q3, by rw [sg_row (f _ (by omega) (by omega))]; exact q4, by rw [sg_row (f _ (by omega) (by omega))]; exact q5, ?_⟩
    show sg J' (e + 7) 0 b.length = b
    rw [hb]
    exact h1
theorem ln_kb {e : Nat} (he : iSide e) {i : Int} (hi : 0 ≤ i ∧ i < 5) : ln0 (e + 22 + i.toNat) = 152 := by
  have : i = 0 ∨ i = 1 ∨ i = 2 ∨ i = 3 ∨ i = 4 := by omega
  rcases he with rfl | rfl <;> rcases this with rfl | rfl | rfl | rfl | rfl <;> decide +kernel
theorem xs_takeNext {e : Nat} {bd s : Int} {A : SA} {J : zM} {L : yM} {Q : zM → yM → Prop} (he : iSide e) (hs : s01 s) (h : XS e s J L A) (ai : AI bd s A) (hx : nextA A) (hQ : ∀ J', XS e s J' L (takeA s A) → XO e J L J' L → Q J' L) : w_X8_takeNext e J L Q := by
  have b2 := ai.b2
  have he2 : 139 ≤ e := by unfold iSide at he; omega
  have h0 := hx.1
  have e14 : J e 14 = aZ A 2 := h.1.2.2.2.1
  have hk := h.2.2.2.2.1 (aZ A 2) (Int.le_refl _) (by omega)
  have kw := (ai.kw hx.2).1
  have kb := ai.kb hx.2
  have kbd := xk_body h.2.2.2.2.1 ai hx.2
  have ai1 := AI_next ai h0 hx.2
  obtain ⟨sl, hsl⟩ : ∃ sl, sl = aZ A 2 % 5 := ⟨_, rfl⟩
  have hs5 : 0 ≤ sl ∧ sl < 5 := by omega
  obtain ⟨b, hb⟩ : ∃ b, b = kbody (aK A (aZ A 2)) := ⟨_, rfl⟩
  obtain ⟨kd, hkd⟩ : ∃ kd, kd = (aK A (aZ A 2)).1 := ⟨_, rfl⟩
  have k19 := (hk.2 hx.2.1).1
  rw [← hsl] at hk k19 kbd
  rw [← hb] at kbd kb
  have hlb := kb.2
  rw [← hkd, ← hlb] at kw
  have hk1 : J (e + 18) sl = kd := by rw [hkd]; exact hk.1
  have hk19 : J (e + 19) sl = (b.length : Int) := by rw [hlb]; exact k19
  have hsb : sg J (e + 22 + sl.toNat) 0 b.length = b := by
    rw [← hlb, Int.toNat_natCast] at kbd
    exact kbd
  have hln := ln_kb he hs5
  unfold w_X8_takeNext
  rw [e14, zrem_n ⟨b2.1, by omega⟩ (by decide), ← hsl]
  intro x1 ex1
  subst ex1
  refine ⟨hs5, fun x3 ex3 => ⟨hs5, hs5, fun x7 ex7 => ?_⟩⟩
  rw [hk1] at ex3
  rw [hk19] at ex7
  subst ex3
  subst ex7
  refine xs_free he h ai hx.2 (fun J10 g10 o10 r10 => ?_)
  have lv : live (aZ A 0) := Or.inl h0
  have hb10 : sg J10 (e + 22 + x1.toNat) 0 b.length = b := by rw [sg_row (r10 _ (by omega) (by omega))]; exact hsb
  intro K14 hK14
  have eqA : takeA s A = if s = 0 then takeC A else takeS A := rfl
  -- the ends
  have alertE : ∀ (c : Int) (B : SA) (J2 : zM), 0 < c ∧ c < 256 → XS e s J2 L B → AI bd s B → XO e J10 L J2 L → takeA s A = raiseA s c B → K14 c J2 L := by
    intro c B J2 hc gB aB oB hT
    refine hK14 c J2 L ⟨⟨by omega, by omega⟩, ?_⟩
    rw [if_neg (by omega)]
    refine xs_alert he hs gB aB ⟨by omega, by omega⟩ (fun J3 g3 o3 => xs_die he g3 (fun J4 g4 o4 => hQ J4 ?_ (o10.tr (oB.tr (o3.tr o4)))))
    rw [hT]
    exact g4
  have quiet : ∀ (B : SA) (J2 : zM), XS e s J2 L B → XO e J10 L J2 L → aZ B 0 = 1 → takeA s A = B → K14 0 J2 L := by
    intro B J2 gB oB hz hT
    refine hK14 0 J2 L ⟨by decide, ?_⟩
    rw [if_pos rfl]
    intro K19 hK19
    have v12 : J2 e 12 = 1 := by rw [← hz]; exact gB.1.2.1
    have fin : Q J2 L := hQ J2 (by rw [hT]; exact gB) (o10.tr oB)
    rw [v12]
    refine ⟨by decide, ?_⟩
    rw [if_neg (by decide)]
    refine hK19 J2 L ?_
    rw [v12]
    refine ⟨by decide, ?_⟩
    rw [if_neg (by decide)]
    exact fin
  intro K38 hK38
  have z1 : J10 e 13 = aZ A 1 := g10.1.2.2.1
  have b1 := ai.b1
  -- beside RETRY
  have rest : ¬ (s = 0 ∧ x3 = 6 ∧ aZ A 1 = 2 ∧ aY A 5 = []) → K38 J10 L := by
    intro hno
    refine hK38 J10 L ⟨by unfold kLen at kw; exact ⟨by omega, by omega⟩, ?_⟩
    rw [z1]
    refine ⟨⟨by omega, by omega⟩, ?_⟩
    by_cases c : x3 = aZ A 1
    · rw [if_pos c]
      by_cases c2 : x3 = 2
      · rw [if_pos c2]
        have s0 : s = 0 := by
          rcases hs with q | q
          · exact q
          · have := ai.b24 q; omega
        subst s0
        have hbl : b.length = 20 := by unfold kLen at kw; omega
        have eT : takeA 0 A = ansA b (uz 2 (aZ A 2 + 1) A) := by
          rw [eqA, if_pos rfl]
          unfold takeC
          rw [if_neg (fun q => by omega), if_pos ⟨by omega, by omega⟩, ← hb]
        unfold ansA at eT
        refine xs_takeAnswer he g10 ai1 h0 (by show aZ A 1 = 2; omega) hb10 hbl kb.1 (by omega) hln (fun J2 hc g2 o2 => ?_) (fun J2 hc g2 o2 => ?_)
        · rw [if_pos hc] at eT
          exact alertE 47 _ J2 (by decide) g2 (AI_z10 ai1) o2 eT
        · rw [if_neg hc] at eT
          exact quiet _ J2 g2 o2 h0 eT
      · rw [if_neg c2]
        by_cases c8 : x3 = 8
        · rw [if_pos c8]
          have s0 : s = 0 := by
            rcases hs with q | q
            · exact q
            · have := ai.b24 q; omega
          subst s0
          have hbl : b.length ≤ 152 := by unfold kLen at kw; omega
          have eT : takeA 0 A = setA b (uz 2 (aZ A 2 + 1) A) := by
            rw [eqA, if_pos rfl]
            unfold takeC
            rw [if_neg (fun q => by omega), if_neg (fun q => by omega), if_pos ⟨by omega, by omega⟩, ← hb]
          have mn := (ai.m.2.1 rfl h0).2.1 (by omega)
          have ml := ai.m.1 lv
          have eTm : T4 (uz 2 (aZ A 2 + 1) A) ++ msgI 8 b = aY A 6 ++ aY A 7 ++ msgI 8 b ++ aY A 9 := by
            show aY A 6 ++ aY A 7 ++ aY A 8 ++ aY A 9 ++ msgI 8 b = _
            rw [mn.2.1, mn.2.2, List.append_nil, List.append_nil, List.append_nil]
          have hlen : (T4 (uz 2 (aZ A 2 + 1) A)).length + 3 + b.length ≤ 293 := by
            show (aY A 6 ++ aY A 7 ++ aY A 8 ++ aY A 9).length + 3 + b.length ≤ 293
            rw [mn.2.1, mn.2.2, List.append_nil, List.append_nil, List.length_append]
            omega
          refine xs_msg he g10 lv hb10 hlen (by omega) (by omega) eTm (fun J2 g2 o2 r2 J49 e49 => ?_)
          have eq : uT (aY A 6) (aY A 7) (msgI 8 b) (aY A 9) (uz 2 (aZ A 2 + 1) A) = uy 8 (msgI 8 b) (uz 2 (aZ A 2 + 1) A) := uT_8 _ (uz 2 (aZ A 2 + 1) A)
          rw [eq] at g2
          have g49 := XS_z1 he g2 20
          rw [← e49] at g49
          refine quiet _ J49 g49 (o2.tr ?_) h0 eT
          rw [e49]
          exact XO.zs (Or.inl (by omega))
        · rw [if_neg c8]
          have c20 : x3 = 20 := by omega
          have hbl : b.length = 32 := by unfold kLen at kw; omega
          refine xs_takeFinished he hs g10 ai1 h0 (by show aZ A 1 = 20; omega) hb10 hbl kb.1 (by omega) hln (fun J2 hc g2 o2 => ?_) (fun J2 s0 hc g2 o2 => ?_) (fun J2 s1 hc g2 o2 => ?_)
          · have eT : takeA s A = raiseA s 51 (uz 2 (aZ A 2 + 1) A) := by
              rw [eqA]
              rcases hs with rfl | rfl
              · rw [if_pos rfl] at hc ⊢
                unfold takeC
                rw [if_neg (fun q => by omega), if_neg (fun q => by omega), if_neg (fun q => by omega), if_pos ⟨by omega, by omega⟩, ← hb]
                unfold finC
                have mn := (ai.m.2.1 rfl h0).2.2 (by omega)
                have eT3 : T4 (uz 2 (aZ A 2 + 1) A) = T3 (uz 2 (aZ A 2 + 1) A) := by
                  show aY A 6 ++ aY A 7 ++ aY A 8 ++ aY A 9 = aY A 6 ++ aY A 7 ++ aY A 8
                  rw [mn.2.2, List.append_nil]
                rw [eT3] at hc
                rw [if_pos hc]
              · rw [if_neg (by decide)] at hc ⊢
                unfold takeS
                rw [if_pos (by omega), ← hb]
                unfold finS
                rw [if_pos hc]
            exact alertE 51 _ J2 (by decide) g2 ai1 o2 eT
          · subst s0
            have mn := (ai.m.2.1 rfl h0).2.2 (by omega)
            have eT3 : T4 (uz 2 (aZ A 2 + 1) A) = T3 (uz 2 (aZ A 2 + 1) A) := by
              show aY A 6 ++ aY A 7 ++ aY A 8 ++ aY A 9 = aY A 6 ++ aY A 7 ++ aY A 8
              rw [mn.2.2, List.append_nil]
            rw [eT3] at hc
            have eT : takeA 0 A = flyA 0 (newA (finF (aZ A 12 + 1) (finCb b (uz 2 (aZ A 2 + 1) A))) (finC1 b (uz 2 (aZ A 2 + 1) A))) := by
              rw [eqA, if_pos rfl]
              unfold takeC
              rw [if_neg (fun q => by omega), if_neg (fun q => by omega), if_neg (fun q => by omega), if_pos ⟨by omega, by omega⟩, ← hb]
              unfold finC
              rw [if_neg (fun q => q hc)]
              rfl
            refine hK14 0 J2 L ⟨by decide, ?_⟩
            rw [if_pos rfl]
            intro K19 hK19
            rw [show J2 e 12 = 2 from g2.1.2.1, show J2 e 0 = 0 from g2.1.1]
            refine ⟨by decide, ?_⟩
            rw [if_pos rfl]
            refine ⟨by decide, ?_⟩
            rw [if_pos rfl]
            have aiF := AI_fin ai1 h0 (by show aZ A 1 = 20; omega) hbl kb.1
            refine xs_start he g2 (fun J3 g3 o3 => ?_)
            have eqS := zs_eq_f (finF (aZ A 12 + 1) (finCb b (uz 2 (aZ A 2 + 1) A))) (aZ A 17) (threeA (aY A 15) (T3 (uz 2 (aZ A 2 + 1) A) ++ msgI 20 b) (uy 9 (msgI 20 b) (uz 2 (aZ A 2 + 1) A)))
            have g3' : XS e 0 J3 L (uz 8 (aZ A 17) (newA (finF (aZ A 12 + 1) (finCb b (uz 2 (aZ A 2 + 1) A))) (finC1 b (uz 2 (aZ A 2 + 1) A)))) := by
              exact Eq.mp (congrArg (XS e 0 J3 L) eqS) g3
            have ai3 : AI bd 0 (uz 8 (aZ A 17) (newA (finF (aZ A 12 + 1) (finCb b (uz 2 (aZ A 2 + 1) A))) (finC1 b (uz 2 (aZ A 2 + 1) A)))) := by
              have b17 := aiF.b17
              exact ⟨⟨aiF.b0, aiF.b1, aiF.b2, aiF.b3, aiF.b4, aiF.b5, aiF.b6, aiF.b7, ⟨b17.1, Int.le_refl _⟩, aiF.1.2.2.2.2.2.2.2.2.2⟩, aiF.2⟩
            refine xs_fly he (by decide) g3' ai3 (show ([] : LGT).length + 204 ≤ 1836 by decide) (fun J4 g4 o4 => hQ J4 ?_ (o10.tr (o2.tr (o3.tr o4))))
            rw [fly_8] at g4
            rw [eT]
            exact g4
          · subst s1
            have eT : takeA 1 A = acksA 1 (uz 0 2 (uz 10 0 (uz 2 (aZ A 2 + 1) A))) := by
              rw [eqA, if_neg (by decide)]
              unfold takeS
              rw [if_pos (by omega), ← hb]
              unfold finS
              rw [if_neg (fun q => q hc), uz_comm (by decide)]
            have aiO := AI_open1 ai1 h0
            refine hK14 0 J2 L ⟨by decide, ?_⟩
            rw [if_pos rfl]
            intro K19 hK19
            have go : K19 J2 L := hK19 J2 L (by
              rw [show J2 e 12 = 2 from g2.1.2.1]
              refine ⟨by decide, ?_⟩
              rw [if_pos rfl]
              refine xs_acks he hs g2 aiO (fun J3 g3 o3 => hQ J3 ?_ (o10.tr (o2.tr o3)))
              rw [eT]
              exact g3)
            rw [show J2 e 12 = 2 from g2.1.2.1, show J2 e 0 = 1 from g2.1.1]
            refine ⟨by decide, ?_⟩
            rw [if_pos rfl]
            refine ⟨by decide, ?_⟩
            rw [if_neg (by decide)]
            exact go
    · rw [if_neg c]
      have eT : takeA s A = raiseA s 10 (uz 2 (aZ A 2 + 1) A) := by
        rw [eqA]
        rcases hs with rfl | rfl
        · rw [if_pos rfl]
          unfold takeC
          rw [if_neg (fun q => hno ⟨rfl, by omega, q.2.1, q.2.2⟩), if_neg (fun q => by omega), if_neg (fun q => by omega), if_neg (fun q => by omega)]
        · rw [if_neg (by decide)]
          unfold takeS
          have := ai.b24 rfl
          rw [if_neg (by omega)]
      exact alertE 10 _ J10 (by decide) g10 ai1 XO.rf eT
  refine ⟨by unfold kLen at kw; exact ⟨by omega, by omega⟩, ?_⟩
  by_cases c6 : x3 = 6
  · rw [if_pos c6, z1]
    refine ⟨⟨by omega, by omega⟩, ?_⟩
    by_cases c2 : aZ A 1 = 2
    · rw [if_pos c2]
      have v11 : J10 (e + 1) 11 = ((aY A 5).length : Int) := g10.2.1.2.2.2.2.2.1
      rw [v11]
      have y5 := ai.y.2.2.2.2.2.1.1
      refine ⟨⟨by omega, by omega⟩, ?_⟩
      by_cases c5 : ((aY A 5).length : Int) = 0
      · rw [if_pos c5]
        have h5 : aY A 5 = [] := List.eq_nil_of_length_eq_zero (by omega)
        have s0 : s = 0 := by
          rcases hs with q | q
          · exact q
          · have := ai.b24 q; omega
        subst s0
        have hbl : b.length = 16 := by unfold kLen at kw; omega
        unfold w_X8_takeRetry
        refine ⟨⟨by decide, by decide, by decide, by rw [hln]; decide, by decide⟩, fun J2 e2 J3 e3 => ?_⟩
        have g3 := g10.ck (J' := J3) (b := b) he hbl (by
          rw [e3, sg_row (zs_r J2 (by omega)), e2, sg_zcp (by decide)]
          rw [hbl] at hb10
          exact hb10) (by rw [e3]; exact zs_s _ _ _ _) (fun a p q => by rw [e3, zs_r J2 p, e2, zcp_r J10 q]) (fun k hk => by rw [e3, zs_n J2 (Or.inr hk), e2, zcp_r J10 (by omega)])
        show w_X8_composeHello e (J3 (e + 1) 14 + 1) J3 L _
        rw [show J3 (e + 1) 14 = aZ A 12 from g3.1.2.1.2.2.2.2.2.2.2.1]
        have hy3 : AIy (aY (uy 5 b (uz 2 (aZ A 2 + 1) A))) := by
          obtain ⟨y0, y1, y2, y3, y4, y5', y6⟩ := ai.y
          refine ⟨y0, y1, y2, y3, y4, ⟨Or.inr hbl, kb.1⟩, fun k k0 k1 => ?_⟩
          have : aY (uy 5 b (uz 2 (aZ A 2 + 1) A)) k = aY A k := if_neg (by omega)
          rw [this]
          exact y6 k k0 k1
        have eT : takeA 0 A = helloA (aZ A 12 + 1) (uy 5 b (uz 2 (aZ A 2 + 1) A)) := by
          rw [eqA, if_pos rfl]
          unfold takeC
          rw [if_pos ⟨by omega, c2, h5⟩, ← hb]
        exact xs_hello he g3.1 hy3 ai.b15 (AI_retry ai1 h0 c2 h5 hbl kb.1) (fun J4 g4 o4 => quiet _ J4 g4 (g3.2.tr o4) h0 eT)
      · rw [if_neg c5]
        exact rest (fun q => c5 (by rw [q.2.2.2]; rfl))
    · rw [if_neg c2]
      exact rest (fun q => c2 q.2.2.1)
  · rw [if_neg c6]
    exact rest (fun q => c6 q.2.1)
