/-- a sealed record in the model -/
theorem ms_sealed {bd s ep o : Int} {r : List Int} {A : SA} {J : zM} {L : yM} {Q : Int → zM → yM → Prop} (hs : s01 s) (h : MS s J L A) (ai : AI bd s A) (hd : MD J o r) (hep : 2 ≤ ep ∧ ep ≤ 3) (hl : 5 + shR r 3 ≤ (r.length : Int)) (h4 : aZ A 0 ≠ 4) (hnow : J 491 3 = aZ A 17) (hbd : bd ≤ 2000000000)
    (hQ : ∀ J' L', MS s J' L' (sealA s ep r A) → MO s J L J' L' → Q (if whyS s ep r A = 4 then 1 else 0) J' L') : w_X12_sealedRecord s o ep (shR r 3) J L Q := by
  obtain ⟨o0, o1, o2, o3, ob⟩ := id hd
  have bL := shR_b ob 3
  have sb : 0 ≤ s ∧ s ≤ 1 := by omega
  have no : ∀ (k : Nat) (J1 J2 : zM), k < 5 → k ≠ 4 → whyS s ep r A = k → MS s J1 L A → MO s J L J1 L → J2 = zs J1 537 (10 * s + (k : Int)) (J1 537 (10 * s + (k : Int)) + 1) → Q 0 J2 L := fun k J1 J2 hk k4 w m1 o1 e2 => by
    have m := ms_cnt (k := k) hs hk m1
    rw [← e2] at m
    have hA : sealA s ep r A = cntA k A := by unfold sealA; rw [w, if_neg k4]
    rw [hA, w, if_neg k4] at hQ
    exact hQ J2 L m.1 (o1.tr m.2)
  unfold w_X12_sealedRecord
  intro K4 hK4
  have main : ∀ x1 : Int, x1 = (if aZ A 13 < ep then 0 else 1) → K4 x1 J L := fun x1 hx1 => hK4 x1 J L (by
    clear hK4
    by_cases c1 : aZ A 13 < ep
    · rw [if_pos c1] at hx1
      subst hx1
      refine ⟨by decide, ?_⟩
      rw [if_pos rfl]
      exact ⟨⟨by omega, by omega⟩, ⟨by omega, by omega⟩, fun J2 e2 => no 1 J J2 (by decide) (by decide) (by unfold whyS; rw [if_pos c1]) h MO.rf e2⟩
    rw [if_neg c1] at hx1
    subst hx1
    refine ⟨by decide, ?_⟩
    rw [if_neg (by decide)]
    refine ⟨R_u bL, ?_⟩
    by_cases c2 : shR r 3 < 9
    · rw [if_pos c2]
      exact ⟨⟨by omega, by omega⟩, ⟨by omega, by omega⟩, fun J2 e2 => no 3 J J2 (by decide) (by decide) (by unfold whyS; rw [if_neg c1, if_pos c2]) h MO.rf e2⟩
    rw [if_neg c2]
    have h9 : 9 ≤ shR r 3 := by omega
    have h13 : ep ≤ aZ A 13 := by omega
    obtain ⟨m1, m2, m3⟩ := sMn_b h9 hl
    intro x9 e9 x10 e10
    rw [sW_key hs hep] at e9
    have kb := sW_key_b hs hep
    rw [← e9] at kb
    have wb := (sW_b hs hep).2
    have KO : ∀ J1, MS s J1 L A → sg J1 492 x9 32 = aY A (16 + sW s ep) ∧ sg J1 492 (x9 + 32) 32 = aY A (20 + sW s ep) := fun J1 g => by rw [e9]; exact m_keys hs g hep h13
    have k16 := (AIy_key (k := 16 + sW s ep) ai ⟨by omega, by omega⟩).2
    have k20 := (AIy_key (k := 20 + sW s ep) ai ⟨by omega, by omega⟩).2
    clear e9
    have hT : sg J 551 (o + 5 + x10) 8 = sTg r := by
      have q := sg_part o3 (5 + sMn r) 8 (by omega)
      rw [show o + ((5 + sMn r : Nat) : Int) = o + 5 + x10 by omega] at q
      exact q
    have hB : sg J 551 (o + 5) (sMn r) = sBd r := sg_part o3 5 (sMn r) (by omega)
    have x10b : x10 = (sMn r : Int) := by omega
    -- the TAG's octets
    refine cp_by (a := 551) (b := 500) (off := o + 5 + x10) (n := 8) (by decide) (by decide) (fun x J1 K x0 x1 cp hK => ?_) (fun J1 K cp => ?_)
    · refine ⟨⟨by omega, by omega⟩, ?_⟩
      rw [if_pos x1]
      exact ⟨⟨by omega, by omega⟩, ⟨by omega, by omega⟩, hK⟩
    refine ⟨by decide, ?_⟩
    rw [if_neg (by decide)]
    have t1 : sg J1 500 0 8 = sTg r := cp.sg (c := 8) rfl hT
    have v1 : mF SCM SCT J J1 := cp.mV (Or.inl (by decide)) (by decide)
    have g1 := mV_ms hs h ai v1
    clear cp
    refine s_maskM (by omega) (by omega) (by rw [(KO J1 g1.1).2]; exact k20) (by rw [t1]; exact oct_partI ob _ _) g1.1.2.2.2.2.2.2.2.2.2.2.2.2 (fun J2 d2 f2 => ?_)
    rw [(KO J1 g1.1).2, t1] at d2
    have v2 : mF SCM SCT J J2 := v1.tr (f2.mono (fun a q => by unfold cF cH at q; unfold SCM; omega) (fun k q => Or.inl q))
    have c2r : J2 551 = J 551 := v2.1 551 (by decide) (by decide)
    have i1 : J2 551 (o + 1) = r.getD 1 0 := by rw [c2r]; exact hd.get (i := 1) (by omega)
    have i2 : J2 551 (o + 2) = r.getD 2 0 := by rw [c2r]; exact hd.get (i := 2) (by omega)
    have i3 : J2 500 0 = (sMk s ep r A).getD 0 0 := by
      have q := sg_get (J := J2) (a := 500) (i := 0) (c := 32) (j := 0) (by decide)
      rw [d2] at q
      exact q.symm
    have i4 : J2 500 1 = (sMk s ep r A).getD 1 0 := by
      have q := sg_get (J := J2) (a := 500) (i := 0) (c := 32) (j := 1) (by decide)
      rw [d2] at q
      exact q.symm
    rw [i1, i2, i3, i4]
    refine ⟨⟨by omega, by omega⟩, ⟨by omega, by omega⟩, fun x21 e21 => ?_⟩
    have e21 : x21 = sNu s ep r A := e21
    subst e21
    have nb := sNu_b (s := s) (ep := ep) (A := A) ob
    have g2 := mV_ms hs h ai v2
    have wn := g2.1.2.2.2.2.2.2.2.2.2.2.1 ep (ep3_of hep)
    clear i1 i2 i3 i4 d2 f2
    refine s_isStale hs (ep3_of hep) wn.1 wn.2 (ai.2.2.2.2.2.2.1 ep (ep3_of hep)) nb (fun st => ?_) (fun ns => ?_)
    · have st : staA ep (sNu s ep r A) A := st
      refine ⟨by decide, ?_⟩
      rw [if_neg (by decide)]
      exact ⟨⟨by omega, by omega⟩, ⟨by omega, by omega⟩, fun J3 e3 => no 2 J2 J3 (by decide) (by decide) (by unfold whyS; rw [if_neg c1, if_neg c2, if_pos st]) g2.1 g2.2 e3⟩
    have ns : ¬ staA ep (sNu s ep r A) A := ns
    refine ⟨by decide, ?_⟩
    rw [if_pos rfl]
    -- what is sealed
    refine cp_by (a := 551) (b := 516) (off := o + 5) (n := x10) (by decide) (by omega) (fun x J3 K x0 x1 cp hK => ?_) (fun J3 K cp => ?_)
    · refine ⟨⟨by omega, by omega⟩, ⟨by omega, by omega⟩, ?_⟩
      rw [if_pos x1]
      exact ⟨⟨by omega, by omega⟩, ⟨by omega, by omega⟩, hK⟩
    refine ⟨⟨by omega, by omega⟩, ⟨by omega, by omega⟩, ?_⟩
    rw [if_neg (by omega)]
    have t3 : sg J3 516 0 (sMn r) = sBd r := cp.sg (c := sMn r) (by omega) (by rw [sg_row c2r]; exact hB)
    have v3 : mF SCM SCT J J3 := v2.tr (cp.mV (Or.inr (Or.inr (Or.inl rfl))) (by decide))
    have g3 := mV_ms hs h ai v3
    clear cp
    have xt : x10.toNat = sMn r := by omega
    refine s_tagM (c := x10) (by omega) (by omega) (by omega) nb (by omega) (by rw [(KO J3 g3.1).1]; exact k16) (by rw [xt, t3]; exact oct_partI ob _ _) g3.1.2.2.2.2.2.2.2.2.2.2.2.2 (fun J4 d4 f4 => ?_)
    rw [(KO J3 g3.1).1, xt, t3] at d4
    have v4 : mF SCM SCT J J4 := v3.tr (f4.mono (fun a q => by unfold cH at q; unfold SCM; omega) (fun k q => Or.inl q))
    have t4 : sg J4 516 0 (sMn r) = sBd r := by rw [sg_row (f4.1 516 (by unfold cH; omega) (by decide))]; exact t3
    have c4r : J4 551 = J 551 := v4.1 551 (by decide) (by decide)
    have g4 := mV_ms hs h ai v4
    have u4 : sg J4 500 0 8 = sTI s ep r A := by
      rw [← sg_take J4 500 0 32 8 (by decide), d4]
      rfl
    have w4 : sg J4 551 (o + 5 + x10) 8 = sTg r := by rw [sg_row c4r]; exact hT
    have oct4 : ∀ y : Int, 0 ≤ y → y < 8 → (0 ≤ J4 500 y ∧ J4 500 y < 256) ∧ 0 ≤ J4 551 (o + 5 + x10 + y) ∧ J4 551 (o + 5 + x10 + y) < 256 := fun y y0 y1 => ⟨oct_sg.mp (by rw [u4]; exact oct_take (mcI_oct _ _) 8) y (by omega) (by omega), oct_sg.mp (by rw [w4]; exact oct_partI ob _ _) _ (by omega) (by omega)⟩
    clear f4 d4
    refine cmp8 (off := o + 5 + x10) u4 w4 (fun x y K y0 y1 xb hK => ?_) (fun K => ?_)
    · refine ⟨⟨by omega, by omega⟩, ?_⟩
      rw [if_pos y1]
      have q4 := oct4 y y0 y1
      refine ⟨⟨by omega, by omega⟩, ⟨by omega, by omega⟩, fun K88 hK88 => ⟨R_o q4.1, R_o q4.2, ?_⟩⟩
      by_cases c : J4 500 y = J4 551 (o + 5 + x10 + y)
      · rw [if_pos c]
        rw [if_pos c] at hK
        refine hK88 1 J4 L (fun x89 e89 => ?_)
        have e : x89 = x := by rw [e89]; rcases xb with rfl | rfl <;> decide
        rw [e]
        exact hK
      · rw [if_neg c]
        rw [if_neg c] at hK
        refine hK88 0 J4 L (fun x89 e89 => ?_)
        have e : x89 = 0 := by rw [e89]; rcases xb with rfl | rfl <;> decide
        rw [e]
        exact hK
    refine ⟨by decide, ?_⟩
    rw [if_neg (by decide)]
    by_cases c3 : sTI s ep r A = sTg r
    rotate_left
    · rw [if_neg c3]
      refine ⟨by decide, ?_⟩
      rw [if_pos rfl]
      exact ⟨⟨by omega, by omega⟩, ⟨by omega, by omega⟩, fun J5 e5 => no 3 J4 J5 (by decide) (by decide) (by unfold whyS; rw [if_neg c1, if_neg c2, if_neg ns, if_neg c3]) g4.1 g4.2 e5⟩
    rw [if_pos c3]
    refine ⟨by decide, ?_⟩
    rw [if_neg (by decide)]
    refine s_streamed (by omega) (by omega) (by omega) nb (by omega) (by rw [(KO J4 g4.1).1]; exact k16) g4.1.2.2.2.2.2.2.2.2.2.2.2.2 (fun J5 b5 b5' f5 => ?_)
    rw [(KO J4 g4.1).1, (sNu_div ob).1, (sNu_div ob).2] at b5
    have v5 : mF SCM SCT J J5 := v4.tr (f5.mono (fun a q => by unfold cH at q; unfold SCM; omega) (fun k q => Or.inl q))
    have co : sg J5 516 0 (sMn r) = sCo s ep r A := by
      have bl := sBd_len h9 hl
      have q := sg_xor (J := J5) (a := 516) (i := 0) (l := sBd r) (f := strA (aY A (16 + sW s ep)) ep (sN1 s ep r A) (sN2 s ep r A)) (fun j hj => by
        rw [bl] at hj
        rw [show (0 : Int) + (j : Int) = (j : Int) by omega, b5 (j : Int) (by omega) (by omega), ← t4, sg_get hj, show (0 : Int) + (j : Int) = (j : Int) by omega])
      rw [bl] at q
      exact q
    clear b5 b5' f5
    have g5 := mV_ms hs h ai v5
    refine ⟨⟨by omega, by omega⟩, fun x48 e48 => ?_⟩
    have e48 : x48 = sTy s ep r A := by
      rw [e48]
      unfold sTy
      rw [← co, sg_get (by omega)]
      congr 1
      omega
    subst e48
    intro K51 hK51
    have go : whyS s ep r A = 4 → K51 J5 L := fun w4 => hK51 J5 L (by
      clear hK51
      intro J6 e6
      have v6 : mF SCM SCT J5 J6 := by rw [e6]; exact mF_zs1 (Or.inr rfl)
      have r70 : J6 491 70 = x10 - 1 := by rw [e6]; exact zs_s _ _ _ _
      have r516 : J6 516 = J5 516 := e6 ▸ zs_r J5 (by decide)
      have co6 : sg J6 516 0 (sMn r) = sCo s ep r A := by rw [sg_row r516]; exact co
      clear e6
      have lct := sCt_len (s := s) (ep := ep) (A := A) h9 hl
      refine cp_by (a := 516) (b := 550) (off := 0) (n := x10 - 1) (by decide) (by omega) (fun x J7 K x0 x1 cp hK => ?_) (fun J7 K cp => ?_)
      · have s70 : J7 491 70 = x10 - 1 := by rw [cp.2 491 (by decide)]; exact r70
        rw [s70]
        refine ⟨⟨by omega, by omega⟩, ⟨by omega, by omega⟩, ?_⟩
        rw [if_pos x1]
        refine ⟨⟨by omega, by omega⟩, ⟨by omega, by omega⟩, fun J8 e8 => hK J8 ?_⟩
        rw [show (0 : Int) + x = x by omega]
        exact e8
      have s70 : J7 491 70 = x10 - 1 := by rw [cp.2 491 (by decide)]; exact r70
      rw [s70]
      refine ⟨⟨by omega, by omega⟩, ⟨by omega, by omega⟩, ?_⟩
      rw [if_neg (by omega)]
      have ct7 : sg J7 550 0 (sMn r - 1) = sCt s ep r A := cp.sg (c := sMn r - 1) (by omega) (by
        rw [← sg_take J6 516 0 (sMn r) (sMn r - 1) (by omega), co6]
        rfl)
      have v7 : mF SCM SCT J J7 := (v5.tr v6).tr (cp.mV (Or.inr (Or.inr (Or.inr rfl))) (by decide))
      have g7 := mV_ms hs h ai v7
      clear cp
      refine ms_mark hs g7.1 ai (ep3_of hep) nb (fun J8 L8 u1 u2 u3 => ?_)
      refine ⟨⟨by omega, by omega⟩, ⟨by omega, by omega⟩, fun J9 e9 => ?_⟩
      have m := ms_cnt (k := 4) hs (by decide) u1
      have e9' : J9 = zs J8 537 (10 * s + ((4 : Nat) : Int)) (J8 537 (10 * s + ((4 : Nat) : Int)) + 1) := e9
      rw [← e9'] at m
      have o9 : MO s J L J9 L8 := (g7.2.tr u2).tr m.2
      have r9 : ∀ a, a ≠ 537 → J9 a = J8 a := fun a ha => by rw [e9]; exact zs_r _ ha
      have mc : MCt J9 (sCt s ep r A) := by
        refine ⟨?_, ?_, ?_, sCt_oct ob⟩
        · rw [r9 491 (by decide), u3 491 (by decide), s70, lct]; omega
        · rw [lct, sg_row (r9 550 (by decide)), sg_row (u3 550 (by decide))]; exact ct7
        · rw [lct]; omega
      obtain ⟨-, -, -, -, hop⟩ := whyS_4 w4
      have z0 : ∀ k, k < 21 → aZ (cntA 4 (markA ep (sNu s ep r A) A)) k = aZ A k := fun k hk => cnt_mark_z hk
      refine ms_inRecord (A := cntA 4 (markA ep (sNu s ep r A) A)) hs m.1 (AI_cm ai (ep3_of hep) nb) mc (sTy_b ob) (fun q => by rw [z0 0 (by decide)]; exact hop q) (ep3_of hep) nb (by rw [z0 13 (by decide)]; exact h13) (by rw [z0 0 (by decide)]; exact h4) (by rw [z0 17 (by decide), o9.1 491 3 (own491 (by omega))]; exact hnow) hbd (fun J' L' y1 y2 => ?_)
      have hA : sealA s ep r A = hearM (sTy s ep r A) s ep (sNu s ep r A) (sCt s ep r A) (cntA 4 (markA ep (sNu s ep r A) A)) := by unfold sealA; rw [w4, if_pos rfl]
      rw [hA, w4, if_pos rfl] at hQ
      exact hQ J' L' y1 (o9.tr y2))
    have w4 : ¬ (sTy s ep r A = 23 ∧ ¬ opn A) → whyS s ep r A = 4 := fun q => by unfold whyS; rw [if_neg c1, if_neg c2, if_neg ns, if_pos c3, if_neg q]
    refine ⟨R_o (sTy_b ob), ?_⟩
    by_cases c5 : sTy s ep r A = 23
    · rw [if_pos c5]
      refine m_isOpen hs g5.1 ai (fun no' => ?_) (fun yes => ?_)
      · refine ⟨by decide, ?_⟩
        rw [if_pos rfl]
        exact ⟨⟨by omega, by omega⟩, ⟨by omega, by omega⟩, fun J6 e6 => no 1 J5 J6 (by decide) (by decide) (by unfold whyS; rw [if_neg c1, if_neg c2, if_neg ns, if_pos c3, if_pos ⟨c5, no'⟩]) g5.1 g5.2 e6⟩
      · refine ⟨by decide, ?_⟩
        rw [if_neg (by decide)]
        exact go (w4 (fun q => q.2 yes))
    · rw [if_neg c5]
      exact go (w4 (fun q => c5 q.1)))
  clear hK4
  have q1 := h.2.1.2.2.2.2.2
  have b13 := ai.b13
  refine ⟨⟨by omega, by omega⟩, ?_⟩
  by_cases c : ep = 2
  · rw [if_pos c]
    refine ⟨⟨by omega, by omega⟩, main _ ?_⟩
    rw [q1.1]
    by_cases d : aZ A 13 < ep
    · rw [if_pos d, if_neg (by omega)]
    · rw [if_neg d, if_pos (by omega)]
  · rw [if_neg c]
    refine ⟨⟨by omega, by omega⟩, main _ ?_⟩
    rw [q1.2]
    by_cases d : aZ A 13 < ep
    · rw [if_pos d, if_neg (by omega)]
    · rw [if_neg d, if_pos (by omega)]
/-- a plain one -/
theorem ms_plain {bd s o : Int} {r : List Int} {A : SA} {J : zM} {L : yM} {Q : Int → zM → yM → Prop} (hs : s01 s) (h : MS s J L A) (ai : AI bd s A) (hd : MD J o r) (ht : plT3 (r.getD 0 0)) (h6 : 6 ≤ r.length) (hl : 6 + shR r 4 ≤ (r.length : Int)) (h4 : aZ A 0 ≠ 4) (hnow : J 491 3 = aZ A 17) (hbd : bd ≤ 2000000000)
    (hQ : ∀ J' L', MS s J' L' (plnA s r A) → MO s J L J' L' → Q (if whyP r A = 4 then 1 else 0) J' L') : w_X12_plainRecord s o (shR r 4) J L Q := by
  obtain ⟨o0, o1, o2, o3, ob⟩ := id hd
  have bL := shR_b ob 4
  have sb : 0 ≤ s ∧ s ≤ 1 := by omega
  obtain ⟨l1, l2⟩ := pCt_len hl ob
  have b13 : 0 ≤ aZ A 13 := by have := ai.b13; omega
  have tb : r.getD 0 0 ≠ 23 := by unfold plT3 at ht; omega
  clear ht
  unfold w_X12_plainRecord
  rw [show J 551 (o + 2) = r.getD 2 0 from hd.get (i := 2) (by omega), show J 551 (o + 3) = r.getD 3 0 from hd.get (i := 3) (by omega)]
  refine ⟨⟨by omega, by omega⟩, ⟨by omega, by omega⟩, fun x3 e3 => ?_⟩
  have e3 : x3 = shR r 2 := e3
  subst e3
  have nb := shR_b ob 2
  have wn := h.2.2.2.2.2.2.2.2.2.2.1 0 (Or.inl rfl)
  refine s_isStale hs (Or.inl rfl) wn.1 wn.2 (ai.2.2.2.2.2.2.1 0 (Or.inl rfl)) nb (fun st => ?_) (fun ns => ?_)
  · have st : staA 0 (shR r 2) A := st
    refine ⟨by decide, ?_⟩
    rw [if_neg (by decide)]
    refine ⟨⟨by omega, by omega⟩, ⟨by omega, by omega⟩, fun J2 e2 => ?_⟩
    have w : whyP r A = 2 := by unfold whyP; rw [if_pos st]
    have m := ms_cnt (k := 2) hs (by decide) h
    have e2 : J2 = zs J 537 (10 * s + ((2 : Nat) : Int)) (J 537 (10 * s + ((2 : Nat) : Int)) + 1) := e2
    rw [← e2] at m
    have hA : plnA s r A = cntA 2 A := by unfold plnA; rw [w, if_neg (by decide)]
    rw [hA, w, if_neg (by decide)] at hQ
    exact hQ J2 L m.1 m.2
  have ns : ¬ staA 0 (shR r 2) A := ns
  have w4 : whyP r A = 4 := by unfold whyP; rw [if_neg ns]
  refine ⟨by decide, ?_⟩
  rw [if_pos rfl]
  intro J6 e6
  have v6 : mF SCM SCT J J6 := by rw [e6]; exact mF_zs1 (Or.inr rfl)
  have r70 : J6 491 70 = shR r 4 := by rw [e6]; exact zs_s _ _ _ _
  have c6 : J6 551 = J 551 := v6.1 551 (by decide) (by decide)
  clear e6
  refine cp_by (a := 551) (b := 550) (off := o + 6) (n := shR r 4) (by decide) (by omega) (fun x J7 K x0 x1 cp hK => ?_) (fun J7 K cp => ?_)
  · refine ⟨⟨by omega, by omega⟩, R_u bL, ?_⟩
    rw [if_pos x1]
    exact ⟨⟨by omega, by omega⟩, ⟨by omega, by omega⟩, hK⟩
  refine ⟨R_u bL, R_u bL, ?_⟩
  rw [if_neg (by omega)]
  have s70 : J7 491 70 = shR r 4 := by rw [cp.2 491 (by decide)]; exact r70
  have ct7 : sg J7 550 0 (pCt r).length = pCt r := cp.sg (c := (pCt r).length) l2 (by
    rw [sg_row c6, l1]
    exact sg_part o3 6 _ (by omega))
  have v7 : mF SCM SCT J J7 := v6.tr (cp.mV (Or.inr (Or.inr (Or.inr rfl))) (by decide))
  have g7 := mV_ms hs h ai v7
  clear cp
  refine ms_mark hs g7.1 ai (Or.inl rfl) nb (fun J8 L8 u1 u2 u3 => ?_)
  refine ⟨⟨by omega, by omega⟩, ⟨by omega, by omega⟩, fun J9 e9 => ?_⟩
  have m := ms_cnt (k := 4) hs (by decide) u1
  have e9' : J9 = zs J8 537 (10 * s + ((4 : Nat) : Int)) (J8 537 (10 * s + ((4 : Nat) : Int)) + 1) := e9
  rw [← e9'] at m
  have o9 : MO s J L J9 L8 := (g7.2.tr u2).tr m.2
  have r9 : ∀ a, a ≠ 537 → J9 a = J8 a := fun a ha => by rw [e9]; exact zs_r _ ha
  have mc : MCt J9 (pCt r) := by
    refine ⟨?_, ?_, ?_, oct_partI ob _ _⟩
    · rw [r9 491 (by decide), u3 491 (by decide), s70, l2]
    · rw [sg_row (r9 550 (by decide)), sg_row (u3 550 (by decide))]; exact ct7
    · omega
  have c9 : J9 551 = J 551 := by rw [r9 551 (by decide), u3 551 (by decide)]; exact v7.1 551 (by decide) (by decide)
  have ty : J9 551 o = r.getD 0 0 := by
    rw [c9]
    have q := hd.get (i := 0) (by omega)
    rw [show o + ((0 : Nat) : Int) = o by omega] at q
    exact q
  rw [ty]
  refine ⟨⟨by omega, by omega⟩, ?_⟩
  have z0 : ∀ k, k < 21 → aZ (cntA 4 (markA 0 (shR r 2) A)) k = aZ A k := fun k hk => cnt_mark_z hk
  refine ms_inRecord (A := cntA 4 (markA 0 (shR r 2) A)) hs m.1 (AI_cm ai (Or.inl rfl) nb) mc (oct1 ob 0) (fun q => absurd q tb) (Or.inl rfl) nb (by rw [z0 13 (by decide)]; exact b13) (by rw [z0 0 (by decide)]; exact h4) (by rw [z0 17 (by decide), o9.1 491 3 (own491 (by omega))]; exact hnow) hbd (fun J' L' y1 y2 => ?_)
  have hA : plnA s r A = hearM (r.getD 0 0) s 0 (shR r 2) (pCt r) (cntA 4 (markA 0 (shR r 2) A)) := by unfold plnA; rw [w4, if_pos rfl]
  rw [hA, w4, if_pos rfl] at hQ
  exact hQ J' L' y1 (o9.tr y2)
