/-! the class: a record at hand is opened, heard, and what is due by it is done -/
def REC (J : zM) (ep nu ty : Int) (ct : List Int) : Prop := XC J ep ct ∧ J 3 5 = ty ∧ J 3 6 = nu ∧ J 3 7 + (ct.length : Int) ≤ J 3 1 ∧ J 3 1 ≤ 500
theorem REC.fr {J J' : zM} {ep nu ty : Int} {ct : List Int} (h : REC J ep nu ty ct) (h3 : J' 3 = J 3) (h4 : J' 4 = J 4) : REC J' ep nu ty ct := by
  unfold REC XC at *
  rw [sg_row h4, h3]
  exact h
theorem x_refS {e : Nat} {bd s ep o : Int} {r : List Int} {A : SA} {J J0 : zM} {L : yM} {Q : Int → zM → yM → Prop} (he : iSide e) (hs : s01 s) (h : XS e s J L A) (ai : AI bd s A) (hd : XD J o r) (hr : r.getD 0 0 = 32 + ep) (hep : 2 ≤ ep ∧ ep ≤ 3) (hc : CUT J0 J o ep (32 + ep) 5 (shR r 3) (shR r 1)) (hl : 5 + shR r 3 ≤ (r.length : Int))
    (hQ : ∀ J', XV (o + 5 + shR r 3) e J J' → (whyS s ep r A = 4 → REC J' ep (sNu s ep r A) (sTy s ep r A) (sCt s ep r A)) → Q (whyS s ep r A : Int) J' L) : w_X8_refusal e J L Q := by
  obtain ⟨-, q2, -, q4, -, -, q7, q8, -⟩ := hc
  refine x_refusalS he hs h ai hd hr hep q2 q4 q7 q8 hl (fun J' v f => hQ J' v (fun w => ?_))
  obtain ⟨h9, f5, f6, f8, fc⟩ := f w
  have ln := sCt_len (s := s) (ep := ep) (A := A) h9 hl
  have mn := sMn_b h9 hl
  have z7 : J' 3 7 = o + 5 := (v.2.1 7 (by decide) (by decide) (by decide)).trans q7
  have z1 : J' 3 1 = J 3 1 := v.2.1 1 (by decide) (by decide) (by decide)
  have o1 := hd.1
  have o2 := hd.2.1
  have o3 := hd.2.2.1
  have lm : ((sCt s ep r A).length : Int) = shR r 3 - 9 := by rw [ln]; omega
  refine ⟨⟨(v.2.1 4 (by decide) (by decide) (by decide)).trans q4, ?_, ?_, ?_, ?_, sCt_oct hd.2.2.2.2⟩, f5, f6, ?_, ?_⟩
  · rw [f8, lm]
  · rw [z7]; omega
  · rw [z7, lm]; omega
  · rw [z7, ln]; exact fc
  · rw [z7, z1, lm]; omega
  · rw [z1]; exact o3
theorem pCt_len {r : List Int} (h : 6 + shR r 4 ≤ (r.length : Int)) (ob : oct r) : (pCt r).length = (shR r 4).toNat ∧ ((pCt r).length : Int) = shR r 4 := by
  have b := shR_b ob 4
  have q : (pCt r).length = (shR r 4).toNat := partI_len (by omega)
  exact ⟨q, by rw [q]; omega⟩
theorem x_refP {e : Nat} {bd s t o : Int} {r : List Int} {A : SA} {J J0 : zM} {L : yM} {Q : Int → zM → yM → Prop} (he : iSide e) (h : XS e s J L A) (ai : AI bd s A) (hd : XD J o r) (hc : CUT J0 J o 0 t 6 (shR r 4) (shR r 2)) (hl : 6 + shR r 4 ≤ (r.length : Int))
    (hQ : ∀ J', XV (o + 6 + shR r 4) e J J' → (whyP r A = 4 → REC J' 0 (shR r 2) t (pCt r)) → Q (whyP r A : Int) J' L) : w_X8_refusal e J L Q := by
  obtain ⟨-, q2, -, q4, q5, q6, q7, q8, -⟩ := hc
  have ob := hd.2.2.2.2
  obtain ⟨l1, l2⟩ := pCt_len hl ob
  have o1 := hd.1
  have o2 := hd.2.1
  have o3 := hd.2.2.1
  have b4 := shR_b ob 4
  unfold w_X8_refusal
  rw [q4, q6]
  refine ⟨by decide, ?_⟩
  rw [if_pos rfl]
  have wn := h.2.2.2.2.2.2.2.2.2.2 0 (Or.inl rfl)
  have hrec : REC J 0 (shR r 2) t (pCt r) := by
    refine ⟨⟨q4, ?_, ?_, ?_, ?_, oct_partI ob _ _⟩, q5, q6, ?_, o3⟩
    · rw [q8, l2]
    · rw [q7]; omega
    · rw [q7, l2]; omega
    · rw [q7, l1]
      exact sg_part hd.2.2.2.1 6 _ (by omega)
    · rw [q7, l2]; omega
  refine s_refuses wn.1 wn.2 (ai.2.2.2.2.2.2.1 0 (Or.inl rfl)) (shR_b ob 2) (fun st => ?_) (fun ns => ?_)
  · have st : staA 0 (shR r 2) A := st
    refine ⟨by decide, ?_⟩
    rw [if_neg (by decide)]
    have w : whyP r A = 2 := by unfold whyP; rw [if_pos st]
    rw [w] at hQ
    exact hQ J XV.rf (fun q => absurd q (by decide))
  · have ns : ¬ staA 0 (shR r 2) A := ns
    refine ⟨by decide, ?_⟩
    rw [if_pos rfl]
    have w : whyP r A = 4 := by unfold whyP; rw [if_neg ns]
    rw [w] at hQ
    exact hQ J XV.rf (fun _ => hrec)
theorem xs_cnt {e k : Nat} {s : Int} {A : SA} {J : zM} {L : yM} (he : iSide e) (hk : k < 5) (h : XS e s J L A) : XS e s (zs J (e + 37) (k : Int) (J (e + 37) (k : Int) + 1)) L (cntA k A) ∧ XO e J L (zs J (e + 37) (k : Int) (J (e + 37) (k : Int) + 1)) L := by
  have v := h.2.2.2.2.2.2.1 k hk
  rw [v]
  refine ⟨?_, XO.zs (Or.inl (by omega))⟩
  have c : k = 0 ∨ k = 1 ∨ k = 2 ∨ k = 3 ∨ k = 4 := by omega
  rcases c with rfl | rfl | rfl | rfl | rfl
  · exact XS_z21 he h _
  · exact XS_z22 he h _
  · exact XS_z23 he h _
  · exact XS_z24 he h _
  · exact XS_z25 he h _
theorem whyS_b (s ep : Int) (r : List Int) (A : SA) : 1 ≤ whyS s ep r A ∧ whyS s ep r A ≤ 4 := by
  unfold whyS
  split
  · decide
  · split
    · decide
    · split
      · decide
      · split
        · split <;> decide
        · decide
theorem whyP_b (r : List Int) (A : SA) : 1 ≤ whyP r A ∧ whyP r A ≤ 4 := by
  unfold whyP
  split <;> decide
theorem whyS_4 {s ep : Int} {r : List Int} {A : SA} (h : whyS s ep r A = 4) : ep ≤ aZ A 13 ∧ 9 ≤ shR r 3 ∧ ¬ staP ((aN A).1 ep) ((aN A).2 ep) (sNu s ep r A) ∧ sTI s ep r A = sTg r ∧ (sTy s ep r A = 23 → opn A) := by
  unfold whyS at h
  by_cases c1 : aZ A 13 < ep
  · rw [if_pos c1] at h; exact absurd h (by decide)
  rw [if_neg c1] at h
  by_cases c2 : shR r 3 < 9
  · rw [if_pos c2] at h; exact absurd h (by decide)
  rw [if_neg c2] at h
  by_cases c3 : staA ep (sNu s ep r A) A
  · rw [if_pos c3] at h; exact absurd h (by decide)
  rw [if_neg c3] at h
  by_cases c4 : sTI s ep r A = sTg r
  · rw [if_pos c4] at h
    by_cases c5 : sTy s ep r A = 23 ∧ ¬ opn A
    · rw [if_pos c5] at h; exact absurd h (by decide)
    · exact ⟨by omega, by omega, c3, c4, fun q => by
        by_cases w : opn A
        · exact w
        · exact absurd ⟨q, w⟩ c5⟩
  · rw [if_neg c4] at h; exact absurd h (by decide)
theorem whyP_4 {r : List Int} {A : SA} (h : whyP r A = 4) : ¬ staP ((aN A).1 0) ((aN A).2 0) (shR r 2) := by
  unfold whyP at h
  by_cases c3 : staA 0 (shR r 2) A
  · rw [if_pos c3] at h; exact absurd h (by decide)
  · exact c3
theorem xs_opens {e why : Nat} {bd s ep nu ty nx : Int} {ct : List Int} {A : SA} {J : zM} {L : yM} {Q : Int → zM → yM → Prop} (he : iSide e) (h : XS e s J L A) (ai : AI bd s A) (hep : ep3 ep) (hnu : 0 ≤ nu ∧ nu < 65536) (hw : 1 ≤ why ∧ why ≤ 4) (hns : why = 4 → ¬ staP ((aN A).1 ep) ((aN A).2 ep) nu)
    (href : ∀ Q' : Int → zM → yM → Prop, (∀ J', XV nx e J J' → (why = 4 → REC J' ep nu ty ct) → Q' (why : Int) J' L) → w_X8_refusal e J L Q')
    (h0 : ∀ J', why ≠ 4 → XS e s J' L (cntA why A) → XO4 nx e J L J' L → Q 0 J' L)
    (h1 : ∀ J' L', why = 4 → XS e s J' L' (cntA 4 (markA ep nu A)) → REC J' ep nu ty ct → XO4 nx e J L J' L' → Q 1 J' L') : w_X8_opens e J L Q := by
  have he2 : 139 ≤ e := by unfold iSide at he; omega
  unfold w_X8_opens
  refine href _ (fun J1 v1 c1 => ?_)
  intro K6 hK6
  have X1 := v1.xs he h
  by_cases c : why = 4
  · subst c
    have R := c1 rfl
    refine ⟨by decide, ?_⟩
    rw [if_pos (by decide), R.1.1, R.2.2.1]
    refine ⟨by unfold ep3 at hep; omega, ?_⟩
    refine xs_mark he X1 ai hep hnu (hns rfl) (fun J2 L2 u1 u2 u3 => hK6 J2 L2 ⟨by decide, by decide, fun J9 e9 => ⟨by decide, ?_⟩⟩)
    rw [if_pos (by decide)]
    have m := xs_cnt (k := 4) he (by decide) u1
    rw [← e9] at m
    have r9 : ∀ a, a < 139 → J9 a = J2 a := fun a ha => by rw [e9]; exact zs_r _ (by omega)
    exact h1 J9 L2 rfl m.1 (R.fr ((r9 3 (by decide)).trans (u3 3 (by decide))) ((r9 4 (by decide)).trans (u3 4 (by decide)))) (v1.xo.tr ((u2.tr m.2).to4 he))
  · refine ⟨⟨by omega, by omega⟩, ?_⟩
    rw [if_neg (by omega)]
    refine hK6 J1 L ⟨⟨by omega, by omega⟩, ⟨by omega, by omega⟩, fun J9 e9 => ⟨⟨by omega, by omega⟩, ?_⟩⟩
    rw [if_neg (by omega)]
    have m := xs_cnt (k := why) he (by omega) X1
    rw [← e9] at m
    exact h0 J9 c m.1 (v1.xo.tr (m.2.to4 he))
/-- what becomes of a side by a record -/
def outA (why : Nat) (ty s ep nu : Int) (ct : List Int) (A : SA) : SA := if why = 4 then hearM ty s ep nu ct (cntA 4 (markA ep nu A)) else cntA why A
theorem AI_cm {bd s ep nu : Int} {A : SA} (ai : AI bd s A) (hep : ep3 ep) (hnu : 0 ≤ nu ∧ nu < 65536) : AI bd s (cntA 4 (markA ep nu A)) := AI_cnt (AI_mark ai hep hnu) (by decide)
theorem AI_out {why : Nat} {bd ty s ep nu : Int} {ct : List Int} {A : SA} (hs : s01 s) (ai : AI bd s A) (ob : oct ct) (hep : ep3 ep) (hnu : 0 ≤ nu ∧ nu < 65536) (h13 : why = 4 → ep ≤ aZ A 13) (hn : ¬ nextA A) : AI (bd + 1) s (outA why ty s ep nu ct A) ∧ ¬ nextA (outA why ty s ep nu ct A) := by
  unfold outA
  by_cases c : why = 4
  · rw [if_pos c]
    exact AI_hearM hs (AI_cm ai hep hnu) ob hep hnu (by rw [cnt_mark_z (by decide)]; exact h13 c) (nx_cnt (nx_mark hn))
  · rw [if_neg c]
    exact ⟨AI_cnt (ai.mono (by omega)) (by omega), nx_cnt hn⟩
theorem xs_body {e why : Nat} {bd s ep nu ty nx x12 : Int} {ct : List Int} {A : SA} {J : zM} {L : yM} {K : Int → zM → yM → Prop} (he : iSide e) (hs : s01 s) (h : XS e s J L A) (ai : AI bd s A) (hn : ¬ nextA A) (ob : oct ct) (hty : 0 ≤ ty ∧ ty < 256) (hep : ep3 ep) (hnu : 0 ≤ nu ∧ nu < 65536) (hbd : bd ≤ 2000000000) (h13 : why = 4 → ep ≤ aZ A 13) (hw : 1 ≤ why ∧ why ≤ 4) (hns : why = 4 → ¬ staP ((aN A).1 ep) ((aN A).2 ep) nu)
    (href : ∀ Q' : Int → zM → yM → Prop, (∀ J', XV nx e J J' → (why = 4 → REC J' ep nu ty ct) → Q' (why : Int) J' L) → w_X8_refusal e J L Q')
    (hK : ∀ J' L', XS e s J' L' (outA why ty s ep nu ct A) → XO4 nx e J L J' L' → K (x12 + (if why = 4 then 1 else 0)) J' L') : w_X8_opens e J L (fun r32 J30 L31 => ∀ K36 : Int → zM → yM → Prop, (∀ (x33 : Int) (J34 : zM) (L35 : yM), (K x33 J34 L35) → K36 x33 J34 L35) → R32 r32 ∧ (if r32 = 0 then K36 x12 J30 L31 else w_X8_hear e J30 L31 (fun r41 J39 L40 => w_X8_act e r41 J39 L40 (fun J42 L43 => zl_z (fun K44 x45 J46 L47 => R32 x45 ∧ (if x45 < 5 then w_X8_hasNext e J46 L47 (fun r52 J50 L51 => R32 r52 ∧ (if r52 = 0 then K36 (x12 + 1) J50 L51 else w_X8_takeNext e J50 L51 (fun J55 L56 => K44 (x45 + 1) J55 L56))) else K36 (x12 + 1) J46 L47)) 0 J42 L43)))) := by
  refine xs_opens he h ai hep hnu hw hns href (fun J' c u1 u2 K36 hK36 => ?_) (fun J' L' c u1 R u2 K36 hK36 => ?_)
  · refine ⟨by decide, ?_⟩
    rw [if_pos rfl]
    have hA : outA why ty s ep nu ct A = cntA why A := by unfold outA; rw [if_neg c]
    rw [hA, if_neg c, Int.add_zero] at hK
    exact hK36 _ _ _ (hK J' L u1 u2)
  · refine ⟨by decide, ?_⟩
    rw [if_neg (by decide)]
    have hA : outA why ty s ep nu ct A = hearM ty s ep nu ct (cntA 4 (markA ep nu A)) := by unfold outA; rw [if_pos c]
    rw [hA, if_pos c] at hK
    have ai2 := AI_cm ai hep hnu
    have z13 : ep ≤ aZ (cntA 4 (markA ep nu A)) 13 := by rw [cnt_mark_z (by decide)]; exact h13 c
    refine xs_hear he hs u1 ai2 R.1 R.2.1 hty R.2.2.1 hnu hep z13 hbd R.2.2.2 (fun J3 a ha => ha _ (fun J4 L4 w1 w2 => ?_))
    refine xs_takes he hs w1 (AI_hear hs ai2 ob hep hnu z13) (fun J5 y1 y2 => hK36 _ _ _ (hK J5 L4 ?_ (u2.tr ((w2.to4 he).tr (y2.to4 he)))))
    rw [take_hear ai2 ob (nx_cnt (nx_mark hn))] at y1
    exact y1
