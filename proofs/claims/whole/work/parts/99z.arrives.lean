/-- one turn of the model's walk through a datagram -/
theorem ms_turn {bd s o x3 : Int} {r : List Int} {A : SA} {J : zM} {L : yM} {K1 : Int → Int → zM → yM → Prop} {Q : Int → zM → yM → Prop} (hs : s01 s) (h : MS s J L A) (ai : AI bd s A) (hd : MD J o r) (hnow : J 491 3 = aZ A 17) (hbd : bd ≤ 2000000000)
    (hstop : r = [] ∨ aZ A 0 = 4 → Q x3 J L)
    (hmal : ∀ J', ¬ (r = [] ∨ aZ A 0 = 4) → ¬ okS r → ¬ okP r → MS s J' L (cntA 0 A) → MO s J L J' L → K1 (o + (r.length : Int)) x3 J' L)
    (hS : ∀ J' L', ¬ (r = [] ∨ aZ A 0 = 4) → okS r → MS s J' L' (sealA s (r.getD 0 0 - 32) r A) → MO s J L J' L' → K1 (o + (5 + shR r 3)) (x3 + (if whyS s (r.getD 0 0 - 32) r A = 4 then 1 else 0)) J' L')
    (hP : ∀ J' L', ¬ (r = [] ∨ aZ A 0 = 4) → ¬ okS r → okP r → MS s J' L' (plnA s r A) → MO s J L J' L' → K1 (o + (6 + shR r 4)) (x3 + (if whyP r A = 4 then 1 else 0)) J' L') :
    R32 o ∧ R32 (J 491 72) ∧ (if o < (J 491 72) then ((0 : Int) ≤ s ∧ s < 2) ∧ R32 (J 534 s) ∧ (if (J 534 s) = 4 then Q x3 J L else ((0 : Int) ≤ o ∧ o < 520) ∧ ∀ x13 : Int, x13 = (J 551 o) → ∀ K17 : Int → zM → yM → Prop, (∀ (x14 : Int) (J15 : zM) (L16 : yM), (∀ K21 : Int → zM → yM → Prop, (∀ (x18 : Int) (J19 : zM) (L20 : yM), (∀ K25 : Int → zM → yM → Prop, (∀ (x22 : Int) (J23 : zM) (L24 : yM), (∀ K29 : Int → zM → yM → Prop, (∀ (x26 : Int) (J27 : zM) (L28 : yM), (∀ K33 : Int → zM → yM → Prop, (∀ (x30 : Int) (J31 : zM) (L32 : yM), (∀ K38 : Int → Int → zM → yM → Prop, (∀ (x34 : Int) (x35 : Int) (J36 : zM) (L37 : yM), (K1 x34 x35 J36 L37) → K38 x34 x35 J36 L37) → ∀ K41 : zM → yM → Prop, (∀ (J39 : zM) (L40 : yM), (w_X12_malformed s J39 L40 (fun J42 L43 => ∀ x44 : Int, x44 = (J42 491 72) → K38 x44 x3 J42 L43)) → K41 J39 L40) → R32 x26 ∧ (if x26 = 0 then R32 ((o + x22) + x30) ∧ R32 (J31 491 72) ∧ (if (J31 491 72) < ((o + x22) + x30) then K41 J31 L32 else ∀ K53 : Int → zM → yM → Prop, (∀ (x50 : Int) (J51 : zM) (L52 : yM), (∀ K57 : Int → zM → yM → Prop, (∀ (x54 : Int) (J55 : zM) (L56 : yM), (∀ x58 : Int, x58 = (x3 + x54) → ∀ x59 : Int, x59 = (o + (x22 + x30)) → K38 x59 x58 J55 L56) → K57 x54 J55 L56) → R32 x50 ∧ (if x50 = 0 then K57 0 J51 L52 else K57 1 J51 L52)) → K53 x50 J51 L52) → R32 x14 ∧ (if x14 = 0 then w_X12_sealedRecord s o (x13 - 32) x30 J31 L32 (fun r66 J64 L65 => K53 r66 J64 L65) else w_X12_plainRecord s o x30 J31 L32 (fun r69 J67 L68 => K53 r69 J67 L68))) else K41 J31 L32)) → K33 x30 J31 L32) → R32 x26 ∧ (if x26 = 0 then ((0 : Int) ≤ ((o + x22) - 2) ∧ ((o + x22) - 2) < 520) ∧ ((0 : Int) ≤ ((o + x22) - 1) ∧ ((o + x22) - 1) < 520) ∧ K33 ((256 * (J27 551 ((o + x22) - 2))) + (J27 551 ((o + x22) - 1))) J27 L28 else K33 0 J27 L28)) → K29 x26 J27 L28) → ∀ K76 : zM → yM → Prop, (∀ (J74 : zM) (L75 : yM), (K29 1 J74 L75) → K76 J74 L75) → ∀ K79 : zM → yM → Prop, (∀ (J77 : zM) (L78 : yM), (∀ K82 : zM → yM → Prop, (∀ (J80 : zM) (L81 : yM), (R32 (o + x22) ∧ R32 (J80 491 72) ∧ (if (J80 491 72) < (o + x22) then K76 J80 L81 else K29 0 J80 L81)) → K82 J80 L81) → R32 x14 ∧ (if x14 = 0 then K82 J77 L78 else R32 (o + 1) ∧ R32 (J77 491 72) ∧ (if (o + 1) < (J77 491 72) then ((0 : Int) ≤ (o + 1) ∧ (o + 1) < 520) ∧ R32 (J77 551 (o + 1)) ∧ (if (J77 551 (o + 1)) = 0 then K82 J77 L78 else K76 J77 L78) else K82 J77 L78))) → K79 J77 L78) → R32 x14 ∧ (if x14 = 0 then R32 x18 ∧ (if x18 = 0 then K76 J23 L24 else K79 J23 L24) else K79 J23 L24)) → K25 x22 J23 L24) → R32 x14 ∧ (if x14 = 0 then K25 5 J19 L20 else K25 6 J19 L20)) → K21 x18 J19 L20) → ∀ K102 : zM → yM → Prop, (∀ (J100 : zM) (L101 : yM), (K21 1 J100 L101) → K102 J100 L101) → R32 x13 ∧ (if x13 = 34 then K102 J15 L16 else (if x13 = 35 then K102 J15 L16 else K21 0 J15 L16))) → K17 x14 J15 L16) → ∀ K108 : zM → yM → Prop, (∀ (J106 : zM) (L107 : yM), (K17 1 J106 L107) → K108 J106 L107) → R32 x13 ∧ (if x13 = 21 then K108 J L else (if x13 = 22 then K108 J L else (if x13 = 26 then K108 J L else K17 0 J L)))) else Q x3 J L) := by
  obtain ⟨o0, o1, o2, o3, ob⟩ := id hd
  have sb : 0 ≤ s ∧ s < 2 := by omega
  refine ⟨⟨by omega, by omega⟩, ⟨by omega, by omega⟩, ?_⟩
  by_cases c1 : o < J 491 72
  rotate_left
  · rw [if_neg c1]
    exact hstop (Or.inl (List.eq_nil_of_length_eq_zero (by omega)))
  rw [if_pos c1]
  have b0 := ai.b0
  rw [show J 534 s = aZ A 0 from h.1.1]
  refine ⟨sb, ⟨by omega, by omega⟩, ?_⟩
  by_cases c2 : aZ A 0 = 4
  · rw [if_pos c2]
    exact hstop (Or.inr c2)
  rw [if_neg c2]
  have lp : 0 < r.length := by omega
  have nst : ¬ (r = [] ∨ aZ A 0 = 4) := fun q => q.elim (fun w => by rw [w] at lp; exact absurd lp (by decide)) c2
  refine ⟨⟨by omega, by omega⟩, fun x13 e13 => ?_⟩
  have g0 : J 551 o = r.getD 0 0 := by have q := hd.get (i := 0) lp; rw [show o + ((0 : Nat) : Int) = o by omega] at q; exact q
  rw [g0] at e13
  have t0 := oct1 ob 0
  rw [← e13] at t0
  clear hstop b0 g0
  intro K17 hK17
  -- the end of a record that is none
  have mal : ∀ (K38 : Int → Int → zM → yM → Prop), (∀ (x34 : Int) (x35 : Int) (J36 : zM) (L37 : yM), (K1 x34 x35 J36 L37) → K38 x34 x35 J36 L37) → ¬ okS r → ¬ okP r → w_X12_malformed s J L (fun J42 L43 => ∀ x44 : Int, x44 = (J42 491 72) → K38 x44 x3 J42 L43) := fun K38 hK38 q1 q2 => ms_mal hs h (fun J' u1 u2 x44 e44 => hK38 _ _ _ _ (by
    rw [e44, u2.1 491 72 (own491 (by omega)), ← o1]
    exact hmal J' nst q1 q2 u1 u2))
  clear hmal
  by_cases pl : plT3 x13
  · -- plain
    have nS : ¬ okS r := fun q => by have := q.1; rw [← e13] at this; clear q; unfold plT3 at pl; omega
    have g17 : K17 1 J L := hK17 1 J L (by
      clear hK17
      intro K21 hK21
      have g21 : ∀ x18, K21 x18 J L := fun x18 => hK21 x18 J L (by
        clear hK21
        intro K25 hK25
        refine ⟨by decide, ?_⟩
        rw [if_neg (by decide)]
        refine hK25 6 J L ?_
        clear hK25
        intro K29 hK29 K76 hK76 K79 hK79
        have bad : ¬ okP r → K29 1 J L := fun nP => hK29 1 J L (fun K33 hK33 => ⟨by decide, by
          rw [if_neg (by decide)]
          refine hK33 0 J L (fun K38 hK38 K41 hK41 => ⟨by decide, ?_⟩)
          rw [if_neg (by decide)]
          exact hK41 J L (mal K38 hK38 nS nP)⟩)
        have good : r.getD 1 0 = 0 → 6 ≤ r.length → K29 0 J L := fun z1 l6 => hK29 0 J L (fun K33 hK33 => ⟨by decide, by
          rw [if_pos rfl, show o + 6 - 2 = o + ((4 : Nat) : Int) by clear pl; omega, show o + 6 - 1 = o + ((5 : Nat) : Int) by clear pl; omega, hd.get (i := 4) (by clear pl; omega), hd.get (i := 5) (by clear pl; omega)]
          have b4 := shR_b ob 4
          refine ⟨⟨by clear pl; omega, by clear pl; omega⟩, ⟨by clear pl; omega, by clear pl; omega⟩, hK33 _ J L (fun K38 hK38 K41 hK41 => ⟨by decide, ?_⟩)⟩
          rw [if_pos rfl, show 256 * r.getD 4 0 + r.getD 5 0 = shR r 4 from rfl]
          refine ⟨⟨by clear pl; omega, by clear pl; omega⟩, ⟨by clear pl; omega, by clear pl; omega⟩, ?_⟩
          by_cases c5 : J 491 72 < o + 6 + shR r 4
          · rw [if_pos c5]
            exact hK41 J L (mal K38 hK38 nS (fun q => by have := q.2.2.2; clear q pl; omega))
          · rw [if_neg c5]
            intro K53 hK53
            refine ⟨by decide, ?_⟩
            rw [if_neg (by decide)]
            have l : 6 + shR r 4 ≤ (r.length : Int) := by clear pl; omega
            have okp : okP r := ⟨by rw [← e13]; exact pl, z1, l6, l⟩
            refine ms_plain hs h ai hd (by rw [← e13]; exact pl) l6 l c2 hnow hbd (fun J' L' u1 u2 => hK53 _ J' L' (fun K57 hK57 => ?_))
            have end_ : ∀ x54, x54 = (if whyP r A = 4 then (1 : Int) else 0) → K57 x54 J' L' := fun x54 e54 => hK57 x54 J' L' (fun x58 e58 x59 e59 => hK38 _ _ _ _ (by rw [e59, e58, e54]; exact hP J' L' nst nS okp u1 u2))
            by_cases w : whyP r A = 4
            · rw [if_pos w] at end_ ⊢
              refine ⟨by decide, ?_⟩
              rw [if_neg (by decide)]
              exact end_ 1 rfl
            · rw [if_neg w] at end_ ⊢
              refine ⟨by decide, ?_⟩
              rw [if_pos rfl]
              exact end_ 0 rfl⟩)
        have g79 : K79 J L := hK79 J L (by
          clear hK79
          intro K82 hK82
          have g82 : r.getD 1 0 = 0 ∨ r.length ≤ 1 → K82 J L := fun z1 => hK82 J L (by
            refine ⟨⟨by clear pl; omega, by clear pl; omega⟩, ⟨by clear pl; omega, by clear pl; omega⟩, ?_⟩
            by_cases c4 : J 491 72 < o + 6
            · rw [if_pos c4]
              exact hK76 J L (bad (fun q => by have := q.2.2.1; clear q pl; omega))
            · rw [if_neg c4]
              exact good (by clear pl; omega) (by clear pl; omega))
          refine ⟨by decide, ?_⟩
          rw [if_neg (by decide)]
          refine ⟨⟨by clear pl; omega, by clear pl; omega⟩, ⟨by clear pl; omega, by clear pl; omega⟩, ?_⟩
          by_cases c3 : o + 1 < J 491 72
          · rw [if_pos c3, show J 551 (o + 1) = r.getD 1 0 from hd.get (i := 1) (by clear pl; omega)]
            refine ⟨⟨by clear pl; omega, by clear pl; omega⟩, R_o (oct1 ob 1), ?_⟩
            by_cases z1 : r.getD 1 0 = 0
            · rw [if_pos z1]; exact g82 (Or.inl z1)
            · rw [if_neg z1]; exact hK76 J L (bad (fun q => z1 q.2.1))
          · rw [if_neg c3]; exact g82 (Or.inr (by clear pl; omega)))
        refine ⟨by decide, ?_⟩
        rw [if_neg (by decide)]
        exact g79)
      intro K102 hK102
      refine ⟨R_o t0, ?_⟩
      have a1 : x13 ≠ 34 := by unfold plT3 at pl; omega
      have a2 : x13 ≠ 35 := by unfold plT3 at pl; omega
      rw [if_neg a1, if_neg a2]
      exact g21 0)
    intro K108 hK108
    refine ⟨R_o t0, ?_⟩
    have g108 := hK108 J L g17
    by_cases d1 : x13 = 21
    · rw [if_pos d1]; exact g108
    · rw [if_neg d1]
      by_cases d2 : x13 = 22
      · rw [if_pos d2]; exact g108
      · rw [if_neg d2, if_pos (by unfold plT3 at pl; omega)]; exact g108
  · -- sealed, or none
    have nP : ¬ okP r := fun q => pl (by rw [e13]; exact q.1)
    have g17 : K17 0 J L := hK17 0 J L (by
      clear hK17
      intro K21 hK21
      have g21 : ∀ x18 : Int, (x18 = 0 ∧ ¬ (x13 = 34 ∨ x13 = 35)) ∨ (x18 = 1 ∧ (x13 = 34 ∨ x13 = 35)) → K21 x18 J L := fun x18 h18 => hK21 x18 J L (by
        clear hK21
        intro K25 hK25
        refine ⟨by decide, ?_⟩
        rw [if_pos rfl]
        refine hK25 5 J L ?_
        clear hK25
        intro K29 hK29 K76 hK76 K79 hK79
        have bad : ¬ okS r → K29 1 J L := fun nS => hK29 1 J L (fun K33 hK33 => ⟨by decide, by
          rw [if_neg (by decide)]
          refine hK33 0 J L (fun K38 hK38 K41 hK41 => ⟨by decide, ?_⟩)
          rw [if_neg (by decide)]
          exact hK41 J L (mal K38 hK38 nS nP)⟩)
        rcases h18 with ⟨rfl, no⟩ | ⟨rfl, yes⟩
        · refine ⟨by decide, ?_⟩
          rw [if_pos rfl]
          refine ⟨by decide, ?_⟩
          rw [if_pos rfl]
          exact hK76 J L (bad (fun q => no (by rw [e13]; exact q.1)))
        · have ye : r.getD 0 0 = 34 ∨ r.getD 0 0 = 35 := by rw [← e13]; exact yes
          obtain ⟨p1, p2⟩ := ep_of ye
          clear yes
          have g79 : K79 J L := hK79 J L (by
            clear hK79
            intro K82 hK82
            refine ⟨by decide, ?_⟩
            rw [if_pos rfl]
            refine hK82 J L ⟨⟨by clear ye; omega, by clear ye; omega⟩, ⟨by clear ye; omega, by clear ye; omega⟩, ?_⟩
            by_cases c4 : J 491 72 < o + 5
            · rw [if_pos c4]
              exact hK76 J L (bad (fun q => by have := q.2.1; clear q ye; omega))
            rw [if_neg c4]
            have l5 : 5 ≤ r.length := by clear ye; omega
            refine hK29 0 J L (fun K33 hK33 => ⟨by decide, ?_⟩)
            rw [if_pos rfl, show o + 5 - 2 = o + ((3 : Nat) : Int) by clear ye; omega, show o + 5 - 1 = o + ((4 : Nat) : Int) by clear ye; omega, hd.get (i := 3) (by clear ye; omega), hd.get (i := 4) (by clear ye; omega)]
            have b4 := shR_b ob 3
            refine ⟨⟨by clear ye; omega, by clear ye; omega⟩, ⟨by clear ye; omega, by clear ye; omega⟩, hK33 _ J L (fun K38 hK38 K41 hK41 => ⟨by decide, ?_⟩)⟩
            rw [if_pos rfl, show 256 * r.getD 3 0 + r.getD 4 0 = shR r 3 from rfl]
            refine ⟨⟨by clear ye; omega, by clear ye; omega⟩, ⟨by clear ye; omega, by clear ye; omega⟩, ?_⟩
            by_cases c5 : J 491 72 < o + 5 + shR r 3
            · rw [if_pos c5]
              exact hK41 J L (mal K38 hK38 (fun q => by have := q.2.2; clear q ye; omega) nP)
            · rw [if_neg c5]
              intro K53 hK53
              refine ⟨by decide, ?_⟩
              rw [if_pos rfl, e13]
              have l : 5 + shR r 3 ≤ (r.length : Int) := by clear ye; omega
              have oks : okS r := ⟨ye, l5, l⟩
              refine ms_sealed hs h ai hd p2 l c2 hnow hbd (fun J' L' u1 u2 => hK53 _ J' L' (fun K57 hK57 => ?_))
              have end_ : ∀ x54, x54 = (if whyS s (r.getD 0 0 - 32) r A = 4 then (1 : Int) else 0) → K57 x54 J' L' := fun x54 e54 => hK57 x54 J' L' (fun x58 e58 x59 e59 => hK38 _ _ _ _ (by rw [e59, e58, e54]; exact hS J' L' nst oks u1 u2))
              by_cases w : whyS s (r.getD 0 0 - 32) r A = 4
              · rw [if_pos w] at end_ ⊢
                refine ⟨by decide, ?_⟩
                rw [if_neg (by decide)]
                exact end_ 1 rfl
              · rw [if_neg w] at end_ ⊢
                refine ⟨by decide, ?_⟩
                rw [if_pos rfl]
                exact end_ 0 rfl)
          refine ⟨by decide, ?_⟩
          rw [if_pos rfl]
          refine ⟨by decide, ?_⟩
          rw [if_neg (by decide)]
          exact g79)
      intro K102 hK102
      refine ⟨R_o t0, ?_⟩
      by_cases d1 : x13 = 34
      · rw [if_pos d1]; exact hK102 J L (g21 1 (Or.inr ⟨rfl, Or.inl d1⟩))
      · rw [if_neg d1]
        by_cases d2 : x13 = 35
        · rw [if_pos d2]; exact hK102 J L (g21 1 (Or.inr ⟨rfl, Or.inr d2⟩))
        · rw [if_neg d2]; exact g21 0 (Or.inl ⟨rfl, fun q => q.elim d1 d2⟩))
    intro K108 hK108
    refine ⟨R_o t0, ?_⟩
    rw [if_neg (fun q => pl (Or.inl q)), if_neg (fun q => pl (Or.inr (Or.inl q))), if_neg (fun q => pl (Or.inr (Or.inr q)))]
    exact g17
theorem ms_arrives {bd s : Int} {r : List Int} {A : SA} {J : zM} {L : yM} {Q : Int → zM → yM → Prop} (hs : s01 s) (h : MS s J L A) (ai : AI bd s A) (hn : ¬ nextA A) (hd : MD J 0 r) (hnow : J 491 3 = aZ A 17) (hbd : 0 ≤ bd ∧ bd + 100 ≤ 2000000000) (hQ : ∀ J' L', MS s J' L' (arrN 100 s r A 0).1 → MO s J L J' L' → Q (arrN 100 s r A 0).2 J' L') : w_X12_arrives s J L Q := by
  have hl : r.length ≤ 500 := by obtain ⟨a, b, c, -⟩ := hd; omega
  obtain ⟨Z, hZ⟩ : ∃ Z, Z = arrN 100 s r A 0 := ⟨_, rfl⟩
  rw [← hZ] at hQ
  unfold w_X12_arrives
  refine zl_zz.by (fun m x2 x3 J1 L1 => ∃ (k : Nat) (r1 : List Int) (A1 : SA), m = r1.length ∧ r1.length ≤ 5 * k ∧ k ≤ 100 ∧ MS s J1 L1 A1 ∧ AI (bd + 100 - (k : Int)) s A1 ∧ ¬ nextA A1 ∧ MD J1 x2 r1 ∧ J1 491 3 = aZ A1 17 ∧ MO s J L J1 L1 ∧ arrN k s r1 A1 x3 = Z) ?_ r.length 0 0 J L ⟨100, r, A, rfl, by omega, by omega, h, by rw [show bd + 100 - ((100 : Nat) : Int) = bd by omega]; exact ai, hn, hd, hnow, MO.rf, hZ.symm⟩
  clear h ai hn hd hZ hnow
  rintro m x2 x3 J1 L1 K ⟨k, r1, A1, hm, hk, hk2, h, ai, hn, hd, hnow, mo, hA⟩ hK
  have ob := hd.2.2.2.2
  refine ms_turn hs h ai hd hnow (by omega) (fun q => ?_) (fun J' q1 q2 q3 u1 u2 => ?_) (fun J' L' q1 q2 u1 u2 => ?_) (fun J' L' q1 q2 q3 u1 u2 => ?_)
  · have e : arrN k s r1 A1 x3 = (A1, x3) := by
      cases k with
      | zero => rfl
      | succ k => exact arr_no q
    rw [e] at hA
    rw [← hA] at hQ
    exact hQ J1 L1 h mo
  · obtain ⟨k', rfl⟩ : ∃ k', k = k' + 1 := ⟨k - 1, by
      have : r1.length ≠ 0 := fun w => q1 (Or.inl (List.eq_nil_of_length_eq_zero w))
      omega⟩
    rw [arr_M q1 q2 q3] at hA
    have lp : 0 < r1.length := Nat.pos_of_ne_zero (fun w => q1 (Or.inl (List.eq_nil_of_length_eq_zero w)))
    refine hK 0 _ _ J' L1 (by omega) ⟨0, [], cntA 0 A1, rfl, by decide, by omega, u1, AI_cnt (ai.mono (by omega)) (by decide), nx_cnt hn, ?_, ?_, mo.tr u2, hA⟩
    · have w := hd.drop (J' := J') (k := r1.length) (o' := x2 + (r1.length : Int)) (by omega) rfl (u2.1 491 72 (own491 (by omega))) (u2.2.2.2.2.2.2 551 (Or.inr (by decide))).1
      rw [List.drop_length] at w
      exact w
    · rw [u2.1 491 3 (own491 (by omega)), (nq_cnt 0 A1).1]
      exact hnow
  · obtain ⟨k', rfl⟩ : ∃ k', k = k' + 1 := ⟨k - 1, by have := q2.2.1; omega⟩
    rw [arr_S q1 q2] at hA
    obtain ⟨ye, l5, l⟩ := q2
    obtain ⟨p1, p2⟩ := ep_of ye
    clear q1
    have ds := dropS ob l
    have b3 := shR_b ob 3
    have q := AI_seal hs ai ob p2 hn
    have ln : (r1.drop (5 + (shR r1 3).toNat)).length = r1.length - (5 + (shR r1 3).toNat) := List.length_drop
    refine hK _ _ _ J' L' ?_ ⟨k', r1.drop (5 + (shR r1 3).toNat), sealA s (r1.getD 0 0 - 32) r1 A1, rfl, ?_, ?_, u1, ?_, q.2, ?_, ?_, mo.tr u2, hA⟩
    · rw [ln]; clear ye; omega
    · rw [ln]; clear ye; omega
    · clear ye; omega
    · rw [show bd + 100 - (k' : Int) = bd + 100 - ((k' + 1 : Nat) : Int) + 1 by clear ye; omega]; exact q.1
    · exact hd.drop ds.1 (by rw [ds.2]) (u2.1 491 72 (own491 (by omega))) (u2.2.2.2.2.2.2 551 (Or.inr (by decide))).1
    · rw [u2.1 491 3 (own491 (by omega)), hnow]
      exact (nq_out (why := whyS s (r1.getD 0 0 - 32) r1 A1) (ty := sTy s (r1.getD 0 0 - 32) r1 A1) (ct := sCt s (r1.getD 0 0 - 32) r1 A1) ai (ep3_of p2) (sNu_b (s := s) (ep := r1.getD 0 0 - 32) (A := A1) ob)).1.symm
  · obtain ⟨k', rfl⟩ : ∃ k', k = k' + 1 := ⟨k - 1, by have := q3.2.2.1; omega⟩
    rw [arr_P q1 q2 q3] at hA
    obtain ⟨pl, z1, l6, l⟩ := q3
    clear q1 q2 pl
    have ds := dropP ob l
    have b3 := shR_b ob 4
    have q := AI_pln hs ai ob hn
    have ln : (r1.drop (6 + (shR r1 4).toNat)).length = r1.length - (6 + (shR r1 4).toNat) := List.length_drop
    refine hK _ _ _ J' L' ?_ ⟨k', r1.drop (6 + (shR r1 4).toNat), plnA s r1 A1, rfl, ?_, ?_, u1, ?_, q.2, ?_, ?_, mo.tr u2, hA⟩
    · rw [ln]; omega
    · rw [ln]; omega
    · omega
    · rw [show bd + 100 - (k' : Int) = bd + 100 - ((k' + 1 : Nat) : Int) + 1 by omega]; exact q.1
    · exact hd.drop ds.1 (by rw [ds.2]) (u2.1 491 72 (own491 (by omega))) (u2.2.2.2.2.2.2 551 (Or.inr (by decide))).1
    · rw [u2.1 491 3 (own491 (by omega)), hnow]
      exact (nq_out (why := whyP r1 A1) (ty := r1.getD 0 0) (ct := pCt r1) ai (Or.inl rfl) (shR_b ob 2)).1.symm
