/-! the class hears a record's content -/
/-- what hearing leaves: of the arrival but what a FRAGMENT's head says -/
def XO3 (e : Nat) (J : zM) (L : yM) (J' : zM) (L' : yM) : Prop := (∀ a, ¬ cX e a → a ≠ 3 → J' a = J a) ∧ (∀ a, ¬ cX e a → L' a = L a) ∧ ∀ k, ¬ (9 ≤ k ∧ k ≤ 14) → J' 3 k = J 3 k
theorem not_cX3 {e : Nat} (he : iSide e) : ¬ cX e 3 := fun q => by
  have he2 : 139 ≤ e := by unfold iSide at he; omega
  rcases q with q | q | q
  · omega
  · have := wy_out he q; omega
  · omega
theorem XO.to3 {e : Nat} {J J' : zM} {L L' : yM} (he : iSide e) (h : XO e J L J' L') : XO3 e J L J' L' := ⟨fun a ha _ => h.1 a ha, h.2, fun k _ => by rw [h.1 3 (not_cX3 he)]⟩
theorem XO3.tr {e : Nat} {J J1 J2 : zM} {L L1 L2 : yM} (h1 : XO3 e J L J1 L1) (h2 : XO3 e J1 L1 J2 L2) : XO3 e J L J2 L2 := ⟨fun a h q => (h2.1 a h q).trans (h1.1 a h q), fun a h => (h2.2.1 a h).trans (h1.2.1 a h), fun k h => (h2.2.2 k h).trans (h1.2.2 k h)⟩
def hearC (t s ep nm : Int) (c : List Int) (A : SA) : SA := if t = 21 then alertC ep c A else if t = 22 then handC s ep nm c A else if t = 23 then dataC ep c A else if t = 26 then ackE ep c A else malA A
theorem xs_hear {e : Nat} {bd t s ep nm : Int} {c : List Int} {A : SA} {J : zM} {L : yM} {Q : Int → zM → yM → Prop} (he : iSide e) (hs : s01 s) (h : XS e s J L A) (ai : AI bd s A) (hc : XC J ep c) (h5 : J 3 5 = t) (ht : 0 ≤ t ∧ t < 256) (h6 : J 3 6 = nm) (hnm : 0 ≤ nm ∧ nm < 65536) (hep : ep3 ep) (h13 : ep ≤ aZ A 13) (hbd : bd ≤ 2000000000) (hl : J 3 7 + (c.length : Int) ≤ J 3 1 ∧ J 3 1 ≤ 500)
    (hQ : ∀ J' a, (∀ Q' : zM → yM → Prop, (∀ J'' L'', XS e s J'' L'' (hearC t s ep nm c A) → XO3 e J L J'' L'' → Q' J'' L'') → w_X8_act e a J' L Q') → Q a J' L) : w_X8_hear e J L Q := by
  have he2 : 139 ≤ e := by unfold iSide at he; omega
  have ob := hc.2.2.2.2.2
  unfold w_X8_hear
  intro K5 hK5 K11 hK11
  have bad : ∀ J1 : zM, XS e s J1 L A → XO3 e J L J1 L → hearC t s ep nm c A = malA A → K5 0 0 J1 L := fun J1 h1 o1 hE => hK5 0 0 J1 L ⟨by decide, by
    rw [if_pos rfl]
    intro J8 e8
    have m := xs_mal he h1
    rw [← e8] at m
    exact hQ J8 0 (fun Q' hQ' => x_act0 (hQ' J8 L (by rw [hE]; exact m.1) (o1.tr (m.2.to3 he))))⟩
  have good : ∀ J1 : zM, XS e s J1 L (hearC t s ep nm c A) → XO e J L J1 L → K5 1 0 J1 L := fun J1 h1 o1 => hK5 1 0 J1 L ⟨by decide, by
    rw [if_neg (by decide)]
    exact hQ J1 0 (fun Q' hQ' => x_act0 (hQ' J1 L h1 (o1.to3 he)))⟩
  rw [h5]
  refine ⟨R_o ht, ?_⟩
  by_cases t1 : t = 21
  · rw [if_pos t1]
    have hE : hearC t s ep nm c A = alertC ep c A := by unfold hearC; rw [if_pos t1]
    refine xs_hearAlert he h ai hc hep (fun q => bad J h (XO.rf.to3 he) ?_) (fun J' q u1 u2 => good J' (by rw [hE]; exact u1) u2)
    rw [hE]
    unfold alertC
    rw [if_pos q]
  · rw [if_neg t1]
    by_cases t2 : t = 22
    · rw [if_pos t2]
      have hE : hearC t s ep nm c A = handC s ep nm c A := by unfold hearC; rw [if_neg t1, if_pos t2]
      have mal : ¬ goodF s ep c A → hearC t s ep nm c A = malA A := fun q => by rw [hE]; unfold handC; rw [if_pos q]
      have move : ∀ J1, (∀ k, ¬ (9 ≤ k ∧ k ≤ 14) → J1 3 k = J 3 k) → zF (fun a => a = 3) J J1 → XS e s J1 L A ∧ XO3 e J L J1 L := fun J1 kk f => ⟨XS.ot he h (fun a ha => f a (fun q => by
        have q : a = 3 := q
        rcases ha with ha | ha
        · omega
        · have := wy_out he ha; omega)) (fun _ _ => rfl), fun a _ q => f a q, fun _ _ => rfl, kk⟩
      have no : ∀ J1 : zM, ¬ goodF s ep c A → (∀ k, ¬ (9 ≤ k ∧ k ≤ 14) → J1 3 k = J 3 k) → zF (fun a => a = 3) J J1 → K5 0 0 J1 L := fun J1 q kk f => bad J1 (move J1 kk f).1 (move J1 kk f).2 (mal q)
      have tail : ∀ (J1 : zM) (K24 : Int → zM → yM → Prop), (∀ (x21 : Int) (J22 : zM) (L23 : yM), (∀ K28 : Int → zM → yM → Prop, (∀ (x25 : Int) (J26 : zM) (L27 : yM), (K5 x21 x25 J26 L27) → K28 x25 J26 L27) → R32 x21 ∧ (if x21 = 0 then K28 0 J22 L23 else w_X8_hearFragment e J22 L23 (fun r33 J31 L32 => K28 r33 J31 L32))) → K24 x21 J22 L23) → ¬ goodF s ep c A → (∀ k, ¬ (9 ≤ k ∧ k ≤ 14) → J1 3 k = J 3 k) → zF (fun a => a = 3) J J1 → K24 0 J1 L := fun J1 K24 hK24 q kk f => hK24 0 J1 L (fun K28 hK28 => ⟨by decide, by
        rw [if_pos rfl]
        exact hK28 0 J1 L (no J1 q kk f)⟩)
      refine x_readFragment hc hl (fun J1 nw k1 f1 => ?_) (fun J1 w fr k1 f1 => ?_)
      · intro K24 hK24 K36 hK36
        refine ⟨by decide, ?_⟩
        rw [if_pos rfl]
        exact hK36 J1 L (tail J1 K24 hK24 (fun q => nw q.1) k1 f1)
      · intro K24 hK24 K36 hK36
        refine ⟨by decide, ?_⟩
        rw [if_neg (by decide)]
        obtain ⟨X1, O1⟩ := move J1 k1 f1
        have c1 : XC J1 ep c := by
          unfold XC
          rw [k1 4 (by decide), k1 7 (by decide), k1 8 (by decide), sg_row (f1 4 (by decide))]
          exact hc
        have n1 : J1 3 6 = nm := by rw [k1 6 (by decide)]; exact h6
        refine x_isSound hs X1.1.1 c1.1 hep fr ob w (fun ns => ?_) (fun sd_ => ?_)
        · refine ⟨by decide, ?_⟩
          rw [if_pos rfl]
          exact hK36 J1 L (tail J1 K24 hK24 (fun q => ns q.2.1) k1 f1)
        · refine ⟨by decide, ?_⟩
          rw [if_neg (by decide)]
          have yes : goodF s ep c A → K24 1 J1 L := fun hg => hK24 1 J1 L (fun K28 hK28 => ⟨by decide, by
            rw [if_neg (by decide)]
            refine xs_hearFragment he hs X1 ai c1 fr n1 hnm hep h13 hbd hg (fun J' a ha => hK28 a J' L (hK5 1 a J' L ⟨by decide, ?_⟩))
            rw [if_neg (by decide)]
            refine hQ J' a (fun Q' hQ' => ha Q' (fun J'' L'' u1 u2 => hQ' J'' L'' (by rw [hE]; exact u1) (O1.tr (u2.to3 he))))⟩)
          refine x_toKeep X1 ai rfl rfl fr.2.2.1 ob (fun nk => ?_) (fun tk => ?_)
          · intro K49 hK49
            refine ⟨by decide, ?_⟩
            rw [if_pos rfl]
            exact hK49 J1 L (yes ⟨w, sd_, fun q => absurd q nk⟩)
          · intro K49 hK49
            refine ⟨by decide, ?_⟩
            rw [if_neg (by decide)]
            refine x_agrees X1 ai fr ob tk (fun na => ?_) (fun ya => ?_)
            · refine ⟨by decide, ?_⟩
              rw [if_pos rfl]
              exact hK36 J1 L (tail J1 K24 hK24 (fun q => na (q.2.2 tk)) k1 f1)
            · refine ⟨by decide, ?_⟩
              rw [if_neg (by decide)]
              exact hK49 J1 L (yes ⟨w, sd_, fun _ => ya⟩)
    · rw [if_neg t2]
      by_cases t3 : t = 23
      · rw [if_pos t3]
        have hE : hearC t s ep nm c A = dataC ep c A := by unfold hearC; rw [if_neg t1, if_neg t2, if_pos t3]
        refine xs_hearData he h ai hc hep (fun q => bad J h (XO.rf.to3 he) ?_) (fun J' q u1 u2 => good J' (by rw [hE]; exact u1) u2)
        rw [hE]
        unfold dataC
        rw [if_neg q]
      · rw [if_neg t3]
        by_cases t4 : t = 26
        · rw [if_pos t4]
          have hE : hearC t s ep nm c A = ackE ep c A := by unfold hearC; rw [if_neg t1, if_neg t2, if_neg t3, if_pos t4]
          refine xs_hearAck he h ai hc hep (fun q => bad J h (XO.rf.to3 he) ?_) (fun J' q u1 u2 => good J' (by rw [hE]; exact u1) u2)
          rw [hE]
          unfold ackE
          rw [if_pos q]
        · rw [if_neg t4]
          exact hK11 J L (bad J h (XO.rf.to3 he) (by unfold hearC; rw [if_neg t1, if_neg t2, if_neg t3, if_neg t4]))
