/-! what is in a record: class and model -/
def hearM (t s ep nm : Int) (c : List Int) (A : SA) : SA := if t = 22 then hndM s ep nm c A else hearC t s ep nm c A
theorem ms_inRecord {bd t s ep nm : Int} {c : List Int} {A : SA} {J : zM} {L : yM} {Q : zM → yM → Prop} (hs : s01 s) (h : MS s J L A) (ai : AI bd s A) (hc : MCt J c) (ht : 0 ≤ t ∧ t < 256) (hop : t = 23 → aZ A 0 = 2 ∨ aZ A 0 = 3) (hep : ep3 ep) (hnm : 0 ≤ nm ∧ nm < 65536) (h13 : ep ≤ aZ A 13) (h4 : aZ A 0 ≠ 4) (hnow : J 491 3 = aZ A 17) (hbd : bd ≤ 2000000000) (hQ : ∀ J' L', MS s J' L' (hearM t s ep nm c A) → MO s J L J' L' → Q J' L') : w_X12_inRecord s ep t nm J L Q := by
  unfold w_X12_inRecord
  intro K3 hK3
  refine ⟨R_o ht, ?_⟩
  by_cases t1 : t = 21
  · rw [if_pos t1]
    have hE : hearM t s ep nm c A = alertC ep c A := by unfold hearM hearC; rw [if_neg (by omega), if_pos t1]
    rw [hE] at hQ
    exact ms_alertComes hs h ai hc hep (fun J' => hQ J' L)
  · rw [if_neg t1]
    by_cases t2 : t = 22
    · rw [if_pos t2]
      have hE : hearM t s ep nm c A = hndM s ep nm c A := by unfold hearM; rw [if_pos t2]
      rw [hE] at hQ
      exact ms_handshake hs h ai hc hep hnm h13 h4 hnow hbd hQ
    · rw [if_neg t2]
      by_cases t3 : t = 23
      · rw [if_pos t3]
        have hE : hearM t s ep nm c A = dataC ep c A := by unfold hearM hearC; rw [if_neg t2, if_neg t1, if_neg t2, if_pos t3]
        rw [hE] at hQ
        exact ms_dataComes hs h ai hbd (hop t3) hc hep (fun J' => hQ J' L)
      · rw [if_neg t3]
        by_cases t4 : t = 26
        · rw [if_pos t4]
          have hE : hearM t s ep nm c A = ackE ep c A := by unfold hearM hearC; rw [if_neg t2, if_neg t1, if_neg t2, if_neg t3, if_pos t4]
          rw [hE] at hQ
          exact ms_ackComes hs h ai h4 hc hep (fun J' => hQ J' L)
        · rw [if_neg t4]
          have hE : hearM t s ep nm c A = malA A := by unfold hearM hearC; rw [if_neg t2, if_neg t1, if_neg t2, if_neg t3, if_neg t4]
          rw [hE] at hQ
          exact hK3 J L (ms_mal hs h (fun J' => hQ J' L))
/-- the class's loop of takes -/
theorem xs_takes {e : Nat} {bd s : Int} {A : SA} {J : zM} {L : yM} {Rest : zM → yM → Prop} (he : iSide e) (hs : s01 s) (h : XS e s J L A) (ai : AI bd s A) (hR : ∀ J', XS e s J' L (takeN 5 s A) → XO e J L J' L → Rest J' L) : zl_z (fun K44 x45 J46 L47 => R32 x45 ∧ (if x45 < 5 then w_X8_hasNext e J46 L47 (fun r52 J50 L51 => R32 r52 ∧ (if r52 = 0 then Rest J50 L51 else w_X8_takeNext e J50 L51 (fun J55 L56 => K44 (x45 + 1) J55 L56))) else Rest J46 L47)) 0 J L := by
  refine zl_z.by (fun m x J' L' => (m : Int) = 5 - x ∧ 0 ≤ x ∧ L' = L ∧ ∃ B : SA, XS e s J' L B ∧ AI bd s B ∧ XO e J L J' L ∧ takeN m s B = takeN 5 s A) ?_ 5 0 J L ⟨by omega, by omega, rfl, A, h, ai, XO.rf, rfl⟩
  rintro m x J1 L1 K ⟨hm, hx, rfl, B, hB, aB, oB, hT⟩ hK
  refine ⟨⟨by omega, by omega⟩, ?_⟩
  by_cases c : x < 5
  · rw [if_pos c]
    obtain ⟨m', rfl⟩ : ∃ m', m = m' + 1 := ⟨m - 1, by omega⟩
    refine xs_hasNext hB aB (fun nx => ?_) (fun nn => ?_)
    · refine ⟨by decide, ?_⟩
      rw [if_neg (by decide)]
      refine xs_takeNext he hs hB aB nx (fun J2 u1 u2 => hK m' (x + 1) J2 L1 (by omega) ⟨by omega, by omega, rfl, takeA s B, u1, AI_take hs aB nx, oB.tr u2, ?_⟩)
      rw [← hT]
      show _ = if nextA B then takeN m' s (takeA s B) else B
      rw [if_pos nx]
    · refine ⟨by decide, ?_⟩
      rw [if_pos rfl]
      have : takeN (m' + 1) s B = B := by
        show (if nextA B then takeN m' s (takeA s B) else B) = B
        rw [if_neg nn]
      rw [this] at hT
      exact hR J1 (by rw [← hT]; exact hB) oB
  · rw [if_neg c]
    have m0 : m = 0 := by omega
    subst m0
    have hT : B = takeN 5 s A := hT
    exact hR J1 (by rw [← hT]; exact hB) oB
theorem takeN_no {s : Int} {n : Nat} {A : SA} (h : ¬ nextA A) : takeN n s A = A := by
  cases n with
  | zero => rfl
  | succ n =>
    show (if nextA A then takeN n s (takeA s A) else A) = A
    rw [if_neg h]
theorem nx_same {A B : SA} (h : ¬ nextA A) (h0 : aZ B 0 = aZ A 0) (h2 : aZ B 2 = aZ A 2) (hk : aK B = aK A) : ¬ nextA B := by
  intro q
  apply h
  unfold nextA wholeA at q ⊢
  rw [h0, h2, hk] at q
  exact q
