theorem chI_len (a : List Int) (b c : Int) : (chI a b c).length = 32 := mcI_len _ _
theorem ms_answers {bd its : Int} {o : Nat} {p2 : Int64} {b : List Int} {A : SA} {J : zM} {L : yM} {Q : zM → yM → Prop} (h : MSc 1 J L A) (ai : AI bd 1 A) (h0 : aZ A 0 = 0) (hits : 0 ≤ its ∧ its ≤ 1) (hp2 : lN' p2 o) (hlt : o < 2 ^ 32) (ho : o = be (partI b (b.length - 44) 4)) (hbl : b.length = 61 ∨ b.length = 77) (Mh : mMs J 1536 (msgI 1 b)) (hear : sg J 492 1056 32 = earI (aY A 0)) (hnow : J 491 3 = aZ A 17)
    (hQ : ∀ J' L', MS 1 J' L' (ansS its b A) → MO 1 J L J' L' → Q J' L') : w_X12_answers its p2 J L Q := by
  have r22 := ai.b22 h0
  have b19 := ai.b19
  have e503 : J 503 1 = aZ A 11 := h.1.2.2.2.2.2.2.2.2.2.1
  have seed : sg J 492 (1024 * 1 + 24) 8 = aY A 2 := h.2.2.1.2.2.1
  have eL5 : (L 505 1).toInt = aZ A 15 := h.1.2.2.2.2.2.2.2.2.2.2.1
  have eL4 : (L 504 1).toInt = aZ A 16 := h.1.2.2.2.2.2.2.2.2.2.2.2
  have lR := anR_len A
  unfold w_X12_answers
  refine s_chance (by decide) e503 (by omega) (by rw [seed]; exact ai.y.2.2.1.2) h.2.2.2.2.2.2.2.2.2.2.2 (fun J1 k1 k2 k3 => ?_)
  rw [seed] at k1
  refine s_putMessage (by decide) (by decide) (s_store (by decide) (by decide) (by decide) ?_)
  have e5 : zcp (zw J1 492 (1024 + 600) [2, 20 / 256, 20 % 256]) 500 0 492 (1024 + 600 + 3) 16 = zw J1 492 1624 ([2, 0, 20] ++ anR A) := by
    rw [zcp_zw _ _ _ _ _ _ (by decide)]
    have : sg (zw J1 492 (1024 + 600) [2, 20 / 256, 20 % 256]) 500 0 (16 : Int).toNat = anR A := by
      rw [sg_row (zw_r J1 (by decide))]
      show sg J1 500 0 16 = (chI (aY A 2) 1 (aZ A 11)).take 16
      rw [← k1, sg_take _ _ _ _ _ (by decide)]
    rw [this]
    exact zw_app J1 492 1624 1627 [2, 20 / 256, 20 % 256] (anR A) rfl
  rw [e5]
  obtain ⟨J5, hJ5⟩ : ∃ J5, J5 = zw J1 492 1624 ([2, 0, 20] ++ anR A) := ⟨_, rfl⟩
  rw [← hJ5]
  have l19 : ([2, 0, 20] ++ anR A).length = 19 := by rw [List.length_append, lR]; rfl
  have r5 : ∀ a, a ≠ 492 → J5 a = J1 a := fun a ha => by rw [hJ5]; exact zw_r _ ha
  have f5 : mF (fun a => cCh a ∨ a = 492) t13 J J5 := (k3.mono (fun a q => Or.inl q) (fun k q => q)).tr (by rw [hJ5]; exact mF_zw (Or.inr rfl) (by decide))
  have u5 : ∀ k, ¬ (1624 ≤ k ∧ k < 1643) → J5 492 k = J 492 k := fun k hk => by rw [hJ5, zw_out J1 (by rw [l19]; omega), k3.1 492 (by unfold cCh; omega) (by decide)]
  have s5 : sg J5 492 1624 19 = [2, 0, 20] ++ anR A := by
    have := zw_sg J1 492 1624 ([2, 0, 20] ++ anR A)
    rw [l19, ← hJ5] at this
    exact this
  have v503 : J5 503 1 = aZ A 11 + 1 := by rw [r5 503 (by decide), k2, zs_s]
  have v503o : ∀ k, k ≠ 1 → J5 503 k = J 503 k := fun k hk => by rw [r5 503 (by decide), k2, zs_n _ (Or.inr hk)]
  intro K10 hK10
  have no : ¬ drawn o A → K10 0 J5 L := fun hd => hK10 0 J5 L (ms_ans3 (bd := bd) (o := o) (b := b) h ai h0 hits ho hbl Mh hear hnow f5 u5 s5 (by unfold anC; rw [if_neg hd]; exact v503) v503o (by unfold anS; rw [if_neg hd]; exact eL5) (by unfold anO; rw [if_neg hd]; exact eL4) (fun _ _ _ _ => rfl) ⟨0, rfl, by unfold anB; rw [if_neg hd]; rfl⟩ hQ)
  by_cases c : o = 0
  · rw [if_pos ((zcmp0 hp2).mpr c)]
    exact no (fun q => q.1 c)
  · rw [if_neg (fun q => c ((zcmp0 hp2).mp q))]
    have m15 : zand (J5 491 1) 4 = 4 * aZ A 19 := by rw [r5 491 (by decide), k3.2 1 (by decide)]; exact (h.2.2.2.2.2.2.2.2.2.2.1.2.2 rfl).1
    rw [m15]
    by_cases d : aZ A 19 = 1
    · rw [if_pos (by omega)]
      have hd : drawn o A := ⟨c, d⟩
      obtain ⟨num, hnum⟩ : ∃ num, num = numI (chI (aY A 2) 1 (aZ A 11 + 1)) := ⟨_, rfl⟩
      have seed5 : sg J5 492 (1024 * 1 + 24) 8 = aY A 2 := by rw [sg_fr (fun k p q => u5 k (by omega))]; exact seed
      refine s_takeShare (by decide) v503 (by omega) (by rw [seed5]; exact ai.y.2.2.1.2) (mK_fr h.2.2.2.2.2.2.2.2.2.2.2 (f5.1 495 (by unfold cCh; omega) (by decide)) (f5.1 496 (by unfold cCh; omega) (by decide))) (fun J6 L6 q1 q2 q3 q4 q5 => ?_)
      rw [seed5, ← hnum] at q3 q4
      refine s_powerM hp2 (by omega) q3 (by have := numI_b (chI (aY A 2) 1 (aZ A 11 + 1)); omega) (fun r51 h51 => hK10 r51 J6 L6 ?_)
      have f6 : mF (fun a => cCh a ∨ a = 492) t13 J J6 := f5.tr (q2.mono (fun a q => Or.inl q) (fun k q => q))
      have e492 : J6 492 = J5 492 := q2.1 492 (by unfold cCh; omega) (by decide)
      refine ms_ans3 (bd := bd) (o := o) (b := b) h ai h0 hits ho hbl Mh hear hnow f6 (fun k hk => by rw [e492]; exact u5 k hk) (by rw [sg_row e492]; exact s5) (by unfold anC; rw [if_pos hd, q1, zs_s]; omega) (fun k hk => by rw [q1, zs_n _ (Or.inr hk)]; exact v503o k hk) (by unfold anS; rw [if_pos hd, ← hnum]; exact q4) (by unfold anO; rw [if_pos hd, ← hnum]; exact q3) (fun a i p q => q5 a i p q) ⟨pw o num, h51, by unfold anB; rw [if_pos hd, hnum]⟩ hQ
    · rw [if_neg (by omega)]
      exact no (fun q => d q.2)
