/-! the clock stands, and the timer has not run out, behind a record -/
def NQ (A B : SA) : Prop := aZ B 17 = aZ A 17 ∧ (AQt A → AQt B)
theorem NQ.rf {A : SA} : NQ A A := ⟨rfl, id⟩
theorem NQ.tr {A B C : SA} (h1 : NQ A B) (h2 : NQ B C) : NQ A C := ⟨h2.1.trans h1.1, fun q => h2.2 (h1.2 q)⟩
theorem nq_same {A B : SA} (h17 : aZ B 17 = aZ A 17) (h10 : aZ B 10 = aZ A 10) (h8 : aZ B 8 = aZ A 8) (h7 : aZ B 7 = aZ A 7) : NQ A B := ⟨h17, fun q => by unfold AQt at q ⊢; rw [h17, h10, h8, h7]; exact q⟩
theorem nq_off {A B : SA} (h17 : aZ B 17 = aZ A 17) (h10 : aZ B 10 = 0) : NQ A B := ⟨h17, fun _ q => absurd (h10.symm.trans q) (by decide)⟩
theorem nq_fly {s : Int} {A B : SA} (h17 : aZ B 17 = aZ A 17) (h7 : aZ B 10 = 1 → 0 < aZ B 7) : NQ A (flyA s B) := ⟨h17, fun _ q => by
  have q : aZ B 10 = 1 := q
  show aZ B 17 - aZ B 17 < aZ B 7
  have := h7 q
  omega⟩
theorem nq_alert (s c : Int) (A : SA) : NQ A (alertA s c A) := by
  unfold alertA noteA
  split
  · exact nq_same rfl rfl rfl rfl
  · exact nq_same rfl rfl rfl rfl
theorem nq_raise (s c : Int) (A : SA) : NQ A (raiseA s c A) := nq_off (raise_now s c A) rfl
theorem nq_acks (s : Int) (A : SA) : NQ A (acksA s A) := nq_same (by rw [acks_z]) (by rw [acks_z]) (by rw [acks_z]) (by rw [acks_z])
theorem nq_take (s : Int) (A : SA) : NQ A (takeA s A) := by
  have nx : NQ A (uz 2 (aZ A 2 + 1) A) := nq_same rfl rfl rfl rfl
  unfold takeA takeC takeS
  split
  · split
    · exact nq_fly rfl (fun _ => (by decide : (0 : Int) < 4))
    · split
      · refine nx.tr ?_
        unfold ansA
        split
        · exact (nq_off (A := uz 2 (aZ A 2 + 1) A) (B := uz 10 0 (uz 2 (aZ A 2 + 1) A)) rfl rfl).tr (nq_raise _ _ _)
        · exact nq_off rfl rfl
      · split
        · exact nq_same rfl rfl rfl rfl
        · split
          · refine nx.tr ?_
            unfold finC
            split
            · exact nq_raise _ _ _
            · exact nq_fly rfl (fun _ => (by decide : (0 : Int) < 4))
          · exact nx.tr (nq_raise _ _ _)
  · split
    · refine nx.tr ?_
      unfold finS
      split
      · exact nq_raise _ _ _
      · exact (nq_off (A := uz 2 (aZ A 2 + 1) A) (B := uz 10 0 (uz 0 2 (uz 2 (aZ A 2 + 1) A))) rfl rfl).tr (nq_acks _ _)
    · exact nx.tr (nq_raise _ _ _)
theorem nq_takeN (s : Int) : ∀ (n : Nat) (A : SA), NQ A (takeN n s A)
  | 0, A => NQ.rf
  | n + 1, A => by
    show NQ A (if nextA A then takeN n s (takeA s A) else A)
    by_cases c : nextA A
    · rw [if_pos c]; exact (nq_take s A).tr (nq_takeN s n _)
    · rw [if_neg c]; exact NQ.rf
theorem nq_helS (its : Int) (b : List Int) (A : SA) : NQ A (helS its b A) := by
  unfold helS
  split
  · exact nq_alert _ _ _
  · split
    · exact nq_same rfl rfl rfl rfl
    · split
      · exact nq_alert _ _ _
      · split
        · exact nq_alert _ _ _
        · exact nq_fly rfl (fun _ => (by decide : (0 : Int) < 4))
theorem nq_old {bd s k ep nm : Int} {A : SA} (ai : AI bd s A) : NQ A (oldA s k (listA ep nm A)) := by
  have l : NQ A (listA ep nm A) := nq_same rfl rfl rfl rfl
  unfold oldA
  split
  · exact l.tr (nq_acks _ _)
  · split
    · unfold agnA
      split
      · refine nq_fly rfl (fun q => ?_)
        have q : aZ A 10 = 1 := q
        have := (ai.b7 q).1
        show 0 < aZ A 7
        omega
      · exact l
    · exact l
theorem nq_hand {bd s ep nm : Int} {c : List Int} {A : SA} (ai : AI bd s A) : NQ A (handC s ep nm c A) := by
  unfold handC
  split
  · exact nq_same rfl rfl rfl rfl
  · split
    · split
      · exact nq_helS _ _ _
      · exact NQ.rf
    · split
      · exact nq_same rfl rfl rfl rfl
      · split
        · exact nq_old ai
        · exact nq_same rfl rfl rfl rfl
theorem nq_hearM {bd t s ep nm : Int} {c : List Int} {A : SA} (ai : AI bd s A) : NQ A (hearM t s ep nm c A) := by
  unfold hearM
  split
  · unfold hndM
    split
    · exact (nq_hand ai).tr (nq_takeN _ _ _)
    · exact nq_hand ai
  · unfold hearC
    split
    · unfold alertC
      split
      · exact nq_same rfl rfl rfl rfl
      · split
        · exact NQ.rf
        · split
          · exact nq_same rfl rfl rfl rfl
          · unfold noteA
            split
            · exact nq_off rfl rfl
            · exact nq_off rfl rfl
    · split
      · unfold dataC
        split
        · exact nq_off rfl rfl
        · exact nq_same rfl rfl rfl rfl
      · split
        · unfold ackE
          split
          · exact nq_same rfl rfl rfl rfl
          · split
            · exact nq_off rfl rfl
            · exact nq_same rfl rfl rfl rfl
        · exact nq_same rfl rfl rfl rfl
theorem nq_cnt (k : Nat) (A : SA) : NQ A (cntA k A) := nq_same (if_neg (by omega)) (if_neg (by omega)) (if_neg (by omega)) (if_neg (by omega))
theorem nq_out {bd ty s ep nu : Int} {why : Nat} {ct : List Int} {A : SA} (ai : AI bd s A) (hep : ep3 ep) (hnu : 0 ≤ nu ∧ nu < 65536) : NQ A (outA why ty s ep nu ct A) := by
  unfold outA
  split
  · exact (NQ.tr (B := markA ep nu A) (nq_same rfl rfl rfl rfl) (nq_cnt 4 _)).tr (nq_hearM (AI_cm ai hep hnu))
  · exact nq_cnt _ _
theorem nq_arr {s : Int} (hs : s01 s) : ∀ (k : Nat) (bd n : Int) (r : List Int) (A : SA), AI bd s A → oct r → ¬ nextA A → NQ A (arrN k s r A n).1
  | 0, bd, n, r, A, ai, ob, hn => NQ.rf
  | k + 1, bd, n, r, A, ai, ob, hn => by
    by_cases h : r = [] ∨ aZ A 0 = 4
    · rw [arr_no h]
      exact NQ.rf
    · by_cases c : okS r
      · rw [arr_S h c]
        have q := AI_seal hs ai ob (ep_of c.1).2 hn
        exact NQ.tr (nq_out (why := whyS s (r.getD 0 0 - 32) r A) ai (ep3_of (ep_of c.1).2) (sNu_b ob)) (nq_arr hs k (bd + 1) _ (r.drop (5 + (shR r 3).toNat)) _ q.1 (oct_drop ob _) q.2)
      · by_cases d : okP r
        · rw [arr_P h c d]
          have q := AI_pln hs ai ob hn
          exact NQ.tr (nq_out (why := whyP r A) ai (Or.inl rfl) (shR_b ob 2)) (nq_arr hs k (bd + 1) _ (r.drop (6 + (shR r 4).toNat)) _ q.1 (oct_drop ob _) q.2)
        · rw [arr_M h c d]
          exact nq_cnt _ _
theorem arr_nil (k : Nat) (s n : Int) (A : SA) : arrN k s [] A n = (A, n) := by
  cases k with
  | zero => rfl
  | succ k => exact arr_no (Or.inl rfl)
theorem MD.drop {J J' : zM} {o o' : Int} {r : List Int} {k : Nat} (h : MD J o r) (hk : k ≤ r.length) (ho : o' = o + (k : Int)) (h1 : J' 491 72 = J 491 72) (h4 : J' 551 = J 551) : MD J' o' (r.drop k) := by
  obtain ⟨a, b, c, d, e⟩ := h
  have l : (r.drop k).length = r.length - k := List.length_drop
  refine ⟨by omega, by rw [l, h1]; omega, by rw [h1]; exact c, ?_, oct_drop e k⟩
  rw [l, sg_row h4, ho, sg_part d k (r.length - k) (by omega)]
  unfold partI
  exact List.take_of_length_le (Nat.le_of_eq l)
