/-! LIST: the latest HANDSHAKE records that CAME -/
def addLi (l : List (Int × Int)) (q : Int × Int) : List (Int × Int) := (if l.length = 8 then l.drop 1 else l) ++ [q]
def XLi (e : Nat) (J : zM) (l : List (Int × Int)) : Prop := J (e + 33) 2 = (l.length : Int) ∧ l.length ≤ 8 ∧ ∀ (i : Nat) (q : Int × Int), l[i]? = some q → J (e + 34) (i : Int) = q.1 ∧ J (e + 35) (i : Int) = q.2
def MLi (s : Int) (J : zM) (l : List (Int × Int)) : Prop := J 530 s = (l.length : Int) ∧ l.length ≤ 8 ∧ ∀ (i : Nat) (q : Int × Int), l[i]? = some q → J 531 (8 * s + (i : Int)) = q.1 ∧ J 532 (8 * s + (i : Int)) = q.2
theorem addLi_len (l : List (Int × Int)) (q : Int × Int) (h : l.length ≤ 8) : (addLi l q).length ≤ 8 ∧ 0 < (addLi l q).length := by
  unfold addLi
  split
  · rw [List.length_append, List.length_drop, List.length_singleton]; omega
  · rw [List.length_append, List.length_singleton]; omega
theorem s_listX {e : Nat} {ep n now : Int} {l : List (Int × Int)} {J : zM} {L : yM} {Q : zM → yM → Prop} (h : XLi e J l) (hQ : ∀ J', XLi e J' (addLi l (ep, n)) → J' (e + 33) 3 = now → zF (fun a => e + 33 ≤ a ∧ a ≤ e + 35) J J' → Q J' L) : w_X0_add e ep n now J L Q := by
  obtain ⟨h1, h2, h3⟩ := h
  unfold w_X0_add
  intro K hK
  -- the entry is put behind l0
  have put : ∀ (J1 : zM) (l0 : List (Int × Int)), J1 (e + 33) 2 = (l0.length : Int) → l0.length < 8 → (∀ (i : Nat) (q : Int × Int), l0[i]? = some q → J1 (e + 34) (i : Int) = q.1 ∧ J1 (e + 35) (i : Int) = q.2) → l0 ++ [(ep, n)] = addLi l (ep, n) → zF (fun a => e + 33 ≤ a ∧ a ≤ e + 35) J J1 → K J1 L := by
    intro J1 l0 a1 a2 a3 a4 f1
    refine hK J1 L ?_
    rw [a1]
    refine ⟨by omega, fun J2 e2 => ?_⟩
    have b2 : J2 (e + 33) = J1 (e + 33) := by rw [e2]; exact zs_r J1 (by omega)
    rw [b2, a1]
    refine ⟨by omega, fun J3 e3 J4 e4 J5 e5 => ?_⟩
    have b3 : J3 (e + 33) = J1 (e + 33) := by rw [e3, zs_r J2 (by omega)]; exact b2
    rw [b3, a1] at e4
    have g34 : J5 (e + 34) = J2 (e + 34) := by rw [e5, zs_r J4 (by omega), e4, zs_r J3 (by omega), e3, zs_r J2 (by omega)]
    have g35 : J5 (e + 35) = J3 (e + 35) := by rw [e5, zs_r J4 (by omega), e4, zs_r J3 (by omega)]
    refine hQ J5 ?_ (by rw [e5, zs_s]) ?_
    · rw [← a4]
      refine ⟨by rw [e5, zs_n J4 (Or.inr (by decide)), e4, zs_s, List.length_append, List.length_singleton]; omega, by rw [List.length_append, List.length_singleton]; omega, fun i q hq => ?_⟩
      rw [g34, g35]
      by_cases c : i = l0.length
      · subst c
        rw [List.getElem?_append_right (Nat.le_refl _), Nat.sub_self] at hq
        cases hq
        exact ⟨by rw [e2, zs_s], by rw [e3, zs_s]⟩
      · have hil : i < (l0 ++ [(ep, n)]).length := (List.getElem?_eq_some_iff.mp hq).1
        rw [List.length_append, List.length_singleton] at hil
        rw [List.getElem?_append_left (by omega)] at hq
        have h9 := a3 i q hq
        exact ⟨by rw [e2, zs_n J1 (Or.inr (by omega))]; exact h9.1, by rw [e3, zs_n J2 (Or.inr (by omega)), e2, zs_r J1 (by omega)]; exact h9.2⟩
    · intro a ha
      rw [e5, zs_r J4 (by omega), e4, zs_r J3 (by omega), e3, zs_r J2 (by omega), e2, zs_r J1 (by omega)]
      exact f1 a ha
  rw [h1]
  refine ⟨⟨by omega, by omega⟩, ?_⟩
  by_cases c : (l.length : Int) = 8
  · rw [if_pos c]
    intro J1 e1
    have a1 : J1 (e + 33) 2 = 7 := by rw [e1, zs_s]; omega
    rw [a1]
    refine ⟨by decide, fun J2 e2 => ?_⟩
    have a2 : J2 (e + 33) 2 = 7 := by rw [e2, zcp_r J1 (by omega)]; exact a1
    rw [a2]
    refine ⟨by decide, fun J3 e3 => ?_⟩
    refine put J3 (l.drop 1) ?_ (by rw [List.length_drop]; omega) (fun i q hq => ?_) (by unfold addLi; rw [if_pos (by omega)]) ?_
    · rw [e3, zcp_r J2 (by omega), a2, List.length_drop]; omega
    · rw [List.getElem?_drop] at hq
      have h9 := h3 (1 + i) q hq
      have hil := (List.getElem?_eq_some_iff.mp hq).1
      refine ⟨?_, ?_⟩
      · rw [e3, zcp_r J2 (by omega), e2, zcp_in J1 (by omega), e1, zs_r J (by omega), show (1 : Int) + ((i : Int) - 0) = ((1 + i : Nat) : Int) by omega]
        exact h9.1
      · rw [e3, zcp_in J2 (by omega), e2, zcp_r J1 (by omega), e1, zs_r J (by omega), show (1 : Int) + ((i : Int) - 0) = ((1 + i : Nat) : Int) by omega]
        exact h9.2
    · intro a ha
      rw [e3, zcp_r J2 (by omega), e2, zcp_r J1 (by omega), e1, zs_r J (by omega)]
  · rw [if_neg c]
    exact put J l h1 (by omega) h3 (by unfold addLi; rw [if_neg (by omega)]) zF.rf
theorem s_listM {s ep n now : Int} {l : List (Int × Int)} {J : zM} {L : yM} {Q : zM → yM → Prop} (hs : s01 s) (hnow : J 491 3 = now) (h : MLi s J l) (hQ : ∀ J', MLi s J' (addLi l (ep, n)) → J' 533 = (zs J 533 s now) 533 → (∀ u, u ≠ s → J' 530 u = J 530 u) → (∀ k, ¬ (8 * s ≤ k ∧ k < 8 * s + 8) → J' 531 k = J 531 k ∧ J' 532 k = J 532 k) → zF (fun a => 530 ≤ a ∧ a ≤ 533) J J' → Q J' L) : w_X12_listed s ep n J L Q := by
  obtain ⟨h1, h2, h3⟩ := h
  have hs2 : 0 ≤ s ∧ s < 2 := by omega
  unfold w_X12_listed
  refine ⟨hs2, fun K hK => ?_⟩
  have put : ∀ (J1 : zM) (l0 : List (Int × Int)), J1 530 s = (l0.length : Int) → l0.length < 8 → (∀ (i : Nat) (q : Int × Int), l0[i]? = some q → J1 531 (8 * s + (i : Int)) = q.1 ∧ J1 532 (8 * s + (i : Int)) = q.2) → l0 ++ [(ep, n)] = addLi l (ep, n) → (∀ u, u ≠ s → J1 530 u = J 530 u) → (∀ k, ¬ (8 * s ≤ k ∧ k < 8 * s + 8) → J1 531 k = J 531 k ∧ J1 532 k = J 532 k) → zF (fun a => 530 ≤ a ∧ a ≤ 532) J J1 → K J1 L := by
    intro J1 l0 a1 a2 a3 a4 a5 a6 f1
    refine hK J1 L ?_
    rw [a1]
    refine ⟨hs2, by omega, fun J2 e2 => ⟨hs2, ?_⟩⟩
    have b2 : J2 530 = J1 530 := by rw [e2]; exact zs_r J1 (by decide)
    rw [b2, a1]
    refine ⟨by omega, fun J3 e3 => ⟨hs2, hs2, fun J4 e4 => ⟨hs2, fun J5 e5 => ?_⟩⟩⟩
    have b3 : J3 530 = J1 530 := by rw [e3, zs_r J2 (by decide)]; exact b2
    rw [b3, a1] at e4
    have b491 : J4 491 3 = now := by rw [e4, zs_r J3 (by decide), e3, zs_r J2 (by decide), e2, zs_r J1 (by decide), f1 491 (by omega)]; exact hnow
    rw [b491] at e5
    have g531 : J5 531 = J2 531 := by rw [e5, zs_r J4 (by decide), e4, zs_r J3 (by decide), e3, zs_r J2 (by decide)]
    have g532 : J5 532 = J3 532 := by rw [e5, zs_r J4 (by decide), e4, zs_r J3 (by decide)]
    refine hQ J5 ?_ ?_ ?_ ?_ ?_
    · rw [← a4]
      refine ⟨by rw [e5, zs_r J4 (by decide), e4, zs_s, List.length_append, List.length_singleton]; omega, by rw [List.length_append, List.length_singleton]; omega, fun i q hq => ?_⟩
      rw [g531, g532]
      by_cases c : i = l0.length
      · subst c
        rw [List.getElem?_append_right (Nat.le_refl _), Nat.sub_self] at hq
        cases hq
        exact ⟨by rw [e2, zs_s], by rw [e3, zs_s]⟩
      · have hil : i < (l0 ++ [(ep, n)]).length := (List.getElem?_eq_some_iff.mp hq).1
        rw [List.length_append, List.length_singleton] at hil
        rw [List.getElem?_append_left (by omega)] at hq
        have h9 := a3 i q hq
        exact ⟨by rw [e2, zs_n J1 (Or.inr (by omega))]; exact h9.1, by rw [e3, zs_n J2 (Or.inr (by omega)), e2, zs_r J1 (by decide)]; exact h9.2⟩
    · rw [e5, zs_row, zs_row, e4, zs_r J3 (by decide), e3, zs_r J2 (by decide), e2, zs_r J1 (by decide), f1 533 (by omega)]
    · intro u hu
      rw [e5, zs_r J4 (by decide), e4, zs_n J3 (Or.inr hu), b3]
      exact a5 u hu
    · intro k hk
      rw [g531, g532]
      refine ⟨?_, ?_⟩
      · rw [e2, zs_n J1 (Or.inr (by omega))]; exact (a6 k hk).1
      · rw [e3, zs_n J2 (Or.inr (by omega)), e2, zs_r J1 (by decide)]; exact (a6 k hk).2
    · intro a ha
      rw [e5, zs_r J4 (by omega), e4, zs_r J3 (by omega), e3, zs_r J2 (by omega), e2, zs_r J1 (by omega)]
      exact f1 a (by omega)
  rw [h1]
  refine ⟨⟨by omega, by omega⟩, ?_⟩
  by_cases c : (l.length : Int) = 8
  · rw [if_pos c]
    refine zl_z.by (fun m x J' L' => (m : Int) = 7 - x ∧ 0 ≤ x ∧ L' = L ∧ J' = zcp (zcp J 531 (8 * s + 1) 531 (8 * s) x) 532 (8 * s + 1) 532 (8 * s) x) ?_ 7 0 J L ⟨by omega, by omega, rfl, by rw [zcp_0, zcp_0]⟩
    rintro m x J1 L1 KK ⟨hm, hx, rfl, e1⟩ hKK
    refine ⟨⟨by omega, by omega⟩, ?_⟩
    by_cases d : x < 7
    · rw [if_pos d]
      refine ⟨⟨by omega, by omega⟩, ⟨by omega, by omega⟩, fun J2 e2 => ⟨⟨by omega, by omega⟩, ⟨by omega, by omega⟩, fun J3 e3 => ?_⟩⟩
      refine hKK (m - 1) (x + 1) J3 L1 (by omega) ⟨by omega, by omega, rfl, ?_⟩
      obtain ⟨JA, hA⟩ : ∃ JA, JA = zcp J 531 (8 * s + 1) 531 (8 * s) x := ⟨_, rfl⟩
      rw [← hA] at e1
      have k1 := zcp_succ2 (J := J) (a := 531) (b := 531) (sp := 8 * s + 1) (dp := 8 * s) hx (Or.inr (by omega))
      rw [← hA] at k1
      have j1 : J1 531 = JA 531 := by rw [e1]; exact zcp_r JA (by decide)
      rw [← k1]
      funext a i
      rw [e3, e2, j1]
      by_cases q1 : a = 532 ∧ i = 8 * s + x
      · obtain ⟨rfl, rfl⟩ := q1
        rw [zs_s, zs_r _ (by decide), e1, zcp_out JA (by omega), zcp_in _ (by omega), zs_r _ (by decide)]
        congr 1
        omega
      · rw [zs_n _ (by omega)]
        by_cases q2 : a = 531
        · subst q2
          rw [zcp_r _ (by decide)]
          by_cases q3 : i = 8 * s + x
          · subst q3
            rw [zs_s, zs_s]
            congr 1
            omega
          · rw [zs_n _ (Or.inr q3), zs_n _ (Or.inr q3), j1]
        · rw [zs_r _ q2, e1]
          by_cases q3 : a = 532
          · subst q3
            by_cases q4 : 8 * s ≤ i ∧ i < 8 * s + x
            · rw [zcp_in _ (by omega), zcp_in _ (by omega), zs_r _ (by decide)]
            · rw [zcp_out _ (by omega), zcp_out _ (by omega), zs_r _ (by decide)]
          · rw [zcp_r _ q3, zcp_r _ q3, zs_r _ q2]
    · rw [if_neg d]
      have hx7 : x = 7 := by omega
      subst hx7
      refine ⟨hs2, fun J2 e2 => ?_⟩
      have r2 : ∀ a, a ≠ 530 → J2 a = J1 a := fun a ha => by rw [e2]; exact zs_r J1 ha
      have v531 : ∀ k, J2 531 k = if 8 * s ≤ k ∧ k < 8 * s + 7 then J 531 (k + 1) else J 531 k := fun k => by
        rw [r2 531 (by decide), e1, zcp_r _ (by decide)]
        by_cases q : 8 * s ≤ k ∧ k < 8 * s + 7
        · rw [if_pos q, zcp_in J q]; congr 1; omega
        · rw [if_neg q, zcp_out J q]
      have v532 : ∀ k, J2 532 k = if 8 * s ≤ k ∧ k < 8 * s + 7 then J 532 (k + 1) else J 532 k := fun k => by
        rw [r2 532 (by decide), e1]
        by_cases q : 8 * s ≤ k ∧ k < 8 * s + 7
        · rw [if_pos q, zcp_in _ q, zcp_r _ (by decide)]; congr 1; omega
        · rw [if_neg q, zcp_out _ q, zcp_r _ (by decide)]
      refine put J2 (l.drop 1) ?_ (by rw [List.length_drop]; omega) (fun i q hq => ?_) (by unfold addLi; rw [if_pos (by omega)]) ?_ ?_ ?_
      · rw [e2, zs_s, List.length_drop]; omega
      · rw [List.getElem?_drop] at hq
        have h9 := h3 (1 + i) q hq
        have hil := (List.getElem?_eq_some_iff.mp hq).1
        rw [v531, v532, if_pos (by omega), if_pos (by omega), show 8 * s + (i : Int) + 1 = 8 * s + ((1 + i : Nat) : Int) by omega]
        exact h9
      · intro u hu
        rw [e2, zs_n J1 (Or.inr hu), e1, zcp_r _ (by decide), zcp_r _ (by decide)]
      · intro k hk
        rw [v531, v532, if_neg (by omega), if_neg (by omega)]
        exact ⟨rfl, rfl⟩
      · intro a ha
        rw [r2 a (by omega), e1, zcp_r _ (by omega), zcp_r _ (by omega)]
  · rw [if_neg c]
    exact put J l h1 (by omega) h3 (by unfold addLi; rw [if_neg (by omega)]) (fun _ _ => rfl) (fun _ _ => ⟨rfl, rfl⟩) zF.rf
