/-! nothing whole at next, behind a record -/
theorem nx_phase {A : SA} (h : aZ A 0 ≠ 1) : ¬ nextA A := fun q => h q.1
theorem nx_alertA {s cd : Int} {A : SA} (h : ¬ nextA A) : ¬ nextA (alertA s cd A) := by
  unfold alertA noteA
  split
  · exact nx_same h rfl rfl rfl
  · exact nx_same h rfl rfl rfl
theorem nx_alertC {ep : Int} {c : List Int} {A : SA} (h : ¬ nextA A) : ¬ nextA (alertC ep c A) := by
  unfold alertC
  split
  · exact nx_same h rfl rfl rfl
  · split
    · exact h
    · split
      · exact nx_same h rfl rfl rfl
      · exact nx_phase (show (4 : Int) ≠ 1 by decide)
theorem nx_dataC {ep : Int} {c : List Int} {A : SA} (h : ¬ nextA A) : ¬ nextA (dataC ep c A) := by
  unfold dataC
  split
  · exact nx_same h rfl rfl rfl
  · exact nx_same h rfl rfl rfl
theorem nx_ackE {ep : Int} {c : List Int} {A : SA} (h : ¬ nextA A) : ¬ nextA (ackE ep c A) := by
  unfold ackE
  split
  · exact nx_same h rfl rfl rfl
  · split
    · exact nx_same h rfl rfl rfl
    · exact nx_same h rfl rfl rfl
theorem nx_acks {s : Int} {A : SA} (h : ¬ nextA A) : ¬ nextA (acksA s A) := by
  unfold acksA
  split
  · exact h
  · exact nx_same h rfl rfl rfl
theorem nx_old {s k : Int} {A : SA} (h : ¬ nextA A) : ¬ nextA (oldA s k A) := by
  unfold oldA
  split
  · exact nx_acks h
  · split
    · unfold agnA
      split
      · exact nx_same h rfl rfl rfl
      · exact h
    · exact h
theorem nx_hel {bd its : Int} {b : List Int} {A : SA} (ai : AI bd 1 A) (h0 : aZ A 0 = 0) (hi : 0 ≤ its) : ¬ nextA (helS its b A) := by
  have h : ¬ nextA A := nx_phase (by omega)
  have z2 := (ai.b22 h0).2.2.2.2.2.1
  unfold helS
  split
  · exact nx_alertA h
  · split
    · exact nx_same h rfl rfl rfl
    · split
      · exact nx_alertA h
      · split
        · exact nx_alertA h
        · intro q
          have w : (aK A (its + 1)).1 ≠ -1 := q.2.1
          exact (ai.2.2.2.2.1 (its + 1) (by omega) w).1 h0
theorem take_hear {bd t s ep nm : Int} {c : List Int} {A : SA} (ai : AI bd s A) (ob : oct c) (hn : ¬ nextA A) : takeN 5 s (hearC t s ep nm c A) = hearM t s ep nm c A := by
  have bn := (f_b ob).2.2.1
  unfold hearM
  by_cases t2 : t = 22
  · rw [if_pos t2]
    have hE : hearC t s ep nm c A = handC s ep nm c A := by unfold hearC; rw [if_neg (by omega), if_pos t2]
    rw [hE]
    unfold hndM
    by_cases d : goodF s ep c A ∧ toK (fN c) A
    · rw [if_pos d]
    · rw [if_neg d]
      refine takeN_no ?_
      unfold handC
      by_cases g : goodF s ep c A
      · rw [if_neg (fun q => q g)]
        have nk : ¬ toK (fN c) A := fun q => d ⟨g, q⟩
        rw [if_neg nk]
        by_cases c0 : aZ A 0 = 0
        · rw [if_pos c0]
          by_cases s1 : s = 1
          · rw [if_pos s1]
            subst s1
            exact nx_hel ai c0 bn.1
          · rw [if_neg s1]
            exact hn
        · rw [if_neg c0]
          have hl : ¬ nextA (listA ep nm A) := nx_same hn rfl rfl rfl
          split
          · exact nx_old hl
          · exact hl
      · rw [if_pos g]
        exact nx_same hn rfl rfl rfl
  · rw [if_neg t2]
    refine takeN_no ?_
    unfold hearC
    rw [if_neg t2]
    split
    · exact nx_alertC hn
    · split
      · exact nx_dataC hn
      · split
        · exact nx_ackE hn
        · exact nx_same hn rfl rfl rfl
