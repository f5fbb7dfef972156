theorem AI_fnew {bd s : Int} {F : FLT} {A : SA} (ai : AI bd s (newA F A)) : AI bd s (flyA s (newA F A)) := by
  refine AI_fly ai ?_
  show ((logC (aT A)).2.2.2.2.length : Int) ≤ 204 * 0
  exact Int.le_refl 0
theorem AI_hel {bd its : Int} {b : List Int} {A : SA} (ai : AI bd 1 A) (h0 : aZ A 0 = 0) (hits : 0 ≤ its ∧ its ≤ 1) (hb : b.length = 61 ∨ b.length = 77) : AI bd 1 (helS its b A) := by
  unfold helS
  split
  · exact AI_alert ai (by decide)
  · split
    · unfold retryA
      have lck : ((ckI A b).take 16).length = 16 := by rw [List.length_take]; unfold ckI; rw [mcI_len]; rfl
      have ock : oct ((ckI A b).take 16) := oct_take (mcI_oct _ _) 16
      refine ai.snd (Or.inl rfl) (by decide) ?_ ?_
      · unfold frI
        intro x hx
        rcases List.mem_append.mp hx with q | q
        · simp only [List.mem_cons, List.not_mem_nil, or_false] at q
          rcases q with rfl | rfl | rfl | rfl | rfl | rfl | rfl | rfl <;> omega
        · exact ock x q
      · unfold frI
        rw [List.length_append, lck]
        show 8 + 16 ≤ 86
        decide
    · split
      · exact AI_alert ai (by decide)
      · split
        · exact AI_alert ai (by decide)
        · exact AI_fnew (AI_answer ai h0 hits hb)
theorem AI_hear {bd t s ep nm : Int} {c : List Int} {A : SA} (hs : s01 s) (ai : AI bd s A) (ob : oct c) (hep : ep3 ep) (hnm : 0 ≤ nm ∧ nm < 65536) (h13 : ep ≤ aZ A 13) : AI (bd + 1) s (hearC t s ep nm c A) := by
  have bn := (f_b ob).2.2.1
  have up : ∀ B, AI bd s B → AI (bd + 1) s B := fun B q => q.mono (by omega)
  unfold hearC
  split
  · exact up _ (AI_alertC ai ob)
  · split
    · refine up _ ?_
      unfold handC
      by_cases g : goodF s ep c A
      · rw [if_neg (fun q => q g)]
        obtain ⟨g1, g2, g3⟩ := g
        by_cases c0 : aZ A 0 = 0
        · rw [if_pos c0]
          by_cases s1 : s = 1
          · rw [if_pos s1]
            subst s1
            have z13 := (ai.b22 c0).2.2.2.2.1
            have k1 : fKd c = 1 := by
              have := g2.1
              unfold kOn at this
              omega
            have k2 := g2.2.2 k1
            have w2 := g1.2.1
            have kl := (kln g2.2.1).1 k1
            have ld : (c.drop 8).length = c.length - 8 := List.length_drop
            exact AI_hel ai c0 ⟨bn.1, k2.2⟩ (by rw [ld]; omega)
          · rw [if_neg s1]
            exact ai
        · rw [if_neg c0]
          have aB := AI_list (ep := ep) (nm := nm) ai hep hnm
          by_cases tk : toK (fN c) A
          · rw [if_pos tk]
            exact AI_keepF aB g1 g2 tk ob (g3 tk)
          · rw [if_neg tk]
            split
            · exact AI_old aB
            · exact aB
      · rw [if_pos g]
        exact AI_cnt ai (by decide)
    · split
      · exact AI_dataC ai
      · split
        · exact up _ (AI_ackE ai)
        · exact up _ (AI_cnt ai (by decide))
/-- behind a record: nothing whole at next, and the side is well -/
theorem AI_hearM {bd t s ep nm : Int} {c : List Int} {A : SA} (hs : s01 s) (ai : AI bd s A) (ob : oct c) (hep : ep3 ep) (hnm : 0 ≤ nm ∧ nm < 65536) (h13 : ep ≤ aZ A 13) (hn : ¬ nextA A) : AI (bd + 1) s (hearM t s ep nm c A) ∧ ¬ nextA (hearM t s ep nm c A) := by
  have a := AI_hear (t := t) hs ai ob hep hnm h13
  rw [← take_hear (t := t) (ep := ep) (nm := nm) ai ob hn]
  have r := takeN_stop hs 5 (hearC t s ep nm c A) a (Nat.le_trans (mu_le s _) (by decide))
  exact ⟨r.2, r.1⟩
