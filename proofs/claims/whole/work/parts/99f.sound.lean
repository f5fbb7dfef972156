theorem kon1 {s ep k : Int} (h : kOn s ep k) (q : k = 1) : s = 1 := by unfold kOn at h; omega
theorem kon2 {s ep k : Int} (h : kOn s ep k) (q : k = 2 ∨ k = 6 ∨ k = 8) : s = 0 := by unfold kOn at h; omega
theorem kon3 {s ep k : Int} (h : kOn s ep k) : ep = (if k = 8 ∨ k = 20 then 2 else 0) := by unfold kOn at h; split <;> omega
theorem kon4 {s ep k : Int} (h : (s = 1 ∧ (k = 1 ∨ k = 20)) ∨ (s = 0 ∧ (k = 2 ∨ k = 6 ∨ k = 8 ∨ k = 20))) (q : ep = (if k = 8 ∨ k = 20 then 2 else 0)) : kOn s ep k := by unfold kOn; split at q <;> omega
theorem kln {k l : Int} (h : kLen k l) : (k = 1 → l = 61 ∨ l = 77) ∧ (k = 2 → l = 20) ∧ (k = 6 → l = 16) ∧ (k = 8 → 2 ≤ l ∧ l ≤ 152) ∧ (k = 20 → l = 32) ∧ (k = 1 ∨ k = 2 ∨ k = 6 ∨ k = 8 ∨ k = 20) := by unfold kLen at h; omega
theorem R_u {x : Int} (h : 0 ≤ x ∧ x < 65536) : R32 x := ⟨by omega, by omega⟩
theorem R_o {x : Int} (h : 0 ≤ x ∧ x < 256) : R32 x := ⟨by omega, by omega⟩
theorem R_s {x : Int} (h : s01 x) : R32 x := ⟨by omega, by omega⟩
theorem R_e {x : Int} (h : ep3 x) : R32 x := ⟨by omega, by omega⟩
theorem x_isSound {e : Nat} {s ep : Int} {c : List Int} {J : zM} {L : yM} {Q : Int → zM → yM → Prop} (hs : s01 s) (he0 : J e 0 = s) (h4 : J 3 4 = ep) (hep : ep3 ep) (hf : FR J c) (ob : oct c) (hw : frW c) (hQ0 : ¬ sndF s ep c → Q 0 J L) (hQ1 : sndF s ep c → Q 1 J L) : w_X8_isSound e J L Q := by
  obtain ⟨b0, b1, b2, b3, b4⟩ := f_b ob
  have Rk := R_o b0
  have Rl := R_u b1
  have Rn := R_o b2
  have Rc := R_u b4
  have Rs := R_s hs
  have Re := R_e hep
  obtain ⟨r9, r10, r11, r12, r13, -⟩ := hf
  unfold w_X8_isSound
  intro K4 hK4
  rw [r9, r10, r11, r13, he0]
  have z : ¬ sndF s ep c → K4 0 J L := fun q => hK4 0 J L ⟨by decide, by rw [if_pos rfl]; exact hQ0 q⟩
  have o : ((s = 1 ∧ (fKd c = 1 ∨ fKd c = 20)) ∨ (s = 0 ∧ (fKd c = 2 ∨ fKd c = 6 ∨ fKd c = 8 ∨ fKd c = 20))) → kLen (fKd c) (fLn c) → (fKd c = 1 → fCn c = fLn c ∧ fN c ≤ 1) → K4 1 J L := fun q1 q2 q3 => hK4 1 J L ⟨by decide, by
    rw [if_neg (by decide)]
    unfold w_X11_epochOfKind
    rw [r9, h4]
    have fin : ∀ v : Int, v = (if fKd c = 8 ∨ fKd c = 20 then 2 else 0) → R32 v → R32 ep ∧ R32 v ∧ (if ep = v then Q 1 J L else Q 0 J L) := fun v hv Rv => by
      refine ⟨Re, Rv, ?_⟩
      by_cases d : ep = v
      · rw [if_pos d]
        exact hQ1 ⟨kon4 q1 (d.trans hv), q2, q3⟩
      · rw [if_neg d]
        exact hQ0 (fun q => d ((kon3 q.1).trans hv.symm))
    refine ⟨Rk, ?_⟩
    by_cases d1 : fKd c = 8
    · rw [if_pos d1]; exact fin 2 (by rw [if_pos (Or.inl d1)]) (by decide)
    · rw [if_neg d1]
      by_cases d2 : fKd c = 20
      · rw [if_pos d2]; exact fin 2 (by rw [if_pos (Or.inr d2)]) (by decide)
      · rw [if_neg d2]; exact fin 0 (by rw [if_neg (fun q => q.elim d1 d2)]) (by decide)⟩
  refine ⟨Rk, ?_⟩
  have n1 : ∀ q : ¬ (fKd c = 1 ∨ fKd c = 2 ∨ fKd c = 6 ∨ fKd c = 8 ∨ fKd c = 20), ¬ sndF s ep c := fun q u => q (kln u.2.1).2.2.2.2.2
  by_cases d1 : fKd c = 1
  · rw [if_pos d1]
    intro K18 hK18 K21 hK21
    have z' : ¬ sndF s ep c → K21 J L := fun q => hK21 J L (hK18 0 J L (z q))
    refine ⟨Rs, ?_⟩
    by_cases a1 : s = 1
    · rw [if_pos a1]
      refine ⟨Rc, Rl, ?_⟩
      by_cases a2 : fCn c = fLn c
      · rw [if_pos a2]
        refine ⟨Rn, ?_⟩
        by_cases a3 : 1 < fN c
        · rw [if_pos a3]
          exact z' (fun u => Int.not_lt.mpr (u.2.2 d1).2 a3)
        · rw [if_neg a3]
          intro K31 hK31
          have o' : kLen (fKd c) (fLn c) → K31 J L := fun q => hK31 J L (hK18 1 J L (o (Or.inl ⟨a1, Or.inl d1⟩) q (fun _ => ⟨a2, Int.not_lt.mp a3⟩)))
          by_cases a4 : fLn c = 61
          · rw [if_pos a4]; exact o' (Or.inl ⟨d1, Or.inl a4⟩)
          · rw [if_neg a4]
            by_cases a5 : fLn c = 77
            · rw [if_pos a5]; exact o' (Or.inl ⟨d1, Or.inr a5⟩)
            · rw [if_neg a5]
              exact z' (fun u => ((kln u.2.1).1 d1).elim a4 a5)
      · rw [if_neg a2]
        exact z' (fun u => a2 (u.2.2 d1).1)
    · rw [if_neg a1]
      exact z' (fun u => a1 (kon1 u.1 d1))
  · rw [if_neg d1]
    by_cases d2 : fKd c = 2
    · rw [if_pos d2]
      intro K38 hK38 K41 hK41
      have z' : ¬ sndF s ep c → K41 J L := fun q => hK41 J L (hK38 0 J L (z q))
      refine ⟨Rs, ?_⟩
      by_cases a1 : s = 0
      · rw [if_pos a1]
        refine ⟨Rl, ?_⟩
        by_cases a2 : fLn c = 20
        · rw [if_pos a2]
          exact hK38 1 J L (o (Or.inr ⟨a1, Or.inl d2⟩) (Or.inr (Or.inl ⟨d2, a2⟩)) (fun q => absurd q d1))
        · rw [if_neg a2]
          exact z' (fun u => a2 ((kln u.2.1).2.1 d2))
      · rw [if_neg a1]
        exact z' (fun u => a1 (kon2 u.1 (Or.inl d2)))
    · rw [if_neg d2]
      by_cases d6 : fKd c = 6
      · rw [if_pos d6]
        intro K38 hK38 K41 hK41
        have z' : ¬ sndF s ep c → K41 J L := fun q => hK41 J L (hK38 0 J L (z q))
        refine ⟨Rs, ?_⟩
        by_cases a1 : s = 0
        · rw [if_pos a1]
          refine ⟨Rl, ?_⟩
          by_cases a2 : fLn c = 16
          · rw [if_pos a2]
            exact hK38 1 J L (o (Or.inr ⟨a1, Or.inr (Or.inl d6)⟩) (Or.inr (Or.inr (Or.inl ⟨d6, a2⟩))) (fun q => absurd q d1))
          · rw [if_neg a2]
            exact z' (fun u => a2 ((kln u.2.1).2.2.1 d6))
        · rw [if_neg a1]
          exact z' (fun u => a1 (kon2 u.1 (Or.inr (Or.inl d6))))
      · rw [if_neg d6]
        by_cases d8 : fKd c = 8
        · rw [if_pos d8]
          intro K38 hK38 K41 hK41
          have z' : ¬ sndF s ep c → K41 J L := fun q => hK41 J L (hK38 0 J L (z q))
          refine ⟨Rs, ?_⟩
          by_cases a1 : s = 0
          · rw [if_pos a1]
            refine ⟨Rl, ?_⟩
            by_cases a2 : fLn c < 2
            · rw [if_pos a2]
              exact z' (fun u => Int.not_lt.mpr ((kln u.2.1).2.2.2.1 d8).1 a2)
            · rw [if_neg a2]
              by_cases a3 : 152 < fLn c
              · rw [if_pos a3]
                exact z' (fun u => Int.not_lt.mpr ((kln u.2.1).2.2.2.1 d8).2 a3)
              · rw [if_neg a3]
                exact hK38 1 J L (o (Or.inr ⟨a1, Or.inr (Or.inr (Or.inl d8))⟩) (Or.inr (Or.inr (Or.inr (Or.inl ⟨d8, Int.not_lt.mp a2, Int.not_lt.mp a3⟩)))) (fun q => absurd q d1))
          · rw [if_neg a1]
            exact z' (fun u => a1 (kon2 u.1 (Or.inr (Or.inr d8))))
        · rw [if_neg d8]
          by_cases d20 : fKd c = 20
          · rw [if_pos d20]
            intro K75 hK75
            refine ⟨Rl, ?_⟩
            by_cases a2 : fLn c = 32
            · rw [if_pos a2]
              exact hK75 1 J L (o (hs.elim (fun q => Or.inr ⟨q, Or.inr (Or.inr (Or.inr d20))⟩) (fun q => Or.inl ⟨q, Or.inr d20⟩)) (Or.inr (Or.inr (Or.inr (Or.inr ⟨d20, a2⟩)))) (fun q => absurd q d1))
            · rw [if_neg a2]
              exact hK75 0 J L (z (fun u => a2 ((kln u.2.1).2.2.2.2.1 d20)))
          · rw [if_neg d20]
            exact z (n1 (fun q => q.elim d1 (fun q => q.elim d2 (fun q => q.elim d6 (fun q => q.elim d8 d20)))))
