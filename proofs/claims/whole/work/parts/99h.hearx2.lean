theorem xs_hearFragment {e : Nat} {bd s ep nm : Int} {c : List Int} {A : SA} {J : zM} {L : yM} {Q : Int → zM → yM → Prop} (he : iSide e) (hs : s01 s) (h : XS e s J L A) (ai : AI bd s A) (hc : XC J ep c) (hf : FR J c) (h6 : J 3 6 = nm) (hnm : 0 ≤ nm ∧ nm < 65536) (hep : ep3 ep) (h13 : ep ≤ aZ A 13) (hbd : bd ≤ 2000000000) (hg : goodF s ep c A)
    (hQ : ∀ J' a, (∀ Q' : zM → yM → Prop, (∀ J'' L'', XS e s J'' L'' (handC s ep nm c A) → XO e J L J'' L'' → Q' J'' L'') → w_X8_act e a J' L Q') → Q a J' L) : w_X8_hearFragment e J L Q := by
  have ob := hc.2.2.2.2.2
  have b0 := ai.b0
  obtain ⟨bk, bl, bn, bf, bc⟩ := f_b ob
  obtain ⟨g1, g2, g3⟩ := hg
  have he2 : 139 ≤ e := by unfold iSide at he; omega
  have e0 : J e 0 = s := h.1.1
  have e12 : J e 12 = aZ A 0 := h.1.2.1
  have e19 : J e 19 = aZ A 17 := h.1.2.2.2.2.2.2.2.2
  have hE : handC s ep nm c A = if aZ A 0 = 0 then (if s = 1 then helS (fN c) (c.drop 8) A else A) else if toK (fN c) A then keepF c (listA ep nm A) else if fN c < aZ A 2 then oldA s (fKd c) (listA ep nm A) else listA ep nm A := by
    unfold handC
    rw [if_neg (fun q => q ⟨g1, g2, g3⟩)]
  unfold w_X8_hearFragment
  rw [e12, e0]
  refine ⟨⟨by omega, by omega⟩, ?_⟩
  by_cases c0 : aZ A 0 = 0
  · rw [if_pos c0]
    rw [if_pos c0] at hE
    refine ⟨R_s hs, ?_⟩
    by_cases c1 : s = 1
    · rw [if_pos c1]
      rw [if_pos c1] at hE
      refine hQ J 1 (fun Q' hQ' => ?_)
      have z13 := (ai.b22 c0).2.2.2.2.1
      have k1 : fKd c = 1 := by
        have := g2.1
        unfold kOn at this
        omega
      have k2 := g2.2.2 k1
      have w2 := g1.2.1
      have w1 := g1.1
      have kl := (kln g2.2.1).1 k1
      have ld : (c.drop 8).length = c.length - 8 := List.length_drop
      subst c1
      refine xs_hello1 he h ai c0 ⟨hf.2.2.1, ?_, ?_, ?_, ?_, fun x hx => ob x (List.mem_of_mem_drop hx), ?_⟩ ⟨bn.1, k2.2⟩ (fun J' L' q1 q2 => hQ' J' L' (by rw [hE]; exact q1) q2)
      · rw [hf.2.1, ld]; omega
      · rw [hf.2.2.2.2.2]; have := hc.2.2.1; omega
      · rw [hf.2.2.2.2.2, ld]; have := hc.2.2.2.1; omega
      · rw [hf.2.2.2.2.2, ld]
        have := sg_part hc.2.2.2.2.1 8 (c.length - 8) (by omega)
        rw [show J 3 7 + 8 = J 3 7 + ((8 : Nat) : Int) from rfl, this]
        unfold partI
        rw [← ld, List.take_length]
      · rw [ld]; omega
    · rw [if_neg c1]
      rw [if_neg c1] at hE
      exact hQ J 0 (fun Q' hQ' => x_act0 (hQ' J L (by rw [hE]; exact h) XO.rf))
  · rw [if_neg c0, hc.1, h6, e19]
    rw [if_neg c0] at hE
    refine s_listX h.2.2.2.2.2.1.1 (fun J1 q1 q2 q3 => ?_)
    have X1 := XS.li he h q1 q2 q3
    have hX1 : XS e s J1 L (listA ep nm A) := X1.1
    have aB := AI_list (ep := ep) (nm := nm) ai hep hnm
    have r3 : J1 3 = J 3 := q3 3 (by omega)
    have r4 : J1 4 = J 4 := q3 4 (by omega)
    refine x_toKeep hX1 ai rfl rfl (by rw [r3]; exact hf.2.2.1) ob (fun nk => ?_) (fun tk => ?_)
    · rw [if_neg nk] at hE
      intro K10 hK10
      refine ⟨by decide, ?_⟩
      rw [if_pos rfl]
      refine hK10 J1 L ?_
      have b2 := ai.b2
      have x14 : J1 e 14 = aZ A 2 := hX1.1.2.2.2.1
      have x0 : J1 e 0 = s := hX1.1.1
      rw [show J1 3 11 = fN c by rw [r3]; exact hf.2.2.1, x14]
      refine ⟨R_o bn, ⟨by omega, by omega⟩, ?_⟩
      by_cases cn : fN c < aZ A 2
      · rw [if_pos cn]
        rw [if_pos cn] at hE
        intro K16 hK16
        have go : ¬ (s = 1 ∧ opn (listA ep nm A)) → K16 J1 L := fun ns => hK16 J1 L (by
          have hO : oldA s (fKd c) (listA ep nm A) = if (s = 1 ∧ fKd c = 1) ∨ (s = 0 ∧ opn (listA ep nm A)) then agnA s (listA ep nm A) else listA ep nm A := by
            unfold oldA
            rw [if_neg ns]
          intro K20 hK20
          have nope : ¬ ((s = 1 ∧ fKd c = 1) ∨ (s = 0 ∧ opn (listA ep nm A))) → Q 0 J1 L := fun q => hQ J1 0 (fun Q' hQ' => x_act0 (hQ' J1 L (by rw [hE, hO, if_neg q]; exact hX1) X1.2))
          have yes : ((s = 1 ∧ fKd c = 1) ∨ (s = 0 ∧ opn (listA ep nm A))) → ¬ (aZ (listA ep nm A) 10 = 1 ∧ aZ (listA ep nm A) 9 < 8 ∧ aZ (listA ep nm A) 8 < aZ (listA ep nm A) 17) → Q 0 J1 L := fun q u => hQ J1 0 (fun Q' hQ' => x_act0 (hQ' J1 L (by rw [hE, hO, if_pos q]; unfold agnA; rw [if_neg u]; exact hX1) X1.2))
          have k20 : ∀ x : Int, (x = 0 ∧ ¬ ((s = 1 ∧ fKd c = 1) ∨ (s = 0 ∧ opn (listA ep nm A)))) ∨ (x = 1 ∧ ((s = 1 ∧ fKd c = 1) ∨ (s = 0 ∧ opn (listA ep nm A)))) → K20 x J1 L := fun x hx => hK20 x J1 L (by
            intro K24 hK24
            have y13 : J1 (e + 8) 13 = aZ A 10 := hX1.2.2.2.1.2.2.2.1
            have y12 : J1 (e + 8) 12 = aZ A 9 := hX1.2.2.2.1.2.2.1
            have y11 : J1 (e + 8) 11 = aZ A 8 := hX1.2.2.2.1.2.1
            have y19 : J1 e 19 = aZ A 17 := hX1.1.2.2.2.2.2.2.2.2
            rw [y13, y12, y11, y19]
            have k24 : ∀ y : Int, (y = 0 ∧ ¬ (aZ A 10 = 1 ∧ aZ A 9 < 8 ∧ aZ A 8 < aZ A 17)) ∨ (y = 1 ∧ (aZ A 10 = 1 ∧ aZ A 9 < 8 ∧ aZ A 8 < aZ A 17)) → K24 y J1 L := fun y hy => hK24 y J1 L (by
              rcases hx with ⟨rfl, nx⟩ | ⟨rfl, px⟩
              · refine ⟨by decide, ?_⟩
                rw [if_pos rfl]
                exact nope nx
              · refine ⟨by decide, ?_⟩
                rw [if_neg (by decide)]
                rcases hy with ⟨rfl, ny⟩ | ⟨rfl, py⟩
                · refine ⟨by decide, ?_⟩
                  rw [if_pos rfl]
                  exact yes px ny
                · refine ⟨by decide, ?_⟩
                  rw [if_neg (by decide)]
                  refine hQ J1 2 (fun Q' hQ' => x_act2 he hs hX1 aB py.2.1 (fun J' u1 u2 => hQ' J' L ?_ (X1.2.tr u2)))
                  rw [hE, hO, if_pos px]
                  unfold agnA
                  rw [if_pos (show aZ (listA ep nm A) 10 = 1 ∧ aZ (listA ep nm A) 9 < 8 ∧ aZ (listA ep nm A) 8 < aZ (listA ep nm A) 17 from py)]
                  exact u1)
            intro K31 hK31
            have b8 := ai.b8
            have b9 := ai.b9
            have b10 := ai.b10
            have b17 := ai.b17
            have k31 : ¬ (aZ A 10 = 1 ∧ aZ A 9 < 8 ∧ aZ A 8 < aZ A 17) → K31 J1 L := fun q => hK31 J1 L (k24 0 (Or.inl ⟨rfl, q⟩))
            have R10 : R32 (aZ A 10) := ⟨by omega, by omega⟩
            have R9 : R32 (aZ A 9) := ⟨by omega, by omega⟩
            refine ⟨R10, ?_⟩
            by_cases t1 : aZ A 10 = 0
            · rw [if_pos t1]; exact k31 (fun q => by have := q.1; omega)
            · rw [if_neg t1]
              have t1' : aZ A 10 = 1 := b10.elim (fun q => absurd q t1) id
              refine ⟨R9, ?_⟩
              by_cases t2 : aZ A 9 < 8
              · rw [if_pos t2]
                refine ⟨R_z ⟨b17.1, b17.2⟩ hbd, R_z ⟨b8.1, Int.le_trans b8.2 b17.2⟩ hbd, ?_⟩
                by_cases t3 : aZ A 8 < aZ A 17
                · rw [if_pos t3]; exact k24 1 (Or.inr ⟨rfl, t1', t2, t3⟩)
                · rw [if_neg t3]; exact k31 (fun q => t3 q.2.2)
              · rw [if_neg t2]; exact k31 (fun q => t2 q.2.1))
          rw [x0]
          refine ⟨R_s hs, ?_⟩
          by_cases s1 : s = 1
          · rw [if_pos s1, show J1 3 9 = fKd c by rw [r3]; exact hf.1]
            refine ⟨R_o bk, ?_⟩
            by_cases k1 : fKd c = 1
            · rw [if_pos k1]
              exact k20 1 (Or.inr ⟨rfl, Or.inl ⟨s1, k1⟩⟩)
            · rw [if_neg k1]
              exact k20 0 (Or.inl ⟨rfl, fun q => q.elim (fun u => k1 u.2) (fun u => by have := u.1; omega)⟩)
          · rw [if_neg s1]
            have s0 : s = 0 := hs.elim id (fun q => absurd q s1)
            refine x_isOpen hX1 ai rfl (fun q => k20 0 (Or.inl ⟨rfl, fun u => u.elim (fun v => s1 v.1) (fun v => q v.2)⟩)) (fun q => k20 1 (Or.inr ⟨rfl, Or.inr ⟨s0, q⟩⟩)))
        rw [x0]
        refine ⟨R_s hs, ?_⟩
        by_cases s1 : s = 1
        · rw [if_pos s1]
          refine x_isOpen hX1 ai rfl (fun q => ?_) (fun q => ?_)
          · refine ⟨by decide, ?_⟩
            rw [if_pos rfl]
            exact go (fun u => q u.2)
          · refine ⟨by decide, ?_⟩
            rw [if_neg (by decide)]
            refine hQ J1 3 (fun Q' hQ' => x_act3 he hs hX1 aB (fun J' u1 u2 => hQ' J' L ?_ (X1.2.tr u2)))
            rw [hE]
            unfold oldA
            rw [if_pos (show s = 1 ∧ opn (listA ep nm A) from ⟨s1, q⟩)]
            exact u1
        · rw [if_neg s1]
          exact go (fun u => s1 u.1)
      · rw [if_neg cn]
        rw [if_neg cn] at hE
        exact hQ J1 0 (fun Q' hQ' => x_act0 (hQ' J1 L (by rw [hE]; exact hX1) X1.2))
    · rw [if_pos tk] at hE
      intro K10 hK10
      refine ⟨by decide, ?_⟩
      rw [if_neg (by decide)]
      have c7 := hc.2.2.1
      have c5 := hc.2.2.2.1
      have w2 := g1.2.1
      have bfr := g1.2.2
      have hk3 : J1 3 14 = J 3 7 + 8 := by rw [r3]; exact hf.2.2.2.2.2
      refine xs_keep (n := fN c) (kd := fKd c) (ln := fLn c) (fr := fFr c) (cn := fCn c) (ba := J 3 7 + 8) he hX1 aB (by rw [r3]; exact hf.2.2.1) (by rw [r3]; exact hf.1) (by rw [r3]; exact hf.2.1) (by rw [r3]; exact hf.2.2.2.1) (by rw [r3]; exact hf.2.2.2.2.1) hk3 ⟨tk.2.1, tk.2.2, bn.2⟩ ⟨bf.1, bfr⟩ g2.2.1 ⟨by omega, by omega⟩ (g3 tk) (fun J2 u1 u2 => hK10 J2 L ?_)
      have v3 : J2 3 = J 3 := (u2 3 (by omega)).trans r3
      have x14 : J2 e 14 = aZ A 2 := u1.1.2.2.2.1
      have b2 := ai.b2
      have tk2 := tk.2.1
      rw [show J2 3 11 = fN c by rw [v3]; exact hf.2.2.1, x14]
      refine ⟨R_o bn, ⟨by omega, by omega⟩, ?_⟩
      rw [if_neg (by omega)]
      refine hQ J2 0 (fun Q' hQ' => x_act0 (hQ' J2 L ?_ (X1.2.tr (XO.F u2 (fun a q => Or.inl (by omega))))))
      rw [hE]
      unfold keepF
      have : keepA (fN c) (fKd c) (fLn c) (fFr c) (fCn c) (fun i => J1 4 (J 3 7 + 8 + i)) (listA ep nm A) = keepA (fN c) (fKd c) (fLn c) (fFr c) (fCn c) (fun i => c.getD (8 + i.toNat) 0) (listA ep nm A) := keepA_b (fun i p q => by
        show J1 4 (J 3 7 + 8 + i) = c.getD (8 + i.toNat) 0
        rw [r4, ← hc.get (i := 8 + i.toNat) (by omega)]
        congr 1
        omega)
      rw [← this]
      exact u1
