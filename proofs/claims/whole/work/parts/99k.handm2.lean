/-! a FRAGMENT comes, in the model -/
theorem m_isKind {s ep k : Int} {J : zM} {L : yM} {Q : Int → zM → yM → Prop} (hs : s01 s) (hep : ep3 ep) (hk : 0 ≤ k ∧ k < 256) (hQ0 : ¬ kOn s ep k → Q 0 J L) (hQ1 : kOn s ep k → Q 1 J L) : w_X12_isKind s ep k J L Q := by
  have Rk := R_o hk
  have Re := R_e hep
  unfold w_X12_isKind
  refine ⟨R_s hs, ?_⟩
  by_cases s1 : s = 1
  · rw [if_pos s1]
    intro K18 hK18
    have k18 : ¬ (ep = 0 ∧ k = 1) → K18 J L := fun q => hK18 J L ⟨Re, by
      by_cases e2 : ep = 2
      · rw [if_pos e2]
        refine ⟨Rk, ?_⟩
        by_cases k2 : k = 20
        · rw [if_pos k2]; exact hQ1 (Or.inl ⟨s1, Or.inr ⟨k2, e2⟩⟩)
        · rw [if_neg k2]; exact hQ0 (fun u => by unfold kOn at u; omega)
      · rw [if_neg e2]; exact hQ0 (fun u => by unfold kOn at u; omega)⟩
    refine ⟨Re, ?_⟩
    by_cases e0 : ep = 0
    · rw [if_pos e0]
      refine ⟨Rk, ?_⟩
      by_cases k1 : k = 1
      · rw [if_pos k1]; exact hQ1 (Or.inl ⟨s1, Or.inl ⟨k1, e0⟩⟩)
      · rw [if_neg k1]; exact k18 (fun u => k1 u.2)
    · rw [if_neg e0]; exact k18 (fun u => e0 u.1)
  · rw [if_neg s1]
    have s0 : s = 0 := hs.elim id (fun q => absurd q s1)
    intro K5 hK5
    have k5 : ¬ (ep = 0 ∧ (k = 6 ∨ k = 2)) → K5 J L := fun q => hK5 J L ⟨Re, by
      by_cases e2 : ep = 2
      · rw [if_pos e2]
        refine ⟨Rk, ?_⟩
        by_cases k8 : k = 8
        · rw [if_pos k8]; exact hQ1 (Or.inr ⟨s0, Or.inr (Or.inr (Or.inl ⟨k8, e2⟩))⟩)
        · rw [if_neg k8]
          by_cases k2 : k = 20
          · rw [if_pos k2]; exact hQ1 (Or.inr ⟨s0, Or.inr (Or.inr (Or.inr ⟨k2, e2⟩))⟩)
          · rw [if_neg k2]; exact hQ0 (fun u => by unfold kOn at u; omega)
      · rw [if_neg e2]; exact hQ0 (fun u => by unfold kOn at u; omega)⟩
    refine ⟨Re, ?_⟩
    by_cases e0 : ep = 0
    · rw [if_pos e0]
      refine ⟨Rk, ?_⟩
      by_cases k6 : k = 6
      · rw [if_pos k6]; exact hQ1 (Or.inr ⟨s0, Or.inr (Or.inl ⟨k6, e0⟩)⟩)
      · rw [if_neg k6]
        by_cases k2 : k = 2
        · rw [if_pos k2]; exact hQ1 (Or.inr ⟨s0, Or.inl ⟨k2, e0⟩⟩)
        · rw [if_neg k2]; exact k5 (fun u => u.2.elim k6 k2)
    · rw [if_neg e0]; exact k5 (fun u => e0 u.1)
theorem m_isLength {s ep k l : Int} {J : zM} {L : yM} {Q : Int → zM → yM → Prop} (hn : kOn s ep k) (hk : 0 ≤ k ∧ k < 256) (hl : 0 ≤ l ∧ l < 65536) (hQ0 : ¬ kLen k l → Q 0 J L) (hQ1 : kLen k l → Q 1 J L) : w_X12_isLength k l J L Q := by
  have Rl := R_u hl
  have hk5 : k = 1 ∨ k = 2 ∨ k = 6 ∨ k = 8 ∨ k = 20 := by unfold kOn at hn; omega
  unfold w_X12_isLength
  refine ⟨R_o hk, ?_⟩
  by_cases k1 : k = 1
  · rw [if_pos k1]
    refine ⟨Rl, ?_⟩
    by_cases a : l = 61
    · rw [if_pos a]; exact hQ1 (Or.inl ⟨k1, Or.inl a⟩)
    · rw [if_neg a]
      by_cases b : l = 77
      · rw [if_pos b]; exact hQ1 (Or.inl ⟨k1, Or.inr b⟩)
      · rw [if_neg b]; exact hQ0 (fun u => ((kln u).1 k1).elim a b)
  · rw [if_neg k1]
    by_cases k6 : k = 6
    · rw [if_pos k6]
      refine ⟨Rl, ?_⟩
      by_cases a : l = 16
      · rw [if_pos a]; exact hQ1 (Or.inr (Or.inr (Or.inl ⟨k6, a⟩)))
      · rw [if_neg a]; exact hQ0 (fun u => a ((kln u).2.2.1 k6))
    · rw [if_neg k6]
      by_cases k2 : k = 2
      · rw [if_pos k2]
        refine ⟨Rl, ?_⟩
        by_cases a : l = 20
        · rw [if_pos a]; exact hQ1 (Or.inr (Or.inl ⟨k2, a⟩))
        · rw [if_neg a]; exact hQ0 (fun u => a ((kln u).2.1 k2))
      · rw [if_neg k2]
        by_cases k8 : k = 8
        · rw [if_pos k8]
          refine ⟨Rl, ?_⟩
          by_cases a : l < 2
          · rw [if_pos a]; exact hQ0 (fun u => Int.not_lt.mpr ((kln u).2.2.2.1 k8).1 a)
          · rw [if_neg a]
            by_cases b : 152 < l
            · rw [if_pos b]; exact hQ0 (fun u => Int.not_lt.mpr ((kln u).2.2.2.1 k8).2 b)
            · rw [if_neg b]; exact hQ1 (Or.inr (Or.inr (Or.inr (Or.inl ⟨k8, Int.not_lt.mp a, Int.not_lt.mp b⟩))))
        · rw [if_neg k8]
          have k20 : k = 20 := by omega
          refine ⟨Rl, ?_⟩
          by_cases a : l = 32
          · rw [if_pos a]; exact hQ1 (Or.inr (Or.inr (Or.inr (Or.inr ⟨k20, a⟩))))
          · rw [if_neg a]; exact hQ0 (fun u => a ((kln u).2.2.2.2.1 k20))
def hndM (s ep nm : Int) (c : List Int) (A : SA) : SA := if goodF s ep c A ∧ toK (fN c) A then takeN 5 s (handC s ep nm c A) else handC s ep nm c A
theorem AI_keepF {bd s ep : Int} {c : List Int} {A : SA} (ai : AI bd s A) (g1 : frW c) (g2 : sndF s ep c) (tk : toK (fN c) A) (ob : oct c) (ha : agr c A) : AI bd s (keepF c A) := by
  obtain ⟨bk, bl, bn, bf, bc⟩ := f_b ob
  obtain ⟨h1, h2, h3, h4, h5, h6⟩ := ai
  refine ⟨h1, h2, h3, h4, ?_, h6⟩
  intro n hn hk
  have hn : aZ A 2 ≤ n := hn
  obtain ⟨q, hq⟩ : ∃ q : KQ, q = (if n = fN c then keepQ (fKd c) (fLn c) (fFr c) (fCn c) (fun i => c.getD (8 + i.toNat) 0) (aK A (fN c)) else aK A n) := ⟨_, rfl⟩
  have hk : q.1 ≠ -1 := by rw [hq]; exact hk
  show aZ A 0 ≠ 0 ∧ n < aZ A 2 + 5 ∧ n < 256 ∧ kLen (if n = fN c then keepQ (fKd c) (fLn c) (fFr c) (fCn c) (fun i => c.getD (8 + i.toNat) 0) (aK A (fN c)) else aK A n : KQ).1 (if n = fN c then keepQ (fKd c) (fLn c) (fFr c) (fCn c) (fun i => c.getD (8 + i.toNat) 0) (aK A (fN c)) else aK A n : KQ).2.1 ∧ ∀ i, ((if n = fN c then keepQ (fKd c) (fLn c) (fFr c) (fCn c) (fun i => c.getD (8 + i.toNat) 0) (aK A (fN c)) else aK A n : KQ).2.2.1 i = 0 ∨ (if n = fN c then keepQ (fKd c) (fLn c) (fFr c) (fCn c) (fun i => c.getD (8 + i.toNat) 0) (aK A (fN c)) else aK A n : KQ).2.2.1 i = 1) ∧ ((if n = fN c then keepQ (fKd c) (fLn c) (fFr c) (fCn c) (fun i => c.getD (8 + i.toNat) 0) (aK A (fN c)) else aK A n : KQ).2.2.1 i = 1 → (0 ≤ i ∧ i < (if n = fN c then keepQ (fKd c) (fLn c) (fFr c) (fCn c) (fun i => c.getD (8 + i.toNat) 0) (aK A (fN c)) else aK A n : KQ).2.1) ∧ 0 ≤ (if n = fN c then keepQ (fKd c) (fLn c) (fFr c) (fCn c) (fun i => c.getD (8 + i.toNat) 0) (aK A (fN c)) else aK A n : KQ).2.2.2 i ∧ (if n = fN c then keepQ (fKd c) (fLn c) (fFr c) (fCn c) (fun i => c.getD (8 + i.toNat) 0) (aK A (fN c)) else aK A n : KQ).2.2.2 i < 256)
  rw [← hq]
  by_cases e : n = fN c
  · rw [if_pos e] at hq
    refine ⟨by have := tk.1; omega, by have := tk.2.2; omega, by omega, ?_⟩
    obtain ⟨r, hr⟩ : ∃ r : KQ, r = if (aK A (fN c)).1 = -1 then (fKd c, fLn c, fun _ => 0, fun _ => 0) else aK A (fN c) := ⟨_, rfl⟩
    have hq2 : q = (r.1, r.2.1, fun i => if fFr c ≤ i ∧ i < fFr c + fCn c then 1 else r.2.2.1 i, fun i => if fFr c ≤ i ∧ i < fFr c + fCn c then c.getD (8 + (i - fFr c).toNat) 0 else r.2.2.2 i) := by rw [hq, hr]; rfl
    have r1 : r.1 = fKd c ∧ r.2.1 = fLn c ∧ ∀ i, (r.2.2.1 i = 0 ∨ r.2.2.1 i = 1) ∧ (r.2.2.1 i = 1 → (0 ≤ i ∧ i < r.2.1) ∧ 0 ≤ r.2.2.2 i ∧ r.2.2.2 i < 256) := by
      by_cases d : (aK A (fN c)).1 = -1
      · rw [if_pos d] at hr
        rw [hr]
        exact ⟨rfl, rfl, fun i => ⟨Or.inl rfl, fun q => (d01 q).elim⟩⟩
      · rw [if_neg d] at hr
        have a := h5 (fN c) tk.2.1 d
        have b := ha.elim (fun q => absurd q d) id
        rw [hr]
        exact ⟨b.1, b.2, a.2.2.2.2⟩
    obtain ⟨r1, r2, r3⟩ := r1
    have w := g1.2.2.2
    rw [hq2]
    refine ⟨by show kLen r.1 r.2.1; rw [r1, r2]; exact g2.2.1, fun i => ?_⟩
    show ((if fFr c ≤ i ∧ i < fFr c + fCn c then 1 else r.2.2.1 i) = 0 ∨ (if fFr c ≤ i ∧ i < fFr c + fCn c then 1 else r.2.2.1 i) = 1) ∧ ((if fFr c ≤ i ∧ i < fFr c + fCn c then 1 else r.2.2.1 i) = 1 → (0 ≤ i ∧ i < r.2.1) ∧ 0 ≤ (if fFr c ≤ i ∧ i < fFr c + fCn c then c.getD (8 + (i - fFr c).toNat) 0 else r.2.2.2 i) ∧ (if fFr c ≤ i ∧ i < fFr c + fCn c then c.getD (8 + (i - fFr c).toNat) 0 else r.2.2.2 i) < 256)
    by_cases u : fFr c ≤ i ∧ i < fFr c + fCn c
    · rw [if_pos u, if_pos u]
      exact ⟨Or.inr rfl, fun _ => ⟨⟨by omega, by omega⟩, oct1 ob _⟩⟩
    · rw [if_neg u, if_neg u]
      exact r3 i
  · rw [if_neg e] at hq
    rw [hq] at hk ⊢
    exact h5 n hn hk
/-- the sound ones, behind the judgement -/
theorem ms_hand1 {bd s ep nm : Int} {c : List Int} {A : SA} {J : zM} {L : yM} {Q : zM → yM → Prop} (hs : s01 s) (h : MS s J L A) (ai : AI bd s A) (hc : MCt J c) (hep : ep3 ep) (hnm : 0 ≤ nm ∧ nm < 65536) (h13 : ep ≤ aZ A 13) (h4 : aZ A 0 ≠ 4) (hnow : J 491 3 = aZ A 17) (hbd : bd ≤ 2000000000) (hg : goodF s ep c A) (hQ : ∀ J' L', MS s J' L' (hndM s ep nm c A) → MO s J L J' L' → Q J' L') (x18 : Int) (hx : (x18 = 0 ∧ ¬ toK (fN c) A) ∨ (x18 = 1 ∧ toK (fN c) A)) :
    ∀ K33 : zM → yM → Prop, (∀ (J31 : zM) (L32 : yM), (((0 : Int) ≤ s ∧ s < 2) ∧ ∀ K37 : zM → yM → Prop, (∀ (J35 : zM) (L36 : yM), (R32 x18 ∧ (if x18 = 0 then ((0 : Int) ≤ s ∧ s < 2) ∧ R32 (fN c) ∧ R32 (J35 535 s) ∧ (if (fN c) < (J35 535 s) then w_X12_older s (fKd c) J35 L36 (fun J44 L45 => Q J44 L45) else Q J35 L36) else w_X12_keeps s (8 * s + fN c % 8) (fN c) (fKd c) (fLn c) (fFr c) (fCn c) J35 L36 (fun J46 L47 => Q J46 L47))) → K37 J35 L36) → R32 (J31 523 s) ∧ (if (J31 523 s) = 0 then K37 J31 L32 else w_X12_listed s ep nm J31 L32 (fun J50 L51 => K37 J50 L51))) → K33 J31 L32) → R32 s ∧ (if s = 1 then R32 (J 534 1) ∧ (if (J 534 1) = 0 then w_X12_helloComes (fN c) (fLn c) J L (fun J56 L57 => Q J56 L57) else K33 J L) else K33 J L) := by
  have hs2 : 0 ≤ s ∧ s < 2 := by omega
  have ob := hc.2.2.2
  obtain ⟨bk, bl, bn, bf, bc⟩ := f_b ob
  have b0 := ai.b0
  have b2 := ai.b2
  obtain ⟨g1, g2, g3⟩ := hg
  have hE : handC s ep nm c A = if aZ A 0 = 0 then (if s = 1 then helS (fN c) (c.drop 8) A else A) else if toK (fN c) A then keepF c (listA ep nm A) else if fN c < aZ A 2 then oldA s (fKd c) (listA ep nm A) else listA ep nm A := by
    unfold handC
    rw [if_neg (fun q => q ⟨g1, g2, g3⟩)]
  intro K33 hK33
  have k33 : ¬ (s = 1 ∧ aZ A 0 = 0) → K33 J L := fun nn => hK33 J L ⟨hs2, by
    intro K37 hK37
    have f523 := h.2.1.2.2.2.1
    refine ⟨⟨by unfold B01 at f523; omega, by unfold B01 at f523; omega⟩, ?_⟩
    by_cases c0 : aZ A 0 = 0
    · rw [if_pos (h.2.1.2.1 c0)]
      have nk : ¬ toK (fN c) A := fun q => by have := q.1; omega
      have z2 := (ai.b22 c0).2.2.2.2.2.1
      have x0 : x18 = 0 := hx.elim (fun q => q.1) (fun q => absurd q.2 nk)
      refine hK37 J L ⟨by rw [x0]; decide, ?_⟩
      rw [if_pos x0, show J 535 s = aZ A 2 from h.1.2.1]
      refine ⟨hs2, R_o bn, ⟨by omega, by omega⟩, ?_⟩
      rw [if_neg (by omega)]
      refine hQ J L ?_ MO.rf
      unfold hndM
      rw [if_neg (fun q => nk q.2), hE, if_pos c0, if_neg (fun q => nn ⟨q, c0⟩)]
      exact h
    · rw [if_neg c0] at hE
      have lv : live (aZ A 0) := by unfold live; omega
      have one : J 523 s = 1 := h.2.1.2.2.1 lv
      rw [if_neg (by rw [one]; decide)]
      refine ms_list hs h hnow (fun J1 l1 l2 l3 => hK37 J1 L ?_)
      have aB := AI_list (ep := ep) (nm := nm) ai hep hnm
      have n1 : J1 491 3 = aZ A 17 := by rw [l3 491 (by omega)]; exact hnow
      rcases hx with ⟨x0, nk⟩ | ⟨x1, tk⟩
      · rw [if_neg nk] at hE
        have hM : hndM s ep nm c A = handC s ep nm c A := by unfold hndM; rw [if_neg (fun q => nk q.2)]
        refine ⟨by rw [x0]; decide, ?_⟩
        rw [if_pos x0, show J1 535 s = aZ A 2 from l1.1.2.1]
        refine ⟨hs2, R_o bn, ⟨by omega, by omega⟩, ?_⟩
        by_cases cn : fN c < aZ A 2
        · rw [if_pos cn]
          rw [if_pos cn] at hE
          exact ms_older hs l1 aB lv bk n1 hbd (fun J' u1 u2 => hQ J' L (by rw [hM, hE]; exact u1) (l2.tr u2))
        · rw [if_neg cn]
          rw [if_neg cn] at hE
          exact hQ J1 L (by rw [hM, hE]; exact l1) l2
      · rw [if_pos tk] at hE
        refine ⟨by rw [x1]; decide, ?_⟩
        rw [if_neg (by rw [x1]; decide)]
        have w2 := g1.2.1
        have hcl := hc.2.2.1
        refine ms_keeps hs l1 aB ⟨tk.2.1, tk.2.2, bn.2⟩ ⟨bf.1, g1.2.2⟩ g2.2.1 (g3 tk) (fun J2 u1 u2 u3 => ?_)
        have eK : keepA (fN c) (fKd c) (fLn c) (fFr c) (fCn c) (fun i => J1 550 (8 + i)) (listA ep nm A) = keepF c (listA ep nm A) := keepA_b (fun i p q => by
          show J1 550 (8 + i) = c.getD (8 + i.toNat) 0
          rw [l3 550 (by omega), ← hc.get (i := 8 + i.toNat) (by omega)]
          congr 1
          omega)
        rw [eK] at u1
        have aK_ : AI bd s (keepF c (listA ep nm A)) := AI_keepF aB g1 g2 tk ob (g3 tk)
        refine ms_takeAll hs u1 aK_ ?_ (fun J' v1 v2 => hQ J' L ?_ (l2.tr (u2.tr v2)))
        · show J2 491 3 = aZ A 17
          rw [u3 491 (by omega)]; exact n1
        · unfold hndM
          rw [if_pos ⟨⟨g1, g2, g3⟩, tk⟩, hE]
          exact v1⟩
  refine ⟨R_s hs, ?_⟩
  by_cases s1 : s = 1
  · rw [if_pos s1]
    subst s1
    rw [show J 534 1 = aZ A 0 from h.1.1]
    refine ⟨⟨by omega, by omega⟩, ?_⟩
    by_cases c0 : aZ A 0 = 0
    · rw [if_pos c0]
      rw [if_pos c0, if_pos rfl] at hE
      have z13 := (ai.b22 c0).2.2.2.2.1
      have k1 : fKd c = 1 := by
        have := g2.1
        unfold kOn at this
        omega
      have k2 := g2.2.2 k1
      have w2 := g1.2.1
      have w1 := g1.1
      have kl := (kln g2.2.1).1 k1
      have ld : (c.drop 8).length = c.length - 8 := List.length_drop
      have el : fLn c = ((c.drop 8).length : Int) := by rw [ld]; omega
      rw [el]
      refine ms_helloComes h ai c0 ⟨bn.1, k2.2⟩ ?_ (fun x hx => ob x (List.mem_of_mem_drop hx)) (by rw [ld]; omega) hnow (fun J' L' u1 u2 => hQ J' L' ?_ u2)
      · have := sg_part hc.2.1 8 (c.length - 8) (by omega)
        rw [ld, show (8 : Int) = 0 + ((8 : Nat) : Int) from rfl, this]
        unfold partI
        rw [← ld, List.take_length]
      · unfold hndM
        rw [if_neg (fun q => by have := q.2.1; omega), hE]
        exact u1
    · rw [if_neg c0]
      exact k33 (fun q => c0 q.2)
  · rw [if_neg s1]
    exact k33 (fun q => s1 q.1)
