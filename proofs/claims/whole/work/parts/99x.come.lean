/-! a datagram comes -/
abbrev okS (r : List Int) : Prop := (r.getD 0 0 = 34 ∨ r.getD 0 0 = 35) ∧ 5 ≤ r.length ∧ 5 + shR r 3 ≤ (r.length : Int)
abbrev okP (r : List Int) : Prop := plT3 (r.getD 0 0) ∧ r.getD 1 0 = 0 ∧ 6 ≤ r.length ∧ 6 + shR r 4 ≤ (r.length : Int)
/-- what becomes of a side by what is left of a datagram, and how many of its records came -/
def arrN : Nat → Int → List Int → SA → Int → SA × Int
  | 0, _, _, A, n => (A, n)
  | k + 1, s, r, A, n => if r = [] ∨ aZ A 0 = 4 then (A, n) else if okS r then arrN k s (r.drop (5 + (shR r 3).toNat)) (sealA s (r.getD 0 0 - 32) r A) (n + (if whyS s (r.getD 0 0 - 32) r A = 4 then 1 else 0)) else if okP r then arrN k s (r.drop (6 + (shR r 4).toNat)) (plnA s r A) (n + (if whyP r A = 4 then 1 else 0)) else (cntA 0 A, n)
theorem arr_no {k : Nat} {s n : Int} {r : List Int} {A : SA} (h : r = [] ∨ aZ A 0 = 4) : arrN (k + 1) s r A n = (A, n) := by unfold arrN; rw [if_pos h]
theorem arr_S {k : Nat} {s n : Int} {r : List Int} {A : SA} (h : ¬ (r = [] ∨ aZ A 0 = 4)) (hs : okS r) : arrN (k + 1) s r A n = arrN k s (r.drop (5 + (shR r 3).toNat)) (sealA s (r.getD 0 0 - 32) r A) (n + (if whyS s (r.getD 0 0 - 32) r A = 4 then 1 else 0)) := by conv => lhs; unfold arrN; rw [if_neg h, if_pos hs]
theorem arr_P {k : Nat} {s n : Int} {r : List Int} {A : SA} (h : ¬ (r = [] ∨ aZ A 0 = 4)) (hs : ¬ okS r) (hp : okP r) : arrN (k + 1) s r A n = arrN k s (r.drop (6 + (shR r 4).toNat)) (plnA s r A) (n + (if whyP r A = 4 then 1 else 0)) := by conv => lhs; unfold arrN; rw [if_neg h, if_neg hs, if_pos hp]
theorem arr_M {k : Nat} {s n : Int} {r : List Int} {A : SA} (h : ¬ (r = [] ∨ aZ A 0 = 4)) (hs : ¬ okS r) (hp : ¬ okP r) : arrN (k + 1) s r A n = (cntA 0 A, n) := by conv => lhs; unfold arrN; rw [if_neg h, if_neg hs, if_neg hp]
theorem AI_seal {bd s ep : Int} {r : List Int} {A : SA} (hs : s01 s) (ai : AI bd s A) (ob : oct r) (hep : 2 ≤ ep ∧ ep ≤ 3) (hn : ¬ nextA A) : AI (bd + 1) s (sealA s ep r A) ∧ ¬ nextA (sealA s ep r A) := AI_out (why := whyS s ep r A) hs ai (sCt_oct ob) (ep3_of hep) (sNu_b ob) (fun w => (whyS_4 w).1) hn
theorem AI_pln {bd s : Int} {r : List Int} {A : SA} (hs : s01 s) (ai : AI bd s A) (ob : oct r) (hn : ¬ nextA A) : AI (bd + 1) s (plnA s r A) ∧ ¬ nextA (plnA s r A) := AI_out (why := whyP r A) hs ai (oct_partI ob 6 _) (Or.inl rfl) (shR_b ob 2) (fun _ => by have := ai.b13; omega) hn
theorem ep_of {r : List Int} (h : r.getD 0 0 = 34 ∨ r.getD 0 0 = 35) : r.getD 0 0 = 32 + (r.getD 0 0 - 32) ∧ 2 ≤ r.getD 0 0 - 32 ∧ r.getD 0 0 - 32 ≤ 3 := by omega
theorem AI_arr {s : Int} (hs : s01 s) : ∀ (k : Nat) (bd n : Int) (r : List Int) (A : SA), AI bd s A → oct r → ¬ nextA A → AI (bd + (k : Int)) s (arrN k s r A n).1 ∧ ¬ nextA (arrN k s r A n).1
  | 0, bd, n, r, A, ai, ob, hn => ⟨by show AI (bd + 0) s A; rw [Int.add_zero]; exact ai, hn⟩
  | k + 1, bd, n, r, A, ai, ob, hn => by
    by_cases h : r = [] ∨ aZ A 0 = 4
    · rw [arr_no h]
      exact ⟨ai.mono (by omega), hn⟩
    · by_cases c : okS r
      · rw [arr_S h c]
        have q := AI_seal hs ai ob (ep_of c.1).2 hn
        have w := AI_arr hs k (bd + 1) (n + (if whyS s (r.getD 0 0 - 32) r A = 4 then 1 else 0)) (r.drop (5 + (shR r 3).toNat)) _ q.1 (oct_drop ob _) q.2
        rw [show bd + 1 + (k : Int) = bd + ((k + 1 : Nat) : Int) by omega] at w
        exact w
      · by_cases d : okP r
        · rw [arr_P h c d]
          have q := AI_pln hs ai ob hn
          have w := AI_arr hs k (bd + 1) (n + (if whyP r A = 4 then 1 else 0)) (r.drop (6 + (shR r 4).toNat)) _ q.1 (oct_drop ob _) q.2
          rw [show bd + 1 + (k : Int) = bd + ((k + 1 : Nat) : Int) by omega] at w
          exact w
        · rw [arr_M h c d]
          exact ⟨AI_cnt (ai.mono (by omega)) (by decide), nx_cnt hn⟩
theorem XD.drop {J J' : zM} {o o' : Int} {r : List Int} {k : Nat} (h : XD J o r) (hk : k ≤ r.length) (ho : o' = o + (k : Int)) (h1 : J' 3 1 = J 3 1) (h4 : ∀ i, o' ≤ i → J' 4 i = J 4 i) : XD J' o' (r.drop k) := by
  obtain ⟨a, b, c, d, e⟩ := h
  have l : (r.drop k).length = r.length - k := List.length_drop
  refine ⟨by omega, by rw [l, h1]; omega, by rw [h1]; exact c, ?_, oct_drop e k⟩
  rw [l, sg_fr (J := J) (fun i p q => h4 i p), ho, sg_part d k (r.length - k) (by omega)]
  unfold partI
  exact List.take_of_length_le (Nat.le_of_eq l)
def XOc (e : Nat) (J : zM) (L : yM) (J' : zM) (L' : yM) : Prop := (∀ a, ¬ cX e a → a ≠ 3 → a ≠ 4 → J' a = J a) ∧ ∀ a, ¬ cX e a → L' a = L a
theorem XOc.tr {e : Nat} {J J1 J2 : zM} {L L1 L2 : yM} (h1 : XOc e J L J1 L1) (h2 : XOc e J1 L1 J2 L2) : XOc e J L J2 L2 := ⟨fun a h q w => (h2.1 a h q w).trans (h1.1 a h q w), fun a h => (h2.2 a h).trans (h1.2 a h)⟩
theorem XO4.c {nx : Int} {e : Nat} {J J' : zM} {L L' : yM} (h : XO4 nx e J L J' L') : XOc e J L J' L' := ⟨h.1, h.2.1⟩
theorem XOc.z3 {e : Nat} {J J' : zM} {L : yM} (f : zF (fun a => a = 3) J J') : XOc e J L J' L := ⟨fun a _ h _ => f a h, fun _ _ => rfl⟩
theorem XS.z3 {e : Nat} {s : Int} {J J' : zM} {L : yM} {A : SA} (he : iSide e) (h : XS e s J L A) (f : zF (fun a => a = 3) J J') : XS e s J' L A := XS.sc4 he h (fun a ha => f a (fun q => ha (Or.inr (Or.inl q))))
theorem dropS {r : List Int} (ob : oct r) (l : 5 + shR r 3 ≤ (r.length : Int)) : 5 + (shR r 3).toNat ≤ r.length ∧ ((5 + (shR r 3).toNat : Nat) : Int) = 5 + shR r 3 := by have := shR_b ob 3; omega
theorem dropP {r : List Int} (ob : oct r) (l : 6 + shR r 4 ≤ (r.length : Int)) : 6 + (shR r 4).toNat ≤ r.length ∧ ((6 + (shR r 4).toNat : Nat) : Int) = 6 + shR r 4 := by have := shR_b ob 4; omega
theorem xs_loop {e : Nat} {bd s : Int} {r : List Int} {A : SA} {J : zM} {L : yM} {Q : Int → zM → yM → Prop} (he : iSide e) (hs : s01 s) (h : XS e s J L A) (ai : AI bd s A) (hn : ¬ nextA A) (h3 : J 3 3 = 0) (hd : XD J 0 r) (hbd : 0 ≤ bd ∧ bd + 100 ≤ 2000000000) (hQ : ∀ J' L', XS e s J' L' (arrN 100 s r A 0).1 → XOc e J L J' L' → Q (arrN 100 s r A 0).2 J' L') :
    zl_zz (fun K11 x12 x13 J14 L15 => R32 x13 ∧ (if x13 < 100 then w_X1_hasMore J14 L15 (fun r20 J18 L19 => R32 r20 ∧ (if r20 = 0 then Q x12 J18 L19 else R32 (J18 e 12) ∧ (if (J18 e 12) = 4 then Q x12 J18 L19 else w_X1_cutRecord J18 L19 (fun r27 J25 L26 => R32 r27 ∧ (if r27 = 0 then ∀ J57 : zM, J57 = zs J25 (e + 37) 0 ((J25 (e + 37) 0) + 1) → Q x12 J57 L26 else w_X8_opens e J25 L26 (fun r32 J30 L31 => ∀ K36 : Int → zM → yM → Prop, (∀ (x33 : Int) (J34 : zM) (L35 : yM), (K11 x33 (x13 + 1) J34 L35) → K36 x33 J34 L35) → R32 r32 ∧ (if r32 = 0 then K36 x12 J30 L31 else w_X8_hear e J30 L31 (fun r41 J39 L40 => w_X8_act e r41 J39 L40 (fun J42 L43 => zl_z (fun K44 x45 J46 L47 => R32 x45 ∧ (if x45 < 5 then w_X8_hasNext e J46 L47 (fun r52 J50 L51 => R32 r52 ∧ (if r52 = 0 then K36 (x12 + 1) J50 L51 else w_X8_takeNext e J50 L51 (fun J55 L56 => K44 (x45 + 1) J55 L56))) else K36 (x12 + 1) J46 L47)) 0 J42 L43))))))))) else Q x12 J14 L15)) 0 0 J L := by
  obtain ⟨Z, hZ⟩ : ∃ Z, Z = arrN 100 s r A 0 := ⟨_, rfl⟩
  rw [← hZ] at hQ
  refine zl_zz.by (fun m x12 x13 J1 L1 => (m : Int) = 100 - x13 ∧ 0 ≤ x13 ∧ ∃ (o : Int) (r1 : List Int) (A1 : SA), XS e s J1 L1 A1 ∧ AI (bd + x13) s A1 ∧ ¬ nextA A1 ∧ J1 3 3 = o ∧ XD J1 o r1 ∧ XOc e J L J1 L1 ∧ arrN m s r1 A1 x12 = Z) ?_ 100 0 0 J L ⟨by omega, by omega, 0, r, A, h, by rw [Int.add_zero]; exact ai, hn, h3, hd, ⟨fun _ _ _ _ => rfl, fun _ _ => rfl⟩, hZ.symm⟩
  clear h ai hn h3 hd hZ
  rintro m x12 x13 J1 L1 K ⟨hm, hx, o, r1, A1, h, ai, hn, h3, hd, xo, hA⟩ hK
  refine ⟨⟨by omega, by omega⟩, ?_⟩
  by_cases c0 : x13 < 100
  rotate_left
  · rw [if_neg c0]
    have m0 : m = 0 := by omega
    subst m0
    have hA : (A1, x12) = Z := hA
    rw [← hA] at hQ
    exact hQ J1 L1 h xo
  rw [if_pos c0]
  obtain ⟨m', rfl⟩ : ∃ m', m = m' + 1 := ⟨m - 1, by omega⟩
  obtain ⟨o0, o1, o2, o3, ob⟩ := id hd
  have stop : r1 = [] ∨ aZ A1 0 = 4 → Q x12 J1 L1 := fun q => by
    rw [arr_no q] at hA
    rw [← hA] at hQ
    exact hQ J1 L1 h xo
  unfold w_X1_hasMore
  rw [h3]
  refine ⟨⟨by omega, by omega⟩, ⟨by omega, by omega⟩, ?_⟩
  by_cases c1 : o < J1 3 1
  rotate_left
  · rw [if_neg c1]
    refine ⟨by decide, ?_⟩
    rw [if_pos rfl]
    exact stop (Or.inl (List.eq_nil_of_length_eq_zero (by omega)))
  rw [if_pos c1]
  refine ⟨by decide, ?_⟩
  rw [if_neg (by decide), show J1 e 12 = aZ A1 0 from h.1.2.1]
  have b0 := ai.b0
  refine ⟨⟨by omega, by omega⟩, ?_⟩
  by_cases c2 : aZ A1 0 = 4
  · rw [if_pos c2]
    exact stop (Or.inr c2)
  rw [if_neg c2]
  have lp : 0 < r1.length := by omega
  have nst : ¬ (r1 = [] ∨ aZ A1 0 = 4) := fun q => q.elim (fun w => by rw [w] at lp; exact absurd lp (by decide)) c2
  have bad : ∀ J2, ¬ okS r1 → ¬ okP r1 → zF (fun a => a = 3) J1 J2 → ∀ J57, J57 = zs J2 (e + 37) 0 (J2 (e + 37) 0 + 1) → Q x12 J57 L1 := fun J2 q1 q2 f J57 e57 => by
    have mm := xs_cnt (k := 0) he (by decide) (h.z3 he f)
    have e57 : J57 = zs J2 (e + 37) ((0 : Nat) : Int) (J2 (e + 37) ((0 : Nat) : Int) + 1) := e57
    rw [← e57] at mm
    rw [arr_M nst q1 q2] at hA
    rw [← hA] at hQ
    exact hQ J57 L1 mm.1 ((xo.tr (XOc.z3 f)).tr (XO4.c (mm.2.to4 (nx := 0) he)))
  clear stop
  by_cases c3 : r1.getD 0 0 = 34 ∨ r1.getD 0 0 = 35
  · obtain ⟨e1, e2⟩ := ep_of c3
    have nP : ¬ okP r1 := fun q => by have := q.1; unfold plT3 at this; omega
    obtain ⟨ep, hep⟩ : ∃ ep, ep = r1.getD 0 0 - 32 := ⟨_, rfl⟩
    rw [← hep] at e1 e2
    refine x_cutS hd h3 lp e1 e2 (fun J2 nok f => ?_) (fun J2 l5 l cut => ?_)
    · refine ⟨by decide, ?_⟩
      rw [if_pos rfl]
      exact bad J2 (fun q => nok q.2) nP f
    · refine ⟨by decide, ?_⟩
      rw [if_neg (by decide)]
      have f := cut.2.2.2.2.2.2.2.2
      have X2 := h.z3 he f
      have d2 : XD J2 o r1 := hd.fr cut.1 (f 4 (by decide))
      have ds := dropS ob l
      refine xs_body (K := fun x J L => K x (x13 + 1) J L) he hs X2 ai hn (sCt_oct ob) (sTy_b ob) (ep3_of e2) (sNu_b ob) (by clear c3; omega) (fun w => (whyS_4 w).1) (whyS_b s ep r1 A1) (fun w => (whyS_4 w).2.2.1) (fun Q' hQ' => x_refS he hs X2 ai d2 e1 e2 cut l hQ') (fun J3 L3 y1 y2 => ?_)
      have q := AI_seal hs ai ob e2 hn
      refine hK m' _ (x13 + 1) J3 L3 (by omega) ⟨by clear c3; omega, by clear c3; omega, o + 5 + shR r1 3, r1.drop (5 + (shR r1 3).toNat), sealA s ep r1 A1, y1, ?_, q.2, ?_, ?_, ?_, ?_⟩
      · rw [← Int.add_assoc]; exact q.1
      · rw [y2.2.2.2.1]; exact cut.2.2.1
      · exact hd.drop ds.1 (by rw [ds.2]; clear c3; omega) (y2.2.2.1.trans cut.1) (fun i hi => by rw [y2.2.2.2.2 i hi, f 4 (by decide)])
      · exact (xo.tr (XOc.z3 f)).tr y2.c
      · rw [hep, ← arr_S nst ⟨c3, l5, l⟩]
        exact hA
  · have nS : ¬ okS r1 := fun q => c3 q.1
    refine x_cutP (t := r1.getD 0 0) hd h3 lp rfl (fun q => c3 (Or.inl q)) (fun q => c3 (Or.inr q)) (fun J2 nok f => ?_) (fun J2 p0 p1 l6 l cut => ?_)
    · refine ⟨by decide, ?_⟩
      rw [if_pos rfl]
      exact bad J2 nS nok f
    · refine ⟨by decide, ?_⟩
      rw [if_neg (by decide)]
      have f := cut.2.2.2.2.2.2.2.2
      have X2 := h.z3 he f
      have d2 : XD J2 o r1 := hd.fr cut.1 (f 4 (by decide))
      have ds := dropP ob l
      refine xs_body (K := fun x J L => K x (x13 + 1) J L) he hs X2 ai hn (oct_partI ob 6 (shR r1 4).toNat) (oct1 ob 0) (Or.inl rfl) (shR_b ob 2) (by clear c3 p0; omega) (fun _ => by have := ai.b13; clear c3 p0; omega) (whyP_b r1 A1) (fun w => whyP_4 w) (fun Q' hQ' => x_refP he X2 ai d2 cut l hQ') (fun J3 L3 y1 y2 => ?_)
      have q := AI_pln hs ai ob hn
      refine hK m' _ (x13 + 1) J3 L3 (by omega) ⟨by clear c3 p0; omega, by clear c3 p0; omega, o + 6 + shR r1 4, r1.drop (6 + (shR r1 4).toNat), plnA s r1 A1, y1, ?_, q.2, ?_, ?_, ?_, ?_⟩
      · rw [← Int.add_assoc]; exact q.1
      · rw [y2.2.2.2.1]; exact cut.2.2.1
      · exact hd.drop ds.1 (by rw [ds.2]; clear c3 p0; omega) (y2.2.2.1.trans cut.1) (fun i hi => by rw [y2.2.2.2.2 i hi, f 4 (by decide)])
      · exact (xo.tr (XOc.z3 f)).tr y2.c
      · rw [← arr_P nst nS ⟨p0, p1, l6, l⟩]
        exact hA
