/-! the class: does a record COME -/
theorem XS.sc4 {e : Nat} {s : Int} {J J' : zM} {L : yM} {A : SA} (he : iSide e) (h : XS e s J L A) (f : ∀ a, ¬ (xscS e a ∨ a = 3 ∨ a = 4) → J' a = J a) : XS e s J' L A := by
  have he2 : 139 ≤ e := by unfold iSide at he; omega
  have h2 := (XS.scr he h (J' := fun a => if a = 3 ∨ a = 4 then J a else J' a) (fun a ha => by
    show (if a = 3 ∨ a = 4 then J a else J' a) = J a
    by_cases c : a = 3 ∨ a = 4
    · rw [if_pos c]
    · rw [if_neg c]; exact f a (fun q => q.elim ha c))).1
  refine XS.ot he h2 (fun a ha => ?_) (fun _ _ => rfl)
  show J' a = (if a = 3 ∨ a = 4 then J a else J' a)
  have n : ¬ (a = 3 ∨ a = 4) := by
    rcases ha with ha | ha
    · omega
    · have := wy_out he ha; omega
  rw [if_neg n]
/-- what a record leaves in the class: behind it the datagram stands -/
def XO4 (nx : Int) (e : Nat) (J : zM) (L : yM) (J' : zM) (L' : yM) : Prop := (∀ a, ¬ cX e a → a ≠ 3 → a ≠ 4 → J' a = J a) ∧ (∀ a, ¬ cX e a → L' a = L a) ∧ J' 3 1 = J 3 1 ∧ J' 3 3 = J 3 3 ∧ ∀ i, nx ≤ i → J' 4 i = J 4 i
theorem not_cX4 {e : Nat} (he : iSide e) : ¬ cX e 4 := fun q => by
  have he2 : 139 ≤ e := by unfold iSide at he; omega
  rcases q with q | q | q
  · omega
  · have := wy_out he q; omega
  · omega
theorem XO4.tr {nx : Int} {e : Nat} {J J1 J2 : zM} {L L1 L2 : yM} (h1 : XO4 nx e J L J1 L1) (h2 : XO4 nx e J1 L1 J2 L2) : XO4 nx e J L J2 L2 := ⟨fun a h q w => (h2.1 a h q w).trans (h1.1 a h q w), fun a h => (h2.2.1 a h).trans (h1.2.1 a h), h2.2.2.1.trans h1.2.2.1, h2.2.2.2.1.trans h1.2.2.2.1, fun i h => (h2.2.2.2.2 i h).trans (h1.2.2.2.2 i h)⟩
theorem XO3.to4 {nx : Int} {e : Nat} {J J' : zM} {L L' : yM} (he : iSide e) (h : XO3 e J L J' L') : XO4 nx e J L J' L' := ⟨fun a ha q _ => h.1 a ha q, h.2.1, h.2.2 1 (by decide), h.2.2 3 (by decide), fun i _ => by rw [h.1 4 (not_cX4 he) (by decide)]⟩
theorem XO.to4 {nx : Int} {e : Nat} {J J' : zM} {L L' : yM} (he : iSide e) (h : XO e J L J' L') : XO4 nx e J L J' L' := (h.to3 he).to4 he
/-- what opening changes -/
def XV (nx : Int) (e : Nat) (J J' : zM) : Prop := (∀ a, ¬ (cMac (e + 166) a ∨ a = 3 ∨ a = 4) → J' a = J a) ∧ (∀ k, k ≠ 5 → k ≠ 6 → k ≠ 8 → J' 3 k = J 3 k) ∧ ∀ i, nx ≤ i → J' 4 i = J 4 i
theorem XV.rf {nx : Int} {e : Nat} {J : zM} : XV nx e J J := ⟨fun _ _ => rfl, fun _ _ _ _ => rfl, fun _ _ => rfl⟩
theorem XV.tr {nx : Int} {e : Nat} {J J1 J2 : zM} (h1 : XV nx e J J1) (h2 : XV nx e J1 J2) : XV nx e J J2 := ⟨fun a h => (h2.1 a h).trans (h1.1 a h), fun k p q w => (h2.2.1 k p q w).trans (h1.2.1 k p q w), fun i h => (h2.2.2 i h).trans (h1.2.2 i h)⟩
theorem XV.mac {nx : Int} {e : Nat} {J J' : zM} (he : iSide e) (h : zF (cMac (e + 166)) J J') : XV nx e J J' := by
  have he2 : 139 ≤ e := by unfold iSide at he; omega
  have r3 : J' 3 = J 3 := h 3 (by unfold cMac; omega)
  have r4 : J' 4 = J 4 := h 4 (by unfold cMac; omega)
  exact ⟨fun a ha => h a (fun q => ha (Or.inl q)), fun k _ _ _ => by rw [r3], fun i _ => by rw [r4]⟩
theorem XV.xs {nx : Int} {e : Nat} {s : Int} {J J' : zM} {L : yM} {A : SA} (he : iSide e) (h : XS e s J L A) (v : XV nx e J J') : XS e s J' L A := XS.sc4 he h (fun a ha => v.1 a (fun q => ha (by
  rcases q with q | q | q
  · exact Or.inl (by unfold cMac at q; unfold xscS; omega)
  · exact Or.inr (Or.inl q)
  · exact Or.inr (Or.inr q))))
theorem XV.xo {nx : Int} {e : Nat} {J J' : zM} {L : yM} (v : XV nx e J J') : XO4 nx e J L J' L := ⟨fun a ha h3 h4 => v.1 a (fun q => by
  rcases q with q | q | q
  · exact ha (by unfold cMac at q; unfold cX; omega)
  · exact h3 q
  · exact h4 q), fun _ _ => rfl, v.2.1 1 (by decide) (by decide) (by decide), v.2.1 3 (by decide) (by decide) (by decide), v.2.2⟩
theorem zush8 {a b : Int} (ha : 0 ≤ a ∧ a < 256) (hb : 0 ≤ b ∧ b < 256) : zush (256 * a + b) 8 = a := by
  rw [zush_n (by omega) (by decide)]
  show (256 * a + b) / 256 = a
  omega
theorem zand8 {a b : Int} (ha : 0 ≤ a ∧ a < 256) (hb : 0 ≤ b ∧ b < 256) : zand (256 * a + b) 255 = b := by
  rw [zand255]
  omega
/-- the NUMBER is laid open -/
theorem x_unmask {J : zM} {L : yM} {o a b x y : Int} {Q : zM → yM → Prop} (h2 : J 3 2 = o) (h0 : 0 ≤ o) (hl : o + 5 ≤ J 3 1) (hm : J 3 1 ≤ 500) (hx : J 4 (o + 1) = x) (hy : J 4 (o + 2) = y) (bx : 0 ≤ x ∧ x < 256) (by_ : 0 ≤ y ∧ y < 256) (ha : 0 ≤ a ∧ a < 256) (hb : 0 ≤ b ∧ b < 256)
    (hQ : ∀ J', J' 4 (o + 1) = zxor x a → J' 4 (o + 2) = zxor y b → (∀ i, i ≠ o + 1 → i ≠ o + 2 → J' 4 i = J 4 i) → J' 3 6 = 256 * zxor x a + zxor y b → (∀ k, k ≠ 6 → J' 3 k = J 3 k) → (∀ c, c ≠ 3 → c ≠ 4 → J' c = J c) → Q J' L) : w_X1_unmask (256 * a + b) J L Q := by
  have z1 := zxor_oct bx ha
  have z2 := zxor_oct by_ hb
  unfold w_X1_unmask
  rw [h2, hx, zush8 ha hb]
  refine ⟨⟨by omega, by omega⟩, ⟨by omega, by omega⟩, fun J3 e3 => ?_⟩
  have k3 : J3 3 = J 3 := by rw [e3]; exact zs_r J (by decide)
  have v3 : J3 4 (o + 2) = y := by rw [e3, zs_n J (Or.inr (by omega))]; exact hy
  rw [k3, h2, v3, zand8 ha hb]
  refine ⟨⟨by omega, by omega⟩, ⟨by omega, by omega⟩, fun J6 e6 => ?_⟩
  have k6 : J6 3 = J 3 := by rw [e6, zs_r _ (by decide)]; exact k3
  have g1 : J6 4 (o + 1) = zxor x a := by rw [e6, zs_n _ (Or.inr (by omega)), e3]; exact zs_s _ _ _ _
  have g2 : J6 4 (o + 2) = zxor y b := by rw [e6]; exact zs_s _ _ _ _
  rw [k6, h2]
  refine x_short (x := zxor x a) (y := zxor y b) (by omega) (by rw [k6]; omega) (by rw [k6]; exact hm) g1 (by rw [Int.add_assoc]; exact g2) z1 z2 (fun J10 e10 => ?_)
  have r4 : J10 4 = J6 4 := by rw [e10]; exact zs_r _ (by decide)
  refine hQ J10 (by rw [r4]; exact g1) (by rw [r4]; exact g2) (fun i p q => ?_) (by rw [e10]; exact zs_s _ _ _ _) (fun k p => ?_) (fun c p q => ?_)
  · rw [r4, e6, zs_n _ (Or.inr q), e3, zs_n _ (Or.inr p)]
  · rw [e10, zs_n _ (Or.inr p), k6]
  · rw [e10, zs_r _ p, e6, zs_r _ q, e3, zs_r _ q]
/-- the octets of a sealed record in the class, its NUMBER laid open -/
theorem tag_in {J : zM} {o ep n1 n2 c : Int} {r : List Int} {m : Nat} (h0 : J 4 o = 32 + ep) (h1 : J 4 (o + 1) = n1) (h2 : J 4 (o + 2) = n2) (h3 : J 4 (o + 3) = r.getD 3 0) (h4 : J 4 (o + 4) = r.getD 4 0) (hb : sg J 4 (o + 5) m = sBd r) (hc : c = (m : Int)) : [2, ep] ++ sg J 4 (o + 1) 2 ++ sg J 4 o (5 + c).toNat = [2, ep, n1, n2, 32 + ep, n1, n2, r.getD 3 0, r.getD 4 0] ++ sBd r := by
  have e : (5 + c).toNat = 5 + m := by omega
  have s2 : sg J 4 (o + 1) 2 = [n1, n2] := by
    rw [sg_succ, sg_succ, sg_0, show o + 1 + ((0 : Nat) : Int) = o + 1 by omega, show o + 1 + ((1 : Nat) : Int) = o + 2 by omega, h1, h2]
    rfl
  have s5 : sg J 4 o 5 = [32 + ep, n1, n2, r.getD 3 0, r.getD 4 0] := by
    rw [sg_succ, sg_succ, sg_succ, sg_succ, sg_succ, sg_0, show o + ((0 : Nat) : Int) = o by omega, show o + ((1 : Nat) : Int) = o + 1 by omega, show o + ((2 : Nat) : Int) = o + 2 by omega, show o + ((3 : Nat) : Int) = o + 3 by omega, show o + ((4 : Nat) : Int) = o + 4 by omega, h0, h1, h2, h3, h4]
    rfl
  rw [e, sg_app, s2, s5, show o + ((5 : Nat) : Int) = o + 5 by omega, hb]
  rfl
theorem tag_I {s ep : Int} {r : List Int} {A : SA} (h : oct r) (h9 : 9 ≤ shR r 3) (hl : 5 + shR r 3 ≤ (r.length : Int)) : mcI (aY A (16 + sW s ep)) ([2, ep, sN1 s ep r A, sN2 s ep r A, 32 + ep, sN1 s ep r A, sN2 s ep r A, r.getD 3 0, r.getD 4 0] ++ sBd r) = tagI (aY A (16 + sW s ep)) ep (sNu s ep r A) (sBd r) := by
  have a := oct1 h 3
  have b := oct1 h 4
  have c := sMn_b h9 hl
  have d := sBd_len h9 hl
  have e := sNu_div (s := s) (ep := ep) (A := A) h
  have l3 : shR r 3 = 256 * r.getD 3 0 + r.getD 4 0 := rfl
  unfold tagI
  rw [d, e.1, e.2, show ((sMn r : Int) + 8) / 256 = r.getD 3 0 by omega, show ((sMn r : Int) + 8) % 256 = r.getD 4 0 by omega]
theorem ep3_of {ep : Int} (h : 2 ≤ ep ∧ ep ≤ 3) : ep3 ep := by unfold ep3; omega
theorem i_whichKey {e : Nat} {a b : Int} {J : zM} {L : yM} {Q : Int → zM → yM → Prop} (h : Q ((a - 2) * 2 + b) J L) : w_X5_whichKey e a b J L Q := h
theorem i_tagAt {J : zM} {L : yM} {Q : Int → zM → yM → Prop} (h : Q (J 3 7 + J 3 8 - 8) J L) : w_X1_tagAt J L Q := h
theorem i_sealedMany {J : zM} {L : yM} {Q : Int → zM → yM → Prop} (h : Q (J 3 8 - 8) J L) : w_X1_sealedMany J L Q := h
theorem i_takeType {J : zM} {L : yM} {Q : zM → yM → Prop} (h : ∀ J1 : zM, J1 = zs J 3 8 ((J 3 8) - 9) → ((0 : Int) ≤ ((J1 3 7) + (J1 3 8)) ∧ ((J1 3 7) + (J1 3 8)) < 500) ∧ ∀ J3 : zM, J3 = zs J1 3 5 (J1 4 ((J1 3 7) + (J1 3 8))) → Q J3 L) : w_X1_takeType J L Q := h
/-- a sealed record: refused or not -/
theorem x_refusalS {e : Nat} {bd s ep o : Int} {r : List Int} {A : SA} {J : zM} {L : yM} {Q : Int → zM → yM → Prop} (he : iSide e) (hs : s01 s) (h : XS e s J L A) (ai : AI bd s A) (hd : XD J o r) (hr : r.getD 0 0 = 32 + ep) (hep : 2 ≤ ep ∧ ep ≤ 3) (h2 : J 3 2 = o) (h4 : J 3 4 = ep) (h7 : J 3 7 = o + 5) (h8 : J 3 8 = shR r 3) (hl : 5 + shR r 3 ≤ (r.length : Int))
    (hQ : ∀ J', XV (o + 5 + shR r 3) e J J' → (whyS s ep r A = 4 → 9 ≤ shR r 3 ∧ J' 3 5 = sTy s ep r A ∧ J' 3 6 = sNu s ep r A ∧ J' 3 8 = shR r 3 - 9 ∧ sg J' 4 (o + 5) (sMn r - 1) = sCt s ep r A) → Q (whyS s ep r A : Int) J' L) : w_X8_refusal e J L Q := by
  have he2 : 139 ≤ e ∧ e ≤ 315 := by unfold iSide at he; omega
  obtain ⟨o0, o1, o2, o3, ob⟩ := id hd
  have bL := shR_b ob 3
  have b13 : 0 ≤ aZ A 13 ∧ aZ A 13 ≤ 3 := by have := ai.b13; omega
  have hk := h.2.2.2.2.2.2.2.2.1.2.2.2.2.1
  obtain ⟨nx, hnx⟩ : ∃ nx, nx = o + 5 + shR r 3 := ⟨_, rfl⟩
  rw [← hnx] at hQ
  unfold w_X8_refusal
  rw [h4]
  refine ⟨⟨by omega, by omega⟩, ?_⟩
  rw [if_neg (by omega), show J (e + 144) 11 = aZ A 13 from h.2.2.2.2.2.2.2.2.1.1]
  refine ⟨⟨by omega, by omega⟩, ?_⟩
  by_cases c1 : aZ A 13 < ep
  · rw [if_pos c1]
    have w : whyS s ep r A = 1 := by unfold whyS; rw [if_pos c1]
    rw [w] at hQ
    exact hQ J XV.rf (fun q => absurd q (by decide))
  rw [if_neg c1, h8]
  refine ⟨R_u bL, ?_⟩
  by_cases c2 : shR r 3 < 9
  · rw [if_pos c2]
    have w : whyS s ep r A = 3 := by unfold whyS; rw [if_neg c1, if_pos c2]
    rw [w] at hQ
    exact hQ J XV.rf (fun q => absurd q (by decide))
  rw [if_neg c2]
  have h9 : 9 ≤ shR r 3 := by omega
  obtain ⟨m1, m2, m3⟩ := sMn_b h9 hl
  have w0 := sW_b hs hep
  refine i_whichKey (i_tagAt ?_)
  rw [h7, h8, show J e 0 = s from h.1.1]
  obtain ⟨w, hw⟩ : ∃ w : Int, w = (ep - 2) * 2 + (1 - s) := ⟨_, rfl⟩
  rw [← hw] at w0 ⊢
  have hwb : 0 ≤ w ∧ w < 4 := by omega
  have hwt : w.toNat = sW s ep := by omega
  have hT : sg J 4 (o + 5 + shR r 3 - 8) 8 = sTg r := by
    have q := sg_part o3 (5 + sMn r) 8 (by omega)
    rw [show o + ((5 + sMn r : Nat) : Int) = o + 5 + shR r 3 - 8 by omega] at q
    exact q
  have kM : sg J (e + 158 + w.toNat) 0 32 = aY A (20 + sW s ep) := by rw [hwt]; exact (hk _ w0.2).2
  refine s_maskOf he hwb (Or.inl (by decide)) (by omega) (by rw [ln_4]; omega) (fun J1 g1 f1 => ?_)
  rw [hT, kM]
  show w_X1_unmask (256 * (sMk s ep r A).getD 0 0 + (sMk s ep r A).getD 1 0) J1 L _
  have v1 : XV nx e J J1 := XV.mac he f1
  have r3 : J1 3 = J 3 := f1 3 (by unfold cMac; omega)
  have r4 : J1 4 = J 4 := f1 4 (by unfold cMac; omega)
  refine x_unmask (o := o) (x := r.getD 1 0) (y := r.getD 2 0) (by rw [r3]; exact h2) o0 (by rw [r3]; omega) (by rw [r3]; exact o2) (by rw [r4]; exact hd.get (i := 1) (by omega)) (by rw [r4]; exact hd.get (i := 2) (by omega)) (oct1 ob 1) (oct1 ob 2) (sMk_b ob 0) (sMk_b ob 1) (fun J2 a1 a2 a3 a6 ak ac => ?_)
  have v2 : XV nx e J J2 := v1.tr ⟨fun a ha => ac a (fun q => ha (Or.inr (Or.inl q))) (fun q => ha (Or.inr (Or.inr q))), fun k _ q _ => ak k q, fun i hi => a3 i (by omega) (by omega)⟩
  have a1 : J2 4 (o + 1) = sN1 s ep r A := a1
  have a2 : J2 4 (o + 2) = sN2 s ep r A := a2
  have a6 : J2 3 6 = sNu s ep r A := a6
  have a3 : ∀ i, i ≠ o + 1 → i ≠ o + 2 → J2 4 i = J 4 i := fun i p q => by rw [a3 i p q, r4]
  have a8 : J2 3 8 = shR r 3 := by rw [ak 8 (by decide), r3]; exact h8
  have k4 : J2 3 4 = ep := by rw [ak 4 (by decide), r3]; exact h4
  have k2 : J2 3 2 = o := by rw [ak 2 (by decide), r3]; exact h2
  have k7 : J2 3 7 = o + 5 := by rw [ak 7 (by decide), r3]; exact h7
  clear v1 ak ac g1 f1
  rw [k4, a6]
  refine ⟨⟨by omega, by omega⟩, ?_⟩
  have X2 := v2.xs he h
  have wn := X2.2.2.2.2.2.2.2.2.2.2 ep (ep3_of hep)
  refine s_refuses wn.1 wn.2 (ai.2.2.2.2.2.2.1 ep (ep3_of hep)) (sNu_b ob) (fun st => ?_) (fun ns => ?_)
  · have st : staA ep (sNu s ep r A) A := st
    refine ⟨by decide, ?_⟩
    rw [if_neg (by decide)]
    have w : whyS s ep r A = 2 := by unfold whyS; rw [if_neg c1, if_neg c2, if_pos st]
    rw [w] at hQ
    exact hQ J2 v2 (fun q => absurd q (by decide))
  have ns : ¬ staA ep (sNu s ep r A) A := ns
  refine ⟨by decide, ?_⟩
  rw [if_pos rfl]
  refine i_sealedMany ?_
  rw [a8, k2]
  have d0 : J2 4 o = 32 + ep := by
    rw [a3 o (by omega) (by omega)]
    have q := hd.get (i := 0) (by omega)
    rw [hr, show o + ((0 : Nat) : Int) = o by omega] at q
    exact q
  have hk2 := X2.2.2.2.2.2.2.2.2.1.2.2.2.2.1
  have kk : sg J2 (e + 153 + w.toNat) 0 32 = aY A (16 + sW s ep) := by rw [hwt]; exact (hk2 _ w0.2).1
  have hB : sg J2 4 (o + 5) (sMn r) = sBd r := by
    rw [sg_fr (J := J) (fun k p q => a3 k (by omega) (by omega))]
    exact sg_part o3 5 (sMn r) (by omega)
  refine s_tagOf (ep := ep) he hwb (Or.inl (by decide)) o0 (by omega) (by rw [ln_4]; omega) (by omega) d0 (by omega) (fun J3 g3 f3 => ?_)
  rw [kk, tag_in d0 a1 a2 (by rw [a3 _ (by omega) (by omega)]; exact hd.get (i := 3) (by omega)) (by rw [a3 _ (by omega) (by omega)]; exact hd.get (i := 4) (by omega)) hB (by omega), tag_I ob h9 hl] at g3
  have v3 : XV nx e J J3 := v2.tr (XV.mac he f3)
  have q3 : J3 3 = J2 3 := f3 3 (by unfold cMac; omega)
  have q4 : J3 4 = J2 4 := f3 4 (by unfold cMac; omega)
  refine i_tagAt ⟨za_mk (kdS_166 he) (by omega), ?_⟩
  rw [q3, k7, a8]
  have hu : sg J3 (e + 166) 0 8 = sTI s ep r A := by
    rw [← sg_take J3 (e + 166) 0 32 8 (by decide), g3]
    rfl
  have hv : sg J3 4 (o + 5 + shR r 3 - 8) 8 = sTg r := by
    rw [sg_row q4, sg_fr (J := J) (fun k p q => a3 k (by omega) (by omega))]
    exact hT
  refine s_same (u := sTI s ep r A) (v := sTg r) (by decide) (by omega) (by decide) (by rw [lnS_166 he]; decide) (by rw [ln_4]; omega) hu hv (oct_take (mcI_oct _ _) 8) (oct_partI ob _ _) ?_
  by_cases c3 : sTI s ep r A = sTg r
  · rw [if_pos c3]
    refine ⟨by decide, ?_⟩
    rw [if_neg (by decide)]
    refine i_sealedMany ?_
    rw [q3, a8, k2]
    have d3 : J3 4 o = 32 + ep := by rw [q4]; exact d0
    have X3 := v3.xs he h
    have kk3 : sg J3 (e + 153 + w.toNat) 0 32 = aY A (16 + sW s ep) := by rw [hwt]; exact (X3.2.2.2.2.2.2.2.2.1.2.2.2.2.1 _ w0.2).1
    refine s_veil (ep := ep) he hwb (Or.inl (by decide)) (Or.inl (by omega)) o0 (by omega) (by rw [ln_4]; omega) (by omega) d3 (by omega) (fun J4 b1 b2 f4 => ?_)
    rw [kk3, q4, a1, a2] at b1
    have p3 : J4 3 = J3 3 := f4 3 (by unfold cMac; omega)
    have v4 : XV nx e J J4 := v3.tr ⟨fun a ha => f4 a (fun q => ha (q.elim Or.inl (fun w => Or.inr (Or.inr w)))), fun k _ _ _ => by rw [p3], fun i hi => b2 i (by omega)⟩
    have co : sg J4 4 (o + 5) (sMn r) = sCo s ep r A := by
      have bl := sBd_len h9 hl
      have q := sg_xor (J := J4) (a := 4) (i := o + 5) (l := sBd r) (f := strA (aY A (16 + sW s ep)) ep (sN1 s ep r A) (sN2 s ep r A)) (fun j hj => by
        rw [bl] at hj
        rw [b1 (j : Int) (by omega) (by omega), ← hB, sg_get hj])
      rw [bl] at q
      exact q
    refine i_takeType (fun J5 e5 => ?_)
    have k5 : ∀ k, k ≠ 8 → J5 3 k = J4 3 k := fun k hk => by rw [e5]; exact zs_n _ (Or.inr hk)
    have z58 : J5 3 8 = shR r 3 - 9 := by rw [e5, zs_s, p3, q3, a8]
    have z57 : J5 3 7 = o + 5 := by rw [k5 7 (by decide), p3, q3, k7]
    have z54 : J5 4 = J4 4 := by rw [e5]; exact zs_r _ (by decide)
    have v5 : XV nx e J J5 := v4.tr ⟨fun a ha => by rw [e5]; exact zs_r _ (fun q => ha (Or.inr (Or.inl q))), fun k _ _ q => k5 k q, fun i _ => by rw [z54]⟩
    have ty : J5 4 (o + 5 + (shR r 3 - 9)) = sTy s ep r A := by
      unfold sTy
      rw [← co, sg_get (by omega), z54]
      congr 1
      omega
    clear e5
    rw [z57, z58, ty]
    refine ⟨⟨by omega, by omega⟩, fun J6 e6 => ?_⟩
    have k6 : ∀ k, k ≠ 5 → J6 3 k = J5 3 k := fun k hk => by rw [e6]; exact zs_n _ (Or.inr hk)
    have z65 : J6 3 5 = sTy s ep r A := by rw [e6]; exact zs_s _ _ _ _
    have z64 : J6 4 = J4 4 := by rw [e6, zs_r _ (by decide)]; exact z54
    have v6 : XV nx e J J6 := v5.tr ⟨fun a ha => by rw [e6]; exact zs_r _ (fun q => ha (Or.inr (Or.inl q))), fun k q _ _ => k6 k q, fun i _ => by rw [z64, z54]⟩
    have fin : 9 ≤ shR r 3 ∧ J6 3 5 = sTy s ep r A ∧ J6 3 6 = sNu s ep r A ∧ J6 3 8 = shR r 3 - 9 ∧ sg J6 4 (o + 5) (sMn r - 1) = sCt s ep r A := by
      refine ⟨h9, z65, ?_, ?_, ?_⟩
      · rw [k6 6 (by decide), k5 6 (by decide), p3, q3]; exact a6
      · rw [k6 8 (by decide)]; exact z58
      · rw [sg_row z64, ← sg_take J4 4 (o + 5) (sMn r) (sMn r - 1) (by omega), co]
        rfl
    have hw4 : ¬ (sTy s ep r A = 23 ∧ ¬ opn A) → whyS s ep r A = 4 := fun q => by unfold whyS; rw [if_neg c1, if_neg c2, if_neg ns, if_pos c3, if_neg q]
    have go4 : ¬ (sTy s ep r A = 23 ∧ ¬ opn A) → Q 4 J6 L := fun q => by
      have w := hw4 q
      rw [w] at hQ
      exact hQ J6 v6 (fun _ => fin)
    rw [z65]
    refine ⟨R_o (sTy_b ob), ?_⟩
    by_cases c4 : sTy s ep r A = 23
    · rw [if_pos c4]
      refine x_isOpen (v6.xs he h) ai rfl (fun no => ?_) (fun yes => ?_)
      · refine ⟨by decide, ?_⟩
        rw [if_pos rfl]
        have w : whyS s ep r A = 1 := by unfold whyS; rw [if_neg c1, if_neg c2, if_neg ns, if_pos c3, if_pos ⟨c4, no⟩]
        rw [w] at hQ
        exact hQ J6 v6 (fun q => absurd q (by decide))
      · refine ⟨by decide, ?_⟩
        rw [if_neg (by decide)]
        exact go4 (fun q => q.2 yes)
    · rw [if_neg c4]
      exact go4 (fun q => c4 q.1)
  · rw [if_neg c3]
    refine ⟨by decide, ?_⟩
    rw [if_pos rfl]
    have w : whyS s ep r A = 3 := by unfold whyS; rw [if_neg c1, if_neg c2, if_neg ns, if_neg c3]
    rw [w] at hQ
    exact hQ J3 v3 (fun q => absurd q (by decide))
