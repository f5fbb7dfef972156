theorem MS_open1 {J : zM} {L : yM} {A : SA} (h : MS 1 J L A) (lv : live (aZ A 0)) : MS 1 (zs (zs (zs J 534 1 2) 536 1 4) 522 1 1) L (uz 10 0 (uz 0 2 A)) ∧ MO 1 J L (zs (zs (zs J 534 1 2) 536 1 4) 522 1 1) L := by
  obtain ⟨J', hJ'⟩ : ∃ J', J' = zs (zs (zs J 534 1 2) 536 1 4) 522 1 1 := ⟨_, rfl⟩
  rw [← hJ']
  have r : ∀ a, a ≠ 534 → a ≠ 536 → a ≠ 522 → J' a = J a := fun a p q t => by rw [hJ', zs_r _ t, zs_r _ q, zs_r _ p]
  have c : ∀ (C : Nat → Prop), (∀ a, C a → a ≠ 534 ∧ a ≠ 536 ∧ a ≠ 522) → oEq 1 C J J' := fun C hC a i _ hc => by rw [r a (hC a hc).1 (hC a hc).2.1 (hC a hc).2.2]
  obtain ⟨a0, a1, a2, a3, a4, a5, a6, a7, a8, a9, a10, a11, a12⟩ := h
  obtain ⟨p0, p1, p2, p3, p4, p5, p6, p7, p8, p9, p10, p11⟩ := a0
  obtain ⟨b1, b2, b3, ack, b4, b5, b6⟩ := a3
  have v522 : J' 522 1 = 1 := by rw [hJ']; exact zs_s _ _ _ _
  refine ⟨⟨⟨?_, ?_, ?_, ?_, ?_, ?_, ?_, ?_, ?_, ?_, p10, p11⟩, ⟨fun q => absurd q (by decide), fun q => absurd (show (2 : Int) = 0 from q) (by decide), fun _ => ?_, ?_, fun q => absurd q (by decide), ?_, ?_⟩, ?_, ⟨by rw [v522]; decide, fun q => (d01 q).elim, fun _ _ => Or.inl v522, ack, b4, fun q => (d01 q).elim, MFl.fr b6 (fun a ha => ?_)⟩, ⟨a4.1.fr (by decide) (c _ (by omega)), a4.2.fr (c _ (by omega))⟩, a5.fr (c _ (by omega)), (a6.fr (c _ (by omega))).cg (fun k hk => ?_), a7.fr (by decide) (c _ (by omega)), ⟨fun _ => ((a8.fr (c _ (by omega))).1 lv), (a8.fr (c _ (by omega))).2⟩, MSn.fr a9 (fun a ha => r a (by omega) (by omega) (by omega)) (by rw [r 491 (by decide) (by decide) (by decide)]), a10.fr (c _ (by omega)) (fun _ _ _ => rfl), a11.fr (c _ (by omega)), mKa a12 (c _ (by omega))⟩, ?_⟩
  · rw [hJ', zs_r _ (by decide), zs_r _ (by decide)]; exact zs_s _ _ _ _
  · rw [r _ (by decide) (by decide) (by decide)]; exact p1
  · rw [r _ (by decide) (by decide) (by decide)]; exact p2
  · rw [r _ (by decide) (by decide) (by decide)]; exact p3
  · rw [r _ (by decide) (by decide) (by decide)]; exact p4
  · rw [r _ (by decide) (by decide) (by decide)]; exact p5
  · rw [r _ (by decide) (by decide) (by decide)]; exact p6
  · rw [r _ (by decide) (by decide) (by decide)]; exact p7
  · rw [r _ (by decide) (by decide) (by decide)]; exact p8
  · rw [r _ (by decide) (by decide) (by decide)]; exact p9
  · rw [r 523 (by decide) (by decide) (by decide)]; exact a1.2.2.1 lv
  · rw [r 523 (by decide) (by decide) (by decide)]; exact a1.2.2.2.1
  · rw [r 506 (by decide) (by decide) (by decide)]; exact a1.2.2.2.2.2.1
  · rw [r 507 (by decide) (by decide) (by decide)]; exact a1.2.2.2.2.2.2
  · have b := a2.fr (c _ (by omega))
    exact ⟨b.1, b.2.1, b.2.2.1, fun q => absurd q (by decide), b.2.2.2.2⟩
  · exact r a (by omega) (by omega) (by omega)
  · show (if 21 + k = 10 then (0 : Int) else if 21 + k = 0 then 2 else A.1 (21 + k)) = A.1 (21 + k)
    rw [if_neg (by omega), if_neg (by omega)]
  · rw [hJ']
    exact (MO_zs (nown1 (s := 1) (by omega)) (by omega) (by omega) (by omega)).tr ((MO_zs (nown1 (s := 1) (by omega)) (by omega) (by omega) (by omega)).tr (MO_zs (nown1 (s := 1) (by omega)) (by omega) (by omega) (by omega)))
theorem ms_serverTakes {bd sl kd : Int} {b : List Int} {A : SA} {J : zM} {L : yM} {Q : zM → yM → Prop} (h : MS 1 J L A) (ai : AI bd 1 A) (h0 : aZ A 0 = 1) (hsl : 8 ≤ sl ∧ sl < 16) (h541 : J 541 sl = kd) (h542 : J 542 sl = (b.length : Int)) (h544 : sg J 544 (200 * sl) b.length = b) (hbo : oct b) (kw : kLen kd (b.length : Int))
    (hQ : ∀ J', MS 1 J' L (if kd = 20 then finS b A else raiseA 1 10 A) → MO 1 J L J' L → Q J' L) : w_X12_serverTakes sl J L Q := by
  have lv : live (aZ A 0) := Or.inl h0
  have hb152 : b.length ≤ 152 := by unfold kLen at kw; omega
  have ml := ai.m.1 lv
  have mn := ai.m.2.2 rfl lv
  have z13 : aZ A 13 = 3 := ai.b27 rfl lv
  unfold w_X12_serverTakes
  rw [h541]
  refine ⟨by omega, by unfold kLen at kw; exact ⟨by omega, by omega⟩, ?_⟩
  by_cases d : kd = 20
  · rw [if_pos d]
    rw [if_pos d] at hQ
    have hbl : b.length = 32 := by unfold kLen at kw; omega
    refine s_copyKept (by omega) h541 h542 h544 hb152 (by decide) ?_
    rw [d]
    have hlm : (msgI 20 b).length = 35 := by rw [msgI_len, hbl]
    have g1 := h.wr (p := 1854) (w := msgI 20 b) (by decide) ai (by rw [hlm]; decide) (fun f hf => by
      have g := ai.g f hf
      left
      rcases g with ⟨g, _⟩ | ⟨_, g | g | g⟩
      · exact absurd g (by decide)
      · rw [g.1]; show (1624 : Int) + 3 + _ ≤ 1854; omega
      · rw [g.1]; show (1654 : Int) + 3 + _ ≤ 1854; omega
      · rw [g.1]; show (1814 : Int) + 3 + _ ≤ 1854; omega) (fun i hi hy => by
      left
      have : i = 0 ∨ i = 1 ∨ i = 2 ∨ i = 3 := by omega
      rcases this with rfl | rfl | rfl | rfl
      · show (1536 : Int) + ((aY A 6).length : Int) ≤ 1854; omega
      · show (1624 : Int) + ((aY A 7).length : Int) ≤ 1854; omega
      · show (1654 : Int) + ((aY A 8).length : Int) ≤ 1854; omega
      · show (1814 : Int) + ((aY A 9).length : Int) ≤ 1854; omega)
    have mm := mMs_zw (J := J) (p := 1854) (k := 20) (b := b) (by decide) hbo (by omega)
    obtain ⟨J1, hJ1⟩ : ∃ J1, J1 = zw J 492 1854 (msgI 20 b) := ⟨_, rfl⟩
    rw [← hJ1] at g1 mm ⊢
    have tr4 := g1.1.tr (many := 4) lv ml.1 (fun _ => mn.1) (fun _ => mn.2.1) (fun _ => mn.2.2)
    have hsec : sg J1 492 (1024 * 1 + 128 + 32 * 0) 32 = aY A 10 := ((g1.1.2.2.2.2.2.2.2.2.1.2.1 (by omega)).2.2 0 (by decide)).1
    refine s_finishedM (by decide) (by decide) tr4 g1.1.2.2.2.2.2.2.2.2.2.2.2.2 (by rw [hsec]; exact (ai.y.2.2.2.2.2.2 10 (by decide) (by decide)).2) (fun J2 f1 f2 => ?_)
    rw [hsec] at f1
    have f1 : sg J2 500 0 32 = finI (aY A 10) (T4 A) := f1
    have g2 := g1.1.scr (by decide) ai.dg ai.ll f2 (fun a q => by unfold cF cH at q; omega) (fun k q => by unfold t13 at q; omega) (by rw [f2.2 30 (by decide)]; exact m30 ai.dg g1.1)
    have e492 : J2 492 = J1 492 := f2.1 492 (by unfold cF cH; omega) (by decide)
    have mm2 : mMs J2 1854 (msgI 20 b) := mm.fr2 (fun k _ _ => by rw [e492])
    have sb : sg J2 492 1857 32 = b := by
      have := mm2.size.2.2.1
      rw [hbl] at this
      exact this
    refine s_isDigest (by decide) (by decide) (by decide) (by show oct (sg J2 492 1857 32); rw [sb]; exact hbo) (by show oct (sg J2 500 0 32); rw [f1]; exact mcI_oct _ _) ?_
    have hres : (if sg J2 492 1857 (32 : Int).toNat = sg J2 500 0 (32 : Int).toNat then (1 : Int) else 0) = if b = finI (aY A 10) (T4 A) then 1 else 0 := by
      show (if sg J2 492 1857 32 = sg J2 500 0 32 then (1 : Int) else 0) = _
      rw [sb, f1]
    rw [hres]
    unfold finS at hQ
    by_cases c : b = finI (aY A 10) (T4 A)
    · rw [if_pos c]
      rw [if_neg (fun q => q c)] at hQ
      refine ⟨by decide, ?_⟩
      rw [if_neg (by decide)]
      intro J13 e13 J14 e14 J15 e15
      have g3 := MS_open1 g2.1 lv
      rw [← e13, ← e14, ← e15] at g3
      have aiO := AI_open1 ai h0
      rw [uz_comm (by decide)] at aiO
      exact ms_acks (by decide) g3.1 aiO (fun J16 k1 k2 => hQ J16 k1 (g1.2.tr (g2.2.tr (g3.2.tr k2))))
    · rw [if_neg c]
      rw [if_pos c] at hQ
      refine ⟨by decide, ?_⟩
      rw [if_pos rfl]
      exact ms_raise (by decide) g2.1 ai (by decide) (fun J3 k1 k2 => hQ J3 k1 (g1.2.tr (g2.2.tr k2)))
  · rw [if_neg d]
    rw [if_neg d] at hQ
    exact ms_raise (by decide) h ai (by decide) hQ
theorem fly_now (s : Int) (A : SA) : aZ (flyA s A) 17 = aZ A 17 := rfl
theorem raise_now (s c : Int) (A : SA) : aZ (raiseA s c A) 17 = aZ A 17 := by
  show aZ (alertA s c A) 17 = _
  unfold alertA noteA
  split <;> rfl
theorem take_now (s : Int) (A : SA) : aZ (takeA s A) 17 = aZ A 17 := by
  unfold takeA takeC takeS
  split
  · split
    · rfl
    · split
      · unfold ansA
        split
        · exact raise_now _ _ _
        · rfl
      · split
        · rfl
        · split
          · unfold finC
            split
            · exact raise_now _ _ _
            · rfl
          · exact raise_now _ _ _
  · split
    · unfold finS
      split
      · exact raise_now _ _ _
      · rw [acks_z]; rfl
    · exact raise_now _ _ _
theorem ms_takeAll {bd s : Int} {A : SA} {J : zM} {L : yM} {Q : zM → yM → Prop} (hs : s01 s) (h : MS s J L A) (ai : AI bd s A) (hnow : J 491 3 = aZ A 17) (hQ : ∀ J', MS s J' L (takeN 5 s A) → MO s J L J' L → Q J' L) : w_X12_takeAll s J L Q := by
  have hs2 : 0 ≤ s ∧ s < 2 := by omega
  have e535 : J 535 s = aZ A 2 := h.1.2.1
  have b2 := ai.b2
  unfold w_X12_takeAll
  refine ⟨hs2, ?_⟩
  unfold w_X12_slotOf
  rw [e535, zrem_n ⟨b2.1, by omega⟩ (by decide)]
  rw [takeN_more hs (muA s A) 5 A ai (Nat.le_refl _) (by have := mu_le s A; omega)] at hQ
  refine zl_z.by (fun m x J' L' => ∃ B : SA, L' = L ∧ MS s J' L B ∧ AI bd s B ∧ m = muA s B ∧ J' 491 3 = aZ B 17 ∧ x = 8 * s + aZ B 2 % 8 ∧ MO s J L J' L ∧ takeN m s B = takeN (muA s A) s A) ?_ (muA s A) _ J L ⟨A, rfl, h, ai, rfl, hnow, rfl, MO.rf, rfl⟩
  rintro m x J1 L1 K ⟨B, rfl, g, aB, hm, hn, hx, o, hT⟩ hK
  have c2 := aB.b2
  have c0 := aB.b0
  have e534 : J1 534 s = aZ B 0 := g.1.1
  have f535 : J1 535 s = aZ B 2 := g.1.2.1
  have hxs : 0 ≤ x ∧ x < 16 := by omega
  have stop : ¬ nextA B → Q J1 L1 := fun hno => hQ J1 (by
    rw [← hT]
    have : takeN m s B = B := by
      cases m with
      | zero => rfl
      | succ m => unfold takeN; rw [if_neg hno]
    rw [this]
    exact g) o
  rw [e534]
  refine ⟨hs2, ⟨by omega, by omega⟩, ?_⟩
  by_cases c : aZ B 0 = 1
  · rw [if_pos c, f535]
    have kp := g.2.2.2.2.1.1 (aZ B 2) (Int.le_refl _)
    have kr : R32 (J1 540 x) := by have := g.2.2.2.2.1.2 (aZ B 2 % 8) (by omega) (by omega); rw [← hx] at this; exact this
    refine ⟨hxs, hs2, kr, ⟨by omega, by omega⟩, ?_⟩
    rw [← hx] at kp
    by_cases d : J1 540 x = aZ B 2
    · rw [if_pos d]
      have hk := kp.1.mp d
      have kk := kp.2 hk
      have ak := aB.k (aZ B 2) (Int.le_refl _) hk
      have kb := kLen_b ak.2.2.2.1
      refine ms_isWhole (s := s) hxs (by omega) kk.2.1 (fun i => (ak.2.2.2.2 i).1) (fun i p q => (kk.2.2 i p q).1) (fun hw => ⟨by decide, ?_⟩) (fun hw => ⟨by decide, ?_⟩)
      · rw [if_neg (by decide)]
        have hnx : nextA B := ⟨c, hk, hw⟩
        refine ⟨hxs, fun J23 e23 => ⟨hs2, hs2, fun J26 e26 => ?_⟩⟩
        have v535 : J23 535 s = aZ B 2 := by rw [e23, zs_r _ (by decide)]; exact f535
        rw [v535] at e26
        have gf := ms_free hs g aB
        rw [← hx, ← e23, ← e26] at gf
        have r26 : ∀ a, a ≠ 535 → a ≠ 540 → J26 a = J1 a := fun a p q => by rw [e26, zs_r _ p, e23, zs_r _ q]
        have aN := AI_next aB c hnx.2
        obtain ⟨b, hb⟩ : ∃ b, b = kbody (aK B (aZ B 2)) := ⟨_, rfl⟩
        have kbb := aB.kb hnx.2
        rw [← hb] at kbb
        have h541 : J26 541 x = (aK B (aZ B 2)).1 := by rw [r26 _ (by decide) (by decide)]; exact kk.1
        have h542 : J26 542 x = (b.length : Int) := by rw [r26 _ (by decide) (by decide), kbb.2]; exact kk.2.1
        have h544 : sg J26 544 (200 * x) b.length = b := by
          rw [sg_row (r26 _ (by decide) (by decide))]
          have := mk_body g.2.2.2.2.1.1 aB hnx.2
          rw [← hx, ← hb, ← kbb.2, Int.toNat_natCast] at this
          exact this
        have kw := ak.2.2.2.1
        rw [← kbb.2] at kw
        intro K29 hK29
        have lt := mu_take hs aB hnx
        have next : ∀ J2 : zM, MS s J2 L1 (takeA s B) → MO s J26 L1 J2 L1 → K29 J2 L1 := fun J2 g2 o2 => hK29 J2 L1 (by
          refine ⟨hs2, ?_⟩
          have w535 : J2 535 s = aZ (takeA s B) 2 := g2.1.2.1
          have aT := AI_take hs aB hnx
          have t2 := aT.b2
          rw [w535, zrem_n ⟨t2.1, by omega⟩ (by decide)]
          refine hK (muA s (takeA s B)) _ J2 L1 (by omega) ⟨takeA s B, rfl, g2, aT, rfl, ?_, rfl, o.tr (gf.2.tr o2), ?_⟩
          · rw [o2.1 491 3 (own491 (by omega)), r26 491 (by decide) (by decide), hn, take_now]
          · rw [← hT, hm]
            have e1 : takeN (muA s B) s B = takeN (muA s B - 1) s (takeA s B) := by
              obtain ⟨k, hk'⟩ : ∃ k, muA s B = k + 1 := ⟨muA s B - 1, by omega⟩
              rw [hk']
              show (if nextA B then takeN k s (takeA s B) else B) = _
              rw [if_pos hnx]
              rfl
            rw [e1]
            exact (takeN_more hs (muA s (takeA s B)) (muA s B - 1) _ aT (Nat.le_refl _) (by omega)).symm)
        refine ⟨⟨by omega, by omega⟩, ?_⟩
        rcases hs with rfl | rfl
        · rw [if_pos rfl]
          refine ms_clientTakes gf.1 aN c (by rw [r26 491 (by decide) (by decide)]; exact hn) (by omega) h541 h542 h544 kbb.1 kw (fun J2 g2 o2 => next J2 ?_ o2)
          rw [hb] at g2
          exact g2
        · rw [if_neg (by decide)]
          refine ms_serverTakes gf.1 aN c (by omega) h541 h542 h544 kbb.1 kw (fun J2 g2 o2 => next J2 ?_ o2)
          rw [hb] at g2
          exact g2
      · rw [if_pos rfl]
        exact stop (fun q => hw q.2.2)
    · rw [if_neg d]
      exact stop (fun q => d (kp.1.mpr q.2.1))
  · rw [if_neg c]
    exact stop (fun q => c q.1)
