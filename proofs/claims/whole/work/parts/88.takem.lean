/-! a whole MESSAGE is taken, in the model -/
theorem s_copyKept {sl at_ kd : Int} {b : List Int} {J : zM} {L : yM} {Q : zM → yM → Prop} (hs : 0 ≤ sl ∧ sl < 16) (h541 : J 541 sl = kd) (h542 : J 542 sl = (b.length : Int)) (h544 : sg J 544 (200 * sl) b.length = b) (hb : b.length ≤ 152) (h0 : 0 ≤ at_ ∧ at_ + 160 ≤ 2048) (hQ : Q (zw J 492 at_ (msgI kd b)) L) : w_X12_copyKept sl at_ J L Q := by
  unfold w_X12_copyKept
  rw [h541, h542]
  refine ⟨hs, hs, s_putMessage (by omega) (by omega) ?_⟩
  obtain ⟨J1, hJ1⟩ : ∃ J1, J1 = zw J 492 at_ [kd, (b.length : Int) / 256, (b.length : Int) % 256] := ⟨_, rfl⟩
  rw [← hJ1]
  have r1 : ∀ a, a ≠ 492 → J1 a = J a := fun a ha => by rw [hJ1]; exact zw_r J ha
  refine zl_z.by (fun m x J' L' => (m : Int) = (b.length : Int) - x ∧ 0 ≤ x ∧ L' = L ∧ J' = zcp J1 544 (200 * sl) 492 (at_ + 3) x) ?_ b.length 0 J1 L ⟨by omega, by omega, rfl, (zcp_0 J1 544 492 (200 * sl) (at_ + 3)).symm⟩
  rintro m x J2 L2 K ⟨hm, hx, rfl, e2⟩ hK
  have r2 : ∀ a, a ≠ 492 → J2 a = J a := fun a ha => by rw [e2, zcp_r J1 ha]; exact r1 a ha
  rw [r2 542 (by decide), h542]
  refine ⟨hs, ⟨by omega, by omega⟩, ⟨by omega, by omega⟩, ?_⟩
  by_cases c : x < (b.length : Int)
  · rw [if_pos c]
    refine ⟨⟨by omega, by omega⟩, ⟨by omega, by omega⟩, fun J15 e15 => hK (m - 1) (x + 1) J15 L2 (by omega) ⟨by omega, by omega, rfl, ?_⟩⟩
    rw [e15, e2]
    exact zcp_succ2 hx (Or.inl (by decide))
  · rw [if_neg c]
    have : x = (b.length : Int) := by omega
    subst this
    rw [e2, zcp_zw _ _ _ _ _ _ (by omega), Int.toNat_natCast, sg_row (r1 544 (by decide)), h544, hJ1, zw_app J 492 at_ (at_ + 3) [kd, (b.length : Int) / 256, (b.length : Int) % 256] b rfl]
    exact hQ
/-- a MESSAGE is written into own, beside all that is told -/
theorem MS.wr {bd s p : Int} {w : List Int} {J : zM} {L : yM} {A : SA} (hs : s01 s) (h : MS s J L A) (ai : AI bd s A) (h0 : 1024 * s + 592 ≤ p ∧ p + (w.length : Int) ≤ 1024 * s + 890) (hF : ∀ f, f < (aF A).1 → plK s ((aF A).2.1 f) + 3 + (((aF A).2.2.2.1 f).length : Int) ≤ p ∨ p + (w.length : Int) ≤ plK s ((aF A).2.1 f)) (hT : ∀ i : Nat, i < 4 → aY A (6 + i) ≠ [] → plT s i + ((aY A (6 + i)).length : Int) ≤ p ∨ p + (w.length : Int) ≤ plT s i) : MS s (zw J 492 p w) L A ∧ MO s J L (zw J 492 p w) L := by
  have f : mF (fun a => False ∨ a = 492) (fun _ => False) J (zw J 492 p w) := mF_zw (Or.inr rfl) (by decide)
  have hU : ∀ k, ¬ (p ≤ k ∧ k < p + (w.length : Int)) → zw J 492 p w 492 k = J 492 k := fun k hk => zw_out J hk
  have c := h.core.own (J' := zw J 492 p w) (U := fun k => p ≤ k ∧ k < p + (w.length : Int)) hs f (fun a q => q.elim) (fun k q => q.elim) hU (fun k q => by omega)
  have o : MO s J L (zw J 492 p w) L := MO.own (U := fun k => p ≤ k ∧ k < p + (w.length : Int)) hs f (fun a q => q.elim) (fun k q => q.elim) hU (fun k q => by omega)
  obtain ⟨a0, a1, a2, a3, a4, a5, a6, a7, a8, a9, a10, a11, a12⟩ := h
  obtain ⟨b1, b2, b3, ack, b4, b5, b6⟩ := a3
  have r : ∀ a, a ≠ 492 → zw J 492 p w a = J a := fun a ha => zw_r J ha
  refine ⟨c.full ⟨?_, ?_, ?_⟩ (fun q lv => ?_) (fun lv i hi hy => ?_) ⟨?_, ?_, ?_, ack, b4, b5, ?_⟩, o⟩
  · rw [r 523 (by decide)]; exact a1.2.1
  · rw [r 523 (by decide)]; exact a1.2.2.1
  · rw [r 523 (by decide)]; exact a1.2.2.2.1
  · have m := a2.2.2.2.1 q lv
    subst q
    rw [sg_fr (fun k p1 p2 => hU k (by omega)), hU 531 (by omega), sg_fr (fun k p1 p2 => hU k (by omega))]
    exact m
  · exact (a8.1 lv i hi hy).fr2 (fun k p1 p2 => hU k (by have := hT i hi hy; omega))
  · rw [r 522 (by decide)]; exact b1
  · rw [r 522 (by decide)]; exact b2
  · rw [r 522 (by decide)]; exact b3
  · obtain ⟨f1, f2, f3, f4⟩ := b6
    refine ⟨by rw [r 517 (by decide)]; exact f1, f2, fun g hg => ?_, fun g hg k k0 k1 => by rw [r 521 (by decide)]; exact f4 g hg k k0 k1⟩
    obtain ⟨q1, q2, q3, q4, q5, q6⟩ := f3 g hg
    refine ⟨by rw [r 518 (by decide)]; exact q1, q2, q3.fr2 (fun k p1 p2 => hU k ?_), by rw [r 519 (by decide)]; exact q4, by rw [r 520 (by decide)]; exact q5, q6⟩
    rw [msgI_len] at p2
    have p1 : plK s ((aF A).2.1 g) ≤ k := p1
    have p2 : k < plK s ((aF A).2.1 g) + ((3 + ((aF A).2.2.2.1 g).length : Nat) : Int) := p2
    have := hF g hg
    omega
theorem AI.g {bd s : Int} {A : SA} (ai : AI bd s A) : AIg s (aF A) := ai.2.2.2.2.2.2.2.2.2
theorem MS_ym {s : Int} {i : Nat} {m : List Int} {J : zM} {L : yM} {A : SA} (h : MS s J L A) (hi : i < 4) (hm : mMs J (plT s i) m) : MS s J L (uy (6 + i) m A) := by
  have e : ∀ k, k < 6 ∨ 10 ≤ k → aY (uy (6 + i) m A) k = aY A k := fun k hk => if_neg (by omega)
  obtain ⟨a0, a1, a2, a3, a4, a5, a6, a7, a8, a9, a10, a11, a12⟩ := h
  refine ⟨a0, a1, ?_, a3, a4, a5, a6, a7, ⟨fun lv j hj hy => ?_, ?_⟩, a9, a10, a11, a12⟩
  · unfold M2
    rw [e 0 (by omega), e 1 (by omega), e 2 (by omega), e 3 (by omega), e 4 (by omega), e 5 (by omega)]
    exact a2
  · by_cases c : j = i
    · subst c
      have : aY (uy (6 + j) m A) (6 + j) = m := if_pos rfl
      rw [this]
      exact hm
    · have ee : aY (uy (6 + i) m A) (6 + j) = aY A (6 + j) := if_neg (by omega)
      rw [ee] at hy ⊢
      exact a8.1 lv j hj hy
  · have b : M44b s J (aZ A) (aY A) := a8.2
    exact b.cg rfl (fun k k0 k1 => e k (by omega))
theorem MS_over {s : Int} {J : zM} {L : yM} {A : SA} (hs : s01 s) (h : MS s J L A) : MS s (zs J 522 s 1) L (uz 10 0 A) ∧ MO s J L (zs J 522 s 1) L := by
  obtain ⟨a0, a1, a2, a3, a4, a5, a6, a7, a8, a9, a10, a11, a12⟩ := h
  have c : ∀ (C : Nat → Prop), ¬ C 522 → oEq s C J (zs J 522 s 1) := fun C hC => oEq.zs (Or.inl hC)
  obtain ⟨b1, b2, b3, ack, b4, b5, b6⟩ := a3
  refine ⟨⟨a0.fr (c _ (by omega)) (fun _ _ _ => rfl), a1.fr (c _ (by omega)), a2.fr (c _ (by omega)), ⟨by rw [zs_s]; decide, fun q => (d01 q).elim, fun _ _ => Or.inl (zs_s _ _ _ _), ack, b4, fun q => (d01 q).elim, ?_⟩, ⟨a4.1.fr hs (c _ (by omega)), a4.2.fr (c _ (by omega))⟩, a5.fr (c _ (by omega)), (a6.fr (c _ (by omega))).cg (fun k hk => if_neg (by omega)), a7.fr hs (c _ (by omega)), a8.fr (c _ (by omega)), MSn.zs a9 (by omega) (by omega), a10.fr (c _ (by omega)) (fun _ _ _ => rfl), a11.fr (c _ (by omega)), mKa a12 (c _ (by omega))⟩, MO_zs (nown1 (by omega)) (by omega) (by omega) (by omega)⟩
  exact MFl.fr b6 (fun a ha => zs_r J (by omega))
theorem MS_aw {v w : Int} {J : zM} {L : yM} {A : SA} (h : MS 0 J L A) (hv : (v = 8 ∧ w = 1) ∨ (v = 20 ∧ w = 2)) : MS 0 (zs J 536 0 w) L (uz 1 v A) ∧ MO 0 J L (zs J 536 0 w) L := by
  obtain ⟨a0, a1, a2, a3, a4, a5, a6, a7, a8, a9, a10, a11, a12⟩ := h
  have c : ∀ (C : Nat → Prop), ¬ C 536 → oEq 0 C J (zs J 536 0 w) := fun C hC => oEq.zs (Or.inl hC)
  have r : ∀ a, a ≠ 536 → zs J 536 0 w a = J a := fun a ha => zs_r J ha
  refine ⟨⟨a0.fr (c _ (by omega)) (fun _ _ _ => rfl), ⟨fun _ _ => ?_, ?_, ?_, ?_, ?_, ?_, ?_⟩, a2.fr (c _ (by omega)), a3.fr (by decide) (c _ (by omega)), ⟨a4.1.fr (by decide) (c _ (by omega)), a4.2.fr (c _ (by omega))⟩, a5.fr (c _ (by omega)), (a6.fr (c _ (by omega))).cg (fun k hk => if_neg (by omega)), a7.fr (by decide) (c _ (by omega)), a8.fr (c _ (by omega)), MSn.zs a9 (by omega) (by omega), a10.fr (c _ (by omega)) (fun _ _ _ => rfl), a11.fr (c _ (by omega)), mKa a12 (c _ (by omega))⟩, MO_zs (nown1 (s := 0) (by omega)) (by omega) (by omega) (by omega)⟩
  · rw [zs_s]
    show (v = 2 ∧ w = 0) ∨ (v = 8 ∧ w = 1) ∨ (v = 20 ∧ w = 2)
    omega
  · rw [r 523 (by decide)]; exact a1.2.1
  · rw [r 523 (by decide)]; exact a1.2.2.1
  · rw [r 523 (by decide)]; exact a1.2.2.2.1
  · rw [r 491 (by decide)]; exact a1.2.2.2.2.1
  · rw [r 506 (by decide)]; exact a1.2.2.2.2.2.1
  · rw [r 507 (by decide)]; exact a1.2.2.2.2.2.2
/-- SECRETS change: what beside the core stands -/
theorem MS.secF {s v : Int} {Y : Nat → List Int} {J J' : zM} {L : yM} {A : SA} (hs : s01 s) (h : MS s J L A) (c : MSc s J' L (uz 13 v (A.1, Y, A.2.2))) (hY : ∀ k, k < 10 → Y k = aY A k) (u : ∀ k, ¬ (1024 * s + 64 ≤ k ∧ k < 1024 * s + 512) → J' 492 k = J 492 k) (r : ∀ x, (517 ≤ x ∧ x ≤ 523) → J' x = J x) : MS s J' L (uz 13 v (A.1, Y, A.2.2)) := by
  obtain ⟨a0, a1, a2, a3, a4, a5, a6, a7, a8, a9, a10, a11, a12⟩ := h
  obtain ⟨b1, b2, b3, ack, b4, b5, b6⟩ := a3
  refine c.full ⟨?_, ?_, ?_⟩ (fun q lv => ?_) (fun lv i hi hy => ?_) ⟨?_, ?_, ?_, ack, b4, b5, ?_⟩
  · rw [r 523 (by omega)]; exact a1.2.1
  · rw [r 523 (by omega)]; exact a1.2.2.1
  · rw [r 523 (by omega)]; exact a1.2.2.2.1
  · have m := a2.2.2.2.1 q lv
    subst q
    show sg J' 492 890 16 = Y 4 ∧ J' 492 531 = ((Y 5).length : Int) ∧ sg J' 492 32 32 = earI (Y 0)
    rw [hY 4 (by decide), hY 5 (by decide), hY 0 (by decide), sg_fr (fun k p1 p2 => u k (by omega)), u 531 (by omega), sg_fr (fun k p1 p2 => u k (by omega))]
    exact m
  · have hy : Y (6 + i) ≠ [] := hy
    show mMs J' (plT s i) (Y (6 + i))
    rw [hY _ (by omega)] at hy ⊢
    have hb := plT_b (s := s) i
    exact (a8.1 lv i hi hy).fr (fun k p1 p2 => u k (by omega))
  · rw [r 522 (by omega)]; exact b1
  · rw [r 522 (by omega)]; exact b2
  · rw [r 522 (by omega)]; exact b3
  · obtain ⟨f1, f2, f3, f4⟩ := b6
    refine ⟨by rw [r 517 (by omega)]; exact f1, f2, fun g hg => ?_, fun g hg k k0 k1 => by rw [r 521 (by omega)]; exact f4 g hg k k0 k1⟩
    obtain ⟨q1, q2, q3, q4, q5, q6⟩ := f3 g hg
    have hb := plK_b ((aF A).2.1 g) hs
    exact ⟨by rw [r 518 (by omega)]; exact q1, q2, q3.fr (fun k p1 p2 => u k (by have p1 : plK s ((aF A).2.1 g) ≤ k := p1; omega)), by rw [r 519 (by omega)]; exact q4, by rw [r 520 (by omega)]; exact q5, q6⟩
theorem MS.two {s : Int} {J J1 J' : zM} {L : yM} {A : SA} {hand T : List Int} (hs : s01 s) (h : MS s J L A) (hz : aZ A 13 < 3) (o : mO (fun k => (1024 * s + 64 ≤ k ∧ k < 1024 * s + 192) ∨ (1024 * s + 256 ≤ k ∧ k < 1024 * s + 384)) J J1) (eJ : J' = zs J1 506 s 1) (h2 : mTwo s J' hand T) : MS s J' L (twoA hand T A) ∧ MO s J L J' L := by
  obtain ⟨c, m, u, r⟩ := h.core.two hs hz o eJ h2
  exact ⟨h.secF hs c (fun k hk => twoY_n (by omega)) (fun k hk => u k (by omega)) (fun x hx => r x (by omega) (by omega) (by omega) (by omega)), m⟩
theorem MS.three {s : Int} {J J1 J' : zM} {L : yM} {A : SA} {main T : List Int} (hs : s01 s) (h : MS s J L A) (hz : 2 ≤ aZ A 13) (o : mO (fun k => (1024 * s + 192 ≤ k ∧ k < 1024 * s + 256) ∨ (1024 * s + 384 ≤ k ∧ k < 1024 * s + 512)) J J1) (eJ : J' = zs J1 507 s 1) (h2 : mThree s J' main T) : MS s J' L (threeA main T A) ∧ MO s J L J' L := by
  obtain ⟨c, m, u, r⟩ := h.core.three hs hz o eJ h2
  exact ⟨h.secF hs c (fun k hk => threeY_n (by omega)) (fun k hk => u k (by omega)) (fun x hx => r x (by omega) (by omega) (by omega) (by omega)), m⟩
/-- the transcript in the model -/
theorem MS.tr {s many : Int} {J : zM} {L : yM} {A : SA} (h : MS s J L A) (lv : live (aZ A 0)) (h1 : aY A 6 ≠ []) (h2 : 1 < many → aY A 7 ≠ []) (h3 : 2 < many → aY A 8 ≠ []) (h4 : 3 < many → aY A 9 ≠ []) : mTr s many J (aY A 6 ++ (if 1 < many then aY A 7 else []) ++ (if 2 < many then aY A 8 else []) ++ (if 3 < many then aY A 9 else [])) := by
  have m := h.2.2.2.2.2.2.2.2.1.1 lv
  exact ⟨aY A 6, aY A 7, aY A 8, aY A 9, m 0 (by decide) h1, fun q => m 1 (by decide) (h2 q), fun q => m 2 (by decide) (h3 q), fun q => m 3 (by decide) (h4 q), rfl⟩
theorem ms_free {bd s : Int} {A : SA} {J : zM} {L : yM} (hs : s01 s) (h : MS s J L A) (ai : AI bd s A) : MS s (zs (zs J 540 (8 * s + aZ A 2 % 8) (-1)) 535 s (aZ A 2 + 1)) L (uz 2 (aZ A 2 + 1) A) ∧ MO s J L (zs (zs J 540 (8 * s + aZ A 2 % 8) (-1)) 535 s (aZ A 2 + 1)) L := by
  have b2 := ai.b2
  obtain ⟨a0, a1, a2, a3, a4, a5, a6, a7, a8, a9, a10, a11, a12⟩ := h
  obtain ⟨sl, hsl⟩ : ∃ sl, sl = 8 * s + aZ A 2 % 8 := ⟨_, rfl⟩
  rw [← hsl]
  have hsl2 : 8 * s ≤ sl ∧ sl < 8 * s + 8 := by omega
  obtain ⟨J', hJ'⟩ : ∃ J', J' = zs (zs J 540 sl (-1)) 535 s (aZ A 2 + 1) := ⟨_, rfl⟩
  rw [← hJ']
  have r : ∀ a, a ≠ 535 → a ≠ 540 → J' a = J a := fun a p q => by rw [hJ', zs_r _ p, zs_r _ q]
  have v540 : J' 540 = (zs J 540 sl (-1)) 540 := by rw [hJ', zs_r _ (by decide)]
  have v535 : ∀ k, k ≠ s → J' 535 k = J 535 k := fun k hk => by rw [hJ', zs_n _ (Or.inr hk), zs_r _ (by decide)]
  have c : ∀ (C : Nat → Prop), (∀ a, C a → a ≠ 535 ∧ a ≠ 540) → oEq s C J J' := fun C hC a i _ hc => by rw [r a (hC a hc).1 (hC a hc).2]
  have nn := mN_fr (r 509 (by decide) (by decide)) (r 510 (by decide) (by decide)) (r 511 (by decide) (by decide))
  obtain ⟨p0, p1, p2, p3, p4, p5, p6, p7, p8, p9, p10, p11⟩ := a0
  refine ⟨⟨⟨?_, ?_, ?_, ?_, ?_, ?_, ?_, ?_, ?_, ?_, p10, p11⟩, a1.fr (c _ (by omega)), a2.fr (c _ (by omega)), a3.fr hs (c _ (by omega)), ⟨?_, ?_⟩, a5.fr (c _ (by omega)), (a6.fr (c _ (by omega))).cg (fun k hk => if_neg (by omega)), a7.fr hs (c _ (by omega)), a8.fr (c _ (by omega)), MSn.fr a9 (fun a ha => r a (by omega) (by omega)) (by rw [r 491 (by decide) (by decide)]), a10.fr (c _ (by omega)) (fun _ _ _ => rfl), a11.fr (c _ (by omega)), mKa a12 (c _ (by omega))⟩, ⟨fun a i ho => ?_, fun _ _ _ => rfl, nn _, by rw [r 509 (by decide) (by decide)], mI_fr (r 509 (by decide) (by decide)) (r 510 (by decide) (by decide)), fun q => by rw [r 491 (by decide) (by decide)]; exact q, fun a ha => ⟨r a (by omega) (by omega), rfl⟩⟩⟩
  · rw [r _ (by decide) (by decide)]; exact p0
  · rw [hJ']; exact zs_s _ _ _ _
  · rw [r _ (by decide) (by decide)]; exact p2
  · rw [r _ (by decide) (by decide)]; exact p3
  · rw [r _ (by decide) (by decide)]; exact p4
  · rw [r _ (by decide) (by decide)]; exact p5
  · rw [r _ (by decide) (by decide)]; exact p6
  · rw [r _ (by decide) (by decide)]; exact p7
  · rw [r _ (by decide) (by decide)]; exact p8
  · rw [r _ (by decide) (by decide)]; exact p9
  · intro n w1
    have w1 : aZ A 2 + 1 ≤ n := w1
    have q := a4.1 n (by omega)
    show (J' 540 (8 * s + n % 8) = n ↔ (aK A n).1 ≠ -1) ∧ ((aK A n).1 ≠ -1 → J' 541 (8 * s + n % 8) = (aK A n).1 ∧ J' 542 (8 * s + n % 8) = (aK A n).2.1 ∧ ∀ i : Int, 0 ≤ i → i < 152 → J' 543 (200 * (8 * s + n % 8) + i) = (aK A n).2.2.1 i ∧ ((aK A n).2.2.1 i = 1 → J' 544 (200 * (8 * s + n % 8) + i) = (aK A n).2.2.2 i))
    rw [v540, r 541 (by decide) (by decide), r 542 (by decide) (by decide), r 543 (by decide) (by decide), r 544 (by decide) (by decide)]
    refine ⟨?_, q.2⟩
    by_cases d : 8 * s + n % 8 = sl
    · rw [d, zs_s]
      have hno : (aK A n).1 = -1 := by
        by_cases u : (aK A n).1 = -1
        · exact u
        · exfalso
          have := ai.k n (by omega) u
          omega
      exact ⟨fun u => by omega, fun u => absurd hno u⟩
    · rw [zs_n _ (Or.inr d)]
      exact q.1
  · intro j j0 j1
    rw [v540]
    by_cases d : 8 * s + j = sl
    · rw [d, zs_s]; decide
    · rw [zs_n _ (Or.inr d)]; exact a4.2 j j0 j1
  · by_cases q : a = 535
    · subst q
      have := ow1 ho (by omega)
      exact v535 i (by omega)
    · by_cases q2 : a = 540
      · subst q2
        have := ow8 ho (by omega)
        rw [v540, zs_n _ (Or.inr (by omega))]
      · rw [r a q q2]
