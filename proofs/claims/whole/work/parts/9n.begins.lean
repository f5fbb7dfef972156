/-- begin: both -/
theorem pm_begin {bd : Int} {A : SA} {J : zM} {L : yM} {Q : Int → zM → yM → Prop} (h : MS 0 J L A) (ai : AI bd 0 A) (h0 : aZ A 0 = 0) (hnow : J 491 3 = aZ A 17) (hQ : ∀ J' L', MS 0 J' L' (begA A) → MO 0 J L J' L' → Q ((aT (begA A)).2.1 - (aT A).2.1) J' L') : ∀ J11 : zM, J11 = zs J 491 4 1 → ∀ J12 : zM, J12 = zs J11 534 0 1 → w_X12_chance 0 J12 L (fun J13 L14 => w_X12_store 890 16 J13 L14 (fun J15 L16 => ∀ K19 : zM → yM → Prop, (∀ (J17 : zM) (L18 : yM), (∀ x20 : Int, x20 = (J17 512 0) → w_X12_hello 0 J17 L18 (fun J21 L22 => Q ((J21 512 0) - x20) J21 L22)) → K19 J17 L18) → (if (zand (J15 491 1) 2) = 2 then w_X12_takeShare 0 J15 L16 (fun J24 L25 => K19 J24 L25) else K19 J15 L16))) := by
  intro J11 e11 J12 e12
  have r := ai.b22 h0
  have b19 := ai.b19
  have f12 : ∀ a, a ≠ 491 → a ≠ 534 → J12 a = J a := fun a p q => by rw [e12, zs_r _ q, e11, zs_r _ p]
  have g12 : ∀ k, k ≠ 4 → J12 491 k = J 491 k := fun k hk => by rw [e12, zs_r _ (by decide), e11, zs_n _ (Or.inr hk)]
  have q4 : J12 491 4 = 1 := by rw [e12, zs_r _ (by decide), e11]; exact zs_s _ _ _ _
  have q534 : J12 534 0 = 1 := by rw [e12]; exact zs_s _ _ _ _
  have o534 : ∀ k, k ≠ 0 → J12 534 k = J 534 k := fun k hk => by rw [e12, zs_n _ (Or.inr hk), e11, zs_r _ (by decide)]
  clear e11 e12
  have seed : sg J12 492 (1024 * 0 + 24) 8 = aY A 2 := by rw [sg_row (f12 492 (by decide) (by decide))]; exact h.2.2.1.2.2.1
  have mk : mK (zi J12) := mK_fr h.2.2.2.2.2.2.2.2.2.2.2.2 (f12 495 (by decide) (by decide)) (f12 496 (by decide) (by decide))
  have v503 : J12 503 0 = aZ A 11 := by rw [f12 503 (by decide) (by decide)]; exact h.1.2.2.2.2.2.2.2.2.2.1
  refine s_chance (Or.inl rfl) v503 (by omega) (by rw [seed]; exact ai.y.2.2.1.2) mk (fun J13 k1 k2 k3 => ?_)
  rw [seed] at k1
  refine s_store (by decide) (by decide) (by decide) ?_
  obtain ⟨J15, e15⟩ : ∃ J15, J15 = zcp J13 500 0 492 890 16 := ⟨_, rfl⟩
  rw [← e15]
  have f15 : ∀ a, a ≠ 492 → J15 a = J13 a := fun a ha => by rw [e15]; exact zcp_r _ ha
  have u15 : ∀ k, ¬ (890 ≤ k ∧ k < 906) → J15 492 k = J 492 k := fun k hk => by rw [e15, zcp_out _ (by omega), k3.1 492 (by unfold cCh; omega) (by decide), f12 492 (by decide) (by decide)]
  have s15 : sg J15 492 890 16 = br A := by
    rw [e15, sg_zcp (by decide)]
    show sg J13 500 0 16 = (chI (aY A 2) 0 (aZ A 11)).take 16
    rw [← k1, sg_take _ _ _ _ _ (by decide)]
  clear e15
  have F15 : ∀ a, ¬ ((497 ≤ a ∧ a ≤ 502) ∨ a = 491 ∨ a = 492 ∨ a = 503 ∨ a = 534) → J15 a = J a := fun a ha => by rw [f15 a (by omega), k3.1 a (by unfold cCh; omega) (by omega), f12 a (by omega) (by omega)]
  have G15 : ∀ k, k ≠ 13 → J15 491 k = J12 491 k := fun k hk => by rw [f15 491 (by decide)]; exact k3.2 k (by unfold t13; exact hk)
  have H534 : J15 534 = J12 534 := by rw [f15 534 (by decide), k3.1 534 (by unfold cCh; omega) (by decide)]
  have w503 : J15 503 0 = aZ A 11 + 1 := by rw [f15 503 (by decide), k2, zs_s]
  have o503 : ∀ k, k ≠ 0 → J15 503 k = J 503 k := fun k hk => by rw [f15 503 (by decide), k2, zs_n _ (Or.inr hk), f12 503 (by decide) (by decide)]
  intro K19 hK19
  have z12 : aZ A 12 = 0 := ai.b29 r.2.2.2.2.2.2.2.1
  have y5 : aY (bgA A) 5 = [] := List.eq_nil_of_length_eq_zero r.2.2.2.2.2.2.2.1
  -- from where it has drawn
  have fin : ∀ (J17 : zM) (L18 : yM), (∀ a, ¬ ((497 ≤ a ∧ a ≤ 502) ∨ a = 491 ∨ a = 492 ∨ a = 503 ∨ a = 534) → J17 a = J a) → (∀ k, k ≠ 13 → J17 491 k = J12 491 k) → (∀ k, ¬ (890 ≤ k ∧ k < 906) → J17 492 k = J 492 k) → sg J17 492 890 16 = br A → J17 534 = J12 534 → J17 503 0 = bc A → (∀ k, k ≠ 0 → J17 503 k = J 503 k) → (L18 505 0).toInt = bs A → (L18 504 0).toInt = bo A → (∀ a i, (a ≠ 504 ∨ i ≠ 0) → (a ≠ 505 ∨ i ≠ 0) → L18 a i = L a i) → K19 J17 L18 := fun J17 L18 c1 c2 c3 c4 c5 c6 c7 c8 c9 c10 => hK19 J17 L18 (by
    intro x20 e20
    obtain ⟨m1, m2⟩ := MSc_beg h ai h0 c1 (fun k p q => by rw [c2 k p, g12 k q]) (by rw [c2 4 (by decide)]; exact q4) c3 (by rw [c5]; exact q534) (fun k hk => by rw [c5]; exact o534 k hk) c6 c7 c8 c9 c10
    have t0 : J17 512 0 = (aT A).2.1 := m1.2.2.2.2.2.2.2.2.1.2.1
    have key := ms_hello (bd := bd) (n := 0) (A := bgA A) (J := J17) (L := L18) (Q := fun J21 L22 => Q ((J21 512 0) - x20) J21 L22) m1 (bg_y ai) z12 c4 (by rw [y5]; rfl) (by decide) (by rw [c2 3 (by decide), g12 3 (by decide)]; exact hnow) (AI_beg ai h0) (Or.inl rfl) (fun J21 w1 w2 => by
      have t1 : J21 512 0 = (aT (begA A)).2.1 := w1.2.2.2.2.2.2.2.2.2.1.2.1
      rw [t1, e20, t0]
      exact hQ J21 L18 w1 (m2.tr w2))
    rw [y5] at key
    exact key)
  have m15 : zand (J15 491 1) 2 = 2 * aZ A 19 := by rw [G15 1 (by decide), g12 1 (by decide)]; exact h.2.2.2.2.2.2.2.2.2.2.2.1.2.1 rfl
  have eL5 : (L 505 0).toInt = aZ A 15 := h.1.2.2.2.2.2.2.2.2.2.2.1
  have eL4 : (L 504 0).toInt = aZ A 16 := h.1.2.2.2.2.2.2.2.2.2.2.2
  rw [m15]
  by_cases c : aZ A 19 = 0
  · rw [if_neg (by omega)]
    exact fin J15 L F15 G15 u15 s15 H534 (by rw [w503]; unfold bc; rw [if_pos c]) o503 (by rw [eL5]; unfold bs; rw [if_pos c]) (by rw [eL4]; unfold bo; rw [if_pos c]) (fun _ _ _ _ => rfl)
  · rw [if_pos (by omega)]
    have seed5 : sg J15 492 (1024 * 0 + 24) 8 = aY A 2 := by
      rw [sg_fr (fun k p q => u15 k (by omega))]
      exact h.2.2.1.2.2.1
    refine s_takeShare (Or.inl rfl) w503 (by omega) (by rw [seed5]; exact ai.y.2.2.1.2) (mK_fr h.2.2.2.2.2.2.2.2.2.2.2.2 (F15 495 (by decide)) (F15 496 (by decide))) (fun J16 L16 p1 p2 p3 p4 p5 => ?_)
    rw [seed5] at p3 p4
    have e492 : J16 492 = J15 492 := p2.1 492 (by unfold cCh; omega) (by decide)
    refine fin J16 L16 (fun a ha => by rw [p2.1 a (by unfold cCh; omega) (by omega)]; exact F15 a ha) (fun k hk => by rw [p2.2 k (by unfold t13; exact hk)]; exact G15 k hk) (fun k hk => by rw [e492]; exact u15 k hk) (by rw [sg_row e492]; exact s15) (by rw [p2.1 534 (by unfold cCh; omega) (by decide)]; exact H534) (by rw [p1, zs_s]; unfold bc; rw [if_neg c]) (fun k hk => by rw [p1, zs_n _ (Or.inr hk)]; exact o503 k hk) ?_ ?_ (fun a i p q => p5 a i p q)
    · unfold bs
      rw [if_neg c]
      exact p4
    · unfold bo
      rw [if_neg c]
      exact p3
theorem call_begin {bd : Int} {J : zM} {L : yM} (h : PB bd J L) : w_X11_begin J L (QA bd w_X12_begin) (XA bd [(ISE, 1)] w_X12_begin) := by
  obtain ⟨G, D, N, hx, hm, hI⟩ := h
  have s0 : s01 0 := Or.inl rfl
  have ai := hI.ai s0
  unfold w_X11_begin
  refine x_notBegun hx hI (fun c => ?_) (fun c => ⟨1, List.mem_singleton.mpr rfl, ?_⟩)
  · have t0 : J 307 8 = (aT (G 0)).2.1 := (hx.1 0 s0).2.2.2.2.2.2.2.2.2.1.2.2.2.1
    intro x4 e4
    rw [t0] at e4
    refine px_begin (e := 139) (Or.inl rfl) (hx.1 0 s0) ai c (fun J1 L1 u1 u2 => ?_)
    have t1 : J1 307 8 = (aT (begA (G 0))).2.1 := u1.2.2.2.2.2.2.2.2.2.1.2.2.2.1
    rw [t1, e4]
    have X1 := hx.act (B := begA (G 0)) s0 u1 (XO.c u2)
    have m1 := hm.xg hI (XOc.g s0 (XO.c u2))
    unfold QA
    intro L1 eL
    have X1 := X1.o eL
    have m1 := m1.o hI eL
    unfold w_X12_begin
    refine m_begun m1 hI (fun _ K7 hK7 => if01.mpr (m_thr0 hK7 m1 (fun J8 P M z _ _ => ?_))) (fun n => absurd c n)
    refine pm_begin (Q := fun b J2 L2 => AN bd 0 (b = (aT (begA (G 0))).2.1 - (aT (G 0)).2.1 ∧ L2 552 = L1 552) J2 L2) (P.1 0 s0) ai c (by rw [P.2.2]; exact (hI.1 0 s0).2.2.2.symm) (fun J9 L9 w1 w2 => ?_)
    obtain ⟨P9, M9, z9⟩ := P.act s0 hI w1 w2
    refine ⟨z9.trans z, ⟨rfl, (M9 552 (Or.inr rfl)).2.trans (M 552 (Or.inr rfl)).2⟩, _, D, N, (X1.mg M).mg M9, P9, PI_z hI s0 ?_ (nq_beg (G 0)) (nx_beg ai c)⟩
    exact AI_fly (AI_beg ai c) (show ((0 : Nat) : Int) ≤ 204 * 0 by decide)
  · unfold w_X12_begin
    exact m_begun hm hI (fun q => absurd q c) (fun _ K7 hK7 => if11.mpr (m_thrK hK7 hm (by decide) (fun J8 P M z => ⟨z, trivial, PB.q hx hI P M⟩)))
