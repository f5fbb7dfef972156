/-! key, name, greet -/
theorem nx_id {k0 k1 k2 : List Int} {A : SA} (h : ¬ nextA A) : ¬ nextA (idA k0 k1 k2 A) := nx_same h rfl rfl rfl
theorem ln_id {e : Nat} (he : iSide e) : ln0 (e + 2) = 16 ∧ ln0 (e + 3) = 8 ∧ ln0 (e + 4) = 8 := by
  rcases he with rfl | rfl <;> decide +kernel
theorem sg2 {J : zM} {a : Nat} {p : Int} {l1 l2 : List Int} {n : Nat} (h : n = l1.length + l2.length) : sg (zw J a p (l1 ++ l2)) a p n = l1 ++ l2 := by
  have q := zw_sg J a p (l1 ++ l2)
  rw [List.length_append, ← h] at q
  exact q
theorem call_key {bd s : Int} {a b : Int64} {J : zM} {L : yM} (h : PB bd J L) (rs : R32 s) : w_X11_key s a b J L (QV bd (w_X12_key s a b)) (XW bd [(IOB, 1), (ISE, 2)] (w_X12_key s a b)) := by
  obtain ⟨G, D, N, hx, hm, hI⟩ := h
  unfold w_X11_key
  refine x_side rs (fun hs => ?_) (fun ns => ⟨1, List.mem_cons_self, ?_⟩)
  · have ai := hI.ai hs
    refine x_notBegun hx hI (fun c => ⟨s01b hs, ?_⟩) (fun c => ⟨2, List.mem_cons_of_mem _ List.mem_cons_self, ?_⟩)
    · have ln := ln_id (sdE hs)
      have ia := nb_len 8 a.toInt
      have ib := nb_len 8 b.toInt
      refine s_putLong (by decide) (by rw [ln.1]; decide) ⟨s01b hs, s_putLong (by decide) (by rw [ln.1]; decide) ?_⟩
      rw [zw_app J (sd s + 2) 0 8 (nb 8 a.toInt) (nb 8 b.toInt) (by rw [ia]; rfl)]
      obtain ⟨J1, e1⟩ : ∃ J1, J1 = zw J (sd s + 2) 0 (nb 8 a.toInt ++ nb 8 b.toInt) := ⟨_, rfl⟩
      rw [← e1]
      have X := hx.1 s hs
      have f1 : ∀ c, c ≠ sd s + 2 → J1 c = J c := fun c hc => by rw [e1]; exact zw_r J hc
      have q := XS.idA (k0 := nb 8 a.toInt ++ nb 8 b.toInt) (k1 := aY (G s) 1) (k2 := aY (G s) 2) (J' := J1) (sdE hs) X (fun c hc => f1 c (by omega)) (by rw [e1]; exact sg2 (by rw [ia, ib])) (by rw [sg_row (f1 _ (by omega))]; exact X.2.2.1.2.1) (by rw [sg_row (f1 _ (by omega))]; exact X.2.2.1.2.2.1)
      have PX1 := hx.act hs q.1 q.2.c
      have m1 := hm.xg hI (q.2.c.g hs)
      unfold QV w_X12_key
      refine m_side rs (fun _ K7 hK7 => if01.mpr (m_begun m1 hI (fun _ => if01.mpr ?_) (fun n => absurd c n))) (fun n => absurd hs n)
      refine m_thz0 hK7 m1 (fun J8 P M z => ?_)
      refine s_numberTo (by decide) (by omega) (by omega) (s_numberTo (by decide) (by omega) (by omega) ?_)
      show AN bd 0 True (zw (zw J8 492 (1024 * s + 0) (nb 8 a.toInt)) 492 (1024 * s + 0 + 8) (nb 8 b.toInt)) L
      rw [zw_app J8 492 (1024 * s + 0) (1024 * s + 0 + 8) (nb 8 a.toInt) (nb 8 b.toInt) (by rw [ia]; rfl), Int.add_zero]
      obtain ⟨J9, e9⟩ : ∃ J9, J9 = zw J8 492 (1024 * s) (nb 8 a.toInt ++ nb 8 b.toInt) := ⟨_, rfl⟩
      rw [← e9]
      have il : ((nb 8 a.toInt ++ nb 8 b.toInt).length : Int) = 16 := by rw [List.length_append, ia, ib]; rfl
      have hU : ∀ k, ¬ (1024 * s ≤ k ∧ k < 1024 * s + 16) → J9 492 k = J8 492 k := fun k hk => by rw [e9]; exact zw_out J8 (by rw [il]; exact hk)
      have Y := P.1 s hs
      have w := MS.idA (k0 := nb 8 a.toInt ++ nb 8 b.toInt) (k1 := aY (G s) 1) (k2 := aY (G s) 2) (J' := J9) hs Y ai (fun c hc => by rw [e9]; exact zw_r J8 hc) (fun k hk => hU k (by omega)) (fun q lv => by subst q; unfold live at lv; omega) (by rw [e9]; exact sg2 (by rw [ia, ib])) (by rw [sg_fr (fun k p q => hU k (by omega))]; exact Y.2.2.1.2.1) (by rw [sg_fr (fun k p q => hU k (by omega))]; exact Y.2.2.1.2.2.1)
      obtain ⟨P9, M9, z9⟩ := P.act hs hI w.1 w.2
      have y1 := ai.y.2.1
      have y2 := ai.y.2.2.1
      exact ⟨z9.trans z, trivial, _, D, N, (PX1.mg M).mg M9, P9, PI_z hI hs (AI_idA ai ⟨by rw [List.length_append, ia, ib], oct_app.mpr ⟨nb_oct _ _, nb_oct _ _⟩⟩ y1 y2) (nq_same rfl rfl rfl rfl) (nx_id (hI.1 s hs).2.2.1)⟩
    · unfold w_X12_key
      exact m_side rs (fun _ K7 hK7 => if01.mpr (m_begun hm hI (fun q => absurd q c) (fun _ => if11.mpr (m_thzK hK7 hm (by decide) (fun J8 P M z => ⟨z, trivial, PB.q hx hI P M⟩))))) (fun n => absurd hs n)
  · unfold w_X12_key
    exact m_side rs (fun q => absurd q ns) (fun _ K7 hK7 => if11.mpr (m_thzK hK7 hm (by decide) (fun J8 P M z => ⟨z, trivial, PB.q hx hI P M⟩)))
theorem call_name {bd s : Int} {a b : Int64} {J : zM} {L : yM} (h : PB bd J L) (rs : R32 s) : w_X11_name s a b J L (QV bd (w_X12_name s a b)) (XW bd [(IOB, 1), (ISE, 2)] (w_X12_name s a b)) := by
  obtain ⟨G, D, N, hx, hm, hI⟩ := h
  unfold w_X11_name
  refine x_side rs (fun hs => ?_) (fun ns => ⟨1, List.mem_cons_self, ?_⟩)
  · have ai := hI.ai hs
    refine x_notBegun hx hI (fun c => ⟨s01b hs, ?_⟩) (fun c => ⟨2, List.mem_cons_of_mem _ List.mem_cons_self, ?_⟩)
    · have ln := ln_id (sdE hs)
      have ia := nb_len 8 a.toInt
      have ib := nb_len 8 b.toInt
      refine s_putLong (by decide) (by rw [ln.2.1]; decide) ⟨s01b hs, s_putLong (by decide) (by rw [ln.2.2]; decide) ?_⟩
      obtain ⟨J1, e1⟩ : ∃ J1, J1 = zw (zw J (sd s + 3) 0 (nb 8 a.toInt)) (sd s + 4) 0 (nb 8 b.toInt) := ⟨_, rfl⟩
      rw [← e1]
      have X := hx.1 s hs
      have f1 : ∀ c, c ≠ sd s + 3 → c ≠ sd s + 4 → J1 c = J c := fun c p q => by rw [e1, zw_r _ q, zw_r _ p]
      have w8 := zw_sg J (sd s + 3) 0 (nb 8 a.toInt)
      have v8 := zw_sg (zw J (sd s + 3) 0 (nb 8 a.toInt)) (sd s + 4) 0 (nb 8 b.toInt)
      rw [ia] at w8
      rw [ib] at v8
      have q := XS.idA (k0 := aY (G s) 0) (k1 := nb 8 a.toInt) (k2 := nb 8 b.toInt) (J' := J1) (sdE hs) X (fun c hc => f1 c (by omega) (by omega)) (by rw [sg_row (f1 _ (by omega) (by omega))]; exact X.2.2.1.1) (by rw [e1, sg_row (zw_r _ (by omega))]; exact w8) (by rw [e1]; exact v8)
      have PX1 := hx.act hs q.1 q.2.c
      have m1 := hm.xg hI (q.2.c.g hs)
      unfold QV w_X12_name
      refine m_side rs (fun _ K7 hK7 => if01.mpr (m_begun m1 hI (fun _ => if01.mpr ?_) (fun n => absurd c n))) (fun n => absurd hs n)
      refine m_thz0 hK7 m1 (fun J8 P M z => ?_)
      refine s_numberTo (by decide) (by omega) (by omega) (s_numberTo (by decide) (by omega) (by omega) ?_)
      show AN bd 0 True (zw (zw J8 492 (1024 * s + 16) (nb 8 a.toInt)) 492 (1024 * s + 24) (nb 8 b.toInt)) L
      rw [zw_app J8 492 (1024 * s + 16) (1024 * s + 24) (nb 8 a.toInt) (nb 8 b.toInt) (by rw [ia]; omega)]
      obtain ⟨J9, e9⟩ : ∃ J9, J9 = zw J8 492 (1024 * s + 16) (nb 8 a.toInt ++ nb 8 b.toInt) := ⟨_, rfl⟩
      rw [← e9]
      have il : ((nb 8 a.toInt ++ nb 8 b.toInt).length : Int) = 16 := by rw [List.length_append, ia, ib]; rfl
      have hU : ∀ k, ¬ (1024 * s + 16 ≤ k ∧ k < 1024 * s + 32) → J9 492 k = J8 492 k := fun k hk => by rw [e9]; exact zw_out J8 (by rw [il]; omega)
      have Y := P.1 s hs
      have g1 := zw_sg2 J8 492 (1024 * s + 16) (nb 8 a.toInt) (nb 8 b.toInt)
      have g2 := zw_sgm J8 492 (1024 * s + 16) (1024 * s + 24) (nb 8 a.toInt) (nb 8 b.toInt) [] (by rw [ia]; omega)
      rw [ia] at g1
      rw [ib, List.append_nil] at g2
      have w := MS.idA (k0 := aY (G s) 0) (k1 := nb 8 a.toInt) (k2 := nb 8 b.toInt) (J' := J9) hs Y ai (fun c hc => by rw [e9]; exact zw_r J8 hc) (fun k hk => hU k (by omega)) (fun q lv => by subst q; unfold live at lv; omega) (by rw [sg_fr (fun k p q => hU k (by omega))]; exact Y.2.2.1.1) (by rw [e9]; exact g1) (by rw [e9]; exact g2)
      obtain ⟨P9, M9, z9⟩ := P.act hs hI w.1 w.2
      have y0 := ai.y.1
      exact ⟨z9.trans z, trivial, _, D, N, (PX1.mg M).mg M9, P9, PI_z hI hs (AI_idA ai y0 ⟨ia, nb_oct _ _⟩ ⟨ib, nb_oct _ _⟩) (nq_same rfl rfl rfl rfl) (nx_id (hI.1 s hs).2.2.1)⟩
    · unfold w_X12_name
      exact m_side rs (fun _ K7 hK7 => if01.mpr (m_begun hm hI (fun q => absurd q c) (fun _ => if11.mpr (m_thzK hK7 hm (by decide) (fun J8 P M z => ⟨z, trivial, PB.q hx hI P M⟩))))) (fun n => absurd hs n)
  · unfold w_X12_name
    exact m_side rs (fun q => absurd q ns) (fun _ K7 hK7 => if11.mpr (m_thzK hK7 hm (by decide) (fun J8 P M z => ⟨z, trivial, PB.q hx hI P M⟩)))
/-! greet: the server's greeting -/
theorem AI_greet {bd s : Int} {l : List Int} {A : SA} (ai : AI bd s A) (h : l.length ≤ 150 ∧ oct l) : AI bd s (uy 3 l A) := by
  obtain ⟨z1, ⟨y0, y1, y2, y3, y4, y5, y6⟩, m, rest⟩ := ai
  exact ⟨z1, ⟨y0, y1, y2, h, y4, y5, fun k k0 k1 => by rw [show aY (uy 3 l A) k = aY A k from if_neg (by omega)]; exact y6 k k0 k1⟩, m, rest⟩
theorem XS.greet {e : Nat} {s : Int} {l : List Int} {A : SA} {J J' : zM} {L : yM} (he : iSide e) (h : XS e s J L A) (f : ∀ a, a ≠ e + 1 → a ≠ e + 5 → a ≠ 0 → J' a = J a) (g : ∀ k, k ≠ 4 → J' (e + 1) k = J (e + 1) k) (h1 : J' (e + 1) 4 = (l.length : Int)) (h2 : sg J' (e + 5) 0 l.length = l) : XS e s J' L (uy 3 l A) := by
  have he2 : 139 ≤ e := by unfold iSide at he; omega
  obtain ⟨a0, a1, a2, a3, a4, a5, a6, a7, a8, a9, a10⟩ := h
  obtain ⟨p0, p1, p2, p3, p4, p5, p6, p7, p8⟩ := a1
  refine ⟨a0.fr (f _ (by omega) (by omega) (by omega)), ⟨h1, by rw [g 5 (by decide)]; exact p1, by rw [g 6 (by decide)]; exact p2, by rw [g 7 (by decide)]; exact p3, by rw [g 8 (by decide)]; exact p4, by rw [g 11 (by decide)]; exact p5, by rw [g 12 (by decide)]; exact p6, by rw [g 14 (by decide)]; exact p7, p8⟩, ⟨?_, ?_, ?_, h2, ?_, ?_⟩, a3.fr (fun x p q => f x (by omega) (by omega) (by omega)) (fun k _ => by rw [f _ (by omega) (by omega) (by omega)]), a4.fr (fun x p q => f x (by omega) (by omega) (by omega)), a5.fr (fun x p q => f x (by omega) (by omega) (by omega)), a6.fr (f _ (by omega) (by omega) (by omega)), a7.fr he (fun x p q => f x (by omega) (by omega) (by omega)), (a8.fr (fun x p q => f x (by omega) (by omega) (by omega)) (f _ (by omega) (by omega) (by omega))).cg rfl id (fun k k0 k1 => if_neg (by omega)), a9.fr (fun x p => ?_) (by rw [f _ (by omega) (by omega) (by omega)]), a10.fr (fun x p q => f x (by omega) (by omega) (by omega)) (fun _ _ _ => rfl)⟩
  · rw [sg_row (f _ (by omega) (by omega) (by omega))]; exact a2.1
  · rw [sg_row (f _ (by omega) (by omega) (by omega))]; exact a2.2.1
  · rw [sg_row (f _ (by omega) (by omega) (by omega))]; exact a2.2.2.1
  · rw [sg_row (f _ (by omega) (by omega) (by omega))]; exact a2.2.2.2.2.1
  · rw [sg_row (f _ (by omega) (by omega) (by omega))]; exact a2.2.2.2.2.2
  · rcases p with p | p | p | p | p
    · exact f x (by omega) (by omega) (by omega)
    · exact f x (by omega) (by omega) (by omega)
    · exact f x (by omega) (by omega) (by omega)
    · exact f x (by omega) (by omega) (by omega)
    · have := wy_out he p
      exact f x (by omega) (by omega) (by omega)
theorem MS.greet {bd s : Int} {l : List Int} {A : SA} {J J' : zM} {L : yM} (hs : s01 s) (h : MS s J L A) (ai : AI bd s A) (f : ∀ a, a ≠ 491 → a ≠ 493 → a ≠ 494 → J' a = J a) (g : ∀ k, k ≠ 7 → k ≠ 9 → k ≠ 0 → J' 491 k = J 491 k) (h1 : J' 491 7 = (l.length : Int)) (h2 : sg J' 493 0 l.length = l) : MS s J' L (if s = 1 then uy 3 l A else A) := by
  have c : ∀ (C : Nat → Prop), (∀ a, C a → a ≠ 491 ∧ a ≠ 493 ∧ a ≠ 494) → oEq s C J J' := fun C hC a i _ hc => by rw [f a (hC a hc).1 (hC a hc).2.1 (hC a hc).2.2]
  have key : ∀ B : SA, aZ B = aZ A → (∀ k, k ≠ 3 → aY B k = aY A k) → (s = 1 → aY B 3 = l) → B.2.2 = A.2.2 → MS s J' L B := by
    intro B hz hy h3 hr
    obtain ⟨a0, a1, a2, a3, a4, a5, a6, a7, a8, a9, a10, a11, a12⟩ := h
    have e1 : aN B = aN A := congrArg (fun t => t.1) hr
    have e2 : aL B = aL A := congrArg (fun t => t.2.1) hr
    have e3 : aF B = aF A := congrArg (fun t => t.2.2.1) hr
    have e4 : aK B = aK A := congrArg (fun t => t.2.2.2.1) hr
    have e5 : aW B = aW A := congrArg (fun t => t.2.2.2.2.1) hr
    have e6 : aT B = aT A := congrArg (fun t => t.2.2.2.2.2) hr
    refine ⟨?_, ?_, ?_, ?_, ?_, ?_, ?_, ?_, ?_, ?_, ?_, ?_, mKa a12 (c _ (by omega))⟩
    · rw [hz]; exact a0.fr (c _ (by omega)) (fun _ _ _ => rfl)
    · rw [hz]
      unfold M1
      rw [f 536 (by decide) (by decide) (by decide), f 523 (by decide) (by decide) (by decide), f 506 (by decide) (by decide) (by decide), f 507 (by decide) (by decide) (by decide), g 4 (by decide) (by decide) (by decide), g 58 (by decide) (by decide) (by decide)]
      exact a1
    · rw [hz]
      have r492 : J' 492 = J 492 := f 492 (by decide) (by decide) (by decide)
      unfold M2
      rw [hy 0 (by decide), hy 1 (by decide), hy 2 (by decide), hy 4 (by decide), hy 5 (by decide), sg_row r492, sg_row r492, sg_row r492, sg_row r492, sg_row r492, r492]
      exact ⟨a2.1, a2.2.1, a2.2.2.1, a2.2.2.2.1, fun q => by rw [h3 q]; exact ⟨h1, h2⟩⟩
    · rw [hz, e3]; exact a3.fr hs (c _ (by omega))
    · rw [hz, e4]; exact ⟨a4.1.fr hs (c _ (by omega)), a4.2.fr (c _ (by omega))⟩
    · rw [hz, e2]; exact a5.fr (c _ (by omega))
    · rw [hz]; exact a6.fr (c _ (by omega))
    · rw [hz, e5]; exact a7.fr hs (c _ (by omega))
    · rw [hz]
      have m := a8.fr (c _ (by omega))
      unfold M44 at m ⊢
      obtain ⟨d1, d2, d3, d4⟩ := m
      refine ⟨fun lv i hi q => ?_, fun w => ?_, fun w i i0 i1 => ?_, d4⟩
      · rw [hy _ (by omega)] at q ⊢; exact d1 lv i hi q
      · rw [hy 14 (by decide), hy 15 (by decide)]
        refine ⟨(d2 w).1, (d2 w).2.1, fun i hi => ?_⟩
        rw [hy _ (by omega), hy _ (by omega), hy _ (by omega)]
        exact (d2 w).2.2 i hi
      · rw [hy _ (by omega), hy _ (by omega), hy _ (by omega)]
        exact d3 w i i0 i1
    · rw [e6]; exact MSn.fr a9 (fun b hb => f b (by omega) (by omega) (by omega)) (g 30 (by decide) (by decide) (by decide))
    · rw [e1]; exact a10.fr (c _ (by omega)) (fun _ _ _ => rfl)
    · rw [hz]
      unfold M15
      rw [g 2 (by decide) (by decide) (by decide), g 1 (by decide) (by decide) (by decide)]
      exact a11
  by_cases q : s = 1
  · rw [if_pos q]
    exact key (uy 3 l A) rfl (fun k hk => if_neg hk) (fun _ => rfl) rfl
  · rw [if_neg q]
    exact key A rfl (fun _ _ => rfl) (fun w => absurd w q) rfl
theorem call_greet {bd : Int} {J : zM} {L : yM} (h : PB bd J L) : w_X11_greet J L (QA bd w_X12_greet) (XA bd [(ISE, 1), (IAE, 2)] w_X12_greet) := by
  obtain ⟨G, D, N, hx, hm, hI⟩ := h
  have s1 : s01 1 := Or.inr rfl
  have dl := hI.2.1
  unfold w_X11_greet
  refine x_notBegun hx hI (fun c => ?_) (fun c => ⟨1, List.mem_cons_self, ?_⟩)
  · rw [hx.2.1.1]
    refine ⟨⟨by omega, by omega⟩, ?_⟩
    by_cases c1 : 150 < (D.length : Int)
    · rw [if_pos c1]
      refine ⟨2, List.mem_cons_of_mem _ List.mem_cons_self, ?_⟩
      unfold w_X12_greet
      refine m_begun hm hI (fun _ K7 hK7 => if01.mpr ?_) (fun n => absurd c n)
      rw [hm.2.1.1]
      refine ⟨⟨by omega, by omega⟩, ?_⟩
      rw [if_pos c1]
      exact m_thrK hK7 hm (by decide) (fun J8 P M z => ⟨z, trivial, PB.q hx hI P M⟩)
    rw [if_neg c1]
    refine ⟨⟨by decide, by decide, by omega, by omega, by omega⟩, fun J7 e7 J8 e8 J9 e9 => ?_⟩
    have z704 : J7 0 4 = (D.length : Int) := by rw [e7, zcp_r _ (by decide)]; exact hx.2.1.1
    rw [z704] at e8
    have f9 : ∀ a, a ≠ 315 + 1 → a ≠ 315 + 5 → a ≠ 0 → J9 a = J a := fun a p q w => by rw [e9, zs_r _ w, e8, zs_r _ p, e7, zcp_r _ q]
    have g9 : ∀ k, k ≠ 4 → J9 (315 + 1) k = J (315 + 1) k := fun k hk => by rw [e9, zs_r _ (by decide), e8, zs_n _ (Or.inr hk), e7, zcp_r _ (by decide)]
    have h94 : J9 (315 + 1) 4 = (D.length : Int) := by rw [e9, zs_r _ (by decide), e8]; exact zs_s _ _ _ _
    have h95 : sg J9 (315 + 5) 0 D.length = D := by
      rw [sg_row (show J9 (315 + 5) = J7 (315 + 5) by rw [e9, zs_r _ (by decide), e8, zs_r _ (by decide)]), e7]
      rw [sg_zcp (by omega)]
      exact hx.2.1.2
    have X9 : XS (sd 1) 1 J9 L (uy 3 D (G 1)) := XS.greet (e := 315) (Or.inr rfl) (hx.1 1 s1) f9 g9 h94 h95
    have X0 : XS (sd 0) 0 J9 L (G 0) := XS.ot (sdE (Or.inl rfl)) (hx.1 0 (Or.inl rfl)) (fun a ha => by
      have w0 : sd 0 = 139 := by decide
      rcases ha with ha | ha
      · rw [w0] at ha; exact f9 a (by omega) (by omega) (by omega)
      · have w := wy_out (sdE (s := 0) (Or.inl rfl)) ha
        exact f9 a (by omega) (by omega) (by omega)) (fun _ _ => rfl)
    have PX9 : PX J9 L (ug 1 (uy 3 D (G 1)) G) [] N := by
      refine ⟨fun t ht => ?_, ⟨by rw [e9]; exact zs_s _ _ _ _, rfl⟩, by rw [e9, zs_n _ (Or.inr (by decide)), e8, zs_r _ (by decide), e7, zcp_r _ (by decide)]; exact hx.2.2⟩
      rcases ht with rfl | rfl
      · rw [ug_n _ _ (by decide)]; exact X0
      · rw [ug_s]; exact X9
    have O9 : XG J L J9 L := fun a ha => ⟨f9 a (by omega) (by omega) (by omega), rfl⟩
    have m9 := hm.xg hI O9
    have I9 : PI bd (ug 1 (uy 3 D (G 1)) G) [] N := by
      have q := PI_z hI s1 (B := uy 3 D (G 1)) (AI_greet (hI.ai s1) ⟨by omega, hI.2.2.1⟩) (nq_same rfl rfl rfl rfl) (nx_same (hI.1 1 s1).2.2.1 rfl rfl rfl)
      exact ⟨q.1, by decide, oct_nil, q.2.2.2⟩
    have h94' : J9 316 4 = (D.length : Int) := h94
    rw [h94']
    unfold QA
    intro L eL
    have PX9 := PX9.o eL
    have m9 := m9.o hI eL
    unfold w_X12_greet
    refine m_begun m9 hI (fun _ K7 hK7 => if01.mpr ?_) (fun n => absurd c n)
    rw [m9.2.1.1]
    refine ⟨⟨by omega, by omega⟩, ?_⟩
    rw [if_neg c1]
    refine m_thr0 hK7 m9 (fun J10 P M z _ _ => ?_)
    intro J11 e11
    rw [P.2.1.1] at e11
    have v7 : J11 491 7 = (D.length : Int) := by rw [e11]; exact zs_s _ _ _ _
    have f11 : ∀ a, a ≠ 491 → J11 a = J10 a := fun a ha => by rw [e11]; exact zs_r _ ha
    refine cp_by (a := 494) (b := 493) (off := 0) (n := (D.length : Int)) (by decide) (by omega) (fun x J12 K x0 x1 cp hK => ?_) (fun J12 K cp => ?_)
    · rw [show J12 491 7 = (D.length : Int) by rw [cp.2 491 (by decide)]; exact v7]
      refine ⟨⟨by omega, by omega⟩, ⟨by omega, by omega⟩, ?_⟩
      rw [if_pos x1]
      refine ⟨⟨by omega, by omega⟩, ⟨by omega, by omega⟩, fun J13 e13 => hK J13 ?_⟩
      rw [Int.zero_add]
      exact e13
    rw [show J12 491 7 = (D.length : Int) by rw [cp.2 491 (by decide)]; exact v7]
    refine ⟨⟨by omega, by omega⟩, ⟨by omega, by omega⟩, ?_⟩
    rw [if_neg (by omega)]
    intro J13 e13
    have c12 : sg J12 493 0 D.length = D := cp.sg (c := D.length) rfl (by rw [sg_row (f11 494 (by decide))]; exact P.2.1.2)
    have f13 : ∀ a, a ≠ 491 → a ≠ 493 → J13 a = J10 a := fun a p q => by rw [e13, zs_r _ p, cp.2 a q, f11 a p]
    have g13 : ∀ k, k ≠ 7 → k ≠ 9 → J13 491 k = J10 491 k := fun k p q => by rw [e13, zs_n _ (Or.inr q), cp.2 491 (by decide), e11, zs_n _ (Or.inr p)]
    have h13 : J13 491 7 = (D.length : Int) := by rw [e13, zs_n _ (Or.inr (by decide)), cp.2 491 (by decide)]; exact v7
    have h493 : sg J13 493 0 D.length = D := by rw [sg_row (show J13 493 = J12 493 by rw [e13]; exact zs_r _ (by decide))]; exact c12
    rw [h13]
    refine ⟨by rw [g13 0 (by decide) (by decide)]; exact z, ⟨rfl, (M 552 (Or.inr rfl)).2⟩, _, [], N, (PX9.mg M).mg (fun a ha => ⟨f13 a (by omega) (by omega), rfl⟩), ⟨fun t ht => ?_, ⟨by rw [e13]; exact zs_s _ _ _ _, rfl⟩, by rw [g13 3 (by decide) (by decide)]; exact P.2.2⟩, I9⟩
    have q := MS.greet (l := D) (J' := J13) ht (P.1 t ht) (hI.ai ht) (fun a p w _ => f13 a p w) (fun k p w _ => g13 k p w) h13 h493
    rcases ht with rfl | rfl
    · rw [ug_n _ _ (by decide)]; rw [if_neg (by decide)] at q; exact q
    · rw [ug_s]; rw [if_pos rfl] at q; exact q
  · unfold w_X12_greet
    exact m_begun hm hI (fun q => absurd q c) (fun _ K7 hK7 => if11.mpr (m_thrK hK7 hm (by decide) (fun J8 P M z => ⟨z, trivial, PB.q hx hI P M⟩)))
