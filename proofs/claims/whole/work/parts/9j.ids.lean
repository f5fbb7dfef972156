/-! calls without an answer; close, key, name, greet, write -/
def QV (bd : Int) (w : zM → yM → (zM → yM → Prop) → Prop) (J : zM) (L : yM) : Prop := w J L (fun J2 L2 => AN bd 0 True J2 L2)
def XW (bd : Int) (l : List (String × Int)) (w : zM → yM → (zM → yM → Prop) → Prop) (x : String) (J : zM) (L : yM) : Prop := ∃ k, (x, k) ∈ l ∧ w J L (fun J2 L2 => AN bd k True J2 L2)
theorem m_thz0 {N : Int} {D : List Int} {G : GA} {J : zM} {L : yM} {T B : zM → yM → Prop} {K7 : Int → zM → yM → Prop} (hK7 : ∀ (x4 : Int) (J5 : zM) (L6 : yM), (∀ J8 : zM, J8 = zs J5 491 0 x4 → R32 (J8 491 0) ∧ (if (J8 491 0) = 0 then B J8 L6 else T J8 L6)) → K7 x4 J5 L6) (P : PM J L G D N) (hb : ∀ J8, PM J8 L G D N → MG J L J8 L → J8 491 0 = 0 → B J8 L) : K7 0 J L := by
  refine hK7 0 J L (fun J8 e8 => ?_)
  have z : J8 491 0 = 0 := by rw [e8]; exact zs_s _ _ _ _
  have S := P.slot (k := 0) (v := 0) (Or.inl rfl)
  rw [← e8] at S
  rw [z]
  refine ⟨by decide, ?_⟩
  rw [if_pos rfl]
  exact hb J8 S.1 S.2 z
theorem m_thzK {N x : Int} {D : List Int} {G : GA} {J : zM} {L : yM} {T B : zM → yM → Prop} {K7 : Int → zM → yM → Prop} (hK7 : ∀ (x4 : Int) (J5 : zM) (L6 : yM), (∀ J8 : zM, J8 = zs J5 491 0 x4 → R32 (J8 491 0) ∧ (if (J8 491 0) = 0 then B J8 L6 else T J8 L6)) → K7 x4 J5 L6) (P : PM J L G D N) (hx : 0 < x ∧ x < 10) (hq : ∀ J8, PM J8 L G D N → MG J L J8 L → J8 491 0 = x → T J8 L) : K7 x J L := by
  refine hK7 x J L (fun J8 e8 => ?_)
  have z : J8 491 0 = x := by rw [e8]; exact zs_s _ _ _ _
  have S := P.slot (k := 0) (v := x) (Or.inl rfl)
  rw [← e8] at S
  rw [z]
  refine ⟨⟨by omega, by omega⟩, ?_⟩
  rw [if_neg (by omega)]
  exact hq J8 S.1 S.2 z
/-! close -/
def closA (s : Int) (A : SA) : SA := uz 0 3 (sndE s (aZ A 13) 21 [0] A)
theorem alert0 (s : Int) (A : SA) : alertA s 0 A = sndE s (aZ A 13) 21 [0] A := by
  unfold alertA noteA
  rw [if_neg (fun q => q.2 rfl)]
theorem AI_ph3 {bd s : Int} {A : SA} (ai : AI bd s A) (h : aZ A 0 = 2) : AI bd s (uz 0 3 A) := by
  obtain ⟨⟨a0, a1, a2, a3, a4, a5, a6, a7, a8, a9, a10, a11, a12, a13, a14, a15, a16, a17, a18, a19, a20, a21, a22, a23, a24, a25, a26, a27, a28, a29⟩, h2, ⟨m1, m2, m3⟩, h4, h5, h6⟩ := ai
  have l2 : live (aZ A 0) := Or.inr (Or.inl h)
  refine ⟨⟨⟨(by decide : (0 : Int) ≤ 3), (by decide : (3 : Int) ≤ 4)⟩, a1, a2, a3, a4, a5, a6, fun q => ⟨(a7 q).1, Or.inr (Or.inr rfl)⟩, a8, a9, a10, a11, a12, a13, a14, a15, a16, a17, a18, a19, a20, a21, fun q => absurd (show (3 : Int) = 0 from q) (by decide), fun q _ => a23 q (Or.inl h), a24, fun _ => a25 l2, fun _ q => absurd (show (3 : Int) = 1 from q) (by decide), fun q _ => a27 q l2, fun _ => a28 (Or.inl h), a29⟩, h2, ⟨fun _ => m1 l2, fun _ q => absurd (show (3 : Int) = 1 from q) (by decide), fun q _ => m3 q l2⟩, h4, fun n hn hk => ?_, h6⟩
  have w := h5 n hn hk
  exact ⟨(by decide : (3 : Int) ≠ 0), w.2⟩
theorem MS_ph3 {s : Int} {A : SA} {J : zM} {L : yM} (hs : s01 s) (h : MS s J L A) (h2 : aZ A 0 = 2) : MS s (zs J 534 s 3) L (uz 0 3 A) ∧ MO s J L (zs J 534 s 3) L := by
  obtain ⟨a0, a1, a2, a3, a4, a5, a6, a7, a8, a9, a10, a11, a12⟩ := h
  have l2 : live (aZ A 0) := Or.inr (Or.inl h2)
  have c : ∀ (C : Nat → Prop), ¬ C 534 → oEq s C J (zs J 534 s 3) := fun C hC => oEq.zs (Or.inl hC)
  have r : ∀ a, a ≠ 534 → zs J 534 s 3 a = J a := fun a ha => zs_r J ha
  refine ⟨⟨?_, ?_, ?_, ?_, ⟨a4.1.fr hs (c _ (by omega)), a4.2.fr (c _ (by omega))⟩, a5.fr (c _ (by omega)), (a6.fr (c _ (by omega))).cg (fun k hk => if_neg (by omega)), a7.fr hs (c _ (by omega)), ?_, MSn.zs a9 (by omega) (by omega), a10.fr (c _ (by omega)) (fun _ _ _ => rfl), a11.fr (c _ (by omega)), mKa a12 (c _ (by omega))⟩, MO_zs (nown1 (by omega)) (by omega) (by omega) (by omega)⟩
  · obtain ⟨p0, p1⟩ := a0
    refine ⟨zs_s _ _ _ _, ?_⟩
    rw [r 535 (by decide), r 538 (by decide), r 539 (by decide), r 547 (by decide), r 527 (by decide), r 524 (by decide), r 525 (by decide), r 526 (by decide), r 503 (by decide)]
    exact p1
  · have b := a1.fr (c _ (by omega))
    obtain ⟨b1, b2, b3, b4, b5, b6⟩ := b
    exact ⟨fun _ q => absurd (show (3 : Int) = 0 ∨ (3 : Int) = 1 from q) (by decide), fun q => absurd (show (3 : Int) = 0 from q) (by decide), fun _ => b3 l2, b4, fun q => ⟨fun w => absurd (show (3 : Int) = 0 from w) (by decide), fun _ => (b5 q).2.1 l2, (b5 q).2.2⟩, b6⟩
  · have b := a2.fr (c _ (by omega))
    exact ⟨b.1, b.2.1, b.2.2.1, fun q _ => b.2.2.2.1 q l2, b.2.2.2.2⟩
  · have b := a3.fr hs (c _ (by omega))
    exact ⟨b.1, b.2.1, fun q _ => b.2.2.1 q (by omega), b.2.2.2⟩
  · have b := a8.fr (c _ (by omega))
    exact ⟨fun _ => b.1 l2, b.2⟩
theorem PI_z {bd N s : Int} {G : GA} {D : List Int} {B : SA} (h : PI bd G D N) (hs : s01 s) (ai : AI bd s B) (nq : NQ (G s) B) (nx : ¬ nextA B) : PI bd (ug s B G) D N := PI_act h hs ⟨ai, nq.2 (h.1 s hs).2.1, nx, nq.1.trans (h.1 s hs).2.2.2⟩
theorem call_close {bd s : Int} {J : zM} {L : yM} (h : PB bd J L) (rs : R32 s) : w_X11_close s J L (QV bd (w_X12_close s)) (XW bd [(IOB, 1), (ISE, 2)] (w_X12_close s)) := by
  obtain ⟨G, D, N, hx, hm, hI⟩ := h
  unfold w_X11_close
  refine x_side rs (fun hs => ?_) (fun ns => ⟨1, List.mem_cons_self, ?_⟩)
  · have ai := hI.ai hs
    have b0 := ai.b0
    unfold w_X11_checkOpen
    rw [show J (sd s) 12 = aZ (G s) 0 from (hx.1 s hs).1.2.1]
    refine ⟨s01b hs, ⟨by omega, by omega⟩, ?_⟩
    by_cases c : aZ (G s) 0 = 2
    · rw [if_pos c]
      refine ⟨s01b hs, xs_alert (sdE hs) hs (hx.1 s hs) ai (by decide) (fun J1 u1 u2 => ⟨s01b hs, fun J2 e2 => ?_⟩)⟩
      rw [alert0] at u1
      have l2 : live (aZ (sndE s (aZ (G s) 13) 21 [0] (G s)) 0) := Or.inr (Or.inl c)
      have X2 : XS (sd s) s J2 L (closA s (G s)) := by
        rw [e2]
        exact XS_z0 (sdE hs) u1 3 (fun _ => u1.2.2.2.2.2.2.2.2.1.2.1 l2)
      have O2 : XO (sd s) J L J2 L := by rw [e2]; exact u2.tr (XO.zs (Or.inl (by omega)))
      have PX2 := hx.act hs X2 O2.c
      have m2 := hm.xg hI (O2.c.g hs)
      unfold QV w_X12_close
      refine m_side rs (fun _ K7 hK7 => if01.mpr ?_) (fun n => absurd hs n)
      rw [show J2 534 s = aZ (G s) 0 from (m2.1 s hs).1.1]
      refine ⟨s01b hs, ⟨by omega, by omega⟩, ?_⟩
      rw [if_pos c]
      refine m_thz0 hK7 m2 (fun J8 P M z => ?_)
      refine ms_send1 hs (P.1 s hs) ai (by decide) (fun J9 w1 w2 => ⟨s01b hs, fun J10 e10 => ?_⟩)
      have q := MS_ph3 hs w1 c
      rw [← e10] at q
      obtain ⟨P9, M9, z9⟩ := P.act hs hI q.1 (w2.tr q.2)
      refine ⟨z9.trans z, trivial, _, D, N, (PX2.mg M).mg M9, P9, PI_z hI hs ?_ ?_ ?_⟩
      · exact AI_ph3 (ai.snd ai.ep (by decide) (by simp only [oct_cons]; exact ⟨by decide, oct_nil⟩) (show 1 ≤ 86 by decide)) c
      · exact nq_same rfl rfl rfl rfl
      · exact nx_phase (show (3 : Int) ≠ 1 by decide)
    · rw [if_neg c]
      refine ⟨2, List.mem_cons_of_mem _ List.mem_cons_self, ?_⟩
      unfold w_X12_close
      refine m_side rs (fun _ K7 hK7 => if01.mpr ?_) (fun n => absurd hs n)
      rw [show J 534 s = aZ (G s) 0 from (hm.1 s hs).1.1]
      refine ⟨s01b hs, ⟨by omega, by omega⟩, ?_⟩
      rw [if_neg c]
      exact m_thzK hK7 hm (by decide) (fun J8 P M z => ⟨z, trivial, PB.q hx hI P M⟩)
  · unfold w_X12_close
    exact m_side rs (fun q => absurd q ns) (fun _ K7 hK7 => if11.mpr (m_thzK hK7 hm (by decide) (fun J8 P M z => ⟨z, trivial, PB.q hx hI P M⟩)))
/-! not begun -/
theorem x_notBegun {bd N : Int} {G : GA} {D : List Int} {J : zM} {L : yM} {Q : zM → yM → Prop} {X : String → zM → yM → Prop} (h : PX J L G D N) (hI : PI bd G D N) (h1 : aZ (G 0) 0 = 0 → Q J L) (h0 : aZ (G 0) 0 ≠ 0 → X ISE J L) : w_X11_checkNotBegun J L Q X := by
  have b0 := (hI.ai (Or.inl rfl)).b0
  unfold w_X11_checkNotBegun
  rw [show J 139 12 = aZ (G 0) 0 from (h.1 0 (Or.inl rfl)).1.2.1]
  refine ⟨⟨by omega, by omega⟩, ?_⟩
  by_cases c : aZ (G 0) 0 = 0
  · rw [if_pos c]; exact h1 c
  · rw [if_neg c]; exact h0 c
theorem m_begun {bd N : Int} {G : GA} {D : List Int} {J : zM} {L : yM} {Q : Int → zM → yM → Prop} (h : PM J L G D N) (hI : PI bd G D N) (h0 : aZ (G 0) 0 = 0 → Q 0 J L) (h1 : aZ (G 0) 0 ≠ 0 → Q 1 J L) : w_X12_hasBegun J L Q := by
  have b0 := (hI.ai (Or.inl rfl)).b0
  have M := h.1 0 (Or.inl rfl)
  obtain ⟨q1, q2, q3, -⟩ := M.2.1.2.2.2.2.1 rfl
  have q3 : J 491 4 = 0 ∨ J 491 4 = 1 := q3
  unfold w_X12_hasBegun
  rw [show J 534 0 = aZ (G 0) 0 from M.1.1]
  refine ⟨⟨by omega, by omega⟩, ?_⟩
  by_cases c : aZ (G 0) 0 = 0
  · rw [if_pos (q1 c)]
    refine ⟨⟨by omega, by omega⟩, ?_⟩
    rw [if_neg (by omega)]
    exact h0 c
  · by_cases d : J 491 4 = 0
    · rw [if_pos d]
      refine ⟨⟨by omega, by omega⟩, ?_⟩
      have e : aZ (G 0) 0 = 4 := by
        by_cases w : aZ (G 0) 0 = 4
        · exact w
        · have := q2 (by unfold live; omega); omega
      rw [if_pos e]
      exact h1 c
    · rw [if_neg d]
      exact h1 c
/-! key, name -/
def idA (k0 k1 k2 : List Int) (A : SA) : SA := uy 0 k0 (uy 1 k1 (uy 2 k2 A))
theorem idA_y {k0 k1 k2 : List Int} {A : SA} {k : Nat} (h : 3 ≤ k) : aY (idA k0 k1 k2 A) k = aY A k := by
  show (if k = 0 then k0 else if k = 1 then k1 else if k = 2 then k2 else aY A k) = aY A k
  rw [if_neg (by omega), if_neg (by omega), if_neg (by omega)]
theorem XS.idA {e : Nat} {s : Int} {k0 k1 k2 : List Int} {A : SA} {J J' : zM} {L : yM} (he : iSide e) (h : XS e s J L A) (f : ∀ a, ¬ (e + 2 ≤ a ∧ a ≤ e + 4) → J' a = J a) (h0 : sg J' (e + 2) 0 16 = k0) (h1 : sg J' (e + 3) 0 8 = k1) (h2 : sg J' (e + 4) 0 8 = k2) : XS e s J' L (idA k0 k1 k2 A) ∧ XO e J L J' L := by
  have he2 : 139 ≤ e := by unfold iSide at he; omega
  obtain ⟨a0, a1, a2, a3, a4, a5, a6, a7, a8, a9, a10⟩ := h
  refine ⟨⟨a0.fr (f _ (by omega)), a1.fr (f _ (by omega)) rfl, ⟨h0, h1, h2, ?_, ?_, ?_⟩, a3.fr (fun x p q => f x (by omega)) (fun k _ => by rw [f _ (by omega)]), a4.fr (fun x p q => f x (by omega)), a5.fr (fun x p q => f x (by omega)), a6.fr (f _ (by omega)), a7.fr he (fun x p q => f x (by omega)), (a8.fr (fun x p q => f x (by omega)) (f _ (by omega))).cg rfl id (fun k k0 k1 => idA_y (by omega)), a9.fr (fun x p => f x ?_) (by rw [f _ (by omega)]), a10.fr (fun x p q => f x (by omega)) (fun _ _ _ => rfl)⟩, fun a ha => f a (fun q => ha (Or.inl (by omega))), fun _ _ => rfl⟩
  · rw [sg_row (f _ (by omega))]; exact a2.2.2.2.1
  · rw [sg_row (f _ (by omega))]; exact a2.2.2.2.2.1
  · rw [sg_row (f _ (by omega))]; exact a2.2.2.2.2.2
  · rcases p with p | p | p | p | p
    · omega
    · omega
    · omega
    · omega
    · have := wy_out he p; omega
theorem MS.idA {bd s : Int} {k0 k1 k2 : List Int} {A : SA} {J J' : zM} {L : yM} (hs : s01 s) (h : MS s J L A) (ai : AI bd s A) (r : ∀ a, a ≠ 492 → J' a = J a) (hU : ∀ k, ¬ (1024 * s ≤ k ∧ k < 1024 * s + 32) → J' 492 k = J 492 k) (hl : s = 0 → ¬ live (aZ A 0)) (h0 : sg J' 492 (1024 * s) 16 = k0) (h1 : sg J' 492 (1024 * s + 16) 8 = k1) (h2 : sg J' 492 (1024 * s + 24) 8 = k2) : MS s J' L (idA k0 k1 k2 A) ∧ MO s J L J' L := by
  have c : ∀ (C : Nat → Prop), ¬ C 492 → oEq s C J J' := fun C hC a i _ hc => by rw [r a (fun q => hC (by rw [← q]; exact hc))]
  obtain ⟨a0, a1, a2, a3, a4, a5, a6, a7, a8, a9, a10, a11, a12⟩ := h
  obtain ⟨b1, b2, b3, ack, b4, b5, b6⟩ := a3
  refine ⟨⟨a0.fr (c _ (by omega)) (fun _ _ _ => rfl), a1.fr (c _ (by omega)), ⟨h0, h1, h2, fun q lv => absurd lv (hl q), fun q => ?_⟩, ⟨by rw [r 522 (by decide)]; exact b1, by rw [r 522 (by decide)]; exact b2, by rw [r 522 (by decide)]; exact b3, ack, b4, b5, ?_⟩, ⟨a4.1.fr hs (c _ (by omega)), a4.2.fr (c _ (by omega))⟩, a5.fr (c _ (by omega)), a6.fr (c _ (by omega)), a7.fr hs (c _ (by omega)), ?_, MSn.fr a9 (fun b hb => r b (by omega)) (by rw [r 491 (by decide)]), a10.fr (c _ (by omega)) (fun _ _ _ => rfl), a11.fr (c _ (by omega)), mKa a12 (c _ (by omega))⟩, ?_⟩
  · rw [r 491 (by decide), sg_row (r 493 (by decide))]
    exact a2.2.2.2.2 q
  · obtain ⟨f1, f2, f3, f4⟩ := b6
    refine ⟨by rw [r 517 (by decide)]; exact f1, f2, fun g hg => ?_, fun g hg k k0 k1 => by rw [r 521 (by decide)]; exact f4 g hg k k0 k1⟩
    obtain ⟨q1, q2, q3, q4, q5, q6⟩ := f3 g hg
    refine ⟨by rw [r 518 (by decide)]; exact q1, q2, q3.fr2 (fun k p1 p2 => hU k ?_), by rw [r 519 (by decide)]; exact q4, by rw [r 520 (by decide)]; exact q5, q6⟩
    have p1 : plK s ((aF A).2.1 g) ≤ k := p1
    have pb : 1024 * s + 512 ≤ plK s ((aF A).2.1 g) := by unfold plK; omega
    omega
  · obtain ⟨d1, d2, d3, d4⟩ := a8
    refine ⟨fun lv i hi hy => ?_, fun hz => ?_, fun hz i i0 i1 => ?_, ?_⟩
    · rw [idA_y (by omega)] at hy ⊢
      refine (d1 lv i hi hy).fr2 (fun k p1 p2 => hU k ?_)
      have pb : 1024 * s + 512 ≤ plT s i := by unfold plT; omega
      omega
    · obtain ⟨e1, e2, e3⟩ := d2 hz
      rw [idA_y (by omega), idA_y (by omega), sg_fr (fun k p q => hU k (by omega)), sg_fr (fun k p q => hU k (by omega))]
      refine ⟨e1, e2, fun i hi => ?_⟩
      rw [idA_y (by omega), idA_y (by omega), idA_y (by omega), sg_fr (fun k p q => hU k (by omega)), sg_fr (fun k p q => hU k (by omega)), sg_fr (fun k p q => hU k (by omega))]
      exact e3 i hi
    · rw [idA_y (by omega), idA_y (by omega), idA_y (by omega), sg_fr (fun k p q => hU k (by omega)), sg_fr (fun k p q => hU k (by omega)), sg_fr (fun k p q => hU k (by omega))]
      exact d3 hz i i0 i1
    · rw [sg_fr (fun k p q => hU k (by omega))]; exact d4
  · refine ⟨fun a i ho => ?_, fun _ _ _ => rfl, mN_fr (r 509 (by decide)) (r 510 (by decide)) (r 511 (by decide)) s, by rw [r 509 (by decide)], fun hi => mI_fr (r 509 (by decide)) (r 510 (by decide)) hi, fun q => by rw [r 491 (by decide)]; exact q, fun b hb => ⟨r b (by omega), rfl⟩⟩
    by_cases q : a = 492
    · subst q
      have := ow492 ho
      exact hU i (by omega)
    · rw [r a q]
theorem AI_idA {bd s : Int} {k0 k1 k2 : List Int} {A : SA} (ai : AI bd s A) (h0 : k0.length = 16 ∧ oct k0) (h1 : k1.length = 8 ∧ oct k1) (h2 : k2.length = 8 ∧ oct k2) : AI bd s (idA k0 k1 k2 A) := by
  obtain ⟨z1, ⟨y0, y1, y2, y3, y4, y5, y6⟩, m, rest⟩ := ai
  exact ⟨z1, ⟨h0, h1, h2, y3, y4, y5, fun k k0 k1 => by rw [idA_y (by omega)]; exact y6 k k0 k1⟩, m, rest⟩
