/-! tick -/
def tickG (N : Int) (G : GA) : GA := ug 1 (tickA 1 (N + 1) (G 1)) (ug 0 (tickA 0 (N + 1) (G 0)) G)
theorem tick_now (s n : Int) (A : SA) : aZ (tickA s n A) 17 = n := by
  have key : ∀ B : SA, aZ B 17 = n → aZ (tickB s n B) 17 = n := by
    intro B hB
    unfold tickB
    split
    · split
      · exact hB
      · exact hB
    · exact hB
  unfold tickA
  refine key _ ?_
  split
  · rw [acks_z]; rfl
  · rfl
theorem nx_tick {s n : Int} {A : SA} (h : ¬ nextA A) : ¬ nextA (tickA s n A) := by
  have key : ∀ B : SA, ¬ nextA B → ¬ nextA (tickB s n B) := by
    intro B hB
    unfold tickB
    split
    · split
      · exact nx_same hB rfl rfl rfl
      · exact nx_phase (show (4 : Int) ≠ 1 by decide)
    · exact hB
  unfold tickA
  refine key _ ?_
  split
  · exact nx_acks (nx_same h rfl rfl rfl)
  · exact nx_same h rfl rfl rfl
theorem tickG_s {s N : Int} (hs : s01 s) (G : GA) : tickG N G s = tickA s (N + 1) (G s) := by
  unfold tickG
  rcases hs with rfl | rfl
  · rw [ug_n _ _ (by decide), ug_s]
  · rw [ug_s]
theorem PI_tick {bd N : Int} {G : GA} {D : List Int} (h : PI bd G D N) : PI (bd + 1) (tickG N G) D (N + 1) := by
  have nb := h.2.2.2
  refine ⟨fun s hs => ?_, h.2.1, h.2.2.1, by omega, by omega⟩
  obtain ⟨a, b, c, d⟩ := h.1 s hs
  rw [tickG_s hs]
  have a1 : AI (bd + 1) s (G s) := a.mono (by omega)
  exact ⟨AI_tickA a1 (by rw [d]) (by omega), AQt_tickA a1 b (by rw [d]), nx_tick c, tick_now _ _ _⟩
theorem px_tick {bd N : Int} {G : GA} {D : List Int} {J : zM} {L : yM} {Q : zM → yM → Prop} (h : PX J L G D N) (hI : PI bd G D N) (hbd : bd + 1 ≤ 2000000000) (hQ : ∀ J', PX J' L (tickG N G) D (N + 1) → XG J L J' L → Q J' L) : w_X11_passTick J L Q := by
  have nb := hI.2.2.2
  have s0 : s01 0 := Or.inl rfl
  have s1 : s01 1 := Or.inr rfl
  have i0 := hI.1 0 s0
  have i1 := hI.1 1 s1
  unfold w_X11_passTick
  intro J1 e1
  rw [h.2.2] at e1
  have P1 : PX J1 L G D (N + 1) := by
    have f : ∀ a, a ≠ 0 → J1 a = J a := fun a ha => by rw [e1]; exact zs_r J ha
    refine ⟨fun t ht => ?_, ⟨by rw [e1, zs_n _ (Or.inr (by decide))]; exact h.2.1.1, by rw [sg_row (f 5 (by decide))]; exact h.2.1.2⟩, by rw [e1]; exact zs_s _ _ _ _⟩
    have b := sd_b ht
    refine XS.ot (sdE ht) (h.1 t ht) (fun a ha => ?_) (fun _ _ => rfl)
    rcases ha with ha | ha
    · exact f a (by omega)
    · have w := wy_out (sdE ht) ha
      exact f a (by omega)
  have g1 : XG J L J1 L := fun a ha => ⟨by rw [e1]; exact zs_r J (by omega), rfl⟩
  rw [P1.2.2]
  refine xs_tick (e := sd 0) (bd := bd + 1) (sdE s0) s0 (P1.1 0 s0) (i0.1.mono (by omega)) hbd (by rw [i0.2.2.2]) (by omega) (fun J3 u1 u2 => ?_)
  have P3 := P1.act s0 u1 u2.c
  rw [P3.2.2]
  refine xs_tick (e := sd 1) (bd := bd + 1) (sdE s1) s1 (by have q := P3.1 1 s1; rw [ug_n _ _ (by decide)] at q; exact q) (i1.1.mono (by omega)) hbd (by rw [i1.2.2.2]) (by omega) (fun J6 w1 w2 => ?_)
  exact hQ J6 (P3.act s1 w1 w2.c) ((g1.tr (u2.c.g s0)).tr (w2.c.g s1))
/-- side s of the model has done something; the other side's state is well -/
theorem PM.act2 {s N : Int} {D : List Int} {G : GA} {B : SA} {J J' : zM} {L L' : yM} (hs : s01 s) (h : PM J L G D N) (hA : ∃ b, AI b (1 - s) (G (1 - s))) (hB : MS s J' L' B) (o : MO s J L J' L') : PM J' L' (ug s B G) D N ∧ MG J L J' L' ∧ J' 491 0 = J 491 0 := by
  refine ⟨⟨fun t ht => ?_, ⟨by rw [o.1 491 9 (own491 (by omega))]; exact h.2.1.1, ?_⟩, by rw [o.1 491 3 (own491 (by omega))]; exact h.2.2⟩, fun a ha => o.2.2.2.2.2.2 a (by omega), o.1 491 0 (own491 (by omega))⟩
  · by_cases q : t = s
    · subst q
      rw [ug_s]
      exact hB
    · have e := s01t hs ht q
      rw [ug_n _ _ q]
      subst e
      obtain ⟨b, ai⟩ := hA
      exact (h.1 _ ht).ot (u := s) (by omega) ht ai.dg ai.ll o
  · rw [sg_row (funext fun i => o.1 494 i (own493 (by decide)))]; exact h.2.1.2
theorem pm_tick {bd N : Int} {G : GA} {D : List Int} {J : zM} {L : yM} {Q : zM → yM → Prop} (h : PM J L G D N) (hI : PI bd G D N) (hbd : bd + 1 ≤ 2000000000) (hQ : ∀ J', PM J' L (tickG N G) D (N + 1) → MG J L J' L → J' 491 0 = J 491 0 → Q J' L) : w_X12_ticks J L Q := by
  have nb := hI.2.2.2
  have s0 : s01 0 := Or.inl rfl
  have s1 : s01 1 := Or.inr rfl
  have i0 := hI.1 0 s0
  have i1 := hI.1 1 s1
  unfold w_X12_ticks
  intro J1 e1
  rw [h.2.2] at e1
  have P1 : PM J1 L G D (N + 1) := by
    refine ⟨fun t ht => ?_, ⟨by rw [e1, zs_n _ (Or.inr (by decide))]; exact h.2.1.1, by rw [e1, sg_row (zs_r J (by decide))]; exact h.2.1.2⟩, by rw [e1]; exact zs_s _ _ _ _⟩
    rw [e1]
    exact MS_slot4 (h.1 t ht) ht (Or.inr (Or.inr (Or.inr rfl)))
  have g1 : MG J L J1 L := fun a ha => ⟨by rw [e1]; exact zs_r J (by omega), rfl⟩
  have z1 : J1 491 0 = J 491 0 := by rw [e1]; exact zs_n J (Or.inr (by decide))
  refine ms_tick (bd := bd + 1) s0 (P1.1 0 s0) (i0.1.mono (by omega)) i0.2.1 hbd (by rw [i0.2.2.2]) (by omega) P1.2.2 (fun J3 u1 u2 => ?_)
  obtain ⟨P3, M3, z3⟩ := P1.act2 s0 ⟨_, i1.1⟩ u1 u2
  refine ms_tick (A := G 1) (bd := bd + 1) s1 (by have q := P3.1 1 s1; rw [ug_n _ _ (by decide)] at q; exact q) (i1.1.mono (by omega)) i1.2.1 hbd (by rw [i1.2.2.2]) (by omega) P3.2.2 (fun J6 w1 w2 => ?_)
  obtain ⟨P6, M6, z6⟩ := P3.act2 s1 ⟨bd + 1, by
    rw [show (1 : Int) - 1 = 0 by decide, ug_s]
    exact AI_tickA (i0.1.mono (by omega)) (by rw [i0.2.2.2]) (by omega)⟩ w1 w2
  exact hQ J6 P6 ((g1.tr M3).tr M6) (by rw [z6, z3, z1])
theorem call_tick {bd : Int} {J : zM} {L : yM} (h : PB bd J L) (hbd : bd + 1 ≤ 2000000000) : w_X11_tick J L (fun v J1 L1 => w_X12_tick J1 L1 (fun b J2 L2 => b = v ∧ PB (bd + 1) J2 L2)) := by
  obtain ⟨G, D, N, hx, hm, hI⟩ := h
  unfold w_X11_tick
  refine px_tick hx hI hbd (fun J1 X1 O1 => ?_)
  have m1 := hm.xg hI O1
  rw [X1.2.2]
  unfold w_X12_tick
  intro J2 e2
  have S := m1.slot (k := 0) (v := 0) (Or.inl rfl)
  rw [← e2] at S
  refine pm_tick S.1 hI hbd (fun J3 P3 M3 z3 => ?_)
  rw [P3.2.2]
  exact ⟨rfl, _, D, N + 1, (X1.mg S.2).mg M3, P3, PI_tick hI⟩
/-! run -/
theorem net_come {s : Int} {i : Nat} {G : GA} (hs : s01 s) : net s (comeG s i G) = (net s G).eraseIdx i := by
  have q : net s (comeG s i G) = net s (setN s ((net s G).eraseIdx i) G) := by
    unfold comeG
    show (aT (ug s _ _ (1 - s))).1 = _
    rw [ug_n _ _ (s01n hs)]
    rfl
  rw [q, net_set]
def dlv : Nat → Int → GA → GA
  | 0, _, G => G
  | k + 1, s, G => dlv k s (comeG s 0 G)
theorem PI_dlv {s N : Int} {D : List Int} (hs : s01 s) : ∀ (k : Nat) (bd : Int) (G : GA), PI bd G D N → k ≤ (net s G).length → PI (bd + 100 * (k : Int)) (dlv k s G) D N
  | 0, bd, G, h, _ => by
    show PI (bd + 100 * 0) G D N
    rw [Int.mul_zero, Int.add_zero]
    exact h
  | k + 1, bd, G, h, hk => by
    have q := PI_come (i := 0) h hs (by omega)
    have l : (net s (comeG s 0 G)).length = (net s G).length - 1 := by rw [net_come hs, List.length_eraseIdx_of_lt (by omega)]
    have w := PI_dlv hs k (bd + 100) (comeG s 0 G) q (by omega)
    rw [show bd + 100 + 100 * (k : Int) = bd + 100 * ((k + 1 : Nat) : Int) by omega] at w
    exact w
def dlvA (s : Int) (G : GA) : GA := dlv (net s G).length s G
theorem PI_dlvA {s N bd : Int} {D : List Int} {G : GA} (hs : s01 s) (h : PI bd G D N) : PI (bd + 6000) (dlvA s G) D N := (PI_dlv hs _ bd G h (Nat.le_refl _)).mono (by have := (h.net hs).1; omega)
theorem px_dlv {bd s N x13 : Int} {G : GA} {D : List Int} {J : zM} {L : yM} {R : Int → zM → yM → Prop} (hs : s01 s) (h : PX J L G D N) (hI : PI bd G D N) (hbd : 0 ≤ bd ∧ bd + 6000 ≤ 2000000000) (rx : 0 ≤ x13 ∧ x13 ≤ 20000) (hR : ∀ J' L', PX J' L' (dlvA s G) D N → XG J L J' L' → R (x13 + ((net s G).length : Int)) J' L') : zl_zz (fun K24 x25 x26 J27 L28 => ∀ K31 : zM → yM → Prop, (∀ (J29 : zM) (L30 : yM), (R x25 J29 L30) → K31 J29 L30) → R32 x26 ∧ R32 ((net s G).length : Int) ∧ (if x26 < ((net s G).length : Int) then ((0 : Int) ≤ s ∧ s < 2) ∧ R32 (J27 (nt s) 5) ∧ (if 0 < (J27 (nt s) 5) then w_X11_come s 0 J27 L28 (fun r41 J39 L40 => K24 (x25 + 1) (x26 + 1) J39 L40) else K31 J27 L28) else K31 J27 L28)) x13 0 J L := by
  have n60 := (hI.net hs).1
  refine zl_zz.by (fun m x25 x26 J1 L1 => (m : Int) = ((net s G).length : Int) - x26 ∧ 0 ≤ x26 ∧ x25 = x13 + x26 ∧ ∃ G1, PX J1 L1 G1 D N ∧ PI (bd + 100 * x26) G1 D N ∧ (net s G1).length = m ∧ XG J L J1 L1 ∧ dlv m s G1 = dlvA s G) ?_ (net s G).length x13 0 J L ⟨by omega, by omega, by omega, G, h, by rw [Int.mul_zero, Int.add_zero]; exact hI, rfl, XG.rf, rfl⟩
  rintro m x25 x26 J1 L1 K ⟨hm, hx, h25, G1, h1, hI1, hl, o1, hd⟩ hK
  intro K31 hK31
  refine ⟨⟨by omega, by omega⟩, ⟨by omega, by omega⟩, ?_⟩
  by_cases c : x26 < ((net s G).length : Int)
  · rw [if_pos c, (px_net h1 hs).2.2]
    refine ⟨s01b hs, ⟨by omega, by omega⟩, ?_⟩
    rw [if_pos (by omega)]
    obtain ⟨m', rfl⟩ : ∃ m', m = m' + 1 := ⟨m - 1, by omega⟩
    refine px_come hs h1 hI1 (by decide) (by omega) (by omega) (fun J2 L2 X2 O2 => hK m' _ _ J2 L2 (by omega) ⟨by omega, by omega, by omega, comeG s 0 G1, X2, ?_, ?_, o1.tr O2, hd⟩)
    · have q := PI_come (i := 0) hI1 hs (by omega)
      rw [show bd + 100 * (x26 + 1) = bd + 100 * x26 + 100 by omega]
      exact q
    · rw [net_come hs, List.length_eraseIdx_of_lt (by omega)]; omega
  · rw [if_neg c]
    have m0 : m = 0 := by omega
    subst m0
    have hd : G1 = dlvA s G := hd
    rw [hd] at h1
    refine hK31 J1 L1 ?_
    rw [show x25 = x13 + ((net s G).length : Int) by omega]
    exact hR J1 L1 h1 o1
theorem pm_dlv {bd s N x13 : Int} {G : GA} {D : List Int} {J : zM} {L : yM} {R : Int → zM → yM → Prop} (hs : s01 s) (h : PM J L G D N) (hI : PI bd G D N) (hbd : 0 ≤ bd ∧ bd + 6000 ≤ 2000000000) (rx : 0 ≤ x13 ∧ x13 ≤ 20000) (hR : ∀ J' L', PM J' L' (dlvA s G) D N → MG J L J' L' → J' 491 0 = J 491 0 → R (x13 + ((net s G).length : Int)) J' L') : zl_zz (fun K27 x28 x29 J30 L31 => R32 x29 ∧ (if 0 < x29 then w_X12_take s 0 J30 L31 (fun J34 L35 => w_X12_arrives s J34 L35 (fun r38 J36 L37 => K27 (x28 + 1) (x29 + (-1)) J36 L37)) else R x28 J30 L31)) x13 ((net s G).length : Int) J L := by
  have n60 := (hI.net hs).1
  refine zl_zz.by (fun m x25 x26 J1 L1 => x26 = (m : Int) ∧ x26 ≤ ((net s G).length : Int) ∧ x25 = x13 + (((net s G).length : Int) - x26) ∧ ∃ G1, PM J1 L1 G1 D N ∧ PI (bd + 100 * (((net s G).length : Int) - x26)) G1 D N ∧ (net s G1).length = m ∧ MG J L J1 L1 ∧ J1 491 0 = J 491 0 ∧ dlv m s G1 = dlvA s G) ?_ (net s G).length x13 ((net s G).length : Int) J L ⟨rfl, by omega, by omega, G, h, by rw [Int.sub_self, Int.mul_zero, Int.add_zero]; exact hI, rfl, MG.rf, rfl, rfl⟩
  rintro m x25 x26 J1 L1 K ⟨hm, hx, h25, G1, h1, hI1, hl, o1, z1, hd⟩ hK
  refine ⟨⟨by omega, by omega⟩, ?_⟩
  by_cases c : 0 < x26
  · rw [if_pos c]
    obtain ⟨m', rfl⟩ : ∃ m', m = m' + 1 := ⟨m - 1, by omega⟩
    refine pm_come (Q := fun _ J36 L37 => K (x25 + 1) (x26 + (-1)) J36 L37) hs h1 hI1 (by decide) (by omega) (by omega) (fun J2 L2 X2 O2 z2 => hK m' _ _ J2 L2 (by omega) ⟨by omega, by omega, by omega, comeG s 0 G1, X2, ?_, ?_, o1.tr O2, z2.trans z1, hd⟩)
    · have q := PI_come (i := 0) hI1 hs (by omega)
      rw [show bd + 100 * (((net s G).length : Int) - (x26 + (-1))) = bd + 100 * (((net s G).length : Int) - x26) + 100 by omega]
      exact q
    · rw [net_come hs, List.length_eraseIdx_of_lt (by omega)]; omega
  · rw [if_neg c]
    have m0 : m = 0 := by omega
    subst m0
    have hd : G1 = dlvA s G := hd
    rw [hd] at h1
    rw [show x25 = x13 + ((net s G).length : Int) by omega]
    exact hR J1 L1 h1 o1 z1
