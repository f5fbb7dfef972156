/-! the pair: both sides, what is drafted, the clock -/
abbrev GA : Type := Int → SA
def ug (s : Int) (B : SA) (G : GA) : GA := fun t => if t = s then B else G t
theorem ug_s (s : Int) (B : SA) (G : GA) : ug s B G s = B := if_pos rfl
theorem ug_n {s t : Int} (B : SA) (G : GA) (h : t ≠ s) : ug s B G t = G t := if_neg h
def PX (J : zM) (L : yM) (G : GA) (D : List Int) (N : Int) : Prop := (∀ s, s01 s → XS (sd s) s J L (G s)) ∧ (J 0 4 = (D.length : Int) ∧ sg J 5 0 D.length = D) ∧ J 0 5 = N
def PM (J : zM) (L : yM) (G : GA) (D : List Int) (N : Int) : Prop := (∀ s, s01 s → MS s J L (G s)) ∧ (J 491 9 = (D.length : Int) ∧ sg J 494 0 D.length = D) ∧ J 491 3 = N
def PI (bd : Int) (G : GA) (D : List Int) (N : Int) : Prop := (∀ s, s01 s → AI bd s (G s) ∧ AQt (G s) ∧ ¬ nextA (G s) ∧ aZ (G s) 17 = N) ∧ D.length ≤ 500 ∧ oct D ∧ 0 ≤ N ∧ N ≤ bd
/-- what the class's calls leave, what the model's leave -/
def XG (J : zM) (L : yM) (J' : zM) (L' : yM) : Prop := ∀ a, 491 ≤ a → J' a = J a ∧ L' a = L a
def MG (J : zM) (L : yM) (J' : zM) (L' : yM) : Prop := ∀ a, a < 491 ∨ a = 552 → J' a = J a ∧ L' a = L a
theorem XG.rf {J : zM} {L : yM} : XG J L J L := fun _ _ => ⟨rfl, rfl⟩
theorem MG.rf {J : zM} {L : yM} : MG J L J L := fun _ _ => ⟨rfl, rfl⟩
theorem XG.tr {J J1 J2 : zM} {L L1 L2 : yM} (h1 : XG J L J1 L1) (h2 : XG J1 L1 J2 L2) : XG J L J2 L2 := fun a h => ⟨(h2 a h).1.trans (h1 a h).1, (h2 a h).2.trans (h1 a h).2⟩
theorem MG.tr {J J1 J2 : zM} {L L1 L2 : yM} (h1 : MG J L J1 L1) (h2 : MG J1 L1 J2 L2) : MG J L J2 L2 := fun a h => ⟨(h2 a h).1.trans (h1 a h).1, (h2 a h).2.trans (h1 a h).2⟩
theorem s01b {s : Int} (h : s01 s) : 0 ≤ s ∧ s < 2 := by omega
theorem s01o {s : Int} (h : s01 s) : s01 (1 - s) := by omega
theorem s01n {s : Int} (h : s01 s) : 1 - s ≠ s := by omega
theorem sdE {s : Int} (h : s01 s) : iSide (sd s) := sd_he (s01b h)
theorem sd_b {s : Int} (h : s01 s) : 139 ≤ sd s ∧ sd s + 176 ≤ 491 := by unfold sd; omega
theorem nt_b {s : Int} (h : s01 s) : 11 ≤ nt s ∧ nt s + 63 ≤ 138 ∧ rq (nt s) = 60 ∧ rw0 (nt s) = 500 := by
  rcases h with rfl | rfl <;> decide
theorem wy_sd {s : Int} (h : s01 s) : wy (sd s) = nt (1 - s) := by
  rcases h with rfl | rfl <;> decide
theorem cR_nt {s : Int} {a : Nat} (h : s01 s) : cR (nt s) a ↔ nt s ≤ a ∧ a ≤ nt s + 63 := by
  have q := (nt_b h).2.2.1
  unfold cR
  rw [q]
/-- the other side's cells -/
theorem cX_ot {s : Int} {a : Nat} (h : s01 s) (ha : (sd (1 - s) ≤ a ∧ a < sd (1 - s) + 176) ∨ cR (wy (sd (1 - s))) a) : ¬ cX (sd s) a ∧ a ≠ 3 ∧ a ≠ 4 := by
  rw [wy_sd (s01o h), cR_nt (by omega)] at ha
  unfold cX
  rw [wy_sd h, cR_nt (s01o h)]
  rcases h with rfl | rfl
  · have e1 : sd (1 - 0) = 315 := by decide
    have e2 : sd 0 = 139 := by decide
    have e3 : nt (1 - (1 - 0)) = 11 := by decide
    have e4 : nt (1 - 0) = 75 := by decide
    rw [e1, e3] at ha
    rw [e2, e4]
    omega
  · have e1 : sd (1 - 1) = 139 := by decide
    have e2 : sd 1 = 315 := by decide
    have e3 : nt (1 - (1 - 1)) = 75 := by decide
    have e4 : nt (1 - 1) = 11 := by decide
    rw [e1, e3] at ha
    rw [e2, e4]
    omega
theorem cX_big {s : Int} {a : Nat} (h : s01 s) (ha : 491 ≤ a) : ¬ cX (sd s) a := by
  have b := sd_b h
  have c := nt_b (s01o h)
  unfold cX
  rw [wy_sd h, cR_nt (s01o h)]
  omega
theorem cX_0 {s : Int} (h : s01 s) : ¬ cX (sd s) 0 ∧ ¬ cX (sd s) 5 := by
  have b := sd_b h
  have c := nt_b (s01o h)
  unfold cX
  rw [wy_sd h, cR_nt (s01o h)]
  omega
theorem XO.c {e : Nat} {J J' : zM} {L L' : yM} (h : XO e J L J' L') : XOc e J L J' L' := ⟨fun a ha _ _ => h.1 a ha, h.2⟩
theorem XOc.g {s : Int} {J J' : zM} {L L' : yM} (hs : s01 s) (h : XOc (sd s) J L J' L') : XG J L J' L' := fun a ha => ⟨h.1 a (cX_big hs ha) (by omega) (by omega), h.2 a (cX_big hs ha)⟩
theorem s01t {s t : Int} (hs : s01 s) (ht : s01 t) (n : t ≠ s) : t = 1 - s := by omega
/-- side s of the class has done something -/
theorem PX.act {s N : Int} {D : List Int} {G : GA} {B : SA} {J J' : zM} {L L' : yM} (hs : s01 s) (h : PX J L G D N) (hB : XS (sd s) s J' L' B) (o : XOc (sd s) J L J' L') : PX J' L' (ug s B G) D N := by
  have z0 : J' 0 = J 0 := o.1 0 (cX_0 hs).1 (by decide) (by decide)
  have z5 : J' 5 = J 5 := o.1 5 (cX_0 hs).2 (by decide) (by decide)
  refine ⟨fun t ht => ?_, ⟨by rw [z0]; exact h.2.1.1, by rw [sg_row z5]; exact h.2.1.2⟩, by rw [z0]; exact h.2.2⟩
  by_cases q : t = s
  · subst q
    rw [ug_s]
    exact hB
  · have e := s01t hs ht q
    rw [ug_n _ _ q]
    subst e
    exact XS.ot (sdE ht) (h.1 _ ht) (fun a ha => o.1 a (cX_ot hs ha).1 (cX_ot hs ha).2.1 (cX_ot hs ha).2.2) (fun a ha => o.2 a (cX_ot hs (Or.inl ha)).1)
theorem PX.fr {N : Int} {D : List Int} {G : GA} {J J' : zM} {L L' : yM} (h : PX J L G D N) (f : ∀ a, a < 491 → a ≠ 3 → a ≠ 4 → J' a = J a) (g : ∀ a, a < 491 → L' a = L a) : PX J' L' G D N := by
  refine ⟨fun t ht => ?_, ⟨by rw [f 0 (by decide) (by decide) (by decide)]; exact h.2.1.1, by rw [sg_row (f 5 (by decide) (by decide) (by decide))]; exact h.2.1.2⟩, by rw [f 0 (by decide) (by decide) (by decide)]; exact h.2.2⟩
  have b := sd_b ht
  refine XS.ot (sdE ht) (h.1 t ht) (fun a ha => ?_) (fun a ha => g a (by omega))
  rcases ha with ha | ha
  · exact f a (by omega) (by omega) (by omega)
  · have w := wy_out (sdE ht) ha
    exact f a (by omega) (by omega) (by omega)
theorem PX.mg {N : Int} {D : List Int} {G : GA} {J J' : zM} {L L' : yM} (h : PX J L G D N) (o : MG J L J' L') : PX J' L' G D N := h.fr (fun a ha _ _ => (o a (Or.inl ha)).1) (fun a ha => (o a (Or.inl ha)).2)
theorem PI.ai {bd N s : Int} {G : GA} {D : List Int} (h : PI bd G D N) (hs : s01 s) : AI bd s (G s) := (h.1 s hs).1
/-- the model, when nothing of it changed -/
theorem PM.xg {bd N : Int} {D : List Int} {G : GA} {J J' : zM} {L L' : yM} (h : PM J L G D N) (hI : PI bd G D N) (o : XG J L J' L') : PM J' L' G D N := by
  refine ⟨fun t ht => ?_, ⟨by rw [(o 491 (by decide)).1]; exact h.2.1.1, by rw [sg_row (o 494 (by decide)).1]; exact h.2.1.2⟩, by rw [(o 491 (by decide)).1]; exact h.2.2⟩
  have ai := hI.ai ht
  refine (h.1 t ht).fr ht ai.dg ai.ll (fun a i ho => ?_) (fun a i ho => ?_) ?_ ?_ ?_
  · have := own_cell ho
    rw [(o a (by omega)).1]
  · rw [(o a (by unfold mOwL at ho; omega)).2]
  · exact mN_fr (o 509 (by decide)).1 (o 510 (by decide)).1 (o 511 (by decide)).1 _
  · exact mI_fr (o 509 (by decide)).1 (o 510 (by decide)).1 (h.1 t ht).2.2.2.2.2.2.2.2.2.1.1.2
  · rw [(o 491 (by decide)).1]; exact m30 ai.dg (h.1 t ht)
/-- side s of the model has done something -/
theorem PM.act {bd s N : Int} {D : List Int} {G : GA} {B : SA} {J J' : zM} {L L' : yM} (hs : s01 s) (h : PM J L G D N) (hI : PI bd G D N) (hB : MS s J' L' B) (o : MO s J L J' L') : PM J' L' (ug s B G) D N ∧ MG J L J' L' ∧ J' 491 0 = J 491 0 := by
  refine ⟨⟨fun t ht => ?_, ⟨by rw [o.1 491 9 (own491 (by omega))]; exact h.2.1.1, ?_⟩, by rw [o.1 491 3 (own491 (by omega))]; exact h.2.2⟩, fun a ha => o.2.2.2.2.2.2 a (by omega), o.1 491 0 (own491 (by omega))⟩
  · by_cases q : t = s
    · subst q
      rw [ug_s]
      exact hB
    · have e := s01t hs ht q
      rw [ug_n _ _ q]
      subst e
      have ai := hI.ai ht
      exact (h.1 _ ht).ot (u := s) (by omega) ht ai.dg ai.ll o
  · rw [sg_row (funext fun i => o.1 494 i (own493 (by decide)))]; exact h.2.1.2
/-! the nets -/
def net (s : Int) (G : GA) : List (List Int) := (aT (G (1 - s))).1
def unet (N : List (List Int)) (A : SA) : SA := ut (N, (aT A).2) A
def setN (s : Int) (N : List (List Int)) (G : GA) : GA := ug (1 - s) (unet N (G (1 - s))) G
theorem net_set {s : Int} (N : List (List Int)) (G : GA) : net s (setN s N G) = N := by
  unfold net setN
  rw [ug_s]
  rfl
theorem AI_net {bd s : Int} {N : List (List Int)} {A : SA} (ai : AI bd s A) (h : netOk N) : AI bd s (unet N A) := by
  obtain ⟨h1, h2, h3, h4, h5, h6, h7, h8, h9⟩ := ai
  exact ⟨h1, h2, h3, h4, h5, h6, h7, ⟨h, h8.2⟩, h9⟩
theorem PI.net {bd N s : Int} {G : GA} {D : List Int} (h : PI bd G D N) (hs : s01 s) : netOk (net s G) := (h.ai (s01o hs)).2.2.2.2.2.2.2.1.1
theorem PI_set {bd N s : Int} {G : GA} {D : List Int} {M : List (List Int)} (h : PI bd G D N) (hs : s01 s) (hM : netOk M) : PI bd (setN s M G) D N := by
  refine ⟨fun t ht => ?_, h.2⟩
  unfold setN
  by_cases q : t = 1 - s
  · subst q
    rw [ug_s]
    obtain ⟨a, b, c, d⟩ := h.1 _ ht
    exact ⟨AI_net a hM, b, c, d⟩
  · rw [ug_n _ _ q]
    exact h.1 t ht
theorem netOk_erase {N : List (List Int)} (h : netOk N) (i : Nat) : netOk (N.eraseIdx i) := by
  refine ⟨?_, fun d hd => h.2 d (List.mem_of_mem_eraseIdx hd)⟩
  have := List.length_eraseIdx_le N i
  have := h.1
  omega
theorem px_net {N s : Int} {G : GA} {D : List Int} {J : zM} {L : yM} (h : PX J L G D N) (hs : s01 s) : rL (nt s) J = net s G ∧ iR (nt s) J ∧ J (nt s) 5 = ((net s G).length : Int) := by
  have q := (h.1 _ (s01o hs)).2.2.2.2.2.2.2.2.2.1.2.2.1
  rw [wy_sd (s01o hs), show 1 - (1 - s) = s by omega] at q
  have e : net s G = rL (nt s) J := q.1.symm
  refine ⟨q.1, q.2, ?_⟩
  rw [e, rL_len]
  have := q.2.1.1
  omega
theorem pm_net {N s : Int} {G : GA} {D : List Int} {J : zM} {L : yM} (h : PM J L G D N) (hs : s01 s) : mN s J = net s G ∧ mI J ∧ J 509 s = ((net s G).length : Int) := by
  have q := (h.1 _ (s01o hs)).2.2.2.2.2.2.2.2.2.1.1
  rw [show 1 - (1 - s) = s by omega] at q
  have e : net s G = mN s J := q.1.symm
  refine ⟨q.1, q.2, ?_⟩
  rw [e]
  have := (q.2 s hs).1.1
  unfold mN
  rw [mr_len]
  omega
/-- the class's net to s is another -/
theorem PX.set {N s : Int} {G : GA} {D : List Int} {M : List (List Int)} {J J' : zM} {L : yM} (h : PX J L G D N) (hs : s01 s) (h1 : rL (nt s) J' = M) (h2 : iR (nt s) J') (f : zF (cR (nt s)) J J') : PX J' L (setN s M G) D N ∧ XG J L J' L := by
  have b := nt_b hs
  have r : ∀ a, a < 11 ∨ 139 ≤ a → J' a = J a := fun a ha => f a (by rw [cR_nt hs]; omega)
  refine ⟨⟨fun t ht => ?_, ⟨by rw [r 0 (by decide)]; exact h.2.1.1, by rw [sg_row (r 5 (by decide))]; exact h.2.1.2⟩, by rw [r 0 (by decide)]; exact h.2.2⟩, fun a ha => ⟨r a (by omega), rfl⟩⟩
  have e := sd_b ht
  unfold setN
  by_cases q : t = 1 - s
  · subst q
    rw [ug_s]
    obtain ⟨a0, a1, a2, a3, a4, a5, a6, a7, a8, ⟨c0, c1, c2, c3, c4, c5, c6⟩, a10⟩ := h.1 _ ht
    refine ⟨a0.fr (r _ (by omega)), a1.fr (r _ (by omega)) rfl, a2.fr (fun a p q => r a (by omega)), a3.fr (fun a p q => r a (by omega)) (fun k _ => by rw [r _ (by omega)]), a4.fr (fun a p q => r a (by omega)), a5.fr (fun a p q => r a (by omega)), a6.fr (r _ (by omega)), a7.fr (sdE ht) (fun a p q => r a (by omega)), a8.fr (fun a p q => r a (by omega)) (r _ (by omega)), ⟨by rw [r _ (by omega)]; exact c0, by rw [r _ (by omega)]; exact c1, ⟨?_, ?_⟩, by rw [r _ (by omega)]; exact c3, ?_, c5.fr (by rw [r _ (by omega)]) (r _ (by omega)), c6.fr (by rw [r _ (by omega)]) (fun a p q => r a (by omega))⟩, a10.fr (fun a p q => r a (by omega)) (fun _ _ _ => rfl)⟩
    · rw [wy_sd (s01o hs), show 1 - (1 - s) = s by omega]; exact h1
    · rw [wy_sd (s01o hs), show 1 - (1 - s) = s by omega]; exact h2
    · intro ep hep
      rw [r _ (by omega)]
      exact c4 ep hep
  · rw [ug_n _ _ q]
    have ts : t = s := by omega
    subst ts
    refine XS.ot (sdE ht) (h.1 _ ht) (fun a ha => ?_) (fun _ _ => rfl)
    rcases ha with ha | ha
    · exact r a (by omega)
    · refine f a (fun w => ?_)
      rw [wy_sd ht, cR_nt (s01o ht)] at ha
      rw [cR_nt hs] at w
      rcases hs with rfl | rfl
      · have e3 : nt 0 = 11 := by decide
        have e4 : nt (1 - 0) = 75 := by decide
        rw [e4] at ha
        rw [e3] at w
        omega
      · have e3 : nt 1 = 75 := by decide
        have e4 : nt (1 - 1) = 11 := by decide
        rw [e4] at ha
        rw [e3] at w
        omega
/-- slots of the model that are nobody's state -/
theorem MS_slot {s k v : Int} {A : SA} {J : zM} {L : yM} (h : MS s J L A) (hs : s01 s) (hk : k = 0 ∨ k = 72) : MS s (zs J 491 k v) L A := by
  obtain ⟨a0, a1, a2, a3, a4, a5, a6, a7, a8, a9, a10, a11, a12⟩ := h
  have c : ∀ (C : Nat → Prop), ¬ C 491 → oEq s C J (zs J 491 k v) := fun C hC => oEq.zs (Or.inl hC)
  have r : ∀ a, a ≠ 491 → zs J 491 k v a = J a := fun a ha => zs_r J ha
  have g : ∀ i, i ≠ 0 → i ≠ 72 → zs J 491 k v 491 i = J 491 i := fun i p q => zs_n J (Or.inr (by omega))
  refine ⟨a0.fr (c _ (by omega)) (fun _ _ _ => rfl), ?_, ?_, a3.fr hs (c _ (by omega)), ⟨a4.1.fr hs (c _ (by omega)), a4.2.fr (c _ (by omega))⟩, a5.fr (c _ (by omega)), a6.fr (c _ (by omega)), a7.fr hs (c _ (by omega)), a8.fr (c _ (by omega)), MSn.zs a9 (by omega) (by omega), a10.fr (c _ (by omega)) (fun _ _ _ => rfl), ?_, mKa a12 (c _ (by omega))⟩
  · unfold M1
    rw [r 536 (by decide), r 523 (by decide), r 506 (by decide), r 507 (by decide), g 4 (by decide) (by decide), g 58 (by decide) (by decide)]
    exact a1
  · unfold M2
    rw [sg_row (r 492 (by decide)), sg_row (r 492 (by decide)), sg_row (r 492 (by decide)), sg_row (r 492 (by decide)), sg_row (r 492 (by decide)), r 492 (by decide), g 7 (by decide) (by decide), sg_row (r 493 (by decide))]
    exact a2
  · unfold M15
    rw [g 1 (by decide) (by decide), g 2 (by decide) (by decide)]
    exact a11
theorem PM.slot {N k v : Int} {D : List Int} {G : GA} {J : zM} {L : yM} (h : PM J L G D N) (hk : k = 0 ∨ k = 72) : PM (zs J 491 k v) L G D N ∧ MG J L (zs J 491 k v) L := ⟨⟨fun t ht => MS_slot (h.1 t ht) ht hk, ⟨by rw [zs_n J (Or.inr (by omega))]; exact h.2.1.1, by rw [sg_row (zs_r J (by decide))]; exact h.2.1.2⟩, by rw [zs_n J (Or.inr (by omega))]; exact h.2.2⟩, fun a ha => ⟨zs_r J (by omega), rfl⟩⟩
/-- the model's net to s is another -/
theorem PM.set {bd N s : Int} {G : GA} {D : List Int} {M : List (List Int)} {J J' : zM} {L : yM} (h : PM J L G D N) (hI : PI bd G D N) (hs : s01 s) (h1 : mN s J' = M) (h2 : mN (1 - s) J' = mN (1 - s) J) (h3 : mI J') (f : zF (fun a => a = 509 ∨ a = 510 ∨ a = 511) J J') : PM J' L (setN s M G) D N ∧ MG J L J' L ∧ J' 491 = J 491 := by
  have r : ∀ a, ¬ (509 ≤ a ∧ a ≤ 511) → J' a = J a := fun a ha => f a (by omega)
  have own : ∀ t a i, mOwn t a i → J' a i = J a i := fun t a i ho => by rw [r a (by have := own_cell ho; omega)]
  refine ⟨⟨fun t ht => ?_, ⟨by rw [r 491 (by decide)]; exact h.2.1.1, by rw [sg_row (r 494 (by decide))]; exact h.2.1.2⟩, by rw [r 491 (by decide)]; exact h.2.2⟩, fun a ha => ⟨r a (by omega), rfl⟩, r 491 (by decide)⟩
  have ai := hI.ai ht
  have h30 : J' 491 30 = 0 := by rw [r 491 (by decide)]; exact m30 ai.dg (h.1 t ht)
  unfold setN
  by_cases q : t = 1 - s
  · subst q
    rw [ug_s]
    obtain ⟨a0, a1, a2, a3, a4, a5, a6, a7, a8, ⟨c1, c2, c3, c4, c5⟩, a10, a11, a12⟩ := h.1 _ ht
    have f := own (1 - s)
    refine ⟨a0.fr (.all f) (fun _ _ _ => rfl), a1.fr (.all f), a2.fr (.all f), a3.fr ht (.all f), ⟨a4.1.fr ht (.all f), a4.2.fr (.all f)⟩, a5.fr (.all f), a6.fr (.all f), a7.fr ht (.all f), a8.fr (.all f), ⟨⟨?_, h3⟩, ?_, ?_, ?_, c5.ow ht ai.ll (.all f)⟩, a10.fr (.all f) (fun _ _ _ => rfl), a11.fr (.all f), mKa a12 (.all f)⟩
    · rw [show 1 - (1 - s) = s by omega]; exact h1
    · rw [r 512 (by decide)]; exact c2
    · intro ep hep
      rw [r 514 (by decide)]
      exact c3 ep hep
    · have dg : (aT (unet M (G (1 - s)))).2.2.2.1 = [] := ai.dg
      rw [dg]
      exact ⟨⟨by rw [h30]; rfl, rfl, Nat.zero_le _⟩, Nat.zero_le _⟩
  · rw [ug_n _ _ q]
    have ts : t = s := by omega
    subst ts
    exact (h.1 _ ht).fr ht ai.dg ai.ll (own t) (fun _ _ _ => rfl) h2 h3 h30
