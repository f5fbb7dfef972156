/-! run: turns -/
def turnG (N : Int) (G : GA) : GA := tickG N (dlvA 0 (dlvA 1 G))
def turnC (G : GA) : Int := ((net 1 G).length : Int) + ((net 0 (dlvA 1 G)).length : Int)
theorem PI_turn {bd N : Int} {G : GA} {D : List Int} (h : PI bd G D N) : PI (bd + 12001) (turnG N G) D (N + 1) := by
  have q := PI_tick (PI_dlvA (Or.inl rfl) (PI_dlvA (Or.inr rfl) h))
  rw [show bd + 6000 + 6000 + 1 = bd + 12001 by omega] at q
  exact q
theorem turnC_b {bd N : Int} {G : GA} {D : List Int} (h : PI bd G D N) : 0 ≤ turnC G ∧ turnC G ≤ 120 := by
  have a := (h.net (s := 1) (Or.inr rfl)).1
  have b := ((PI_dlvA (Or.inr rfl) h).net (s := 0) (Or.inl rfl)).1
  unfold turnC
  omega
def runS : Nat → Int → GA → Int → GA × Int × Int
  | 0, N, G, c => (G, N, c)
  | k + 1, N, G, c => runS k (N + 1) (turnG N G) (c + turnC G)
theorem PI_run {D : List Int} : ∀ (k : Nat) (bd N c : Int) (G : GA), PI bd G D N → PI (bd + 12001 * (k : Int)) (runS k N G c).1 D (runS k N G c).2.1
  | 0, bd, N, c, G, h => by
    show PI (bd + 12001 * 0) G D N
    rw [Int.mul_zero, Int.add_zero]
    exact h
  | k + 1, bd, N, c, G, h => by
    have w := PI_run k (bd + 12001) (N + 1) (c + turnC G) (turnG N G) (PI_turn h)
    rw [show bd + 12001 + 12001 * (k : Int) = bd + 12001 * ((k + 1 : Nat) : Int) by omega] at w
    exact w
theorem px_turn {bd N x5 : Int} {G : GA} {D : List Int} {J : zM} {L : yM} {R : Int → zM → yM → Prop} (h : PX J L G D N) (hI : PI bd G D N) (hbd : 0 ≤ bd ∧ bd + 12001 ≤ 2000000000) (rx : 0 ≤ x5 ∧ x5 ≤ 19000) (hR : ∀ J' L', PX J' L' (turnG N G) D (N + 1) → XG J L J' L' → R (x5 + turnC G) J' L') : zl_zz (fun K12 x13 x14 J15 L16 => R32 x14 ∧ (if x14 < 0 then w_X11_passTick J15 L16 (fun J19 L20 => R x13 J19 L20) else ((0 : Int) ≤ x14 ∧ x14 < 2) ∧ ∀ x23 : Int, x23 = (J15 (nt x14) 5) → zl_zz (fun K24 x25 x26 J27 L28 => ∀ K31 : zM → yM → Prop, (∀ (J29 : zM) (L30 : yM), (K12 x25 (x14 + (-1)) J29 L30) → K31 J29 L30) → R32 x26 ∧ R32 x23 ∧ (if x26 < x23 then ((0 : Int) ≤ x14 ∧ x14 < 2) ∧ R32 (J27 (nt x14) 5) ∧ (if 0 < (J27 (nt x14) 5) then w_X11_come x14 0 J27 L28 (fun r41 J39 L40 => K24 (x25 + 1) (x26 + 1) J39 L40) else K31 J27 L28) else K31 J27 L28)) x13 0 J15 L16)) x5 1 J L := by
  have s0 : s01 0 := Or.inl rfl
  have s1 : s01 1 := Or.inr rfl
  have a1 := (hI.net s1).1
  have I1 := PI_dlvA s1 hI
  have a0 := (I1.net s0).1
  have I0 := PI_dlvA s0 I1
  refine zl_zz.by (fun m x13 x14 J1 L1 => (m = 2 ∧ x14 = 1 ∧ x13 = x5 ∧ PX J1 L1 G D N ∧ XG J L J1 L1) ∨ (m = 1 ∧ x14 = 0 ∧ x13 = x5 + ((net 1 G).length : Int) ∧ PX J1 L1 (dlvA 1 G) D N ∧ XG J L J1 L1) ∨ (m = 0 ∧ x14 = -1 ∧ x13 = x5 + ((net 1 G).length : Int) + ((net 0 (dlvA 1 G)).length : Int) ∧ PX J1 L1 (dlvA 0 (dlvA 1 G)) D N ∧ XG J L J1 L1)) ?_ 2 x5 1 J L (Or.inl ⟨rfl, rfl, rfl, h, XG.rf⟩)
  rintro m x13 x14 J1 L1 K (⟨rfl, rfl, rfl, h1, o1⟩ | ⟨rfl, rfl, e13, h1, o1⟩ | ⟨rfl, rfl, e13, h1, o1⟩) hK
  · refine ⟨by decide, ?_⟩
    rw [if_neg (by decide)]
    refine ⟨by decide, fun x23 e23 => ?_⟩
    rw [(px_net h1 s1).2.2] at e23
    subst e23
    exact px_dlv (R := fun x J L => K x (1 + (-1)) J L) s1 h1 hI (by omega) (by omega) (fun J2 L2 X2 O2 => hK 1 _ _ J2 L2 (by decide) (Or.inr (Or.inl ⟨rfl, by decide, rfl, X2, o1.tr O2⟩)))
  · refine ⟨by decide, ?_⟩
    rw [if_neg (by decide)]
    refine ⟨by decide, fun x23 e23 => ?_⟩
    rw [(px_net h1 s0).2.2] at e23
    subst e23
    exact px_dlv (R := fun x J L => K x (0 + (-1)) J L) s0 h1 I1 (by omega) (by omega) (fun J2 L2 X2 O2 => hK 0 _ _ J2 L2 (by decide) (Or.inr (Or.inr ⟨rfl, by decide, by rw [e13], X2, o1.tr O2⟩)))
  · refine ⟨by decide, ?_⟩
    rw [if_pos (by decide)]
    refine px_tick h1 I0 (by omega) (fun J2 X2 O2 => ?_)
    rw [e13, Int.add_assoc]
    exact hR J2 L1 X2 (o1.tr O2)
theorem pm_turn {bd N x5 : Int} {G : GA} {D : List Int} {J : zM} {L : yM} {R : Int → zM → yM → Prop} (h : PM J L G D N) (hI : PI bd G D N) (hbd : 0 ≤ bd ∧ bd + 12001 ≤ 2000000000) (rx : 0 ≤ x5 ∧ x5 ≤ 19000) (hR : ∀ J' L', PM J' L' (turnG N G) D (N + 1) → MG J L J' L' → J' 491 0 = J 491 0 → R (x5 + turnC G) J' L') : zl_zz (fun K16 x17 x18 J19 L20 => R32 x18 ∧ (if x18 < 0 then w_X12_ticks J19 L20 (fun J23 L24 => R x17 J23 L24) else ((0 : Int) ≤ x18 ∧ x18 < 2) ∧ ∀ x26 : Int, x26 = (J19 509 x18) → zl_zz (fun K27 x28 x29 J30 L31 => R32 x29 ∧ (if 0 < x29 then w_X12_take x18 0 J30 L31 (fun J34 L35 => w_X12_arrives x18 J34 L35 (fun r38 J36 L37 => K27 (x28 + 1) (x29 + (-1)) J36 L37)) else K16 x28 (x18 + (-1)) J30 L31)) x17 x26 J19 L20)) x5 1 J L := by
  have s0 : s01 0 := Or.inl rfl
  have s1 : s01 1 := Or.inr rfl
  have a1 := (hI.net s1).1
  have I1 := PI_dlvA s1 hI
  have a0 := (I1.net s0).1
  have I0 := PI_dlvA s0 I1
  refine zl_zz.by (fun m x13 x14 J1 L1 => (m = 2 ∧ x14 = 1 ∧ x13 = x5 ∧ PM J1 L1 G D N ∧ MG J L J1 L1 ∧ J1 491 0 = J 491 0) ∨ (m = 1 ∧ x14 = 0 ∧ x13 = x5 + ((net 1 G).length : Int) ∧ PM J1 L1 (dlvA 1 G) D N ∧ MG J L J1 L1 ∧ J1 491 0 = J 491 0) ∨ (m = 0 ∧ x14 = -1 ∧ x13 = x5 + ((net 1 G).length : Int) + ((net 0 (dlvA 1 G)).length : Int) ∧ PM J1 L1 (dlvA 0 (dlvA 1 G)) D N ∧ MG J L J1 L1 ∧ J1 491 0 = J 491 0)) ?_ 2 x5 1 J L (Or.inl ⟨rfl, rfl, rfl, h, MG.rf, rfl⟩)
  rintro m x13 x14 J1 L1 K (⟨rfl, rfl, rfl, h1, o1, z1⟩ | ⟨rfl, rfl, e13, h1, o1, z1⟩ | ⟨rfl, rfl, e13, h1, o1, z1⟩) hK
  · refine ⟨by decide, ?_⟩
    rw [if_neg (by decide)]
    refine ⟨by decide, fun x23 e23 => ?_⟩
    rw [(pm_net h1 s1).2.2] at e23
    subst e23
    exact pm_dlv (R := fun x J L => K x (1 + (-1)) J L) s1 h1 hI (by omega) (by omega) (fun J2 L2 X2 O2 z2 => hK 1 _ _ J2 L2 (by decide) (Or.inr (Or.inl ⟨rfl, by decide, rfl, X2, o1.tr O2, z2.trans z1⟩)))
  · refine ⟨by decide, ?_⟩
    rw [if_neg (by decide)]
    refine ⟨by decide, fun x23 e23 => ?_⟩
    rw [(pm_net h1 s0).2.2] at e23
    subst e23
    exact pm_dlv (R := fun x J L => K x (0 + (-1)) J L) s0 h1 I1 (by omega) (by omega) (fun J2 L2 X2 O2 z2 => hK 0 _ _ J2 L2 (by decide) (Or.inr (Or.inr ⟨rfl, by decide, by rw [e13], X2, o1.tr O2, z2.trans z1⟩)))
  · refine ⟨by decide, ?_⟩
    rw [if_pos (by decide)]
    refine pm_tick h1 I0 (by omega) (fun J2 X2 O2 z2 => ?_)
    rw [e13, Int.add_assoc]
    exact hR J2 L1 X2 (o1.tr O2) (z2.trans z1)
theorem call_run {bd t : Int} {J : zM} {L : yM} (h : PB bd J L) (hbd : 0 ≤ bd ∧ bd + 1300000 ≤ 2000000000) (rt : R32 t) : w_X11_run t J L (QA (bd + 1300000) (w_X12_run t)) (XA (bd + 1300000) [(IAE, 1)] (w_X12_run t)) := by
  obtain ⟨G, D, N, hx, hm, hI⟩ := h
  have hI' := hI.mono (show bd ≤ bd + 1300000 by omega)
  have bad : ¬ (0 ≤ t ∧ t ≤ 100) → XA (bd + 1300000) [(IAE, 1)] (w_X12_run t) IAE J L := fun q => ⟨1, List.mem_singleton.mpr rfl, by
    unfold w_X12_run
    intro K4 hK4 K41 hK41
    have go : K41 J L := hK41 J L (hK4 1 J L (fun J5 e5 => by
      have z : J5 491 0 = 1 := by rw [e5]; exact zs_s _ _ _ _
      have S := hm.slot (k := 0) (v := 1) (Or.inl rfl)
      rw [← e5] at S
      refine zl_zz.by (fun m x7 x8 J1 L1 => m = 0 ∧ x8 = 0 ∧ J1 = J5 ∧ L1 = L) ?_ 0 0 0 J5 L ⟨rfl, rfl, rfl, rfl⟩
      rintro m x7 x8 J1 L1 K ⟨rfl, rfl, rfl, rfl⟩ hK
      refine ⟨by decide, rt, ?_⟩
      have fin : AN (bd + 1300000) 1 True J1 L1 := ⟨z, trivial, PB.q hx hI' S.1 S.2⟩
      by_cases c : 0 < t
      · rw [if_pos c, z]
        refine ⟨by decide, ?_⟩
        rw [if_neg (by decide)]
        exact fin
      · rw [if_neg c]
        exact fin))
    refine ⟨rt, ?_⟩
    by_cases c1 : t < 0
    · rw [if_pos c1]; exact go
    · rw [if_neg c1, if_pos (by omega)]; exact go⟩
  unfold w_X11_run
  refine ⟨rt, ?_⟩
  by_cases c1 : t < 0
  · rw [if_pos c1]; exact bad (by omega)
  rw [if_neg c1]
  by_cases c2 : 100 < t
  · rw [if_pos c2]; exact bad (by omega)
  rw [if_neg c2]
  clear bad
  obtain ⟨Z, hZ⟩ : ∃ Z, Z = runS t.toNat N G 0 := ⟨_, rfl⟩
  have IZ := PI_run (D := D) t.toNat bd N 0 G hI
  rw [← hZ] at IZ
  have IZ := IZ.mono (show bd + 12001 * (t.toNat : Int) ≤ bd + 1300000 by omega)
  -- the model, from where the class has done it
  have model : ∀ (J1 : zM) (L1 : yM), PX J1 L1 Z.1 D Z.2.1 → PM J1 L1 G D N → QA (bd + 1300000) (w_X12_run t) Z.2.2 J1 L1 := fun J1 L1 X1 m1 => by
    unfold QA
    intro L1 eL
    have X1 := X1.o eL
    have m1 := m1.o hI eL
    unfold w_X12_run
    intro K4 hK4 K41 hK41
    refine ⟨rt, ?_⟩
    rw [if_neg c1, if_neg c2]
    refine hK4 0 J1 L1 (fun J5 e5 => ?_)
    have z : J5 491 0 = 0 := by rw [e5]; exact zs_s _ _ _ _
    have S := m1.slot (k := 0) (v := 0) (Or.inl rfl)
    rw [← e5] at S
    refine zl_zz.by (fun m x7 x8 J2 L2 => (m : Int) = t - x8 ∧ 0 ≤ x8 ∧ 0 ≤ x7 ∧ x7 ≤ 120 * x8 ∧ ∃ G2 N2, PM J2 L2 G2 D N2 ∧ PI (bd + 12001 * x8) G2 D N2 ∧ MG J1 L1 J2 L2 ∧ J2 491 0 = 0 ∧ runS m N2 G2 x7 = Z) ?_ t.toNat 0 0 J5 L1 ⟨by omega, by omega, by omega, by omega, G, N, S.1, by rw [Int.mul_zero, Int.add_zero]; exact hI, S.2, z, hZ.symm⟩
    rintro m x7 x8 J2 L2 K ⟨hm, hx8, hx7, hx7', G2, N2, p2, i2, o2, z2, hr⟩ hK
    refine ⟨⟨by omega, by omega⟩, rt, ?_⟩
    by_cases c : x8 < t
    · rw [if_pos c, z2]
      refine ⟨by decide, ?_⟩
      rw [if_pos rfl]
      obtain ⟨m', rfl⟩ : ∃ m', m = m' + 1 := ⟨m - 1, by omega⟩
      have tb := turnC_b i2
      refine pm_turn (R := fun x J L => K x (x8 + 1) J L) p2 i2 (by omega) (by omega) (fun J3 L3 p3 o3 z3 => hK m' _ _ J3 L3 (by omega) ⟨by omega, by omega, by omega, by omega, turnG N2 G2, N2 + 1, p3, ?_, o2.tr o3, z3.trans z2, hr⟩)
      rw [show bd + 12001 * (x8 + 1) = bd + 12001 * x8 + 12001 by omega]
      exact PI_turn i2
    · rw [if_neg c]
      have m0 : m = 0 := by omega
      subst m0
      have hr : (G2, N2, x7) = Z := hr
      subst hr
      exact ⟨z2, ⟨rfl, (o2 552 (Or.inr rfl)).2⟩, G2, D, N2, X1.mg o2, p2, IZ⟩
  refine zl_zz.by (fun m x5 x6 J2 L2 => (m : Int) = t - x6 ∧ 0 ≤ x6 ∧ 0 ≤ x5 ∧ x5 ≤ 120 * x6 ∧ ∃ G2 N2, PX J2 L2 G2 D N2 ∧ PI (bd + 12001 * x6) G2 D N2 ∧ XG J L J2 L2 ∧ runS m N2 G2 x5 = Z) ?_ t.toNat 0 0 J L ⟨by omega, by omega, by omega, by omega, G, N, hx, by rw [Int.mul_zero, Int.add_zero]; exact hI, XG.rf, hZ.symm⟩
  rintro m x5 x6 J2 L2 K ⟨hm', hx6, hx5, hx5', G2, N2, p2, i2, o2, hr⟩ hK
  refine ⟨⟨by omega, by omega⟩, rt, ?_⟩
  by_cases c : x6 < t
  · rw [if_pos c]
    obtain ⟨m', rfl⟩ : ∃ m', m = m' + 1 := ⟨m - 1, by omega⟩
    have tb := turnC_b i2
    refine px_turn (R := fun x J L => K x (x6 + 1) J L) p2 i2 (by omega) (by omega) (fun J3 L3 p3 o3 => hK m' _ _ J3 L3 (by omega) ⟨by omega, by omega, by omega, by omega, turnG N2 G2, N2 + 1, p3, ?_, o2.tr o3, hr⟩)
    rw [show bd + 12001 * (x6 + 1) = bd + 12001 * x6 + 12001 by omega]
    exact PI_turn i2
  · rw [if_neg c]
    have m0 : m = 0 := by omega
    subst m0
    have hr : (G2, N2, x5) = Z := hr
    subst hr
    exact model J2 L2 p2 (hm.xg hI o2)
/-! inject -/
theorem call_inject {bd s : Int} {J : zM} {L : yM} (h : PB bd J L) (rs : R32 s) : w_X11_inject s J L (QA bd (w_X12_inject s)) (XA bd [(IOB, 1)] (w_X12_inject s)) := by
  obtain ⟨G, D, N, hx, hm, hI⟩ := h
  have dl := hI.2.1
  unfold w_X11_inject
  refine x_side rs (fun hs => ?_) (fun ns => ⟨1, List.mem_singleton.mpr rfl, ?_⟩)
  · obtain ⟨n1, n2, n3⟩ := px_net hx hs
    have nk := hI.net hs
    have nk1 := nk.1
    have b := nt_b hs
    have no : ((net s G).length = 60 ∨ D = []) → QA bd (w_X12_inject s) (-1) J L := fun q => by
      unfold QA
      intro L eL
      have hx := hx.o eL
      have hm := hm.o hI eL
      unfold w_X12_inject
      refine m_side rs (fun _ K7 hK7 => if01.mpr (m_thr0 hK7 hm (fun J8 P M z _ _ => ?_))) (fun n => absurd hs n)
      have fin : AN bd 0 (-1 = (-1 : Int) ∧ L 552 = L 552) J8 L := ⟨z, ⟨rfl, rfl⟩, PB.q hx hI P M⟩
      rw [(pm_net P hs).2.2, P.2.1.1]
      refine ⟨s01b hs, ⟨by omega, by omega⟩, ?_⟩
      by_cases c : ((net s G).length : Int) = 60
      · rw [if_pos c]; exact fin
      · rw [if_neg c]
        refine ⟨⟨by omega, by omega⟩, ?_⟩
        rw [if_pos (by
          rcases q with q | q
          · exact absurd (by omega) c
          · rw [q]; rfl)]
        exact fin
    rw [hx.2.1.1]
    refine ⟨⟨by omega, by omega⟩, ?_⟩
    by_cases c0 : (D.length : Int) = 0
    · rw [if_pos c0]
      exact no (Or.inr (List.eq_nil_of_length_eq_zero (by omega)))
    rw [if_neg c0]
    refine ⟨s01b hs, ?_⟩
    by_cases c : (net s G).length < 60
    · refine s_add n2 (Or.inl (by rw [cR_nt hs]; omega)) (by omega) (by rw [b.2.2.2]; omega) (by rw [ln_5]; omega) (by rw [b.2.2.1, n3]; omega) (fun J1 g1 g2 g4 => if11.mpr ?_)
      rw [n1, show ((D.length : Int)).toNat = D.length by omega, hx.2.1.2] at g1
      obtain ⟨X1, O1⟩ := hx.set hs g1 g2 g4
      intro J2 e2
      obtain ⟨X2, O2⟩ := X1.dr (D' := []) (J' := J2) (fun a p _ => by rw [e2]; exact zs_r _ p) (by rw [e2]; exact zs_s _ _ _ _) rfl (by rw [e2]; exact zs_n _ (Or.inr (by decide)))
      have m2 := hm.xg hI (O1.tr O2)
      have e1 := (px_net X2 hs).2.2
      rw [net_set] at e1
      rw [e1]
      refine ⟨s01b hs, ?_⟩
      unfold QA
      intro L eL
      have X2 := X2.o eL
      have m2 := m2.o hI eL
      unfold w_X12_inject
      refine m_side rs (fun _ K7 hK7 => if01.mpr (m_thr0 hK7 m2 (fun J8 P M z _ _ => ?_))) (fun n => absurd hs n)
      obtain ⟨k1, k2, k3⟩ := pm_net P hs
      have k9 := P.2.1.1
      rw [k3, k9]
      refine ⟨s01b hs, ⟨by omega, by omega⟩, ?_⟩
      rw [if_neg (by omega)]
      refine ⟨⟨by omega, by omega⟩, ?_⟩
      rw [if_neg c0]
      refine ⟨s01b hs, fun x17 e17 => ?_⟩
      refine ⟨⟨by omega, by omega⟩, fun J9 e9 => ?_⟩
      have f9 : ∀ a, a ≠ 510 → J9 a = J8 a := fun a ha => by rw [e9]; exact zs_r _ ha
      refine wl_by (b := 511) (off := 500 * x17) (n := (D.length : Int)) (f := fun k => J8 494 k) (by omega) (fun x J10 K x0 x1 wp hK => ?_) (fun J10 K wp => ?_)
      · rw [show J10 491 9 = (D.length : Int) by rw [wp.2.2 491 (by decide), f9 491 (by decide)]; exact k9, show J10 494 x = J8 494 x by rw [wp.2.2 494 (by decide), f9 494 (by decide)]]
        refine ⟨⟨by omega, by omega⟩, ⟨by omega, by omega⟩, ?_⟩
        rw [if_pos x1]
        exact ⟨⟨by omega, by omega⟩, ⟨by omega, by omega⟩, hK⟩
      rw [show J10 491 9 = (D.length : Int) by rw [wp.2.2 491 (by decide), f9 491 (by decide)]; exact k9]
      refine ⟨⟨by omega, by omega⟩, ⟨by omega, by omega⟩, ?_⟩
      rw [if_neg (by omega)]
      have f10 : ∀ a, a ≠ 510 → a ≠ 511 → J10 a = J8 a := fun a p q => by rw [wp.2.2 a q, f9 a p]
      intro J11 e11
      have e509 : J11 509 = J8 509 := by rw [e11, zs_r _ (by decide)]; exact f10 509 (by decide) (by decide)
      rw [e509, k3]
      refine ⟨s01b hs, s01b hs, fun J12 e12 => ⟨s01b hs, ?_⟩⟩
      -- the same, the draft emptied first
      obtain ⟨J13, e13⟩ : ∃ J13, J13 = zs J8 491 9 0 := ⟨_, rfl⟩
      have P13 : PM J13 L G [] N := ⟨fun t ht => by rw [e13]; exact MS_slot4 (P.1 t ht) ht (Or.inr (Or.inr (Or.inl rfl))), ⟨by rw [e13]; exact zs_s _ _ _ _, rfl⟩, by rw [e13, zs_n _ (Or.inr (by decide))]; exact P.2.2⟩
      have I13 : PI bd G [] N := ⟨hI.1, by decide, oct_nil, hI.2.2.2⟩
      have f13 : ∀ a, a ≠ 491 → J13 a = J8 a := fun a ha => by rw [e13]; exact zs_r _ ha
      have f12 : ∀ a, a ≠ 509 → a ≠ 510 → a ≠ 511 → J12 a = J13 a := fun a p q w => by
        rw [e12, zs_r _ p]
        by_cases u : a = 491
        · subst u
          rw [e13]
          funext k
          by_cases v : k = 9
          · subst v; rw [e11, zs_s, zs_s]
          · rw [e11, zs_n _ (Or.inr v), zs_n _ (Or.inr v), f10 491 (by decide) (by decide)]
        · rw [e11, zs_r _ u, f10 a q w, f13 a u]
      have h511 : J12 511 = J10 511 := by rw [e12, zs_r _ (by decide), e11, zs_r _ (by decide)]
      have h510 : J12 510 = J9 510 := by rw [e12, zs_r _ (by decide), e11, zs_r _ (by decide), wp.2.2 510 (by decide)]
      have hI13 : mI J13 := mI_fr (f13 509 (by decide)) (f13 510 (by decide)) k2
      have g509 : J13 509 = J8 509 := f13 509 (by decide)
      have q := mN_add (J := J13) (J' := J12) (d := D) hs hI13 (by rw [g509, k3]; omega) (by rw [e12, zs_s, g509, k3]) (fun t ht => by rw [e12, zs_n _ (Or.inr ht), e509, g509]) (by rw [g509, k3, h510, e9, ← e17, zs_s]) (fun k hk => by rw [g509, k3, ← e17] at hk; rw [h510, e9, zs_n _ (Or.inr hk), f13 510 (by decide)]) (by
        rw [g509, k3, ← e17, sg_row h511]
        have hD : sg J8 494 0 D.length = D := P.2.1.2
        refine Eq.trans ?_ hD
        refine sg_cong (fun j hj => ?_)
        rw [Int.zero_add]
        exact wp.1 _ (by omega) (by omega)) (fun k hk => by
        rw [g509, k3, ← e17] at hk
        rw [h511, wp.2.1 k (by omega), f9 511 (by decide), f13 511 (by decide)]) dl
      have kk1 : mN s J13 = net s G := (pm_net P13 hs).1
      obtain ⟨P9, M9, r9'⟩ := P13.set (J' := J12) I13 hs (M := net s G ++ [D]) (by rw [← kk1]; exact q.1) (q.2.1 (1 - s) (s01o hs) (s01n hs)) q.2.2 (fun a ha => f12 a (by omega) (by omega) (by omega))
      have e9' := (pm_net P9 hs).2.2
      rw [net_set] at e9'
      rw [e9']
      refine ⟨by rw [r9', e13, zs_n _ (Or.inr (by decide))]; exact z, ⟨rfl, (M9 552 (Or.inr rfl)).2.trans (M 552 (Or.inr rfl)).2⟩, _, [], N, ((X2.mg M).mg (fun a ha => ⟨f13 a (by omega), rfl⟩)).mg M9, P9, PI_set I13 hs (netOk_add nk c ⟨hI.2.2.1, by omega, dl⟩)⟩
    · have c60 : (net s G).length = 60 := by have := nk.1; omega
      exact s_addFull n2 (by rw [b.2.2.1, n3]; omega) (if01.mpr (no (Or.inl c60)))
  · unfold w_X12_inject
    exact m_side rs (fun q => absurd q ns) (fun _ K7 hK7 => if11.mpr (m_thrK hK7 hm (by decide) (fun J8 P M z => ⟨z, trivial, PB.q hx hI P M⟩)))
