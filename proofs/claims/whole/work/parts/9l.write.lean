/-! write -/
theorem PM.scr {bd N N' : Int} {D D' : List Int} {G : GA} {S : Nat → Prop} {T : Int → Prop} {J J' : zM} {L : yM} (h : PM J L G D N) (hI : PI bd G D' N') (f : mF S T J J') (hS : ∀ a, S a → Jvm.Pilot.CLossyPairLaw_law_r7304_a3b019.scr a) (hT : ∀ k, T k → scT k) (h30 : J' 491 30 = 0) : PM J' L G D N ∧ MG J L J' L ∧ J' 491 0 = J 491 0 := by
  refine ⟨⟨fun t ht => ((h.1 t ht).scr ht (hI.ai ht).dg (hI.ai ht).ll f hS hT h30).1, ⟨?_, ?_⟩, ?_⟩, fun a ha => ?_, ?_⟩
  · rw [f.2 9 (fun q => by have := hT 9 q; unfold scT at this; omega)]; exact h.2.1.1
  · rw [sg_row (f.1 494 (fun q => by have := hS 494 q; unfold Jvm.Pilot.CLossyPairLaw_law_r7304_a3b019.scr at this; omega) (by decide))]; exact h.2.1.2
  · rw [f.2 3 (fun q => by have := hT 3 q; unfold scT at this; omega)]; exact h.2.2
  · exact ((h.1 0 (Or.inl rfl)).scr (Or.inl rfl) (hI.ai (Or.inl rfl)).dg (hI.ai (Or.inl rfl)).ll f hS hT h30).2.2.2.2.2.2.2 a (by omega)
  · exact f.2 0 (fun q => by have := hT 0 q; unfold scT at this; omega)
theorem take_succ {D : List Int} {x : Nat} (h : x < D.length) : D.take (x + 1) = D.take x ++ [D.getD x 0] := by
  rw [List.getD_eq_getElem?_getD, List.getElem?_eq_getElem h, List.take_succ, List.getElem?_eq_getElem h]
  rfl
theorem ut_self (A : SA) : ut (aT A) A = A := rfl
theorem snd_full {s ep ty : Int} {c : List Int} {A : SA} (h : 65535 < (aT A).2.2.1 ep) (hd : (aT A).2.2.2.1 = []) : sndE s ep ty c A = A := by
  unfold sndE putS flushS
  rw [if_pos h, if_pos hd]
  rfl
theorem ug_self (s : Int) (G : GA) : ug s (G s) G = G := by
  funext t
  unfold ug
  by_cases q : t = s
  · rw [if_pos q, q]
  · rw [if_neg q]
theorem x_open {bd N s : Int} {G : GA} {D : List Int} {J : zM} {L : yM} {Q : zM → yM → Prop} {X : String → zM → yM → Prop} (hs : s01 s) (h : PX J L G D N) (hI : PI bd G D N) (h1 : aZ (G s) 0 = 2 → Q J L) (h0 : aZ (G s) 0 ≠ 2 → X ISE J L) : w_X11_checkOpen s J L Q X := by
  have b0 := (hI.ai hs).b0
  unfold w_X11_checkOpen
  rw [show J (sd s) 12 = aZ (G s) 0 from (h.1 s hs).1.2.1]
  refine ⟨s01b hs, ⟨by omega, by omega⟩, ?_⟩
  by_cases c : aZ (G s) 0 = 2
  · rw [if_pos c]; exact h1 c
  · rw [if_neg c]; exact h0 c
theorem call_write {bd s : Int} {J : zM} {L : yM} (h : PB bd J L) (rs : R32 s) : w_X11_write s J L (QA bd (w_X12_write s)) (XA bd [(IOB, 1), (ISE, 2), (IAE, 3)] (w_X12_write s)) := by
  obtain ⟨G, D, N, hx, hm, hI⟩ := h
  have dl := hI.2.1
  have ob := hI.2.2.1
  unfold w_X11_write
  refine x_side rs (fun hs => ?_) (fun ns => ⟨1, List.mem_cons_self, ?_⟩)
  · have ai := hI.ai hs
    have b0 := ai.b0
    have s2 := s01b hs
    refine x_open hs hx hI (fun c => ?_) (fun c => ?_)
    rotate_left
    · refine ⟨2, List.mem_cons_of_mem _ List.mem_cons_self, ?_⟩
      unfold w_X12_write
      refine m_side rs (fun _ K7 hK7 => if01.mpr ?_) (fun n => absurd hs n)
      rw [show J 534 s = aZ (G s) 0 from (hm.1 s hs).1.1]
      refine ⟨s2, ⟨by omega, by omega⟩, ?_⟩
      rw [if_neg c]
      exact m_thrK hK7 hm (by decide) (fun J8 P M z => ⟨z, trivial, PB.q hx hI P M⟩)
    rw [hx.2.1.1]
    have bad : ¬ (1 ≤ D.length ∧ D.length ≤ 60) → XA bd [(IOB, 1), (ISE, 2), (IAE, 3)] (w_X12_write s) IAE J L := fun q => by
      refine ⟨3, List.mem_cons_of_mem _ (List.mem_cons_of_mem _ List.mem_cons_self), ?_⟩
      unfold w_X12_write
      refine m_side rs (fun _ K7 hK7 => if01.mpr ?_) (fun n => absurd hs n)
      rw [show J 534 s = aZ (G s) 0 from (hm.1 s hs).1.1]
      refine ⟨s2, ⟨by omega, by omega⟩, ?_⟩
      rw [if_pos c]
      intro K39 hK39
      have go : K39 J L := hK39 J L (m_thrK hK7 hm (by decide) (fun J8 P M z => ⟨z, trivial, PB.q hx hI P M⟩))
      rw [hm.2.1.1]
      refine ⟨⟨by omega, by omega⟩, ?_⟩
      by_cases c1 : (D.length : Int) < 1
      · rw [if_pos c1]; exact go
      · rw [if_neg c1, if_pos (by omega)]; exact go
    refine ⟨⟨by omega, by omega⟩, ?_⟩
    by_cases c1 : (D.length : Int) < 1
    · rw [if_pos c1]; exact bad (by omega)
    rw [if_neg c1]
    by_cases c2 : 60 < (D.length : Int)
    · rw [if_pos c2]; exact bad (by omega)
    rw [if_neg c2]
    clear bad
    have t3 := ai.2.2.2.2.2.2.2.1.2.1 3 (Or.inr (Or.inr rfl))
    have z13 : aZ (G s) 13 = 3 := ai.b28 (Or.inl c)
    have ai2 : AI bd s (sndE s 3 23 D (G s)) := ai.snd (Or.inr (Or.inr rfl)) (by decide) ob (by omega)
    -- the model, from a memory where the class has done it
    have pre : ∀ (J1 : zM) (L1 : yM) (Q1 : Int → zM → yM → Prop), PM J1 L1 G D N → (∀ J8, PM J8 L1 G D N → MG J1 L1 J8 L1 → J8 491 0 = 0 → ((0 : Int) ≤ ((4 * s) + 3) ∧ ((4 * s) + 3) < 8) ∧ R32 (J8 514 ((4 * s) + 3)) ∧ (if 65535 < (J8 514 ((4 * s) + 3)) then Q1 (-1) J8 L1 else ∀ J14 : zM, J14 = zs J8 491 33 0 → zl_z (fun K15 x16 J17 L18 => R32 x16 ∧ R32 (J17 491 9) ∧ (if x16 < (J17 491 9) then ((0 : Int) ≤ x16 ∧ x16 < 500) ∧ w_X12_inner (J17 494 x16) J17 L18 (fun J30 L31 => K15 (x16 + 1) J30 L31) else ∀ J22 : zM, J22 = zs J17 491 9 0 → ∀ J23 : zM, J23 = zs J22 491 30 0 → w_X12_record s 3 23 J23 L18 (fun r26 J24 L25 => w_X12_sendMade s J24 L25 (fun J27 L28 => Q1 r26 J27 L28)))) 0 J14 L1)) → w_X12_write s J1 L1 Q1 := fun J1 L1 Q1 m1 hgo => by
      unfold w_X12_write
      refine m_side rs (fun _ K7 hK7 => if01.mpr ?_) (fun n => absurd hs n)
      rw [show J1 534 s = aZ (G s) 0 from (m1.1 s hs).1.1]
      refine ⟨s2, ⟨by omega, by omega⟩, ?_⟩
      rw [if_pos c]
      intro K39 hK39
      rw [m1.2.1.1]
      refine ⟨⟨by omega, by omega⟩, ?_⟩
      rw [if_neg c1, if_neg c2]
      exact m_thr0 hK7 m1 (fun J8 P M z _ _ => hgo J8 P M z)
    refine ⟨s2, ?_⟩
    unfold w_X8_sendData
    refine ⟨⟨by omega, by omega⟩, ?_⟩
    rw [if_neg c1, if_neg c2, ln_5]
    refine ⟨by decide, ?_⟩
    rw [if_neg (by omega)]
    refine ⟨⟨by decide, by decide, by omega, by omega, by omega⟩, fun J7 e7 => ?_⟩
    have f7 : zF (xscS (sd s)) J J7 := fun a ha => by rw [e7]; exact zcp_r J (fun q => ha (by unfold xscS; omega))
    have h7 := (hx.1 s hs).scr (sdE hs) f7
    have c7 : sg J7 (sd s + 170) 0 D.length = D := by rw [e7, sg_zcp (by omega)]; exact hx.2.1.2
    refine xs_snd (content := D) (sdE hs) hs h7.1 ai (Or.inr (Or.inr rfl)) c7 (by omega) (fun J1 u1 u2 => ?_)
    have O1 := h7.2.tr u2
    have X1 := hx.act hs u1 O1.c
    have m1 := hm.xg hI (O1.c.g hs)
    by_cases cf : 65535 < (aT (G s)).2.2.1 3
    · rw [if_pos cf]
      refine ⟨by decide, ?_⟩
      rw [if_pos rfl]
      rw [snd_full cf ai.dg, ug_self] at X1
      unfold QA
      intro L eL
      have X1 := X1.o eL
      have m1 := m1.o hI eL
      refine pre J1 L _ m1 (fun J8 P M z => ?_)
      rw [show J8 514 (4 * s + 3) = (aT (G s)).2.2.1 3 from ((P.1 s hs).2.2.2.2.2.2.2.2.2.1.2.2.1 3 (Or.inr (Or.inr rfl))).1]
      refine ⟨⟨by omega, by omega⟩, ⟨by omega, by omega⟩, ?_⟩
      rw [if_pos cf]
      exact ⟨z, ⟨rfl, (M 552 (Or.inr rfl)).2⟩, PB.q X1 hI P M⟩
    · rw [if_neg cf]
      refine ⟨⟨by omega, by omega⟩, ?_⟩
      rw [if_neg (by omega)]
      intro J2 e2
      obtain ⟨X2, O2⟩ := X1.dr (D' := []) (J' := J2) (fun a p _ => by rw [e2]; exact zs_r _ p) (by rw [e2]; exact zs_s _ _ _ _) rfl (by rw [e2]; exact zs_n _ (Or.inr (by decide)))
      have m2 := hm.xg hI ((O1.c.g hs).tr O2)
      unfold QA
      intro L eL
      have X2 := X2.o eL
      have m2 := m2.o hI eL
      refine pre J2 L _ m2 (fun J8 P M z => ?_)
      have t8 := (P.1 s hs).2.2.2.2.2.2.2.2.2.1.2.2.1 3 (Or.inr (Or.inr rfl))
      rw [show J8 514 (4 * s + 3) = (aT (G s)).2.2.1 3 from t8.1]
      refine ⟨⟨by omega, by omega⟩, ⟨by omega, by omega⟩, ?_⟩
      rw [if_neg cf]
      intro J9 e9
      have f9 : mF c515 t33 J8 J9 := by rw [e9]; exact mF_zs1 rfl
      have i9 : mIn J9 [] := ⟨by rw [e9]; exact zs_s _ _ _ _, rfl, by decide⟩
      refine zl_z.by (fun m x J' L' => (m : Int) = (D.length : Int) - x ∧ 0 ≤ x ∧ L' = L ∧ mIn J' (D.take x.toNat) ∧ mF c515 t33 J8 J') ?_ D.length 0 J9 L ⟨by omega, by omega, rfl, i9, f9⟩
      rintro m x J10 L10 K ⟨hm', hx', rfl, i10, f10⟩ hK
      have d9 : J10 491 9 = (D.length : Int) := by rw [f10.2 9 (by decide)]; exact P.2.1.1
      rw [d9]
      refine ⟨⟨by omega, by omega⟩, ⟨by omega, by omega⟩, ?_⟩
      by_cases cx : x < (D.length : Int)
      · rw [if_pos cx]
        have v : J10 494 x = D.getD x.toNat 0 := by
          rw [f10.1 494 (by decide) (by decide)]
          have q := sg_get (J := J8) (a := 494) (i := 0) (c := D.length) (j := x.toNat) (by omega)
          rw [P.2.1.2, show (0 : Int) + ((x.toNat : Nat) : Int) = x by omega] at q
          exact q.symm
        have vb := oct1 ob x.toNat
        rw [v]
        refine ⟨⟨by omega, by omega⟩, s_inner i10 (by rw [List.length_take]; omega) (fun J11 i11 f11 => hK (m - 1) (x + 1) J11 L10 (by omega) ⟨by omega, by omega, rfl, ?_, f10.tr f11⟩)⟩
        rw [show (x + 1).toNat = x.toNat + 1 by omega, take_succ (by omega)]
        rw [show D.getD x.toNat 0 % 256 = D.getD x.toNat 0 by omega] at i11
        exact i11
      · rw [if_neg cx]
        have ex : x.toNat = D.length := by omega
        rw [ex, List.take_length] at i10
        have h30 : J8 491 30 = 0 := m30 ai.dg (P.1 s hs)
        obtain ⟨P10, M10, z10⟩ := P.scr hI f10 (fun a q => by unfold c515 at q; unfold Jvm.Pilot.CLossyPairLaw_law_r7304_a3b019.scr; omega) (fun k q => by unfold t33 at q; unfold scT; omega) (by rw [f10.2 30 (by decide)]; exact h30)
        intro J12 e12 J13 e13
        have P12 : PM J12 L10 G [] N := ⟨fun t ht => by rw [e12]; exact MS_slot4 (P10.1 t ht) ht (Or.inr (Or.inr (Or.inl rfl))), ⟨by rw [e12]; exact zs_s _ _ _ _, rfl⟩, by rw [e12, zs_n _ (Or.inr (by decide))]; exact P10.2.2⟩
        have M12 : MG J10 L10 J12 L10 := fun a ha => ⟨by rw [e12]; exact zs_r _ (by omega), rfl⟩
        have f13 : mF (fun _ => False) (fun k => k = 30) J12 J13 := by rw [e13]; exact mF_zs1 rfl
        obtain ⟨P13, M13, z13'⟩ := P12.scr hI f13 (fun a q => q.elim) (fun k q => by have q : k = 30 := q; unfold scT; omega) (by rw [e13]; exact zs_s _ _ _ _)
        have i13 : mIn J13 D := by
          obtain ⟨p1, p2, p3⟩ := i10
          exact ⟨by rw [f13.2 33 (by decide), e12, zs_n _ (Or.inr (by decide))]; exact p1, by rw [sg_row (f13.1 515 (fun q => q) (by decide)), e12, sg_row (zs_r _ (by decide))]; exact p2, p3⟩
        have I13 : PI bd G [] N := ⟨hI.1, by decide, oct_nil, hI.2.2.2⟩
        refine ms_snd (content := D) hs (P13.1 s hs) ai (Or.inr (Or.inr rfl)) (by omega) (by decide) i13 ob (by omega) (fun J14 w1 w2 => ?_)
        rw [if_neg cf]
        obtain ⟨P14, M14, z14⟩ := P13.act hs I13 w1 w2
        refine ⟨?_, ⟨rfl, (M14 552 (Or.inr rfl)).2.trans ((M13 552 (Or.inr rfl)).2.trans ((M12 552 (Or.inr rfl)).2.trans ((M10 552 (Or.inr rfl)).2.trans (M 552 (Or.inr rfl)).2)))⟩, _, [], N, ((((X2.mg M).mg M10).mg M12).mg M13).mg M14, P14, PI_z I13 hs ai2 (nq_same rfl rfl rfl rfl) (nx_same (hI.1 s hs).2.2.1 rfl rfl rfl)⟩
        rw [z14, z13', e12, zs_n _ (Or.inr (by decide)), z10]
        exact z
  · unfold w_X12_write
    exact m_side rs (fun q => absurd q ns) (fun _ K7 hK7 => if11.mpr (m_thrK hK7 hm (by decide) (fun J8 P M z => ⟨z, trivial, PB.q hx hI P M⟩)))
