/-- a loop that adds zeros -/
theorem addZeros {N fr : Int} {q : List Int} {Rest : zM → yM → Prop} {J : zM} {L : yM} (hN : 0 ≤ N ∧ N ≤ 64) (h : mT fr J q) (hq : fr + (q.length : Int) + N ≤ 1300) (hQ : ∀ J', mT fr J' (q ++ List.replicate N.toNat 0) → mF c497 t13 J J' → Rest J' L) :
    zl_z (fun K x J' L' => R32 x ∧ (if x < N then w_X12_add 0 J' L' (fun J'' L'' => K (x + 1) J'' L'') else Rest J' L')) 0 J L := by
  refine zl_z.by (fun m x J' L' => (m : Int) = N - x ∧ 0 ≤ x ∧ L' = L ∧ mT fr J' (q ++ List.replicate x.toNat 0) ∧ mF c497 t13 J J') ?_ N.toNat 0 J L ⟨by omega, by omega, rfl, by simpa using h, mF.rf⟩
  rintro m x J1 L1 K ⟨hm, hx, rfl, h1, f1⟩ hK
  refine ⟨⟨by omega, by omega⟩, ?_⟩
  by_cases c : x < N
  · rw [if_pos c]
    refine s_madd h1 (by rw [List.length_append, List.length_replicate]; omega) (fun J2 h2 f2 => ?_)
    refine hK (m - 1) (x + 1) J2 L1 (by omega) ⟨by omega, by omega, rfl, ?_, f1.tr f2⟩
    rw [List.append_assoc] at h2
    rw [show (x + 1).toNat = x.toNat + 1 by omega, List.replicate_succ']
    exact h2
  · rw [if_neg c]
    have : x = N := by omega
    subst this
    exact hQ J1 h1 f1
theorem s_epochTwo {s : Int} {both : Int64} {bn : Nat} {T : List Int} {J : zM} {L : yM} {Q : zM → yM → Prop} (hs : s01 s) (hb : lN' both bn) (hT : mTr s 2 J T) (hK : mK (zi J)) (ho : oct (sg J 492 (1024 * s) 16)) (hE : sg J 492 (1024 * s + 32) 32 = earI (sg J 492 (1024 * s) 16)) (hQ : ∀ J1 J', mTwo s J' (handI (sg J 492 (1024 * s) 16) (bn : Int)) T → mO (fun k => (1024 * s + 64 ≤ k ∧ k < 1024 * s + 192) ∨ (1024 * s + 256 ≤ k ∧ k < 1024 * s + 384)) J J1 → J' = zs J1 506 s 1 → Q J' L) : w_X12_epochTwo s both J L Q := by
  have hs2 : 0 ≤ s ∧ s < 2 := by omega
  obtain ⟨U, hU⟩ : ∃ U : Int → Prop, U = fun k => (1024 * s + 64 ≤ k ∧ k < 1024 * s + 192) ∨ (1024 * s + 256 ≤ k ∧ k < 1024 * s + 384) := ⟨_, rfl⟩
  rw [← hU] at hQ
  have u1 : ∀ k, 1024 * s + 64 ≤ k → k < 1024 * s + 192 → U k := fun k a b => by rw [hU]; exact Or.inl ⟨a, b⟩
  have u2 : ∀ k, 1024 * s + 256 ≤ k → k < 1024 * s + 384 → U k := fun k a b => by rw [hU]; exact Or.inr ⟨a, b⟩
  have u3 : ∀ k, k < 1024 * s + 64 ∨ 1024 * s + 384 ≤ k → ¬ U k := fun k a => by rw [hU]; simp only; omega
  have oc : ∀ {J J' : zM}, mF cCode t13 J J' → mO U J J' := fun f => mO.ofF f (fun a q => by unfold cCode at q; unfold cH; omega) (fun k q => q)
  have oT : ∀ {J J' : zM}, mF c497 t13 J J' → mO U J J' := fun f => mO.ofF f (fun a q => by unfold c497 at q; unfold cH; omega) (fun k q => q)
  have oK : ∀ {J J' : zM}, mF (fun a => a = 501) (fun _ => False) J J' → mO U J J' := fun f => mO.ofF f (fun a q => by unfold cH; omega) (fun k q => q.elim)
  have oB : ∀ {J J' : zM}, mF (fun _ => False) t13 J J' → mO U J J' := fun f => mO.ofF f (fun a q => q.elim) (fun k q => q)
  obtain ⟨hand, hh⟩ : ∃ hand, hand = handI (sg J 492 (1024 * s) 16) (bn : Int) := ⟨_, rfl⟩
  rw [← hh] at hQ
  have ohand : oct hand := by rw [hh]; exact mcI_oct _ _
  unfold w_X12_epochTwo
  intro b eb
  subst eb
  refine s_keyOwn (by omega) (by decide) (by omega) (fun J1 k1 f1 => ?_)
  rw [show sg J 492 (1024 * s + 32) (32 : Int).toNat = earI (sg J 492 (1024 * s) 16) from hE] at k1
  have a1 := oK f1
  refine s_exN lab_derived (by decide) k1 (mcI_oct _ _) (a1.K hK) (fun J2 h2 f2 => ?_)
  have a2 := a1.tr (oc f2)
  refine s_keyDigest (fun J3 k3 f3 => ?_)
  rw [h2] at k3
  have a3 := a2.tr (oK f3)
  refine s_mbegin (fun J4 h4 f4 => ?_)
  have a4 := a3.tr (oB f4)
  refine s_addNumber (by decide) h4 (by simp) (fun J5 h5 f5 => ?_)
  rw [List.nil_append, hb] at h5
  have a5 := a4.tr (oT f5)
  have k5 := (k3.fr (f4.1 501 (fun q => q) (by decide))).fr (f5.1 501 (by decide) (by decide))
  refine s_code h5 k5 (mcI_oct _ _) (a5.K hK) (fun J6 h6 f6 => ?_)
  have h6' : sg J6 500 0 32 = hand := by rw [h6, hh]; rfl
  have a6 := a5.tr (oc f6)
  refine s_store (by omega) (by decide) (by omega) ?_
  obtain ⟨J7, e7⟩ : ∃ J7, J7 = zcp J6 500 0 492 (1024 * s + 64) 32 := ⟨_, rfl⟩
  rw [← e7]
  have s7 : sg J7 492 (1024 * s + 64) 32 = hand := by rw [e7, ← h6']; exact sg_zcp (by decide)
  have a7 : mO U J J7 := by rw [e7]; exact a6.tr (mO.store (fun k k0 k1 => u1 k k0 (by omega)))
  refine s_keyOwn (by omega) (by decide) (by omega) (fun J8 k8 f8 => ?_)
  rw [show sg J7 492 (1024 * s + 64) (32 : Int).toNat = hand from s7] at k8
  have a8 := a7.tr (oK f8)
  refine s_exN lab_derived (by decide) k8 ohand (a8.K hK) (fun J9 h9 f9 => ?_)
  have a9 := a8.tr (oc f9)
  refine s_keyDigest (fun J10 k10 f10 => ?_)
  rw [h9] at k10
  have a10 := a9.tr (oK f10)
  refine s_mbegin (fun J11 h11 f11 => ?_)
  have a11 := a10.tr (oB f11)
  refine addZeros (by decide) h11 (by simp) (fun J12 h12 f12 => ?_)
  have a12 := a11.tr (oT f12)
  have k12 := (k10.fr (f11.1 501 (fun q => q) (by decide))).fr (f12.1 501 (by decide) (by decide))
  refine s_code h12 k12 (mcI_oct _ _) (a12.K hK) (fun J13 h13 f13 => ?_)
  have h13' : sg J13 500 0 32 = mainI hand := by rw [h13]; rfl
  have a13 := a12.tr (oc f13)
  refine s_store (by omega) (by decide) (by omega) ?_
  obtain ⟨J14, e14⟩ : ∃ J14, J14 = zcp J13 500 0 492 (1024 * s + 96) 32 := ⟨_, rfl⟩
  rw [← e14]
  have o13 : J13 492 = J7 492 := by rw [f13.1 492 (by decide) (by decide), f12.1 492 (by decide) (by decide), f11.1 492 (fun q => q) (by decide), f10.1 492 (by decide) (by decide), f9.1 492 (by decide) (by decide), f8.1 492 (by decide) (by decide)]
  have s14m : sg J14 492 (1024 * s + 96) 32 = mainI hand := by rw [e14, ← h13']; exact sg_zcp (by decide)
  have s14h : sg J14 492 (1024 * s + 64) 32 = hand := by rw [e14, sg_fr (fun k k0 k1 => zcp_out J13 (by omega)), sg_row o13, s7]
  have a14 : mO U J J14 := by rw [e14]; exact a13.tr (mO.store (fun k k0 k1 => u1 k (by omega) (by omega)))
  refine s_makeSecret hs (by decide) (Or.inl rfl) (by decide) lab_chs (hT.fr (fun k k0 k1 => a14.2 k (u3 k (by omega)))) (a14.K hK) (by rw [s14h]; exact ohand) (fun J15 p1 p2 p3 a15 => ?_)
  rw [s14h] at p1 p2 p3
  have a15' : mO U J J15 := a14.tr (mO.mono a15 (fun k q => Or.elim q (fun q => u1 k (by omega) (by omega)) (fun q => u2 k (by omega) (by omega))))
  have s15h : sg J15 492 (1024 * s + 64) 32 = hand := by rw [a15.sg (fun k k0 k1 => by omega), s14h]
  refine s_makeSecret hs (by decide) (Or.inl rfl) (by decide) lab_shs (hT.fr (fun k k0 k1 => a15'.2 k (u3 k (by omega)))) (a15'.K hK) (by rw [s15h]; exact ohand) (fun J16 q1 q2 q3 a16 => ⟨hs2, fun J17 e17 => ?_⟩)
  rw [s15h] at q1 q2 q3
  have a16' : mO U J J16 := a15'.tr (mO.mono a16 (fun k q => Or.elim q (fun q => u1 k (by omega) (by omega)) (fun q => u2 k (by omega) (by omega))))
  have r17 : J17 492 = J16 492 := by rw [e17]; exact zs_r J16 (by decide)
  refine hQ J16 J17 ⟨?_, ?_, ?_, ?_, ?_, ?_, ?_, ?_⟩ a16' e17
  · rw [sg_row r17, a16.sg (fun k k0 k1 => by omega), s15h]
  · rw [sg_row r17, a16.sg (fun k k0 k1 => by omega), a15.sg (fun k k0 k1 => by omega), s14m]
  · rw [sg_row r17, show 1024 * s + 128 = 1024 * s + 128 + 32 * 0 by omega, a16.sg (fun k k0 k1 => by omega)]; exact p1
  · rw [sg_row r17, show 1024 * s + 160 = 1024 * s + 128 + 32 * 1 by omega]; exact q1
  · rw [sg_row r17, show 1024 * s + 256 = 1024 * s + 256 + 64 * 0 by omega, a16.sg (fun k k0 k1 => by omega)]; exact p2
  · rw [sg_row r17, show 1024 * s + 320 = 1024 * s + 256 + 64 * 1 by omega]; exact q2
  · rw [sg_row r17, show 1024 * s + 288 = 1024 * s + 256 + 64 * 0 + 32 by omega, a16.sg (fun k k0 k1 => by omega)]; exact p3
  · rw [sg_row r17, show 1024 * s + 352 = 1024 * s + 256 + 64 * 1 + 32 by omega]; exact q3
/-- behind finished and binder: own is as it was (but EARLY); cell 508 too is a scratch -/
abbrev cF (a : Nat) : Prop := cH a ∨ a = 508
theorem s_finishedM {s w : Int} {T : List Int} {J : zM} {L : yM} {Q : zM → yM → Prop} (hs : s01 s) (hw : s01 w) (hT : mTr s (if w = 1 then 3 else 4) J T) (hK : mK (zi J)) (ho : oct (sg J 492 (1024 * s + 128 + 32 * w) 32)) (hQ : ∀ J', sg J' 500 0 32 = finI (sg J 492 (1024 * s + 128 + 32 * w) 32) T → mF cF t13 J J' → Q J' L) : w_X12_finished s w J L Q := by
  unfold w_X12_finished
  intro K hKK
  have main : ∀ many : Int, many = (if w = 1 then 3 else 4) → K many J L := by
    intro many hm
    refine hKK many J L ?_
    refine s_transcript hs (by rw [hm]; split <;> decide) (by rw [hm]; exact hT) hK (fun J1 h1 f1 => ?_)
    have c1 : mF cF t13 J J1 := f1.mono (fun a q => by unfold cCode at q; unfold cF cH; omega) (fun _ q => q)
    refine copyLoop (by decide) (by decide) ?_
    obtain ⟨J2, e2⟩ : ∃ J2, J2 = zcp J1 500 0 508 0 32 := ⟨_, rfl⟩
    rw [← e2]
    have c2 : mF cF t13 J J2 := by rw [e2]; exact c1.tr (mF_zcp (S := cF) (b := 508) (Or.inr rfl) (by decide))
    have s2 : sg J2 508 0 32 = hsI T := by rw [e2, ← h1]; exact sg_zcp (by decide)
    have own : ∀ {J' : zM}, mF cF t13 J J' → J' 492 = J 492 := fun f => f.1 492 (by unfold cF cH; omega) (by decide)
    have mk : ∀ {J' : zM}, mF cF t13 J J' → mK (zi J') := fun f => mK_fr hK (f.1 495 (by unfold cF cH; omega) (by decide)) (f.1 496 (by unfold cF cH; omega) (by decide))
    refine s_keyOwn (by omega) (by decide) (by omega) (fun J3 k3 f3 => ?_)
    rw [show sg J2 492 (1024 * s + 128 + 32 * w) (32 : Int).toNat = sg J 492 (1024 * s + 128 + 32 * w) 32 from sg_row (own c2)] at k3
    have c3 := c2.tr (f3.mono (fun a q => by unfold cF cH; omega) (fun _ q => q.elim))
    refine s_exN lab_finished (by decide) k3 ho (mk c3) (fun J4 h4 f4 => ?_)
    have c4 := c3.tr (f4.mono (fun a q => by unfold cCode at q; unfold cF cH; omega) (fun _ q => q))
    refine s_keyDigest (fun J5 k5 f5 => ?_)
    rw [h4] at k5
    have c5 := c4.tr (f5.mono (fun a q => by unfold cF cH; omega) (fun _ q => q.elim))
    refine s_mbegin (fun J6 h6 f6 => ?_)
    have c6 := c5.tr (f6.mono (fun a q => q.elim) (fun _ q => q))
    have s6 : sg J6 508 0 32 = hsI T := by rw [sg_row (f6.1 508 (fun q => q) (by decide)), sg_row (f5.1 508 (by decide) (by decide)), sg_row (f4.1 508 (by decide) (by decide)), sg_row (f3.1 508 (by decide) (by decide)), s2]
    refine addLoop (src := 508) (by decide) (by decide) h6 (by simp) (by show oct (sg J6 508 0 32); rw [s6]; exact hsI_oct _) (fun J7 h7 f7 => ?_)
    rw [List.nil_append, show sg J6 508 0 (32 : Int).toNat = hsI T from s6] at h7
    have c7 := c6.tr (f7.mono (fun a q => by unfold c497 at q; unfold cF cH; omega) (fun _ q => q))
    have k7 := (k5.fr (f6.1 501 (fun q => q) (by decide))).fr (f7.1 501 (by decide) (by decide))
    refine s_code h7 k7 (mcI_oct _ _) (mk c7) (fun J8 h8 f8 => hQ J8 h8 (c7.tr (f8.mono (fun a q => by unfold cCode at q; unfold cF cH; omega) (fun _ q => q))))
  refine ⟨⟨by omega, by omega⟩, ?_⟩
  by_cases c : w = 1
  · rw [if_pos c]; exact main 3 (by rw [if_pos c])
  · rw [if_neg c]; exact main 4 (by rw [if_neg c])
theorem keyLoop {src : Nat} {Rest : zM → yM → Prop} {J : zM} {L : yM} (hsrc : src ≠ 491 ∧ src ≠ 501) (hQ : ∀ J', mKy J' (sg J src 0 32) → mF (fun a => a = 501) (fun _ => False) J J' → Rest J' L) :
    zl_z (fun K x J' L' => R32 x ∧ (if x < 64 then ∀ K10 : Int → zM → yM → Prop, (∀ (x7 : Int) (J8 : zM) (L9 : yM), (((0 : Int) ≤ x ∧ x < 64) ∧ ∀ J12 : zM, J12 = zs J8 501 x x7 → K (x + 1) J12 L9) → K10 x7 J8 L9) → (if x < 32 then ((0 : Int) ≤ x ∧ x < 32) ∧ K10 (J' src x) J' L' else K10 0 J' L') else Rest J' L')) 0 J L := by
  refine zl_z.by (fun m x J' L' => (m : Int) = 64 - x ∧ 0 ≤ x ∧ L' = L ∧ (∀ j : Nat, (j : Int) < x → J' 501 (j : Int) = (sg J src 0 32).getD j 0) ∧ mF (fun a => a = 501) (fun _ => False) J J') ?_ 64 0 J L ⟨by omega, by omega, rfl, fun j hj => absurd hj (by omega), mF.rf⟩
  rintro m x J1 L1 K ⟨hm, hx, rfl, g1, f1⟩ hK
  refine ⟨⟨by omega, by omega⟩, ?_⟩
  have e1 : J1 src = J src := f1.1 src hsrc.2 hsrc.1
  by_cases c : x < 64
  · rw [if_pos c]
    intro K2 hK2
    have go : ∀ v, v = (sg J src 0 32).getD x.toNat 0 → K2 v J1 L1 := fun v hv => hK2 v J1 L1 ⟨⟨hx, c⟩, fun J2 e2 => by
      refine hK (m - 1) (x + 1) J2 L1 (by omega) ⟨by omega, by omega, rfl, fun j hj => ?_, ?_⟩
      · by_cases q : (j : Int) = x
        · rw [q, e2, zs_s, hv]
          congr 1
          omega
        · rw [e2, zs_n J1 (Or.inr q)]
          exact g1 j (by omega)
      · rw [e2]
        exact f1.tr (mF_zs rfl (by omega))⟩
    by_cases c2 : x < 32
    · rw [if_pos c2]
      refine ⟨⟨by omega, by omega⟩, go _ ?_⟩
      rw [sg_get (by omega), e1]
      congr 1
      omega
    · rw [if_neg c2]
      refine go _ ?_
      rw [List.getD_eq_getElem?_getD, List.getElem?_eq_none (by rw [sg_len]; omega)]
      rfl
  · rw [if_neg c]
    exact hQ J1 ⟨by rw [sg_len]; omega, fun j hj => g1 j (by omega)⟩ f1
theorem s_binderM {s : Int} {T : List Int} {J : zM} {L : yM} {Q : zM → yM → Prop} (hs : s01 s) (hT : mMs J (1024 * s + 512) T) (hT2 : 35 ≤ T.length) (hK : mK (zi J)) (ho : oct (sg J 492 (1024 * s) 16)) (hQ : ∀ J', sg J' 500 0 32 = bindI (sg J 492 (1024 * s) 16) T → sg J' 492 (1024 * s + 32) 32 = earI (sg J 492 (1024 * s) 16) → mF (fun a => cF a ∨ a = 492) t13 J J' → (∀ k, ¬ (1024 * s + 32 ≤ k ∧ k < 1024 * s + 64) → J' 492 k = J 492 k) → Q J' L) : w_X12_binder s J L Q := by
  obtain ⟨key, hkey⟩ : ∃ key, key = sg J 492 (1024 * s) 16 := ⟨_, rfl⟩
  rw [← hkey] at hQ
  have up : ∀ {S : Nat → Prop} {U : Int → Prop} {J1 J2 : zM}, mF S U J1 J2 → (∀ a, S a → cF a) → (∀ k, U k → k = 13) → mF cF t13 J1 J2 := fun f h1 h2 => f.mono h1 h2
  unfold w_X12_binder
  refine s_early hs hK ho (fun J1 h1 a1 => ?_)
  rw [← hkey] at h1
  have m1 : mMs J1 (1024 * s + 512) T := hT.fr (fun k k0 k1 => a1.2 k (by omega))
  have K1 := a1.K hK
  refine s_keyOwn (by omega) (by decide) (by omega) (fun J2 k2 f2 => ?_)
  rw [show sg J1 492 (1024 * s + 32) (32 : Int).toNat = earI key from h1] at k2
  have c2 : mF cF t13 J1 J2 := up f2 (fun a q => by unfold cF cH; omega) (fun k q => q.elim)
  have mk : ∀ {J' : zM}, mF cF t13 J1 J' → mK (zi J') := fun f => mK_fr K1 (f.1 495 (by unfold cF cH; omega) (by decide)) (f.1 496 (by unfold cF cH; omega) (by decide))
  have ow : ∀ {J' : zM}, mF cF t13 J1 J' → J' 492 = J1 492 := fun f => f.1 492 (by unfold cF cH; omega) (by decide)
  refine s_exN lab_binder (by decide) k2 (mcI_oct _ _) (mk c2) (fun J3 h3 f3 => ?_)
  have c3 := c2.tr (up f3 (fun a q => by unfold cCode at q; unfold cF cH; omega) (fun k q => q))
  refine copyLoop (by decide) (by decide) ?_
  obtain ⟨J4, e4⟩ : ∃ J4, J4 = zcp J3 500 0 508 0 32 := ⟨_, rfl⟩
  rw [← e4]
  have c4 : mF cF t13 J1 J4 := by rw [e4]; exact c3.tr (mF_zcp (S := cF) (b := 508) (Or.inr rfl) (by decide))
  have s4 : sg J4 508 0 32 = exN (earI key) 1000009 := by rw [e4, ← h3]; exact sg_zcp (by decide)
  intro at_ eat J5 e5
  subst eat
  have c5 : mF cF t13 J1 J5 := by rw [e5]; exact c4.tr (mF_zs1 (T := t13) rfl)
  have t5 : mT 0 J5 [] := by rw [e5]; exact ⟨by rw [zs_s]; rfl, rfl, by decide, by decide⟩
  have m5 : mMs J5 (1024 * s + 512) T := m1.fr (fun k _ _ => by rw [ow c5])
  have hl5 := m5.2.2.2.2
  have g1 := m5.get 1 (by omega)
  have g2 := m5.get 2 (by omega)
  have e4' := m5.2.2.2.1
  refine ⟨⟨by omega, by omega⟩, ⟨by omega, by omega⟩, ?_⟩
  have en : 3 + (256 * J5 492 (1024 * s + 512 + 1) + J5 492 (1024 * s + 512 + 2)) - 32 = (T.length : Int) - 32 := by
    rw [show 1024 * s + 512 + 1 = 1024 * s + 512 + ((1 : Nat) : Int) from rfl, show 1024 * s + 512 + 2 = 1024 * s + 512 + ((2 : Nat) : Int) from rfl, g1, g2]
    omega
  show w_X12_addOwn (1024 * s + 512) (3 + (256 * J5 492 (1024 * s + 512 + 1) + J5 492 (1024 * s + 512 + 2)) - 32) J5 L _
  rw [en]
  have eT : sg J5 492 (1024 * s + 512) ((T.length : Int) - 32).toNat = T.take (T.length - 32) := by
    rw [show ((T.length : Int) - 32).toNat = T.length - 32 by omega, ← sg_take J5 492 (1024 * s + 512) T.length _ (by omega), m5.1]
  refine s_addOwn t5 (by omega) (by omega) (by omega) (by simp; omega) (by rw [eT]; exact fun x hx => m5.2.1 x (List.mem_of_mem_take hx)) (fun J6 t6 f6 => ?_)
  rw [eT, List.nil_append] at t6
  have c6 := c5.tr (up f6 (fun a q => by unfold c497 at q; unfold cF cH; omega) (fun k q => q))
  obtain ⟨b1, b2, b3, b4⟩ := t6
  refine ⟨by omega, mk c6, fun J7 z7 h7 => ?_⟩
  have f7 : mF cCode t13 J6 J7 := ⟨fun a ha _ => funext fun i => z7 a i (by unfold cCode at ha; omega), fun k _ => z7 491 k (by omega)⟩
  rw [b1, show (0 + ((T.take (T.length - 32)).length : Int) - 0).toNat = (T.take (T.length - 32)).length by omega, b2] at h7
  have c7 := c6.tr (up f7 (fun a q => by unfold cCode at q; unfold cF cH; omega) (fun k q => q))
  have s7 : sg J7 508 0 32 = exN (earI key) 1000009 := by
    rw [sg_row (f7.1 508 (by decide) (by decide)), sg_row (f6.1 508 (by decide) (by decide)), e5, sg_row (zs_r J4 (by decide)), s4]
  refine keyLoop (src := 508) (by decide) (fun J8 k8 f8 => ?_)
  rw [s7] at k8
  have c8 := c7.tr (up f8 (fun a q => by unfold cF cH; omega) (fun k q => q.elim))
  refine copyLoop (by decide) (by decide) ?_
  obtain ⟨J9, e9⟩ : ∃ J9, J9 = zcp J8 500 0 508 0 32 := ⟨_, rfl⟩
  rw [← e9]
  have c9 : mF cF t13 J1 J9 := by rw [e9]; exact c8.tr (mF_zcp (S := cF) (b := 508) (Or.inr rfl) (by decide))
  have s9 : sg J9 508 0 32 = hsI (T.take (T.length - 32)) := by
    rw [e9, show sg (zcp J8 500 0 508 0 32) 508 0 32 = sg J8 500 0 32 from sg_zcp (by decide), sg_row (f8.1 500 (by decide) (by decide)), h7]
  have k9 : mKy J9 (exN (earI key) 1000009) := k8.fr (by rw [e9]; exact zcp_r J8 (by decide))
  refine s_mbegin (fun J10 h10 f10 => ?_)
  have c10 := c9.tr (up f10 (fun a q => q.elim) (fun k q => q))
  have s10 : sg J10 508 0 32 = hsI (T.take (T.length - 32)) := by rw [sg_row (f10.1 508 (fun q => q) (by decide)), s9]
  refine addLoop (src := 508) (by decide) (by decide) h10 (by simp) (by show oct (sg J10 508 0 32); rw [s10]; exact hsI_oct _) (fun J11 h11 f11 => ?_)
  rw [List.nil_append, show sg J10 508 0 (32 : Int).toNat = hsI (T.take (T.length - 32)) from s10] at h11
  have c11 := c10.tr (up f11 (fun a q => by unfold c497 at q; unfold cF cH; omega) (fun k q => q))
  have k11 := (k9.fr (f10.1 501 (fun q => q) (by decide))).fr (f11.1 501 (by decide) (by decide))
  refine s_code h11 k11 (mcI_oct _ _) (mk c11) (fun J12 h12 f12 => ?_)
  have c12 := c11.tr (up f12 (fun a q => by unfold cCode at q; unfold cF cH; omega) (fun k q => q))
  refine hQ J12 h12 ?_ ?_ ?_
  · rw [sg_row (ow c12), h1]
  · exact (a1.1.mono (fun a q => by unfold cF; omega) (fun k q => q)).tr (c12.mono (fun a q => Or.inl q) (fun k q => q))
  · intro k hk
    rw [ow c12]
    exact a1.2 k hk
