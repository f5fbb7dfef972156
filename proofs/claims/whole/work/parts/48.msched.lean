/-! SECRETS in the model -/
def lab (n : Int) (x : Int64) (s : Nat) : Prop := ll n.toNat x.toInt = lbl s ∧ ((lbl s).length : Int) = n
theorem lab_binder : lab 6 125779802220898 1000009 := by unfold lab; decide +kernel
theorem lab_derived : lab 7 28259056920716644 1000014 := by unfold lab; decide +kernel
theorem lab_chs : lab 3 7563363 1000015 := by unfold lab; decide +kernel
theorem lab_shs : lab 3 7563379 1000016 := by unfold lab; decide +kernel
theorem lab_key : lab 3 7955819 1000017 := by unfold lab; decide +kernel
theorem lab_sn : lab 2 28275 1000018 := by unfold lab; decide +kernel
theorem lab_finished : lab 8 7234303221339941222 1000019 := by unfold lab; decide +kernel
theorem lab_cap : lab 3 7364963 1000020 := by unfold lab; decide +kernel
theorem lab_sap : lab 3 7364979 1000021 := by unfold lab; decide +kernel
theorem s_exN {n : Int} {x : Int64} {s : Nat} {k : List Int} {J : zM} {L : yM} {Q : zM → yM → Prop} (hl : lab n x s) (hn : 0 ≤ n ∧ n ≤ 8) (hk : mKy J k) (ho : oct k) (hK : mK (zi J)) (hQ : ∀ J', sg J' 500 0 32 = exN k s → mF cCode t13 J J' → Q J' L) : w_X12_expandNone n x J L Q := by
  refine s_expandNone hn hk ho hK (fun J' h f => hQ J' ?_ f)
  rw [h, hl.1]
  unfold exN
  rw [hl.2]
theorem s_exD {n : Int} {x : Int64} {s : Nat} {k : List Int} {J : zM} {L : yM} {Q : zM → yM → Prop} (hl : lab n x s) (hn : 0 ≤ n ∧ n ≤ 8) (hk : mKy J k) (ho : oct k) (hK : mK (zi J)) (hd : oct (sg J 500 0 32)) (hQ : ∀ J', sg J' 500 0 32 = exD k s (sg J 500 0 32) → mF cExD t13 J J' → Q J' L) : w_X12_expandDigest n x J L Q := by
  refine s_expandDigestM hn hk ho hK hd (fun J' h f => hQ J' ?_ f)
  rw [h, hl.1]
  unfold exD
  rw [hl.2]
/-- a MESSAGE stands in own at a place -/
def mMs (J : zM) (at_ : Int) (m : List Int) : Prop := sg J 492 at_ m.length = m ∧ oct m ∧ 3 ≤ m.length ∧ 3 + 256 * m.getD 1 0 + m.getD 2 0 = (m.length : Int) ∧ m.length ≤ 160
theorem mMs.fr {J J' : zM} {at_ : Int} {m : List Int} (h : mMs J at_ m) (hf : ∀ k, at_ ≤ k → k < at_ + 160 → J' 492 k = J 492 k) : mMs J' at_ m := by
  refine ⟨?_, h.2⟩
  rw [sg_fr (J := J) (fun k k0 k1 => hf k k0 (by have := h.2.2.2.2; omega))]
  exact h.1
theorem mMs.get {J : zM} {at_ : Int} {m : List Int} (h : mMs J at_ m) (j : Nat) (hj : j < m.length) : J 492 (at_ + (j : Int)) = m.getD j 0 := by
  rw [← sg_get (J := J) (a := 492) (i := at_) hj, h.1]
theorem s_maddMessage {at_ fr : Int} {m q : List Int} {J : zM} {L : yM} {Q : zM → yM → Prop} (hm : mMs J at_ m) (h0 : 0 ≤ at_) (h1 : at_ + 160 ≤ 2048) (h : mT fr J q) (hq : fr + (q.length : Int) + 160 ≤ 1300) (hQ : ∀ J', mT fr J' (q ++ m) → mF c497 t13 J J' → Q J' L) : w_X12_addMessage at_ J L Q := by
  obtain ⟨m1, m2, m3, m4, m5⟩ := hm
  have g1 := mMs.get ⟨m1, m2, m3, m4, m5⟩ 1 (by omega)
  have g2 := mMs.get ⟨m1, m2, m3, m4, m5⟩ 2 (by omega)
  unfold w_X12_addMessage
  refine ⟨⟨by omega, by omega⟩, ⟨by omega, by omega⟩, ?_⟩
  rw [show at_ + 1 = at_ + ((1 : Nat) : Int) from rfl, show at_ + 2 = at_ + ((2 : Nat) : Int) from rfl, g1, g2, m4]
  refine s_addOwn h h0 (by omega) (by omega) (by omega) ?_ (fun J' h' f' => hQ J' ?_ f')
  · rw [Int.toNat_natCast, m1]; exact m2
  · rw [Int.toNat_natCast, m1] at h'; exact h'
/-- the transcript of the first MESSAGES -/
def mTr (s : Int) (many : Int) (J : zM) (T : List Int) : Prop := ∃ m1 m2 m3 m4, mMs J (1024 * s + 512) m1 ∧ (1 < many → mMs J (1024 * s + 600) m2) ∧ (2 < many → mMs J (1024 * s + 630) m3) ∧ (3 < many → mMs J (1024 * s + 790) m4) ∧ T = m1 ++ (if 1 < many then m2 else []) ++ (if 2 < many then m3 else []) ++ (if 3 < many then m4 else [])
theorem s_transcript {s many : Int} {T : List Int} {J : zM} {L : yM} {Q : zM → yM → Prop} (hs : s01 s) (hmn : 0 ≤ many ∧ many ≤ 4) (hT : mTr s many J T) (hK : mK (zi J)) (hQ : ∀ J', sg J' 500 0 32 = hsI T → mF cCode t13 J J' → Q J' L) : w_X12_transcript s many J L Q := by
  obtain ⟨m1, m2, m3, m4, h1, h2, h3, h4, rfl⟩ := hT
  unfold w_X12_transcript
  intro J0 e0 x ex
  subst ex
  have f0 : mF c497 t13 J J0 := by rw [e0]; exact mF_zs1 (T := t13) rfl
  have t0 : mT 0 J0 [] := by rw [e0]; exact ⟨by rw [zs_s]; rfl, rfl, by decide, by decide⟩
  have own : ∀ {J' : zM}, mF c497 t13 J J' → J' 492 = J 492 := fun f => f.1 492 (by decide) (by decide)
  have mv : ∀ {J' : zM} {at_ : Int} {m : List Int}, mF c497 t13 J J' → mMs J at_ m → mMs J' at_ m := fun f h => h.fr (fun k _ _ => by rw [own f])
  have l1 := h1.2.2.2.2
  refine s_maddMessage (mv f0 h1) (by omega) (by omega) t0 (by simp) (fun J1 t1 f1 => ?_)
  rw [List.nil_append] at t1
  have g1 := f0.tr f1
  intro K1 hK1
  have fin : ∀ (J' : zM) (q : List Int), mT 0 J' q → mF c497 t13 J J' → q = m1 ++ (if 1 < many then m2 else []) ++ (if 2 < many then m3 else []) ++ (if 3 < many then m4 else []) → w_X12_hashFrom 0 J' L (fun J14 L15 => Q J14 L15) := by
    intro J' q t g e
    obtain ⟨a1, a2, a3, a4⟩ := t
    refine ⟨by omega, mK_fr hK (g.1 495 (by decide) (by decide)) (g.1 496 (by decide) (by decide)), fun J'' f h => hQ J'' ?_ ?_⟩
    · rw [h, a1, show (0 + (q.length : Int) - 0).toNat = q.length by omega, a2, e]
    · refine ⟨fun a ha ha2 => ?_, fun k hk => ?_⟩
      · unfold cCode at ha
        rw [← g.1 a (by unfold c497; omega) ha2]
        funext i
        exact f a i (by omega)
      · rw [← g.2 k hk]
        exact f 491 k (by omega)
  have step3 : ∀ (J' : zM) (q : List Int), mT 0 J' q → q.length ≤ 480 → mF c497 t13 J J' → q = m1 ++ (if 1 < many then m2 else []) ++ (if 2 < many then m3 else []) → ∀ K13 : zM → yM → Prop, (∀ (J11 : zM) (L12 : yM), (w_X12_hashFrom 0 J11 L12 (fun J14 L15 => Q J14 L15)) → K13 J11 L12) → R32 many ∧ (if 3 < many then w_X12_addMessage (1024 * s + 790) J' L (fun J18 L19 => K13 J18 L19) else K13 J' L) := by
    intro J' q t hq g e K13 hK13
    refine ⟨⟨by omega, by omega⟩, ?_⟩
    by_cases c : 3 < many
    · rw [if_pos c]
      refine s_maddMessage (mv g (h4 c)) (by omega) (by omega) t (by omega) (fun J2 t2 f2 => hK13 J2 L (fin J2 _ t2 (g.tr f2) ?_))
      rw [if_pos c, e]
    · rw [if_neg c]
      refine hK13 J' L (fin J' q t g ?_)
      rw [if_neg c, e, List.append_nil]
  have step2 : ∀ (J' : zM) (q : List Int), mT 0 J' q → q.length ≤ 320 → mF c497 t13 J J' → q = m1 ++ (if 1 < many then m2 else []) → ∀ K10 : zM → yM → Prop, (∀ (J8 : zM) (L9 : yM), (∀ K13 : zM → yM → Prop, (∀ (J11 : zM) (L12 : yM), (w_X12_hashFrom 0 J11 L12 (fun J14 L15 => Q J14 L15)) → K13 J11 L12) → R32 many ∧ (if 3 < many then w_X12_addMessage (1024 * s + 790) J8 L9 (fun J18 L19 => K13 J18 L19) else K13 J8 L9)) → K10 J8 L9) → R32 many ∧ (if 2 < many then w_X12_addMessage (1024 * s + 630) J' L (fun J22 L23 => K10 J22 L23) else K10 J' L) := by
    intro J' q t hq g e K10 hK10
    refine ⟨⟨by omega, by omega⟩, ?_⟩
    by_cases c : 2 < many
    · rw [if_pos c]
      have l3 := (h3 c).2.2.2.2
      refine s_maddMessage (mv g (h3 c)) (by omega) (by omega) t (by omega) (fun J2 t2 f2 => hK10 J2 L (step3 J2 _ t2 (by rw [List.length_append]; omega) (g.tr f2) ?_))
      rw [if_pos c, e]
    · rw [if_neg c]
      refine hK10 J' L (step3 J' q t (by omega) g ?_)
      rw [if_neg c, e, List.append_nil]
  refine ⟨⟨by omega, by omega⟩, ?_⟩
  by_cases c : 1 < many
  · rw [if_pos c]
    have l2 := (h2 c).2.2.2.2
    refine s_maddMessage (mv g1 (h2 c)) (by omega) (by omega) t1 (by omega) (fun J2 t2 f2 => hK1 J2 L (step2 J2 _ t2 (by rw [List.length_append]; omega) (g1.tr f2) ?_))
    rw [if_pos c]
  · rw [if_neg c]
    refine hK1 J1 L (step2 J1 m1 t1 (by omega) g1 ?_)
    rw [if_neg c, List.append_nil]
