/-! sending, in the model -/
def mIn (J : zM) (c : List Int) : Prop := J 491 33 = (c.length : Int) ∧ sg J 515 0 c.length = c ∧ c.length ≤ 300
abbrev c515 (a : Nat) : Prop := a = 515
abbrev t33 (k : Int) : Prop := k = 33
theorem s_inner {v : Int} {c : List Int} {J : zM} {L : yM} {Q : zM → yM → Prop} (h : mIn J c) (hc : c.length < 300) (hQ : ∀ J', mIn J' (c ++ [v % 256]) → mF c515 t33 J J' → Q J' L) : w_X12_inner v J L Q := by
  obtain ⟨h1, h2, h3⟩ := h
  unfold w_X12_inner
  refine ⟨⟨by omega, by omega⟩, fun J1 e1 J2 e2 => hQ J2 ?_ ?_⟩
  · have g1 : J1 491 33 = (c.length : Int) := by rw [e1, zs_r J (by omega)]; exact h1
    have g2 : J2 515 = J1 515 := by rw [e2]; exact zs_r J1 (by omega)
    refine ⟨by rw [e2, zs_s, g1, List.length_append, List.length_singleton]; omega, ?_, by rw [List.length_append, List.length_singleton]; omega⟩
    rw [List.length_append, List.length_singleton, sg_succ, sg_row g2, g2, e1, h1, Int.zero_add, zs_s, zand255]
    congr 1
    rw [sg_fr (fun k k0 k1 => zs_n J (Or.inr (by omega)))]
    exact h2
  · rw [e2, e1]
    exact mF.tr (S := c515) (T := t33) (mF_zs (S := c515) (a := 515) rfl (by decide)) (mF_zs1 (T := t33) rfl)
/-- the log, in the model -/
def ML (s : Int) (J : zM) (lg : List (Int × Int × Nat × Int × Int)) : Prop := J 528 s = (lg.length : Int) ∧ ∀ (i : Nat) (q : Int × Int × Nat × Int × Int), lg[i]? = some q → J 529 (10000 * s + 5 * (i : Int)) = q.1 ∧ J 529 (10000 * s + 5 * (i : Int) + 1) = q.2.1 ∧ J 529 (10000 * s + 5 * (i : Int) + 2) = (q.2.2.1 : Int) ∧ J 529 (10000 * s + 5 * (i : Int) + 3) = q.2.2.2.1 ∧ J 529 (10000 * s + 5 * (i : Int) + 4) = q.2.2.2.2
def MSn (s : Int) (J : zM) (t : FS) : Prop := (mN (1 - s) J = t.1 ∧ mI J) ∧ J 512 s = t.2.1 ∧ (∀ ep, ep3 ep → J 514 (4 * s + ep) = t.2.2.1 ep ∧ 0 ≤ t.2.2.1 ep ∧ t.2.2.1 ep ≤ 65536) ∧ (mMd J t.2.2.2.1 ∧ t.2.2.2.1.length ≤ 500) ∧ ML s J t.2.2.2.2
def MKy (s : Int) (J : zM) (kf mf : Int → List Int) : Prop := ∀ ep, ep = 2 ∨ ep = 3 → sg J 492 (kAt s ep) 32 = kf ep ∧ sg J 492 (kAt s ep + 32) 32 = mf ep ∧ oct (sg J 492 (kAt s ep) 64)
/-- what sending in the model may change -/
abbrev cSm (a : Nat) : Prop := cRec a ∨ a = 515 ∨ (509 ≤ a ∧ a ≤ 512) ∨ a = 528 ∨ a = 529
abbrev tSm (k : Int) : Prop := k = 13 ∨ k = 30 ∨ k = 33
theorem MSn.fr {s : Int} {J J' : zM} {t : FS} (h : MSn s J t) (h1 : ∀ a, a = 509 ∨ a = 510 ∨ a = 511 ∨ a = 512 ∨ a = 513 ∨ a = 514 ∨ a = 528 ∨ a = 529 → J' a = J a) (h2 : J' 491 30 = J 491 30) : MSn s J' t := by
  obtain ⟨t1, t2, t3, t4, t5⟩ := h
  refine ⟨⟨by rw [mN_fr (h1 509 (by omega)) (h1 510 (by omega)) (h1 511 (by omega))]; exact t1.1, mI_fr (h1 509 (by omega)) (h1 510 (by omega)) t1.2⟩, by rw [h1 512 (by omega)]; exact t2, fun ep hep => by rw [h1 514 (by omega)]; exact t3 ep hep, ⟨t4.1.fr h2 (h1 513 (by omega)), t4.2⟩, ?_⟩
  unfold ML
  rw [h1 528 (by omega), h1 529 (by omega)]
  exact t5
theorem s_recordFull {s ep type : Int} {J : zM} {L : yM} {Q : Int → zM → yM → Prop} (hs : s01 s) (hep : ep3 ep) (h : 65535 < J 514 (4 * s + ep)) (h2 : J 514 (4 * s + ep) ≤ 65536) (hQ : Q (-1) J L) : w_X12_record s ep type J L Q := by
  unfold w_X12_record
  refine ⟨by omega, fun x ex => ?_⟩
  subst ex
  refine ⟨⟨by omega, by omega⟩, ?_⟩
  rw [if_pos h]
  exact hQ
theorem len5 (a b c d e : Int) (x y : List Int) : ([a, b, c, d, e] ++ x ++ y).length = 5 + x.length + y.length := by
  rw [List.length_append, List.length_append]
  rfl
theorem tag8 (key : List Int) (ep n : Int) (body : List Int) : ((tagI key ep n body).take 8).length = 8 := by
  have h : (tagI key ep n body).length = 32 := mcI_len _ _
  rw [List.length_take, h]
  rfl
theorem recI_len (ep type n : Int) (key mask content : List Int) : (recI ep type n key mask content).length = content.length + (if ep = 0 then 6 else 14) := by
  unfold recI
  by_cases c : ep = 0
  · rw [if_pos c, if_pos c]; simp
  · rw [if_neg c, if_neg c, len5, tag8, sealL_len, List.length_append, List.length_singleton]
    omega
theorem s_recT {s ep type : Int} {content : List Int} {kf mf : Int → List Int} {t : FS} {J : zM} {L : yM} {Q : Int → zM → yM → Prop} (hs : s01 s) (hep : ep3 ep) (hty : 0 ≤ type ∧ type < 256) (ht : MSn s J t) (hk : ep ≠ 0 → MKy s J kf mf) (hc : mIn J content) (ho : oct content) (hcl : content.length ≤ 290) (hroom : t.2.2.2.1.length + content.length + (if ep = 0 then 6 else 14) ≤ 500) (hK : mK (zi J))
    (hQ : ∀ J', MSn s J' (putS kf mf ep type content t) → (∀ k, ¬ (4 * s ≤ k ∧ k < 4 * s + 4) → J' 514 k = J 514 k) → mF cRec tRec J J' → Q (if 65535 < t.2.2.1 ep then -1 else t.2.2.1 ep) J' L) : w_X12_record s ep type J L Q := by
  obtain ⟨t1, t2, t3, t4, t5⟩ := ht
  have h3 := t3 ep hep
  by_cases c : 65535 < t.2.2.1 ep
  · refine s_recordFull hs hep (by rw [h3.1]; exact c) (by rw [h3.1]; exact h3.2.2) ?_
    have := hQ J (by unfold putS; rw [if_pos c]; exact ⟨t1, t2, t3, t4, t5⟩) (fun _ _ => rfl) mF.rf
    rw [if_pos c] at this
    exact this
  · refine s_record hs hep hty h3.1 (by omega) t4.1 hc.1 hc.2.1 ho hcl (by have := t4.2; omega) (fun q => (hk q ep (by omega)).2.2) hK (fun J' g1 g2 f => ?_)
    rw [if_neg c] at hQ
    refine hQ J' ?_ (fun k hk => by rw [g2]; exact zs_n J (Or.inr (by omega))) f
    unfold putS
    rw [if_neg c]
    have hr : recI ep type (t.2.2.1 ep) (sg J 492 (kAt s ep) 32) (sg J 492 (kAt s ep + 32) 32) content = recI ep type (t.2.2.1 ep) (kf ep) (mf ep) content := by
      rcases hep with rfl | h
      · exact recI_0 _ _ _ _ _ _ _
      · have hk2 := hk (by omega) ep h
        rw [hk2.1, hk2.2.1]
    rw [hr] at g1
    have fr : ∀ a, a = 509 ∨ a = 510 ∨ a = 511 ∨ a = 512 ∨ a = 528 ∨ a = 529 → J' a = J a := fun a ha => f.1 a (by unfold cRec cF cH; omega) (by omega)
    refine ⟨⟨by rw [mN_fr (fr 509 (by omega)) (fr 510 (by omega)) (fr 511 (by omega))]; exact t1.1, mI_fr (fr 509 (by omega)) (fr 510 (by omega)) t1.2⟩, by rw [fr 512 (by omega)]; exact t2, fun ep' hep' => ?_, ⟨g1, ?_⟩, ?_⟩
    · rw [g2]
      by_cases q : ep' = ep
      · subst q
        rw [zs_s]
        show _ = (if ep' = ep' then _ else _) ∧ 0 ≤ (if ep' = ep' then _ else _) ∧ (if ep' = ep' then _ else _) ≤ _
        rw [if_pos rfl]
        exact ⟨rfl, by omega, by omega⟩
      · rw [zs_n J (Or.inr (by omega))]
        show _ = (if ep' = ep then _ else _) ∧ 0 ≤ (if ep' = ep then _ else _) ∧ (if ep' = ep then _ else _) ≤ _
        rw [if_neg q]
        exact t3 ep' hep'
    · show (t.2.2.2.1 ++ recI ep type (t.2.2.1 ep) (kf ep) (mf ep) content).length ≤ 500
      rw [List.length_append, recI_len]
      omega
    · unfold ML
      rw [fr 528 (by omega), fr 529 (by omega)]
      exact t5
theorem s_sendT {s : Int} {t : FS} {J : zM} {L : yM} {Q : zM → yM → Prop} (hs : s01 s) (ht : MSn s J t) (hQ : ∀ J', MSn s J' (flushS t) → mN s J' = mN s J → (∀ u, u ≠ s → J' 512 u = J 512 u) → mF (fun a => 509 ≤ a ∧ a ≤ 512) t30 J J' → Q J' L) : w_X12_sendMade s J L Q := by
  obtain ⟨t1, t2, t3, t4, t5⟩ := ht
  by_cases c : t.2.2.2.1 = []
  · have h0 : J 491 30 = 0 := by have := t4.1.1; rw [c] at this; exact this
    unfold w_X12_sendMade
    refine ⟨by rw [h0]; decide, ?_⟩
    rw [if_pos h0]
    refine hQ J ?_ rfl (fun _ _ => rfl) mF.rf
    unfold flushS
    rw [if_pos c]
    exact ⟨t1, t2, t3, t4, t5⟩
  · have hl : 0 < t.2.2.2.1.length := List.length_pos_iff.mpr c
    refine s_sendMade hs t1.2 t4.1.1 (by have := t4.2; omega) (fun J' p1 p2 p3 f => ?_)
    have e512 : J' 512 s = t.2.1 + 1 := by rw [p2, zs_s, t2]
    have e512b : ∀ u, u ≠ s → J' 512 u = J 512 u := fun u hu => by rw [p2, zs_n J (Or.inr hu)]
    have e30 : J' 491 30 = 0 := by rw [p3, zs_s]
    have e491 : ∀ k, k ≠ 30 → J' 491 k = J 491 k := fun k hk => by rw [p3, zs_n J (Or.inr hk)]
    have fr : ∀ a, a ≠ 491 → ¬ (509 ≤ a ∧ a ≤ 512) → J' a = J a := fun a h1 h2 => f a (by omega)
    refine hQ J' ?_ (p1.2.1 s hs (by omega)) e512b ⟨fun a h1 h2 => fr a h2 h1, fun k hk => e491 k hk⟩
    unfold flushS
    rw [if_neg c]
    refine ⟨⟨?_, p1.2.2⟩, e512, fun ep hep => by rw [fr 514 (by decide) (by omega)]; exact t3 ep hep, ⟨⟨by rw [e30]; rfl, rfl, Nat.zero_le _⟩, Nat.zero_le _⟩, ?_⟩
    · rw [p1.1]
      show _ = putN t.1 t.2.2.2.1
      unfold putN
      rw [← t1.1]
      have hlen : (mN (1 - s) J).length = (J 509 (1 - s)).toNat := mr_len _ _
      have hb := (t1.2 (1 - s) (by unfold s01; omega)).1
      have hd : sg J 513 0 ((t.2.2.2.1.length : Int)).toNat = t.2.2.2.1 := by rw [Int.toNat_natCast]; exact t4.1.2.1
      rw [hd]
      by_cases q : J 509 (1 - s) < 60
      · rw [if_pos q, if_pos (by omega)]
      · rw [if_neg q, if_neg (by omega)]
    · unfold ML
      rw [fr 528 (by decide) (by omega), fr 529 (by decide) (by omega)]
      exact t5
theorem s_note {s ep n fr cnt : Int} {f : Nat} {lg : List (Int × Int × Nat × Int × Int)} {J : zM} {L : yM} {Q : zM → yM → Prop} (hs : s01 s) (h : ML s J lg) (hl : lg.length < 1836) (hQ : ∀ J', ML s J' (lg ++ [(ep, n, f, fr, cnt)]) → (∀ u, u ≠ s → J' 528 u = J 528 u) → (∀ k, ¬ (10000 * s ≤ k ∧ k < 10000 * s + 10000) → J' 529 k = J 529 k) → mF (fun a => a = 528 ∨ a = 529) (fun _ => False) J J' → Q J' L) : w_X12_note s ep n (f : Int) fr cnt J L Q := by
  obtain ⟨h1, h2⟩ := h
  have hs2 : 0 ≤ s ∧ s < 2 := by omega
  unfold w_X12_note
  refine ⟨hs2, fun x ex => ⟨hs2, ⟨by omega, by omega⟩, ?_⟩⟩
  rw [h1] at ex ⊢
  rw [if_pos (by omega)]
  refine ⟨⟨by omega, by omega⟩, fun J1 e1 => ⟨⟨by omega, by omega⟩, fun J2 e2 => ⟨⟨by omega, by omega⟩, fun J3 e3 => ⟨⟨by omega, by omega⟩, fun J4 e4 => ⟨⟨by omega, by omega⟩, fun J5 e5 => ⟨hs2, hs2, fun J6 e6 => ?_⟩⟩⟩⟩⟩⟩
  have r5 : ∀ a, a ≠ 529 → J5 a = J a := fun a ha => by rw [e5, zs_r J4 ha, e4, zs_r J3 ha, e3, zs_r J2 ha, e2, zs_r J1 ha, e1, zs_r J ha]
  rw [r5 528 (by decide), h1] at e6
  have r6 : J6 529 = J5 529 := by rw [e6]; exact zs_r J5 (by decide)
  have o5 : ∀ k, k < x ∨ x + 5 ≤ k → J5 529 k = J 529 k := fun k hk => by rw [e5, zs_n J4 (Or.inr (by omega)), e4, zs_n J3 (Or.inr (by omega)), e3, zs_n J2 (Or.inr (by omega)), e2, zs_n J1 (Or.inr (by omega)), e1, zs_n J (Or.inr (by omega))]
  refine hQ J6 ⟨by rw [e6, zs_s, List.length_append, List.length_singleton]; omega, fun i q hq => ?_⟩ ?_ ?_ ?_
  · rw [r6]
    by_cases c : i = lg.length
    · subst c
      rw [List.getElem?_append_right (Nat.le_refl _), Nat.sub_self] at hq
      cases hq
      rw [← ex]
      refine ⟨?_, ?_, ?_, ?_, ?_⟩
      · rw [e5, zs_n J4 (Or.inr (by omega)), e4, zs_n J3 (Or.inr (by omega)), e3, zs_n J2 (Or.inr (by omega)), e2, zs_n J1 (Or.inr (by omega)), e1, zs_s]
      · rw [e5, zs_n J4 (Or.inr (by omega)), e4, zs_n J3 (Or.inr (by omega)), e3, zs_n J2 (Or.inr (by omega)), e2, zs_s]
      · rw [e5, zs_n J4 (Or.inr (by omega)), e4, zs_n J3 (Or.inr (by omega)), e3, zs_s]
      · rw [e5, zs_n J4 (Or.inr (by omega)), e4, zs_s]
      · rw [e5, zs_s]
    · have hil : i < (lg ++ [(ep, n, f, fr, cnt)]).length := (List.getElem?_eq_some_iff.mp hq).1
      rw [List.length_append, List.length_singleton] at hil
      rw [List.getElem?_append_left (by omega)] at hq
      have h9 := h2 i q hq
      rw [o5 _ (Or.inl (by omega)), o5 _ (Or.inl (by omega)), o5 _ (Or.inl (by omega)), o5 _ (Or.inl (by omega)), o5 _ (Or.inl (by omega))]
      exact h9
  · intro u hu
    rw [e6, zs_n J5 (Or.inr hu), r5 528 (by decide)]
  · intro k hk
    rw [r6]
    exact o5 k (by omega)
  · refine ⟨fun a ha hb => ?_, fun k _ => ?_⟩
    · rw [e6, zs_r J5 (by omega), r5 a (by omega)]
    · rw [e6, zs_r J5 (by decide), r5 491 (by decide)]
