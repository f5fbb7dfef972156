/-! a FRAGMENT is kept, in the model -/
/-- own kept cells of side s but for the slot sl -/
def SM (sl : Int) (J : zM) (n : Int) (q : KQ) : Prop := J 540 sl = n ∧ J 541 sl = q.1 ∧ J 542 sl = q.2.1 ∧ ∀ i : Int, 0 ≤ i → i < 152 → J 543 (200 * sl + i) = q.2.2.1 i ∧ (q.2.2.1 i = 1 → J 544 (200 * sl + i) = q.2.2.2 i)
def SMF (sl : Int) (J J' : zM) : Prop := (∀ a j, (540 ≤ a ∧ a ≤ 542) → j ≠ sl → J' a j = J a j) ∧ (∀ a j, (a = 543 ∨ a = 544) → ¬ (200 * sl ≤ j ∧ j < 200 * sl + 200) → J' a j = J a j) ∧ ∀ a, ¬ (540 ≤ a ∧ a ≤ 544) → J' a = J a
theorem SMF.rf {sl : Int} {J : zM} : SMF sl J J := ⟨fun _ _ _ _ => rfl, fun _ _ _ _ => rfl, fun _ _ => rfl⟩
theorem SMF.tr {sl : Int} {J J1 J2 : zM} (h1 : SMF sl J J1) (h2 : SMF sl J1 J2) : SMF sl J J2 := ⟨fun a j p q => (h2.1 a j p q).trans (h1.1 a j p q), fun a j p q => (h2.2.1 a j p q).trans (h1.2.1 a j p q), fun a p => (h2.2.2 a p).trans (h1.2.2 a p)⟩
theorem SMF.zs {sl i v : Int} {a : Nat} {J : zM} (h : ((540 ≤ a ∧ a ≤ 542) ∧ i = sl) ∨ ((a = 543 ∨ a = 544) ∧ 200 * sl ≤ i ∧ i < 200 * sl + 200)) : SMF sl J (zs J a i v) := ⟨fun b j p q => zs_n J (by omega), fun b j p q => zs_n J (by omega), fun b p => zs_r J (by omega)⟩
theorem ms_keeps {bd s n kd ln fr cn : Int} {A : SA} {J : zM} {L : yM} {Q : zM → yM → Prop} (hs : s01 s) (h : MS s J L A) (ai : AI bd s A) (hn : aZ A 2 ≤ n ∧ n < aZ A 2 + 5 ∧ n < 256) (hf : 0 ≤ fr ∧ 0 < cn ∧ fr + cn ≤ ln) (hkl : kLen kd ln) (hag : (aK A n).1 = -1 ∨ ((aK A n).1 = kd ∧ (aK A n).2.1 = ln))
    (hQ : ∀ J', MS s J' L (keepA n kd ln fr cn (fun i => J 550 (8 + i)) A) → MO s J L J' L → (∀ a, ¬ (540 ≤ a ∧ a ≤ 544) → J' a = J a) → w_X12_takeAll s J' L (fun J12 L13 => Q J12 L13)) : w_X12_keeps s (8 * s + n % 8) n kd ln fr cn J L Q := by
  have b2 := ai.b2
  have hlb := kLen_b hkl
  obtain ⟨a0, a1, a2, a3, a4, a5, a6, a7, a8, a9, a10, a11, a12⟩ := h
  have hK := a4.1
  have hkn := hK n hn.1
  obtain ⟨sl, hsl⟩ : ∃ sl, sl = 8 * s + n % 8 := ⟨_, rfl⟩
  have hsl2 : 8 * s ≤ sl ∧ sl < 8 * s + 8 := by omega
  have hsl3 : 0 ≤ sl ∧ sl < 16 := by omega
  rw [← hsl] at hkn ⊢
  obtain ⟨b, hb⟩ : ∃ b : Int → Int, b = fun i => J 550 (8 + i) := ⟨_, rfl⟩
  rw [← hb] at hQ
  obtain ⟨q0, hq0⟩ : ∃ q0 : KQ, q0 = if (aK A n).1 = -1 then (kd, ln, fun _ => 0, fun _ => 0) else aK A n := ⟨_, rfl⟩
  have q01 : q0.1 = kd ∧ q0.2.1 = ln := by
    rw [hq0]
    by_cases d : (aK A n).1 = -1
    · rw [if_pos d]; exact ⟨rfl, rfl⟩
    · rw [if_neg d]
      rcases hag with q | q
      · exact absurd q d
      · exact q
  unfold w_X12_keeps
  refine ⟨hsl3, fun K4 hK4 => ?_⟩
  have go : ∀ J1 : zM, SM sl J1 n q0 → SMF sl J J1 → K4 J1 L := by
    intro J1 g1 f1
    refine hK4 J1 L ?_
    refine zl_z.by (fun m x J' L' => (m : Int) = cn - x ∧ 0 ≤ x ∧ x ≤ cn ∧ L' = L ∧ SM sl J' n (q0.1, q0.2.1, fun i => if fr ≤ i ∧ i < fr + x then 1 else q0.2.2.1 i, fun i => if fr ≤ i ∧ i < fr + x then b (i - fr) else q0.2.2.2 i) ∧ SMF sl J J') ?_ cn.toNat 0 J1 L ⟨by omega, by omega, by omega, rfl, ?_, f1⟩
    · rintro m x J2 L2 KK ⟨hm, hx, hx2, rfl, g2, f2⟩ hKK
      refine ⟨⟨by omega, by omega⟩, ⟨by omega, by omega⟩, ?_⟩
      by_cases c : x < cn
      · rw [if_pos c]
        refine ⟨⟨by omega, by omega⟩, fun J15 e15 => ?_⟩
        have b15 : J15 550 = J 550 := by rw [e15, zs_r _ (by omega)]; exact f2.2.2 550 (by omega)
        rw [b15]
        refine ⟨⟨by omega, by omega⟩, ⟨by omega, by omega⟩, fun J18 e18 => hKK (m - 1) (x + 1) J18 L2 (by omega) ⟨by omega, by omega, by omega, rfl, ?_, ?_⟩⟩
        · obtain ⟨p0, p1, p2, p4⟩ := g2
          refine ⟨?_, ?_, ?_, fun i i0 i1 => ⟨?_, fun hc => ?_⟩⟩
          · rw [e18, zs_r _ (by omega), e15, zs_r _ (by omega)]; exact p0
          · rw [e18, zs_r _ (by omega), e15, zs_r _ (by omega)]; exact p1
          · rw [e18, zs_r _ (by omega), e15, zs_r _ (by omega)]; exact p2
          · show J18 543 (200 * sl + i) = if fr ≤ i ∧ i < fr + (x + 1) then 1 else q0.2.2.1 i
            rw [e18, zs_r _ (by omega), e15]
            by_cases d : i = fr + x
            · rw [d, show 200 * sl + (fr + x) = 200 * sl + fr + x by omega, zs_s, if_pos (by omega)]
            · rw [zs_n _ (Or.inr (by omega)), (p4 i i0 i1).1]
              show (if fr ≤ i ∧ i < fr + x then (1 : Int) else q0.2.2.1 i) = _
              by_cases d2 : fr ≤ i ∧ i < fr + x
              · rw [if_pos d2, if_pos (by omega)]
              · rw [if_neg d2, if_neg (by omega)]
          · have hc : (if fr ≤ i ∧ i < fr + (x + 1) then (1 : Int) else q0.2.2.1 i) = 1 := hc
            show J18 544 (200 * sl + i) = if fr ≤ i ∧ i < fr + (x + 1) then b (i - fr) else q0.2.2.2 i
            rw [e18]
            by_cases d : i = fr + x
            · rw [d, show 200 * sl + (fr + x) = 200 * sl + fr + x by omega, zs_s, if_pos (by omega), hb]
              show J 550 (8 + x) = J 550 (8 + (fr + x - fr))
              congr 1
              omega
            · rw [zs_n _ (Or.inr (by omega)), e15, zs_r _ (by omega)]
              by_cases d2 : fr ≤ i ∧ i < fr + x
              · rw [(p4 i i0 i1).2 (if_pos d2), if_pos (by omega)]
                exact if_pos d2
              · rw [if_neg (by omega)] at hc ⊢
                rw [(p4 i i0 i1).2 ((if_neg d2).trans hc)]
                exact if_neg d2
        · refine f2.tr ?_
          rw [e18, e15]
          exact (SMF.zs (Or.inr ⟨by omega, by omega, by omega⟩)).tr (SMF.zs (Or.inr ⟨by omega, by omega, by omega⟩))
      · rw [if_neg c]
        have hxe : x = cn := by omega
        subst hxe
        have rf : ∀ a, ¬ (540 ≤ a ∧ a ≤ 544) → J2 a = J a := fun a ha => f2.2.2 a ha
        have cc : ∀ (C : Nat → Prop), (∀ a, C a → ¬ (540 ≤ a ∧ a ≤ 544)) → oEq s C J J2 := fun C hC a i _ hc => by rw [rf a (hC a hc)]
        have nn := mN_fr (rf 509 (by decide)) (rf 510 (by decide)) (rf 511 (by decide))
        refine hQ J2 ⟨a0.fr (cc _ (by omega)) (fun _ _ _ => rfl), a1.fr (cc _ (by omega)), a2.fr (cc _ (by omega)), a3.fr hs (cc _ (by omega)), ⟨?_, ?_⟩, a5.fr (cc _ (by omega)), a6.fr (cc _ (by omega)), a7.fr hs (cc _ (by omega)), a8.fr (cc _ (by omega)), MSn.fr a9 (fun a ha => rf a (by omega)) (by rw [rf 491 (by decide)]), a10.fr (cc _ (by omega)) (fun _ _ _ => rfl), a11.fr (cc _ (by omega)), mKa a12 (cc _ (by omega))⟩ ⟨fun a i ho => ?_, fun _ _ _ => rfl, nn _, by rw [rf 509 (by decide)], mI_fr (rf 509 (by decide)) (rf 510 (by decide)), fun q => by rw [rf 491 (by decide)]; exact q, fun a ha => ⟨rf a (by omega), rfl⟩⟩ rf
        · intro n' w1
          have w1 : aZ A 2 ≤ n' := w1
          have kv : aK (keepA n kd ln fr x b A) n' = if n' = n then keepQ kd ln fr x b (aK A n) else aK A n' := rfl
          rw [kv]
          have hm : 0 ≤ n' % 8 ∧ n' % 8 < 8 := by omega
          by_cases d : n' = n
          · have e5 : 8 * s + n' % 8 = sl := by rw [d]; exact hsl.symm
            have kq : keepQ kd ln fr x b (aK A n) = (q0.1, q0.2.1, fun i => if fr ≤ i ∧ i < fr + x then 1 else q0.2.2.1 i, fun i => if fr ≤ i ∧ i < fr + x then b (i - fr) else q0.2.2.2 i) := by unfold keepQ; rw [hq0]
            rw [if_pos d, kq, e5, d]
            have h1 : q0.1 ≠ -1 := by rw [q01.1]; unfold kLen at hkl; omega
            exact ⟨⟨fun _ => h1, fun _ => g2.1⟩, fun _ => g2.2⟩
          · rw [if_neg d]
            have q := hK n' w1
            by_cases ne : 8 * s + n' % 8 = sl
            · -- the slot is n's now; n' was not kept
              rw [ne, g2.1]
              rw [ne] at q
              have hno : (aK A n').1 = -1 := by
                by_cases u : (aK A n').1 = -1
                · exact u
                · exfalso
                  have k := ai.k n' w1 u
                  omega
              exact ⟨⟨fun u => absurd u.symm d, fun u => absurd hno u⟩, fun u => absurd hno u⟩
            · rw [f2.1 540 _ (by omega) ne, f2.1 541 _ (by omega) ne, f2.1 542 _ (by omega) ne]
              refine ⟨q.1, fun hk => ⟨(q.2 hk).1, (q.2 hk).2.1, fun i i0 i1 => ?_⟩⟩
              rw [f2.2.1 543 _ (by omega) (by omega), f2.2.1 544 _ (by omega) (by omega)]
              exact (q.2 hk).2.2 i i0 i1
        · intro j j0 j1
          by_cases ne : 8 * s + j = sl
          · rw [ne, g2.1]; exact ⟨by omega, by omega⟩
          · rw [f2.1 540 _ (by omega) ne]; exact a4.2 j j0 j1
        · by_cases q : 540 ≤ a ∧ a ≤ 544
          · by_cases q2 : a ≤ 542
            · have := ow8 ho (by omega)
              exact f2.1 a i (by omega) (by omega)
            · have := ow16 ho (by omega)
              exact f2.2.1 a i (by omega) (by omega)
          · rw [rf a q]
    · have e1 : (fun i => if fr ≤ i ∧ i < fr + 0 then (1 : Int) else q0.2.2.1 i) = q0.2.2.1 := funext fun i => if_neg (by omega)
      have e2 : (fun i => if fr ≤ i ∧ i < fr + 0 then b (i - fr) else q0.2.2.2 i) = q0.2.2.2 := funext fun i => if_neg (by omega)
      rw [e1, e2]
      exact g1
  have r540 : R32 (J 540 sl) := by have := a4.2 (n % 8) (by omega) (by omega); rw [← hsl] at this; exact this
  refine ⟨r540, ⟨by omega, by omega⟩, ?_⟩
  by_cases d : J 540 sl = n
  · rw [if_pos d]
    have hk := hkn.1.mp d
    rw [if_neg hk] at hq0
    refine go J ?_ SMF.rf
    rw [hq0]
    exact ⟨d, (hkn.2 hk).1, (hkn.2 hk).2.1, (hkn.2 hk).2.2⟩
  · rw [if_neg d]
    have hk : (aK A n).1 = -1 := by
      by_cases u : (aK A n).1 = -1
      · exact u
      · exact absurd (hkn.1.mpr u) d
    rw [if_pos hk] at hq0
    refine ⟨hsl3, fun J23 e23 => ⟨hsl3, fun J25 e25 => ⟨hsl3, fun J27 e27 => ?_⟩⟩⟩
    have sf : SMF sl J J27 := by
      rw [e27, e25, e23]
      exact (SMF.zs (Or.inl ⟨by omega, rfl⟩)).tr ((SMF.zs (Or.inl ⟨by omega, rfl⟩)).tr (SMF.zs (Or.inl ⟨by omega, rfl⟩)))
    refine zl_z.by (fun m x J' L' => (m : Int) = 200 - x ∧ 0 ≤ x ∧ x ≤ 200 ∧ L' = L ∧ (∀ a, a ≠ 543 → J' a = J27 a) ∧ (∀ i, 0 ≤ i → i < x → J' 543 (200 * sl + i) = 0) ∧ ∀ i, ¬ (200 * sl ≤ i ∧ i < 200 * sl + 200) → J' 543 i = J27 543 i) ?_ 200 0 J27 L ⟨by omega, by omega, by omega, rfl, fun _ _ => rfl, fun i p q => by omega, fun _ _ => rfl⟩
    rintro m x J1 L1 KK ⟨hm, hx, hx2, rfl, r1, z1, y1⟩ hKK
    refine ⟨⟨by omega, by omega⟩, ?_⟩
    by_cases c : x < 200
    · rw [if_pos c]
      refine ⟨⟨by omega, by omega⟩, fun J35 e35 => hKK (m - 1) (x + 1) J35 L1 (by omega) ⟨by omega, by omega, by omega, rfl, fun a ha => by rw [e35, zs_r _ ha]; exact r1 a ha, fun i p q => ?_, fun i q => by rw [e35, zs_n _ (Or.inr (by omega))]; exact y1 i q⟩⟩
      by_cases u : i = x
      · rw [e35, u, zs_s]
      · rw [e35, zs_n _ (Or.inr (by omega))]; exact z1 i p (by omega)
    · rw [if_neg c]
      refine go J1 ⟨?_, ?_, ?_, fun i i0 i1 => ⟨?_, fun u => ?_⟩⟩ (sf.tr ⟨fun a j p q => by rw [r1 a (by omega)], fun a j p q => ?_, fun a p => r1 a (by omega)⟩)
      · rw [r1 _ (by decide), e27, zs_r _ (by decide), e25, zs_r _ (by decide), e23, zs_s]
      · rw [r1 _ (by decide), e27, zs_r _ (by decide), e25, zs_s, hq0]
      · rw [r1 _ (by decide), e27, zs_s, hq0]
      · rw [z1 i i0 (by omega), hq0]
      · rw [hq0] at u
        exact (d01 u).elim
      · rcases p with p | p
        · subst p; exact y1 j q
        · rw [r1 a (by omega)]
