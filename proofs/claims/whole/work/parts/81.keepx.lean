/-! a FRAGMENT is kept, in the class -/
def SL (e : Nat) (J : zM) (sl : Int) (q : KQ) : Prop := J (e + 18) sl = q.1 ∧ J (e + 19) sl = q.2.1 ∧ J (e + 20) sl = miss q.2.2.1 q.2.1.toNat ∧ ∀ i : Int, 0 ≤ i → i < 152 → J (e + 28 + sl.toNat) i = q.2.2.1 i ∧ (q.2.2.1 i = 1 → J (e + 22 + sl.toNat) i = q.2.2.2 i)
def SF (e : Nat) (sl : Int) (J J' : zM) : Prop := (∀ a j, (a = e + 18 ∨ a = e + 19 ∨ a = e + 20) → j ≠ sl → J' a j = J a j) ∧ ∀ a, a ≠ e + 18 → a ≠ e + 19 → a ≠ e + 20 → a ≠ e + 28 + sl.toNat → a ≠ e + 22 + sl.toNat → J' a = J a
theorem SF.rf {e : Nat} {sl : Int} {J : zM} : SF e sl J J := ⟨fun _ _ _ _ => rfl, fun _ _ _ _ _ _ => rfl⟩
theorem SF.tr {e : Nat} {sl : Int} {J J1 J2 : zM} (h1 : SF e sl J J1) (h2 : SF e sl J1 J2) : SF e sl J J2 := ⟨fun a j p q => (h2.1 a j p q).trans (h1.1 a j p q), fun a p q r t u => (h2.2 a p q r t u).trans (h1.2 a p q r t u)⟩
theorem SF.zs {e a : Nat} {sl i v : Int} {J : zM} (h : ((a = e + 18 ∨ a = e + 19 ∨ a = e + 20) ∧ i = sl) ∨ a = e + 28 + sl.toNat ∨ a = e + 22 + sl.toNat) : SF e sl J (zs J a i v) := by
  refine ⟨fun b j p q => ?_, fun b p q r t u => zs_r J (by omega)⟩
  by_cases d : b = a
  · exact zs_n J (by omega)
  · exact zs_n J (Or.inl d)
theorem miss_0 (n : Nat) : miss (fun _ => 0) n = (n : Int) := by
  induction n with
  | zero => rfl
  | succ n ih => show miss (fun _ => 0) n + (1 - 0) = _; rw [ih]; omega
theorem s_openSlot {e : Nat} {sl kd ln : Int} {J : zM} {L : yM} {Q : zM → yM → Prop} (hs : 0 ≤ sl ∧ sl < 5) (hl : 0 ≤ ln) (hQ : ∀ J', SL e J' sl (kd, ln, fun _ => 0, fun _ => 0) → SF e sl J J' → Q J' L) : w_X3_openSlot e sl kd ln J L Q := by
  unfold w_X3_openSlot
  refine ⟨hs, fun J2 e2 => ⟨hs, fun J4 e4 => ⟨hs, fun J6 e6 => ?_⟩⟩⟩
  have sf6 : SF e sl J J6 := by
    rw [e6, e4, e2]
    exact (SF.zs (Or.inl ⟨by omega, rfl⟩)).tr ((SF.zs (Or.inl ⟨by omega, rfl⟩)).tr (SF.zs (Or.inl ⟨by omega, rfl⟩)))
  have v18 : J6 (e + 18) sl = kd := by rw [e6, zs_r _ (by omega), e4, zs_r _ (by omega), e2, zs_s]
  have v19 : J6 (e + 19) sl = ln := by rw [e6, zs_r _ (by omega), e4, zs_s]
  have v20 : J6 (e + 20) sl = ln := by rw [e6, zs_s]
  refine zl_z.by (fun m x J' L' => (m : Int) = 152 - x ∧ 0 ≤ x ∧ L' = L ∧ (∀ a, a ≠ e + 28 + sl.toNat → J' a = J6 a) ∧ ∀ i, 0 ≤ i → i < x → J' (e + 28 + sl.toNat) i = 0) ?_ 152 0 J6 L ⟨by omega, by omega, rfl, fun _ _ => rfl, fun i p q => by omega⟩
  rintro m x J1 L1 K ⟨hm, hx, rfl, r1, z1⟩ hK
  refine ⟨⟨by omega, by omega⟩, ?_⟩
  by_cases c : x < 152
  · rw [if_pos c]
    refine ⟨hs, ⟨hx, c⟩, fun J16 e16 => hK (m - 1) (x + 1) J16 L1 (by omega) ⟨by omega, by omega, rfl, fun a ha => by rw [e16, zs_r _ ha]; exact r1 a ha, fun i p q => ?_⟩⟩
    by_cases d : i = x
    · rw [e16, d, zs_s]
    · rw [e16, zs_n _ (Or.inr d)]; exact z1 i p (by omega)
  · rw [if_neg c]
    refine hQ J1 ⟨by rw [r1 _ (by omega)]; exact v18, by rw [r1 _ (by omega)]; exact v19, ?_, fun i p q => ⟨z1 i p (by omega), fun u => by have u : (0 : Int) = 1 := u; omega⟩⟩ (sf6.tr ⟨fun a j p q => by rw [r1 a (by omega)], fun a p q r t u => r1 a t⟩)
    rw [r1 _ (by omega), v20]
    show ln = miss (fun _ => 0) ln.toNat
    rw [miss_0]
    omega
theorem xs_keep {e : Nat} {bd s n kd ln fr cn ba : Int} {A : SA} {J : zM} {L : yM} {Q : zM → yM → Prop} (he : iSide e) (h : XS e s J L A) (ai : AI bd s A) (h11 : J 3 11 = n) (h9 : J 3 9 = kd) (h10 : J 3 10 = ln) (h12 : J 3 12 = fr) (h13 : J 3 13 = cn) (h14 : J 3 14 = ba) (hn : aZ A 2 ≤ n ∧ n < aZ A 2 + 5 ∧ n < 256) (hf : 0 ≤ fr ∧ 0 < cn ∧ fr + cn ≤ ln) (hkl : kLen kd ln) (hba : 0 ≤ ba ∧ ba + cn ≤ 500) (hag : (aK A n).1 = -1 ∨ ((aK A n).1 = kd ∧ (aK A n).2.1 = ln))
    (hQ : ∀ J', XS e s J' L (keepA n kd ln fr cn (fun i => J 4 (ba + i)) A) → zF (fun a => e + 18 ≤ a ∧ a ≤ e + 32) J J' → Q J' L) : w_X3_keep e J L Q := by
  have b2 := ai.b2
  have hlb := kLen_b hkl
  have he2 : 139 ≤ e := by unfold iSide at he; omega
  have hK := h.2.2.2.2.1
  have hkn := hK n hn.1 hn.2.1
  obtain ⟨sl, hsl⟩ : ∃ sl, sl = n % 5 := ⟨_, rfl⟩
  have hs : 0 ≤ sl ∧ sl < 5 := by omega
  rw [← hsl] at hkn
  obtain ⟨b, hb⟩ : ∃ b : Int → Int, b = fun i => J 4 (ba + i) := ⟨_, rfl⟩
  rw [← hb] at hQ
  obtain ⟨q0, hq0⟩ : ∃ q0 : KQ, q0 = if (aK A n).1 = -1 then (kd, ln, fun _ => 0, fun _ => 0) else aK A n := ⟨_, rfl⟩
  have q01 : q0.1 = kd ∧ q0.2.1 = ln := by
    rw [hq0]
    by_cases d : (aK A n).1 = -1
    · rw [if_pos d]; exact ⟨rfl, rfl⟩
    · rw [if_neg d]
      rcases hag with q | q
      · exact absurd q d
      · exact q
  unfold w_X3_keep
  rw [h11, h12, h13, h9, h10, zrem_n ⟨by omega, by omega⟩ (by decide)]
  intro x1 ex
  rw [← hsl] at ex
  subst ex
  refine ⟨⟨by omega, by omega⟩, ?_⟩
  rw [if_neg (by omega)]
  refine ⟨hs, fun K7 hK7 => ?_⟩
  -- the loop from a slot that shows q0
  have go : ∀ J1 : zM, SL e J1 x1 q0 → SF e x1 J J1 → K7 J1 L := by
    intro J1 g1 f1
    refine hK7 J1 L ?_
    refine zl_z.by (fun m x J' L' => (m : Int) = cn - x ∧ 0 ≤ x ∧ x ≤ cn ∧ L' = L ∧ SL e J' x1 (q0.1, q0.2.1, fun i => if fr ≤ i ∧ i < fr + x then 1 else q0.2.2.1 i, fun i => if fr ≤ i ∧ i < fr + x then b (i - fr) else q0.2.2.2 i) ∧ SF e x1 J J') ?_ cn.toNat 0 J1 L ⟨by omega, by omega, by omega, rfl, ?_, f1⟩
    · rintro m x J2 L2 KK ⟨hm, hx, hx2, rfl, g2, f2⟩ hKK
      have r2 : ∀ a, a < 139 → J2 a = J a := fun a ha => f2.2 a (by omega) (by omega) (by omega) (by omega) (by omega)
      rw [r2 3 (by decide), h13, h12]
      refine ⟨⟨by omega, by omega⟩, ⟨by omega, by omega⟩, ?_⟩
      by_cases c : x < cn
      · rw [if_pos c]
        refine ⟨hs, hs, ⟨by omega, by omega⟩, hs, fun J20 e20 => ?_⟩
        have a20 : J20 3 = J 3 := by rw [e20, zs_r _ (by omega)]; exact r2 3 (by decide)
        rw [a20, h12]
        refine ⟨hs, ⟨by omega, by omega⟩, fun J24 e24 => ?_⟩
        have a24 : J24 3 = J 3 := by rw [e24, zs_r _ (by omega)]; exact a20
        have b24 : J24 4 = J 4 := by rw [e24, zs_r _ (by omega), e20, zs_r _ (by omega)]; exact r2 4 (by decide)
        rw [a24, h12, h14, b24]
        refine ⟨hs, ⟨by omega, by omega⟩, ⟨by omega, by omega⟩, fun J29 e29 => hKK (m - 1) (x + 1) J29 L2 (by omega) ⟨by omega, by omega, by omega, rfl, ?_, ?_⟩⟩
        · obtain ⟨p1, p2, p3, p4⟩ := g2
          refine ⟨?_, ?_, ?_, fun i i0 i1 => ⟨?_, fun hc => ?_⟩⟩
          · rw [e29, zs_r _ (by omega), e24, zs_r _ (by omega), e20, zs_r _ (by omega)]; exact p1
          · rw [e29, zs_r _ (by omega), e24, zs_r _ (by omega), e20, zs_r _ (by omega)]; exact p2
          · rw [e29, zs_r _ (by omega), e24, zs_r _ (by omega), e20, zs_s, p3, (p4 (fr + x) (by omega) (by omega)).1]
            have hset := miss_set (c := fun i => if fr ≤ i ∧ i < fr + x then 1 else q0.2.2.1 i) (p := fr + x) (n := ln.toNat) (by omega)
            show miss _ q0.2.1.toNat - _ = miss _ q0.2.1.toNat
            rw [q01.2, ← hset]
            refine miss_cg (fun i i0 i1 => ?_)
            show (if i = fr + x then (1 : Int) else if fr ≤ i ∧ i < fr + x then 1 else q0.2.2.1 i) = if fr ≤ i ∧ i < fr + (x + 1) then 1 else q0.2.2.1 i
            by_cases d : i = fr + x
            · rw [if_pos d, if_pos (by omega)]
            · rw [if_neg d]
              by_cases d2 : fr ≤ i ∧ i < fr + x
              · rw [if_pos d2, if_pos (by omega)]
              · rw [if_neg d2, if_neg (by omega)]
          · show J29 (e + 28 + x1.toNat) i = if fr ≤ i ∧ i < fr + (x + 1) then 1 else q0.2.2.1 i
            rw [e29, zs_r _ (by omega), e24]
            by_cases d : i = fr + x
            · rw [d, zs_s, if_pos (by omega)]
            · rw [zs_n _ (Or.inr d), e20, zs_r _ (by omega), (p4 i i0 i1).1]
              show (if fr ≤ i ∧ i < fr + x then (1 : Int) else q0.2.2.1 i) = _
              by_cases d2 : fr ≤ i ∧ i < fr + x
              · rw [if_pos d2, if_pos (by omega)]
              · rw [if_neg d2, if_neg (by omega)]
          · have hc : (if fr ≤ i ∧ i < fr + (x + 1) then (1 : Int) else q0.2.2.1 i) = 1 := hc
            show J29 (e + 22 + x1.toNat) i = if fr ≤ i ∧ i < fr + (x + 1) then b (i - fr) else q0.2.2.2 i
            rw [e29]
            by_cases d : i = fr + x
            · rw [d, zs_s, if_pos (by omega), hb]
              show J 4 (ba + x) = J 4 (ba + (fr + x - fr))
              congr 1
              omega
            · rw [zs_n _ (Or.inr d), e24, zs_r _ (by omega), e20, zs_r _ (by omega)]
              by_cases d2 : fr ≤ i ∧ i < fr + x
              · rw [(p4 i i0 i1).2 (if_pos d2), if_pos (by omega)]
                exact if_pos d2
              · rw [if_neg (by omega)] at hc ⊢
                rw [(p4 i i0 i1).2 ((if_neg d2).trans hc)]
                exact if_neg d2
        · refine f2.tr ?_
          rw [e29, e24, e20]
          exact (SF.zs (Or.inl ⟨by omega, rfl⟩)).tr ((SF.zs (Or.inr (Or.inl rfl))).tr (SF.zs (Or.inr (Or.inr rfl))))
      · rw [if_neg c]
        have hxe : x = cn := by omega
        subst hxe
        obtain ⟨h0, h1, h2, h3, h4, h5, h6, h7, h8, h9', h10'⟩ := h
        have rf : ∀ a, ¬ (e + 18 ≤ a ∧ a ≤ e + 32) → J2 a = J a := fun a ha => f2.2 a (by omega) (by omega) (by omega) (by omega) (by omega)
        refine hQ J2 ⟨h0.fr (rf _ (by omega)), h1.fr (rf _ (by omega)) rfl, h2.fr (fun a p q => rf a (by omega)), h3.fr (fun a p q => rf a (by omega)) (fun k _ => by rw [rf _ (by omega)]), ?_, h5.fr (fun a p q => rf a (by omega)), h6.fr (rf _ (by omega)), h7.fr he (fun a p q => rf a (by omega)), h8.fr (fun a p q => rf a (by omega)) (rf _ (by omega)), h9'.fr (fun a p => rf a ?_) (by rw [rf _ (by omega)]), h10'.fr (fun a p q => rf a (by omega)) (fun _ _ _ => rfl)⟩ (fun a ha => rf a ha)
        · intro n' w1 w2
          have w1 : aZ A 2 ≤ n' := w1
          have w2 : n' < aZ A 2 + 5 := w2
          have kv : aK (keepA n kd ln fr x b A) n' = if n' = n then keepQ kd ln fr x b (aK A n) else aK A n' := rfl
          rw [kv]
          by_cases d : n' = n
          · have e5 : n' % 5 = x1 := by rw [d]; exact hsl.symm
            have kq : keepQ kd ln fr x b (aK A n) = (q0.1, q0.2.1, fun i => if fr ≤ i ∧ i < fr + x then 1 else q0.2.2.1 i, fun i => if fr ≤ i ∧ i < fr + x then b (i - fr) else q0.2.2.2 i) := by unfold keepQ; rw [hq0]
            rw [if_pos d, kq, e5]
            exact ⟨g2.1, fun _ => g2.2⟩
          · rw [if_neg d]
            have ne : n' % 5 ≠ x1 := by omega
            have q := hK n' w1 w2
            have hm : 0 ≤ n' % 5 ∧ n' % 5 < 5 := by omega
            rw [f2.1 (e + 18) _ (by omega) ne, f2.1 (e + 19) _ (by omega) ne, f2.1 (e + 20) _ (by omega) ne, f2.2 (e + 28 + (n' % 5).toNat) (by omega) (by omega) (by omega) (by omega) (by omega), f2.2 (e + 22 + (n' % 5).toNat) (by omega) (by omega) (by omega) (by omega) (by omega)]
            exact q
        · intro ha
          rcases p with p | p | p | p | p
          · omega
          · omega
          · omega
          · omega
          · have := wy_out he p; omega
    · have e1 : (fun i => if fr ≤ i ∧ i < fr + 0 then (1 : Int) else q0.2.2.1 i) = q0.2.2.1 := funext fun i => if_neg (by omega)
      have e2 : (fun i => if fr ≤ i ∧ i < fr + 0 then b (i - fr) else q0.2.2.2 i) = q0.2.2.2 := funext fun i => if_neg (by omega)
      rw [e1, e2]
      exact g1
  rw [hkn.1]
  by_cases d : (aK A n).1 = -1
  · rw [d]
    refine ⟨by decide, ?_⟩
    rw [if_pos rfl]
    rw [if_pos d] at hq0
    refine s_openSlot hs (by omega) (fun J1 g1 f1 => go J1 ?_ f1)
    rw [hq0]
    exact g1
  · rw [if_neg d] at hq0
    have kl : kLen (aK A n).1 (aK A n).2.1 := (ai.k n hn.1 d).2.2.2.1
    refine ⟨by unfold kLen at kl; exact ⟨by omega, by omega⟩, ?_⟩
    rw [if_neg d]
    refine go J ?_ SF.rf
    rw [hq0]
    exact ⟨hkn.1, hkn.2 d⟩
