/-! a FLIGHT is sent, by sides -/
theorem AI.log {bd s : Int} {A : SA} (h : AI bd s A) (h9 : aZ A 9 ≤ 8) : ((aT A).2.2.2.2.length : Int) ≤ 204 * (aZ A 9 + 1) := h.1.2.2.2.2.2.2.2.2.2.2.2.2.2.2.2.2.2.2.2.2.2.1
theorem xs_fly {e : Nat} {bd s : Int} {A : SA} {J : zM} {L : yM} {Q : zM → yM → Prop} (he : iSide e) (hs : s01 s) (h : XS e s J L A) (ai : AI bd s A) (hlg : (aT A).2.2.2.2.length + 204 ≤ 1836) (hQ : ∀ J', XS e s J' L (flyA s A) → XO e J L J' L → Q J' L) : w_X8_sendFlight e J L Q := by
  obtain ⟨h0, h1, h2, h3, h4, h5, h6, h7, h8, h9, h10⟩ := h
  have hm : 100 ≤ aZ A 18 ∧ aZ A 18 ≤ 500 := ai.1.2.2.2.2.2.2.2.2.2.2.2.2.2.2.2.2.2.2.1
  have hf := ai.2.2.2.1
  have hd := ai.2.2.2.2.2.2.2.1.2.2
  have he2 : 139 ≤ e := by unfold iSide at he; omega
  refine s_sendFlight he hs h9.1 h3.2.2.2.2 (fun f q => (hf.1.2.1 f q).1) hf.2.1 h9.2.2 hd (XKy_of hs h8) h9.2.1 hm hlg h0.2.2.2.2.2.2.2.2 (fun J' g1 g2 g3 g4 g5 => ?_)
  have f' : ∀ a, e ≤ a → a ≠ e + 8 → ¬ (e + 14 ≤ a ∧ a ≤ e + 16) → a ≠ e + 166 → ¬ (e + 168 ≤ a ∧ a ≤ e + 171) → J' a = J a := fun a p q r u v => g5 a (fun w => by
    rcases w with w | w | w | w | w
    · unfold cPut at w; omega
    · have := wy_out he w; omega
    · omega
    · omega
    · omega)
  refine hQ J' ⟨h0.fr (f' _ (by omega) (by omega) (by omega) (by omega) (by omega)), h1.fr (f' _ (by omega) (by omega) (by omega) (by omega) (by omega)) rfl, h2.fr (fun a p q => f' a (by omega) (by omega) (by omega) (by omega) (by omega)), ⟨?_, g2, ?_, ?_, h3.2.2.2.2.fr (fun a ha => f' a (by omega) (by omega) (by omega) (by omega) (by omega)) (g3 8 (by decide) (by decide))⟩, h4.fr (fun a p q => f' a (by omega) (by omega) (by omega) (by omega) (by omega)), h5.fr (fun a p q => f' a (by omega) (by omega) (by omega) (by omega) (by omega)), (h6.fr (f' _ (by omega) (by omega) (by omega) (by omega) (by omega))).cg (fun k hk => if_neg (by omega)), h7.fr he (fun a p q => f' a (by omega) (by omega) (by omega) (by omega) (by omega)), h8.fr (fun a p q => f' a (by omega) (by omega) (by omega) (by omega) (by omega)) (f' _ (by omega) (by omega) (by omega) (by omega) (by omega)), ⟨by rw [g4 0 (by decide) (by decide)]; exact h9.1, by rw [g4 6 (by decide) (by decide)]; exact h9.2.1, g1⟩, h10.fr (fun a p q => f' a (by omega) (by omega) (by omega) (by omega) (by omega)) (fun _ _ _ => rfl)⟩ ⟨fun a ha => g5 a (fun w => ha ?_), fun _ _ => rfl⟩
  · rw [g3 10 (by decide) (by decide)]; exact h3.1
  · rw [g3 12 (by decide) (by decide)]; exact h3.2.2.1
  · rw [g3 13 (by decide) (by decide)]; exact h3.2.2.2.1
  · refine cX_in ?_
    rcases w with w | w | w | w | w
    · unfold cPut at w; omega
    · exact Or.inr (Or.inr w)
    · omega
    · omega
    · omega
theorem flyR_cg {mtu : Int} {kf mf kf' mf' : Int → List Int} {many : Nat} {K N : Nat → Int} {B : Nat → List Int} {ack : Int → Int} (hm : many ≤ 3) (h : ∀ f, f < many → epK (K f) ≠ 0 → kf (epK (K f)) = kf' (epK (K f)) ∧ mf (epK (K f)) = mf' (epK (K f))) : ∀ (n : Nat) (at_ : Int) (t : FS), 0 ≤ at_ → flyR mtu kf mf many K N B ack n at_ t = flyR mtu kf' mf' many K N B ack n at_ t := by
  intro n
  induction n with
  | zero => intro at_ t _; rfl
  | succ n ih =>
    intro at_ t h0
    unfold flyR
    by_cases c : (fs B many : Int) ≤ at_
    · rw [if_pos c, if_pos c]
    · rw [if_neg c, if_neg c]
      by_cases ca : ack at_ ≠ 0
      · rw [if_pos ca, if_pos ca]
        exact ih _ _ (by omega)
      · rw [if_neg ca, if_neg ca]
        have hf := (fs_idx hm h0 (by omega : at_ < (fs B many : Int))).1
        have e : ∀ (at2 cnt : Int) (t2 : FS), fragS kf mf K N B (fidx B at_) at2 cnt t2 = fragS kf' mf' K N B (fidx B at_) at2 cnt t2 := fun at2 cnt t2 => by
          unfold fragS
          rw [putS_cg (kf := kf) (mf := mf) (kf' := kf') (mf' := mf') (fun q => (h _ hf q).1) (fun q => (h _ hf q).2)]
        simp only [e]
        exact ih _ _ (by omega)
theorem ms_fly {bd s : Int} {A : SA} {J : zM} {L : yM} {Q : zM → yM → Prop} (hs : s01 s) (h : MS s J L A) (ai : AI bd s A) (hnow : J 491 3 = aZ A 17) (hrun : aZ A 10 = 1) (hlv : live (aZ A 0)) (hlg : (aT A).2.2.2.2.length + 204 ≤ 1836) (hQ : ∀ J', MS s J' L (flyA s A) → MO s J L J' L → Q J' L) : w_X12_fly s J L Q := by
  obtain ⟨a0, a1, a2, a3, a4, a5, a6, a7, a8, a9, a10, a11, a12⟩ := h
  have hm : 100 ≤ aZ A 18 ∧ aZ A 18 ≤ 500 := ai.1.2.2.2.2.2.2.2.2.2.2.2.2.2.2.2.2.2.2.1
  have hf := ai.2.2.2.1
  have hd := ai.2.2.2.2.2.2.2.1.2.2
  obtain ⟨kf, mf, k1, k2, k3⟩ := MKy_ex hs a8
  have h30 : J 491 30 = 0 := by have := a9.2.2.2.1.1.1; rw [hd] at this; exact this
  have e30 : zs J 491 30 0 = J := by
    funext a i
    by_cases q : a = 491 ∧ i = 30
    · rw [q.1, q.2, zs_s, h30]
    · exact zs_n J (by omega)
  obtain ⟨b1, b2, b3, ack, b4, b5, b6⟩ := a3
  have hack : ack = (aF A).2.2.2.2 := funext (b5 hrun)
  subst hack
  refine s_fly hs b6 hf.1.2.2 hf.2.1 (by rw [e30]; exact a9) hd (fun _ => k1) a11.1 hm hlg hnow a12 (fun J' g1 g2 g3 g4 g5 => ?_)
  have hcg : flyR (aZ A 18) kf mf (aF A).1 (aF A).2.1 (aF A).2.2.1 (aF A).2.2.2.1 (aF A).2.2.2.2 (fs (aF A).2.2.2.1 (aF A).1) 0 (aT A) = flyR (aZ A 18) (kfA s A) (mfA s A) (aF A).1 (aF A).2.1 (aF A).2.2.1 (aF A).2.2.2.1 (aF A).2.2.2.2 (fs (aF A).2.2.2.1 (aF A).1) 0 (aT A) := by
    refine flyR_cg hf.1.1 (fun f hfm hne => ?_) _ _ _ (by decide)
    have hz := hf.2.2.2 f hfm hne
    have e2 : epK ((aF A).2.1 f) = 2 := by
      unfold epK at *
      split at hne
      · rename_i q; rw [if_pos q]
      · exact absurd rfl hne
    rw [e2]
    exact k2 (by omega)
  rw [hcg] at g1
  have c : ∀ (C : Nat → Prop), (∀ a, C a → a ≠ 491 → ¬ (cSm a ∨ a = 523 ∨ a = 525)) → oEq s C J J' := fun C hC => oEq.F g5 hC (fun _ i hi ht => by unfold tSm at ht; omega)
  have e525 : ∀ i, i ≠ s → J' 525 i = J 525 i := fun i hi => by rw [g2, zs_n J (Or.inr hi)]
  have e523 : ∀ i, i ≠ s → J' 523 i = J 523 i := fun i hi => by rw [g3, zs_n J (Or.inr hi)]
  have s525 : J' 525 s = aZ A 17 := by rw [g2, zs_s]
  have s523 : J' 523 s = 1 := by rw [g3, zs_s]
  have x : ∀ a i, ¬ (cSm a ∨ a = 523 ∨ a = 525) → a ≠ 491 → J' a i = J a i := fun a i p q => by rw [g5.1 a p q]
  obtain ⟨p0, p1, p2, p3, p4, p5, p6, p7, p8, p9, p10, p11⟩ := a0
  refine hQ J' ⟨⟨?_, ?_, ?_, ?_, ?_, ?_, ?_, s525, ?_, ?_, p10, p11⟩, ?_, a2.fr (c _ (by omega)), ⟨?_, ?_, ?_, (aF A).2.2.2.2, b4, fun _ _ => rfl, b6.ow hs (c _ (by omega))⟩, ⟨a4.1.fr hs (c _ (by omega)), a4.2.fr (c _ (by omega))⟩, a5.fr (c _ (by omega)), (a6.fr (c _ (by omega))).cg (fun k hk => if_neg (by omega)), a7.fr hs (c _ (by omega)), a8.fr (c _ (by omega)), g1, a10.fr (c _ (by omega)) (fun _ _ _ => rfl), a11.fr (c _ (by omega)), mKa a12 (c _ (by omega))⟩ ?_
  · rw [x _ _ (by omega) (by omega)]; exact p0
  · rw [x _ _ (by omega) (by omega)]; exact p1
  · rw [x _ _ (by omega) (by omega)]; exact p2
  · rw [x _ _ (by omega) (by omega)]; exact p3
  · rw [x _ _ (by omega) (by omega)]; exact p4
  · rw [x _ _ (by omega) (by omega)]; exact p5
  · rw [x _ _ (by omega) (by omega)]; exact p6
  · rw [x _ _ (by omega) (by omega)]; exact p8
  · rw [x _ _ (by omega) (by omega)]; exact p9
  · obtain ⟨q1, q2, q3, q4, q5, q6, q7⟩ := a1
    refine ⟨fun h0 h1 => ?_, fun h0 => ?_, fun _ => s523, by rw [s523]; decide, fun h0 => ?_, ?_, ?_⟩
    · rw [x 536 0 (by omega) (by omega)]; exact q1 h0 h1
    · exfalso
      have h0 : aZ A 0 = 0 := h0
      unfold live at hlv
      omega
    · rw [g5.2 4 (by unfold tSm; omega), g5.2 58 (by unfold tSm; omega)]; exact q5 h0
    · rw [x 506 s (by omega) (by omega)]; exact q6
    · rw [x 507 s (by omega) (by omega)]; exact q7
  · rw [x _ _ (by omega) (by omega)]; exact b1
  · rw [x _ _ (by omega) (by omega)]; exact b2
  · rw [x _ _ (by omega) (by omega)]; exact b3
  · obtain ⟨o1, o2, o3, o4, o5⟩ := g4
    have hlen : J' 509 s = J 509 s := by
      have l1 : (mN s J').length = (J' 509 s).toNat := mr_len _ _
      have l2 : (mN s J).length = (J 509 s).toNat := mr_len _ _
      rw [o1, l2] at l1
      have b1 := (g1.1.2 s hs).1
      have b2 := (a9.1.2 s hs).1
      omega
    have n30 : J' 491 30 = 0 := by have := g1.2.2.2.1.1.1; rw [flushS_dg] at this; exact this
    refine ⟨?_, fun _ _ _ => rfl, o1, hlen, fun _ => g1.1.2, fun _ => n30, fun a ha => ⟨g5.1 a (by omega) (by omega), rfl⟩⟩
    intro a i ho
    by_cases q1 : a = 512
    · subst q1; exact o2 i (by have := ow1 ho (by omega); omega)
    · by_cases q2 : a = 514
      · subst q2; exact o3 i (by have := ow4 ho (by omega); omega)
      · by_cases q3 : a = 528
        · subst q3; exact o4 i (by have := ow1 ho (by omega); omega)
        · by_cases q4 : a = 529
          · subst q4; exact o5 i (by have := ow529 ho; omega)
          · by_cases q5 : a = 523
            · subst q5; exact e523 i (by have := ow1 ho (by omega); omega)
            · by_cases q6 : a = 525
              · subst q6; exact e525 i (by have := ow1 ho (by omega); omega)
              · by_cases q7 : a = 491
                · subst q7
                  exact g5.2 i (fun ht => by have := ow491 ho; unfold tSm at ht; omega)
                · exact x a i (by have := own_cell ho; omega) q7
