/-! the model's side without what is only told of a FLIGHT and of one that has begun -/
def M1w (s : Int) (J : zM) (z : Nat → Int) : Prop := (s = 0 → (z 0 = 0 ∨ z 0 = 1) → (z 1 = 2 ∧ J 536 0 = 0) ∨ (z 1 = 8 ∧ J 536 0 = 1) ∨ (z 1 = 20 ∧ J 536 0 = 2)) ∧ (s = 0 → (z 0 = 0 → J 491 4 = 0) ∧ (live (z 0) → J 491 4 = 1) ∧ B01 (J 491 4) ∧ J 491 58 = z 12) ∧ J 506 s = (if 2 ≤ z 13 then 1 else 0) ∧ J 507 s = (if 3 ≤ z 13 then 1 else 0)
def Mfw (s : Int) (J : zM) (z : Nat → Int) : Prop := (z 0 = 0 → J 523 s = 0) ∧ (live (z 0) → J 523 s = 1) ∧ B01 (J 523 s)
def M2a (s : Int) (J : zM) (y : Nat → List Int) : Prop := sg J 492 (1024 * s) 16 = y 0 ∧ sg J 492 (1024 * s + 16) 8 = y 1 ∧ sg J 492 (1024 * s + 24) 8 = y 2 ∧ (s = 1 → J 491 7 = ((y 3).length : Int) ∧ sg J 493 0 (y 3).length = y 3)
def M2l (s : Int) (J : zM) (z : Nat → Int) (y : Nat → List Int) : Prop := s = 0 → live (z 0) → sg J 492 890 16 = y 4 ∧ J 492 531 = ((y 5).length : Int) ∧ sg J 492 32 32 = earI (y 0)
def M44b (s : Int) (J : zM) (z : Nat → Int) (y : Nat → List Int) : Prop := (2 ≤ z 13 → sg J 492 (1024 * s + 64) 32 = y 14 ∧ sg J 492 (1024 * s + 96) 32 = y 15 ∧ ∀ i : Nat, i < 2 → sg J 492 (1024 * s + 128 + 32 * (i : Int)) 32 = y (10 + i) ∧ sg J 492 (1024 * s + 256 + 64 * (i : Int)) 32 = y (16 + i) ∧ sg J 492 (1024 * s + 256 + 64 * (i : Int) + 32) 32 = y (20 + i)) ∧ (3 ≤ z 13 → ∀ i : Nat, 2 ≤ i → i < 4 → sg J 492 (1024 * s + 128 + 32 * (i : Int)) 32 = y (10 + i) ∧ sg J 492 (1024 * s + 256 + 64 * (i : Int)) 32 = y (16 + i) ∧ sg J 492 (1024 * s + 256 + 64 * (i : Int) + 32) 32 = y (20 + i)) ∧ oct (sg J 492 (1024 * s + 256) 256)
def M44l (s : Int) (J : zM) (z : Nat → Int) (y : Nat → List Int) : Prop := live (z 0) → ∀ i : Nat, i < 4 → y (6 + i) ≠ [] → mMs J (plT s i) (y (6 + i))
def MSc (s : Int) (J : zM) (L : yM) (A : SA) : Prop := M0 s J L (aZ A) ∧ M1w s J (aZ A) ∧ M2a s J (aY A) ∧ (MKp s J (aZ A 2) (aK A) ∧ MKr s J) ∧ M33 s J (aZ A) (aL A) ∧ M37 s J (aZ A) ∧ M38 s J (aZ A 5) (aW A) ∧ M44b s J (aZ A) (aY A) ∧ MSn s J (aT A) ∧ M72 s J L (aN A) ∧ M15 s J (aZ A) ∧ mK (zi J)
abbrev cM1w (a : Nat) : Prop := a = 491 ∨ a = 506 ∨ a = 507 ∨ a = 536
section CORE
variable {s : Int} {J J' : zM} {L L' : yM} {A : SA}
theorem MS.core (h : MS s J L A) : MSc s J L A := by
  obtain ⟨a0, a1, a2, a3, a4, a5, a6, a7, a8, a9, a10, a11, a12⟩ := h
  exact ⟨a0, ⟨a1.1, a1.2.2.2.2⟩, ⟨a2.1, a2.2.1, a2.2.2.1, a2.2.2.2.2⟩, a4, a5, a6, a7, a8.2, a9, a10, a11, a12⟩
theorem MSc.full (h : MSc s J L A) (f : Mfw s J (aZ A)) (l2 : M2l s J (aZ A) (aY A)) (l4 : M44l s J (aZ A) (aY A)) (a3 : M8 s J (aZ A) (aF A)) : MS s J L A := by
  obtain ⟨a0, a1, a2, a4, a5, a6, a7, a8, a9, a10, a11, a12⟩ := h
  exact ⟨a0, ⟨a1.1, f.1, f.2.1, f.2.2, a1.2⟩, ⟨a2.1, a2.2.1, a2.2.2.1, l2, a2.2.2.2⟩, a3, a4, a5, a6, a7, ⟨l4, a8⟩, a9, a10, a11, a12⟩
theorem M1w.fr {z : Nat → Int} (h : M1w s J z) (f : oEq s cM1w J J') : M1w s J' z := by
  obtain ⟨h1, h5, h6, h7⟩ := h
  rw [← f 506 s (own1 (by omega)) (by omega)] at h6
  rw [← f 507 s (own1 (by omega)) (by omega)] at h7
  refine ⟨fun hs => ?_, fun hs => ?_, h6, h7⟩
  · subst hs
    rw [f 536 0 (own1 (by omega)) (by omega)]
    exact h1 rfl
  · rw [f 491 4 (own491 (by omega)) (by omega), f 491 58 (own491 (by omega)) (by omega)]
    exact h5 hs
theorem M2a.fr {y : Nat → List Int} (h : M2a s J y) (f : oEq s (fun a => a = 491 ∨ a = 493) J J') (g : ∀ k, 1024 * s ≤ k → k < 1024 * s + 32 → J' 492 k = J 492 k) : M2a s J' y := by
  obtain ⟨h1, h2, h3, h5⟩ := h
  refine ⟨?_, ?_, ?_, fun hs => ?_⟩
  · rw [sg_fr (fun k p q => g k (by omega) (by omega))]; exact h1
  · rw [sg_fr (fun k p q => g k (by omega) (by omega))]; exact h2
  · rw [sg_fr (fun k p q => g k (by omega) (by omega))]; exact h3
  · rw [f 491 7 (own491 (by omega)) (Or.inl rfl), sg_own (a := 493) f (Or.inr rfl) (fun k p q => own493 (by omega))]
    exact h5 hs
theorem M44b.fr {z : Nat → Int} {y : Nat → List Int} (h : M44b s J z y) (g : ∀ k, 1024 * s + 64 ≤ k → k < 1024 * s + 512 → J' 492 k = J 492 k) : M44b s J' z y := by
  obtain ⟨h2, h3, h4⟩ := h
  refine ⟨fun hz => ?_, fun hz i i0 i1 => ?_, by rw [sg_fr (fun k p q => g k (by omega) (by omega))]; exact h4⟩
  · obtain ⟨a1, a2, a3⟩ := h2 hz
    refine ⟨?_, ?_, fun i hi => ?_⟩
    · rw [sg_fr (fun k p q => g k (by omega) (by omega))]; exact a1
    · rw [sg_fr (fun k p q => g k (by omega) (by omega))]; exact a2
    · rw [sg_fr (fun k p q => g k (by omega) (by omega)), sg_fr (fun k p q => g k (by omega) (by omega)), sg_fr (fun k p q => g k (by omega) (by omega))]; exact a3 i hi
  · rw [sg_fr (fun k p q => g k (by omega) (by omega)), sg_fr (fun k p q => g k (by omega) (by omega)), sg_fr (fun k p q => g k (by omega) (by omega))]; exact h3 hz i i0 i1
/-- own changes in a region, and scratch -/
theorem MSc.own {U : Int → Prop} {S : Nat → Prop} {T : Int → Prop} (hs : s01 s) (h : MSc s J L A) (f : mF (fun a => S a ∨ a = 492) T J J') (hS : ∀ a, S a → scr a ∧ a ≠ 513) (hT : ∀ k, T k → scT k ∧ k ≠ 30) (hU : ∀ k, ¬ U k → J' 492 k = J 492 k) (h1 : ∀ k, U k → ¬ (1024 * s ≤ k ∧ k < 1024 * s + 32) ∧ ¬ (1024 * s + 64 ≤ k ∧ k < 1024 * s + 512)) : MSc s J' L A := by
  obtain ⟨a0, a1, a2, a4, a5, a6, a7, a8, a9, a10, a11, a12⟩ := h
  have r : ∀ a, a ≠ 491 → a ≠ 492 → ¬ scr a → J' a = J a := fun a p q r => f.1 a (fun u => u.elim (fun v => r (hS a v).1) q) p
  have c : ∀ (C : Nat → Prop), (∀ a, C a → a ≠ 492 ∧ ¬ scr a) → oEq s C J J' := fun C hC a i ho hc => by
    by_cases q : a = 491
    · subst q
      have := ow491 ho
      exact f.2 i (fun ht => by have := (hT i ht).1; omega)
    · rw [r a q (hC a hc).1 (hC a hc).2]
  have e30 : J' 491 30 = J 491 30 := f.2 30 (fun ht => (hT 30 ht).2 rfl)
  exact ⟨a0.fr (c _ (by omega)) (fun _ _ _ => rfl), a1.fr (c _ (by omega)), a2.fr (c _ (by omega)) (fun k p q => hU k (fun u => (h1 k u).1 ⟨p, q⟩)), ⟨a4.1.fr hs (c _ (by omega)), a4.2.fr (c _ (by omega))⟩, a5.fr (c _ (by omega)), a6.fr (c _ (by omega)), a7.fr hs (c _ (by omega)), a8.fr (fun k p q => hU k (fun u => (h1 k u).2 ⟨p, q⟩)), MSn.fr a9 (fun a ha => by
    by_cases q : a = 513
    · subst q
      exact f.1 513 (fun u => u.elim (fun v => (hS 513 v).2 rfl) (by decide)) (by decide)
    · exact r a (by omega) (by omega) (by omega)) e30, a10.fr (c _ (by omega)) (fun _ _ _ => rfl), a11.fr (c _ (by omega)), mKa a12 (c _ (by omega))⟩
theorem MSc_uz10 (h : MSc s J L A) (v : Int) : MSc s J L (uz 10 v A) := by
  obtain ⟨a0, a1, a2, a4, a5, a6, a7, a8, a9, a10, a11, a12⟩ := h
  exact ⟨a0, a1, a2, a4, a5, a6.cg (fun k hk => if_neg (by omega)), a7, a8, a9, a10, a11, a12⟩
theorem MO.own {U : Int → Prop} {S : Nat → Prop} {T : Int → Prop} (hs : s01 s) (f : mF (fun a => S a ∨ a = 492) T J J') (hS : ∀ a, S a → scr a) (hT : ∀ k, T k → scT k ∧ k ≠ 30) (hU : ∀ k, ¬ U k → J' 492 k = J 492 k) (h1 : ∀ k, U k → 1024 * s ≤ k ∧ k < 1024 * s + 1024) : MO s J L J' L := by
  have r : ∀ a, a ≠ 491 → a ≠ 492 → ¬ scr a → J' a = J a := fun a p q r => f.1 a (fun u => u.elim (fun v => r (hS a v)) q) p
  have e30 : J' 491 30 = J 491 30 := f.2 30 (fun ht => (hT 30 ht).2 rfl)
  refine ⟨fun a i ho => ?_, fun _ _ _ => rfl, mN_fr (r 509 (by decide) (by decide) (by omega)) (r 510 (by decide) (by decide) (by omega)) (r 511 (by decide) (by decide) (by omega)) s, by rw [r 509 (by decide) (by decide) (by omega)], mI_fr (r 509 (by decide) (by decide) (by omega)) (r 510 (by decide) (by decide) (by omega)), fun q => by rw [e30]; exact q, fun a ha => ⟨r a (by omega) (by omega) (by omega), rfl⟩⟩
  by_cases q : a = 491
  · subst q
    have := ow491 ho
    exact f.2 i (fun ht => by have := (hT i ht).1; omega)
  · by_cases q2 : a = 492
    · subst q2
      have := ow492 ho
      exact hU i (fun u => by have := h1 i u; omega)
    · have := own_cell ho
      rw [r a q q2 (by omega)]
end CORE
theorem MKy_exb {s : Int} {J : zM} {A : SA} (hs : s01 s) (h : M44b s J (aZ A) (aY A)) : ∃ kf mf : Int → List Int, MKy s J kf mf ∧ (2 ≤ aZ A 13 → kf 2 = kfA s A 2 ∧ mf 2 = mfA s A 2) ∧ (3 ≤ aZ A 13 → kf 3 = kfA s A 3 ∧ mf 3 = mfA s A 3) := by
  obtain ⟨h2, h3, h4⟩ := h
  refine ⟨fun ep => sg J 492 (kAt s ep) 32, fun ep => sg J 492 (kAt s ep + 32) 32, fun ep hep => ⟨rfl, rfl, oct_sub h4 (by unfold kAt; omega) (by unfold kAt; omega)⟩, fun hz => ?_, fun hz => ?_⟩
  · have q := (h2 hz).2.2 s.toNat (by omega)
    have e1 : kAt s 2 = 1024 * s + 256 + 64 * ((s.toNat : Nat) : Int) := by unfold kAt; omega
    have e2 : (2 * ((2 : Int) - 2) + s).toNat = s.toNat := by omega
    show sg J 492 (kAt s 2) 32 = aY A (16 + (2 * ((2 : Int) - 2) + s).toNat) ∧ sg J 492 (kAt s 2 + 32) 32 = aY A (20 + (2 * ((2 : Int) - 2) + s).toNat)
    rw [e1, e2]
    exact q.2
  · have q := h3 hz (2 + s.toNat) (by omega) (by omega)
    have e1 : kAt s 3 = 1024 * s + 256 + 64 * (((2 + s.toNat : Nat)) : Int) := by unfold kAt; omega
    have e2 : (2 * ((3 : Int) - 2) + s).toNat = 2 + s.toNat := by omega
    show sg J 492 (kAt s 3) 32 = aY A (16 + (2 * ((3 : Int) - 2) + s).toNat) ∧ sg J 492 (kAt s 3 + 32) 32 = aY A (20 + (2 * ((3 : Int) - 2) + s).toNat)
    rw [e1, e2]
    exact q.2
theorem msc_fly {bd s : Int} {A : SA} {J : zM} {L : yM} {Q : zM → yM → Prop} (hs : s01 s) (h : MSc s J L A) (b6 : MFl s J (aF A).1 (aF A).2.1 (aF A).2.2.1 (aF A).2.2.2.1 (aF A).2.2.2.2 (fun f => plK s ((aF A).2.1 f))) (ai : AI bd s A) (hnow : J 491 3 = aZ A 17) (hlg : (aT A).2.2.2.2.length + 204 ≤ 1836) (hQ : ∀ J', MSc s J' L (flyA s A) → MO s J L J' L → J' 523 s = 1 → (∀ a, a = 492 ∨ (517 ≤ a ∧ a ≤ 522) → J' a = J a) → Q J' L) : w_X12_fly s J L Q := by
  obtain ⟨a0, a1, a2, a4, a5, a6, a7, a8, a9, a10, a11, a12⟩ := h
  have hm : 100 ≤ aZ A 18 ∧ aZ A 18 ≤ 500 := ai.1.2.2.2.2.2.2.2.2.2.2.2.2.2.2.2.2.2.2.1
  have hf := ai.2.2.2.1
  have hd := ai.2.2.2.2.2.2.2.1.2.2
  obtain ⟨kf, mf, k1, k2, k3⟩ := MKy_exb hs a8
  have h30 : J 491 30 = 0 := by have := a9.2.2.2.1.1.1; rw [hd] at this; exact this
  have e30 : zs J 491 30 0 = J := by
    funext a i
    by_cases q : a = 491 ∧ i = 30
    · rw [q.1, q.2, zs_s, h30]
    · exact zs_n J (by omega)
  refine s_fly hs b6 hf.1.2.2 hf.2.1 (by rw [e30]; exact a9) hd (fun _ => k1) a11.1 hm hlg hnow a12 (fun J' g1 g2 g3 g4 g5 => ?_)
  have hcg : flyR (aZ A 18) kf mf (aF A).1 (aF A).2.1 (aF A).2.2.1 (aF A).2.2.2.1 (aF A).2.2.2.2 (fs (aF A).2.2.2.1 (aF A).1) 0 (aT A) = flyR (aZ A 18) (kfA s A) (mfA s A) (aF A).1 (aF A).2.1 (aF A).2.2.1 (aF A).2.2.2.1 (aF A).2.2.2.2 (fs (aF A).2.2.2.1 (aF A).1) 0 (aT A) := by
    refine flyR_cg hf.1.1 (fun f hfm hne => ?_) _ _ _ (by decide)
    have hz := hf.2.2.2 f hfm hne
    have e2 : epK ((aF A).2.1 f) = 2 := by
      unfold epK at *
      split at hne
      · rename_i q; rw [if_pos q]
      · exact absurd rfl hne
    rw [e2]
    exact k2 (by omega)
  rw [hcg] at g1
  have c : ∀ (C : Nat → Prop), (∀ a, C a → a ≠ 491 → ¬ (cSm a ∨ a = 523 ∨ a = 525)) → oEq s C J J' := fun C hC => oEq.F g5 hC (fun _ i hi ht => by unfold tSm at ht; omega)
  have e525 : ∀ i, i ≠ s → J' 525 i = J 525 i := fun i hi => by rw [g2, zs_n J (Or.inr hi)]
  have e523 : ∀ i, i ≠ s → J' 523 i = J 523 i := fun i hi => by rw [g3, zs_n J (Or.inr hi)]
  have s525 : J' 525 s = aZ A 17 := by rw [g2, zs_s]
  have s523 : J' 523 s = 1 := by rw [g3, zs_s]
  have x : ∀ a i, ¬ (cSm a ∨ a = 523 ∨ a = 525) → a ≠ 491 → J' a i = J a i := fun a i p q => by rw [g5.1 a p q]
  obtain ⟨p0, p1, p2, p3, p4, p5, p6, p7, p8, p9, p10, p11⟩ := a0
  refine hQ J' ⟨⟨?_, ?_, ?_, ?_, ?_, ?_, ?_, s525, ?_, ?_, p10, p11⟩, a1.fr (c _ (by omega)), a2.fr (c _ (by omega)) (fun k _ _ => x 492 k (by omega) (by omega)), ⟨a4.1.fr hs (c _ (by omega)), a4.2.fr (c _ (by omega))⟩, a5.fr (c _ (by omega)), (a6.fr (c _ (by omega))).cg (fun k hk => if_neg (by omega)), a7.fr hs (c _ (by omega)), a8.fr (fun k _ _ => x 492 k (by omega) (by omega)), g1, a10.fr (c _ (by omega)) (fun _ _ _ => rfl), a11.fr (c _ (by omega)), mKa a12 (c _ (by omega))⟩ ?_ s523 (fun a ha => g5.1 a (by omega) (by omega))
  · rw [x _ _ (by omega) (by omega)]; exact p0
  · rw [x _ _ (by omega) (by omega)]; exact p1
  · rw [x _ _ (by omega) (by omega)]; exact p2
  · rw [x _ _ (by omega) (by omega)]; exact p3
  · rw [x _ _ (by omega) (by omega)]; exact p4
  · rw [x _ _ (by omega) (by omega)]; exact p5
  · rw [x _ _ (by omega) (by omega)]; exact p6
  · rw [x _ _ (by omega) (by omega)]; exact p8
  · rw [x _ _ (by omega) (by omega)]; exact p9
  · obtain ⟨o1, o2, o3, o4, o5⟩ := g4
    have hlen : J' 509 s = J 509 s := by
      have l1 : (mN s J').length = (J' 509 s).toNat := mr_len _ _
      have l2 : (mN s J).length = (J 509 s).toNat := mr_len _ _
      rw [o1, l2] at l1
      have b1 := (g1.1.2 s hs).1
      have b2 := (a9.1.2 s hs).1
      omega
    have n30 : J' 491 30 = 0 := by have := g1.2.2.2.1.1.1; rw [flushS_dg] at this; exact this
    refine ⟨?_, fun _ _ _ => rfl, o1, hlen, fun _ => g1.1.2, fun _ => n30, fun a ha => ⟨g5.1 a (by omega) (by omega), rfl⟩⟩
    intro a i ho
    by_cases q1 : a = 512
    · subst q1; exact o2 i (by have := ow1 ho (by omega); omega)
    · by_cases q2 : a = 514
      · subst q2; exact o3 i (by have := ow4 ho (by omega); omega)
      · by_cases q3 : a = 528
        · subst q3; exact o4 i (by have := ow1 ho (by omega); omega)
        · by_cases q4 : a = 529
          · subst q4; exact o5 i (by have := ow529 ho; omega)
          · by_cases q5 : a = 523
            · subst q5; exact e523 i (by have := ow1 ho (by omega); omega)
            · by_cases q6 : a = 525
              · subst q6; exact e525 i (by have := ow1 ho (by omega); omega)
              · by_cases q7 : a = 491
                · subst q7
                  exact g5.2 i (fun ht => by have := ow491 ho; unfold tSm at ht; omega)
                · exact x a i (by have := own_cell ho; omega) q7
