/-! a FLIGHT begins, in the model -/
def MF0 (s : Int) (J : zM) : Prop := ∀ i, 600 * s ≤ i → i < 600 * s + 600 → J 521 i = 0
theorem ms_clear {s : Int} {A : SA} {J : zM} {L : yM} {Q : zM → yM → Prop} (hs : s01 s) (h : MSc s J L A) (hQ : ∀ J', MSc s J' L (clrA A) → MF0 s J' → MFl s J' 0 (fun _ => 0) (fun _ => 0) (fun _ => []) (fun _ => 0) (fun _ => plK s 0) → MO s J L J' L → J' 492 = J 492 → J' 522 s = 0 → (∀ k, J' 491 k = J 491 k) → Q J' L) : w_X12_clearFlight s J L Q := by
  have hs2 : 0 ≤ s ∧ s < 2 := by omega
  obtain ⟨a0, a1, a2, a4, a5, a6, a7, a8, a9, a10, a11, a12⟩ := h
  unfold w_X12_clearFlight
  refine ⟨hs2, fun J2 e2 x3 ex => ?_⟩
  subst ex
  refine zl_z.by (fun m x J' L' => (m : Int) = 600 * s + 600 - x ∧ 600 * s ≤ x ∧ L' = L ∧ (∀ a, a ≠ 521 → J' a = J2 a) ∧ (∀ i, 600 * s ≤ i → i < x → J' 521 i = 0) ∧ ∀ i, ¬ (600 * s ≤ i ∧ i < 600 * s + 600) → J' 521 i = J 521 i) ?_ 600 _ J2 L ⟨by omega, by omega, rfl, fun _ _ => rfl, fun i p q => by omega, fun i q => by rw [e2, zs_r J (by omega)]⟩
  rintro m x J1 L1 KK ⟨hm1, hx, rfl, r1, z1, y1⟩ hKK
  refine ⟨⟨by omega, by omega⟩, ⟨by omega, by omega⟩, ?_⟩
  by_cases c : x < 600 * s + 600
  · rw [if_pos c]
    refine ⟨⟨by omega, by omega⟩, fun J22 e22 => hKK (m - 1) (x + 1) J22 L1 (by omega) ⟨by omega, by omega, rfl, fun a ha => by rw [e22, zs_r _ ha]; exact r1 a ha, fun i p q => ?_, fun i q => by rw [e22, zs_n _ (Or.inr (by omega))]; exact y1 i q⟩⟩
    by_cases d : i = x
    · rw [e22, d, zs_s]
    · rw [e22, zs_n _ (Or.inr d)]; exact z1 i p (by omega)
  · rw [if_neg c]
    have hxe : x = 600 * s + 600 := by omega
    refine ⟨hs2, fun J3 e3 => ⟨hs2, fun J4 e4 => ⟨hs2, fun J5 e5 => ⟨hs2, fun J6 e6 => ⟨hs2, fun J7 e7 => ?_⟩⟩⟩⟩⟩
    have r : ∀ a, a ≠ 517 → a ≠ 521 → a ≠ 522 → a ≠ 524 → a ≠ 526 → a ≠ 528 → a ≠ 530 → J7 a = J a := fun a p1 p2 p3 p4 p5 p6 p7 => by rw [e7, zs_r _ p4, e6, zs_r _ p5, e5, zs_r _ p3, e4, zs_r _ p7, e3, zs_r _ p6, r1 a p2, e2, zs_r _ p1]
    have v517 : J7 517 = (zs J 517 s 0) 517 := by rw [e7, zs_r _ (by decide), e6, zs_r _ (by decide), e5, zs_r _ (by decide), e4, zs_r _ (by decide), e3, zs_r _ (by decide), r1 _ (by decide), e2]
    have v521 : J7 521 = J1 521 := by rw [e7, zs_r _ (by decide), e6, zs_r _ (by decide), e5, zs_r _ (by decide), e4, zs_r _ (by decide), e3, zs_r _ (by decide)]
    have v528 : J7 528 = (zs J 528 s 0) 528 := by rw [e7, zs_r _ (by decide), e6, zs_r _ (by decide), e5, zs_r _ (by decide), e4, zs_r _ (by decide), e3, zs_row, zs_row, r1 _ (by decide), e2, zs_r _ (by decide)]
    have v530 : J7 530 = (zs J 530 s 0) 530 := by rw [e7, zs_r _ (by decide), e6, zs_r _ (by decide), e5, zs_r _ (by decide), e4, zs_row, zs_row, e3, zs_r _ (by decide), r1 _ (by decide), e2, zs_r _ (by decide)]
    have v522 : J7 522 = (zs J 522 s 0) 522 := by rw [e7, zs_r _ (by decide), e6, zs_r _ (by decide), e5, zs_row, zs_row, e4, zs_r _ (by decide), e3, zs_r _ (by decide), r1 _ (by decide), e2, zs_r _ (by decide)]
    have v526 : J7 526 = (zs J 526 s 0) 526 := by rw [e7, zs_r _ (by decide), e6, zs_row, zs_row, e5, zs_r _ (by decide), e4, zs_r _ (by decide), e3, zs_r _ (by decide), r1 _ (by decide), e2, zs_r _ (by decide)]
    have v524 : J7 524 = (zs J 524 s 4) 524 := by rw [e7, zs_row, zs_row, e6, zs_r _ (by decide), e5, zs_r _ (by decide), e4, zs_r _ (by decide), e3, zs_r _ (by decide), r1 _ (by decide), e2, zs_r _ (by decide)]
    have c : ∀ (C : Nat → Prop), (∀ a, C a → a ≠ 517 ∧ a ≠ 521 ∧ a ≠ 522 ∧ a ≠ 524 ∧ a ≠ 526 ∧ a ≠ 528 ∧ a ≠ 530) → oEq s C J J7 := fun C hC a i _ hc => by
      obtain ⟨p1, p2, p3, p4, p5, p6, p7⟩ := hC a hc
      rw [r a p1 p2 p3 p4 p5 p6 p7]
    have rr : ∀ a i, a ≠ 517 ∧ a ≠ 521 ∧ a ≠ 522 ∧ a ≠ 524 ∧ a ≠ 526 ∧ a ≠ 528 ∧ a ≠ 530 → J7 a i = J a i := fun a i p => by rw [r a p.1 p.2.1 p.2.2.1 p.2.2.2.1 p.2.2.2.2.1 p.2.2.2.2.2.1 p.2.2.2.2.2.2]
    have nn := mN_fr (r 509 (by decide) (by decide) (by decide) (by decide) (by decide) (by decide) (by decide)) (r 510 (by decide) (by decide) (by decide) (by decide) (by decide) (by decide) (by decide)) (r 511 (by decide) (by decide) (by decide) (by decide) (by decide) (by decide) (by decide))
    have ni : mI J → mI J7 := mI_fr (r 509 (by decide) (by decide) (by decide) (by decide) (by decide) (by decide) (by decide)) (r 510 (by decide) (by decide) (by decide) (by decide) (by decide) (by decide) (by decide))
    obtain ⟨p0, p1, p2, p3, p4, p5, p6, p7, p8, p9, p10, p11⟩ := a0
    obtain ⟨t1, t2, t3, t4, t5⟩ := a9
    refine hQ J7 ⟨⟨by rw [rr _ _ (by decide)]; exact p0, by rw [rr _ _ (by decide)]; exact p1, by rw [rr _ _ (by decide)]; exact p2, by rw [rr _ _ (by decide)]; exact p3, by rw [rr _ _ (by decide)]; exact p4, by rw [rr _ _ (by decide)]; exact p5, by rw [v524]; exact zs_s _ _ _ _, by rw [rr _ _ (by decide)]; exact p7, by rw [v526]; exact zs_s _ _ _ _, by rw [rr _ _ (by decide)]; exact p9, p10, p11⟩, a1.fr (c _ (by omega)), a2.fr (c _ (by omega)) (fun k _ _ => rr _ _ (by decide)), ⟨a4.1.fr hs (c _ (by omega)), a4.2.fr (c _ (by omega))⟩, ⟨MLi_nil (by rw [v530]; exact zs_s _ _ _ _), fun q => absurd rfl q⟩, (a6.fr (c _ (by omega))).cg (fun k hk => ?_), a7.fr hs (c _ (by omega)), a8.fr (fun k _ _ => rr _ _ (by decide)), ⟨⟨(nn _).trans t1.1, ni t1.2⟩, by rw [rr _ _ (by decide)]; exact t2, fun ep hep => by rw [rr _ _ (by decide)]; exact t3 ep hep, ⟨t4.1.fr (rr _ _ (by decide)) (r 513 (by decide) (by decide) (by decide) (by decide) (by decide) (by decide) (by decide)), t4.2⟩, ML_nil (by rw [v528]; exact zs_s _ _ _ _)⟩, a10.fr (c _ (by omega)) (fun _ _ _ => rfl), a11.fr (c _ (by omega)), mKa a12 (c _ (by omega))⟩ (fun i i0 i1 => by rw [v521]; exact z1 i i0 (by omega)) ⟨by rw [v517]; exact zs_s _ _ _ _, Nat.zero_le 3, fun f hf => absurd hf (Nat.not_lt_zero _), fun f hf => absurd hf (Nat.not_lt_zero _)⟩ ⟨?_, fun _ _ _ => rfl, nn _, rr _ _ (by decide), ni, fun q => by rw [rr _ _ (by decide)]; exact q, fun a ha => ⟨funext fun i => rr a i (by omega), rfl⟩⟩ (funext fun i => rr _ _ (by decide)) (by rw [v522]; exact zs_s _ _ _ _) (fun k => rr _ _ (by decide))
    · show (if 21 + k = 10 then (0 : Int) else if 21 + k = 9 then 0 else if 21 + k = 7 then 4 else if 21 + k = 14 then 0 else A.1 (21 + k)) = A.1 (21 + k)
      rw [if_neg (by omega), if_neg (by omega), if_neg (by omega), if_neg (by omega)]
    · intro a i ho
      by_cases q : a ≠ 517 ∧ a ≠ 521 ∧ a ≠ 522 ∧ a ≠ 524 ∧ a ≠ 526 ∧ a ≠ 528 ∧ a ≠ 530
      · exact rr a i q
      · by_cases q1 : a = 521
        · subst q1
          have := ow521 ho
          rw [v521]
          exact y1 i (by omega)
        · have hi := ow1 ho (by omega)
          have hne : i ≠ s := by omega
          by_cases b1 : a = 517
          · subst b1; rw [v517, zs_n _ (Or.inr hne)]
          · by_cases b2 : a = 522
            · subst b2; rw [v522, zs_n _ (Or.inr hne)]
            · by_cases b3 : a = 524
              · subst b3; rw [v524, zs_n _ (Or.inr hne)]
              · by_cases b4 : a = 526
                · subst b4; rw [v526, zs_n _ (Or.inr hne)]
                · by_cases b5 : a = 528
                  · subst b5; rw [v528, zs_n _ (Or.inr hne)]
                  · have b6 : a = 530 := by omega
                    subst b6; rw [v530, zs_n _ (Or.inr hne)]
theorem ms_fadd {s kind num : Int} {many : Nat} {K N K' N' : Nat → Int} {B B' : Nat → List Int} {A : SA} {J : zM} {L : yM} {Q : zM → yM → Prop} (hs : s01 s) (h : MSc s J L A) (h0 : MF0 s J) {P : Nat → Int} (hF : MFl s J many K N B (fun _ => 0) P) (hP : ∀ f, f < many → P f = plK s (K f)) (hm : many < 3) (hK : ∀ f, f < many → K' f = K f ∧ N' f = N f ∧ B' f = B f) (hk : K' many = kind ∧ N' many = num) (hms : mMs J (plK s kind) (msgI kind (B' many))) (hnum : 0 ≤ num ∧ num < 256) (hb : 0 < (B' many).length)
    (hQ : ∀ J', MSc s J' L A → MF0 s J' → MFl s J' (many + 1) K' N' B' (fun _ => 0) (fun f => plK s (K' f)) → MO s J L J' L → J' 492 = J 492 → J' 522 = J 522 → (∀ k, J' 491 k = J 491 k) → Q J' L) : w_X12_addFlight s (plK s kind) (epK kind) num J L Q := by
  have hs2 : 0 ≤ s ∧ s < 2 := by omega
  obtain ⟨a0, a1, a2, a4, a5, a6, a7, a8, a9, a10, a11, a12⟩ := h
  obtain ⟨f1, f2, f3, f4⟩ := hF
  unfold w_X12_addFlight
  refine ⟨hs2, fun x2 ex => ?_⟩
  rw [f1] at ex
  subst ex
  refine ⟨⟨by omega, by omega⟩, fun J4 e4 => ⟨⟨by omega, by omega⟩, fun J6 e6 => ⟨⟨by omega, by omega⟩, fun J8 e8 => ⟨hs2, hs2, fun J9 e9 => ?_⟩⟩⟩⟩
  have m8 : J8 517 s = (many : Int) := by rw [e8, zs_r _ (by decide), e6, zs_r _ (by decide), e4, zs_r _ (by decide)]; exact f1
  rw [m8] at e9
  have r : ∀ a, ¬ (517 ≤ a ∧ a ≤ 520) → J9 a = J a := fun a ha => by rw [e9, zs_r _ (by omega), e8, zs_r _ (by omega), e6, zs_r _ (by omega), e4, zs_r _ (by omega)]
  have v517 : J9 517 = (zs J 517 s ((many : Int) + 1)) 517 := by rw [e9, zs_row, zs_row, e8, zs_r _ (by decide), e6, zs_r _ (by decide), e4, zs_r _ (by decide)]
  have v518 : J9 518 = (zs J 518 (3 * s + (many : Int)) (plK s kind)) 518 := by rw [e9, zs_r _ (by decide), e8, zs_r _ (by decide), e6, zs_r _ (by decide), e4]
  have v519 : J9 519 = (zs J 519 (3 * s + (many : Int)) (epK kind)) 519 := by rw [e9, zs_r _ (by decide), e8, zs_r _ (by decide), e6, zs_row, zs_row, e4, zs_r _ (by decide)]
  have v520 : J9 520 = (zs J 520 (3 * s + (many : Int)) num) 520 := by rw [e9, zs_r _ (by decide), e8, zs_row, zs_row, e6, zs_r _ (by decide), e4, zs_r _ (by decide)]
  have c : ∀ (C : Nat → Prop), (∀ a, C a → ¬ (517 ≤ a ∧ a ≤ 520)) → oEq s C J J9 := fun C hC a i _ hc => by rw [r a (hC a hc)]
  have nn := mN_fr (r 509 (by decide)) (r 510 (by decide)) (r 511 (by decide))
  have ni : mI J → mI J9 := mI_fr (r 509 (by decide)) (r 510 (by decide))
  have hpl := plK_b kind hs
  refine hQ J9 ⟨a0.fr (c _ (by omega)) (fun _ _ _ => rfl), a1.fr (c _ (by omega)), a2.fr (c _ (by omega)) (fun k _ _ => by rw [r 492 (by decide)]), ⟨a4.1.fr hs (c _ (by omega)), a4.2.fr (c _ (by omega))⟩, a5.fr (c _ (by omega)), a6.fr (c _ (by omega)), a7.fr hs (c _ (by omega)), a8.fr (fun k _ _ => by rw [r 492 (by decide)]), MSn.fr a9 (fun a ha => r a (by omega)) (by rw [r 491 (by decide)]), a10.fr (c _ (by omega)) (fun _ _ _ => rfl), a11.fr (c _ (by omega)), mKa a12 (c _ (by omega))⟩ (fun i i0 i1 => by rw [r 521 (by decide)]; exact h0 i i0 i1) ⟨by rw [v517]; exact zs_s _ _ _ _, by show many + 1 ≤ 3; omega, fun f hf => ?_, fun f hf k k0 k1 => ?_⟩ ⟨fun a i ho => ?_, fun _ _ _ => rfl, nn _, by rw [r 509 (by decide)], ni, fun q => by rw [r 491 (by decide)]; exact q, fun a ha => ⟨r a (by omega), rfl⟩⟩ (r 492 (by decide)) (r 522 (by decide)) (fun k => by rw [r 491 (by decide)])
  · have hf : f < many + 1 := hf
    show J9 518 (3 * s + (f : Int)) = plK s (K' f) ∧ (0 ≤ plK s (K' f) ∧ plK s (K' f) + 160 ≤ 2048) ∧ mMs J9 (plK s (K' f)) (msgI (K' f) (B' f)) ∧ J9 519 (3 * s + (f : Int)) = epK (K' f) ∧ J9 520 (3 * s + (f : Int)) = N' f ∧ (0 ≤ N' f ∧ N' f < 256) ∧ 0 < (B' f).length
    rw [v518, v519, v520]
    by_cases d : f = many
    · subst d
      rw [zs_s, zs_s, zs_s, hk.1, hk.2]
      exact ⟨rfl, by omega, hms.fr (fun k _ _ => by rw [r 492 (by decide)]), rfl, rfl, hnum, hb⟩
    · obtain ⟨g1, g2, g3⟩ := hK f (by omega)
      rw [zs_n _ (Or.inr (by omega)), zs_n _ (Or.inr (by omega)), zs_n _ (Or.inr (by omega)), g1, g2, g3]
      obtain ⟨q1, q2, q3, q4⟩ := f3 f (by show f < many; omega)
      rw [hP f (by omega)] at q1 q2 q3
      exact ⟨q1, q2, q3.fr (fun k _ _ => by rw [r 492 (by decide)]), q4⟩
  · have hf : f < many + 1 := hf
    have hl : (B' f).length ≤ 157 := by
      by_cases d : f = many
      · subst d
        exact hms.size.2.2.2.1
      · rw [(hK f (by omega)).2.2]
        exact (f3 f (by show f < many; omega)).2.2.1.size.2.2.2.1
    have k1 : k < ((B' f).length : Int) := k1
    rw [r 521 (by decide)]
    exact h0 _ (by omega) (by omega)
  · by_cases q : 517 ≤ a ∧ a ≤ 520
    · by_cases b1 : a = 517
      · subst b1
        have := ow1 ho (by omega)
        rw [v517, zs_n _ (Or.inr (by omega))]
      · have := ow3 ho (by omega)
        by_cases b2 : a = 518
        · subst b2; rw [v518, zs_n _ (Or.inr (by omega))]
        · by_cases b3 : a = 519
          · subst b3; rw [v519, zs_n _ (Or.inr (by omega))]
          · have b4 : a = 520 := by omega
            subst b4; rw [v520, zs_n _ (Or.inr (by omega))]
    · rw [r a q]
