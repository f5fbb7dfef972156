theorem MSc.draw {c sh ow : Int} {r : List Int} {J J' : zM} {L L' : yM} {A : SA} (h : MSc 1 J L A) (f : mF (fun a => cCh a ∨ a = 492) t13 J J') (h503 : J' 503 1 = c) (h503o : ∀ k, k ≠ 1 → J' 503 k = J 503 k) (hU : ∀ k, ¬ (1624 ≤ k ∧ k < 1814) → J' 492 k = J 492 k) (hL5 : (L' 505 1).toInt = sh) (hL4 : (L' 504 1).toInt = ow) (hL : ∀ a i, (a ≠ 504 ∨ i ≠ 1) → (a ≠ 505 ∨ i ≠ 1) → L' a i = L a i) : MSc 1 J' L' (uz 11 c (uz 15 sh (uz 16 ow (uy 4 r A)))) ∧ MO 1 J L J' L' := by
  obtain ⟨a0, a1, a2, a4, a5, a6, a7, a8, a9, a10, a11, a12⟩ := h
  have rr : ∀ a, a ≠ 491 → a ≠ 492 → a ≠ 503 → ¬ (497 ≤ a ∧ a ≤ 501) → J' a = J a := fun a p q t u => f.1 a (by unfold cCh; omega) p
  have k491 : ∀ k, k ≠ 13 → J' 491 k = J 491 k := fun k hk => f.2 k hk
  have c' : ∀ (C : Nat → Prop), (∀ a, C a → a ≠ 492 ∧ a ≠ 503 ∧ ¬ (497 ≤ a ∧ a ≤ 501)) → oEq 1 C J J' := fun C hC a i ho hc => by
    by_cases q : a = 491
    · subst q
      have := ow491 ho
      exact k491 i (by omega)
    · obtain ⟨q1, q2, q3⟩ := hC a hc
      rw [rr a q q1 q2 q3]
  obtain ⟨y0, y1, y2, y3, y4, y5, y6, y7, y8, y9, y10, y11⟩ := a0
  have e : ∀ a i, a ≠ 491 → a ≠ 492 → a ≠ 503 → ¬ (497 ≤ a ∧ a ≤ 501) → J' a i = J a i := fun a i p q t u => by rw [rr a p q t u]
  have nn := mN_fr (rr 509 (by decide) (by decide) (by decide) (by decide)) (rr 510 (by decide) (by decide) (by decide) (by decide)) (rr 511 (by decide) (by decide) (by decide) (by decide))
  refine ⟨⟨⟨?_, ?_, ?_, ?_, ?_, ?_, ?_, ?_, ?_, h503, hL5, hL4⟩, a1.fr (c' _ (by omega)), a2.fr (c' _ (by omega)) (fun k p q => hU k (by omega)), ⟨a4.1.fr (by decide) (c' _ (by omega)), a4.2.fr (c' _ (by omega))⟩, a5.fr (c' _ (by omega)), (a6.fr (c' _ (by omega))).cg (fun k hk => ?_), a7.fr (by decide) (c' _ (by omega)), (a8.fr (fun k p q => hU k (by omega))).cg rfl (fun k k0 k1 => if_neg (by omega)), MSn.fr a9 (fun a ha => rr a (by omega) (by omega) (by omega) (by omega)) (k491 30 (by decide)), fun ep hep => (by rw [e 545 _ (by decide) (by decide) (by decide) (by decide), hL 546 _ (Or.inl (by decide)) (Or.inl (by decide))]; exact a10 ep hep), a11.fr (c' _ (by omega)), mKa a12 (c' _ (by omega))⟩, fun a i ho => ?_, fun a i ho => ?_, nn _, by rw [rr 509 (by decide) (by decide) (by decide) (by decide)], mI_fr (rr 509 (by decide) (by decide) (by decide) (by decide)) (rr 510 (by decide) (by decide) (by decide) (by decide)), fun q => by rw [k491 30 (by decide)]; exact q, fun a ha => ⟨rr a (by omega) (by omega) (by omega) (by omega), funext fun i => hL a i (by omega) (by omega)⟩⟩
  · rw [e _ _ (by decide) (by decide) (by decide) (by decide)]; exact y0
  · rw [e _ _ (by decide) (by decide) (by decide) (by decide)]; exact y1
  · rw [e _ _ (by decide) (by decide) (by decide) (by decide)]; exact y2
  · rw [e _ _ (by decide) (by decide) (by decide) (by decide)]; exact y3
  · rw [e _ _ (by decide) (by decide) (by decide) (by decide)]; exact y4
  · rw [e _ _ (by decide) (by decide) (by decide) (by decide)]; exact y5
  · rw [e _ _ (by decide) (by decide) (by decide) (by decide)]; exact y6
  · rw [e _ _ (by decide) (by decide) (by decide) (by decide)]; exact y7
  · rw [e _ _ (by decide) (by decide) (by decide) (by decide)]; exact y8
  · show (if 21 + k = 11 then c else if 21 + k = 15 then sh else if 21 + k = 16 then ow else A.1 (21 + k)) = A.1 (21 + k)
    rw [if_neg (by omega), if_neg (by omega), if_neg (by omega)]
  · by_cases q : a = 491
    · subst q
      have := ow491 ho
      exact k491 i (by omega)
    · by_cases q2 : a = 492
      · subst q2
        have := ow492 ho
        exact hU i (by omega)
      · by_cases q3 : a = 503
        · subst q3
          have := ow1 ho (by omega)
          exact h503o i (by omega)
        · have := own_cell ho
          rw [rr a q q2 q3 (by omega)]
  · unfold mOwL at ho
    exact hL a i (by omega) (by omega)
theorem nb2_mtu {m : Int} (h : 0 ≤ m ∧ m < 65536) : nb 2 m = [m / 256, m % 256] := by
  rw [nb2]
  congr 1
  omega
/-- ANSWER and SETTINGS stand in own; then the rest -/
theorem ms_ans3 {bd its : Int} {o : Nat} {x7 : Int64} {b : List Int} {A : SA} {J J8 : zM} {L L9 : yM} {Q : zM → yM → Prop} (h : MSc 1 J L A) (ai : AI bd 1 A) (h0 : aZ A 0 = 0) (hits : 0 ≤ its ∧ its ≤ 1) (ho : o = be (partI b (b.length - 44) 4)) (hbl : b.length = 61 ∨ b.length = 77) (Mh : mMs J 1536 (msgI 1 b)) (hear : sg J 492 1056 32 = earI (aY A 0)) (hnow : J 491 3 = aZ A 17)
    (f8 : mF (fun a => cCh a ∨ a = 492) t13 J J8) (u8 : ∀ k, ¬ (1624 ≤ k ∧ k < 1643) → J8 492 k = J 492 k) (s8 : sg J8 492 1624 19 = [2, 0, 20] ++ anR A) (h503 : J8 503 1 = anC o A) (h503o : ∀ k, k ≠ 1 → J8 503 k = J 503 k) (hL5 : (L9 505 1).toInt = anS o A) (hL4 : (L9 504 1).toInt = anO o A) (hL : ∀ a i, (a ≠ 504 ∨ i ≠ 1) → (a ≠ 505 ∨ i ≠ 1) → L9 a i = L a i) (hx7 : ∃ bn : Nat, lN' x7 bn ∧ (bn : Int) = anB o A)
    (hQ : ∀ J' L', MS 1 J' L' (ansS its b A) → MO 1 J L J' L' → Q J' L') :
    w_X12_numberTo ((1024 + 600) + 19) 4 (L9 505 1) J8 L9 (fun J11 L12 => w_X12_putMessage (1024 + 630) 8 (2 + (J11 491 7)) J11 L12 (fun J13 L14 => w_X12_numberTo ((1024 + 630) + 3) 2 (zi2l (J13 491 2)) J13 L14 (fun J15 L16 => zl_z (fun K17 x18 J19 L20 => R32 x18 ∧ R32 (J19 491 7) ∧ (if x18 < (J19 491 7) then ((0 : Int) ≤ x18 ∧ x18 < 150) ∧ ((0 : Int) ≤ (((1024 + 630) + 5) + x18) ∧ (((1024 + 630) + 5) + x18) < 2048) ∧ ∀ J44 : zM, J44 = zs J19 492 (((1024 + 630) + 5) + x18) (J19 493 x18) → K17 (x18 + 1) J44 L20 else w_X12_epochTwo 1 x7 J19 L20 (fun J24 L25 => w_X12_finishedTo 1 (1024 + 790) 1 J24 L25 (fun J26 L27 => w_X12_epochThree 1 J26 L27 (fun J28 L29 => ∀ J30 : zM, J30 = zs J28 534 1 1 → ∀ J31 : zM, J31 = zs J30 535 1 (its + 1) → w_X12_clearFlight 1 J31 L29 (fun J32 L33 => w_X12_addFlight 1 (1024 + 600) 0 its J32 L33 (fun J34 L35 => w_X12_addFlight 1 (1024 + 630) 2 (its + 1) J34 L35 (fun J36 L37 => w_X12_addFlight 1 (1024 + 790) 2 (its + 2) J36 L37 (fun J38 L39 => w_X12_fly 1 J38 L39 (fun J40 L41 => Q J40 L41)))))))))) 0 J15 L16))) := by
  have b18 := ai.b18
  have y3 := ai.y.2.2.2.1
  have aS := anS_b (o := o) ai
  have lA := anA_len o A
  have lG := anG_len ai
  have lR := anR_len A
  have oR : oct (anR A) := oct_take (mcI_oct _ _) 16
  have oA : oct (anA o A) := oct_app.mpr ⟨oR, nb_oct _ _⟩
  have oG : oct (anG A) := oct_app.mpr ⟨by simp only [oct_cons]; exact ⟨by omega, by omega, oct_nil⟩, y3.2⟩
  have r22 := ai.b22 h0
  obtain ⟨bn, hbn, hbB⟩ := hx7
  refine s_numberTo (by decide) (by decide) (by decide) ?_
  rw [hL5]
  obtain ⟨J11, hJ11⟩ : ∃ J11, J11 = zw J8 492 1643 (nb 4 (anS o A)) := ⟨_, rfl⟩
  have hJ11e : zw J8 492 (1024 + 600 + 19) (nb (4 : Int).toNat (anS o A)) = J11 := by rw [hJ11]; rfl
  rw [hJ11e]
  have r11 : ∀ a, a ≠ 492 → J11 a = J8 a := fun a ha => by rw [hJ11]; exact zw_r _ ha
  have u11 : ∀ k, ¬ (1624 ≤ k ∧ k < 1647) → J11 492 k = J 492 k := fun k hk => by rw [hJ11, zw_out J8 (by rw [nb_len]; omega), u8 k (by omega)]
  have s11 : sg J11 492 1624 (3 + (anA o A).length) = msgI 2 (anA o A) := by
    rw [lA, show (3 + 20 : Nat) = 19 + 4 from rfl, sg_app, hJ11]
    have e1 := zw_sg J8 492 1643 (nb 4 (anS o A))
    rw [nb_len] at e1
    rw [show (1624 : Int) + ((19 : Nat) : Int) = 1643 from rfl, e1, sg_zw_in (fun k p q => by rw [nb_len]; omega), s8]
    unfold msgI anA
    have : (anR A ++ nb 4 (anS o A)).length = 20 := lA
    rw [this]
    rfl
  have m2 : mMs J11 1624 (msgI 2 (anA o A)) := mMs_mk s11 (by decide) oA (by omega)
  have g7 : J 491 7 = ((aY A 3).length : Int) := (h.2.2.1.2.2.2 rfl).1
  have g493 : sg J 493 0 (aY A 3).length = aY A 3 := (h.2.2.1.2.2.2 rfl).2
  have g2 : J 491 2 = aZ A 18 := h.2.2.2.2.2.2.2.2.2.2.1.1
  have v7 : J11 491 7 = ((aY A 3).length : Int) := by rw [r11 491 (by decide), f8.2 7 (by decide)]; exact g7
  rw [v7]
  refine s_putMessage (by decide) (by omega) ?_
  have v2 : ∀ l, zw J11 492 (1024 + 630) l 491 2 = aZ A 18 := fun l => by rw [zw_r _ (by decide), r11 491 (by decide), f8.2 2 (by decide)]; exact g2
  rw [v2]
  refine s_numberTo (by decide) (by decide) (by decide) ?_
  rw [i2l_toInt ⟨by omega, by omega⟩, show nb (2 : Int).toNat (aZ A 18) = [aZ A 18 / 256, aZ A 18 % 256] from nb2_mtu (by omega)]
  obtain ⟨J15, hJ15⟩ : ∃ J15, J15 = zw J11 492 1654 ([8, (2 + ((aY A 3).length : Int)) / 256, (2 + ((aY A 3).length : Int)) % 256] ++ [aZ A 18 / 256, aZ A 18 % 256]) := ⟨_, rfl⟩
  have e15 : zw (zw J11 492 (1024 + 630) [8, (2 + ((aY A 3).length : Int)) / 256, (2 + ((aY A 3).length : Int)) % 256]) 492 (1024 + 630 + 3) [aZ A 18 / 256, aZ A 18 % 256] = J15 := by rw [hJ15]; exact zw_app J11 492 1654 1657 _ _ rfl
  rw [e15]
  have r15 : ∀ a, a ≠ 492 → J15 a = J11 a := fun a ha => by rw [hJ15]; exact zw_r _ ha
  refine zl_z.by (fun m x J' L' => (m : Int) = ((aY A 3).length : Int) - x ∧ 0 ≤ x ∧ L' = L9 ∧ J' = zcp J15 493 0 492 1659 x) ?_ (aY A 3).length 0 J15 L9 ⟨by omega, by omega, rfl, (zcp_0 J15 493 492 0 1659).symm⟩
  rintro m x J2 L2 KK ⟨hm, hx, rfl, e2⟩ hKK
  have r2 : ∀ a, a ≠ 492 → J2 a = J11 a := fun a ha => by rw [e2, zcp_r J15 ha]; exact r15 a ha
  rw [r2 491 (by decide), v7]
  refine ⟨⟨by omega, by omega⟩, ⟨by omega, by omega⟩, ?_⟩
  by_cases c : x < ((aY A 3).length : Int)
  · rw [if_pos c]
    refine ⟨⟨by omega, by omega⟩, ⟨by omega, by omega⟩, fun J44 e44 => hKK (m - 1) (x + 1) J44 L2 (by omega) ⟨by omega, by omega, rfl, ?_⟩⟩
    rw [e44, e2]
    have := zcp_succ2 (J := J15) (a := 493) (b := 492) (sp := 0) (dp := 1659) (n := x) hx (Or.inl (by decide))
    rw [Int.zero_add] at this
    exact this
  · rw [if_neg c]
    have hxe : x = ((aY A 3).length : Int) := by omega
    subst hxe
    have w2 : J2 = zw J11 492 1654 (msgI 8 (anG A)) := by
      rw [e2, zcp_zw _ _ _ _ _ _ (by omega), Int.toNat_natCast, sg_row (r15 493 (by decide)), sg_row (r11 493 (by decide)), sg_row (f8.1 493 (by unfold cCh; omega) (by decide)), g493, hJ15, zw_app J11 492 1654 1659 _ (aY A 3) rfl]
      congr 1
      unfold msgI
      rw [lG.1, show ((2 + (aY A 3).length : Nat) : Int) = 2 + ((aY A 3).length : Int) by omega]
      rfl
    have hmG : (msgI 8 (anG A)).length = 3 + (anG A).length := msgI_len _ _
    have m3 : mMs J2 1654 (msgI 8 (anG A)) := by rw [w2]; exact mMs_zw (by decide) oG (by omega)
    have u2 : ∀ k, ¬ (1654 ≤ k ∧ k < 1814) → J2 492 k = J11 492 k := fun k hk => by rw [w2]; exact zw_out J11 (by rw [hmG]; omega)
    have m2' : mMs J2 1624 (msgI 2 (anA o A)) := m2.fr2 (fun k p q => by rw [msgI_len, lA] at q; exact u2 k (by omega))
    have hU : ∀ k, ¬ (1624 ≤ k ∧ k < 1814) → J2 492 k = J 492 k := fun k hk => by rw [u2 k (by omega), u11 k (by omega)]
    have f2 : mF (fun a => cCh a ∨ a = 492) t13 J J2 := f8.tr ((by rw [hJ11]; exact mF_zw (Or.inr rfl) (by decide) : mF (fun a => cCh a ∨ a = 492) t13 J8 J11).tr (by rw [w2]; exact mF_zw (Or.inr rfl) (by decide)))
    obtain ⟨cD, oD⟩ := h.draw (c := anC o A) (r := anR A) f2 (by rw [r2 503 (by decide), r11 503 (by decide)]; exact h503) (fun k hk => by rw [r2 503 (by decide), r11 503 (by decide)]; exact h503o k hk) hU hL5 hL4 hL
    obtain ⟨A1, hA1⟩ : ∃ A1, A1 = uz 11 (anC o A) (uz 15 (anS o A) (uz 16 (anO o A) (uy 4 (anR A) A))) := ⟨_, rfl⟩
    have aiF := AI_answer (o := o) (its := its) ai h0 hits hbl
    have eS : ansS its b A = flyA 1 (newA (anFl its (anA o A) (anG A) (anF o b A)) (uz 0 1 (uz 2 (its + 1) (uT (msgI 1 b) (msgI 2 (anA o A)) (msgI 8 (anG A)) (msgI 20 (anF o b A)) (threeA (mainI (anH o A)) (anT3 o b A) (twoA (anH o A) (anT1 o b A) A1)))))) := by
      unfold ansS ans0
      rw [← ho, ← hA1]
    unfold ans0 at aiF
    rw [← hA1] at aiF cD
    have z13 : aZ A1 13 = 0 := by rw [hA1]; exact r22.2.2.2.2.1
    have z2 : aZ A1 2 = 0 := by rw [hA1]; exact r22.2.2.2.2.2.1
    have z17 : aZ A1 17 = aZ A 17 := by rw [hA1]; rfl
    have yy0 : aY A1 0 = aY A 0 := by rw [hA1]; rfl
    have tt : aT A1 = aT A := by rw [hA1]; rfl
    rw [eS] at hQ
    clear eS hA1
    refine ms_ans2 (bd := bd) cD z13 hits z2 hbn (by rw [yy0, hbB]; rfl) (show anT1 o b A = msgI 1 b ++ msgI 2 (anA o A) from rfl) (show anT2 o b A = anT1 o b A ++ msgI 8 (anG A) from rfl) (show anF o b A = _ from rfl) (show anT3 o b A = anT2 o b A ++ msgI 20 (anF o b A) from rfl) (Mh.fr2 (fun k p q => by rw [msgI_len] at q; exact hU k (by omega))) m2' m3 (by rw [msgI_len]; omega) lA (by omega) (by rw [yy0]; exact ai.y.1.2) (by rw [yy0, sg_fr (fun k p q => hU k (by omega))]; exact hear) (by rw [r2 491 (by decide), r11 491 (by decide), f8.2 3 (by decide), z17]; exact hnow) (by rw [tt]; exact ai.dg) aiF (fun J' k1 k2 => hQ J' L2 k1 (oD.tr k2))
