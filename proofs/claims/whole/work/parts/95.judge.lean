/-! a HELLO comes to the server that rests -/
def ckI (A : SA) (b : List Int) : List Int := mcI (aY A 2) (b.take 16)
def retryA (its : Int) (b : List Int) (A : SA) : SA := sndE 1 0 22 (frI 6 16 its 0 16 ((ckI A b).take 16)) A
abbrev wantsCk (b : List Int) (A : SA) : Prop := aZ A 20 = 1 ∧ (b.getD 16 0 = 0 ∨ (ckI A b).take 16 ≠ partI b 17 16)
/-- what the server draws: how many CHANCES, the share, the own number -/
abbrev drawn (o : Nat) (A : SA) : Prop := o ≠ 0 ∧ aZ A 19 = 1
def anR (A : SA) : List Int := (chI (aY A 2) 1 (aZ A 11)).take 16
def anO (o : Nat) (A : SA) : Int := if drawn o A then (numI (chI (aY A 2) 1 (aZ A 11 + 1)) : Int) else aZ A 16
def anS (o : Nat) (A : SA) : Int := if drawn o A then (pw 7 (numI (chI (aY A 2) 1 (aZ A 11 + 1))) : Int) else aZ A 15
def anC (o : Nat) (A : SA) : Int := if drawn o A then aZ A 11 + 2 else aZ A 11 + 1
def anB (o : Nat) (A : SA) : Int := if drawn o A then (pw o (numI (chI (aY A 2) 1 (aZ A 11 + 1))) : Int) else 0
def anA (o : Nat) (A : SA) : List Int := anR A ++ nb 4 (anS o A)
def anG (A : SA) : List Int := [aZ A 18 / 256, aZ A 18 % 256] ++ aY A 3
def anH (o : Nat) (A : SA) : List Int := handI (aY A 0) (anB o A)
def anT1 (o : Nat) (b : List Int) (A : SA) : List Int := msgI 1 b ++ msgI 2 (anA o A)
def anT2 (o : Nat) (b : List Int) (A : SA) : List Int := anT1 o b A ++ msgI 8 (anG A)
def anF (o : Nat) (b : List Int) (A : SA) : List Int := finI (exD (anH o A) 1000016 (hsI (anT1 o b A))) (anT2 o b A)
def anT3 (o : Nat) (b : List Int) (A : SA) : List Int := anT2 o b A ++ msgI 20 (anF o b A)
def anFl (its : Int) (x y z : List Int) : FLT := (3, fun f => if f = 0 then 2 else if f = 1 then 8 else 20, fun f => its + (f : Int), fun f => if f = 0 then x else if f = 1 then y else z, fun _ => 0)
def ans0 (its : Int) (o : Nat) (b : List Int) (A : SA) : SA := uz 0 1 (uz 2 (its + 1) (uT (msgI 1 b) (msgI 2 (anA o A)) (msgI 8 (anG A)) (msgI 20 (anF o b A)) (threeA (mainI (anH o A)) (anT3 o b A) (twoA (anH o A) (anT1 o b A) (uz 11 (anC o A) (uz 15 (anS o A) (uz 16 (anO o A) (uy 4 (anR A) A))))))))
def ansS (its : Int) (b : List Int) (A : SA) : SA := flyA 1 (newA (anFl its (anA (be (partI b (b.length - 44) 4)) A) (anG A) (anF (be (partI b (b.length - 44) 4)) b A)) (ans0 its (be (partI b (b.length - 44) 4)) b A))
def helS (its : Int) (b : List Int) (A : SA) : SA :=
  if b.getD 16 0 ≠ (b.length : Int) - 61 then alertA 1 10 A
  else if wantsCk b A then retryA its b A
  else if partI b (b.length - 40) 8 ≠ aY A 1 then alertA 1 40 A
  else if bindI (aY A 0) (msgI 1 b) ≠ partI b (b.length - 32) 32 then alertA 1 51 A
  else ansS its b A
theorem XS.trn0 {e : Nat} {s : Int} {J J' : zM} {L : yM} {A : SA} {T : List Int} (he : iSide e) (h : XS e s J L A) (hn : ¬ live (aZ A 0)) (f : ∀ x, ¬ (xscS e x ∨ x = e + 144 ∨ x = e + 162) → J' x = J x) (g : ∀ k, k ≠ 10 → J' (e + 144) k = J (e + 144) k) (hT : xTr e J' T) : XS e s J' L A ∧ XO e J L J' L := by
  obtain ⟨g1, o1⟩ := h.trn (a := T) (b := []) (c := []) (d := []) he f g (by rw [List.append_nil, List.append_nil, List.append_nil]; exact hT)
  refine ⟨?_, o1⟩
  obtain ⟨h0, h1, h2, h3, h4, h5, h6, h7, h8, h9, h10⟩ := g1
  obtain ⟨q1, q2, q3, q4, q5, q6⟩ := h8
  refine ⟨h0, h1, h2, h3, h4, h5, h6, h7, ⟨q1, fun u => absurd u hn, q3, fun i hi => ?_, fun i hi => ?_, q6⟩, h9, h10⟩
  · have := q4 i hi
    rw [uT_y (by omega)] at this
    exact this
  · have := q5 i hi
    rw [uT_y (by omega), uT_y (by omega)] at this
    exact this
/-- the HELLO stands in the datagram that comes -/
def XH (J : zM) (its : Int) (b : List Int) : Prop := J 3 11 = its ∧ J 3 10 = (b.length : Int) ∧ 0 ≤ J 3 14 ∧ J 3 14 + (b.length : Int) ≤ 500 ∧ sg J 4 (J 3 14) b.length = b ∧ oct b ∧ (b.length = 61 ∨ b.length = 77)
theorem XH.fr {J J' : zM} {its : Int} {b : List Int} (h : XH J its b) (h3 : J' 3 = J 3) (h4 : J' 4 = J 4) : XH J' its b := by
  unfold XH at *
  rw [h3, sg_row h4]
  exact h
theorem XH.part {J : zM} {its : Int} {b : List Int} (h : XH J its b) (fr c : Nat) (hf : fr + c ≤ b.length) : sg J 4 (J 3 14 + (fr : Int)) c = partI b fr c := sg_part h.2.2.2.2.1 fr c hf
theorem take_part (b : List Int) (n : Nat) : b.take n = partI b 0 n := by unfold partI; rfl
theorem s_same {p q : Nat} {a b n : Int} {u v : List Int} {J : zM} {L : yM} {Q : Int → zM → yM → Prop} (ha : 0 ≤ a) (hb : 0 ≤ b) (hn : 0 ≤ n) (h1 : a + n ≤ (ln0 p : Int)) (h2 : b + n ≤ (ln0 q : Int)) (hu : sg J p a n.toNat = u) (hv : sg J q b n.toNat = v) (ou : oct u) (ov : oct v) (hQ : Q (if u = v then 1 else 0) J L) : w_X11_sameOctets p a q b n J L Q := by
  refine s_sameOctets ha hb hn h1 h2 (by rw [hu]; exact ou) (by rw [hv]; exact ov) ?_
  rw [hu, hv]
  exact hQ
theorem xs_judge {e : Nat} {bd its : Int} {b : List Int} {A : SA} {J : zM} {L : yM} {Q : Int → zM → yM → Prop} (he : iSide e) (h : XS e 1 J L A) (ai : AI bd 1 A) (h0 : aZ A 0 = 0) (hb : XH J its b)
    (q10 : b.getD 16 0 ≠ (b.length : Int) - 61 → Q 10 J L)
    (qck : ∀ J', b.getD 16 0 = (b.length : Int) - 61 → wantsCk b A → XS e 1 J' L A → XO e J L J' L → XH J' its b → sg J' (e + 143) 0 32 = ckI A b → Q 1000 J' L)
    (q40 : ∀ J', b.getD 16 0 = (b.length : Int) - 61 → ¬ wantsCk b A → partI b (b.length - 40) 8 ≠ aY A 1 → XS e 1 J' L A → XO e J L J' L → Q 40 J' L)
    (q51 : ∀ J', b.getD 16 0 = (b.length : Int) - 61 → ¬ wantsCk b A → partI b (b.length - 40) 8 = aY A 1 → bindI (aY A 0) (msgI 1 b) ≠ partI b (b.length - 32) 32 → XS e 1 J' L A → XO e J L J' L → Q 51 J' L)
    (q0 : ∀ J', b.getD 16 0 = (b.length : Int) - 61 → ¬ wantsCk b A → partI b (b.length - 40) 8 = aY A 1 → bindI (aY A 0) (msgI 1 b) = partI b (b.length - 32) 32 → XS e 1 J' L A → XO e J L J' L → XH J' its b → xTr e J' (msgI 1 b) → Q 0 J' L) : w_X8_judgeHello e J L Q := by
  have he2 : 139 ≤ e := by unfold iSide at he; omega
  have hn : ¬ live (aZ A 0) := by unfold live; omega
  obtain ⟨e11, e10, c0, c1, hsb, ho, hbl⟩ := id hb
  have g16 : J 4 (J 3 14 + 16) = b.getD 16 0 := by
    have := sg_get (J := J) (a := 4) (i := J 3 14) (c := b.length) (j := 16) (by omega)
    rw [hsb] at this
    exact this.symm
  have o16 := oct1 ho 16
  have b20 := ai.b20
  unfold w_X8_judgeHello
  rw [g16, e10]
  refine ⟨by omega, fun x2 ex2 => ?_⟩
  subst ex2
  refine ⟨⟨by omega, by omega⟩, ⟨by omega, by omega⟩, ?_⟩
  by_cases d : b.getD 16 0 = (b.length : Int) - 61
  · rw [if_pos d]
    intro K8 hK8
    -- behind the COOKIE
    have go : ∀ J6 : zM, ¬ wantsCk b A → XS e 1 J6 L A → XO e J L J6 L → XH J6 its b → K8 J6 L := fun J6 hw g6 o6 b6 => hK8 J6 L (by
      obtain ⟨f11, f10, d0, d1, fsb, _, _⟩ := id b6
      intro x9 e9
      rw [f10] at e9
      have name : sg J6 (e + 3) 0 8 = aY A 1 := g6.2.2.1.2.1
      have p40 : sg J6 4 (x9 - 8) 8 = partI b (b.length - 40) 8 := by
        have := b6.part (b.length - 40) 8 (by omega)
        rw [show J6 3 14 + ((b.length - 40 : Nat) : Int) = x9 - 8 by omega] at this
        exact this
      refine s_same (by decide) (by omega) (by decide) (by rw [lnS_3 he]; decide) (by rw [ln_4]; omega) name p40 ai.y.2.1.2 (partI_oct ho) ?_
      by_cases c : partI b (b.length - 40) 8 = aY A 1
      · rw [if_pos c.symm]
        refine ⟨by decide, ?_⟩
        rw [if_neg (by decide), f10]
        refine s_startWithHello d0 (by omega) (by rw [ln_4]; omega) (by omega) (by omega) (fun J15 k1 k2 k3 => ?_)
        rw [Int.toNat_natCast, fsb] at k1
        have g15 := g6.trn0 (J' := J15) he hn (fun x hx => k3 x (by omega)) k2 k1
        have b15 : XH J15 its b := b6.fr (k3 3 (by omega)) (k3 4 (by omega))
        have lk : ln0 (e + 2) = 16 := lnS_2 he
        refine s_binderInto he (by omega) (by rw [lk]; decide) (by omega) (by omega) (by omega) (by rw [lnS_143 he]; decide) g15.1.2.2.2.2.2.2.2.2.1.2.2.1 k1 (by rw [msgI_len]; omega) (fun J17 v1 v2 v3 => ?_)
        have key : sg J15 (e + 2) 0 (ln0 (e + 2)) = aY A 0 := by rw [lk]; exact g15.1.2.2.1.1
        rw [key] at v1
        have g17 := g15.1.scr (J' := J17) he (fun a ha => v3 a (fun u => by unfold cS at u; omega))
        have b17 : XH J17 its b := b15.fr (v3 3 (by unfold cS; omega)) (v3 4 (by unfold cS; omega))
        have p32 : sg J17 4 x9 32 = partI b (b.length - 32) 32 := by
          have := b17.part (b.length - 32) 32 (by omega)
          have e14 : J17 3 14 = J6 3 14 := by rw [v3 3 (by unfold cS; omega), k3 3 (by omega)]
          rw [show J17 3 14 + ((b.length - 32 : Nat) : Int) = x9 by omega] at this
          exact this
        refine s_same (by decide) (by omega) (by decide) (by rw [lnS_143 he]; decide) (by rw [ln_4]; omega) v1 p32 (mcI_oct _ _) (partI_oct ho) ?_
        by_cases c2 : bindI (aY A 0) (msgI 1 b) = partI b (b.length - 32) 32
        · rw [if_pos c2]
          refine ⟨by decide, ?_⟩
          rw [if_neg (by decide)]
          refine q0 J17 d hw c c2 g17.1 (o6.tr (g15.2.tr g17.2)) b17 (k1.fr (by rw [v3 _ (by unfold cS; omega)]) (v3 _ (by unfold cS; omega)))
        · rw [if_neg c2]
          refine ⟨by decide, ?_⟩
          rw [if_pos rfl]
          exact q51 J17 d hw c c2 g17.1 (o6.tr (g15.2.tr g17.2))
      · rw [if_neg (fun u => c u.symm)]
        refine ⟨by decide, ?_⟩
        rw [if_pos rfl]
        exact q40 J6 d hw c g6 o6)
    have e5 : J (e + 1) 5 = aZ A 20 := h.2.1.2.1
    rw [e5]
    refine ⟨⟨by omega, by omega⟩, ?_⟩
    by_cases z : aZ A 20 = 0
    · rw [if_pos z]
      exact go J (fun u => by omega) h XO.rf hb
    · rw [if_neg z]
      unfold w_X8_cookieInto
      refine s_clear (fun J1 t1 f1 => ?_)
      have b1 : XH J1 its b := hb.fr (f1 3 (by decide)) (f1 4 (by decide))
      refine s_putAll t1 b1.2.2.1 (by decide) (by rw [ln_4]; have := b1.2.2.2.1; omega) (by decide) (fun J3 t3 f3 => ?_)
      have p0 : sg J1 4 (J1 3 14) (16 : Int).toNat = b.take 16 := by
        have := b1.part 0 16 (by omega)
        rw [show J1 3 14 + ((0 : Nat) : Int) = J1 3 14 by omega] at this
        rw [take_part]
        exact this
      rw [p0, List.nil_append] at t3
      refine s_macInto t3 (by omega) (by omega) (by rw [lnS_143 he]; decide) (fun J5 v1 v2 v3 => ?_)
      have f5 : zF (xscS e) J J5 := (f1.mono (fun a q => by unfold c67 at q; omega)).tr ((f3.mono (fun a q => by unfold c67 at q; omega)).tr (v3.mono (fun a q => by unfold cMac at q; omega)))
      have g5 := h.scr he f5
      have b5 : XH J5 its b := hb.fr (by rw [v3 3 (by unfold cMac; omega), f3 3 (by decide), f1 3 (by decide)]) (by rw [v3 4 (by unfold cMac; omega), f3 4 (by decide), f1 4 (by decide)])
      have seed : sg J3 (e + 4) 0 (ln0 (e + 4)) = aY A 2 := by
        rw [lnS_4 he, sg_row (f3 _ (by unfold c67; omega)), sg_row (f1 _ (by unfold c67; omega))]
        exact h.2.2.1.2.2.1
      rw [seed] at v1
      have v1 : sg J5 (e + 143) 0 32 = ckI A b := v1
      intro x28 e28
      refine ⟨⟨by omega, by omega⟩, ?_⟩
      by_cases y : b.getD 16 0 = 0
      · rw [if_pos y]
        exact qck J5 d ⟨by omega, Or.inl y⟩ g5.1 g5.2 b5 v1
      · rw [if_neg y]
        have p17 : sg J5 4 x28 16 = partI b 17 16 := by
          have := b5.part 17 16 (by omega)
          rw [show J5 3 14 + ((17 : Nat) : Int) = x28 by omega] at this
          exact this
        have t16 : sg J5 (e + 143) 0 16 = (ckI A b).take 16 := by rw [← v1, sg_take _ _ _ _ _ (by decide)]
        refine s_same (by decide) (by have := b5.2.2.1; omega) (by decide) (by rw [lnS_143 he]; decide) (by rw [ln_4]; have := b5.2.2.2.1; omega) t16 p17 (oct_take (mcI_oct _ _) 16) (partI_oct ho) ?_
        by_cases w : (ckI A b).take 16 = partI b 17 16
        · rw [if_pos w]
          refine ⟨by decide, ?_⟩
          rw [if_neg (by decide)]
          exact go J5 (fun u => u.2.elim y (fun v => v w)) g5.1 g5.2 b5
        · rw [if_neg w]
          refine ⟨by decide, ?_⟩
          rw [if_pos rfl]
          exact qck J5 d ⟨by omega, Or.inr w⟩ g5.1 g5.2 b5 v1
  · rw [if_neg d]
    exact q10 d
theorem xs_retry {e : Nat} {bd its : Int} {b : List Int} {A : SA} {J : zM} {L : yM} {Q : zM → yM → Prop} (he : iSide e) (h : XS e 1 J L A) (ai : AI bd 1 A) (hb : XH J its b) (hck : sg J (e + 143) 0 32 = ckI A b) (hQ : ∀ J', XS e 1 J' L (retryA its b A) → XO e J L J' L → Q J' L) : w_X8_sendRetry e J L Q := by
  unfold w_X8_sendRetry
  rw [hb.1]
  refine s_fragHead (by decide) (by decide) (by decide) ⟨by decide, fun J4 e4 => ?_⟩
  have w4 : J4 = zw J (e + 170) 0 (frI 6 16 its 0 16 ((ckI A b).take 16)) := by
    rw [e4, zcp_zw _ _ _ _ _ _ (by decide)]
    have : sg (zw J (e + 170) 0 [6, 16 / 256, 16 % 256, its, 0 / 256, 0 % 256, 16 / 256, 16 % 256]) (e + 143) 0 (16 : Int).toNat = (ckI A b).take 16 := by
      rw [sg_row (zw_r J (by omega)), ← hck, sg_take _ _ _ _ _ (by decide)]
      rfl
    rw [this, zw_app J (e + 170) 0 8 [6, 16 / 256, 16 % 256, its, 0 / 256, 0 % 256, 16 / 256, 16 % 256] _ rfl]
    rfl
  have l24 : (frI 6 16 its 0 16 ((ckI A b).take 16)).length = 24 := by
    unfold frI
    rw [List.length_append, List.length_take]
    unfold ckI
    rw [mcI_len]
    rfl
  have g4 := h.scr (J' := J4) he (by rw [w4]; exact zF.zw (by omega))
  have e24 : (24 : Int) = ((frI 6 16 its 0 16 ((ckI A b).take 16)).length : Int) := by rw [l24]; rfl
  rw [e24]
  exact xs_snd he (by decide) g4.1 ai (Or.inl rfl) (by rw [w4]; exact zw_sg _ _ _ _) (by omega) (fun J' k1 k2 => hQ J' k1 (g4.2.tr k2)) (Q := fun _ J' L' => Q J' L')
