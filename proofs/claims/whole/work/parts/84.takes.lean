/-! a whole MESSAGE is taken -/
def ansA (b : List Int) (A : SA) : SA :=
  if be (partI b 16 4) ≠ 0 ∧ aZ A 19 = 0 then raiseA 0 47 (uz 10 0 A)
  else uz 1 8 (twoA (handI (aY A 0) (if be (partI b 16 4) = 0 then 0 else (pw (be (partI b 16 4)) (aZ A 16).toNat : Int))) (aY A 6 ++ msgI 2 b) (uy 7 (msgI 2 b) (uz 10 0 A)))
def setA (b : List Int) (A : SA) : SA := uz 1 20 (uy 8 (msgI 8 b) A)
abbrev T3 (A : SA) : List Int := aY A 6 ++ aY A 7 ++ aY A 8
abbrev T4 (A : SA) : List Int := aY A 6 ++ aY A 7 ++ aY A 8 ++ aY A 9
def finF (n : Int) (b : List Int) : FLT := (1, fun _ => 20, fun _ => n, fun _ => b, fun _ => 0)
/-- behind the server's FINISHED: all but the FLIGHT -/
def finC1 (b : List Int) (A : SA) : SA := uz 0 2 (threeA (aY A 15) (T3 A ++ msgI 20 b) (uy 9 (msgI 20 b) A))
def finCb (b : List Int) (A : SA) : List Int := finI (aY A 10) (T3 A ++ msgI 20 b)
def finC (b : List Int) (A : SA) : SA := if b ≠ finI (aY A 11) (T3 A) then raiseA 0 51 A else flyA 0 (newA (finF (aZ A 12 + 1) (finCb b A)) (finC1 b A))
def finS (b : List Int) (A : SA) : SA := if b ≠ finI (aY A 10) (T4 A) then raiseA 1 51 A else acksA 1 (uz 10 0 (uz 0 2 A))
def takeC (A : SA) : SA :=
  if (aK A (aZ A 2)).1 = 6 ∧ aZ A 1 = 2 ∧ aY A 5 = [] then helloA (aZ A 12 + 1) (uy 5 (kbody (aK A (aZ A 2))) (uz 2 (aZ A 2 + 1) A))
  else if (aK A (aZ A 2)).1 = 2 ∧ aZ A 1 = 2 then ansA (kbody (aK A (aZ A 2))) (uz 2 (aZ A 2 + 1) A)
  else if (aK A (aZ A 2)).1 = 8 ∧ aZ A 1 = 8 then setA (kbody (aK A (aZ A 2))) (uz 2 (aZ A 2 + 1) A)
  else if (aK A (aZ A 2)).1 = 20 ∧ aZ A 1 = 20 then finC (kbody (aK A (aZ A 2))) (uz 2 (aZ A 2 + 1) A)
  else raiseA 0 10 (uz 2 (aZ A 2 + 1) A)
def takeS (A : SA) : SA := if (aK A (aZ A 2)).1 = 20 then finS (kbody (aK A (aZ A 2))) (uz 2 (aZ A 2 + 1) A) else raiseA 1 10 (uz 2 (aZ A 2 + 1) A)
def takeA (s : Int) (A : SA) : SA := if s = 0 then takeC A else takeS A
theorem AI_next {bd s : Int} {A : SA} (ai : AI bd s A) (h0 : aZ A 0 = 1) (hw : wholeA A) : AI bd s (uz 2 (aZ A 2 + 1) A) := by
  have k := ai.k (aZ A 2) (Int.le_refl _) hw.1
  have b2 := ai.b2
  obtain ⟨h1, h2, h3, h4, h5, h6⟩ := ai
  refine ⟨?_, h2, h3, h4, fun n hn hk => ?_, h6⟩
  · exact ⟨h1.1, h1.2.1, ⟨show 0 ≤ aZ A 2 + 1 by omega, show aZ A 2 + 1 ≤ 256 by omega⟩, h1.2.2.2.1, h1.2.2.2.2.1, h1.2.2.2.2.2.1, h1.2.2.2.2.2.2.1, h1.2.2.2.2.2.2.2.1, h1.2.2.2.2.2.2.2.2.1, h1.2.2.2.2.2.2.2.2.2.1, h1.2.2.2.2.2.2.2.2.2.2.1, h1.2.2.2.2.2.2.2.2.2.2.2.1, h1.2.2.2.2.2.2.2.2.2.2.2.2.1, h1.2.2.2.2.2.2.2.2.2.2.2.2.2.1, h1.2.2.2.2.2.2.2.2.2.2.2.2.2.2.1, h1.2.2.2.2.2.2.2.2.2.2.2.2.2.2.2.1, h1.2.2.2.2.2.2.2.2.2.2.2.2.2.2.2.2.1, h1.2.2.2.2.2.2.2.2.2.2.2.2.2.2.2.2.2.1, h1.2.2.2.2.2.2.2.2.2.2.2.2.2.2.2.2.2.2.1, h1.2.2.2.2.2.2.2.2.2.2.2.2.2.2.2.2.2.2.2.1, h1.2.2.2.2.2.2.2.2.2.2.2.2.2.2.2.2.2.2.2.2.1, h1.2.2.2.2.2.2.2.2.2.2.2.2.2.2.2.2.2.2.2.2.2.1, fun q => (by have q : aZ A 0 = 0 := q; omega), h1.2.2.2.2.2.2.2.2.2.2.2.2.2.2.2.2.2.2.2.2.2.2.2⟩
  · have hn : aZ A 2 + 1 ≤ n := hn
    have q := h5 n (by omega) hk
    exact ⟨q.1, show n < aZ A 2 + 1 + 5 by omega, q.2.2⟩
theorem xs_free {e : Nat} {bd s : Int} {A : SA} {J : zM} {L : yM} {Q : zM → yM → Prop} (he : iSide e) (h : XS e s J L A) (ai : AI bd s A) (hw : wholeA A) (hQ : ∀ J10, XS e s J10 L (uz 2 (aZ A 2 + 1) A) → XO e J L J10 L → (∀ a, a ≠ e → a ≠ e + 18 → J10 a = J a) → Q J10 L) : w_X3_free e (aZ A 2) J L (fun J8 L9 => ∀ J10 : zM, J10 = zs J8 e 14 ((J8 e 14) + 1) → Q J10 L9) := by
  have b2 := ai.b2
  have he2 : 139 ≤ e := by unfold iSide at he; omega
  unfold w_X3_free
  rw [zrem_n ⟨b2.1, by omega⟩ (by decide)]
  refine ⟨by omega, fun J8 e8 J10 e10 => ?_⟩
  have r8 : ∀ a, a ≠ e + 18 → J8 a = J a := fun a ha => by rw [e8]; exact zs_r J ha
  obtain ⟨h0, h1, h2, h3, h4, h5, h6, h7, h8, h9, h10⟩ := h
  have v14 : J8 e 14 = aZ A 2 := by rw [r8 e (by omega)]; exact h0.2.2.2.1
  rw [v14] at e10
  have r10 : ∀ a, a ≠ e → a ≠ e + 18 → J10 a = J a := fun a p q => by rw [e10, zs_r _ p]; exact r8 a q
  have v18 : J10 (e + 18) = (zs J (e + 18) (aZ A 2 % 5) (-1)) (e + 18) := by rw [e10, zs_r _ (by omega), e8]
  have ve : ∀ k, k ≠ 14 → J10 e k = J e k := fun k hk => by rw [e10, zs_n _ (Or.inr hk), r8 e (by omega)]
  refine hQ J10 ⟨⟨by rw [ve 0 (by decide)]; exact h0.1, by rw [ve 12 (by decide)]; exact h0.2.1, by rw [ve 13 (by decide)]; exact h0.2.2.1, by rw [e10]; exact zs_s _ _ _ _, by rw [ve 15 (by decide)]; exact h0.2.2.2.2.1, by rw [ve 16 (by decide)]; exact h0.2.2.2.2.2.1, by rw [ve 17 (by decide)]; exact h0.2.2.2.2.2.2.1, by rw [ve 18 (by decide)]; exact h0.2.2.2.2.2.2.2.1, by rw [ve 19 (by decide)]; exact h0.2.2.2.2.2.2.2.2⟩, h1.fr (r10 _ (by omega) (by omega)) rfl, h2.fr (fun x p q => r10 x (by omega) (by omega)), h3.fr (fun x p q => r10 x (by omega) (by omega)) (fun k _ => by rw [r10 _ (by omega) (by omega)]), ?_, h5.fr (fun x p q => r10 x (by omega) (by omega)), (h6.fr (r10 _ (by omega) (by omega))).cg (fun k hk => if_neg (by omega)), h7.fr he (fun x p q => r10 x (by omega) (by omega)), h8.fr (fun x p q => r10 x (by omega) (by omega)) (r10 _ (by omega) (by omega)), h9.fr (fun x p => ?_) (by rw [r10 _ (by omega) (by omega)]), h10.fr (fun x p q => r10 x (by omega) (by omega)) (fun _ _ _ => rfl)⟩ ⟨fun x hx => r10 x (fun q => hx (Or.inl (by omega))) (fun q => hx (Or.inl (by omega))), fun _ _ => rfl⟩ r10
  · intro n w1 w2
    have w1 : aZ A 2 + 1 ≤ n := w1
    have w2 : n < aZ A 2 + 1 + 5 := w2
    have hm : 0 ≤ n % 5 ∧ n % 5 < 5 := by omega
    show J10 (e + 18) (n % 5) = (aK A n).1 ∧ ((aK A n).1 ≠ -1 → J10 (e + 19) (n % 5) = (aK A n).2.1 ∧ J10 (e + 20) (n % 5) = miss (aK A n).2.2.1 (aK A n).2.1.toNat ∧ ∀ i : Int, 0 ≤ i → i < 152 → J10 (e + 28 + (n % 5).toNat) i = (aK A n).2.2.1 i ∧ ((aK A n).2.2.1 i = 1 → J10 (e + 22 + (n % 5).toNat) i = (aK A n).2.2.2 i))
    rw [v18, r10 (e + 19) (by omega) (by omega), r10 (e + 20) (by omega) (by omega), r10 (e + 28 + (n % 5).toNat) (by omega) (by omega), r10 (e + 22 + (n % 5).toNat) (by omega) (by omega)]
    by_cases d : n = aZ A 2 + 5
    · have hno : (aK A n).1 = -1 := by
        by_cases u : (aK A n).1 = -1
        · exact u
        · exfalso
          have := ai.k n (by omega) u
          omega
      rw [show n % 5 = aZ A 2 % 5 by omega, zs_s, hno]
      exact ⟨rfl, fun u => absurd rfl u⟩
    · rw [zs_n _ (Or.inr (by omega))]
      exact h4 n (by omega) (by omega)
  · rcases p with p | p | p | p | p
    · exact r10 x (by omega) (by omega)
    · exact r10 x (by omega) (by omega)
    · exact r10 x (by omega) (by omega)
    · exact r10 x (by omega) (by omega)
    · have := wy_out he p
      exact r10 x (by omega) (by omega)
/-- the transcript gets one more MESSAGE -/
theorem xs_msg {e p : Nat} {s kind : Int} {b c1 c2 c3 c4 : List Int} {A : SA} {J : zM} {L : yM} {Q : zM → yM → Prop} (he : iSide e) (h : XS e s J L A) (hl : live (aZ A 0)) (hb : sg J p 0 b.length = b) (hlen : (T4 A).length + 3 + b.length ≤ 293) (hp : b.length ≤ ln0 p) (hp2 : p ≠ e + 162 ∧ p ≠ e + 144) (hT : T4 A ++ msgI kind b = c1 ++ c2 ++ c3 ++ c4) (hQ : ∀ J', XS e s J' L (uT c1 c2 c3 c4 A) → XO e J L J' L → (∀ a, a ≠ e + 144 → a ≠ e + 162 → J' a = J a) → Q J' L) : w_X5_addMessage e kind p 0 (b.length : Int) J L Q := by
  have hX := h.2.2.2.2.2.2.2.2.1.2.1 hl
  refine s_xaddMessage hX (by decide) (by omega) (by omega) (by show ((T4 A).length : Int) + 3 + _ ≤ 293; omega) hp2 (fun J1 k1 k2 k3 => ?_)
  rw [Int.toNat_natCast, hb] at k1
  have hT' : xTr e J1 (c1 ++ c2 ++ c3 ++ c4) := by rw [← hT]; exact k1
  have r := h.trn (J' := J1) he (fun x hx => k3 x (by omega)) (fun k hk => by rw [k2, zs_n _ (Or.inr hk)]) hT'
  exact hQ J1 r.1 r.2 (fun a p q => k3 a (by omega))
theorem uT_7 (b : List Int) (A : SA) : uT (aY A 6) b (aY A 8) (aY A 9) A = uy 7 b A := by
  refine Prod.ext rfl (Prod.ext (funext fun k => ?_) rfl)
  show (if k = 6 then aY A 6 else if k = 7 then b else if k = 8 then aY A 8 else if k = 9 then aY A 9 else A.2.1 k) = if k = 7 then b else A.2.1 k
  by_cases h6 : k = 6
  · subst h6; rfl
  by_cases h7 : k = 7
  · subst h7; rfl
  by_cases h8 : k = 8
  · subst h8; rfl
  by_cases h9 : k = 9
  · subst h9; rfl
  simp only [h6, h7, h8, h9, if_false]
theorem uT_8 (b : List Int) (A : SA) : uT (aY A 6) (aY A 7) b (aY A 9) A = uy 8 b A := by
  refine Prod.ext rfl (Prod.ext (funext fun k => ?_) rfl)
  show (if k = 6 then aY A 6 else if k = 7 then aY A 7 else if k = 8 then b else if k = 9 then aY A 9 else A.2.1 k) = if k = 8 then b else A.2.1 k
  by_cases h6 : k = 6
  · subst h6; rfl
  by_cases h7 : k = 7
  · subst h7; rfl
  by_cases h8 : k = 8
  · subst h8; rfl
  by_cases h9 : k = 9
  · subst h9; rfl
  simp only [h6, h7, h8, h9, if_false]
theorem uT_9 (b : List Int) (A : SA) : uT (aY A 6) (aY A 7) (aY A 8) b A = uy 9 b A := by
  refine Prod.ext rfl (Prod.ext (funext fun k => ?_) rfl)
  show (if k = 6 then aY A 6 else if k = 7 then aY A 7 else if k = 8 then aY A 8 else if k = 9 then b else A.2.1 k) = if k = 9 then b else A.2.1 k
  by_cases h6 : k = 6
  · subst h6; rfl
  by_cases h7 : k = 7
  · subst h7; rfl
  by_cases h8 : k = 8
  · subst h8; rfl
  by_cases h9 : k = 9
  · subst h9; rfl
  simp only [h6, h7, h8, h9, if_false]
theorem AI.m {bd s : Int} {A : SA} (ai : AI bd s A) : AIm s (aZ A) (aY A) := ai.2.2.1
theorem AI.y {bd s : Int} {A : SA} (ai : AI bd s A) : AIy (aY A) := ai.2.1
theorem partI_4 {J : zM} {p : Nat} {b : List Int} (h : sg J p 0 b.length = b) (hl : b.length = 20) : sg J p 16 4 = partI b 16 4 := by
  have := sg_part (i := 0) h 16 4 (by omega)
  exact this
theorem zcmp0 {r : Int64} {n : Nat} (h : lN' r n) : zcmp r 0 = 0 ↔ n = 0 := by
  rw [zcmp_eq, l_eq, h]
  show (n : Int) = 0 ↔ n = 0
  omega
theorem xs_takeAnswer {e p : Nat} {bd : Int} {b : List Int} {A : SA} {J : zM} {L : yM} {Q : Int → zM → yM → Prop} (he : iSide e) (h : XS e 0 J L A) (ai : AI bd 0 A) (h0 : aZ A 0 = 1) (h1 : aZ A 1 = 2) (hb : sg J p 0 b.length = b) (hbl : b.length = 20) (hbo : oct b) (hp : e + 22 ≤ p ∧ p ≤ e + 26) (hln : ln0 p = 152)
    (hr : ∀ J', (be (partI b 16 4) ≠ 0 ∧ aZ A 19 = 0) → XS e 0 J' L (uz 10 0 A) → XO e J L J' L → Q 47 J' L)
    (hQ : ∀ J', ¬ (be (partI b 16 4) ≠ 0 ∧ aZ A 19 = 0) → XS e 0 J' L (uz 1 8 (twoA (handI (aY A 0) (if be (partI b 16 4) = 0 then 0 else (pw (be (partI b 16 4)) (aZ A 16).toNat : Int))) (aY A 6 ++ msgI 2 b) (uy 7 (msgI 2 b) (uz 10 0 A)))) → XO e J L J' L → Q 0 J' L) : w_X8_takeAnswer e p J L Q := by
  have h4 := partI_4 hb hbl
  have ho4 : oct (partI b 16 4) := partI_oct hbo
  obtain ⟨o, hod⟩ : ∃ o, o = be (partI b 16 4) := ⟨_, rfl⟩
  have hlt : o < 2 ^ 32 := by
    have := be_lt ho4
    rw [partI_len (by omega)] at this
    rw [hod]
    exact this
  rw [← hod] at hr hQ
  have m := ai.m
  have lv : live (aZ A 0) := Or.inl h0
  have ml := m.1 lv
  have mn := (m.2.1 rfl h0).1 h1
  have b19 := ai.b19
  have b16 := ai.b16
  unfold w_X8_takeAnswer
  refine s_wordAt (by decide) (by rw [hln]; decide) (by rw [h4]; exact ho4) (fun r hr4 => ?_)
  rw [h4, ← hod] at hr4
  intro J4 e4
  have g4 := XS_z10 he h 0
  rw [← e4] at g4
  have o4 : XO e J L J4 L := by rw [e4]; exact XO.zs (Or.inl (by omega))
  have r4 : ∀ a, a ≠ e + 8 → J4 a = J a := fun a ha => by rw [e4]; exact zs_r J ha
  intro K7 hK7
  have v6 : J4 (e + 1) 6 = aZ A 19 := g4.2.1.2.2.1
  have vo : (L (e + 1) 13).toInt = aZ A 16 := g4.2.1.2.2.2.2.2.2.2.2
  -- the good end
  have good : ¬ (o ≠ 0 ∧ aZ A 19 = 0) → K7 J4 L := fun hg => hK7 J4 L (by
    intro K11 hK11
    have fin : ∀ v : Int, v = (if o = 0 then 0 else (pw o (aZ A 16).toNat : Int)) → K11 v J4 L := fun v hv => hK11 v J4 L (by
      have hv2 : 0 ≤ v ∧ v < 2147483648 := by
        rw [hv]
        split
        · decide
        · have := pw_lt o (aZ A 16).toNat; omega
      have hlen : (T4 (uz 10 0 A)).length + 3 + b.length ≤ 293 := by
        show (aY A 6 ++ aY A 7 ++ aY A 8 ++ aY A 9).length + 3 + b.length ≤ 293
        rw [mn.1, mn.2.1, mn.2.2, List.append_nil, List.append_nil, List.append_nil]
        omega
      have hbJ : sg J4 p 0 b.length = b := by rw [sg_row (r4 p (by omega))]; exact hb
      have eT : T4 (uz 10 0 A) ++ msgI 2 b = aY A 6 ++ msgI 2 b ++ aY A 8 ++ aY A 9 := by
        show aY A 6 ++ aY A 7 ++ aY A 8 ++ aY A 9 ++ msgI 2 b = _
        rw [mn.1, mn.2.1, mn.2.2, List.append_nil, List.append_nil, List.append_nil, List.append_nil, List.append_nil]
      rw [show (20 : Int) = (b.length : Int) by rw [hbl]; rfl]
      refine xs_msg he g4 lv hbJ hlen (by omega) (by omega) eT (fun J12 g12 o12 r12 => ?_)
      have eq : uT (aY A 6) (msgI 2 b) (aY A 8) (aY A 9) (uz 10 0 A) = uy 7 (msgI 2 b) (uz 10 0 A) := uT_7 _ (uz 10 0 A)
      rw [eq] at g12
      have hT12 := g12.2.2.2.2.2.2.2.2.1.2.1 lv
      have eT2 : aY (uy 7 (msgI 2 b) (uz 10 0 A)) 6 ++ aY (uy 7 (msgI 2 b) (uz 10 0 A)) 7 ++ aY (uy 7 (msgI 2 b) (uz 10 0 A)) 8 ++ aY (uy 7 (msgI 2 b) (uz 10 0 A)) 9 = aY A 6 ++ msgI 2 b := by
        show aY A 6 ++ msgI 2 b ++ aY A 8 ++ aY A 9 = _
        rw [mn.2.1, mn.2.2, List.append_nil, List.append_nil]
      rw [eT2] at hT12
      have lk : ln0 (e + 2) = 16 := lnS_2 he
      refine s_enterHandshake he (by omega) (by rw [lk]; decide) hv2 g12.2.2.2.2.2.2.2.2.1.2.2.1 hT12 (fun J14 t1 t2 t3 => ?_)
      have key : sg J12 (e + 2) 0 (ln0 (e + 2)) = aY A 0 := by rw [lk]; exact g12.2.2.1.1
      rw [key, hv] at t1
      have g14 := g12.two he t1 t2 t3
      intro J16 e16
      have g16 := XS_z1 he g14.1 8
      rw [← e16] at g16
      refine hQ J16 hg g16 (o4.tr (o12.tr (g14.2.tr ?_)))
      rw [e16]
      exact XO.zs (Or.inl (by omega)))
    by_cases c : o = 0
    · rw [if_pos ((zcmp0 hr4).mpr c)]
      exact fin 0 (by rw [if_pos c])
    · rw [if_neg (fun q => c ((zcmp0 hr4).mp q))]
      refine s_powerX hr4 (by omega) (en := (aZ A 16).toNat) (by show (L (e + 1) 13).toInt = _; rw [vo]; omega) (fun r20 h20 => ?_)
      have hpw := pw_lt o (aZ A 16).toNat
      rw [l2i_small (by rw [h20]; omega), h20]
      exact fin _ (by rw [if_neg c]))
  by_cases c : o = 0
  · rw [if_pos ((zcmp0 hr4).mpr c)]
    exact good (fun q => q.1 c)
  · rw [if_neg (fun q => c ((zcmp0 hr4).mp q)), v6]
    refine ⟨⟨by omega, by omega⟩, ?_⟩
    by_cases d : aZ A 19 = 0
    · rw [if_pos d]
      exact hr J4 ⟨c, d⟩ g4 o4
    · rw [if_neg d]
      exact good (fun q => d q.2)
