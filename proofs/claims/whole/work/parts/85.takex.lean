theorem xs_takeFinished {e p : Nat} {bd s : Int} {b : List Int} {A : SA} {J : zM} {L : yM} {Q : Int → zM → yM → Prop} (he : iSide e) (hs : s01 s) (h : XS e s J L A) (ai : AI bd s A) (h0 : aZ A 0 = 1) (h1 : aZ A 1 = 20) (hb : sg J p 0 b.length = b) (hbl : b.length = 32) (hbo : oct b) (hp : e + 22 ≤ p ∧ p ≤ e + 26) (hln : ln0 p = 152)
    (hr : ∀ J', b ≠ finI (aY A (if s = 0 then 11 else 10)) (T4 A) → XS e s J' L A → XO e J L J' L → Q 51 J' L)
    (hQ0 : ∀ J', s = 0 → b = finI (aY A 11) (T4 A) → XS e s J' L (uz 0 2 (uf (finF (aZ A 12 + 1) (finI (aY A 10) (T3 A ++ msgI 20 b))) (x0A (threeA (aY A 15) (T3 A ++ msgI 20 b) (uy 9 (msgI 20 b) A))))) → XO e J L J' L → Q 0 J' L)
    (hQ1 : ∀ J', s = 1 → b = finI (aY A 10) (T4 A) → XS e s J' L (uz 0 2 (uz 10 0 A)) → XO e J L J' L → Q 0 J' L) : w_X8_takeFinished e p J L Q := by
  have he2 : 139 ≤ e := by unfold iSide at he; omega
  have lv : live (aZ A 0) := Or.inl h0
  have hT := h.2.2.2.2.2.2.2.2.1.2.1 lv
  have hsec := h.2.2.2.2.2.2.2.2.1.2.2.2.1
  have es : J e 0 = s := h.1.1
  have b12 := ai.b12
  have m := ai.m
  have ml := m.1 lv
  have isec : sg J (e + 146 + (1 - s).toNat) 0 32 = aY A (if s = 0 then 11 else 10) := by
    rcases hs with rfl | rfl
    · exact hsec 1 (by decide)
    · exact hsec 0 (by decide)
  unfold w_X8_takeFinished
  rw [es]
  refine s_finishedInto he (by omega) (by omega) (by omega) (by rw [lnS_143 he]; decide) hT (fun J1 k1 k2 k3 => ?_)
  rw [isec] at k1
  have g1 := h.scr (J' := J1) he (fun a ha => k3 a (fun u => by unfold cS at u; omega))
  have r1 : ∀ a, ¬ (cS e a ∨ a = e + 143) → J1 a = J a := fun a ha => k3 a ha
  have hb1 : sg J1 p 0 32 = b := by rw [sg_row (r1 p (by unfold cS; omega)), ← hbl]; exact hb
  refine s_sameOctets (by decide) (by decide) (by decide) (by rw [lnS_143 he]; decide) (by rw [hln]; decide) (by show oct (sg J1 (e + 143) 0 32); rw [k1]; exact mcI_oct _ _) (by show oct (sg J1 p 0 32); rw [hb1]; exact hbo) ?_
  have hres : (if sg J1 (e + 143) 0 (32 : Int).toNat = sg J1 p 0 (32 : Int).toNat then (1 : Int) else 0) = if finI (aY A (if s = 0 then 11 else 10)) (T4 A) = b then 1 else 0 := by
    show (if sg J1 (e + 143) 0 32 = sg J1 p 0 32 then (1 : Int) else 0) = _
    rw [k1, hb1]
  rw [hres]
  by_cases c : finI (aY A (if s = 0 then 11 else 10)) (T4 A) = b
  · rw [if_pos c]
    refine ⟨by decide, ?_⟩
    rw [if_neg (by decide)]
    intro K10 hK10
    have es1 : J1 e 0 = s := g1.1.1.1
    rw [es1]
    refine ⟨by rcases hs with q | q <;> (rw [q]; decide), ?_⟩
    rcases hs with s0 | s1
    · subst s0
      rw [if_pos rfl] at c ⊢
      have mn := (m.2.1 rfl h0).2.2 h1
      have eT : T4 A ++ msgI 20 b = aY A 6 ++ aY A 7 ++ aY A 8 ++ msgI 20 b := by
        show aY A 6 ++ aY A 7 ++ aY A 8 ++ aY A 9 ++ msgI 20 b = _
        rw [mn.2.2, List.append_nil]
      have hlen : (T4 A).length + 3 + b.length ≤ 293 := by
        show (aY A 6 ++ aY A 7 ++ aY A 8 ++ aY A 9).length + 3 + b.length ≤ 293
        rw [mn.2.2, List.append_nil, List.length_append, List.length_append]
        omega
      rw [show (32 : Int) = (b.length : Int) by rw [hbl]; rfl]
      refine xs_msg he g1.1 lv (by rw [hbl]; exact hb1) hlen (by omega) (by omega) eT (fun J15 g15 o15 r15 => ?_)
      have eq : uT (aY A 6) (aY A 7) (aY A 8) (msgI 20 b) A = uy 9 (msgI 20 b) A := uT_9 _ A
      rw [eq] at g15
      have hT15 : xTr e J15 (T3 A ++ msgI 20 b) := g15.2.2.2.2.2.2.2.2.1.2.1 lv
      refine s_enterData he hT15 (fun J17 t1 t2 t3 => ?_)
      have main : sg J15 (e + 151) 0 32 = aY A 15 := g15.2.2.2.2.2.2.2.2.1.2.2.2.1 5 (by decide)
      rw [main] at t1
      have g17 := g15.three he t1 t2 t3
      have hT17 : xTr e J17 (T3 A ++ msgI 20 b) := g17.1.2.2.2.2.2.2.2.2.1.2.1 lv
      refine s_finishedInto he (by decide) (by omega) (by omega) (by rw [lnS_142 he]; decide) hT17 (fun J19 f1 f2 f3 => ?_)
      have sec0 : sg J17 (e + 146 + (0 : Int).toNat) 0 32 = aY A 10 := g17.1.2.2.2.2.2.2.2.2.1.2.2.2.1 0 (by decide)
      rw [sec0] at f1
      have g19 := g17.1.scr (J' := J19) he (fun a ha => f3 a (fun u => by unfold cS at u; omega))
      refine xs_fstart he g19.1 (fun J21 g21 o21 r21 => ?_)
      have o142 : sg J21 (e + 142) 0 ((b.length : Int)).toNat = finI (aY A 10) (T3 A ++ msgI 20 b) := by
        rw [hbl, sg_row (r21 _ (by omega))]
        exact f1
      have fl : (finI (aY A 10) (T3 A ++ msgI 20 b)).length = 32 := mcI_len _ _
      rw [show J21 (e + 1) 14 = aZ A 12 from g21.2.1.2.2.2.2.2.2.2.1]
      refine xs_fadd (K' := fun _ => 20) (N' := fun _ => aZ A 12 + 1) (B' := fun _ => finI (aY A 10) (T3 A ++ msgI 20 b)) he g21 (show aF (x0A _) = (0, fun _ => 0, fun _ => 0, fun _ => [], fun _ => 0) from rfl) rfl (by decide) (fun f hf => absurd hf (Nat.not_lt_zero _)) ⟨rfl, rfl, o142.symm⟩ (by omega) (by rw [lnS_142 he, hbl]; decide) (by omega) (by rw [hbl]; decide) (fun J23 g23 f23 => ?_)
      refine hK10 J23 L (fun J11 e11 => ?_)
      have g11 := XS_z0 he g23 2 (fun _ => g23.2.2.2.2.2.2.2.2.1.2.1 lv)
      rw [← e11] at g11
      refine hQ0 J11 rfl c.symm g11 (g1.2.tr (o15.tr (g17.2.tr (g19.2.tr (o21.tr (XO.tr (XO.F f23 (fun a q => Or.inl (by omega))) ?_))))))
      rw [e11]
      exact XO.zs (Or.inl (by omega))
    · subst s1
      rw [if_neg (by decide)] at c ⊢
      intro J14 e14
      have g14 := XS_z10 he g1.1 0
      rw [← e14] at g14
      refine hK10 J14 L (fun J11 e11 => ?_)
      have g11 := XS_z0 he g14 2 (fun _ => g14.2.2.2.2.2.2.2.2.1.2.1 lv)
      rw [← e11] at g11
      refine hQ1 J11 rfl c.symm g11 (g1.2.tr ?_)
      rw [e11, e14]
      exact (XO.zs (Or.inl (by omega))).tr (XO.zs (Or.inl (by omega)))
  · rw [if_neg c]
    refine ⟨by decide, ?_⟩
    rw [if_pos rfl]
    exact hr J1 (fun q => c q.symm) g1.1 g1.2
theorem zs_eq_f (F : FLT) (v : Int) (B : SA) : uz 10 1 (uz 8 v (uz 7 4 (uz 14 0 (ul [] (uz 0 2 (uf F (x0A B))))))) = uz 8 v (newA F (uz 0 2 B)) := by
  refine Prod.ext (funext fun j => ?_) rfl
  show (if j = 10 then (1 : Int) else if j = 8 then v else if j = 7 then 4 else if j = 14 then 0 else if j = 0 then 2 else if j = 10 then 0 else if j = 9 then 0 else if j = 8 then 0 else if j = 7 then 0 else B.1 j) = if j = 8 then v else if j = 10 then 1 else if j = 9 then 0 else if j = 7 then 4 else if j = 14 then 0 else if j = 0 then 2 else B.1 j
  by_cases h10 : j = 10
  · subst h10; rfl
  by_cases h8 : j = 8
  · subst h8; rfl
  by_cases h7 : j = 7
  · subst h7; rfl
  by_cases h14 : j = 14
  · subst h14; rfl
  by_cases h0 : j = 0
  · subst h0; rfl
  by_cases h9 : j = 9
  · subst h9; rfl
  simp only [h10, h8, h7, h14, h0, h9, if_false]
/-- what stands when the client has taken the RETRY, the server's FINISHED -/
theorem AI_retry {bd : Int} {A : SA} {b : List Int} (ai : AI bd 0 A) (h0 : aZ A 0 = 1) (h1 : aZ A 1 = 2) (h5 : aY A 5 = []) (hb : b.length = 16) (hbo : oct b) : AI bd 0 (newA (helF (aZ A 12 + 1) (helB (uy 5 b A))) (uz 12 (aZ A 12 + 1) (uT (msgI 1 (helB (uy 5 b A))) [] [] [] (uy 5 b A)))) := by
  have z12 : aZ A 12 = 0 := ai.b29 (by rw [h5]; rfl)
  have hy : AIy (aY (uy 5 b A)) := by
    obtain ⟨y0, y1, y2, y3, y4, y5, y6⟩ := ai.y
    refine ⟨y0, y1, y2, y3, y4, ⟨Or.inr hb, hbo⟩, fun k k0 k1 => ?_⟩
    have : aY (uy 5 b A) k = aY A k := if_neg (by omega)
    rw [this]
    exact y6 k k0 k1
  have hl := helB_len hy
  have ho := helB_oct hy
  have e5 : (aY (uy 5 b A) 5).length = 16 := hb
  have hml : (msgI 1 (helB (uy 5 b A))).length = 80 := by rw [msgI_len, hl, e5]
  have b13 : aZ A 13 = 0 := (ai.b26 rfl h0).1 h1
  refine ⟨⟨ai.b0, ai.b1, ai.b2, ai.b3, ai.b4, ai.b5, ai.b6, fun _ => ⟨Or.inl rfl, Or.inl h0⟩, ai.b8, ⟨Int.le_refl 0, show (0 : Int) ≤ 8 by decide⟩, Or.inr rfl, ai.b11, ?_, ai.b13, ⟨Int.le_refl 0, ai.b17.1⟩, ai.b15, ai.b16, ai.b17, ai.b18, ai.b19, ai.b20, ?_, fun q => ?_, fun q => ?_, ai.b24, fun _ => show 0 < 1 by decide, ai.b26, ai.b27, ai.b28, fun q => ?_⟩, ?_, ⟨fun _ => ⟨?_, ?_, ?_, ?_, ?_⟩, fun _ _ => ⟨fun _ => ⟨rfl, rfl, rfl⟩, fun q => ?_, fun q => ?_⟩, fun q => ?_⟩, ⟨⟨show 1 ≤ 3 by decide, fun f hf => ⟨Or.inl rfl, ?_, ?_, ho, ?_⟩, ?_⟩, fun _ => Or.inl rfl, fun q hq => absurd hq List.not_mem_nil, fun f hf q => absurd rfl q⟩, ai.k, ⟨show 0 ≤ 8 by decide, fun q hq => absurd hq List.not_mem_nil⟩, ai.2.2.2.2.2.2.1, ai.2.2.2.2.2.2.2.1, ai.2.2.2.2.2.2.2.2.1, fun f hf => ?_⟩
  · show aZ A 12 + 1 = 0 ∨ aZ A 12 + 1 = 1
    omega
  · show ((0 : Nat) : Int) ≤ 204 * (0 + 1)
    decide
  · have q : aZ A 0 = 0 := q
    omega
  · exact absurd q (by decide)
  · have q : (aY (uy 5 b A) 5).length = 0 := q
    omega
  · obtain ⟨y0, y1, y2, y3, y4, y5, y6⟩ := hy
    refine ⟨y0, y1, y2, y3, y4, y5, fun k k0 k1 => ?_⟩
    have : aY (newA (helF (aZ A 12 + 1) (helB (uy 5 b A))) (uz 12 (aZ A 12 + 1) (uT (msgI 1 (helB (uy 5 b A))) [] [] [] (uy 5 b A)))) k = aY (uy 5 b A) k := uT_y (by omega)
    rw [this]
    exact y6 k k0 k1
  · intro q
    have : (msgI 1 (helB (uy 5 b A))).length = 0 := by rw [show msgI 1 (helB (uy 5 b A)) = [] from q]; rfl
    omega
  · show (msgI 1 (helB (uy 5 b A))).length ≤ 80
    omega
  · show 0 ≤ 23
    decide
  · show 0 ≤ 155
    decide
  · show 0 ≤ 35
    decide
  · have q : aZ A 1 = 8 := q
    omega
  · have q : aZ A 1 = 20 := q
    omega
  · exact absurd q (by decide)
  · show 0 ≤ aZ A 12 + 1 ∧ aZ A 12 + 1 < 256
    omega
  · show 0 < (helB (uy 5 b A)).length
    omega
  · show (helB (uy 5 b A)).length ≤ 157
    omega
  · show 0 + (helB (uy 5 b A)).length ≤ 204
    omega
  · exact Or.inl ⟨rfl, Or.inl ⟨rfl, by show ((helB (uy 5 b A)).length : Int) ≤ 77; omega⟩⟩
theorem AI_fin {bd : Int} {A : SA} {b : List Int} (ai : AI bd 0 A) (h0 : aZ A 0 = 1) (h1 : aZ A 1 = 20) (hb : b.length = 32) (hbo : oct b) : AI bd 0 (newA (finF (aZ A 12 + 1) (finCb b A)) (finC1 b A)) := by
  have mn := (ai.m.2.1 rfl h0).2.2 h1
  have ml := ai.m.1 (Or.inl h0)
  have b12 := ai.b12
  have fl : (finCb b A).length = 32 := mcI_len _ _
  have hml : (msgI 20 b).length = 35 := by rw [msgI_len, hb]
  have ynew : ∀ k, k ≠ 9 → aY (newA (finF (aZ A 12 + 1) (finCb b A)) (finC1 b A)) k = threeY (aY A 15) (T3 A ++ msgI 20 b) (aY A) k := fun k hk => by
    show threeY (aY A 15) (T3 A ++ msgI 20 b) (aY (uy 9 (msgI 20 b) A)) k = _
    unfold threeY
    have : aY (uy 9 (msgI 20 b) A) k = aY A k := if_neg hk
    rw [this]
  refine ⟨⟨show (0 : Int) ≤ 2 ∧ (2 : Int) ≤ 4 by decide, ai.b1, ai.b2, ai.b3, ai.b4, ai.b5, ai.b6, fun _ => ⟨Or.inl rfl, Or.inr (Or.inl rfl)⟩, ai.b8, ⟨Int.le_refl 0, show (0 : Int) ≤ 8 by decide⟩, Or.inr rfl, ai.b11, ai.b12, Or.inr (Or.inr rfl), ⟨Int.le_refl 0, ai.b17.1⟩, ai.b15, ai.b16, ai.b17, ai.b18, ai.b19, ai.b20, ?_, fun q => ?_, fun q => ?_, ai.b24, fun _ => show 0 < 1 by decide, fun _ q => ?_, fun q => ?_, fun _ => rfl, ai.b29⟩, ?_, ⟨fun _ => ⟨ml.1, ml.2.1, ml.2.2.1, ml.2.2.2.1, ?_⟩, fun _ q => ?_, fun q => ?_⟩, ⟨⟨show 1 ≤ 3 by decide, fun f hf => ⟨Or.inr (Or.inr (Or.inr (Or.inr rfl))), ?_, ?_, mcI_oct _ _, ?_⟩, ?_⟩, fun _ => Or.inl rfl, fun q hq => absurd hq List.not_mem_nil, fun f hf q => rfl⟩, fun n hn hk => ⟨?_, (ai.k n hn hk).2⟩, ⟨show 0 ≤ 8 by decide, fun q hq => absurd hq List.not_mem_nil⟩, ai.2.2.2.2.2.2.1, ai.2.2.2.2.2.2.2.1, ai.2.2.2.2.2.2.2.2.1, fun f hf => ?_⟩
  · show ((0 : Nat) : Int) ≤ 204 * (0 + 1)
    decide
  · exact absurd (show (2 : Int) = 0 from q) (by decide)
  · exact absurd q (by decide)
  · exact absurd (show (2 : Int) = 1 from q) (by decide)
  · exact absurd q (by decide)
  · obtain ⟨y0, y1, y2, y3, y4, y5, y6⟩ := ai.y.three (main := aY A 15) (T := T3 A ++ msgI 20 b)
    refine ⟨y0, y1, y2, y3, y4, y5, fun k k0 k1 => ?_⟩
    rw [ynew k (by omega)]
    exact y6 k k0 k1
  · show (msgI 20 b).length ≤ 35
    omega
  · exact absurd (show (2 : Int) = 1 from q) (by decide)
  · exact absurd q (by decide)
  · show 0 ≤ aZ A 12 + 1 ∧ aZ A 12 + 1 < 256
    omega
  · show 0 < (finCb b A).length
    omega
  · show (finCb b A).length ≤ 157
    omega
  · show 0 + (finCb b A).length ≤ 204
    omega
  · exact fun q => absurd (show (2 : Int) = 0 from q) (by decide)
  · exact Or.inl ⟨rfl, Or.inr ⟨rfl, by show ((finCb b A).length : Int) ≤ 32; omega⟩⟩
