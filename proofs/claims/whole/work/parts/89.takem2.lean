theorem hello_12 (n : Int) (A : SA) : newA (helF n (helB A)) (uz 12 n (uT (msgI 1 (helB A)) [] [] [] (uz 12 n A))) = newA (helF n (helB A)) (uz 12 n (uT (msgI 1 (helB A)) [] [] [] A)) := by
  have e : uz 12 n (uT (msgI 1 (helB A)) [] [] [] (uz 12 n A)) = uz 12 n (uT (msgI 1 (helB A)) [] [] [] A) := by
    refine Prod.ext (funext fun j => ?_) rfl
    show (if j = 12 then n else if j = 12 then n else A.1 j) = if j = 12 then n else A.1 j
    split <;> rfl
  rw [e]
theorem mMs_zw {J : zM} {p k : Int} {b : List Int} (hk : 0 ≤ k ∧ k < 256) (hb : oct b) (hl : b.length ≤ 157) : mMs (zw J 492 p (msgI k b)) p (msgI k b) := by
  refine mMs_mk ?_ hk hb hl
  have := zw_sg J 492 p (msgI k b)
  rw [msgI_len] at this
  exact this
/-- the client's FLIGHT lies apart from what it takes -/
theorem fl_apart {bd : Int} {A : SA} {p n : Int} (ai : AI bd 0 A) (h : 592 ≤ p ∧ p + n ≤ 830) : ∀ f, f < (aF A).1 → plK 0 ((aF A).2.1 f) + 3 + (((aF A).2.2.2.1 f).length : Int) ≤ p ∨ p + n ≤ plK 0 ((aF A).2.1 f) := by
  intro f hf
  have g := ai.g f hf
  rcases g with ⟨_, g | g⟩ | ⟨g, _⟩
  · left
    rw [g.1]
    show 512 + 3 + _ ≤ p
    omega
  · right
    rw [g.1]
    show p + n ≤ 830
    omega
  · exact absurd g (by decide)
theorem ms_clientTakes {bd sl kd : Int} {b : List Int} {A : SA} {J : zM} {L : yM} {Q : zM → yM → Prop} (h : MS 0 J L A) (ai : AI bd 0 A) (h0 : aZ A 0 = 1) (hnow : J 491 3 = aZ A 17) (hsl : 0 ≤ sl ∧ sl < 8) (h541 : J 541 sl = kd) (h542 : J 542 sl = (b.length : Int)) (h544 : sg J 544 (200 * sl) b.length = b) (hbo : oct b) (kw : kLen kd (b.length : Int))
    (hQ : ∀ J', MS 0 J' L (if kd = 6 ∧ aZ A 1 = 2 ∧ aY A 5 = [] then helloA (aZ A 12 + 1) (uy 5 b A) else if kd = 2 ∧ aZ A 1 = 2 then ansA b A else if kd = 8 ∧ aZ A 1 = 8 then setA b A else if kd = 20 ∧ aZ A 1 = 20 then finC b A else raiseA 0 10 A) → MO 0 J L J' L → Q J' L) : w_X12_clientTakes sl J L Q := by
  have b1 := ai.b1
  have b16 := ai.b16
  have lv : live (aZ A 0) := Or.inl h0
  have hb152 : b.length ≤ 152 := by unfold kLen at kw; omega
  have y5 := ai.y.2.2.2.2.2.1.1
  have m1 := h.2.1.1 rfl (Or.inr h0)
  have ml := ai.m.1 lv
  have p536 : R32 (J 536 0) := by rcases m1 with q | q | q <;> (rw [q.2]; decide)
  have p0 : J 536 0 = 0 ↔ aZ A 1 = 2 := by omega
  have p1 : J 536 0 = 1 ↔ aZ A 1 = 8 := by omega
  have p2 : J 536 0 = 2 ↔ aZ A 1 = 20 := by omega
  have own531 : J 492 531 = ((aY A 5).length : Int) := (h.2.2.1.2.2.2.1 rfl lv).2.1
  have rk : R32 kd := by unfold kLen at kw; exact ⟨by omega, by omega⟩
  unfold w_X12_clientTakes
  rw [h541]
  refine ⟨by omega, fun x2 ex2 => ?_⟩
  subst ex2
  intro K5 hK5
  have k5 : ¬ (x2 = 6 ∧ aZ A 1 = 2 ∧ aY A 5 = []) → K5 J L := by
    intro c6
    rw [if_neg c6] at hQ
    refine hK5 J L ?_
    intro K8 hK8
    have k8 : ¬ (x2 = 2 ∧ aZ A 1 = 2) → K8 J L := by
      intro c2
      rw [if_neg c2] at hQ
      refine hK8 J L ?_
      intro K11 hK11
      have k11 : ¬ (x2 = 8 ∧ aZ A 1 = 8) → K11 J L := by
        intro c8
        rw [if_neg c8] at hQ
        refine hK11 J L ?_
        intro K14 hK14
        have k14 : ¬ (x2 = 20 ∧ aZ A 1 = 20) → K14 J L := fun c20 => by
          rw [if_neg c20] at hQ
          exact hK14 J L (ms_raise (by decide) h ai (by decide) hQ)
        refine ⟨rk, ?_⟩
        by_cases d : x2 = 20
        · rw [if_pos d]
          refine ⟨p536, ?_⟩
          by_cases d2 : J 536 0 = 2
          · rw [if_pos d2]
            have z1 := p2.mp d2
            rw [if_pos ⟨d, z1⟩] at hQ
            have hbl : b.length = 32 := by unfold kLen at kw; omega
            have mn := (ai.m.2.1 rfl h0).2.2 z1
            have z13 : aZ A 13 = 2 := (ai.b26 rfl h0).2 (by omega)
            refine s_copyKept (by omega) h541 h542 h544 hb152 (by decide) ?_
            rw [d]
            have hlm : (msgI 20 b).length = 35 := by rw [msgI_len, hbl]
            have g1 := h.wr (p := 790) (w := msgI 20 b) (by decide) ai (by rw [hlm]; decide) (fl_apart ai (by rw [hlm]; decide)) (fun i hi hy => by
              have : i = 0 ∨ i = 1 ∨ i = 2 ∨ i = 3 := by omega
              rcases this with rfl | rfl | rfl | rfl
              · left; show (512 : Int) + ((aY A 6).length : Int) ≤ 790; omega
              · left; show (600 : Int) + ((aY A 7).length : Int) ≤ 790; omega
              · left; show (630 : Int) + ((aY A 8).length : Int) ≤ 790; omega
              · exact absurd mn.2.2 hy)
            have mm := mMs_zw (J := J) (p := 790) (k := 20) (b := b) (by decide) hbo (by omega)
            obtain ⟨J1, hJ1⟩ : ∃ J1, J1 = zw J 492 790 (msgI 20 b) := ⟨_, rfl⟩
            rw [← hJ1] at g1 mm ⊢
            have tr3 := g1.1.tr (many := 3) lv ml.1 (fun _ => mn.1) (fun _ => mn.2.1) (fun q => absurd q (by decide))
            have hsec : sg J1 492 (1024 * 0 + 128 + 32 * 1) 32 = aY A 11 := ((g1.1.2.2.2.2.2.2.2.2.1.2.1 (by omega)).2.2 1 (by decide)).1
            refine s_finishedM (by decide) (by decide) tr3 g1.1.2.2.2.2.2.2.2.2.2.2.2.2 (by rw [hsec]; exact (ai.y.2.2.2.2.2.2 11 (by decide) (by decide)).2) (fun J2 f1 f2 => ?_)
            have eT3 : aY A 6 ++ (if 1 < (3 : Int) then aY A 7 else []) ++ (if 2 < (3 : Int) then aY A 8 else []) ++ (if 3 < (3 : Int) then aY A 9 else []) = T3 A := by
              show aY A 6 ++ aY A 7 ++ aY A 8 ++ [] = _
              rw [List.append_nil]
            rw [hsec, eT3] at f1
            have g2 := g1.1.scr (by decide) ai.dg ai.ll f2 (fun a q => by unfold cF cH at q; omega) (fun k q => by unfold t13 at q; omega) (by rw [f2.2 30 (by decide)]; exact m30 ai.dg g1.1)
            have e492 : J2 492 = J1 492 := f2.1 492 (by unfold cF cH; omega) (by decide)
            have mm2 : mMs J2 790 (msgI 20 b) := mm.fr2 (fun k _ _ => by rw [e492])
            have sb : sg J2 492 793 32 = b := by
              have := mm2.size.2.2.1
              rw [hbl] at this
              exact this
            refine s_isDigest (by decide) (by decide) (by decide) (by show oct (sg J2 492 793 32); rw [sb]; exact hbo) (by show oct (sg J2 500 0 32); rw [f1]; exact mcI_oct _ _) ?_
            have hres : (if sg J2 492 793 (32 : Int).toNat = sg J2 500 0 (32 : Int).toNat then (1 : Int) else 0) = if b = finI (aY A 11) (T3 A) then 1 else 0 := by
              show (if sg J2 492 793 32 = sg J2 500 0 32 then (1 : Int) else 0) = _
              rw [sb, f1]
            rw [hres]
            unfold finC at hQ
            by_cases c : b = finI (aY A 11) (T3 A)
            · rw [if_pos c]
              rw [if_neg (fun q => q c)] at hQ
              refine ⟨by decide, ?_⟩
              rw [if_neg (by decide)]
              -- the SECRETS of EPOCH 3
              have g3 : MS 0 J2 L (uy 9 (msgI 20 b) A) := MS_ym (i := 3) g2.1 (by decide) mm2
              have nn9 : aY (uy 9 (msgI 20 b) A) 9 ≠ [] := fun q => by
                have : (msgI 20 b).length = 0 := by rw [show msgI 20 b = [] from q]; rfl
                omega
              have tr4 := g3.tr (many := 4) lv ml.1 (fun _ => mn.1) (fun _ => mn.2.1) (fun _ => nn9)
              have eT4 : aY (uy 9 (msgI 20 b) A) 6 ++ (if 1 < (4 : Int) then aY (uy 9 (msgI 20 b) A) 7 else []) ++ (if 2 < (4 : Int) then aY (uy 9 (msgI 20 b) A) 8 else []) ++ (if 3 < (4 : Int) then aY (uy 9 (msgI 20 b) A) 9 else []) = T3 A ++ msgI 20 b := rfl
              rw [eT4] at tr4
              have hmain : sg J2 492 (1024 * 0 + 96) 32 = aY A 15 := (g3.2.2.2.2.2.2.2.2.1.2.1 (show 2 ≤ aZ A 13 by omega)).2.1
              refine s_epochThree (by decide) tr4 g3.2.2.2.2.2.2.2.2.2.2.2.2 (by rw [hmain]; exact (ai.y.2.2.2.2.2.2 15 (by decide) (by decide)).2) (fun J3 J4 t1 t2 t3 => ?_)
              rw [hmain] at t1
              have g4 := g3.three (by decide) (show 2 ≤ aZ A 13 by omega) t2 t3 t1
              have tr4' : mTr 0 4 J4 (T3 A ++ msgI 20 b) := g4.1.tr (many := 4) lv ml.1 (fun _ => mn.1) (fun _ => mn.2.1) (fun _ => nn9)
              have hsec0 : sg J4 492 (1024 * 0 + 128 + 32 * 0) 32 = aY A 10 := ((g4.1.2.2.2.2.2.2.2.2.1.2.1 (show (2 : Int) ≤ 3 by decide)).2.2 0 (by decide)).1
              unfold w_X12_finishedTo
              refine s_finishedM (by decide) (by decide) tr4' g4.1.2.2.2.2.2.2.2.2.2.2.2.2 (by rw [hsec0]; exact (ai.y.2.2.2.2.2.2 10 (by decide) (by decide)).2) (fun J5 q1 q2 => ?_)
              rw [hsec0] at q1
              have d4 : (aT (threeA (aY A 15) (T3 A ++ msgI 20 b) (uy 9 (msgI 20 b) A))).2.2.2.1 = [] := ai.dg
              have g5 := g4.1.scr (by decide) d4 ai.ll q2 (fun a q => by unfold cF cH at q; omega) (fun k q => by unfold t13 at q; omega) (by rw [q2.2 30 (by decide)]; exact m30 d4 g4.1)
              refine s_putMessage (by decide) (by decide) (s_store (by decide) (by decide) (by decide) ?_)
              obtain ⟨fb, hfb⟩ : ∃ fb, fb = finCb b A := ⟨_, rfl⟩
              have q1' : sg J5 500 0 32 = fb := by rw [hfb]; exact q1
              have fbl : fb.length = 32 := by rw [hfb]; exact mcI_len _ _
              have fbo : oct fb := by rw [hfb]; exact mcI_oct _ _
              have e6 : zcp (zw J5 492 830 [20, 32 / 256, 32 % 256]) 500 0 492 (830 + 3) 32 = zw J5 492 830 (msgI 20 fb) := by
                rw [zcp_zw _ _ _ _ _ _ (by decide), show sg (zw J5 492 830 [20, 32 / 256, 32 % 256]) 500 0 (32 : Int).toNat = fb from (by rw [sg_row (zw_r J5 (by decide))]; exact q1'), zw_app J5 492 830 (830 + 3) [20, 32 / 256, 32 % 256] fb rfl]
                unfold msgI
                rw [fbl]
                rfl
              rw [e6]
              obtain ⟨J6, hJ6⟩ : ∃ J6, J6 = zw J5 492 830 (msgI 20 fb) := ⟨_, rfl⟩
              have lfm : (msgI 20 fb).length = 35 := by rw [msgI_len, fbl]
              have mf := mMs_zw (J := J5) (p := 830) (k := 20) (b := fb) (by decide) fbo (by omega)
              have u6 : ∀ k, ¬ (830 ≤ k ∧ k < 865) → J6 492 k = J5 492 k := fun k hk => by rw [hJ6]; exact zw_out J5 (by rw [lfm]; omega)
              rw [← hJ6] at mf ⊢
              have f6 : mF (fun a => False ∨ a = 492) (fun _ => False) J5 J6 := by rw [hJ6]; exact mF_zw (Or.inr rfl) (by decide)
              have c6' := g5.1.core.own (J' := J6) (U := fun k => 830 ≤ k ∧ k < 865) (by decide) f6 (fun a q => q.elim) (fun k q => q.elim) u6 (fun k q => by omega)
              have o6 : MO 0 J5 L J6 L := MO.own (U := fun k => 830 ≤ k ∧ k < 865) (by decide) f6 (fun a q => q.elim) (fun k q => q.elim) u6 (fun k q => by omega)
              intro J7 e7 J8 e8
              have r8 : ∀ a, a ≠ 534 → a ≠ 536 → J8 a = J6 a := fun a u v => by rw [e8, zs_r _ u, e7, zs_r _ v]
              have c8 : MSc 0 J8 L (finC1 b A) := by
                obtain ⟨x0, x1, x2', x4, x5, x6, x7, x8, x9, x10, x11, x12⟩ := c6'
                have cc : ∀ (C : Nat → Prop), (∀ a, C a → a ≠ 534 ∧ a ≠ 536) → oEq 0 C J6 J8 := fun C hC a i _ hc => by rw [r8 a (hC a hc).1 (hC a hc).2]
                obtain ⟨y0, y1, y2, y3, y4, y5', y6, y7, y8, y9, y10, y11⟩ := x0
                refine ⟨⟨by rw [e8]; exact zs_s _ _ _ _, ?_, ?_, ?_, ?_, ?_, ?_, ?_, ?_, ?_, y10, y11⟩, ⟨fun _ q => ?_, fun q => ?_, ?_, ?_⟩, x2'.fr (cc _ (by omega)) (fun k _ _ => by rw [r8 492 (by decide) (by decide)]), ⟨x4.1.fr (by decide) (cc _ (by omega)), x4.2.fr (cc _ (by omega))⟩, x5.fr (cc _ (by omega)), (x6.fr (cc _ (by omega))).cg (fun k hk => if_neg (by omega)), x7.fr (by decide) (cc _ (by omega)), x8.fr (fun k _ _ => by rw [r8 492 (by decide) (by decide)]), MSn.fr x9 (fun a ha => r8 a (by omega) (by omega)) (by rw [r8 491 (by decide) (by decide)]), x10.fr (cc _ (by omega)) (fun _ _ _ => rfl), x11.fr (cc _ (by omega)), mKa x12 (cc _ (by omega))⟩
                · rw [r8 _ (by decide) (by decide)]; exact y1
                · rw [r8 _ (by decide) (by decide)]; exact y2
                · rw [r8 _ (by decide) (by decide)]; exact y3
                · rw [r8 _ (by decide) (by decide)]; exact y4
                · rw [r8 _ (by decide) (by decide)]; exact y5'
                · rw [r8 _ (by decide) (by decide)]; exact y6
                · rw [r8 _ (by decide) (by decide)]; exact y7
                · rw [r8 _ (by decide) (by decide)]; exact y8
                · rw [r8 _ (by decide) (by decide)]; exact y9
                · have q : (2 : Int) = 0 ∨ (2 : Int) = 1 := q
                  omega
                · rw [r8 491 (by decide) (by decide)]
                  exact ⟨fun u => absurd (show (2 : Int) = 0 from u) (by decide), fun _ => (x1.2.1 q).2.1 lv, (x1.2.1 q).2.2⟩
                · rw [r8 506 (by decide) (by decide)]; exact x1.2.2.1
                · rw [r8 507 (by decide) (by decide)]; exact x1.2.2.2
              have o8 : MO 0 J6 L J8 L := by
                rw [e8, e7]
                exact (MO_zs (nown1 (s := 0) (by omega)) (by omega) (by omega) (by omega)).tr (MO_zs (nown1 (s := 0) (by omega)) (by omega) (by omega) (by omega))
              refine ms_clear (by decide) c8 (fun J9 c9 z9 fl9 o9 e9 ov9 k9 => ?_)
              have n9 : J9 491 58 = aZ A 12 := by rw [k9, r8 491 (by decide) (by decide), f6.2 58 (fun q => q)]; exact (g5.1.2.1.2.2.2.2.1 rfl).2.2.2
              rw [n9]
              have b12 := ai.b12
              have mf9 : mMs J9 830 (msgI 20 fb) := mf.fr2 (fun k _ _ => by rw [e9, r8 492 (by decide) (by decide)])
              refine ms_fadd (kind := 20) (num := aZ A 12 + 1) (K' := fun _ => 20) (N' := fun _ => aZ A 12 + 1) (B' := fun _ => fb) (by decide) c9 z9 fl9 (fun f hf => absurd hf (Nat.not_lt_zero _)) (by decide) (fun f hf => absurd hf (Nat.not_lt_zero _)) ⟨rfl, rfl⟩ mf9 (by omega) (by omega) (fun J10 c10 z10 fl10 o10 e10 ov10 k10 => ?_)
              have c10' : MSc 0 J10 L (newA (finF (aZ A 12 + 1) fb) (finC1 b A)) := by
                have q := MSc_uz10 c10 1
                have e : uz 10 1 (clrA (finC1 b A)) = newA FL0 (finC1 b A) := by
                  refine Prod.ext (funext fun j => ?_) rfl
                  show (if j = 10 then (1 : Int) else if j = 10 then 0 else _) = if j = 10 then (1 : Int) else _
                  split <;> rfl
                rw [e] at q
                exact q
              have aiF := AI_fin ai h0 z1 hbl hbo
              rw [← hfb] at aiF hQ
              refine msc_fly (by decide) c10' fl10 aiF (by rw [k10, k9, r8 491 (by decide) (by decide), f6.2 3 (fun q => q), q2.2 3 (by decide)]; rw [t3, zs_r _ (by decide), t2.1.2 3 (by decide), f2.2 3 (by decide), hJ1, zw_r J (by decide)]; exact hnow) (show ([] : LGT).length + 204 ≤ 1836 by decide) (fun J11 c11 o11 s11 r11 => hQ J11 ?_ (g1.2.tr (g2.2.tr (g4.2.tr (g5.2.tr (o6.tr (o8.tr (o9.tr (o10.tr o11)))))))))
              have E492 : J11 492 = J6 492 := by rw [r11 492 (by omega), e10, e9, r8 492 (by decide) (by decide)]
              refine c11.full ⟨fun q => absurd (show (2 : Int) = 0 from q) (by decide), fun _ => s11, by rw [s11]; decide⟩ (fun q _ => ?_) (fun _ i hi hy => ?_) ⟨?_, fun _ => ⟨?_, show 0 < 1 by decide⟩, fun q => absurd (show (1 : Int) = 0 from q) (by decide), fun _ => 0, fun _ => Or.inl rfl, fun _ _ => rfl, MFl.fr fl10 (fun a ha => r11 a (by omega))⟩
              · have mq := g5.1.2.2.1.2.2.2.1 rfl lv
                show sg J11 492 890 16 = aY A 4 ∧ J11 492 531 = ((aY A 5).length : Int) ∧ sg J11 492 32 32 = earI (aY A 0)
                rw [sg_row E492, E492, sg_row E492, sg_fr (fun k a1 a2 => u6 k (by omega)), u6 531 (by omega), sg_fr (fun k a1 a2 => u6 k (by omega))]
                exact mq
              · have q5 := g5.1.2.2.2.2.2.2.2.2.1.1 lv i hi hy
                have lb : plT 0 i + ((aY (threeA (aY A 15) (T3 A ++ msgI 20 b) (uy 9 (msgI 20 b) A)) (6 + i)).length : Int) ≤ 830 := by
                  have : i = 0 ∨ i = 1 ∨ i = 2 ∨ i = 3 := by omega
                  rcases this with rfl | rfl | rfl | rfl
                  · show (512 : Int) + ((aY A 6).length : Int) ≤ 830; omega
                  · show (600 : Int) + ((aY A 7).length : Int) ≤ 830; omega
                  · show (630 : Int) + ((aY A 8).length : Int) ≤ 830; omega
                  · show (790 : Int) + ((msgI 20 b).length : Int) ≤ 830; omega
                exact q5.fr2 (fun k a1 a2 => by rw [E492]; exact u6 k (by omega))
              · rw [r11 522 (by omega), ov10, ov9]; decide
              · rw [r11 522 (by omega), ov10]; exact ov9
            · rw [if_neg c]
              rw [if_pos c] at hQ
              refine ⟨by decide, ?_⟩
              rw [if_pos rfl]
              exact ms_raise (by decide) g2.1 ai (by decide) (fun J3 k1 k2 => hQ J3 k1 (g1.2.tr (g2.2.tr k2)))
          · rw [if_neg d2]
            exact k14 (fun q => d2 (p2.mpr q.2))
        · rw [if_neg d]
          exact k14 (fun q => d q.1)
      refine ⟨rk, ?_⟩
      by_cases d : x2 = 8
      · rw [if_pos d]
        refine ⟨p536, ?_⟩
        by_cases d2 : J 536 0 = 1
        · rw [if_pos d2]
          have z1 := p1.mp d2
          rw [if_pos ⟨d, z1⟩] at hQ
          have mn := (ai.m.2.1 rfl h0).2.1 z1
          refine s_copyKept (by omega) h541 h542 h544 hb152 (by decide) (fun J2 e2 => ?_)
          rw [d] at e2
          have hlm : (msgI 8 b).length = 3 + b.length := msgI_len _ _
          have g1 := h.wr (p := 630) (w := msgI 8 b) (by decide) ai (by rw [hlm]; omega) (fl_apart ai (by rw [hlm]; omega)) (fun i hi hy => by
            have : i = 0 ∨ i = 1 ∨ i = 2 ∨ i = 3 := by omega
            rcases this with rfl | rfl | rfl | rfl
            · left; show (512 : Int) + ((aY A 6).length : Int) ≤ 630; omega
            · left; show (600 : Int) + ((aY A 7).length : Int) ≤ 630; omega
            · exact absurd mn.2.1 hy
            · exact absurd mn.2.2 hy)
          have mm := mMs_zw (J := J) (p := 630) (k := 8) (b := b) (by decide) hbo (by omega)
          have g2 : MS 0 (zw J 492 630 (msgI 8 b)) L (uy 8 (msgI 8 b) A) := MS_ym (i := 2) g1.1 (by decide) mm
          have g3 := MS_aw g2 (v := 20) (w := 2) (by omega)
          rw [← e2] at g3
          exact hQ J2 g3.1 (g1.2.tr g3.2)
        · rw [if_neg d2]
          exact k11 (fun q => d2 (p1.mpr q.2))
      · rw [if_neg d]
        exact k11 (fun q => d q.1)
    refine ⟨rk, ?_⟩
    by_cases d : x2 = 2
    · rw [if_pos d]
      refine ⟨p536, ?_⟩
      by_cases d2 : J 536 0 = 0
      · rw [if_pos d2]
        have z1 := p0.mp d2
        rw [if_pos ⟨d, z1⟩] at hQ
        have hbl : b.length = 20 := by unfold kLen at kw; omega
        have mn := (ai.m.2.1 rfl h0).1 z1
        have z13 : aZ A 13 = 0 := (ai.b26 rfl h0).1 z1
        refine s_copyKept (by omega) h541 h542 h544 hb152 (by decide) ?_
        rw [d]
        have hlm : (msgI 2 b).length = 23 := by rw [msgI_len, hbl]
        have g1 := h.wr (p := 600) (w := msgI 2 b) (by decide) ai (by rw [hlm]; decide) (fl_apart ai (by rw [hlm]; decide)) (fun i hi hy => by
          have : i = 0 ∨ i = 1 ∨ i = 2 ∨ i = 3 := by omega
          rcases this with rfl | rfl | rfl | rfl
          · left; show (512 : Int) + ((aY A 6).length : Int) ≤ 600; omega
          · exact absurd mn.1 hy
          · exact absurd mn.2.1 hy
          · exact absurd mn.2.2 hy)
        have mm := mMs_zw (J := J) (p := 600) (k := 2) (b := b) (by decide) hbo (by omega)
        obtain ⟨J1, hJ1⟩ : ∃ J1, J1 = zw J 492 600 (msgI 2 b) := ⟨_, rfl⟩
        rw [← hJ1] at g1 mm ⊢
        have sb : sg J1 492 603 b.length = b := mm.size.2.2.1
        have s4 : sg J1 492 619 4 = partI b 16 4 := sg_part (i := 603) sb 16 4 (by omega)
        have ho4 : oct (partI b 16 4) := partI_oct hbo
        obtain ⟨o, hod⟩ : ∃ o, o = be (partI b 16 4) := ⟨_, rfl⟩
        have hlt : o < 2 ^ 32 := by
          have := be_lt ho4
          rw [partI_len (by omega)] at this
          rw [hod]
          exact this
        refine s_numberAt (by decide) (by decide) (by rw [s4]; exact ho4) (fun r hr4 J60 e60 => ?_)
        rw [s4, ← hod] at hr4
        have g2 := MS_over (by decide) g1.1
        rw [← e60] at g2
        unfold ansA at hQ
        rw [← hod] at hQ
        intro K63 hK63
        have m15 : zand (J60 491 1) 2 = 2 * aZ A 19 := g2.1.2.2.2.2.2.2.2.2.2.2.2.1.2.1 rfl
        have b19 := ai.b19
        have vo : (L 504 0).toInt = aZ A 16 := h.1.2.2.2.2.2.2.2.2.2.2.2
        have mm2 : mMs J60 600 (msgI 2 b) := mm.fr2 (fun k _ _ => by rw [e60, zs_r _ (by decide)])
        have good : ¬ (o ≠ 0 ∧ aZ A 19 = 0) → K63 J60 L := fun hg => hK63 J60 L (by
          rw [if_neg hg] at hQ
          intro K67 hK67
          have fin : ∀ x64 : Int64, lN' x64 (if o = 0 then 0 else pw o (aZ A 16).toNat) → K67 x64 J60 L := fun x64 hx => hK67 x64 J60 L (by
            have g3 : MS 0 J60 L (uy 7 (msgI 2 b) (uz 10 0 A)) := MS_ym (i := 1) g2.1 (by decide) mm2
            have nn7 : aY (uy 7 (msgI 2 b) (uz 10 0 A)) 7 ≠ [] := fun q => by
              have : (msgI 2 b).length = 0 := by rw [show msgI 2 b = [] from q]; rfl
              omega
            have tr2 := g3.tr (many := 2) lv ml.1 (fun _ => nn7) (fun q => absurd q (by decide)) (fun q => absurd q (by decide))
            have eT : aY (uy 7 (msgI 2 b) (uz 10 0 A)) 6 ++ (if 1 < (2 : Int) then aY (uy 7 (msgI 2 b) (uz 10 0 A)) 7 else []) ++ (if 2 < (2 : Int) then aY (uy 7 (msgI 2 b) (uz 10 0 A)) 8 else []) ++ (if 3 < (2 : Int) then aY (uy 7 (msgI 2 b) (uz 10 0 A)) 9 else []) = aY A 6 ++ msgI 2 b := by
              show aY A 6 ++ msgI 2 b ++ [] ++ [] = _
              rw [List.append_nil, List.append_nil]
            rw [eT] at tr2
            have hkey : sg J60 492 (1024 * 0) 16 = aY A 0 := g3.2.2.1.1
            have hear : sg J60 492 (1024 * 0 + 32) 32 = earI (aY A 0) := (g3.2.2.1.2.2.2.1 rfl lv).2.2
            refine s_epochTwo (by decide) hx tr2 g3.2.2.2.2.2.2.2.2.2.2.2.2 (by rw [hkey]; exact ai.y.1.2) (by rw [hkey]; exact hear) (fun J2 J3 t1 t2 t3 J70 e70 => ?_)
            rw [hkey] at t1
            have g4 := g3.two (by decide) (show aZ A 13 < 3 by omega) t2 t3 t1
            have g5 := MS_aw g4.1 (v := 8) (w := 1) (by omega)
            rw [← e70] at g5
            have ev : (((if o = 0 then 0 else pw o (aZ A 16).toNat : Nat)) : Int) = if o = 0 then 0 else (pw o (aZ A 16).toNat : Int) := by split <;> rfl
            rw [ev] at g5
            exact hQ J70 g5.1 (g1.2.tr (g2.2.tr (g4.2.tr g5.2))))
          by_cases c : o = 0
          · rw [if_pos ((zcmp0 hr4).mpr c)]
            exact fin 0 (by rw [if_pos c]; rfl)
          · rw [if_neg (fun q => c ((zcmp0 hr4).mp q))]
            refine s_powerM hr4 (by omega) (en := (aZ A 16).toNat) (by show (L 504 0).toInt = _; rw [vo]; omega) (by omega) (fun r20 h20 => ?_)
            exact fin r20 (by rw [if_neg c]; exact h20))
        by_cases c : o = 0
        · rw [if_pos ((zcmp0 hr4).mpr c)]
          exact good (fun q => q.1 c)
        · rw [if_neg (fun q => c ((zcmp0 hr4).mp q)), m15]
          by_cases dd : aZ A 19 = 0
          · rw [if_pos (by omega)]
            rw [if_pos ⟨c, dd⟩] at hQ
            exact ms_raise (by decide) g2.1 (AI_z10 ai) (by decide) (fun J3 k1 k2 => hQ J3 k1 (g1.2.tr (g2.2.tr k2)))
          · rw [if_neg (by omega)]
            exact good (fun q => dd q.2)
      · rw [if_neg d2]
        exact k8 (fun q => d2 (p0.mpr q.2))
    · rw [if_neg d]
      exact k8 (fun q => d q.1)
  refine ⟨rk, ?_⟩
  by_cases d : x2 = 6
  · rw [if_pos d]
    refine ⟨p536, ?_⟩
    by_cases d2 : J 536 0 = 0
    · rw [if_pos d2, own531]
      have z1 := p0.mp d2
      refine ⟨⟨by omega, by omega⟩, ?_⟩
      by_cases c5 : ((aY A 5).length : Int) = 0
      · rw [if_pos c5]
        have h5 : aY A 5 = [] := List.eq_nil_of_length_eq_zero (by omega)
        rw [if_pos ⟨d, z1, h5⟩] at hQ
        have hbl : b.length = 16 := by unfold kLen at kw; omega
        have z12 : aZ A 12 = 0 := ai.b29 (by rw [h5]; rfl)
        refine zl_z.by (fun m x J' L' => (m : Int) = 16 - x ∧ 0 ≤ x ∧ L' = L ∧ J' = zcp J 544 (200 * sl) 492 870 x) ?_ 16 0 J L ⟨by omega, by omega, rfl, (zcp_0 J 544 492 (200 * sl) 870).symm⟩
        rintro m x J2 L2 KK ⟨hm, hx, rfl, e2⟩ hKK
        refine ⟨⟨by omega, by omega⟩, ?_⟩
        by_cases c : x < 16
        · rw [if_pos c]
          refine ⟨⟨by omega, by omega⟩, ⟨by omega, by omega⟩, fun J15 e15 => hKK (m - 1) (x + 1) J15 L2 (by omega) ⟨by omega, by omega, rfl, ?_⟩⟩
          rw [e15, e2]
          exact zcp_succ2 hx (Or.inl (by decide))
        · rw [if_neg c]
          have : x = 16 := by omega
          subst this
          have w2 : J2 = zw J 492 870 b := by
            rw [e2, zcp_zw _ _ _ _ _ _ (by decide)]
            congr 1
            rw [hbl] at h544
            exact h544
          intro J91 e91
          have u2 : ∀ k, ¬ (870 ≤ k ∧ k < 886) → J2 492 k = J 492 k := fun k hk => by rw [w2]; exact zw_out J (by rw [hbl]; omega)
          have f2 : mF (fun a => False ∨ a = 492) (fun _ => False) J J2 := by rw [w2]; exact mF_zw (Or.inr rfl) (by decide)
          have c2 := h.core.own (J' := J2) (U := fun k => 870 ≤ k ∧ k < 886) (by decide) f2 (fun a q => q.elim) (fun k q => q.elim) u2 (fun k q => by omega)
          have o2 : MO 0 J L2 J2 L2 := MO.own (U := fun k => 870 ≤ k ∧ k < 886) (by decide) f2 (fun a q => q.elim) (fun k q => q.elim) u2 (fun k q => by omega)
          have r91 : ∀ a, a ≠ 491 → J91 a = J2 a := fun a ha => by rw [e91]; exact zs_r J2 ha
          have k91 : ∀ k, k ≠ 58 → J91 491 k = J2 491 k := fun k hk => by rw [e91]; exact zs_n J2 (Or.inr hk)
          have c91 : MSc 0 J91 L2 (uz 12 (aZ A 12 + 1) (uy 5 b A)) := by
            obtain ⟨x0, x1, x2', x4, x5, x6, x7, x8, x9, x10, x11, x12⟩ := c2
            have cc : ∀ (C : Nat → Prop), ¬ C 491 → oEq 0 C J2 J91 := fun C hC a i _ hc => by rw [r91 a (fun q => hC (q ▸ hc))]
            refine ⟨x0.fr (cc _ (by omega)) (fun _ _ _ => rfl), ⟨?_, fun q => ?_, ?_, ?_⟩, ?_, ⟨x4.1.fr (by decide) (cc _ (by omega)), x4.2.fr (cc _ (by omega))⟩, x5.fr (cc _ (by omega)), (x6.fr (cc _ (by omega))).cg (fun k hk => if_neg (by omega)), x7.fr (by decide) (cc _ (by omega)), ?_, MSn.fr x9 (fun a ha => r91 a (by omega)) (k91 30 (by decide)), x10.fr (cc _ (by omega)) (fun _ _ _ => rfl), ?_, mKa x12 (cc _ (by omega))⟩
            · rw [r91 536 (by decide)]; exact x1.1
            · rw [k91 4 (by decide)]
              refine ⟨(x1.2.1 q).1, (x1.2.1 q).2.1, (x1.2.1 q).2.2.1, ?_⟩
              rw [e91, zs_s]
              show (1 : Int) = aZ A 12 + 1
              omega
            · rw [r91 506 (by decide)]; exact x1.2.2.1
            · rw [r91 507 (by decide)]; exact x1.2.2.2
            · obtain ⟨v1, v2, v3, v4⟩ := x2'
              exact ⟨by rw [sg_row (r91 492 (by decide))]; exact v1, by rw [sg_row (r91 492 (by decide))]; exact v2, by rw [sg_row (r91 492 (by decide))]; exact v3, fun q => absurd q (by decide)⟩
            · have q := x8.fr (J' := J91) (fun k _ _ => by rw [r91 492 (by decide)])
              exact q.cg rfl (fun k k0 k1 => if_neg (by omega))
            · exact ⟨by rw [k91 2 (by decide)]; exact x11.1, fun q => by rw [k91 1 (by decide)]; exact x11.2.1 q, fun q => absurd q (by decide)⟩
          have o91 : MO 0 J2 L2 J91 L2 := by
            rw [e91]
            exact MO_zs (fun q => by have := ow491 q; omega) (by decide) (by decide) (by decide)
          have hyB : AIy (aY (uz 12 (aZ A 12 + 1) (uy 5 b A))) := by
            obtain ⟨y0, y1, y2, y3, y4, y5', y6⟩ := ai.y
            refine ⟨y0, y1, y2, y3, y4, ⟨Or.inr hbl, hbo⟩, fun k k0 k1 => ?_⟩
            have : aY (uz 12 (aZ A 12 + 1) (uy 5 b A)) k = aY A k := if_neg (by omega)
            rw [this]
            exact y6 k k0 k1
          have hrand : sg J91 492 890 16 = aY A 4 := by rw [sg_row (r91 492 (by decide)), sg_fr (fun k q1 q2 => u2 k (by omega))]; exact (h.2.2.1.2.2.2.1 rfl lv).1
          have hcook : sg J91 492 870 (aY (uz 12 (aZ A 12 + 1) (uy 5 b A)) 5).length = b := by
            show sg J91 492 870 b.length = b
            rw [sg_row (r91 492 (by decide)), w2]
            exact zw_sg _ _ _ _
          have aiR := AI_retry ai h0 z1 h5 hbl hbo
          have hlen : ((aY (uz 12 (aZ A 12 + 1) (uy 5 b A)) 5).length : Int) = 16 := by show (b.length : Int) = 16; rw [hbl]; rfl
          rw [← hlen]
          refine ms_hello (n := aZ A 12 + 1) (bd := bd) c91 hyB rfl hrand hcook (by omega) (by rw [k91 3 (by decide), f2.2 3 (fun q => q)]; exact hnow) ?_ lv (fun J92 g92 o92 => hQ J92 ?_ (o2.tr (o91.tr o92)))
          · have := hello_12 (aZ A 12 + 1) (uy 5 b A)
            rw [← this] at aiR
            exact aiR
          · have e : helloA (aZ A 12 + 1) (uz 12 (aZ A 12 + 1) (uy 5 b A)) = helloA (aZ A 12 + 1) (uy 5 b A) := by
              unfold helloA
              exact congrArg (flyA 0) (hello_12 (aZ A 12 + 1) (uy 5 b A))
            rw [e] at g92
            exact g92
      · rw [if_neg c5]
        exact k5 (fun q => c5 (by rw [q.2.2]; rfl))
    · rw [if_neg d2]
      exact k5 (fun q => d2 (p0.mpr q.2.1))
  · rw [if_neg d]
    exact k5 (fun q => d q.1)
