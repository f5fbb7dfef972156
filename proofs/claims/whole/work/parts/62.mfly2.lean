def MFl (s : Int) (J : zM) (many : Nat) (K N : Nat → Int) (B : Nat → List Int) (ack : Int → Int) (P : Nat → Int) : Prop := J 517 s = (many : Int) ∧ many ≤ 3 ∧ (∀ f : Nat, f < many → J 518 (3 * s + (f : Int)) = P f ∧ (0 ≤ P f ∧ P f + 160 ≤ 2048) ∧ mMs J (P f) (msgI (K f) (B f)) ∧ J 519 (3 * s + (f : Int)) = epK (K f) ∧ J 520 (3 * s + (f : Int)) = N f ∧ (0 ≤ N f ∧ N f < 256) ∧ 0 < (B f).length) ∧ ∀ f : Nat, f < many → ∀ k : Int, 0 ≤ k → k < ((B f).length : Int) → J 521 (600 * s + 200 * (f : Int) + k) = ack ((fs B f : Int) + k)
theorem MFl.fr {s : Int} {J J' : zM} {many : Nat} {K N : Nat → Int} {B : Nat → List Int} {ack : Int → Int} {P : Nat → Int} (h : MFl s J many K N B ack P) (h1 : ∀ a, a = 492 ∨ a = 517 ∨ a = 518 ∨ a = 519 ∨ a = 520 ∨ a = 521 → J' a = J a) : MFl s J' many K N B ack P := by
  unfold MFl
  rw [h1 517 (by omega), h1 518 (by omega), h1 519 (by omega), h1 520 (by omega), h1 521 (by omega)]
  refine ⟨h.1, h.2.1, fun f hf => ?_, h.2.2.2⟩
  have h9 := h.2.2.1 f hf
  exact ⟨h9.1, h9.2.1, h9.2.2.1.fr (fun k _ _ => by rw [h1 492 (by omega)]), h9.2.2.2⟩
/-- the other side's things stand -/
def mOt (s : Int) (J J' : zM) : Prop := mN s J' = mN s J ∧ (∀ u, u ≠ s → J' 512 u = J 512 u) ∧ (∀ k, ¬ (4 * s ≤ k ∧ k < 4 * s + 4) → J' 514 k = J 514 k) ∧ (∀ u, u ≠ s → J' 528 u = J 528 u) ∧ ∀ k, ¬ (10000 * s ≤ k ∧ k < 10000 * s + 10000) → J' 529 k = J 529 k
theorem mOt.rf {s : Int} {J : zM} : mOt s J J := ⟨rfl, fun _ _ => rfl, fun _ _ => rfl, fun _ _ => rfl, fun _ _ => rfl⟩
theorem mOt.tr {s : Int} {J J1 J2 : zM} (h1 : mOt s J J1) (h2 : mOt s J1 J2) : mOt s J J2 := ⟨h2.1.trans h1.1, fun u h => (h2.2.1 u h).trans (h1.2.1 u h), fun u h => (h2.2.2.1 u h).trans (h1.2.2.1 u h), fun u h => (h2.2.2.2.1 u h).trans (h1.2.2.2.1 u h), fun u h => (h2.2.2.2.2 u h).trans (h1.2.2.2.2 u h)⟩
theorem s_fly {s mtu now : Int} {many : Nat} {K N : Nat → Int} {B : Nat → List Int} {ack : Int → Int} {P : Nat → Int} {kf mf : Int → List Int} {t : FS} {J : zM} {L : yM} {Q : zM → yM → Prop} (hs : s01 s) (hF : MFl s J many K N B ack P) (hB : fs B many ≤ 204) (hb : ∀ i, ack i = 0 ∨ ack i = 1) (ht : MSn s (zs J 491 30 0) t) (hdg : t.2.2.2.1 = []) (hk : (∃ f, f < many ∧ epK (K f) ≠ 0) → MKy s J kf mf) (hmt : J 491 2 = mtu) (hm2 : 100 ≤ mtu ∧ mtu ≤ 500) (hlg : t.2.2.2.2.length + 204 ≤ 1836) (hnow : J 491 3 = now) (hK : mK (zi J))
    (hQ : ∀ J', MSn s J' (flushS (flyR mtu kf mf many K N B ack (fs B many) 0 t)) → J' 525 = (zs J 525 s now) 525 → J' 523 = (zs J 523 s 1) 523 → mOt s J J' → mF (fun a => cSm a ∨ a = 523 ∨ a = 525) tSm J J' → Q J' L) : w_X12_fly s J L Q := by
  have hs2 : 0 ≤ s ∧ s < 2 := by omega
  obtain ⟨tot, htot⟩ : ∃ tot : Nat, tot = fs B many := ⟨_, rfl⟩
  obtain ⟨FIN, hFIN⟩ : ∃ FIN, FIN = flyR mtu kf mf many K N B ack (fs B many) 0 t := ⟨_, rfl⟩
  rw [← hFIN] at hQ
  unfold w_X12_fly
  intro J1 e1
  refine ⟨hs2, fun J3 e3 => ⟨hs2, fun J5 e5 => ?_⟩⟩
  rw [← e1] at ht
  have r1 : ∀ a, a ≠ 491 → J1 a = J a := fun a ha => by rw [e1]; exact zs_r J ha
  have r13 : J1 491 3 = now := by rw [e1, zs_n J (Or.inr (by decide))]; exact hnow
  rw [r13] at e3
  have r5 : ∀ a, a ≠ 523 → a ≠ 525 → J5 a = J1 a := fun a h1 h2 => by rw [e5, zs_r J3 h1, e3, zs_r J1 h2]
  have e525 : J5 525 = (zs J 525 s now) 525 := by rw [e5, zs_r J3 (by decide), e3, zs_row, zs_row, r1 525 (by decide)]
  have e523 : J5 523 = (zs J 523 s 1) 523 := by rw [e5, zs_row, zs_row, e3, zs_r J1 (by decide), r1 523 (by decide)]
  have ht5 : MSn s J5 t := ht.fr (fun a ha => r5 a (by omega) (by omega)) (by rw [r5 491 (by decide) (by decide)])
  have o5 : mOt s J J5 := by
    have q : ∀ a, a = 509 ∨ a = 510 ∨ a = 511 ∨ a = 512 ∨ a = 514 ∨ a = 528 ∨ a = 529 → J5 a = J a := fun a ha => by rw [r5 a (by omega) (by omega), r1 a (by omega)]
    exact ⟨mN_fr (q 509 (by omega)) (q 510 (by omega)) (q 511 (by omega)) s, fun u _ => by rw [q 512 (by omega)], fun u _ => by rw [q 514 (by omega)], fun u _ => by rw [q 528 (by omega)], fun u _ => by rw [q 529 (by omega)]⟩
  have f5 : mF (fun a => cSm a ∨ a = 523 ∨ a = 525) tSm J J5 := ⟨fun a h1 h2 => by rw [r5 a (by omega) (by omega), r1 a h2], fun k hk' => by rw [r5 491 (by decide) (by decide), e1, zs_n J (Or.inr (by unfold tSm at hk'; omega))]⟩
  -- what holds at each place
  obtain ⟨AT, hAT⟩ : ∃ AT : Int → zM → Prop, AT = fun at_ J' => ∃ (tt : FS) (n : Nat), flyR mtu kf mf many K N B ack n at_ tt = FIN ∧ (tot : Int) - at_ ≤ (n : Int) ∧ MSn s J' tt ∧ (tt.2.2.2.2.length : Int) ≤ (t.2.2.2.2.length : Int) + at_ ∧ mOt s J J' ∧ J' 525 = (zs J 525 s now) 525 ∧ J' 523 = (zs J 523 s 1) 523 ∧ mF (fun a => cSm a ∨ a = 523 ∨ a = 525) tSm J J' := ⟨_, rfl⟩
  have same : ∀ {J' : zM}, mF (fun a => cSm a ∨ a = 523 ∨ a = 525) tSm J J' → ∀ a, a = 492 ∨ a = 495 ∨ a = 496 ∨ a = 517 ∨ a = 518 ∨ a = 519 ∨ a = 520 ∨ a = 521 → J' a = J a := fun f a ha => f.1 a (by unfold cSm cRec cF cH; omega) (by omega)
  refine zl_z.by (fun m f J' L' => ∃ fn : Nat, f = (fn : Int) ∧ m + fn = many ∧ L' = L ∧ AT (fs B fn : Int) J') ?_ many 0 J5 L ⟨0, rfl, rfl, rfl, by rw [hAT]; exact ⟨t, tot, by rw [hFIN, htot]; rfl, by show (tot : Int) - ((0 : Nat) : Int) ≤ _; omega, ht5, by omega, o5, e525, e523, f5⟩⟩
  rintro m f J8 L8 K6 ⟨fn, rfl, hmf, rfl, hA⟩ hK6
  rw [hAT] at hA
  obtain ⟨tt, n, hfly, hn, hX, hlg1, hot, h525, h523, hf⟩ := hA
  have hsame := same hf
  have hF8 : MFl s J8 many K N B ack P := hF.fr (fun a ha => hsame a (by omega))
  rw [hF8.1]
  have hm3 := hF.2.1
  refine ⟨hs2, ⟨by omega, by omega⟩, ⟨by omega, by omega⟩, ?_⟩
  by_cases c1 : (fn : Int) < (many : Int)
  · rw [if_pos c1]
    have hfm : fn < many := by omega
    have hm3 := hF.2.1
    obtain ⟨u1, u2, u3, u4, u5, u6, u7⟩ := hF8.2.2.1 fn hfm
    refine ⟨⟨by omega, by omega⟩, fun pa epa => ⟨⟨by omega, by omega⟩, fun ep eep => ?_⟩⟩
    rw [u1] at epa
    rw [u4] at eep
    subst epa
    have hep3 : ep3 ep := by rw [eep]; exact epK_3 _
    refine s_bodySize u3 u2.1 u2.2 ?_
    have hsz := u3.size
    have hfs1 : fs B (fn + 1) = fs B fn + (B fn).length := rfl
    have hmono : fs B (fn + 1) ≤ fs B many := fs_mono (by omega)
    refine zl_z.by (fun m2 k J' L' => (m2 : Int) = ((B fn).length : Int) - k ∧ 0 ≤ k ∧ L' = L8 ∧ AT ((fs B fn : Int) + k) J') ?_ (B fn).length 0 J8 L8 ⟨by omega, by omega, rfl, by rw [hAT, Int.add_zero]; exact ⟨tt, n, hfly, hn, hX, hlg1, hot, h525, h523, hf⟩⟩
    rintro m2 k J25 L25 K23 ⟨hm2', hk0, rfl, hA⟩ hK23
    rw [hAT] at hA
    obtain ⟨tt, n, hfly, hn, hX, hlg1, hot, h525, h523, hf⟩ := hA
    have hsame := same hf
    have hF25 : MFl s J25 many K N B ack P := hF.fr (fun a ha => hsame a (by omega))
    refine ⟨⟨by omega, by omega⟩, ⟨by omega, by omega⟩, ?_⟩
    by_cases c2 : k < ((B fn).length : Int)
    · rw [if_pos c2]
      obtain ⟨at_, hat⟩ : ∃ at_, at_ = (fs B fn : Int) + k := ⟨_, rfl⟩
      rw [← hat] at hfly hn hlg1
      have hak := hF25.2.2.2 fn hfm k hk0 c2
      rw [hak, ← hat]
      have hbk := hb at_
      refine ⟨⟨by omega, by omega⟩, ⟨by omega, by omega⟩, ?_⟩
      have l0 : (fs B fn : Int) ≤ at_ := by omega
      have l1 : at_ < (fs B (fn + 1) : Int) := by omega
      have l2 : at_ < (fs B many : Int) := by omega
      have hn1 : ∃ n', n = n' + 1 := ⟨n - 1, by omega⟩
      obtain ⟨n', rfl⟩ := hn1
      by_cases c3 : ack at_ = 0
      · rw [if_pos c3]
        intro K36 hK36
        -- behind the choice of space: the run, the FRAGMENT, the note
        have go : ∀ (t1 : FS) (J39 : zM) (sp : Int), flyR mtu kf mf many K N B ack (n' + 1) at_ t1 = FIN → sp = mtu - (t1.2.2.2.1.length : Int) - hdI ep → ¬ sp < 1 → MSn s J39 t1 → (t1.2.2.2.2.length : Int) ≤ (t.2.2.2.2.length : Int) + at_ → mOt s J J39 → J39 525 = (zs J 525 s now) 525 → J39 523 = (zs J 523 s 1) 523 → mF (fun a => cSm a ∨ a = 523 ∨ a = 525) tSm J J39 → (zl_z (fun K42 x43 J44 L45 => ∀ K48 : zM → yM → Prop, (∀ (J46 : zM) (L47 : yM), (((0 : Int) ≤ ((3 * s) + (fn : Int)) ∧ ((3 * s) + (fn : Int)) < 6) ∧ w_X12_fragment s (P fn) ep (J46 520 ((3 * s) + (fn : Int))) k (x43 - k) J46 L47 (fun r52 J50 L51 => ∀ K55 : zM → yM → Prop, (∀ (J53 : zM) (L54 : yM), (K23 x43 J53 L54) → K55 J53 L54) → R32 r52 ∧ (if r52 < 0 then K55 J50 L51 else w_X12_note s ep r52 (fn : Int) k (x43 - k) J50 L51 (fun J58 L59 => K55 J58 L59)))) → K48 J46 L47) → R32 x43 ∧ R32 ((B fn).length : Int) ∧ (if x43 < ((B fn).length : Int) then R32 (x43 - k) ∧ R32 sp ∧ (if (x43 - k) < sp then ((0 : Int) ≤ (((600 * s) + (200 * (fn : Int))) + x43) ∧ (((600 * s) + (200 * (fn : Int))) + x43) < 1200) ∧ R32 (J44 521 (((600 * s) + (200 * (fn : Int))) + x43)) ∧ (if (J44 521 (((600 * s) + (200 * (fn : Int))) + x43)) = 0 then K42 (x43 + 1) J44 L45 else K48 J44 L45) else K48 J44 L45) else K48 J44 L45)) k J39 L25) := by
          intro t1 J39 sp hfl hsp hsp1 hX1 hl1 ho1 h5251 h5231 hf1
          have hsame1 := same hf1
          have hF39 : MFl s J39 many K N B ack P := hF.fr (fun a ha => hsame1 a (by omega))
          obtain ⟨w1, w2, w3, w4, w5, w6, w7⟩ := hF39.2.2.1 fn hfm
          obtain ⟨cM, hcM⟩ : ∃ cM, cM = (min ((fs B (fn + 1) : Int) - at_) sp).toNat := ⟨_, rfl⟩
          obtain ⟨c, hc⟩ : ∃ c, c = runL ack at_ cM := ⟨_, rfl⟩
          have hcp : 0 < c := by rw [hc]; exact runL_pos c3 (by omega)
          have hcl : c ≤ cM := by rw [hc]; exact runL_le _ _ _
          have hdl := hX1.2.2.2.1.2
          have hh : (ep = 0 ∧ hdI ep = 14) ∨ (ep ≠ 0 ∧ hdI ep = 22) := by
            unfold hdI
            by_cases q : ep = 0
            · exact Or.inl ⟨q, if_pos q⟩
            · exact Or.inr ⟨q, if_neg q⟩
          have hput := flyR_put (mtu := mtu) (kf := kf) (mf := mf) (many := many) (K := K) (N := N) (B := B) (ack := ack) (n := n') (t := t1) (f := fn) (by omega) l0 l1 l2 c3 (by rw [← eep, ← hsp]; exact hsp1)
          rw [← eep, ← hsp, ← hcM, ← hc] at hput
          rw [hput] at hfl
          -- the last steps
          have last : ∀ x43 : Int, x43 - k = (c : Int) → ∀ K48 : zM → yM → Prop, (∀ (J46 : zM) (L47 : yM), (((0 : Int) ≤ ((3 * s) + (fn : Int)) ∧ ((3 * s) + (fn : Int)) < 6) ∧ w_X12_fragment s (P fn) ep (J46 520 ((3 * s) + (fn : Int))) k (x43 - k) J46 L47 (fun r52 J50 L51 => ∀ K55 : zM → yM → Prop, (∀ (J53 : zM) (L54 : yM), (K23 x43 J53 L54) → K55 J53 L54) → R32 r52 ∧ (if r52 < 0 then K55 J50 L51 else w_X12_note s ep r52 (fn : Int) k (x43 - k) J50 L51 (fun J58 L59 => K55 J58 L59)))) → K48 J46 L47) → K48 J39 L25 := by
            intro x43 hx43 K48 hK48
            refine hK48 J39 L25 ⟨⟨by omega, by omega⟩, ?_⟩
            rw [w5, hx43]
            have hky : ep ≠ 0 → MKy s J39 kf mf := fun q ep' h' => by
              have h9 := hk ⟨fn, hfm, by rw [← eep]; exact q⟩ ep' h'
              rw [sg_row (hsame1 492 (by omega)), sg_row (hsame1 492 (by omega)), sg_row (hsame1 492 (by omega))]
              exact h9
            have hroom : (t1.2.2.2.1.length : Int) + 8 + (c : Int) + (if ep = 0 then 6 else 14) ≤ 500 := by
              rcases hh with ⟨q, u⟩ | ⟨q, u⟩
              · rw [if_pos q]; omega
              · rw [if_neg q]; omega
            refine s_fragmentM (kf := kf) (mf := mf) hs hep3 w3 w2.1 w2.2 w6 hk0 (by omega) (by omega) hX1 hky hroom (mK_fr hK (hsame1 495 (by omega)) (hsame1 496 (by omega))) (fun J50 g50 n50 f50 => ?_)
            intro K55 hK55
            have hnn := (hX1.2.2.1 ep hep3).2
            obtain ⟨t3, ht3⟩ : ∃ t3, t3 = putS kf mf ep 22 (frI (K fn) ((B fn).length : Int) (N fn) k (c : Int) (partI (B fn) k.toNat (c : Int).toNat)) t1 := ⟨_, rfl⟩
            rw [← ht3] at g50
            have hfs : fragS kf mf K N B fn at_ (c : Int) t1 = logS t1 t3 ep fn k (c : Int) := by
              unfold fragS
              rw [show at_ - (fs B fn : Int) = k by omega, ← eep, ← ht3]
            rw [hfs] at hfl
            have lg3 : t3.2.2.2.2 = t1.2.2.2.2 := by
              rw [ht3]
              unfold putS
              split <;> rfl
            have f50' : mF (fun a => cSm a ∨ a = 523 ∨ a = 525) tSm J39 J50 := f50.mono (fun a q => by unfold cSm; omega) (fun _ q => q)
            have o50 : mOt s J39 J50 := by
              have q : ∀ a, a = 509 ∨ a = 510 ∨ a = 511 ∨ a = 512 ∨ a = 528 ∨ a = 529 → J50 a = J39 a := fun a ha => f50.1 a (by unfold cRec cF cH; omega) (by omega)
              exact ⟨mN_fr (q 509 (by omega)) (q 510 (by omega)) (q 511 (by omega)) s, fun u _ => by rw [q 512 (by omega)], n50, fun u _ => by rw [q 528 (by omega)], fun u _ => by rw [q 529 (by omega)]⟩
            have e525' : J50 525 = (zs J 525 s now) 525 := by rw [f50.1 525 (by unfold cRec cF cH; omega) (by decide)]; exact h5251
            have e523' : J50 523 = (zs J 523 s 1) 523 := by rw [f50.1 523 (by unfold cRec cF cH; omega) (by decide)]; exact h5231
            have nxt : ∀ (t4 : FS) (J4 : zM), logS t1 t3 ep fn k (c : Int) = t4 → MSn s J4 t4 → (t4.2.2.2.2.length : Int) ≤ (t1.2.2.2.2.length : Int) + 1 → mOt s J50 J4 → mF (fun a => a = 528 ∨ a = 529) (fun _ => False) J50 J4 → K55 J4 L25 := by
              intro t4 J4 e4 hX4 hl4 o4 f4
              refine hK55 J4 L25 (hK23 (m2 - c) x43 J4 L25 (by omega) ⟨by omega, by omega, rfl, ?_⟩)
              rw [hAT]
              refine ⟨t4, n', by rw [← e4, show (fs B fn : Int) + x43 = at_ + (c : Int) by omega]; exact hfl, by omega, hX4, by omega, (ho1.tr o50).tr o4, by rw [f4.1 525 (by decide) (by decide)]; exact e525', by rw [f4.1 523 (by decide) (by decide)]; exact e523', (hf1.tr f50').tr (f4.mono (fun a q => by unfold cSm; omega) (fun _ q => q.elim))⟩
            by_cases c4 : 65535 < t1.2.2.1 ep
            · rw [if_pos c4]
              refine ⟨by decide, ?_⟩
              rw [if_pos (by decide)]
              refine nxt t3 J50 ?_ g50 (by rw [lg3]; omega) mOt.rf mF.rf
              unfold logS
              rw [if_pos c4]
            · rw [if_neg c4]
              refine ⟨⟨by omega, by omega⟩, ?_⟩
              rw [if_neg (by omega)]
              refine s_note hs g50.2.2.2.2 (by rw [lg3]; omega) (fun J58 g58 a58 b58 f58 => ?_)
              refine nxt (t3.1, t3.2.1, t3.2.2.1, t3.2.2.2.1, t3.2.2.2.2 ++ [(ep, t1.2.2.1 ep, fn, k, (c : Int))]) J58 ?_ ?_ ?_ ?_ f58
              · unfold logS
                rw [if_neg c4]
              · obtain ⟨x1, x2, x3, x4, x5⟩ := g50
                have q : ∀ a, a ≠ 528 → a ≠ 529 → a ≠ 491 → J58 a = J50 a := fun a h1 h2 h3 => f58.1 a (by omega) h3
                exact ⟨⟨by rw [mN_fr (q 509 (by decide) (by decide) (by decide)) (q 510 (by decide) (by decide) (by decide)) (q 511 (by decide) (by decide) (by decide))]; exact x1.1, mI_fr (q 509 (by decide) (by decide) (by decide)) (q 510 (by decide) (by decide) (by decide)) x1.2⟩, by rw [q 512 (by decide) (by decide) (by decide)]; exact x2, fun ep' h' => by rw [q 514 (by decide) (by decide) (by decide)]; exact x3 ep' h', ⟨x4.1.fr (f58.2 30 (fun z => z)) (q 513 (by decide) (by decide) (by decide)), x4.2⟩, g58⟩
              · show (((t3.2.2.2.2 ++ [(ep, t1.2.2.1 ep, fn, k, (c : Int))]).length : Nat) : Int) ≤ _
                rw [List.length_append, List.length_singleton, lg3]
                omega
              · have q : ∀ a, a ≠ 528 → a ≠ 529 → a ≠ 491 → J58 a = J50 a := fun a h1 h2 h3 => f58.1 a (by omega) h3
                exact ⟨mN_fr (q 509 (by decide) (by decide) (by decide)) (q 510 (by decide) (by decide) (by decide)) (q 511 (by decide) (by decide) (by decide)) s, fun u _ => by rw [q 512 (by decide) (by decide) (by decide)], fun u _ => by rw [q 514 (by decide) (by decide) (by decide)], a58, b58⟩
          -- the run is counted
          refine zl_z.by (fun m3 x J' L' => (m3 : Int) = (cM : Int) - (x - k) ∧ k ≤ x ∧ J' = J39 ∧ L' = L25 ∧ (x - k) + (runL ack ((fs B fn : Int) + x) m3 : Int) = (c : Int)) ?_ cM k J39 L25 ⟨by omega, by omega, rfl, rfl, by rw [← hat, ← hc]; omega⟩
          rintro m3 x J44 L44 K42 ⟨hm3', hx, rfl, rfl, hr⟩ hK42
          intro K48 hK48
          refine ⟨⟨by omega, by omega⟩, ⟨by omega, by omega⟩, ?_⟩
          have fin : m3 = 0 → K48 J44 L44 := fun hz => by
            subst hz
            refine last x ?_ K48 hK48
            unfold runL at hr
            omega
          by_cases d1 : x < ((B fn).length : Int)
          · rw [if_pos d1]
            refine ⟨⟨by omega, by omega⟩, ⟨by omega, by omega⟩, ?_⟩
            by_cases d2 : x - k < sp
            · rw [if_pos d2]
              have hax := hF39.2.2.2 fn hfm x (by omega) d1
              rw [hax]
              have hbx := hb ((fs B fn : Int) + x)
              refine ⟨⟨by omega, by omega⟩, ⟨by omega, by omega⟩, ?_⟩
              cases m3 with
              | zero => exact absurd hm3' (by omega)
              | succ m3 =>
                unfold runL at hr
                by_cases d3 : ack ((fs B fn : Int) + x) = 0
                · rw [if_pos d3]
                  rw [if_pos d3, show (fs B fn : Int) + x + 1 = (fs B fn : Int) + (x + 1) by omega] at hr
                  exact hK42 m3 (x + 1) J44 L44 (by omega) ⟨by omega, by omega, rfl, rfl, by omega⟩
                · rw [if_neg d3]
                  rw [if_neg d3] at hr
                  exact last x (by omega) K48 hK48
            · rw [if_neg d2]
              exact fin (by omega)
          · rw [if_neg d1]
            exact fin (by omega)
        -- space
        have mt25 : J25 491 2 = mtu := by rw [hf.2 2 (by unfold tSm; omega)]; exact hmt
        have md25 : J25 491 30 = (tt.2.2.2.1.length : Int) := hX.2.2.2.1.1.1
        have hdl := hX.2.2.2.1.2
        have sel : ∀ hdv : Int, hdv = hdI ep → K36 hdv J25 L25 := by
          intro hdv hhd
          refine hK36 hdv J25 L25 (fun x37 e37 K41 hK41 => ?_)
          rw [mt25, md25, hhd] at e37
          have hhb : hdI ep = 14 ∨ hdI ep = 22 := by unfold hdI; split <;> omega
          refine ⟨⟨by omega, by omega⟩, ?_⟩
          by_cases d : x37 < 1
          · rw [if_pos d]
            refine s_sendT hs hX (fun J71 g1 g2 g3 g4 => ?_)
            intro K76 hK76
            have hfl := flyR_flush (mtu := mtu) (kf := kf) (mf := mf) (many := many) (K := K) (N := N) (B := B) (ack := ack) (n := n') (t := tt) (f := fn) hm2.1 (by omega) l0 l1 l2 c3 (by rw [← eep, ← e37]; exact d)
            rw [hfl] at hfly
            have hdn : tt.2.2.2.1 ≠ [] := fun q => by
              rw [q] at e37
              simp at e37
              omega
            have hfd : (flushS tt).2.2.2.1 = [] := by unfold flushS; rw [if_neg hdn]
            have hfl2 : (flushS tt).2.2.2.2 = tt.2.2.2.2 := by unfold flushS; rw [if_neg hdn]
            have f71 : mF (fun a => cSm a ∨ a = 523 ∨ a = 525) tSm J25 J71 := g4.mono (fun a q => by unfold cSm; omega) (fun k q => by unfold t30 at q; unfold tSm; omega)
            have o71 : mOt s J25 J71 := ⟨g2, g3, fun u _ => by rw [g4.1 514 (by omega) (by decide)], fun u _ => by rw [g4.1 528 (by omega) (by decide)], fun u _ => by rw [g4.1 529 (by omega) (by decide)]⟩
            have mt71 : J71 491 2 = mtu := by rw [g4.2 2 (by decide)]; exact mt25
            have sel2 : ∀ hdv2 : Int, hdv2 = hdI ep → K76 hdv2 J71 L25 := fun hdv2 hh2 => hK76 hdv2 J71 L25 (fun x77 e77 => by
              rw [mt71, hh2] at e77
              exact hK41 x77 J71 L25 (go (flushS tt) J71 x77 hfly (by rw [hfd, e77]; simp) (by omega) g1 (by rw [hfl2]; exact hlg1) (hot.tr o71) (by rw [g4.1 525 (by omega) (by decide)]; exact h525) (by rw [g4.1 523 (by omega) (by decide)]; exact h523) (hf.tr f71)))
            refine ⟨⟨by omega, by omega⟩, ?_⟩
            by_cases q : ep = 0
            · rw [if_pos q]; exact sel2 14 (by unfold hdI; rw [if_pos q])
            · rw [if_neg q]; exact sel2 22 (by unfold hdI; rw [if_neg q])
          · rw [if_neg d]
            exact hK41 x37 J25 L25 (go tt J25 x37 hfly e37 d hX hlg1 hot h525 h523 hf)
        refine ⟨⟨by omega, by omega⟩, ?_⟩
        by_cases q : ep = 0
        · rw [if_pos q]; exact sel 14 (by unfold hdI; rw [if_pos q])
        · rw [if_neg q]; exact sel 22 (by unfold hdI; rw [if_neg q])
      · rw [if_neg c3]
        have hsk := flyR_skip (mtu := mtu) (kf := kf) (mf := mf) (many := many) (K := K) (N := N) (B := B) (ack := ack) (n := n') (t := tt) l2 c3
        rw [hsk] at hfly
        refine hK23 (m2 - 1) (k + 1) J25 L25 (by omega) ⟨by omega, by omega, rfl, ?_⟩
        rw [hAT]
        exact ⟨tt, n', by rw [show (fs B fn : Int) + (k + 1) = at_ + 1 by omega]; exact hfly, by omega, hX, by omega, hot, h525, h523, hf⟩
    · rw [if_neg c2]
      have hk : k = ((B fn).length : Int) := by omega
      refine hK6 (m - 1) ((fn : Int) + 1) J25 L25 (by omega) ⟨fn + 1, by omega, by omega, rfl, ?_⟩
      rw [hAT]
      have e9 : (fs B fn : Int) + k = (fs B (fn + 1) : Int) := by omega
      rw [e9] at hfly hn hlg1
      exact ⟨tt, n, hfly, hn, hX, hlg1, hot, h525, h523, hf⟩
  · rw [if_neg c1]
    have hfn : fn = many := by omega
    subst hfn
    rw [flyR_end (Int.le_refl _)] at hfly
    refine s_sendT hs hX (fun J14 g1 g2 g3 g4 => hQ J14 (by rw [← hfly]; exact g1) (by rw [g4.1 525 (by omega) (by decide)]; exact h525) (by rw [g4.1 523 (by omega) (by decide)]; exact h523) ?_ ?_)
    · exact hot.tr ⟨g2, g3, fun u _ => by rw [g4.1 514 (by omega) (by decide)], fun u _ => by rw [g4.1 528 (by omega) (by decide)], fun u _ => by rw [g4.1 529 (by omega) (by decide)]⟩
    · exact hf.tr (g4.mono (fun a q => by unfold cSm; omega) (fun k q => by unfold t30 at q; unfold tSm; omega))
