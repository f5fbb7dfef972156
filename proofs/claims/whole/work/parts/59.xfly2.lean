abbrev kOk (k : Int) : Prop := k = 1 ∨ k = 2 ∨ k = 6 ∨ k = 8 ∨ k = 20
theorem s_epochOfKind {k : Int} {J : zM} {L : yM} {Q : Int → zM → yM → Prop} (hk : kOk k) (hQ : Q (epK k) J L) : w_X11_epochOfKind k J L Q := by
  have h32 : R32 k := ⟨by omega, by omega⟩
  unfold epK at hQ
  unfold w_X11_epochOfKind
  refine ⟨h32, ?_⟩
  by_cases c1 : k = 8
  · rw [if_pos (Or.inl c1)] at hQ
    rw [if_pos c1]
    exact hQ
  · rw [if_neg c1]
    by_cases c2 : k = 20
    · rw [if_pos (Or.inr c2)] at hQ
      rw [if_pos c2]
      exact hQ
    · rw [if_neg (by omega)] at hQ
      rw [if_neg c2]
      exact hQ
theorem epK_3 (k : Int) : ep3 (epK k) := by unfold epK ep3; split <;> omega
abbrev cSend (e a : Nat) : Prop := cPut e a ∨ cR (wy e) a ∨ a = e + 8 ∨ (e + 14 ≤ a ∧ a ≤ e + 16) ∨ a = e + 170
def b01 (d : List Int) : Int := if d = [] then 0 else 1
theorem b01_of (d : List Int) : (d = [] ∧ b01 d = 0) ∨ (d ≠ [] ∧ b01 d = 1) := by
  unfold b01
  by_cases c : d = []
  · exact Or.inl ⟨c, if_pos c⟩
  · exact Or.inr ⟨c, if_neg c⟩
theorem s_sendFlight {e : Nat} {s mtu now : Int} {many : Nat} {K N : Nat → Int} {B : Nat → List Int} {ack : Int → Int} {kf mf : Int → List Int} {t : FS} {J : zM} {L : yM} {Q : zM → yM → Prop} (he : iSide e) (hs : s01 s) (hse : J (e + 168) 0 = s) (hF : XF e J many K N B ack) (hKk : ∀ f, f < many → kOk (K f)) (hb : ∀ i, ack i = 0 ∨ ack i = 1) (ht : XSn e J B t) (hdg : t.2.2.2.1 = []) (hk : XKy e s J kf mf) (hmt : J (e + 168) 6 = mtu) (hm2 : 100 ≤ mtu ∧ mtu ≤ 500) (hlg : t.2.2.2.2.length + 204 ≤ 1836) (hnow : J e 19 = now)
    (hQ : ∀ J', XSn e J' B (flushS (flyR mtu kf mf many K N B ack (fs B many) 0 t)) → J' (e + 8) 11 = now → (∀ k, k ≠ 9 → k ≠ 11 → J' (e + 8) k = J (e + 8) k) → (∀ k, k ≠ 7 → k ≠ 8 → J' (e + 168) k = J (e + 168) k) → zF (cSend e) J J' → Q J' L) : w_X8_sendFlight e J L Q := by
  have he2 : 139 ≤ e := by unfold iSide at he; omega
  have hwy : wy e = 75 ∨ wy e = 11 := by unfold wy; split <;> omega
  have hq : rq (wy e) = 60 := by rcases hwy with h | h <;> (rw [h]; rfl)
  have hcr : ∀ a, 139 ≤ a → ¬ cR (wy e) a := fun a h q => by unfold cR at q; omega
  have ncs : ∀ a, e ≤ a → ¬ cPut e a → a ≠ e + 8 → ¬ (e + 14 ≤ a ∧ a ≤ e + 16) → a ≠ e + 170 → ¬ cSend e a := fun a h0 h1 h2 h3 h4 q => by
    unfold cSend at q
    rcases q with q | q | q | q | q
    · exact h1 q
    · exact hcr a (by omega) q
    · exact h2 q
    · exact h3 q
    · exact h4 q
  obtain ⟨tot, htot⟩ : ∃ tot : Nat, tot = fs B many := ⟨_, rfl⟩
  obtain ⟨FIN, hFIN⟩ : ∃ FIN, FIN = flyR mtu kf mf many K N B ack (fs B many) 0 t := ⟨_, rfl⟩
  rw [← hFIN] at hQ
  have ht204 : tot ≤ 204 := by rw [htot]; exact hF.2.2.2.2.1
  unfold w_X8_sendFlight
  refine s_end hF ?_
  rw [← htot]
  refine zl_zz.by (fun m at_ step J' L' => ∃ (tt : FS) (n : Nat), L' = L ∧ 0 ≤ at_ ∧ at_ ≤ (tot : Int) ∧ (m : Int) = 2 * ((tot : Int) - at_) + b01 tt.2.2.2.1 ∧ 0 ≤ step ∧ step + b01 tt.2.2.2.1 ≤ 2 * at_ ∧ flyR mtu kf mf many K N B ack n at_ tt = FIN ∧ (tot : Int) - at_ ≤ (n : Int) ∧ XSn e J' B tt ∧ (tt.2.2.2.2.length : Int) ≤ (t.2.2.2.2.length : Int) + at_ ∧ (∀ k, k ≠ 9 → J' (e + 8) k = J (e + 8) k) ∧ (∀ k, k ≠ 7 → k ≠ 8 → J' (e + 168) k = J (e + 168) k) ∧ zF (cSend e) J J') ?_ (2 * tot) 0 0 J L ⟨t, tot, rfl, by omega, by omega, by rw [hdg]; show _ = _ + (0 : Int); omega, by omega, by rw [hdg]; show (0 : Int) + 0 ≤ _; omega, by rw [hFIN, htot], by omega, ht, by omega, fun _ _ => rfl, fun _ _ _ => rfl, zF.rf⟩
  rintro m at_ step J1 L1 KK ⟨tt, n, rfl, a0, a1, hm, s0, s1, hfly, hn, hX, hlg1, h8, h168, hf⟩ hKK
  intro K2 hK2
  have hb1 := b01_of tt.2.2.2.1
  have done : (tot : Int) ≤ at_ → K2 J1 L1 := fun hd => hK2 J1 L1 (by
    rw [flyR_end (by rw [← htot]; exact hd)] at hfly
    refine s_flushT he hX (fun J2 g1 g2 g3 J3 e3 => ?_)
    have r3 : ∀ a, a ≠ e + 8 → J3 a = J2 a := fun a ha => by rw [e3]; exact zs_r J2 ha
    have g8 : J2 (e + 8) = J1 (e + 8) := g3 _ (fun q => q.elim (hcr _ (by omega)) (by omega))
    have gnow : J2 e 19 = now := by rw [g3 e (fun q => q.elim (hcr _ (by omega)) (by omega)), hf e (ncs e (by omega) (by unfold cPut; omega) (by omega) (by omega) (by omega))]; exact hnow
    rw [gnow] at e3
    rw [hfly] at g1
    refine hQ J3 ?_ (by rw [e3, zs_s]) ?_ ?_ ?_
    · obtain ⟨x1, x2, x3, x4, x5⟩ := g1
      have hn3 := rL_fr (r := wy e) (J := J2) (J' := J3) (fun a ha => r3 a (fun q => ha (fun u => hcr _ (by omega) (q ▸ u)))) x1.2
      refine ⟨⟨hn3.1.trans x1.1, hn3.2⟩, by rw [r3 _ (by omega)]; exact x2, fun ep hep => by rw [r3 _ (by omega)]; exact x3 ep hep, x4.fr (by rw [r3 _ (by omega)]) (r3 _ (by omega)), ?_⟩
      unfold XL
      rw [e3, zs_n J2 (Or.inr (by decide)), zs_r J2 (by omega), zs_r J2 (by omega), zs_r J2 (by omega)]
      exact x5
    · intro k k9 k11
      rw [e3, zs_n J2 (Or.inr k11), g8]
      exact h8 k k9
    · intro k k7 k8
      rw [r3 _ (by omega), g2 k k7 k8]
      exact h168 k k7 k8
    · refine hf.tr ((g3.mono (fun a q => by unfold cSend cPut; rcases q with q | q; exact Or.inr (Or.inl q); exact Or.inl (by omega))).tr ?_)
      intro a ha
      exact r3 a (fun q => ha (by unfold cSend; exact Or.inr (Or.inr (Or.inl q)))))
  refine ⟨⟨by omega, by omega⟩, ?_⟩
  by_cases c1 : step < 408
  · rw [if_pos c1]
    refine ⟨⟨by omega, by omega⟩, ⟨by omega, by omega⟩, ?_⟩
    by_cases c2 : at_ < (tot : Int)
    · rw [if_pos c2]
      have hF1 : XF e J1 many K N B ack := hF.fr (fun a ha => hf a (ncs a (by omega) (by unfold cPut; omega) (by omega) (by omega) (by omega))) (h8 8 (by decide))
      have hK1 : XKy e s J1 kf mf := fun ep hep => by
        have h9 := hk ep hep
        rw [sg_row (hf _ (ncs _ (by omega) (by unfold cPut; omega) (by omega) (by omega) (by omega))), sg_row (hf _ (ncs _ (by omega) (by unfold cPut; omega) (by omega) (by omega) (by omega)))]
        exact h9
      refine s_messageAt hF1 a0 (by rw [← htot]; exact c2) (fun f hfm l0 l1 => ⟨by have := hF.2.1; omega, ?_⟩)
      have hm3 := hF.2.1
      rw [(hF1.2.2.1 f hfm).1]
      refine s_epochOfKind (hKk f hfm) ?_
      obtain ⟨ep, hep⟩ : ∃ ep, ep = epK (K f) := ⟨_, rfl⟩
      have hep3 : ep3 ep := by rw [hep]; exact epK_3 _
      obtain ⟨sp, hsp⟩ : ∃ sp, sp = mtu - (tt.2.2.2.1.length : Int) - hdI ep := ⟨_, rfl⟩
      rw [← hep]
      have hdl : (tt.2.2.2.1.length : Int) ≤ 500 := by have := hX.2.2.2.1.2.2; omega
      have hh : (ep = 0 ∧ hdI ep = 14) ∨ (ep ≠ 0 ∧ hdI ep = 22) := by
        unfold hdI
        by_cases q : ep = 0
        · exact Or.inl ⟨q, if_pos q⟩
        · exact Or.inr ⟨q, if_neg q⟩
      have mt1 : J1 (e + 168) 6 = mtu := by rw [h168 6 (by decide) (by decide)]; exact hmt
      have room : ∀ (P : Int → zM → yM → Prop), P (sp + 8) J1 L1 → w_X6_roomFor e ep J1 L1 P := fun P hP => by
        unfold w_X6_roomFor
        refine ⟨⟨by omega, by omega⟩, ?_⟩
        rw [mt1, hX.2.2.2.1.1]
        rcases hh with ⟨q, u⟩ | ⟨q, u⟩
        · rw [if_pos q, show mtu - (tt.2.2.2.1.length : Int) - 6 = sp + 8 by omega]; exact hP
        · rw [if_neg q, show mtu - (tt.2.2.2.1.length : Int) - 14 = sp + 8 by omega]; exact hP
      refine room _ ?_
      rw [show sp + 8 - 8 = sp by omega]
      refine s_openRun hF1 hfm l0 l1 (by omega) hb ?_
      obtain ⟨c, hc⟩ : ∃ c, c = runL ack at_ (min ((fs B (f + 1) : Int) - at_) sp).toNat := ⟨_, rfl⟩
      rw [← hc]
      have hcl : c ≤ (min ((fs B (f + 1) : Int) - at_) sp).toNat := by rw [hc]; exact runL_le _ _ _
      intro K3 hK3
      refine ⟨⟨by omega, by omega⟩, ?_⟩
      have hn1 : ∃ n', n = n' + 1 := ⟨n - 1, by omega⟩
      obtain ⟨n', rfl⟩ := hn1
      by_cases c3 : (0 : Int) < (c : Int)
      · rw [if_pos c3]
        have hack : ack at_ = 0 := by
          rcases hb at_ with q | q
          · exact q
          · exfalso
            have : c = 0 := by
              rw [hc]
              cases (min ((fs B (f + 1) : Int) - at_) sp).toNat with
              | zero => rfl
              | succ z => unfold runL; rw [if_neg (by omega)]
            omega
        have hsp1 : ¬ sp < 1 := by omega
        have hput := flyR_put (mtu := mtu) (kf := kf) (mf := mf) (many := many) (K := K) (N := N) (B := B) (ack := ack) (n := n') (t := tt) (by omega) l0 l1 (by rw [← htot]; exact c2) hack (by rw [← hep, ← hsp]; exact hsp1)
        rw [← hep, ← hsp, ← hc] at hput
        rw [hput] at hfly
        refine s_putFragment he hF1 hfm l0 (by omega) (by omega) (fun J2 g2 f2 => ?_)
        obtain ⟨con, hcon⟩ : ∃ con, con = frI (K f) ((B f).length : Int) (N f) (at_ - (fs B f : Int)) (c : Int) (partI (B f) (at_ - (fs B f : Int)).toNat (c : Int).toNat) := ⟨_, rfl⟩
        have hcl2 : con.length = 8 + (c : Int).toNat := by rw [← sg_len J2 (e + 170) 0 (8 + (c : Int).toNat), g2, hcon]
        have hX2 : XSn e J2 B tt := by
          obtain ⟨x1, x2, x3, x4, x5⟩ := hX
          have hn3 := rL_fr (r := wy e) (J := J1) (J' := J2) (fun a ha => f2 a (fun q => ha (fun u => hcr _ (by omega) (q ▸ u)))) x1.2
          refine ⟨⟨hn3.1.trans x1.1, hn3.2⟩, by rw [f2 _ (by omega)]; exact x2, fun ep hep => by rw [f2 _ (by omega)]; exact x3 ep hep, x4.fr (by rw [f2 _ (by omega)]) (f2 _ (by omega)), ?_⟩
          unfold XL
          rw [f2 (e + 8) (by omega), f2 (e + 14) (by omega), f2 (e + 15) (by omega), f2 (e + 16) (by omega)]
          exact x5
        have hK2' : XKy e s J2 kf mf := fun ep hep => by
          rw [sg_row (f2 _ (by omega)), sg_row (f2 _ (by omega))]
          exact hK1 ep hep
        have j168 : J2 (e + 168) = J1 (e + 168) := f2 _ (by omega)
        rw [show (8 : Int) + (c : Int) = (con.length : Int) by omega]
        have hroom : (tt.2.2.2.1.length : Int) + (con.length : Int) + (if ep = 0 then 6 else 14) ≤ mtu := by
          rcases hh with ⟨q, u⟩ | ⟨q, u⟩
          · rw [if_pos q]; omega
          · rw [if_neg q]; omega
        refine s_putRec (kf := kf) (mf := mf) he hs (by rw [j168, h168 0 (by decide) (by decide)]; exact hse) hep3 hX2 hK2' (by rw [hcl2, g2, hcon]) (by rw [j168, mt1]; omega) (by rw [j168, mt1]; exact hroom) (fun J3 g3 k3 f3 => ?_)
        obtain ⟨t3, ht3⟩ : ∃ t3, t3 = putS kf mf ep 22 con tt := ⟨_, rfl⟩
        rw [← ht3] at g3
        have hfs : fragS kf mf K N B f at_ (c : Int) tt = logS tt t3 ep f (at_ - (fs B f : Int)) (c : Int) := by
          unfold fragS
          rw [← hcon, ← hep, ← ht3]
        rw [hfs] at hfly
        have lg3 : t3.2.2.2.2 = tt.2.2.2.2 := by
          rw [ht3]
          unfold putS
          split <;> rfl
        have hf3 : zF (cSend e) J J3 := hf.tr ((f2.mono (fun a q => by unfold cSend; exact Or.inr (Or.inr (Or.inr (Or.inr q))))).tr (f3.mono (fun a q => Or.inl q)))
        have h83 : J3 (e + 8) = J1 (e + 8) := by rw [f3 _ (by unfold cPut; omega), f2 _ (by omega)]
        have h683 : ∀ k, k ≠ 7 → k ≠ 8 → J3 (e + 168) k = J (e + 168) k := fun k k7 k8 => by rw [k3 k k7, j168]; exact h168 k k7 k8
        have next : ∀ (t4 : FS) (J4 : zM), logS tt t3 ep f (at_ - (fs B f : Int)) (c : Int) = t4 → XSn e J4 B t4 → (t4.2.2.2.2.length : Int) ≤ (tt.2.2.2.2.length : Int) + 1 → (∀ k, k ≠ 9 → J4 (e + 8) k = J3 (e + 8) k) → (∀ k, J4 (e + 168) k = J3 (e + 168) k) → zF (cSend e) J3 J4 → ∀ x51 : Int, x51 = at_ + (c : Int) → K3 x51 J4 L1 := by
          intro t4 J4 e4 hX4 hl4 k8 k168 f4 x51 ex
          subst ex
          have hb4 := b01_of t4.2.2.2.1
          have hm1 : fs B (f + 1) ≤ fs B many := fs_mono (by omega)
          refine hK3 (at_ + (c : Int)) J4 L1 (hKK (2 * ((tot : Int) - (at_ + (c : Int))) + b01 t4.2.2.2.1).toNat (at_ + (c : Int)) (step + 1) J4 L1 (by omega) ⟨t4, n', rfl, by omega, by omega, by omega, by omega, by omega, by rw [← e4]; exact hfly, by omega, hX4, by omega, fun k hk9 => ?_, fun k k7 k8' => ?_, hf3.tr f4⟩)
          · rw [k8 k hk9, h83]; exact h8 k hk9
          · rw [k168 k]; exact h683 k k7 k8'
        by_cases c4 : 65535 < tt.2.2.1 ep
        · rw [if_pos c4]
          refine s_logNone (next t3 J3 ?_ g3 (by rw [lg3]; omega) (fun _ _ => rfl) (fun _ => rfl) zF.rf)
          unfold logS
          rw [if_pos c4]
        · rw [if_neg c4]
          have hnn := (hX.2.2.1 ep hep3).2
          have hXL3 := g3.2.2.2.2
          refine s_log (f := f) (fr := at_ - (fs B f : Int)) (cnt := (c : Int)) hep3 (by omega) hXL3 (by rw [lg3]; omega) (by omega) (by omega) (fun J4 g4 k4 f4 => ?_)
          refine next (t3.1, t3.2.1, t3.2.2.1, t3.2.2.2.1, t3.2.2.2.2 ++ [(ep, tt.2.2.1 ep, f, at_ - (fs B f : Int), (c : Int))]) J4 ?_ ?_ ?_ k4 ?_ ?_
          · unfold logS
            rw [if_neg c4]
          · obtain ⟨x1, x2, x3, x4, x5⟩ := g3
            have hn3 := rL_fr (r := wy e) (J := J3) (J' := J4) (fun a ha => f4 a (fun q => ha (fun u => hcr _ (by omega) u))) x1.2
            exact ⟨⟨hn3.1.trans x1.1, hn3.2⟩, by rw [f4 _ (by omega)]; exact x2, fun ep hep => by rw [f4 _ (by omega)]; exact x3 ep hep, x4.fr (by rw [f4 _ (by omega)]) (f4 _ (by omega)), g4⟩
          · show (((t3.2.2.2.2 ++ [(ep, tt.2.2.1 ep, f, at_ - (fs B f : Int), (c : Int))]).length : Nat) : Int) ≤ _
            rw [List.length_append, List.length_singleton, lg3]
            omega
          · intro k
            rw [f4 (e + 168) (by omega)]
          · exact f4.mono (fun a q => by unfold cSend; omega)
      · rw [if_neg c3]
        have ha1 := hF1.2.2.2.2.2.2 at_ a0 (by rw [← htot]; exact c2)
        refine ⟨⟨a0, by omega⟩, by rw [ha1]; rcases hb at_ with q | q <;> (rw [q]; decide), ?_⟩
        rw [ha1]
        by_cases c4 : ack at_ = 0
        · rw [if_pos c4]
          have hsp1 : sp < 1 := by
            apply Decidable.byContradiction
            intro q
            have := runL_pos (ack := ack) (n := (min ((fs B (f + 1) : Int) - at_) sp).toNat) c4 (by omega)
            omega
          have hfl := flyR_flush (mtu := mtu) (kf := kf) (mf := mf) (many := many) (K := K) (N := N) (B := B) (ack := ack) (n := n') (t := tt) hm2.1 (by omega) l0 l1 (by rw [← htot]; exact c2) c4 (by rw [← hep, ← hsp]; exact hsp1)
          rw [hfl] at hfly
          have hdn : tt.2.2.2.1 ≠ [] := fun q => by
            rw [q] at hsp
            simp at hsp
            omega
          have hfd : (flushS tt).2.2.2.1 = [] := by unfold flushS; rw [if_neg hdn]
          have hfl2 : (flushS tt).2.2.2.2 = tt.2.2.2.2 := by unfold flushS; rw [if_neg hdn]
          have hb2 : b01 (flushS tt).2.2.2.1 = 0 := by rw [hfd]; rfl
          have hb3 : b01 tt.2.2.2.1 = 1 := hb1.elim (fun q => absurd q.1 hdn) (fun q => q.2)
          refine s_flushT he hX (fun J2 g1 g2 g3 => ?_)
          refine hK3 at_ J2 L1 (hKK (m - 1) at_ (step + 1) J2 L1 (by omega) ⟨flushS tt, n' + 1, rfl, a0, a1, by omega, by omega, by omega, hfly, hn, g1, by rw [hfl2]; exact hlg1, fun k k9 => ?_, fun k k7 k8 => ?_, ?_⟩)
          · rw [g3 (e + 8) (fun q => q.elim (hcr _ (by omega)) (by omega))]; exact h8 k k9
          · rw [g2 k k7 k8]; exact h168 k k7 k8
          · exact hf.tr (g3.mono (fun a q => by unfold cSend cPut; rcases q with q | q; exact Or.inr (Or.inl q); exact Or.inl (by omega)))
        · rw [if_neg c4]
          have hsk := flyR_skip (mtu := mtu) (kf := kf) (mf := mf) (many := many) (K := K) (N := N) (B := B) (ack := ack) (n := n') (t := tt) (by rw [← htot]; exact c2) c4
          rw [hsk] at hfly
          exact hK3 (at_ + 1) J1 L1 (hKK (m - 2) (at_ + 1) (step + 1) J1 L1 (by omega) ⟨tt, n', rfl, by omega, by omega, by omega, by omega, by omega, hfly, by omega, hX, by omega, h8, h168, hf⟩)
    · rw [if_neg c2]
      exact done (by omega)
  · rw [if_neg c1]
    exact done (by omega)
