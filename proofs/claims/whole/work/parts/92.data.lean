/-! DATA comes -/
def dropW (W : List (List Int)) : List (List Int) := if W.length = 100 then W.eraseIdx 0 else W
theorem dataC_eq {ep : Int} {c : List Int} {A : SA} (h : ep = 3 ∧ 1 ≤ c.length ∧ c.length ≤ 60) : dataC ep c A = uz 10 0 (uz 5 (aZ A 5 + 1) (uw (dropW (aW A) ++ [c]) A)) := by unfold dataC dropW; rw [if_pos h]
theorem XS.wrt {e : Nat} {s : Int} {W : List (List Int)} {A : SA} {J J' : zM} {L : yM} (he : iSide e) (h : XS e s J L A) (h1 : rL (e + 38) J' = W) (h2 : iR (e + 38) J') (f : zF (cR (e + 38)) J J') : XS e s J' L (uw W A) ∧ XO e J L J' L := by
  have q38 := rq_38 he
  have he2 : 139 ≤ e := by unfold iSide at he; omega
  have f' : ∀ a, ¬ (e + 38 ≤ a ∧ a ≤ e + 141) → J' a = J a := fun a ha => f a (by unfold cR; omega)
  obtain ⟨h0, h1', h2', h3, h4, h5, h6, h7, h8, h9, h10⟩ := h
  refine ⟨⟨h0.fr (f' _ (by omega)), h1'.fr (f' _ (by omega)) rfl, h2'.fr (fun x p q => f' x (by omega)), h3.fr (fun x p q => f' x (by omega)) (fun k _ => by rw [f' _ (by omega)]), h4.fr (fun x p q => f' x (by omega)), h5.fr (fun x p q => f' x (by omega)), h6.fr (f' _ (by omega)), ⟨h1, h2⟩, h8.fr (fun x p q => f' x (by omega)) (f' _ (by omega)), h9.fr (fun x p => f' x ?_) (by rw [f' _ (by omega)]), h10.fr (fun x p q => f' x (by omega)) (fun _ _ _ => rfl)⟩, fun x hx => f' x (fun q => hx (Or.inl (by omega))), fun _ _ => rfl⟩
  rcases p with p | p | p | p | p
  · omega
  · omega
  · omega
  · omega
  · have := wy_out he p; omega
theorem rw_38 {e : Nat} (he : iSide e) : rw0 (e + 38) = 60 := by rcases he with rfl | rfl <;> rfl
theorem xs_hearData {e : Nat} {bd s ep : Int} {c : List Int} {A : SA} {J : zM} {L : yM} {Q : Int → zM → yM → Prop} (he : iSide e) (h : XS e s J L A) (ai : AI bd s A) (hc : XC J ep c) (hep : ep3 ep) (h0 : ¬ (ep = 3 ∧ 1 ≤ c.length ∧ c.length ≤ 60) → Q 0 J L) (h1 : ∀ J', (ep = 3 ∧ 1 ≤ c.length ∧ c.length ≤ 60) → XS e s J' L (dataC ep c A) → XO e J L J' L → Q 1 J' L) : w_X8_hearData e J L Q := by
  have hl := hc.2.2.2.1
  have h7 := hc.2.2.1
  have q38 := rq_38 he
  have r38 := rw_38 he
  have he2 : 139 ≤ e := by unfold iSide at he; omega
  unfold w_X8_hearData
  rw [hc.1, hc.2.1]
  refine ⟨⟨by omega, by omega⟩, ?_⟩
  by_cases c3 : ep = 3
  · rw [if_pos c3]
    refine ⟨⟨by omega, by omega⟩, ?_⟩
    by_cases c1 : (c.length : Int) < 1
    · rw [if_pos c1]
      exact h0 (fun q => by omega)
    · rw [if_neg c1]
      by_cases c60 : 60 < (c.length : Int)
      · rw [if_pos c60]
        exact h0 (fun q => by omega)
      · rw [if_neg c60]
        have good : ep = 3 ∧ 1 ≤ c.length ∧ c.length ≤ 60 := ⟨c3, by omega, by omega⟩
        rw [dataC_eq good] at h1
        refine zl_z.by (fun m x J' L' => (m : Int) = (c.length : Int) - x ∧ 0 ≤ x ∧ x ≤ (c.length : Int) ∧ L' = L ∧ J' = zw J (e + 142) 0 (c.take x.toNat)) ?_ c.length 0 J L ⟨by omega, by omega, by omega, rfl, (zw_nil J (e + 142) 0).symm⟩
        rintro m x J2 L2 KK ⟨hm, hx, hx2, rfl, e2⟩ hKK
        have r2 : ∀ a, a ≠ e + 142 → J2 a = J a := fun a ha => by rw [e2]; exact zw_r J ha
        have hc2 : XC J2 ep c := hc.fr (r2 3 (by omega)) (r2 4 (by omega))
        rw [hc2.2.1]
        refine ⟨⟨by omega, by omega⟩, ⟨by omega, by omega⟩, ?_⟩
        by_cases d : x < (c.length : Int)
        · rw [if_pos d]
          refine x_octet hc2 ⟨hx, d⟩ ⟨⟨by omega, by omega⟩, fun J29 e29 => hKK (m - 1) (x + 1) J29 L2 (by omega) ⟨by omega, by omega, by omega, rfl, ?_⟩⟩
          have hlx : c[x.toNat]? = some (c.getD x.toNat 0) := by rw [List.getD_eq_getElem?_getD, List.getElem?_eq_getElem (by omega)]; rfl
          have hln : ((c.take x.toNat).length : Int) = x := by rw [List.length_take, Nat.min_eq_left (by omega)]; omega
          rw [e29, e2, zs_zw, zw_app _ _ _ _ _ _ (by rw [hln]; omega), show (x + 1).toNat = x.toNat + 1 by omega, take_snoc hlx]
        · rw [if_neg d]
          have : x = (c.length : Int) := by omega
          subst this
          rw [Int.toNat_natCast, List.take_length] at e2
          have g2 := h.scr (J' := J2) he (fun a ha => r2 a (by omega))
          have sb : sg J2 (e + 142) 0 c.length = c := by rw [e2]; exact zw_sg _ _ _ _
          intro K15 hK15
          have w38 := g2.1.2.2.2.2.2.2.2.1
          have b6 := ai.b6
          have wl : (rL (e + 38) J2).length = (aW A).length := by rw [w38.1]
          rw [rL_len] at wl
          have hn5 := w38.2.1
          -- behind the drop
          have go : ∀ J3 : zM, rL (e + 38) J3 = dropW (aW A) → iR (e + 38) J3 → J3 (e + 38) 5 < 100 → zF (cR (e + 38)) J2 J3 → K15 J3 L2 := fun J3 p1 p2 p3 p4 => hK15 J3 L2 (by
            have f3 : ∀ a, ¬ (e + 38 ≤ a ∧ a ≤ e + 141) → J3 a = J2 a := fun a ha => p4 a (by unfold cR; omega)
            have hc3 : XC J3 ep c := hc2.fr (f3 3 (by omega)) (f3 4 (by omega))
            have g3 := g2.1.wrt he p1 p2 p4
            rw [hc3.2.1]
            refine s_add p2 (Or.inl (by unfold cR; omega)) (by omega) (by rw [r38]; omega) (by rw [lnS_142 he]; omega) (by rw [q38]; exact p3) (fun J4 v1 v2 v3 J19 e19 J20 e20 => ?_)
            rw [p1, Int.toNat_natCast, sg_row (f3 (e + 142) (by omega)), sb] at v1
            have g4 := g3.1.wrt he v1 v2 v3
            rw [show J4 e 17 = aZ A 5 from g4.1.1.2.2.2.2.2.2.1] at e19
            have g19 := XS_z5 he g4.1 (aZ A 5 + 1)
            rw [← e19] at g19
            have g20 := XS_z10 he g19 0
            rw [← e20] at g20
            refine h1 J20 good g20 (g2.2.tr (g3.2.tr (g4.2.tr ?_)))
            rw [e20, e19]
            exact (XO.zs (Or.inl (by omega))).tr (XO.zs (Or.inl (by omega))))
          rw [q38] at hn5
          refine ⟨⟨by omega, by omega⟩, ?_⟩
          by_cases d5 : J2 (e + 38) 5 = 100
          · rw [if_pos d5]
            refine s_drop w38.2 (by decide) (by omega) (fun J3 p1 p2 p3 p4 => go J3 ?_ p2 (by omega) p4)
            rw [p1, w38.1]
            unfold dropW
            rw [if_pos (by omega)]
            rfl
          · rw [if_neg d5]
            refine go J2 ?_ w38.2 (by omega) zF.rf
            rw [w38.1]
            unfold dropW
            rw [if_neg (by omega)]
  · rw [if_neg c3]
    exact h0 (fun q => c3 q.1)
theorem dropW_get {W : List (List Int)} {i : Nat} {w : List Int} (h : (dropW W)[i]? = some w) : W[i + (W.length - (dropW W).length)]? = some w := by
  unfold dropW at *
  split at h
  · rename_i c
    rw [if_pos c, List.length_eraseIdx_of_lt (by omega)]
    rw [List.getElem?_eraseIdx] at h
    rw [if_neg (by omega)] at h
    rw [show i + (W.length - (W.length - 1)) = i + 1 by omega]
    exact h
  · rename_i c
    rw [if_neg c, Nat.sub_self]
    exact h
theorem dropW_len (W : List (List Int)) (h : W.length ≤ 100) : (dropW W).length = if W.length = 100 then 99 else W.length := by
  unfold dropW
  split
  · rename_i c
    rw [List.length_eraseIdx_of_lt (by omega), c]
  · rfl
theorem uz10_same {A : SA} (h : aZ A 10 = 0) : uz 10 0 A = A := by
  refine Prod.ext (funext fun j => ?_) rfl
  show (if j = 10 then (0 : Int) else A.1 j) = A.1 j
  by_cases q : j = 10
  · subst q; rw [if_pos rfl]; exact h.symm
  · rw [if_neg q]
theorem ms_dataComes {bd s ep : Int} {c : List Int} {A : SA} {J : zM} {L : yM} {Q : zM → yM → Prop} (hs : s01 s) (h : MS s J L A) (ai : AI bd s A) (hbd : bd ≤ 2000000000) (hop : aZ A 0 = 2 ∨ aZ A 0 = 3) (hc : MCt J c) (hep : ep3 ep) (hQ : ∀ J', MS s J' L (dataC ep c A) → MO s J L J' L → Q J' L) : w_X12_dataComes s ep J L Q := by
  have hl := hc.2.2.1
  have hs2 : 0 ≤ s ∧ s < 2 := by omega
  have b5 := ai.b5
  have b6 := ai.b6
  unfold w_X12_dataComes
  intro K3 hK3
  have bad : ¬ (ep = 3 ∧ 1 ≤ c.length ∧ c.length ≤ 60) → K3 J L := fun hno => hK3 J L (ms_mal hs h (by unfold dataC at hQ; rw [if_neg hno] at hQ; exact hQ))
  rw [hc.1]
  refine ⟨⟨by omega, by omega⟩, ?_⟩
  by_cases c3 : ep = 3
  · rw [if_pos c3]
    refine ⟨⟨by omega, by omega⟩, ?_⟩
    by_cases c1 : (c.length : Int) < 1
    · rw [if_pos c1]
      exact bad (fun q => by omega)
    · rw [if_neg c1]
      by_cases c60 : 60 < (c.length : Int)
      · rw [if_pos c60]
        exact bad (fun q => by omega)
      · rw [if_neg c60]
        have good : ep = 3 ∧ 1 ≤ c.length ∧ c.length ≤ 60 := ⟨c3, by omega, by omega⟩
        rw [dataC_eq good] at hQ
        have e547 : J 547 s = aZ A 5 := h.1.2.2.2.2.1
        rw [e547, zrem_n ⟨b5.1, by omega⟩ (by decide)]
        refine ⟨hs2, fun x12 ex => ?_⟩
        have hx12 : 100 * s ≤ x12 ∧ x12 < 100 * s + 100 := by omega
        refine ⟨by omega, fun J14 e14 => ?_⟩
        refine zl_z.by (fun m x J' L' => (m : Int) = (c.length : Int) - x ∧ 0 ≤ x ∧ x ≤ (c.length : Int) ∧ L' = L ∧ J' = zcp J14 550 0 549 (60 * x12) x) ?_ c.length 0 J14 L ⟨by omega, by omega, by omega, rfl, (zcp_0 J14 550 549 0 (60 * x12)).symm⟩
        rintro m x J2 L2 KK ⟨hm, hx, hx2, rfl, e2⟩ hKK
        have r2 : ∀ a, a ≠ 549 → J2 a = J14 a := fun a ha => by rw [e2]; exact zcp_r J14 ha
        have r14 : ∀ a, a ≠ 548 → J14 a = J a := fun a ha => by rw [e14]; exact zs_r J ha
        rw [r2 491 (by decide), r14 491 (by decide), hc.1]
        refine ⟨⟨by omega, by omega⟩, ⟨by omega, by omega⟩, ?_⟩
        by_cases d : x < (c.length : Int)
        · rw [if_pos d]
          refine ⟨⟨by omega, by omega⟩, ⟨by omega, by omega⟩, fun J30 e30 => hKK (m - 1) (x + 1) J30 L2 (by omega) ⟨by omega, by omega, by omega, rfl, ?_⟩⟩
          rw [e30, e2]
          have := zcp_succ2 (J := J14) (a := 550) (b := 549) (sp := 0) (dp := 60 * x12) (n := x) hx (Or.inl (by decide))
          rw [Int.zero_add] at this
          exact this
        · rw [if_neg d]
          have hxe : x = (c.length : Int) := by omega
          subst hxe
          have w2 : J2 = zw J14 549 (60 * x12) c := by
            rw [e2, zcp_zw _ _ _ _ _ _ (by omega), Int.toNat_natCast, sg_row (r14 550 (by decide)), hc.2.1]
          have g547 : J2 547 s = aZ A 5 := by rw [r2 547 (by decide), r14 547 (by decide)]; exact e547
          refine ⟨hs2, hs2, fun J24 e24 => ?_⟩
          rw [g547] at e24
          have r24 : ∀ a, a ≠ 547 → a ≠ 548 → a ≠ 549 → J24 a = J a := fun a p q t => by rw [e24, zs_r _ p, r2 a t, r14 a q]
          have cc : ∀ (C : Nat → Prop), (∀ a, C a → a ≠ 547 ∧ a ≠ 548 ∧ a ≠ 549) → oEq s C J J24 := fun C hC a i _ hcc => by rw [r24 a (hC a hcc).1 (hC a hcc).2.1 (hC a hcc).2.2]
          have g24 : MS s J24 L2 (uz 5 (aZ A 5 + 1) (uw (dropW (aW A) ++ [c]) A)) := by
            obtain ⟨a0, a1, a2, a3, a4, a5, a6, a7, a8, a9, a10, a11, a12⟩ := h
            obtain ⟨p0, p1, p2, p3, p4, p5, p6, p7, p8, p9, p10, p11⟩ := a0
            refine ⟨⟨?_, ?_, ?_, ?_, ?_, ?_, ?_, ?_, ?_, ?_, p10, p11⟩, a1.fr (cc _ (by omega)), a2.fr (cc _ (by omega)), a3.fr hs (cc _ (by omega)), ⟨a4.1.fr hs (cc _ (by omega)), a4.2.fr (cc _ (by omega))⟩, a5.fr (cc _ (by omega)), (a6.fr (cc _ (by omega))).cg (fun k hk => if_neg (by omega)), fun i w hw => ?_, a8.fr (cc _ (by omega)), MSn.fr a9 (fun a ha => r24 a (by omega) (by omega) (by omega)) (by rw [r24 491 (by decide) (by decide) (by decide)]), a10.fr (cc _ (by omega)) (fun _ _ _ => rfl), a11.fr (cc _ (by omega)), mKa a12 (cc _ (by omega))⟩
            · rw [r24 _ (by decide) (by decide) (by decide)]; exact p0
            · rw [r24 _ (by decide) (by decide) (by decide)]; exact p1
            · rw [r24 _ (by decide) (by decide) (by decide)]; exact p2
            · rw [r24 _ (by decide) (by decide) (by decide)]; exact p3
            · rw [e24]; exact zs_s _ _ _ _
            · rw [r24 _ (by decide) (by decide) (by decide)]; exact p5
            · rw [r24 _ (by decide) (by decide) (by decide)]; exact p6
            · rw [r24 _ (by decide) (by decide) (by decide)]; exact p7
            · rw [r24 _ (by decide) (by decide) (by decide)]; exact p8
            · rw [r24 _ (by decide) (by decide) (by decide)]; exact p9
            · have hw : (dropW (aW A) ++ [c])[i]? = some w := hw
              show J24 548 (100 * s + (aZ A 5 + 1 - ((dropW (aW A) ++ [c]).length : Int) + (i : Int)) % 100) = (w.length : Int) ∧ sg J24 549 (60 * (100 * s + (aZ A 5 + 1 - ((dropW (aW A) ++ [c]).length : Int) + (i : Int)) % 100)) w.length = w ∧ w.length ≤ 60
              have ld := dropW_len (aW A) (by omega)
              have lap : (dropW (aW A) ++ [c]).length = (dropW (aW A)).length + 1 := by rw [List.length_append, List.length_singleton]
              have v548 : ∀ k, J24 548 k = if k = x12 then (c.length : Int) else J 548 k := fun k => by
                rw [e24, zs_r _ (by decide), r2 548 (by decide), e14]
                by_cases u : k = x12
                · rw [if_pos u, u, zs_s]
                · rw [if_neg u, zs_n _ (Or.inr u)]
              have v549 : J24 549 = (zw J14 549 (60 * x12) c) 549 := by rw [e24, zs_r _ (by decide), w2]
              by_cases hi : i < (dropW (aW A)).length
              · rw [List.getElem?_append_left hi] at hw
                have q := a7 _ w (dropW_get hw)
                have ei : aZ A 5 - ((aW A).length : Int) + ((i + ((aW A).length - (dropW (aW A)).length) : Nat) : Int) = aZ A 5 + 1 - ((dropW (aW A) ++ [c]).length : Int) + (i : Int) := by rw [lap]; split at ld <;> omega
                rw [ei] at q
                obtain ⟨t, ht⟩ : ∃ t, t = (aZ A 5 + 1 - ((dropW (aW A) ++ [c]).length : Int) + (i : Int)) % 100 := ⟨_, rfl⟩
                rw [← ht] at q ⊢
                have ne : 100 * s + t ≠ x12 := by rw [lap] at ht; split at ld <;> omega
                have tb : 0 ≤ t ∧ t < 100 := by omega
                refine ⟨by rw [v548, if_neg ne]; exact q.1, ?_, q.2.2⟩
                have wl := q.2.2
                rw [sg_row v549, sg_zw_in (fun k k0 k1 => by omega), sg_row (r14 549 (by decide))]
                exact q.2.1
              · have hi2 : i = (dropW (aW A)).length := by
                  have := (List.getElem?_eq_some_iff.mp hw).1
                  rw [lap] at this
                  omega
                rw [List.getElem?_append_right (by omega), hi2, Nat.sub_self] at hw
                have : w = c := by cases hw; rfl
                subst this
                have ei : 100 * s + (aZ A 5 + 1 - ((dropW (aW A) ++ [w]).length : Int) + (i : Int)) % 100 = x12 := by rw [lap, hi2, ex]; congr 2; omega
                rw [ei]
                refine ⟨by rw [v548, if_pos rfl], ?_, by omega⟩
                rw [sg_row v549]
                exact zw_sg _ _ _ _
          have o24 : MO s J L2 J24 L2 := by
            have nn := mN_fr (r24 509 (by decide) (by decide) (by decide)) (r24 510 (by decide) (by decide) (by decide)) (r24 511 (by decide) (by decide) (by decide))
            refine ⟨fun a i ho => ?_, fun _ _ _ => rfl, nn _, by rw [r24 509 (by decide) (by decide) (by decide)], mI_fr (r24 509 (by decide) (by decide) (by decide)) (r24 510 (by decide) (by decide) (by decide)), fun q => by rw [r24 491 (by decide) (by decide) (by decide)]; exact q, fun a ha => ⟨r24 a (by omega) (by omega) (by omega), rfl⟩⟩
            by_cases q7 : a = 547
            · subst q7
              have := ow1 ho (by omega)
              rw [e24, zs_n _ (Or.inr (by omega)), r2 547 (by decide), r14 547 (by decide)]
            · by_cases q8 : a = 548
              · subst q8
                have := ow548 ho
                rw [e24, zs_r _ (by decide), r2 548 (by decide), e14, zs_n _ (Or.inr (by omega))]
              · by_cases q9 : a = 549
                · subst q9
                  have := ow549 ho
                  rw [e24, zs_r _ (by decide), w2, zw_out _ (by omega), r14 549 (by decide)]
                · rw [r24 a q7 q8 q9]
          refine ⟨⟨by omega, by omega⟩, ?_⟩
          by_cases s0 : s = 0
          · rw [if_pos s0]
            intro J27 e27
            subst s0
            have g27 := MS_over (by decide) g24
            rw [← e27] at g27
            exact hQ J27 g27.1 (o24.tr g27.2)
          · rw [if_neg s0]
            have z10 : aZ A 10 = 0 := ai.b23 (by omega) hop
            rw [uz10_same (show aZ (uz 5 (aZ A 5 + 1) (uw (dropW (aW A) ++ [c]) A)) 10 = 0 from z10)] at hQ
            exact hQ J24 g24 o24
  · rw [if_neg c3]
    exact bad (fun q => c3 q.1)
theorem AI_dataC {bd s ep : Int} {c : List Int} {A : SA} (ai : AI bd s A) : AI (bd + 1) s (dataC ep c A) := by
  by_cases good : ep = 3 ∧ 1 ≤ c.length ∧ c.length ≤ 60
  · rw [dataC_eq good]
    refine AI_z10 ?_
    have b5 := ai.b5
    have b6 := ai.b6
    have b17 := ai.b17
    have ld := dropW_len (aW A) (by omega)
    have lap : (dropW (aW A) ++ [c]).length = (dropW (aW A)).length + 1 := by rw [List.length_append, List.length_singleton]
    have z := ai.1
    refine ⟨⟨z.1, z.2.1, z.2.2.1, z.2.2.2.1, z.2.2.2.2.1, ⟨show 0 ≤ aZ A 5 + 1 by omega, show aZ A 5 + 1 ≤ bd + 1 by omega⟩, ?_, z.2.2.2.2.2.2.2.1, z.2.2.2.2.2.2.2.2.1, z.2.2.2.2.2.2.2.2.2.1, z.2.2.2.2.2.2.2.2.2.2.1, z.2.2.2.2.2.2.2.2.2.2.2.1, z.2.2.2.2.2.2.2.2.2.2.2.2.1, z.2.2.2.2.2.2.2.2.2.2.2.2.2.1, z.2.2.2.2.2.2.2.2.2.2.2.2.2.2.1, z.2.2.2.2.2.2.2.2.2.2.2.2.2.2.2.1, z.2.2.2.2.2.2.2.2.2.2.2.2.2.2.2.2.1, ⟨b17.1, show aZ A 17 ≤ bd + 1 by omega⟩, z.2.2.2.2.2.2.2.2.2.2.2.2.2.2.2.2.2.2⟩, ai.2.1, ai.2.2.1, ai.2.2.2.1, ai.2.2.2.2.1, ai.2.2.2.2.2.1, ai.2.2.2.2.2.2.1, ai.2.2.2.2.2.2.2.1, fun w hw => ?_, ai.g⟩
    · show ((dropW (aW A) ++ [c]).length : Int) ≤ 100 ∧ ((dropW (aW A) ++ [c]).length : Int) ≤ aZ A 5 + 1 ∧ (((dropW (aW A) ++ [c]).length : Int) = aZ A 5 + 1 ∨ (dropW (aW A) ++ [c]).length = 100)
      rw [lap]
      split at ld <;> omega
    · rcases List.mem_append.mp hw with q | q
      · refine ai.2.2.2.2.2.2.2.2.1 w ?_
        unfold dropW at q
        split at q
        · exact List.mem_of_mem_eraseIdx q
        · exact q
      · rw [List.mem_singleton.mp q]; exact good.2.2
  · unfold dataC
    rw [if_neg good]
    exact (AI_cnt ai (by decide)).mono (by omega)
