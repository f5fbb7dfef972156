/-! ACKS come, in the model -/
theorem s_left {s : Int} {many : Nat} {K N : Nat → Int} {B : Nat → List Int} {ack : Int → Int} {P : Nat → Int} {J : zM} {L : yM} {Q : Int → zM → yM → Prop} (hs : s01 s) (hF : MFl s J many K N B ack P) (h204 : fs B many ≤ 204) (ho : J 522 s = 0) (hb : ∀ i, ack i = 0 ∨ ack i = 1) (hQ : Q (miss ack (fs B many)) J L) : w_X12_left s J L Q := by
  have hs2 : 0 ≤ s ∧ s < 2 := by omega
  obtain ⟨f1, f2, f3, f4⟩ := hF
  unfold w_X12_left
  refine zl_zz.by (fun m w x J' L' => (m : Int) = (many : Int) - x ∧ 0 ≤ x ∧ x ≤ (many : Int) ∧ J' = J ∧ L' = L ∧ w = miss ack (fs B x.toNat)) ?_ many 0 0 J L ⟨by omega, by omega, by omega, rfl, rfl, rfl⟩
  rintro m w x J1 L1 KK ⟨hm, hx, hx2, rfl, rfl, hw⟩ hKK
  rw [f1, ho]
  refine ⟨hs2, ⟨by omega, by omega⟩, ⟨by omega, by omega⟩, ?_⟩
  by_cases c : x < (many : Int)
  · rw [if_pos c]
    refine ⟨hs2, by decide, ?_⟩
    rw [if_pos rfl]
    obtain ⟨f, hf⟩ : ∃ f : Nat, f = x.toNat := ⟨_, rfl⟩
    have hxf : x = (f : Int) := by omega
    subst hxf
    rw [Int.toNat_natCast] at hw
    obtain ⟨q1, q2, q3, q4, q5, q6, q7⟩ := f3 f (by omega)
    have hlB : (B f).length ≤ 157 := q3.size.2.2.2.1
    have hmo := fs_mono (B := B) (f := f + 1) (g := many) (by omega)
    have hfs : fs B (f + 1) = fs B f + (B f).length := rfl
    refine zl_zz.by (fun m2 v y J' L' => (m2 : Int) = ((B f).length : Int) - y ∧ 0 ≤ y ∧ y ≤ ((B f).length : Int) ∧ J' = J1 ∧ L' = L1 ∧ v = miss ack (fs B f + y.toNat)) ?_ (B f).length w 0 J1 L1 ⟨by omega, by omega, by omega, rfl, rfl, hw⟩
    rintro m2 v y J2 L2 K2 ⟨hm2, hy, hy2, rfl, rfl, hv⟩ hK2
    refine ⟨⟨by omega, by omega⟩, ?_⟩
    rw [q1]
    refine s_bodySize q3 q2.1 q2.2 ⟨⟨by omega, by omega⟩, ⟨by omega, by omega⟩, ?_⟩
    by_cases d : y < ((B f).length : Int)
    · rw [if_pos d]
      refine ⟨⟨by omega, by omega⟩, fun K29 hK29 => ?_⟩
      have v521 : J2 521 (600 * s + 200 * (f : Int) + y) = ack ((fs B f : Int) + y) := f4 f (by omega) y hy d
      rw [v521]
      have step : ∀ x26 : Int, x26 = 1 - ack ((fs B f : Int) + y) → K29 x26 J2 L2 := fun x26 e26 => hK29 x26 J2 L2 (fun x30 e30 => hK2 (m2 - 1) x30 (y + 1) J2 L2 (by omega) ⟨by omega, by omega, by omega, rfl, rfl, by
        rw [e30, hv, e26, show (y + 1).toNat = y.toNat + 1 by omega]
        show _ = miss ack (fs B f + y.toNat) + (1 - ack ((fs B f + y.toNat : Nat) : Int))
        rw [show ((fs B f + y.toNat : Nat) : Int) = (fs B f : Int) + y by omega]⟩)
      rcases hb ((fs B f : Int) + y) with q | q
      · rw [q]
        refine ⟨by decide, ?_⟩
        rw [if_pos rfl]
        exact step 1 (by omega)
      · rw [q]
        refine ⟨by decide, ?_⟩
        rw [if_neg (by decide)]
        exact step 0 (by omega)
    · rw [if_neg d]
      have : y = ((B f).length : Int) := by omega
      subst this
      refine hKK (m - 1) v ((f : Int) + 1) J2 L2 (by omega) ⟨by omega, by omega, by omega, rfl, rfl, ?_⟩
      rw [hv, Int.toNat_natCast, show ((f : Int) + 1).toNat = f + 1 by omega, hfs]
  · rw [if_neg c]
    have : x = (many : Int) := by omega
    subst this
    rw [Int.toNat_natCast] at hw
    rw [hw]
    exact hQ
theorem s_left0 {s : Int} {J : zM} {L : yM} {Q : Int → zM → yM → Prop} (hs : s01 s) (h517 : R32 (J 517 s)) (ho : J 522 s = 1) (hQ : Q 0 J L) : w_X12_left s J L Q := by
  have hs2 : 0 ≤ s ∧ s < 2 := by omega
  unfold w_X12_left
  refine zl_zz.by (fun m w x J' L' => w = 0 ∧ x = 0 ∧ J' = J ∧ L' = L) ?_ 0 0 0 J L ⟨rfl, rfl, rfl, rfl⟩
  rintro m w x J1 L1 KK ⟨rfl, rfl, rfl, rfl⟩ hKK
  refine ⟨hs2, by decide, h517, ?_⟩
  split
  · refine ⟨hs2, by rw [ho]; decide, ?_⟩
    rw [if_neg (by rw [ho]; decide)]
    exact hQ
  · exact hQ
theorem MS_uf0 {s : Int} {F : FLT} {J : zM} {L : yM} {A : SA} (h : MS s J L A) (hz : aZ A 10 = 0) (hF : F.1 = (aF A).1 ∧ F.2.1 = (aF A).2.1 ∧ F.2.2.1 = (aF A).2.2.1 ∧ F.2.2.2.1 = (aF A).2.2.2.1) : MS s J L (uf F A) := by
  obtain ⟨a0, a1, a2, a3, a4, a5, a6, a7, a8, a9, a10, a11, a12⟩ := h
  obtain ⟨b1, b2, b3, ack, b4, b5, b6⟩ := a3
  refine ⟨a0, a1, a2, ⟨b1, fun q => ?_, fun q r => ?_, ack, b4, fun q => ?_, ?_⟩, a4, a5, a6, a7, a8, a9, a10, a11, a12⟩
  · have q : aZ A 10 = 1 := q
    omega
  · show J 522 s = 1 ∨ F.1 = 0
    rw [hF.1]
    exact b3 hz r
  · have q : aZ A 10 = 1 := q
    omega
  · show MFl s J F.1 F.2.1 F.2.2.1 F.2.2.2.1 ack (fun f => plK s (F.2.1 f))
    rw [hF.1, hF.2.1, hF.2.2.1, hF.2.2.2]
    exact b6
theorem zor_b : zor 0 0 = 0 ∧ zor 0 1 = 1 ∧ zor 1 0 = 1 ∧ zor 1 1 = 1 := by decide
theorem MS_acked {s : Int} {ack : Int → Int} {A : SA} {J J' : zM} {L : yM} (hs : s01 s) (h : MS s J L A) (hz : aZ A 10 = 1) (hb : ∀ i, ack i = 0 ∨ ack i = 1) (h1 : MFl s J' (aF A).1 (aF A).2.1 (aF A).2.2.1 (aF A).2.2.2.1 ack (fun f => plK s ((aF A).2.1 f))) (r : ∀ a, a ≠ 521 → J' a = J a) (u : ∀ i, ¬ (600 * s ≤ i ∧ i < 600 * s + 600) → J' 521 i = J 521 i) : MS s J' L (uf ((aF A).1, (aF A).2.1, (aF A).2.2.1, (aF A).2.2.2.1, ack) A) ∧ MO s J L J' L := by
  obtain ⟨a0, a1, a2, a3, a4, a5, a6, a7, a8, a9, a10, a11, a12⟩ := h
  obtain ⟨b1, b2, b3, _, _, _, _⟩ := a3
  have c : ∀ (C : Nat → Prop), ¬ C 521 → oEq s C J J' := fun C hC a i _ hc => by rw [r a (fun q => hC (q ▸ hc))]
  have nn := mN_fr (r 509 (by decide)) (r 510 (by decide)) (r 511 (by decide))
  refine ⟨⟨a0.fr (c _ (by omega)) (fun _ _ _ => rfl), a1.fr (c _ (by omega)), a2.fr (c _ (by omega)), ⟨by rw [r 522 (by decide)]; exact b1, fun q => by rw [r 522 (by decide)]; exact b2 hz, fun q => ?_, ack, hb, fun _ _ => rfl, h1⟩, ⟨a4.1.fr hs (c _ (by omega)), a4.2.fr (c _ (by omega))⟩, a5.fr (c _ (by omega)), a6.fr (c _ (by omega)), a7.fr hs (c _ (by omega)), a8.fr (c _ (by omega)), MSn.fr a9 (fun a ha => r a (by omega)) (by rw [r 491 (by decide)]), a10.fr (c _ (by omega)) (fun _ _ _ => rfl), a11.fr (c _ (by omega)), mKa a12 (c _ (by omega))⟩, ⟨fun a i ho => ?_, fun _ _ _ => rfl, nn _, by rw [r 509 (by decide)], mI_fr (r 509 (by decide)) (r 510 (by decide)), fun q => by rw [r 491 (by decide)]; exact q, fun a ha => ⟨r a (by omega), rfl⟩⟩⟩
  · have q : aZ A 10 = 0 := q
    omega
  · by_cases q : a = 521
    · subst q
      have := ow521 ho
      exact u i (by omega)
    · rw [r a q]
theorem ms_ackComes {bd s ep : Int} {c : List Int} {A : SA} {J : zM} {L : yM} {Q : zM → yM → Prop} (hs : s01 s) (h : MS s J L A) (ai : AI bd s A) (h4 : aZ A 0 ≠ 4) (hc : MCt J c) (hep : ep3 ep) (hQ : ∀ J', MS s J' L (ackE ep c A) → MO s J L J' L → Q J' L) : w_X12_ackComes s ep J L Q := by
  have hl := hc.2.2.1
  have hs2 : 0 ≤ s ∧ s < 2 := by omega
  have hf := ai.2.2.2.1
  have hll := ai.ll
  have b10 := ai.b10
  obtain ⟨b1, b2, b3, ak0, b4, b5, b6⟩ := id h.2.2.2.1
  have hML : ML s J (aT A).2.2.2.2 := h.2.2.2.2.2.2.2.2.2.1.2.2.2.2
  have h517 : J 517 s = ((aF A).1 : Int) := b6.1
  have hF3 := hf.1.1
  unfold w_X12_ackComes
  rw [hc.1, zrem_n ⟨by omega, by omega⟩ (by decide)]
  unfold ackE at hQ
  by_cases c3 : c.length % 3 = 0
  · rw [if_pos (by omega)]
    rw [if_neg (fun q => q c3)] at hQ
    rcases b10 with z | z
    · -- nothing to do
      rw [if_neg (by omega)] at hQ
      have gu : MS s J L (uf (ackF ep c A) A) := MS_uf0 h z ⟨rfl, rfl, rfl, rfl⟩
      have hid : J 522 s = 1 ∨ (J 522 s = 0 ∧ (aF A).1 = 0 ∧ J 528 s = 0) := by
        rcases b1 with q | q
        · right
          have hF0 : (aF A).1 = 0 := by rcases b3 z h4 with u | u <;> omega
          refine ⟨q, hF0, ?_⟩
          have : (aT A).2.2.2.2 = [] := by
            cases hlg : (aT A).2.2.2.2 with
            | nil => rfl
            | cons x r =>
              exfalso
              have := (hf.2.2.1 x (by rw [hlg]; exact List.mem_cons_self)).2.2.1
              omega
          have h1 := hML.1
          rw [this] at h1
          exact h1
        · exact Or.inl q
      refine zl_z.by (fun m x J' L' => (m : Int) = (c.length : Int) - x ∧ 0 ≤ x ∧ x ≤ (c.length : Int) ∧ x % 3 = 0 ∧ J' = J ∧ L' = L) ?_ c.length 0 J L ⟨by omega, by omega, by omega, by omega, rfl, rfl⟩
      rintro m x J1 L1 KK ⟨hm, hx, hx2, hx3, rfl, rfl⟩ hKK
      rw [hc.1]
      refine ⟨⟨by omega, by omega⟩, ⟨by omega, by omega⟩, ?_⟩
      by_cases d : x < (c.length : Int)
      · rw [if_pos d]
        have o0 := oct1 hc.2.2.2 x.toNat
        have v0 : J1 550 x = c.getD x.toNat 0 := by have := hc.get (i := x.toNat) (by omega); rw [show ((x.toNat : Nat) : Int) = x by omega] at this; exact this
        refine ⟨⟨by omega, by omega⟩, fun x29 e29 => ⟨⟨by omega, by omega⟩, ⟨by omega, by omega⟩, fun x32 e32 => ?_⟩⟩
        rw [v0] at e29
        refine zl_z.by (fun m2 y J' L' => y = 0 ∧ J' = J1 ∧ L' = L1) ?_ 0 0 J1 L1 ⟨rfl, rfl, rfl⟩
        rintro m2 y J2 L2 K2 ⟨rfl, rfl, rfl⟩ hK2
        refine ⟨hs2, fun K40 hK40 => ?_⟩
        have out : K40 J2 L2 := hK40 J2 L2 (hKK (m - 3) (x + 3) J2 L2 (by omega) ⟨by omega, by omega, by omega, by omega, rfl, rfl⟩)
        rw [hML.1]
        refine ⟨by decide, ⟨by omega, by omega⟩, ?_⟩
        split
        · refine ⟨⟨by omega, by omega⟩, ⟨by omega, by omega⟩, ?_⟩
          split
          · exact out
          · rcases hid with q | q
            · rw [q]
              refine ⟨hs2, by decide, ?_⟩
              rw [if_neg (by decide)]
              exact out
            · exfalso
              rename_i u _
              have e1 := hML.1
              rw [q.2.2] at e1
              omega
        · exact out
      · rw [if_neg d]
        refine ⟨hs2, hs2, fun K14 hK14 K20 hK20 => ?_⟩
        rw [h517]
        refine ⟨⟨by omega, by omega⟩, ?_⟩
        rcases hid with q | q
        · have fin : ∀ x11, (x11 = 0 ∨ x11 = 1) → K14 x11 J1 L1 := fun x11 hx11 => hK14 x11 J1 L1 (by
            rw [q]
            have e1 : zor 1 x11 = 1 := by rcases hx11 with u | u <;> (rw [u]; decide)
            rw [e1]
            refine ⟨hs2, by decide, fun J17 e17 => ?_⟩
            have g := MS_over hs gu
            rw [← e17, uz10_same (show aZ (uf (ackF ep c A) A) 10 = 0 from z)] at g
            exact hQ J17 g.1 g.2)
          by_cases p : (0 : Int) < ((aF A).1 : Int)
          · rw [if_pos p]
            refine s_left0 hs (by rw [h517]; exact ⟨by omega, by omega⟩) q ⟨by decide, ?_⟩
            rw [if_pos rfl]
            exact fin 1 (Or.inr rfl)
          · rw [if_neg p]
            exact hK20 J1 L1 (fin 0 (Or.inl rfl))
        · rw [if_neg (by omega)]
          refine hK20 J1 L1 (hK14 0 J1 L1 ?_)
          rw [q.1, zor_b.1]
          refine ⟨hs2, by decide, fun J17 e17 => ?_⟩
          have : J17 = J1 := by
            rw [e17]
            funext a i
            by_cases u : a = 522 ∧ i = s
            · rw [u.1, u.2, zs_s, q.1]
            · exact zs_n J1 (by omega)
          rw [this]
          exact hQ J1 gu MO.rf
    · -- the FLIGHT runs
      have ov := (b2 z).1
      have fpos := (b2 z).2
      have hak : ak0 = (aF A).2.2.2.2 := funext (b5 z)
      subst hak
      have h204 := hf.1.2.2
      have a01 := ackAll_01 (B := (aF A).2.2.2.1) (lg := (aT A).2.2.2.2) (ep := ep) c.length c (aF A).2.2.2.2 (Nat.le_refl _) hf.2.1
      -- the state along the way
      have st : ∀ J' : zM, Prop := fun _ => True
      refine zl_z.by (fun m x J' L' => (m : Int) = (c.length : Int) - x ∧ 0 ≤ x ∧ x ≤ (c.length : Int) ∧ x % 3 = 0 ∧ L' = L ∧ (∀ a, a ≠ 521 → J' a = J a) ∧ (∀ i, ¬ (600 * s ≤ i ∧ i < 600 * s + 600) → J' 521 i = J 521 i) ∧ ∃ ak, MFl s J' (aF A).1 (aF A).2.1 (aF A).2.2.1 (aF A).2.2.2.1 ak (fun f => plK s ((aF A).2.1 f)) ∧ ackAll (aF A).2.2.2.1 (aT A).2.2.2.2 ep (c.drop x.toNat) ak = (ackF ep c A).2.2.2.2) ?_ c.length 0 J L ⟨by omega, by omega, by omega, by omega, rfl, fun _ _ => rfl, fun _ _ => rfl, _, b6, rfl⟩
      rintro m x J1 L1 KK ⟨hm, hx, hx2, hx3, rfl, r1, u1, ak, g1, t1⟩ hKK
      have hc1 : MCt J1 c := hc.fr (by rw [r1 491 (by decide)]) (r1 550 (by decide))
      rw [hc1.1]
      refine ⟨⟨by omega, by omega⟩, ⟨by omega, by omega⟩, ?_⟩
      by_cases d : x < (c.length : Int)
      · rw [if_pos d]
        have gx : ∀ j : Nat, j < 3 → c[x.toNat + j]? = some (c.getD (x.toNat + j) 0) := fun j hj => by rw [List.getD_eq_getElem?_getD, List.getElem?_eq_getElem (by omega)]; rfl
        have gx0 : c[x.toNat]? = some (c.getD x.toNat 0) := gx 0 (by decide)
        rw [drop_cons gx0, drop_cons (gx 1 (by decide)), drop_cons (gx 2 (by decide))] at t1
        have o0 := oct1 hc.2.2.2 x.toNat
        have o1 := oct1 hc.2.2.2 (x.toNat + 1)
        have o2 := oct1 hc.2.2.2 (x.toNat + 2)
        have v0 : J1 550 x = c.getD x.toNat 0 := by have := hc1.get (i := x.toNat) (by omega); rw [show ((x.toNat : Nat) : Int) = x by omega] at this; exact this
        have v1 : J1 550 (x + 1) = c.getD (x.toNat + 1) 0 := by have := hc1.get (i := x.toNat + 1) (by omega); rw [show ((x.toNat + 1 : Nat) : Int) = x + 1 by omega] at this; exact this
        have v2 : J1 550 (x + 2) = c.getD (x.toNat + 2) 0 := by have := hc1.get (i := x.toNat + 2) (by omega); rw [show ((x.toNat + 2 : Nat) : Int) = x + 2 by omega] at this; exact this
        refine ⟨⟨by omega, by omega⟩, fun x29 e29 => ⟨⟨by omega, by omega⟩, ⟨by omega, by omega⟩, fun x32 e32 => ?_⟩⟩
        rw [v0] at e29
        rw [v1, v2] at e32
        have t1 : ackAll (aF A).2.2.2.1 (aT A).2.2.2.2 ep (c.drop (x.toNat + 2 + 1)) (if x29 ≤ ep then ackOne (aF A).2.2.2.1 x29 x32 (aT A).2.2.2.2 ak else ak) = (ackF ep c A).2.2.2.2 := by rw [e29, e32]; exact t1
        have next : ∀ J2 : zM, (∀ a, a ≠ 521 → J2 a = J a) → (∀ i, ¬ (600 * s ≤ i ∧ i < 600 * s + 600) → J2 521 i = J 521 i) → MFl s J2 (aF A).1 (aF A).2.1 (aF A).2.2.1 (aF A).2.2.2.1 (if x29 ≤ ep then ackOne (aF A).2.2.2.1 x29 x32 (aT A).2.2.2.2 ak else ak) (fun f => plK s ((aF A).2.1 f)) → KK (x + 3) J2 L1 := fun J2 r2 u2 g2 => hKK (m - 3) (x + 3) J2 L1 (by omega) ⟨by omega, by omega, by omega, by omega, rfl, r2, u2, _, g2, by rw [show (x + 3).toNat = x.toNat + 2 + 1 by omega]; exact t1⟩
        refine zl_z.by (fun m2 y J' L' => (m2 : Int) = ((aT A).2.2.2.2.length : Int) - y ∧ 0 ≤ y ∧ y ≤ ((aT A).2.2.2.2.length : Int) ∧ L' = L1 ∧ (∀ a, a ≠ 521 → J' a = J a) ∧ (∀ i, ¬ (600 * s ≤ i ∧ i < 600 * s + 600) → J' 521 i = J 521 i) ∧ ∃ ak', MFl s J' (aF A).1 (aF A).2.1 (aF A).2.2.1 (aF A).2.2.2.1 ak' (fun f => plK s ((aF A).2.1 f)) ∧ (if x29 ≤ ep then ackOne (aF A).2.2.2.1 x29 x32 ((aT A).2.2.2.2.drop y.toNat) ak' else ak') = if x29 ≤ ep then ackOne (aF A).2.2.2.1 x29 x32 (aT A).2.2.2.2 ak else ak) ?_ (aT A).2.2.2.2.length 0 J1 L1 ⟨by omega, by omega, by omega, rfl, r1, u1, ak, g1, rfl⟩
        rintro m2 y J2 L2 K2 ⟨hm2, hy, hy2, rfl, r2, u2, ak', g2, t2⟩ hK2
        refine ⟨hs2, fun K40 hK40 => ?_⟩
        rw [r2 528 (by decide), hML.1, r2 522 (by decide), ov]
        refine ⟨⟨by omega, by omega⟩, ⟨by omega, by omega⟩, ?_⟩
        by_cases dy : y < ((aT A).2.2.2.2.length : Int)
        · rw [if_pos dy]
          refine ⟨⟨by omega, by omega⟩, ⟨by omega, by omega⟩, ?_⟩
          by_cases de : ep < x29
          · rw [if_pos de]
            rw [if_neg (by omega), if_neg (by omega)] at t2
            refine hK40 J2 L2 (next J2 r2 u2 ?_)
            rw [if_neg (by omega), ← t2]
            exact g2
          · rw [if_neg de]
            refine ⟨hs2, by decide, ?_⟩
            rw [if_pos rfl]
            intro x50 e50
            rw [if_pos (by omega), if_pos (by omega)] at t2
            have hlx : (aT A).2.2.2.2[y.toNat]? = some ((aT A).2.2.2.2[y.toNat]'(by omega)) := List.getElem?_eq_getElem (by omega)
            obtain ⟨q, hq⟩ : ∃ q, q = (aT A).2.2.2.2[y.toNat]'(by omega) := ⟨_, rfl⟩
            rw [← hq] at hlx
            have hv := hML.2 _ q hlx
            rw [show 10000 * s + 5 * ((y.toNat : Nat) : Int) = x50 by omega] at hv
            have ho := hf.2.2.1 q (List.mem_of_getElem? hlx)
            rw [drop_cons hlx] at t2
            refine ⟨by omega, fun K54 hK54 => ?_⟩
            have nx : ∀ J3 : zM, (∀ a, a ≠ 521 → J3 a = J a) → (∀ i, ¬ (600 * s ≤ i ∧ i < 600 * s + 600) → J3 521 i = J 521 i) → MFl s J3 (aF A).1 (aF A).2.1 (aF A).2.2.1 (aF A).2.2.2.1 (ackQ (aF A).2.2.2.1 x29 x32 q ak') (fun f => plK s ((aF A).2.1 f)) → K54 J3 L2 := fun J3 r3 u3 g3 => hK54 J3 L2 (hK2 (m2 - 1) (y + 1) J3 L2 (by omega) ⟨by omega, by omega, by omega, rfl, r3, u3, _, g3, by rw [if_pos (by omega), if_pos (by omega), show (y + 1).toNat = y.toNat + 1 by omega]; exact t2⟩)
            rw [r2 529 (by decide), hv.1, hv.2.1]
            refine ⟨by have := ho.1; exact ⟨by omega, by omega⟩, ?_⟩
            by_cases d1 : q.1 = x29
            · rw [if_pos d1]
              refine ⟨by omega, ⟨by omega, by omega⟩, ⟨by omega, by omega⟩, ?_⟩
              by_cases d2 : q.2.1 = x32
              · rw [if_pos d2]
                unfold ackQ at nx
                rw [if_pos ⟨d1, d2⟩] at nx
                obtain ⟨lo, hlo⟩ : ∃ lo : Int, lo = (fs (aF A).2.2.2.1 q.2.2.1 : Int) + q.2.2.2.1 := ⟨_, rfl⟩
                rw [← hlo] at nx
                have hBl : ((aF A).2.2.2.1 q.2.2.1).length ≤ 157 := (g2.2.2.1 q.2.2.1 ho.2.2.1).2.2.1.size.2.2.2.1
                refine zl_z.by (fun m3 w J' L' => (m3 : Int) = q.2.2.2.2 - w ∧ 0 ≤ w ∧ w ≤ q.2.2.2.2 ∧ L' = L2 ∧ (∀ a, a ≠ 521 → J' a = J a) ∧ (∀ i, ¬ (600 * s ≤ i ∧ i < 600 * s + 600) → J' 521 i = J 521 i) ∧ MFl s J' (aF A).1 (aF A).2.1 (aF A).2.2.1 (aF A).2.2.2.1 (setR lo w ak') (fun f => plK s ((aF A).2.1 f))) ?_ q.2.2.2.2.toNat 0 J2 L2 ⟨by omega, by omega, by omega, rfl, r2, u2, ?_⟩
                · rintro m3 w J3 L3 K3 ⟨hm3, hw, hw2, rfl, r3, u3, g3⟩ hK3
                  rw [r3 529 (by decide), hv.2.2.2.2, hv.2.2.1, hv.2.2.2.1]
                  refine ⟨by omega, ⟨by omega, by omega⟩, ⟨by omega, by omega⟩, ?_⟩
                  by_cases dw : w < q.2.2.2.2
                  · rw [if_pos dw]
                    refine ⟨by omega, by omega, ⟨by omega, by omega⟩, fun J72 e72 => hK3 (m3 - 1) (w + 1) J72 L3 (by omega) ⟨by omega, by omega, by omega, rfl, fun a ha => by rw [e72, zs_r _ ha]; exact r3 a ha, fun i hi => by rw [e72, zs_n _ (Or.inr (by omega))]; exact u3 i hi, ?_⟩⟩
                    obtain ⟨x1, x2, x3, x4⟩ := g3
                    have rr : ∀ a, a ≠ 521 → J72 a = J3 a := fun a ha => by rw [e72]; exact zs_r _ ha
                    refine ⟨by rw [rr 517 (by decide)]; exact x1, x2, fun f hfm => ?_, fun f hfm k k0 k1 => ?_⟩
                    · obtain ⟨y1, y2, y3, y4, y5, y6⟩ := x3 f hfm
                      exact ⟨by rw [rr 518 (by decide)]; exact y1, y2, y3.fr2 (fun k _ _ => by rw [rr 492 (by decide)]), by rw [rr 519 (by decide)]; exact y4, by rw [rr 520 (by decide)]; exact y5, y6⟩
                    · have hBf : ((aF A).2.2.2.1 f).length ≤ 157 := (x3 f hfm).2.2.1.size.2.2.2.1
                      rw [e72]
                      unfold setR
                      by_cases u : f = q.2.2.1 ∧ k = q.2.2.2.1 + w
                      · rw [u.1, u.2, show 600 * s + 200 * ((q.2.2.1 : Nat) : Int) + (q.2.2.2.1 + w) = 600 * s + 200 * ((q.2.2.1 : Nat) : Int) + q.2.2.2.1 + w by omega, zs_s, if_pos (by omega)]
                      · have ne : 600 * s + 200 * (f : Int) + k ≠ 600 * s + 200 * ((q.2.2.1 : Nat) : Int) + q.2.2.2.1 + w := by omega
                        rw [zs_n _ (Or.inr ne), x4 f hfm k k0 k1]
                        unfold setR
                        by_cases v : lo ≤ (fs (aF A).2.2.2.1 f : Int) + k ∧ (fs (aF A).2.2.2.1 f : Int) + k < lo + w
                        · rw [if_pos v, if_pos (by omega)]
                        · rw [if_neg v]
                          -- the one octet more is not this one
                          have nn : (fs (aF A).2.2.2.1 f : Int) + k ≠ lo + w := by
                            intro ee
                            rcases Nat.lt_trichotomy f q.2.2.1 with lt | eq | gt
                            · have m1 := fs_mono (B := (aF A).2.2.2.1) (f := f + 1) (g := q.2.2.1) (by omega)
                              have m2' : fs (aF A).2.2.2.1 (f + 1) = fs (aF A).2.2.2.1 f + ((aF A).2.2.2.1 f).length := rfl
                              omega
                            · subst eq
                              exact u ⟨rfl, by omega⟩
                            · have m1 := fs_mono (B := (aF A).2.2.2.1) (f := q.2.2.1 + 1) (g := f) (by omega)
                              have m2' : fs (aF A).2.2.2.1 (q.2.2.1 + 1) = fs (aF A).2.2.2.1 q.2.2.1 + ((aF A).2.2.2.1 q.2.2.1).length := rfl
                              omega
                          rw [if_neg (by omega)]
                  · rw [if_neg dw]
                    have : w = q.2.2.2.2 := by omega
                    rw [this] at g3
                    exact nx J3 r3 u3 g3
                · have : setR lo 0 ak' = ak' := funext fun i => if_neg (by omega)
                  rw [this]
                  exact g2
              · rw [if_neg d2]
                refine nx J2 r2 u2 ?_
                unfold ackQ
                rw [if_neg (fun u => d2 u.2)]
                exact g2
            · rw [if_neg d1]
              refine nx J2 r2 u2 ?_
              unfold ackQ
              rw [if_neg (fun u => d1 u.1)]
              exact g2
        · rw [if_neg dy]
          have hye : y = ((aT A).2.2.2.2.length : Int) := by omega
          subst hye
          rw [Int.toNat_natCast, List.drop_length] at t2
          refine hK40 J2 L2 (next J2 r2 u2 ?_)
          rw [← t2]
          split
          · exact g2
          · exact g2
      · rw [if_neg d]
        have : x = (c.length : Int) := by omega
        subst this
        rw [Int.toNat_natCast, List.drop_length] at t1
        have t1 : ak = (ackF ep c A).2.2.2.2 := t1
        rw [t1] at g1
        have gA : MS s J1 L1 (uf (ackF ep c A) A) ∧ MO s J L1 J1 L1 := MS_acked hs h z a01 g1 r1 u1
        refine ⟨hs2, hs2, fun K14 hK14 K20 hK20 => ?_⟩
        rw [r1 517 (by decide), h517]
        refine ⟨⟨by omega, by omega⟩, ?_⟩
        rw [if_pos (by omega)]
        have ov1 : J1 522 s = 0 := by rw [r1 522 (by decide)]; exact ov
        have mn := miss_nn (n := fs (aF A).2.2.2.1 (aF A).1) a01
        have ml := miss_le (n := fs (aF A).2.2.2.1 (aF A).1) a01
        refine s_left hs g1 h204 ov1 a01 ⟨?_, ?_⟩
        · show R32 (miss (ackAll (aF A).2.2.2.1 (aT A).2.2.2.2 ep c (aF A).2.2.2.2) (fs (aF A).2.2.2.1 (aF A).1))
          exact ⟨by omega, by omega⟩
        · by_cases w : miss (ackF ep c A).2.2.2.2 (fs (aF A).2.2.2.1 (aF A).1) = 0
          · rw [if_pos w]
            rw [if_pos ⟨z, w⟩] at hQ
            refine hK14 1 J1 L1 ?_
            rw [ov1, zor_b.2.1]
            refine ⟨hs2, by decide, fun J17 e17 => ?_⟩
            have g := MS_over hs gA.1
            rw [← e17] at g
            exact hQ J17 g.1 (gA.2.tr g.2)
          · rw [if_neg w]
            rw [if_neg (fun q => w q.2)] at hQ
            refine hK20 J1 L1 (hK14 0 J1 L1 ?_)
            rw [ov1, zor_b.1]
            refine ⟨hs2, by decide, fun J17 e17 => ?_⟩
            have : J17 = J1 := by
              rw [e17]
              funext a i
              by_cases u : a = 522 ∧ i = s
              · rw [u.1, u.2, zs_s, ov1]
              · exact zs_n J1 (by omega)
            rw [this]
            exact hQ J1 gA.1 gA.2
  · rw [if_neg (by omega)]
    rw [if_pos c3] at hQ
    exact ms_mal hs h hQ
