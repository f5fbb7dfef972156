/-! what is drafted; the clock -/
theorem MS_slot4 {s k v : Int} {A : SA} {J : zM} {L : yM} (h : MS s J L A) (hs : s01 s) (hk : k = 0 ∨ k = 72 ∨ k = 9 ∨ k = 3) : MS s (zs J 491 k v) L A := by
  obtain ⟨a0, a1, a2, a3, a4, a5, a6, a7, a8, a9, a10, a11, a12⟩ := h
  have c : ∀ (C : Nat → Prop), ¬ C 491 → oEq s C J (zs J 491 k v) := fun C hC => oEq.zs (Or.inl hC)
  have r : ∀ a, a ≠ 491 → zs J 491 k v a = J a := fun a ha => zs_r J ha
  have g : ∀ i, i ≠ 0 → i ≠ 72 → i ≠ 9 → i ≠ 3 → zs J 491 k v 491 i = J 491 i := fun i p q u w => zs_n J (Or.inr (by omega))
  refine ⟨a0.fr (c _ (by omega)) (fun _ _ _ => rfl), ?_, ?_, a3.fr hs (c _ (by omega)), ⟨a4.1.fr hs (c _ (by omega)), a4.2.fr (c _ (by omega))⟩, a5.fr (c _ (by omega)), a6.fr (c _ (by omega)), a7.fr hs (c _ (by omega)), a8.fr (c _ (by omega)), MSn.zs a9 (by omega) (by omega), a10.fr (c _ (by omega)) (fun _ _ _ => rfl), ?_, mKa a12 (c _ (by omega))⟩
  · unfold M1
    rw [r 536 (by decide), r 523 (by decide), r 506 (by decide), r 507 (by decide), g 4 (by decide) (by decide) (by decide) (by decide), g 58 (by decide) (by decide) (by decide) (by decide)]
    exact a1
  · unfold M2
    rw [sg_row (r 492 (by decide)), sg_row (r 492 (by decide)), sg_row (r 492 (by decide)), sg_row (r 492 (by decide)), sg_row (r 492 (by decide)), r 492 (by decide), g 7 (by decide) (by decide) (by decide) (by decide), sg_row (r 493 (by decide))]
    exact a2
  · unfold M15
    rw [g 1 (by decide) (by decide) (by decide) (by decide), g 2 (by decide) (by decide) (by decide) (by decide)]
    exact a11
/-- the model's sides, when only rows changed that are no side's -/
theorem MS_row {bd s : Int} {A : SA} {J J' : zM} {L : yM} (h : MS s J L A) (hs : s01 s) (ai : AI bd s A) (b : Nat) (hb : b = 494 ∨ b = 551) (f : zF (fun c => c = b) J J') : MS s J' L A := by
  rcases hb with rfl | rfl
  · have e : ∀ a, a ≠ 494 → J' a = J a := fun a ha => f a ha
    obtain ⟨a0, a1, a2, a3, a4, a5, a6, a7, a8, a9, a10, a11, a12⟩ := h
    have c : ∀ (C : Nat → Prop), ¬ C 494 → oEq s C J J' := fun C hC a i _ hc => by rw [e a (fun q => hC (by rw [← q]; exact hc))]
    refine ⟨a0.fr (c _ (by omega)) (fun _ _ _ => rfl), a1.fr (c _ (by omega)), a2.fr (c _ (by omega)), a3.fr hs (c _ (by omega)), ⟨a4.1.fr hs (c _ (by omega)), a4.2.fr (c _ (by omega))⟩, a5.fr (c _ (by omega)), a6.fr (c _ (by omega)), a7.fr hs (c _ (by omega)), a8.fr (c _ (by omega)), MSn.fr a9 (fun b hb => e b (by omega)) (by rw [e 491 (by decide)]), a10.fr (c _ (by omega)) (fun _ _ _ => rfl), a11.fr (c _ (by omega)), mKa a12 (c _ (by omega))⟩
  · have e : ∀ a, a ≠ 551 → J' a = J a := fun a ha => f a ha
    exact h.fr hs ai.dg ai.ll (fun a i ho => by rw [e a (by have := own_cell ho; omega)]) (fun _ _ _ => rfl) (mN_fr (e 509 (by decide)) (e 510 (by decide)) (e 511 (by decide)) _) (mI_fr (e 509 (by decide)) (e 510 (by decide)) h.2.2.2.2.2.2.2.2.2.1.1.2) (by rw [e 491 (by decide)]; exact m30 ai.dg h)
/-- values written one after the other -/
def WP (b : Nat) (off : Int) (f : Int → Int) (x : Int) (J J1 : zM) : Prop := (∀ k, 0 ≤ k → k < x → J1 b (off + k) = f k) ∧ (∀ k, ¬ (off ≤ k ∧ k < off + x) → J1 b k = J b k) ∧ zF (fun c => c = b) J J1
theorem wl_by {b : Nat} {off n : Int} {f : Int → Int} {J : zM} {L : yM} {F : (Int → zM → yM → Prop) → Int → zM → yM → Prop} (hn : 0 ≤ n) (step : ∀ x J1 (K : Int → zM → yM → Prop), 0 ≤ x → x < n → WP b off f x J J1 → (∀ J2, J2 = zs J1 b (off + x) (f x) → K (x + 1) J2 L) → F K x J1 L) (fin : ∀ J1 (K : Int → zM → yM → Prop), WP b off f n J J1 → F K n J1 L) : zl_z F 0 J L := by
  refine zl_z.by (fun m x J' L' => (m : Int) = n - x ∧ 0 ≤ x ∧ L' = L ∧ WP b off f x J J') ?_ n.toNat 0 J L ⟨by omega, by omega, rfl, fun k p q => absurd p (by omega), fun _ _ => rfl, fun _ _ => rfl⟩
  rintro m x J1 L1 K ⟨hm, hx, rfl, c⟩ hK
  by_cases q : x < n
  · refine step x J1 K hx q c (fun J2 e2 => hK (m - 1) (x + 1) J2 L1 (by omega) ⟨by omega, by omega, rfl, fun k p w => ?_, fun k w => ?_, fun d hd => ?_⟩)
    · rw [e2]
      by_cases u : k = x
      · rw [u, zs_s]
      · rw [zs_n _ (Or.inr (by omega))]; exact c.1 k p (by omega)
    · rw [e2, zs_n _ (Or.inr (by omega))]; exact c.2.1 k (by omega)
    · rw [e2, zs_r _ hd]; exact c.2.2 d hd
  · have : x = n := by omega
    subst this
    exact fin J1 K c
theorem WP.sg {b : Nat} {f : Int → Int} {n : Int} {J J1 : zM} {D : List Int} {c : Nat} (h : WP b (D.length : Int) f n J J1) (hD : sg J b 0 D.length = D) (hc : (c : Int) = n) : sg J1 b 0 (D.length + c) = D ++ (List.range c).map (fun (k : Nat) => f (k : Int)) := by
  rw [sg_app]
  congr 1
  · rw [← hD, sg_len]
    exact sg_fr (fun k p q => h.2.1 k (by omega))
  · unfold Jvm.Pilot.CLossyPairLaw_law_r7304_a3b019.sg
    refine List.map_congr_left (fun k hk => ?_)
    have := List.mem_range.mp hk
    rw [Int.zero_add]
    exact h.1 k (by omega) (by omega)
/-! draft -/
def dOc (v : Int64) (k : Int) : Int := v.toInt / 2 ^ (8 * k).toNat % 256
def dLs (n : Int) (v : Int64) : List Int := (List.range n.toNat).map (fun (k : Nat) => dOc v (k : Int))
theorem dLs_len (n : Int) (v : Int64) : (dLs n v).length = n.toNat := by simp [dLs]
theorem dLs_oct (n : Int) (v : Int64) : oct (dLs n v) := by
  intro x hx
  unfold dLs at hx
  obtain ⟨j, hj, rfl⟩ := List.mem_map.mp hx
  unfold dOc
  omega
theorem PX.dr {N : Int} {D D' : List Int} {G : GA} {J J' : zM} {L : yM} (h : PX J L G D N) (f : ∀ a, a ≠ 0 → a ≠ 5 → J' a = J a) (h4 : J' 0 4 = (D'.length : Int)) (h5 : sg J' 5 0 D'.length = D') (h6 : J' 0 5 = J 0 5) : PX J' L G D' N ∧ XG J L J' L := by
  refine ⟨⟨fun t ht => ?_, ⟨h4, h5⟩, by rw [h6]; exact h.2.2⟩, fun a ha => ⟨f a (by omega) (by omega), rfl⟩⟩
  have b := sd_b ht
  refine XS.ot (sdE ht) (h.1 t ht) (fun a ha => ?_) (fun _ _ => rfl)
  rcases ha with ha | ha
  · exact f a (by omega) (by omega)
  · have w := wy_out (sdE ht) ha
    exact f a (by omega) (by omega)
theorem call_draft {bd n : Int} {v : Int64} {J : zM} {L : yM} (h : PB bd J L) (rn : R32 n) : w_X11_draft n v J L (QA bd (w_X12_draft n v)) (XA bd [(IAE, 1)] (w_X12_draft n v)) := by
  obtain ⟨G, D, N, hx, hm, hI⟩ := h
  have dl := hI.2.1
  have x4 := hx.2.1.1
  have bad : ¬ (1 ≤ n ∧ n ≤ 8 ∧ (D.length : Int) + n ≤ 500) → XA bd [(IAE, 1)] (w_X12_draft n v) IAE J L := fun q => ⟨1, List.mem_singleton.mpr rfl, by
    unfold w_X12_draft
    intro K4 hK4 K20 hK20
    have go : K20 J L := hK20 J L (m_thrK hK4 hm (by decide) (fun J8 P M z => ⟨z, trivial, PB.q hx hI P M⟩))
    refine ⟨rn, ?_⟩
    by_cases c1 : n < 1
    · rw [if_pos c1]; exact go
    · rw [if_neg c1]
      by_cases c2 : 8 < n
      · rw [if_pos c2]; exact go
      · rw [if_neg c2, hm.2.1.1]
        refine ⟨⟨by omega, by omega⟩, ?_⟩
        rw [if_pos (by omega)]
        exact go⟩
  unfold w_X11_draft
  refine ⟨rn, ?_⟩
  by_cases c1 : n < 1
  · rw [if_pos c1]; exact bad (by omega)
  rw [if_neg c1]
  by_cases c2 : 8 < n
  · rw [if_pos c2]; exact bad (by omega)
  rw [if_neg c2, x4]
  refine ⟨⟨by omega, by omega⟩, ?_⟩
  by_cases c3 : 500 < (D.length : Int) + n
  · rw [if_pos c3]; exact bad (by omega)
  rw [if_neg c3]
  clear bad
  have len : (D ++ dLs n v).length = D.length + n.toNat := by rw [List.length_append, dLs_len]
  have uo : ∀ x : Int, 0 ≤ x → x < n → zand (zl2i (yush v (8 * x))) 255 = dOc v x := fun x p q => uoct (by omega)
  have lo : ∀ x : Int, 0 ≤ x → x < n → zl2i ((yshr v (8 * x)) &&& 255) = dOc v x := fun x p q => loct (by omega)
  refine wl_by (b := 5) (off := (D.length : Int)) (n := n) (f := dOc v) (by omega) (fun x J1 K x0 x1 wp hK => ?_) (fun J1 K wp => ?_)
  · rw [show J1 0 4 = (D.length : Int) by rw [wp.2.2 0 (by decide)]; exact x4, uo x x0 x1]
    refine ⟨⟨by omega, by omega⟩, rn, ?_⟩
    rw [if_pos x1]
    exact ⟨⟨by omega, by omega⟩, hK⟩
  rw [show J1 0 4 = (D.length : Int) by rw [wp.2.2 0 (by decide)]; exact x4]
  refine ⟨rn, rn, ?_⟩
  rw [if_neg (by omega)]
  intro J2 e2
  have s5 := wp.sg (c := n.toNat) hx.2.1.2 (by omega)
  have z24 : J2 0 4 = (D.length : Int) + n := by rw [e2]; exact zs_s _ _ _ _
  obtain ⟨X2, O2⟩ := hx.dr (D' := D ++ dLs n v) (J' := J2) (fun a p q => by rw [e2, zs_r _ p]; exact wp.2.2 a q) (by rw [z24, len]; omega) (by rw [len, sg_row (show J2 5 = J1 5 by rw [e2]; exact zs_r _ (by decide))]; exact s5) (by rw [e2, zs_n _ (Or.inr (by decide)), wp.2.2 0 (by decide)])
  have m2 := hm.xg hI O2
  rw [z24]
  unfold QA
  intro L eL
  have X2 := X2.o eL
  have m2 := m2.o hI eL
  unfold w_X12_draft
  intro K4 hK4 K20 hK20
  refine ⟨rn, ?_⟩
  rw [if_neg c1, if_neg c2, m2.2.1.1]
  refine ⟨⟨by omega, by omega⟩, ?_⟩
  rw [if_neg c3]
  refine m_thr0 hK4 m2 (fun J8 P M z _ _ => ?_)
  refine wl_by (b := 494) (off := (D.length : Int)) (n := n) (f := dOc v) (by omega) (fun x J9 K x0 x1 wq hK => ?_) (fun J9 K wq => ?_)
  · rw [show J9 491 9 = (D.length : Int) by rw [wq.2.2 491 (by decide)]; exact P.2.1.1, lo x x0 x1]
    refine ⟨⟨by omega, by omega⟩, rn, ?_⟩
    rw [if_pos x1]
    exact ⟨⟨by omega, by omega⟩, hK⟩
  rw [show J9 491 9 = (D.length : Int) by rw [wq.2.2 491 (by decide)]; exact P.2.1.1]
  refine ⟨rn, rn, ?_⟩
  rw [if_neg (by omega)]
  intro J10 e10
  have s9 := wq.sg (c := n.toNat) P.2.1.2 (by omega)
  have z9 : J10 491 9 = (D.length : Int) + n := by rw [e10]; exact zs_s _ _ _ _
  rw [z9]
  refine ⟨by rw [e10, zs_n _ (Or.inr (by decide)), wq.2.2 491 (by decide)]; exact z, ⟨rfl, (M 552 (Or.inr rfl)).2⟩, G, D ++ dLs n v, N, (X2.mg M).mg (fun a ha => ⟨by rw [e10, zs_r _ (by omega)]; exact wq.2.2 a (by omega), rfl⟩), ⟨fun t ht => ?_, ⟨by rw [z9, len]; omega, by rw [len, sg_row (show J10 494 = J9 494 by rw [e10]; exact zs_r _ (by decide))]; exact s9⟩, by rw [e10, zs_n _ (Or.inr (by decide)), wq.2.2 491 (by decide)]; exact P.2.2⟩, hI.1, by rw [len]; omega, oct_app.mpr ⟨hI.2.2.1, dLs_oct n v⟩, hI.2.2.2⟩
  rw [e10]
  exact MS_slot4 (MS_row (P.1 t ht) ht (hI.ai ht) 494 (Or.inl rfl) wq.2.2) ht (Or.inr (Or.inr (Or.inl rfl)))
