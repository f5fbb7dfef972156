/-! calls that change the nets -/
theorem mN_add {s : Int} {J J' : zM} {d : List Int} (hs : s01 s) (hI : mI J) (hn : J 509 s < 60) (e509 : J' 509 s = J 509 s + 1) (o509 : ∀ t, t ≠ s → J' 509 t = J 509 t) (l510 : J' 510 (60 * s + J 509 s) = (d.length : Int)) (o510 : ∀ k, k ≠ 60 * s + J 509 s → J' 510 k = J 510 k) (l511 : sg J' 511 (500 * (60 * s + J 509 s)) d.length = d) (o511 : ∀ k, ¬ (500 * (60 * s + J 509 s) ≤ k ∧ k < 500 * (60 * s + J 509 s) + 500) → J' 511 k = J 511 k) (dl : d.length ≤ 500) : mN s J' = mN s J ++ [d] ∧ (∀ t, s01 t → t ≠ s → mN t J' = mN t J) ∧ mI J' := by
  have hI0 := hI s hs
  refine ⟨?_, ?_, ?_⟩
  · unfold mN
    rw [e509, mr_succ hI0.1.1]
    congr 1
    · refine mr_cong (fun j j0 j1 => ?_)
      have hl := hI0.2 j j0 j1
      unfold mD
      rw [o510 _ (by omega)]
      exact sg_fr (fun z z0 z1 => o511 z (by omega))
    · congr 1
      unfold mD
      rw [l510]
      exact l511
  · intro u hu hut
    have hlu := hI u hu
    unfold mN
    rw [o509 u hut]
    refine mr_cong (fun j j0 j1 => ?_)
    have hl := hlu.2 j j0 j1
    unfold mD
    rw [o510 _ (by omega)]
    exact sg_fr (fun z z0 z1 => o511 z (by omega))
  · intro u hu
    have hlu := hI u hu
    by_cases hut : u = s
    · subst hut
      rw [e509]
      refine ⟨by omega, fun j j0 j1 => ?_⟩
      by_cases q : j = J 509 u
      · subst q
        rw [l510]; omega
      · rw [o510 _ (by omega)]
        exact hI0.2 j j0 (by omega)
    · rw [o509 u hut]
      refine ⟨hlu.1, fun j j0 j1 => ?_⟩
      rw [o510 _ (by omega)]
      exact hlu.2 j j0 j1
theorem netOk_add {N : List (List Int)} {d : List Int} (h : netOk N) (hl : N.length < 60) (hd : oct d ∧ 0 < d.length ∧ d.length ≤ 500) : netOk (N ++ [d]) := by
  refine ⟨by rw [List.length_append]; simp; omega, fun e he => ?_⟩
  rcases List.mem_append.mp he with q | q
  · exact h.2 e q
  · rw [List.mem_singleton.mp q]; exact hd
theorem call_twice {bd s i : Int} {J : zM} {L : yM} (h : PB bd J L) (rs : R32 s) (ri : R32 i) : w_X11_twice s i J L (QA bd (w_X12_twice s i)) (XA bd [(IOB, 1)] (w_X12_twice s i)) := by
  obtain ⟨G, D, N, hx, hm, hI⟩ := h
  unfold w_X11_twice
  refine x_place hx hI rs ri (fun p => ⟨s01b p.1, ?_⟩) (fun ns => ⟨1, List.mem_singleton.mpr rfl, ?_⟩)
  · obtain ⟨hs, h0, h1⟩ := id p
    obtain ⟨n1, n2, n3⟩ := px_net hx hs
    have nk := hI.net hs
    have b := nt_b hs
    have dk := hI.dg p
    have hi : i < J (nt s) 5 := by omega
    have e : rD (nt s) J i = dgm s i G := by unfold dgm; rw [← n1]; exact (mr_getD h0 hi).symm
    by_cases c : (net s G).length < 60
    · refine s_addCopy (nt_hr (s01b hs)) n2 h0 hi (by rw [b.2.2.1, n3]; omega) (fun J1 g1 g2 g4 => if11.mpr ⟨s01b hs, ?_⟩)
      rw [n1, e] at g1
      obtain ⟨X1, O1⟩ := hx.set hs g1 g2 g4
      have m1 := hm.xg hI O1
      have e1 := (px_net X1 hs).2.2
      rw [net_set] at e1
      rw [e1]
      unfold QA
      intro L eL
      have X1 := X1.o eL
      have m1 := m1.o hI eL
      unfold w_X12_twice
      refine m_place m1 hI rs ri (fun _ K7 hK7 => if01.mpr (m_thr0 hK7 m1 (fun J8 P M z _ _ => ?_))) (fun n => absurd p n)
      obtain ⟨k1, k2, k3⟩ := pm_net P hs
      have ml := m_len P p
      rw [k3]
      refine ⟨s01b hs, ⟨by omega, by omega⟩, ?_⟩
      rw [if_neg (by omega)]
      refine ⟨s01b hs, s_copyPlace ⟨ml.2.2.1, ml.2.2.2.1⟩ ⟨by omega, by omega⟩ (by omega) (by rw [ml.1]; omega) ?_⟩
      rw [ml.1]
      obtain ⟨J9, e9⟩ : ∃ J9, J9 = zcp (zs J8 510 (60 * s + ((net s G).length : Int)) ((dgm s i G).length : Int)) 511 (500 * (60 * s + i)) 511 (500 * (60 * s + ((net s G).length : Int))) ((dgm s i G).length : Int) := ⟨_, rfl⟩
      rw [← e9]
      refine ⟨s01b hs, s01b hs, fun J10 e10 => ⟨s01b hs, ?_⟩⟩
      have r9 : ∀ a, a ≠ 510 → a ≠ 511 → J9 a = J8 a := fun a p q => by rw [e9, zcp_r _ q, zs_r _ p]
      have r10 : ∀ a, a ≠ 509 → J10 a = J9 a := fun a ha => by rw [e10]; exact zs_r _ ha
      have q := mN_add (J := J8) (J' := J10) (d := dgm s i G) hs k2 (by rw [k3]; omega) (by rw [e10, zs_s, r9 509 (by decide) (by decide)]) (fun t ht => by rw [e10, zs_n _ (Or.inr ht), r9 509 (by decide) (by decide)]) (by rw [k3, r10 510 (by decide), e9, zcp_r _ (by decide), zs_s]) (fun k hk => by rw [r10 510 (by decide), e9, zcp_r _ (by decide), zs_n _ (Or.inr (by rw [k3] at hk; exact hk))]) (by
        rw [k3, sg_row (r10 511 (by decide)), e9, sg_zcp (by omega), sg_row (zs_r _ (by decide))]
        exact ml.2.1) (fun k hk => by rw [k3] at hk; rw [r10 511 (by decide), e9, zcp_out _ (by omega), zs_r _ (by decide)]) dk.2.2
      obtain ⟨P9, M9, r9'⟩ := P.set (J' := J10) hI hs (M := net s G ++ [dgm s i G]) (by rw [← k1]; exact q.1) (q.2.1 (1 - s) (s01o hs) (s01n hs)) q.2.2 (fun a ha => by rw [r10 a (by omega), r9 a (by omega) (by omega)])
      have e9 := (pm_net P9 hs).2.2
      rw [net_set] at e9
      rw [e9]
      exact ⟨by rw [r9']; exact z, ⟨rfl, (M9 552 (Or.inr rfl)).2.trans (M 552 (Or.inr rfl)).2⟩, _, D, N, (X1.mg M).mg M9, P9, PI_set hI hs (netOk_add nk c dk)⟩
    · have c60 : (net s G).length = 60 := by have := nk.1; omega
      refine s_addCopyFull n2 h0 hi (by rw [b.2.2.1, n3]; omega) (if01.mpr ?_)
      unfold QA
      intro L eL
      have hx := hx.o eL
      have hm := hm.o hI eL
      unfold w_X12_twice
      refine m_place hm hI rs ri (fun _ K7 hK7 => if01.mpr (m_thr0 hK7 hm (fun J8 P M z _ _ => ?_))) (fun n => absurd p n)
      rw [(pm_net P hs).2.2, c60]
      refine ⟨s01b hs, by decide, ?_⟩
      rw [if_pos (by decide)]
      exact ⟨z, ⟨rfl, (M 552 (Or.inr rfl)).2⟩, PB.q hx hI P M⟩
  · unfold w_X12_twice
    exact m_place hm hI rs ri (fun q => absurd q ns) (fun _ K7 hK7 => if11.mpr (m_thrK hK7 hm (by decide) (fun J8 P M z => ⟨z, trivial, PB.q hx hI P M⟩)))
/-! forge -/
theorem sg_zs_set {J : zM} {a : Nat} {i v k : Int} {c : Nat} (h0 : 0 ≤ k) : sg (zs J a (i + k) v) a i c = (sg J a i c).set k.toNat v := by
  apply List.ext_getElem?
  intro j
  by_cases q : j < c
  · by_cases w : j = k.toNat
    · subst w
      rw [List.getElem?_set_self (by rw [sg_len]; exact q), sg, List.getElem?_map, List.getElem?_range q]
      simp only [Option.map_some]
      rw [show i + ((k.toNat : Nat) : Int) = i + k by omega, zs_s]
    · rw [List.getElem?_set_ne (by omega), sg, sg, List.getElem?_map, List.getElem?_map, List.getElem?_range q]
      simp only [Option.map_some]
      rw [zs_n _ (Or.inr (by omega))]
  · rw [List.getElem?_eq_none (by rw [sg_len]; omega), List.getElem?_eq_none (by rw [List.length_set, sg_len]; omega)]
theorem rL_set {r : Nat} {i k v : Int} {J : zM} (hi : iR r J) (h0 : 0 ≤ i) (h1 : i < J r 5) (k0 : 0 ≤ k) : rL r (zs J (r + 2 + (rO r J i).toNat) k v) = (rL r J).set i.toNat ((rD r J i).set k.toNat v) ∧ iR r (zs J (r + 2 + (rO r J i).toNat) k v) ∧ zF (cR r) J (zs J (r + 2 + (rO r J i).toNat) k v) := by
  have oi := hi.2.2.1 i h0 (by have := hi.1; omega)
  obtain ⟨o, ho⟩ : ∃ o, o = rO r J i := ⟨_, rfl⟩
  rw [← ho] at oi ⊢
  obtain ⟨J', e'⟩ : ∃ J', J' = zs J (r + 2 + o.toNat) k v := ⟨_, rfl⟩
  rw [← e']
  have f : ∀ a, a ≠ r + 2 + o.toNat → J' a = J a := fun a ha => by rw [e']; exact zs_r J ha
  have e1 : J' r = J r := f r (by omega)
  have e2 : J' (r + 3 + rq r) = J (r + 3 + rq r) := f _ (by omega)
  have e3 : J' (r + 2 + rq r) = J (r + 2 + rq r) := f _ (by omega)
  refine ⟨?_, ?_, fun a ha => f a (fun q => ha (by unfold cR; omega))⟩
  · unfold rL
    rw [e1, mr_set h0]
    refine mr_cong (fun j j0 j1 => ?_)
    unfold rD rO rN
    rw [e2, e3]
    by_cases q : j = i
    · rw [if_pos q]
      subst q
      have ho' : J (r + 3 + rq r) j = o := ho.symm
      rw [ho', e']
      have w := sg_zs_set (J := J) (a := r + 2 + o.toNat) (i := 0) (v := v) (k := k) (c := (J (r + 2 + rq r) o).toNat) k0
      rw [Int.zero_add] at w
      exact w
    · rw [if_neg q]
      refine sg_row (f _ (fun w => q ?_))
      have oj := hi.2.2.1 j j0 (by have := hi.1; omega)
      refine hi.2.2.2.1 j i j0 (by have := hi.1; omega) h0 (by have := hi.1; omega) ?_
      rw [← ho]
      unfold rO at oj ⊢
      omega
  · unfold iR rO rN
    rw [e1, e2, e3]
    exact hi
theorem mN_set {s i k v : Int} {J : zM} {d : List Int} (hs : s01 s) (hI : mI J) (h0 : 0 ≤ i) (h1 : i < J 509 s) (hd : mD s J i = d) (k0 : 0 ≤ k) (k1 : k < (d.length : Int)) : mN s (zs J 511 (500 * (60 * s + i) + k) v) = (mN s J).set i.toNat (d.set k.toNat v) ∧ (∀ t, s01 t → t ≠ s → mN t (zs J 511 (500 * (60 * s + i) + k) v) = mN t J) ∧ mI (zs J 511 (500 * (60 * s + i) + k) v) := by
  have hI0 := hI s hs
  have li := hI0.2 i h0 h1
  have dl : (d.length : Int) = J 510 (60 * s + i) := by rw [← hd]; unfold mD; rw [sg_len]; omega
  have f : ∀ a, a ≠ 511 → zs J 511 (500 * (60 * s + i) + k) v a = J a := fun a ha => zs_r J ha
  refine ⟨?_, fun t ht hts => ?_, mI_fr (f 509 (by decide)) (f 510 (by decide)) hI⟩
  · unfold mN
    rw [f 509 (by decide), mr_set h0]
    refine mr_cong (fun j j0 j1 => ?_)
    have lj := hI0.2 j j0 j1
    by_cases q : j = i
    · rw [if_pos q]
      subst q
      rw [← hd]
      unfold mD
      rw [f 510 (by decide)]
      exact sg_zs_set k0
    · rw [if_neg q]
      unfold mD
      rw [f 510 (by decide)]
      exact sg_fr (fun z z0 z1 => zs_n J (Or.inr (by omega)))
  · unfold mN
    rw [f 509 (by decide)]
    refine mr_cong (fun j j0 j1 => ?_)
    have lj := (hI t ht).2 j j0 j1
    have lt := (hI t ht).1
    unfold mD
    rw [f 510 (by decide)]
    exact sg_fr (fun z z0 z1 => zs_n J (Or.inr (by omega)))
theorem oct_set {d : List Int} {k : Nat} {v : Int} (h : oct d) (hv : 0 ≤ v ∧ v < 256) : oct (d.set k v) := by
  intro x hx
  rcases List.mem_or_eq_of_mem_set hx with q | q
  · exact h x q
  · rw [q]; exact hv
theorem netOk_set {N : List (List Int)} {i : Nat} {d : List Int} (h : netOk N) (hd : oct d ∧ 0 < d.length ∧ d.length ≤ 500) : netOk (N.set i d) := by
  refine ⟨by rw [List.length_set]; exact h.1, fun x hx => ?_⟩
  rcases List.mem_or_eq_of_mem_set hx with q | q
  · exact h.2 x q
  · rw [q]; exact hd
theorem getD_set {α : Type} {N : List α} {i : Nat} {d x : α} (h : i < N.length) : (N.set i d).getD i x = d := by
  rw [List.getD_eq_getElem?_getD, List.getElem?_set_self h]
  rfl
theorem call_forge {bd s i k m : Int} {J : zM} {L : yM} (h : PB bd J L) (rs : R32 s) (ri : R32 i) (rk : R32 k) : w_X11_forge s i k m J L (QA bd (w_X12_forge s i k m)) (XA bd [(IOB, 1)] (w_X12_forge s i k m)) := by
  obtain ⟨G, D, N, hx, hm, hI⟩ := h
  unfold w_X11_forge
  refine x_oct hx hI rs ri rk (fun p => ⟨s01b p.1.1, ?_⟩) (fun ns => ⟨1, List.mem_singleton.mpr rfl, ?_⟩)
  · obtain ⟨⟨hs, h0, h1⟩, k0, k1⟩ := id p
    obtain ⟨n1, n2, n3⟩ := px_net hx hs
    have nk := hI.net hs
    have dk := hI.dg p.1
    have hi : i < J (nt s) 5 := by omega
    obtain ⟨d, hd⟩ : ∃ d, d = dgm s i G := ⟨_, rfl⟩
    have e : rD (nt s) J i = d := by rw [hd]; unfold dgm; rw [← n1]; exact (mr_getD h0 hi).symm
    have lr := n2.2.2.2.2 i h0 hi
    have dl : (d.length : Int) = rN (nt s) J (rO (nt s) J i) := by rw [← e]; unfold rD; rw [sg_len]; omega
    rw [← hd] at dk k1
    refine s_turnOctet n2 h0 hi k0 (by omega) ?_
    have ov : J (nt s + 2 + (rO (nt s) J i).toNat) k = d.getD k.toNat 0 := by
      rw [← e]
      unfold rD
      rw [sg_get (by omega)]
      congr 1
      omega
    rw [ov]
    obtain ⟨v, hv⟩ : ∃ v, v = zxor (d.getD k.toNat 0) (zand m 255) := ⟨_, rfl⟩
    rw [← hv]
    have vb : 0 ≤ v ∧ v < 256 := by rw [hv, zand255]; exact zxor_oct (oct1 dk.1 _) (by omega)
    obtain ⟨q1, q2, q3⟩ := rL_set (v := v) n2 h0 hi k0
    rw [n1, e] at q1
    obtain ⟨X1, O1⟩ := hx.set hs q1 q2 q3
    obtain ⟨J1, eJ1⟩ : ∃ J1, J1 = zs J (nt s + 2 + (rO (nt s) J i).toNat) k v := ⟨_, rfl⟩
    rw [← eJ1] at X1 O1 ⊢
    have m1 := hm.xg hI O1
    have nl : i.toNat < (net s G).length := by omega
    have dg2 : dgm s i (setN s ((net s G).set i.toNat (d.set k.toNat v)) G) = d.set k.toNat v := by
      unfold dgm
      rw [net_set, getD_set nl]
    have p2 : ocp s i k (setN s ((net s G).set i.toNat (d.set k.toNat v)) G) := ⟨⟨hs, h0, by rw [net_set, List.length_set]; exact h1⟩, k0, by rw [dg2, List.length_set]; exact k1⟩
    refine ⟨s01b hs, x_octetOf X1 p2 ?_⟩
    rw [dg2, getD_set (by omega)]
    unfold QA
    intro L eL
    have X1 := X1.o eL
    have m1 := m1.o hI eL
    unfold w_X12_forge
    refine m_oct m1 hI rs ri rk (fun _ K7 hK7 => if01.mpr (m_thr0 hK7 m1 (fun J8 P M z _ _ => ?_))) (fun n => absurd p n)
    intro x11 e11
    have ml := m_len P p.1
    have mo := m_octetOf P p
    rw [← hd] at ml mo
    subst e11
    rw [mo, ← hv]
    refine ⟨⟨by omega, by omega⟩, ⟨by omega, by omega⟩, fun J9 e9 => ⟨⟨by omega, by omega⟩, ?_⟩⟩
    obtain ⟨k1', k2', k3'⟩ := pm_net P hs
    have em : mD s J8 i = d := by rw [hd]; unfold dgm; rw [← k1']; exact (mr_getD h0 (by rw [k3']; exact h1)).symm
    have w := mN_set (v := v) hs k2' h0 (by rw [k3']; exact h1) em k0 k1
    rw [← e9, k1'] at w
    obtain ⟨P9, M9, r9⟩ := P.set hI hs w.1 (w.2.1 (1 - s) (s01o hs) (s01n hs)) w.2.2 (fun a ha => by rw [e9]; exact zs_r _ (by omega))
    rw [show J9 511 (500 * (60 * s + i) + k) = v by rw [e9]; exact zs_s _ _ _ _]
    exact ⟨by rw [r9]; exact z, ⟨rfl, (M9 552 (Or.inr rfl)).2.trans (M 552 (Or.inr rfl)).2⟩, _, D, N, (X1.mg M).mg M9, P9, PI_set hI hs (netOk_set nk ⟨oct_set dk.1 vb, by rw [List.length_set]; exact dk.2.1, by rw [List.length_set]; exact dk.2.2⟩)⟩
  · unfold w_X12_forge
    exact m_oct hm hI rs ri rk (fun q => absurd q ns) (fun _ K7 hK7 => if11.mpr (m_thrK hK7 hm (by decide) (fun J8 P M z => ⟨z, trivial, PB.q hx hI P M⟩)))
