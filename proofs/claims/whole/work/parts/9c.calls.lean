/-! the public calls: class and model together -/
def PB (bd : Int) (J : zM) (L : yM) : Prop := ∃ G D N, PX J L G D N ∧ PM J L G D N ∧ PI bd G D N
abbrev AN (bd k : Int) (e : Prop) (J : zM) (L : yM) : Prop := J 491 0 = k ∧ e ∧ PB bd J L
abbrev IOB : String := "java/lang/IndexOutOfBoundsException"
abbrev IAE : String := "java/lang/IllegalArgumentException"
abbrev ISE : String := "java/lang/IllegalStateException"
/-- cell 552 (the law's own) may be another -/
theorem PX.o {N : Int} {D : List Int} {G : GA} {J : zM} {L L0 : yM} (h : PX J L G D N) (e : ∀ a, a ≠ 552 → L0 a = L a) : PX J L0 G D N := h.fr (fun _ _ _ _ => rfl) (fun a ha => e a (by omega))
theorem PM.o {bd N : Int} {D : List Int} {G : GA} {J : zM} {L L0 : yM} (h : PM J L G D N) (hI : PI bd G D N) (e : ∀ a, a ≠ 552 → L0 a = L a) : PM J L0 G D N := by
  refine ⟨fun t ht => ?_, h.2⟩
  have ai := hI.ai ht
  refine (h.1 t ht).fr ht ai.dg ai.ll (fun a i ho => rfl) (fun a i ho => ?_) ?_ ?_ ?_
  · rw [e a (by unfold mOwL at ho; omega)]
  · exact mN_fr rfl rfl rfl _
  · exact mI_fr rfl rfl (h.1 t ht).2.2.2.2.2.2.2.2.2.1.1.2
  · exact m30 ai.dg (h.1 t ht)
/-- the class answers v, and so does the model, whatever the law has written down -/
def QA (bd : Int) (w : zM → yM → (Int → zM → yM → Prop) → Prop) (v : Int) (J : zM) (L : yM) : Prop := ∀ L0 : yM, (∀ a, a ≠ 552 → L0 a = L a) → w J L0 (fun b J2 L2 => AN bd 0 (b = v ∧ L2 552 = L0 552) J2 L2)
def XA (bd : Int) (l : List (String × Int)) (w : zM → yM → (Int → zM → yM → Prop) → Prop) (x : String) (J : zM) (L : yM) : Prop := ∃ k, (x, k) ∈ l ∧ w J L (fun _ J2 L2 => AN bd k True J2 L2)
theorem R_01 : R32 0 ∧ R32 1 := by decide
/-- thrown is 0, and what is then done; or 1 -/
theorem m_thr0 {N : Int} {D : List Int} {G : GA} {J : zM} {L : yM} {T B : zM → yM → Prop} {K7 : Int → zM → yM → Prop} (hK7 : ∀ (x4 : Int) (J5 : zM) (L6 : yM), (∀ J8 : zM, J8 = zs J5 491 0 x4 → R32 (J8 491 0) ∧ (if 0 < (J8 491 0) then T J8 L6 else B J8 L6)) → K7 x4 J5 L6) (P : PM J L G D N) (hb : ∀ J8, PM J8 L G D N → MG J L J8 L → J8 491 0 = 0 → (∀ a, a ≠ 491 → J8 a = J a) → (∀ k, k ≠ 0 → J8 491 k = J 491 k) → B J8 L) : K7 0 J L := by
  refine hK7 0 J L (fun J8 e8 => ?_)
  have z : J8 491 0 = 0 := by rw [e8]; exact zs_s _ _ _ _
  have S := P.slot (k := 0) (v := 0) (Or.inl rfl)
  rw [← e8] at S
  rw [z]
  refine ⟨by decide, ?_⟩
  rw [if_neg (by decide)]
  exact hb J8 S.1 S.2 z (fun a ha => by rw [e8]; exact zs_r J ha) (fun k hk => by rw [e8]; exact zs_n J (Or.inr hk))
theorem m_thrK {N x : Int} {D : List Int} {G : GA} {J : zM} {L : yM} {T B : zM → yM → Prop} {K7 : Int → zM → yM → Prop} (hK7 : ∀ (x4 : Int) (J5 : zM) (L6 : yM), (∀ J8 : zM, J8 = zs J5 491 0 x4 → R32 (J8 491 0) ∧ (if 0 < (J8 491 0) then T J8 L6 else B J8 L6)) → K7 x4 J5 L6) (P : PM J L G D N) (hx : 0 < x ∧ x < 10) (hq : ∀ J8, PM J8 L G D N → MG J L J8 L → J8 491 0 = x → T J8 L) : K7 x J L := by
  refine hK7 x J L (fun J8 e8 => ?_)
  have z : J8 491 0 = x := by rw [e8]; exact zs_s _ _ _ _
  have S := P.slot (k := 0) (v := x) (Or.inl rfl)
  rw [← e8] at S
  rw [z]
  refine ⟨⟨by omega, by omega⟩, ?_⟩
  rw [if_pos hx.1]
  exact hq J8 S.1 S.2 z
theorem if01 {a b : Prop} : (R32 0 ∧ (if (0 : Int) = 0 then a else b)) ↔ a := ⟨fun h => by have := h.2; rw [if_pos rfl] at this; exact this, fun h => ⟨by decide, by rw [if_pos rfl]; exact h⟩⟩
theorem if11 {a b : Prop} : (R32 1 ∧ (if (1 : Int) = 0 then a else b)) ↔ b := ⟨fun h => by have := h.2; rw [if_neg (by decide)] at this; exact this, fun h => ⟨by decide, by rw [if_neg (by decide)]; exact h⟩⟩
/-! checks -/
theorem x_side {s : Int} {J : zM} {L : yM} {Q : zM → yM → Prop} {X : String → zM → yM → Prop} (rs : R32 s) (h1 : s01 s → Q J L) (h0 : ¬ s01 s → X IOB J L) : w_X11_checkSide s J L Q X := by
  unfold w_X11_checkSide
  refine ⟨rs, ?_⟩
  by_cases c : s = 0
  · rw [if_pos c]; exact h1 (Or.inl c)
  · rw [if_neg c]
    by_cases d : s = 1
    · rw [if_pos d]; exact h1 (Or.inr d)
    · rw [if_neg d]; exact h0 (fun q => q.elim c d)
theorem m_side {s : Int} {J : zM} {L : yM} {Q : Int → zM → yM → Prop} (rs : R32 s) (h0 : s01 s → Q 0 J L) (h1 : ¬ s01 s → Q 1 J L) : w_X12_noSide s J L Q := by
  unfold w_X12_noSide
  refine ⟨rs, ?_⟩
  by_cases c : s < 0
  · rw [if_pos c]; exact h1 (by omega)
  · rw [if_neg c]
    by_cases d : 1 < s
    · rw [if_pos d]; exact h1 (by omega)
    · rw [if_neg d]; exact h0 (by omega)
abbrev plc (s i : Int) (G : GA) : Prop := s01 s ∧ 0 ≤ i ∧ i < ((net s G).length : Int)
theorem x_place {bd s i N : Int} {G : GA} {D : List Int} {J : zM} {L : yM} {Q : zM → yM → Prop} {X : String → zM → yM → Prop} (h : PX J L G D N) (hI : PI bd G D N) (rs : R32 s) (ri : R32 i) (h1 : plc s i G → Q J L) (h0 : ¬ plc s i G → X IOB J L) : w_X11_checkDatagram s i J L Q X := by
  unfold w_X11_checkDatagram
  refine x_side rs (fun hs => ⟨ri, ?_⟩) (fun n => h0 (fun q => n q.1))
  have e := (px_net h hs).2.2
  have nk := (hI.net hs).1
  by_cases c : i < 0
  · rw [if_pos c]; exact h0 (fun q => by have := q.2.1; omega)
  · rw [if_neg c, e]
    refine ⟨s01b hs, ⟨by omega, by omega⟩, ?_⟩
    by_cases d : i < ((net s G).length : Int)
    · rw [if_pos d]; exact h1 ⟨hs, by omega, d⟩
    · rw [if_neg d]; exact h0 (fun q => d q.2.2)
theorem m_place {bd s i N : Int} {G : GA} {D : List Int} {J : zM} {L : yM} {Q : Int → zM → yM → Prop} (h : PM J L G D N) (hI : PI bd G D N) (rs : R32 s) (ri : R32 i) (h0 : plc s i G → Q 0 J L) (h1 : ¬ plc s i G → Q 1 J L) : w_X12_noPlace s i J L Q := by
  unfold w_X12_noPlace
  refine m_side rs (fun hs => if01.mpr ⟨ri, ?_⟩) (fun n => if11.mpr (h1 (fun q => n q.1)))
  have e := (pm_net h hs).2.2
  have nk := (hI.net hs).1
  by_cases c : i < 0
  · rw [if_pos c]; exact h1 (fun q => by have := q.2.1; omega)
  · rw [if_neg c, e]
    refine ⟨s01b hs, ⟨by omega, by omega⟩, ?_⟩
    by_cases d : i < ((net s G).length : Int)
    · rw [if_pos d]; exact h0 ⟨hs, by omega, d⟩
    · rw [if_neg d]; exact h1 (fun q => d q.2.2)
abbrev dgm (s i : Int) (G : GA) : List Int := (net s G).getD i.toNat []
theorem x_len {bd s i N : Int} {G : GA} {D : List Int} {J : zM} {L : yM} {Q : Int → zM → yM → Prop} (h : PX J L G D N) (p : plc s i G) (hQ : Q ((dgm s i G).length : Int) J L) : w_X4_lengthOf (nt s) i J L Q := by
  obtain ⟨hs, h0, h1⟩ := p
  obtain ⟨n1, n2, n3⟩ := px_net h hs
  have hi : i < J (nt s) 5 := by omega
  refine s_lengthOf n2 h0 hi ?_
  have e : dgm s i G = rD (nt s) J i := by unfold dgm; rw [← n1]; exact mr_getD h0 hi
  have l := n2.2.2.2.2 i h0 hi
  rw [e] at hQ
  unfold rD at hQ
  rw [sg_len, show ((rN (nt s) J (rO (nt s) J i)).toNat : Int) = rN (nt s) J (rO (nt s) J i) by omega] at hQ
  exact hQ
theorem m_len {s i N : Int} {G : GA} {D : List Int} {J : zM} {L : yM} (h : PM J L G D N) (p : plc s i G) : J 510 (60 * s + i) = ((dgm s i G).length : Int) ∧ sg J 511 (500 * (60 * s + i)) (dgm s i G).length = dgm s i G ∧ 0 ≤ 60 * s + i ∧ 60 * s + i < 120 ∧ i < 60 := by
  obtain ⟨hs, h0, h1⟩ := p
  obtain ⟨n1, n2, n3⟩ := pm_net h hs
  have hi : i < J 509 s := by omega
  have e : dgm s i G = mD s J i := by unfold dgm; rw [← n1]; exact mr_getD h0 hi
  have l := (n2 s hs).2 i h0 hi
  have l6 := (n2 s hs).1
  have el : (dgm s i G).length = (J 510 (60 * s + i)).toNat := by rw [e]; unfold mD; rw [sg_len]
  refine ⟨by rw [el]; omega, ?_, by omega, by omega, by omega⟩
  rw [el]
  exact e.symm
abbrev ocp (s i k : Int) (G : GA) : Prop := plc s i G ∧ 0 ≤ k ∧ k < ((dgm s i G).length : Int)
theorem PI.dg {bd s i N : Int} {G : GA} {D : List Int} (hI : PI bd G D N) (p : plc s i G) : oct (dgm s i G) ∧ 0 < (dgm s i G).length ∧ (dgm s i G).length ≤ 500 := (hI.net p.1).2 _ (getD_mem (by have := p.2; omega))
theorem x_oct {bd s i k N : Int} {G : GA} {D : List Int} {J : zM} {L : yM} {Q : zM → yM → Prop} {X : String → zM → yM → Prop} (h : PX J L G D N) (hI : PI bd G D N) (rs : R32 s) (ri : R32 i) (rk : R32 k) (h1 : ocp s i k G → Q J L) (h0 : ¬ ocp s i k G → X IOB J L) : w_X11_checkOctet s i k J L Q X := by
  unfold w_X11_checkOctet
  refine x_place h hI rs ri (fun p => ⟨rk, ?_⟩) (fun n => h0 (fun q => n q.1))
  have d := hI.dg p
  by_cases c : k < 0
  · rw [if_pos c]; exact h0 (fun q => by have := q.2.1; omega)
  · rw [if_neg c]
    refine ⟨s01b p.1, x_len (bd := bd) h p ⟨rk, ⟨by omega, by omega⟩, ?_⟩⟩
    by_cases e : k < ((dgm s i G).length : Int)
    · rw [if_pos e]; exact h1 ⟨p, by omega, e⟩
    · rw [if_neg e]; exact h0 (fun q => e q.2.2)
theorem m_oct {bd s i k N : Int} {G : GA} {D : List Int} {J : zM} {L : yM} {Q : Int → zM → yM → Prop} (h : PM J L G D N) (hI : PI bd G D N) (rs : R32 s) (ri : R32 i) (rk : R32 k) (h0 : ocp s i k G → Q 0 J L) (h1 : ¬ ocp s i k G → Q 1 J L) : w_X12_noOctet s i k J L Q := by
  unfold w_X12_noOctet
  refine m_place h hI rs ri (fun p => if01.mpr ⟨rk, ?_⟩) (fun n => if11.mpr (h1 (fun q => n q.1)))
  have d := hI.dg p
  have m := m_len h p
  by_cases c : k < 0
  · rw [if_pos c]; exact h1 (fun q => by have := q.2.1; omega)
  · rw [if_neg c, m.1]
    refine ⟨⟨m.2.2.1, m.2.2.2.1⟩, ⟨by omega, by omega⟩, ?_⟩
    by_cases e : k < ((dgm s i G).length : Int)
    · rw [if_pos e]; exact h0 ⟨p, by omega, e⟩
    · rw [if_neg e]; exact h1 (fun q => e q.2.2)
theorem x_octetOf {s i k N : Int} {G : GA} {D : List Int} {J : zM} {L : yM} {Q : Int → zM → yM → Prop} (h : PX J L G D N) (p : ocp s i k G) (hQ : Q ((dgm s i G).getD k.toNat 0) J L) : w_X4_octetOf (nt s) i k J L Q := by
  obtain ⟨⟨hs, h0, h1⟩, k0, k1⟩ := p
  obtain ⟨n1, n2, n3⟩ := px_net h hs
  have hi : i < J (nt s) 5 := by omega
  have e : dgm s i G = rD (nt s) J i := by unfold dgm; rw [← n1]; exact mr_getD h0 hi
  have l := n2.2.2.2.2 i h0 hi
  rw [e] at hQ k1
  unfold rD at hQ k1
  rw [sg_len] at k1
  rw [sg_get (by omega), show (0 : Int) + (k.toNat : Int) = k by omega] at hQ
  exact s_octetOf n2 h0 hi k0 (by omega) hQ
theorem m_octetOf {s i k N : Int} {G : GA} {D : List Int} {J : zM} {L : yM} (h : PM J L G D N) (p : ocp s i k G) : J 511 (500 * (60 * s + i) + k) = (dgm s i G).getD k.toNat 0 := by
  have m := m_len h p.1
  have q := sg_get (J := J) (a := 511) (i := 500 * (60 * s + i)) (c := (dgm s i G).length) (j := k.toNat) (by have := p.2; omega)
  rw [m.2.1, show ((k.toNat : Nat) : Int) = k by have := p.2; omega] at q
  exact q.symm
/-! what is asked -/
theorem PB.q {bd N : Int} {D : List Int} {G : GA} {J J2 : zM} {L L1 : yM} (h : PX J L G D N) (hI : PI bd G D N) (hm : PM J2 L1 G D N) (o : MG J L J2 L1) : PB bd J2 L1 := ⟨G, D, N, h.mg o, hm, hI⟩
theorem call_net {bd s : Int} {J : zM} {L : yM} (h : PB bd J L) (rs : R32 s) : w_X11_net s J L (QA bd (w_X12_net s)) (XA bd [(IOB, 1)] (w_X12_net s)) := by
  obtain ⟨G, D, N, hx, hm, hI⟩ := h
  unfold w_X11_net
  refine x_side rs (fun hs => ⟨s01b hs, ?_⟩) (fun ns => ⟨1, List.mem_singleton.mpr rfl, ?_⟩)
  · rw [(px_net hx hs).2.2]
    unfold QA
    intro L eL
    have hx := hx.o eL
    have hm := hm.o hI eL
    unfold w_X12_net
    refine m_side rs (fun _ K7 hK7 => if01.mpr (m_thr0 hK7 hm (fun J8 P M z _ _ => ⟨s01b hs, ?_⟩))) (fun n => absurd hs n)
    rw [(pm_net P hs).2.2]
    exact ⟨z, ⟨rfl, (M 552 (Or.inr rfl)).2⟩, PB.q hx hI P M⟩
  · unfold w_X12_net
    exact m_side rs (fun q => absurd q ns) (fun _ K7 hK7 => if11.mpr (m_thrK hK7 hm (by decide) (fun J8 P M z => ⟨z, trivial, PB.q hx hI P M⟩)))
theorem call_size {bd s i : Int} {J : zM} {L : yM} (h : PB bd J L) (rs : R32 s) (ri : R32 i) : w_X11_size s i J L (QA bd (w_X12_size s i)) (XA bd [(IOB, 1)] (w_X12_size s i)) := by
  obtain ⟨G, D, N, hx, hm, hI⟩ := h
  unfold w_X11_size
  refine x_place hx hI rs ri (fun p => ⟨s01b p.1, x_len (bd := bd) hx p ?_⟩) (fun ns => ⟨1, List.mem_singleton.mpr rfl, ?_⟩)
  · unfold QA
    intro L eL
    have hx := hx.o eL
    have hm := hm.o hI eL
    unfold w_X12_size
    refine m_place hm hI rs ri (fun _ K7 hK7 => if01.mpr (m_thr0 hK7 hm (fun J8 P M z _ _ => ?_))) (fun n => absurd p n)
    have m := m_len P p
    rw [m.1]
    exact ⟨⟨m.2.2.1, m.2.2.2.1⟩, z, ⟨rfl, (M 552 (Or.inr rfl)).2⟩, PB.q hx hI P M⟩
  · unfold w_X12_size
    exact m_place hm hI rs ri (fun q => absurd q ns) (fun _ K7 hK7 => if11.mpr (m_thrK hK7 hm (by decide) (fun J8 P M z => ⟨z, trivial, PB.q hx hI P M⟩)))
theorem call_octet {bd s i k : Int} {J : zM} {L : yM} (h : PB bd J L) (rs : R32 s) (ri : R32 i) (rk : R32 k) : w_X11_octet s i k J L (QA bd (w_X12_octet s i k)) (XA bd [(IOB, 1)] (w_X12_octet s i k)) := by
  obtain ⟨G, D, N, hx, hm, hI⟩ := h
  unfold w_X11_octet
  refine x_oct hx hI rs ri rk (fun p => ⟨s01b p.1.1, x_octetOf hx p ?_⟩) (fun ns => ⟨1, List.mem_singleton.mpr rfl, ?_⟩)
  · unfold QA
    intro L eL
    have hx := hx.o eL
    have hm := hm.o hI eL
    unfold w_X12_octet
    refine m_oct hm hI rs ri rk (fun _ K7 hK7 => if01.mpr (m_thr0 hK7 hm (fun J8 P M z _ _ => ?_))) (fun n => absurd p n)
    have m := m_len P p.1
    have d := hI.dg p.1
    have pk := p.2
    rw [m_octetOf P p]
    exact ⟨⟨by omega, by omega⟩, z, ⟨rfl, (M 552 (Or.inr rfl)).2⟩, PB.q hx hI P M⟩
  · unfold w_X12_octet
    exact m_oct hm hI rs ri rk (fun q => absurd q ns) (fun _ K7 hK7 => if11.mpr (m_thrK hK7 hm (by decide) (fun J8 P M z => ⟨z, trivial, PB.q hx hI P M⟩)))
theorem call_state {bd s : Int} {J : zM} {L : yM} (h : PB bd J L) (rs : R32 s) : w_X11_state s J L (QA bd (w_X12_state s)) (XA bd [(IOB, 1)] (w_X12_state s)) := by
  obtain ⟨G, D, N, hx, hm, hI⟩ := h
  unfold w_X11_state
  refine x_side rs (fun hs => ⟨s01b hs, ?_⟩) (fun ns => ⟨1, List.mem_singleton.mpr rfl, ?_⟩)
  · rw [show J (sd s) 12 = aZ (G s) 0 from (hx.1 s hs).1.2.1]
    unfold QA
    intro L eL
    have hx := hx.o eL
    have hm := hm.o hI eL
    unfold w_X12_state
    refine m_side rs (fun _ K7 hK7 => if01.mpr (m_thr0 hK7 hm (fun J8 P M z _ _ => ⟨s01b hs, ?_⟩))) (fun n => absurd hs n)
    rw [show J8 534 s = aZ (G s) 0 from (P.1 s hs).1.1]
    exact ⟨z, ⟨rfl, (M 552 (Or.inr rfl)).2⟩, PB.q hx hI P M⟩
  · unfold w_X12_state
    exact m_side rs (fun q => absurd q ns) (fun _ K7 hK7 => if11.mpr (m_thrK hK7 hm (by decide) (fun J8 P M z => ⟨z, trivial, PB.q hx hI P M⟩)))
theorem call_got {bd s : Int} {J : zM} {L : yM} (h : PB bd J L) (rs : R32 s) : w_X11_got s J L (QA bd (w_X12_got s)) (XA bd [(IOB, 1)] (w_X12_got s)) := by
  obtain ⟨G, D, N, hx, hm, hI⟩ := h
  unfold w_X11_got
  refine x_side rs (fun hs => ⟨s01b hs, ?_⟩) (fun ns => ⟨1, List.mem_singleton.mpr rfl, ?_⟩)
  · rw [show J (sd s) 17 = aZ (G s) 5 from (hx.1 s hs).1.2.2.2.2.2.2.1]
    unfold QA
    intro L eL
    have hx := hx.o eL
    have hm := hm.o hI eL
    unfold w_X12_got
    refine m_side rs (fun _ K7 hK7 => if01.mpr (m_thr0 hK7 hm (fun J8 P M z _ _ => ⟨s01b hs, ?_⟩))) (fun n => absurd hs n)
    rw [show J8 547 s = aZ (G s) 5 from (P.1 s hs).1.2.2.2.2.1]
    exact ⟨z, ⟨rfl, (M 552 (Or.inr rfl)).2⟩, PB.q hx hI P M⟩
  · unfold w_X12_got
    exact m_side rs (fun q => absurd q ns) (fun _ K7 hK7 => if11.mpr (m_thrK hK7 hm (by decide) (fun J8 P M z => ⟨z, trivial, PB.q hx hI P M⟩)))
/-! deliver, lose -/
theorem call_deliver {bd s i : Int} {J : zM} {L : yM} (h : PB bd J L) (hbd : 0 ≤ bd ∧ bd + 100 ≤ 2000000000) (rs : R32 s) (ri : R32 i) : w_X11_deliver s i J L (QA (bd + 100) (w_X12_deliver s i)) (XA (bd + 100) [(IOB, 1)] (w_X12_deliver s i)) := by
  obtain ⟨G, D, N, hx, hm, hI⟩ := h
  unfold w_X11_deliver
  refine x_place hx hI rs ri (fun p => ?_) (fun ns => ⟨1, List.mem_singleton.mpr rfl, ?_⟩)
  · refine px_come p.1 hx hI p.2.1 p.2.2 hbd (fun J1 L1 X1 O1 => ?_)
    have m1 := hm.xg hI O1
    have p2 := p.2
    unfold QA
    intro L1 eL
    have X1 := X1.o eL
    have m1 := m1.o hI eL
    unfold w_X12_deliver
    refine m_place m1 hI rs ri (fun _ K7 hK7 => if01.mpr (m_thr0 hK7 m1 (fun J8 P M z _ _ => ?_))) (fun n => absurd p n)
    refine pm_come p.1 P hI p.2.1 p.2.2 hbd (fun J9 L9 P9 M9 z9 => ⟨z9.trans z, ⟨rfl, (M9 552 (Or.inr rfl)).2.trans (M 552 (Or.inr rfl)).2⟩, _, D, N, (X1.mg M).mg M9, P9, PI_come hI p.1 (by omega)⟩)
  · unfold w_X12_deliver
    exact m_place hm hI rs ri (fun q => absurd q ns) (fun _ K7 hK7 => if11.mpr (m_thrK hK7 hm (by decide) (fun J8 P M z => ⟨z, trivial, PB.q hx (hI.mono (show bd ≤ bd + 100 by omega)) P M⟩)))
theorem call_lose {bd s i : Int} {J : zM} {L : yM} (h : PB bd J L) (rs : R32 s) (ri : R32 i) : w_X11_lose s i J L (QA bd (w_X12_lose s i)) (XA bd [(IOB, 1)] (w_X12_lose s i)) := by
  obtain ⟨G, D, N, hx, hm, hI⟩ := h
  unfold w_X11_lose
  refine x_place hx hI rs ri (fun p => ⟨s01b p.1, ?_⟩) (fun ns => ⟨1, List.mem_singleton.mpr rfl, ?_⟩)
  · obtain ⟨hs, h0, h1⟩ := id p
    obtain ⟨n1, n2, n3⟩ := px_net hx hs
    have nk := netOk_erase (hI.net hs) i.toNat
    refine s_drop n2 h0 (by rw [n3]; exact h1) (fun J1 g1 g2 g3 g4 => ⟨s01b hs, ?_⟩)
    rw [n1] at g1
    obtain ⟨X1, O1⟩ := hx.set hs g1 g2 g4
    have m1 := hm.xg hI O1
    have e1 := (px_net X1 hs).2.2
    rw [net_set] at e1
    rw [e1]
    unfold QA
    intro L eL
    have X1 := X1.o eL
    have m1 := m1.o hI eL
    unfold w_X12_lose
    refine m_place m1 hI rs ri (fun _ K7 hK7 => if01.mpr (m_thr0 hK7 m1 (fun J8 P M z _ _ => ?_))) (fun n => absurd p n)
    obtain ⟨k1, k2, k3⟩ := pm_net P hs
    refine s_removePlace hs k2 h0 (by rw [k3]; exact h1) (fun J9 g9 => ⟨s01b hs, ?_⟩)
    obtain ⟨q1, q2, q3, -, -, q6⟩ := g9
    rw [k1] at q1
    obtain ⟨P9, M9, r9⟩ := P.set hI hs q1 (q2 (1 - s) (s01o hs) (s01n hs)) q3 q6
    have e9 := (pm_net P9 hs).2.2
    rw [net_set] at e9
    rw [e9]
    exact ⟨by rw [r9]; exact z, ⟨rfl, (M9 552 (Or.inr rfl)).2.trans (M 552 (Or.inr rfl)).2⟩, _, D, N, (X1.mg M).mg M9, P9, PI_set hI hs nk⟩
  · unfold w_X12_lose
    exact m_place hm hI rs ri (fun q => absurd q ns) (fun _ K7 hK7 => if11.mpr (m_thrK hK7 hm (by decide) (fun J8 P M z => ⟨z, trivial, PB.q hx hI P M⟩)))
