/-! a datagram comes: both -/
def comeG (s : Int) (i : Nat) (G : GA) : GA := ug s (arrN 100 s ((net s G).getD i []) (G s) 0).1 (setN s ((net s G).eraseIdx i) G)
def comeV (s : Int) (i : Nat) (G : GA) : Int := (arrN 100 s ((net s G).getD i []) (G s) 0).2
theorem set_s {s : Int} (hs : s01 s) (M : List (List Int)) (G : GA) : setN s M G s = G s := ug_n _ _ (fun q => s01n hs q.symm)
theorem PI.mono {bd bd' N : Int} {G : GA} {D : List Int} (h : PI bd G D N) (hb : bd ≤ bd') : PI bd' G D N := ⟨fun s hs => ⟨(h.1 s hs).1.mono hb, (h.1 s hs).2⟩, h.2.1, h.2.2.1, h.2.2.2.1, by have := h.2.2.2.2; omega⟩
theorem PI_act {bd N s : Int} {G : GA} {D : List Int} {B : SA} (h : PI bd G D N) (hs : s01 s) (hB : AI bd s B ∧ AQt B ∧ ¬ nextA B ∧ aZ B 17 = N) : PI bd (ug s B G) D N := by
  refine ⟨fun t ht => ?_, h.2⟩
  by_cases q : t = s
  · subst q
    rw [ug_s]
    exact hB
  · rw [ug_n _ _ q]
    exact h.1 t ht
theorem getD_mem {N : List (List Int)} {i : Nat} (h : i < N.length) : N.getD i [] ∈ N := by
  rw [List.getD_eq_getElem?_getD, List.getElem?_eq_getElem h]
  exact List.getElem_mem h
theorem PI_come {bd N s : Int} {i : Nat} {G : GA} {D : List Int} (h : PI bd G D N) (hs : s01 s) (hi : i < (net s G).length) : PI (bd + 100) (comeG s i G) D N := by
  have nk := h.net hs
  have d := nk.2 _ (getD_mem hi)
  have hI := (PI_set h hs (netOk_erase nk i)).mono (show bd ≤ bd + 100 by omega)
  obtain ⟨a, b, c, e⟩ := h.1 s hs
  have q := AI_arr hs 100 bd 0 ((net s G).getD i []) (G s) a d.1 c
  have w := nq_arr hs 100 bd 0 ((net s G).getD i []) (G s) a d.1 c
  exact PI_act hI hs ⟨q.1, w.2 b, q.2, w.1.trans e⟩
theorem px_come {bd N s i : Int} {G : GA} {D : List Int} {J : zM} {L : yM} {Q : Int → zM → yM → Prop} (hs : s01 s) (h : PX J L G D N) (hI : PI bd G D N) (h0 : 0 ≤ i) (h1 : i < ((net s G).length : Int)) (hbd : 0 ≤ bd ∧ bd + 100 ≤ 2000000000) (hQ : ∀ J' L', PX J' L' (comeG s i.toNat G) D N → XG J L J' L' → Q (comeV s i.toNat G) J' L') : w_X11_come s i J L Q := by
  obtain ⟨n1, n2, n3⟩ := px_net h hs
  have b := nt_b hs
  have s2 := s01b hs
  have hi : i < J (nt s) 5 := by omega
  have nk := hI.net hs
  have dk := nk.2 _ (getD_mem (i := i.toNat) (by omega))
  obtain ⟨d, hd⟩ : ∃ d, d = (net s G).getD i.toNat [] := ⟨_, rfl⟩
  have hdd : rD (nt s) J i = d := by
    rw [hd, ← n1]
    exact (mr_getD h0 hi).symm
  rw [← hd] at dk
  unfold w_X11_come w_X1_load
  refine ⟨s2, s2, ?_⟩
  have on := n2.2.2.1 i h0 (by have := n2.1; omega)
  have ln := n2.2.2.2.2 i h0 hi
  have rb := rw0_b (nt s)
  refine s_copyInto n2 h0 hi (by rw [ln_4]; omega) ?_
  obtain ⟨o, ho⟩ : ∃ o, o = rO (nt s) J i := ⟨_, rfl⟩
  have hdd : sg J (nt s + 2 + (rO (nt s) J i).toNat) 0 (rN (nt s) J (rO (nt s) J i)).toNat = d := hdd
  rw [← ho] at hdd on ln ⊢
  have dl : (d.length : Int) = rN (nt s) J o := by rw [← hdd, sg_len]; omega
  obtain ⟨J1, e1⟩ : ∃ J1, J1 = zcp J (nt s + 2 + o.toNat) 0 4 0 (rN (nt s) J o) := ⟨_, rfl⟩
  rw [← e1]
  have c1 : sg J1 4 0 d.length = d := by
    rw [e1, sg_zcp (by omega), ← hdd, sg_len, show ((rN (nt s) J o).toNat) = (rN (nt s) J o).toNat from rfl]
  have f1 : ∀ a, a ≠ 4 → J1 a = J a := fun a ha => by rw [e1]; exact zcp_r J ha
  clear e1
  intro J4 e4 J5 e5
  have f5 : ∀ a, a ≠ 3 → a ≠ 4 → J5 a = J a := fun a p q => by rw [e5, zs_r _ p, e4, zs_r _ p]; exact f1 a q
  have r4 : J5 4 = J1 4 := by rw [e5, zs_r _ (by decide), e4, zs_r _ (by decide)]
  have r31 : J5 3 1 = (d.length : Int) := by rw [e5, zs_n _ (Or.inr (by decide)), e4, zs_s, dl]
  have r33 : J5 3 3 = 0 := by rw [e5]; exact zs_s _ _ _ _
  clear e4 e5
  have P5 : PX J5 L G D N := h.fr (fun a _ p q => f5 a p q) (fun _ _ => rfl)
  obtain ⟨m1, m2, m3⟩ := px_net P5 hs
  refine ⟨s2, s_drop m2 h0 (by rw [m3]; exact h1) (fun J9 g1 g2 g3 g4 => ?_)⟩
  rw [m1] at g1
  obtain ⟨P9, X9⟩ := P5.set hs g1 g2 g4
  have q3 : J9 3 = J5 3 := g4 3 (by rw [cR_nt hs]; omega)
  have q4 : J9 4 = J5 4 := g4 4 (by rw [cR_nt hs]; omega)
  have xs9 := P9.1 s hs
  rw [set_s hs] at xs9
  obtain ⟨ai, aq, an, a17⟩ := hI.1 s hs
  refine xs_loop (e := sd s) (r := d) (sdE hs) hs xs9 ai an (by rw [q3]; exact r33) ⟨by decide, by rw [q3, r31]; omega, by rw [q3, r31]; have := dk.2.2; omega, by rw [sg_row q4, sg_row r4]; exact c1, dk.1⟩ hbd (fun J' L' u1 u2 => ?_)
  have P' := P9.act hs u1 u2
  unfold comeG comeV at hQ
  rw [← hd] at hQ
  refine hQ J' L' P' (XG.tr (J1 := J9) (L1 := L) ?_ (u2.g hs))
  refine XG.tr (J1 := J5) (L1 := L) (fun a ha => ⟨f5 a (by omega) (by omega), rfl⟩) X9
/-- the model takes it, and it arrives -/
theorem pm_come {bd N s i : Int} {G : GA} {D : List Int} {J : zM} {L : yM} {Q : Int → zM → yM → Prop} (hs : s01 s) (h : PM J L G D N) (hI : PI bd G D N) (h0 : 0 ≤ i) (h1 : i < ((net s G).length : Int)) (hbd : 0 ≤ bd ∧ bd + 100 ≤ 2000000000) (hQ : ∀ J' L', PM J' L' (comeG s i.toNat G) D N → MG J L J' L' → J' 491 0 = J 491 0 → Q (comeV s i.toNat G) J' L') : w_X12_take s i J L (fun J11 L12 => w_X12_arrives s J11 L12 (fun r15 J13 L14 => Q r15 J13 L14)) := by
  obtain ⟨n1, n2, n3⟩ := pm_net h hs
  have s2 := s01b hs
  have hi : i < J 509 s := by omega
  have nk := hI.net hs
  have dk := nk.2 _ (getD_mem (i := i.toNat) (by omega))
  obtain ⟨d, hd⟩ : ∃ d, d = (net s G).getD i.toNat [] := ⟨_, rfl⟩
  have hdd : mD s J i = d := by
    rw [hd, ← n1]
    exact (mr_getD h0 hi).symm
  rw [← hd] at dk
  have ib := n2 s hs
  have lb := ib.2 i h0 hi
  have i60 : i < 60 := by omega
  unfold mD at hdd
  have dl : (d.length : Int) = J 510 (60 * s + i) := by rw [← hdd, sg_len]; omega
  unfold w_X12_take
  intro x1 ex1
  subst ex1
  refine ⟨⟨by omega, by omega⟩, fun J3 e3 => ?_⟩
  have S3 := h.slot (k := 72) (v := J 510 (60 * s + i)) (Or.inr rfl)
  rw [← e3] at S3
  have f3 : ∀ a, a ≠ 491 → J3 a = J a := fun a ha => by rw [e3]; exact zs_r J ha
  have v72 : J3 491 72 = (d.length : Int) := by rw [e3, zs_s, dl]
  have v0 : J3 491 0 = J 491 0 := by rw [e3]; exact zs_n J (Or.inr (by decide))
  clear e3
  refine cp_by (a := 511) (b := 551) (off := 500 * (60 * s + i)) (n := (d.length : Int)) (by decide) (by omega) (fun x J6 K x0 x1 cp hK => ?_) (fun J6 K cp => ?_)
  · rw [show J6 491 72 = (d.length : Int) by rw [cp.2 491 (by decide)]; exact v72]
    refine ⟨⟨by omega, by omega⟩, ⟨by omega, by omega⟩, ?_⟩
    rw [if_pos x1]
    exact ⟨⟨by omega, by omega⟩, ⟨by omega, by omega⟩, hK⟩
  have w72 : J6 491 72 = (d.length : Int) := by rw [cp.2 491 (by decide)]; exact v72
  rw [w72]
  refine ⟨⟨by omega, by omega⟩, ⟨by omega, by omega⟩, ?_⟩
  rw [if_neg (by omega)]
  have c6 : sg J6 551 0 d.length = d := cp.sg (c := d.length) rfl (by
    rw [sg_row (f3 511 (by decide))]
    have : d.length = (J 510 (60 * s + i)).toNat := by omega
    rw [this]
    exact hdd)
  have f6 : ∀ a, a ≠ 551 → J6 a = J3 a := fun a ha => cp.2 a ha
  clear cp
  have P6 : PM J6 L G D N := by
    refine ⟨fun t ht => ?_, ⟨by rw [f6 491 (by decide)]; exact S3.1.2.1.1, by rw [sg_row (f6 494 (by decide))]; exact S3.1.2.1.2⟩, by rw [f6 491 (by decide)]; exact S3.1.2.2⟩
    have ai := hI.ai ht
    have m := S3.1.1 t ht
    refine m.fr ht ai.dg ai.ll (fun a j ho => by rw [f6 a (by have := own_cell ho; omega)]) (fun _ _ _ => rfl) (mN_fr (f6 509 (by decide)) (f6 510 (by decide)) (f6 511 (by decide)) _) (mI_fr (f6 509 (by decide)) (f6 510 (by decide)) m.2.2.2.2.2.2.2.2.2.1.1.2) (by rw [f6 491 (by decide)]; exact m30 ai.dg m)
  obtain ⟨k1, k2, k3⟩ := pm_net P6 hs
  refine s_removePlace hs k2 h0 (by rw [k3]; exact h1) (fun J7 g7 => ?_)
  obtain ⟨g1, g2, g3, -, -, g6⟩ := g7
  rw [k1] at g1
  obtain ⟨P7, M7, r7⟩ := P6.set hI hs g1 (g2 (1 - s) (s01o hs) (s01n hs)) g3 g6
  have ms7 := P7.1 s hs
  rw [set_s hs] at ms7
  obtain ⟨ai, aq, an, a17⟩ := hI.1 s hs
  have md : MD J7 0 d := ⟨by decide, by rw [r7, w72]; omega, by rw [r7, w72]; have := dk.2.2; omega, by rw [sg_row (g6 551 (by omega))]; exact c6, dk.1⟩
  have hI7 := PI_set hI hs (netOk_erase nk i.toNat)
  refine ms_arrives (r := d) hs ms7 ai an md (by rw [P7.2.2]; exact a17.symm) hbd (fun J' L' u1 u2 => ?_)
  obtain ⟨P', M', r'⟩ := P7.act hs hI7 u1 u2
  unfold comeG comeV at hQ
  rw [← hd] at hQ
  refine hQ J' L' P' ?_ ?_
  · refine S3.2.tr (MG.tr (J1 := J6) (L1 := L) (fun a ha => ⟨f6 a (by omega), rfl⟩) (M7.tr M'))
  · rw [r', r7, f6 491 (by decide)]; exact v0
