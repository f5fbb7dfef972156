/-! ALERTS, ACKS -/
def noteA (c : Int) (A : SA) : SA := if aZ A 3 = -1 ∧ c ≠ 0 then uz 3 c A else A
def dieA (A : SA) : SA := uz 10 0 (uz 0 4 A)
def alertA (s c : Int) (A : SA) : SA := noteA c (sndE s (aZ A 13) 21 [c] A)
def raiseA (s c : Int) (A : SA) : SA := dieA (alertA s c A)
def ackC (l : List (Int × Int)) : List Int := l.flatMap (fun q => [q.1, q.2 / 256, q.2 % 256])
def acksA (s : Int) (A : SA) : SA := if aL A = [] then A else sndE s (aZ A 13) 26 (ackC (aL A)) A
/-- what is no part of a side's state in the class -/
abbrev xscS (e a : Nat) : Prop := (6 ≤ a ∧ a ≤ 10) ∨ a = e + 142 ∨ a = e + 143 ∨ (e + 163 ≤ a ∧ a ≤ e + 166) ∨ a = e + 170
theorem XS.scr {e : Nat} {s : Int} {J J' : zM} {L : yM} {A : SA} (he : iSide e) (h : XS e s J L A) (f : zF (xscS e) J J') : XS e s J' L A ∧ XO e J L J' L := by
  obtain ⟨h0, h1, h2, h3, h4, h5, h6, h7, h8, h9, h10⟩ := h
  have he2 : 139 ≤ e := by unfold iSide at he; omega
  have f' : ∀ a, e ≤ a → a ≠ e + 142 → a ≠ e + 143 → ¬ (e + 163 ≤ a ∧ a ≤ e + 166) → a ≠ e + 170 → J' a = J a := fun a p q r u v => f a (by omega)
  refine ⟨⟨h0.fr (f' _ (by omega) (by omega) (by omega) (by omega) (by omega)), h1.fr (f' _ (by omega) (by omega) (by omega) (by omega) (by omega)) rfl, h2.fr (fun a p q => f' a (by omega) (by omega) (by omega) (by omega) (by omega)), h3.fr (fun a p q => f' a (by omega) (by omega) (by omega) (by omega) (by omega)) (fun k _ => by rw [f' _ (by omega) (by omega) (by omega) (by omega) (by omega)]), h4.fr (fun a p q => f' a (by omega) (by omega) (by omega) (by omega) (by omega)), h5.fr (fun a p q => f' a (by omega) (by omega) (by omega) (by omega) (by omega)), h6.fr (f' _ (by omega) (by omega) (by omega) (by omega) (by omega)), h7.fr he (fun a p q => f' a (by omega) (by omega) (by omega) (by omega) (by omega)), h8.fr (fun a p q => f' a (by omega) (by omega) (by omega) (by omega) (by omega)) (f' _ (by omega) (by omega) (by omega) (by omega) (by omega)), h9.fr (fun a p => ?_) (by rw [f' _ (by omega) (by omega) (by omega) (by omega) (by omega)]), h10.fr (fun a p q => f' a (by omega) (by omega) (by omega) (by omega) (by omega)) (fun _ _ _ => rfl)⟩, fun a ha => f a (fun q => ha ?_), fun _ _ => rfl⟩
  · rcases p with p | p | p | p | p
    · exact f' a (by omega) (by omega) (by omega) (by omega) (by omega)
    · exact f' a (by omega) (by omega) (by omega) (by omega) (by omega)
    · exact f' a (by omega) (by omega) (by omega) (by omega) (by omega)
    · exact f' a (by omega) (by omega) (by omega) (by omega) (by omega)
    · have := wy_out he p
      exact f a (by omega)
  · rcases q with q | q | q | q | q
    · exact Or.inr (Or.inr q)
    · exact Or.inl (by omega)
    · exact Or.inl (by omega)
    · exact Or.inl (by omega)
    · exact Or.inl (by omega)
theorem d41 (h : (4 : Int) = 1) : False := by omega
theorem d401 (h : (4 : Int) = 0 ∨ (4 : Int) = 1) : False := by omega
theorem d40 (h : (4 : Int) = 0) : False := by omega
theorem d4l (h : live 4) : False := by unfold live at h; omega
theorem d01 (h : (0 : Int) = 1) : False := by omega
theorem d423 (h : (4 : Int) = 2 ∨ (4 : Int) = 3) : False := by omega
theorem AI.r3 {bd s : Int} {A : SA} (ai : AI bd s A) : R32 (aZ A 3) := by have := ai.1.2.2.2.1; exact ⟨by omega, by omega⟩
theorem xs_note {e : Nat} {bd s c : Int} {A : SA} {J : zM} {L : yM} {Q : zM → yM → Prop} (he : iSide e) (h : XS e s J L A) (ai : AI bd s A) (hc : 0 ≤ c ∧ c < 256) (hQ : ∀ J', XS e s J' L (noteA c A) → XO e J L J' L → Q J' L) : w_X8_noteAlert e c J L Q := by
  have e15 : J e 15 = aZ A 3 := h.1.2.2.2.2.1
  unfold w_X8_noteAlert
  rw [e15]
  refine ⟨ai.r3, ?_⟩
  unfold noteA at hQ
  by_cases q : aZ A 3 = -1
  · rw [if_pos q]
    refine ⟨⟨by omega, by omega⟩, ?_⟩
    by_cases u : c = 0
    · rw [if_pos u]
      rw [if_neg (fun v => v.2 u)] at hQ
      exact hQ J h XO.rf
    · rw [if_neg u]
      rw [if_pos ⟨q, u⟩] at hQ
      intro J1 e1
      rw [e1]
      exact hQ _ (XS_z3 he h c) (XO.zs (Or.inl (by omega)))
  · rw [if_neg q]
    rw [if_neg (fun v => q v.1)] at hQ
    exact hQ J h XO.rf
theorem note_snd (s ep ty c : Int) (l : List Int) (A : SA) : sndE s ep ty l (noteA c A) = noteA c (sndE s ep ty l A) := by
  unfold noteA
  show sndE s ep ty l (if aZ A 3 = -1 ∧ c ≠ 0 then uz 3 c A else A) = if aZ A 3 = -1 ∧ c ≠ 0 then uz 3 c (sndE s ep ty l A) else sndE s ep ty l A
  split <;> rfl
theorem AI_note {bd s c : Int} {A : SA} (ai : AI bd s A) (hc : 0 ≤ c ∧ c < 256) : AI bd s (noteA c A) := by
  unfold noteA
  split
  · obtain ⟨h1, h2⟩ := ai
    refine ⟨?_, h2⟩
    obtain ⟨a0, a1, a2, a3, a4⟩ := h1
    exact ⟨a0, a1, a2, ⟨show -1 ≤ c by omega, show c < 256 by omega⟩, a4⟩
  · exact ai
theorem AI.ep {bd s : Int} {A : SA} (ai : AI bd s A) : ep3 (aZ A 13) := ai.1.2.2.2.2.2.2.2.2.2.2.2.2.2.1
theorem xs_alert {e : Nat} {bd s c : Int} {A : SA} {J : zM} {L : yM} {Q : zM → yM → Prop} (he : iSide e) (hs : s01 s) (h : XS e s J L A) (ai : AI bd s A) (hc : 0 ≤ c ∧ c < 256) (hQ : ∀ J', XS e s J' L (alertA s c A) → XO e J L J' L → Q J' L) : w_X8_sendAlert e c J L Q := by
  unfold w_X8_sendAlert
  refine xs_note he h ai hc (fun J1 h1 o1 J3 e3 => ?_)
  have f3 : zF (xscS e) J1 J3 := by rw [e3]; exact zF.zs (by omega)
  have h3 := h1.scr he f3
  have ez : J3 (e + 144) 11 = aZ A 13 := by
    rw [h3.1.2.2.2.2.2.2.2.2.1.1]
    unfold noteA
    split <;> rfl
  have ai1 := AI_note (c := c) ai hc
  rw [ez]
  refine xs_snd (content := [c]) he hs h3.1 ai1 ai.ep ?_ (show 1 ≤ 86 by decide) (fun J' k1 k2 => ?_) (Q := fun _ J' L' => Q J' L')
  · show [J3 (e + 170) (0 + ((0 : Nat) : Int))] = [c]
    rw [e3]
    congr 1
    exact zs_s _ _ _ _
  · rw [note_snd] at k1
    exact hQ J' k1 (o1.tr (h3.2.tr k2))
theorem xs_die {e : Nat} {s : Int} {A : SA} {J : zM} {L : yM} {Q : zM → yM → Prop} (he : iSide e) (h : XS e s J L A) (hQ : ∀ J', XS e s J' L (dieA A) → XO e J L J' L → Q J' L) : w_X8_die e J L Q := by
  unfold w_X8_die
  intro J1 e1 J2 e2
  have h1 := XS_z0 he h 4 (fun q => by unfold live at q; omega)
  rw [← e1] at h1
  have h2 := XS_z10 he h1 0
  rw [← e2] at h2
  refine hQ J2 h2 ?_
  rw [e2, e1]
  exact (XO.zs (Or.inl (by omega))).tr (XO.zs (Or.inl (by omega)))
/-! the same in the model -/
theorem MO_zs {s : Int} {J : zM} {L : yM} {a : Nat} {i v : Int} (h : ¬ mOwn (1 - s) a i) (ha : 491 ≤ a) (h2 : ¬ (551 ≤ a ∧ a ≤ 552) ∧ ¬ (509 ≤ a ∧ a ≤ 511)) (h3 : a ≠ 491 ∨ i ≠ 30) : MO s J L (zs J a i v) L := by
  refine ⟨fun b j ho => zs_n J ?_, fun _ _ _ => rfl, mN_fr (zs_r J (by omega)) (zs_r J (by omega)) (zs_r J (by omega)) s, by rw [zs_r J (by omega)], fun hi => mI_fr (zs_r J (by omega)) (zs_r J (by omega)) hi, fun h30 => by rw [zs_n J (by omega)]; exact h30, fun b hb => ⟨zs_r J (by omega), rfl⟩⟩
  by_cases q : b = a ∧ j = i
  · obtain ⟨rfl, rfl⟩ := q
    exact absurd ho h
  · omega
theorem nown1 {s : Int} {a : Nat} (ha : sml a) : ¬ mOwn (1 - s) a s := fun h => by have := ow1 h ha; omega
theorem MSn.zs {s : Int} {J : zM} {t : FS} {a : Nat} {i v : Int} (h : MSn s J t) (ha : ¬ (509 ≤ a ∧ a ≤ 514) ∧ a ≠ 528 ∧ a ≠ 529) (h3 : a ≠ 491 ∨ i ≠ 30) : MSn s (zs J a i v) t := MSn.fr h (fun b hb => zs_r J (by omega)) (zs_n J (by omega))
/-- a scalar of side s in the model changes: all clusters but the first -/
theorem ms_z {s k : Int} {kk : Nat} {a : Nat} {v : Int} {A : SA} {J : zM} {L : yM} (hs : s01 s) (h : MS s J L A) (ha : cM0 a) (hkk : kk ≠ 0 ∧ kk ≠ 1 ∧ kk ≠ 2 ∧ kk ≠ 5 ∧ kk ≠ 10 ∧ kk ≠ 12 ∧ kk ≠ 13 ∧ kk ≠ 14 ∧ kk ≠ 18 ∧ kk ≠ 19 ∧ kk ≠ 20 ∧ kk < 21) (h0 : M0 s (zs J a s v) L (aZ (uz kk v A))) : MS s (zs J a s v) L (uz kk v A) ∧ MO s J L (zs J a s v) L := by
  obtain ⟨a0, a1, a2, a3, a4, a5, a6, a7, a8, a9, a10, a11, a12⟩ := h
  have c : ∀ (C : Nat → Prop), ¬ C a → oEq s C J (zs J a s v) := fun C hC => oEq.zs (Or.inl hC)
  have z : ∀ j, j ≠ kk → aZ (uz kk v A) j = aZ A j := fun j hj => if_neg hj
  refine ⟨⟨h0, ?_, ?_, ?_, ?_, ?_, (a6.fr (c _ (by omega))).cg (fun k hk => z _ (by omega)), ?_, ?_, MSn.zs a9 (by omega) (by omega), a10.fr (c _ (by omega)) (fun _ _ _ => rfl), ?_, mKa a12 (c _ (by omega))⟩, MO_zs (nown1 (by omega)) (by omega) (by omega) (by omega)⟩
  · unfold M1; rw [z 0 (by omega), z 1 (by omega), z 12 (by omega), z 13 (by omega)]; exact a1.fr (c _ (by omega))
  · unfold M2; rw [z 0 (by omega)]; exact a2.fr (c _ (by omega))
  · unfold M8; rw [z 0 (by omega), z 10 (by omega)]; exact a3.fr hs (c _ (by omega))
  · rw [z 2 (by omega)]; exact ⟨a4.1.fr hs (c _ (by omega)), a4.2.fr (c _ (by omega))⟩
  · unfold M33; rw [z 14 (by omega)]; exact a5.fr (c _ (by omega))
  · rw [z 5 (by omega)]; exact a7.fr hs (c _ (by omega))
  · unfold M44; rw [z 0 (by omega), z 13 (by omega)]; exact a8.fr (c _ (by omega))
  · unfold M15; rw [z 18 (by omega), z 19 (by omega), z 20 (by omega)]; exact a11.fr (c _ (by omega))
theorem MS_z3 {s : Int} {A : SA} {J : zM} {L : yM} (hs : s01 s) (h : MS s J L A) (v : Int) : MS s (zs J 538 s v) L (uz 3 v A) ∧ MO s J L (zs J 538 s v) L := by
  have a0 := h.1
  exact ms_z (k := 0) hs h (by omega) (by omega) ⟨(by rw [zs_n _ (Or.inl (by decide))]; exact a0.1), (by rw [zs_n _ (Or.inl (by decide))]; exact a0.2.1), zs_s _ _ _ _, (by rw [zs_n _ (Or.inl (by decide))]; exact a0.2.2.2.1), (by rw [zs_n _ (Or.inl (by decide))]; exact a0.2.2.2.2.1), (by rw [zs_n _ (Or.inl (by decide))]; exact a0.2.2.2.2.2.1), (by rw [zs_n _ (Or.inl (by decide))]; exact a0.2.2.2.2.2.2.1), (by rw [zs_n _ (Or.inl (by decide))]; exact a0.2.2.2.2.2.2.2.1), (by rw [zs_n _ (Or.inl (by decide))]; exact a0.2.2.2.2.2.2.2.2.1), (by rw [zs_n _ (Or.inl (by decide))]; exact a0.2.2.2.2.2.2.2.2.2.1), a0.2.2.2.2.2.2.2.2.2.2.1, a0.2.2.2.2.2.2.2.2.2.2.2⟩
theorem MS_z4 {s : Int} {A : SA} {J : zM} {L : yM} (hs : s01 s) (h : MS s J L A) (v : Int) : MS s (zs J 539 s v) L (uz 4 v A) ∧ MO s J L (zs J 539 s v) L := by
  have a0 := h.1
  exact ms_z (k := 0) hs h (by omega) (by omega) ⟨(by rw [zs_n _ (Or.inl (by decide))]; exact a0.1), (by rw [zs_n _ (Or.inl (by decide))]; exact a0.2.1), (by rw [zs_n _ (Or.inl (by decide))]; exact a0.2.2.1), zs_s _ _ _ _, (by rw [zs_n _ (Or.inl (by decide))]; exact a0.2.2.2.2.1), (by rw [zs_n _ (Or.inl (by decide))]; exact a0.2.2.2.2.2.1), (by rw [zs_n _ (Or.inl (by decide))]; exact a0.2.2.2.2.2.2.1), (by rw [zs_n _ (Or.inl (by decide))]; exact a0.2.2.2.2.2.2.2.1), (by rw [zs_n _ (Or.inl (by decide))]; exact a0.2.2.2.2.2.2.2.2.1), (by rw [zs_n _ (Or.inl (by decide))]; exact a0.2.2.2.2.2.2.2.2.2.1), a0.2.2.2.2.2.2.2.2.2.2.1, a0.2.2.2.2.2.2.2.2.2.2.2⟩
theorem MS_z6 {s : Int} {A : SA} {J : zM} {L : yM} (hs : s01 s) (h : MS s J L A) (v : Int) : MS s (zs J 527 s v) L (uz 6 v A) ∧ MO s J L (zs J 527 s v) L := by
  have a0 := h.1
  exact ms_z (k := 0) hs h (by omega) (by omega) ⟨(by rw [zs_n _ (Or.inl (by decide))]; exact a0.1), (by rw [zs_n _ (Or.inl (by decide))]; exact a0.2.1), (by rw [zs_n _ (Or.inl (by decide))]; exact a0.2.2.1), (by rw [zs_n _ (Or.inl (by decide))]; exact a0.2.2.2.1), (by rw [zs_n _ (Or.inl (by decide))]; exact a0.2.2.2.2.1), zs_s _ _ _ _, (by rw [zs_n _ (Or.inl (by decide))]; exact a0.2.2.2.2.2.2.1), (by rw [zs_n _ (Or.inl (by decide))]; exact a0.2.2.2.2.2.2.2.1), (by rw [zs_n _ (Or.inl (by decide))]; exact a0.2.2.2.2.2.2.2.2.1), (by rw [zs_n _ (Or.inl (by decide))]; exact a0.2.2.2.2.2.2.2.2.2.1), a0.2.2.2.2.2.2.2.2.2.2.1, a0.2.2.2.2.2.2.2.2.2.2.2⟩
theorem MS_z7 {s : Int} {A : SA} {J : zM} {L : yM} (hs : s01 s) (h : MS s J L A) (v : Int) : MS s (zs J 524 s v) L (uz 7 v A) ∧ MO s J L (zs J 524 s v) L := by
  have a0 := h.1
  exact ms_z (k := 0) hs h (by omega) (by omega) ⟨(by rw [zs_n _ (Or.inl (by decide))]; exact a0.1), (by rw [zs_n _ (Or.inl (by decide))]; exact a0.2.1), (by rw [zs_n _ (Or.inl (by decide))]; exact a0.2.2.1), (by rw [zs_n _ (Or.inl (by decide))]; exact a0.2.2.2.1), (by rw [zs_n _ (Or.inl (by decide))]; exact a0.2.2.2.2.1), (by rw [zs_n _ (Or.inl (by decide))]; exact a0.2.2.2.2.2.1), zs_s _ _ _ _, (by rw [zs_n _ (Or.inl (by decide))]; exact a0.2.2.2.2.2.2.2.1), (by rw [zs_n _ (Or.inl (by decide))]; exact a0.2.2.2.2.2.2.2.2.1), (by rw [zs_n _ (Or.inl (by decide))]; exact a0.2.2.2.2.2.2.2.2.2.1), a0.2.2.2.2.2.2.2.2.2.2.1, a0.2.2.2.2.2.2.2.2.2.2.2⟩
theorem MS_z8 {s : Int} {A : SA} {J : zM} {L : yM} (hs : s01 s) (h : MS s J L A) (v : Int) : MS s (zs J 525 s v) L (uz 8 v A) ∧ MO s J L (zs J 525 s v) L := by
  have a0 := h.1
  exact ms_z (k := 0) hs h (by omega) (by omega) ⟨(by rw [zs_n _ (Or.inl (by decide))]; exact a0.1), (by rw [zs_n _ (Or.inl (by decide))]; exact a0.2.1), (by rw [zs_n _ (Or.inl (by decide))]; exact a0.2.2.1), (by rw [zs_n _ (Or.inl (by decide))]; exact a0.2.2.2.1), (by rw [zs_n _ (Or.inl (by decide))]; exact a0.2.2.2.2.1), (by rw [zs_n _ (Or.inl (by decide))]; exact a0.2.2.2.2.2.1), (by rw [zs_n _ (Or.inl (by decide))]; exact a0.2.2.2.2.2.2.1), zs_s _ _ _ _, (by rw [zs_n _ (Or.inl (by decide))]; exact a0.2.2.2.2.2.2.2.2.1), (by rw [zs_n _ (Or.inl (by decide))]; exact a0.2.2.2.2.2.2.2.2.2.1), a0.2.2.2.2.2.2.2.2.2.2.1, a0.2.2.2.2.2.2.2.2.2.2.2⟩
theorem MS_z9 {s : Int} {A : SA} {J : zM} {L : yM} (hs : s01 s) (h : MS s J L A) (v : Int) : MS s (zs J 526 s v) L (uz 9 v A) ∧ MO s J L (zs J 526 s v) L := by
  have a0 := h.1
  exact ms_z (k := 0) hs h (by omega) (by omega) ⟨(by rw [zs_n _ (Or.inl (by decide))]; exact a0.1), (by rw [zs_n _ (Or.inl (by decide))]; exact a0.2.1), (by rw [zs_n _ (Or.inl (by decide))]; exact a0.2.2.1), (by rw [zs_n _ (Or.inl (by decide))]; exact a0.2.2.2.1), (by rw [zs_n _ (Or.inl (by decide))]; exact a0.2.2.2.2.1), (by rw [zs_n _ (Or.inl (by decide))]; exact a0.2.2.2.2.2.1), (by rw [zs_n _ (Or.inl (by decide))]; exact a0.2.2.2.2.2.2.1), (by rw [zs_n _ (Or.inl (by decide))]; exact a0.2.2.2.2.2.2.2.1), zs_s _ _ _ _, (by rw [zs_n _ (Or.inl (by decide))]; exact a0.2.2.2.2.2.2.2.2.2.1), a0.2.2.2.2.2.2.2.2.2.2.1, a0.2.2.2.2.2.2.2.2.2.2.2⟩
theorem MS_z11 {s : Int} {A : SA} {J : zM} {L : yM} (hs : s01 s) (h : MS s J L A) (v : Int) : MS s (zs J 503 s v) L (uz 11 v A) ∧ MO s J L (zs J 503 s v) L := by
  have a0 := h.1
  exact ms_z (k := 0) hs h (by omega) (by omega) ⟨(by rw [zs_n _ (Or.inl (by decide))]; exact a0.1), (by rw [zs_n _ (Or.inl (by decide))]; exact a0.2.1), (by rw [zs_n _ (Or.inl (by decide))]; exact a0.2.2.1), (by rw [zs_n _ (Or.inl (by decide))]; exact a0.2.2.2.1), (by rw [zs_n _ (Or.inl (by decide))]; exact a0.2.2.2.2.1), (by rw [zs_n _ (Or.inl (by decide))]; exact a0.2.2.2.2.2.1), (by rw [zs_n _ (Or.inl (by decide))]; exact a0.2.2.2.2.2.2.1), (by rw [zs_n _ (Or.inl (by decide))]; exact a0.2.2.2.2.2.2.2.1), (by rw [zs_n _ (Or.inl (by decide))]; exact a0.2.2.2.2.2.2.2.2.1), zs_s _ _ _ _, a0.2.2.2.2.2.2.2.2.2.2.1, a0.2.2.2.2.2.2.2.2.2.2.2⟩
theorem ms_ge {bd s : Int} {A : SA} {J : zM} {L : yM} {Q : Int → zM → yM → Prop} (hs : s01 s) (h : MS s J L A) (ai : AI bd s A) (hQ : Q (aZ A 13) J L) : w_X12_greatestEpoch s J L Q := by
  have h6 := h.2.1.2.2.2.2.2.1
  have h7 := h.2.1.2.2.2.2.2.2
  have he := ai.ep
  have hs2 : 0 ≤ s ∧ s < 2 := by omega
  unfold w_X12_greatestEpoch
  rw [h6, h7]
  refine ⟨hs2, by split <;> decide, ?_⟩
  rcases he with q | q | q
  · rw [q] at hQ ⊢
    exact ⟨hs2, by decide, hQ⟩
  · rw [q] at hQ ⊢
    exact ⟨hs2, by decide, hQ⟩
  · rw [q] at hQ ⊢
    exact hQ
theorem ms_note {bd s c : Int} {A : SA} {J : zM} {L : yM} {Q : zM → yM → Prop} (hs : s01 s) (h : MS s J L A) (ai : AI bd s A) (hc : 0 < c ∧ c < 256) (hQ : ∀ J', MS s J' L (noteA c A) → MO s J L J' L → Q J' L) : w_X12_heardAlert s c J L Q := by
  have e3 : J 538 s = aZ A 3 := h.1.2.2.1
  have hr := ai.1.2.2.2.1
  have hs2 : 0 ≤ s ∧ s < 2 := by omega
  unfold w_X12_heardAlert
  rw [e3]
  refine ⟨hs2, ai.r3, ?_⟩
  unfold noteA at hQ
  by_cases q : aZ A 3 < 0
  · rw [if_pos q]
    rw [if_pos ⟨by omega, by omega⟩] at hQ
    refine ⟨hs2, fun J5 e5 => ?_⟩
    rw [e5]
    have r := MS_z3 hs h c
    exact hQ _ r.1 r.2
  · rw [if_neg q]
    rw [if_neg (by omega)] at hQ
    exact hQ J h MO.rf
theorem AI.dg {bd s : Int} {A : SA} (ai : AI bd s A) : (aT A).2.2.2.1 = [] := ai.2.2.2.2.2.2.2.1.2.2
theorem AI.ll {bd s : Int} {A : SA} (ai : AI bd s A) : (aT A).2.2.2.2.length ≤ 1836 := by
  have h1 := ai.1.2.2.2.2.2.2.2.2.2.1
  have h2 := ai.1.2.2.2.2.2.2.2.2.2.2.2.2.2.2.2.2.2.2.2.2.2.1
  omega
theorem ms_send1 {bd s c : Int} {A : SA} {J : zM} {L : yM} {Q : zM → yM → Prop} (hs : s01 s) (h : MS s J L A) (ai : AI bd s A) (hc : 0 ≤ c ∧ c < 256) (hQ : ∀ J', MS s J' L (sndE s (aZ A 13) 21 [c] A) → MO s J L J' L → Q J' L) : w_X12_sendAlert s c J L Q := by
  have h30 := m30 ai.dg h
  unfold w_X12_sendAlert
  intro J1 e1
  have f1 : mF (fun _ => False) t33 J J1 := by rw [e1]; exact mF_zs1 rfl
  have i1 : mIn J1 [] := ⟨by rw [e1]; exact zs_s _ _ _ _, rfl, by decide⟩
  refine s_inner i1 (by decide) (fun J2 i2 f2 J4 e4 => ?_)
  have f4 : mF (fun _ => False) t30 J2 J4 := by rw [e4]; exact mF_zs1 rfl
  have f : mF c515 (fun k => k = 33 ∨ k = 30) J J4 := ((f1.mono (fun _ q => q.elim) (fun k q => Or.inl q)).tr (f2.mono (fun _ q => q) (fun k q => Or.inl q))).tr (f4.mono (fun _ q => q.elim) (fun k q => Or.inr q))
  have h4 := h.scr hs ai.dg ai.ll f (fun a q => by unfold c515 at q; omega) (fun k q => by omega) (by rw [e4]; exact zs_s _ _ _ _)
  refine ms_ge hs h4.1 ai ?_
  have i4 : mIn J4 [c] := by
    obtain ⟨p1, p2, p3⟩ := i2
    have e : [] ++ [c % 256] = [c] := by rw [show c % 256 = c by omega]; rfl
    rw [e] at p1 p2 p3
    exact ⟨by rw [f4.2 33 (by decide)]; exact p1, by rw [sg_row (f4.1 515 (by simp) (by decide))]; exact p2, p3⟩
  refine ms_snd (content := [c]) hs h4.1 ai ai.ep (Int.le_refl _) (by decide) i4 ?_ (show 1 ≤ 86 by decide) (fun J' k1 k2 => hQ J' k1 (h4.2.tr k2)) (Q := fun _ J' L' => Q J' L')
  simp only [oct_cons]
  exact ⟨hc, oct_nil⟩
theorem ms_alert {bd s c : Int} {A : SA} {J : zM} {L : yM} {Q : zM → yM → Prop} (hs : s01 s) (h : MS s J L A) (ai : AI bd s A) (hc : 0 < c ∧ c < 256) (hQ : ∀ J', MS s J' L (alertA s c A) → MO s J L J' L → Q J' L) : w_X12_sendAlert s c J L (fun J1 L1 => w_X12_heardAlert s c J1 L1 Q) := by
  refine ms_send1 hs h ai ⟨by omega, hc.2⟩ (fun J1 h1 o1 => ?_)
  have ai1 : AI bd s (sndE s (aZ A 13) 21 [c] A) := ai.snd ai.ep (by decide) (by simp only [oct_cons]; exact ⟨⟨by omega, hc.2⟩, oct_nil⟩) (show 1 ≤ 86 by decide)
  exact ms_note hs h1 ai1 hc (fun J' k1 k2 => hQ J' k1 (o1.tr k2))
theorem ms_die {s : Int} {A : SA} {J : zM} {L : yM} {Q : zM → yM → Prop} (hs : s01 s) (h : MS s J L A) (hQ : ∀ J', MS s J' L (dieA A) → MO s J L J' L → Q J' L) : w_X12_die s J L Q := by
  unfold w_X12_die
  refine ⟨by omega, fun J2 e2 => ?_⟩
  rw [e2]
  obtain ⟨a0, a1, a2, a3, a4, a5, a6, a7, a8, a9, a10, a11, a12⟩ := h
  have c : ∀ (C : Nat → Prop), ¬ C 534 → oEq s C J (zs J 534 s 4) := fun C hC => oEq.zs (Or.inl hC)
  refine hQ _ ⟨⟨zs_s _ _ _ _, ?_⟩, ?_, ?_, ?_, ⟨a4.1.fr hs (c _ (by omega)), a4.2.fr (c _ (by omega))⟩, a5.fr (c _ (by omega)), (a6.fr (c _ (by omega))).cg (fun k hk => ?_), a7.fr hs (c _ (by omega)), ?_, MSn.zs a9 (by omega) (by omega), a10.fr (c _ (by omega)) (fun _ _ _ => rfl), a11.fr (c _ (by omega)), mKa a12 (c _ (by omega))⟩ (MO_zs (nown1 (by omega)) (by omega) (by omega) (by omega))
  · have r : ∀ a i, a ≠ 534 → zs J 534 s 4 a i = J a i := fun a i q => zs_n J (Or.inl q)
    rw [r _ _ (by decide), r _ _ (by decide), r _ _ (by decide), r _ _ (by decide), r _ _ (by decide), r _ _ (by decide), r _ _ (by decide), r _ _ (by decide), r _ _ (by decide)]
    exact a0.2
  · have b := a1.fr (c _ (by omega))
    exact ⟨fun _ q => (d401 q).elim, fun q => (d40 q).elim, fun q => (d4l q).elim, b.2.2.2.1, fun q => ⟨fun q => (d40 q).elim, fun q => (d4l q).elim, (b.2.2.2.2.1 q).2.2⟩, b.2.2.2.2.2⟩
  · have b := a2.fr (c _ (by omega))
    exact ⟨b.1, b.2.1, b.2.2.1, fun _ q => (d4l q).elim, b.2.2.2.2⟩
  · obtain ⟨b1, b2, b3, ack, b4, b5, b6⟩ := a3.fr hs (c _ (by omega))
    exact ⟨b1, fun q => (d01 q).elim, fun _ q => absurd rfl q, ack, b4, fun q => (d01 q).elim, b6⟩
  · show (if 21 + k = 10 then (0 : Int) else if 21 + k = 0 then 4 else A.1 (21 + k)) = A.1 (21 + k)
    rw [if_neg (by omega), if_neg (by omega)]
  · have b := a8.fr (c _ (by omega))
    exact ⟨fun q => (d4l q).elim, b.2⟩
theorem AI_die {bd s : Int} {A : SA} (ai : AI bd s A) : AI bd s (dieA A) := by
  obtain ⟨h1, h2, h3, h4, h5, h6⟩ := ai
  refine ⟨?_, h2, ⟨fun q => (d4l q).elim, fun _ q => (d41 q).elim, fun _ q => (d4l q).elim⟩, h4, fun n hn hk => ⟨fun q => d40 q, (h5 n hn hk).2⟩, h6⟩
  obtain ⟨b0, b1, b2, b3, b4, b5, b6, b7, b8, b9, b10, b11, b12, b13, b14, b15, b16, b17, b18, b19, b20, b21, b22, b23, b24, b25, b26, b27, b28, b29⟩ := h1
  exact ⟨show (0 : Int) ≤ 4 ∧ (4 : Int) ≤ 4 by decide, b1, b2, b3, b4, b5, b6, fun q => (d01 q).elim, b8, b9, Or.inl rfl, b11, b12, b13, b14, b15, b16, b17, b18, b19, b20, b21, fun q => (d40 q).elim, fun _ _ => rfl, b24, fun q => (d4l q).elim, fun _ q => (d41 q).elim, fun _ q => (d4l q).elim, fun q => (d423 q).elim, b29⟩
theorem AI_alert {bd s c : Int} {A : SA} (ai : AI bd s A) (hc : 0 ≤ c ∧ c < 256) : AI bd s (alertA s c A) := AI_note (ai.snd ai.ep (by decide) (by simp only [oct_cons]; exact ⟨hc, oct_nil⟩) (show 1 ≤ 86 by decide)) hc
theorem AI_raise {bd s c : Int} {A : SA} (ai : AI bd s A) (hc : 0 ≤ c ∧ c < 256) : AI bd s (raiseA s c A) := AI_die (AI_alert ai hc)
theorem ms_raise {bd s c : Int} {A : SA} {J : zM} {L : yM} {Q : zM → yM → Prop} (hs : s01 s) (h : MS s J L A) (ai : AI bd s A) (hc : 0 < c ∧ c < 256) (hQ : ∀ J', MS s J' L (raiseA s c A) → MO s J L J' L → Q J' L) : w_X12_raise s c J L Q := by
  unfold w_X12_raise
  exact ms_alert hs h ai hc (fun J1 h1 o1 => ms_die hs h1 (fun J' k1 k2 => hQ J' k1 (o1.tr k2)))
