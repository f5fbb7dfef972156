/-! sending, by sides -/
def AIz (s bd : Int) (z : Nat → Int) (ll wl fm cl : Nat) : Prop :=
  (0 ≤ z 0 ∧ z 0 ≤ 4) ∧ (z 1 = 2 ∨ z 1 = 8 ∨ z 1 = 20) ∧ (0 ≤ z 2 ∧ z 2 ≤ 256) ∧ (-1 ≤ z 3 ∧ z 3 < 256) ∧ (z 4 = 0 ∨ z 4 = 1) ∧ (0 ≤ z 5 ∧ z 5 ≤ bd)
  ∧ ((wl : Int) ≤ 100 ∧ (wl : Int) ≤ z 5 ∧ ((wl : Int) = z 5 ∨ wl = 100)) ∧ (z 10 = 1 → (z 7 = 4 ∨ z 7 = 8 ∨ z 7 = 16 ∨ z 7 = 32) ∧ live (z 0)) ∧ (0 ≤ z 8 ∧ z 8 ≤ z 17)
  ∧ (0 ≤ z 9 ∧ z 9 ≤ 8) ∧ (z 10 = 0 ∨ z 10 = 1) ∧ (0 ≤ z 11 ∧ z 11 ≤ 2) ∧ (z 12 = 0 ∨ z 12 = 1) ∧ (z 13 = 0 ∨ z 13 = 2 ∨ z 13 = 3) ∧ (0 ≤ z 14 ∧ z 14 ≤ z 17)
  ∧ (0 ≤ z 15 ∧ z 15 < 2147483647) ∧ (0 ≤ z 16 ∧ z 16 < 2147483647) ∧ (0 ≤ z 17 ∧ z 17 ≤ bd) ∧ (100 ≤ z 18 ∧ z 18 ≤ 500) ∧ (z 19 = 0 ∨ z 19 = 1) ∧ (z 20 = 0 ∨ z 20 = 1)
  ∧ ((ll : Int) ≤ 204 * (z 9 + 1)) ∧ (z 0 = 0 → z 11 = 0 ∧ z 15 = 0 ∧ z 16 = 0 ∧ z 10 = 0 ∧ z 13 = 0 ∧ z 2 = 0 ∧ (s = 0 → z 1 = 2) ∧ cl = 0 ∧ fm = 0) ∧ (s = 1 → (z 0 = 2 ∨ z 0 = 3) → z 10 = 0) ∧ (s = 1 → z 1 = 20)
  ∧ (live (z 0) → 0 < fm) ∧ (s = 0 → z 0 = 1 → (z 1 = 2 → z 13 = 0) ∧ (z 1 ≠ 2 → z 13 = 2)) ∧ (s = 1 → live (z 0) → z 13 = 3) ∧ ((z 0 = 2 ∨ z 0 = 3) → z 13 = 3) ∧ (cl = 0 → z 12 = 0)
def AIy (y : Nat → List Int) : Prop := ((y 0).length = 16 ∧ oct (y 0)) ∧ ((y 1).length = 8 ∧ oct (y 1)) ∧ ((y 2).length = 8 ∧ oct (y 2)) ∧ ((y 3).length ≤ 150 ∧ oct (y 3)) ∧ ((y 4).length = 16 ∧ oct (y 4)) ∧ (((y 5).length = 0 ∨ (y 5).length = 16) ∧ oct (y 5)) ∧ ∀ k, 10 ≤ k → k < 24 → (y k).length = 32 ∧ oct (y k)
def AIm (s : Int) (z : Nat → Int) (y : Nat → List Int) : Prop := (live (z 0) → y 6 ≠ [] ∧ (y 6).length ≤ 80 ∧ (y 7).length ≤ 23 ∧ (y 8).length ≤ 155 ∧ (y 9).length ≤ 35) ∧ (s = 0 → z 0 = 1 → (z 1 = 2 → y 7 = [] ∧ y 8 = [] ∧ y 9 = []) ∧ (z 1 = 8 → y 7 ≠ [] ∧ y 8 = [] ∧ y 9 = []) ∧ (z 1 = 20 → y 7 ≠ [] ∧ y 8 ≠ [] ∧ y 9 = [])) ∧ (s = 1 → live (z 0) → y 7 ≠ [] ∧ y 8 ≠ [] ∧ y 9 ≠ [])
def AIf (z : Nat → Int) (F : FLT) (lg : LGT) : Prop := flOk F.1 F.2.1 F.2.2.1 F.2.2.2.1 ∧ (∀ i, F.2.2.2.2 i = 0 ∨ F.2.2.2.2 i = 1) ∧ logOk F.1 F.2.2.2.1 lg ∧ ∀ f, f < F.1 → epK (F.2.1 f) ≠ 0 → z 13 = 3
abbrev kLen (k l : Int) : Prop := (k = 1 ∧ (l = 61 ∨ l = 77)) ∨ (k = 2 ∧ l = 20) ∨ (k = 6 ∧ l = 16) ∨ (k = 8 ∧ 2 ≤ l ∧ l ≤ 152) ∨ (k = 20 ∧ l = 32)
def AIk (z : Nat → Int) (K : KPT) : Prop := ∀ n, z 2 ≤ n → (K n).1 ≠ -1 → z 0 ≠ 0 ∧ n < z 2 + 5 ∧ n < 256 ∧ kLen (K n).1 (K n).2.1 ∧ ∀ i, ((K n).2.2.1 i = 0 ∨ (K n).2.2.1 i = 1) ∧ ((K n).2.2.1 i = 1 → (0 ≤ i ∧ i < (K n).2.1) ∧ 0 ≤ (K n).2.2.2 i ∧ (K n).2.2.2 i < 256)
def AIl (l : List (Int × Int)) : Prop := l.length ≤ 8 ∧ ∀ q ∈ l, ep3 q.1 ∧ 0 ≤ q.2 ∧ q.2 < 65536
def AIn (W : WNT) : Prop := ∀ ep, ep3 ep → -1 ≤ W.1 ep ∧ W.1 ep < 65536
def AIt (t : FS) : Prop := netOk t.1 ∧ (∀ ep, ep3 ep → 0 ≤ t.2.2.1 ep ∧ t.2.2.1 ep ≤ 65536) ∧ t.2.2.2.1 = []
def AIw (W : List (List Int)) : Prop := ∀ w ∈ W, w.length ≤ 60
abbrev flK (s k l : Int) : Prop := (s = 0 ∧ ((k = 1 ∧ l ≤ 77) ∨ (k = 20 ∧ l ≤ 32))) ∨ (s = 1 ∧ ((k = 2 ∧ l ≤ 20) ∨ (k = 8 ∧ l ≤ 152) ∨ (k = 20 ∧ l ≤ 32)))
def AIg (s : Int) (F : FLT) : Prop := ∀ f, f < F.1 → flK s (F.2.1 f) ((F.2.2.2.1 f).length : Int)
def AI (bd s : Int) (A : SA) : Prop := AIz s bd (aZ A) (aT A).2.2.2.2.length (aW A).length (aF A).1 (aY A 5).length ∧ AIy (aY A) ∧ AIm s (aZ A) (aY A) ∧ AIf (aZ A) (aF A) (aT A).2.2.2.2 ∧ AIk (aZ A) (aK A) ∧ AIl (aL A) ∧ AIn (aN A) ∧ AIt (aT A) ∧ AIw (aW A) ∧ AIg s (aF A)
theorem AI.tok {bd s : Int} {A : SA} (h : AI bd s A) : tOk (aF A).1 (aF A).2.2.2.1 (aZ A 18) (aT A) := by
  obtain ⟨hz, _, _, hf, _, _, _, ht, _, _⟩ := h
  refine ⟨ht.1, ht.2.1, ?_, hf.2.2.1⟩
  rw [ht.2.2]
  refine ⟨oct_nil, ?_⟩
  have : 100 ≤ aZ A 18 := hz.2.2.2.2.2.2.2.2.2.2.2.2.2.2.2.2.2.2.1.1
  show ((0 : Nat) : Int) ≤ _
  omega
theorem AI.z {bd s : Int} {A : SA} (h : AI bd s A) : AIz s bd (aZ A) (aT A).2.2.2.2.length (aW A).length (aF A).1 (aY A 5).length := h.1
/-- a record is sent in a datagram of its own -/
def sndE (s ep ty : Int) (content : List Int) (A : SA) : SA := ut (flushS (putS (kfA s A) (mfA s A) ep ty content (aT A))) A
def flyA (s : Int) (A : SA) : SA := uz 8 (aZ A 17) (ut (flushS (flyR (aZ A 18) (kfA s A) (mfA s A) (aF A).1 (aF A).2.1 (aF A).2.2.1 (aF A).2.2.2.1 (aF A).2.2.2.2 (fs (aF A).2.2.2.1 (aF A).1) 0 (aT A))) A)
theorem AI.ut {bd s : Int} {A : SA} {t : FS} (h : AI bd s A) (ht : tOk (aF A).1 (aF A).2.2.2.1 (aZ A 18) t) (hd : t.2.2.2.1 = []) (hl : t.2.2.2.2 = (aT A).2.2.2.2) : AI bd s (ut t A) := by
  obtain ⟨h1, h2, h3, h4, h5, h6, h7, h8, h9⟩ := h
  refine ⟨?_, h2, h3, ⟨h4.1, h4.2.1, ht.2.2.2, h4.2.2.2⟩, h5, h6, h7, ⟨ht.1, ht.2.1, hd⟩, h9⟩
  show AIz s bd (aZ A) t.2.2.2.2.length _ _ _
  rw [hl]
  exact h1
theorem AI.snd {bd s ep ty : Int} {A : SA} {content : List Int} (h : AI bd s A) (hep : ep3 ep) (ht : 0 ≤ ty ∧ ty < 256) (hc : oct content) (hl : content.length ≤ 86) : AI bd s (sndE s ep ty content A) := by
  have hm : 100 ≤ aZ A 18 ∧ aZ A 18 ≤ 500 := h.1.2.2.2.2.2.2.2.2.2.2.2.2.2.2.2.2.2.2.1
  have hd := h.2.2.2.2.2.2.2.1.2.2
  refine h.ut ((h.tok.put hm.2 hep ht hc ?_).flush hm.2 (by omega)) (flushS_dg _) (by rw [flushS_lg, putS_lg])
  rw [hd]
  show ((0 : Nat) : Int) + _ + _ ≤ _
  split <;> omega
theorem XKy_of {e : Nat} {s : Int} {J : zM} {A : SA} (hs : s01 s) (h : X44 e J (aZ A) (aY A)) : XKy e s J (kfA s A) (mfA s A) := by
  intro ep hep
  have hi : (2 * (ep - 2) + s).toNat < 4 := by omega
  exact h.2.2.2.2.1 _ hi
/-- the class has sent something, not of a FLIGHT -/
theorem XS.sent {e : Nat} {s : Int} {J J' : zM} {L : yM} {A : SA} {t : FS} (he : iSide e) (h : XS e s J L A) (ht : XSn e J' (aF A).2.2.2.1 t) (g : ∀ k, k ≠ 7 → k ≠ 8 → J' (e + 168) k = J (e + 168) k) (f : ∀ a, 11 ≤ a → a ≠ e + 166 → ¬ (e + 168 ≤ a ∧ a ≤ e + 171) → ¬ cR (wy e) a → J' a = J a) : XS e s J' L (ut t A) := by
  obtain ⟨h0, h1, h2, h3, h4, h5, h6, h7, h8, h9, h10⟩ := h
  have he2 : 139 ≤ e := by unfold iSide at he; omega
  have f' : ∀ a, e ≤ a → a ≠ e + 166 → ¬ (e + 168 ≤ a ∧ a ≤ e + 171) → J' a = J a := fun a p q r => f a (by omega) q r (fun u => by have := wy_out he u; omega)
  exact ⟨h0.fr (f' _ (by omega) (by omega) (by omega)), h1.fr (f' _ (by omega) (by omega) (by omega)) rfl, h2.fr (fun a p q => f' a (by omega) (by omega) (by omega)), h3.fr (fun a p q => f' a (by omega) (by omega) (by omega)) (fun k _ => by rw [f' _ (by omega) (by omega) (by omega)]), h4.fr (fun a p q => f' a (by omega) (by omega) (by omega)), h5.fr (fun a p q => f' a (by omega) (by omega) (by omega)), h6.fr (f' _ (by omega) (by omega) (by omega)), h7.fr he (fun a p q => f' a (by omega) (by omega) (by omega)), h8.fr (fun a p q => f' a (by omega) (by omega) (by omega)) (f' _ (by omega) (by omega) (by omega)), ⟨by rw [g 0 (by decide) (by decide)]; exact h9.1, by rw [g 6 (by decide) (by decide)]; exact h9.2.1, ht⟩, h10.fr (fun a p q => f' a (by omega) (by omega) (by omega)) (fun _ _ _ => rfl)⟩
theorem cX_in {e a : Nat} (h : (6 ≤ a ∧ a ≤ 10) ∨ (e ≤ a ∧ a < e + 176) ∨ cR (wy e) a) : cX e a := by
  rcases h with h | h | h
  · exact Or.inr (Or.inr (by omega))
  · exact Or.inl h
  · exact Or.inr (Or.inl h)
theorem xs_snd {e : Nat} {bd s ep ty : Int} {content : List Int} {A : SA} {J : zM} {L : yM} {Q : Int → zM → yM → Prop} (he : iSide e) (hs : s01 s) (h : XS e s J L A) (ai : AI bd s A) (hep : ep3 ep) (hc : sg J (e + 170) 0 content.length = content) (hl : content.length ≤ 86) (hQ : ∀ J', XS e s J' L (sndE s ep ty content A) → XO e J L J' L → Q (if 65535 < (aT A).2.2.1 ep then -1 else (aT A).2.2.1 ep) J' L) : w_X6_putRecord e ep ty (content.length : Int) J L (fun r J1 L1 => w_X6_flush e J1 L1 (fun J2 L2 => Q r J2 L2)) := by
  have h9 := h.2.2.2.2.2.2.2.2.2.1
  have hm : 100 ≤ aZ A 18 ∧ aZ A 18 ≤ 500 := ai.1.2.2.2.2.2.2.2.2.2.2.2.2.2.2.2.2.2.2.1
  have hd := ai.2.2.2.2.2.2.2.1.2.2
  refine s_putRec he hs h9.1 hep h9.2.2 (XKy_of hs h.2.2.2.2.2.2.2.2.1) hc (by rw [h9.2.1]; omega) ?_ (fun J1 g1 g2 g3 => ?_)
  · rw [hd, h9.2.1]
    show ((0 : Nat) : Int) + _ + _ ≤ _
    split <;> omega
  · refine s_flushT he g1 (fun J2 k1 k2 k3 => ?_)
    refine hQ J2 ?_ ?_
    · refine h.sent he k1 (fun k q7 q8 => (k2 k q7 q8).trans (g2 k q7)) (fun a p1 p2 p3 p4 => ?_)
      rw [k3 a (fun u => u.elim p4 (by omega)), g3 a (by omega)]
    · refine ⟨fun a ha => ?_, fun _ _ => rfl⟩
      have ha' : ¬ ((6 ≤ a ∧ a ≤ 10) ∨ (e ≤ a ∧ a < e + 176) ∨ cR (wy e) a) := fun u => ha (cX_in u)
      rw [k3 a (fun u => u.elim (fun v => ha' (Or.inr (Or.inr v))) (by omega)), g3 a (by omega)]
/-! the same in the model -/
abbrev scr (a : Nat) : Prop := (497 ≤ a ∧ a ≤ 502) ∨ a = 508 ∨ a = 513 ∨ a = 515 ∨ a = 516 ∨ a = 550
abbrev scT (k : Int) : Prop := k = 13 ∨ k = 30 ∨ k = 33 ∨ k = 70
theorem scr_own {u : Int} {S : Nat → Prop} {T : Int → Prop} {J J' : zM} (f : mF S T J J') (hS : ∀ a, S a → scr a) (hT : ∀ k, T k → scT k) : ∀ a i, mOwn u a i → J' a i = J a i := by
  intro a i ho
  by_cases q : a = 491
  · subst q
    refine f.2 i (fun ht => ?_)
    have h1 := hT i ht
    have h2 := ow491 ho
    omega
  · rw [f.1 a (fun hs => by have h1 := hS a hs; have h2 := own_cell ho; omega) q]
theorem MS.scr {s : Int} {S : Nat → Prop} {T : Int → Prop} {J J' : zM} {L : yM} {A : SA} (hs : s01 s) (hd : (aT A).2.2.2.1 = []) (hl : (aT A).2.2.2.2.length ≤ 1836) (h : MS s J L A) (f : mF S T J J') (hS : ∀ a, S a → scr a) (hT : ∀ k, T k → scT k) (h30 : J' 491 30 = 0) : MS s J' L A ∧ MO s J L J' L := by
  have g := fun a (ha : 509 ≤ a ∧ a ≤ 511) => f.1 a (fun q => by have := hS a q; omega) (by omega)
  have n := mN_fr (g 509 (by omega)) (g 510 (by omega)) (g 511 (by omega))
  refine ⟨h.fr hs hd hl (scr_own f hS hT) (fun _ _ _ => rfl) (n _) (mI_fr (g 509 (by omega)) (g 510 (by omega)) h.2.2.2.2.2.2.2.2.2.1.1.2) h30, scr_own f hS hT, fun _ _ _ => rfl, n _, by rw [g 509 (by omega)], fun hi => mI_fr (g 509 (by omega)) (g 510 (by omega)) hi, fun _ => h30, fun a ha => ⟨f.1 a (fun q => by have := hS a q; omega) (by omega), rfl⟩⟩
theorem putS_cg {kf mf kf' mf' : Int → List Int} {ep ty : Int} {c : List Int} {t : FS} (h1 : ep ≠ 0 → kf ep = kf' ep) (h2 : ep ≠ 0 → mf ep = mf' ep) : putS kf mf ep ty c t = putS kf' mf' ep ty c t := by
  unfold putS
  by_cases q : ep = 0
  · subst q
    rw [recI_0 ty (t.2.2.1 0) (kf 0) (mf 0) (kf' 0) (mf' 0) c]
  · rw [h1 q, h2 q]
theorem oct_sub {J : zM} {a : Nat} {i i' : Int} {c c' : Nat} (h : oct (sg J a i c)) (h1 : i ≤ i') (h2 : i' + (c' : Int) ≤ i + (c : Int)) : oct (sg J a i' c') := oct_sg.mpr (fun k p q => oct_sg.mp h k (by omega) (by omega))
/-- the model has sent something, not of a FLIGHT -/
theorem MS.sent {s : Int} {J J' : zM} {L : yM} {A : SA} {t : FS} (hs : s01 s) (h : MS s J L A) (ht : MSn s J' t) (hd : t.2.2.2.1 = []) (f : mF (fun a => cRec a ∨ a = 515 ∨ (509 ≤ a ∧ a ≤ 512)) tSm J J') (g1 : ∀ k, ¬ (4 * s ≤ k ∧ k < 4 * s + 4) → J' 514 k = J 514 k) (g2 : mN s J' = mN s J) (g3 : ∀ u, u ≠ s → J' 512 u = J 512 u) (g4 : J' 509 s = J 509 s) : MS s J' L (ut t A) ∧ MO s J L J' L := by
  have c : ∀ (C : Nat → Prop), (∀ a, C a → a ≠ 491 → ¬ (cRec a ∨ a = 515 ∨ (509 ≤ a ∧ a ≤ 512))) → oEq s C J J' := fun C hC => oEq.F f hC (fun _ i hi ht => by unfold tSm at ht; omega)
  obtain ⟨a0, a1, a2, a3, a4, a5, a6, a7, a8, a9, a10, a11, a12⟩ := h
  have h30 : J' 491 30 = 0 := by have := ht.2.2.2.1.1.1; rw [hd] at this; exact this
  refine ⟨⟨a0.fr (c _ (by omega)) (fun _ _ _ => rfl), a1.fr (c _ (by omega)), a2.fr (c _ (by omega)), a3.fr hs (c _ (by omega)), ⟨a4.1.fr hs (c _ (by omega)), a4.2.fr (c _ (by omega))⟩, a5.fr (c _ (by omega)), a6.fr (c _ (by omega)), a7.fr hs (c _ (by omega)), a8.fr (c _ (by omega)), ht, a10.fr (c _ (by omega)) (fun _ _ _ => rfl), a11.fr (c _ (by omega)), mKa a12 (c _ (by omega))⟩, ?_, fun _ _ _ => rfl, g2, g4, fun _ => ht.1.2, fun _ => h30, fun a ha => ⟨f.1 a (by omega) (by omega), rfl⟩⟩
  intro a i ho
  by_cases q4 : a = 514
  · subst q4
    have := ow4 ho (by omega)
    exact g1 i (by omega)
  · by_cases q2 : a = 512
    · subst q2
      have := ow1 ho (by omega)
      exact g3 i (by omega)
    · by_cases q1 : a = 491
      · subst q1
        refine f.2 i (fun ht => ?_)
        have := ow491 ho
        unfold tSm at ht
        omega
      · have := own_cell ho
        rw [f.1 a (by omega) q1]
theorem MKy_ex {s : Int} {J : zM} {A : SA} (hs : s01 s) (h : M44 s J (aZ A) (aY A)) : ∃ kf mf : Int → List Int, MKy s J kf mf ∧ (2 ≤ aZ A 13 → kf 2 = kfA s A 2 ∧ mf 2 = mfA s A 2) ∧ (3 ≤ aZ A 13 → kf 3 = kfA s A 3 ∧ mf 3 = mfA s A 3) := by
  obtain ⟨_, h2, h3, h4⟩ := h
  refine ⟨fun ep => sg J 492 (kAt s ep) 32, fun ep => sg J 492 (kAt s ep + 32) 32, fun ep hep => ⟨rfl, rfl, oct_sub h4 (by unfold kAt; omega) (by unfold kAt; omega)⟩, fun hz => ?_, fun hz => ?_⟩
  · have q := (h2 hz).2.2 s.toNat (by omega)
    have e1 : kAt s 2 = 1024 * s + 256 + 64 * ((s.toNat : Nat) : Int) := by unfold kAt; omega
    have e2 : (2 * ((2 : Int) - 2) + s).toNat = s.toNat := by omega
    show sg J 492 (kAt s 2) 32 = aY A (16 + (2 * ((2 : Int) - 2) + s).toNat) ∧ sg J 492 (kAt s 2 + 32) 32 = aY A (20 + (2 * ((2 : Int) - 2) + s).toNat)
    rw [e1, e2]
    exact q.2
  · have q := h3 hz (2 + s.toNat) (by omega) (by omega)
    have e1 : kAt s 3 = 1024 * s + 256 + 64 * (((2 + s.toNat : Nat)) : Int) := by unfold kAt; omega
    have e2 : (2 * ((3 : Int) - 2) + s).toNat = 2 + s.toNat := by omega
    show sg J 492 (kAt s 3) 32 = aY A (16 + (2 * ((3 : Int) - 2) + s).toNat) ∧ sg J 492 (kAt s 3 + 32) 32 = aY A (20 + (2 * ((3 : Int) - 2) + s).toNat)
    rw [e1, e2]
    exact q.2
theorem m30 {s : Int} {J : zM} {L : yM} {A : SA} (hd : (aT A).2.2.2.1 = []) (h : MS s J L A) : J 491 30 = 0 := by have := h.2.2.2.2.2.2.2.2.2.1.2.2.2.1.1.1; rw [hd] at this; exact this
theorem ms_snd {bd s ep ty : Int} {content : List Int} {A : SA} {J : zM} {L : yM} {Q : Int → zM → yM → Prop} (hs : s01 s) (h : MS s J L A) (ai : AI bd s A) (hep : ep3 ep) (hz : ep ≤ aZ A 13) (hty : 0 ≤ ty ∧ ty < 256) (hc : mIn J content) (ho : oct content) (hl : content.length ≤ 86) (hQ : ∀ J', MS s J' L (sndE s ep ty content A) → MO s J L J' L → Q (if 65535 < (aT A).2.2.1 ep then -1 else (aT A).2.2.1 ep) J' L) : w_X12_record s ep ty J L (fun r J1 L1 => w_X12_sendMade s J1 L1 (fun J2 L2 => Q r J2 L2)) := by
  have hd := ai.2.2.2.2.2.2.2.1.2.2
  obtain ⟨kf, mf, k1, k2, k3⟩ := MKy_ex hs h.2.2.2.2.2.2.2.2.1
  have hcg : putS kf mf ep ty content (aT A) = putS (kfA s A) (mfA s A) ep ty content (aT A) := by
    refine putS_cg (fun q => ?_) (fun q => ?_)
    · rcases hep with rfl | rfl | rfl
      · exact absurd rfl q
      · exact (k2 hz).1
      · exact (k3 hz).1
    · rcases hep with rfl | rfl | rfl
      · exact absurd rfl q
      · exact (k2 hz).2
      · exact (k3 hz).2
  refine s_recT hs hep hty h.2.2.2.2.2.2.2.2.2.1 (fun _ => k1) hc ho (by omega) ?_ h.2.2.2.2.2.2.2.2.2.2.2.2 (fun J1 g1 g2 g3 => ?_)
  · rw [hd]
    show 0 + _ + _ ≤ _
    split <;> omega
  · rw [hcg] at g1
    refine s_sendT hs g1 (fun J2 q1 q2 q3 q4 => ?_)
    have f : mF (fun a => cRec a ∨ a = 515 ∨ (509 ≤ a ∧ a ≤ 512)) tSm J J2 := (g3.mono (fun a q => Or.inl q) (fun k q => by unfold tRec at q; unfold tSm; omega)).tr (q4.mono (fun a q => Or.inr (Or.inr q)) (fun k q => by unfold t30 at q; unfold tSm; omega))
    have e509 : J1 509 = J 509 := g3.1 509 (by omega) (by omega)
    have e510 : J1 510 = J 510 := g3.1 510 (by omega) (by omega)
    have e511 : J1 511 = J 511 := g3.1 511 (by omega) (by omega)
    have hn : mN s J2 = mN s J := q2.trans (mN_fr e509 e510 e511 s)
    have hlen : J2 509 s = J 509 s := by
      have l1 : (mN s J2).length = (J2 509 s).toNat := mr_len _ _
      have l2 : (mN s J).length = (J 509 s).toNat := mr_len _ _
      rw [hn, l2] at l1
      have b1 := (q1.1.2 s hs).1
      have b2 := (h.2.2.2.2.2.2.2.2.2.1.1.2 s hs).1
      omega
    have r := h.sent hs q1 (flushS_dg _) f (fun k hk => by rw [q4.1 514 (by omega) (by omega)]; exact g2 k hk) hn (fun u hu => by rw [q3 u hu, g3.1 512 (by omega) (by omega)]) hlen
    exact hQ J2 r.1 r.2
