/-! a FRAGMENT comes: what becomes of a side -/
def fKd (c : List Int) : Int := c.getD 0 0
def fLn (c : List Int) : Int := 256 * c.getD 1 0 + c.getD 2 0
def fN (c : List Int) : Int := c.getD 3 0
def fFr (c : List Int) : Int := 256 * c.getD 4 0 + c.getD 5 0
def fCn (c : List Int) : Int := 256 * c.getD 6 0 + c.getD 7 0
abbrev frW (c : List Int) : Prop := 8 ≤ c.length ∧ (c.length : Int) = 8 + fCn c ∧ 0 < fCn c ∧ fFr c + fCn c ≤ fLn c
abbrev kOn (s ep k : Int) : Prop := (s = 1 ∧ ((k = 1 ∧ ep = 0) ∨ (k = 20 ∧ ep = 2))) ∨ (s = 0 ∧ ((k = 2 ∧ ep = 0) ∨ (k = 6 ∧ ep = 0) ∨ (k = 8 ∧ ep = 2) ∨ (k = 20 ∧ ep = 2)))
abbrev sndF (s ep : Int) (c : List Int) : Prop := kOn s ep (fKd c) ∧ kLen (fKd c) (fLn c) ∧ (fKd c = 1 → fCn c = fLn c ∧ fN c ≤ 1)
abbrev toK (n : Int) (A : SA) : Prop := aZ A 0 = 1 ∧ aZ A 2 ≤ n ∧ n < aZ A 2 + 5
abbrev agr (c : List Int) (A : SA) : Prop := (aK A (fN c)).1 = -1 ∨ ((aK A (fN c)).1 = fKd c ∧ (aK A (fN c)).2.1 = fLn c)
abbrev goodF (s ep : Int) (c : List Int) (A : SA) : Prop := frW c ∧ sndF s ep c ∧ (toK (fN c) A → agr c A)
def listA (ep nm : Int) (A : SA) : SA := uz 14 (aZ A 17) (ul (addLi (aL A) (ep, nm)) A)
def agnA (s : Int) (A : SA) : SA := if aZ A 10 = 1 ∧ aZ A 9 < 8 ∧ aZ A 8 < aZ A 17 then flyA s (uz 6 (aZ A 6 + 1) (uz 9 (aZ A 9 + 1) A)) else A
abbrev opn (A : SA) : Prop := aZ A 0 = 2 ∨ aZ A 0 = 3
def oldA (s k : Int) (A : SA) : SA := if s = 1 ∧ opn A then acksA s A else if (s = 1 ∧ k = 1) ∨ (s = 0 ∧ opn A) then agnA s A else A
def keepF (c : List Int) (A : SA) : SA := keepA (fN c) (fKd c) (fLn c) (fFr c) (fCn c) (fun i => c.getD (8 + i.toNat) 0) A
def handC (s ep nm : Int) (c : List Int) (A : SA) : SA :=
  if ¬ goodF s ep c A then malA A
  else if aZ A 0 = 0 then (if s = 1 then helS (fN c) (c.drop 8) A else A)
  else if toK (fN c) A then keepF c (listA ep nm A)
  else if fN c < aZ A 2 then oldA s (fKd c) (listA ep nm A)
  else listA ep nm A
theorem keepA_b {n kd ln fr cn : Int} {b b' : Int → Int} {A : SA} (h : ∀ i, 0 ≤ i → i < cn → b i = b' i) : keepA n kd ln fr cn b A = keepA n kd ln fr cn b' A := by
  have e : keepQ kd ln fr cn b (aK A n) = keepQ kd ln fr cn b' (aK A n) := by
    unfold keepQ
    have : (fun i : Int => if fr ≤ i ∧ i < fr + cn then b (i - fr) else (if (aK A n).1 = -1 then (kd, ln, fun _ => 0, fun _ => 0) else aK A n : KQ).2.2.2 i) = (fun i : Int => if fr ≤ i ∧ i < fr + cn then b' (i - fr) else (if (aK A n).1 = -1 then (kd, ln, fun _ => 0, fun _ => 0) else aK A n : KQ).2.2.2 i) := by
      funext i
      by_cases q : fr ≤ i ∧ i < fr + cn
      · rw [if_pos q, if_pos q, h _ (by omega) (by omega)]
      · rw [if_neg q, if_neg q]
    show (_, _, _, _) = (_, _, _, _)
    rw [this]
  unfold keepA
  rw [e]
theorem f_b {c : List Int} (h : oct c) : (0 ≤ fKd c ∧ fKd c < 256) ∧ (0 ≤ fLn c ∧ fLn c < 65536) ∧ (0 ≤ fN c ∧ fN c < 256) ∧ (0 ≤ fFr c ∧ fFr c < 65536) ∧ (0 ≤ fCn c ∧ fCn c < 65536) := by
  have a0 := oct1 h 0
  have a1 := oct1 h 1
  have a2 := oct1 h 2
  have a3 := oct1 h 3
  have a4 := oct1 h 4
  have a5 := oct1 h 5
  have a6 := oct1 h 6
  have a7 := oct1 h 7
  unfold fKd fLn fN fFr fCn
  omega
theorem AI_list {bd s ep nm : Int} {A : SA} (ai : AI bd s A) (hep : ep3 ep) (hn : 0 ≤ nm ∧ nm < 65536) : AI bd s (listA ep nm A) := by
  have b17 := ai.b17
  obtain ⟨h1, h2, h3, h4, h5, h6, h7⟩ := ai
  refine ⟨⟨h1.1, h1.2.1, h1.2.2.1, h1.2.2.2.1, h1.2.2.2.2.1, h1.2.2.2.2.2.1, h1.2.2.2.2.2.2.1, h1.2.2.2.2.2.2.2.1, h1.2.2.2.2.2.2.2.2.1, h1.2.2.2.2.2.2.2.2.2.1, h1.2.2.2.2.2.2.2.2.2.2.1, h1.2.2.2.2.2.2.2.2.2.2.2.1, h1.2.2.2.2.2.2.2.2.2.2.2.2.1, h1.2.2.2.2.2.2.2.2.2.2.2.2.2.1, ⟨b17.1, Int.le_refl _⟩, h1.2.2.2.2.2.2.2.2.2.2.2.2.2.2.2⟩, h2, h3, h4, h5, ?_, h7⟩
  show AIl (addLi (aL A) (ep, nm))
  unfold addLi
  refine ⟨?_, fun q hq => ?_⟩
  · rw [List.length_append]
    have := h6.1
    show _ + 1 ≤ 8
    split
    · rw [List.length_drop]; omega
    · omega
  · rcases List.mem_append.mp hq with q1 | q1
    · refine h6.2 q ?_
      split at q1
      · exact List.mem_of_mem_drop q1
      · exact q1
    · rw [List.mem_singleton.mp q1]
      exact ⟨hep, hn⟩
theorem XS.li {e : Nat} {s v : Int} {l : List (Int × Int)} {A : SA} {J J' : zM} {L : yM} (he : iSide e) (h : XS e s J L A) (h1 : XLi e J' l) (h2 : J' (e + 33) 3 = v) (f : zF (fun a => e + 33 ≤ a ∧ a ≤ e + 35) J J') : XS e s J' L (uz 14 v (ul l A)) ∧ XO e J L J' L := by
  have he2 : 139 ≤ e := by unfold iSide at he; omega
  obtain ⟨a0, a1, a2, a3, a4, a5, a6, a7, a8, a9, a10⟩ := h
  have r : ∀ a, ¬ (e + 33 ≤ a ∧ a ≤ e + 35) → J' a = J a := fun a ha => f a ha
  have g : XS e s J' L (uz 14 v (ul l A)) := by
    refine ⟨a0.fr (r e (by omega)), a1.fr (r (e + 1) (by omega)) rfl, a2.fr (fun a p q => r a (by omega)), a3.fr (fun a p q => r a (by omega)) (fun k _ => by rw [r (e + 8) (by omega)]), a4.fr (fun a p q => r a (by omega)), ⟨h1, h2⟩, ?_, a7.fr he (fun a p q => r a (by omega)), a8.fr (fun a p q => r a (by omega)) (r (e + 167) (by omega)), a9.fr (fun x p => r x ?_) (by rw [r _ (by omega)]), a10.fr (fun x p q => r x (by omega)) (fun _ _ _ => rfl)⟩
    · intro k hk
      rw [r (e + 37) (by omega)]
      have := a6 k hk
      rw [this]
      show _ = if 21 + k = 14 then v else _
      rw [if_neg (by omega)]
      rfl
    · rcases p with p | p | p | p | p
      · omega
      · omega
      · omega
      · omega
      · have := wy_out he p; omega
  exact ⟨g, XO.F f (fun a q => Or.inl (by omega))⟩
/-! in the class -/
theorem x_short {J : zM} {L : yM} {i : Int} {x y : Int} {Q : Int → zM → yM → Prop} (h0 : 0 ≤ i) (h1 : i + 1 < J 3 1) (h2 : J 3 1 ≤ 500) (hx : J 4 i = x) (hy : J 4 (i + 1) = y) (bx : 0 ≤ x ∧ x < 256) (by_ : 0 ≤ y ∧ y < 256) (hQ : Q (256 * x + y) J L) : w_X1_shortAt i J L Q := by
  unfold w_X1_shortAt
  refine ⟨⟨by omega, by omega⟩, ?_⟩
  rw [if_neg (by omega)]
  refine ⟨⟨by omega, by omega⟩, ⟨by omega, by omega⟩, ?_⟩
  rw [if_pos h1, hx, hy, zor_256 (by omega) by_, Int.mul_comm]
  exact ⟨⟨h0, by omega⟩, ⟨by omega, by omega⟩, hQ⟩
def FR (J : zM) (c : List Int) : Prop := J 3 9 = fKd c ∧ J 3 10 = fLn c ∧ J 3 11 = fN c ∧ J 3 12 = fFr c ∧ J 3 13 = fCn c ∧ J 3 14 = J 3 7 + 8
theorem x_readFragment {J : zM} {L : yM} {ep : Int} {c : List Int} {Q : Int → zM → yM → Prop} (hc : XC J ep c) (hl : J 3 7 + (c.length : Int) ≤ J 3 1 ∧ J 3 1 ≤ 500) (hQ0 : ∀ J', ¬ frW c → (∀ k, ¬ (9 ≤ k ∧ k ≤ 14) → J' 3 k = J 3 k) → zF (fun a => a = 3) J J' → Q 0 J' L) (hQ1 : ∀ J', frW c → FR J' c → (∀ k, ¬ (9 ≤ k ∧ k ≤ 14) → J' 3 k = J 3 k) → zF (fun a => a = 3) J J' → Q 1 J' L) : w_X1_readFragment J L Q := by
  have h7 := hc.2.2.1
  have ob := hc.2.2.2.2.2
  have h8 : J 3 8 = (c.length : Int) := hc.2.1
  obtain ⟨b0, b1, b2, b3, b4⟩ := f_b ob
  unfold w_X1_readFragment
  rw [h8]
  refine ⟨⟨by omega, by omega⟩, ?_⟩
  by_cases c8 : (c.length : Int) < 8
  · rw [if_pos c8]
    exact hQ0 J (fun q => by have := q.1; omega) (fun _ _ => rfl) (fun a _ => rfl)
  · rw [if_neg c8]
    have c9 : 8 ≤ c.length := by omega
    have G : ∀ i : Nat, i < 8 → J 4 (J 3 7 + (i : Int)) = c.getD i 0 := fun i hi => hc.get (by omega)
    have g0 : J 4 (J 3 7) = fKd c := by have := G 0 (by decide); rw [show J 3 7 + ((0 : Nat) : Int) = J 3 7 by omega] at this; exact this
    obtain ⟨o, ho⟩ : ∃ o, o = J 3 7 := ⟨_, rfl⟩
    rw [← ho] at h7 hl g0 G ⊢
    obtain ⟨m, hm⟩ : ∃ m, m = J 3 1 := ⟨_, rfl⟩
    rw [← hm] at hl
    have P : ∀ (J' : zM), zF (fun a => a = 3) J J' → J' 4 = J 4 := fun J' f => f 4 (by decide)
    refine ⟨⟨by omega, by omega⟩, fun J1 e1 => ?_⟩
    rw [g0] at e1
    have f1 : zF (fun a => a = 3) J J1 := fun a ha => by rw [e1]; exact zs_r J ha
    have k1 : ∀ k, k ≠ 9 → J1 3 k = J 3 k := fun k hk => by rw [e1]; exact zs_n J (Or.inr hk)
    have v9 : J1 3 9 = fKd c := by rw [e1]; exact zs_s _ _ _ _
    clear e1
    rw [k1 7 (by decide), ← ho]
    refine x_short (x := c.getD 1 0) (y := c.getD 2 0) (by omega) (by rw [k1 1 (by decide), ← hm]; omega) (by rw [k1 1 (by decide), ← hm]; omega) (by rw [P J1 f1]; exact G 1 (by decide)) (by rw [P J1 f1, Int.add_assoc]; exact G 2 (by decide)) (oct1 ob 1) (oct1 ob 2) (fun J2 e2 => ?_)
    have f2 : zF (fun a => a = 3) J J2 := fun a ha => by rw [e2, zs_r _ ha]; exact f1 a ha
    have k2 : ∀ k, k ≠ 9 → k ≠ 10 → J2 3 k = J 3 k := fun k hk hk2 => by rw [e2, zs_n _ (Or.inr hk2)]; exact k1 k hk
    have v9 : J2 3 9 = fKd c := by rw [e2, zs_n _ (Or.inr (by decide))]; exact v9
    have v10 : J2 3 10 = fLn c := by rw [e2]; exact zs_s _ _ _ _
    clear e2 k1 f1
    rw [k2 7 (by decide) (by decide), ← ho, P J2 f2, show J 4 (o + 3) = fN c from G 3 (by decide)]
    refine ⟨⟨by omega, by omega⟩, fun J3 e3 => ?_⟩
    have f3 : zF (fun a => a = 3) J J3 := fun a ha => by rw [e3, zs_r _ ha]; exact f2 a ha
    have k3 : ∀ k, ¬ (9 ≤ k ∧ k ≤ 11) → J3 3 k = J 3 k := fun k hk => by rw [e3, zs_n _ (Or.inr (by omega))]; exact k2 k (by omega) (by omega)
    have v9 : J3 3 9 = fKd c := by rw [e3, zs_n _ (Or.inr (by decide))]; exact v9
    have v10 : J3 3 10 = fLn c := by rw [e3, zs_n _ (Or.inr (by decide))]; exact v10
    have v11 : J3 3 11 = fN c := by rw [e3]; exact zs_s _ _ _ _
    clear e3 k2 f2
    rw [k3 7 (by decide), ← ho]
    refine x_short (x := c.getD 4 0) (y := c.getD 5 0) (by omega) (by rw [k3 1 (by decide), ← hm]; omega) (by rw [k3 1 (by decide), ← hm]; omega) (by rw [P J3 f3]; exact G 4 (by decide)) (by rw [P J3 f3, Int.add_assoc]; exact G 5 (by decide)) (oct1 ob 4) (oct1 ob 5) (fun J4 e4 => ?_)
    have f4 : zF (fun a => a = 3) J J4 := fun a ha => by rw [e4, zs_r _ ha]; exact f3 a ha
    have k4 : ∀ k, ¬ (9 ≤ k ∧ k ≤ 12) → J4 3 k = J 3 k := fun k hk => by rw [e4, zs_n _ (Or.inr (by omega))]; exact k3 k (by omega)
    have v9 : J4 3 9 = fKd c := by rw [e4, zs_n _ (Or.inr (by decide))]; exact v9
    have v10 : J4 3 10 = fLn c := by rw [e4, zs_n _ (Or.inr (by decide))]; exact v10
    have v11 : J4 3 11 = fN c := by rw [e4, zs_n _ (Or.inr (by decide))]; exact v11
    have v12 : J4 3 12 = fFr c := by rw [e4]; exact zs_s _ _ _ _
    clear e4 k3 f3
    rw [k4 7 (by decide), ← ho]
    refine x_short (x := c.getD 6 0) (y := c.getD 7 0) (by omega) (by rw [k4 1 (by decide), ← hm]; omega) (by rw [k4 1 (by decide), ← hm]; omega) (by rw [P J4 f4]; exact G 6 (by decide)) (by rw [P J4 f4, Int.add_assoc]; exact G 7 (by decide)) (oct1 ob 6) (oct1 ob 7) (fun J5 e5 J6 e6 => ?_)
    have f6 : zF (fun a => a = 3) J J6 := fun a ha => by rw [e6, zs_r _ ha, e5, zs_r _ ha]; exact f4 a ha
    have k6 : ∀ k, ¬ (9 ≤ k ∧ k ≤ 14) → J6 3 k = J 3 k := fun k hk => by rw [e6, zs_n _ (Or.inr (by omega)), e5, zs_n _ (Or.inr (by omega))]; exact k4 k (by omega)
    have u : ∀ k, k ≠ 13 → k ≠ 14 → J6 3 k = J4 3 k := fun k p q => by rw [e6, zs_n _ (Or.inr q), e5, zs_n _ (Or.inr p)]
    have v13 : J6 3 13 = fCn c := by rw [e6, zs_n _ (Or.inr (by decide)), e5]; exact zs_s _ _ _ _
    have v14 : J6 3 14 = o + 8 := by rw [e6, zs_s, e5, zs_n _ (Or.inr (by decide)), k4 7 (by decide), ← ho]
    have fr : FR J6 c := ⟨by rw [u 9 (by decide) (by decide)]; exact v9, by rw [u 10 (by decide) (by decide)]; exact v10, by rw [u 11 (by decide) (by decide)]; exact v11, by rw [u 12 (by decide) (by decide)]; exact v12, v13, by rw [v14, k6 7 (by decide), ho]⟩
    clear e5 e6 k4 f4
    rw [v13, k6 8 (by decide), h8, fr.2.2.2.1, fr.2.1]
    refine ⟨⟨by omega, by omega⟩, ?_⟩
    by_cases d1 : 0 < fCn c
    · rw [if_pos d1]
      refine ⟨⟨by omega, by omega⟩, ⟨by omega, by omega⟩, ?_⟩
      by_cases d2 : (c.length : Int) = 8 + fCn c
      · rw [if_pos d2]
        refine ⟨⟨by omega, by omega⟩, ⟨by omega, by omega⟩, ?_⟩
        by_cases d3 : fLn c < fFr c + fCn c
        · rw [if_pos d3]
          exact hQ0 J6 (fun q => by have := q.2.2.2; omega) k6 f6
        · rw [if_neg d3]
          exact hQ1 J6 ⟨c9, d2, d1, by omega⟩ fr k6 f6
      · rw [if_neg d2]
        exact hQ0 J6 (fun q => d2 q.2.1) k6 f6
    · rw [if_neg d1]
      exact hQ0 J6 (fun q => d1 q.2.2.1) k6 f6
