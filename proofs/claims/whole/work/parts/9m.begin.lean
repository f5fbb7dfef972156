/-! begin -/
def bc (A : SA) : Int := if aZ A 19 = 0 then aZ A 11 + 1 else aZ A 11 + 1 + 1
def bs (A : SA) : Int := if aZ A 19 = 0 then aZ A 15 else (pw 7 (numI (chI (aY A 2) 0 (aZ A 11 + 1))) : Int)
def bo (A : SA) : Int := if aZ A 19 = 0 then aZ A 16 else (numI (chI (aY A 2) 0 (aZ A 11 + 1)) : Int)
def br (A : SA) : List Int := (chI (aY A 2) 0 (aZ A 11)).take 16
def drA (A : SA) : SA := uz 11 (bc A) (uz 15 (bs A) (uz 16 (bo A) (uy 4 (br A) A)))
def bgA (A : SA) : SA := uz 0 1 (drA A)
def begA (A : SA) : SA := helloA 0 (bgA A)
theorem uT_uT (m T : List Int) (X : SA) : uT m [] [] [] (uz 0 1 (uT T [] [] [] X)) = uT m [] [] [] (uz 0 1 X) := by
  refine Prod.ext rfl (Prod.ext (funext fun j => ?_) rfl)
  show (if j = 6 then m else if j = 7 then [] else if j = 8 then [] else if j = 9 then [] else (if j = 6 then T else if j = 7 then [] else if j = 8 then [] else if j = 9 then [] else aY X j)) = (if j = 6 then m else if j = 7 then [] else if j = 8 then [] else if j = 9 then [] else aY X j)
  by_cases h6 : j = 6
  · rw [if_pos h6, if_pos h6]
  by_cases h7 : j = 7
  · rw [if_neg h6, if_pos h7, if_neg h6, if_pos h7]
  by_cases h8 : j = 8
  · rw [if_neg h6, if_neg h7, if_pos h8, if_neg h6, if_neg h7, if_pos h8]
  by_cases h9 : j = 9
  · rw [if_neg h6, if_neg h7, if_neg h8, if_pos h9, if_neg h6, if_neg h7, if_neg h8, if_pos h9]
  simp only [h6, h7, h8, h9, if_false]
theorem helB_uT (T : List Int) (X : SA) : helB (uz 0 1 (uT T [] [] [] X)) = helB (uz 0 1 X) := rfl
theorem hello_uT (T : List Int) (X : SA) : helloA 0 (uz 0 1 (uT T [] [] [] X)) = helloA 0 (uz 0 1 X) := by
  unfold helloA
  rw [helB_uT, uT_uT]
theorem dr_flat {c1 s1 o1 c2 s2 o2 : Int} {r : List Int} {A : SA} : uz 11 c2 (uz 15 s2 (uz 16 o2 (uy 4 (aY (uz 11 c1 (uz 15 s1 (uz 16 o1 (uy 4 r A)))) 4) (uz 11 c1 (uz 15 s1 (uz 16 o1 (uy 4 r A))))))) = uz 11 c2 (uz 15 s2 (uz 16 o2 (uy 4 r A))) := by
  refine Prod.ext (funext fun j => ?_) (Prod.ext (funext fun j => ?_) rfl)
  · show (if j = 11 then c2 else if j = 15 then s2 else if j = 16 then o2 else (if j = 11 then c1 else if j = 15 then s1 else if j = 16 then o1 else aZ A j)) = (if j = 11 then c2 else if j = 15 then s2 else if j = 16 then o2 else aZ A j)
    by_cases h1 : j = 11
    · rw [if_pos h1, if_pos h1]
    by_cases h2 : j = 15
    · rw [if_neg h1, if_pos h2, if_neg h1, if_pos h2]
    by_cases h3 : j = 16
    · rw [if_neg h1, if_neg h2, if_pos h3, if_neg h1, if_neg h2, if_pos h3]
    simp only [h1, h2, h3, if_false]
  · show (if j = 4 then r else if j = 4 then r else aY A j) = (if j = 4 then r else aY A j)
    by_cases h1 : j = 4
    · rw [if_pos h1, if_pos h1]
    · rw [if_neg h1, if_neg h1]
theorem br_len (A : SA) : (br A).length = 16 ∧ oct (br A) := by
  refine ⟨?_, oct_take (mcI_oct _ _) 16⟩
  unfold br
  rw [List.length_take, chI_len]
  rfl
theorem bg_y {bd : Int} {A : SA} (ai : AI bd 0 A) : AIy (aY (bgA A)) := by
  obtain ⟨y0, y1, y2, y3, y4, y5, y6⟩ := ai.y
  refine ⟨y0, y1, y2, y3, br_len A, y5, fun k k0 k1 => ?_⟩
  have : aY (bgA A) k = aY A k := if_neg (by omega)
  rw [this]
  exact y6 k k0 k1
theorem bg_z {bd : Int} {A : SA} (ai : AI bd 0 A) (h0 : aZ A 0 = 0) : (0 ≤ bc A ∧ bc A ≤ 2) ∧ (0 ≤ bs A ∧ bs A < 2147483647) ∧ 0 ≤ bo A ∧ bo A < 2147483647 := by
  have r := ai.b22 h0
  have p := pw_lt 7 (numI (chI (aY A 2) 0 (aZ A 11 + 1)))
  have n := numI_b (chI (aY A 2) 0 (aZ A 11 + 1))
  unfold bc bs bo
  refine ⟨?_, ?_, ?_⟩
  · split <;> omega
  · split <;> omega
  · split <;> omega
theorem AIz_beg {bd c sh ow : Int} {z : Nat → Int} {ll wl fm cl : Nat} (h : AIz 0 bd z ll wl fm cl) (h0 : z 0 = 0) (hc : 0 ≤ c ∧ c ≤ 2) (hsh : 0 ≤ sh ∧ sh < 2147483647) (how : 0 ≤ ow ∧ ow < 2147483647) : AIz 0 bd (fun j => if j = 10 then 1 else if j = 9 then 0 else if j = 7 then 4 else if j = 14 then 0 else if j = 12 then 0 else if j = 0 then 1 else if j = 11 then c else if j = 15 then sh else if j = 16 then ow else z j) 0 wl 1 cl := by
  obtain ⟨a0, a1, a2, a3, a4, a5, a6, a7, a8, a9, a10, a11, a12, a13, a14, a15, a16, a17, a18, a19, a20, a21, a22, a23, a24, a25, a26, a27, a28, a29⟩ := h
  have r := a22 h0
  have b1 : z 1 = 2 := r.2.2.2.2.2.2.1 rfl
  have b13 : z 13 = 0 := r.2.2.2.2.1
  refine ⟨show (0 : Int) ≤ 1 ∧ (1 : Int) ≤ 4 by decide, a1, a2, a3, a4, a5, a6, fun _ => ⟨Or.inl rfl, Or.inl rfl⟩, a8, show (0 : Int) ≤ 0 ∧ (0 : Int) ≤ 8 by decide, Or.inr rfl, hc, Or.inl rfl, a13, ⟨Int.le_refl 0, a17.1⟩, hsh, how, a17, a18, a19, a20, show ((0 : Nat) : Int) ≤ 204 * (0 + 1) by decide, fun q => absurd (show (1 : Int) = 0 from q) (by decide), fun q => absurd q (by decide), a24, fun _ => show 0 < 1 by decide, fun _ _ => ⟨fun _ => b13, fun q => absurd (show z 1 = 2 from b1) q⟩, fun q => absurd q (by decide), fun q => absurd (show (1 : Int) = 2 ∨ (1 : Int) = 3 from q) (by decide), fun _ => rfl⟩
theorem AI_beg1 {bd c sh ow : Int} {r b : List Int} {A : SA} (ai : AI bd 0 A) (h0 : aZ A 0 = 0) (hc : 0 ≤ c ∧ c ≤ 2) (hsh : 0 ≤ sh ∧ sh < 2147483647) (how : 0 ≤ ow ∧ ow < 2147483647) (hr : r.length = 16 ∧ oct r) (hb : b.length = 61) (ho : oct b) : AI bd 0 (newA (helF 0 b) (uz 12 0 (uT (msgI 1 b) [] [] [] (uz 0 1 (uz 11 c (uz 15 sh (uz 16 ow (uy 4 r A)))))))) := by
  obtain ⟨m, em⟩ : ∃ m, m = msgI 1 b := ⟨_, rfl⟩
  have hml : m.length = 64 := by rw [em, msgI_len, hb]
  rw [← em]
  clear em
  have b1 : aZ A 1 = 2 := (ai.b22 h0).2.2.2.2.2.2.1 rfl
  obtain ⟨X, hX⟩ : ∃ X, X = newA (helF 0 b) (uz 12 0 (uT m [] [] [] (uz 0 1 (uz 11 c (uz 15 sh (uz 16 ow (uy 4 r A))))))) := ⟨_, rfl⟩
  rw [← hX]
  have eZ : aZ X = fun j => if j = 10 then 1 else if j = 9 then 0 else if j = 7 then 4 else if j = 14 then 0 else if j = 12 then 0 else if j = 0 then 1 else if j = 11 then c else if j = 15 then sh else if j = 16 then ow else aZ A j := by rw [hX]; rfl
  have e6 : aY X 6 = m := by rw [hX]; rfl
  have e7 : aY X 7 = [] := by rw [hX]; rfl
  have e8 : aY X 8 = [] := by rw [hX]; rfl
  have e9 : aY X 9 = [] := by rw [hX]; rfl
  have e4 : aY X 4 = r := by rw [hX]; rfl
  have eY : ∀ k, k ≠ 4 → (k < 6 ∨ 10 ≤ k) → aY X k = aY A k := fun k p q => by
    rw [hX]
    show aY (uT m [] [] [] (uz 0 1 (uz 11 c (uz 15 sh (uz 16 ow (uy 4 r A)))))) k = _
    rw [uT_y q]
    exact if_neg p
  have eF : aF X = helF 0 b := by rw [hX]; rfl
  have eK : aK X = aK A := by rw [hX]; rfl
  have eL : aL X = [] := by rw [hX]; rfl
  have eN : aN X = aN A := by rw [hX]; rfl
  have eT : aT X = logC (aT A) := by rw [hX]; rfl
  have eW : aW X = aW A := by rw [hX]; rfl
  have v0 : aZ X 0 = 1 := by rw [eZ]; rfl
  have v1 : aZ X 1 = aZ A 1 := by rw [eZ]; rfl
  have v2 : aZ X 2 = aZ A 2 := by rw [eZ]; rfl
  clear hX
  refine ⟨?_, ?_, ⟨fun _ => ?_, fun _ _ => ⟨fun _ => ⟨e7, e8, e9⟩, fun q => ?_, fun q => ?_⟩, fun q => absurd q (by decide)⟩, ?_, fun n hn hk => ?_, ?_, ?_, ?_, ?_, ?_⟩
  · rw [eZ, eT, eW, eF, eY 5 (by decide) (by decide)]
    exact AIz_beg ai.1 h0 hc hsh how
  · obtain ⟨y0, y1, y2, y3, y4, y5, y6⟩ := ai.y
    refine ⟨?_, ?_, ?_, ?_, ?_, ?_, fun k k0 k1 => ?_⟩
    · rw [eY 0 (by decide) (by decide)]; exact y0
    · rw [eY 1 (by decide) (by decide)]; exact y1
    · rw [eY 2 (by decide) (by decide)]; exact y2
    · rw [eY 3 (by decide) (by decide)]; exact y3
    · rw [e4]; exact hr
    · rw [eY 5 (by decide) (by decide)]; exact y5
    · rw [eY k (by omega) (by omega)]; exact y6 k k0 k1
  · rw [e6, e7, e8, e9]
    refine ⟨fun q => ?_, by omega, by decide, by decide, by decide⟩
    rw [q] at hml
    exact absurd hml (by decide)
  · rw [v1] at q; omega
  · rw [v1] at q; omega
  · rw [eF, eT]
    refine ⟨⟨show 1 ≤ 3 by decide, fun f hf => ⟨Or.inl rfl, show (0 : Int) ≤ 0 ∧ (0 : Int) < 256 by decide, ?_, ho, ?_⟩, ?_⟩, fun _ => Or.inl rfl, fun q hq => absurd hq List.not_mem_nil, fun f hf q => absurd rfl q⟩
    · show 0 < b.length
      omega
    · show b.length ≤ 157
      omega
    · show 0 + b.length ≤ 204
      omega
  · rw [eK] at hk
    rw [v2] at hn
    exact absurd h0 (ai.2.2.2.2.1 n hn hk).1
  · rw [eL]
    exact ⟨show 0 ≤ 8 by decide, fun q hq => absurd hq List.not_mem_nil⟩
  · rw [eN]; exact ai.2.2.2.2.2.2.1
  · rw [eT]; exact ai.2.2.2.2.2.2.2.1
  · rw [eW]; exact ai.2.2.2.2.2.2.2.2.1
  · rw [eF]
    exact fun f hf => Or.inl ⟨rfl, Or.inl ⟨rfl, by show (b.length : Int) ≤ 77; omega⟩⟩
theorem AI_beg {bd : Int} {A : SA} (ai : AI bd 0 A) (h0 : aZ A 0 = 0) : AI bd 0 (newA (helF 0 (helB (bgA A))) (uz 12 0 (uT (msgI 1 (helB (bgA A))) [] [] [] (bgA A)))) := by
  have hy := bg_y ai
  obtain ⟨z11, z15, z16⟩ := bg_z ai h0
  have r := ai.b22 h0
  have hl := helB_len hy
  have ho := helB_oct hy
  have e5 : (aY (bgA A) 5).length = 0 := r.2.2.2.2.2.2.2.1
  rw [e5] at hl
  exact AI_beg1 (c := bc A) (sh := bs A) (ow := bo A) (r := br A) ai h0 z11 z15 z16 (br_len A) hl ho
theorem nq_beg (A : SA) : NQ A (begA A) := nq_fly rfl (fun _ => (by decide : (0 : Int) < 4))
theorem nx_beg {bd : Int} {A : SA} (ai : AI bd 0 A) (h0 : aZ A 0 = 0) : ¬ nextA (begA A) := by
  intro q
  have w := q.2.1
  have w : (aK A (aZ A 2)).1 ≠ -1 := w
  exact (ai.2.2.2.2.1 (aZ A 2) (Int.le_refl _) w).1 h0
/-- the class begins -/
theorem px_begin {bd : Int} {A : SA} {J : zM} {L : yM} {Q : zM → yM → Prop} {e : Nat} (he : iSide e) (h : XS e 0 J L A) (ai : AI bd 0 A) (h0 : aZ A 0 = 0) (hQ : ∀ J' L', XS e 0 J' L' (begA A) → XO e J L J' L' → Q J' L') : w_X8_drawHello e J L (fun J5 L6 => w_X8_composeHello e 0 J5 L6 (fun J7 L8 => w_X8_startFlight e J7 L8 (fun J9 L10 => w_X8_sendFlight e J9 L10 Q))) := by
  have r := ai.b22 h0
  have b19 := ai.b19
  have he2 : 139 ≤ e := by unfold iSide at he; omega
  unfold w_X8_drawHello
  rw [show J e 0 = 0 from h.1.1]
  refine xs_random he (Or.inl rfl) h ai (fun J1 u1 u2 u3 K5 hK5 => ?_)
  have fin : ∀ (J3 : zM) (L3 : yM), XS e 0 J3 L3 (drA A) → XO e J L J3 L3 → K5 J3 L3 := fun J3 L3 v1 v2 => hK5 J3 L3 (fun J6 e6 => by
    obtain ⟨T, hT⟩ := v1.2.2.2.2.2.2.2.2.1.2.2.2.2.2
    have nl : ¬ live (aZ (drA A) 0) := by show ¬ live (aZ A 0); unfold live; omega
    have n1 : XS e 0 J3 L3 (uT T [] [] [] (drA A)) := v1.nl nl
    have n2 : XS e 0 J6 L3 (uz 0 1 (uT T [] [] [] (drA A))) := by
      rw [e6]
      refine XS_z0 he n1 1 (fun _ => ?_)
      show xTr e J3 (T ++ [] ++ [] ++ [])
      rw [List.append_nil, List.append_nil, List.append_nil]
      exact hT
    have o6 : XO e J L J6 L3 := by rw [e6]; exact v2.tr (XO.zs (Or.inl (by omega)))
    have ab := AI_beg ai h0
    refine xs_hello (bd := bd) he n2 ?_ ?_ ?_ (fun J7 w1 w2 => hQ J7 L3 ?_ (o6.tr w2))
    · obtain ⟨y0, y1, y2, y3, y4, y5, y6⟩ := bg_y ai
      refine ⟨y0, y1, y2, y3, y4, y5, fun k k0 k1 => ?_⟩
      have : aY (uz 0 1 (uT T [] [] [] (drA A))) k = aY (bgA A) k := uT_y (by omega)
      rw [this]
      exact y6 k k0 k1
    · exact (bg_z ai h0).2.1
    · rw [helB_uT, uT_uT]
      exact ab
    · rw [hello_uT] at w1
      exact w1)
  rw [show J1 (e + 1) 6 = aZ A 19 from u1.2.1.2.2.1]
  refine ⟨⟨by omega, by omega⟩, ?_⟩
  by_cases c : aZ A 19 = 0
  · rw [if_pos c]
    refine fin J1 L ?_ u2
    have e : drA A = uz 11 (aZ A 11 + 1) (uz 15 (aZ A 15) (uz 16 (aZ A 16) (uy 4 ((chI (aY A 2) 0 (aZ A 11)).take 16) A))) := by
      unfold drA bc bs bo br
      rw [if_pos c, if_pos c, if_pos c]
    rw [e]
    exact u1
  · rw [if_neg c, show J1 e 0 = 0 from u1.1.1]
    refine xs_share (bd := bd) he (Or.inl rfl) u1 (by show 0 ≤ aZ A 11 + 1 ∧ aZ A 11 + 1 < 65536; omega) (fun J2 L2 v1 v2 v3 => fin J2 L2 ?_ (u2.tr v2))
    rw [dr_flat] at v1
    have e : drA A = uz 11 (aZ A 11 + 1 + 1) (uz 15 (pw 7 (numI (chI (aY A 2) 0 (aZ A 11 + 1))) : Int) (uz 16 (numI (chI (aY A 2) 0 (aZ A 11 + 1)) : Int) (uy 4 ((chI (aY A 2) 0 (aZ A 11)).take 16) A))) := by
      unfold drA bc bs bo br
      rw [if_neg c, if_neg c, if_neg c]
    rw [e]
    exact v1
/-- the model, where it has drawn -/
theorem MSc_beg {bd : Int} {A : SA} {J J' : zM} {L L' : yM} (h : MS 0 J L A) (ai : AI bd 0 A) (h0 : aZ A 0 = 0) (f : ∀ a, ¬ ((497 ≤ a ∧ a ≤ 502) ∨ a = 491 ∨ a = 492 ∨ a = 503 ∨ a = 534) → J' a = J a) (g : ∀ k, k ≠ 13 → k ≠ 4 → J' 491 k = J 491 k) (g4 : J' 491 4 = 1) (u : ∀ k, ¬ (890 ≤ k ∧ k < 906) → J' 492 k = J 492 k) (h534 : J' 534 0 = 1) (o534 : ∀ k, k ≠ 0 → J' 534 k = J 534 k) (h503 : J' 503 0 = bc A) (o503 : ∀ k, k ≠ 0 → J' 503 k = J 503 k) (l5 : (L' 505 0).toInt = bs A) (l4 : (L' 504 0).toInt = bo A) (oL : ∀ a i, (a ≠ 504 ∨ i ≠ 0) → (a ≠ 505 ∨ i ≠ 0) → L' a i = L a i) : MSc 0 J' L' (bgA A) ∧ MO 0 J L J' L' := by
  have s0 : s01 0 := Or.inl rfl
  have r := ai.b22 h0
  have c : ∀ (C : Nat → Prop), (∀ a, C a → ¬ ((497 ≤ a ∧ a ≤ 502) ∨ a = 491 ∨ a = 492 ∨ a = 503 ∨ a = 534)) → oEq 0 C J J' := fun C hC a i _ hc => by rw [f a (hC a hc)]
  obtain ⟨a0, a1, a2, a3, a4, a5, a6, a7, a8, a9, a10, a11, a12⟩ := h
  obtain ⟨p0, p1, p2, p3, p4, p5, p6, p7, p8, p9, p10, p11⟩ := a0
  refine ⟨⟨⟨h534, ?_, ?_, ?_, ?_, ?_, ?_, ?_, ?_, h503, l5, l4⟩, ⟨fun _ _ => ?_, fun _ => ⟨fun q => absurd (show (1 : Int) = 0 from q) (by decide), fun _ => g4, ?_, ?_⟩, ?_, ?_⟩, ⟨?_, ?_, ?_, fun q => absurd q (by decide)⟩, ⟨a4.1.fr s0 (c _ (by omega)), a4.2.fr (c _ (by omega))⟩, a5.fr (c _ (by omega)), (a6.fr (c _ (by omega))).cg (fun k hk => ?_), a7.fr s0 (c _ (by omega)), ⟨fun q => ?_, fun q => ?_, ?_⟩, MSn.fr a9 (fun b hb => f b (by omega)) (g 30 (by decide) (by decide)), fun ep hep => ?_, ?_, mKa a12 (c _ (by omega))⟩, ?_⟩
  · rw [f 535 (by decide)]; exact p1
  · rw [f 538 (by decide)]; exact p2
  · rw [f 539 (by decide)]; exact p3
  · rw [f 547 (by decide)]; exact p4
  · rw [f 527 (by decide)]; exact p5
  · rw [f 524 (by decide)]; exact p6
  · rw [f 525 (by decide)]; exact p7
  · rw [f 526 (by decide)]; exact p8
  · rw [f 536 (by decide)]; exact a1.1 rfl (Or.inl h0)
  · rw [g4]; decide
  · rw [g 58 (by decide) (by decide)]; exact (a1.2.2.2.2.1 rfl).2.2.2
  · rw [f 506 (by decide)]; exact a1.2.2.2.2.2.1
  · rw [f 507 (by decide)]; exact a1.2.2.2.2.2.2
  · rw [sg_fr (fun k p q => u k (by omega))]; exact a2.1
  · rw [sg_fr (fun k p q => u k (by omega))]; exact a2.2.1
  · rw [sg_fr (fun k p q => u k (by omega))]; exact a2.2.2.1
  · show (if 21 + k = 0 then (1 : Int) else if 21 + k = 11 then bc A else if 21 + k = 15 then bs A else if 21 + k = 16 then bo A else aZ A (21 + k)) = aZ A (21 + k)
    rw [if_neg (by omega), if_neg (by omega), if_neg (by omega), if_neg (by omega)]
  · have q : 2 ≤ aZ A 13 := q
    omega
  · have q : 3 ≤ aZ A 13 := q
    omega
  · rw [sg_fr (fun k p q => u k (by omega))]; exact a8.2.2.2
  · rw [f 545 (by decide), oL 546 _ (Or.inl (by decide)) (Or.inl (by decide))]
    exact a10 ep hep
  · have w : M15 0 J' (aZ A) := by
      unfold M15
      rw [g 2 (by decide) (by decide), g 1 (by decide) (by decide)]
      exact a11
    exact w
  · refine ⟨fun a i ho => ?_, fun a i ho => ?_, mN_fr (f 509 (by decide)) (f 510 (by decide)) (f 511 (by decide)) 0, by rw [f 509 (by decide)], fun hi => mI_fr (f 509 (by decide)) (f 510 (by decide)) hi, fun q => by rw [g 30 (by decide) (by decide)]; exact q, fun b hb => ⟨f b (by omega), funext fun i => oL b i (Or.inl (by omega)) (Or.inl (by omega))⟩⟩
    · have oc' := own_cell ho
      by_cases q1 : a = 491
      · subst q1
        have := ow491 ho
        exact g i (by omega) (by omega)
      · by_cases q2 : a = 492
        · subst q2
          have := ow492 ho
          exact u i (by omega)
        · by_cases q3 : a = 503
          · subst q3
            have := ow1 ho (by omega)
            exact o503 i (by omega)
          · by_cases q4 : a = 534
            · subst q4
              have := ow1 ho (by omega)
              exact o534 i (by omega)
            · rw [f a (by omega)]
    · unfold mOwL at ho
      exact oL a i (by omega) (by omega)
