/-- what the server is behind its ANSWER, by its parts -/
def ans1 (its c sh ow : Int) (r hand T1 T3 m1 m2 m3 m4 : List Int) (A : SA) : SA := uz 0 1 (uz 2 (its + 1) (uT m1 m2 m3 m4 (threeA (mainI hand) T3 (twoA hand T1 (uz 11 c (uz 15 sh (uz 16 ow (uy 4 r A))))))))
theorem AIy_ans1 {its c sh ow : Int} {r hand T1 T3 m1 m2 m3 m4 : List Int} {F : FLT} {A : SA} (hy : AIy (aY A)) (hr : r.length = 16 ∧ oct r) (hh : hand.length = 32 ∧ oct hand) : AIy (aY (newA F (ans1 its c sh ow r hand T1 T3 m1 m2 m3 m4 A))) := by
  have hy0 : AIy (aY (uy 4 r A)) := by
    obtain ⟨y0, y1, y2, y3, y4, y5, y6⟩ := hy
    refine ⟨y0, y1, y2, y3, hr, y5, fun k k0 k1 => ?_⟩
    have : aY (uy 4 r A) k = aY A k := if_neg (by omega)
    rw [this]
    exact y6 k k0 k1
  have hy1 := (hy0.two (hand := hand) (T := T1) hh).three (main := mainI hand) (T := T3)
  obtain ⟨Y, hY⟩ : ∃ Y : Nat → List Int, Y = threeY (mainI hand) T3 (twoY hand T1 (aY (uy 4 r A))) := ⟨_, rfl⟩
  rw [← hY] at hy1
  have e : aY (newA F (ans1 its c sh ow r hand T1 T3 m1 m2 m3 m4 A)) = fun k => if k = 6 then m1 else if k = 7 then m2 else if k = 8 then m3 else if k = 9 then m4 else Y k := by rw [hY]; rfl
  rw [e]
  obtain ⟨y0, y1, y2, y3, y4, y5, y6⟩ := hy1
  refine ⟨y0, y1, y2, y3, y4, y5, fun k k0 k1 => ?_⟩
  show (if k = 6 then m1 else if k = 7 then m2 else if k = 8 then m3 else if k = 9 then m4 else Y k).length = 32 ∧ oct (if k = 6 then m1 else if k = 7 then m2 else if k = 8 then m3 else if k = 9 then m4 else Y k)
  rw [if_neg (by omega), if_neg (by omega), if_neg (by omega), if_neg (by omega)]
  exact y6 k k0 k1
theorem AIz_ans1 {bd its c sh ow : Int} {z : Nat → Int} {ll wl fm cl : Nat} (hz : AIz 1 bd z ll wl fm cl) (h0 : z 0 = 0) (hits : 0 ≤ its ∧ its ≤ 1) (hc : 0 ≤ c ∧ c ≤ 2) (hsh : 0 ≤ sh ∧ sh < 2147483647) (how : 0 ≤ ow ∧ ow < 2147483647) : AIz 1 bd (fun j => if j = 10 then 1 else if j = 9 then 0 else if j = 7 then 4 else if j = 14 then 0 else if j = 0 then 1 else if j = 2 then its + 1 else if j = 13 then 3 else if j = 13 then 2 else if j = 11 then c else if j = 15 then sh else if j = 16 then ow else z j) 0 wl 3 cl := by
  obtain ⟨b0, b1, b2, b3, b4, b5, b6, b7, b8, b9, b10, b11, b12, b13, b14, b15, b16, b17, b18, b19, b20, b21, b22, b23, b24, b25, b26, b27, b28, b29⟩ := hz
  have i1 : 0 ≤ its + 1 ∧ its + 1 ≤ 256 := by clear b0 b1 b3 b4 b6 b7 b10 b12 b13 b19 b20 b22 b23 b24 b25 b26 b27 b28 b29; omega
  exact ⟨show (0 : Int) ≤ 1 ∧ (1 : Int) ≤ 4 by decide, b1, i1, b3, b4, b5, b6, fun _ => ⟨Or.inl rfl, Or.inl rfl⟩, b8, ⟨Int.le_refl 0, show (0 : Int) ≤ 8 by decide⟩, Or.inr rfl, hc, b12, Or.inr (Or.inr rfl), ⟨Int.le_refl 0, b17.1⟩, hsh, how, b17, b18, b19, b20, show ((0 : Nat) : Int) ≤ 204 * (0 + 1) by decide, fun q => absurd (show (1 : Int) = 0 from q) (by decide), fun _ q => absurd (show (1 : Int) = 2 ∨ (1 : Int) = 3 from q) (by decide), b24, fun _ => show 0 < 3 by decide, fun q => absurd q (by decide), fun _ _ => rfl, fun q => absurd (show (1 : Int) = 2 ∨ (1 : Int) = 3 from q) (by decide), b29⟩
theorem AI_ans1 {bd its c sh ow : Int} {r hand T1 T3 m1 m2 m3 m4 x y z : List Int} {A : SA} (ai : AI bd 1 A) (h0 : aZ A 0 = 0) (hits : 0 ≤ its ∧ its ≤ 1) (hc : 0 ≤ c ∧ c ≤ 2) (hsh : 0 ≤ sh ∧ sh < 2147483647) (how : 0 ≤ ow ∧ ow < 2147483647) (hr : r.length = 16 ∧ oct r) (hh : hand.length = 32 ∧ oct hand) (l1 : m1 ≠ [] ∧ m1.length ≤ 80) (l2 : m2 ≠ [] ∧ m2.length ≤ 23) (l3 : m3 ≠ [] ∧ m3.length ≤ 155) (l4 : m4 ≠ [] ∧ m4.length ≤ 35) (hx : x.length = 20 ∧ oct x) (hy : 0 < y.length ∧ y.length ≤ 152 ∧ oct y) (hz : z.length = 32 ∧ oct z) : AI bd 1 (newA (anFl its x y z) (ans1 its c sh ow r hand T1 T3 m1 m2 m3 m4 A)) := by
  have kall : ∀ n, 0 ≤ n → (aK A n).1 = -1 := fun n hn => by
    by_cases u : (aK A n).1 = -1
    · exact u
    · exact absurd h0 (ai.k n (by have := (ai.b22 h0).2.2.2.2.2.1; omega) u).1
  obtain ⟨X, hX⟩ : ∃ X, X = newA (anFl its x y z) (ans1 its c sh ow r hand T1 T3 m1 m2 m3 m4 A) := ⟨_, rfl⟩
  have eZ : aZ X = fun j => if j = 10 then 1 else if j = 9 then 0 else if j = 7 then 4 else if j = 14 then 0 else if j = 0 then 1 else if j = 2 then its + 1 else if j = 13 then 3 else if j = 13 then 2 else if j = 11 then c else if j = 15 then sh else if j = 16 then ow else aZ A j := by rw [hX]; rfl
  have hY := AIy_ans1 (its := its) (c := c) (sh := sh) (ow := ow) (T1 := T1) (T3 := T3) (m1 := m1) (m2 := m2) (m3 := m3) (m4 := m4) (F := anFl its x y z) ai.y hr hh
  rw [← hX] at hY ⊢
  have e6 : aY X 6 = m1 := by rw [hX]; rfl
  have e7 : aY X 7 = m2 := by rw [hX]; rfl
  have e8 : aY X 8 = m3 := by rw [hX]; rfl
  have e9 : aY X 9 = m4 := by rw [hX]; rfl
  have e5 : aY X 5 = aY A 5 := by rw [hX]; rfl
  have eF : aF X = anFl its x y z := by rw [hX]; rfl
  have eK : aK X = aK A := by rw [hX]; rfl
  have eL : aL X = [] := by rw [hX]; rfl
  have eN : aN X = aN A := by rw [hX]; rfl
  have eT : aT X = logC (aT A) := by rw [hX]; rfl
  have eW : aW X = aW A := by rw [hX]; rfl
  have v0 : aZ X 0 = 1 := by rw [eZ]; rfl
  have v2 : aZ X 2 = its + 1 := by rw [eZ]; rfl
  have v13 : aZ X 13 = 3 := by rw [eZ]; rfl
  clear hX
  refine ⟨?_, hY, ⟨fun _ => ?_, fun q => absurd q (by decide), fun _ _ => ?_⟩, ⟨⟨?_, fun f hf => ?_, ?_⟩, fun i => ?_, fun q hq => ?_, fun f hf q => v13⟩, fun n hn hk => ?_, ?_, ?_, ?_, ?_, fun f hf => ?_⟩
  · rw [eZ, eT, eW, eF, e5]
    exact AIz_ans1 ai.1 h0 hits hc hsh how
  · rw [e6, e7, e8, e9]
    exact ⟨l1.1, l1.2, l2.2, l3.2, l4.2⟩
  · rw [e7, e8, e9]
    exact ⟨l2.1, l3.1, l4.1⟩
  · rw [eF]; exact show 3 ≤ 3 by decide
  · rw [eF] at hf ⊢
    have hf : f < 3 := hf
    have : f = 0 ∨ f = 1 ∨ f = 2 := by omega
    rcases this with rfl | rfl | rfl
    · exact ⟨Or.inr (Or.inl rfl), by show 0 ≤ its + ((0 : Nat) : Int) ∧ its + ((0 : Nat) : Int) < 256; omega, by show 0 < x.length; omega, hx.2, by show x.length ≤ 157; omega⟩
    · exact ⟨Or.inr (Or.inr (Or.inr (Or.inl rfl))), by show 0 ≤ its + ((1 : Nat) : Int) ∧ its + ((1 : Nat) : Int) < 256; omega, hy.1, hy.2.2, by show y.length ≤ 157; omega⟩
    · exact ⟨Or.inr (Or.inr (Or.inr (Or.inr rfl))), by show 0 ≤ its + ((2 : Nat) : Int) ∧ its + ((2 : Nat) : Int) < 256; omega, by show 0 < z.length; omega, hz.2, by show z.length ≤ 157; omega⟩
  · rw [eF]
    show 0 + x.length + y.length + z.length ≤ 204
    omega
  · rw [eF]; exact Or.inl rfl
  · rw [eT] at hq; exact absurd hq List.not_mem_nil
  · rw [v2] at hn
    rw [eK] at hk
    exact absurd (kall n (by omega)) hk
  · rw [eL]; exact ⟨show 0 ≤ 8 by decide, fun q hq => absurd hq List.not_mem_nil⟩
  · rw [eN]; exact ai.2.2.2.2.2.2.1
  · rw [eT]; exact ai.2.2.2.2.2.2.2.1
  · rw [eW]; exact ai.2.2.2.2.2.2.2.2.1
  · rw [eF] at hf ⊢
    have hf : f < 3 := hf
    have : f = 0 ∨ f = 1 ∨ f = 2 := by omega
    right
    refine ⟨rfl, ?_⟩
    rcases this with rfl | rfl | rfl
    · left; exact ⟨rfl, by show (x.length : Int) ≤ 20; omega⟩
    · right; left; exact ⟨rfl, by show (y.length : Int) ≤ 152; omega⟩
    · right; right; exact ⟨rfl, by show (z.length : Int) ≤ 32; omega⟩
theorem ans0_eq (its : Int) (o : Nat) (b : List Int) (A : SA) : ans0 its o b A = ans1 its (anC o A) (anS o A) (anO o A) (anR A) (anH o A) (anT1 o b A) (anT3 o b A) (msgI 1 b) (msgI 2 (anA o A)) (msgI 8 (anG A)) (msgI 20 (anF o b A)) A := by
  unfold ans0 ans1
  rfl
theorem AI_answer {bd its : Int} {o : Nat} {b : List Int} {A : SA} (ai : AI bd 1 A) (h0 : aZ A 0 = 0) (hits : 0 ≤ its ∧ its ≤ 1) (hb : b.length = 61 ∨ b.length = 77) : AI bd 1 (newA (anFl its (anA o A) (anG A) (anF o b A)) (ans0 its o b A)) := by
  have r := ai.b22 h0
  have lA := anA_len o A
  have lG := anG_len ai
  have lF : (anF o b A).length = 32 := mcI_len _ _
  have b18 := ai.b18
  have y3 := ai.y.2.2.2.1
  have oA : oct (anA o A) := oct_app.mpr ⟨oct_take (mcI_oct _ _) 16, nb_oct _ _⟩
  have oG : oct (anG A) := oct_app.mpr ⟨by simp only [oct_cons]; exact ⟨by omega, by omega, oct_nil⟩, y3.2⟩
  have oF : oct (anF o b A) := mcI_oct _ _
  have nN : ∀ k (l : List Int), msgI k l ≠ [] := fun k l q => by
    have : (msgI k l).length = 0 := by rw [q]; rfl
    rw [msgI_len] at this
    omega
  have ch : 0 ≤ anC o A ∧ anC o A ≤ 2 := by unfold anC; split <;> omega
  have ow : 0 ≤ anO o A ∧ anO o A < 2147483647 := by
    unfold anO
    split
    · have := numI_b (chI (aY A 2) 1 (aZ A 11 + 1)); omega
    · exact ai.b16
  rw [ans0_eq]
  exact AI_ans1 ai h0 hits ch (anS_b ai) ow ⟨anR_len A, oct_take (mcI_oct _ _) 16⟩ ⟨mcI_len _ _, mcI_oct _ _⟩ ⟨nN _ _, by rw [msgI_len]; omega⟩ ⟨nN _ _, by rw [msgI_len]; omega⟩ ⟨nN _ _, by rw [msgI_len]; omega⟩ ⟨nN _ _, by rw [msgI_len]; omega⟩ ⟨lA, oA⟩ ⟨by omega, lG.2, oG⟩ ⟨lF, oF⟩
theorem zs_eq_a (F : FLT) (i v : Int) (T1 T2 T3 T4' m : List Int) (h1 h2 h3 : List Int) (B : SA) : uz 10 1 (uz 8 v (uz 7 4 (uz 14 0 (ul [] (uz 0 1 (uz 2 i (uT T1 T2 T3 T4' (threeA m h1 (uf F (twoA h2 h3 (x0A B))))))))))) = uz 8 v (newA F (uz 0 1 (uz 2 i (uT T1 T2 T3 T4' (threeA m h1 (twoA h2 h3 B)))))) := by
  refine Prod.ext (funext fun j => ?_) rfl
  show (if j = 10 then (1 : Int) else if j = 8 then v else if j = 7 then 4 else if j = 14 then 0 else if j = 0 then 1 else if j = 2 then i else if j = 13 then 3 else if j = 13 then 2 else if j = 10 then 0 else if j = 9 then 0 else if j = 8 then 0 else if j = 7 then 0 else B.1 j) = if j = 8 then v else if j = 10 then 1 else if j = 9 then 0 else if j = 7 then 4 else if j = 14 then 0 else if j = 0 then 1 else if j = 2 then i else if j = 13 then 3 else if j = 13 then 2 else B.1 j
  by_cases h10 : j = 10
  · subst h10; rfl
  by_cases h8 : j = 8
  · subst h8; rfl
  by_cases h7 : j = 7
  · subst h7; rfl
  by_cases h14 : j = 14
  · subst h14; rfl
  by_cases h0 : j = 0
  · subst h0; rfl
  by_cases h2' : j = 2
  · subst h2'; rfl
  by_cases h9 : j = 9
  · subst h9; rfl
  by_cases h13 : j = 13
  · subst h13; rfl
  simp only [h10, h8, h7, h14, h0, h2', h9, h13, if_false]
theorem xs_sendNew {e : Nat} {bd i : Int} {F : FLT} {T1 T2 T3 T4' m h1 h2 h3 : List Int} {B : SA} {J : zM} {L : yM} {Q : zM → yM → Prop} (he : iSide e) (h : XS e 1 J L (uz 0 1 (uz 2 i (uT T1 T2 T3 T4' (threeA m h1 (uf F (twoA h2 h3 (x0A B)))))))) (ai : AI bd 1 (newA F (uz 0 1 (uz 2 i (uT T1 T2 T3 T4' (threeA m h1 (twoA h2 h3 B))))))) (hQ : ∀ J', XS e 1 J' L (flyA 1 (newA F (uz 0 1 (uz 2 i (uT T1 T2 T3 T4' (threeA m h1 (twoA h2 h3 B))))))) → XO e J L J' L → Q J' L) : w_X8_startFlight e J L (fun J2 L2 => w_X8_sendFlight e J2 L2 Q) := by
  refine xs_start he h (fun J37 g37 o37 => ?_)
  have g37 : XS e 1 J37 L (uz 10 1 (uz 8 (aZ B 17) (uz 7 4 (uz 14 0 (ul [] (uz 0 1 (uz 2 i (uT T1 T2 T3 T4' (threeA m h1 (uf F (twoA h2 h3 (x0A B)))))))))))) := g37
  rw [zs_eq_a] at g37
  have ai3 : AI bd 1 (uz 8 (aZ B 17) (newA F (uz 0 1 (uz 2 i (uT T1 T2 T3 T4' (threeA m h1 (twoA h2 h3 B))))))) := by
    have b17 := ai.b17
    exact ⟨⟨ai.b0, ai.b1, ai.b2, ai.b3, ai.b4, ai.b5, ai.b6, ai.b7, ⟨b17.1, Int.le_refl _⟩, ai.1.2.2.2.2.2.2.2.2.2⟩, ai.2⟩
  refine xs_fly he (by decide) g37 ai3 (show ([] : LGT).length + 204 ≤ 1836 by decide) (fun J38 g38 o38 => hQ J38 ?_ (o37.tr o38))
  rw [fly_8] at g38
  exact g38
theorem xs_ansEnd {e : Nat} {bd its x9 : Int} {o : Nat} {b : List Int} {A A1 : SA} {J : zM} {L : yM} {Q : zM → yM → Prop} (he : iSide e) (hA1 : A1 = uz 11 (anC o A) (uz 15 (anS o A) (uz 16 (anO o A) (uy 4 (anR A) A)))) (hx : x9 = anB o A) (h : XS e 1 J L A1) (ai : AI bd 1 A) (h0 : aZ A 0 = 0) (hb : XH J its b) (hits : 0 ≤ its ∧ its ≤ 1) (hT : xTr e J (msgI 1 b)) (ho : o = be (partI b (b.length - 44) 4)) (hQ : ∀ J', XS e 1 J' L (ansS its b A) → XO e J L J' L → Q J' L) : cA2 e x9 J L (fun J1 L1 => w_X8_startFlight e J1 L1 (fun J2 L2 => w_X8_sendFlight e J2 L2 Q)) := by
  have aiF := AI_answer (o := o) ai h0 hits hb.2.2.2.2.2.2
  unfold ans0 at aiF
  rw [← hA1] at aiF
  have eS : ansS its b A = flyA 1 (newA (anFl its (anA o A) (anG A) (anF o b A)) (uz 0 1 (uz 2 (its + 1) (uT (msgI 1 b) (msgI 2 (anA o A)) (msgI 8 (anG A)) (msgI 20 (anF o b A)) (threeA (mainI (anH o A)) (anT3 o b A) (twoA (anH o A) (anT1 o b A) A1)))))) := by
    unfold ansS ans0
    rw [← ho, ← hA1]
  rw [eS] at hQ
  subst hx
  exact xs_compose2 he hA1 h ai h0 hb hits hT (fun J36 g36 o36 => xs_sendNew he g36 aiF (fun J38 g38 o38 => hQ J38 g38 (o36.tr o38)))
