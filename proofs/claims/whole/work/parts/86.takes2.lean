theorem AI_z10 {bd s : Int} {A : SA} (ai : AI bd s A) : AI bd s (uz 10 0 A) := by
  have z := ai.1
  refine ⟨⟨ai.b0, ai.b1, ai.b2, ai.b3, ai.b4, ai.b5, ai.b6, fun q => (d01 q).elim, ai.b8, ai.b9, Or.inl rfl, ai.b11, ai.b12, ai.b13, ai.b14, ai.b15, ai.b16, ai.b17, ai.b18, ai.b19, ai.b20, ai.b21, fun q => ?_, fun _ _ => rfl, z.2.2.2.2.2.2.2.2.2.2.2.2.2.2.2.2.2.2.2.2.2.2.2.2⟩, ai.2⟩
  have r := ai.b22 q
  exact ⟨r.1, r.2.1, r.2.2.1, rfl, r.2.2.2.2⟩
theorem AI_ans {bd : Int} {A : SA} {b : List Int} {v : Int} (ai : AI bd 0 A) (h0 : aZ A 0 = 1) (h1 : aZ A 1 = 2) (hb : b.length = 20) : AI bd 0 (uz 1 8 (twoA (handI (aY A 0) v) (aY A 6 ++ msgI 2 b) (uy 7 (msgI 2 b) (uz 10 0 A)))) := by
  have mn := (ai.m.2.1 rfl h0).1 h1
  have ml := ai.m.1 (Or.inl h0)
  have b13 : aZ A 13 = 0 := (ai.b26 rfl h0).1 h1
  have hml : (msgI 2 b).length = 23 := by rw [msgI_len, hb]
  have hf := ai.2.2.2.1
  have ynew : ∀ k, k ≠ 7 → aY (uz 1 8 (twoA (handI (aY A 0) v) (aY A 6 ++ msgI 2 b) (uy 7 (msgI 2 b) (uz 10 0 A)))) k = twoY (handI (aY A 0) v) (aY A 6 ++ msgI 2 b) (aY A) k := fun k hk => by
    show twoY (handI (aY A 0) v) (aY A 6 ++ msgI 2 b) (aY (uy 7 (msgI 2 b) (uz 10 0 A))) k = _
    unfold twoY
    have : aY (uy 7 (msgI 2 b) (uz 10 0 A)) k = aY A k := if_neg hk
    rw [this]
  refine ⟨⟨ai.b0, Or.inr (Or.inl rfl), ai.b2, ai.b3, ai.b4, ai.b5, ai.b6, fun q => (d01 q).elim, ai.b8, ai.b9, Or.inl rfl, ai.b11, ai.b12, Or.inr (Or.inl rfl), ai.b14, ai.b15, ai.b16, ai.b17, ai.b18, ai.b19, ai.b20, ai.b21, fun q => ?_, fun q => ?_, fun q => ?_, ai.b25, fun _ _ => ⟨fun q => ?_, fun _ => rfl⟩, fun q => ?_, fun q => ?_, ai.b29⟩, ?_, ⟨fun _ => ⟨ml.1, ml.2.1, ?_, ml.2.2.2.1, ml.2.2.2.2⟩, fun _ _ => ⟨fun q => ?_, fun _ => ⟨?_, mn.2.1, mn.2.2⟩, fun q => ?_⟩, fun q => ?_⟩, ⟨hf.1, hf.2.1, hf.2.2.1, fun f hfm hne => ?_⟩, ai.2.2.2.2⟩
  · have q : aZ A 0 = 0 := q
    omega
  · exact absurd q (by decide)
  · exact absurd q (by decide)
  · exact absurd (show (8 : Int) = 2 from q) (by decide)
  · exact absurd q (by decide)
  · have q : aZ A 0 = 2 ∨ aZ A 0 = 3 := q
    omega
  · obtain ⟨y0, y1, y2, y3, y4, y5, y6⟩ := ai.y.two (hand := handI (aY A 0) v) (T := aY A 6 ++ msgI 2 b) ⟨mcI_len _ _, mcI_oct _ _⟩
    refine ⟨y0, y1, y2, y3, y4, y5, fun k k0 k1 => ?_⟩
    rw [ynew k (by omega)]
    exact y6 k k0 k1
  · show (msgI 2 b).length ≤ 23
    omega
  · exact absurd (show (8 : Int) = 2 from q) (by decide)
  · intro q
    have : (msgI 2 b).length = 0 := by rw [show msgI 2 b = [] from q]; rfl
    omega
  · exact absurd (show (8 : Int) = 20 from q) (by decide)
  · exact absurd q (by decide)
  · have := hf.2.2.2 f hfm hne
    omega
theorem AI_set {bd : Int} {A : SA} {b : List Int} (ai : AI bd 0 A) (h0 : aZ A 0 = 1) (h1 : aZ A 1 = 8) (hb : b.length ≤ 152) : AI bd 0 (setA b A) := by
  have mn := (ai.m.2.1 rfl h0).2.1 h1
  have ml := ai.m.1 (Or.inl h0)
  have b13 : aZ A 13 = 2 := (ai.b26 rfl h0).2 (by omega)
  have hml : (msgI 8 b).length = 3 + b.length := msgI_len _ _
  have hf := ai.2.2.2.1
  refine ⟨⟨ai.b0, Or.inr (Or.inr rfl), ai.b2, ai.b3, ai.b4, ai.b5, ai.b6, ai.b7, ai.b8, ai.b9, ai.b10, ai.b11, ai.b12, ai.b13, ai.b14, ai.b15, ai.b16, ai.b17, ai.b18, ai.b19, ai.b20, ai.b21, fun q => ?_, ai.b23, fun q => ?_, ai.b25, fun _ _ => ⟨fun q => ?_, fun _ => b13⟩, ai.b27, ai.b28, ai.b29⟩, ?_, ⟨fun _ => ⟨ml.1, ml.2.1, ml.2.2.1, ?_, ml.2.2.2.2⟩, fun _ _ => ⟨fun q => ?_, fun q => ?_, fun _ => ⟨mn.1, ?_, mn.2.2⟩⟩, fun q => ?_⟩, hf, ai.2.2.2.2⟩
  · have q : aZ A 0 = 0 := q
    omega
  · exact absurd q (by decide)
  · exact absurd (show (20 : Int) = 2 from q) (by decide)
  · obtain ⟨y0, y1, y2, y3, y4, y5, y6⟩ := ai.y
    refine ⟨y0, y1, y2, y3, y4, y5, fun k k0 k1 => ?_⟩
    have : aY (setA b A) k = aY A k := if_neg (by omega)
    rw [this]
    exact y6 k k0 k1
  · show (msgI 8 b).length ≤ 155
    omega
  · exact absurd (show (20 : Int) = 2 from q) (by decide)
  · exact absurd (show (20 : Int) = 8 from q) (by decide)
  · intro q
    have : (msgI 8 b).length = 0 := by rw [show msgI 8 b = [] from q]; rfl
    omega
  · exact absurd q (by decide)
theorem AI_open1 {bd : Int} {A : SA} (ai : AI bd 1 A) (h0 : aZ A 0 = 1) : AI bd 1 (uz 0 2 (uz 10 0 A)) := by
  have z13 : aZ A 13 = 3 := ai.b27 rfl (Or.inl h0)
  have ml := ai.m.1 (Or.inl h0)
  have mn := ai.m.2.2 rfl (Or.inl h0)
  refine ⟨⟨show (0 : Int) ≤ 2 ∧ (2 : Int) ≤ 4 by decide, ai.b1, ai.b2, ai.b3, ai.b4, ai.b5, ai.b6, fun q => (d01 q).elim, ai.b8, ai.b9, Or.inl rfl, ai.b11, ai.b12, ai.b13, ai.b14, ai.b15, ai.b16, ai.b17, ai.b18, ai.b19, ai.b20, ai.b21, fun q => ?_, fun _ _ => rfl, ai.b24, fun _ => ai.b25 (Or.inl h0), fun q => ?_, fun _ _ => z13, fun _ => z13, ai.b29⟩, ai.y, ⟨fun _ => ml, fun q => ?_, fun _ _ => mn⟩, ai.2.2.2.1, fun n hn hk => ⟨?_, (ai.k n hn hk).2⟩, ai.2.2.2.2.2⟩
  · exact absurd (show (2 : Int) = 0 from q) (by decide)
  · exact absurd q (by decide)
  · exact absurd q (by decide)
  · exact fun q => absurd (show (2 : Int) = 0 from q) (by decide)
theorem AI_take {bd s : Int} {A : SA} (hs : s01 s) (ai : AI bd s A) (hx : nextA A) : AI bd s (takeA s A) := by
  have h0 := hx.1
  have ai1 := AI_next ai h0 hx.2
  have kb := ai.kb hx.2
  have kw := (ai.kw hx.2).1
  unfold takeA
  rcases hs with rfl | rfl
  · rw [if_pos rfl]
    unfold takeC
    split
    · rename_i c
      have hl : (kbody (aK A (aZ A 2))).length = 16 := by unfold kLen at kw; omega
      exact AI_fly (AI_retry ai1 h0 c.2.1 c.2.2 hl kb.1) (show ((0 : Nat) : Int) ≤ 204 * 0 by decide)
    · split
      · rename_i c0 c
        have hl : (kbody (aK A (aZ A 2))).length = 20 := by unfold kLen at kw; omega
        unfold ansA
        split
        · exact AI_raise (AI_z10 ai1) (by decide)
        · exact AI_ans ai1 h0 c.2 hl
      · split
        · rename_i c0 c1 c
          exact AI_set ai1 h0 c.2 (by unfold kLen at kw; omega)
        · split
          · rename_i c0 c1 c2 c
            have hl : (kbody (aK A (aZ A 2))).length = 32 := by unfold kLen at kw; omega
            unfold finC
            split
            · exact AI_raise ai1 (by decide)
            · exact AI_fly (AI_fin ai1 h0 c.2 hl kb.1) (show ((0 : Nat) : Int) ≤ 204 * 0 by decide)
          · exact AI_raise ai1 (by decide)
  · rw [if_neg (by decide)]
    unfold takeS
    split
    · unfold finS
      split
      · exact AI_raise ai1 (by decide)
      · refine AI_acks ?_
        rw [uz_comm (by decide)]
        exact AI_open1 ai1 h0
    · exact AI_raise ai1 (by decide)
/-- how many MESSAGES may still be taken -/
def muV (s p a : Int) (c : List Int) : Nat := if p ≠ 1 then 0 else if s = 1 then 1 else if a = 2 then (if c = [] then 4 else 3) else if a = 8 then 2 else 1
def muA (s : Int) (A : SA) : Nat := muV s (aZ A 0) (aZ A 1) (aY A 5)
theorem mu_4 {s : Int} {A : SA} (h : aZ A 0 ≠ 1) : muA s A = 0 := by unfold muA muV; rw [if_pos h]
theorem mu_take {bd s : Int} {A : SA} (hs : s01 s) (ai : AI bd s A) (hx : nextA A) : muA s (takeA s A) < muA s A := by
  have h0 := hx.1
  have b1 := ai.b1
  have kb := ai.kb hx.2
  have kw := (ai.kw hx.2).1
  have pos : 0 < muA s A := by
    unfold muA muV
    rw [if_neg (fun q => q h0)]
    split
    · decide
    · split
      · split <;> decide
      · split <;> decide
  have dead : ∀ (t c : Int) (B : SA), muA s (raiseA t c B) < muA s A := fun t c B => by
    rw [mu_4 (show ¬ (4 : Int) = 1 by decide)]
    exact pos
  unfold takeA
  rcases hs with rfl | rfl
  · rw [if_pos rfl]
    unfold takeC
    split
    · rename_i c
      have hl : (kbody (aK A (aZ A 2))).length = 16 := by unfold kLen at kw; omega
      have e1 : muA 0 A = 4 := by unfold muA muV; rw [if_neg (fun q => q h0), if_neg (by decide), if_pos c.2.1, if_pos c.2.2]
      rw [e1]
      show muV 0 (aZ A 0) (aZ A 1) (kbody (aK A (aZ A 2))) < 4
      unfold muV
      rw [if_neg (fun q => q h0), if_neg (by decide), if_pos c.2.1, if_neg]
      · decide
      · intro q
        have : (kbody (aK A (aZ A 2))).length = 0 := by rw [show kbody (aK A (aZ A 2)) = [] from q]; rfl
        omega
    · split
      · rename_i c0 c
        unfold ansA
        split
        · exact dead _ _ _
        · have e1 : 3 ≤ muA 0 A := by unfold muA muV; rw [if_neg (fun q => q h0), if_neg (by decide), if_pos c.2]; split <;> decide
          refine Nat.lt_of_lt_of_le ?_ e1
          show muV 0 (aZ A 0) 8 (aY A 5) < 3
          unfold muV
          rw [if_neg (fun q => q h0), if_neg (by decide), if_neg (show ¬ (8 : Int) = 2 by decide), if_pos (show (8 : Int) = 8 from rfl)]
          decide
      · split
        · rename_i c0 c1 c
          have e1 : muA 0 A = 2 := by unfold muA muV; rw [if_neg (fun q => q h0), if_neg (by decide), if_neg (by omega), if_pos c.2]
          rw [e1]
          show muV 0 (aZ A 0) 20 (aY A 5) < 2
          unfold muV
          rw [if_neg (fun q => q h0), if_neg (by decide), if_neg (show ¬ (20 : Int) = 2 by decide), if_neg (show ¬ (20 : Int) = 8 by decide)]
          decide
        · split
          · unfold finC
            split
            · exact dead _ _ _
            · rw [mu_4 (show ¬ (2 : Int) = 1 by decide)]
              exact pos
          · exact dead _ _ _
  · rw [if_neg (by decide)]
    unfold takeS
    split
    · unfold finS
      split
      · exact dead _ _ _
      · rw [mu_4]
        · exact pos
        · rw [acks_z]
          exact show ¬ (2 : Int) = 1 by decide
    · exact dead _ _ _
theorem mu_le (s : Int) (A : SA) : muA s A ≤ 4 := by
  unfold muA muV
  split
  · decide
  · split
    · decide
    · split
      · split <;> decide
      · split <;> decide
/-- all that can be taken -/
def takeN : Nat → Int → SA → SA
  | 0, _, A => A
  | n + 1, s, A => if nextA A then takeN n s (takeA s A) else A
theorem takeN_stop {bd s : Int} (hs : s01 s) : ∀ (n : Nat) (A : SA), AI bd s A → muA s A ≤ n → ¬ nextA (takeN n s A) ∧ AI bd s (takeN n s A) := by
  intro n
  induction n with
  | zero =>
    intro A ai hm
    refine ⟨fun q => ?_, ai⟩
    have h := mu_take hs ai q
    omega
  | succ n ih =>
    intro A ai hm
    unfold takeN
    split
    · rename_i c
      exact ih _ (AI_take hs ai c) (by have := mu_take hs ai c; omega)
    · rename_i c
      exact ⟨c, ai⟩
theorem takeN_more {bd s : Int} (hs : s01 s) : ∀ (n m : Nat) (A : SA), AI bd s A → muA s A ≤ n → n ≤ m → takeN m s A = takeN n s A := by
  intro n
  induction n with
  | zero =>
    intro m A ai hm _
    cases m with
    | zero => rfl
    | succ m =>
      unfold takeN
      rw [if_neg (fun q => by have := mu_take hs ai q; omega)]
  | succ n ih =>
    intro m A ai hm hnm
    cases m with
    | zero => omega
    | succ m =>
      unfold takeN
      split
      · rename_i c
        exact ih m _ (AI_take hs ai c) (by have := mu_take hs ai c; omega) (by omega)
      · rfl
