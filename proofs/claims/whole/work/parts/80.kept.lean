/-! kept MESSAGES -/
theorem miss_cg {c c' : Int → Int} {n : Nat} (h : ∀ i : Int, 0 ≤ i → i < (n : Int) → c' i = c i) : miss c' n = miss c n := by
  induction n with
  | zero => rfl
  | succ n ih =>
    show miss c' n + (1 - c' (n : Int)) = miss c n + (1 - c (n : Int))
    rw [ih (fun i p q => h i p (by omega)), h n (by omega) (by omega)]
theorem miss_set {c : Int → Int} {p : Int} {n : Nat} (h : 0 ≤ p ∧ p < (n : Int)) : miss (fun i => if i = p then 1 else c i) n = miss c n - (1 - c p) := by
  induction n with
  | zero => omega
  | succ n ih =>
    show miss (fun i => if i = p then 1 else c i) n + (1 - (if (n : Int) = p then 1 else c (n : Int))) = miss c n + (1 - c (n : Int)) - (1 - c p)
    by_cases q : (n : Int) = p
    · rw [if_pos q, miss_cg (c := c) (fun i p1 p2 => if_neg (by omega)), q]
      omega
    · rw [if_neg q, ih (by omega)]
      omega
theorem miss_nn {c : Int → Int} {n : Nat} (h : ∀ i, c i = 0 ∨ c i = 1) : 0 ≤ miss c n := by
  induction n with
  | zero => exact Int.le_refl _
  | succ n ih => show 0 ≤ miss c n + (1 - c (n : Int)); have := h n; omega
theorem miss_le {c : Int → Int} {n : Nat} (h : ∀ i, c i = 0 ∨ c i = 1) : miss c n ≤ (n : Int) := by
  induction n with
  | zero => exact Int.le_refl _
  | succ n ih => show miss c n + (1 - c (n : Int)) ≤ _; have := h n; omega
theorem miss_all {c : Int → Int} {n : Nat} (h : ∀ i, c i = 0 ∨ c i = 1) (h0 : miss c n = 0) : ∀ i : Int, 0 ≤ i → i < (n : Int) → c i = 1 := by
  induction n with
  | zero => intro i p q; omega
  | succ n ih =>
    have h0 : miss c n + (1 - c (n : Int)) = 0 := h0
    have hn := miss_nn (n := n) h
    have hc := h n
    intro i p q
    by_cases d : i = (n : Int)
    · rw [d]; omega
    · exact ih (by omega) i p (by omega)
theorem miss_zero {c : Int → Int} {n : Nat} (h : ∀ i : Int, 0 ≤ i → i < (n : Int) → c i = 1) : miss c n = 0 := by
  induction n with
  | zero => rfl
  | succ n ih =>
    show miss c n + (1 - c (n : Int)) = 0
    rw [ih (fun i p q => h i p (by omega)), h n (by omega) (by omega)]
    rfl
abbrev KQ : Type := Int × Int × (Int → Int) × (Int → Int)
def kbody (q : KQ) : List Int := mr q.2.1 q.2.2.2
abbrev wholeA (A : SA) : Prop := (aK A (aZ A 2)).1 ≠ -1 ∧ miss (aK A (aZ A 2)).2.2.1 (aK A (aZ A 2)).2.1.toNat = 0
abbrev nextA (A : SA) : Prop := aZ A 0 = 1 ∧ wholeA A
theorem kLen_b {k l : Int} (h : kLen k l) : 2 ≤ l ∧ l ≤ 152 := by unfold kLen at h; omega
theorem AI.k {bd s : Int} {A : SA} (ai : AI bd s A) : AIk (aZ A) (aK A) := ai.2.2.2.2.1
theorem AI.kw {bd s : Int} {A : SA} (ai : AI bd s A) (h : wholeA A) : kLen (aK A (aZ A 2)).1 (aK A (aZ A 2)).2.1 ∧ ∀ i : Int, 0 ≤ i → i < (aK A (aZ A 2)).2.1 → (aK A (aZ A 2)).2.2.1 i = 1 ∧ 0 ≤ (aK A (aZ A 2)).2.2.2 i ∧ (aK A (aZ A 2)).2.2.2 i < 256 := by
  have k := ai.k (aZ A 2) (Int.le_refl _) h.1
  have hb := kLen_b k.2.2.2.1
  refine ⟨k.2.2.2.1, fun i p q => ?_⟩
  have e := miss_all (fun i => (k.2.2.2.2 i).1) h.2 i p (by omega)
  exact ⟨e, ((k.2.2.2.2 i).2 e).2⟩
theorem AI.kb {bd s : Int} {A : SA} (ai : AI bd s A) (h : wholeA A) : oct (kbody (aK A (aZ A 2))) ∧ ((kbody (aK A (aZ A 2))).length : Int) = (aK A (aZ A 2)).2.1 := by
  have k := ai.kw h
  have hb := kLen_b k.1
  refine ⟨fun x hx => ?_, by unfold kbody; rw [mr_len]; omega⟩
  unfold kbody mr at hx
  obtain ⟨j, hj, rfl⟩ := List.mem_map.mp hx
  have := List.mem_range.mp hj
  exact (k.2 j (by omega) (by omega)).2
theorem sg_mr {J : zM} {a : Nat} {i l : Int} {f : Int → Int} (h : ∀ k : Int, 0 ≤ k → k < l → J a (i + k) = f k) : sg J a i l.toNat = mr l f := by
  unfold sg mr
  refine List.map_congr_left (fun j hj => ?_)
  have := List.mem_range.mp hj
  exact h j (by omega) (by omega)
theorem xk_body {e : Nat} {bd s : Int} {J : zM} {A : SA} (h : XKp e J (aZ A 2) (aK A)) (ai : AI bd s A) (hw : wholeA A) : sg J (e + 22 + (aZ A 2 % 5).toNat) 0 (aK A (aZ A 2)).2.1.toNat = kbody (aK A (aZ A 2)) := by
  have k := ai.kw hw
  have hb := kLen_b k.1
  refine sg_mr (fun i p q => ?_)
  rw [Int.zero_add]
  exact (((h (aZ A 2) (Int.le_refl _) (by omega)).2 hw.1).2.2 i p (by omega)).2 (k.2 i p q).1
theorem mk_body {bd s : Int} {J : zM} {A : SA} (h : MKp s J (aZ A 2) (aK A)) (ai : AI bd s A) (hw : wholeA A) : sg J 544 (200 * (8 * s + aZ A 2 % 8)) (aK A (aZ A 2)).2.1.toNat = kbody (aK A (aZ A 2)) := by
  have k := ai.kw hw
  have hb := kLen_b k.1
  refine sg_mr (fun i p q => ?_)
  exact (((h (aZ A 2) (Int.le_refl _)).2 hw.1).2.2 i p (by omega)).2 (k.2 i p q).1
theorem xs_hasNext {e : Nat} {bd s : Int} {A : SA} {J : zM} {L : yM} {Q : Int → zM → yM → Prop} (h : XS e s J L A) (ai : AI bd s A) (h1 : nextA A → Q 1 J L) (h0 : ¬ nextA A → Q 0 J L) : w_X8_hasNext e J L Q := by
  have e12 : J e 12 = aZ A 0 := h.1.2.1
  have e14 : J e 14 = aZ A 2 := h.1.2.2.2.1
  have b0 := ai.b0
  have b2 := ai.b2
  have hk := h.2.2.2.2.1 (aZ A 2) (Int.le_refl _) (by omega)
  unfold w_X8_hasNext
  rw [e12]
  refine ⟨⟨by omega, by omega⟩, ?_⟩
  by_cases c : aZ A 0 = 1
  · rw [if_pos c, e14]
    unfold w_X3_isWhole
    rw [zrem_n ⟨b2.1, by omega⟩ (by decide)]
    intro x1 ex
    subst ex
    rw [hk.1]
    have hm : 0 ≤ aZ A 2 % 5 ∧ aZ A 2 % 5 < 5 := by omega
    by_cases d : (aK A (aZ A 2)).1 = -1
    · rw [d]
      refine ⟨hm, by decide, ?_⟩
      rw [if_pos rfl]
      refine ⟨by decide, ?_⟩
      rw [if_pos rfl]
      exact h0 (fun q => q.2.1 d)
    · have k := ai.k (aZ A 2) (Int.le_refl _) d
      have kl := k.2.2.2.1
      refine ⟨hm, by unfold kLen at kl; exact ⟨by omega, by omega⟩, ?_⟩
      rw [if_neg d, (hk.2 d).2.1]
      have hb := kLen_b kl
      have m1 := miss_nn (n := (aK A (aZ A 2)).2.1.toNat) (fun i => (k.2.2.2.2 i).1)
      have m2 := miss_le (n := (aK A (aZ A 2)).2.1.toNat) (fun i => (k.2.2.2.2 i).1)
      refine ⟨hm, ⟨by omega, by omega⟩, ?_⟩
      by_cases w : miss (aK A (aZ A 2)).2.2.1 (aK A (aZ A 2)).2.1.toNat = 0
      · rw [if_pos w]
        refine ⟨by decide, ?_⟩
        rw [if_neg (by decide)]
        exact h1 ⟨c, d, w⟩
      · rw [if_neg w]
        refine ⟨by decide, ?_⟩
        rw [if_pos rfl]
        exact h0 (fun q => w q.2.2)
  · rw [if_neg c]
    exact h0 (fun q => c q.1)
theorem ms_isWhole {s n l : Int} {c : Int → Int} {J : zM} {L : yM} {Q : Int → zM → yM → Prop} (hn : 0 ≤ n ∧ n < 16) (hl : 0 ≤ l ∧ l ≤ 152) (h542 : J 542 n = l) (hc : ∀ i, c i = 0 ∨ c i = 1) (h543 : ∀ i, 0 ≤ i → i < 152 → J 543 (200 * n + i) = c i) (h1 : miss c l.toNat = 0 → Q 1 J L) (h0 : miss c l.toNat ≠ 0 → Q 0 J L) : w_X12_isWhole n J L Q := by
  unfold w_X12_isWhole
  refine zl_zz.by (fun m w x J' L' => (m : Int) = l - x ∧ 0 ≤ x ∧ x ≤ l ∧ J' = J ∧ L' = L ∧ ((w = 1 ∧ ∀ i, 0 ≤ i → i < x → c i = 1) ∨ (w = 0 ∧ miss c l.toNat ≠ 0))) ?_ l.toNat 1 0 J L ⟨by omega, by omega, by omega, rfl, rfl, Or.inl ⟨rfl, fun i p q => by omega⟩⟩
  rintro m w x J1 L1 K ⟨hm, hx, hx2, rfl, rfl, hw⟩ hK
  rw [h542]
  refine ⟨hn, ⟨by omega, by omega⟩, ⟨by omega, by omega⟩, ?_⟩
  by_cases d : x < l
  · rw [if_pos d]
    refine ⟨by rcases hw with q | q <;> (rw [q.1]; decide), ?_⟩
    rcases hw with ⟨w1, wa⟩ | ⟨w0, wb⟩
    · rw [if_neg (by omega)]
      refine ⟨by omega, fun x15 e15 => ?_⟩
      rw [h543 x hx (by omega)] at e15
      refine hK (m - 1) x15 (x + 1) J1 L1 (by omega) ⟨by omega, by omega, by omega, rfl, rfl, ?_⟩
      rcases hc x with q | q
      · right
        refine ⟨by omega, fun hz => ?_⟩
        have := miss_all hc hz x hx (by omega)
        omega
      · left
        refine ⟨by omega, fun i p r => ?_⟩
        by_cases u : i = x
        · rw [u]; exact q
        · exact wa i p (by omega)
    · rw [if_pos w0, w0]
      exact ⟨by decide, h0 wb⟩
  · rw [if_neg d]
    rcases hw with ⟨w1, wa⟩ | ⟨w0, wb⟩
    · rw [w1]
      exact ⟨by decide, h1 (miss_zero (fun i p r => wa i p (by omega)))⟩
    · rw [w0]
      exact ⟨by decide, h0 wb⟩
/-- a FRAGMENT is kept -/
def keepQ (kd ln fr cn : Int) (b : Int → Int) (q : KQ) : KQ :=
  let r : KQ := if q.1 = -1 then (kd, ln, fun _ => 0, fun _ => 0) else q
  (r.1, r.2.1, fun i => if fr ≤ i ∧ i < fr + cn then 1 else r.2.2.1 i, fun i => if fr ≤ i ∧ i < fr + cn then b (i - fr) else r.2.2.2 i)
def keepA (n kd ln fr cn : Int) (b : Int → Int) (A : SA) : SA := uk (fun m => if m = n then keepQ kd ln fr cn b (aK A n) else aK A m) A
