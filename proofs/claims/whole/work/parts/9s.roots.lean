/-! the roots, by pure functions -/
def isP (p : Nat) : Bool := (List.range (p - 2)).all (fun d => p % (d + 2) != 0)
def sqF (p a f : Int64) : Bool := decide ((zcmp (((2 * a) * f) + (yush (f * f) 32)) (yshl (p - (a * a)) 32)) < 0)
def cuF (p a f : Int64) : Bool := decide ((zcmp ((((((3 * a) * a) * f) + ((3 * a) * (yush (f * f) 32))) + (yush (f * (yush (f * f) 32)) 32)) + (yush ((((3 * a) * ((f * f) &&& 4294967295)) + ((f * (yush (f * f) 32)) &&& 4294967295)) + (yush (f * ((f * f) &&& 4294967295)) 32)) 32)) (yshl (p - ((a * a) * a)) 32)) < 0)
def fits (c : Bool) (p a f : Int64) : Bool := if c then cuF p a f else sqF p a f
def rIn (c : Bool) (p a : Int64) : Nat → Int64 → Int64
  | 0, f => f
  | k + 1, f => rIn c p a k (if fits c p a (f ||| yshl 1 (k : Int)) then f ||| yshl 1 (k : Int) else f)
def rEx (c : Bool) (p a : Int64) : Bool := if c then decide (0 < zcmp (((a + 1) * (a + 1)) * (a + 1)) p) else decide (0 < zcmp ((a + 1) * (a + 1)) p)
def rOut (c : Bool) (p : Int64) : Nat → Int64 → Option Int64
  | 0, _ => none
  | k + 1, a => if rEx c p a then some a else rOut c p k (a + 1)
def rot (c : Bool) (p : Int64) : Option Int := (rOut c p 12 1).map (fun a => zl2i (rIn c p a 32 0))
theorem s_squareFits {p a f : Int64} {J : zM} {L : yM} {Q : Int → zM → yM → Prop} (h1 : sqF p a f = true → Q 1 J L) (h0 : sqF p a f = false → Q 0 J L) : w_X12_squareFits p a f J L Q := by
  unfold w_X12_squareFits
  intro x1 e1
  subst e1
  by_cases c : (zcmp (((2 * a) * f) + (yush (f * f) 32)) (yshl (p - (a * a)) 32)) < 0
  · rw [if_pos c]; exact h1 (by unfold sqF; exact decide_eq_true c)
  · rw [if_neg c]; exact h0 (by unfold sqF; exact decide_eq_false c)
theorem s_cubeFits {p a f : Int64} {J : zM} {L : yM} {Q : Int → zM → yM → Prop} (h1 : cuF p a f = true → Q 1 J L) (h0 : cuF p a f = false → Q 0 J L) : w_X12_cubeFits p a f J L Q := by
  unfold w_X12_cubeFits
  intro x1 e1 x2 e2 x3 e3 x4 e4 x5 e5
  subst e1
  subst e2
  subst e3
  subst e4
  subst e5
  by_cases c : (zcmp ((((((3 * a) * a) * f) + ((3 * a) * (yush (f * f) 32))) + (yush (f * (yush (f * f) 32)) 32)) + (yush ((((3 * a) * ((f * f) &&& 4294967295)) + ((f * (yush (f * f) 32)) &&& 4294967295)) + (yush (f * ((f * f) &&& 4294967295)) 32)) 32)) (yshl (p - ((a * a) * a)) 32)) < 0
  · rw [if_pos c]; exact h1 (by unfold cuF; exact decide_eq_true c)
  · rw [if_neg c]; exact h0 (by unfold cuF; exact decide_eq_false c)
theorem s_root {c : Bool} {p : Int64} {v : Int} {J : zM} {L : yM} {Q : Int → zM → yM → Prop} (h : rot c p = some v) (hQ : Q v J L) : w_X12_root p (if c then 1 else 0) J L Q := by
  unfold rot at h
  obtain ⟨A, hA, hv⟩ := Option.map_eq_some_iff.mp h
  clear h
  unfold w_X12_root
  refine zl_l.by (fun m x J' L' => J' = J ∧ L' = L ∧ rOut c p m x = some A) ?_ 12 1 J L ⟨rfl, rfl, hA⟩
  rintro m x J1 L1 K ⟨rfl, rfl, hx⟩ hK
  cases m with
  | zero => exact absurd hx (by simp [rOut])
  | succ m =>
    intro K7 hK7 K37 hK37
    have ex : rEx c p x = true → K7 J1 L1 := fun e => hK7 J1 L1 (by
      have xA : x = A := by
        have w : (if rEx c p x then some x else rOut c p m (x + 1)) = some A := hx
        rw [if_pos e] at w
        exact Option.some.inj w
      subst xA
      refine zl_lz.by (fun k f b J' L' => b = (k : Int) - 1 ∧ k ≤ 32 ∧ J' = J1 ∧ L' = L1 ∧ zl2i (rIn c p x k f) = v) ?_ 32 0 31 J1 L1 ⟨by decide, by decide, rfl, rfl, hv⟩
      rintro k f b J2 L2 K8 ⟨hb, hk, rfl, rfl, hf⟩ hK8
      refine ⟨⟨by omega, by omega⟩, ?_⟩
      by_cases cb : b < 0
      · rw [if_pos cb]
        have k0 : k = 0 := by omega
        subst k0
        have hf : zl2i f = v := hf
        rw [hf]
        exact hQ
      rw [if_neg cb]
      obtain ⟨k', rfl⟩ : ∃ k', k = k' + 1 := ⟨k - 1, by omega⟩
      have eb : b = (k' : Int) := by omega
      subst eb
      intro x15 e15
      subst e15
      have hf : zl2i (rIn c p x k' (if fits c p x (f ||| yshl 1 (k' : Int)) then f ||| yshl 1 (k' : Int) else f)) = v := hf
      intro K19 hK19 K22 hK22
      have yes : fits c p x (f ||| yshl 1 (k' : Int)) = true → K22 J2 L2 := fun e => hK22 J2 L2 (hK19 _ J2 L2 (hK8 k' _ _ J2 L2 (by omega) ⟨by omega, by omega, rfl, rfl, by rw [if_pos e] at hf; exact hf⟩))
      have no : fits c p x (f ||| yshl 1 (k' : Int)) = false → K19 f J2 L2 := fun e => hK19 _ J2 L2 (hK8 k' _ _ J2 L2 (by omega) ⟨by omega, by omega, rfl, rfl, by rw [e] at hf; exact hf⟩)
      cases c with
      | false =>
        refine ⟨by decide, ?_⟩
        rw [if_pos (by decide)]
        exact s_squareFits (fun e => if11.mpr (yes e)) (fun e => if01.mpr (no e))
      | true =>
        refine ⟨by decide, ?_⟩
        rw [if_neg (by decide)]
        exact s_cubeFits (fun e => if11.mpr (yes e)) (fun e => if01.mpr (no e)))
    have nx : rEx c p x = false → K37 J1 L1 := fun e => hK37 J1 L1 (fun x38 e38 => by
      subst e38
      refine hK m _ J1 L1 (by omega) ⟨rfl, rfl, ?_⟩
      have w : (if rEx c p x then some x else rOut c p m (x + 1)) = some A := hx
      rw [e] at w
      exact w)
    cases c with
    | false =>
      refine ⟨by decide, ?_⟩
      rw [if_pos (by decide)]
      by_cases q : 0 < zcmp ((x + 1) * (x + 1)) p
      · rw [if_pos q]; exact ex (decide_eq_true q)
      · rw [if_neg q]; exact nx (decide_eq_false q)
    | true =>
      refine ⟨by decide, ?_⟩
      rw [if_neg (by decide)]
      by_cases q : 0 < zcmp (((x + 1) * (x + 1)) * (x + 1)) p
      · rw [if_pos q]; exact ex (decide_eq_true q)
      · rw [if_neg q]; exact nx (decide_eq_false q)
theorem s_isPrime {p : Nat} {J : zM} {L : yM} {Q : Int → zM → yM → Prop} (h2 : 2 ≤ p ∧ p ≤ 400) (h1 : isP p = true → Q 1 J L) (h0 : isP p = false → Q 0 J L) : w_X12_isPrime (p : Int) J L Q := by
  unfold w_X12_isPrime
  refine zl_zz.by (fun m x2 x3 J' L' => (m : Int) = (p : Int) - x3 ∧ 2 ≤ x3 ∧ J' = J ∧ L' = L ∧ ((x2 = 1 ∧ ∀ d : Nat, 2 ≤ d → (d : Int) < x3 → p % d ≠ 0) ∨ (x2 = 0 ∧ ∃ d : Nat, 2 ≤ d ∧ d < p ∧ p % d = 0))) ?_ (p - 2) 1 2 J L ⟨by omega, by omega, rfl, rfl, Or.inl ⟨rfl, fun d a b => absurd a (by omega)⟩⟩
  rintro m x2 x3 J1 L1 K ⟨hm, hx, rfl, rfl, hd⟩ hK
  have q0 : x2 = 0 → Q 0 J1 L1 := fun e => h0 (by
    rcases hd with hd | hd
    · omega
    · obtain ⟨d, d1, d2, d3⟩ := hd.2
      unfold isP
      rw [List.all_eq_false]
      refine ⟨d - 2, List.mem_range.mpr (by omega), ?_⟩
      rw [show d - 2 + 2 = d by omega, d3]
      decide)
  refine ⟨⟨by omega, by omega⟩, ⟨by omega, by omega⟩, ?_⟩
  by_cases c : x3 < (p : Int)
  · rw [if_pos c]
    refine ⟨by rcases hd with hd | hd <;> (rw [hd.1]; decide), ?_⟩
    by_cases c0 : x2 = 0
    · rw [if_pos c0, c0]
      exact ⟨Or.inl rfl, q0 c0⟩
    · rw [if_neg c0]
      refine ⟨⟨⟨by omega, by omega⟩, by omega⟩, fun K17 hK17 => ?_⟩
      have hd1 : ∀ d : Nat, 2 ≤ d → (d : Int) < x3 → p % d ≠ 0 := by
        rcases hd with hd | hd
        · exact hd.2
        · exact absurd hd.1 c0
      rw [zrem_n ⟨by omega, by omega⟩ ⟨by omega, by omega⟩]
      by_cases r : (p : Int) % x3 = 0
      · rw [if_pos r]
        exact hK17 0 J1 L1 (hK (m - 1) _ _ J1 L1 (by omega) ⟨by omega, by omega, rfl, rfl, Or.inr ⟨rfl, x3.toNat, by omega, by omega, by
          have : ((p % x3.toNat : Nat) : Int) = 0 := by rw [Int.natCast_emod, show ((x3.toNat : Nat) : Int) = x3 by omega]; exact r
          omega⟩⟩)
      · rw [if_neg r]
        refine hK17 1 J1 L1 (hK (m - 1) _ _ J1 L1 (by omega) ⟨by omega, by omega, rfl, rfl, Or.inl ⟨rfl, fun d a b => ?_⟩⟩)
        by_cases e : (d : Int) = x3
        · intro w
          apply r
          rw [← e, ← Int.natCast_emod, w]
          rfl
        · exact hd1 d a (by omega)
  · rw [if_neg c]
    rcases hd with hd | hd
    · rw [hd.1]
      refine ⟨Or.inr rfl, h1 ?_⟩
      unfold isP
      rw [List.all_eq_true]
      intro d hd'
      have := List.mem_range.mp hd'
      have w := hd.2 (d + 2) (by omega) (by omega)
      simpa using w
    · rw [hd.1]
      exact ⟨Or.inl rfl, q0 hd.1⟩
