/-! a side of the class made anew -/
abbrev Z8 : List Int := nb 8 0
abbrev Z16 : List Int := nb 8 0 ++ nb 8 0
theorem long0 : (0 : Int64).toInt = 0 := by decide
theorem s_an9 {e : Nat} {mt ck ws : Int} {J : zM} {L : yM} {Q : zM → yM → Prop} (he : iSide e) (hc : B01 ck) (hw : B01 ws) (hQ : ∀ J' L', (J' (e + 1) 4 = 0 ∧ J' (e + 1) 5 = ck ∧ J' (e + 1) 6 = ws ∧ J' (e + 1) 7 = mt ∧ J' (e + 1) 8 = 0 ∧ J' (e + 1) 11 = 0 ∧ J' (e + 1) 12 = 0 ∧ J' (e + 1) 14 = 0) → sg J' (e + 2) 0 16 = Z16 → sg J' (e + 3) 0 8 = Z8 → sg J' (e + 4) 0 8 = Z8 → (∀ a, ¬ (e + 1 ≤ a ∧ a ≤ e + 4) → J' a = J a) → L' (e + 1) 13 = 0 → (∀ a, a ≠ e + 1 → L' a = L a) → Q J' L') : w_X9_startAnew e mt ck ws J L Q := by
  have ln := ln_id he
  have l8 := nb_len 8 0
  unfold w_X9_startAnew
  intro J1 e1
  refine ⟨hc, fun J3 e3 => ⟨hw, fun J5 e5 => ?_⟩⟩
  refine s_putLong (by decide) (by rw [ln.1]; decide) (s_putLong (by decide) (by rw [ln.1]; decide) (s_putLong (by decide) (by rw [ln.2.1]; decide) (s_putLong (by decide) (by rw [ln.2.2]; decide) ?_)))
  rw [long0, zw_app J5 (e + 2) 0 8 (nb 8 0) (nb 8 0) (by rw [l8]; rfl)]
  obtain ⟨J12, e12⟩ : ∃ J12, J12 = zw (zw (zw J5 (e + 2) 0 (nb 8 0 ++ nb 8 0)) (e + 3) 0 (nb 8 0)) (e + 4) 0 (nb 8 0) := ⟨_, rfl⟩
  rw [← e12]
  intro J14 e14 J15 e15 J16 e16 J17 e17 L18 e18 J19 e19
  have r19 : ∀ a, a ≠ e + 1 → J19 a = J12 a := fun a ha => by rw [e19, zs_r _ ha, e17, zs_r _ ha, e16, zs_r _ ha, e15, zs_r _ ha, e14, zs_r _ ha]
  have r12 : ∀ a, a ≠ e + 2 → a ≠ e + 3 → a ≠ e + 4 → J12 a = J5 a := fun a p q w => by rw [e12, zw_r _ w, zw_r _ q, zw_r _ p]
  have r5 : ∀ a, a ≠ e + 1 → J5 a = J a := fun a ha => by rw [e5, zs_r _ ha, e3, zs_r _ ha, e1, zs_r _ ha]
  have p12 : J12 (e + 1) = J5 (e + 1) := r12 _ (by omega) (by omega) (by omega)
  refine hQ J19 L18 ⟨?_, ?_, ?_, ?_, ?_, ?_, ?_, ?_⟩ ?_ ?_ ?_ (fun a ha => ?_) (by rw [e18]; exact ys_s _ _ _ _) (fun a ha => by rw [e18]; exact ys_r _ ha)
  · rw [e19, zs_n _ (Or.inr (by decide)), e17, zs_n _ (Or.inr (by decide)), e16, zs_n _ (Or.inr (by decide)), e15, zs_n _ (Or.inr (by decide)), e14, zs_s]
  · rw [e19, zs_n _ (Or.inr (by decide)), e17, zs_n _ (Or.inr (by decide)), e16, zs_n _ (Or.inr (by decide)), e15, zs_n _ (Or.inr (by decide)), e14, zs_n _ (Or.inr (by decide)), p12, e5, zs_n _ (Or.inr (by decide)), e3, zs_s]
  · rw [e19, zs_n _ (Or.inr (by decide)), e17, zs_n _ (Or.inr (by decide)), e16, zs_n _ (Or.inr (by decide)), e15, zs_n _ (Or.inr (by decide)), e14, zs_n _ (Or.inr (by decide)), p12, e5, zs_s]
  · rw [e19, zs_n _ (Or.inr (by decide)), e17, zs_n _ (Or.inr (by decide)), e16, zs_n _ (Or.inr (by decide)), e15, zs_n _ (Or.inr (by decide)), e14, zs_n _ (Or.inr (by decide)), p12, e5, zs_n _ (Or.inr (by decide)), e3, zs_n _ (Or.inr (by decide)), e1, zs_s]
  · rw [e19, zs_n _ (Or.inr (by decide)), e17, zs_n _ (Or.inr (by decide)), e16, zs_n _ (Or.inr (by decide)), e15, zs_s]
  · rw [e19, zs_n _ (Or.inr (by decide)), e17, zs_n _ (Or.inr (by decide)), e16, zs_s]
  · rw [e19, zs_n _ (Or.inr (by decide)), e17, zs_s]
  · rw [e19, zs_s]
  · rw [sg_row (r19 _ (by omega)), e12, sg_row (zw_r _ (by omega)), sg_row (zw_r _ (by omega))]
    exact sg2 (by rw [l8])
  · rw [sg_row (r19 _ (by omega)), e12, sg_row (zw_r _ (by omega))]
    have q := zw_sg (zw J5 (e + 2) 0 (nb 8 0 ++ nb 8 0)) (e + 3) 0 (nb 8 0)
    rw [l8] at q
    exact q
  · rw [sg_row (r19 _ (by omega)), e12]
    have q := zw_sg (zw (zw J5 (e + 2) 0 (nb 8 0 ++ nb 8 0)) (e + 3) 0 (nb 8 0)) (e + 4) 0 (nb 8 0)
    rw [l8] at q
    exact q
  · rw [r19 a (by omega), r12 a (by omega) (by omega) (by omega), r5 a (by omega)]
theorem s_an5 {e : Nat} {J : zM} {L : yM} {Q : zM → yM → Prop} (hQ : ∀ J', J' (e + 144) 10 = 0 → J' (e + 144) 11 = 0 → (∀ a, a ≠ e + 144 → J' a = J a) → Q J' L) : w_X5_startAnew e J L Q := by
  unfold w_X5_startAnew
  intro J1 e1 J2 e2
  exact hQ J2 (by rw [e2, zs_n _ (Or.inr (by decide)), e1, zs_s]) (by rw [e2, zs_s]) (fun a ha => by rw [e2, zs_r _ ha, e1, zs_r _ ha])
theorem s_an6 {e : Nat} {mt : Int} {J : zM} {L : yM} {Q : zM → yM → Prop} (hQ : ∀ J', J' (e + 168) 0 = J (e + 168) 0 → J' (e + 168) 6 = mt → J' (e + 168) 7 = 0 → J' (e + 168) 8 = 0 → (∀ k, 0 ≤ k → k < 4 → J' (e + 171) k = 0) → (∀ a, a ≠ e + 168 → a ≠ e + 171 → J' a = J a) → Q J' L) : w_X6_startAnew e mt J L Q := by
  unfold w_X6_startAnew
  intro J1 e1 J2 e2 J3 e3
  refine wl_by (b := e + 171) (off := 0) (n := 4) (f := fun _ => 0) (by decide) (fun x J4 K x0 x1 wp hK => ?_) (fun J4 K wp => ?_)
  · refine ⟨⟨by omega, by omega⟩, ?_⟩
    rw [if_pos x1]
    refine ⟨⟨by omega, by omega⟩, fun J5 e5 => hK J5 ?_⟩
    rw [Int.zero_add]
    exact e5
  refine ⟨by decide, ?_⟩
  rw [if_neg (by decide)]
  have r : J4 (e + 168) = J3 (e + 168) := wp.2.2 _ (by omega)
  refine hQ J4 ?_ ?_ ?_ ?_ (fun k k0 k1 => ?_) (fun a p q => ?_)
  · rw [r, e3, zs_n _ (Or.inr (by decide)), e2, zs_n _ (Or.inr (by decide)), e1, zs_n _ (Or.inr (by decide))]
  · rw [r, e3, zs_n _ (Or.inr (by decide)), e2, zs_n _ (Or.inr (by decide)), e1, zs_s]
  · rw [r, e3, zs_n _ (Or.inr (by decide)), e2, zs_s]
  · rw [r, e3, zs_s]
  · have w := wp.1 k k0 k1
    rw [Int.zero_add] at w
    exact w
  · rw [wp.2.2 a q, e3, zs_r _ p, e2, zs_r _ p, e1, zs_r _ p]
theorem s_an2 {e : Nat} {J : zM} {L : yM} {Q : zM → yM → Prop} (hQ : ∀ J', (∀ k, 8 ≤ k → k ≤ 13 → J' (e + 8) k = 0) → (∀ a, a ≠ e + 8 → J' a = J a) → Q J' L) : w_X2_startAnew e J L Q := by
  unfold w_X2_startAnew
  intro J1 e1 J2 e2 J3 e3 J4 e4 J5 e5 J6 e6
  refine hQ J6 (fun k k0 k1 => ?_) (fun a ha => by rw [e6, zs_r _ ha, e5, zs_r _ ha, e4, zs_r _ ha, e3, zs_r _ ha, e2, zs_r _ ha, e1, zs_r _ ha])
  have c : k = 8 ∨ k = 9 ∨ k = 10 ∨ k = 11 ∨ k = 12 ∨ k = 13 := by omega
  rcases c with rfl | rfl | rfl | rfl | rfl | rfl
  · rw [e6, zs_n _ (Or.inr (by decide)), e5, zs_n _ (Or.inr (by decide)), e4, zs_n _ (Or.inr (by decide)), e3, zs_n _ (Or.inr (by decide)), e2, zs_n _ (Or.inr (by decide)), e1, zs_s]
  · rw [e6, zs_n _ (Or.inr (by decide)), e5, zs_n _ (Or.inr (by decide)), e4, zs_n _ (Or.inr (by decide)), e3, zs_n _ (Or.inr (by decide)), e2, zs_s]
  · rw [e6, zs_n _ (Or.inr (by decide)), e5, zs_n _ (Or.inr (by decide)), e4, zs_n _ (Or.inr (by decide)), e3, zs_s]
  · rw [e6, zs_n _ (Or.inr (by decide)), e5, zs_n _ (Or.inr (by decide)), e4, zs_s]
  · rw [e6, zs_n _ (Or.inr (by decide)), e5, zs_s]
  · rw [e6, zs_s]
theorem s_an3 {e : Nat} {J : zM} {L : yM} {Q : zM → yM → Prop} (hQ : ∀ J', (∀ k, 0 ≤ k → k < 5 → J' (e + 18) k = -1) → (∀ a, a ≠ e + 18 → J' a = J a) → Q J' L) : w_X3_startAnew e J L Q := by
  unfold w_X3_startAnew
  refine wl_by (b := e + 18) (off := 0) (n := 5) (f := fun _ => -1) (by decide) (fun x J4 K x0 x1 wp hK => ?_) (fun J4 K wp => ?_)
  · refine ⟨⟨by omega, by omega⟩, ?_⟩
    rw [if_pos x1]
    refine ⟨⟨by omega, by omega⟩, fun J5 e5 => hK J5 ?_⟩
    rw [Int.zero_add]
    exact e5
  refine ⟨by decide, ?_⟩
  rw [if_neg (by decide)]
  refine hQ J4 (fun k k0 k1 => ?_) wp.2.2
  have w := wp.1 k k0 k1
  rw [Int.zero_add] at w
  exact w
theorem s_an0 {e : Nat} {J : zM} {L : yM} {Q : zM → yM → Prop} (hQ : ∀ J', J' (e + 33) 2 = 0 → J' (e + 33) 3 = 0 → (∀ a, a ≠ e + 33 → J' a = J a) → Q J' L) : w_X0_startAnew e J L Q := by
  unfold w_X0_startAnew
  intro J1 e1 J2 e2
  exact hQ J2 (by rw [e2, zs_n _ (Or.inr (by decide)), e1, zs_s]) (by rw [e2, zs_s]) (fun a ha => by rw [e2, zs_r _ ha, e1, zs_r _ ha])
/-- what a side made anew is: y of old what no one has told to be other -/
def yFr (e : Nat) (J : zM) (k : Nat) : List Int := if k = 0 then Z16 else if k = 1 then Z8 else if k = 2 then Z8 else if k = 4 then sg J (e + 6) 0 16 else if k < 10 then [] else if k < 16 then sg J (e + 146 + (k - 10)) 0 32 else if k < 20 then sg J (e + 153 + (k - 16)) 0 32 else if k < 24 then sg J (e + 158 + (k - 20)) 0 32 else []
def zFr (s mt ws ck : Int) (k : Nat) : Int := if k = 1 then (if s = 0 then 2 else 20) else if k = 3 then -1 else if k = 18 then mt else if k = 19 then ws else if k = 20 then ck else 0
def frA (s mt ws ck : Int) (y : Nat → List Int) : SA := (zFr s mt ws ck, y, (fun _ => -1, fun _ => 0), [], FL0, fun _ => (-1, 0, fun _ => 0, fun _ => 0), [], ([], 0, fun _ => 0, [], []))
/-- what a side is before it is made -/
def XPr (e : Nat) (s : Int) (J : zM) : Prop := J e 0 = s ∧ J (e + 168) 0 = s ∧ J (e + 13) 0 = 0 ∧ xZ e J ∧ (rL (wy e) J = [] ∧ iR (wy e) J) ∧ iR (e + 38) J
theorem iR_0 {r : Nat} {J : zM} (h : iR r J) : iR r (zs J r 5 0) ∧ rL r (zs J r 5 0) = [] := by
  obtain ⟨h1, h2, h3, h4, h5⟩ := h
  have a : ∀ c, c ≠ r → zs J r 5 0 c = J c := fun c hc => zs_r J hc
  refine ⟨⟨⟨by rw [zs_s]; omega, by rw [zs_s]; omega⟩, ⟨by rw [zs_n _ (Or.inr (by decide))]; exact h2.1, by rw [zs_n _ (Or.inr (by decide))]; exact h2.2⟩, ?_, ?_, fun i i0 i1 => ?_⟩, ?_⟩
  · unfold rO
    rw [a _ (by omega)]
    exact h3
  · unfold rO
    rw [a _ (by omega)]
    exact h4
  · rw [zs_s] at i1
    omega
  · unfold rL
    rw [zs_s]
    rfl
theorem xs_anew {e : Nat} {s mt ck ws : Int} {J : zM} {L : yM} {Q : zM → yM → Prop} (he : iSide e) (hs : s01 s) (hp : XPr e s J) (hc : B01 ck) (hw : B01 ws) (hQ : ∀ J' L', XS e s J' L' (frA s mt ws ck (yFr e J)) → (∀ a, ¬ (e ≤ a ∧ a < e + 176) → J' a = J a ∧ L' a = L a) → Q J' L') : w_X8_startAnew e mt ck ws J L Q := by
  have he2 : 139 ≤ e := by unfold iSide at he; omega
  obtain ⟨p0, p1, p2, p3, p4, p5⟩ := hp
  unfold w_X8_startAnew
  refine s_an9 he hc hw (fun J1 L1 a1 a2 a3 a4 f1 a5 g1 => ?_)
  refine s_an5 (fun J2 b1 b2 f2 => s_an6 (fun J3 c0 c1 c2 c3 c4 f3 => s_an2 (fun J4 d1 f4 => s_an3 (fun J5 k1 f5 => s_an0 (fun J6 l1 l2 f6 => ?_)))))
  refine zl_z.by (fun m x J' L' => (m : Int) = 4 - x ∧ 0 ≤ x ∧ (∀ i : Nat, (i : Int) < x → J' (e + 172 + i) 0 = -1 ∧ L' (e + 172 + i) 1 = 0) ∧ (∀ a, ¬ (e + 172 ≤ a ∧ a < e + 176) → J' a = J6 a ∧ L' a = L1 a)) ?_ 4 0 J6 L1 ⟨by omega, by omega, fun i hi => absurd hi (by omega), fun _ _ => ⟨rfl, rfl⟩⟩
  rintro m x J7 L7 K ⟨hm, hx, w1, f7⟩ hK
  refine ⟨⟨by omega, by omega⟩, ?_⟩
  by_cases cx : x < 4
  · rw [if_pos cx]
    refine ⟨⟨hx, cx⟩, ?_⟩
    unfold w_X10_startAnew
    intro J8 e8 L8 e9
    refine hK (m - 1) (x + 1) J8 L8 (by omega) ⟨by omega, by omega, fun i hi => ?_, fun a ha => ?_⟩
    · by_cases q : i = x.toNat
      · subst q
        rw [e8, e9, zs_s, ys_s]
        exact ⟨rfl, rfl⟩
      · have w := w1 i (by omega)
        rw [e8, e9, zs_r _ (by omega), ys_r _ (by omega)]
        exact w
    · have w := f7 a ha
      rw [e8, e9, zs_r _ (by omega), ys_r _ (by omega)]
      exact w
  rw [if_neg cx]
  have w2 : ∀ i : Nat, i < 4 → J7 (e + 172 + i) 0 = -1 ∧ L7 (e + 172 + i) 1 = 0 := fun i hi => w1 i (by omega)
  clear w1 hK hm hx cx
  refine wl_by (b := e + 37) (off := 0) (n := 5) (f := fun _ => 0) (by decide) (fun x J8 K x0 x1 wp hK => ?_) (fun J8 K wp => ?_)
  · refine ⟨⟨by omega, by omega⟩, ?_⟩
    rw [if_pos x1]
    refine ⟨⟨by omega, by omega⟩, fun J9 e9 => hK J9 ?_⟩
    rw [Int.zero_add]
    exact e9
  refine ⟨by decide, ?_⟩
  rw [if_neg (by decide)]
  have f8 : ∀ a, a ≠ e + 37 → J8 a = J7 a := fun a ha => wp.2.2 a ha
  have n1 : ∀ k, 0 ≤ k → k < 5 → J8 (e + 37) k = 0 := fun k k0 k1 => by have w := wp.1 k k0 k1; rw [Int.zero_add] at w; exact w
  clear wp
  unfold w_X4_empty
  intro J9 e9 J10 e10 K31 hK31
  have f9 : ∀ a, a ≠ e + 38 → J9 a = J8 a := fun a ha => by rw [e9]; exact zs_r _ ha
  have f10 : ∀ a, a ≠ e → J10 a = J9 a := fun a ha => by rw [e10]; exact zs_r _ ha
  -- what is before
  have base : ∀ a, ¬ (e + 1 ≤ a ∧ a ≤ e + 4) → a ≠ e + 144 → a ≠ e + 168 → a ≠ e + 171 → a ≠ e + 8 → a ≠ e + 18 → a ≠ e + 33 → ¬ (e + 172 ≤ a ∧ a < e + 176) → a ≠ e + 37 → a ≠ e + 38 → a ≠ e → J10 a = J a := fun a q1 q2 q3 q4 q5 q6 q7 q8 q9 q10 q11 => by
    rw [f10 a q11, f9 a q10, f8 a q9, (f7 a q8).1, f6 a q7, f5 a q6, f4 a q5, f3 a q3 q4, f2 a q2, f1 a q1]
  have t7 : ∀ a, a < e + 37 ∨ e + 38 < a → a ≠ e → J10 a = J7 a := fun a q1 q2 => by rw [f10 a q2, f9 a (by omega), f8 a (by omega)]
  have t6 : ∀ a, a < e + 37 ∨ (e + 38 < a ∧ a < e + 172) → a ≠ e → J10 a = J6 a := fun a q1 q2 => by rw [t7 a (by omega) q2, (f7 a (by omega)).1]
  have fin : ∀ x28 : Int, x28 = (if s = 0 then 2 else 20) → K31 x28 J10 L7 := fun x28 h28 => hK31 x28 J10 L7 (by
    intro J32 e32 J33 e33 J34 e34 J35 e35 J36 e36 J37 e37 J38 e38
    have f38 : ∀ a, a ≠ e → J38 a = J10 a := fun a ha => by rw [e38, zs_r _ ha, e37, zs_r _ ha, e36, zs_r _ ha, e35, zs_r _ ha, e34, zs_r _ ha, e33, zs_r _ ha, e32, zs_r _ ha]
    have B : ∀ a, ¬ (e + 1 ≤ a ∧ a ≤ e + 4) → a ≠ e + 144 → a ≠ e + 168 → a ≠ e + 171 → a ≠ e + 8 → a ≠ e + 18 → a ≠ e + 33 → ¬ (e + 172 ≤ a ∧ a < e + 176) → a ≠ e + 37 → a ≠ e + 38 → a ≠ e → J38 a = J a := fun a q1 q2 q3 q4 q5 q6 q7 q8 q9 q10 q11 => by rw [f38 a q11]; exact base a q1 q2 q3 q4 q5 q6 q7 q8 q9 q10 q11
    have u6 : ∀ a, a < e + 37 ∨ (e + 38 < a ∧ a < e + 172) → a ≠ e → J38 a = J6 a := fun a q1 q2 => by rw [f38 a q2, t6 a q1 q2]
    have u1 : ∀ a, e + 1 ≤ a ∧ a ≤ e + 4 → J38 a = J1 a := fun a q => by rw [u6 a (by omega) (by omega), f6 a (by omega), f5 a (by omega), f4 a (by omega), f3 a (by omega) (by omega), f2 a (by omega)]
    have u2 : J38 (e + 144) = J2 (e + 144) := by rw [u6 _ (by omega) (by omega), f6 _ (by omega), f5 _ (by omega), f4 _ (by omega), f3 _ (by omega) (by omega)]
    have u3 : ∀ a, a = e + 168 ∨ a = e + 171 → J38 a = J3 a := fun a q => by rw [u6 a (by omega) (by omega), f6 a (by omega), f5 a (by omega), f4 a (by omega)]
    have u4 : J38 (e + 8) = J4 (e + 8) := by rw [u6 _ (by omega) (by omega), f6 _ (by omega), f5 _ (by omega)]
    have u5 : J38 (e + 18) = J5 (e + 18) := by rw [u6 _ (by omega) (by omega), f6 _ (by omega)]
    have u7 : ∀ i : Nat, i < 4 → J38 (e + 172 + i) = J7 (e + 172 + i) := fun i hi => by rw [f38 _ (by omega), t7 _ (by omega) (by omega)]
    have u8 : J38 (e + 37) = J8 (e + 37) := by rw [f38 _ (by omega), f10 _ (by omega), f9 _ (by omega)]
    have z10 : ∀ k, k ≠ 12 → J10 e k = J e k := fun k hk => by
      rw [e10, zs_n _ (Or.inr hk), f9 _ (by omega), f8 _ (by omega), (f7 _ (by omega)).1, f6 _ (by omega), f5 _ (by omega), f4 _ (by omega), f3 _ (by omega) (by omega), f2 _ (by omega), f1 _ (by omega)]
    have y10 : J10 e 12 = 0 := by rw [e10]; exact zs_s _ _ _ _
    have L7e : ∀ a, ¬ (e + 172 ≤ a ∧ a < e + 176) → L7 a = L1 a := fun a ha => (f7 a ha).2
    refine hQ J38 L7 ⟨⟨?_, ?_, ?_, ?_, ?_, ?_, ?_, ?_, ?_⟩, ?_, ?_, ?_, ?_, ?_, ?_, ?_, ?_, ?_, ?_⟩ (fun a ha => ⟨?_, ?_⟩)
    · rw [e38, zs_n _ (Or.inr (by decide)), e37, zs_n _ (Or.inr (by decide)), e36, zs_n _ (Or.inr (by decide)), e35, zs_n _ (Or.inr (by decide)), e34, zs_n _ (Or.inr (by decide)), e33, zs_n _ (Or.inr (by decide)), e32, zs_n _ (Or.inr (by decide)), z10 0 (by decide)]; exact p0
    · rw [e38, zs_n _ (Or.inr (by decide)), e37, zs_n _ (Or.inr (by decide)), e36, zs_n _ (Or.inr (by decide)), e35, zs_n _ (Or.inr (by decide)), e34, zs_n _ (Or.inr (by decide)), e33, zs_n _ (Or.inr (by decide)), e32, zs_n _ (Or.inr (by decide)), y10]; rfl
    · rw [e38, zs_n _ (Or.inr (by decide)), e37, zs_n _ (Or.inr (by decide)), e36, zs_n _ (Or.inr (by decide)), e35, zs_n _ (Or.inr (by decide)), e34, zs_n _ (Or.inr (by decide)), e33, zs_n _ (Or.inr (by decide)), e32, zs_s, h28]; rfl
    · rw [e38, zs_n _ (Or.inr (by decide)), e37, zs_n _ (Or.inr (by decide)), e36, zs_n _ (Or.inr (by decide)), e35, zs_n _ (Or.inr (by decide)), e34, zs_n _ (Or.inr (by decide)), e33, zs_s]; rfl
    · rw [e38, zs_n _ (Or.inr (by decide)), e37, zs_n _ (Or.inr (by decide)), e36, zs_n _ (Or.inr (by decide)), e35, zs_n _ (Or.inr (by decide)), e34, zs_s]; rfl
    · rw [e38, zs_n _ (Or.inr (by decide)), e37, zs_n _ (Or.inr (by decide)), e36, zs_n _ (Or.inr (by decide)), e35, zs_s]; rfl
    · rw [e38, zs_n _ (Or.inr (by decide)), e37, zs_n _ (Or.inr (by decide)), e36, zs_s]; rfl
    · rw [e38, zs_n _ (Or.inr (by decide)), e37, zs_s]; rfl
    · rw [e38, zs_s]; rfl
    · obtain ⟨v1, v2, v3, v4, v5, v6, v7, v8⟩ := a1
      have r1 := u1 (e + 1) (by omega)
      refine ⟨by rw [r1]; exact v1, by rw [r1]; exact v2, by rw [r1]; exact v3, by rw [r1]; exact v4, by rw [r1]; exact v5, by rw [r1]; exact v6, by rw [r1]; exact v7, by rw [r1]; exact v8, ?_⟩
      rw [L7e _ (by omega), a5]
      rfl
    · refine ⟨by rw [sg_row (u1 _ (by omega))]; exact a2, by rw [sg_row (u1 _ (by omega))]; exact a3, by rw [sg_row (u1 _ (by omega))]; exact a4, rfl, ?_, rfl⟩
      rw [sg_row (B (e + 6) (by omega) (by omega) (by omega) (by omega) (by omega) (by omega) (by omega) (by omega) (by omega) (by omega) (by omega))]
      rfl
    · refine ⟨by rw [u4]; exact d1 10 (by decide) (by decide), by rw [u4]; exact d1 11 (by decide) (by decide), by rw [u4]; exact d1 12 (by decide) (by decide), by rw [u4]; exact d1 13 (by decide) (by decide), by rw [u4]; exact d1 8 (by decide) (by decide), show (0 : Nat) ≤ 3 by decide, fun f hf => absurd (show f < 0 from hf) (Nat.not_lt_zero f), fun f hf => ?_, show (0 : Nat) ≤ 204 by decide, fun f hf => absurd (show f < 0 from hf) (Nat.not_lt_zero f), fun i i0 i1 => absurd i1 (by show ¬ i < ((0 : Nat) : Int); omega)⟩
      have f0 : f = 0 := by have : f ≤ 0 := hf; omega
      subst f0
      rw [B (e + 13) (by omega) (by omega) (by omega) (by omega) (by omega) (by omega) (by omega) (by omega) (by omega) (by omega) (by omega)]
      exact p2
    · intro n n0 n1'
      refine ⟨?_, fun q => absurd rfl q⟩
      rw [u5]
      exact k1 _ (by omega) (by omega)
    · refine ⟨⟨by rw [u6 _ (by omega) (by omega)]; exact l1, show (0 : Nat) ≤ 8 by decide, fun i q hq => absurd (show ([] : List (Int × Int))[i]? = some q from hq) (by simp)⟩, by rw [u6 _ (by omega) (by omega)]; exact l2⟩
    · intro k hk
      rw [u8, n1 _ (by omega) (by omega)]
      show (0 : Int) = zFr s mt ws ck (21 + k)
      unfold zFr
      rw [if_neg (by omega), if_neg (by omega), if_neg (by omega), if_neg (by omega), if_neg (by omega)]
    · have r38 : ∀ a, cR (e + 38) a → J38 a = J9 a := fun a ha => by
        have hq : rq (e + 38) = 100 := by unfold rq; rw [if_neg (by omega)]
        unfold cR at ha
        rw [f38 a (by omega), f10 a (by omega)]
      have e8 : iR (e + 38) J8 ∧ True := by
        refine ⟨?_, trivial⟩
        refine (rL_fr (r := e + 38) (J := J) (J' := J8) (fun a ha => ?_) p5).2
        have ha : cR (e + 38) a := Classical.not_not.mp ha
        have hq : rq (e + 38) = 100 := by unfold rq; rw [if_neg (by omega)]
        unfold cR at ha
        rw [f8 a (by omega), (f7 a (by omega)).1, f6 a (by omega), f5 a (by omega), f4 a (by omega), f3 a (by omega) (by omega), f2 a (by omega), f1 a (by omega)]
      have w := iR_0 e8.1
      rw [← e9] at w
      have v := rL_fr (r := e + 38) (J := J9) (J' := J38) (fun a ha => r38 a (Classical.not_not.mp ha)) w.1
      exact ⟨v.1.trans w.2, v.2⟩
    · refine ⟨by rw [u2]; exact b2, fun lv => absurd lv (by show ¬ live 0; unfold live; omega), ?_, fun i hi => ?_, fun i hi => ⟨?_, ?_⟩, [], by rw [u2]; exact b1, rfl, by decide⟩
      · unfold xZ
        rw [sg_row (B (e + 167) (by omega) (by omega) (by omega) (by omega) (by omega) (by omega) (by omega) (by omega) (by omega) (by omega) (by omega))]
        exact p3
      · rw [sg_row (B (e + 146 + i) (by omega) (by omega) (by omega) (by omega) (by omega) (by omega) (by omega) (by omega) (by omega) (by omega) (by omega))]
        show _ = yFr e J (10 + i)
        unfold yFr
        rw [if_neg (by omega), if_neg (by omega), if_neg (by omega), if_neg (by omega), if_neg (by omega), if_pos (by omega), show 10 + i - 10 = i by omega]
      · rw [sg_row (B (e + 153 + i) (by omega) (by omega) (by omega) (by omega) (by omega) (by omega) (by omega) (by omega) (by omega) (by omega) (by omega))]
        show _ = yFr e J (16 + i)
        unfold yFr
        rw [if_neg (by omega), if_neg (by omega), if_neg (by omega), if_neg (by omega), if_neg (by omega), if_neg (by omega), if_pos (by omega), show 16 + i - 16 = i by omega]
      · rw [sg_row (B (e + 158 + i) (by omega) (by omega) (by omega) (by omega) (by omega) (by omega) (by omega) (by omega) (by omega) (by omega) (by omega))]
        show _ = yFr e J (20 + i)
        unfold yFr
        rw [if_neg (by omega), if_neg (by omega), if_neg (by omega), if_neg (by omega), if_neg (by omega), if_neg (by omega), if_neg (by omega), if_pos (by omega), show 20 + i - 20 = i by omega]
    · have r8 := u3 (e + 168) (Or.inl rfl)
      have wyr : ∀ a, cR (wy e) a → J38 a = J a := fun a ha => by
        have w := wy_out he ha
        exact B a (by omega) (by omega) (by omega) (by omega) (by omega) (by omega) (by omega) (by omega) (by omega) (by omega) (by omega)
      have v := rL_fr (r := wy e) (J := J) (J' := J38) (fun a ha => wyr a (Classical.not_not.mp ha)) p4.2
      refine ⟨?_, by rw [r8]; exact c1, ⟨v.1.trans p4.1, v.2⟩, by rw [r8]; exact c3, fun ep hep => ⟨?_, show (0 : Int) ≤ 0 by decide, show (0 : Int) ≤ 65536 by decide⟩, ⟨by rw [r8]; exact c2, rfl, show (0 : Nat) ≤ 500 by decide⟩, by rw [u4]; exact d1 9 (by decide) (by decide), fun i q hq => absurd (show ([] : LGT)[i]? = some q from hq) (by simp)⟩
      · rw [r8, c0, f2 _ (by omega), f1 _ (by omega)]; exact p1
      · rw [u3 _ (Or.inr rfl)]
        exact c4 ep (by unfold ep3 at hep; omega) (by unfold ep3 at hep; omega)
    · intro ep hep
      have en : ep.toNat < 4 := by unfold ep3 at hep; omega
      have w := w2 ep.toNat en
      rw [u7 _ en]
      exact w
    · by_cases q : a = e
      · exact absurd ⟨by omega, by omega⟩ ha
      · exact B a (by omega) (by omega) (by omega) (by omega) (by omega) (by omega) (by omega) (by omega) (by omega) (by omega) q
    · rw [L7e a (by omega), g1 a (by omega)])
  rw [e10, zs_n _ (Or.inr (by decide))]
  have z0 : J9 e 0 = s := by rw [f9 _ (by omega), f8 _ (by omega), (f7 _ (by omega)).1, f6 _ (by omega), f5 _ (by omega), f4 _ (by omega), f3 _ (by omega) (by omega), f2 _ (by omega), f1 _ (by omega)]; exact p0
  rw [z0, ← e10]
  refine ⟨R_s hs, ?_⟩
  by_cases q : s = 0
  · rw [if_pos q]; exact fin 2 (by rw [if_pos q])
  · rw [if_neg q]; exact fin 20 (by rw [if_neg q])
