/-! the model made anew -/
/-- several cells written at one place -/
def mW (J : zM) (x : Int) (f : Nat → Option Int) : zM := fun c k => if k = x then (f c).getD (J c k) else J c k
theorem mW_0 (J : zM) (x : Int) : mW J x (fun _ => none) = J := by
  funext c k
  unfold mW
  split <;> rfl
theorem mW_zs (J : zM) (x : Int) (f : Nat → Option Int) (c : Nat) (v : Int) : zs (mW J x f) c x v = mW J x (fun d => if d = c then some v else f d) := by
  funext d k
  by_cases q : d = c ∧ k = x
  · obtain ⟨rfl, rfl⟩ := q
    rw [zs_s]
    unfold mW
    rw [if_pos rfl]
    show v = (if d = d then some v else f d).getD (J d k)
    rw [if_pos rfl]
    rfl
  · rw [zs_n _ (by omega)]
    unfold mW
    by_cases w : k = x
    · rw [if_pos w, if_pos w]
      show (f d).getD (J d k) = (if d = c then some v else f d).getD (J d k)
      rw [if_neg (fun u => q ⟨u, w⟩)]
    · rw [if_neg w, if_neg w]
theorem mW_s {J : zM} {x : Int} {f : Nat → Option Int} {c : Nat} {v : Int} (h : f c = some v) : mW J x f c x = v := by
  unfold mW
  rw [if_pos rfl, h]
  rfl
theorem mW_n {J : zM} {x : Int} {f : Nat → Option Int} {c : Nat} {k : Int} (h : k ≠ x ∨ f c = none) : mW J x f c k = J c k := by
  unfold mW
  by_cases w : k = x
  · rw [if_pos w, h.resolve_left (fun q => q w)]
    rfl
  · rw [if_neg w]
theorem mW_r {J : zM} {x : Int} {f : Nat → Option Int} {c : Nat} (h : f c = none) : mW J x f c = J c := funext (fun k => mW_n (Or.inr h))
def clF (d : Nat) : Option Int := if d = 524 then some 4 else if d = 526 then some 0 else if d = 522 then some 0 else if d = 530 then some 0 else if d = 528 then some 0 else none
theorem s_clr {s : Int} {J : zM} {L : yM} {Q : zM → yM → Prop} (hs : s01 s) (hQ : ∀ J1, J1 517 s = 0 → (∀ k, k ≠ s → J1 517 k = J 517 k) → (∀ a, a ≠ 517 → a ≠ 521 → J1 a = J a) → Q (mW J1 s clF) L) : w_X12_clearFlight s J L Q := by
  have s2 := s01b hs
  unfold w_X12_clearFlight
  refine ⟨s2, fun J2 e2 x3 e3 => ?_⟩
  refine zl_z.by (fun m x J' L' => (m : Int) = 600 * s + 600 - x ∧ 600 * s ≤ x ∧ L' = L ∧ zF (fun a => a = 521) J2 J') ?_ 600 x3 J2 L ⟨by omega, by omega, rfl, fun _ _ => rfl⟩
  rintro m x J3 L3 K ⟨hm, hx, rfl, f3⟩ hK
  refine ⟨⟨by omega, by omega⟩, ⟨by omega, by omega⟩, ?_⟩
  by_cases c : x < 600 * s + 600
  · rw [if_pos c]
    refine ⟨⟨by omega, by omega⟩, fun J4 e4 => hK (m - 1) (x + 1) J4 L3 (by omega) ⟨by omega, by omega, rfl, fun a ha => ?_⟩⟩
    rw [e4, zs_r _ ha]
    exact f3 a ha
  · rw [if_neg c]
    refine ⟨s2, fun J12 e12 => ⟨s2, fun J14 e14 => ⟨s2, fun J16 e16 => ⟨s2, fun J18 e18 => ⟨s2, fun J20 e20 => ?_⟩⟩⟩⟩⟩
    rw [← mW_0 J3 s, mW_zs] at e12
    rw [e12, mW_zs] at e14
    rw [e14, mW_zs] at e16
    rw [e16, mW_zs] at e18
    rw [e18, mW_zs] at e20
    rw [e20]
    exact hQ J3 (by rw [f3 517 (by decide), e2, zs_s]) (fun k hk => by rw [f3 517 (by decide), e2, zs_n _ (Or.inr hk)]) (fun a p q => by rw [f3 a q, e2, zs_r _ p])

def sdF (x55 : Int) (d : Nat) : Option Int := if d = 507 then some 0 else if d = 506 then some 0 else if d = 503 then some 0 else if d = 512 then some 0 else if d = 509 then some 0 else if d = 547 then some 0 else if d = 539 then some 0 else if d = 538 then some (-1) else if d = 536 then some x55 else if d = 535 then some 0 else if d = 534 then some 0 else if d = 533 then some 0 else if d = 527 then some 0 else if d = 525 then some 0 else if d = 524 then some 0 else if d = 523 then some 0 else clF d
def sdZ (c : Nat) : Prop := c = 517 ∨ c = 528 ∨ c = 530 ∨ c = 522 ∨ c = 526 ∨ c = 523 ∨ c = 524 ∨ c = 525 ∨ c = 527 ∨ c = 533 ∨ c = 534 ∨ c = 535 ∨ c = 539 ∨ c = 547 ∨ c = 509 ∨ c = 512 ∨ c = 503 ∨ c = 506 ∨ c = 507
/-- a side of the model made anew -/
def MA1 (s : Int) (J : zM) (L : yM) : Prop := (∀ c, sdZ c → J c s = 0) ∧ J 538 s = -1 ∧ J 536 s = (if s = 0 then 0 else 3) ∧ L 504 s = 0 ∧ L 505 s = 0
theorem sdF_none {x55 : Int} {d : Nat} (h : ¬ (sdZ d ∨ d = 536 ∨ d = 538)) (h5 : d ≠ 517) : sdF x55 d = none := by
  unfold sdZ at h
  unfold sdF clF
  rw [if_neg (by omega), if_neg (by omega), if_neg (by omega), if_neg (by omega), if_neg (by omega), if_neg (by omega), if_neg (by omega), if_neg (by omega), if_neg (by omega), if_neg (by omega), if_neg (by omega), if_neg (by omega), if_neg (by omega), if_neg (by omega), if_neg (by omega), if_neg (by omega), if_neg (by omega), if_neg (by omega), if_neg (by omega), if_neg (by omega), if_neg (by omega)]
theorem sd_side {s : Int} {J : zM} {L : yM} {Q : zM → yM → Prop} {x34 : Int} (hs : s01 x34) (hQ : ∀ J' L', MA1 x34 J' L' → (∀ a, ¬ (sdZ a ∨ a = 536 ∨ a = 538 ∨ a = 521) → J' a = J a) → (∀ a k, k ≠ x34 → a ≠ 521 → J' a k = J a k) → (∀ a k, ¬ ((a = 504 ∨ a = 505) ∧ k = x34) → L' a k = L a k) → Q J' L') : w_X12_clearFlight x34 J L (fun J39 L40 => ((0 : Int) ≤ x34 ∧ x34 < 2) ∧ ∀ J42 : zM, J42 = zs J39 523 x34 0 → ((0 : Int) ≤ x34 ∧ x34 < 2) ∧ ∀ J44 : zM, J44 = zs J42 524 x34 0 → ((0 : Int) ≤ x34 ∧ x34 < 2) ∧ ∀ J46 : zM, J46 = zs J44 525 x34 0 → ((0 : Int) ≤ x34 ∧ x34 < 2) ∧ ∀ J48 : zM, J48 = zs J46 527 x34 0 → ((0 : Int) ≤ x34 ∧ x34 < 2) ∧ ∀ J50 : zM, J50 = zs J48 533 x34 0 → ((0 : Int) ≤ x34 ∧ x34 < 2) ∧ ∀ J52 : zM, J52 = zs J50 534 x34 0 → ((0 : Int) ≤ x34 ∧ x34 < 2) ∧ ∀ J54 : zM, J54 = zs J52 535 x34 0 → ∀ K58 : Int → zM → yM → Prop, (∀ (x55 : Int) (J56 : zM) (L57 : yM), (((0 : Int) ≤ x34 ∧ x34 < 2) ∧ ∀ J60 : zM, J60 = zs J56 536 x34 x55 → ((0 : Int) ≤ x34 ∧ x34 < 2) ∧ ∀ J62 : zM, J62 = zs J60 538 x34 (-1) → ((0 : Int) ≤ x34 ∧ x34 < 2) ∧ ∀ J64 : zM, J64 = zs J62 539 x34 0 → ((0 : Int) ≤ x34 ∧ x34 < 2) ∧ ∀ J66 : zM, J66 = zs J64 547 x34 0 → ((0 : Int) ≤ x34 ∧ x34 < 2) ∧ ∀ J68 : zM, J68 = zs J66 509 x34 0 → ((0 : Int) ≤ x34 ∧ x34 < 2) ∧ ∀ J70 : zM, J70 = zs J68 512 x34 0 → ((0 : Int) ≤ x34 ∧ x34 < 2) ∧ ∀ J72 : zM, J72 = zs J70 503 x34 0 → ((0 : Int) ≤ x34 ∧ x34 < 2) ∧ ∀ L74 : yM, L74 = ys L57 504 x34 0 → ((0 : Int) ≤ x34 ∧ x34 < 2) ∧ ∀ L76 : yM, L76 = ys L74 505 x34 0 → ((0 : Int) ≤ x34 ∧ x34 < 2) ∧ ∀ J78 : zM, J78 = zs J72 506 x34 0 → ((0 : Int) ≤ x34 ∧ x34 < 2) ∧ ∀ J80 : zM, J80 = zs J78 507 x34 0 → Q J80 L76) → K58 x55 J56 L57) → R32 x34 ∧ (if x34 = 0 then K58 0 J54 L40 else K58 3 J54 L40)) := by
  have s2 := s01b hs
  refine s_clr hs (fun J1 z517 o517 r1 => ?_)
  refine ⟨s2, fun J42 e42 => ⟨s2, fun J44 e44 => ⟨s2, fun J46 e46 => ⟨s2, fun J48 e48 => ⟨s2, fun J50 e50 => ⟨s2, fun J52 e52 => ⟨s2, fun J54 e54 K58 hK58 => ?_⟩⟩⟩⟩⟩⟩⟩
  rw [mW_zs] at e42
  rw [e42, mW_zs] at e44
  rw [e44, mW_zs] at e46
  rw [e46, mW_zs] at e48
  rw [e48, mW_zs] at e50
  rw [e50, mW_zs] at e52
  rw [e52, mW_zs] at e54
  have fin : ∀ x55 : Int, x55 = (if x34 = 0 then 0 else 3) → K58 x55 J54 L := fun x55 h55 => hK58 x55 J54 L (by
    refine ⟨s2, fun J60 e60 => ⟨s2, fun J62 e62 => ⟨s2, fun J64 e64 => ⟨s2, fun J66 e66 => ⟨s2, fun J68 e68 => ⟨s2, fun J70 e70 => ⟨s2, fun J72 e72 => ⟨s2, fun L74 e74 => ⟨s2, fun L76 e76 => ⟨s2, fun J78 e78 => ⟨s2, fun J80 e80 => ?_⟩⟩⟩⟩⟩⟩⟩⟩⟩⟩⟩
    rw [e54, mW_zs] at e60
    rw [e60, mW_zs] at e62
    rw [e62, mW_zs] at e64
    rw [e64, mW_zs] at e66
    rw [e66, mW_zs] at e68
    rw [e68, mW_zs] at e70
    rw [e70, mW_zs] at e72
    rw [e72, mW_zs] at e78
    rw [e78, mW_zs] at e80
    have e80 : J80 = mW J1 x34 (sdF x55) := e80
    refine hQ J80 L76 ⟨fun c hc => ?_, ?_, ?_, ?_, ?_⟩ (fun a ha => ?_) (fun a k hk h521 => ?_) (fun a k hk => ?_)
    · by_cases q : c = 517
      · subst q
        rw [e80, mW_r (by rfl)]
        exact z517
      · rw [e80]
        refine mW_s ?_
        unfold sdZ at hc
        rcases hc with rfl | rfl | rfl | rfl | rfl | rfl | rfl | rfl | rfl | rfl | rfl | rfl | rfl | rfl | rfl | rfl | rfl | rfl | rfl
        · exact absurd rfl q
        · rfl
        · rfl
        · rfl
        · rfl
        · rfl
        · rfl
        · rfl
        · rfl
        · rfl
        · rfl
        · rfl
        · rfl
        · rfl
        · rfl
        · rfl
        · rfl
        · rfl
        · rfl
    · rw [e80]; exact mW_s rfl
    · rw [e80, ← h55]; exact mW_s rfl
    · rw [e76, ys_n _ (Or.inl (by decide)), e74]; exact ys_s _ _ _ _
    · rw [e76]; exact ys_s _ _ _ _
    · by_cases q : a = 517
      · exact absurd (Or.inl (by unfold sdZ; omega)) ha
      · rw [e80, mW_r (sdF_none (fun w => ha (w.elim Or.inl (fun u => u.elim (fun v => Or.inr (Or.inl v)) (fun v => Or.inr (Or.inr (Or.inl v)))))) q)]
        exact r1 a q (by omega)
    · rw [e80, mW_n (Or.inl hk)]
      by_cases q : a = 517
      · subst q; exact o517 k hk
      · rw [r1 a q h521]
    · rw [e76, ys_n _ (by omega), e74, ys_n _ (by omega)])
  refine ⟨R_s hs, ?_⟩
  by_cases q : x34 = 0
  · rw [if_pos q]; exact fin 0 (by rw [if_pos q])
  · rw [if_neg q]; exact fin 3 (by rw [if_neg q])

/-- all that is told of the model made anew -/
def MA (p1 p2 : Int) (J : zM) (L : yM) : Prop := (J 491 1 = p1 ∧ J 491 2 = p2 ∧ J 491 3 = 0 ∧ J 491 4 = 0 ∧ J 491 9 = 0 ∧ J 491 7 = 0 ∧ J 491 30 = 0 ∧ J 491 58 = 0) ∧ (∀ k, 0 ≤ k → k < 2048 → J 492 k = 0) ∧ (∀ k, 0 ≤ k → k < 20 → J 537 k = 0) ∧ (∀ k, 0 ≤ k → k < 8 → J 514 k = 0 ∧ J 545 k = -1 ∧ L 546 k = 0) ∧ (∀ k, 0 ≤ k → k < 16 → J 540 k = -1) ∧ ∀ s, s01 s → MA1 s J L
theorem s_setUp {p1 p2 : Int} {J : zM} {L : yM} {Q : zM → yM → Prop} (hQ : ∀ J' L', MA p1 p2 J' L' → J' 491 0 = J 491 0 → (∀ a, a < 491 ∨ a = 495 ∨ a = 496 ∨ a = 552 → J' a = J a ∧ L' a = L a) → Q J' L') : w_X12_setUp p1 p2 J L Q := by
  unfold w_X12_setUp
  intro J1 e1 J2 e2 J3 e3 J4 e4 J5 e5 J6 e6 J7 e7 J8 e8
  have g1 : J8 491 1 = p1 := by rw [e8, zs_n _ (Or.inr (by decide)), e7, zs_n _ (Or.inr (by decide)), e6, zs_n _ (Or.inr (by decide)), e5, zs_n _ (Or.inr (by decide)), e4, zs_n _ (Or.inr (by decide)), e3, zs_n _ (Or.inr (by decide)), e2, zs_n _ (Or.inr (by decide)), e1, zs_s]
  have g2 : J8 491 2 = p2 := by rw [e8, zs_n _ (Or.inr (by decide)), e7, zs_n _ (Or.inr (by decide)), e6, zs_n _ (Or.inr (by decide)), e5, zs_n _ (Or.inr (by decide)), e4, zs_n _ (Or.inr (by decide)), e3, zs_n _ (Or.inr (by decide)), e2, zs_s]
  have g3 : J8 491 3 = 0 := by rw [e8, zs_n _ (Or.inr (by decide)), e7, zs_n _ (Or.inr (by decide)), e6, zs_n _ (Or.inr (by decide)), e5, zs_n _ (Or.inr (by decide)), e4, zs_n _ (Or.inr (by decide)), e3, zs_s]
  have g4 : J8 491 4 = 0 := by rw [e8, zs_n _ (Or.inr (by decide)), e7, zs_n _ (Or.inr (by decide)), e6, zs_n _ (Or.inr (by decide)), e5, zs_n _ (Or.inr (by decide)), e4, zs_s]
  have g9 : J8 491 9 = 0 := by rw [e8, zs_n _ (Or.inr (by decide)), e7, zs_n _ (Or.inr (by decide)), e6, zs_n _ (Or.inr (by decide)), e5, zs_s]
  have g7 : J8 491 7 = 0 := by rw [e8, zs_n _ (Or.inr (by decide)), e7, zs_n _ (Or.inr (by decide)), e6, zs_s]
  have g30 : J8 491 30 = 0 := by rw [e8, zs_n _ (Or.inr (by decide)), e7, zs_s]
  have g58 : J8 491 58 = 0 := by rw [e8, zs_s]
  have g0 : J8 491 0 = J 491 0 := by rw [e8, zs_n _ (Or.inr (by decide)), e7, zs_n _ (Or.inr (by decide)), e6, zs_n _ (Or.inr (by decide)), e5, zs_n _ (Or.inr (by decide)), e4, zs_n _ (Or.inr (by decide)), e3, zs_n _ (Or.inr (by decide)), e2, zs_n _ (Or.inr (by decide)), e1, zs_n _ (Or.inr (by decide))]
  have f8 : ∀ a, a ≠ 491 → J8 a = J a := fun a ha => by rw [e8, zs_r _ ha, e7, zs_r _ ha, e6, zs_r _ ha, e5, zs_r _ ha, e4, zs_r _ ha, e3, zs_r _ ha, e2, zs_r _ ha, e1, zs_r _ ha]
  clear e1 e2 e3 e4 e5 e6 e7 e8
  refine wl_by (b := 492) (off := 0) (n := 2048) (f := fun _ => 0) (by decide) (fun x J9 K x0 x1 wp hK => ?_) (fun J9 K wp9 => ?_)
  · refine ⟨⟨by omega, by omega⟩, ?_⟩
    rw [if_pos x1]
    refine ⟨⟨by omega, by omega⟩, fun J10 e10 => hK J10 ?_⟩
    rw [Int.zero_add]
    exact e10
  refine ⟨by decide, ?_⟩
  rw [if_neg (by decide)]
  refine wl_by (b := 537) (off := 0) (n := 20) (f := fun _ => 0) (by decide) (fun x J10 K x0 x1 wp hK => ?_) (fun J10 K wp10 => ?_)
  · refine ⟨⟨by omega, by omega⟩, ?_⟩
    rw [if_pos x1]
    refine ⟨⟨by omega, by omega⟩, fun J11 e11 => hK J11 ?_⟩
    rw [Int.zero_add]
    exact e11
  refine ⟨by decide, ?_⟩
  rw [if_neg (by decide)]
  refine zl_z.by (fun m x J' L' => (m : Int) = 8 - x ∧ 0 ≤ x ∧ (∀ k, 0 ≤ k → k < x → J' 514 k = 0 ∧ J' 545 k = -1 ∧ L' 546 k = 0) ∧ (∀ a, a ≠ 514 → a ≠ 545 → J' a = J10 a) ∧ (∀ a, a ≠ 546 → L' a = L a)) ?_ 8 0 J10 L ⟨by omega, by omega, fun k k0 k1 => absurd k0 (by omega), fun _ _ _ => rfl, fun _ _ => rfl⟩
  rintro m x J11 L11 K ⟨hm, hx, w11, f11, h11⟩ hK
  refine ⟨⟨by omega, by omega⟩, ?_⟩
  by_cases cx : x < 8
  · rw [if_pos cx]
    refine ⟨⟨hx, cx⟩, fun J12 e12 => ⟨⟨hx, cx⟩, fun J13 e13 => ⟨⟨hx, cx⟩, fun L13 e14 => hK (m - 1) (x + 1) J13 L13 (by omega) ⟨by omega, by omega, fun k k0 k1 => ?_, fun a p q => ?_, fun a p => ?_⟩⟩⟩⟩
    · by_cases q : k = x
      · subst q
        rw [e13, e14, zs_r _ (by decide), zs_s, ys_s, e12, zs_s]
        exact ⟨rfl, rfl, rfl⟩
      · rw [e13, e14, zs_r _ (by decide), zs_n _ (Or.inr q), ys_n _ (Or.inr q), e12, zs_n _ (Or.inr q), zs_r _ (by decide)]
        exact w11 k k0 (by omega)
    · rw [e13, zs_r _ q, e12, zs_r _ p]
      exact f11 a p q
    · rw [e14, ys_r _ p]
      exact h11 a p
  rw [if_neg cx]
  have v11 : ∀ k, 0 ≤ k → k < 8 → J11 514 k = 0 ∧ J11 545 k = -1 ∧ L11 546 k = 0 := fun k k0 k1 => w11 k k0 (by omega)
  clear w11 hK hm hx cx
  refine wl_by (b := 540) (off := 0) (n := 16) (f := fun _ => -1) (by decide) (fun x J12 K x0 x1 wp hK => ?_) (fun J12 K wp12 => ?_)
  · refine ⟨⟨by omega, by omega⟩, ?_⟩
    rw [if_pos x1]
    refine ⟨⟨by omega, by omega⟩, fun J13 e13 => hK J13 ?_⟩
    rw [Int.zero_add]
    exact e13
  refine ⟨by decide, ?_⟩
  rw [if_neg (by decide)]
  refine zl_z.by (fun m x J' L' => (m : Int) = 2 - x ∧ 0 ≤ x ∧ (∀ s, 0 ≤ s → s < x → MA1 s J' L') ∧ (∀ a, ¬ (sdZ a ∨ a = 536 ∨ a = 538 ∨ a = 521) → J' a = J12 a) ∧ (∀ a, a ≠ 504 → a ≠ 505 → L' a = L11 a)) ?_ 2 0 J12 L11 ⟨by omega, by omega, fun s s0 s1 => absurd s0 (by omega), fun _ _ => rfl, fun _ _ _ => rfl⟩
  rintro m x J13 L13 K ⟨hm, hx, w13, f13, h13⟩ hK
  refine ⟨⟨by omega, by omega⟩, ?_⟩
  by_cases cx : x < 2
  · rw [if_pos cx]
    refine sd_side (s := x) (by omega) (fun J14 L14 w14 f14 o14 h14 => hK (m - 1) (x + 1) J14 L14 (by omega) ⟨by omega, by omega, fun s s0 s1 => ?_, fun a ha => ?_, fun a p q => funext fun k => ?_⟩)
    · by_cases q : s = x
      · subst q; exact w14
      · obtain ⟨u1, u2, u3, u4, u5⟩ := w13 s s0 (by omega)
        refine ⟨fun c hc => ?_, ?_, ?_, ?_, ?_⟩
        · rw [o14 c s q (by unfold sdZ at hc; omega)]; exact u1 c hc
        · rw [o14 538 s q (by decide)]; exact u2
        · rw [o14 536 s q (by decide)]; exact u3
        · rw [h14 504 s (fun w => q w.2)]; exact u4
        · rw [h14 505 s (fun w => q w.2)]; exact u5
    · rw [f14 a ha]; exact f13 a ha
    · rw [h14 a k (by omega), h13 a p q]
  rw [if_neg cx]
  have nz : ∀ a, ¬ (sdZ a ∨ a = 536 ∨ a = 538 ∨ a = 521) → a ≠ 540 → a ≠ 514 → a ≠ 545 → J13 a = J10 a := fun a p q u v => by rw [f13 a p, wp12.2.2 a q, f11 a u v]
  have r491 : J13 491 = J8 491 := by rw [nz 491 (by unfold sdZ; decide) (by decide) (by decide) (by decide), wp10.2.2 491 (by decide), wp9.2.2 491 (by decide)]
  refine hQ J13 L13 ⟨⟨by rw [r491]; exact g1, by rw [r491]; exact g2, by rw [r491]; exact g3, by rw [r491]; exact g4, by rw [r491]; exact g9, by rw [r491]; exact g7, by rw [r491]; exact g30, by rw [r491]; exact g58⟩, fun k k0 k1 => ?_, fun k k0 k1 => ?_, fun k k0 k1 => ?_, fun k k0 k1 => ?_, fun s hs => w13 s (by omega) (by omega)⟩ (by rw [r491]; exact g0) (fun a ha => ⟨?_, ?_⟩)
  · rw [nz 492 (by unfold sdZ; decide) (by decide) (by decide) (by decide), wp10.2.2 492 (by decide)]
    have w := wp9.1 k k0 k1
    rw [Int.zero_add] at w
    exact w
  · rw [nz 537 (by unfold sdZ; decide) (by decide) (by decide) (by decide)]
    have w := wp10.1 k k0 k1
    rw [Int.zero_add] at w
    exact w
  · rw [f13 514 (by unfold sdZ; decide), f13 545 (by unfold sdZ; decide), wp12.2.2 514 (by decide), wp12.2.2 545 (by decide), h13 546 (by decide) (by decide)]
    exact v11 k k0 k1
  · rw [f13 540 (by unfold sdZ; decide)]
    have w := wp12.1 k k0 k1
    rw [Int.zero_add] at w
    exact w
  · rw [nz a (by unfold sdZ; omega) (by omega) (by omega) (by omega), wp10.2.2 a (by omega), wp9.2.2 a (by omega), f8 a (by omega)]
  · rw [h13 a (by omega) (by omega), h11 a (by omega)]
