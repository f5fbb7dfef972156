/-! SECRETS of a side -/
def twoY (hand T : List Int) (y : Nat → List Int) : Nat → List Int := fun k => if k = 14 then hand else if k = 15 then mainI hand else if k = 10 then exD hand 1000015 (hsI T) else if k = 11 then exD hand 1000016 (hsI T) else if k = 16 then exN (exD hand 1000015 (hsI T)) 1000017 else if k = 17 then exN (exD hand 1000016 (hsI T)) 1000017 else if k = 20 then exN (exD hand 1000015 (hsI T)) 1000018 else if k = 21 then exN (exD hand 1000016 (hsI T)) 1000018 else y k
def threeY (main T : List Int) (y : Nat → List Int) : Nat → List Int := fun k => if k = 12 then exD main 1000020 (hsI T) else if k = 13 then exD main 1000021 (hsI T) else if k = 18 then exN (exD main 1000020 (hsI T)) 1000017 else if k = 19 then exN (exD main 1000021 (hsI T)) 1000017 else if k = 22 then exN (exD main 1000020 (hsI T)) 1000018 else if k = 23 then exN (exD main 1000021 (hsI T)) 1000018 else y k
def twoA (hand T : List Int) (A : SA) : SA := uz 13 2 (A.1, twoY hand T A.2.1, A.2.2)
def threeA (main T : List Int) (A : SA) : SA := uz 13 3 (A.1, threeY main T A.2.1, A.2.2)
theorem twoY_n {hand T : List Int} {y : Nat → List Int} {k : Nat} (h : k ≠ 14 ∧ k ≠ 15 ∧ k ≠ 10 ∧ k ≠ 11 ∧ k ≠ 16 ∧ k ≠ 17 ∧ k ≠ 20 ∧ k ≠ 21) : twoY hand T y k = y k := by
  unfold twoY
  rw [if_neg h.1, if_neg h.2.1, if_neg h.2.2.1, if_neg h.2.2.2.1, if_neg h.2.2.2.2.1, if_neg h.2.2.2.2.2.1, if_neg h.2.2.2.2.2.2.1, if_neg h.2.2.2.2.2.2.2]
theorem threeY_n {main T : List Int} {y : Nat → List Int} {k : Nat} (h : k ≠ 12 ∧ k ≠ 13 ∧ k ≠ 18 ∧ k ≠ 19 ∧ k ≠ 22 ∧ k ≠ 23) : threeY main T y k = y k := by
  unfold threeY
  rw [if_neg h.1, if_neg h.2.1, if_neg h.2.2.1, if_neg h.2.2.2.1, if_neg h.2.2.2.2.1, if_neg h.2.2.2.2.2]
theorem AIy.two {hand T : List Int} {y : Nat → List Int} (h : AIy y) (hh : hand.length = 32 ∧ oct hand) : AIy (twoY hand T y) := by
  obtain ⟨h0, h1, h2, h3, h4, h5, h6⟩ := h
  refine ⟨h0, h1, h2, h3, h4, h5, fun k k0 k1 => ?_⟩
  have m : ∀ a b, (mcI a b).length = 32 ∧ oct (mcI a b) := fun a b => ⟨mcI_len a b, mcI_oct a b⟩
  by_cases c : k ≠ 14 ∧ k ≠ 15 ∧ k ≠ 10 ∧ k ≠ 11 ∧ k ≠ 16 ∧ k ≠ 17 ∧ k ≠ 20 ∧ k ≠ 21
  · rw [twoY_n c]; exact h6 k k0 k1
  · have : k = 14 ∨ k = 15 ∨ k = 10 ∨ k = 11 ∨ k = 16 ∨ k = 17 ∨ k = 20 ∨ k = 21 := by omega
    rcases this with rfl | rfl | rfl | rfl | rfl | rfl | rfl | rfl
    · exact hh
    · exact m _ _
    · exact m _ _
    · exact m _ _
    · exact m _ _
    · exact m _ _
    · exact m _ _
    · exact m _ _
theorem AIy.three {main T : List Int} {y : Nat → List Int} (h : AIy y) : AIy (threeY main T y) := by
  obtain ⟨h0, h1, h2, h3, h4, h5, h6⟩ := h
  refine ⟨h0, h1, h2, h3, h4, h5, fun k k0 k1 => ?_⟩
  have m : ∀ a b, (mcI a b).length = 32 ∧ oct (mcI a b) := fun a b => ⟨mcI_len a b, mcI_oct a b⟩
  by_cases c : k ≠ 12 ∧ k ≠ 13 ∧ k ≠ 18 ∧ k ≠ 19 ∧ k ≠ 22 ∧ k ≠ 23
  · rw [threeY_n c]; exact h6 k k0 k1
  · have : k = 12 ∨ k = 13 ∨ k = 18 ∨ k = 19 ∨ k = 22 ∨ k = 23 := by omega
    rcases this with rfl | rfl | rfl | rfl | rfl | rfl
    · exact m _ _
    · exact m _ _
    · exact m _ _
    · exact m _ _
    · exact m _ _
    · exact m _ _
theorem XS.sec {e : Nat} {s : Int} {J J' : zM} {L : yM} {A : SA} {v : Int} {Y : Nat → List Int} (he : iSide e) (h : XS e s J L A) (f : ∀ x, ¬ ((6 ≤ x ∧ x ≤ 10) ∨ (e + 144 ≤ x ∧ x ≤ e + 161) ∨ (e + 163 ≤ x ∧ x ≤ e + 166)) → J' x = J x) (g : J' (e + 144) = (zs J (e + 144) 11 v) (e + 144)) (hY : ∀ k, k < 10 → Y k = aY A k) (h6 : ∀ i : Nat, i < 6 → sg J' (e + 146 + i) 0 32 = Y (10 + i)) (h4 : ∀ i : Nat, i < 4 → sg J' (e + 153 + i) 0 32 = Y (16 + i) ∧ sg J' (e + 158 + i) 0 32 = Y (20 + i)) : XS e s J' L (uz 13 v (A.1, Y, A.2.2)) ∧ XO e J L J' L := by
  obtain ⟨h0, h1, h2, h3, h4', h5, h6', h7, h8, h9, h10⟩ := h
  have he2 : 139 ≤ e := by unfold iSide at he; omega
  have f' : ∀ x, e ≤ x → ¬ (e + 144 ≤ x ∧ x ≤ e + 161) → ¬ (e + 163 ≤ x ∧ x ≤ e + 166) → J' x = J x := fun x p q r => f x (by omega)
  refine ⟨⟨h0.fr (f' _ (by omega) (by omega) (by omega)), ?_, ?_, h3.fr (fun x p q => f' x (by omega) (by omega) (by omega)) (fun k _ => by rw [f' _ (by omega) (by omega) (by omega)]), h4'.fr (fun x p q => f' x (by omega) (by omega) (by omega)), h5.fr (fun x p q => f' x (by omega) (by omega) (by omega)), (h6'.fr (f' _ (by omega) (by omega) (by omega))).cg (fun k hk => if_neg (by omega)), h7.fr he (fun x p q => f' x (by omega) (by omega) (by omega)), ?_, h9.fr (fun x p => ?_) (by rw [f' _ (by omega) (by omega) (by omega)]), h10.fr (fun x p q => f' x (by omega) (by omega) (by omega)) (fun _ _ _ => rfl)⟩, fun x hx => f x (fun q => hx ?_), fun _ _ => rfl⟩
  · have q := h1.fr (J' := J') (L' := L) (f' _ (by omega) (by omega) (by omega)) rfl
    unfold X1
    show J' (e + 1) 4 = ((Y 3).length : Int) ∧ _ ∧ _ ∧ _ ∧ _ ∧ J' (e + 1) 11 = ((Y 5).length : Int) ∧ _
    rw [hY 3 (by decide), hY 5 (by decide)]
    exact q
  · have q := h2.fr (J' := J') (fun x p q => f' x (by omega) (by omega) (by omega))
    show sg J' (e + 2) 0 16 = Y 0 ∧ sg J' (e + 3) 0 8 = Y 1 ∧ sg J' (e + 4) 0 8 = Y 2 ∧ sg J' (e + 5) 0 (Y 3).length = Y 3 ∧ sg J' (e + 6) 0 16 = Y 4 ∧ sg J' (e + 7) 0 (Y 5).length = Y 5
    rw [hY 0 (by decide), hY 1 (by decide), hY 2 (by decide), hY 3 (by decide), hY 4 (by decide), hY 5 (by decide)]
    exact q
  · obtain ⟨q1, q2, q3, q4, q5, T, q6⟩ := h8
    have e10 : J' (e + 144) 10 = J (e + 144) 10 := by rw [g, zs_n _ (Or.inr (by decide))]
    refine ⟨by rw [g]; exact zs_s _ _ _ _, fun hl => ?_, by unfold xZ; rw [sg_row (f' _ (by omega) (by omega) (by omega))]; exact q3, h6, h4, T, q6.fr e10 (f' _ (by omega) (by omega) (by omega))⟩
    show xTr e J' (Y 6 ++ Y 7 ++ Y 8 ++ Y 9)
    rw [hY 6 (by decide), hY 7 (by decide), hY 8 (by decide), hY 9 (by decide)]
    exact (q2 hl).fr e10 (f' _ (by omega) (by omega) (by omega))
  · rcases p with p | p | p | p | p
    · exact f' x (by omega) (by omega) (by omega)
    · exact f' x (by omega) (by omega) (by omega)
    · exact f' x (by omega) (by omega) (by omega)
    · exact f' x (by omega) (by omega) (by omega)
    · have := wy_out he p
      exact f x (by omega)
  · refine cX_in ?_
    omega
theorem XS.two {e : Nat} {s : Int} {J J' : zM} {L : yM} {A : SA} {hand T : List Int} (he : iSide e) (h : XS e s J L A) (h2 : xTwo e J' hand T) (g : J' (e + 144) = (zs J (e + 144) 11 2) (e + 144)) (f : zF (cTwo e) J J') : XS e s J' L (twoA hand T A) ∧ XO e J L J' L := by
  have q4 := h.2.2.2.2.2.2.2.2.1.2.2.2.1
  have q5 := h.2.2.2.2.2.2.2.2.1.2.2.2.2.1
  obtain ⟨t1, t2, t3, t4, t5, t6, t7, t8⟩ := h2
  have fr : ∀ x, ¬ ((6 ≤ x ∧ x ≤ 10) ∨ (e + 163 ≤ x ∧ x ≤ e + 166) ∨ x = e + 144 ∨ x = e + 146 ∨ x = e + 147 ∨ x = e + 150 ∨ x = e + 151 ∨ x = e + 153 ∨ x = e + 154 ∨ x = e + 158 ∨ x = e + 159) → J' x = J x := fun x q => f x (fun u => by unfold cTwo cS at u; omega)
  have he2 : 139 ≤ e := by unfold iSide at he; omega
  refine h.sec he (fun x q => fr x (by omega)) g (fun k hk => twoY_n (by omega)) (fun i hi => ?_) (fun i hi => ?_)
  · have : i = 0 ∨ i = 1 ∨ i = 2 ∨ i = 3 ∨ i = 4 ∨ i = 5 := by omega
    rcases this with rfl | rfl | rfl | rfl | rfl | rfl
    · exact t3
    · exact t4
    · rw [sg_row (fr _ (by omega))]; exact q4 2 (by decide)
    · rw [sg_row (fr _ (by omega))]; exact q4 3 (by decide)
    · exact t1
    · exact t2
  · have : i = 0 ∨ i = 1 ∨ i = 2 ∨ i = 3 := by omega
    rcases this with rfl | rfl | rfl | rfl
    · exact ⟨t5, t7⟩
    · exact ⟨t6, t8⟩
    · rw [sg_row (fr (e + 153 + 2) (by omega)), sg_row (fr (e + 158 + 2) (by omega))]; exact q5 2 (by decide)
    · rw [sg_row (fr (e + 153 + 3) (by omega)), sg_row (fr (e + 158 + 3) (by omega))]; exact q5 3 (by decide)
theorem XS.three {e : Nat} {s : Int} {J J' : zM} {L : yM} {A : SA} {main T : List Int} (he : iSide e) (h : XS e s J L A) (h2 : xThree e J' main T) (g : J' (e + 144) = (zs J (e + 144) 11 3) (e + 144)) (f : zF (cThree e) J J') : XS e s J' L (threeA main T A) ∧ XO e J L J' L := by
  have q4 := h.2.2.2.2.2.2.2.2.1.2.2.2.1
  have q5 := h.2.2.2.2.2.2.2.2.1.2.2.2.2.1
  obtain ⟨t1, t2, t3, t4, t5, t6⟩ := h2
  have fr : ∀ x, ¬ ((6 ≤ x ∧ x ≤ 10) ∨ (e + 163 ≤ x ∧ x ≤ e + 166) ∨ x = e + 144 ∨ x = e + 148 ∨ x = e + 149 ∨ x = e + 155 ∨ x = e + 156 ∨ x = e + 160 ∨ x = e + 161) → J' x = J x := fun x q => f x (fun u => by unfold cThree cS at u; omega)
  have he2 : 139 ≤ e := by unfold iSide at he; omega
  refine h.sec he (fun x q => fr x (by omega)) g (fun k hk => threeY_n (by omega)) (fun i hi => ?_) (fun i hi => ?_)
  · have : i = 0 ∨ i = 1 ∨ i = 2 ∨ i = 3 ∨ i = 4 ∨ i = 5 := by omega
    rcases this with rfl | rfl | rfl | rfl | rfl | rfl
    · rw [sg_row (fr _ (by omega))]; exact q4 0 (by decide)
    · rw [sg_row (fr _ (by omega))]; exact q4 1 (by decide)
    · exact t1
    · exact t2
    · rw [sg_row (fr _ (by omega))]; exact q4 4 (by decide)
    · rw [sg_row (fr _ (by omega))]; exact q4 5 (by decide)
  · have : i = 0 ∨ i = 1 ∨ i = 2 ∨ i = 3 := by omega
    rcases this with rfl | rfl | rfl | rfl
    · rw [sg_row (fr (e + 153 + 0) (by omega)), sg_row (fr (e + 158 + 0) (by omega))]; exact q5 0 (by decide)
    · rw [sg_row (fr (e + 153 + 1) (by omega)), sg_row (fr (e + 158 + 1) (by omega))]; exact q5 1 (by decide)
    · exact ⟨t3, t5⟩
    · exact ⟨t4, t6⟩
/-! in the model -/
/-- own and scratch change, in the places of the SECRETS and KEYS alone -/
theorem MSc.sec {s : Int} {J J' : zM} {L : yM} {A : SA} {v : Int} {Y : Nat → List Int} {a : Nat} {J1 : zM} {U : Int → Prop} (hs : s01 s) (h : MSc s J L A) (o : mO U J J1) (hU : ∀ k, U k → 1024 * s + 64 ≤ k ∧ k < 1024 * s + 512) (ha : a = 506 ∨ a = 507) (eJ : J' = zs J1 a s 1) (hY : ∀ k, k < 10 → Y k = aY A k) (h13 : J' 506 s = (if 2 ≤ v then 1 else 0) ∧ J' 507 s = (if 3 ≤ v then 1 else 0)) (h44 : M44b s J' (aZ (uz 13 v (A.1, Y, A.2.2))) Y) : MSc s J' L (uz 13 v (A.1, Y, A.2.2)) ∧ MO s J L J' L ∧ (∀ k, ¬ U k → J' 492 k = J 492 k) ∧ ∀ x, x ≠ 491 → x ≠ 492 → ¬ cH x → x ≠ a → J' x = J x := by
  obtain ⟨a0, a1, a2, a4, a5, a6, a7, a8, a9, a10, a11, a12⟩ := h
  have r : ∀ x, x ≠ 491 → x ≠ 492 → ¬ cH x → x ≠ a → J' x = J x := fun x p q r t => by rw [eJ, zs_r _ t]; exact o.1.1 x (by omega) p
  have k491 : ∀ k, k ≠ 13 → J' 491 k = J 491 k := fun k hk => by rw [eJ, zs_r _ (by omega)]; exact o.1.2 k hk
  have u492 : ∀ k, ¬ U k → J' 492 k = J 492 k := fun k hk => by rw [eJ, zs_r _ (by omega)]; exact o.2 k hk
  have c : ∀ (C : Nat → Prop), (∀ x, C x → x ≠ 492 ∧ ¬ cH x ∧ x ≠ 506 ∧ x ≠ 507) → oEq s C J J' := fun C hC x i ho hc => by
    by_cases q : x = 491
    · subst q
      have := ow491 ho
      exact k491 i (by omega)
    · obtain ⟨q1, q2, q3, q4⟩ := hC x hc
      rw [r x q q1 q2 (by omega)]
  have nn := mN_fr (r 509 (by decide) (by decide) (by omega) (by omega)) (r 510 (by decide) (by decide) (by omega) (by omega)) (r 511 (by decide) (by decide) (by omega) (by omega))
  refine ⟨⟨a0.fr (c _ (by omega)) (fun _ _ _ => rfl), ⟨fun p q => ?_, fun p => ?_, h13.1, h13.2⟩, ?_, ⟨a4.1.fr hs (c _ (by omega)), a4.2.fr (c _ (by omega))⟩, a5.fr (c _ (by omega)), (a6.fr (c _ (by omega))).cg (fun k hk => if_neg (by omega)), a7.fr hs (c _ (by omega)), h44, MSn.fr a9 (fun x hx => r x (by omega) (by omega) (by omega) (by omega)) (k491 30 (by decide)), a10.fr (c _ (by omega)) (fun _ _ _ => rfl), a11.fr (c _ (by omega)), mKa a12 (c _ (by omega))⟩, ⟨fun x i ho => ?_, fun _ _ _ => rfl, nn _, by rw [r 509 (by decide) (by decide) (by omega) (by omega)], mI_fr (r 509 (by decide) (by decide) (by omega) (by omega)) (r 510 (by decide) (by decide) (by omega) (by omega)), fun q => by rw [k491 30 (by decide)]; exact q, fun x hx => ⟨r x (by omega) (by omega) (by omega) (by omega), rfl⟩⟩, u492, r⟩
  · rw [r 536 (by decide) (by decide) (by omega) (by omega)]
    exact a1.1 p q
  · rw [k491 4 (by decide), k491 58 (by decide)]
    exact a1.2.1 p
  · have q := a2.fr (J' := J') (c _ (by omega)) (fun k p q => u492 k (fun u => by have := hU k u; omega))
    show sg J' 492 (1024 * s) 16 = Y 0 ∧ sg J' 492 (1024 * s + 16) 8 = Y 1 ∧ sg J' 492 (1024 * s + 24) 8 = Y 2 ∧ (s = 1 → J' 491 7 = ((Y 3).length : Int) ∧ sg J' 493 0 (Y 3).length = Y 3)
    rw [hY 0 (by decide), hY 1 (by decide), hY 2 (by decide), hY 3 (by decide)]
    exact q
  · by_cases q : x = 491
    · subst q
      have := ow491 ho
      exact k491 i (by omega)
    · by_cases q2 : x = 492
      · subst q2
        have := ow492 ho
        exact u492 i (fun u => by have := hU i u; omega)
      · by_cases q3 : x = a
        · subst q3
          have := ow1 ho (by omega)
          rw [eJ, zs_n _ (Or.inr (by omega)), o.1.1 x (by omega) (by omega)]
        · have := own_cell ho
          rw [r x q q2 (by omega) q3]
theorem oct_piece {J : zM} {a : Nat} {i : Int} {c : Nat} {l : List Int} (h : sg J a i c = l) (ho : oct l) : ∀ k, i ≤ k → k < i + (c : Int) → 0 ≤ J a k ∧ J a k < 256 := by
  rw [← h] at ho
  exact oct_sg.mp ho
theorem MSc.two {s : Int} {J J1 J' : zM} {L : yM} {A : SA} {hand T : List Int} (hs : s01 s) (h : MSc s J L A) (hz : aZ A 13 < 3) (o : mO (fun k => (1024 * s + 64 ≤ k ∧ k < 1024 * s + 192) ∨ (1024 * s + 256 ≤ k ∧ k < 1024 * s + 384)) J J1) (eJ : J' = zs J1 506 s 1) (h2 : mTwo s J' hand T) : MSc s J' L (twoA hand T A) ∧ MO s J L J' L ∧ (∀ k, ¬ ((1024 * s + 64 ≤ k ∧ k < 1024 * s + 192) ∨ (1024 * s + 256 ≤ k ∧ k < 1024 * s + 384)) → J' 492 k = J 492 k) ∧ ∀ x, x ≠ 491 → x ≠ 492 → ¬ cH x → x ≠ 506 → J' x = J x := by
  obtain ⟨t1, t2, t3, t4, t5, t6, t7, t8⟩ := h2
  have h7 : J 507 s = 0 := by have := h.2.1.2.2.2; rw [if_neg (by omega)] at this; exact this
  have m : ∀ a b, oct (mcI a b) := fun a b => mcI_oct a b
  refine h.sec (v := 2) (Y := twoY hand T (aY A)) hs o (fun k q => by omega) (Or.inl rfl) eJ (fun k hk => twoY_n (by omega)) ⟨by rw [eJ]; exact zs_s _ _ _ _, by rw [eJ, zs_r _ (by decide), o.1.1 507 (by omega) (by decide)]; exact h7⟩ ⟨fun _ => ⟨t1, t2, fun i hi => ?_⟩, fun q => ?_, ?_⟩
  · have : i = 0 ∨ i = 1 := by omega
    rcases this with rfl | rfl
    · rw [show 1024 * s + 128 + 32 * ((0 : Nat) : Int) = 1024 * s + 128 by omega, show 1024 * s + 256 + 64 * ((0 : Nat) : Int) = 1024 * s + 256 by omega, show 1024 * s + 256 + 32 = 1024 * s + 288 by omega]
      exact ⟨t3, t5, t7⟩
    · rw [show 1024 * s + 128 + 32 * ((1 : Nat) : Int) = 1024 * s + 160 by omega, show 1024 * s + 256 + 64 * ((1 : Nat) : Int) = 1024 * s + 320 by omega, show 1024 * s + 320 + 32 = 1024 * s + 352 by omega]
      exact ⟨t4, t6, t8⟩
  · exact absurd (show (3 : Int) ≤ 2 from q) (by decide)
  · refine oct_sg.mpr (fun k k0 k1 => ?_)
    by_cases c1 : k < 1024 * s + 288
    · exact oct_piece t5 (m _ _) k (by omega) (by omega)
    · by_cases c2 : k < 1024 * s + 320
      · exact oct_piece t7 (m _ _) k (by omega) (by omega)
      · by_cases c3 : k < 1024 * s + 352
        · exact oct_piece t6 (m _ _) k (by omega) (by omega)
        · by_cases c4 : k < 1024 * s + 384
          · exact oct_piece t8 (m _ _) k (by omega) (by omega)
          · rw [eJ, zs_r _ (by decide), o.2 k (by omega)]
            exact oct_sg.mp h.2.2.2.2.2.2.2.1.2.2 k (by omega) (by omega)
theorem MSc.three {s : Int} {J J1 J' : zM} {L : yM} {A : SA} {main T : List Int} (hs : s01 s) (h : MSc s J L A) (hz : 2 ≤ aZ A 13) (o : mO (fun k => (1024 * s + 192 ≤ k ∧ k < 1024 * s + 256) ∨ (1024 * s + 384 ≤ k ∧ k < 1024 * s + 512)) J J1) (eJ : J' = zs J1 507 s 1) (h2 : mThree s J' main T) : MSc s J' L (threeA main T A) ∧ MO s J L J' L ∧ (∀ k, ¬ ((1024 * s + 192 ≤ k ∧ k < 1024 * s + 256) ∨ (1024 * s + 384 ≤ k ∧ k < 1024 * s + 512)) → J' 492 k = J 492 k) ∧ ∀ x, x ≠ 491 → x ≠ 492 → ¬ cH x → x ≠ 507 → J' x = J x := by
  obtain ⟨t1, t2, t3, t4, t5, t6⟩ := h2
  have h6 : J 506 s = 1 := by have := h.2.1.2.2.1; rw [if_pos hz] at this; exact this
  have m : ∀ a b, oct (mcI a b) := fun a b => mcI_oct a b
  have u : ∀ k, ¬ ((1024 * s + 192 ≤ k ∧ k < 1024 * s + 256) ∨ (1024 * s + 384 ≤ k ∧ k < 1024 * s + 512)) → J' 492 k = J 492 k := fun k hk => by rw [eJ, zs_r _ (by decide), o.2 k hk]
  obtain ⟨p1, p2, p3⟩ := h.2.2.2.2.2.2.2.1.1 hz
  refine h.sec (v := 3) (Y := threeY main T (aY A)) hs o (fun k q => by omega) (Or.inr rfl) eJ (fun k hk => threeY_n (by omega)) ⟨by rw [eJ, zs_r _ (by decide), o.1.1 506 (by omega) (by decide)]; exact h6, by rw [eJ]; exact zs_s _ _ _ _⟩ ⟨fun _ => ⟨?_, ?_, fun i hi => ?_⟩, fun _ i i0 i1 => ?_, ?_⟩
  · rw [threeY_n (by decide), sg_fr (fun k p q => u k (by omega))]; exact p1
  · rw [threeY_n (by decide), sg_fr (fun k p q => u k (by omega))]; exact p2
  · rw [threeY_n (by omega), threeY_n (by omega), threeY_n (by omega), sg_fr (fun k p q => u k (by omega)), sg_fr (fun k p q => u k (by omega)), sg_fr (fun k p q => u k (by omega))]
    exact p3 i hi
  · have : i = 2 ∨ i = 3 := by omega
    rcases this with rfl | rfl
    · rw [show 1024 * s + 128 + 32 * ((2 : Nat) : Int) = 1024 * s + 192 by omega, show 1024 * s + 256 + 64 * ((2 : Nat) : Int) = 1024 * s + 384 by omega, show 1024 * s + 384 + 32 = 1024 * s + 416 by omega]
      exact ⟨t1, t3, t5⟩
    · rw [show 1024 * s + 128 + 32 * ((3 : Nat) : Int) = 1024 * s + 224 by omega, show 1024 * s + 256 + 64 * ((3 : Nat) : Int) = 1024 * s + 448 by omega, show 1024 * s + 448 + 32 = 1024 * s + 480 by omega]
      exact ⟨t2, t4, t6⟩
  · refine oct_sg.mpr (fun k k0 k1 => ?_)
    by_cases c0 : k < 1024 * s + 384
    · rw [u k (by omega)]
      exact oct_sg.mp h.2.2.2.2.2.2.2.1.2.2 k (by omega) (by omega)
    · by_cases c1 : k < 1024 * s + 416
      · exact oct_piece t3 (m _ _) k (by omega) (by omega)
      · by_cases c2 : k < 1024 * s + 448
        · exact oct_piece t5 (m _ _) k (by omega) (by omega)
        · by_cases c3 : k < 1024 * s + 480
          · exact oct_piece t4 (m _ _) k (by omega) (by omega)
          · exact oct_piece t6 (m _ _) k (by omega) (by omega)
