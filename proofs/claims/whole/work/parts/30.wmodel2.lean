def w_X12_heardAlert (p1 : Int) (p2 : Int) (J : zM) (L : yM) (Q : zM → yM → Prop) : Prop := ((0 : Int) ≤ p1 ∧ p1 < 2) ∧ R32 (J 538 p1) ∧ (if (J 538 p1) < 0 then ((0 : Int) ≤ p1 ∧ p1 < 2) ∧ ∀ J5 : zM, J5 = zs J 538 p1 p2 → Q J5 L else Q J L)
set_option maxHeartbeats 4000000 in
set_option maxRecDepth 100000 in
theorem v_X12_heardAlert {b : Nat} {dC : Nat → ClassId} {dI : Nat → Nat → Nat} {cA : Nat → ClassId} {ts : Nat → Nat} {l : Launch} {n : Nat} {R : Nat → Nat → Option Nat} {al : Bool} (hn : 552 ≤ n) (hR : xRk R) {p1 : Int} {p2 : Int}  {J : zM} {L : yM} {Q : zM → yM → Prop} (h : w_X12_heardAlert p1 p2 J L Q) : xCn (xGm b dC dI cA ts) l mX12_heardAlert [.ref 491, .int (oI p1), .int (oI p2)] al (n, R, zi J, li L) 0 0 (zQ0 n R Q) (fun _ _ => False) := by
  refine xCn.ofJ (by decide) (Nat.le_of_ble_eq_true rfl) ?_
  show xJ _ _ _ _ _ _ _ _ _ 0 [(0, .ref 491), (1, .int (oI p1)), (2, .int (oI p2))] [] _ _ _ _ _
  unfold w_X12_heardAlert at h
  refine xr_aload_n (xd dX12_heardAlert 0 rfl) 0 rfl ?_
  refine xr_getR (b := 538) 12 56 (xd dX12_heardAlert 1 rfl) f12_151 (by decide) (by decide) (lt552 hn (by decide)) kd_491 rfl (r_491_56 hR) ?_
  refine xr_iload_n (xd dX12_heardAlert 2 rfl) 1 rfl ?_
  obtain ⟨o1, h⟩ := h
  refine zr_iaload (xd dX12_heardAlert 3 rfl) (lt552 hn (by decide)) kd_538 ln_538 (by decide) o1 ?_
  obtain ⟨o2, h⟩ := h
  refine zr_if_ge 16 (xd dX12_heardAlert 4 rfl) (by decide) o2 (fun c3 => ?_) (fun c3 => ?_)
  · replace h := ifn h c3
    exact xr_vret (xd dX12_heardAlert 10 rfl) rfl (by decide) (by decide) (fun _ => rfl) ⟨_, _, rfl, rfl, h⟩
  · replace h := ifp h c3
    refine xr_aload_n (xd dX12_heardAlert 5 rfl) 0 rfl ?_
    refine xr_getR (b := 538) 12 56 (xd dX12_heardAlert 6 rfl) f12_151 (by decide) (by decide) (lt552 hn (by decide)) kd_491 rfl (r_491_56 hR) ?_
    refine xr_iload_n (xd dX12_heardAlert 7 rfl) 1 rfl ?_
    refine xr_iload_n (xd dX12_heardAlert 8 rfl) 2 rfl ?_
    obtain ⟨o4, h⟩ := h
    obtain ⟨J5, e_J5⟩ : ∃ z_ : zM, z_ = zs J 538 p1 p2 := ⟨_, rfl⟩
    replace h := h J5 e_J5
    refine zr_iastore e_J5 (xd dX12_heardAlert 9 rfl) (lt552 hn (by decide)) kd_538 ln_538 (by decide) o4 ?_
    exact xr_vret (xd dX12_heardAlert 10 rfl) rfl (by decide) (by decide) (fun _ => rfl) ⟨_, _, rfl, rfl, h⟩
def w_X12_raise (p1 : Int) (p2 : Int) (J : zM) (L : yM) (Q : zM → yM → Prop) : Prop := w_X12_sendAlert p1 p2 J L (fun J1 L2 => w_X12_heardAlert p1 p2 J1 L2 (fun J3 L4 => w_X12_die p1 J3 L4 (fun J5 L6 => Q J5 L6)))
set_option maxHeartbeats 4000000 in
set_option maxRecDepth 100000 in
theorem v_X12_raise {b : Nat} {dC : Nat → ClassId} {dI : Nat → Nat → Nat} {cA : Nat → ClassId} {ts : Nat → Nat} {l : Launch} {n : Nat} {R : Nat → Nat → Option Nat} {al : Bool} (hn : 552 ≤ n) (hR : xRk R) {p1 : Int} {p2 : Int}  {J : zM} {L : yM} {Q : zM → yM → Prop} (h : w_X12_raise p1 p2 J L Q) : xCn (xGm b dC dI cA ts) l mX12_raise [.ref 491, .int (oI p1), .int (oI p2)] al (n, R, zi J, li L) 0 0 (zQ0 n R Q) (fun _ _ => False) := by
  refine xCn.ofJ (by decide) (Nat.le_of_ble_eq_true rfl) ?_
  show xJ _ _ _ _ _ _ _ _ _ 0 [(0, .ref 491), (1, .int (oI p1)), (2, .int (oI p2))] [] _ _ _ _ _
  unfold w_X12_raise at h
  refine xr_aload_n (xd dX12_raise 0 rfl) 0 rfl ?_
  refine xr_iload_n (xd dX12_raise 1 rfl) 1 rfl ?_
  refine xr_iload_n (xd dX12_raise 2 rfl) 2 rfl ?_
  refine xr_callV mX12_sendAlert 2 [.int (oI p1), .int (oI p2)] (xd dX12_raise 3 rfl) l12_374 kX12_sendAlert rfl (lt552 hn (by decide)) kd_491 (by decide) rfl (by decide) (Nat.le_of_ble_eq_true rfl) (v_X12_sendAlert hn hR  h) (by decide) (by decide) (fun r_ M_ h_ => ?_) (fun _ _ h_ => h_.elim)
  obtain ⟨J1, L2, rfl, rfl, h⟩ := h_
  show xJ _ _ _ _ _ _ _ _ _ 6 [(0, .ref 491), (1, .int (oI p1)), (2, .int (oI p2))] [] _ _ _ (zi J1) (li L2)
  refine xr_aload_n (xd dX12_raise 4 rfl) 0 rfl ?_
  refine xr_iload_n (xd dX12_raise 5 rfl) 1 rfl ?_
  refine xr_iload_n (xd dX12_raise 6 rfl) 2 rfl ?_
  refine xr_callV mX12_heardAlert 2 [.int (oI p1), .int (oI p2)] (xd dX12_raise 7 rfl) l12_377 kX12_heardAlert rfl (lt552 hn (by decide)) kd_491 (by decide) rfl (by decide) (Nat.le_of_ble_eq_true rfl) (v_X12_heardAlert hn hR  h) (by decide) (by decide) (fun r_ M_ h_ => ?_) (fun _ _ h_ => h_.elim)
  obtain ⟨J3, L4, rfl, rfl, h⟩ := h_
  show xJ _ _ _ _ _ _ _ _ _ 12 [(0, .ref 491), (1, .int (oI p1)), (2, .int (oI p2))] [] _ _ _ (zi J3) (li L4)
  refine xr_aload_n (xd dX12_raise 8 rfl) 0 rfl ?_
  refine xr_iload_n (xd dX12_raise 9 rfl) 1 rfl ?_
  refine xr_callV mX12_die 1 [.int (oI p1)] (xd dX12_raise 10 rfl) l12_380 kX12_die rfl (lt552 hn (by decide)) kd_491 (by decide) rfl (by decide) (Nat.le_of_ble_eq_true rfl) (v_X12_die hn hR  h) (by decide) (by decide) (fun r_ M_ h_ => ?_) (fun _ _ h_ => h_.elim)
  obtain ⟨J5, L6, rfl, rfl, h⟩ := h_
  show xJ _ _ _ _ _ _ _ _ _ 17 [(0, .ref 491), (1, .int (oI p1)), (2, .int (oI p2))] [] _ _ _ (zi J5) (li L6)
  exact xr_vret (xd dX12_raise 11 rfl) rfl (by decide) (by decide) (fun _ => rfl) ⟨_, _, rfl, rfl, h⟩
def w_X12_isOpen (p1 : Int) (J : zM) (L : yM) (Q : Int → zM → yM → Prop) : Prop := ((0 : Int) ≤ p1 ∧ p1 < 2) ∧ R32 (J 534 p1) ∧ (if (J 534 p1) = 2 then Q 1 J L else ((0 : Int) ≤ p1 ∧ p1 < 2) ∧ (if (J 534 p1) = 3 then Q 1 J L else Q 0 J L))
set_option maxHeartbeats 4000000 in
set_option maxRecDepth 100000 in
theorem v_X12_isOpen {b : Nat} {dC : Nat → ClassId} {dI : Nat → Nat → Nat} {cA : Nat → ClassId} {ts : Nat → Nat} {l : Launch} {n : Nat} {R : Nat → Nat → Option Nat} {al : Bool} (hn : 552 ≤ n) (hR : xRk R) {p1 : Int}  {J : zM} {L : yM} {Q : Int → zM → yM → Prop} (h : w_X12_isOpen p1 J L Q) : xCn (xGm b dC dI cA ts) l mX12_isOpen [.ref 491, .int (oI p1)] al (n, R, zi J, li L) 0 0 (zQ1 n R Q) (fun _ _ => False) := by
  refine xCn.ofJ (by decide) (Nat.le_of_ble_eq_true rfl) ?_
  show xJ _ _ _ _ _ _ _ _ _ 0 [(0, .ref 491), (1, .int (oI p1))] [] _ _ _ _ _
  unfold w_X12_isOpen at h
  refine xr_aload_n (xd dX12_isOpen 0 rfl) 0 rfl ?_
  refine xr_getR (b := 534) 12 52 (xd dX12_isOpen 1 rfl) f12_139 (by decide) (by decide) (lt552 hn (by decide)) kd_491 rfl (r_491_52 hR) ?_
  refine xr_iload_n (xd dX12_isOpen 2 rfl) 1 rfl ?_
  obtain ⟨o1, h⟩ := h
  refine zr_iaload (xd dX12_isOpen 3 rfl) (lt552 hn (by decide)) kd_534 ln_534 (by decide) o1 ?_
  refine xr_iconst (v := oI 2) (xd dX12_isOpen 4 rfl) (by decide) ?_
  obtain ⟨o2, h⟩ := h
  refine zr_icmp_eq 20 (xd dX12_isOpen 5 rfl) (by decide) o2 (by decide) (fun c3 => ?_) (fun c3 => ?_)
  · replace h := ifp h c3
    refine xr_iconst (v := oI 1) (xd dX12_isOpen 12 rfl) (by decide) ?_
    refine xr_goto 25 (xd dX12_isOpen 13 rfl) (by decide) ?_
    exact xr_zret (xd dX12_isOpen 15 rfl) rfl (zret_b (Or.inr rfl)) (by decide) (by decide) (fun _ => rfl) ⟨_, _, _, rfl, rfl, h⟩
  · replace h := ifn h c3
    refine xr_aload_n (xd dX12_isOpen 6 rfl) 0 rfl ?_
    refine xr_getR (b := 534) 12 52 (xd dX12_isOpen 7 rfl) f12_139 (by decide) (by decide) (lt552 hn (by decide)) kd_491 rfl (r_491_52 hR) ?_
    refine xr_iload_n (xd dX12_isOpen 8 rfl) 1 rfl ?_
    obtain ⟨o4, h⟩ := h
    refine zr_iaload (xd dX12_isOpen 9 rfl) (lt552 hn (by decide)) kd_534 ln_534 (by decide) o4 ?_
    refine xr_iconst (v := oI 3) (xd dX12_isOpen 10 rfl) (by decide) ?_
    refine zr_icmp_ne 24 (xd dX12_isOpen 11 rfl) (by decide) o2 (by decide) (fun c5 => ?_) (fun c5 => ?_)
    · replace h := ifn h c5
      refine xr_iconst (v := oI 0) (xd dX12_isOpen 14 rfl) (by decide) ?_
      exact xr_zret (xd dX12_isOpen 15 rfl) rfl (zret_b (Or.inl rfl)) (by decide) (by decide) (fun _ => rfl) ⟨_, _, _, rfl, rfl, h⟩
    · replace h := ifp h c5
      refine xr_iconst (v := oI 1) (xd dX12_isOpen 12 rfl) (by decide) ?_
      refine xr_goto 25 (xd dX12_isOpen 13 rfl) (by decide) ?_
      exact xr_zret (xd dX12_isOpen 15 rfl) rfl (zret_b (Or.inr rfl)) (by decide) (by decide) (fun _ => rfl) ⟨_, _, _, rfl, rfl, h⟩
def w_X12_setUp (p1 : Int) (p2 : Int) (J : zM) (L : yM) (Q : zM → yM → Prop) : Prop := ∀ J1 : zM, J1 = zs J 491 1 p1 → ∀ J2 : zM, J2 = zs J1 491 2 p2 → ∀ J3 : zM, J3 = zs J2 491 3 0 → ∀ J4 : zM, J4 = zs J3 491 4 0 → ∀ J5 : zM, J5 = zs J4 491 9 0 → ∀ J6 : zM, J6 = zs J5 491 7 0 → ∀ J7 : zM, J7 = zs J6 491 30 0 → ∀ J8 : zM, J8 = zs J7 491 58 0 → zl_z (fun K9 x10 J11 L12 => R32 x10 ∧ (if x10 < 2048 then ((0 : Int) ≤ x10 ∧ x10 < 2048) ∧ ∀ J94 : zM, J94 = zs J11 492 x10 0 → K9 (x10 + 1) J94 L12 else zl_z (fun K15 x16 J17 L18 => R32 x16 ∧ (if x16 < 20 then ((0 : Int) ≤ x16 ∧ x16 < 20) ∧ ∀ J92 : zM, J92 = zs J17 537 x16 0 → K15 (x16 + 1) J92 L18 else zl_z (fun K21 x22 J23 L24 => R32 x22 ∧ (if x22 < 8 then ((0 : Int) ≤ x22 ∧ x22 < 8) ∧ ∀ J86 : zM, J86 = zs J23 514 x22 0 → ((0 : Int) ≤ x22 ∧ x22 < 8) ∧ ∀ J88 : zM, J88 = zs J86 545 x22 (-1) → ((0 : Int) ≤ x22 ∧ x22 < 8) ∧ ∀ L90 : yM, L90 = ys L24 546 x22 0 → K21 (x22 + 1) J88 L90 else zl_z (fun K27 x28 J29 L30 => R32 x28 ∧ (if x28 < 16 then ((0 : Int) ≤ x28 ∧ x28 < 16) ∧ ∀ J84 : zM, J84 = zs J29 540 x28 (-1) → K27 (x28 + 1) J84 L30 else zl_z (fun K33 x34 J35 L36 => R32 x34 ∧ (if x34 < 2 then w_X12_clearFlight x34 J35 L36 (fun J39 L40 => ((0 : Int) ≤ x34 ∧ x34 < 2) ∧ ∀ J42 : zM, J42 = zs J39 523 x34 0 → ((0 : Int) ≤ x34 ∧ x34 < 2) ∧ ∀ J44 : zM, J44 = zs J42 524 x34 0 → ((0 : Int) ≤ x34 ∧ x34 < 2) ∧ ∀ J46 : zM, J46 = zs J44 525 x34 0 → ((0 : Int) ≤ x34 ∧ x34 < 2) ∧ ∀ J48 : zM, J48 = zs J46 527 x34 0 → ((0 : Int) ≤ x34 ∧ x34 < 2) ∧ ∀ J50 : zM, J50 = zs J48 533 x34 0 → ((0 : Int) ≤ x34 ∧ x34 < 2) ∧ ∀ J52 : zM, J52 = zs J50 534 x34 0 → ((0 : Int) ≤ x34 ∧ x34 < 2) ∧ ∀ J54 : zM, J54 = zs J52 535 x34 0 → ∀ K58 : Int → zM → yM → Prop, (∀ (x55 : Int) (J56 : zM) (L57 : yM), (((0 : Int) ≤ x34 ∧ x34 < 2) ∧ ∀ J60 : zM, J60 = zs J56 536 x34 x55 → ((0 : Int) ≤ x34 ∧ x34 < 2) ∧ ∀ J62 : zM, J62 = zs J60 538 x34 (-1) → ((0 : Int) ≤ x34 ∧ x34 < 2) ∧ ∀ J64 : zM, J64 = zs J62 539 x34 0 → ((0 : Int) ≤ x34 ∧ x34 < 2) ∧ ∀ J66 : zM, J66 = zs J64 547 x34 0 → ((0 : Int) ≤ x34 ∧ x34 < 2) ∧ ∀ J68 : zM, J68 = zs J66 509 x34 0 → ((0 : Int) ≤ x34 ∧ x34 < 2) ∧ ∀ J70 : zM, J70 = zs J68 512 x34 0 → ((0 : Int) ≤ x34 ∧ x34 < 2) ∧ ∀ J72 : zM, J72 = zs J70 503 x34 0 → ((0 : Int) ≤ x34 ∧ x34 < 2) ∧ ∀ L74 : yM, L74 = ys L57 504 x34 0 → ((0 : Int) ≤ x34 ∧ x34 < 2) ∧ ∀ L76 : yM, L76 = ys L74 505 x34 0 → ((0 : Int) ≤ x34 ∧ x34 < 2) ∧ ∀ J78 : zM, J78 = zs J72 506 x34 0 → ((0 : Int) ≤ x34 ∧ x34 < 2) ∧ ∀ J80 : zM, J80 = zs J78 507 x34 0 → K33 (x34 + 1) J80 L76) → K58 x55 J56 L57) → R32 x34 ∧ (if x34 = 0 then K58 0 J54 L40 else K58 3 J54 L40)) else Q J35 L36)) 0 J29 L30)) 0 J23 L24)) 0 J17 L18)) 0 J11 L12)) 0 J8 L
set_option maxHeartbeats 4000000 in
set_option maxRecDepth 100000 in
theorem v_X12_setUp {b : Nat} {dC : Nat → ClassId} {dI : Nat → Nat → Nat} {cA : Nat → ClassId} {ts : Nat → Nat} {l : Launch} {n : Nat} {R : Nat → Nat → Option Nat} {al : Bool} (hn : 552 ≤ n) (hR : xRk R) {p1 : Int} {p2 : Int}  {J : zM} {L : yM} {Q : zM → yM → Prop} (h : w_X12_setUp p1 p2 J L Q) : xCn (xGm b dC dI cA ts) l mX12_setUp [.ref 491, .int (oI p1), .int (oI p2)] al (n, R, zi J, li L) 0 0 (zQ0 n R Q) (fun _ _ => False) := by
  refine xCn.ofJ (by decide) (Nat.le_of_ble_eq_true rfl) ?_
  show xJ _ _ _ _ _ _ _ _ _ 0 [(0, .ref 491), (1, .int (oI p1)), (2, .int (oI p2))] [] _ _ _ _ _
  unfold w_X12_setUp at h
  refine xr_aload_n (xd dX12_setUp 0 rfl) 0 rfl ?_
  refine xr_iload_n (xd dX12_setUp 1 rfl) 1 rfl ?_
  obtain ⟨J1, e_J1⟩ : ∃ z_ : zM, z_ = zs J 491 1 p1 := ⟨_, rfl⟩
  replace h := h J1 e_J1
  refine zr_putI 12 1 1 rfl e_J1 (xd dX12_setUp 2 rfl) f12_383 (by decide) (by decide) (lt552 hn (by decide)) kd_491 (Or.inl rfl) rfl rfl (fun _ => rfl) ?_
  refine xr_aload_n (xd dX12_setUp 3 rfl) 0 rfl ?_
  refine xr_iload_n (xd dX12_setUp 4 rfl) 2 rfl ?_
  obtain ⟨J2, e_J2⟩ : ∃ z_ : zM, z_ = zs J1 491 2 p2 := ⟨_, rfl⟩
  replace h := h J2 e_J2
  refine zr_putI 12 2 2 rfl e_J2 (xd dX12_setUp 5 rfl) f12_363 (by decide) (by decide) (lt552 hn (by decide)) kd_491 (Or.inl rfl) rfl rfl (fun _ => rfl) ?_
  refine xr_aload_n (xd dX12_setUp 6 rfl) 0 rfl ?_
  refine xr_iconst (v := oI 0) (xd dX12_setUp 7 rfl) (by decide) ?_
  obtain ⟨J3, e_J3⟩ : ∃ z_ : zM, z_ = zs J2 491 3 0 := ⟨_, rfl⟩
  replace h := h J3 e_J3
  refine zr_putI 12 3 3 rfl e_J3 (xd dX12_setUp 8 rfl) f12_360 (by decide) (by decide) (lt552 hn (by decide)) kd_491 (Or.inl rfl) rfl rfl (fun _ => rfl) ?_
  refine xr_aload_n (xd dX12_setUp 9 rfl) 0 rfl ?_
  refine xr_iconst (v := oI 0) (xd dX12_setUp 10 rfl) (by decide) ?_
  obtain ⟨J4, e_J4⟩ : ∃ z_ : zM, z_ = zs J3 491 4 0 := ⟨_, rfl⟩
  replace h := h J4 e_J4
  refine zr_putI 12 4 4 rfl e_J4 (xd dX12_setUp 11 rfl) f12_386 (by decide) (by decide) (lt552 hn (by decide)) kd_491 (Or.inl rfl) (zret_b (Or.inl rfl)) (fits_b (Or.inl rfl)) (fun _ => rfl) ?_
  refine xr_aload_n (xd dX12_setUp 12 rfl) 0 rfl ?_
  refine xr_iconst (v := oI 0) (xd dX12_setUp 13 rfl) (by decide) ?_
  obtain ⟨J5, e_J5⟩ : ∃ z_ : zM, z_ = zs J4 491 9 0 := ⟨_, rfl⟩
  replace h := h J5 e_J5
  refine zr_putI 12 9 9 rfl e_J5 (xd dX12_setUp 14 rfl) f12_390 (by decide) (by decide) (lt552 hn (by decide)) kd_491 (Or.inl rfl) rfl rfl (fun _ => rfl) ?_
  refine xr_aload_n (xd dX12_setUp 15 rfl) 0 rfl ?_
  refine xr_iconst (v := oI 0) (xd dX12_setUp 16 rfl) (by decide) ?_
  obtain ⟨J6, e_J6⟩ : ∃ z_ : zM, z_ = zs J5 491 7 0 := ⟨_, rfl⟩
  replace h := h J6 e_J6
  refine zr_putI 12 7 7 rfl e_J6 (xd dX12_setUp 17 rfl) f12_393 (by decide) (by decide) (lt552 hn (by decide)) kd_491 (Or.inl rfl) rfl rfl (fun _ => rfl) ?_
  refine xr_aload_n (xd dX12_setUp 18 rfl) 0 rfl ?_
  refine xr_iconst (v := oI 0) (xd dX12_setUp 19 rfl) (by decide) ?_
  obtain ⟨J7, e_J7⟩ : ∃ z_ : zM, z_ = zs J6 491 30 0 := ⟨_, rfl⟩
  replace h := h J7 e_J7
  refine zr_putI 12 30 30 rfl e_J7 (xd dX12_setUp 20 rfl) f12_320 (by decide) (by decide) (lt552 hn (by decide)) kd_491 (Or.inl rfl) rfl rfl (fun _ => rfl) ?_
  refine xr_aload_n (xd dX12_setUp 21 rfl) 0 rfl ?_
  refine xr_iconst (v := oI 0) (xd dX12_setUp 22 rfl) (by decide) ?_
  obtain ⟨J8, e_J8⟩ : ∃ z_ : zM, z_ = zs J7 491 58 0 := ⟨_, rfl⟩
  replace h := h J8 e_J8
  refine zr_putI 12 58 58 rfl e_J8 (xd dX12_setUp 23 rfl) f12_396 (by decide) (by decide) (lt552 hn (by decide)) kd_491 (Or.inl rfl) rfl rfl (fun _ => rfl) ?_
  refine xr_iconst (v := oI 0) (xd dX12_setUp 24 rfl) (by decide) ?_
  refine xr_istore_n [(0, .ref 491), (1, .int (oI p1)), (2, .int (oI p2)), (3, .int (oI 0))] (xd dX12_setUp 25 rfl) rfl (by decide) rfl ?_
  refine xJ.pick (ls' := [(0, .ref 491), (3, .int (oI 0))]) [0, 3] rfl ?_
  refine h (fun x10 J11 L12 => xJ (xGm b dC dI cA ts) l mX12_setUp 0 0 (zQ0 n R Q) (fun _ _ => False) 0 0 42 [(0, .ref 491), (3, .int (oI x10))] [] al n R (zi J11) (li L12)) ?_
  intro x10 J11 L12 h
  show xJ _ _ _ _ _ _ _ _ _ 42 [(0, .ref 491), (3, .int (oI x10))] [] _ _ _ _ _
  refine xr_iload_n (xd dX12_setUp 26 rfl) 1 rfl ?_
  refine xr_sipush (v := oI 2048) (xd dX12_setUp 27 rfl) (by decide) ?_
  obtain ⟨o13, h⟩ := h
  refine zr_icmp_ge 62 (xd dX12_setUp 28 rfl) (by decide) o13 (by decide) (fun c14 => ?_) (fun c14 => ?_)
  · replace h := ifn h c14
    refine xr_iconst (v := oI 0) (xd dX12_setUp 36 rfl) (by decide) ?_
    refine xr_istore_n [(0, .ref 491), (3, .int (oI 0))] (xd dX12_setUp 37 rfl) rfl (by decide) rfl ?_
    refine h (fun x16 J17 L18 => xJ (xGm b dC dI cA ts) l mX12_setUp 0 0 (zQ0 n R Q) (fun _ _ => False) 0 0 64 [(0, .ref 491), (3, .int (oI x16))] [] al n R (zi J17) (li L18)) ?_
    intro x16 J17 L18 h
    show xJ _ _ _ _ _ _ _ _ _ 64 [(0, .ref 491), (3, .int (oI x16))] [] _ _ _ _ _
    refine xr_iload_n (xd dX12_setUp 38 rfl) 1 rfl ?_
    refine xr_bipush (v := oI 20) (xd dX12_setUp 39 rfl) (by decide) ?_
    obtain ⟨o19, h⟩ := h
    refine zr_icmp_ge 83 (xd dX12_setUp 40 rfl) (by decide) o19 (by decide) (fun c20 => ?_) (fun c20 => ?_)
    · replace h := ifn h c20
      refine xr_iconst (v := oI 0) (xd dX12_setUp 48 rfl) (by decide) ?_
      refine xr_istore_n [(0, .ref 491), (3, .int (oI 0))] (xd dX12_setUp 49 rfl) rfl (by decide) rfl ?_
      refine h (fun x22 J23 L24 => xJ (xGm b dC dI cA ts) l mX12_setUp 0 0 (zQ0 n R Q) (fun _ _ => False) 0 0 85 [(0, .ref 491), (3, .int (oI x22))] [] al n R (zi J23) (li L24)) ?_
      intro x22 J23 L24 h
      show xJ _ _ _ _ _ _ _ _ _ 85 [(0, .ref 491), (3, .int (oI x22))] [] _ _ _ _ _
      refine xr_iload_n (xd dX12_setUp 50 rfl) 1 rfl ?_
      refine xr_bipush (v := oI 8) (xd dX12_setUp 51 rfl) (by decide) ?_
      obtain ⟨o25, h⟩ := h
      refine zr_icmp_ge 118 (xd dX12_setUp 52 rfl) (by decide) o25 (by decide) (fun c26 => ?_) (fun c26 => ?_)
      · replace h := ifn h c26
        refine xr_iconst (v := oI 0) (xd dX12_setUp 70 rfl) (by decide) ?_
        refine xr_istore_n [(0, .ref 491), (3, .int (oI 0))] (xd dX12_setUp 71 rfl) rfl (by decide) rfl ?_
        refine h (fun x28 J29 L30 => xJ (xGm b dC dI cA ts) l mX12_setUp 0 0 (zQ0 n R Q) (fun _ _ => False) 0 0 120 [(0, .ref 491), (3, .int (oI x28))] [] al n R (zi J29) (li L30)) ?_
        intro x28 J29 L30 h
        show xJ _ _ _ _ _ _ _ _ _ 120 [(0, .ref 491), (3, .int (oI x28))] [] _ _ _ _ _
        refine xr_iload_n (xd dX12_setUp 72 rfl) 1 rfl ?_
        refine xr_bipush (v := oI 16) (xd dX12_setUp 73 rfl) (by decide) ?_
        obtain ⟨o31, h⟩ := h
        refine zr_icmp_ge 139 (xd dX12_setUp 74 rfl) (by decide) o31 (by decide) (fun c32 => ?_) (fun c32 => ?_)
        · replace h := ifn h c32
          refine xr_iconst (v := oI 0) (xd dX12_setUp 82 rfl) (by decide) ?_
          refine xr_istore_n [(0, .ref 491), (3, .int (oI 0))] (xd dX12_setUp 83 rfl) rfl (by decide) rfl ?_
          refine h (fun x34 J35 L36 => xJ (xGm b dC dI cA ts) l mX12_setUp 0 0 (zQ0 n R Q) (fun _ _ => False) 0 0 141 [(0, .ref 491), (3, .int (oI x34))] [] al n R (zi J35) (li L36)) ?_
          intro x34 J35 L36 h
          show xJ _ _ _ _ _ _ _ _ _ 141 [(0, .ref 491), (3, .int (oI x34))] [] _ _ _ _ _
          refine xr_iload_n (xd dX12_setUp 84 rfl) 1 rfl ?_
          refine xr_iconst (v := oI 2) (xd dX12_setUp 85 rfl) (by decide) ?_
          obtain ⟨o37, h⟩ := h
          refine zr_icmp_ge 291 (xd dX12_setUp 86 rfl) (by decide) o37 (by decide) (fun c38 => ?_) (fun c38 => ?_)
          · replace h := ifn h c38
            exact xr_vret (xd dX12_setUp 186 rfl) rfl (by decide) (by decide) (fun _ => rfl) ⟨_, _, rfl, rfl, h⟩
          · replace h := ifp h c38
            refine xr_aload_n (xd dX12_setUp 87 rfl) 0 rfl ?_
            refine xr_iload_n (xd dX12_setUp 88 rfl) 1 rfl ?_
            refine xr_callV mX12_clearFlight 1 [.int (oI x34)] (xd dX12_setUp 89 rfl) l12_399 kX12_clearFlight rfl (lt552 hn (by decide)) kd_491 (by decide) rfl (by decide) (Nat.le_of_ble_eq_true rfl) (v_X12_clearFlight hn hR  h) (by decide) (by decide) (fun r_ M_ h_ => ?_) (fun _ _ h_ => h_.elim)
            obtain ⟨J39, L40, rfl, rfl, h⟩ := h_
            show xJ _ _ _ _ _ _ _ _ _ 151 [(0, .ref 491), (3, .int (oI x34))] [] _ _ _ (zi J39) (li L40)
            refine xr_aload_n (xd dX12_setUp 90 rfl) 0 rfl ?_
            refine xr_getR (b := 523) 12 41 (xd dX12_setUp 91 rfl) f12_106 (by decide) (by decide) (lt552 hn (by decide)) kd_491 rfl (r_491_41 hR) ?_
            refine xr_iload_n (xd dX12_setUp 92 rfl) 1 rfl ?_
            refine xr_iconst (v := oI 0) (xd dX12_setUp 93 rfl) (by decide) ?_
            obtain ⟨o41, h⟩ := h
            obtain ⟨J42, e_J42⟩ : ∃ z_ : zM, z_ = zs J39 523 x34 0 := ⟨_, rfl⟩
            replace h := h J42 e_J42
            refine zr_zastore (Or.inl rfl) e_J42 (xd dX12_setUp 94 rfl) (lt552 hn (by decide)) kd_523 ln_523 (by decide) o41 ?_
            refine xr_aload_n (xd dX12_setUp 95 rfl) 0 rfl ?_
            refine xr_getR (b := 524) 12 42 (xd dX12_setUp 96 rfl) f12_109 (by decide) (by decide) (lt552 hn (by decide)) kd_491 rfl (r_491_42 hR) ?_
            refine xr_iload_n (xd dX12_setUp 97 rfl) 1 rfl ?_
            refine xr_iconst (v := oI 0) (xd dX12_setUp 98 rfl) (by decide) ?_
            obtain ⟨o43, h⟩ := h
            obtain ⟨J44, e_J44⟩ : ∃ z_ : zM, z_ = zs J42 524 x34 0 := ⟨_, rfl⟩
            replace h := h J44 e_J44
            refine zr_iastore e_J44 (xd dX12_setUp 99 rfl) (lt552 hn (by decide)) kd_524 ln_524 (by decide) o43 ?_
            refine xr_aload_n (xd dX12_setUp 100 rfl) 0 rfl ?_
            refine xr_getR (b := 525) 12 43 (xd dX12_setUp 101 rfl) f12_112 (by decide) (by decide) (lt552 hn (by decide)) kd_491 rfl (r_491_43 hR) ?_
            refine xr_iload_n (xd dX12_setUp 102 rfl) 1 rfl ?_
            refine xr_iconst (v := oI 0) (xd dX12_setUp 103 rfl) (by decide) ?_
            obtain ⟨o45, h⟩ := h
            obtain ⟨J46, e_J46⟩ : ∃ z_ : zM, z_ = zs J44 525 x34 0 := ⟨_, rfl⟩
            replace h := h J46 e_J46
            refine zr_iastore e_J46 (xd dX12_setUp 104 rfl) (lt552 hn (by decide)) kd_525 ln_525 (by decide) o45 ?_
            refine xr_aload_n (xd dX12_setUp 105 rfl) 0 rfl ?_
            refine xr_getR (b := 527) 12 45 (xd dX12_setUp 106 rfl) f12_118 (by decide) (by decide) (lt552 hn (by decide)) kd_491 rfl (r_491_45 hR) ?_
            refine xr_iload_n (xd dX12_setUp 107 rfl) 1 rfl ?_
            refine xr_iconst (v := oI 0) (xd dX12_setUp 108 rfl) (by decide) ?_
            obtain ⟨o47, h⟩ := h
            obtain ⟨J48, e_J48⟩ : ∃ z_ : zM, z_ = zs J46 527 x34 0 := ⟨_, rfl⟩
            replace h := h J48 e_J48
            refine zr_iastore e_J48 (xd dX12_setUp 109 rfl) (lt552 hn (by decide)) kd_527 ln_527 (by decide) o47 ?_
            refine xr_aload_n (xd dX12_setUp 110 rfl) 0 rfl ?_
            refine xr_getR (b := 533) 12 51 (xd dX12_setUp 111 rfl) f12_136 (by decide) (by decide) (lt552 hn (by decide)) kd_491 rfl (r_491_51 hR) ?_
            refine xr_iload_n (xd dX12_setUp 112 rfl) 1 rfl ?_
            refine xr_iconst (v := oI 0) (xd dX12_setUp 113 rfl) (by decide) ?_
            obtain ⟨o49, h⟩ := h
            obtain ⟨J50, e_J50⟩ : ∃ z_ : zM, z_ = zs J48 533 x34 0 := ⟨_, rfl⟩
            replace h := h J50 e_J50
            refine zr_iastore e_J50 (xd dX12_setUp 114 rfl) (lt552 hn (by decide)) kd_533 ln_533 (by decide) o49 ?_
            refine xr_aload_n (xd dX12_setUp 115 rfl) 0 rfl ?_
            refine xr_getR (b := 534) 12 52 (xd dX12_setUp 116 rfl) f12_139 (by decide) (by decide) (lt552 hn (by decide)) kd_491 rfl (r_491_52 hR) ?_
            refine xr_iload_n (xd dX12_setUp 117 rfl) 1 rfl ?_
            refine xr_iconst (v := oI 0) (xd dX12_setUp 118 rfl) (by decide) ?_
            obtain ⟨o51, h⟩ := h
            obtain ⟨J52, e_J52⟩ : ∃ z_ : zM, z_ = zs J50 534 x34 0 := ⟨_, rfl⟩
            replace h := h J52 e_J52
            refine zr_iastore e_J52 (xd dX12_setUp 119 rfl) (lt552 hn (by decide)) kd_534 ln_534 (by decide) o51 ?_
            refine xr_aload_n (xd dX12_setUp 120 rfl) 0 rfl ?_
            refine xr_getR (b := 535) 12 53 (xd dX12_setUp 121 rfl) f12_142 (by decide) (by decide) (lt552 hn (by decide)) kd_491 rfl (r_491_53 hR) ?_
            refine xr_iload_n (xd dX12_setUp 122 rfl) 1 rfl ?_
            refine xr_iconst (v := oI 0) (xd dX12_setUp 123 rfl) (by decide) ?_
            obtain ⟨o53, h⟩ := h
            obtain ⟨J54, e_J54⟩ : ∃ z_ : zM, z_ = zs J52 535 x34 0 := ⟨_, rfl⟩
            replace h := h J54 e_J54
            refine zr_iastore e_J54 (xd dX12_setUp 124 rfl) (lt552 hn (by decide)) kd_535 ln_535 (by decide) o53 ?_
            refine xr_aload_n (xd dX12_setUp 125 rfl) 0 rfl ?_
            refine xr_getR (b := 536) 12 54 (xd dX12_setUp 126 rfl) f12_145 (by decide) (by decide) (lt552 hn (by decide)) kd_491 rfl (r_491_54 hR) ?_
            refine xr_iload_n (xd dX12_setUp 127 rfl) 1 rfl ?_
            refine xr_iload_n (xd dX12_setUp 128 rfl) 1 rfl ?_
            replace h := h (fun (x55 : Int) (J56 : zM) (L57 : yM) => xJ (xGm b dC dI cA ts) l mX12_setUp 0 0 (zQ0 n R Q) (fun _ _ => False) 0 0 214 [(0, .ref 491), (3, .int (oI x34))] [.int (oI x55), .int (oI x34), .ref 536] al n R (zi J56) (li L57)) (by
              intro x55 J56 L57 h
              show xJ _ _ _ _ _ _ _ _ _ 214 [(0, .ref 491), (3, .int (oI x34))] [.int (oI x55), .int (oI x34), .ref 536] _ _ _ _ _
              obtain ⟨o59, h⟩ := h
              obtain ⟨J60, e_J60⟩ : ∃ z_ : zM, z_ = zs J56 536 x34 x55 := ⟨_, rfl⟩
              replace h := h J60 e_J60
              refine zr_iastore e_J60 (xd dX12_setUp 133 rfl) (lt552 hn (by decide)) kd_536 ln_536 (by decide) o59 ?_
              refine xr_aload_n (xd dX12_setUp 134 rfl) 0 rfl ?_
              refine xr_getR (b := 538) 12 56 (xd dX12_setUp 135 rfl) f12_151 (by decide) (by decide) (lt552 hn (by decide)) kd_491 rfl (r_491_56 hR) ?_
              refine xr_iload_n (xd dX12_setUp 136 rfl) 1 rfl ?_
              refine xr_iconst (v := oI (-1)) (xd dX12_setUp 137 rfl) (by decide) ?_
              obtain ⟨o61, h⟩ := h
              obtain ⟨J62, e_J62⟩ : ∃ z_ : zM, z_ = zs J60 538 x34 (-1) := ⟨_, rfl⟩
              replace h := h J62 e_J62
              refine zr_iastore e_J62 (xd dX12_setUp 138 rfl) (lt552 hn (by decide)) kd_538 ln_538 (by decide) o61 ?_
              refine xr_aload_n (xd dX12_setUp 139 rfl) 0 rfl ?_
              refine xr_getR (b := 539) 12 57 (xd dX12_setUp 140 rfl) f12_154 (by decide) (by decide) (lt552 hn (by decide)) kd_491 rfl (r_491_57 hR) ?_
              refine xr_iload_n (xd dX12_setUp 141 rfl) 1 rfl ?_
              refine xr_iconst (v := oI 0) (xd dX12_setUp 142 rfl) (by decide) ?_
              obtain ⟨o63, h⟩ := h
              obtain ⟨J64, e_J64⟩ : ∃ z_ : zM, z_ = zs J62 539 x34 0 := ⟨_, rfl⟩
              replace h := h J64 e_J64
              refine zr_zastore (Or.inl rfl) e_J64 (xd dX12_setUp 143 rfl) (lt552 hn (by decide)) kd_539 ln_539 (by decide) o63 ?_
              refine xr_aload_n (xd dX12_setUp 144 rfl) 0 rfl ?_
              refine xr_getR (b := 547) 12 66 (xd dX12_setUp 145 rfl) f12_178 (by decide) (by decide) (lt552 hn (by decide)) kd_491 rfl (r_491_66 hR) ?_
              refine xr_iload_n (xd dX12_setUp 146 rfl) 1 rfl ?_
              refine xr_iconst (v := oI 0) (xd dX12_setUp 147 rfl) (by decide) ?_
              obtain ⟨o65, h⟩ := h
              obtain ⟨J66, e_J66⟩ : ∃ z_ : zM, z_ = zs J64 547 x34 0 := ⟨_, rfl⟩
              replace h := h J66 e_J66
              refine zr_iastore e_J66 (xd dX12_setUp 148 rfl) (lt552 hn (by decide)) kd_547 ln_547 (by decide) o65 ?_
              refine xr_aload_n (xd dX12_setUp 149 rfl) 0 rfl ?_
              refine xr_getR (b := 509) 12 25 (xd dX12_setUp 150 rfl) f12_63 (by decide) (by decide) (lt552 hn (by decide)) kd_491 rfl (r_491_25 hR) ?_
              refine xr_iload_n (xd dX12_setUp 151 rfl) 1 rfl ?_
              refine xr_iconst (v := oI 0) (xd dX12_setUp 152 rfl) (by decide) ?_
              obtain ⟨o67, h⟩ := h
              obtain ⟨J68, e_J68⟩ : ∃ z_ : zM, z_ = zs J66 509 x34 0 := ⟨_, rfl⟩
              replace h := h J68 e_J68
              refine zr_iastore e_J68 (xd dX12_setUp 153 rfl) (lt552 hn (by decide)) kd_509 ln_509 (by decide) o67 ?_
              refine xr_aload_n (xd dX12_setUp 154 rfl) 0 rfl ?_
              refine xr_getR (b := 512) 12 28 (xd dX12_setUp 155 rfl) f12_73 (by decide) (by decide) (lt552 hn (by decide)) kd_491 rfl (r_491_28 hR) ?_
              refine xr_iload_n (xd dX12_setUp 156 rfl) 1 rfl ?_
              refine xr_iconst (v := oI 0) (xd dX12_setUp 157 rfl) (by decide) ?_
              obtain ⟨o69, h⟩ := h
              obtain ⟨J70, e_J70⟩ : ∃ z_ : zM, z_ = zs J68 512 x34 0 := ⟨_, rfl⟩
              replace h := h J70 e_J70
              refine zr_iastore e_J70 (xd dX12_setUp 158 rfl) (lt552 hn (by decide)) kd_512 ln_512 (by decide) o69 ?_
              refine xr_aload_n (xd dX12_setUp 159 rfl) 0 rfl ?_
              refine xr_getR (b := 503) 12 19 (xd dX12_setUp 160 rfl) f12_43 (by decide) (by decide) (lt552 hn (by decide)) kd_491 rfl (r_491_19 hR) ?_
              refine xr_iload_n (xd dX12_setUp 161 rfl) 1 rfl ?_
              refine xr_iconst (v := oI 0) (xd dX12_setUp 162 rfl) (by decide) ?_
              obtain ⟨o71, h⟩ := h
              obtain ⟨J72, e_J72⟩ : ∃ z_ : zM, z_ = zs J70 503 x34 0 := ⟨_, rfl⟩
              replace h := h J72 e_J72
              refine zr_iastore e_J72 (xd dX12_setUp 163 rfl) (lt552 hn (by decide)) kd_503 ln_503 (by decide) o71 ?_
              refine xr_aload_n (xd dX12_setUp 164 rfl) 0 rfl ?_
              refine xr_getR (b := 504) 12 20 (xd dX12_setUp 165 rfl) f12_46 (by decide) (by decide) (lt552 hn (by decide)) kd_491 rfl (r_491_20 hR) ?_
              refine xr_iload_n (xd dX12_setUp 166 rfl) 1 rfl ?_
              refine xr_lconst (v := 0) (xd dX12_setUp 167 rfl) (by decide) ?_
              obtain ⟨o73, h⟩ := h
              obtain ⟨L74, e_L74⟩ : ∃ z_ : yM, z_ = ys L57 504 x34 0 := ⟨_, rfl⟩
              replace h := h L74 e_L74
              refine zr_lastore e_L74 (xd dX12_setUp 168 rfl) (lt552 hn (by decide)) kd_504 ln_504 (by decide) o73 ?_
              refine xr_aload_n (xd dX12_setUp 169 rfl) 0 rfl ?_
              refine xr_getR (b := 505) 12 21 (xd dX12_setUp 170 rfl) f12_50 (by decide) (by decide) (lt552 hn (by decide)) kd_491 rfl (r_491_21 hR) ?_
              refine xr_iload_n (xd dX12_setUp 171 rfl) 1 rfl ?_
              refine xr_lconst (v := 0) (xd dX12_setUp 172 rfl) (by decide) ?_
              obtain ⟨o75, h⟩ := h
              obtain ⟨L76, e_L76⟩ : ∃ z_ : yM, z_ = ys L74 505 x34 0 := ⟨_, rfl⟩
              replace h := h L76 e_L76
              refine zr_lastore e_L76 (xd dX12_setUp 173 rfl) (lt552 hn (by decide)) kd_505 ln_505 (by decide) o75 ?_
              refine xr_aload_n (xd dX12_setUp 174 rfl) 0 rfl ?_
              refine xr_getR (b := 506) 12 22 (xd dX12_setUp 175 rfl) f12_53 (by decide) (by decide) (lt552 hn (by decide)) kd_491 rfl (r_491_22 hR) ?_
              refine xr_iload_n (xd dX12_setUp 176 rfl) 1 rfl ?_
              refine xr_iconst (v := oI 0) (xd dX12_setUp 177 rfl) (by decide) ?_
              obtain ⟨o77, h⟩ := h
              obtain ⟨J78, e_J78⟩ : ∃ z_ : zM, z_ = zs J72 506 x34 0 := ⟨_, rfl⟩
              replace h := h J78 e_J78
              refine zr_zastore (Or.inl rfl) e_J78 (xd dX12_setUp 178 rfl) (lt552 hn (by decide)) kd_506 ln_506 (by decide) o77 ?_
              refine xr_aload_n (xd dX12_setUp 179 rfl) 0 rfl ?_
              refine xr_getR (b := 507) 12 23 (xd dX12_setUp 180 rfl) f12_57 (by decide) (by decide) (lt552 hn (by decide)) kd_491 rfl (r_491_23 hR) ?_
              refine xr_iload_n (xd dX12_setUp 181 rfl) 1 rfl ?_
              refine xr_iconst (v := oI 0) (xd dX12_setUp 182 rfl) (by decide) ?_
              obtain ⟨o79, h⟩ := h
              obtain ⟨J80, e_J80⟩ : ∃ z_ : zM, z_ = zs J78 507 x34 0 := ⟨_, rfl⟩
              replace h := h J80 e_J80
              refine zr_zastore (Or.inl rfl) e_J80 (xd dX12_setUp 183 rfl) (lt552 hn (by decide)) kd_507 ln_507 (by decide) o79 ?_
              refine zr_iinc [(0, .ref 491), (3, .int (oI (x34 + 1)))] (xd dX12_setUp 184 rfl) 1 rfl (by decide) rfl ?_
              refine xr_goto 141 (xd dX12_setUp 185 rfl) (by decide) ?_
              exact h)
            obtain ⟨o81, h⟩ := h
            refine zr_if_ne 213 (xd dX12_setUp 129 rfl) (by decide) o81 (fun c82 => ?_) (fun c82 => ?_)
            · replace h := ifn h c82
              refine xr_iconst (v := oI 3) (xd dX12_setUp 132 rfl) (by decide) ?_
              exact h
            · replace h := ifp h c82
              refine xr_iconst (v := oI 0) (xd dX12_setUp 130 rfl) (by decide) ?_
              refine xr_goto 214 (xd dX12_setUp 131 rfl) (by decide) ?_
              exact h
        · replace h := ifp h c32
          refine xr_aload_n (xd dX12_setUp 75 rfl) 0 rfl ?_
          refine xr_getR (b := 540) 12 59 (xd dX12_setUp 76 rfl) f12_157 (by decide) (by decide) (lt552 hn (by decide)) kd_491 rfl (r_491_59 hR) ?_
          refine xr_iload_n (xd dX12_setUp 77 rfl) 1 rfl ?_
          refine xr_iconst (v := oI (-1)) (xd dX12_setUp 78 rfl) (by decide) ?_
          obtain ⟨o83, h⟩ := h
          obtain ⟨J84, e_J84⟩ : ∃ z_ : zM, z_ = zs J29 540 x28 (-1) := ⟨_, rfl⟩
          replace h := h J84 e_J84
          refine zr_iastore e_J84 (xd dX12_setUp 79 rfl) (lt552 hn (by decide)) kd_540 ln_540 (by decide) o83 ?_
          refine zr_iinc [(0, .ref 491), (3, .int (oI (x28 + 1)))] (xd dX12_setUp 80 rfl) 1 rfl (by decide) rfl ?_
          refine xr_goto 120 (xd dX12_setUp 81 rfl) (by decide) ?_
          exact h
      · replace h := ifp h c26
        refine xr_aload_n (xd dX12_setUp 53 rfl) 0 rfl ?_
        refine xr_getR (b := 514) 12 31 (xd dX12_setUp 54 rfl) f12_79 (by decide) (by decide) (lt552 hn (by decide)) kd_491 rfl (r_491_31 hR) ?_
        refine xr_iload_n (xd dX12_setUp 55 rfl) 1 rfl ?_
        refine xr_iconst (v := oI 0) (xd dX12_setUp 56 rfl) (by decide) ?_
        obtain ⟨o85, h⟩ := h
        obtain ⟨J86, e_J86⟩ : ∃ z_ : zM, z_ = zs J23 514 x22 0 := ⟨_, rfl⟩
        replace h := h J86 e_J86
        refine zr_iastore e_J86 (xd dX12_setUp 57 rfl) (lt552 hn (by decide)) kd_514 ln_514 (by decide) o85 ?_
        refine xr_aload_n (xd dX12_setUp 58 rfl) 0 rfl ?_
        refine xr_getR (b := 545) 12 64 (xd dX12_setUp 59 rfl) f12_172 (by decide) (by decide) (lt552 hn (by decide)) kd_491 rfl (r_491_64 hR) ?_
        refine xr_iload_n (xd dX12_setUp 60 rfl) 1 rfl ?_
        refine xr_iconst (v := oI (-1)) (xd dX12_setUp 61 rfl) (by decide) ?_
        obtain ⟨o87, h⟩ := h
        obtain ⟨J88, e_J88⟩ : ∃ z_ : zM, z_ = zs J86 545 x22 (-1) := ⟨_, rfl⟩
        replace h := h J88 e_J88
        refine zr_iastore e_J88 (xd dX12_setUp 62 rfl) (lt552 hn (by decide)) kd_545 ln_545 (by decide) o87 ?_
        refine xr_aload_n (xd dX12_setUp 63 rfl) 0 rfl ?_
        refine xr_getR (b := 546) 12 65 (xd dX12_setUp 64 rfl) f12_175 (by decide) (by decide) (lt552 hn (by decide)) kd_491 rfl (r_491_65 hR) ?_
        refine xr_iload_n (xd dX12_setUp 65 rfl) 1 rfl ?_
        refine xr_lconst (v := 0) (xd dX12_setUp 66 rfl) (by decide) ?_
        obtain ⟨o89, h⟩ := h
        obtain ⟨L90, e_L90⟩ : ∃ z_ : yM, z_ = ys L24 546 x22 0 := ⟨_, rfl⟩
        replace h := h L90 e_L90
        refine zr_lastore e_L90 (xd dX12_setUp 67 rfl) (lt552 hn (by decide)) kd_546 ln_546 (by decide) o89 ?_
        refine zr_iinc [(0, .ref 491), (3, .int (oI (x22 + 1)))] (xd dX12_setUp 68 rfl) 1 rfl (by decide) rfl ?_
        refine xr_goto 85 (xd dX12_setUp 69 rfl) (by decide) ?_
        exact h
    · replace h := ifp h c20
      refine xr_aload_n (xd dX12_setUp 41 rfl) 0 rfl ?_
      refine xr_getR (b := 537) 12 55 (xd dX12_setUp 42 rfl) f12_148 (by decide) (by decide) (lt552 hn (by decide)) kd_491 rfl (r_491_55 hR) ?_
      refine xr_iload_n (xd dX12_setUp 43 rfl) 1 rfl ?_
      refine xr_iconst (v := oI 0) (xd dX12_setUp 44 rfl) (by decide) ?_
      obtain ⟨o91, h⟩ := h
      obtain ⟨J92, e_J92⟩ : ∃ z_ : zM, z_ = zs J17 537 x16 0 := ⟨_, rfl⟩
      replace h := h J92 e_J92
      refine zr_iastore e_J92 (xd dX12_setUp 45 rfl) (lt552 hn (by decide)) kd_537 ln_537 (by decide) o91 ?_
      refine zr_iinc [(0, .ref 491), (3, .int (oI (x16 + 1)))] (xd dX12_setUp 46 rfl) 1 rfl (by decide) rfl ?_
      refine xr_goto 64 (xd dX12_setUp 47 rfl) (by decide) ?_
      exact h
  · replace h := ifp h c14
    refine xr_aload_n (xd dX12_setUp 29 rfl) 0 rfl ?_
    refine xr_getR (b := 492) 12 5 (xd dX12_setUp 30 rfl) f12_7 (by decide) (by decide) (lt552 hn (by decide)) kd_491 rfl (r_491_5 hR) ?_
    refine xr_iload_n (xd dX12_setUp 31 rfl) 1 rfl ?_
    refine xr_iconst (v := oI 0) (xd dX12_setUp 32 rfl) (by decide) ?_
    obtain ⟨o93, h⟩ := h
    obtain ⟨J94, e_J94⟩ : ∃ z_ : zM, z_ = zs J11 492 x10 0 := ⟨_, rfl⟩
    replace h := h J94 e_J94
    refine zr_iastore e_J94 (xd dX12_setUp 33 rfl) (lt552 hn (by decide)) kd_492 ln_492 (by decide) o93 ?_
    refine zr_iinc [(0, .ref 491), (3, .int (oI (x10 + 1)))] (xd dX12_setUp 34 rfl) 1 rfl (by decide) rfl ?_
    refine xr_goto 42 (xd dX12_setUp 35 rfl) (by decide) ?_
    exact h
def w_X12_make (p1 : Int) (p2 : Int) (J : zM) (L : yM) (Q : zM → yM → Prop) : Prop := ∀ K4 : Int → zM → yM → Prop, (∀ (x1 : Int) (J2 : zM) (L3 : yM), (∀ J5 : zM, J5 = zs J2 491 0 x1 → R32 (J5 491 0) ∧ (if (J5 491 0) = 0 then w_X12_setUp p1 p2 J5 L3 (fun J8 L9 => Q J8 L9) else Q J5 L3)) → K4 x1 J2 L3) → ∀ K12 : zM → yM → Prop, (∀ (J10 : zM) (L11 : yM), (K4 1 J10 L11) → K12 J10 L11) → R32 p1 ∧ (if p1 < 0 then K12 J L else (if 7 < p1 then K12 J L else R32 p2 ∧ (if p2 < 100 then K12 J L else (if 500 < p2 then K12 J L else K4 0 J L))))
set_option maxHeartbeats 4000000 in
set_option maxRecDepth 100000 in
theorem v_X12_make {b : Nat} {dC : Nat → ClassId} {dI : Nat → Nat → Nat} {cA : Nat → ClassId} {ts : Nat → Nat} {l : Launch} {n : Nat} {R : Nat → Nat → Option Nat} {al : Bool} (hn : 552 ≤ n) (hR : xRk R) {p1 : Int} {p2 : Int}  {J : zM} {L : yM} {Q : zM → yM → Prop} (h : w_X12_make p1 p2 J L Q) : xCn (xGm b dC dI cA ts) l mX12_make [.ref 491, .int (oI p1), .int (oI p2)] al (n, R, zi J, li L) 0 0 (zQ0 n R Q) (fun _ _ => False) := by
  refine xCn.ofJ (by decide) (Nat.le_of_ble_eq_true rfl) ?_
  show xJ _ _ _ _ _ _ _ _ _ 0 [(0, .ref 491), (1, .int (oI p1)), (2, .int (oI p2))] [] _ _ _ _ _
  unfold w_X12_make at h
  refine xr_aload_n (xd dX12_make 0 rfl) 0 rfl ?_
  refine xr_iload_n (xd dX12_make 1 rfl) 1 rfl ?_
  replace h := h (fun (x1 : Int) (J2 : zM) (L3 : yM) => xJ (xGm b dC dI cA ts) l mX12_make 0 0 (zQ0 n R Q) (fun _ _ => False) 0 0 29 [(0, .ref 491), (1, .int (oI p1)), (2, .int (oI p2))] [.int (oI x1), .ref 491] al n R (zi J2) (li L3)) (by
    intro x1 J2 L3 h
    show xJ _ _ _ _ _ _ _ _ _ 29 [(0, .ref 491), (1, .int (oI p1)), (2, .int (oI p2))] [.int (oI x1), .ref 491] _ _ _ _ _
    obtain ⟨J5, e_J5⟩ : ∃ z_ : zM, z_ = zs J2 491 0 x1 := ⟨_, rfl⟩
    replace h := h J5 e_J5
    refine zr_putI 12 0 0 rfl e_J5 (xd dX12_make 15 rfl) f12_200 (by decide) (by decide) (lt552 hn (by decide)) kd_491 (Or.inl rfl) rfl rfl (fun _ => rfl) ?_
    refine xr_aload_n (xd dX12_make 16 rfl) 0 rfl ?_
    refine zr_getI 12 0 0 rfl (xd dX12_make 17 rfl) f12_200 (by decide) (by decide) (lt552 hn (by decide)) kd_491 rfl ?_
    obtain ⟨o6, h⟩ := h
    refine zr_if_ne 45 (xd dX12_make 18 rfl) (by decide) o6 (fun c7 => ?_) (fun c7 => ?_)
    · replace h := ifn h c7
      exact xr_vret (xd dX12_make 23 rfl) rfl (by decide) (by decide) (fun _ => rfl) ⟨_, _, rfl, rfl, h⟩
    · replace h := ifp h c7
      refine xr_aload_n (xd dX12_make 19 rfl) 0 rfl ?_
      refine xr_iload_n (xd dX12_make 20 rfl) 1 rfl ?_
      refine xr_iload_n (xd dX12_make 21 rfl) 2 rfl ?_
      refine xr_callV mX12_setUp 2 [.int (oI p1), .int (oI p2)] (xd dX12_make 22 rfl) l12_196 kX12_setUp rfl (lt552 hn (by decide)) kd_491 (by decide) rfl (by decide) (Nat.le_of_ble_eq_true rfl) (v_X12_setUp hn hR  h) (by decide) (by decide) (fun r_ M_ h_ => ?_) (fun _ _ h_ => h_.elim)
      obtain ⟨J8, L9, rfl, rfl, h⟩ := h_
      show xJ _ _ _ _ _ _ _ _ _ 45 [(0, .ref 491), (1, .int (oI p1)), (2, .int (oI p2))] [] _ _ _ (zi J8) (li L9)
      exact xr_vret (xd dX12_make 23 rfl) rfl (by decide) (by decide) (fun _ => rfl) ⟨_, _, rfl, rfl, h⟩)
  replace h := h (fun (J10 : zM) (L11 : yM) => xJ (xGm b dC dI cA ts) l mX12_make 0 0 (zQ0 n R Q) (fun _ _ => False) 0 0 24 [(0, .ref 491), (1, .int (oI p1)), (2, .int (oI p2))] [.ref 491] al n R (zi J10) (li L11)) (by
    intro J10 L11 h
    show xJ _ _ _ _ _ _ _ _ _ 24 [(0, .ref 491), (1, .int (oI p1)), (2, .int (oI p2))] [.ref 491] _ _ _ _ _
    refine xr_iconst (v := oI 1) (xd dX12_make 12 rfl) (by decide) ?_
    refine xr_goto 29 (xd dX12_make 13 rfl) (by decide) ?_
    exact h)
  obtain ⟨o13, h⟩ := h
  refine zr_if_lt 24 (xd dX12_make 2 rfl) (by decide) o13 (fun c14 => ?_) (fun c14 => ?_)
  · replace h := ifp h c14
    exact h
  · replace h := ifn h c14
    refine xr_iload_n (xd dX12_make 3 rfl) 1 rfl ?_
    refine xr_bipush (v := oI 7) (xd dX12_make 4 rfl) (by decide) ?_
    refine zr_icmp_gt 24 (xd dX12_make 5 rfl) (by decide) o13 (by decide) (fun c15 => ?_) (fun c15 => ?_)
    · replace h := ifp h c15
      exact h
    · replace h := ifn h c15
      refine xr_iload_n (xd dX12_make 6 rfl) 2 rfl ?_
      refine xr_bipush (v := oI 100) (xd dX12_make 7 rfl) (by decide) ?_
      obtain ⟨o16, h⟩ := h
      refine zr_icmp_lt 24 (xd dX12_make 8 rfl) (by decide) o16 (by decide) (fun c17 => ?_) (fun c17 => ?_)
      · replace h := ifp h c17
        exact h
      · replace h := ifn h c17
        refine xr_iload_n (xd dX12_make 9 rfl) 2 rfl ?_
        refine xr_sipush (v := oI 500) (xd dX12_make 10 rfl) (by decide) ?_
        refine zr_icmp_le 28 (xd dX12_make 11 rfl) (by decide) o16 (by decide) (fun c18 => ?_) (fun c18 => ?_)
        · replace h := ifn h c18
          refine xr_iconst (v := oI 0) (xd dX12_make 14 rfl) (by decide) ?_
          exact h
        · replace h := ifp h c18
          exact h
def w_X12_numberTo (p1 : Int) (p2 : Int) (p3 : Int64) (J : zM) (L : yM) (Q : zM → yM → Prop) : Prop := zl_z (fun K1 x2 J3 L4 => R32 x2 ∧ R32 p2 ∧ (if x2 < p2 then ((0 : Int) ≤ (p1 + x2) ∧ (p1 + x2) < 2048) ∧ ∀ J9 : zM, J9 = zs J3 492 (p1 + x2) (zl2i ((yshr p3 (8 * ((p2 - 1) - x2))) &&& 255)) → K1 (x2 + 1) J9 L4 else Q J3 L4)) 0 J L
set_option maxHeartbeats 4000000 in
set_option maxRecDepth 100000 in
theorem v_X12_numberTo {b : Nat} {dC : Nat → ClassId} {dI : Nat → Nat → Nat} {cA : Nat → ClassId} {ts : Nat → Nat} {l : Launch} {n : Nat} {R : Nat → Nat → Option Nat} {al : Bool} (hn : 552 ≤ n) (hR : xRk R) {p1 : Int} {p2 : Int} {p3 : Int64}  {J : zM} {L : yM} {Q : zM → yM → Prop} (h : w_X12_numberTo p1 p2 p3 J L Q) : xCn (xGm b dC dI cA ts) l mX12_numberTo [.ref 491, .int (oI p1), .int (oI p2), .long p3] al (n, R, zi J, li L) 0 0 (zQ0 n R Q) (fun _ _ => False) := by
  refine xCn.ofJ (by decide) (Nat.le_of_ble_eq_true rfl) ?_
  show xJ _ _ _ _ _ _ _ _ _ 0 [(0, .ref 491), (1, .int (oI p1)), (2, .int (oI p2)), (3, .long p3)] [] _ _ _ _ _
  unfold w_X12_numberTo at h
  refine xr_iconst (v := oI 0) (xd dX12_numberTo 0 rfl) (by decide) ?_
  refine xr_istore [(0, .ref 491), (1, .int (oI p1)), (2, .int (oI p2)), (3, .long p3), (5, .int (oI 0))] (xd dX12_numberTo 1 rfl) (by decide) rfl ?_
  refine h (fun x2 J3 L4 => xJ (xGm b dC dI cA ts) l mX12_numberTo 0 0 (zQ0 n R Q) (fun _ _ => False) 0 0 3 [(0, .ref 491), (1, .int (oI p1)), (2, .int (oI p2)), (3, .long p3), (5, .int (oI x2))] [] al n R (zi J3) (li L4)) ?_
  intro x2 J3 L4 h
  show xJ _ _ _ _ _ _ _ _ _ 3 [(0, .ref 491), (1, .int (oI p1)), (2, .int (oI p2)), (3, .long p3), (5, .int (oI x2))] [] _ _ _ _ _
  refine xr_iload (xd dX12_numberTo 2 rfl) 4 rfl ?_
  refine xr_iload_n (xd dX12_numberTo 3 rfl) 2 rfl ?_
  obtain ⟨o5, h⟩ := h
  obtain ⟨o6, h⟩ := h
  refine zr_icmp_ge 40 (xd dX12_numberTo 4 rfl) (by decide) o5 o6 (fun c7 => ?_) (fun c7 => ?_)
  · replace h := ifn h c7
    exact xr_vret (xd dX12_numberTo 25 rfl) rfl (by decide) (by decide) (fun _ => rfl) ⟨_, _, rfl, rfl, h⟩
  · replace h := ifp h c7
    refine xr_aload_n (xd dX12_numberTo 5 rfl) 0 rfl ?_
    refine xr_getR (b := 492) 12 5 (xd dX12_numberTo 6 rfl) f12_7 (by decide) (by decide) (lt552 hn (by decide)) kd_491 rfl (r_491_5 hR) ?_
    refine xr_iload_n (xd dX12_numberTo 7 rfl) 1 rfl ?_
    refine xr_iload (xd dX12_numberTo 8 rfl) 4 rfl ?_
    refine zr_iadd (xd dX12_numberTo 9 rfl) ?_
    refine xr_lload_n (xd dX12_numberTo 10 rfl) 3 rfl ?_
    refine xr_bipush (v := oI 8) (xd dX12_numberTo 11 rfl) (by decide) ?_
    refine xr_iload_n (xd dX12_numberTo 12 rfl) 2 rfl ?_
    refine xr_iconst (v := oI 1) (xd dX12_numberTo 13 rfl) (by decide) ?_
    refine zr_isub (xd dX12_numberTo 14 rfl) ?_
    refine xr_iload (xd dX12_numberTo 15 rfl) 4 rfl ?_
    refine zr_isub (xd dX12_numberTo 16 rfl) ?_
    refine zr_imul (xd dX12_numberTo 17 rfl) ?_
    refine zr_lshr (xd dX12_numberTo 18 rfl) ?_
    refine xr_ldc2_w (v := 255) (xd dX12_numberTo 19 rfl) q12_236 ?_
    refine xr_land (xd dX12_numberTo 20 rfl) ?_
    refine zr_l2i (xd dX12_numberTo 21 rfl) ?_
    obtain ⟨o8, h⟩ := h
    obtain ⟨J9, e_J9⟩ : ∃ z_ : zM, z_ = zs J3 492 (p1 + x2) (zl2i ((yshr p3 (8 * ((p2 - 1) - x2))) &&& 255)) := ⟨_, rfl⟩
    replace h := h J9 e_J9
    refine zr_iastore e_J9 (xd dX12_numberTo 22 rfl) (lt552 hn (by decide)) kd_492 ln_492 (by decide) o8 ?_
    refine zr_iinc [(0, .ref 491), (1, .int (oI p1)), (2, .int (oI p2)), (3, .long p3), (5, .int (oI (x2 + 1)))] (xd dX12_numberTo 23 rfl) 4 rfl (by decide) rfl ?_
    refine xr_goto 3 (xd dX12_numberTo 24 rfl) (by decide) ?_
    exact h
def w_X12_numberAt (p1 : Int) (p2 : Int) (J : zM) (L : yM) (Q : Int64 → zM → yM → Prop) : Prop := zl_lz (fun K1 x2 x3 J4 L5 => R32 x3 ∧ R32 p2 ∧ (if x3 < p2 then ((0 : Int) ≤ (p1 + x3) ∧ (p1 + x3) < 2048) ∧ ∀ x10 : Int64, x10 = ((yshl x2 8) ||| (zi2l (J4 492 (p1 + x3)))) → K1 x10 (x3 + 1) J4 L5 else Q x2 J4 L5)) 0 0 J L
set_option maxHeartbeats 4000000 in
set_option maxRecDepth 100000 in
theorem v_X12_numberAt {b : Nat} {dC : Nat → ClassId} {dI : Nat → Nat → Nat} {cA : Nat → ClassId} {ts : Nat → Nat} {l : Launch} {n : Nat} {R : Nat → Nat → Option Nat} {al : Bool} (hn : 552 ≤ n) (hR : xRk R) {p1 : Int} {p2 : Int}  {J : zM} {L : yM} {Q : Int64 → zM → yM → Prop} (h : w_X12_numberAt p1 p2 J L Q) : xCn (xGm b dC dI cA ts) l mX12_numberAt [.ref 491, .int (oI p1), .int (oI p2)] al (n, R, zi J, li L) 0 0 (zQ2 n R Q) (fun _ _ => False) := by
  refine xCn.ofJ (by decide) (Nat.le_of_ble_eq_true rfl) ?_
  show xJ _ _ _ _ _ _ _ _ _ 0 [(0, .ref 491), (1, .int (oI p1)), (2, .int (oI p2))] [] _ _ _ _ _
  unfold w_X12_numberAt at h
  refine xr_lconst (v := 0) (xd dX12_numberAt 0 rfl) (by decide) ?_
  refine xr_lstore_n [(0, .ref 491), (1, .int (oI p1)), (2, .int (oI p2)), (3, .long 0)] (xd dX12_numberAt 1 rfl) rfl (by decide) rfl ?_
  refine xr_iconst (v := oI 0) (xd dX12_numberAt 2 rfl) (by decide) ?_
  refine xr_istore [(0, .ref 491), (1, .int (oI p1)), (2, .int (oI p2)), (3, .long 0), (5, .int (oI 0))] (xd dX12_numberAt 3 rfl) (by decide) rfl ?_
  refine h (fun x2 x3 J4 L5 => xJ (xGm b dC dI cA ts) l mX12_numberAt 0 0 (zQ2 n R Q) (fun _ _ => False) 0 0 5 [(0, .ref 491), (1, .int (oI p1)), (2, .int (oI p2)), (3, .long x2), (5, .int (oI x3))] [] al n R (zi J4) (li L5)) ?_
  intro x2 x3 J4 L5 h
  show xJ _ _ _ _ _ _ _ _ _ 5 [(0, .ref 491), (1, .int (oI p1)), (2, .int (oI p2)), (3, .long x2), (5, .int (oI x3))] [] _ _ _ _ _
  refine xr_iload (xd dX12_numberAt 4 rfl) 4 rfl ?_
  refine xr_iload_n (xd dX12_numberAt 5 rfl) 2 rfl ?_
  obtain ⟨o6, h⟩ := h
  obtain ⟨o7, h⟩ := h
  refine zr_icmp_ge 33 (xd dX12_numberAt 6 rfl) (by decide) o6 o7 (fun c8 => ?_) (fun c8 => ?_)
  · replace h := ifn h c8
    refine xr_lload_n (xd dX12_numberAt 21 rfl) 3 rfl ?_
    exact xr_lret (xd dX12_numberAt 22 rfl) rfl (by decide) (by decide) (fun _ => rfl) ⟨_, _, _, rfl, rfl, h⟩
  · replace h := ifp h c8
    refine xr_lload_n (xd dX12_numberAt 7 rfl) 3 rfl ?_
    refine xr_bipush (v := oI 8) (xd dX12_numberAt 8 rfl) (by decide) ?_
    refine zr_lshl (xd dX12_numberAt 9 rfl) ?_
    refine xr_aload_n (xd dX12_numberAt 10 rfl) 0 rfl ?_
    refine xr_getR (b := 492) 12 5 (xd dX12_numberAt 11 rfl) f12_7 (by decide) (by decide) (lt552 hn (by decide)) kd_491 rfl (r_491_5 hR) ?_
    refine xr_iload_n (xd dX12_numberAt 12 rfl) 1 rfl ?_
    refine xr_iload (xd dX12_numberAt 13 rfl) 4 rfl ?_
    refine zr_iadd (xd dX12_numberAt 14 rfl) ?_
    obtain ⟨o9, h⟩ := h
    refine zr_iaload (xd dX12_numberAt 15 rfl) (lt552 hn (by decide)) kd_492 ln_492 (by decide) o9 ?_
    refine zr_i2l (xd dX12_numberAt 16 rfl) ?_
    refine xr_lor (xd dX12_numberAt 17 rfl) ?_
    obtain ⟨x10, e_x10⟩ : ∃ z_ : Int64, z_ = ((yshl x2 8) ||| (zi2l (J4 492 (p1 + x3)))) := ⟨_, rfl⟩
    replace h := h x10 e_x10
    refine zr_nml e_x10 ?_
    refine xr_lstore_n [(0, .ref 491), (1, .int (oI p1)), (2, .int (oI p2)), (3, .long x10), (5, .int (oI x3))] (xd dX12_numberAt 18 rfl) rfl (by decide) rfl ?_
    refine zr_iinc [(0, .ref 491), (1, .int (oI p1)), (2, .int (oI p2)), (3, .long x10), (5, .int (oI (x3 + 1)))] (xd dX12_numberAt 19 rfl) 4 rfl (by decide) rfl ?_
    refine xr_goto 5 (xd dX12_numberAt 20 rfl) (by decide) ?_
    exact h
def w_X12_binder (p1 : Int) (J : zM) (L : yM) (Q : zM → yM → Prop) : Prop := w_X12_early p1 J L (fun J1 L2 => w_X12_keyOwn ((1024 * p1) + 32) 32 J1 L2 (fun J3 L4 => w_X12_expandNone 6 125779802220898 J3 L4 (fun J5 L6 => zl_z (fun K7 x8 J9 L10 => R32 x8 ∧ (if x8 < 32 then ((0 : Int) ≤ x8 ∧ x8 < 32) ∧ ((0 : Int) ≤ x8 ∧ x8 < 32) ∧ ∀ J60 : zM, J60 = zs J9 508 x8 (J9 500 x8) → K7 (x8 + 1) J60 L10 else ∀ x13 : Int, x13 = ((1024 * p1) + 512) → ∀ J14 : zM, J14 = zs J9 491 13 0 → w_X12_bodySize x13 J14 L10 (fun r17 J15 L16 => w_X12_addOwn x13 ((3 + r17) - 32) J15 L16 (fun J18 L19 => w_X12_hashFrom 0 J18 L19 (fun J20 L21 => zl_z (fun K22 x23 J24 L25 => R32 x23 ∧ (if x23 < 64 then ∀ K53 : Int → zM → yM → Prop, (∀ (x50 : Int) (J51 : zM) (L52 : yM), (((0 : Int) ≤ x23 ∧ x23 < 64) ∧ ∀ J55 : zM, J55 = zs J51 501 x23 x50 → K22 (x23 + 1) J55 L52) → K53 x50 J51 L52) → (if x23 < 32 then ((0 : Int) ≤ x23 ∧ x23 < 32) ∧ K53 (J24 508 x23) J24 L25 else K53 0 J24 L25) else zl_z (fun K28 x29 J30 L31 => R32 x29 ∧ (if x29 < 32 then ((0 : Int) ≤ x29 ∧ x29 < 32) ∧ ((0 : Int) ≤ x29 ∧ x29 < 32) ∧ ∀ J49 : zM, J49 = zs J30 508 x29 (J30 500 x29) → K28 (x29 + 1) J49 L31 else w_X12_beginCode J30 L31 (fun J34 L35 => zl_z (fun K36 x37 J38 L39 => R32 x37 ∧ (if x37 < 32 then ((0 : Int) ≤ x37 ∧ x37 < 32) ∧ w_X12_add (J38 508 x37) J38 L39 (fun J45 L46 => K36 (x37 + 1) J45 L46) else w_X12_code J38 L39 (fun J42 L43 => Q J42 L43))) 0 J34 L35))) 0 J24 L25)) 0 J20 L21))))) 0 J5 L6)))
set_option maxHeartbeats 4000000 in
set_option maxRecDepth 100000 in
theorem v_X12_binder {b : Nat} {dC : Nat → ClassId} {dI : Nat → Nat → Nat} {cA : Nat → ClassId} {ts : Nat → Nat} {l : Launch} {n : Nat} {R : Nat → Nat → Option Nat} {al : Bool} (hn : 552 ≤ n) (hR : xRk R) {p1 : Int}  {J : zM} {L : yM} {Q : zM → yM → Prop} (h : w_X12_binder p1 J L Q) : xCn (xGm b dC dI cA ts) l mX12_binder [.ref 491, .int (oI p1)] al (n, R, zi J, li L) 0 0 (zQ0 n R Q) (fun _ _ => False) := by
  refine xCn.ofJ (by decide) (Nat.le_of_ble_eq_true rfl) ?_
  show xJ _ _ _ _ _ _ _ _ _ 0 [(0, .ref 491), (1, .int (oI p1))] [] _ _ _ _ _
  unfold w_X12_binder at h
  refine xr_aload_n (xd dX12_binder 0 rfl) 0 rfl ?_
  refine xr_iload_n (xd dX12_binder 1 rfl) 1 rfl ?_
  refine xr_callV mX12_early 1 [.int (oI p1)] (xd dX12_binder 2 rfl) l12_402 kX12_early rfl (lt552 hn (by decide)) kd_491 (by decide) rfl (by decide) (Nat.le_of_ble_eq_true rfl) (v_X12_early hn hR  h) (by decide) (by decide) (fun r_ M_ h_ => ?_) (fun _ _ h_ => h_.elim)
  obtain ⟨J1, L2, rfl, rfl, h⟩ := h_
  show xJ _ _ _ _ _ _ _ _ _ 5 [(0, .ref 491), (1, .int (oI p1))] [] _ _ _ (zi J1) (li L2)
  refine xr_aload_n (xd dX12_binder 3 rfl) 0 rfl ?_
  refine xr_sipush (v := oI 1024) (xd dX12_binder 4 rfl) (by decide) ?_
  refine xr_iload_n (xd dX12_binder 5 rfl) 1 rfl ?_
  refine zr_imul (xd dX12_binder 6 rfl) ?_
  refine xr_bipush (v := oI 32) (xd dX12_binder 7 rfl) (by decide) ?_
  refine zr_iadd (xd dX12_binder 8 rfl) ?_
  refine xr_bipush (v := oI 32) (xd dX12_binder 9 rfl) (by decide) ?_
  refine xr_callV mX12_keyOwn 2 [.int (oI ((1024 * p1) + 32)), .int (oI 32)] (xd dX12_binder 10 rfl) l12_257 kX12_keyOwn rfl (lt552 hn (by decide)) kd_491 (by decide) rfl (by decide) (Nat.le_of_ble_eq_true rfl) (v_X12_keyOwn hn hR  h) (by decide) (by decide) (fun r_ M_ h_ => ?_) (fun _ _ h_ => h_.elim)
  obtain ⟨J3, L4, rfl, rfl, h⟩ := h_
  show xJ _ _ _ _ _ _ _ _ _ 19 [(0, .ref 491), (1, .int (oI p1))] [] _ _ _ (zi J3) (li L4)
  refine xr_aload_n (xd dX12_binder 11 rfl) 0 rfl ?_
  refine xr_bipush (v := oI 6) (xd dX12_binder 12 rfl) (by decide) ?_
  refine xr_ldc2_w (v := 125779802220898) (xd dX12_binder 13 rfl) q12_405 ?_
  refine xr_callV mX12_expandNone 2 [.int (oI 6), .long 125779802220898] (xd dX12_binder 14 rfl) l12_293 kX12_expandNone rfl (lt552 hn (by decide)) kd_491 (by decide) rfl (by decide) (Nat.le_of_ble_eq_true rfl) (v_X12_expandNone hn hR  h) (by decide) (by decide) (fun r_ M_ h_ => ?_) (fun _ _ h_ => h_.elim)
  obtain ⟨J5, L6, rfl, rfl, h⟩ := h_
  show xJ _ _ _ _ _ _ _ _ _ 28 [(0, .ref 491), (1, .int (oI p1))] [] _ _ _ (zi J5) (li L6)
  refine xr_iconst (v := oI 0) (xd dX12_binder 15 rfl) (by decide) ?_
  refine xr_istore_n [(0, .ref 491), (1, .int (oI p1)), (2, .int (oI 0))] (xd dX12_binder 16 rfl) rfl (by decide) rfl ?_
  refine h (fun x8 J9 L10 => xJ (xGm b dC dI cA ts) l mX12_binder 0 0 (zQ0 n R Q) (fun _ _ => False) 0 0 30 [(0, .ref 491), (1, .int (oI p1)), (2, .int (oI x8))] [] al n R (zi J9) (li L10)) ?_
  intro x8 J9 L10 h
  show xJ _ _ _ _ _ _ _ _ _ 30 [(0, .ref 491), (1, .int (oI p1)), (2, .int (oI x8))] [] _ _ _ _ _
  refine xr_iload_n (xd dX12_binder 17 rfl) 2 rfl ?_
  refine xr_bipush (v := oI 32) (xd dX12_binder 18 rfl) (by decide) ?_
  obtain ⟨o11, h⟩ := h
  refine zr_icmp_ge 54 (xd dX12_binder 19 rfl) (by decide) o11 (by decide) (fun c12 => ?_) (fun c12 => ?_)
  · replace h := ifn h c12
    refine xr_sipush (v := oI 1024) (xd dX12_binder 30 rfl) (by decide) ?_
    refine xr_iload_n (xd dX12_binder 31 rfl) 1 rfl ?_
    refine zr_imul (xd dX12_binder 32 rfl) ?_
    refine xr_sipush (v := oI 512) (xd dX12_binder 33 rfl) (by decide) ?_
    refine zr_iadd (xd dX12_binder 34 rfl) ?_
    obtain ⟨x13, e_x13⟩ : ∃ z_ : Int, z_ = ((1024 * p1) + 512) := ⟨_, rfl⟩
    replace h := h x13 e_x13
    refine zr_nm e_x13 ?_
    refine xr_istore_n [(0, .ref 491), (1, .int (oI p1)), (2, .int (oI x13))] (xd dX12_binder 35 rfl) rfl (by decide) rfl ?_
    refine xr_aload_n (xd dX12_binder 36 rfl) 0 rfl ?_
    refine xr_iconst (v := oI 0) (xd dX12_binder 37 rfl) (by decide) ?_
    obtain ⟨J14, e_J14⟩ : ∃ z_ : zM, z_ = zs J9 491 13 0 := ⟨_, rfl⟩
    replace h := h J14 e_J14
    refine zr_putI 12 13 13 rfl e_J14 (xd dX12_binder 38 rfl) f12_229 (by decide) (by decide) (lt552 hn (by decide)) kd_491 (Or.inl rfl) rfl rfl (fun _ => rfl) ?_
    refine xr_aload_n (xd dX12_binder 39 rfl) 0 rfl ?_
    refine xr_iload_n (xd dX12_binder 40 rfl) 2 rfl ?_
    refine xr_iconst (v := oI 3) (xd dX12_binder 41 rfl) (by decide) ?_
    refine xr_aload_n (xd dX12_binder 42 rfl) 0 rfl ?_
    refine xr_iload_n (xd dX12_binder 43 rfl) 2 rfl ?_
    refine xr_callV mX12_bodySize 1 [.int (oI x13)] (xd dX12_binder 44 rfl) l12_357 kX12_bodySize rfl (lt552 hn (by decide)) kd_491 (by decide) rfl (by decide) (Nat.le_of_ble_eq_true rfl) (v_X12_bodySize hn hR  h) (by decide) (by decide) (fun r_ M_ h_ => ?_) (fun _ _ h_ => h_.elim)
    obtain ⟨r17, J15, L16, rfl, rfl, h⟩ := h_
    show xJ _ _ _ _ _ _ _ _ _ 77 [(0, .ref 491), (1, .int (oI p1)), (2, .int (oI x13))] [.int (oI r17), .int (oI 3), .int (oI x13), .ref 491] _ _ _ (zi J15) (li L16)
    refine zr_iadd (xd dX12_binder 45 rfl) ?_
    refine xr_bipush (v := oI 32) (xd dX12_binder 46 rfl) (by decide) ?_
    refine zr_isub (xd dX12_binder 47 rfl) ?_
    refine xr_callV mX12_addOwn 2 [.int (oI x13), .int (oI ((3 + r17) - 32))] (xd dX12_binder 48 rfl) l12_276 kX12_addOwn rfl (lt552 hn (by decide)) kd_491 (by decide) rfl (by decide) (Nat.le_of_ble_eq_true rfl) (v_X12_addOwn hn hR  h) (by decide) (by decide) (fun r_ M_ h_ => ?_) (fun _ _ h_ => h_.elim)
    obtain ⟨J18, L19, rfl, rfl, h⟩ := h_
    show xJ _ _ _ _ _ _ _ _ _ 84 [(0, .ref 491), (1, .int (oI p1)), (2, .int (oI x13))] [] _ _ _ (zi J18) (li L19)
    refine xr_aload_n (xd dX12_binder 49 rfl) 0 rfl ?_
    refine xr_iconst (v := oI 0) (xd dX12_binder 50 rfl) (by decide) ?_
    refine xr_callV mX12_hashFrom 1 [.int (oI 0)] (xd dX12_binder 51 rfl) l12_241 kX12_hashFrom rfl (lt552 hn (by decide)) kd_491 (by decide) rfl (by decide) (Nat.le_of_ble_eq_true rfl) (v_X12_hashFrom hn hR  h) (by decide) (by decide) (fun r_ M_ h_ => ?_) (fun _ _ h_ => h_.elim)
    obtain ⟨J20, L21, rfl, rfl, h⟩ := h_
    show xJ _ _ _ _ _ _ _ _ _ 89 [(0, .ref 491), (1, .int (oI p1)), (2, .int (oI x13))] [] _ _ _ (zi J20) (li L21)
    refine xr_iconst (v := oI 0) (xd dX12_binder 52 rfl) (by decide) ?_
    refine xr_istore_n [(0, .ref 491), (1, .int (oI p1)), (2, .int (oI x13)), (3, .int (oI 0))] (xd dX12_binder 53 rfl) rfl (by decide) rfl ?_
    refine xJ.pick (ls' := [(0, .ref 491), (3, .int (oI 0))]) [0, 3] rfl ?_
    refine h (fun x23 J24 L25 => xJ (xGm b dC dI cA ts) l mX12_binder 0 0 (zQ0 n R Q) (fun _ _ => False) 0 0 91 [(0, .ref 491), (3, .int (oI x23))] [] al n R (zi J24) (li L25)) ?_
    intro x23 J24 L25 h
    show xJ _ _ _ _ _ _ _ _ _ 91 [(0, .ref 491), (3, .int (oI x23))] [] _ _ _ _ _
    refine xr_iload_n (xd dX12_binder 54 rfl) 1 rfl ?_
    refine xr_bipush (v := oI 64) (xd dX12_binder 55 rfl) (by decide) ?_
    obtain ⟨o26, h⟩ := h
    refine zr_icmp_ge 125 (xd dX12_binder 56 rfl) (by decide) o26 (by decide) (fun c27 => ?_) (fun c27 => ?_)
    · replace h := ifn h c27
      refine xr_iconst (v := oI 0) (xd dX12_binder 72 rfl) (by decide) ?_
      refine xr_istore_n [(0, .ref 491), (3, .int (oI 0))] (xd dX12_binder 73 rfl) rfl (by decide) rfl ?_
      refine h (fun x29 J30 L31 => xJ (xGm b dC dI cA ts) l mX12_binder 0 0 (zQ0 n R Q) (fun _ _ => False) 0 0 127 [(0, .ref 491), (3, .int (oI x29))] [] al n R (zi J30) (li L31)) ?_
      intro x29 J30 L31 h
      show xJ _ _ _ _ _ _ _ _ _ 127 [(0, .ref 491), (3, .int (oI x29))] [] _ _ _ _ _
      refine xr_iload_n (xd dX12_binder 74 rfl) 1 rfl ?_
      refine xr_bipush (v := oI 32) (xd dX12_binder 75 rfl) (by decide) ?_
      obtain ⟨o32, h⟩ := h
      refine zr_icmp_ge 151 (xd dX12_binder 76 rfl) (by decide) o32 (by decide) (fun c33 => ?_) (fun c33 => ?_)
      · replace h := ifn h c33
        refine xr_aload_n (xd dX12_binder 87 rfl) 0 rfl ?_
        refine xr_callV mX12_beginCode 0 [] (xd dX12_binder 88 rfl) l12_247 kX12_beginCode rfl (lt552 hn (by decide)) kd_491 (by decide) rfl (by decide) (Nat.le_of_ble_eq_true rfl) (v_X12_beginCode hn hR  h) (by decide) (by decide) (fun r_ M_ h_ => ?_) (fun _ _ h_ => h_.elim)
        obtain ⟨J34, L35, rfl, rfl, h⟩ := h_
        show xJ _ _ _ _ _ _ _ _ _ 155 [(0, .ref 491), (3, .int (oI x29))] [] _ _ _ (zi J34) (li L35)
        refine xr_iconst (v := oI 0) (xd dX12_binder 89 rfl) (by decide) ?_
        refine xr_istore_n [(0, .ref 491), (3, .int (oI 0))] (xd dX12_binder 90 rfl) rfl (by decide) rfl ?_
        refine h (fun x37 J38 L39 => xJ (xGm b dC dI cA ts) l mX12_binder 0 0 (zQ0 n R Q) (fun _ _ => False) 0 0 157 [(0, .ref 491), (3, .int (oI x37))] [] al n R (zi J38) (li L39)) ?_
        intro x37 J38 L39 h
        show xJ _ _ _ _ _ _ _ _ _ 157 [(0, .ref 491), (3, .int (oI x37))] [] _ _ _ _ _
        refine xr_iload_n (xd dX12_binder 91 rfl) 1 rfl ?_
        refine xr_bipush (v := oI 32) (xd dX12_binder 92 rfl) (by decide) ?_
        obtain ⟨o40, h⟩ := h
        refine zr_icmp_ge 179 (xd dX12_binder 93 rfl) (by decide) o40 (by decide) (fun c41 => ?_) (fun c41 => ?_)
        · replace h := ifn h c41
          refine xr_aload_n (xd dX12_binder 102 rfl) 0 rfl ?_
          refine xr_callV mX12_code 0 [] (xd dX12_binder 103 rfl) l12_254 kX12_code rfl (lt552 hn (by decide)) kd_491 (by decide) rfl (by decide) (Nat.le_of_ble_eq_true rfl) (v_X12_code hn hR  h) (by decide) (by decide) (fun r_ M_ h_ => ?_) (fun _ _ h_ => h_.elim)
          obtain ⟨J42, L43, rfl, rfl, h⟩ := h_
          show xJ _ _ _ _ _ _ _ _ _ 183 [(0, .ref 491), (3, .int (oI x37))] [] _ _ _ (zi J42) (li L43)
          exact xr_vret (xd dX12_binder 104 rfl) rfl (by decide) (by decide) (fun _ => rfl) ⟨_, _, rfl, rfl, h⟩
        · replace h := ifp h c41
          refine xr_aload_n (xd dX12_binder 94 rfl) 0 rfl ?_
          refine xr_aload_n (xd dX12_binder 95 rfl) 0 rfl ?_
          refine xr_getR (b := 508) 12 24 (xd dX12_binder 96 rfl) f12_60 (by decide) (by decide) (lt552 hn (by decide)) kd_491 rfl (r_491_24 hR) ?_
          refine xr_iload_n (xd dX12_binder 97 rfl) 1 rfl ?_
          obtain ⟨o44, h⟩ := h
          refine zr_iaload (xd dX12_binder 98 rfl) (lt552 hn (by decide)) kd_508 ln_508 (by decide) o44 ?_
          refine xr_callV mX12_add 1 [.int (oI (J38 508 x37))] (xd dX12_binder 99 rfl) l12_238 kX12_add rfl (lt552 hn (by decide)) kd_491 (by decide) rfl (by decide) (Nat.le_of_ble_eq_true rfl) (v_X12_add hn hR  h) (by decide) (by decide) (fun r_ M_ h_ => ?_) (fun _ _ h_ => h_.elim)
          obtain ⟨J45, L46, rfl, rfl, h⟩ := h_
          show xJ _ _ _ _ _ _ _ _ _ 173 [(0, .ref 491), (3, .int (oI x37))] [] _ _ _ (zi J45) (li L46)
          refine zr_iinc [(0, .ref 491), (3, .int (oI (x37 + 1)))] (xd dX12_binder 100 rfl) 1 rfl (by decide) rfl ?_
          refine xr_goto 157 (xd dX12_binder 101 rfl) (by decide) ?_
          exact h
      · replace h := ifp h c33
        refine xr_aload_n (xd dX12_binder 77 rfl) 0 rfl ?_
        refine xr_getR (b := 508) 12 24 (xd dX12_binder 78 rfl) f12_60 (by decide) (by decide) (lt552 hn (by decide)) kd_491 rfl (r_491_24 hR) ?_
        refine xr_iload_n (xd dX12_binder 79 rfl) 1 rfl ?_
        refine xr_aload_n (xd dX12_binder 80 rfl) 0 rfl ?_
        refine xr_getR (b := 500) 12 16 (xd dX12_binder 81 rfl) f12_34 (by decide) (by decide) (lt552 hn (by decide)) kd_491 rfl (r_491_16 hR) ?_
        refine xr_iload_n (xd dX12_binder 82 rfl) 1 rfl ?_
        obtain ⟨o47, h⟩ := h
        refine zr_iaload (xd dX12_binder 83 rfl) (lt552 hn (by decide)) kd_500 ln_500 (by decide) o47 ?_
        obtain ⟨o48, h⟩ := h
        obtain ⟨J49, e_J49⟩ : ∃ z_ : zM, z_ = zs J30 508 x29 (J30 500 x29) := ⟨_, rfl⟩
        replace h := h J49 e_J49
        refine zr_iastore e_J49 (xd dX12_binder 84 rfl) (lt552 hn (by decide)) kd_508 ln_508 (by decide) o48 ?_
        refine zr_iinc [(0, .ref 491), (3, .int (oI (x29 + 1)))] (xd dX12_binder 85 rfl) 1 rfl (by decide) rfl ?_
        refine xr_goto 127 (xd dX12_binder 86 rfl) (by decide) ?_
        exact h
    · replace h := ifp h c27
      refine xr_aload_n (xd dX12_binder 57 rfl) 0 rfl ?_
      refine xr_getR (b := 501) 12 17 (xd dX12_binder 58 rfl) f12_37 (by decide) (by decide) (lt552 hn (by decide)) kd_491 rfl (r_491_17 hR) ?_
      refine xr_iload_n (xd dX12_binder 59 rfl) 1 rfl ?_
      refine xr_iload_n (xd dX12_binder 60 rfl) 1 rfl ?_
      refine xr_bipush (v := oI 32) (xd dX12_binder 61 rfl) (by decide) ?_
      replace h := h (fun (x50 : Int) (J51 : zM) (L52 : yM) => xJ (xGm b dC dI cA ts) l mX12_binder 0 0 (zQ0 n R Q) (fun _ _ => False) 0 0 118 [(0, .ref 491), (3, .int (oI x23))] [.int (oI x50), .int (oI x23), .ref 501] al n R (zi J51) (li L52)) (by
        intro x50 J51 L52 h
        show xJ _ _ _ _ _ _ _ _ _ 118 [(0, .ref 491), (3, .int (oI x23))] [.int (oI x50), .int (oI x23), .ref 501] _ _ _ _ _
        obtain ⟨o54, h⟩ := h
        obtain ⟨J55, e_J55⟩ : ∃ z_ : zM, z_ = zs J51 501 x23 x50 := ⟨_, rfl⟩
        replace h := h J55 e_J55
        refine zr_iastore e_J55 (xd dX12_binder 69 rfl) (lt552 hn (by decide)) kd_501 ln_501 (by decide) o54 ?_
        refine zr_iinc [(0, .ref 491), (3, .int (oI (x23 + 1)))] (xd dX12_binder 70 rfl) 1 rfl (by decide) rfl ?_
        refine xr_goto 91 (xd dX12_binder 71 rfl) (by decide) ?_
        exact h)
      refine zr_icmp_ge 117 (xd dX12_binder 62 rfl) (by decide) o26 (by decide) (fun c56 => ?_) (fun c56 => ?_)
      · replace h := ifn h c56
        refine xr_iconst (v := oI 0) (xd dX12_binder 68 rfl) (by decide) ?_
        exact h
      · replace h := ifp h c56
        refine xr_aload_n (xd dX12_binder 63 rfl) 0 rfl ?_
        refine xr_getR (b := 508) 12 24 (xd dX12_binder 64 rfl) f12_60 (by decide) (by decide) (lt552 hn (by decide)) kd_491 rfl (r_491_24 hR) ?_
        refine xr_iload_n (xd dX12_binder 65 rfl) 1 rfl ?_
        obtain ⟨o57, h⟩ := h
        refine zr_iaload (xd dX12_binder 66 rfl) (lt552 hn (by decide)) kd_508 ln_508 (by decide) o57 ?_
        refine xr_goto 118 (xd dX12_binder 67 rfl) (by decide) ?_
        exact h
  · replace h := ifp h c12
    refine xr_aload_n (xd dX12_binder 20 rfl) 0 rfl ?_
    refine xr_getR (b := 508) 12 24 (xd dX12_binder 21 rfl) f12_60 (by decide) (by decide) (lt552 hn (by decide)) kd_491 rfl (r_491_24 hR) ?_
    refine xr_iload_n (xd dX12_binder 22 rfl) 2 rfl ?_
    refine xr_aload_n (xd dX12_binder 23 rfl) 0 rfl ?_
    refine xr_getR (b := 500) 12 16 (xd dX12_binder 24 rfl) f12_34 (by decide) (by decide) (lt552 hn (by decide)) kd_491 rfl (r_491_16 hR) ?_
    refine xr_iload_n (xd dX12_binder 25 rfl) 2 rfl ?_
    obtain ⟨o58, h⟩ := h
    refine zr_iaload (xd dX12_binder 26 rfl) (lt552 hn (by decide)) kd_500 ln_500 (by decide) o58 ?_
    obtain ⟨o59, h⟩ := h
    obtain ⟨J60, e_J60⟩ : ∃ z_ : zM, z_ = zs J9 508 x8 (J9 500 x8) := ⟨_, rfl⟩
    replace h := h J60 e_J60
    refine zr_iastore e_J60 (xd dX12_binder 27 rfl) (lt552 hn (by decide)) kd_508 ln_508 (by decide) o59 ?_
    refine zr_iinc [(0, .ref 491), (1, .int (oI p1)), (2, .int (oI (x8 + 1)))] (xd dX12_binder 28 rfl) 2 rfl (by decide) rfl ?_
    refine xr_goto 30 (xd dX12_binder 29 rfl) (by decide) ?_
    exact h
def w_X12_hello (p1 : Int) (J : zM) (L : yM) (Q : zM → yM → Prop) : Prop := w_X12_putMessage 512 1 (61 + p1) J L (fun J1 L2 => zl_z (fun K3 x4 J5 L6 => R32 x4 ∧ (if x4 < 16 then ((0 : Int) ≤ (890 + x4) ∧ (890 + x4) < 2048) ∧ ((0 : Int) ≤ ((512 + 3) + x4) ∧ ((512 + 3) + x4) < 2048) ∧ ∀ J44 : zM, J44 = zs J5 492 ((512 + 3) + x4) (J5 492 (890 + x4)) → K3 (x4 + 1) J44 L6 else ((0 : Int) ≤ (512 + 19) ∧ ((512 + 19) : Int) < 2048) ∧ ∀ J10 : zM, J10 = zs J5 492 (512 + 19) p1 → zl_z (fun K11 x12 J13 L14 => R32 x12 ∧ R32 p1 ∧ (if x12 < p1 then ((0 : Int) ≤ (870 + x12) ∧ (870 + x12) < 2048) ∧ ((0 : Int) ≤ ((512 + 20) + x12) ∧ ((512 + 20) + x12) < 2048) ∧ ∀ J41 : zM, J41 = zs J13 492 ((512 + 20) + x12) (J13 492 (870 + x12)) → K11 (x12 + 1) J41 L14 else w_X12_numberTo ((512 + 20) + p1) 4 (L14 505 0) J13 L14 (fun J18 L19 => zl_z (fun K20 x21 J22 L23 => R32 x21 ∧ (if x21 < 8 then ((0 : Int) ≤ (16 + x21) ∧ (16 + x21) < 2048) ∧ ((0 : Int) ≤ (((512 + 24) + p1) + x21) ∧ (((512 + 24) + p1) + x21) < 2048) ∧ ∀ J38 : zM, J38 = zs J22 492 (((512 + 24) + p1) + x21) (J22 492 (16 + x21)) → K20 (x21 + 1) J38 L23 else w_X12_binder 0 J22 L23 (fun J26 L27 => w_X12_store ((512 + 32) + p1) 32 J26 L27 (fun J28 L29 => w_X12_clearFlight 0 J28 L29 (fun J30 L31 => w_X12_addFlight 0 512 0 (J30 491 58) J30 L31 (fun J32 L33 => w_X12_fly 0 J32 L33 (fun J34 L35 => Q J34 L35))))))) 0 J18 L19))) 0 J10 L6)) 0 J1 L2)
set_option maxHeartbeats 4000000 in
set_option maxRecDepth 100000 in
theorem v_X12_hello {b : Nat} {dC : Nat → ClassId} {dI : Nat → Nat → Nat} {cA : Nat → ClassId} {ts : Nat → Nat} {l : Launch} {n : Nat} {R : Nat → Nat → Option Nat} {al : Bool} (hn : 552 ≤ n) (hR : xRk R) {p1 : Int}  {J : zM} {L : yM} {Q : zM → yM → Prop} (h : w_X12_hello p1 J L Q) : xCn (xGm b dC dI cA ts) l mX12_hello [.ref 491, .int (oI p1)] al (n, R, zi J, li L) 0 0 (zQ0 n R Q) (fun _ _ => False) := by
  refine xCn.ofJ (by decide) (Nat.le_of_ble_eq_true rfl) ?_
  show xJ _ _ _ _ _ _ _ _ _ 0 [(0, .ref 491), (1, .int (oI p1))] [] _ _ _ _ _
  unfold w_X12_hello at h
  refine xr_sipush (v := oI 512) (xd dX12_hello 0 rfl) (by decide) ?_
  refine xr_istore_n [(0, .ref 491), (1, .int (oI p1)), (2, .int (oI 512))] (xd dX12_hello 1 rfl) rfl (by decide) rfl ?_
  refine xr_aload_n (xd dX12_hello 2 rfl) 0 rfl ?_
  refine xr_iload_n (xd dX12_hello 3 rfl) 2 rfl ?_
  refine xr_iconst (v := oI 1) (xd dX12_hello 4 rfl) (by decide) ?_
  refine xr_bipush (v := oI 61) (xd dX12_hello 5 rfl) (by decide) ?_
  refine xr_iload_n (xd dX12_hello 6 rfl) 1 rfl ?_
  refine zr_iadd (xd dX12_hello 7 rfl) ?_
  refine xr_callV mX12_putMessage 3 [.int (oI 512), .int (oI 1), .int (oI (61 + p1))] (xd dX12_hello 8 rfl) l12_407 kX12_putMessage rfl (lt552 hn (by decide)) kd_491 (by decide) rfl (by decide) (Nat.le_of_ble_eq_true rfl) (v_X12_putMessage hn hR  h) (by decide) (by decide) (fun r_ M_ h_ => ?_) (fun _ _ h_ => h_.elim)
  obtain ⟨J1, L2, rfl, rfl, h⟩ := h_
  show xJ _ _ _ _ _ _ _ _ _ 14 [(0, .ref 491), (1, .int (oI p1)), (2, .int (oI 512))] [] _ _ _ (zi J1) (li L2)
  refine xr_iconst (v := oI 0) (xd dX12_hello 9 rfl) (by decide) ?_
  refine xr_istore_n [(0, .ref 491), (1, .int (oI p1)), (2, .int (oI 512)), (3, .int (oI 0))] (xd dX12_hello 10 rfl) rfl (by decide) rfl ?_
  refine h (fun x4 J5 L6 => xJ (xGm b dC dI cA ts) l mX12_hello 0 0 (zQ0 n R Q) (fun _ _ => False) 0 0 16 [(0, .ref 491), (1, .int (oI p1)), (2, .int (oI 512)), (3, .int (oI x4))] [] al n R (zi J5) (li L6)) ?_
  intro x4 J5 L6 h
  show xJ _ _ _ _ _ _ _ _ _ 16 [(0, .ref 491), (1, .int (oI p1)), (2, .int (oI 512)), (3, .int (oI x4))] [] _ _ _ _ _
  refine xr_iload_n (xd dX12_hello 11 rfl) 3 rfl ?_
  refine xr_bipush (v := oI 16) (xd dX12_hello 12 rfl) (by decide) ?_
  obtain ⟨o7, h⟩ := h
  refine zr_icmp_ge 48 (xd dX12_hello 13 rfl) (by decide) o7 (by decide) (fun c8 => ?_) (fun c8 => ?_)
  · replace h := ifn h c8
    refine xr_aload_n (xd dX12_hello 30 rfl) 0 rfl ?_
    refine xr_getR (b := 492) 12 5 (xd dX12_hello 31 rfl) f12_7 (by decide) (by decide) (lt552 hn (by decide)) kd_491 rfl (r_491_5 hR) ?_
    refine xr_iload_n (xd dX12_hello 32 rfl) 2 rfl ?_
    refine xr_bipush (v := oI 19) (xd dX12_hello 33 rfl) (by decide) ?_
    refine zr_iadd (xd dX12_hello 34 rfl) ?_
    refine xr_iload_n (xd dX12_hello 35 rfl) 1 rfl ?_
    obtain ⟨o9, h⟩ := h
    obtain ⟨J10, e_J10⟩ : ∃ z_ : zM, z_ = zs J5 492 (512 + 19) p1 := ⟨_, rfl⟩
    replace h := h J10 e_J10
    refine zr_iastore e_J10 (xd dX12_hello 36 rfl) (lt552 hn (by decide)) kd_492 ln_492 (by decide) o9 ?_
    refine xr_iconst (v := oI 0) (xd dX12_hello 37 rfl) (by decide) ?_
    refine xr_istore_n [(0, .ref 491), (1, .int (oI p1)), (2, .int (oI 512)), (3, .int (oI 0))] (xd dX12_hello 38 rfl) rfl (by decide) rfl ?_
    refine h (fun x12 J13 L14 => xJ (xGm b dC dI cA ts) l mX12_hello 0 0 (zQ0 n R Q) (fun _ _ => False) 0 0 60 [(0, .ref 491), (1, .int (oI p1)), (2, .int (oI 512)), (3, .int (oI x12))] [] al n R (zi J13) (li L14)) ?_
    intro x12 J13 L14 h
    show xJ _ _ _ _ _ _ _ _ _ 60 [(0, .ref 491), (1, .int (oI p1)), (2, .int (oI 512)), (3, .int (oI x12))] [] _ _ _ _ _
    refine xr_iload_n (xd dX12_hello 39 rfl) 3 rfl ?_
    refine xr_iload_n (xd dX12_hello 40 rfl) 1 rfl ?_
    obtain ⟨o15, h⟩ := h
    obtain ⟨o16, h⟩ := h
    refine zr_icmp_ge 92 (xd dX12_hello 41 rfl) (by decide) o15 o16 (fun c17 => ?_) (fun c17 => ?_)
    · replace h := ifn h c17
      refine xr_aload_n (xd dX12_hello 58 rfl) 0 rfl ?_
      refine xr_iload_n (xd dX12_hello 59 rfl) 2 rfl ?_
      refine xr_bipush (v := oI 20) (xd dX12_hello 60 rfl) (by decide) ?_
      refine zr_iadd (xd dX12_hello 61 rfl) ?_
      refine xr_iload_n (xd dX12_hello 62 rfl) 1 rfl ?_
      refine zr_iadd (xd dX12_hello 63 rfl) ?_
      refine xr_iconst (v := oI 4) (xd dX12_hello 64 rfl) (by decide) ?_
      refine xr_aload_n (xd dX12_hello 65 rfl) 0 rfl ?_
      refine xr_getR (b := 505) 12 21 (xd dX12_hello 66 rfl) f12_50 (by decide) (by decide) (lt552 hn (by decide)) kd_491 rfl (r_491_21 hR) ?_
      refine xr_iconst (v := oI 0) (xd dX12_hello 67 rfl) (by decide) ?_
      refine zr_laload (xd dX12_hello 68 rfl) (lt552 hn (by decide)) kd_505 ln_505 (by decide) ⟨by decide, by decide⟩ ?_
      refine xr_callV mX12_numberTo 3 [.int (oI ((512 + 20) + p1)), .int (oI 4), .long (L14 505 0)] (xd dX12_hello 69 rfl) l12_411 kX12_numberTo rfl (lt552 hn (by decide)) kd_491 (by decide) rfl (by decide) (Nat.le_of_ble_eq_true rfl) (v_X12_numberTo hn hR  h) (by decide) (by decide) (fun r_ M_ h_ => ?_) (fun _ _ h_ => h_.elim)
      obtain ⟨J18, L19, rfl, rfl, h⟩ := h_
      show xJ _ _ _ _ _ _ _ _ _ 109 [(0, .ref 491), (1, .int (oI p1)), (2, .int (oI 512)), (3, .int (oI x12))] [] _ _ _ (zi J18) (li L19)
      refine xr_iconst (v := oI 0) (xd dX12_hello 70 rfl) (by decide) ?_
      refine xr_istore_n [(0, .ref 491), (1, .int (oI p1)), (2, .int (oI 512)), (3, .int (oI 0))] (xd dX12_hello 71 rfl) rfl (by decide) rfl ?_
      refine h (fun x21 J22 L23 => xJ (xGm b dC dI cA ts) l mX12_hello 0 0 (zQ0 n R Q) (fun _ _ => False) 0 0 111 [(0, .ref 491), (1, .int (oI p1)), (2, .int (oI 512)), (3, .int (oI x21))] [] al n R (zi J22) (li L23)) ?_
      intro x21 J22 L23 h
      show xJ _ _ _ _ _ _ _ _ _ 111 [(0, .ref 491), (1, .int (oI p1)), (2, .int (oI 512)), (3, .int (oI x21))] [] _ _ _ _ _
      refine xr_iload_n (xd dX12_hello 72 rfl) 3 rfl ?_
      refine xr_bipush (v := oI 8) (xd dX12_hello 73 rfl) (by decide) ?_
      obtain ⟨o24, h⟩ := h
      refine zr_icmp_ge 145 (xd dX12_hello 74 rfl) (by decide) o24 (by decide) (fun c25 => ?_) (fun c25 => ?_)
      · replace h := ifn h c25
        refine xr_aload_n (xd dX12_hello 93 rfl) 0 rfl ?_
        refine xr_iconst (v := oI 0) (xd dX12_hello 94 rfl) (by decide) ?_
        refine xr_callV mX12_binder 1 [.int (oI 0)] (xd dX12_hello 95 rfl) l12_415 kX12_binder rfl (lt552 hn (by decide)) kd_491 (by decide) rfl (by decide) (Nat.le_of_ble_eq_true rfl) (v_X12_binder hn hR  h) (by decide) (by decide) (fun r_ M_ h_ => ?_) (fun _ _ h_ => h_.elim)
        obtain ⟨J26, L27, rfl, rfl, h⟩ := h_
        show xJ _ _ _ _ _ _ _ _ _ 150 [(0, .ref 491), (1, .int (oI p1)), (2, .int (oI 512)), (3, .int (oI x21))] [] _ _ _ (zi J26) (li L27)
        refine xr_aload_n (xd dX12_hello 96 rfl) 0 rfl ?_
        refine xr_iload_n (xd dX12_hello 97 rfl) 2 rfl ?_
        refine xr_bipush (v := oI 32) (xd dX12_hello 98 rfl) (by decide) ?_
        refine zr_iadd (xd dX12_hello 99 rfl) ?_
        refine xr_iload_n (xd dX12_hello 100 rfl) 1 rfl ?_
        refine zr_iadd (xd dX12_hello 101 rfl) ?_
        refine xr_bipush (v := oI 32) (xd dX12_hello 102 rfl) (by decide) ?_
        refine xr_callV mX12_store 2 [.int (oI ((512 + 32) + p1)), .int (oI 32)] (xd dX12_hello 103 rfl) l12_279 kX12_store rfl (lt552 hn (by decide)) kd_491 (by decide) rfl (by decide) (Nat.le_of_ble_eq_true rfl) (v_X12_store hn hR  h) (by decide) (by decide) (fun r_ M_ h_ => ?_) (fun _ _ h_ => h_.elim)
        obtain ⟨J28, L29, rfl, rfl, h⟩ := h_
        show xJ _ _ _ _ _ _ _ _ _ 162 [(0, .ref 491), (1, .int (oI p1)), (2, .int (oI 512)), (3, .int (oI x21))] [] _ _ _ (zi J28) (li L29)
        refine xr_aload_n (xd dX12_hello 104 rfl) 0 rfl ?_
        refine xr_iconst (v := oI 0) (xd dX12_hello 105 rfl) (by decide) ?_
        refine xr_callV mX12_clearFlight 1 [.int (oI 0)] (xd dX12_hello 106 rfl) l12_399 kX12_clearFlight rfl (lt552 hn (by decide)) kd_491 (by decide) rfl (by decide) (Nat.le_of_ble_eq_true rfl) (v_X12_clearFlight hn hR  h) (by decide) (by decide) (fun r_ M_ h_ => ?_) (fun _ _ h_ => h_.elim)
        obtain ⟨J30, L31, rfl, rfl, h⟩ := h_
        show xJ _ _ _ _ _ _ _ _ _ 167 [(0, .ref 491), (1, .int (oI p1)), (2, .int (oI 512)), (3, .int (oI x21))] [] _ _ _ (zi J30) (li L31)
        refine xr_aload_n (xd dX12_hello 107 rfl) 0 rfl ?_
        refine xr_iconst (v := oI 0) (xd dX12_hello 108 rfl) (by decide) ?_
        refine xr_iload_n (xd dX12_hello 109 rfl) 2 rfl ?_
        refine xr_iconst (v := oI 0) (xd dX12_hello 110 rfl) (by decide) ?_
        refine xr_aload_n (xd dX12_hello 111 rfl) 0 rfl ?_
        refine zr_getI 12 58 58 rfl (xd dX12_hello 112 rfl) f12_396 (by decide) (by decide) (lt552 hn (by decide)) kd_491 rfl ?_
        refine xr_callV mX12_addFlight 4 [.int (oI 0), .int (oI 512), .int (oI 0), .int (oI (J30 491 58))] (xd dX12_hello 113 rfl) l12_418 kX12_addFlight rfl (lt552 hn (by decide)) kd_491 (by decide) rfl (by decide) (Nat.le_of_ble_eq_true rfl) (v_X12_addFlight hn hR  h) (by decide) (by decide) (fun r_ M_ h_ => ?_) (fun _ _ h_ => h_.elim)
        obtain ⟨J32, L33, rfl, rfl, h⟩ := h_
        show xJ _ _ _ _ _ _ _ _ _ 178 [(0, .ref 491), (1, .int (oI p1)), (2, .int (oI 512)), (3, .int (oI x21))] [] _ _ _ (zi J32) (li L33)
        refine xr_aload_n (xd dX12_hello 114 rfl) 0 rfl ?_
        refine xr_iconst (v := oI 0) (xd dX12_hello 115 rfl) (by decide) ?_
        refine xr_callV mX12_fly 1 [.int (oI 0)] (xd dX12_hello 116 rfl) l12_421 kX12_fly rfl (lt552 hn (by decide)) kd_491 (by decide) rfl (by decide) (Nat.le_of_ble_eq_true rfl) (v_X12_fly hn hR  h) (by decide) (by decide) (fun r_ M_ h_ => ?_) (fun _ _ h_ => h_.elim)
        obtain ⟨J34, L35, rfl, rfl, h⟩ := h_
        show xJ _ _ _ _ _ _ _ _ _ 183 [(0, .ref 491), (1, .int (oI p1)), (2, .int (oI 512)), (3, .int (oI x21))] [] _ _ _ (zi J34) (li L35)
        exact xr_vret (xd dX12_hello 117 rfl) rfl (by decide) (by decide) (fun _ => rfl) ⟨_, _, rfl, rfl, h⟩
      · replace h := ifp h c25
        refine xr_aload_n (xd dX12_hello 75 rfl) 0 rfl ?_
        refine xr_getR (b := 492) 12 5 (xd dX12_hello 76 rfl) f12_7 (by decide) (by decide) (lt552 hn (by decide)) kd_491 rfl (r_491_5 hR) ?_
        refine xr_iload_n (xd dX12_hello 77 rfl) 2 rfl ?_
        refine xr_bipush (v := oI 24) (xd dX12_hello 78 rfl) (by decide) ?_
        refine zr_iadd (xd dX12_hello 79 rfl) ?_
        refine xr_iload_n (xd dX12_hello 80 rfl) 1 rfl ?_
        refine zr_iadd (xd dX12_hello 81 rfl) ?_
        refine xr_iload_n (xd dX12_hello 82 rfl) 3 rfl ?_
        refine zr_iadd (xd dX12_hello 83 rfl) ?_
        refine xr_aload_n (xd dX12_hello 84 rfl) 0 rfl ?_
        refine xr_getR (b := 492) 12 5 (xd dX12_hello 85 rfl) f12_7 (by decide) (by decide) (lt552 hn (by decide)) kd_491 rfl (r_491_5 hR) ?_
        refine xr_bipush (v := oI 16) (xd dX12_hello 86 rfl) (by decide) ?_
        refine xr_iload_n (xd dX12_hello 87 rfl) 3 rfl ?_
        refine zr_iadd (xd dX12_hello 88 rfl) ?_
        obtain ⟨o36, h⟩ := h
        refine zr_iaload (xd dX12_hello 89 rfl) (lt552 hn (by decide)) kd_492 ln_492 (by decide) o36 ?_
        obtain ⟨o37, h⟩ := h
        obtain ⟨J38, e_J38⟩ : ∃ z_ : zM, z_ = zs J22 492 (((512 + 24) + p1) + x21) (J22 492 (16 + x21)) := ⟨_, rfl⟩
        replace h := h J38 e_J38
        refine zr_iastore e_J38 (xd dX12_hello 90 rfl) (lt552 hn (by decide)) kd_492 ln_492 (by decide) o37 ?_
        refine zr_iinc [(0, .ref 491), (1, .int (oI p1)), (2, .int (oI 512)), (3, .int (oI (x21 + 1)))] (xd dX12_hello 91 rfl) 3 rfl (by decide) rfl ?_
        refine xr_goto 111 (xd dX12_hello 92 rfl) (by decide) ?_
        exact h
    · replace h := ifp h c17
      refine xr_aload_n (xd dX12_hello 42 rfl) 0 rfl ?_
      refine xr_getR (b := 492) 12 5 (xd dX12_hello 43 rfl) f12_7 (by decide) (by decide) (lt552 hn (by decide)) kd_491 rfl (r_491_5 hR) ?_
      refine xr_iload_n (xd dX12_hello 44 rfl) 2 rfl ?_
      refine xr_bipush (v := oI 20) (xd dX12_hello 45 rfl) (by decide) ?_
      refine zr_iadd (xd dX12_hello 46 rfl) ?_
      refine xr_iload_n (xd dX12_hello 47 rfl) 3 rfl ?_
      refine zr_iadd (xd dX12_hello 48 rfl) ?_
      refine xr_aload_n (xd dX12_hello 49 rfl) 0 rfl ?_
      refine xr_getR (b := 492) 12 5 (xd dX12_hello 50 rfl) f12_7 (by decide) (by decide) (lt552 hn (by decide)) kd_491 rfl (r_491_5 hR) ?_
      refine xr_sipush (v := oI 870) (xd dX12_hello 51 rfl) (by decide) ?_
      refine xr_iload_n (xd dX12_hello 52 rfl) 3 rfl ?_
      refine zr_iadd (xd dX12_hello 53 rfl) ?_
      obtain ⟨o39, h⟩ := h
      refine zr_iaload (xd dX12_hello 54 rfl) (lt552 hn (by decide)) kd_492 ln_492 (by decide) o39 ?_
      obtain ⟨o40, h⟩ := h
      obtain ⟨J41, e_J41⟩ : ∃ z_ : zM, z_ = zs J13 492 ((512 + 20) + x12) (J13 492 (870 + x12)) := ⟨_, rfl⟩
      replace h := h J41 e_J41
      refine zr_iastore e_J41 (xd dX12_hello 55 rfl) (lt552 hn (by decide)) kd_492 ln_492 (by decide) o40 ?_
      refine zr_iinc [(0, .ref 491), (1, .int (oI p1)), (2, .int (oI 512)), (3, .int (oI (x12 + 1)))] (xd dX12_hello 56 rfl) 3 rfl (by decide) rfl ?_
      refine xr_goto 60 (xd dX12_hello 57 rfl) (by decide) ?_
      exact h
  · replace h := ifp h c8
    refine xr_aload_n (xd dX12_hello 14 rfl) 0 rfl ?_
    refine xr_getR (b := 492) 12 5 (xd dX12_hello 15 rfl) f12_7 (by decide) (by decide) (lt552 hn (by decide)) kd_491 rfl (r_491_5 hR) ?_
    refine xr_iload_n (xd dX12_hello 16 rfl) 2 rfl ?_
    refine xr_iconst (v := oI 3) (xd dX12_hello 17 rfl) (by decide) ?_
    refine zr_iadd (xd dX12_hello 18 rfl) ?_
    refine xr_iload_n (xd dX12_hello 19 rfl) 3 rfl ?_
    refine zr_iadd (xd dX12_hello 20 rfl) ?_
    refine xr_aload_n (xd dX12_hello 21 rfl) 0 rfl ?_
    refine xr_getR (b := 492) 12 5 (xd dX12_hello 22 rfl) f12_7 (by decide) (by decide) (lt552 hn (by decide)) kd_491 rfl (r_491_5 hR) ?_
    refine xr_sipush (v := oI 890) (xd dX12_hello 23 rfl) (by decide) ?_
    refine xr_iload_n (xd dX12_hello 24 rfl) 3 rfl ?_
    refine zr_iadd (xd dX12_hello 25 rfl) ?_
    obtain ⟨o42, h⟩ := h
    refine zr_iaload (xd dX12_hello 26 rfl) (lt552 hn (by decide)) kd_492 ln_492 (by decide) o42 ?_
    obtain ⟨o43, h⟩ := h
    obtain ⟨J44, e_J44⟩ : ∃ z_ : zM, z_ = zs J5 492 ((512 + 3) + x4) (J5 492 (890 + x4)) := ⟨_, rfl⟩
    replace h := h J44 e_J44
    refine zr_iastore e_J44 (xd dX12_hello 27 rfl) (lt552 hn (by decide)) kd_492 ln_492 (by decide) o43 ?_
    refine zr_iinc [(0, .ref 491), (1, .int (oI p1)), (2, .int (oI 512)), (3, .int (oI (x4 + 1)))] (xd dX12_hello 28 rfl) 3 rfl (by decide) rfl ?_
    refine xr_goto 16 (xd dX12_hello 29 rfl) (by decide) ?_
    exact h
def w_X12_hasBegun  (J : zM) (L : yM) (Q : Int → zM → yM → Prop) : Prop := R32 (J 491 4) ∧ (if (J 491 4) = 0 then R32 (J 534 0) ∧ (if (J 534 0) = 4 then Q 1 J L else Q 0 J L) else Q 1 J L)
set_option maxHeartbeats 4000000 in
set_option maxRecDepth 100000 in
theorem v_X12_hasBegun {b : Nat} {dC : Nat → ClassId} {dI : Nat → Nat → Nat} {cA : Nat → ClassId} {ts : Nat → Nat} {l : Launch} {n : Nat} {R : Nat → Nat → Option Nat} {al : Bool} (hn : 552 ≤ n) (hR : xRk R)   {J : zM} {L : yM} {Q : Int → zM → yM → Prop} (h : w_X12_hasBegun  J L Q) : xCn (xGm b dC dI cA ts) l mX12_hasBegun [.ref 491] al (n, R, zi J, li L) 0 0 (zQ1 n R Q) (fun _ _ => False) := by
  refine xCn.ofJ (by decide) (Nat.le_of_ble_eq_true rfl) ?_
  show xJ _ _ _ _ _ _ _ _ _ 0 [(0, .ref 491)] [] _ _ _ _ _
  unfold w_X12_hasBegun at h
  refine xr_aload_n (xd dX12_hasBegun 0 rfl) 0 rfl ?_
  refine zr_getI 12 4 4 rfl (xd dX12_hasBegun 1 rfl) f12_386 (by decide) (by decide) (lt552 hn (by decide)) kd_491 rfl ?_
  obtain ⟨o1, h⟩ := h
  refine zr_if_ne 17 (xd dX12_hasBegun 2 rfl) (by decide) o1 (fun c2 => ?_) (fun c2 => ?_)
  · replace h := ifn h c2
    refine xr_iconst (v := oI 1) (xd dX12_hasBegun 9 rfl) (by decide) ?_
    refine xr_goto 22 (xd dX12_hasBegun 10 rfl) (by decide) ?_
    exact xr_zret (xd dX12_hasBegun 12 rfl) rfl (zret_b (Or.inr rfl)) (by decide) (by decide) (fun _ => rfl) ⟨_, _, _, rfl, rfl, h⟩
  · replace h := ifp h c2
    refine xr_aload_n (xd dX12_hasBegun 3 rfl) 0 rfl ?_
    refine xr_getR (b := 534) 12 52 (xd dX12_hasBegun 4 rfl) f12_139 (by decide) (by decide) (lt552 hn (by decide)) kd_491 rfl (r_491_52 hR) ?_
    refine xr_iconst (v := oI 0) (xd dX12_hasBegun 5 rfl) (by decide) ?_
    refine zr_iaload (xd dX12_hasBegun 6 rfl) (lt552 hn (by decide)) kd_534 ln_534 (by decide) ⟨by decide, by decide⟩ ?_
    refine xr_iconst (v := oI 4) (xd dX12_hasBegun 7 rfl) (by decide) ?_
    obtain ⟨o3, h⟩ := h
    refine zr_icmp_ne 21 (xd dX12_hasBegun 8 rfl) (by decide) o3 (by decide) (fun c4 => ?_) (fun c4 => ?_)
    · replace h := ifn h c4
      refine xr_iconst (v := oI 0) (xd dX12_hasBegun 11 rfl) (by decide) ?_
      exact xr_zret (xd dX12_hasBegun 12 rfl) rfl (zret_b (Or.inl rfl)) (by decide) (by decide) (fun _ => rfl) ⟨_, _, _, rfl, rfl, h⟩
    · replace h := ifp h c4
      refine xr_iconst (v := oI 1) (xd dX12_hasBegun 9 rfl) (by decide) ?_
      refine xr_goto 22 (xd dX12_hasBegun 10 rfl) (by decide) ?_
      exact xr_zret (xd dX12_hasBegun 12 rfl) rfl (zret_b (Or.inr rfl)) (by decide) (by decide) (fun _ => rfl) ⟨_, _, _, rfl, rfl, h⟩
def w_X12_begin  (J : zM) (L : yM) (Q : Int → zM → yM → Prop) : Prop := w_X12_hasBegun J L (fun r3 J1 L2 => ∀ K7 : Int → zM → yM → Prop, (∀ (x4 : Int) (J5 : zM) (L6 : yM), (∀ J8 : zM, J8 = zs J5 491 0 x4 → R32 (J8 491 0) ∧ (if 0 < (J8 491 0) then Q 0 J8 L6 else ∀ J11 : zM, J11 = zs J8 491 4 1 → ∀ J12 : zM, J12 = zs J11 534 0 1 → w_X12_chance 0 J12 L6 (fun J13 L14 => w_X12_store 890 16 J13 L14 (fun J15 L16 => ∀ K19 : zM → yM → Prop, (∀ (J17 : zM) (L18 : yM), (∀ x20 : Int, x20 = (J17 512 0) → w_X12_hello 0 J17 L18 (fun J21 L22 => Q ((J21 512 0) - x20) J21 L22)) → K19 J17 L18) → (if (zand (J15 491 1) 2) = 2 then w_X12_takeShare 0 J15 L16 (fun J24 L25 => K19 J24 L25) else K19 J15 L16))))) → K7 x4 J5 L6) → R32 r3 ∧ (if r3 = 0 then K7 0 J1 L2 else K7 1 J1 L2))
set_option maxHeartbeats 4000000 in
set_option maxRecDepth 100000 in
theorem v_X12_begin {b : Nat} {dC : Nat → ClassId} {dI : Nat → Nat → Nat} {cA : Nat → ClassId} {ts : Nat → Nat} {l : Launch} {n : Nat} {R : Nat → Nat → Option Nat} {al : Bool} (hn : 552 ≤ n) (hR : xRk R)   {J : zM} {L : yM} {Q : Int → zM → yM → Prop} (h : w_X12_begin  J L Q) : xCn (xGm b dC dI cA ts) l mX12_begin [.ref 491] al (n, R, zi J, li L) 0 0 (zQ1 n R Q) (fun _ _ => False) := by
  refine xCn.ofJ (by decide) (Nat.le_of_ble_eq_true rfl) ?_
  show xJ _ _ _ _ _ _ _ _ _ 0 [(0, .ref 491)] [] _ _ _ _ _
  unfold w_X12_begin at h
  refine xr_aload_n (xd dX12_begin 0 rfl) 0 rfl ?_
  refine xr_aload_n (xd dX12_begin 1 rfl) 0 rfl ?_
  refine xr_callV mX12_hasBegun 0 [] (xd dX12_begin 2 rfl) l12_424 kX12_hasBegun rfl (lt552 hn (by decide)) kd_491 (by decide) rfl (by decide) (Nat.le_of_ble_eq_true rfl) (v_X12_hasBegun hn hR  h) (by decide) (by decide) (fun r_ M_ h_ => ?_) (fun _ _ h_ => h_.elim)
  obtain ⟨r3, J1, L2, rfl, rfl, h⟩ := h_
  show xJ _ _ _ _ _ _ _ _ _ 5 [(0, .ref 491)] [.int (oI r3), .ref 491] _ _ _ (zi J1) (li L2)
  replace h := h (fun (x4 : Int) (J5 : zM) (L6 : yM) => xJ (xGm b dC dI cA ts) l mX12_begin 0 0 (zQ1 n R Q) (fun _ _ => False) 0 0 13 [(0, .ref 491)] [.int (oI x4), .ref 491] al n R (zi J5) (li L6)) (by
    intro x4 J5 L6 h
    show xJ _ _ _ _ _ _ _ _ _ 13 [(0, .ref 491)] [.int (oI x4), .ref 491] _ _ _ _ _
    obtain ⟨J8, e_J8⟩ : ∃ z_ : zM, z_ = zs J5 491 0 x4 := ⟨_, rfl⟩
    replace h := h J8 e_J8
    refine zr_putI 12 0 0 rfl e_J8 (xd dX12_begin 7 rfl) f12_200 (by decide) (by decide) (lt552 hn (by decide)) kd_491 (Or.inl rfl) rfl rfl (fun _ => rfl) ?_
    refine xr_aload_n (xd dX12_begin 8 rfl) 0 rfl ?_
    refine zr_getI 12 0 0 rfl (xd dX12_begin 9 rfl) f12_200 (by decide) (by decide) (lt552 hn (by decide)) kd_491 rfl ?_
    obtain ⟨o9, h⟩ := h
    refine zr_if_le 25 (xd dX12_begin 10 rfl) (by decide) o9 (fun c10 => ?_) (fun c10 => ?_)
    · replace h := ifn h c10
      refine xr_aload_n (xd dX12_begin 13 rfl) 0 rfl ?_
      refine xr_iconst (v := oI 1) (xd dX12_begin 14 rfl) (by decide) ?_
      obtain ⟨J11, e_J11⟩ : ∃ z_ : zM, z_ = zs J8 491 4 1 := ⟨_, rfl⟩
      replace h := h J11 e_J11
      refine zr_putI 12 4 4 rfl e_J11 (xd dX12_begin 15 rfl) f12_386 (by decide) (by decide) (lt552 hn (by decide)) kd_491 (Or.inl rfl) (zret_b (Or.inr rfl)) (fits_b (Or.inr rfl)) (fun _ => rfl) ?_
      refine xr_aload_n (xd dX12_begin 16 rfl) 0 rfl ?_
      refine xr_getR (b := 534) 12 52 (xd dX12_begin 17 rfl) f12_139 (by decide) (by decide) (lt552 hn (by decide)) kd_491 rfl (r_491_52 hR) ?_
      refine xr_iconst (v := oI 0) (xd dX12_begin 18 rfl) (by decide) ?_
      refine xr_iconst (v := oI 1) (xd dX12_begin 19 rfl) (by decide) ?_
      obtain ⟨J12, e_J12⟩ : ∃ z_ : zM, z_ = zs J11 534 0 1 := ⟨_, rfl⟩
      replace h := h J12 e_J12
      refine zr_iastore e_J12 (xd dX12_begin 20 rfl) (lt552 hn (by decide)) kd_534 ln_534 (by decide) ⟨by decide, by decide⟩ ?_
      refine xr_aload_n (xd dX12_begin 21 rfl) 0 rfl ?_
      refine xr_iconst (v := oI 0) (xd dX12_begin 22 rfl) (by decide) ?_
      refine xr_callV mX12_chance 1 [.int (oI 0)] (xd dX12_begin 23 rfl) l12_265 kX12_chance rfl (lt552 hn (by decide)) kd_491 (by decide) rfl (by decide) (Nat.le_of_ble_eq_true rfl) (v_X12_chance hn hR  h) (by decide) (by decide) (fun r_ M_ h_ => ?_) (fun _ _ h_ => h_.elim)
      obtain ⟨J13, L14, rfl, rfl, h⟩ := h_
      show xJ _ _ _ _ _ _ _ _ _ 42 [(0, .ref 491)] [] _ _ _ (zi J13) (li L14)
      refine xr_aload_n (xd dX12_begin 24 rfl) 0 rfl ?_
      refine xr_sipush (v := oI 890) (xd dX12_begin 25 rfl) (by decide) ?_
      refine xr_bipush (v := oI 16) (xd dX12_begin 26 rfl) (by decide) ?_
      refine xr_callV mX12_store 2 [.int (oI 890), .int (oI 16)] (xd dX12_begin 27 rfl) l12_279 kX12_store rfl (lt552 hn (by decide)) kd_491 (by decide) rfl (by decide) (Nat.le_of_ble_eq_true rfl) (v_X12_store hn hR  h) (by decide) (by decide) (fun r_ M_ h_ => ?_) (fun _ _ h_ => h_.elim)
      obtain ⟨J15, L16, rfl, rfl, h⟩ := h_
      show xJ _ _ _ _ _ _ _ _ _ 51 [(0, .ref 491)] [] _ _ _ (zi J15) (li L16)
      refine xr_aload_n (xd dX12_begin 28 rfl) 0 rfl ?_
      refine zr_getI 12 1 1 rfl (xd dX12_begin 29 rfl) f12_383 (by decide) (by decide) (lt552 hn (by decide)) kd_491 rfl ?_
      refine xr_iconst (v := oI 2) (xd dX12_begin 30 rfl) (by decide) ?_
      refine zr_iand (xd dX12_begin 31 rfl) ?_
      refine xr_iconst (v := oI 2) (xd dX12_begin 32 rfl) (by decide) ?_
      replace h := h (fun (J17 : zM) (L18 : yM) => xJ (xGm b dC dI cA ts) l mX12_begin 0 0 (zQ1 n R Q) (fun _ _ => False) 0 0 66 [(0, .ref 491)] [] al n R (zi J17) (li L18)) (by
        intro J17 L18 h
        show xJ _ _ _ _ _ _ _ _ _ 66 [(0, .ref 491)] [] _ _ _ _ _
        refine xr_aload_n (xd dX12_begin 37 rfl) 0 rfl ?_
        refine xr_getR (b := 512) 12 28 (xd dX12_begin 38 rfl) f12_73 (by decide) (by decide) (lt552 hn (by decide)) kd_491 rfl (r_491_28 hR) ?_
        refine xr_iconst (v := oI 0) (xd dX12_begin 39 rfl) (by decide) ?_
        refine zr_iaload (xd dX12_begin 40 rfl) (lt552 hn (by decide)) kd_512 ln_512 (by decide) ⟨by decide, by decide⟩ ?_
        obtain ⟨x20, e_x20⟩ : ∃ z_ : Int, z_ = (J17 512 0) := ⟨_, rfl⟩
        replace h := h x20 e_x20
        refine zr_nm e_x20 ?_
        refine xr_istore_n [(0, .ref 491), (1, .int (oI x20))] (xd dX12_begin 41 rfl) rfl (by decide) rfl ?_
        refine xr_aload_n (xd dX12_begin 42 rfl) 0 rfl ?_
        refine xr_iconst (v := oI 0) (xd dX12_begin 43 rfl) (by decide) ?_
        refine xr_callV mX12_hello 1 [.int (oI 0)] (xd dX12_begin 44 rfl) l12_431 kX12_hello rfl (lt552 hn (by decide)) kd_491 (by decide) rfl (by decide) (Nat.le_of_ble_eq_true rfl) (v_X12_hello hn hR  h) (by decide) (by decide) (fun r_ M_ h_ => ?_) (fun _ _ h_ => h_.elim)
        obtain ⟨J21, L22, rfl, rfl, h⟩ := h_
        show xJ _ _ _ _ _ _ _ _ _ 78 [(0, .ref 491), (1, .int (oI x20))] [] _ _ _ (zi J21) (li L22)
        refine xr_aload_n (xd dX12_begin 45 rfl) 0 rfl ?_
        refine xr_getR (b := 512) 12 28 (xd dX12_begin 46 rfl) f12_73 (by decide) (by decide) (lt552 hn (by decide)) kd_491 rfl (r_491_28 hR) ?_
        refine xr_iconst (v := oI 0) (xd dX12_begin 47 rfl) (by decide) ?_
        refine zr_iaload (xd dX12_begin 48 rfl) (lt552 hn (by decide)) kd_512 ln_512 (by decide) ⟨by decide, by decide⟩ ?_
        refine xr_iload_n (xd dX12_begin 49 rfl) 1 rfl ?_
        refine zr_isub (xd dX12_begin 50 rfl) ?_
        exact xr_iret (xd dX12_begin 51 rfl) rfl (by decide) (by decide) (fun _ => rfl) ⟨_, _, _, rfl, rfl, h⟩)
      refine zr_icmp_ne 66 (xd dX12_begin 33 rfl) (by decide) (R32_of _) (by decide) (fun c23 => ?_) (fun c23 => ?_)
      · replace h := ifn h c23
        exact h
      · replace h := ifp h c23
        refine xr_aload_n (xd dX12_begin 34 rfl) 0 rfl ?_
        refine xr_iconst (v := oI 0) (xd dX12_begin 35 rfl) (by decide) ?_
        refine xr_callV mX12_takeShare 1 [.int (oI 0)] (xd dX12_begin 36 rfl) l12_428 kX12_takeShare rfl (lt552 hn (by decide)) kd_491 (by decide) rfl (by decide) (Nat.le_of_ble_eq_true rfl) (v_X12_takeShare hn hR  h) (by decide) (by decide) (fun r_ M_ h_ => ?_) (fun _ _ h_ => h_.elim)
        obtain ⟨J24, L25, rfl, rfl, h⟩ := h_
        show xJ _ _ _ _ _ _ _ _ _ 66 [(0, .ref 491)] [] _ _ _ (zi J24) (li L25)
        exact h
    · replace h := ifp h c10
      refine xr_iconst (v := oI 0) (xd dX12_begin 11 rfl) (by decide) ?_
      exact xr_iret (xd dX12_begin 12 rfl) rfl (by decide) (by decide) (fun _ => rfl) ⟨_, _, _, rfl, rfl, h⟩)
  obtain ⟨o26, h⟩ := h
  refine zr_if_eq 12 (xd dX12_begin 3 rfl) (by decide) o26 (fun c27 => ?_) (fun c27 => ?_)
  · replace h := ifp h c27
    refine xr_iconst (v := oI 0) (xd dX12_begin 6 rfl) (by decide) ?_
    exact h
  · replace h := ifn h c27
    refine xr_iconst (v := oI 1) (xd dX12_begin 4 rfl) (by decide) ?_
    refine xr_goto 13 (xd dX12_begin 5 rfl) (by decide) ?_
    exact h
def w_X12_serverAlert (p1 : Int) (J : zM) (L : yM) (Q : zM → yM → Prop) : Prop := w_X12_sendAlert 1 p1 J L (fun J1 L2 => w_X12_heardAlert 1 p1 J1 L2 (fun J3 L4 => Q J3 L4))
set_option maxHeartbeats 4000000 in
set_option maxRecDepth 100000 in
theorem v_X12_serverAlert {b : Nat} {dC : Nat → ClassId} {dI : Nat → Nat → Nat} {cA : Nat → ClassId} {ts : Nat → Nat} {l : Launch} {n : Nat} {R : Nat → Nat → Option Nat} {al : Bool} (hn : 552 ≤ n) (hR : xRk R) {p1 : Int}  {J : zM} {L : yM} {Q : zM → yM → Prop} (h : w_X12_serverAlert p1 J L Q) : xCn (xGm b dC dI cA ts) l mX12_serverAlert [.ref 491, .int (oI p1)] al (n, R, zi J, li L) 0 0 (zQ0 n R Q) (fun _ _ => False) := by
  refine xCn.ofJ (by decide) (Nat.le_of_ble_eq_true rfl) ?_
  show xJ _ _ _ _ _ _ _ _ _ 0 [(0, .ref 491), (1, .int (oI p1))] [] _ _ _ _ _
  unfold w_X12_serverAlert at h
  refine xr_aload_n (xd dX12_serverAlert 0 rfl) 0 rfl ?_
  refine xr_iconst (v := oI 1) (xd dX12_serverAlert 1 rfl) (by decide) ?_
  refine xr_iload_n (xd dX12_serverAlert 2 rfl) 1 rfl ?_
  refine xr_callV mX12_sendAlert 2 [.int (oI 1), .int (oI p1)] (xd dX12_serverAlert 3 rfl) l12_374 kX12_sendAlert rfl (lt552 hn (by decide)) kd_491 (by decide) rfl (by decide) (Nat.le_of_ble_eq_true rfl) (v_X12_sendAlert hn hR  h) (by decide) (by decide) (fun r_ M_ h_ => ?_) (fun _ _ h_ => h_.elim)
  obtain ⟨J1, L2, rfl, rfl, h⟩ := h_
  show xJ _ _ _ _ _ _ _ _ _ 6 [(0, .ref 491), (1, .int (oI p1))] [] _ _ _ (zi J1) (li L2)
  refine xr_aload_n (xd dX12_serverAlert 4 rfl) 0 rfl ?_
  refine xr_iconst (v := oI 1) (xd dX12_serverAlert 5 rfl) (by decide) ?_
  refine xr_iload_n (xd dX12_serverAlert 6 rfl) 1 rfl ?_
  refine xr_callV mX12_heardAlert 2 [.int (oI 1), .int (oI p1)] (xd dX12_serverAlert 7 rfl) l12_377 kX12_heardAlert rfl (lt552 hn (by decide)) kd_491 (by decide) rfl (by decide) (Nat.le_of_ble_eq_true rfl) (v_X12_heardAlert hn hR  h) (by decide) (by decide) (fun r_ M_ h_ => ?_) (fun _ _ h_ => h_.elim)
  obtain ⟨J3, L4, rfl, rfl, h⟩ := h_
  show xJ _ _ _ _ _ _ _ _ _ 12 [(0, .ref 491), (1, .int (oI p1))] [] _ _ _ (zi J3) (li L4)
  exact xr_vret (xd dX12_serverAlert 8 rfl) rfl (by decide) (by decide) (fun _ => rfl) ⟨_, _, rfl, rfl, h⟩
def w_X12_finishedTo (p1 : Int) (p2 : Int) (p3 : Int) (J : zM) (L : yM) (Q : zM → yM → Prop) : Prop := w_X12_finished p1 p3 J L (fun J1 L2 => w_X12_putMessage p2 20 32 J1 L2 (fun J3 L4 => w_X12_store (p2 + 3) 32 J3 L4 (fun J5 L6 => Q J5 L6)))
set_option maxHeartbeats 4000000 in
set_option maxRecDepth 100000 in
theorem v_X12_finishedTo {b : Nat} {dC : Nat → ClassId} {dI : Nat → Nat → Nat} {cA : Nat → ClassId} {ts : Nat → Nat} {l : Launch} {n : Nat} {R : Nat → Nat → Option Nat} {al : Bool} (hn : 552 ≤ n) (hR : xRk R) {p1 : Int} {p2 : Int} {p3 : Int}  {J : zM} {L : yM} {Q : zM → yM → Prop} (h : w_X12_finishedTo p1 p2 p3 J L Q) : xCn (xGm b dC dI cA ts) l mX12_finishedTo [.ref 491, .int (oI p1), .int (oI p2), .int (oI p3)] al (n, R, zi J, li L) 0 0 (zQ0 n R Q) (fun _ _ => False) := by
  refine xCn.ofJ (by decide) (Nat.le_of_ble_eq_true rfl) ?_
  show xJ _ _ _ _ _ _ _ _ _ 0 [(0, .ref 491), (1, .int (oI p1)), (2, .int (oI p2)), (3, .int (oI p3))] [] _ _ _ _ _
  unfold w_X12_finishedTo at h
  refine xr_aload_n (xd dX12_finishedTo 0 rfl) 0 rfl ?_
  refine xr_iload_n (xd dX12_finishedTo 1 rfl) 1 rfl ?_
  refine xr_iload_n (xd dX12_finishedTo 2 rfl) 3 rfl ?_
  refine xr_callV mX12_finished 2 [.int (oI p1), .int (oI p3)] (xd dX12_finishedTo 3 rfl) l12_434 kX12_finished rfl (lt552 hn (by decide)) kd_491 (by decide) rfl (by decide) (Nat.le_of_ble_eq_true rfl) (v_X12_finished hn hR  h) (by decide) (by decide) (fun r_ M_ h_ => ?_) (fun _ _ h_ => h_.elim)
  obtain ⟨J1, L2, rfl, rfl, h⟩ := h_
  show xJ _ _ _ _ _ _ _ _ _ 6 [(0, .ref 491), (1, .int (oI p1)), (2, .int (oI p2)), (3, .int (oI p3))] [] _ _ _ (zi J1) (li L2)
  refine xr_aload_n (xd dX12_finishedTo 4 rfl) 0 rfl ?_
  refine xr_iload_n (xd dX12_finishedTo 5 rfl) 2 rfl ?_
  refine xr_bipush (v := oI 20) (xd dX12_finishedTo 6 rfl) (by decide) ?_
  refine xr_bipush (v := oI 32) (xd dX12_finishedTo 7 rfl) (by decide) ?_
  refine xr_callV mX12_putMessage 3 [.int (oI p2), .int (oI 20), .int (oI 32)] (xd dX12_finishedTo 8 rfl) l12_407 kX12_putMessage rfl (lt552 hn (by decide)) kd_491 (by decide) rfl (by decide) (Nat.le_of_ble_eq_true rfl) (v_X12_putMessage hn hR  h) (by decide) (by decide) (fun r_ M_ h_ => ?_) (fun _ _ h_ => h_.elim)
  obtain ⟨J3, L4, rfl, rfl, h⟩ := h_
  show xJ _ _ _ _ _ _ _ _ _ 15 [(0, .ref 491), (1, .int (oI p1)), (2, .int (oI p2)), (3, .int (oI p3))] [] _ _ _ (zi J3) (li L4)
  refine xr_aload_n (xd dX12_finishedTo 9 rfl) 0 rfl ?_
  refine xr_iload_n (xd dX12_finishedTo 10 rfl) 2 rfl ?_
  refine xr_iconst (v := oI 3) (xd dX12_finishedTo 11 rfl) (by decide) ?_
  refine zr_iadd (xd dX12_finishedTo 12 rfl) ?_
  refine xr_bipush (v := oI 32) (xd dX12_finishedTo 13 rfl) (by decide) ?_
  refine xr_callV mX12_store 2 [.int (oI (p2 + 3)), .int (oI 32)] (xd dX12_finishedTo 14 rfl) l12_279 kX12_store rfl (lt552 hn (by decide)) kd_491 (by decide) rfl (by decide) (Nat.le_of_ble_eq_true rfl) (v_X12_store hn hR  h) (by decide) (by decide) (fun r_ M_ h_ => ?_) (fun _ _ h_ => h_.elim)
  obtain ⟨J5, L6, rfl, rfl, h⟩ := h_
  show xJ _ _ _ _ _ _ _ _ _ 24 [(0, .ref 491), (1, .int (oI p1)), (2, .int (oI p2)), (3, .int (oI p3))] [] _ _ _ (zi J5) (li L6)
  exact xr_vret (xd dX12_finishedTo 15 rfl) rfl (by decide) (by decide) (fun _ => rfl) ⟨_, _, rfl, rfl, h⟩
def w_X12_answers (p1 : Int) (p2 : Int64) (J : zM) (L : yM) (Q : zM → yM → Prop) : Prop := w_X12_chance 1 J L (fun J1 L2 => w_X12_putMessage (1024 + 600) 2 20 J1 L2 (fun J3 L4 => w_X12_store ((1024 + 600) + 3) 16 J3 L4 (fun J5 L6 => ∀ K10 : Int64 → zM → yM → Prop, (∀ (x7 : Int64) (J8 : zM) (L9 : yM), (w_X12_numberTo ((1024 + 600) + 19) 4 (L9 505 1) J8 L9 (fun J11 L12 => w_X12_putMessage (1024 + 630) 8 (2 + (J11 491 7)) J11 L12 (fun J13 L14 => w_X12_numberTo ((1024 + 630) + 3) 2 (zi2l (J13 491 2)) J13 L14 (fun J15 L16 => zl_z (fun K17 x18 J19 L20 => R32 x18 ∧ R32 (J19 491 7) ∧ (if x18 < (J19 491 7) then ((0 : Int) ≤ x18 ∧ x18 < 150) ∧ ((0 : Int) ≤ (((1024 + 630) + 5) + x18) ∧ (((1024 + 630) + 5) + x18) < 2048) ∧ ∀ J44 : zM, J44 = zs J19 492 (((1024 + 630) + 5) + x18) (J19 493 x18) → K17 (x18 + 1) J44 L20 else w_X12_epochTwo 1 x7 J19 L20 (fun J24 L25 => w_X12_finishedTo 1 (1024 + 790) 1 J24 L25 (fun J26 L27 => w_X12_epochThree 1 J26 L27 (fun J28 L29 => ∀ J30 : zM, J30 = zs J28 534 1 1 → ∀ J31 : zM, J31 = zs J30 535 1 (p1 + 1) → w_X12_clearFlight 1 J31 L29 (fun J32 L33 => w_X12_addFlight 1 (1024 + 600) 0 p1 J32 L33 (fun J34 L35 => w_X12_addFlight 1 (1024 + 630) 2 (p1 + 1) J34 L35 (fun J36 L37 => w_X12_addFlight 1 (1024 + 790) 2 (p1 + 2) J36 L37 (fun J38 L39 => w_X12_fly 1 J38 L39 (fun J40 L41 => Q J40 L41)))))))))) 0 J15 L16)))) → K10 x7 J8 L9) → (if (zcmp p2 0) = 0 then K10 0 J5 L6 else (if (zand (J5 491 1) 4) = 4 then w_X12_takeShare 1 J5 L6 (fun J47 L48 => w_X12_power p2 (L48 504 1) J47 L48 (fun r51 J49 L50 => K10 r51 J49 L50)) else K10 0 J5 L6)))))
set_option maxHeartbeats 4000000 in
set_option maxRecDepth 100000 in
theorem v_X12_answers {b : Nat} {dC : Nat → ClassId} {dI : Nat → Nat → Nat} {cA : Nat → ClassId} {ts : Nat → Nat} {l : Launch} {n : Nat} {R : Nat → Nat → Option Nat} {al : Bool} (hn : 552 ≤ n) (hR : xRk R) {p1 : Int} {p2 : Int64}  {J : zM} {L : yM} {Q : zM → yM → Prop} (h : w_X12_answers p1 p2 J L Q) : xCn (xGm b dC dI cA ts) l mX12_answers [.ref 491, .int (oI p1), .long p2] al (n, R, zi J, li L) 0 0 (zQ0 n R Q) (fun _ _ => False) := by
  refine xCn.ofJ (by decide) (Nat.le_of_ble_eq_true rfl) ?_
  show xJ _ _ _ _ _ _ _ _ _ 0 [(0, .ref 491), (1, .int (oI p1)), (2, .long p2)] [] _ _ _ _ _
  unfold w_X12_answers at h
  refine xr_sipush (v := oI 1024) (xd dX12_answers 0 rfl) (by decide) ?_
  refine xr_istore [(0, .ref 491), (1, .int (oI p1)), (2, .long p2), (4, .int (oI 1024))] (xd dX12_answers 1 rfl) (by decide) rfl ?_
  refine xr_aload_n (xd dX12_answers 2 rfl) 0 rfl ?_
  refine xr_iconst (v := oI 1) (xd dX12_answers 3 rfl) (by decide) ?_
  refine xr_callV mX12_chance 1 [.int (oI 1)] (xd dX12_answers 4 rfl) l12_265 kX12_chance rfl (lt552 hn (by decide)) kd_491 (by decide) rfl (by decide) (Nat.le_of_ble_eq_true rfl) (v_X12_chance hn hR  h) (by decide) (by decide) (fun r_ M_ h_ => ?_) (fun _ _ h_ => h_.elim)
  obtain ⟨J1, L2, rfl, rfl, h⟩ := h_
  show xJ _ _ _ _ _ _ _ _ _ 10 [(0, .ref 491), (1, .int (oI p1)), (2, .long p2), (4, .int (oI 1024))] [] _ _ _ (zi J1) (li L2)
  refine xr_aload_n (xd dX12_answers 5 rfl) 0 rfl ?_
  refine xr_iload (xd dX12_answers 6 rfl) 3 rfl ?_
  refine xr_sipush (v := oI 600) (xd dX12_answers 7 rfl) (by decide) ?_
  refine zr_iadd (xd dX12_answers 8 rfl) ?_
  refine xr_iconst (v := oI 2) (xd dX12_answers 9 rfl) (by decide) ?_
  refine xr_bipush (v := oI 20) (xd dX12_answers 10 rfl) (by decide) ?_
  refine xr_callV mX12_putMessage 3 [.int (oI (1024 + 600)), .int (oI 2), .int (oI 20)] (xd dX12_answers 11 rfl) l12_407 kX12_putMessage rfl (lt552 hn (by decide)) kd_491 (by decide) rfl (by decide) (Nat.le_of_ble_eq_true rfl) (v_X12_putMessage hn hR  h) (by decide) (by decide) (fun r_ M_ h_ => ?_) (fun _ _ h_ => h_.elim)
  obtain ⟨J3, L4, rfl, rfl, h⟩ := h_
  show xJ _ _ _ _ _ _ _ _ _ 23 [(0, .ref 491), (1, .int (oI p1)), (2, .long p2), (4, .int (oI 1024))] [] _ _ _ (zi J3) (li L4)
  refine xr_aload_n (xd dX12_answers 12 rfl) 0 rfl ?_
  refine xr_iload (xd dX12_answers 13 rfl) 3 rfl ?_
  refine xr_sipush (v := oI 600) (xd dX12_answers 14 rfl) (by decide) ?_
  refine zr_iadd (xd dX12_answers 15 rfl) ?_
  refine xr_iconst (v := oI 3) (xd dX12_answers 16 rfl) (by decide) ?_
  refine zr_iadd (xd dX12_answers 17 rfl) ?_
  refine xr_bipush (v := oI 16) (xd dX12_answers 18 rfl) (by decide) ?_
  refine xr_callV mX12_store 2 [.int (oI ((1024 + 600) + 3)), .int (oI 16)] (xd dX12_answers 19 rfl) l12_279 kX12_store rfl (lt552 hn (by decide)) kd_491 (by decide) rfl (by decide) (Nat.le_of_ble_eq_true rfl) (v_X12_store hn hR  h) (by decide) (by decide) (fun r_ M_ h_ => ?_) (fun _ _ h_ => h_.elim)
  obtain ⟨J5, L6, rfl, rfl, h⟩ := h_
  show xJ _ _ _ _ _ _ _ _ _ 37 [(0, .ref 491), (1, .int (oI p1)), (2, .long p2), (4, .int (oI 1024))] [] _ _ _ (zi J5) (li L6)
  refine xr_lconst (v := 0) (xd dX12_answers 20 rfl) (by decide) ?_
  refine xr_lstore [(0, .ref 491), (1, .int (oI p1)), (2, .long p2), (4, .int (oI 1024)), (5, .long 0)] (xd dX12_answers 21 rfl) (by decide) rfl ?_
  refine xr_lload_n (xd dX12_answers 22 rfl) 2 rfl ?_
  refine xr_lconst (v := 0) (xd dX12_answers 23 rfl) (by decide) ?_
  refine zr_lcmp (xd dX12_answers 24 rfl) ?_
  replace h := h (fun (x7 : Int64) (J8 : zM) (L9 : yM) => xJ (xGm b dC dI cA ts) l mX12_answers 0 0 (zQ0 n R Q) (fun _ _ => False) 0 0 73 [(0, .ref 491), (1, .int (oI p1)), (4, .int (oI 1024)), (5, .long x7)] [] al n R (zi J8) (li L9)) (by
    intro x7 J8 L9 h
    show xJ _ _ _ _ _ _ _ _ _ 73 [(0, .ref 491), (1, .int (oI p1)), (4, .int (oI 1024)), (5, .long x7)] [] _ _ _ _ _
    refine xr_aload_n (xd dX12_answers 42 rfl) 0 rfl ?_
    refine xr_iload (xd dX12_answers 43 rfl) 2 rfl ?_
    refine xr_sipush (v := oI 600) (xd dX12_answers 44 rfl) (by decide) ?_
    refine zr_iadd (xd dX12_answers 45 rfl) ?_
    refine xr_bipush (v := oI 19) (xd dX12_answers 46 rfl) (by decide) ?_
    refine zr_iadd (xd dX12_answers 47 rfl) ?_
    refine xr_iconst (v := oI 4) (xd dX12_answers 48 rfl) (by decide) ?_
    refine xr_aload_n (xd dX12_answers 49 rfl) 0 rfl ?_
    refine xr_getR (b := 505) 12 21 (xd dX12_answers 50 rfl) f12_50 (by decide) (by decide) (lt552 hn (by decide)) kd_491 rfl (r_491_21 hR) ?_
    refine xr_iconst (v := oI 1) (xd dX12_answers 51 rfl) (by decide) ?_
    refine zr_laload (xd dX12_answers 52 rfl) (lt552 hn (by decide)) kd_505 ln_505 (by decide) ⟨by decide, by decide⟩ ?_
    refine xr_callV mX12_numberTo 3 [.int (oI ((1024 + 600) + 19)), .int (oI 4), .long (L9 505 1)] (xd dX12_answers 53 rfl) l12_411 kX12_numberTo rfl (lt552 hn (by decide)) kd_491 (by decide) rfl (by decide) (Nat.le_of_ble_eq_true rfl) (v_X12_numberTo hn hR  h) (by decide) (by decide) (fun r_ M_ h_ => ?_) (fun _ _ h_ => h_.elim)
    obtain ⟨J11, L12, rfl, rfl, h⟩ := h_
    show xJ _ _ _ _ _ _ _ _ _ 93 [(0, .ref 491), (1, .int (oI p1)), (4, .int (oI 1024)), (5, .long x7)] [] _ _ _ (zi J11) (li L12)
    refine xr_aload_n (xd dX12_answers 54 rfl) 0 rfl ?_
    refine xr_iload (xd dX12_answers 55 rfl) 2 rfl ?_
    refine xr_sipush (v := oI 630) (xd dX12_answers 56 rfl) (by decide) ?_
    refine zr_iadd (xd dX12_answers 57 rfl) ?_
    refine xr_bipush (v := oI 8) (xd dX12_answers 58 rfl) (by decide) ?_
    refine xr_iconst (v := oI 2) (xd dX12_answers 59 rfl) (by decide) ?_
    refine xr_aload_n (xd dX12_answers 60 rfl) 0 rfl ?_
    refine zr_getI 12 7 7 rfl (xd dX12_answers 61 rfl) f12_393 (by decide) (by decide) (lt552 hn (by decide)) kd_491 rfl ?_
    refine zr_iadd (xd dX12_answers 62 rfl) ?_
    refine xr_callV mX12_putMessage 3 [.int (oI (1024 + 630)), .int (oI 8), .int (oI (2 + (J11 491 7)))] (xd dX12_answers 63 rfl) l12_407 kX12_putMessage rfl (lt552 hn (by decide)) kd_491 (by decide) rfl (by decide) (Nat.le_of_ble_eq_true rfl) (v_X12_putMessage hn hR  h) (by decide) (by decide) (fun r_ M_ h_ => ?_) (fun _ _ h_ => h_.elim)
    obtain ⟨J13, L14, rfl, rfl, h⟩ := h_
    show xJ _ _ _ _ _ _ _ _ _ 111 [(0, .ref 491), (1, .int (oI p1)), (4, .int (oI 1024)), (5, .long x7)] [] _ _ _ (zi J13) (li L14)
    refine xr_aload_n (xd dX12_answers 64 rfl) 0 rfl ?_
    refine xr_iload (xd dX12_answers 65 rfl) 2 rfl ?_
    refine xr_sipush (v := oI 630) (xd dX12_answers 66 rfl) (by decide) ?_
    refine zr_iadd (xd dX12_answers 67 rfl) ?_
    refine xr_iconst (v := oI 3) (xd dX12_answers 68 rfl) (by decide) ?_
    refine zr_iadd (xd dX12_answers 69 rfl) ?_
    refine xr_iconst (v := oI 2) (xd dX12_answers 70 rfl) (by decide) ?_
    refine xr_aload_n (xd dX12_answers 71 rfl) 0 rfl ?_
    refine zr_getI 12 2 2 rfl (xd dX12_answers 72 rfl) f12_363 (by decide) (by decide) (lt552 hn (by decide)) kd_491 rfl ?_
    refine zr_i2l (xd dX12_answers 73 rfl) ?_
    refine xr_callV mX12_numberTo 3 [.int (oI ((1024 + 630) + 3)), .int (oI 2), .long (zi2l (J13 491 2))] (xd dX12_answers 74 rfl) l12_411 kX12_numberTo rfl (lt552 hn (by decide)) kd_491 (by decide) rfl (by decide) (Nat.le_of_ble_eq_true rfl) (v_X12_numberTo hn hR  h) (by decide) (by decide) (fun r_ M_ h_ => ?_) (fun _ _ h_ => h_.elim)
    obtain ⟨J15, L16, rfl, rfl, h⟩ := h_
    show xJ _ _ _ _ _ _ _ _ _ 129 [(0, .ref 491), (1, .int (oI p1)), (4, .int (oI 1024)), (5, .long x7)] [] _ _ _ (zi J15) (li L16)
    refine xr_iconst (v := oI 0) (xd dX12_answers 75 rfl) (by decide) ?_
    refine xr_istore [(0, .ref 491), (1, .int (oI p1)), (4, .int (oI 1024)), (5, .long x7), (7, .int (oI 0))] (xd dX12_answers 76 rfl) (by decide) rfl ?_
    refine h (fun x18 J19 L20 => xJ (xGm b dC dI cA ts) l mX12_answers 0 0 (zQ0 n R Q) (fun _ _ => False) 0 0 132 [(0, .ref 491), (1, .int (oI p1)), (4, .int (oI 1024)), (5, .long x7), (7, .int (oI x18))] [] al n R (zi J19) (li L20)) ?_
    intro x18 J19 L20 h
    show xJ _ _ _ _ _ _ _ _ _ 132 [(0, .ref 491), (1, .int (oI p1)), (4, .int (oI 1024)), (5, .long x7), (7, .int (oI x18))] [] _ _ _ _ _
    refine xr_iload (xd dX12_answers 77 rfl) 4 rfl ?_
    refine xr_aload_n (xd dX12_answers 78 rfl) 0 rfl ?_
    refine zr_getI 12 7 7 rfl (xd dX12_answers 79 rfl) f12_393 (by decide) (by decide) (lt552 hn (by decide)) kd_491 rfl ?_
    obtain ⟨o21, h⟩ := h
    obtain ⟨o22, h⟩ := h
    refine zr_icmp_ge 170 (xd dX12_answers 80 rfl) (by decide) o21 o22 (fun c23 => ?_) (fun c23 => ?_)
    · replace h := ifn h c23
      refine xr_aload_n (xd dX12_answers 97 rfl) 0 rfl ?_
      refine xr_iconst (v := oI 1) (xd dX12_answers 98 rfl) (by decide) ?_
      refine xr_lload (xd dX12_answers 99 rfl) 3 rfl ?_
      refine xr_callV mX12_epochTwo 2 [.int (oI 1), .long x7] (xd dX12_answers 100 rfl) l12_451 kX12_epochTwo rfl (lt552 hn (by decide)) kd_491 (by decide) rfl (by decide) (Nat.le_of_ble_eq_true rfl) (v_X12_epochTwo hn hR  h) (by decide) (by decide) (fun r_ M_ h_ => ?_) (fun _ _ h_ => h_.elim)
      obtain ⟨J24, L25, rfl, rfl, h⟩ := h_
      show xJ _ _ _ _ _ _ _ _ _ 177 [(0, .ref 491), (1, .int (oI p1)), (4, .int (oI 1024)), (5, .long x7), (7, .int (oI x18))] [] _ _ _ (zi J24) (li L25)
      refine xr_aload_n (xd dX12_answers 101 rfl) 0 rfl ?_
      refine xr_iconst (v := oI 1) (xd dX12_answers 102 rfl) (by decide) ?_
      refine xr_iload (xd dX12_answers 103 rfl) 2 rfl ?_
      refine xr_sipush (v := oI 790) (xd dX12_answers 104 rfl) (by decide) ?_
      refine zr_iadd (xd dX12_answers 105 rfl) ?_
      refine xr_iconst (v := oI 1) (xd dX12_answers 106 rfl) (by decide) ?_
      refine xr_callV mX12_finishedTo 3 [.int (oI 1), .int (oI (1024 + 790)), .int (oI 1)] (xd dX12_answers 107 rfl) l12_454 kX12_finishedTo rfl (lt552 hn (by decide)) kd_491 (by decide) rfl (by decide) (Nat.le_of_ble_eq_true rfl) (v_X12_finishedTo hn hR  h) (by decide) (by decide) (fun r_ M_ h_ => ?_) (fun _ _ h_ => h_.elim)
      obtain ⟨J26, L27, rfl, rfl, h⟩ := h_
      show xJ _ _ _ _ _ _ _ _ _ 189 [(0, .ref 491), (1, .int (oI p1)), (4, .int (oI 1024)), (5, .long x7), (7, .int (oI x18))] [] _ _ _ (zi J26) (li L27)
      refine xr_aload_n (xd dX12_answers 108 rfl) 0 rfl ?_
      refine xr_iconst (v := oI 1) (xd dX12_answers 109 rfl) (by decide) ?_
      refine xr_callV mX12_epochThree 1 [.int (oI 1)] (xd dX12_answers 110 rfl) l12_457 kX12_epochThree rfl (lt552 hn (by decide)) kd_491 (by decide) rfl (by decide) (Nat.le_of_ble_eq_true rfl) (v_X12_epochThree hn hR  h) (by decide) (by decide) (fun r_ M_ h_ => ?_) (fun _ _ h_ => h_.elim)
      obtain ⟨J28, L29, rfl, rfl, h⟩ := h_
      show xJ _ _ _ _ _ _ _ _ _ 194 [(0, .ref 491), (1, .int (oI p1)), (4, .int (oI 1024)), (5, .long x7), (7, .int (oI x18))] [] _ _ _ (zi J28) (li L29)
      refine xr_aload_n (xd dX12_answers 111 rfl) 0 rfl ?_
      refine xr_getR (b := 534) 12 52 (xd dX12_answers 112 rfl) f12_139 (by decide) (by decide) (lt552 hn (by decide)) kd_491 rfl (r_491_52 hR) ?_
      refine xr_iconst (v := oI 1) (xd dX12_answers 113 rfl) (by decide) ?_
      refine xr_iconst (v := oI 1) (xd dX12_answers 114 rfl) (by decide) ?_
      obtain ⟨J30, e_J30⟩ : ∃ z_ : zM, z_ = zs J28 534 1 1 := ⟨_, rfl⟩
      replace h := h J30 e_J30
      refine zr_iastore e_J30 (xd dX12_answers 115 rfl) (lt552 hn (by decide)) kd_534 ln_534 (by decide) ⟨by decide, by decide⟩ ?_
      refine xr_aload_n (xd dX12_answers 116 rfl) 0 rfl ?_
      refine xr_getR (b := 535) 12 53 (xd dX12_answers 117 rfl) f12_142 (by decide) (by decide) (lt552 hn (by decide)) kd_491 rfl (r_491_53 hR) ?_
      refine xr_iconst (v := oI 1) (xd dX12_answers 118 rfl) (by decide) ?_
      refine xr_iload_n (xd dX12_answers 119 rfl) 1 rfl ?_
      refine xr_iconst (v := oI 1) (xd dX12_answers 120 rfl) (by decide) ?_
      refine zr_iadd (xd dX12_answers 121 rfl) ?_
      obtain ⟨J31, e_J31⟩ : ∃ z_ : zM, z_ = zs J30 535 1 (p1 + 1) := ⟨_, rfl⟩
      replace h := h J31 e_J31
      refine zr_iastore e_J31 (xd dX12_answers 122 rfl) (lt552 hn (by decide)) kd_535 ln_535 (by decide) ⟨by decide, by decide⟩ ?_
      refine xr_aload_n (xd dX12_answers 123 rfl) 0 rfl ?_
      refine xr_iconst (v := oI 1) (xd dX12_answers 124 rfl) (by decide) ?_
      refine xr_callV mX12_clearFlight 1 [.int (oI 1)] (xd dX12_answers 125 rfl) l12_399 kX12_clearFlight rfl (lt552 hn (by decide)) kd_491 (by decide) rfl (by decide) (Nat.le_of_ble_eq_true rfl) (v_X12_clearFlight hn hR  h) (by decide) (by decide) (fun r_ M_ h_ => ?_) (fun _ _ h_ => h_.elim)
      obtain ⟨J32, L33, rfl, rfl, h⟩ := h_
      show xJ _ _ _ _ _ _ _ _ _ 215 [(0, .ref 491), (1, .int (oI p1)), (4, .int (oI 1024)), (5, .long x7), (7, .int (oI x18))] [] _ _ _ (zi J32) (li L33)
      refine xr_aload_n (xd dX12_answers 126 rfl) 0 rfl ?_
      refine xr_iconst (v := oI 1) (xd dX12_answers 127 rfl) (by decide) ?_
      refine xr_iload (xd dX12_answers 128 rfl) 2 rfl ?_
      refine xr_sipush (v := oI 600) (xd dX12_answers 129 rfl) (by decide) ?_
      refine zr_iadd (xd dX12_answers 130 rfl) ?_
      refine xr_iconst (v := oI 0) (xd dX12_answers 131 rfl) (by decide) ?_
      refine xr_iload_n (xd dX12_answers 132 rfl) 1 rfl ?_
      refine xr_callV mX12_addFlight 4 [.int (oI 1), .int (oI (1024 + 600)), .int (oI 0), .int (oI p1)] (xd dX12_answers 133 rfl) l12_418 kX12_addFlight rfl (lt552 hn (by decide)) kd_491 (by decide) rfl (by decide) (Nat.le_of_ble_eq_true rfl) (v_X12_addFlight hn hR  h) (by decide) (by decide) (fun r_ M_ h_ => ?_) (fun _ _ h_ => h_.elim)
      obtain ⟨J34, L35, rfl, rfl, h⟩ := h_
      show xJ _ _ _ _ _ _ _ _ _ 228 [(0, .ref 491), (1, .int (oI p1)), (4, .int (oI 1024)), (5, .long x7), (7, .int (oI x18))] [] _ _ _ (zi J34) (li L35)
      refine xr_aload_n (xd dX12_answers 134 rfl) 0 rfl ?_
      refine xr_iconst (v := oI 1) (xd dX12_answers 135 rfl) (by decide) ?_
      refine xr_iload (xd dX12_answers 136 rfl) 2 rfl ?_
      refine xr_sipush (v := oI 630) (xd dX12_answers 137 rfl) (by decide) ?_
      refine zr_iadd (xd dX12_answers 138 rfl) ?_
      refine xr_iconst (v := oI 2) (xd dX12_answers 139 rfl) (by decide) ?_
      refine xr_iload_n (xd dX12_answers 140 rfl) 1 rfl ?_
      refine xr_iconst (v := oI 1) (xd dX12_answers 141 rfl) (by decide) ?_
      refine zr_iadd (xd dX12_answers 142 rfl) ?_
      refine xr_callV mX12_addFlight 4 [.int (oI 1), .int (oI (1024 + 630)), .int (oI 2), .int (oI (p1 + 1))] (xd dX12_answers 143 rfl) l12_418 kX12_addFlight rfl (lt552 hn (by decide)) kd_491 (by decide) rfl (by decide) (Nat.le_of_ble_eq_true rfl) (v_X12_addFlight hn hR  h) (by decide) (by decide) (fun r_ M_ h_ => ?_) (fun _ _ h_ => h_.elim)
      obtain ⟨J36, L37, rfl, rfl, h⟩ := h_
      show xJ _ _ _ _ _ _ _ _ _ 243 [(0, .ref 491), (1, .int (oI p1)), (4, .int (oI 1024)), (5, .long x7), (7, .int (oI x18))] [] _ _ _ (zi J36) (li L37)
      refine xr_aload_n (xd dX12_answers 144 rfl) 0 rfl ?_
      refine xr_iconst (v := oI 1) (xd dX12_answers 145 rfl) (by decide) ?_
      refine xr_iload (xd dX12_answers 146 rfl) 2 rfl ?_
      refine xr_sipush (v := oI 790) (xd dX12_answers 147 rfl) (by decide) ?_
      refine zr_iadd (xd dX12_answers 148 rfl) ?_
      refine xr_iconst (v := oI 2) (xd dX12_answers 149 rfl) (by decide) ?_
      refine xr_iload_n (xd dX12_answers 150 rfl) 1 rfl ?_
      refine xr_iconst (v := oI 2) (xd dX12_answers 151 rfl) (by decide) ?_
      refine zr_iadd (xd dX12_answers 152 rfl) ?_
      refine xr_callV mX12_addFlight 4 [.int (oI 1), .int (oI (1024 + 790)), .int (oI 2), .int (oI (p1 + 2))] (xd dX12_answers 153 rfl) l12_418 kX12_addFlight rfl (lt552 hn (by decide)) kd_491 (by decide) rfl (by decide) (Nat.le_of_ble_eq_true rfl) (v_X12_addFlight hn hR  h) (by decide) (by decide) (fun r_ M_ h_ => ?_) (fun _ _ h_ => h_.elim)
      obtain ⟨J38, L39, rfl, rfl, h⟩ := h_
      show xJ _ _ _ _ _ _ _ _ _ 258 [(0, .ref 491), (1, .int (oI p1)), (4, .int (oI 1024)), (5, .long x7), (7, .int (oI x18))] [] _ _ _ (zi J38) (li L39)
      refine xr_aload_n (xd dX12_answers 154 rfl) 0 rfl ?_
      refine xr_iconst (v := oI 1) (xd dX12_answers 155 rfl) (by decide) ?_
      refine xr_callV mX12_fly 1 [.int (oI 1)] (xd dX12_answers 156 rfl) l12_421 kX12_fly rfl (lt552 hn (by decide)) kd_491 (by decide) rfl (by decide) (Nat.le_of_ble_eq_true rfl) (v_X12_fly hn hR  h) (by decide) (by decide) (fun r_ M_ h_ => ?_) (fun _ _ h_ => h_.elim)
      obtain ⟨J40, L41, rfl, rfl, h⟩ := h_
      show xJ _ _ _ _ _ _ _ _ _ 263 [(0, .ref 491), (1, .int (oI p1)), (4, .int (oI 1024)), (5, .long x7), (7, .int (oI x18))] [] _ _ _ (zi J40) (li L41)
      exact xr_vret (xd dX12_answers 157 rfl) rfl (by decide) (by decide) (fun _ => rfl) ⟨_, _, rfl, rfl, h⟩
    · replace h := ifp h c23
      refine xr_aload_n (xd dX12_answers 81 rfl) 0 rfl ?_
      refine xr_getR (b := 492) 12 5 (xd dX12_answers 82 rfl) f12_7 (by decide) (by decide) (lt552 hn (by decide)) kd_491 rfl (r_491_5 hR) ?_
      refine xr_iload (xd dX12_answers 83 rfl) 2 rfl ?_
      refine xr_sipush (v := oI 630) (xd dX12_answers 84 rfl) (by decide) ?_
      refine zr_iadd (xd dX12_answers 85 rfl) ?_
      refine xr_iconst (v := oI 5) (xd dX12_answers 86 rfl) (by decide) ?_
      refine zr_iadd (xd dX12_answers 87 rfl) ?_
      refine xr_iload (xd dX12_answers 88 rfl) 4 rfl ?_
      refine zr_iadd (xd dX12_answers 89 rfl) ?_
      refine xr_aload_n (xd dX12_answers 90 rfl) 0 rfl ?_
      refine xr_getR (b := 493) 12 6 (xd dX12_answers 91 rfl) f12_13 (by decide) (by decide) (lt552 hn (by decide)) kd_491 rfl (r_491_6 hR) ?_
      refine xr_iload (xd dX12_answers 92 rfl) 4 rfl ?_
      obtain ⟨o42, h⟩ := h
      refine zr_iaload (xd dX12_answers 93 rfl) (lt552 hn (by decide)) kd_493 ln_493 (by decide) o42 ?_
      obtain ⟨o43, h⟩ := h
      obtain ⟨J44, e_J44⟩ : ∃ z_ : zM, z_ = zs J19 492 (((1024 + 630) + 5) + x18) (J19 493 x18) := ⟨_, rfl⟩
      replace h := h J44 e_J44
      refine zr_iastore e_J44 (xd dX12_answers 94 rfl) (lt552 hn (by decide)) kd_492 ln_492 (by decide) o43 ?_
      refine zr_iinc [(0, .ref 491), (1, .int (oI p1)), (4, .int (oI 1024)), (5, .long x7), (7, .int (oI (x18 + 1)))] (xd dX12_answers 95 rfl) 4 rfl (by decide) rfl ?_
      refine xr_goto 132 (xd dX12_answers 96 rfl) (by decide) ?_
      exact h)
  refine zr_if_eq 73 (xd dX12_answers 25 rfl) (by decide) (R32_of _) (fun c45 => ?_) (fun c45 => ?_)
  · replace h := ifp h c45
    refine xJ.pick (ls' := [(0, .ref 491), (1, .int (oI p1)), (4, .int (oI 1024)), (5, .long 0)]) [0, 1, 3, 4] rfl ?_
    exact h
  · replace h := ifn h c45
    refine xr_aload_n (xd dX12_answers 26 rfl) 0 rfl ?_
    refine zr_getI 12 1 1 rfl (xd dX12_answers 27 rfl) f12_383 (by decide) (by decide) (lt552 hn (by decide)) kd_491 rfl ?_
    refine xr_iconst (v := oI 4) (xd dX12_answers 28 rfl) (by decide) ?_
    refine zr_iand (xd dX12_answers 29 rfl) ?_
    refine xr_iconst (v := oI 4) (xd dX12_answers 30 rfl) (by decide) ?_
    refine zr_icmp_ne 73 (xd dX12_answers 31 rfl) (by decide) (R32_of _) (by decide) (fun c46 => ?_) (fun c46 => ?_)
    · replace h := ifn h c46
      refine xJ.pick (ls' := [(0, .ref 491), (1, .int (oI p1)), (4, .int (oI 1024)), (5, .long 0)]) [0, 1, 3, 4] rfl ?_
      exact h
    · replace h := ifp h c46
      refine xr_aload_n (xd dX12_answers 32 rfl) 0 rfl ?_
      refine xr_iconst (v := oI 1) (xd dX12_answers 33 rfl) (by decide) ?_
      refine xr_callV mX12_takeShare 1 [.int (oI 1)] (xd dX12_answers 34 rfl) l12_428 kX12_takeShare rfl (lt552 hn (by decide)) kd_491 (by decide) rfl (by decide) (Nat.le_of_ble_eq_true rfl) (v_X12_takeShare hn hR  h) (by decide) (by decide) (fun r_ M_ h_ => ?_) (fun _ _ h_ => h_.elim)
      obtain ⟨J47, L48, rfl, rfl, h⟩ := h_
      show xJ _ _ _ _ _ _ _ _ _ 61 [(0, .ref 491), (1, .int (oI p1)), (2, .long p2), (4, .int (oI 1024)), (5, .long 0)] [] _ _ _ (zi J47) (li L48)
      refine xr_lload_n (xd dX12_answers 35 rfl) 2 rfl ?_
      refine xr_aload_n (xd dX12_answers 36 rfl) 0 rfl ?_
      refine xr_getR (b := 504) 12 20 (xd dX12_answers 37 rfl) f12_46 (by decide) (by decide) (lt552 hn (by decide)) kd_491 rfl (r_491_20 hR) ?_
      refine xr_iconst (v := oI 1) (xd dX12_answers 38 rfl) (by decide) ?_
      refine zr_laload (xd dX12_answers 39 rfl) (lt552 hn (by decide)) kd_504 ln_504 (by decide) ⟨by decide, by decide⟩ ?_
      refine xr_callS mX12_power 2 [.long p2, .long (L48 504 1)] (xd dX12_answers 40 rfl) l12_272 kX12_power rfl rfl (by decide) (Nat.le_of_ble_eq_true rfl) (v_X12_power hn hR  h) (by decide) (by decide) (fun r_ M_ h_ => ?_) (fun _ _ h_ => h_.elim)
      obtain ⟨r51, J49, L50, rfl, rfl, h⟩ := h_
      show xJ _ _ _ _ _ _ _ _ _ 71 [(0, .ref 491), (1, .int (oI p1)), (2, .long p2), (4, .int (oI 1024)), (5, .long 0)] [.long r51] _ _ _ (zi J49) (li L50)
      refine xr_lstore [(0, .ref 491), (1, .int (oI p1)), (2, .long p2), (4, .int (oI 1024)), (5, .long r51)] (xd dX12_answers 41 rfl) (by decide) rfl ?_
      refine xJ.pick (ls' := [(0, .ref 491), (1, .int (oI p1)), (4, .int (oI 1024)), (5, .long r51)]) [0, 1, 3, 4] rfl ?_
      exact h
def w_X12_helloComes (p1 : Int) (p2 : Int) (J : zM) (L : yM) (Q : zM → yM → Prop) : Prop := ∀ x1 : Int, x1 = (1024 + 512) → w_X12_putMessage x1 1 p2 J L (fun J2 L3 => zl_z (fun K4 x5 J6 L7 => R32 x5 ∧ R32 p2 ∧ (if x5 < p2 then ((0 : Int) ≤ (8 + x5) ∧ (8 + x5) < 560) ∧ ((0 : Int) ≤ ((x1 + 3) + x5) ∧ ((x1 + 3) + x5) < 2048) ∧ ∀ J87 : zM, J87 = zs J6 492 ((x1 + 3) + x5) (J6 550 (8 + x5)) → K4 (x5 + 1) J87 L7 else ∀ x11 : Int, x11 = (p2 - 61) → ((0 : Int) ≤ (x1 + 19) ∧ (x1 + 19) < 2048) ∧ R32 (J6 492 (x1 + 19)) ∧ R32 x11 ∧ (if (J6 492 (x1 + 19)) = x11 then ∀ K18 : zM → yM → Prop, (∀ (J16 : zM) (L17 : yM), (zl_zz (fun K19 x20 x21 J22 L23 => R32 x21 ∧ (if x21 < 8 then ((0 : Int) ≤ (((x1 + 24) + x11) + x21) ∧ (((x1 + 24) + x11) + x21) < 2048) ∧ ((0 : Int) ≤ ((1024 + 16) + x21) ∧ ((1024 + 16) + x21) < 2048) ∧ ∀ K49 : Int → zM → yM → Prop, (∀ (x46 : Int) (J47 : zM) (L48 : yM), (∀ x50 : Int, x50 = (zand x20 x46) → K19 x50 (x21 + 1) J47 L48) → K49 x46 J47 L48) → R32 (J22 492 (((x1 + 24) + x11) + x21)) ∧ R32 (J22 492 ((1024 + 16) + x21)) ∧ (if (J22 492 (((x1 + 24) + x11) + x21)) = (J22 492 ((1024 + 16) + x21)) then K49 1 J22 L23 else K49 0 J22 L23) else R32 x20 ∧ (if x20 = 0 then w_X12_serverAlert 40 J22 L23 (fun J42 L43 => Q J42 L43) else w_X12_binder 1 J22 L23 (fun J28 L29 => w_X12_isDigest ((x1 + 32) + x11) 32 J28 L29 (fun r32 J30 L31 => R32 r32 ∧ (if r32 = 0 then w_X12_serverAlert 51 J30 L31 (fun J40 L41 => Q J40 L41) else w_X12_numberAt ((x1 + 20) + x11) 4 J30 L31 (fun r37 J35 L36 => w_X12_answers p1 r37 J35 L36 (fun J38 L39 => Q J38 L39)))))))) 1 0 J16 L17) → K18 J16 L17) → (if (zand (J6 491 1) 1) = 1 then w_X12_keyOwn (1024 + 24) 8 J6 L7 (fun J55 L56 => w_X12_beginCode J55 L56 (fun J57 L58 => w_X12_addOwn (x1 + 3) 16 J57 L58 (fun J59 L60 => w_X12_code J59 L60 (fun J61 L62 => ∀ K65 : zM → yM → Prop, (∀ (J63 : zM) (L64 : yM), (w_X12_store ((1024 + 870) + 3) 16 J63 L64 (fun J66 L67 => w_X12_putMessage (1024 + 870) 6 16 J66 L67 (fun J68 L69 => ∀ J70 : zM, J70 = zs J68 491 30 0 → w_X12_fragment 1 (1024 + 870) 0 p1 0 16 J70 L69 (fun r73 J71 L72 => w_X12_sendMade 1 J71 L72 (fun J74 L75 => Q J74 L75))))) → K65 J63 L64) → R32 x11 ∧ (if x11 = 0 then K65 J61 L62 else w_X12_isDigest (x1 + 20) 16 J61 L62 (fun r80 J78 L79 => R32 r80 ∧ (if r80 = 0 then K65 J78 L79 else K18 J78 L79))))))) else K18 J6 L7) else w_X12_serverAlert 10 J6 L7 (fun J83 L84 => Q J83 L84)))) 0 J2 L3)
set_option maxHeartbeats 4000000 in
set_option maxRecDepth 100000 in
theorem v_X12_helloComes {b : Nat} {dC : Nat → ClassId} {dI : Nat → Nat → Nat} {cA : Nat → ClassId} {ts : Nat → Nat} {l : Launch} {n : Nat} {R : Nat → Nat → Option Nat} {al : Bool} (hn : 552 ≤ n) (hR : xRk R) {p1 : Int} {p2 : Int}  {J : zM} {L : yM} {Q : zM → yM → Prop} (h : w_X12_helloComes p1 p2 J L Q) : xCn (xGm b dC dI cA ts) l mX12_helloComes [.ref 491, .int (oI p1), .int (oI p2)] al (n, R, zi J, li L) 0 0 (zQ0 n R Q) (fun _ _ => False) := by
  refine xCn.ofJ (by decide) (Nat.le_of_ble_eq_true rfl) ?_
  show xJ _ _ _ _ _ _ _ _ _ 0 [(0, .ref 491), (1, .int (oI p1)), (2, .int (oI p2))] [] _ _ _ _ _
  unfold w_X12_helloComes at h
  refine xr_sipush (v := oI 1024) (xd dX12_helloComes 0 rfl) (by decide) ?_
  refine xr_istore_n [(0, .ref 491), (1, .int (oI p1)), (2, .int (oI p2)), (3, .int (oI 1024))] (xd dX12_helloComes 1 rfl) rfl (by decide) rfl ?_
  refine xr_iload_n (xd dX12_helloComes 2 rfl) 3 rfl ?_
  refine xr_sipush (v := oI 512) (xd dX12_helloComes 3 rfl) (by decide) ?_
  refine zr_iadd (xd dX12_helloComes 4 rfl) ?_
  obtain ⟨x1, e_x1⟩ : ∃ z_ : Int, z_ = (1024 + 512) := ⟨_, rfl⟩
  replace h := h x1 e_x1
  refine zr_nm e_x1 ?_
  refine xr_istore [(0, .ref 491), (1, .int (oI p1)), (2, .int (oI p2)), (3, .int (oI 1024)), (4, .int (oI x1))] (xd dX12_helloComes 5 rfl) (by decide) rfl ?_
  refine xr_aload_n (xd dX12_helloComes 6 rfl) 0 rfl ?_
  refine xr_iload (xd dX12_helloComes 7 rfl) 4 rfl ?_
  refine xr_iconst (v := oI 1) (xd dX12_helloComes 8 rfl) (by decide) ?_
  refine xr_iload_n (xd dX12_helloComes 9 rfl) 2 rfl ?_
  refine xr_callV mX12_putMessage 3 [.int (oI x1), .int (oI 1), .int (oI p2)] (xd dX12_helloComes 10 rfl) l12_407 kX12_putMessage rfl (lt552 hn (by decide)) kd_491 (by decide) rfl (by decide) (Nat.le_of_ble_eq_true rfl) (v_X12_putMessage hn hR  h) (by decide) (by decide) (fun r_ M_ h_ => ?_) (fun _ _ h_ => h_.elim)
  obtain ⟨J2, L3, rfl, rfl, h⟩ := h_
  show xJ _ _ _ _ _ _ _ _ _ 19 [(0, .ref 491), (1, .int (oI p1)), (2, .int (oI p2)), (3, .int (oI 1024)), (4, .int (oI x1))] [] _ _ _ (zi J2) (li L3)
  refine xr_iconst (v := oI 0) (xd dX12_helloComes 11 rfl) (by decide) ?_
  refine xr_istore [(0, .ref 491), (1, .int (oI p1)), (2, .int (oI p2)), (3, .int (oI 1024)), (4, .int (oI x1)), (5, .int (oI 0))] (xd dX12_helloComes 12 rfl) (by decide) rfl ?_
  refine h (fun x5 J6 L7 => xJ (xGm b dC dI cA ts) l mX12_helloComes 0 0 (zQ0 n R Q) (fun _ _ => False) 0 0 22 [(0, .ref 491), (1, .int (oI p1)), (2, .int (oI p2)), (3, .int (oI 1024)), (4, .int (oI x1)), (5, .int (oI x5))] [] al n R (zi J6) (li L7)) ?_
  intro x5 J6 L7 h
  show xJ _ _ _ _ _ _ _ _ _ 22 [(0, .ref 491), (1, .int (oI p1)), (2, .int (oI p2)), (3, .int (oI 1024)), (4, .int (oI x1)), (5, .int (oI x5))] [] _ _ _ _ _
  refine xr_iload (xd dX12_helloComes 13 rfl) 5 rfl ?_
  refine xr_iload_n (xd dX12_helloComes 14 rfl) 2 rfl ?_
  obtain ⟨o8, h⟩ := h
  obtain ⟨o9, h⟩ := h
  refine zr_icmp_ge 56 (xd dX12_helloComes 15 rfl) (by decide) o8 o9 (fun c10 => ?_) (fun c10 => ?_)
  · replace h := ifn h c10
    refine xr_iload_n (xd dX12_helloComes 32 rfl) 2 rfl ?_
    refine xr_bipush (v := oI 61) (xd dX12_helloComes 33 rfl) (by decide) ?_
    refine zr_isub (xd dX12_helloComes 34 rfl) ?_
    obtain ⟨x11, e_x11⟩ : ∃ z_ : Int, z_ = (p2 - 61) := ⟨_, rfl⟩
    replace h := h x11 e_x11
    refine zr_nm e_x11 ?_
    refine xr_istore [(0, .ref 491), (1, .int (oI p1)), (2, .int (oI p2)), (3, .int (oI 1024)), (4, .int (oI x1)), (5, .int (oI x11))] (xd dX12_helloComes 35 rfl) (by decide) rfl ?_
    refine xr_aload_n (xd dX12_helloComes 36 rfl) 0 rfl ?_
    refine xr_getR (b := 492) 12 5 (xd dX12_helloComes 37 rfl) f12_7 (by decide) (by decide) (lt552 hn (by decide)) kd_491 rfl (r_491_5 hR) ?_
    refine xr_iload (xd dX12_helloComes 38 rfl) 4 rfl ?_
    refine xr_bipush (v := oI 19) (xd dX12_helloComes 39 rfl) (by decide) ?_
    refine zr_iadd (xd dX12_helloComes 40 rfl) ?_
    obtain ⟨o12, h⟩ := h
    refine zr_iaload (xd dX12_helloComes 41 rfl) (lt552 hn (by decide)) kd_492 ln_492 (by decide) o12 ?_
    refine xr_iload (xd dX12_helloComes 42 rfl) 5 rfl ?_
    obtain ⟨o13, h⟩ := h
    obtain ⟨o14, h⟩ := h
    refine zr_icmp_eq 84 (xd dX12_helloComes 43 rfl) (by decide) o13 o14 (fun c15 => ?_) (fun c15 => ?_)
    · replace h := ifp h c15
      refine xr_aload_n (xd dX12_helloComes 48 rfl) 0 rfl ?_
      refine zr_getI 12 1 1 rfl (xd dX12_helloComes 49 rfl) f12_383 (by decide) (by decide) (lt552 hn (by decide)) kd_491 rfl ?_
      refine xr_iconst (v := oI 1) (xd dX12_helloComes 50 rfl) (by decide) ?_
      refine zr_iand (xd dX12_helloComes 51 rfl) ?_
      refine xr_iconst (v := oI 1) (xd dX12_helloComes 52 rfl) (by decide) ?_
      replace h := h (fun (J16 : zM) (L17 : yM) => xJ (xGm b dC dI cA ts) l mX12_helloComes 0 0 (zQ0 n R Q) (fun _ _ => False) 0 0 195 [(0, .ref 491), (1, .int (oI p1)), (3, .int (oI 1024)), (4, .int (oI x1)), (5, .int (oI x11))] [] al n R (zi J16) (li L17)) (by
        intro J16 L17 h
        show xJ _ _ _ _ _ _ _ _ _ 195 [(0, .ref 491), (1, .int (oI p1)), (3, .int (oI 1024)), (4, .int (oI x1)), (5, .int (oI x11))] [] _ _ _ _ _
        refine xr_iconst (v := oI 1) (xd dX12_helloComes 112 rfl) (by decide) ?_
        refine xr_istore [(0, .ref 491), (1, .int (oI p1)), (3, .int (oI 1024)), (4, .int (oI x1)), (5, .int (oI x11)), (6, .int (oI 1))] (xd dX12_helloComes 113 rfl) (by decide) rfl ?_
        refine xr_iconst (v := oI 0) (xd dX12_helloComes 114 rfl) (by decide) ?_
        refine xr_istore [(0, .ref 491), (1, .int (oI p1)), (3, .int (oI 1024)), (4, .int (oI x1)), (5, .int (oI x11)), (6, .int (oI 1)), (7, .int (oI 0))] (xd dX12_helloComes 115 rfl) (by decide) rfl ?_
        refine h (fun x20 x21 J22 L23 => xJ (xGm b dC dI cA ts) l mX12_helloComes 0 0 (zQ0 n R Q) (fun _ _ => False) 0 0 201 [(0, .ref 491), (1, .int (oI p1)), (3, .int (oI 1024)), (4, .int (oI x1)), (5, .int (oI x11)), (6, .int (oI x20)), (7, .int (oI x21))] [] al n R (zi J22) (li L23)) ?_
        intro x20 x21 J22 L23 h
        show xJ _ _ _ _ _ _ _ _ _ 201 [(0, .ref 491), (1, .int (oI p1)), (3, .int (oI 1024)), (4, .int (oI x1)), (5, .int (oI x11)), (6, .int (oI x20)), (7, .int (oI x21))] [] _ _ _ _ _
        refine xr_iload (xd dX12_helloComes 116 rfl) 6 rfl ?_
        refine xr_bipush (v := oI 8) (xd dX12_helloComes 117 rfl) (by decide) ?_
        obtain ⟨o24, h⟩ := h
        refine zr_icmp_ge 255 (xd dX12_helloComes 118 rfl) (by decide) o24 (by decide) (fun c25 => ?_) (fun c25 => ?_)
        · replace h := ifn h c25
          refine xr_iload (xd dX12_helloComes 146 rfl) 5 rfl ?_
          obtain ⟨o26, h⟩ := h
          refine zr_if_ne 267 (xd dX12_helloComes 147 rfl) (by decide) o26 (fun c27 => ?_) (fun c27 => ?_)
          · replace h := ifn h c27
            refine xr_aload_n (xd dX12_helloComes 152 rfl) 0 rfl ?_
            refine xr_iconst (v := oI 1) (xd dX12_helloComes 153 rfl) (by decide) ?_
            refine xr_callV mX12_binder 1 [.int (oI 1)] (xd dX12_helloComes 154 rfl) l12_415 kX12_binder rfl (lt552 hn (by decide)) kd_491 (by decide) rfl (by decide) (Nat.le_of_ble_eq_true rfl) (v_X12_binder hn hR  h) (by decide) (by decide) (fun r_ M_ h_ => ?_) (fun _ _ h_ => h_.elim)
            obtain ⟨J28, L29, rfl, rfl, h⟩ := h_
            show xJ _ _ _ _ _ _ _ _ _ 272 [(0, .ref 491), (1, .int (oI p1)), (3, .int (oI 1024)), (4, .int (oI x1)), (5, .int (oI x11)), (6, .int (oI x20)), (7, .int (oI x21))] [] _ _ _ (zi J28) (li L29)
            refine xr_aload_n (xd dX12_helloComes 155 rfl) 0 rfl ?_
            refine xr_iload (xd dX12_helloComes 156 rfl) 3 rfl ?_
            refine xr_bipush (v := oI 32) (xd dX12_helloComes 157 rfl) (by decide) ?_
            refine zr_iadd (xd dX12_helloComes 158 rfl) ?_
            refine xr_iload (xd dX12_helloComes 159 rfl) 4 rfl ?_
            refine zr_iadd (xd dX12_helloComes 160 rfl) ?_
            refine xr_bipush (v := oI 32) (xd dX12_helloComes 161 rfl) (by decide) ?_
            refine xr_callV mX12_isDigest 2 [.int (oI ((x1 + 32) + x11)), .int (oI 32)] (xd dX12_helloComes 162 rfl) l12_440 kX12_isDigest rfl (lt552 hn (by decide)) kd_491 (by decide) rfl (by decide) (Nat.le_of_ble_eq_true rfl) (v_X12_isDigest hn hR  h) (by decide) (by decide) (fun r_ M_ h_ => ?_) (fun _ _ h_ => h_.elim)
            obtain ⟨r32, J30, L31, rfl, rfl, h⟩ := h_
            show xJ _ _ _ _ _ _ _ _ _ 286 [(0, .ref 491), (1, .int (oI p1)), (3, .int (oI 1024)), (4, .int (oI x1)), (5, .int (oI x11)), (6, .int (oI x20)), (7, .int (oI x21))] [.int (oI r32)] _ _ _ (zi J30) (li L31)
            obtain ⟨o33, h⟩ := h
            refine zr_if_ne 296 (xd dX12_helloComes 163 rfl) (by decide) o33 (fun c34 => ?_) (fun c34 => ?_)
            · replace h := ifn h c34
              refine xr_aload_n (xd dX12_helloComes 168 rfl) 0 rfl ?_
              refine xr_iload_n (xd dX12_helloComes 169 rfl) 1 rfl ?_
              refine xr_aload_n (xd dX12_helloComes 170 rfl) 0 rfl ?_
              refine xr_iload (xd dX12_helloComes 171 rfl) 3 rfl ?_
              refine xr_bipush (v := oI 20) (xd dX12_helloComes 172 rfl) (by decide) ?_
              refine zr_iadd (xd dX12_helloComes 173 rfl) ?_
              refine xr_iload (xd dX12_helloComes 174 rfl) 4 rfl ?_
              refine zr_iadd (xd dX12_helloComes 175 rfl) ?_
              refine xr_iconst (v := oI 4) (xd dX12_helloComes 176 rfl) (by decide) ?_
              refine xr_callV mX12_numberAt 2 [.int (oI ((x1 + 20) + x11)), .int (oI 4)] (xd dX12_helloComes 177 rfl) l12_444 kX12_numberAt rfl (lt552 hn (by decide)) kd_491 (by decide) rfl (by decide) (Nat.le_of_ble_eq_true rfl) (v_X12_numberAt hn hR  h) (by decide) (by decide) (fun r_ M_ h_ => ?_) (fun _ _ h_ => h_.elim)
              obtain ⟨r37, J35, L36, rfl, rfl, h⟩ := h_
              show xJ _ _ _ _ _ _ _ _ _ 311 [(0, .ref 491), (1, .int (oI p1)), (3, .int (oI 1024)), (4, .int (oI x1)), (5, .int (oI x11)), (6, .int (oI x20)), (7, .int (oI x21))] [.long r37, .int (oI p1), .ref 491] _ _ _ (zi J35) (li L36)
              refine xr_callV mX12_answers 2 [.int (oI p1), .long r37] (xd dX12_helloComes 178 rfl) l12_448 kX12_answers rfl (lt552 hn (by decide)) kd_491 (by decide) rfl (by decide) (Nat.le_of_ble_eq_true rfl) (v_X12_answers hn hR  h) (by decide) (by decide) (fun r_ M_ h_ => ?_) (fun _ _ h_ => h_.elim)
              obtain ⟨J38, L39, rfl, rfl, h⟩ := h_
              show xJ _ _ _ _ _ _ _ _ _ 314 [(0, .ref 491), (1, .int (oI p1)), (3, .int (oI 1024)), (4, .int (oI x1)), (5, .int (oI x11)), (6, .int (oI x20)), (7, .int (oI x21))] [] _ _ _ (zi J38) (li L39)
              exact xr_vret (xd dX12_helloComes 179 rfl) rfl (by decide) (by decide) (fun _ => rfl) ⟨_, _, rfl, rfl, h⟩
            · replace h := ifp h c34
              refine xr_aload_n (xd dX12_helloComes 164 rfl) 0 rfl ?_
              refine xr_bipush (v := oI 51) (xd dX12_helloComes 165 rfl) (by decide) ?_
              refine xr_callV mX12_serverAlert 1 [.int (oI 51)] (xd dX12_helloComes 166 rfl) l12_437 kX12_serverAlert rfl (lt552 hn (by decide)) kd_491 (by decide) rfl (by decide) (Nat.le_of_ble_eq_true rfl) (v_X12_serverAlert hn hR  h) (by decide) (by decide) (fun r_ M_ h_ => ?_) (fun _ _ h_ => h_.elim)
              obtain ⟨J40, L41, rfl, rfl, h⟩ := h_
              show xJ _ _ _ _ _ _ _ _ _ 295 [(0, .ref 491), (1, .int (oI p1)), (3, .int (oI 1024)), (4, .int (oI x1)), (5, .int (oI x11)), (6, .int (oI x20)), (7, .int (oI x21))] [] _ _ _ (zi J40) (li L41)
              exact xr_vret (xd dX12_helloComes 167 rfl) rfl (by decide) (by decide) (fun _ => rfl) ⟨_, _, rfl, rfl, h⟩
          · replace h := ifp h c27
            refine xr_aload_n (xd dX12_helloComes 148 rfl) 0 rfl ?_
            refine xr_bipush (v := oI 40) (xd dX12_helloComes 149 rfl) (by decide) ?_
            refine xr_callV mX12_serverAlert 1 [.int (oI 40)] (xd dX12_helloComes 150 rfl) l12_437 kX12_serverAlert rfl (lt552 hn (by decide)) kd_491 (by decide) rfl (by decide) (Nat.le_of_ble_eq_true rfl) (v_X12_serverAlert hn hR  h) (by decide) (by decide) (fun r_ M_ h_ => ?_) (fun _ _ h_ => h_.elim)
            obtain ⟨J42, L43, rfl, rfl, h⟩ := h_
            show xJ _ _ _ _ _ _ _ _ _ 266 [(0, .ref 491), (1, .int (oI p1)), (3, .int (oI 1024)), (4, .int (oI x1)), (5, .int (oI x11)), (6, .int (oI x20)), (7, .int (oI x21))] [] _ _ _ (zi J42) (li L43)
            exact xr_vret (xd dX12_helloComes 151 rfl) rfl (by decide) (by decide) (fun _ => rfl) ⟨_, _, rfl, rfl, h⟩
        · replace h := ifp h c25
          refine xr_iload (xd dX12_helloComes 119 rfl) 5 rfl ?_
          refine xr_aload_n (xd dX12_helloComes 120 rfl) 0 rfl ?_
          refine xr_getR (b := 492) 12 5 (xd dX12_helloComes 121 rfl) f12_7 (by decide) (by decide) (lt552 hn (by decide)) kd_491 rfl (r_491_5 hR) ?_
          refine xr_iload (xd dX12_helloComes 122 rfl) 3 rfl ?_
          refine xr_bipush (v := oI 24) (xd dX12_helloComes 123 rfl) (by decide) ?_
          refine zr_iadd (xd dX12_helloComes 124 rfl) ?_
          refine xr_iload (xd dX12_helloComes 125 rfl) 4 rfl ?_
          refine zr_iadd (xd dX12_helloComes 126 rfl) ?_
          refine xr_iload (xd dX12_helloComes 127 rfl) 6 rfl ?_
          refine zr_iadd (xd dX12_helloComes 128 rfl) ?_
          obtain ⟨o44, h⟩ := h
          refine zr_iaload (xd dX12_helloComes 129 rfl) (lt552 hn (by decide)) kd_492 ln_492 (by decide) o44 ?_
          refine xr_aload_n (xd dX12_helloComes 130 rfl) 0 rfl ?_
          refine xr_getR (b := 492) 12 5 (xd dX12_helloComes 131 rfl) f12_7 (by decide) (by decide) (lt552 hn (by decide)) kd_491 rfl (r_491_5 hR) ?_
          refine xr_iload_n (xd dX12_helloComes 132 rfl) 2 rfl ?_
          refine xr_bipush (v := oI 16) (xd dX12_helloComes 133 rfl) (by decide) ?_
          refine zr_iadd (xd dX12_helloComes 134 rfl) ?_
          refine xr_iload (xd dX12_helloComes 135 rfl) 6 rfl ?_
          refine zr_iadd (xd dX12_helloComes 136 rfl) ?_
          obtain ⟨o45, h⟩ := h
          refine zr_iaload (xd dX12_helloComes 137 rfl) (lt552 hn (by decide)) kd_492 ln_492 (by decide) o45 ?_
          replace h := h (fun (x46 : Int) (J47 : zM) (L48 : yM) => xJ (xGm b dC dI cA ts) l mX12_helloComes 0 0 (zQ0 n R Q) (fun _ _ => False) 0 0 246 [(0, .ref 491), (1, .int (oI p1)), (3, .int (oI 1024)), (4, .int (oI x1)), (5, .int (oI x11)), (7, .int (oI x21))] [.int (oI x46), .int (oI x20)] al n R (zi J47) (li L48)) (by
            intro x46 J47 L48 h
            show xJ _ _ _ _ _ _ _ _ _ 246 [(0, .ref 491), (1, .int (oI p1)), (3, .int (oI 1024)), (4, .int (oI x1)), (5, .int (oI x11)), (7, .int (oI x21))] [.int (oI x46), .int (oI x20)] _ _ _ _ _
            refine zr_iand (xd dX12_helloComes 142 rfl) ?_
            obtain ⟨x50, e_x50⟩ : ∃ z_ : Int, z_ = (zand x20 x46) := ⟨_, rfl⟩
            replace h := h x50 e_x50
            refine zr_nm e_x50 ?_
            refine xr_istore [(0, .ref 491), (1, .int (oI p1)), (3, .int (oI 1024)), (4, .int (oI x1)), (5, .int (oI x11)), (6, .int (oI x50)), (7, .int (oI x21))] (xd dX12_helloComes 143 rfl) (by decide) rfl ?_
            refine zr_iinc [(0, .ref 491), (1, .int (oI p1)), (3, .int (oI 1024)), (4, .int (oI x1)), (5, .int (oI x11)), (6, .int (oI x50)), (7, .int (oI (x21 + 1)))] (xd dX12_helloComes 144 rfl) 6 rfl (by decide) rfl ?_
            refine xr_goto 201 (xd dX12_helloComes 145 rfl) (by decide) ?_
            exact h)
          obtain ⟨o51, h⟩ := h
          obtain ⟨o52, h⟩ := h
          refine zr_icmp_ne 245 (xd dX12_helloComes 138 rfl) (by decide) o51 o52 (fun c53 => ?_) (fun c53 => ?_)
          · replace h := ifn h c53
            refine xr_iconst (v := oI 0) (xd dX12_helloComes 141 rfl) (by decide) ?_
            refine xJ.pick (ls' := [(0, .ref 491), (1, .int (oI p1)), (3, .int (oI 1024)), (4, .int (oI x1)), (5, .int (oI x11)), (7, .int (oI x21))]) [0, 1, 2, 3, 4, 6] rfl ?_
            exact h
          · replace h := ifp h c53
            refine xr_iconst (v := oI 1) (xd dX12_helloComes 139 rfl) (by decide) ?_
            refine xr_goto 246 (xd dX12_helloComes 140 rfl) (by decide) ?_
            refine xJ.pick (ls' := [(0, .ref 491), (1, .int (oI p1)), (3, .int (oI 1024)), (4, .int (oI x1)), (5, .int (oI x11)), (7, .int (oI x21))]) [0, 1, 2, 3, 4, 6] rfl ?_
            exact h)
      refine zr_icmp_ne 195 (xd dX12_helloComes 53 rfl) (by decide) (R32_of _) (by decide) (fun c54 => ?_) (fun c54 => ?_)
      · replace h := ifn h c54
        refine xJ.pick (ls' := [(0, .ref 491), (1, .int (oI p1)), (3, .int (oI 1024)), (4, .int (oI x1)), (5, .int (oI x11))]) [0, 1, 3, 4, 5] rfl ?_
        exact h
      · replace h := ifp h c54
        refine xr_aload_n (xd dX12_helloComes 54 rfl) 0 rfl ?_
        refine xr_iload_n (xd dX12_helloComes 55 rfl) 3 rfl ?_
        refine xr_bipush (v := oI 24) (xd dX12_helloComes 56 rfl) (by decide) ?_
        refine zr_iadd (xd dX12_helloComes 57 rfl) ?_
        refine xr_bipush (v := oI 8) (xd dX12_helloComes 58 rfl) (by decide) ?_
        refine xr_callV mX12_keyOwn 2 [.int (oI (1024 + 24)), .int (oI 8)] (xd dX12_helloComes 59 rfl) l12_257 kX12_keyOwn rfl (lt552 hn (by decide)) kd_491 (by decide) rfl (by decide) (Nat.le_of_ble_eq_true rfl) (v_X12_keyOwn hn hR  h) (by decide) (by decide) (fun r_ M_ h_ => ?_) (fun _ _ h_ => h_.elim)
        obtain ⟨J55, L56, rfl, rfl, h⟩ := h_
        show xJ _ _ _ _ _ _ _ _ _ 104 [(0, .ref 491), (1, .int (oI p1)), (2, .int (oI p2)), (3, .int (oI 1024)), (4, .int (oI x1)), (5, .int (oI x11))] [] _ _ _ (zi J55) (li L56)
        refine xr_aload_n (xd dX12_helloComes 60 rfl) 0 rfl ?_
        refine xr_callV mX12_beginCode 0 [] (xd dX12_helloComes 61 rfl) l12_247 kX12_beginCode rfl (lt552 hn (by decide)) kd_491 (by decide) rfl (by decide) (Nat.le_of_ble_eq_true rfl) (v_X12_beginCode hn hR  h) (by decide) (by decide) (fun r_ M_ h_ => ?_) (fun _ _ h_ => h_.elim)
        obtain ⟨J57, L58, rfl, rfl, h⟩ := h_
        show xJ _ _ _ _ _ _ _ _ _ 108 [(0, .ref 491), (1, .int (oI p1)), (2, .int (oI p2)), (3, .int (oI 1024)), (4, .int (oI x1)), (5, .int (oI x11))] [] _ _ _ (zi J57) (li L58)
        refine xr_aload_n (xd dX12_helloComes 62 rfl) 0 rfl ?_
        refine xr_iload (xd dX12_helloComes 63 rfl) 4 rfl ?_
        refine xr_iconst (v := oI 3) (xd dX12_helloComes 64 rfl) (by decide) ?_
        refine zr_iadd (xd dX12_helloComes 65 rfl) ?_
        refine xr_bipush (v := oI 16) (xd dX12_helloComes 66 rfl) (by decide) ?_
        refine xr_callV mX12_addOwn 2 [.int (oI (x1 + 3)), .int (oI 16)] (xd dX12_helloComes 67 rfl) l12_276 kX12_addOwn rfl (lt552 hn (by decide)) kd_491 (by decide) rfl (by decide) (Nat.le_of_ble_eq_true rfl) (v_X12_addOwn hn hR  h) (by decide) (by decide) (fun r_ M_ h_ => ?_) (fun _ _ h_ => h_.elim)
        obtain ⟨J59, L60, rfl, rfl, h⟩ := h_
        show xJ _ _ _ _ _ _ _ _ _ 118 [(0, .ref 491), (1, .int (oI p1)), (2, .int (oI p2)), (3, .int (oI 1024)), (4, .int (oI x1)), (5, .int (oI x11))] [] _ _ _ (zi J59) (li L60)
        refine xr_aload_n (xd dX12_helloComes 68 rfl) 0 rfl ?_
        refine xr_callV mX12_code 0 [] (xd dX12_helloComes 69 rfl) l12_254 kX12_code rfl (lt552 hn (by decide)) kd_491 (by decide) rfl (by decide) (Nat.le_of_ble_eq_true rfl) (v_X12_code hn hR  h) (by decide) (by decide) (fun r_ M_ h_ => ?_) (fun _ _ h_ => h_.elim)
        obtain ⟨J61, L62, rfl, rfl, h⟩ := h_
        show xJ _ _ _ _ _ _ _ _ _ 122 [(0, .ref 491), (1, .int (oI p1)), (2, .int (oI p2)), (3, .int (oI 1024)), (4, .int (oI x1)), (5, .int (oI x11))] [] _ _ _ (zi J61) (li L62)
        refine xr_iload (xd dX12_helloComes 70 rfl) 5 rfl ?_
        replace h := h (fun (J63 : zM) (L64 : yM) => xJ (xGm b dC dI cA ts) l mX12_helloComes 0 0 (zQ0 n R Q) (fun _ _ => False) 0 0 141 [(0, .ref 491), (1, .int (oI p1)), (3, .int (oI 1024))] [] al n R (zi J63) (li L64)) (by
          intro J63 L64 h
          show xJ _ _ _ _ _ _ _ _ _ 141 [(0, .ref 491), (1, .int (oI p1)), (3, .int (oI 1024))] [] _ _ _ _ _
          refine xr_aload_n (xd dX12_helloComes 79 rfl) 0 rfl ?_
          refine xr_iload_n (xd dX12_helloComes 80 rfl) 2 rfl ?_
          refine xr_sipush (v := oI 870) (xd dX12_helloComes 81 rfl) (by decide) ?_
          refine zr_iadd (xd dX12_helloComes 82 rfl) ?_
          refine xr_iconst (v := oI 3) (xd dX12_helloComes 83 rfl) (by decide) ?_
          refine zr_iadd (xd dX12_helloComes 84 rfl) ?_
          refine xr_bipush (v := oI 16) (xd dX12_helloComes 85 rfl) (by decide) ?_
          refine xr_callV mX12_store 2 [.int (oI ((1024 + 870) + 3)), .int (oI 16)] (xd dX12_helloComes 86 rfl) l12_279 kX12_store rfl (lt552 hn (by decide)) kd_491 (by decide) rfl (by decide) (Nat.le_of_ble_eq_true rfl) (v_X12_store hn hR  h) (by decide) (by decide) (fun r_ M_ h_ => ?_) (fun _ _ h_ => h_.elim)
          obtain ⟨J66, L67, rfl, rfl, h⟩ := h_
          show xJ _ _ _ _ _ _ _ _ _ 154 [(0, .ref 491), (1, .int (oI p1)), (3, .int (oI 1024))] [] _ _ _ (zi J66) (li L67)
          refine xr_aload_n (xd dX12_helloComes 87 rfl) 0 rfl ?_
          refine xr_iload_n (xd dX12_helloComes 88 rfl) 2 rfl ?_
          refine xr_sipush (v := oI 870) (xd dX12_helloComes 89 rfl) (by decide) ?_
          refine zr_iadd (xd dX12_helloComes 90 rfl) ?_
          refine xr_bipush (v := oI 6) (xd dX12_helloComes 91 rfl) (by decide) ?_
          refine xr_bipush (v := oI 16) (xd dX12_helloComes 92 rfl) (by decide) ?_
          refine xr_callV mX12_putMessage 3 [.int (oI (1024 + 870)), .int (oI 6), .int (oI 16)] (xd dX12_helloComes 93 rfl) l12_407 kX12_putMessage rfl (lt552 hn (by decide)) kd_491 (by decide) rfl (by decide) (Nat.le_of_ble_eq_true rfl) (v_X12_putMessage hn hR  h) (by decide) (by decide) (fun r_ M_ h_ => ?_) (fun _ _ h_ => h_.elim)
          obtain ⟨J68, L69, rfl, rfl, h⟩ := h_
          show xJ _ _ _ _ _ _ _ _ _ 167 [(0, .ref 491), (1, .int (oI p1)), (3, .int (oI 1024))] [] _ _ _ (zi J68) (li L69)
          refine xr_aload_n (xd dX12_helloComes 94 rfl) 0 rfl ?_
          refine xr_iconst (v := oI 0) (xd dX12_helloComes 95 rfl) (by decide) ?_
          obtain ⟨J70, e_J70⟩ : ∃ z_ : zM, z_ = zs J68 491 30 0 := ⟨_, rfl⟩
          replace h := h J70 e_J70
          refine zr_putI 12 30 30 rfl e_J70 (xd dX12_helloComes 96 rfl) f12_320 (by decide) (by decide) (lt552 hn (by decide)) kd_491 (Or.inl rfl) rfl rfl (fun _ => rfl) ?_
          refine xr_aload_n (xd dX12_helloComes 97 rfl) 0 rfl ?_
          refine xr_iconst (v := oI 1) (xd dX12_helloComes 98 rfl) (by decide) ?_
          refine xr_iload_n (xd dX12_helloComes 99 rfl) 2 rfl ?_
          refine xr_sipush (v := oI 870) (xd dX12_helloComes 100 rfl) (by decide) ?_
          refine zr_iadd (xd dX12_helloComes 101 rfl) ?_
          refine xr_iconst (v := oI 0) (xd dX12_helloComes 102 rfl) (by decide) ?_
          refine xr_iload_n (xd dX12_helloComes 103 rfl) 1 rfl ?_
          refine xr_iconst (v := oI 0) (xd dX12_helloComes 104 rfl) (by decide) ?_
          refine xr_bipush (v := oI 16) (xd dX12_helloComes 105 rfl) (by decide) ?_
          refine xr_callV mX12_fragment 6 [.int (oI 1), .int (oI (1024 + 870)), .int (oI 0), .int (oI p1), .int (oI 0), .int (oI 16)] (xd dX12_helloComes 106 rfl) l12_366 kX12_fragment rfl (lt552 hn (by decide)) kd_491 (by decide) rfl (by decide) (Nat.le_of_ble_eq_true rfl) (v_X12_fragment hn hR  h) (by decide) (by decide) (fun r_ M_ h_ => ?_) (fun _ _ h_ => h_.elim)
          obtain ⟨r73, J71, L72, rfl, rfl, h⟩ := h_
          show xJ _ _ _ _ _ _ _ _ _ 187 [(0, .ref 491), (1, .int (oI p1)), (3, .int (oI 1024))] [.int (oI r73)] _ _ _ (zi J71) (li L72)
          refine xr_istore [(0, .ref 491), (1, .int (oI p1)), (3, .int (oI 1024)), (6, .int (oI r73))] (xd dX12_helloComes 107 rfl) (by decide) rfl ?_
          refine xr_aload_n (xd dX12_helloComes 108 rfl) 0 rfl ?_
          refine xr_iconst (v := oI 1) (xd dX12_helloComes 109 rfl) (by decide) ?_
          refine xr_callV mX12_sendMade 1 [.int (oI 1)] (xd dX12_helloComes 110 rfl) l12_354 kX12_sendMade rfl (lt552 hn (by decide)) kd_491 (by decide) rfl (by decide) (Nat.le_of_ble_eq_true rfl) (v_X12_sendMade hn hR  h) (by decide) (by decide) (fun r_ M_ h_ => ?_) (fun _ _ h_ => h_.elim)
          obtain ⟨J74, L75, rfl, rfl, h⟩ := h_
          show xJ _ _ _ _ _ _ _ _ _ 194 [(0, .ref 491), (1, .int (oI p1)), (3, .int (oI 1024)), (6, .int (oI r73))] [] _ _ _ (zi J74) (li L75)
          exact xr_vret (xd dX12_helloComes 111 rfl) rfl (by decide) (by decide) (fun _ => rfl) ⟨_, _, rfl, rfl, h⟩)
        obtain ⟨o76, h⟩ := h
        refine zr_if_eq 141 (xd dX12_helloComes 71 rfl) (by decide) o76 (fun c77 => ?_) (fun c77 => ?_)
        · replace h := ifp h c77
          refine xJ.pick (ls' := [(0, .ref 491), (1, .int (oI p1)), (3, .int (oI 1024))]) [0, 1, 3] rfl ?_
          exact h
        · replace h := ifn h c77
          refine xr_aload_n (xd dX12_helloComes 72 rfl) 0 rfl ?_
          refine xr_iload (xd dX12_helloComes 73 rfl) 4 rfl ?_
          refine xr_bipush (v := oI 20) (xd dX12_helloComes 74 rfl) (by decide) ?_
          refine zr_iadd (xd dX12_helloComes 75 rfl) ?_
          refine xr_bipush (v := oI 16) (xd dX12_helloComes 76 rfl) (by decide) ?_
          refine xr_callV mX12_isDigest 2 [.int (oI (x1 + 20)), .int (oI 16)] (xd dX12_helloComes 77 rfl) l12_440 kX12_isDigest rfl (lt552 hn (by decide)) kd_491 (by decide) rfl (by decide) (Nat.le_of_ble_eq_true rfl) (v_X12_isDigest hn hR  h) (by decide) (by decide) (fun r_ M_ h_ => ?_) (fun _ _ h_ => h_.elim)
          obtain ⟨r80, J78, L79, rfl, rfl, h⟩ := h_
          show xJ _ _ _ _ _ _ _ _ _ 138 [(0, .ref 491), (1, .int (oI p1)), (2, .int (oI p2)), (3, .int (oI 1024)), (4, .int (oI x1)), (5, .int (oI x11))] [.int (oI r80)] _ _ _ (zi J78) (li L79)
          obtain ⟨o81, h⟩ := h
          refine zr_if_ne 195 (xd dX12_helloComes 78 rfl) (by decide) o81 (fun c82 => ?_) (fun c82 => ?_)
          · replace h := ifn h c82
            refine xJ.pick (ls' := [(0, .ref 491), (1, .int (oI p1)), (3, .int (oI 1024)), (4, .int (oI x1)), (5, .int (oI x11))]) [0, 1, 3, 4, 5] rfl ?_
            exact h
          · replace h := ifp h c82
            refine xJ.pick (ls' := [(0, .ref 491), (1, .int (oI p1)), (3, .int (oI 1024))]) [0, 1, 3] rfl ?_
            exact h
    · replace h := ifn h c15
      refine xr_aload_n (xd dX12_helloComes 44 rfl) 0 rfl ?_
      refine xr_bipush (v := oI 10) (xd dX12_helloComes 45 rfl) (by decide) ?_
      refine xr_callV mX12_serverAlert 1 [.int (oI 10)] (xd dX12_helloComes 46 rfl) l12_437 kX12_serverAlert rfl (lt552 hn (by decide)) kd_491 (by decide) rfl (by decide) (Nat.le_of_ble_eq_true rfl) (v_X12_serverAlert hn hR  h) (by decide) (by decide) (fun r_ M_ h_ => ?_) (fun _ _ h_ => h_.elim)
      obtain ⟨J83, L84, rfl, rfl, h⟩ := h_
      show xJ _ _ _ _ _ _ _ _ _ 83 [(0, .ref 491), (1, .int (oI p1)), (2, .int (oI p2)), (3, .int (oI 1024)), (4, .int (oI x1)), (5, .int (oI x11))] [] _ _ _ (zi J83) (li L84)
      exact xr_vret (xd dX12_helloComes 47 rfl) rfl (by decide) (by decide) (fun _ => rfl) ⟨_, _, rfl, rfl, h⟩
  · replace h := ifp h c10
    refine xr_aload_n (xd dX12_helloComes 16 rfl) 0 rfl ?_
    refine xr_getR (b := 492) 12 5 (xd dX12_helloComes 17 rfl) f12_7 (by decide) (by decide) (lt552 hn (by decide)) kd_491 rfl (r_491_5 hR) ?_
    refine xr_iload (xd dX12_helloComes 18 rfl) 4 rfl ?_
    refine xr_iconst (v := oI 3) (xd dX12_helloComes 19 rfl) (by decide) ?_
    refine zr_iadd (xd dX12_helloComes 20 rfl) ?_
    refine xr_iload (xd dX12_helloComes 21 rfl) 5 rfl ?_
    refine zr_iadd (xd dX12_helloComes 22 rfl) ?_
    refine xr_aload_n (xd dX12_helloComes 23 rfl) 0 rfl ?_
    refine xr_getR (b := 550) 12 69 (xd dX12_helloComes 24 rfl) f12_187 (by decide) (by decide) (lt552 hn (by decide)) kd_491 rfl (r_491_69 hR) ?_
    refine xr_bipush (v := oI 8) (xd dX12_helloComes 25 rfl) (by decide) ?_
    refine xr_iload (xd dX12_helloComes 26 rfl) 5 rfl ?_
    refine zr_iadd (xd dX12_helloComes 27 rfl) ?_
    obtain ⟨o85, h⟩ := h
    refine zr_iaload (xd dX12_helloComes 28 rfl) (lt552 hn (by decide)) kd_550 ln_550 (by decide) o85 ?_
    obtain ⟨o86, h⟩ := h
    obtain ⟨J87, e_J87⟩ : ∃ z_ : zM, z_ = zs J6 492 ((x1 + 3) + x5) (J6 550 (8 + x5)) := ⟨_, rfl⟩
    replace h := h J87 e_J87
    refine zr_iastore e_J87 (xd dX12_helloComes 29 rfl) (lt552 hn (by decide)) kd_492 ln_492 (by decide) o86 ?_
    refine zr_iinc [(0, .ref 491), (1, .int (oI p1)), (2, .int (oI p2)), (3, .int (oI 1024)), (4, .int (oI x1)), (5, .int (oI (x5 + 1)))] (xd dX12_helloComes 30 rfl) 5 rfl (by decide) rfl ?_
    refine xr_goto 22 (xd dX12_helloComes 31 rfl) (by decide) ?_
    exact h
def w_X12_copyKept (p1 : Int) (p2 : Int) (J : zM) (L : yM) (Q : zM → yM → Prop) : Prop := ((0 : Int) ≤ p1 ∧ p1 < 16) ∧ ((0 : Int) ≤ p1 ∧ p1 < 16) ∧ w_X12_putMessage p2 (J 541 p1) (J 542 p1) J L (fun J3 L4 => zl_z (fun K5 x6 J7 L8 => ((0 : Int) ≤ p1 ∧ p1 < 16) ∧ R32 x6 ∧ R32 (J7 542 p1) ∧ (if x6 < (J7 542 p1) then ((0 : Int) ≤ ((200 * p1) + x6) ∧ ((200 * p1) + x6) < 3200) ∧ ((0 : Int) ≤ ((p2 + 3) + x6) ∧ ((p2 + 3) + x6) < 2048) ∧ ∀ J15 : zM, J15 = zs J7 492 ((p2 + 3) + x6) (J7 544 ((200 * p1) + x6)) → K5 (x6 + 1) J15 L8 else Q J7 L8)) 0 J3 L4)
set_option maxHeartbeats 4000000 in
set_option maxRecDepth 100000 in
theorem v_X12_copyKept {b : Nat} {dC : Nat → ClassId} {dI : Nat → Nat → Nat} {cA : Nat → ClassId} {ts : Nat → Nat} {l : Launch} {n : Nat} {R : Nat → Nat → Option Nat} {al : Bool} (hn : 552 ≤ n) (hR : xRk R) {p1 : Int} {p2 : Int}  {J : zM} {L : yM} {Q : zM → yM → Prop} (h : w_X12_copyKept p1 p2 J L Q) : xCn (xGm b dC dI cA ts) l mX12_copyKept [.ref 491, .int (oI p1), .int (oI p2)] al (n, R, zi J, li L) 0 0 (zQ0 n R Q) (fun _ _ => False) := by
  refine xCn.ofJ (by decide) (Nat.le_of_ble_eq_true rfl) ?_
  show xJ _ _ _ _ _ _ _ _ _ 0 [(0, .ref 491), (1, .int (oI p1)), (2, .int (oI p2))] [] _ _ _ _ _
  unfold w_X12_copyKept at h
  refine xr_aload_n (xd dX12_copyKept 0 rfl) 0 rfl ?_
  refine xr_iload_n (xd dX12_copyKept 1 rfl) 2 rfl ?_
  refine xr_aload_n (xd dX12_copyKept 2 rfl) 0 rfl ?_
  refine xr_getR (b := 541) 12 60 (xd dX12_copyKept 3 rfl) f12_160 (by decide) (by decide) (lt552 hn (by decide)) kd_491 rfl (r_491_60 hR) ?_
  refine xr_iload_n (xd dX12_copyKept 4 rfl) 1 rfl ?_
  obtain ⟨o1, h⟩ := h
  refine zr_iaload (xd dX12_copyKept 5 rfl) (lt552 hn (by decide)) kd_541 ln_541 (by decide) o1 ?_
  refine xr_aload_n (xd dX12_copyKept 6 rfl) 0 rfl ?_
  refine xr_getR (b := 542) 12 61 (xd dX12_copyKept 7 rfl) f12_163 (by decide) (by decide) (lt552 hn (by decide)) kd_491 rfl (r_491_61 hR) ?_
  refine xr_iload_n (xd dX12_copyKept 8 rfl) 1 rfl ?_
  obtain ⟨o2, h⟩ := h
  refine zr_iaload (xd dX12_copyKept 9 rfl) (lt552 hn (by decide)) kd_542 ln_542 (by decide) o2 ?_
  refine xr_callV mX12_putMessage 3 [.int (oI p2), .int (oI (J 541 p1)), .int (oI (J 542 p1))] (xd dX12_copyKept 10 rfl) l12_407 kX12_putMessage rfl (lt552 hn (by decide)) kd_491 (by decide) rfl (by decide) (Nat.le_of_ble_eq_true rfl) (v_X12_putMessage hn hR  h) (by decide) (by decide) (fun r_ M_ h_ => ?_) (fun _ _ h_ => h_.elim)
  obtain ⟨J3, L4, rfl, rfl, h⟩ := h_
  show xJ _ _ _ _ _ _ _ _ _ 17 [(0, .ref 491), (1, .int (oI p1)), (2, .int (oI p2))] [] _ _ _ (zi J3) (li L4)
  refine xr_iconst (v := oI 0) (xd dX12_copyKept 11 rfl) (by decide) ?_
  refine xr_istore_n [(0, .ref 491), (1, .int (oI p1)), (2, .int (oI p2)), (3, .int (oI 0))] (xd dX12_copyKept 12 rfl) rfl (by decide) rfl ?_
  refine h (fun x6 J7 L8 => xJ (xGm b dC dI cA ts) l mX12_copyKept 0 0 (zQ0 n R Q) (fun _ _ => False) 0 0 19 [(0, .ref 491), (1, .int (oI p1)), (2, .int (oI p2)), (3, .int (oI x6))] [] al n R (zi J7) (li L8)) ?_
  intro x6 J7 L8 h
  show xJ _ _ _ _ _ _ _ _ _ 19 [(0, .ref 491), (1, .int (oI p1)), (2, .int (oI p2)), (3, .int (oI x6))] [] _ _ _ _ _
  refine xr_iload_n (xd dX12_copyKept 13 rfl) 3 rfl ?_
  refine xr_aload_n (xd dX12_copyKept 14 rfl) 0 rfl ?_
  refine xr_getR (b := 542) 12 61 (xd dX12_copyKept 15 rfl) f12_163 (by decide) (by decide) (lt552 hn (by decide)) kd_491 rfl (r_491_61 hR) ?_
  refine xr_iload_n (xd dX12_copyKept 16 rfl) 1 rfl ?_
  obtain ⟨o9, h⟩ := h
  refine zr_iaload (xd dX12_copyKept 17 rfl) (lt552 hn (by decide)) kd_542 ln_542 (by decide) o9 ?_
  obtain ⟨o10, h⟩ := h
  obtain ⟨o11, h⟩ := h
  refine zr_icmp_ge 57 (xd dX12_copyKept 18 rfl) (by decide) o10 o11 (fun c12 => ?_) (fun c12 => ?_)
  · replace h := ifn h c12
    exact xr_vret (xd dX12_copyKept 37 rfl) rfl (by decide) (by decide) (fun _ => rfl) ⟨_, _, rfl, rfl, h⟩
  · replace h := ifp h c12
    refine xr_aload_n (xd dX12_copyKept 19 rfl) 0 rfl ?_
    refine xr_getR (b := 492) 12 5 (xd dX12_copyKept 20 rfl) f12_7 (by decide) (by decide) (lt552 hn (by decide)) kd_491 rfl (r_491_5 hR) ?_
    refine xr_iload_n (xd dX12_copyKept 21 rfl) 2 rfl ?_
    refine xr_iconst (v := oI 3) (xd dX12_copyKept 22 rfl) (by decide) ?_
    refine zr_iadd (xd dX12_copyKept 23 rfl) ?_
    refine xr_iload_n (xd dX12_copyKept 24 rfl) 3 rfl ?_
    refine zr_iadd (xd dX12_copyKept 25 rfl) ?_
    refine xr_aload_n (xd dX12_copyKept 26 rfl) 0 rfl ?_
    refine xr_getR (b := 544) 12 63 (xd dX12_copyKept 27 rfl) f12_169 (by decide) (by decide) (lt552 hn (by decide)) kd_491 rfl (r_491_63 hR) ?_
    refine xr_sipush (v := oI 200) (xd dX12_copyKept 28 rfl) (by decide) ?_
    refine xr_iload_n (xd dX12_copyKept 29 rfl) 1 rfl ?_
    refine zr_imul (xd dX12_copyKept 30 rfl) ?_
    refine xr_iload_n (xd dX12_copyKept 31 rfl) 3 rfl ?_
    refine zr_iadd (xd dX12_copyKept 32 rfl) ?_
    obtain ⟨o13, h⟩ := h
    refine zr_iaload (xd dX12_copyKept 33 rfl) (lt552 hn (by decide)) kd_544 ln_544 (by decide) o13 ?_
    obtain ⟨o14, h⟩ := h
    obtain ⟨J15, e_J15⟩ : ∃ z_ : zM, z_ = zs J7 492 ((p2 + 3) + x6) (J7 544 ((200 * p1) + x6)) := ⟨_, rfl⟩
    replace h := h J15 e_J15
    refine zr_iastore e_J15 (xd dX12_copyKept 34 rfl) (lt552 hn (by decide)) kd_492 ln_492 (by decide) o14 ?_
    refine zr_iinc [(0, .ref 491), (1, .int (oI p1)), (2, .int (oI p2)), (3, .int (oI (x6 + 1)))] (xd dX12_copyKept 35 rfl) 3 rfl (by decide) rfl ?_
    refine xr_goto 19 (xd dX12_copyKept 36 rfl) (by decide) ?_
    exact h
def w_X12_clientTakes (p1 : Int) (J : zM) (L : yM) (Q : zM → yM → Prop) : Prop := ((0 : Int) ≤ p1 ∧ p1 < 16) ∧ ∀ x2 : Int, x2 = (J 541 p1) → ∀ K5 : zM → yM → Prop, (∀ (J3 : zM) (L4 : yM), (∀ K8 : zM → yM → Prop, (∀ (J6 : zM) (L7 : yM), (∀ K11 : zM → yM → Prop, (∀ (J9 : zM) (L10 : yM), (∀ K14 : zM → yM → Prop, (∀ (J12 : zM) (L13 : yM), (w_X12_raise 0 10 J12 L13 (fun J15 L16 => Q J15 L16)) → K14 J12 L13) → R32 x2 ∧ (if x2 = 20 then R32 (J9 536 0) ∧ (if (J9 536 0) = 2 then w_X12_copyKept p1 790 J9 L10 (fun J21 L22 => w_X12_finished 0 1 J21 L22 (fun J23 L24 => w_X12_isDigest 793 32 J23 L24 (fun r27 J25 L26 => R32 r27 ∧ (if r27 = 0 then w_X12_raise 0 51 J25 L26 (fun J42 L43 => Q J42 L43) else w_X12_epochThree 0 J25 L26 (fun J30 L31 => w_X12_finishedTo 0 830 0 J30 L31 (fun J32 L33 => ∀ J34 : zM, J34 = zs J32 536 0 4 → ∀ J35 : zM, J35 = zs J34 534 0 2 → w_X12_clearFlight 0 J35 L33 (fun J36 L37 => w_X12_addFlight 0 830 2 ((J36 491 58) + 1) J36 L37 (fun J38 L39 => w_X12_fly 0 J38 L39 (fun J40 L41 => Q J40 L41))))))))) else K14 J9 L10) else K14 J9 L10)) → K11 J9 L10) → R32 x2 ∧ (if x2 = 8 then R32 (J6 536 0) ∧ (if (J6 536 0) = 1 then w_X12_copyKept p1 630 J6 L7 (fun J48 L49 => ∀ J50 : zM, J50 = zs J48 536 0 2 → Q J50 L49) else K11 J6 L7) else K11 J6 L7)) → K8 J6 L7) → R32 x2 ∧ (if x2 = 2 then R32 (J3 536 0) ∧ (if (J3 536 0) = 0 then w_X12_copyKept p1 600 J3 L4 (fun J55 L56 => w_X12_numberAt 619 4 J55 L56 (fun r59 J57 L58 => ∀ J60 : zM, J60 = zs J57 522 0 1 → ∀ K63 : zM → yM → Prop, (∀ (J61 : zM) (L62 : yM), (∀ K67 : Int64 → zM → yM → Prop, (∀ (x64 : Int64) (J65 : zM) (L66 : yM), (w_X12_epochTwo 0 x64 J65 L66 (fun J68 L69 => ∀ J70 : zM, J70 = zs J68 536 0 1 → Q J70 L69)) → K67 x64 J65 L66) → (if (zcmp r59 0) = 0 then K67 0 J61 L62 else w_X12_power r59 (L62 504 0) J61 L62 (fun r74 J72 L73 => K67 r74 J72 L73))) → K63 J61 L62) → (if (zcmp r59 0) = 0 then K63 J60 L58 else (if (zand (J60 491 1) 2) = 0 then w_X12_raise 0 47 J60 L58 (fun J77 L78 => Q J77 L78) else K63 J60 L58)))) else K8 J3 L4) else K8 J3 L4)) → K5 J3 L4) → R32 x2 ∧ (if x2 = 6 then R32 (J 536 0) ∧ (if (J 536 0) = 0 then R32 (J 492 531) ∧ (if (J 492 531) = 0 then zl_z (fun K85 x86 J87 L88 => R32 x86 ∧ (if x86 < 16 then ((0 : Int) ≤ ((200 * p1) + x86) ∧ ((200 * p1) + x86) < 3200) ∧ ((0 : Int) ≤ (870 + x86) ∧ (870 + x86) < 2048) ∧ ∀ J96 : zM, J96 = zs J87 492 (870 + x86) (J87 544 ((200 * p1) + x86)) → K85 (x86 + 1) J96 L88 else ∀ J91 : zM, J91 = zs J87 491 58 1 → w_X12_hello 16 J91 L88 (fun J92 L93 => Q J92 L93))) 0 J L else K5 J L) else K5 J L) else K5 J L)
set_option maxHeartbeats 4000000 in
set_option maxRecDepth 100000 in
theorem v_X12_clientTakes {b : Nat} {dC : Nat → ClassId} {dI : Nat → Nat → Nat} {cA : Nat → ClassId} {ts : Nat → Nat} {l : Launch} {n : Nat} {R : Nat → Nat → Option Nat} {al : Bool} (hn : 552 ≤ n) (hR : xRk R) {p1 : Int}  {J : zM} {L : yM} {Q : zM → yM → Prop} (h : w_X12_clientTakes p1 J L Q) : xCn (xGm b dC dI cA ts) l mX12_clientTakes [.ref 491, .int (oI p1)] al (n, R, zi J, li L) 0 0 (zQ0 n R Q) (fun _ _ => False) := by
  refine xCn.ofJ (by decide) (Nat.le_of_ble_eq_true rfl) ?_
  show xJ _ _ _ _ _ _ _ _ _ 0 [(0, .ref 491), (1, .int (oI p1))] [] _ _ _ _ _
  unfold w_X12_clientTakes at h
  refine xr_aload_n (xd dX12_clientTakes 0 rfl) 0 rfl ?_
  refine xr_getR (b := 541) 12 60 (xd dX12_clientTakes 1 rfl) f12_160 (by decide) (by decide) (lt552 hn (by decide)) kd_491 rfl (r_491_60 hR) ?_
  refine xr_iload_n (xd dX12_clientTakes 2 rfl) 1 rfl ?_
  obtain ⟨o1, h⟩ := h
  refine zr_iaload (xd dX12_clientTakes 3 rfl) (lt552 hn (by decide)) kd_541 ln_541 (by decide) o1 ?_
  obtain ⟨x2, e_x2⟩ : ∃ z_ : Int, z_ = (J 541 p1) := ⟨_, rfl⟩
  replace h := h x2 e_x2
  refine zr_nm e_x2 ?_
  refine xr_istore_n [(0, .ref 491), (1, .int (oI p1)), (2, .int (oI x2))] (xd dX12_clientTakes 4 rfl) rfl (by decide) rfl ?_
  refine xr_iload_n (xd dX12_clientTakes 5 rfl) 2 rfl ?_
  refine xr_bipush (v := oI 6) (xd dX12_clientTakes 6 rfl) (by decide) ?_
  replace h := h (fun (J3 : zM) (L4 : yM) => xJ (xGm b dC dI cA ts) l mX12_clientTakes 0 0 (zQ0 n R Q) (fun _ _ => False) 0 0 83 [(0, .ref 491), (1, .int (oI p1)), (2, .int (oI x2))] [] al n R (zi J3) (li L4)) (by
    intro J3 L4 h
    show xJ _ _ _ _ _ _ _ _ _ 83 [(0, .ref 491), (1, .int (oI p1)), (2, .int (oI x2))] [] _ _ _ _ _
    refine xr_iload_n (xd dX12_clientTakes 46 rfl) 2 rfl ?_
    refine xr_iconst (v := oI 2) (xd dX12_clientTakes 47 rfl) (by decide) ?_
    replace h := h (fun (J6 : zM) (L7 : yM) => xJ (xGm b dC dI cA ts) l mX12_clientTakes 0 0 (zQ0 n R Q) (fun _ _ => False) 0 0 179 [(0, .ref 491), (1, .int (oI p1)), (2, .int (oI x2))] [] al n R (zi J6) (li L7)) (by
      intro J6 L7 h
      show xJ _ _ _ _ _ _ _ _ _ 179 [(0, .ref 491), (1, .int (oI p1)), (2, .int (oI x2))] [] _ _ _ _ _
      refine xr_iload_n (xd dX12_clientTakes 103 rfl) 2 rfl ?_
      refine xr_bipush (v := oI 8) (xd dX12_clientTakes 104 rfl) (by decide) ?_
      replace h := h (fun (J9 : zM) (L10 : yM) => xJ (xGm b dC dI cA ts) l mX12_clientTakes 0 0 (zQ0 n R Q) (fun _ _ => False) 0 0 213 [(0, .ref 491), (1, .int (oI p1)), (2, .int (oI x2))] [] al n R (zi J9) (li L10)) (by
        intro J9 L10 h
        show xJ _ _ _ _ _ _ _ _ _ 213 [(0, .ref 491), (1, .int (oI p1)), (2, .int (oI x2))] [] _ _ _ _ _
        refine xr_iload_n (xd dX12_clientTakes 122 rfl) 2 rfl ?_
        refine xr_bipush (v := oI 20) (xd dX12_clientTakes 123 rfl) (by decide) ?_
        replace h := h (fun (J12 : zM) (L13 : yM) => xJ (xGm b dC dI cA ts) l mX12_clientTakes 0 0 (zQ0 n R Q) (fun _ _ => False) 0 0 319 [(0, .ref 491)] [] al n R (zi J12) (li L13)) (by
          intro J12 L13 h
          show xJ _ _ _ _ _ _ _ _ _ 319 [(0, .ref 491)] [] _ _ _ _ _
          refine xr_aload_n (xd dX12_clientTakes 183 rfl) 0 rfl ?_
          refine xr_iconst (v := oI 0) (xd dX12_clientTakes 184 rfl) (by decide) ?_
          refine xr_bipush (v := oI 10) (xd dX12_clientTakes 185 rfl) (by decide) ?_
          refine xr_callV mX12_raise 2 [.int (oI 0), .int (oI 10)] (xd dX12_clientTakes 186 rfl) l12_463 kX12_raise rfl (lt552 hn (by decide)) kd_491 (by decide) rfl (by decide) (Nat.le_of_ble_eq_true rfl) (v_X12_raise hn hR  h) (by decide) (by decide) (fun r_ M_ h_ => ?_) (fun _ _ h_ => h_.elim)
          obtain ⟨J15, L16, rfl, rfl, h⟩ := h_
          show xJ _ _ _ _ _ _ _ _ _ 326 [(0, .ref 491)] [] _ _ _ (zi J15) (li L16)
          exact xr_vret (xd dX12_clientTakes 187 rfl) rfl (by decide) (by decide) (fun _ => rfl) ⟨_, _, rfl, rfl, h⟩)
        obtain ⟨o17, h⟩ := h
        refine zr_icmp_ne 319 (xd dX12_clientTakes 124 rfl) (by decide) o17 (by decide) (fun c18 => ?_) (fun c18 => ?_)
        · replace h := ifn h c18
          refine xJ.pick (ls' := [(0, .ref 491)]) [0] rfl ?_
          exact h
        · replace h := ifp h c18
          refine xr_aload_n (xd dX12_clientTakes 125 rfl) 0 rfl ?_
          refine xr_getR (b := 536) 12 54 (xd dX12_clientTakes 126 rfl) f12_145 (by decide) (by decide) (lt552 hn (by decide)) kd_491 rfl (r_491_54 hR) ?_
          refine xr_iconst (v := oI 0) (xd dX12_clientTakes 127 rfl) (by decide) ?_
          refine zr_iaload (xd dX12_clientTakes 128 rfl) (lt552 hn (by decide)) kd_536 ln_536 (by decide) ⟨by decide, by decide⟩ ?_
          refine xr_iconst (v := oI 2) (xd dX12_clientTakes 129 rfl) (by decide) ?_
          obtain ⟨o19, h⟩ := h
          refine zr_icmp_ne 319 (xd dX12_clientTakes 130 rfl) (by decide) o19 (by decide) (fun c20 => ?_) (fun c20 => ?_)
          · replace h := ifn h c20
            refine xJ.pick (ls' := [(0, .ref 491)]) [0] rfl ?_
            exact h
          · replace h := ifp h c20
            refine xr_aload_n (xd dX12_clientTakes 131 rfl) 0 rfl ?_
            refine xr_iload_n (xd dX12_clientTakes 132 rfl) 1 rfl ?_
            refine xr_sipush (v := oI 790) (xd dX12_clientTakes 133 rfl) (by decide) ?_
            refine xr_callV mX12_copyKept 2 [.int (oI p1), .int (oI 790)] (xd dX12_clientTakes 134 rfl) l12_460 kX12_copyKept rfl (lt552 hn (by decide)) kd_491 (by decide) rfl (by decide) (Nat.le_of_ble_eq_true rfl) (v_X12_copyKept hn hR  h) (by decide) (by decide) (fun r_ M_ h_ => ?_) (fun _ _ h_ => h_.elim)
            obtain ⟨J21, L22, rfl, rfl, h⟩ := h_
            show xJ _ _ _ _ _ _ _ _ _ 237 [(0, .ref 491), (1, .int (oI p1)), (2, .int (oI x2))] [] _ _ _ (zi J21) (li L22)
            refine xr_aload_n (xd dX12_clientTakes 135 rfl) 0 rfl ?_
            refine xr_iconst (v := oI 0) (xd dX12_clientTakes 136 rfl) (by decide) ?_
            refine xr_iconst (v := oI 1) (xd dX12_clientTakes 137 rfl) (by decide) ?_
            refine xr_callV mX12_finished 2 [.int (oI 0), .int (oI 1)] (xd dX12_clientTakes 138 rfl) l12_434 kX12_finished rfl (lt552 hn (by decide)) kd_491 (by decide) rfl (by decide) (Nat.le_of_ble_eq_true rfl) (v_X12_finished hn hR  h) (by decide) (by decide) (fun r_ M_ h_ => ?_) (fun _ _ h_ => h_.elim)
            obtain ⟨J23, L24, rfl, rfl, h⟩ := h_
            show xJ _ _ _ _ _ _ _ _ _ 243 [(0, .ref 491), (1, .int (oI p1)), (2, .int (oI x2))] [] _ _ _ (zi J23) (li L24)
            refine xr_aload_n (xd dX12_clientTakes 139 rfl) 0 rfl ?_
            refine xr_sipush (v := oI 793) (xd dX12_clientTakes 140 rfl) (by decide) ?_
            refine xr_bipush (v := oI 32) (xd dX12_clientTakes 141 rfl) (by decide) ?_
            refine xr_callV mX12_isDigest 2 [.int (oI 793), .int (oI 32)] (xd dX12_clientTakes 142 rfl) l12_440 kX12_isDigest rfl (lt552 hn (by decide)) kd_491 (by decide) rfl (by decide) (Nat.le_of_ble_eq_true rfl) (v_X12_isDigest hn hR  h) (by decide) (by decide) (fun r_ M_ h_ => ?_) (fun _ _ h_ => h_.elim)
            obtain ⟨r27, J25, L26, rfl, rfl, h⟩ := h_
            show xJ _ _ _ _ _ _ _ _ _ 252 [(0, .ref 491), (1, .int (oI p1)), (2, .int (oI x2))] [.int (oI r27)] _ _ _ (zi J25) (li L26)
            obtain ⟨o28, h⟩ := h
            refine zr_if_ne 263 (xd dX12_clientTakes 143 rfl) (by decide) o28 (fun c29 => ?_) (fun c29 => ?_)
            · replace h := ifn h c29
              refine xr_aload_n (xd dX12_clientTakes 149 rfl) 0 rfl ?_
              refine xr_iconst (v := oI 0) (xd dX12_clientTakes 150 rfl) (by decide) ?_
              refine xr_callV mX12_epochThree 1 [.int (oI 0)] (xd dX12_clientTakes 151 rfl) l12_457 kX12_epochThree rfl (lt552 hn (by decide)) kd_491 (by decide) rfl (by decide) (Nat.le_of_ble_eq_true rfl) (v_X12_epochThree hn hR  h) (by decide) (by decide) (fun r_ M_ h_ => ?_) (fun _ _ h_ => h_.elim)
              obtain ⟨J30, L31, rfl, rfl, h⟩ := h_
              show xJ _ _ _ _ _ _ _ _ _ 268 [(0, .ref 491), (1, .int (oI p1)), (2, .int (oI x2))] [] _ _ _ (zi J30) (li L31)
              refine xr_aload_n (xd dX12_clientTakes 152 rfl) 0 rfl ?_
              refine xr_iconst (v := oI 0) (xd dX12_clientTakes 153 rfl) (by decide) ?_
              refine xr_sipush (v := oI 830) (xd dX12_clientTakes 154 rfl) (by decide) ?_
              refine xr_iconst (v := oI 0) (xd dX12_clientTakes 155 rfl) (by decide) ?_
              refine xr_callV mX12_finishedTo 3 [.int (oI 0), .int (oI 830), .int (oI 0)] (xd dX12_clientTakes 156 rfl) l12_454 kX12_finishedTo rfl (lt552 hn (by decide)) kd_491 (by decide) rfl (by decide) (Nat.le_of_ble_eq_true rfl) (v_X12_finishedTo hn hR  h) (by decide) (by decide) (fun r_ M_ h_ => ?_) (fun _ _ h_ => h_.elim)
              obtain ⟨J32, L33, rfl, rfl, h⟩ := h_
              show xJ _ _ _ _ _ _ _ _ _ 277 [(0, .ref 491), (1, .int (oI p1)), (2, .int (oI x2))] [] _ _ _ (zi J32) (li L33)
              refine xr_aload_n (xd dX12_clientTakes 157 rfl) 0 rfl ?_
              refine xr_getR (b := 536) 12 54 (xd dX12_clientTakes 158 rfl) f12_145 (by decide) (by decide) (lt552 hn (by decide)) kd_491 rfl (r_491_54 hR) ?_
              refine xr_iconst (v := oI 0) (xd dX12_clientTakes 159 rfl) (by decide) ?_
              refine xr_iconst (v := oI 4) (xd dX12_clientTakes 160 rfl) (by decide) ?_
              obtain ⟨J34, e_J34⟩ : ∃ z_ : zM, z_ = zs J32 536 0 4 := ⟨_, rfl⟩
              replace h := h J34 e_J34
              refine zr_iastore e_J34 (xd dX12_clientTakes 161 rfl) (lt552 hn (by decide)) kd_536 ln_536 (by decide) ⟨by decide, by decide⟩ ?_
              refine xr_aload_n (xd dX12_clientTakes 162 rfl) 0 rfl ?_
              refine xr_getR (b := 534) 12 52 (xd dX12_clientTakes 163 rfl) f12_139 (by decide) (by decide) (lt552 hn (by decide)) kd_491 rfl (r_491_52 hR) ?_
              refine xr_iconst (v := oI 0) (xd dX12_clientTakes 164 rfl) (by decide) ?_
              refine xr_iconst (v := oI 2) (xd dX12_clientTakes 165 rfl) (by decide) ?_
              obtain ⟨J35, e_J35⟩ : ∃ z_ : zM, z_ = zs J34 534 0 2 := ⟨_, rfl⟩
              replace h := h J35 e_J35
              refine zr_iastore e_J35 (xd dX12_clientTakes 166 rfl) (lt552 hn (by decide)) kd_534 ln_534 (by decide) ⟨by decide, by decide⟩ ?_
              refine xr_aload_n (xd dX12_clientTakes 167 rfl) 0 rfl ?_
              refine xr_iconst (v := oI 0) (xd dX12_clientTakes 168 rfl) (by decide) ?_
              refine xr_callV mX12_clearFlight 1 [.int (oI 0)] (xd dX12_clientTakes 169 rfl) l12_399 kX12_clearFlight rfl (lt552 hn (by decide)) kd_491 (by decide) rfl (by decide) (Nat.le_of_ble_eq_true rfl) (v_X12_clearFlight hn hR  h) (by decide) (by decide) (fun r_ M_ h_ => ?_) (fun _ _ h_ => h_.elim)
              obtain ⟨J36, L37, rfl, rfl, h⟩ := h_
              show xJ _ _ _ _ _ _ _ _ _ 296 [(0, .ref 491), (1, .int (oI p1)), (2, .int (oI x2))] [] _ _ _ (zi J36) (li L37)
              refine xr_aload_n (xd dX12_clientTakes 170 rfl) 0 rfl ?_
              refine xr_iconst (v := oI 0) (xd dX12_clientTakes 171 rfl) (by decide) ?_
              refine xr_sipush (v := oI 830) (xd dX12_clientTakes 172 rfl) (by decide) ?_
              refine xr_iconst (v := oI 2) (xd dX12_clientTakes 173 rfl) (by decide) ?_
              refine xr_aload_n (xd dX12_clientTakes 174 rfl) 0 rfl ?_
              refine zr_getI 12 58 58 rfl (xd dX12_clientTakes 175 rfl) f12_396 (by decide) (by decide) (lt552 hn (by decide)) kd_491 rfl ?_
              refine xr_iconst (v := oI 1) (xd dX12_clientTakes 176 rfl) (by decide) ?_
              refine zr_iadd (xd dX12_clientTakes 177 rfl) ?_
              refine xr_callV mX12_addFlight 4 [.int (oI 0), .int (oI 830), .int (oI 2), .int (oI ((J36 491 58) + 1))] (xd dX12_clientTakes 178 rfl) l12_418 kX12_addFlight rfl (lt552 hn (by decide)) kd_491 (by decide) rfl (by decide) (Nat.le_of_ble_eq_true rfl) (v_X12_addFlight hn hR  h) (by decide) (by decide) (fun r_ M_ h_ => ?_) (fun _ _ h_ => h_.elim)
              obtain ⟨J38, L39, rfl, rfl, h⟩ := h_
              show xJ _ _ _ _ _ _ _ _ _ 311 [(0, .ref 491), (1, .int (oI p1)), (2, .int (oI x2))] [] _ _ _ (zi J38) (li L39)
              refine xr_aload_n (xd dX12_clientTakes 179 rfl) 0 rfl ?_
              refine xr_iconst (v := oI 0) (xd dX12_clientTakes 180 rfl) (by decide) ?_
              refine xr_callV mX12_fly 1 [.int (oI 0)] (xd dX12_clientTakes 181 rfl) l12_421 kX12_fly rfl (lt552 hn (by decide)) kd_491 (by decide) rfl (by decide) (Nat.le_of_ble_eq_true rfl) (v_X12_fly hn hR  h) (by decide) (by decide) (fun r_ M_ h_ => ?_) (fun _ _ h_ => h_.elim)
              obtain ⟨J40, L41, rfl, rfl, h⟩ := h_
              show xJ _ _ _ _ _ _ _ _ _ 316 [(0, .ref 491), (1, .int (oI p1)), (2, .int (oI x2))] [] _ _ _ (zi J40) (li L41)
              refine xr_goto 326 (xd dX12_clientTakes 182 rfl) (by decide) ?_
              exact xr_vret (xd dX12_clientTakes 187 rfl) rfl (by decide) (by decide) (fun _ => rfl) ⟨_, _, rfl, rfl, h⟩
            · replace h := ifp h c29
              refine xr_aload_n (xd dX12_clientTakes 144 rfl) 0 rfl ?_
              refine xr_iconst (v := oI 0) (xd dX12_clientTakes 145 rfl) (by decide) ?_
              refine xr_bipush (v := oI 51) (xd dX12_clientTakes 146 rfl) (by decide) ?_
              refine xr_callV mX12_raise 2 [.int (oI 0), .int (oI 51)] (xd dX12_clientTakes 147 rfl) l12_463 kX12_raise rfl (lt552 hn (by decide)) kd_491 (by decide) rfl (by decide) (Nat.le_of_ble_eq_true rfl) (v_X12_raise hn hR  h) (by decide) (by decide) (fun r_ M_ h_ => ?_) (fun _ _ h_ => h_.elim)
              obtain ⟨J42, L43, rfl, rfl, h⟩ := h_
              show xJ _ _ _ _ _ _ _ _ _ 262 [(0, .ref 491), (1, .int (oI p1)), (2, .int (oI x2))] [] _ _ _ (zi J42) (li L43)
              exact xr_vret (xd dX12_clientTakes 148 rfl) rfl (by decide) (by decide) (fun _ => rfl) ⟨_, _, rfl, rfl, h⟩)
      obtain ⟨o44, h⟩ := h
      refine zr_icmp_ne 213 (xd dX12_clientTakes 105 rfl) (by decide) o44 (by decide) (fun c45 => ?_) (fun c45 => ?_)
      · replace h := ifn h c45
        exact h
      · replace h := ifp h c45
        refine xr_aload_n (xd dX12_clientTakes 106 rfl) 0 rfl ?_
        refine xr_getR (b := 536) 12 54 (xd dX12_clientTakes 107 rfl) f12_145 (by decide) (by decide) (lt552 hn (by decide)) kd_491 rfl (r_491_54 hR) ?_
        refine xr_iconst (v := oI 0) (xd dX12_clientTakes 108 rfl) (by decide) ?_
        refine zr_iaload (xd dX12_clientTakes 109 rfl) (lt552 hn (by decide)) kd_536 ln_536 (by decide) ⟨by decide, by decide⟩ ?_
        refine xr_iconst (v := oI 1) (xd dX12_clientTakes 110 rfl) (by decide) ?_
        obtain ⟨o46, h⟩ := h
        refine zr_icmp_ne 213 (xd dX12_clientTakes 111 rfl) (by decide) o46 (by decide) (fun c47 => ?_) (fun c47 => ?_)
        · replace h := ifn h c47
          exact h
        · replace h := ifp h c47
          refine xr_aload_n (xd dX12_clientTakes 112 rfl) 0 rfl ?_
          refine xr_iload_n (xd dX12_clientTakes 113 rfl) 1 rfl ?_
          refine xr_sipush (v := oI 630) (xd dX12_clientTakes 114 rfl) (by decide) ?_
          refine xr_callV mX12_copyKept 2 [.int (oI p1), .int (oI 630)] (xd dX12_clientTakes 115 rfl) l12_460 kX12_copyKept rfl (lt552 hn (by decide)) kd_491 (by decide) rfl (by decide) (Nat.le_of_ble_eq_true rfl) (v_X12_copyKept hn hR  h) (by decide) (by decide) (fun r_ M_ h_ => ?_) (fun _ _ h_ => h_.elim)
          obtain ⟨J48, L49, rfl, rfl, h⟩ := h_
          show xJ _ _ _ _ _ _ _ _ _ 203 [(0, .ref 491), (1, .int (oI p1)), (2, .int (oI x2))] [] _ _ _ (zi J48) (li L49)
          refine xr_aload_n (xd dX12_clientTakes 116 rfl) 0 rfl ?_
          refine xr_getR (b := 536) 12 54 (xd dX12_clientTakes 117 rfl) f12_145 (by decide) (by decide) (lt552 hn (by decide)) kd_491 rfl (r_491_54 hR) ?_
          refine xr_iconst (v := oI 0) (xd dX12_clientTakes 118 rfl) (by decide) ?_
          refine xr_iconst (v := oI 2) (xd dX12_clientTakes 119 rfl) (by decide) ?_
          obtain ⟨J50, e_J50⟩ : ∃ z_ : zM, z_ = zs J48 536 0 2 := ⟨_, rfl⟩
          replace h := h J50 e_J50
          refine zr_iastore e_J50 (xd dX12_clientTakes 120 rfl) (lt552 hn (by decide)) kd_536 ln_536 (by decide) ⟨by decide, by decide⟩ ?_
          refine xr_goto 326 (xd dX12_clientTakes 121 rfl) (by decide) ?_
          exact xr_vret (xd dX12_clientTakes 187 rfl) rfl (by decide) (by decide) (fun _ => rfl) ⟨_, _, rfl, rfl, h⟩)
    obtain ⟨o51, h⟩ := h
    refine zr_icmp_ne 179 (xd dX12_clientTakes 48 rfl) (by decide) o51 (by decide) (fun c52 => ?_) (fun c52 => ?_)
    · replace h := ifn h c52
      exact h
    · replace h := ifp h c52
      refine xr_aload_n (xd dX12_clientTakes 49 rfl) 0 rfl ?_
      refine xr_getR (b := 536) 12 54 (xd dX12_clientTakes 50 rfl) f12_145 (by decide) (by decide) (lt552 hn (by decide)) kd_491 rfl (r_491_54 hR) ?_
      refine xr_iconst (v := oI 0) (xd dX12_clientTakes 51 rfl) (by decide) ?_
      refine zr_iaload (xd dX12_clientTakes 52 rfl) (lt552 hn (by decide)) kd_536 ln_536 (by decide) ⟨by decide, by decide⟩ ?_
      obtain ⟨o53, h⟩ := h
      refine zr_if_ne 179 (xd dX12_clientTakes 53 rfl) (by decide) o53 (fun c54 => ?_) (fun c54 => ?_)
      · replace h := ifn h c54
        exact h
      · replace h := ifp h c54
        refine xr_aload_n (xd dX12_clientTakes 54 rfl) 0 rfl ?_
        refine xr_iload_n (xd dX12_clientTakes 55 rfl) 1 rfl ?_
        refine xr_sipush (v := oI 600) (xd dX12_clientTakes 56 rfl) (by decide) ?_
        refine xr_callV mX12_copyKept 2 [.int (oI p1), .int (oI 600)] (xd dX12_clientTakes 57 rfl) l12_460 kX12_copyKept rfl (lt552 hn (by decide)) kd_491 (by decide) rfl (by decide) (Nat.le_of_ble_eq_true rfl) (v_X12_copyKept hn hR  h) (by decide) (by decide) (fun r_ M_ h_ => ?_) (fun _ _ h_ => h_.elim)
        obtain ⟨J55, L56, rfl, rfl, h⟩ := h_
        show xJ _ _ _ _ _ _ _ _ _ 105 [(0, .ref 491), (1, .int (oI p1)), (2, .int (oI x2))] [] _ _ _ (zi J55) (li L56)
        refine xr_aload_n (xd dX12_clientTakes 58 rfl) 0 rfl ?_
        refine xr_sipush (v := oI 619) (xd dX12_clientTakes 59 rfl) (by decide) ?_
        refine xr_iconst (v := oI 4) (xd dX12_clientTakes 60 rfl) (by decide) ?_
        refine xr_callV mX12_numberAt 2 [.int (oI 619), .int (oI 4)] (xd dX12_clientTakes 61 rfl) l12_444 kX12_numberAt rfl (lt552 hn (by decide)) kd_491 (by decide) rfl (by decide) (Nat.le_of_ble_eq_true rfl) (v_X12_numberAt hn hR  h) (by decide) (by decide) (fun r_ M_ h_ => ?_) (fun _ _ h_ => h_.elim)
        obtain ⟨r59, J57, L58, rfl, rfl, h⟩ := h_
        show xJ _ _ _ _ _ _ _ _ _ 113 [(0, .ref 491), (1, .int (oI p1)), (2, .int (oI x2))] [.long r59] _ _ _ (zi J57) (li L58)
        refine xr_lstore_n [(0, .ref 491), (1, .int (oI p1)), (2, .int (oI x2)), (3, .long r59)] (xd dX12_clientTakes 62 rfl) rfl (by decide) rfl ?_
        refine xr_aload_n (xd dX12_clientTakes 63 rfl) 0 rfl ?_
        refine xr_getR (b := 522) 12 40 (xd dX12_clientTakes 64 rfl) f12_103 (by decide) (by decide) (lt552 hn (by decide)) kd_491 rfl (r_491_40 hR) ?_
        refine xr_iconst (v := oI 0) (xd dX12_clientTakes 65 rfl) (by decide) ?_
        refine xr_iconst (v := oI 1) (xd dX12_clientTakes 66 rfl) (by decide) ?_
        obtain ⟨J60, e_J60⟩ : ∃ z_ : zM, z_ = zs J57 522 0 1 := ⟨_, rfl⟩
        replace h := h J60 e_J60
        refine zr_zastore (Or.inr rfl) e_J60 (xd dX12_clientTakes 67 rfl) (lt552 hn (by decide)) kd_522 ln_522 (by decide) ⟨by decide, by decide⟩ ?_
        refine xr_lload_n (xd dX12_clientTakes 68 rfl) 3 rfl ?_
        refine xr_lconst (v := 0) (xd dX12_clientTakes 69 rfl) (by decide) ?_
        refine zr_lcmp (xd dX12_clientTakes 70 rfl) ?_
        replace h := h (fun (J61 : zM) (L62 : yM) => xJ (xGm b dC dI cA ts) l mX12_clientTakes 0 0 (zQ0 n R Q) (fun _ _ => False) 0 0 144 [(0, .ref 491), (3, .long r59)] [] al n R (zi J61) (li L62)) (by
          intro J61 L62 h
          show xJ _ _ _ _ _ _ _ _ _ 144 [(0, .ref 491), (3, .long r59)] [] _ _ _ _ _
          refine xr_aload_n (xd dX12_clientTakes 82 rfl) 0 rfl ?_
          refine xr_iconst (v := oI 0) (xd dX12_clientTakes 83 rfl) (by decide) ?_
          refine xr_lload_n (xd dX12_clientTakes 84 rfl) 1 rfl ?_
          refine xr_lconst (v := 0) (xd dX12_clientTakes 85 rfl) (by decide) ?_
          refine zr_lcmp (xd dX12_clientTakes 86 rfl) ?_
          replace h := h (fun (x64 : Int64) (J65 : zM) (L66 : yM) => xJ (xGm b dC dI cA ts) l mX12_clientTakes 0 0 (zQ0 n R Q) (fun _ _ => False) 0 0 166 [(0, .ref 491)] [.long x64, .int (oI 0), .ref 491] al n R (zi J65) (li L66)) (by
            intro x64 J65 L66 h
            show xJ _ _ _ _ _ _ _ _ _ 166 [(0, .ref 491)] [.long x64, .int (oI 0), .ref 491] _ _ _ _ _
            refine xr_callV mX12_epochTwo 2 [.int (oI 0), .long x64] (xd dX12_clientTakes 96 rfl) l12_451 kX12_epochTwo rfl (lt552 hn (by decide)) kd_491 (by decide) rfl (by decide) (Nat.le_of_ble_eq_true rfl) (v_X12_epochTwo hn hR  h) (by decide) (by decide) (fun r_ M_ h_ => ?_) (fun _ _ h_ => h_.elim)
            obtain ⟨J68, L69, rfl, rfl, h⟩ := h_
            show xJ _ _ _ _ _ _ _ _ _ 169 [(0, .ref 491)] [] _ _ _ (zi J68) (li L69)
            refine xr_aload_n (xd dX12_clientTakes 97 rfl) 0 rfl ?_
            refine xr_getR (b := 536) 12 54 (xd dX12_clientTakes 98 rfl) f12_145 (by decide) (by decide) (lt552 hn (by decide)) kd_491 rfl (r_491_54 hR) ?_
            refine xr_iconst (v := oI 0) (xd dX12_clientTakes 99 rfl) (by decide) ?_
            refine xr_iconst (v := oI 1) (xd dX12_clientTakes 100 rfl) (by decide) ?_
            obtain ⟨J70, e_J70⟩ : ∃ z_ : zM, z_ = zs J68 536 0 1 := ⟨_, rfl⟩
            replace h := h J70 e_J70
            refine zr_iastore e_J70 (xd dX12_clientTakes 101 rfl) (lt552 hn (by decide)) kd_536 ln_536 (by decide) ⟨by decide, by decide⟩ ?_
            refine xr_goto 326 (xd dX12_clientTakes 102 rfl) (by decide) ?_
            exact xr_vret (xd dX12_clientTakes 187 rfl) rfl (by decide) (by decide) (fun _ => rfl) ⟨_, _, rfl, rfl, h⟩)
          refine zr_if_ne 156 (xd dX12_clientTakes 87 rfl) (by decide) (R32_of _) (fun c71 => ?_) (fun c71 => ?_)
          · replace h := ifn h c71
            refine xr_lload_n (xd dX12_clientTakes 90 rfl) 1 rfl ?_
            refine xr_aload_n (xd dX12_clientTakes 91 rfl) 0 rfl ?_
            refine xr_getR (b := 504) 12 20 (xd dX12_clientTakes 92 rfl) f12_46 (by decide) (by decide) (lt552 hn (by decide)) kd_491 rfl (r_491_20 hR) ?_
            refine xr_iconst (v := oI 0) (xd dX12_clientTakes 93 rfl) (by decide) ?_
            refine zr_laload (xd dX12_clientTakes 94 rfl) (lt552 hn (by decide)) kd_504 ln_504 (by decide) ⟨by decide, by decide⟩ ?_
            refine xr_callS mX12_power 2 [.long r59, .long (L62 504 0)] (xd dX12_clientTakes 95 rfl) l12_272 kX12_power rfl rfl (by decide) (Nat.le_of_ble_eq_true rfl) (v_X12_power hn hR  h) (by decide) (by decide) (fun r_ M_ h_ => ?_) (fun _ _ h_ => h_.elim)
            obtain ⟨r74, J72, L73, rfl, rfl, h⟩ := h_
            show xJ _ _ _ _ _ _ _ _ _ 166 [(0, .ref 491), (3, .long r59)] [.long r74, .int (oI 0), .ref 491] _ _ _ (zi J72) (li L73)
            refine xJ.pick (ls' := [(0, .ref 491)]) [0] rfl ?_
            exact h
          · replace h := ifp h c71
            refine xr_lconst (v := 0) (xd dX12_clientTakes 88 rfl) (by decide) ?_
            refine xr_goto 166 (xd dX12_clientTakes 89 rfl) (by decide) ?_
            refine xJ.pick (ls' := [(0, .ref 491)]) [0] rfl ?_
            exact h)
        refine zr_if_eq 144 (xd dX12_clientTakes 71 rfl) (by decide) (R32_of _) (fun c75 => ?_) (fun c75 => ?_)
        · replace h := ifp h c75
          refine xJ.pick (ls' := [(0, .ref 491), (3, .long r59)]) [0, 3] rfl ?_
          exact h
        · replace h := ifn h c75
          refine xr_aload_n (xd dX12_clientTakes 72 rfl) 0 rfl ?_
          refine zr_getI 12 1 1 rfl (xd dX12_clientTakes 73 rfl) f12_383 (by decide) (by decide) (lt552 hn (by decide)) kd_491 rfl ?_
          refine xr_iconst (v := oI 2) (xd dX12_clientTakes 74 rfl) (by decide) ?_
          refine zr_iand (xd dX12_clientTakes 75 rfl) ?_
          refine zr_if_ne 144 (xd dX12_clientTakes 76 rfl) (by decide) (R32_of _) (fun c76 => ?_) (fun c76 => ?_)
          · replace h := ifn h c76
            refine xJ.pick (ls' := [(0, .ref 491), (3, .long r59)]) [0, 3] rfl ?_
            exact h
          · replace h := ifp h c76
            refine xr_aload_n (xd dX12_clientTakes 77 rfl) 0 rfl ?_
            refine xr_iconst (v := oI 0) (xd dX12_clientTakes 78 rfl) (by decide) ?_
            refine xr_bipush (v := oI 47) (xd dX12_clientTakes 79 rfl) (by decide) ?_
            refine xr_callV mX12_raise 2 [.int (oI 0), .int (oI 47)] (xd dX12_clientTakes 80 rfl) l12_463 kX12_raise rfl (lt552 hn (by decide)) kd_491 (by decide) rfl (by decide) (Nat.le_of_ble_eq_true rfl) (v_X12_raise hn hR  h) (by decide) (by decide) (fun r_ M_ h_ => ?_) (fun _ _ h_ => h_.elim)
            obtain ⟨J77, L78, rfl, rfl, h⟩ := h_
            show xJ _ _ _ _ _ _ _ _ _ 143 [(0, .ref 491), (1, .int (oI p1)), (2, .int (oI x2)), (3, .long r59)] [] _ _ _ (zi J77) (li L78)
            exact xr_vret (xd dX12_clientTakes 81 rfl) rfl (by decide) (by decide) (fun _ => rfl) ⟨_, _, rfl, rfl, h⟩)
  obtain ⟨o79, h⟩ := h
  refine zr_icmp_ne 83 (xd dX12_clientTakes 7 rfl) (by decide) o79 (by decide) (fun c80 => ?_) (fun c80 => ?_)
  · replace h := ifn h c80
    exact h
  · replace h := ifp h c80
    refine xr_aload_n (xd dX12_clientTakes 8 rfl) 0 rfl ?_
    refine xr_getR (b := 536) 12 54 (xd dX12_clientTakes 9 rfl) f12_145 (by decide) (by decide) (lt552 hn (by decide)) kd_491 rfl (r_491_54 hR) ?_
    refine xr_iconst (v := oI 0) (xd dX12_clientTakes 10 rfl) (by decide) ?_
    refine zr_iaload (xd dX12_clientTakes 11 rfl) (lt552 hn (by decide)) kd_536 ln_536 (by decide) ⟨by decide, by decide⟩ ?_
    obtain ⟨o81, h⟩ := h
    refine zr_if_ne 83 (xd dX12_clientTakes 12 rfl) (by decide) o81 (fun c82 => ?_) (fun c82 => ?_)
    · replace h := ifn h c82
      exact h
    · replace h := ifp h c82
      refine xr_aload_n (xd dX12_clientTakes 13 rfl) 0 rfl ?_
      refine xr_getR (b := 492) 12 5 (xd dX12_clientTakes 14 rfl) f12_7 (by decide) (by decide) (lt552 hn (by decide)) kd_491 rfl (r_491_5 hR) ?_
      refine xr_sipush (v := oI 531) (xd dX12_clientTakes 15 rfl) (by decide) ?_
      refine zr_iaload (xd dX12_clientTakes 16 rfl) (lt552 hn (by decide)) kd_492 ln_492 (by decide) ⟨by decide, by decide⟩ ?_
      obtain ⟨o83, h⟩ := h
      refine zr_if_ne 83 (xd dX12_clientTakes 17 rfl) (by decide) o83 (fun c84 => ?_) (fun c84 => ?_)
      · replace h := ifn h c84
        exact h
      · replace h := ifp h c84
        refine xr_iconst (v := oI 0) (xd dX12_clientTakes 18 rfl) (by decide) ?_
        refine xr_istore_n [(0, .ref 491), (1, .int (oI p1)), (2, .int (oI x2)), (3, .int (oI 0))] (xd dX12_clientTakes 19 rfl) rfl (by decide) rfl ?_
        refine xJ.pick (ls' := [(0, .ref 491), (1, .int (oI p1)), (3, .int (oI 0))]) [0, 1, 3] rfl ?_
        refine h (fun x86 J87 L88 => xJ (xGm b dC dI cA ts) l mX12_clientTakes 0 0 (zQ0 n R Q) (fun _ _ => False) 0 0 35 [(0, .ref 491), (1, .int (oI p1)), (3, .int (oI x86))] [] al n R (zi J87) (li L88)) ?_
        intro x86 J87 L88 h
        show xJ _ _ _ _ _ _ _ _ _ 35 [(0, .ref 491), (1, .int (oI p1)), (3, .int (oI x86))] [] _ _ _ _ _
        refine xr_iload_n (xd dX12_clientTakes 20 rfl) 2 rfl ?_
        refine xr_bipush (v := oI 16) (xd dX12_clientTakes 21 rfl) (by decide) ?_
        obtain ⟨o89, h⟩ := h
        refine zr_icmp_ge 69 (xd dX12_clientTakes 22 rfl) (by decide) o89 (by decide) (fun c90 => ?_) (fun c90 => ?_)
        · replace h := ifn h c90
          refine xr_aload_n (xd dX12_clientTakes 39 rfl) 0 rfl ?_
          refine xr_iconst (v := oI 1) (xd dX12_clientTakes 40 rfl) (by decide) ?_
          obtain ⟨J91, e_J91⟩ : ∃ z_ : zM, z_ = zs J87 491 58 1 := ⟨_, rfl⟩
          replace h := h J91 e_J91
          refine zr_putI 12 58 58 rfl e_J91 (xd dX12_clientTakes 41 rfl) f12_396 (by decide) (by decide) (lt552 hn (by decide)) kd_491 (Or.inl rfl) rfl rfl (fun _ => rfl) ?_
          refine xr_aload_n (xd dX12_clientTakes 42 rfl) 0 rfl ?_
          refine xr_bipush (v := oI 16) (xd dX12_clientTakes 43 rfl) (by decide) ?_
          refine xr_callV mX12_hello 1 [.int (oI 16)] (xd dX12_clientTakes 44 rfl) l12_431 kX12_hello rfl (lt552 hn (by decide)) kd_491 (by decide) rfl (by decide) (Nat.le_of_ble_eq_true rfl) (v_X12_hello hn hR  h) (by decide) (by decide) (fun r_ M_ h_ => ?_) (fun _ _ h_ => h_.elim)
          obtain ⟨J92, L93, rfl, rfl, h⟩ := h_
          show xJ _ _ _ _ _ _ _ _ _ 80 [(0, .ref 491), (1, .int (oI p1)), (3, .int (oI x86))] [] _ _ _ (zi J92) (li L93)
          refine xr_goto 326 (xd dX12_clientTakes 45 rfl) (by decide) ?_
          exact xr_vret (xd dX12_clientTakes 187 rfl) rfl (by decide) (by decide) (fun _ => rfl) ⟨_, _, rfl, rfl, h⟩
        · replace h := ifp h c90
          refine xr_aload_n (xd dX12_clientTakes 23 rfl) 0 rfl ?_
          refine xr_getR (b := 492) 12 5 (xd dX12_clientTakes 24 rfl) f12_7 (by decide) (by decide) (lt552 hn (by decide)) kd_491 rfl (r_491_5 hR) ?_
          refine xr_sipush (v := oI 870) (xd dX12_clientTakes 25 rfl) (by decide) ?_
          refine xr_iload_n (xd dX12_clientTakes 26 rfl) 2 rfl ?_
          refine zr_iadd (xd dX12_clientTakes 27 rfl) ?_
          refine xr_aload_n (xd dX12_clientTakes 28 rfl) 0 rfl ?_
          refine xr_getR (b := 544) 12 63 (xd dX12_clientTakes 29 rfl) f12_169 (by decide) (by decide) (lt552 hn (by decide)) kd_491 rfl (r_491_63 hR) ?_
          refine xr_sipush (v := oI 200) (xd dX12_clientTakes 30 rfl) (by decide) ?_
          refine xr_iload_n (xd dX12_clientTakes 31 rfl) 1 rfl ?_
          refine zr_imul (xd dX12_clientTakes 32 rfl) ?_
          refine xr_iload_n (xd dX12_clientTakes 33 rfl) 2 rfl ?_
          refine zr_iadd (xd dX12_clientTakes 34 rfl) ?_
          obtain ⟨o94, h⟩ := h
          refine zr_iaload (xd dX12_clientTakes 35 rfl) (lt552 hn (by decide)) kd_544 ln_544 (by decide) o94 ?_
          obtain ⟨o95, h⟩ := h
          obtain ⟨J96, e_J96⟩ : ∃ z_ : zM, z_ = zs J87 492 (870 + x86) (J87 544 ((200 * p1) + x86)) := ⟨_, rfl⟩
          replace h := h J96 e_J96
          refine zr_iastore e_J96 (xd dX12_clientTakes 36 rfl) (lt552 hn (by decide)) kd_492 ln_492 (by decide) o95 ?_
          refine zr_iinc [(0, .ref 491), (1, .int (oI p1)), (3, .int (oI (x86 + 1)))] (xd dX12_clientTakes 37 rfl) 2 rfl (by decide) rfl ?_
          refine xr_goto 35 (xd dX12_clientTakes 38 rfl) (by decide) ?_
          exact h
def w_X12_serverTakes (p1 : Int) (J : zM) (L : yM) (Q : zM → yM → Prop) : Prop := ((0 : Int) ≤ p1 ∧ p1 < 16) ∧ R32 (J 541 p1) ∧ (if (J 541 p1) = 20 then w_X12_copyKept p1 1854 J L (fun J4 L5 => w_X12_finished 1 0 J4 L5 (fun J6 L7 => w_X12_isDigest 1857 32 J6 L7 (fun r10 J8 L9 => R32 r10 ∧ (if r10 = 0 then w_X12_raise 1 51 J8 L9 (fun J18 L19 => Q J18 L19) else ∀ J13 : zM, J13 = zs J8 534 1 2 → ∀ J14 : zM, J14 = zs J13 536 1 4 → ∀ J15 : zM, J15 = zs J14 522 1 1 → w_X12_acks 1 J15 L9 (fun J16 L17 => Q J16 L17))))) else w_X12_raise 1 10 J L (fun J20 L21 => Q J20 L21))
set_option maxHeartbeats 4000000 in
set_option maxRecDepth 100000 in
theorem v_X12_serverTakes {b : Nat} {dC : Nat → ClassId} {dI : Nat → Nat → Nat} {cA : Nat → ClassId} {ts : Nat → Nat} {l : Launch} {n : Nat} {R : Nat → Nat → Option Nat} {al : Bool} (hn : 552 ≤ n) (hR : xRk R) {p1 : Int}  {J : zM} {L : yM} {Q : zM → yM → Prop} (h : w_X12_serverTakes p1 J L Q) : xCn (xGm b dC dI cA ts) l mX12_serverTakes [.ref 491, .int (oI p1)] al (n, R, zi J, li L) 0 0 (zQ0 n R Q) (fun _ _ => False) := by
  refine xCn.ofJ (by decide) (Nat.le_of_ble_eq_true rfl) ?_
  show xJ _ _ _ _ _ _ _ _ _ 0 [(0, .ref 491), (1, .int (oI p1))] [] _ _ _ _ _
  unfold w_X12_serverTakes at h
  refine xr_aload_n (xd dX12_serverTakes 0 rfl) 0 rfl ?_
  refine xr_getR (b := 541) 12 60 (xd dX12_serverTakes 1 rfl) f12_160 (by decide) (by decide) (lt552 hn (by decide)) kd_491 rfl (r_491_60 hR) ?_
  refine xr_iload_n (xd dX12_serverTakes 2 rfl) 1 rfl ?_
  obtain ⟨o1, h⟩ := h
  refine zr_iaload (xd dX12_serverTakes 3 rfl) (lt552 hn (by decide)) kd_541 ln_541 (by decide) o1 ?_
  refine xr_bipush (v := oI 20) (xd dX12_serverTakes 4 rfl) (by decide) ?_
  obtain ⟨o2, h⟩ := h
  refine zr_icmp_eq 19 (xd dX12_serverTakes 5 rfl) (by decide) o2 (by decide) (fun c3 => ?_) (fun c3 => ?_)
  · replace h := ifp h c3
    refine xr_aload_n (xd dX12_serverTakes 11 rfl) 0 rfl ?_
    refine xr_iload_n (xd dX12_serverTakes 12 rfl) 1 rfl ?_
    refine xr_sipush (v := oI 1854) (xd dX12_serverTakes 13 rfl) (by decide) ?_
    refine xr_callV mX12_copyKept 2 [.int (oI p1), .int (oI 1854)] (xd dX12_serverTakes 14 rfl) l12_460 kX12_copyKept rfl (lt552 hn (by decide)) kd_491 (by decide) rfl (by decide) (Nat.le_of_ble_eq_true rfl) (v_X12_copyKept hn hR  h) (by decide) (by decide) (fun r_ M_ h_ => ?_) (fun _ _ h_ => h_.elim)
    obtain ⟨J4, L5, rfl, rfl, h⟩ := h_
    show xJ _ _ _ _ _ _ _ _ _ 27 [(0, .ref 491), (1, .int (oI p1))] [] _ _ _ (zi J4) (li L5)
    refine xr_aload_n (xd dX12_serverTakes 15 rfl) 0 rfl ?_
    refine xr_iconst (v := oI 1) (xd dX12_serverTakes 16 rfl) (by decide) ?_
    refine xr_iconst (v := oI 0) (xd dX12_serverTakes 17 rfl) (by decide) ?_
    refine xr_callV mX12_finished 2 [.int (oI 1), .int (oI 0)] (xd dX12_serverTakes 18 rfl) l12_434 kX12_finished rfl (lt552 hn (by decide)) kd_491 (by decide) rfl (by decide) (Nat.le_of_ble_eq_true rfl) (v_X12_finished hn hR  h) (by decide) (by decide) (fun r_ M_ h_ => ?_) (fun _ _ h_ => h_.elim)
    obtain ⟨J6, L7, rfl, rfl, h⟩ := h_
    show xJ _ _ _ _ _ _ _ _ _ 33 [(0, .ref 491), (1, .int (oI p1))] [] _ _ _ (zi J6) (li L7)
    refine xr_aload_n (xd dX12_serverTakes 19 rfl) 0 rfl ?_
    refine xr_sipush (v := oI 1857) (xd dX12_serverTakes 20 rfl) (by decide) ?_
    refine xr_bipush (v := oI 32) (xd dX12_serverTakes 21 rfl) (by decide) ?_
    refine xr_callV mX12_isDigest 2 [.int (oI 1857), .int (oI 32)] (xd dX12_serverTakes 22 rfl) l12_440 kX12_isDigest rfl (lt552 hn (by decide)) kd_491 (by decide) rfl (by decide) (Nat.le_of_ble_eq_true rfl) (v_X12_isDigest hn hR  h) (by decide) (by decide) (fun r_ M_ h_ => ?_) (fun _ _ h_ => h_.elim)
    obtain ⟨r10, J8, L9, rfl, rfl, h⟩ := h_
    show xJ _ _ _ _ _ _ _ _ _ 42 [(0, .ref 491), (1, .int (oI p1))] [.int (oI r10)] _ _ _ (zi J8) (li L9)
    obtain ⟨o11, h⟩ := h
    refine zr_if_ne 53 (xd dX12_serverTakes 23 rfl) (by decide) o11 (fun c12 => ?_) (fun c12 => ?_)
    · replace h := ifn h c12
      refine xr_aload_n (xd dX12_serverTakes 29 rfl) 0 rfl ?_
      refine xr_getR (b := 534) 12 52 (xd dX12_serverTakes 30 rfl) f12_139 (by decide) (by decide) (lt552 hn (by decide)) kd_491 rfl (r_491_52 hR) ?_
      refine xr_iconst (v := oI 1) (xd dX12_serverTakes 31 rfl) (by decide) ?_
      refine xr_iconst (v := oI 2) (xd dX12_serverTakes 32 rfl) (by decide) ?_
      obtain ⟨J13, e_J13⟩ : ∃ z_ : zM, z_ = zs J8 534 1 2 := ⟨_, rfl⟩
      replace h := h J13 e_J13
      refine zr_iastore e_J13 (xd dX12_serverTakes 33 rfl) (lt552 hn (by decide)) kd_534 ln_534 (by decide) ⟨by decide, by decide⟩ ?_
      refine xr_aload_n (xd dX12_serverTakes 34 rfl) 0 rfl ?_
      refine xr_getR (b := 536) 12 54 (xd dX12_serverTakes 35 rfl) f12_145 (by decide) (by decide) (lt552 hn (by decide)) kd_491 rfl (r_491_54 hR) ?_
      refine xr_iconst (v := oI 1) (xd dX12_serverTakes 36 rfl) (by decide) ?_
      refine xr_iconst (v := oI 4) (xd dX12_serverTakes 37 rfl) (by decide) ?_
      obtain ⟨J14, e_J14⟩ : ∃ z_ : zM, z_ = zs J13 536 1 4 := ⟨_, rfl⟩
      replace h := h J14 e_J14
      refine zr_iastore e_J14 (xd dX12_serverTakes 38 rfl) (lt552 hn (by decide)) kd_536 ln_536 (by decide) ⟨by decide, by decide⟩ ?_
      refine xr_aload_n (xd dX12_serverTakes 39 rfl) 0 rfl ?_
      refine xr_getR (b := 522) 12 40 (xd dX12_serverTakes 40 rfl) f12_103 (by decide) (by decide) (lt552 hn (by decide)) kd_491 rfl (r_491_40 hR) ?_
      refine xr_iconst (v := oI 1) (xd dX12_serverTakes 41 rfl) (by decide) ?_
      refine xr_iconst (v := oI 1) (xd dX12_serverTakes 42 rfl) (by decide) ?_
      obtain ⟨J15, e_J15⟩ : ∃ z_ : zM, z_ = zs J14 522 1 1 := ⟨_, rfl⟩
      replace h := h J15 e_J15
      refine zr_zastore (Or.inr rfl) e_J15 (xd dX12_serverTakes 43 rfl) (lt552 hn (by decide)) kd_522 ln_522 (by decide) ⟨by decide, by decide⟩ ?_
      refine xr_aload_n (xd dX12_serverTakes 44 rfl) 0 rfl ?_
      refine xr_iconst (v := oI 1) (xd dX12_serverTakes 45 rfl) (by decide) ?_
      refine xr_callV mX12_acks 1 [.int (oI 1)] (xd dX12_serverTakes 46 rfl) l12_466 kX12_acks rfl (lt552 hn (by decide)) kd_491 (by decide) rfl (by decide) (Nat.le_of_ble_eq_true rfl) (v_X12_acks hn hR  h) (by decide) (by decide) (fun r_ M_ h_ => ?_) (fun _ _ h_ => h_.elim)
      obtain ⟨J16, L17, rfl, rfl, h⟩ := h_
      show xJ _ _ _ _ _ _ _ _ _ 79 [(0, .ref 491), (1, .int (oI p1))] [] _ _ _ (zi J16) (li L17)
      exact xr_vret (xd dX12_serverTakes 47 rfl) rfl (by decide) (by decide) (fun _ => rfl) ⟨_, _, rfl, rfl, h⟩
    · replace h := ifp h c12
      refine xr_aload_n (xd dX12_serverTakes 24 rfl) 0 rfl ?_
      refine xr_iconst (v := oI 1) (xd dX12_serverTakes 25 rfl) (by decide) ?_
      refine xr_bipush (v := oI 51) (xd dX12_serverTakes 26 rfl) (by decide) ?_
      refine xr_callV mX12_raise 2 [.int (oI 1), .int (oI 51)] (xd dX12_serverTakes 27 rfl) l12_463 kX12_raise rfl (lt552 hn (by decide)) kd_491 (by decide) rfl (by decide) (Nat.le_of_ble_eq_true rfl) (v_X12_raise hn hR  h) (by decide) (by decide) (fun r_ M_ h_ => ?_) (fun _ _ h_ => h_.elim)
      obtain ⟨J18, L19, rfl, rfl, h⟩ := h_
      show xJ _ _ _ _ _ _ _ _ _ 52 [(0, .ref 491), (1, .int (oI p1))] [] _ _ _ (zi J18) (li L19)
      exact xr_vret (xd dX12_serverTakes 28 rfl) rfl (by decide) (by decide) (fun _ => rfl) ⟨_, _, rfl, rfl, h⟩
  · replace h := ifn h c3
    refine xr_aload_n (xd dX12_serverTakes 6 rfl) 0 rfl ?_
    refine xr_iconst (v := oI 1) (xd dX12_serverTakes 7 rfl) (by decide) ?_
    refine xr_bipush (v := oI 10) (xd dX12_serverTakes 8 rfl) (by decide) ?_
    refine xr_callV mX12_raise 2 [.int (oI 1), .int (oI 10)] (xd dX12_serverTakes 9 rfl) l12_463 kX12_raise rfl (lt552 hn (by decide)) kd_491 (by decide) rfl (by decide) (Nat.le_of_ble_eq_true rfl) (v_X12_raise hn hR  h) (by decide) (by decide) (fun r_ M_ h_ => ?_) (fun _ _ h_ => h_.elim)
    obtain ⟨J20, L21, rfl, rfl, h⟩ := h_
    show xJ _ _ _ _ _ _ _ _ _ 18 [(0, .ref 491), (1, .int (oI p1))] [] _ _ _ (zi J20) (li L21)
    exact xr_vret (xd dX12_serverTakes 10 rfl) rfl (by decide) (by decide) (fun _ => rfl) ⟨_, _, rfl, rfl, h⟩
def w_X12_isWhole (p1 : Int) (J : zM) (L : yM) (Q : Int → zM → yM → Prop) : Prop := zl_zz (fun K1 x2 x3 J4 L5 => ((0 : Int) ≤ p1 ∧ p1 < 16) ∧ R32 x3 ∧ R32 (J4 542 p1) ∧ (if x3 < (J4 542 p1) then R32 x2 ∧ (if x2 = 0 then B01 x2 ∧ Q x2 J4 L5 else ((0 : Int) ≤ ((200 * p1) + x3) ∧ ((200 * p1) + x3) < 3200) ∧ ∀ x15 : Int, x15 = (J4 543 ((200 * p1) + x3)) → K1 x15 (x3 + 1) J4 L5) else B01 x2 ∧ Q x2 J4 L5)) 1 0 J L
set_option maxHeartbeats 4000000 in
set_option maxRecDepth 100000 in
theorem v_X12_isWhole {b : Nat} {dC : Nat → ClassId} {dI : Nat → Nat → Nat} {cA : Nat → ClassId} {ts : Nat → Nat} {l : Launch} {n : Nat} {R : Nat → Nat → Option Nat} {al : Bool} (hn : 552 ≤ n) (hR : xRk R) {p1 : Int}  {J : zM} {L : yM} {Q : Int → zM → yM → Prop} (h : w_X12_isWhole p1 J L Q) : xCn (xGm b dC dI cA ts) l mX12_isWhole [.ref 491, .int (oI p1)] al (n, R, zi J, li L) 0 0 (zQ1 n R Q) (fun _ _ => False) := by
  refine xCn.ofJ (by decide) (Nat.le_of_ble_eq_true rfl) ?_
  show xJ _ _ _ _ _ _ _ _ _ 0 [(0, .ref 491), (1, .int (oI p1))] [] _ _ _ _ _
  unfold w_X12_isWhole at h
  refine xr_iconst (v := oI 1) (xd dX12_isWhole 0 rfl) (by decide) ?_
  refine xr_istore_n [(0, .ref 491), (1, .int (oI p1)), (2, .int (oI 1))] (xd dX12_isWhole 1 rfl) rfl (by decide) rfl ?_
  refine xr_iconst (v := oI 0) (xd dX12_isWhole 2 rfl) (by decide) ?_
  refine xr_istore_n [(0, .ref 491), (1, .int (oI p1)), (2, .int (oI 1)), (3, .int (oI 0))] (xd dX12_isWhole 3 rfl) rfl (by decide) rfl ?_
  refine h (fun x2 x3 J4 L5 => xJ (xGm b dC dI cA ts) l mX12_isWhole 0 0 (zQ1 n R Q) (fun _ _ => False) 0 0 4 [(0, .ref 491), (1, .int (oI p1)), (2, .int (oI x2)), (3, .int (oI x3))] [] al n R (zi J4) (li L5)) ?_
  intro x2 x3 J4 L5 h
  show xJ _ _ _ _ _ _ _ _ _ 4 [(0, .ref 491), (1, .int (oI p1)), (2, .int (oI x2)), (3, .int (oI x3))] [] _ _ _ _ _
  refine xr_iload_n (xd dX12_isWhole 4 rfl) 3 rfl ?_
  refine xr_aload_n (xd dX12_isWhole 5 rfl) 0 rfl ?_
  refine xr_getR (b := 542) 12 61 (xd dX12_isWhole 6 rfl) f12_163 (by decide) (by decide) (lt552 hn (by decide)) kd_491 rfl (r_491_61 hR) ?_
  refine xr_iload_n (xd dX12_isWhole 7 rfl) 1 rfl ?_
  obtain ⟨o6, h⟩ := h
  refine zr_iaload (xd dX12_isWhole 8 rfl) (lt552 hn (by decide)) kd_542 ln_542 (by decide) o6 ?_
  obtain ⟨o7, h⟩ := h
  obtain ⟨o8, h⟩ := h
  refine zr_icmp_ge 37 (xd dX12_isWhole 9 rfl) (by decide) o7 o8 (fun c9 => ?_) (fun c9 => ?_)
  · replace h := ifn h c9
    refine xr_iload_n (xd dX12_isWhole 23 rfl) 2 rfl ?_
    obtain ⟨o10, h⟩ := h
    exact xr_zret (xd dX12_isWhole 24 rfl) rfl (zret_b o10) (by decide) (by decide) (fun _ => rfl) ⟨_, _, _, rfl, rfl, h⟩
  · replace h := ifp h c9
    refine xr_iload_n (xd dX12_isWhole 10 rfl) 2 rfl ?_
    obtain ⟨o11, h⟩ := h
    refine zr_if_eq 37 (xd dX12_isWhole 11 rfl) (by decide) o11 (fun c12 => ?_) (fun c12 => ?_)
    · replace h := ifp h c12
      refine xr_iload_n (xd dX12_isWhole 23 rfl) 2 rfl ?_
      obtain ⟨o13, h⟩ := h
      exact xr_zret (xd dX12_isWhole 24 rfl) rfl (zret_b o13) (by decide) (by decide) (fun _ => rfl) ⟨_, _, _, rfl, rfl, h⟩
    · replace h := ifn h c12
      refine xr_aload_n (xd dX12_isWhole 12 rfl) 0 rfl ?_
      refine xr_getR (b := 543) 12 62 (xd dX12_isWhole 13 rfl) f12_166 (by decide) (by decide) (lt552 hn (by decide)) kd_491 rfl (r_491_62 hR) ?_
      refine xr_sipush (v := oI 200) (xd dX12_isWhole 14 rfl) (by decide) ?_
      refine xr_iload_n (xd dX12_isWhole 15 rfl) 1 rfl ?_
      refine zr_imul (xd dX12_isWhole 16 rfl) ?_
      refine xr_iload_n (xd dX12_isWhole 17 rfl) 3 rfl ?_
      refine zr_iadd (xd dX12_isWhole 18 rfl) ?_
      obtain ⟨o14, h⟩ := h
      refine zr_zaload (xd dX12_isWhole 19 rfl) (lt552 hn (by decide)) kd_543 ln_543 (by decide) o14 ?_
      obtain ⟨x15, e_x15⟩ : ∃ z_ : Int, z_ = (J4 543 ((200 * p1) + x3)) := ⟨_, rfl⟩
      replace h := h x15 e_x15
      refine zr_nm e_x15 ?_
      refine xr_istore_n [(0, .ref 491), (1, .int (oI p1)), (2, .int (oI x15)), (3, .int (oI x3))] (xd dX12_isWhole 20 rfl) rfl (by decide) rfl ?_
      refine zr_iinc [(0, .ref 491), (1, .int (oI p1)), (2, .int (oI x15)), (3, .int (oI (x3 + 1)))] (xd dX12_isWhole 21 rfl) 3 rfl (by decide) rfl ?_
      refine xr_goto 4 (xd dX12_isWhole 22 rfl) (by decide) ?_
      exact h
def w_X12_slotOf (p1 : Int) (p2 : Int) (J : zM) (L : yM) (Q : Int → zM → yM → Prop) : Prop := Q ((8 * p1) + (zrem p2 8)) J L
set_option maxHeartbeats 4000000 in
set_option maxRecDepth 100000 in
theorem v_X12_slotOf {b : Nat} {dC : Nat → ClassId} {dI : Nat → Nat → Nat} {cA : Nat → ClassId} {ts : Nat → Nat} {l : Launch} {n : Nat} {R : Nat → Nat → Option Nat} {al : Bool} (hn : 552 ≤ n) (hR : xRk R) {p1 : Int} {p2 : Int}  {J : zM} {L : yM} {Q : Int → zM → yM → Prop} (h : w_X12_slotOf p1 p2 J L Q) : xCn (xGm b dC dI cA ts) l mX12_slotOf [.ref 491, .int (oI p1), .int (oI p2)] al (n, R, zi J, li L) 0 0 (zQ1 n R Q) (fun _ _ => False) := by
  refine xCn.ofJ (by decide) (Nat.le_of_ble_eq_true rfl) ?_
  show xJ _ _ _ _ _ _ _ _ _ 0 [(0, .ref 491), (1, .int (oI p1)), (2, .int (oI p2))] [] _ _ _ _ _
  unfold w_X12_slotOf at h
  refine xr_bipush (v := oI 8) (xd dX12_slotOf 0 rfl) (by decide) ?_
  refine xr_iload_n (xd dX12_slotOf 1 rfl) 1 rfl ?_
  refine zr_imul (xd dX12_slotOf 2 rfl) ?_
  refine xr_iload_n (xd dX12_slotOf 3 rfl) 2 rfl ?_
  refine xr_bipush (v := oI 8) (xd dX12_slotOf 4 rfl) (by decide) ?_
  refine zr_irem (xd dX12_slotOf 5 rfl) (by decide) (by decide) ?_
  refine zr_iadd (xd dX12_slotOf 6 rfl) ?_
  exact xr_iret (xd dX12_slotOf 7 rfl) rfl (by decide) (by decide) (fun _ => rfl) ⟨_, _, _, rfl, rfl, h⟩
def w_X12_takeAll (p1 : Int) (J : zM) (L : yM) (Q : zM → yM → Prop) : Prop := ((0 : Int) ≤ p1 ∧ p1 < 2) ∧ w_X12_slotOf p1 (J 535 p1) J L (fun r4 J2 L3 => zl_z (fun K5 x6 J7 L8 => ((0 : Int) ≤ p1 ∧ p1 < 2) ∧ R32 (J7 534 p1) ∧ (if (J7 534 p1) = 1 then ((0 : Int) ≤ x6 ∧ x6 < 16) ∧ ((0 : Int) ≤ p1 ∧ p1 < 2) ∧ R32 (J7 540 x6) ∧ R32 (J7 535 p1) ∧ (if (J7 540 x6) = (J7 535 p1) then w_X12_isWhole x6 J7 L8 (fun r19 J17 L18 => R32 r19 ∧ (if r19 = 0 then Q J17 L18 else ((0 : Int) ≤ x6 ∧ x6 < 16) ∧ ∀ J23 : zM, J23 = zs J17 540 x6 (-1) → ((0 : Int) ≤ p1 ∧ p1 < 2) ∧ ((0 : Int) ≤ p1 ∧ p1 < 2) ∧ ∀ J26 : zM, J26 = zs J23 535 p1 ((J23 535 p1) + 1) → ∀ K29 : zM → yM → Prop, (∀ (J27 : zM) (L28 : yM), (((0 : Int) ≤ p1 ∧ p1 < 2) ∧ w_X12_slotOf p1 (J27 535 p1) J27 L28 (fun r33 J31 L32 => K5 r33 J31 L32)) → K29 J27 L28) → R32 p1 ∧ (if p1 = 0 then w_X12_clientTakes x6 J26 L18 (fun J38 L39 => K29 J38 L39) else w_X12_serverTakes x6 J26 L18 (fun J36 L37 => K29 J36 L37)))) else Q J7 L8) else Q J7 L8)) r4 J2 L3)
set_option maxHeartbeats 4000000 in
set_option maxRecDepth 100000 in
theorem v_X12_takeAll {b : Nat} {dC : Nat → ClassId} {dI : Nat → Nat → Nat} {cA : Nat → ClassId} {ts : Nat → Nat} {l : Launch} {n : Nat} {R : Nat → Nat → Option Nat} {al : Bool} (hn : 552 ≤ n) (hR : xRk R) {p1 : Int}  {J : zM} {L : yM} {Q : zM → yM → Prop} (h : w_X12_takeAll p1 J L Q) : xCn (xGm b dC dI cA ts) l mX12_takeAll [.ref 491, .int (oI p1)] al (n, R, zi J, li L) 0 0 (zQ0 n R Q) (fun _ _ => False) := by
  refine xCn.ofJ (by decide) (Nat.le_of_ble_eq_true rfl) ?_
  show xJ _ _ _ _ _ _ _ _ _ 0 [(0, .ref 491), (1, .int (oI p1))] [] _ _ _ _ _
  unfold w_X12_takeAll at h
  refine xr_aload_n (xd dX12_takeAll 0 rfl) 0 rfl ?_
  refine xr_iload_n (xd dX12_takeAll 1 rfl) 1 rfl ?_
  refine xr_aload_n (xd dX12_takeAll 2 rfl) 0 rfl ?_
  refine xr_getR (b := 535) 12 53 (xd dX12_takeAll 3 rfl) f12_142 (by decide) (by decide) (lt552 hn (by decide)) kd_491 rfl (r_491_53 hR) ?_
  refine xr_iload_n (xd dX12_takeAll 4 rfl) 1 rfl ?_
  obtain ⟨o1, h⟩ := h
  refine zr_iaload (xd dX12_takeAll 5 rfl) (lt552 hn (by decide)) kd_535 ln_535 (by decide) o1 ?_
  refine xr_callV mX12_slotOf 2 [.int (oI p1), .int (oI (J 535 p1))] (xd dX12_takeAll 6 rfl) l12_469 kX12_slotOf rfl (lt552 hn (by decide)) kd_491 (by decide) rfl (by decide) (Nat.le_of_ble_eq_true rfl) (v_X12_slotOf hn hR  h) (by decide) (by decide) (fun r_ M_ h_ => ?_) (fun _ _ h_ => h_.elim)
  obtain ⟨r4, J2, L3, rfl, rfl, h⟩ := h_
  show xJ _ _ _ _ _ _ _ _ _ 11 [(0, .ref 491), (1, .int (oI p1))] [.int (oI r4)] _ _ _ (zi J2) (li L3)
  refine xr_istore_n [(0, .ref 491), (1, .int (oI p1)), (2, .int (oI r4))] (xd dX12_takeAll 7 rfl) rfl (by decide) rfl ?_
  refine h (fun x6 J7 L8 => xJ (xGm b dC dI cA ts) l mX12_takeAll 0 0 (zQ0 n R Q) (fun _ _ => False) 0 0 12 [(0, .ref 491), (1, .int (oI p1)), (2, .int (oI x6))] [] al n R (zi J7) (li L8)) ?_
  intro x6 J7 L8 h
  show xJ _ _ _ _ _ _ _ _ _ 12 [(0, .ref 491), (1, .int (oI p1)), (2, .int (oI x6))] [] _ _ _ _ _
  refine xr_aload_n (xd dX12_takeAll 8 rfl) 0 rfl ?_
  refine xr_getR (b := 534) 12 52 (xd dX12_takeAll 9 rfl) f12_139 (by decide) (by decide) (lt552 hn (by decide)) kd_491 rfl (r_491_52 hR) ?_
  refine xr_iload_n (xd dX12_takeAll 10 rfl) 1 rfl ?_
  obtain ⟨o9, h⟩ := h
  refine zr_iaload (xd dX12_takeAll 11 rfl) (lt552 hn (by decide)) kd_534 ln_534 (by decide) o9 ?_
  refine xr_iconst (v := oI 1) (xd dX12_takeAll 12 rfl) (by decide) ?_
  obtain ⟨o10, h⟩ := h
  refine zr_icmp_ne 94 (xd dX12_takeAll 13 rfl) (by decide) o10 (by decide) (fun c11 => ?_) (fun c11 => ?_)
  · replace h := ifn h c11
    exact xr_vret (xd dX12_takeAll 58 rfl) rfl (by decide) (by decide) (fun _ => rfl) ⟨_, _, rfl, rfl, h⟩
  · replace h := ifp h c11
    refine xr_aload_n (xd dX12_takeAll 14 rfl) 0 rfl ?_
    refine xr_getR (b := 540) 12 59 (xd dX12_takeAll 15 rfl) f12_157 (by decide) (by decide) (lt552 hn (by decide)) kd_491 rfl (r_491_59 hR) ?_
    refine xr_iload_n (xd dX12_takeAll 16 rfl) 2 rfl ?_
    obtain ⟨o12, h⟩ := h
    refine zr_iaload (xd dX12_takeAll 17 rfl) (lt552 hn (by decide)) kd_540 ln_540 (by decide) o12 ?_
    refine xr_aload_n (xd dX12_takeAll 18 rfl) 0 rfl ?_
    refine xr_getR (b := 535) 12 53 (xd dX12_takeAll 19 rfl) f12_142 (by decide) (by decide) (lt552 hn (by decide)) kd_491 rfl (r_491_53 hR) ?_
    refine xr_iload_n (xd dX12_takeAll 20 rfl) 1 rfl ?_
    obtain ⟨o13, h⟩ := h
    refine zr_iaload (xd dX12_takeAll 21 rfl) (lt552 hn (by decide)) kd_535 ln_535 (by decide) o13 ?_
    obtain ⟨o14, h⟩ := h
    obtain ⟨o15, h⟩ := h
    refine zr_icmp_ne 94 (xd dX12_takeAll 22 rfl) (by decide) o14 o15 (fun c16 => ?_) (fun c16 => ?_)
    · replace h := ifn h c16
      exact xr_vret (xd dX12_takeAll 58 rfl) rfl (by decide) (by decide) (fun _ => rfl) ⟨_, _, rfl, rfl, h⟩
    · replace h := ifp h c16
      refine xr_aload_n (xd dX12_takeAll 23 rfl) 0 rfl ?_
      refine xr_iload_n (xd dX12_takeAll 24 rfl) 2 rfl ?_
      refine xr_callV mX12_isWhole 1 [.int (oI x6)] (xd dX12_takeAll 25 rfl) l12_472 kX12_isWhole rfl (lt552 hn (by decide)) kd_491 (by decide) rfl (by decide) (Nat.le_of_ble_eq_true rfl) (v_X12_isWhole hn hR  h) (by decide) (by decide) (fun r_ M_ h_ => ?_) (fun _ _ h_ => h_.elim)
      obtain ⟨r19, J17, L18, rfl, rfl, h⟩ := h_
      show xJ _ _ _ _ _ _ _ _ _ 42 [(0, .ref 491), (1, .int (oI p1)), (2, .int (oI x6))] [.int (oI r19)] _ _ _ (zi J17) (li L18)
      obtain ⟨o20, h⟩ := h
      refine zr_if_eq 94 (xd dX12_takeAll 26 rfl) (by decide) o20 (fun c21 => ?_) (fun c21 => ?_)
      · replace h := ifp h c21
        exact xr_vret (xd dX12_takeAll 58 rfl) rfl (by decide) (by decide) (fun _ => rfl) ⟨_, _, rfl, rfl, h⟩
      · replace h := ifn h c21
        refine xr_aload_n (xd dX12_takeAll 27 rfl) 0 rfl ?_
        refine xr_getR (b := 540) 12 59 (xd dX12_takeAll 28 rfl) f12_157 (by decide) (by decide) (lt552 hn (by decide)) kd_491 rfl (r_491_59 hR) ?_
        refine xr_iload_n (xd dX12_takeAll 29 rfl) 2 rfl ?_
        refine xr_iconst (v := oI (-1)) (xd dX12_takeAll 30 rfl) (by decide) ?_
        obtain ⟨o22, h⟩ := h
        obtain ⟨J23, e_J23⟩ : ∃ z_ : zM, z_ = zs J17 540 x6 (-1) := ⟨_, rfl⟩
        replace h := h J23 e_J23
        refine zr_iastore e_J23 (xd dX12_takeAll 31 rfl) (lt552 hn (by decide)) kd_540 ln_540 (by decide) o22 ?_
        refine xr_aload_n (xd dX12_takeAll 32 rfl) 0 rfl ?_
        refine xr_getR (b := 535) 12 53 (xd dX12_takeAll 33 rfl) f12_142 (by decide) (by decide) (lt552 hn (by decide)) kd_491 rfl (r_491_53 hR) ?_
        refine xr_iload_n (xd dX12_takeAll 34 rfl) 1 rfl ?_
        refine xr_dup2 (xd dX12_takeAll 35 rfl) rfl rfl ?_
        obtain ⟨o24, h⟩ := h
        refine zr_iaload (xd dX12_takeAll 36 rfl) (lt552 hn (by decide)) kd_535 ln_535 (by decide) o24 ?_
        refine xr_iconst (v := oI 1) (xd dX12_takeAll 37 rfl) (by decide) ?_
        refine zr_iadd (xd dX12_takeAll 38 rfl) ?_
        obtain ⟨o25, h⟩ := h
        obtain ⟨J26, e_J26⟩ : ∃ z_ : zM, z_ = zs J23 535 p1 ((J23 535 p1) + 1) := ⟨_, rfl⟩
        replace h := h J26 e_J26
        refine zr_iastore e_J26 (xd dX12_takeAll 39 rfl) (lt552 hn (by decide)) kd_535 ln_535 (by decide) o25 ?_
        refine xr_iload_n (xd dX12_takeAll 40 rfl) 1 rfl ?_
        replace h := h (fun (J27 : zM) (L28 : yM) => xJ (xGm b dC dI cA ts) l mX12_takeAll 0 0 (zQ0 n R Q) (fun _ _ => False) 0 0 79 [(0, .ref 491), (1, .int (oI p1))] [] al n R (zi J27) (li L28)) (by
          intro J27 L28 h
          show xJ _ _ _ _ _ _ _ _ _ 79 [(0, .ref 491), (1, .int (oI p1))] [] _ _ _ _ _
          refine xr_aload_n (xd dX12_takeAll 49 rfl) 0 rfl ?_
          refine xr_iload_n (xd dX12_takeAll 50 rfl) 1 rfl ?_
          refine xr_aload_n (xd dX12_takeAll 51 rfl) 0 rfl ?_
          refine xr_getR (b := 535) 12 53 (xd dX12_takeAll 52 rfl) f12_142 (by decide) (by decide) (lt552 hn (by decide)) kd_491 rfl (r_491_53 hR) ?_
          refine xr_iload_n (xd dX12_takeAll 53 rfl) 1 rfl ?_
          obtain ⟨o30, h⟩ := h
          refine zr_iaload (xd dX12_takeAll 54 rfl) (lt552 hn (by decide)) kd_535 ln_535 (by decide) o30 ?_
          refine xr_callV mX12_slotOf 2 [.int (oI p1), .int (oI (J27 535 p1))] (xd dX12_takeAll 55 rfl) l12_469 kX12_slotOf rfl (lt552 hn (by decide)) kd_491 (by decide) rfl (by decide) (Nat.le_of_ble_eq_true rfl) (v_X12_slotOf hn hR  h) (by decide) (by decide) (fun r_ M_ h_ => ?_) (fun _ _ h_ => h_.elim)
          obtain ⟨r33, J31, L32, rfl, rfl, h⟩ := h_
          show xJ _ _ _ _ _ _ _ _ _ 90 [(0, .ref 491), (1, .int (oI p1))] [.int (oI r33)] _ _ _ (zi J31) (li L32)
          refine xr_istore_n [(0, .ref 491), (1, .int (oI p1)), (2, .int (oI r33))] (xd dX12_takeAll 56 rfl) rfl (by decide) rfl ?_
          refine xr_goto 12 (xd dX12_takeAll 57 rfl) (by decide) ?_
          exact h)
        obtain ⟨o34, h⟩ := h
        refine zr_if_ne 74 (xd dX12_takeAll 41 rfl) (by decide) o34 (fun c35 => ?_) (fun c35 => ?_)
        · replace h := ifn h c35
          refine xr_aload_n (xd dX12_takeAll 46 rfl) 0 rfl ?_
          refine xr_iload_n (xd dX12_takeAll 47 rfl) 2 rfl ?_
          refine xr_callV mX12_serverTakes 1 [.int (oI x6)] (xd dX12_takeAll 48 rfl) l12_478 kX12_serverTakes rfl (lt552 hn (by decide)) kd_491 (by decide) rfl (by decide) (Nat.le_of_ble_eq_true rfl) (v_X12_serverTakes hn hR  h) (by decide) (by decide) (fun r_ M_ h_ => ?_) (fun _ _ h_ => h_.elim)
          obtain ⟨J36, L37, rfl, rfl, h⟩ := h_
          show xJ _ _ _ _ _ _ _ _ _ 79 [(0, .ref 491), (1, .int (oI p1)), (2, .int (oI x6))] [] _ _ _ (zi J36) (li L37)
          refine xJ.pick (ls' := [(0, .ref 491), (1, .int (oI p1))]) [0, 1] rfl ?_
          exact h
        · replace h := ifp h c35
          refine xr_aload_n (xd dX12_takeAll 42 rfl) 0 rfl ?_
          refine xr_iload_n (xd dX12_takeAll 43 rfl) 2 rfl ?_
          refine xr_callV mX12_clientTakes 1 [.int (oI x6)] (xd dX12_takeAll 44 rfl) l12_475 kX12_clientTakes rfl (lt552 hn (by decide)) kd_491 (by decide) rfl (by decide) (Nat.le_of_ble_eq_true rfl) (v_X12_clientTakes hn hR  h) (by decide) (by decide) (fun r_ M_ h_ => ?_) (fun _ _ h_ => h_.elim)
          obtain ⟨J38, L39, rfl, rfl, h⟩ := h_
          show xJ _ _ _ _ _ _ _ _ _ 71 [(0, .ref 491), (1, .int (oI p1)), (2, .int (oI x6))] [] _ _ _ (zi J38) (li L39)
          refine xr_goto 79 (xd dX12_takeAll 45 rfl) (by decide) ?_
          refine xJ.pick (ls' := [(0, .ref 491), (1, .int (oI p1))]) [0, 1] rfl ?_
          exact h
def w_X12_isLength (p1 : Int) (p2 : Int) (J : zM) (L : yM) (Q : Int → zM → yM → Prop) : Prop := R32 p1 ∧ (if p1 = 1 then R32 p2 ∧ (if p2 = 61 then Q 1 J L else (if p2 = 77 then Q 1 J L else Q 0 J L)) else (if p1 = 6 then R32 p2 ∧ (if p2 = 16 then Q 1 J L else Q 0 J L) else (if p1 = 2 then R32 p2 ∧ (if p2 = 20 then Q 1 J L else Q 0 J L) else (if p1 = 8 then R32 p2 ∧ (if p2 < 2 then Q 0 J L else (if 152 < p2 then Q 0 J L else Q 1 J L)) else R32 p2 ∧ (if p2 = 32 then Q 1 J L else Q 0 J L)))))
set_option maxHeartbeats 4000000 in
set_option maxRecDepth 100000 in
theorem v_X12_isLength {b : Nat} {dC : Nat → ClassId} {dI : Nat → Nat → Nat} {cA : Nat → ClassId} {ts : Nat → Nat} {l : Launch} {n : Nat} {R : Nat → Nat → Option Nat} {al : Bool} (hn : 552 ≤ n) (hR : xRk R) {p1 : Int} {p2 : Int}  {J : zM} {L : yM} {Q : Int → zM → yM → Prop} (h : w_X12_isLength p1 p2 J L Q) : xCn (xGm b dC dI cA ts) l mX12_isLength [.int (oI p1), .int (oI p2)] al (n, R, zi J, li L) 0 0 (zQ1 n R Q) (fun _ _ => False) := by
  refine xCn.ofJ (by decide) (Nat.le_of_ble_eq_true rfl) ?_
  show xJ _ _ _ _ _ _ _ _ _ 0 [(0, .int (oI p1)), (1, .int (oI p2))] [] _ _ _ _ _
  unfold w_X12_isLength at h
  refine xr_iload_n (xd dX12_isLength 0 rfl) 0 rfl ?_
  refine xr_iconst (v := oI 1) (xd dX12_isLength 1 rfl) (by decide) ?_
  obtain ⟨o1, h⟩ := h
  refine zr_icmp_ne 25 (xd dX12_isLength 2 rfl) (by decide) o1 (by decide) (fun c2 => ?_) (fun c2 => ?_)
  · replace h := ifn h c2
    refine xr_iload_n (xd dX12_isLength 13 rfl) 0 rfl ?_
    refine xr_bipush (v := oI 6) (xd dX12_isLength 14 rfl) (by decide) ?_
    refine zr_icmp_ne 45 (xd dX12_isLength 15 rfl) (by decide) o1 (by decide) (fun c3 => ?_) (fun c3 => ?_)
    · replace h := ifn h c3
      refine xr_iload_n (xd dX12_isLength 23 rfl) 0 rfl ?_
      refine xr_iconst (v := oI 2) (xd dX12_isLength 24 rfl) (by decide) ?_
      refine zr_icmp_ne 64 (xd dX12_isLength 25 rfl) (by decide) o1 (by decide) (fun c4 => ?_) (fun c4 => ?_)
      · replace h := ifn h c4
        refine xr_iload_n (xd dX12_isLength 33 rfl) 0 rfl ?_
        refine xr_bipush (v := oI 8) (xd dX12_isLength 34 rfl) (by decide) ?_
        refine zr_icmp_ne 90 (xd dX12_isLength 35 rfl) (by decide) o1 (by decide) (fun c5 => ?_) (fun c5 => ?_)
        · replace h := ifn h c5
          refine xr_iload_n (xd dX12_isLength 46 rfl) 1 rfl ?_
          refine xr_bipush (v := oI 32) (xd dX12_isLength 47 rfl) (by decide) ?_
          obtain ⟨o6, h⟩ := h
          refine zr_icmp_ne 100 (xd dX12_isLength 48 rfl) (by decide) o6 (by decide) (fun c7 => ?_) (fun c7 => ?_)
          · replace h := ifn h c7
            refine xr_iconst (v := oI 0) (xd dX12_isLength 51 rfl) (by decide) ?_
            exact xr_zret (xd dX12_isLength 52 rfl) rfl (zret_b (Or.inl rfl)) (by decide) (by decide) (fun _ => rfl) ⟨_, _, _, rfl, rfl, h⟩
          · replace h := ifp h c7
            refine xr_iconst (v := oI 1) (xd dX12_isLength 49 rfl) (by decide) ?_
            refine xr_goto 101 (xd dX12_isLength 50 rfl) (by decide) ?_
            exact xr_zret (xd dX12_isLength 52 rfl) rfl (zret_b (Or.inr rfl)) (by decide) (by decide) (fun _ => rfl) ⟨_, _, _, rfl, rfl, h⟩
        · replace h := ifp h c5
          refine xr_iload_n (xd dX12_isLength 36 rfl) 1 rfl ?_
          refine xr_iconst (v := oI 2) (xd dX12_isLength 37 rfl) (by decide) ?_
          obtain ⟨o8, h⟩ := h
          refine zr_icmp_lt 86 (xd dX12_isLength 38 rfl) (by decide) o8 (by decide) (fun c9 => ?_) (fun c9 => ?_)
          · replace h := ifp h c9
            refine xr_iconst (v := oI 0) (xd dX12_isLength 44 rfl) (by decide) ?_
            refine xr_goto 101 (xd dX12_isLength 45 rfl) (by decide) ?_
            exact xr_zret (xd dX12_isLength 52 rfl) rfl (zret_b (Or.inl rfl)) (by decide) (by decide) (fun _ => rfl) ⟨_, _, _, rfl, rfl, h⟩
          · replace h := ifn h c9
            refine xr_iload_n (xd dX12_isLength 39 rfl) 1 rfl ?_
            refine xr_sipush (v := oI 152) (xd dX12_isLength 40 rfl) (by decide) ?_
            refine zr_icmp_gt 86 (xd dX12_isLength 41 rfl) (by decide) o8 (by decide) (fun c10 => ?_) (fun c10 => ?_)
            · replace h := ifp h c10
              refine xr_iconst (v := oI 0) (xd dX12_isLength 44 rfl) (by decide) ?_
              refine xr_goto 101 (xd dX12_isLength 45 rfl) (by decide) ?_
              exact xr_zret (xd dX12_isLength 52 rfl) rfl (zret_b (Or.inl rfl)) (by decide) (by decide) (fun _ => rfl) ⟨_, _, _, rfl, rfl, h⟩
            · replace h := ifn h c10
              refine xr_iconst (v := oI 1) (xd dX12_isLength 42 rfl) (by decide) ?_
              refine xr_goto 101 (xd dX12_isLength 43 rfl) (by decide) ?_
              exact xr_zret (xd dX12_isLength 52 rfl) rfl (zret_b (Or.inr rfl)) (by decide) (by decide) (fun _ => rfl) ⟨_, _, _, rfl, rfl, h⟩
      · replace h := ifp h c4
        refine xr_iload_n (xd dX12_isLength 26 rfl) 1 rfl ?_
        refine xr_bipush (v := oI 20) (xd dX12_isLength 27 rfl) (by decide) ?_
        obtain ⟨o11, h⟩ := h
        refine zr_icmp_ne 60 (xd dX12_isLength 28 rfl) (by decide) o11 (by decide) (fun c12 => ?_) (fun c12 => ?_)
        · replace h := ifn h c12
          refine xr_iconst (v := oI 0) (xd dX12_isLength 31 rfl) (by decide) ?_
          refine xr_goto 101 (xd dX12_isLength 32 rfl) (by decide) ?_
          exact xr_zret (xd dX12_isLength 52 rfl) rfl (zret_b (Or.inl rfl)) (by decide) (by decide) (fun _ => rfl) ⟨_, _, _, rfl, rfl, h⟩
        · replace h := ifp h c12
          refine xr_iconst (v := oI 1) (xd dX12_isLength 29 rfl) (by decide) ?_
          refine xr_goto 101 (xd dX12_isLength 30 rfl) (by decide) ?_
          exact xr_zret (xd dX12_isLength 52 rfl) rfl (zret_b (Or.inr rfl)) (by decide) (by decide) (fun _ => rfl) ⟨_, _, _, rfl, rfl, h⟩
    · replace h := ifp h c3
      refine xr_iload_n (xd dX12_isLength 16 rfl) 1 rfl ?_
      refine xr_bipush (v := oI 16) (xd dX12_isLength 17 rfl) (by decide) ?_
      obtain ⟨o13, h⟩ := h
      refine zr_icmp_ne 41 (xd dX12_isLength 18 rfl) (by decide) o13 (by decide) (fun c14 => ?_) (fun c14 => ?_)
      · replace h := ifn h c14
        refine xr_iconst (v := oI 0) (xd dX12_isLength 21 rfl) (by decide) ?_
        refine xr_goto 101 (xd dX12_isLength 22 rfl) (by decide) ?_
        exact xr_zret (xd dX12_isLength 52 rfl) rfl (zret_b (Or.inl rfl)) (by decide) (by decide) (fun _ => rfl) ⟨_, _, _, rfl, rfl, h⟩
      · replace h := ifp h c14
        refine xr_iconst (v := oI 1) (xd dX12_isLength 19 rfl) (by decide) ?_
        refine xr_goto 101 (xd dX12_isLength 20 rfl) (by decide) ?_
        exact xr_zret (xd dX12_isLength 52 rfl) rfl (zret_b (Or.inr rfl)) (by decide) (by decide) (fun _ => rfl) ⟨_, _, _, rfl, rfl, h⟩
  · replace h := ifp h c2
    refine xr_iload_n (xd dX12_isLength 3 rfl) 1 rfl ?_
    refine xr_bipush (v := oI 61) (xd dX12_isLength 4 rfl) (by decide) ?_
    obtain ⟨o15, h⟩ := h
    refine zr_icmp_eq 17 (xd dX12_isLength 5 rfl) (by decide) o15 (by decide) (fun c16 => ?_) (fun c16 => ?_)
    · replace h := ifp h c16
      refine xr_iconst (v := oI 1) (xd dX12_isLength 9 rfl) (by decide) ?_
      refine xr_goto 101 (xd dX12_isLength 10 rfl) (by decide) ?_
      exact xr_zret (xd dX12_isLength 52 rfl) rfl (zret_b (Or.inr rfl)) (by decide) (by decide) (fun _ => rfl) ⟨_, _, _, rfl, rfl, h⟩
    · replace h := ifn h c16
      refine xr_iload_n (xd dX12_isLength 6 rfl) 1 rfl ?_
      refine xr_bipush (v := oI 77) (xd dX12_isLength 7 rfl) (by decide) ?_
      refine zr_icmp_ne 21 (xd dX12_isLength 8 rfl) (by decide) o15 (by decide) (fun c17 => ?_) (fun c17 => ?_)
      · replace h := ifn h c17
        refine xr_iconst (v := oI 0) (xd dX12_isLength 11 rfl) (by decide) ?_
        refine xr_goto 101 (xd dX12_isLength 12 rfl) (by decide) ?_
        exact xr_zret (xd dX12_isLength 52 rfl) rfl (zret_b (Or.inl rfl)) (by decide) (by decide) (fun _ => rfl) ⟨_, _, _, rfl, rfl, h⟩
      · replace h := ifp h c17
        refine xr_iconst (v := oI 1) (xd dX12_isLength 9 rfl) (by decide) ?_
        refine xr_goto 101 (xd dX12_isLength 10 rfl) (by decide) ?_
        exact xr_zret (xd dX12_isLength 52 rfl) rfl (zret_b (Or.inr rfl)) (by decide) (by decide) (fun _ => rfl) ⟨_, _, _, rfl, rfl, h⟩
def w_X12_isKind (p1 : Int) (p2 : Int) (p3 : Int) (J : zM) (L : yM) (Q : Int → zM → yM → Prop) : Prop := R32 p1 ∧ (if p1 = 1 then ∀ K18 : zM → yM → Prop, (∀ (J16 : zM) (L17 : yM), (R32 p2 ∧ (if p2 = 2 then R32 p3 ∧ (if p3 = 20 then Q 1 J16 L17 else Q 0 J16 L17) else Q 0 J16 L17)) → K18 J16 L17) → R32 p2 ∧ (if p2 = 0 then R32 p3 ∧ (if p3 = 1 then Q 1 J L else K18 J L) else K18 J L) else ∀ K5 : zM → yM → Prop, (∀ (J3 : zM) (L4 : yM), (R32 p2 ∧ (if p2 = 2 then R32 p3 ∧ (if p3 = 8 then Q 1 J3 L4 else (if p3 = 20 then Q 1 J3 L4 else Q 0 J3 L4)) else Q 0 J3 L4)) → K5 J3 L4) → R32 p2 ∧ (if p2 = 0 then R32 p3 ∧ (if p3 = 6 then Q 1 J L else (if p3 = 2 then Q 1 J L else K5 J L)) else K5 J L))
set_option maxHeartbeats 4000000 in
set_option maxRecDepth 100000 in
theorem v_X12_isKind {b : Nat} {dC : Nat → ClassId} {dI : Nat → Nat → Nat} {cA : Nat → ClassId} {ts : Nat → Nat} {l : Launch} {n : Nat} {R : Nat → Nat → Option Nat} {al : Bool} (hn : 552 ≤ n) (hR : xRk R) {p1 : Int} {p2 : Int} {p3 : Int}  {J : zM} {L : yM} {Q : Int → zM → yM → Prop} (h : w_X12_isKind p1 p2 p3 J L Q) : xCn (xGm b dC dI cA ts) l mX12_isKind [.int (oI p1), .int (oI p2), .int (oI p3)] al (n, R, zi J, li L) 0 0 (zQ1 n R Q) (fun _ _ => False) := by
  refine xCn.ofJ (by decide) (Nat.le_of_ble_eq_true rfl) ?_
  show xJ _ _ _ _ _ _ _ _ _ 0 [(0, .int (oI p1)), (1, .int (oI p2)), (2, .int (oI p3))] [] _ _ _ _ _
  unfold w_X12_isKind at h
  refine xr_iload_n (xd dX12_isKind 0 rfl) 0 rfl ?_
  refine xr_iconst (v := oI 1) (xd dX12_isKind 1 rfl) (by decide) ?_
  obtain ⟨o1, h⟩ := h
  refine zr_icmp_ne 31 (xd dX12_isKind 2 rfl) (by decide) o1 (by decide) (fun c2 => ?_) (fun c2 => ?_)
  · replace h := ifn h c2
    refine xr_iload_n (xd dX12_isKind 18 rfl) 1 rfl ?_
    replace h := h (fun (J3 : zM) (L4 : yM) => xJ (xGm b dC dI cA ts) l mX12_isKind 0 0 (zQ1 n R Q) (fun _ _ => False) 0 0 46 [(1, .int (oI p2)), (2, .int (oI p3))] [] al n R (zi J3) (li L4)) (by
      intro J3 L4 h
      show xJ _ _ _ _ _ _ _ _ _ 46 [(1, .int (oI p2)), (2, .int (oI p3))] [] _ _ _ _ _
      refine xr_iload_n (xd dX12_isKind 26 rfl) 0 rfl ?_
      refine xr_iconst (v := oI 2) (xd dX12_isKind 27 rfl) (by decide) ?_
      obtain ⟨o6, h⟩ := h
      refine zr_icmp_ne 67 (xd dX12_isKind 28 rfl) (by decide) o6 (by decide) (fun c7 => ?_) (fun c7 => ?_)
      · replace h := ifn h c7
        refine xr_iconst (v := oI 0) (xd dX12_isKind 37 rfl) (by decide) ?_
        exact xr_zret (xd dX12_isKind 38 rfl) rfl (zret_b (Or.inl rfl)) (by decide) (by decide) (fun _ => rfl) ⟨_, _, _, rfl, rfl, h⟩
      · replace h := ifp h c7
        refine xr_iload_n (xd dX12_isKind 29 rfl) 1 rfl ?_
        refine xr_bipush (v := oI 8) (xd dX12_isKind 30 rfl) (by decide) ?_
        obtain ⟨o8, h⟩ := h
        refine zr_icmp_eq 63 (xd dX12_isKind 31 rfl) (by decide) o8 (by decide) (fun c9 => ?_) (fun c9 => ?_)
        · replace h := ifp h c9
          refine xr_iconst (v := oI 1) (xd dX12_isKind 35 rfl) (by decide) ?_
          refine xr_goto 68 (xd dX12_isKind 36 rfl) (by decide) ?_
          exact xr_zret (xd dX12_isKind 38 rfl) rfl (zret_b (Or.inr rfl)) (by decide) (by decide) (fun _ => rfl) ⟨_, _, _, rfl, rfl, h⟩
        · replace h := ifn h c9
          refine xr_iload_n (xd dX12_isKind 32 rfl) 1 rfl ?_
          refine xr_bipush (v := oI 20) (xd dX12_isKind 33 rfl) (by decide) ?_
          refine zr_icmp_ne 67 (xd dX12_isKind 34 rfl) (by decide) o8 (by decide) (fun c10 => ?_) (fun c10 => ?_)
          · replace h := ifn h c10
            refine xr_iconst (v := oI 0) (xd dX12_isKind 37 rfl) (by decide) ?_
            exact xr_zret (xd dX12_isKind 38 rfl) rfl (zret_b (Or.inl rfl)) (by decide) (by decide) (fun _ => rfl) ⟨_, _, _, rfl, rfl, h⟩
          · replace h := ifp h c10
            refine xr_iconst (v := oI 1) (xd dX12_isKind 35 rfl) (by decide) ?_
            refine xr_goto 68 (xd dX12_isKind 36 rfl) (by decide) ?_
            exact xr_zret (xd dX12_isKind 38 rfl) rfl (zret_b (Or.inr rfl)) (by decide) (by decide) (fun _ => rfl) ⟨_, _, _, rfl, rfl, h⟩)
    obtain ⟨o11, h⟩ := h
    refine zr_if_ne 46 (xd dX12_isKind 19 rfl) (by decide) o11 (fun c12 => ?_) (fun c12 => ?_)
    · replace h := ifn h c12
      refine xJ.pick (ls' := [(1, .int (oI p2)), (2, .int (oI p3))]) [1, 2] rfl ?_
      exact h
    · replace h := ifp h c12
      refine xr_iload_n (xd dX12_isKind 20 rfl) 2 rfl ?_
      refine xr_bipush (v := oI 6) (xd dX12_isKind 21 rfl) (by decide) ?_
      obtain ⟨o13, h⟩ := h
      refine zr_icmp_eq 63 (xd dX12_isKind 22 rfl) (by decide) o13 (by decide) (fun c14 => ?_) (fun c14 => ?_)
      · replace h := ifp h c14
        refine xr_iconst (v := oI 1) (xd dX12_isKind 35 rfl) (by decide) ?_
        refine xr_goto 68 (xd dX12_isKind 36 rfl) (by decide) ?_
        exact xr_zret (xd dX12_isKind 38 rfl) rfl (zret_b (Or.inr rfl)) (by decide) (by decide) (fun _ => rfl) ⟨_, _, _, rfl, rfl, h⟩
      · replace h := ifn h c14
        refine xr_iload_n (xd dX12_isKind 23 rfl) 2 rfl ?_
        refine xr_iconst (v := oI 2) (xd dX12_isKind 24 rfl) (by decide) ?_
        refine zr_icmp_eq 63 (xd dX12_isKind 25 rfl) (by decide) o13 (by decide) (fun c15 => ?_) (fun c15 => ?_)
        · replace h := ifp h c15
          refine xr_iconst (v := oI 1) (xd dX12_isKind 35 rfl) (by decide) ?_
          refine xr_goto 68 (xd dX12_isKind 36 rfl) (by decide) ?_
          exact xr_zret (xd dX12_isKind 38 rfl) rfl (zret_b (Or.inr rfl)) (by decide) (by decide) (fun _ => rfl) ⟨_, _, _, rfl, rfl, h⟩
        · replace h := ifn h c15
          refine xJ.pick (ls' := [(1, .int (oI p2)), (2, .int (oI p3))]) [1, 2] rfl ?_
          exact h
  · replace h := ifp h c2
    refine xr_iload_n (xd dX12_isKind 3 rfl) 1 rfl ?_
    replace h := h (fun (J16 : zM) (L17 : yM) => xJ (xGm b dC dI cA ts) l mX12_isKind 0 0 (zQ1 n R Q) (fun _ _ => False) 0 0 14 [(1, .int (oI p2)), (2, .int (oI p3))] [] al n R (zi J16) (li L17)) (by
      intro J16 L17 h
      show xJ _ _ _ _ _ _ _ _ _ 14 [(1, .int (oI p2)), (2, .int (oI p3))] [] _ _ _ _ _
      refine xr_iload_n (xd dX12_isKind 8 rfl) 0 rfl ?_
      refine xr_iconst (v := oI 2) (xd dX12_isKind 9 rfl) (by decide) ?_
      obtain ⟨o19, h⟩ := h
      refine zr_icmp_ne 29 (xd dX12_isKind 10 rfl) (by decide) o19 (by decide) (fun c20 => ?_) (fun c20 => ?_)
      · replace h := ifn h c20
        refine xr_iconst (v := oI 0) (xd dX12_isKind 16 rfl) (by decide) ?_
        exact xr_zret (xd dX12_isKind 17 rfl) rfl (zret_b (Or.inl rfl)) (by decide) (by decide) (fun _ => rfl) ⟨_, _, _, rfl, rfl, h⟩
      · replace h := ifp h c20
        refine xr_iload_n (xd dX12_isKind 11 rfl) 1 rfl ?_
        refine xr_bipush (v := oI 20) (xd dX12_isKind 12 rfl) (by decide) ?_
        obtain ⟨o21, h⟩ := h
        refine zr_icmp_ne 29 (xd dX12_isKind 13 rfl) (by decide) o21 (by decide) (fun c22 => ?_) (fun c22 => ?_)
        · replace h := ifn h c22
          refine xr_iconst (v := oI 0) (xd dX12_isKind 16 rfl) (by decide) ?_
          exact xr_zret (xd dX12_isKind 17 rfl) rfl (zret_b (Or.inl rfl)) (by decide) (by decide) (fun _ => rfl) ⟨_, _, _, rfl, rfl, h⟩
        · replace h := ifp h c22
          refine xr_iconst (v := oI 1) (xd dX12_isKind 14 rfl) (by decide) ?_
          refine xr_goto 30 (xd dX12_isKind 15 rfl) (by decide) ?_
          exact xr_zret (xd dX12_isKind 17 rfl) rfl (zret_b (Or.inr rfl)) (by decide) (by decide) (fun _ => rfl) ⟨_, _, _, rfl, rfl, h⟩)
    obtain ⟨o23, h⟩ := h
    refine zr_if_ne 14 (xd dX12_isKind 4 rfl) (by decide) o23 (fun c24 => ?_) (fun c24 => ?_)
    · replace h := ifn h c24
      refine xJ.pick (ls' := [(1, .int (oI p2)), (2, .int (oI p3))]) [1, 2] rfl ?_
      exact h
    · replace h := ifp h c24
      refine xr_iload_n (xd dX12_isKind 5 rfl) 2 rfl ?_
      refine xr_iconst (v := oI 1) (xd dX12_isKind 6 rfl) (by decide) ?_
      obtain ⟨o25, h⟩ := h
      refine zr_icmp_eq 25 (xd dX12_isKind 7 rfl) (by decide) o25 (by decide) (fun c26 => ?_) (fun c26 => ?_)
      · replace h := ifp h c26
        refine xr_iconst (v := oI 1) (xd dX12_isKind 14 rfl) (by decide) ?_
        refine xr_goto 30 (xd dX12_isKind 15 rfl) (by decide) ?_
        exact xr_zret (xd dX12_isKind 17 rfl) rfl (zret_b (Or.inr rfl)) (by decide) (by decide) (fun _ => rfl) ⟨_, _, _, rfl, rfl, h⟩
      · replace h := ifn h c26
        refine xJ.pick (ls' := [(1, .int (oI p2)), (2, .int (oI p3))]) [1, 2] rfl ?_
        exact h
def w_X12_malformed (p1 : Int) (J : zM) (L : yM) (Q : zM → yM → Prop) : Prop := ((0 : Int) ≤ (10 * p1) ∧ (10 * p1) < 20) ∧ ((0 : Int) ≤ (10 * p1) ∧ (10 * p1) < 20) ∧ ∀ J3 : zM, J3 = zs J 537 (10 * p1) ((J 537 (10 * p1)) + 1) → Q J3 L
set_option maxHeartbeats 4000000 in
set_option maxRecDepth 100000 in
theorem v_X12_malformed {b : Nat} {dC : Nat → ClassId} {dI : Nat → Nat → Nat} {cA : Nat → ClassId} {ts : Nat → Nat} {l : Launch} {n : Nat} {R : Nat → Nat → Option Nat} {al : Bool} (hn : 552 ≤ n) (hR : xRk R) {p1 : Int}  {J : zM} {L : yM} {Q : zM → yM → Prop} (h : w_X12_malformed p1 J L Q) : xCn (xGm b dC dI cA ts) l mX12_malformed [.ref 491, .int (oI p1)] al (n, R, zi J, li L) 0 0 (zQ0 n R Q) (fun _ _ => False) := by
  refine xCn.ofJ (by decide) (Nat.le_of_ble_eq_true rfl) ?_
  show xJ _ _ _ _ _ _ _ _ _ 0 [(0, .ref 491), (1, .int (oI p1))] [] _ _ _ _ _
  unfold w_X12_malformed at h
  refine xr_aload_n (xd dX12_malformed 0 rfl) 0 rfl ?_
  refine xr_getR (b := 537) 12 55 (xd dX12_malformed 1 rfl) f12_148 (by decide) (by decide) (lt552 hn (by decide)) kd_491 rfl (r_491_55 hR) ?_
  refine xr_bipush (v := oI 10) (xd dX12_malformed 2 rfl) (by decide) ?_
  refine xr_iload_n (xd dX12_malformed 3 rfl) 1 rfl ?_
  refine zr_imul (xd dX12_malformed 4 rfl) ?_
  refine xr_dup2 (xd dX12_malformed 5 rfl) rfl rfl ?_
  obtain ⟨o1, h⟩ := h
  refine zr_iaload (xd dX12_malformed 6 rfl) (lt552 hn (by decide)) kd_537 ln_537 (by decide) o1 ?_
  refine xr_iconst (v := oI 1) (xd dX12_malformed 7 rfl) (by decide) ?_
  refine zr_iadd (xd dX12_malformed 8 rfl) ?_
  obtain ⟨o2, h⟩ := h
  obtain ⟨J3, e_J3⟩ : ∃ z_ : zM, z_ = zs J 537 (10 * p1) ((J 537 (10 * p1)) + 1) := ⟨_, rfl⟩
  replace h := h J3 e_J3
  refine zr_iastore e_J3 (xd dX12_malformed 9 rfl) (lt552 hn (by decide)) kd_537 ln_537 (by decide) o2 ?_
  exact xr_vret (xd dX12_malformed 10 rfl) rfl (by decide) (by decide) (fun _ => rfl) ⟨_, _, rfl, rfl, h⟩
def w_X12_keeps (p1 : Int) (p2 : Int) (p3 : Int) (p4 : Int) (p5 : Int) (p6 : Int) (p7 : Int) (J : zM) (L : yM) (Q : zM → yM → Prop) : Prop := ((0 : Int) ≤ p2 ∧ p2 < 16) ∧ ∀ K4 : zM → yM → Prop, (∀ (J2 : zM) (L3 : yM), (zl_z (fun K5 x6 J7 L8 => R32 x6 ∧ R32 p7 ∧ (if x6 < p7 then ((0 : Int) ≤ (((200 * p2) + p6) + x6) ∧ (((200 * p2) + p6) + x6) < 3200) ∧ ∀ J15 : zM, J15 = zs J7 543 (((200 * p2) + p6) + x6) 1 → ((0 : Int) ≤ (8 + x6) ∧ (8 + x6) < 560) ∧ ((0 : Int) ≤ (((200 * p2) + p6) + x6) ∧ (((200 * p2) + p6) + x6) < 3200) ∧ ∀ J18 : zM, J18 = zs J15 544 (((200 * p2) + p6) + x6) (J15 550 (8 + x6)) → K5 (x6 + 1) J18 L8 else w_X12_takeAll p1 J7 L8 (fun J12 L13 => Q J12 L13))) 0 J2 L3) → K4 J2 L3) → R32 (J 540 p2) ∧ R32 p3 ∧ (if (J 540 p2) = p3 then K4 J L else ((0 : Int) ≤ p2 ∧ p2 < 16) ∧ ∀ J23 : zM, J23 = zs J 540 p2 p3 → ((0 : Int) ≤ p2 ∧ p2 < 16) ∧ ∀ J25 : zM, J25 = zs J23 541 p2 p4 → ((0 : Int) ≤ p2 ∧ p2 < 16) ∧ ∀ J27 : zM, J27 = zs J25 542 p2 p5 → zl_z (fun K28 x29 J30 L31 => R32 x29 ∧ (if x29 < 200 then ((0 : Int) ≤ ((200 * p2) + x29) ∧ ((200 * p2) + x29) < 3200) ∧ ∀ J35 : zM, J35 = zs J30 543 ((200 * p2) + x29) 0 → K28 (x29 + 1) J35 L31 else K4 J30 L31)) 0 J27 L)
set_option maxHeartbeats 4000000 in
set_option maxRecDepth 100000 in
theorem v_X12_keeps {b : Nat} {dC : Nat → ClassId} {dI : Nat → Nat → Nat} {cA : Nat → ClassId} {ts : Nat → Nat} {l : Launch} {n : Nat} {R : Nat → Nat → Option Nat} {al : Bool} (hn : 552 ≤ n) (hR : xRk R) {p1 : Int} {p2 : Int} {p3 : Int} {p4 : Int} {p5 : Int} {p6 : Int} {p7 : Int}  {J : zM} {L : yM} {Q : zM → yM → Prop} (h : w_X12_keeps p1 p2 p3 p4 p5 p6 p7 J L Q) : xCn (xGm b dC dI cA ts) l mX12_keeps [.ref 491, .int (oI p1), .int (oI p2), .int (oI p3), .int (oI p4), .int (oI p5), .int (oI p6), .int (oI p7)] al (n, R, zi J, li L) 0 0 (zQ0 n R Q) (fun _ _ => False) := by
  refine xCn.ofJ (by decide) (Nat.le_of_ble_eq_true rfl) ?_
  show xJ _ _ _ _ _ _ _ _ _ 0 [(0, .ref 491), (1, .int (oI p1)), (2, .int (oI p2)), (3, .int (oI p3)), (4, .int (oI p4)), (5, .int (oI p5)), (6, .int (oI p6)), (7, .int (oI p7))] [] _ _ _ _ _
  unfold w_X12_keeps at h
  refine xr_aload_n (xd dX12_keeps 0 rfl) 0 rfl ?_
  refine xr_getR (b := 540) 12 59 (xd dX12_keeps 1 rfl) f12_157 (by decide) (by decide) (lt552 hn (by decide)) kd_491 rfl (r_491_59 hR) ?_
  refine xr_iload_n (xd dX12_keeps 2 rfl) 2 rfl ?_
  obtain ⟨o1, h⟩ := h
  refine zr_iaload (xd dX12_keeps 3 rfl) (lt552 hn (by decide)) kd_540 ln_540 (by decide) o1 ?_
  refine xr_iload_n (xd dX12_keeps 4 rfl) 3 rfl ?_
  replace h := h (fun (J2 : zM) (L3 : yM) => xJ (xGm b dC dI cA ts) l mX12_keeps 0 0 (zQ0 n R Q) (fun _ _ => False) 0 0 64 [(0, .ref 491), (1, .int (oI p1)), (2, .int (oI p2)), (6, .int (oI p6)), (7, .int (oI p7))] [] al n R (zi J2) (li L3)) (by
    intro J2 L3 h
    show xJ _ _ _ _ _ _ _ _ _ 64 [(0, .ref 491), (1, .int (oI p1)), (2, .int (oI p2)), (6, .int (oI p6)), (7, .int (oI p7))] [] _ _ _ _ _
    refine xr_iconst (v := oI 0) (xd dX12_keeps 37 rfl) (by decide) ?_
    refine xr_istore [(0, .ref 491), (1, .int (oI p1)), (2, .int (oI p2)), (6, .int (oI p6)), (7, .int (oI p7)), (8, .int (oI 0))] (xd dX12_keeps 38 rfl) (by decide) rfl ?_
    refine h (fun x6 J7 L8 => xJ (xGm b dC dI cA ts) l mX12_keeps 0 0 (zQ0 n R Q) (fun _ _ => False) 0 0 67 [(0, .ref 491), (1, .int (oI p1)), (2, .int (oI p2)), (6, .int (oI p6)), (7, .int (oI p7)), (8, .int (oI x6))] [] al n R (zi J7) (li L8)) ?_
    intro x6 J7 L8 h
    show xJ _ _ _ _ _ _ _ _ _ 67 [(0, .ref 491), (1, .int (oI p1)), (2, .int (oI p2)), (6, .int (oI p6)), (7, .int (oI p7)), (8, .int (oI x6))] [] _ _ _ _ _
    refine xr_iload (xd dX12_keeps 39 rfl) 5 rfl ?_
    refine xr_iload (xd dX12_keeps 40 rfl) 4 rfl ?_
    obtain ⟨o9, h⟩ := h
    obtain ⟨o10, h⟩ := h
    refine zr_icmp_ge 123 (xd dX12_keeps 41 rfl) (by decide) o9 o10 (fun c11 => ?_) (fun c11 => ?_)
    · replace h := ifn h c11
      refine xr_aload_n (xd dX12_keeps 71 rfl) 0 rfl ?_
      refine xr_iload_n (xd dX12_keeps 72 rfl) 1 rfl ?_
      refine xr_callV mX12_takeAll 1 [.int (oI p1)] (xd dX12_keeps 73 rfl) l12_507 kX12_takeAll rfl (lt552 hn (by decide)) kd_491 (by decide) rfl (by decide) (Nat.le_of_ble_eq_true rfl) (v_X12_takeAll hn hR  h) (by decide) (by decide) (fun r_ M_ h_ => ?_) (fun _ _ h_ => h_.elim)
      obtain ⟨J12, L13, rfl, rfl, h⟩ := h_
      show xJ _ _ _ _ _ _ _ _ _ 128 [(0, .ref 491), (1, .int (oI p1)), (2, .int (oI p2)), (6, .int (oI p6)), (7, .int (oI p7)), (8, .int (oI x6))] [] _ _ _ (zi J12) (li L13)
      exact xr_vret (xd dX12_keeps 74 rfl) rfl (by decide) (by decide) (fun _ => rfl) ⟨_, _, rfl, rfl, h⟩
    · replace h := ifp h c11
      refine xr_aload_n (xd dX12_keeps 42 rfl) 0 rfl ?_
      refine xr_getR (b := 543) 12 62 (xd dX12_keeps 43 rfl) f12_166 (by decide) (by decide) (lt552 hn (by decide)) kd_491 rfl (r_491_62 hR) ?_
      refine xr_sipush (v := oI 200) (xd dX12_keeps 44 rfl) (by decide) ?_
      refine xr_iload_n (xd dX12_keeps 45 rfl) 2 rfl ?_
      refine zr_imul (xd dX12_keeps 46 rfl) ?_
      refine xr_iload (xd dX12_keeps 47 rfl) 3 rfl ?_
      refine zr_iadd (xd dX12_keeps 48 rfl) ?_
      refine xr_iload (xd dX12_keeps 49 rfl) 5 rfl ?_
      refine zr_iadd (xd dX12_keeps 50 rfl) ?_
      refine xr_iconst (v := oI 1) (xd dX12_keeps 51 rfl) (by decide) ?_
      obtain ⟨o14, h⟩ := h
      obtain ⟨J15, e_J15⟩ : ∃ z_ : zM, z_ = zs J7 543 (((200 * p2) + p6) + x6) 1 := ⟨_, rfl⟩
      replace h := h J15 e_J15
      refine zr_zastore (Or.inr rfl) e_J15 (xd dX12_keeps 52 rfl) (lt552 hn (by decide)) kd_543 ln_543 (by decide) o14 ?_
      refine xr_aload_n (xd dX12_keeps 53 rfl) 0 rfl ?_
      refine xr_getR (b := 544) 12 63 (xd dX12_keeps 54 rfl) f12_169 (by decide) (by decide) (lt552 hn (by decide)) kd_491 rfl (r_491_63 hR) ?_
      refine xr_sipush (v := oI 200) (xd dX12_keeps 55 rfl) (by decide) ?_
      refine xr_iload_n (xd dX12_keeps 56 rfl) 2 rfl ?_
      refine zr_imul (xd dX12_keeps 57 rfl) ?_
      refine xr_iload (xd dX12_keeps 58 rfl) 3 rfl ?_
      refine zr_iadd (xd dX12_keeps 59 rfl) ?_
      refine xr_iload (xd dX12_keeps 60 rfl) 5 rfl ?_
      refine zr_iadd (xd dX12_keeps 61 rfl) ?_
      refine xr_aload_n (xd dX12_keeps 62 rfl) 0 rfl ?_
      refine xr_getR (b := 550) 12 69 (xd dX12_keeps 63 rfl) f12_187 (by decide) (by decide) (lt552 hn (by decide)) kd_491 rfl (r_491_69 hR) ?_
      refine xr_bipush (v := oI 8) (xd dX12_keeps 64 rfl) (by decide) ?_
      refine xr_iload (xd dX12_keeps 65 rfl) 5 rfl ?_
      refine zr_iadd (xd dX12_keeps 66 rfl) ?_
      obtain ⟨o16, h⟩ := h
      refine zr_iaload (xd dX12_keeps 67 rfl) (lt552 hn (by decide)) kd_550 ln_550 (by decide) o16 ?_
      obtain ⟨o17, h⟩ := h
      obtain ⟨J18, e_J18⟩ : ∃ z_ : zM, z_ = zs J15 544 (((200 * p2) + p6) + x6) (J15 550 (8 + x6)) := ⟨_, rfl⟩
      replace h := h J18 e_J18
      refine zr_iastore e_J18 (xd dX12_keeps 68 rfl) (lt552 hn (by decide)) kd_544 ln_544 (by decide) o17 ?_
      refine zr_iinc [(0, .ref 491), (1, .int (oI p1)), (2, .int (oI p2)), (6, .int (oI p6)), (7, .int (oI p7)), (8, .int (oI (x6 + 1)))] (xd dX12_keeps 69 rfl) 5 rfl (by decide) rfl ?_
      refine xr_goto 67 (xd dX12_keeps 70 rfl) (by decide) ?_
      exact h)
  obtain ⟨o19, h⟩ := h
  obtain ⟨o20, h⟩ := h
  refine zr_icmp_eq 64 (xd dX12_keeps 5 rfl) (by decide) o19 o20 (fun c21 => ?_) (fun c21 => ?_)
  · replace h := ifp h c21
    refine xJ.pick (ls' := [(0, .ref 491), (1, .int (oI p1)), (2, .int (oI p2)), (6, .int (oI p6)), (7, .int (oI p7))]) [0, 1, 2, 6, 7] rfl ?_
    exact h
  · replace h := ifn h c21
    refine xr_aload_n (xd dX12_keeps 6 rfl) 0 rfl ?_
    refine xr_getR (b := 540) 12 59 (xd dX12_keeps 7 rfl) f12_157 (by decide) (by decide) (lt552 hn (by decide)) kd_491 rfl (r_491_59 hR) ?_
    refine xr_iload_n (xd dX12_keeps 8 rfl) 2 rfl ?_
    refine xr_iload_n (xd dX12_keeps 9 rfl) 3 rfl ?_
    obtain ⟨o22, h⟩ := h
    obtain ⟨J23, e_J23⟩ : ∃ z_ : zM, z_ = zs J 540 p2 p3 := ⟨_, rfl⟩
    replace h := h J23 e_J23
    refine zr_iastore e_J23 (xd dX12_keeps 10 rfl) (lt552 hn (by decide)) kd_540 ln_540 (by decide) o22 ?_
    refine xr_aload_n (xd dX12_keeps 11 rfl) 0 rfl ?_
    refine xr_getR (b := 541) 12 60 (xd dX12_keeps 12 rfl) f12_160 (by decide) (by decide) (lt552 hn (by decide)) kd_491 rfl (r_491_60 hR) ?_
    refine xr_iload_n (xd dX12_keeps 13 rfl) 2 rfl ?_
    refine xr_iload (xd dX12_keeps 14 rfl) 4 rfl ?_
    obtain ⟨o24, h⟩ := h
    obtain ⟨J25, e_J25⟩ : ∃ z_ : zM, z_ = zs J23 541 p2 p4 := ⟨_, rfl⟩
    replace h := h J25 e_J25
    refine zr_iastore e_J25 (xd dX12_keeps 15 rfl) (lt552 hn (by decide)) kd_541 ln_541 (by decide) o24 ?_
    refine xr_aload_n (xd dX12_keeps 16 rfl) 0 rfl ?_
    refine xr_getR (b := 542) 12 61 (xd dX12_keeps 17 rfl) f12_163 (by decide) (by decide) (lt552 hn (by decide)) kd_491 rfl (r_491_61 hR) ?_
    refine xr_iload_n (xd dX12_keeps 18 rfl) 2 rfl ?_
    refine xr_iload (xd dX12_keeps 19 rfl) 5 rfl ?_
    obtain ⟨o26, h⟩ := h
    obtain ⟨J27, e_J27⟩ : ∃ z_ : zM, z_ = zs J25 542 p2 p5 := ⟨_, rfl⟩
    replace h := h J27 e_J27
    refine zr_iastore e_J27 (xd dX12_keeps 20 rfl) (lt552 hn (by decide)) kd_542 ln_542 (by decide) o26 ?_
    refine xr_iconst (v := oI 0) (xd dX12_keeps 21 rfl) (by decide) ?_
    refine xr_istore [(0, .ref 491), (1, .int (oI p1)), (2, .int (oI p2)), (3, .int (oI p3)), (4, .int (oI p4)), (5, .int (oI p5)), (6, .int (oI p6)), (7, .int (oI p7)), (8, .int (oI 0))] (xd dX12_keeps 22 rfl) (by decide) rfl ?_
    refine xJ.pick (ls' := [(0, .ref 491), (1, .int (oI p1)), (2, .int (oI p2)), (6, .int (oI p6)), (7, .int (oI p7)), (8, .int (oI 0))]) [0, 1, 2, 6, 7, 8] rfl ?_
    refine h (fun x29 J30 L31 => xJ (xGm b dC dI cA ts) l mX12_keeps 0 0 (zQ0 n R Q) (fun _ _ => False) 0 0 36 [(0, .ref 491), (1, .int (oI p1)), (2, .int (oI p2)), (6, .int (oI p6)), (7, .int (oI p7)), (8, .int (oI x29))] [] al n R (zi J30) (li L31)) ?_
    intro x29 J30 L31 h
    show xJ _ _ _ _ _ _ _ _ _ 36 [(0, .ref 491), (1, .int (oI p1)), (2, .int (oI p2)), (6, .int (oI p6)), (7, .int (oI p7)), (8, .int (oI x29))] [] _ _ _ _ _
    refine xr_iload (xd dX12_keeps 23 rfl) 5 rfl ?_
    refine xr_sipush (v := oI 200) (xd dX12_keeps 24 rfl) (by decide) ?_
    obtain ⟨o32, h⟩ := h
    refine zr_icmp_ge 64 (xd dX12_keeps 25 rfl) (by decide) o32 (by decide) (fun c33 => ?_) (fun c33 => ?_)
    · replace h := ifn h c33
      refine xJ.pick (ls' := [(0, .ref 491), (1, .int (oI p1)), (2, .int (oI p2)), (6, .int (oI p6)), (7, .int (oI p7))]) [0, 1, 2, 3, 4] rfl ?_
      exact h
    · replace h := ifp h c33
      refine xr_aload_n (xd dX12_keeps 26 rfl) 0 rfl ?_
      refine xr_getR (b := 543) 12 62 (xd dX12_keeps 27 rfl) f12_166 (by decide) (by decide) (lt552 hn (by decide)) kd_491 rfl (r_491_62 hR) ?_
      refine xr_sipush (v := oI 200) (xd dX12_keeps 28 rfl) (by decide) ?_
      refine xr_iload_n (xd dX12_keeps 29 rfl) 2 rfl ?_
      refine zr_imul (xd dX12_keeps 30 rfl) ?_
      refine xr_iload (xd dX12_keeps 31 rfl) 5 rfl ?_
      refine zr_iadd (xd dX12_keeps 32 rfl) ?_
      refine xr_iconst (v := oI 0) (xd dX12_keeps 33 rfl) (by decide) ?_
      obtain ⟨o34, h⟩ := h
      obtain ⟨J35, e_J35⟩ : ∃ z_ : zM, z_ = zs J30 543 ((200 * p2) + x29) 0 := ⟨_, rfl⟩
      replace h := h J35 e_J35
      refine zr_zastore (Or.inl rfl) e_J35 (xd dX12_keeps 34 rfl) (lt552 hn (by decide)) kd_543 ln_543 (by decide) o34 ?_
      refine zr_iinc [(0, .ref 491), (1, .int (oI p1)), (2, .int (oI p2)), (6, .int (oI p6)), (7, .int (oI p7)), (8, .int (oI (x29 + 1)))] (xd dX12_keeps 35 rfl) 5 rfl (by decide) rfl ?_
      refine xr_goto 36 (xd dX12_keeps 36 rfl) (by decide) ?_
      exact h
def w_X12_older (p1 : Int) (p2 : Int) (J : zM) (L : yM) (Q : zM → yM → Prop) : Prop := ∀ K3 : zM → yM → Prop, (∀ (J1 : zM) (L2 : yM), (∀ K7 : Int → zM → yM → Prop, (∀ (x4 : Int) (J5 : zM) (L6 : yM), (R32 x4 ∧ (if x4 = 0 then Q J5 L6 else w_X12_hasTimer p1 J5 L6 (fun r12 J10 L11 => R32 r12 ∧ (if r12 = 0 then Q J10 L11 else ((0 : Int) ≤ p1 ∧ p1 < 2) ∧ R32 (J10 491 3) ∧ R32 (J10 525 p1) ∧ (if (J10 525 p1) < (J10 491 3) then ((0 : Int) ≤ p1 ∧ p1 < 2) ∧ R32 (J10 526 p1) ∧ (if (J10 526 p1) < 8 then ((0 : Int) ≤ p1 ∧ p1 < 2) ∧ ((0 : Int) ≤ p1 ∧ p1 < 2) ∧ ∀ J24 : zM, J24 = zs J10 526 p1 ((J10 526 p1) + 1) → ((0 : Int) ≤ p1 ∧ p1 < 2) ∧ ((0 : Int) ≤ p1 ∧ p1 < 2) ∧ ∀ J27 : zM, J27 = zs J24 527 p1 ((J24 527 p1) + 1) → w_X12_fly p1 J27 L11 (fun J28 L29 => Q J28 L29) else Q J10 L11) else Q J10 L11))))) → K7 x4 J5 L6) → R32 p1 ∧ (if p1 = 0 then w_X12_isOpen 0 J1 L2 (fun r41 J39 L40 => K7 r41 J39 L40) else ∀ K34 : zM → yM → Prop, (∀ (J32 : zM) (L33 : yM), (K7 0 J32 L33) → K34 J32 L33) → R32 (J1 534 1) ∧ (if (J1 534 1) = 1 then R32 p2 ∧ (if p2 = 1 then K7 1 J1 L2 else K34 J1 L2) else K34 J1 L2))) → K3 J1 L2) → R32 p1 ∧ (if p1 = 1 then w_X12_isOpen 1 J L (fun r46 J44 L45 => R32 r46 ∧ (if r46 = 0 then K3 J44 L45 else w_X12_acks 1 J44 L45 (fun J49 L50 => K3 J49 L50))) else K3 J L)
set_option maxHeartbeats 4000000 in
set_option maxRecDepth 100000 in
theorem v_X12_older {b : Nat} {dC : Nat → ClassId} {dI : Nat → Nat → Nat} {cA : Nat → ClassId} {ts : Nat → Nat} {l : Launch} {n : Nat} {R : Nat → Nat → Option Nat} {al : Bool} (hn : 552 ≤ n) (hR : xRk R) {p1 : Int} {p2 : Int}  {J : zM} {L : yM} {Q : zM → yM → Prop} (h : w_X12_older p1 p2 J L Q) : xCn (xGm b dC dI cA ts) l mX12_older [.ref 491, .int (oI p1), .int (oI p2)] al (n, R, zi J, li L) 0 0 (zQ0 n R Q) (fun _ _ => False) := by
  refine xCn.ofJ (by decide) (Nat.le_of_ble_eq_true rfl) ?_
  show xJ _ _ _ _ _ _ _ _ _ 0 [(0, .ref 491), (1, .int (oI p1)), (2, .int (oI p2))] [] _ _ _ _ _
  unfold w_X12_older at h
  refine xr_iload_n (xd dX12_older 0 rfl) 1 rfl ?_
  refine xr_iconst (v := oI 1) (xd dX12_older 1 rfl) (by decide) ?_
  replace h := h (fun (J1 : zM) (L2 : yM) => xJ (xGm b dC dI cA ts) l mX12_older 0 0 (zQ0 n R Q) (fun _ _ => False) 0 0 18 [(0, .ref 491), (1, .int (oI p1)), (2, .int (oI p2))] [] al n R (zi J1) (li L2)) (by
    intro J1 L2 h
    show xJ _ _ _ _ _ _ _ _ _ 18 [(0, .ref 491), (1, .int (oI p1)), (2, .int (oI p2))] [] _ _ _ _ _
    refine xr_iload_n (xd dX12_older 10 rfl) 1 rfl ?_
    replace h := h (fun (x4 : Int) (J5 : zM) (L6 : yM) => xJ (xGm b dC dI cA ts) l mX12_older 0 0 (zQ0 n R Q) (fun _ _ => False) 0 0 50 [(0, .ref 491), (1, .int (oI p1))] [.int (oI x4)] al n R (zi J5) (li L6)) (by
      intro x4 J5 L6 h
      show xJ _ _ _ _ _ _ _ _ _ 50 [(0, .ref 491), (1, .int (oI p1))] [.int (oI x4)] _ _ _ _ _
      refine xr_istore_n [(0, .ref 491), (1, .int (oI p1)), (3, .int (oI x4))] (xd dX12_older 28 rfl) rfl (by decide) rfl ?_
      refine xr_iload_n (xd dX12_older 29 rfl) 2 rfl ?_
      obtain ⟨o8, h⟩ := h
      refine zr_if_eq 112 (xd dX12_older 30 rfl) (by decide) o8 (fun c9 => ?_) (fun c9 => ?_)
      · replace h := ifp h c9
        exact xr_vret (xd dX12_older 67 rfl) rfl (by decide) (by decide) (fun _ => rfl) ⟨_, _, rfl, rfl, h⟩
      · replace h := ifn h c9
        refine xr_aload_n (xd dX12_older 31 rfl) 0 rfl ?_
        refine xr_iload_n (xd dX12_older 32 rfl) 1 rfl ?_
        refine xr_callV mX12_hasTimer 1 [.int (oI p1)] (xd dX12_older 33 rfl) l12_513 kX12_hasTimer rfl (lt552 hn (by decide)) kd_491 (by decide) rfl (by decide) (Nat.le_of_ble_eq_true rfl) (v_X12_hasTimer hn hR  h) (by decide) (by decide) (fun r_ M_ h_ => ?_) (fun _ _ h_ => h_.elim)
        obtain ⟨r12, J10, L11, rfl, rfl, h⟩ := h_
        show xJ _ _ _ _ _ _ _ _ _ 60 [(0, .ref 491), (1, .int (oI p1)), (3, .int (oI x4))] [.int (oI r12)] _ _ _ (zi J10) (li L11)
        obtain ⟨o13, h⟩ := h
        refine zr_if_eq 112 (xd dX12_older 34 rfl) (by decide) o13 (fun c14 => ?_) (fun c14 => ?_)
        · replace h := ifp h c14
          exact xr_vret (xd dX12_older 67 rfl) rfl (by decide) (by decide) (fun _ => rfl) ⟨_, _, rfl, rfl, h⟩
        · replace h := ifn h c14
          refine xr_aload_n (xd dX12_older 35 rfl) 0 rfl ?_
          refine zr_getI 12 3 3 rfl (xd dX12_older 36 rfl) f12_360 (by decide) (by decide) (lt552 hn (by decide)) kd_491 rfl ?_
          refine xr_aload_n (xd dX12_older 37 rfl) 0 rfl ?_
          refine xr_getR (b := 525) 12 43 (xd dX12_older 38 rfl) f12_112 (by decide) (by decide) (lt552 hn (by decide)) kd_491 rfl (r_491_43 hR) ?_
          refine xr_iload_n (xd dX12_older 39 rfl) 1 rfl ?_
          obtain ⟨o15, h⟩ := h
          refine zr_iaload (xd dX12_older 40 rfl) (lt552 hn (by decide)) kd_525 ln_525 (by decide) o15 ?_
          obtain ⟨o16, h⟩ := h
          obtain ⟨o17, h⟩ := h
          refine zr_icmp_le 112 (xd dX12_older 41 rfl) (by decide) o16 o17 (fun c18 => ?_) (fun c18 => ?_)
          · replace h := ifn h c18
            exact xr_vret (xd dX12_older 67 rfl) rfl (by decide) (by decide) (fun _ => rfl) ⟨_, _, rfl, rfl, h⟩
          · replace h := ifp h c18
            refine xr_aload_n (xd dX12_older 42 rfl) 0 rfl ?_
            refine xr_getR (b := 526) 12 44 (xd dX12_older 43 rfl) f12_115 (by decide) (by decide) (lt552 hn (by decide)) kd_491 rfl (r_491_44 hR) ?_
            refine xr_iload_n (xd dX12_older 44 rfl) 1 rfl ?_
            obtain ⟨o19, h⟩ := h
            refine zr_iaload (xd dX12_older 45 rfl) (lt552 hn (by decide)) kd_526 ln_526 (by decide) o19 ?_
            refine xr_bipush (v := oI 8) (xd dX12_older 46 rfl) (by decide) ?_
            obtain ⟨o20, h⟩ := h
            refine zr_icmp_ge 112 (xd dX12_older 47 rfl) (by decide) o20 (by decide) (fun c21 => ?_) (fun c21 => ?_)
            · replace h := ifn h c21
              exact xr_vret (xd dX12_older 67 rfl) rfl (by decide) (by decide) (fun _ => rfl) ⟨_, _, rfl, rfl, h⟩
            · replace h := ifp h c21
              refine xr_aload_n (xd dX12_older 48 rfl) 0 rfl ?_
              refine xr_getR (b := 526) 12 44 (xd dX12_older 49 rfl) f12_115 (by decide) (by decide) (lt552 hn (by decide)) kd_491 rfl (r_491_44 hR) ?_
              refine xr_iload_n (xd dX12_older 50 rfl) 1 rfl ?_
              refine xr_dup2 (xd dX12_older 51 rfl) rfl rfl ?_
              obtain ⟨o22, h⟩ := h
              refine zr_iaload (xd dX12_older 52 rfl) (lt552 hn (by decide)) kd_526 ln_526 (by decide) o22 ?_
              refine xr_iconst (v := oI 1) (xd dX12_older 53 rfl) (by decide) ?_
              refine zr_iadd (xd dX12_older 54 rfl) ?_
              obtain ⟨o23, h⟩ := h
              obtain ⟨J24, e_J24⟩ : ∃ z_ : zM, z_ = zs J10 526 p1 ((J10 526 p1) + 1) := ⟨_, rfl⟩
              replace h := h J24 e_J24
              refine zr_iastore e_J24 (xd dX12_older 55 rfl) (lt552 hn (by decide)) kd_526 ln_526 (by decide) o23 ?_
              refine xr_aload_n (xd dX12_older 56 rfl) 0 rfl ?_
              refine xr_getR (b := 527) 12 45 (xd dX12_older 57 rfl) f12_118 (by decide) (by decide) (lt552 hn (by decide)) kd_491 rfl (r_491_45 hR) ?_
              refine xr_iload_n (xd dX12_older 58 rfl) 1 rfl ?_
              refine xr_dup2 (xd dX12_older 59 rfl) rfl rfl ?_
              obtain ⟨o25, h⟩ := h
              refine zr_iaload (xd dX12_older 60 rfl) (lt552 hn (by decide)) kd_527 ln_527 (by decide) o25 ?_
              refine xr_iconst (v := oI 1) (xd dX12_older 61 rfl) (by decide) ?_
              refine zr_iadd (xd dX12_older 62 rfl) ?_
              obtain ⟨o26, h⟩ := h
              obtain ⟨J27, e_J27⟩ : ∃ z_ : zM, z_ = zs J24 527 p1 ((J24 527 p1) + 1) := ⟨_, rfl⟩
              replace h := h J27 e_J27
              refine zr_iastore e_J27 (xd dX12_older 63 rfl) (lt552 hn (by decide)) kd_527 ln_527 (by decide) o26 ?_
              refine xr_aload_n (xd dX12_older 64 rfl) 0 rfl ?_
              refine xr_iload_n (xd dX12_older 65 rfl) 1 rfl ?_
              refine xr_callV mX12_fly 1 [.int (oI p1)] (xd dX12_older 66 rfl) l12_421 kX12_fly rfl (lt552 hn (by decide)) kd_491 (by decide) rfl (by decide) (Nat.le_of_ble_eq_true rfl) (v_X12_fly hn hR  h) (by decide) (by decide) (fun r_ M_ h_ => ?_) (fun _ _ h_ => h_.elim)
              obtain ⟨J28, L29, rfl, rfl, h⟩ := h_
              show xJ _ _ _ _ _ _ _ _ _ 112 [(0, .ref 491), (1, .int (oI p1)), (3, .int (oI x4))] [] _ _ _ (zi J28) (li L29)
              exact xr_vret (xd dX12_older 67 rfl) rfl (by decide) (by decide) (fun _ => rfl) ⟨_, _, rfl, rfl, h⟩)
    obtain ⟨o30, h⟩ := h
    refine zr_if_ne 30 (xd dX12_older 11 rfl) (by decide) o30 (fun c31 => ?_) (fun c31 => ?_)
    · replace h := ifn h c31
      refine xr_aload_n (xd dX12_older 16 rfl) 0 rfl ?_
      refine xr_getR (b := 534) 12 52 (xd dX12_older 17 rfl) f12_139 (by decide) (by decide) (lt552 hn (by decide)) kd_491 rfl (r_491_52 hR) ?_
      refine xr_iconst (v := oI 1) (xd dX12_older 18 rfl) (by decide) ?_
      refine zr_iaload (xd dX12_older 19 rfl) (lt552 hn (by decide)) kd_534 ln_534 (by decide) ⟨by decide, by decide⟩ ?_
      refine xr_iconst (v := oI 1) (xd dX12_older 20 rfl) (by decide) ?_
      replace h := h (fun (J32 : zM) (L33 : yM) => xJ (xGm b dC dI cA ts) l mX12_older 0 0 (zQ0 n R Q) (fun _ _ => False) 0 0 49 [(0, .ref 491), (1, .int (oI p1))] [] al n R (zi J32) (li L33)) (by
        intro J32 L33 h
        show xJ _ _ _ _ _ _ _ _ _ 49 [(0, .ref 491), (1, .int (oI p1))] [] _ _ _ _ _
        refine xr_iconst (v := oI 0) (xd dX12_older 27 rfl) (by decide) ?_
        exact h)
      obtain ⟨o35, h⟩ := h
      refine zr_icmp_ne 49 (xd dX12_older 21 rfl) (by decide) o35 (by decide) (fun c36 => ?_) (fun c36 => ?_)
      · replace h := ifn h c36
        refine xJ.pick (ls' := [(0, .ref 491), (1, .int (oI p1))]) [0, 1] rfl ?_
        exact h
      · replace h := ifp h c36
        refine xr_iload_n (xd dX12_older 22 rfl) 2 rfl ?_
        refine xr_iconst (v := oI 1) (xd dX12_older 23 rfl) (by decide) ?_
        obtain ⟨o37, h⟩ := h
        refine zr_icmp_ne 49 (xd dX12_older 24 rfl) (by decide) o37 (by decide) (fun c38 => ?_) (fun c38 => ?_)
        · replace h := ifn h c38
          refine xJ.pick (ls' := [(0, .ref 491), (1, .int (oI p1))]) [0, 1] rfl ?_
          exact h
        · replace h := ifp h c38
          refine xr_iconst (v := oI 1) (xd dX12_older 25 rfl) (by decide) ?_
          refine xr_goto 50 (xd dX12_older 26 rfl) (by decide) ?_
          refine xJ.pick (ls' := [(0, .ref 491), (1, .int (oI p1))]) [0, 1] rfl ?_
          exact h
    · replace h := ifp h c31
      refine xr_aload_n (xd dX12_older 12 rfl) 0 rfl ?_
      refine xr_iconst (v := oI 0) (xd dX12_older 13 rfl) (by decide) ?_
      refine xr_callV mX12_isOpen 1 [.int (oI 0)] (xd dX12_older 14 rfl) l12_510 kX12_isOpen rfl (lt552 hn (by decide)) kd_491 (by decide) rfl (by decide) (Nat.le_of_ble_eq_true rfl) (v_X12_isOpen hn hR  h) (by decide) (by decide) (fun r_ M_ h_ => ?_) (fun _ _ h_ => h_.elim)
      obtain ⟨r41, J39, L40, rfl, rfl, h⟩ := h_
      show xJ _ _ _ _ _ _ _ _ _ 27 [(0, .ref 491), (1, .int (oI p1)), (2, .int (oI p2))] [.int (oI r41)] _ _ _ (zi J39) (li L40)
      refine xr_goto 50 (xd dX12_older 15 rfl) (by decide) ?_
      refine xJ.pick (ls' := [(0, .ref 491), (1, .int (oI p1))]) [0, 1] rfl ?_
      exact h)
  obtain ⟨o42, h⟩ := h
  refine zr_icmp_ne 18 (xd dX12_older 2 rfl) (by decide) o42 (by decide) (fun c43 => ?_) (fun c43 => ?_)
  · replace h := ifn h c43
    exact h
  · replace h := ifp h c43
    refine xr_aload_n (xd dX12_older 3 rfl) 0 rfl ?_
    refine xr_iconst (v := oI 1) (xd dX12_older 4 rfl) (by decide) ?_
    refine xr_callV mX12_isOpen 1 [.int (oI 1)] (xd dX12_older 5 rfl) l12_510 kX12_isOpen rfl (lt552 hn (by decide)) kd_491 (by decide) rfl (by decide) (Nat.le_of_ble_eq_true rfl) (v_X12_isOpen hn hR  h) (by decide) (by decide) (fun r_ M_ h_ => ?_) (fun _ _ h_ => h_.elim)
    obtain ⟨r46, J44, L45, rfl, rfl, h⟩ := h_
    show xJ _ _ _ _ _ _ _ _ _ 10 [(0, .ref 491), (1, .int (oI p1)), (2, .int (oI p2))] [.int (oI r46)] _ _ _ (zi J44) (li L45)
    obtain ⟨o47, h⟩ := h
    refine zr_if_eq 18 (xd dX12_older 6 rfl) (by decide) o47 (fun c48 => ?_) (fun c48 => ?_)
    · replace h := ifp h c48
      exact h
    · replace h := ifn h c48
      refine xr_aload_n (xd dX12_older 7 rfl) 0 rfl ?_
      refine xr_iconst (v := oI 1) (xd dX12_older 8 rfl) (by decide) ?_
      refine xr_callV mX12_acks 1 [.int (oI 1)] (xd dX12_older 9 rfl) l12_466 kX12_acks rfl (lt552 hn (by decide)) kd_491 (by decide) rfl (by decide) (Nat.le_of_ble_eq_true rfl) (v_X12_acks hn hR  h) (by decide) (by decide) (fun r_ M_ h_ => ?_) (fun _ _ h_ => h_.elim)
      obtain ⟨J49, L50, rfl, rfl, h⟩ := h_
      show xJ _ _ _ _ _ _ _ _ _ 18 [(0, .ref 491), (1, .int (oI p1)), (2, .int (oI p2))] [] _ _ _ (zi J49) (li L50)
      exact h
def w_X12_handshake (p1 : Int) (p2 : Int) (p3 : Int) (J : zM) (L : yM) (Q : zM → yM → Prop) : Prop := ∀ x1 : Int, x1 = (J 491 70) → R32 x1 ∧ (if x1 < 8 then w_X12_malformed p1 J L (fun J127 L128 => Q J127 L128) else ∀ x4 : Int, x4 = (J 550 0) → ∀ x5 : Int, x5 = ((256 * (J 550 1)) + (J 550 2)) → ∀ x6 : Int, x6 = (J 550 3) → ∀ x7 : Int, x7 = ((256 * (J 550 4)) + (J 550 5)) → ∀ x8 : Int, x8 = ((256 * (J 550 6)) + (J 550 7)) → ∀ K12 : Int → zM → yM → Prop, (∀ (x9 : Int) (J10 : zM) (L11 : yM), (∀ K16 : Int → zM → yM → Prop, (∀ (x13 : Int) (J14 : zM) (L15 : yM), (∀ x17 : Int, x17 = (zand x9 x13) → ∀ K21 : Int → zM → yM → Prop, (∀ (x18 : Int) (J19 : zM) (L20 : yM), (w_X12_slotOf p1 x6 J19 L20 (fun r24 J22 L23 => ∀ K28 : Int → zM → yM → Prop, (∀ (x25 : Int) (J26 : zM) (L27 : yM), (R32 x25 ∧ (if x25 = 0 then w_X12_malformed p1 J26 L27 (fun J58 L59 => Q J58 L59) else ∀ K33 : zM → yM → Prop, (∀ (J31 : zM) (L32 : yM), (((0 : Int) ≤ p1 ∧ p1 < 2) ∧ ∀ K37 : zM → yM → Prop, (∀ (J35 : zM) (L36 : yM), (R32 x18 ∧ (if x18 = 0 then ((0 : Int) ≤ p1 ∧ p1 < 2) ∧ R32 x6 ∧ R32 (J35 535 p1) ∧ (if x6 < (J35 535 p1) then w_X12_older p1 x4 J35 L36 (fun J44 L45 => Q J44 L45) else Q J35 L36) else w_X12_keeps p1 r24 x6 x4 x5 x7 x8 J35 L36 (fun J46 L47 => Q J46 L47))) → K37 J35 L36) → R32 (J31 523 p1) ∧ (if (J31 523 p1) = 0 then K37 J31 L32 else w_X12_listed p1 p2 p3 J31 L32 (fun J50 L51 => K37 J50 L51))) → K33 J31 L32) → R32 p1 ∧ (if p1 = 1 then R32 (J26 534 1) ∧ (if (J26 534 1) = 0 then w_X12_helloComes x6 x5 J26 L27 (fun J56 L57 => Q J56 L57) else K33 J26 L27) else K33 J26 L27))) → K28 x25 J26 L27) → R32 x18 ∧ (if x18 = 0 then K28 x17 J22 L23 else ((0 : Int) ≤ r24 ∧ r24 < 16) ∧ R32 (J22 540 r24) ∧ R32 x6 ∧ (if (J22 540 r24) = x6 then ((0 : Int) ≤ r24 ∧ r24 < 16) ∧ ∀ K69 : zM → yM → Prop, (∀ (J67 : zM) (L68 : yM), (K28 0 J67 L68) → K69 J67 L68) → R32 (J22 541 r24) ∧ R32 x4 ∧ (if (J22 541 r24) = x4 then ((0 : Int) ≤ r24 ∧ r24 < 16) ∧ R32 (J22 542 r24) ∧ R32 x5 ∧ (if (J22 542 r24) = x5 then K28 x17 J22 L23 else K69 J22 L23) else K69 J22 L23) else K28 x17 J22 L23)))) → K21 x18 J19 L20) → ∀ K79 : zM → yM → Prop, (∀ (J77 : zM) (L78 : yM), (K21 0 J77 L78) → K79 J77 L78) → R32 x17 ∧ (if x17 = 0 then K79 J14 L15 else ((0 : Int) ≤ p1 ∧ p1 < 2) ∧ R32 (J14 534 p1) ∧ (if (J14 534 p1) = 1 then ((0 : Int) ≤ p1 ∧ p1 < 2) ∧ R32 x6 ∧ R32 (J14 535 p1) ∧ (if x6 < (J14 535 p1) then K79 J14 L15 else ((0 : Int) ≤ p1 ∧ p1 < 2) ∧ R32 ((J14 535 p1) + 4) ∧ (if ((J14 535 p1) + 4) < x6 then K79 J14 L15 else K21 1 J14 L15)) else K79 J14 L15))) → K16 x13 J14 L15) → ∀ K94 : zM → yM → Prop, (∀ (J92 : zM) (L93 : yM), (K16 1 J92 L93) → K94 J92 L93) → R32 x4 ∧ (if x4 = 1 then ∀ K99 : zM → yM → Prop, (∀ (J97 : zM) (L98 : yM), (K16 0 J97 L98) → K99 J97 L98) → R32 x7 ∧ (if x7 = 0 then R32 x8 ∧ R32 x5 ∧ (if x8 = x5 then R32 x6 ∧ (if 1 < x6 then K99 J10 L11 else K94 J10 L11) else K99 J10 L11) else K99 J10 L11) else K94 J10 L11)) → K12 x9 J10 L11) → ∀ K109 : zM → yM → Prop, (∀ (J107 : zM) (L108 : yM), (K12 0 J107 L108) → K109 J107 L108) → R32 (8 + x8) ∧ (if x1 = (8 + x8) then R32 x8 ∧ (if 0 < x8 then w_X12_isKind p1 p2 x4 J L (fun r116 J114 L115 => R32 r116 ∧ (if r116 = 0 then K109 J114 L115 else w_X12_isLength x4 x5 J114 L115 (fun r121 J119 L120 => R32 r121 ∧ (if r121 = 0 then K109 J119 L120 else R32 (x7 + x8) ∧ R32 x5 ∧ (if x5 < (x7 + x8) then K109 J119 L120 else K12 1 J119 L120))))) else K109 J L) else K109 J L))
set_option maxHeartbeats 4000000 in
set_option maxRecDepth 100000 in
theorem v_X12_handshake {b : Nat} {dC : Nat → ClassId} {dI : Nat → Nat → Nat} {cA : Nat → ClassId} {ts : Nat → Nat} {l : Launch} {n : Nat} {R : Nat → Nat → Option Nat} {al : Bool} (hn : 552 ≤ n) (hR : xRk R) {p1 : Int} {p2 : Int} {p3 : Int}  {J : zM} {L : yM} {Q : zM → yM → Prop} (h : w_X12_handshake p1 p2 p3 J L Q) : xCn (xGm b dC dI cA ts) l mX12_handshake [.ref 491, .int (oI p1), .int (oI p2), .int (oI p3)] al (n, R, zi J, li L) 0 0 (zQ0 n R Q) (fun _ _ => False) := by
  refine xCn.ofJ (by decide) (Nat.le_of_ble_eq_true rfl) ?_
  show xJ _ _ _ _ _ _ _ _ _ 0 [(0, .ref 491), (1, .int (oI p1)), (2, .int (oI p2)), (3, .int (oI p3))] [] _ _ _ _ _
  unfold w_X12_handshake at h
  refine xr_aload_n (xd dX12_handshake 0 rfl) 0 rfl ?_
  refine zr_getI 12 70 70 rfl (xd dX12_handshake 1 rfl) f12_481 (by decide) (by decide) (lt552 hn (by decide)) kd_491 rfl ?_
  obtain ⟨x1, e_x1⟩ : ∃ z_ : Int, z_ = (J 491 70) := ⟨_, rfl⟩
  replace h := h x1 e_x1
  refine zr_nm e_x1 ?_
  refine xr_istore [(0, .ref 491), (1, .int (oI p1)), (2, .int (oI p2)), (3, .int (oI p3)), (4, .int (oI x1))] (xd dX12_handshake 2 rfl) (by decide) rfl ?_
  refine xr_iload (xd dX12_handshake 3 rfl) 4 rfl ?_
  refine xr_bipush (v := oI 8) (xd dX12_handshake 4 rfl) (by decide) ?_
  obtain ⟨o2, h⟩ := h
  refine zr_icmp_ge 19 (xd dX12_handshake 5 rfl) (by decide) o2 (by decide) (fun c3 => ?_) (fun c3 => ?_)
  · replace h := ifn h c3
    refine xr_aload_n (xd dX12_handshake 10 rfl) 0 rfl ?_
    refine xr_getR (b := 550) 12 69 (xd dX12_handshake 11 rfl) f12_187 (by decide) (by decide) (lt552 hn (by decide)) kd_491 rfl (r_491_69 hR) ?_
    refine xr_iconst (v := oI 0) (xd dX12_handshake 12 rfl) (by decide) ?_
    refine zr_iaload (xd dX12_handshake 13 rfl) (lt552 hn (by decide)) kd_550 ln_550 (by decide) ⟨by decide, by decide⟩ ?_
    obtain ⟨x4, e_x4⟩ : ∃ z_ : Int, z_ = (J 550 0) := ⟨_, rfl⟩
    replace h := h x4 e_x4
    refine zr_nm e_x4 ?_
    refine xr_istore [(0, .ref 491), (1, .int (oI p1)), (2, .int (oI p2)), (3, .int (oI p3)), (4, .int (oI x1)), (5, .int (oI x4))] (xd dX12_handshake 14 rfl) (by decide) rfl ?_
    refine xr_sipush (v := oI 256) (xd dX12_handshake 15 rfl) (by decide) ?_
    refine xr_aload_n (xd dX12_handshake 16 rfl) 0 rfl ?_
    refine xr_getR (b := 550) 12 69 (xd dX12_handshake 17 rfl) f12_187 (by decide) (by decide) (lt552 hn (by decide)) kd_491 rfl (r_491_69 hR) ?_
    refine xr_iconst (v := oI 1) (xd dX12_handshake 18 rfl) (by decide) ?_
    refine zr_iaload (xd dX12_handshake 19 rfl) (lt552 hn (by decide)) kd_550 ln_550 (by decide) ⟨by decide, by decide⟩ ?_
    refine zr_imul (xd dX12_handshake 20 rfl) ?_
    refine xr_aload_n (xd dX12_handshake 21 rfl) 0 rfl ?_
    refine xr_getR (b := 550) 12 69 (xd dX12_handshake 22 rfl) f12_187 (by decide) (by decide) (lt552 hn (by decide)) kd_491 rfl (r_491_69 hR) ?_
    refine xr_iconst (v := oI 2) (xd dX12_handshake 23 rfl) (by decide) ?_
    refine zr_iaload (xd dX12_handshake 24 rfl) (lt552 hn (by decide)) kd_550 ln_550 (by decide) ⟨by decide, by decide⟩ ?_
    refine zr_iadd (xd dX12_handshake 25 rfl) ?_
    obtain ⟨x5, e_x5⟩ : ∃ z_ : Int, z_ = ((256 * (J 550 1)) + (J 550 2)) := ⟨_, rfl⟩
    replace h := h x5 e_x5
    refine zr_nm e_x5 ?_
    refine xr_istore [(0, .ref 491), (1, .int (oI p1)), (2, .int (oI p2)), (3, .int (oI p3)), (4, .int (oI x1)), (5, .int (oI x4)), (6, .int (oI x5))] (xd dX12_handshake 26 rfl) (by decide) rfl ?_
    refine xr_aload_n (xd dX12_handshake 27 rfl) 0 rfl ?_
    refine xr_getR (b := 550) 12 69 (xd dX12_handshake 28 rfl) f12_187 (by decide) (by decide) (lt552 hn (by decide)) kd_491 rfl (r_491_69 hR) ?_
    refine xr_iconst (v := oI 3) (xd dX12_handshake 29 rfl) (by decide) ?_
    refine zr_iaload (xd dX12_handshake 30 rfl) (lt552 hn (by decide)) kd_550 ln_550 (by decide) ⟨by decide, by decide⟩ ?_
    obtain ⟨x6, e_x6⟩ : ∃ z_ : Int, z_ = (J 550 3) := ⟨_, rfl⟩
    replace h := h x6 e_x6
    refine zr_nm e_x6 ?_
    refine xr_istore [(0, .ref 491), (1, .int (oI p1)), (2, .int (oI p2)), (3, .int (oI p3)), (4, .int (oI x1)), (5, .int (oI x4)), (6, .int (oI x5)), (7, .int (oI x6))] (xd dX12_handshake 31 rfl) (by decide) rfl ?_
    refine xr_sipush (v := oI 256) (xd dX12_handshake 32 rfl) (by decide) ?_
    refine xr_aload_n (xd dX12_handshake 33 rfl) 0 rfl ?_
    refine xr_getR (b := 550) 12 69 (xd dX12_handshake 34 rfl) f12_187 (by decide) (by decide) (lt552 hn (by decide)) kd_491 rfl (r_491_69 hR) ?_
    refine xr_iconst (v := oI 4) (xd dX12_handshake 35 rfl) (by decide) ?_
    refine zr_iaload (xd dX12_handshake 36 rfl) (lt552 hn (by decide)) kd_550 ln_550 (by decide) ⟨by decide, by decide⟩ ?_
    refine zr_imul (xd dX12_handshake 37 rfl) ?_
    refine xr_aload_n (xd dX12_handshake 38 rfl) 0 rfl ?_
    refine xr_getR (b := 550) 12 69 (xd dX12_handshake 39 rfl) f12_187 (by decide) (by decide) (lt552 hn (by decide)) kd_491 rfl (r_491_69 hR) ?_
    refine xr_iconst (v := oI 5) (xd dX12_handshake 40 rfl) (by decide) ?_
    refine zr_iaload (xd dX12_handshake 41 rfl) (lt552 hn (by decide)) kd_550 ln_550 (by decide) ⟨by decide, by decide⟩ ?_
    refine zr_iadd (xd dX12_handshake 42 rfl) ?_
    obtain ⟨x7, e_x7⟩ : ∃ z_ : Int, z_ = ((256 * (J 550 4)) + (J 550 5)) := ⟨_, rfl⟩
    replace h := h x7 e_x7
    refine zr_nm e_x7 ?_
    refine xr_istore [(0, .ref 491), (1, .int (oI p1)), (2, .int (oI p2)), (3, .int (oI p3)), (4, .int (oI x1)), (5, .int (oI x4)), (6, .int (oI x5)), (7, .int (oI x6)), (8, .int (oI x7))] (xd dX12_handshake 43 rfl) (by decide) rfl ?_
    refine xr_sipush (v := oI 256) (xd dX12_handshake 44 rfl) (by decide) ?_
    refine xr_aload_n (xd dX12_handshake 45 rfl) 0 rfl ?_
    refine xr_getR (b := 550) 12 69 (xd dX12_handshake 46 rfl) f12_187 (by decide) (by decide) (lt552 hn (by decide)) kd_491 rfl (r_491_69 hR) ?_
    refine xr_bipush (v := oI 6) (xd dX12_handshake 47 rfl) (by decide) ?_
    refine zr_iaload (xd dX12_handshake 48 rfl) (lt552 hn (by decide)) kd_550 ln_550 (by decide) ⟨by decide, by decide⟩ ?_
    refine zr_imul (xd dX12_handshake 49 rfl) ?_
    refine xr_aload_n (xd dX12_handshake 50 rfl) 0 rfl ?_
    refine xr_getR (b := 550) 12 69 (xd dX12_handshake 51 rfl) f12_187 (by decide) (by decide) (lt552 hn (by decide)) kd_491 rfl (r_491_69 hR) ?_
    refine xr_bipush (v := oI 7) (xd dX12_handshake 52 rfl) (by decide) ?_
    refine zr_iaload (xd dX12_handshake 53 rfl) (lt552 hn (by decide)) kd_550 ln_550 (by decide) ⟨by decide, by decide⟩ ?_
    refine zr_iadd (xd dX12_handshake 54 rfl) ?_
    obtain ⟨x8, e_x8⟩ : ∃ z_ : Int, z_ = ((256 * (J 550 6)) + (J 550 7)) := ⟨_, rfl⟩
    replace h := h x8 e_x8
    refine zr_nm e_x8 ?_
    refine xr_istore [(0, .ref 491), (1, .int (oI p1)), (2, .int (oI p2)), (3, .int (oI p3)), (4, .int (oI x1)), (5, .int (oI x4)), (6, .int (oI x5)), (7, .int (oI x6)), (8, .int (oI x7)), (9, .int (oI x8))] (xd dX12_handshake 55 rfl) (by decide) rfl ?_
    refine xr_iload (xd dX12_handshake 56 rfl) 4 rfl ?_
    refine xr_bipush (v := oI 8) (xd dX12_handshake 57 rfl) (by decide) ?_
    refine xr_iload (xd dX12_handshake 58 rfl) 9 rfl ?_
    refine zr_iadd (xd dX12_handshake 59 rfl) ?_
    replace h := h (fun (x9 : Int) (J10 : zM) (L11 : yM) => xJ (xGm b dC dI cA ts) l mX12_handshake 0 0 (zQ0 n R Q) (fun _ _ => False) 0 0 144 [(0, .ref 491), (1, .int (oI p1)), (2, .int (oI p2)), (3, .int (oI p3)), (5, .int (oI x4)), (6, .int (oI x5)), (7, .int (oI x6)), (8, .int (oI x7)), (9, .int (oI x8))] [.int (oI x9)] al n R (zi J10) (li L11)) (by
      intro x9 J10 L11 h
      show xJ _ _ _ _ _ _ _ _ _ 144 [(0, .ref 491), (1, .int (oI p1)), (2, .int (oI p2)), (3, .int (oI p3)), (5, .int (oI x4)), (6, .int (oI x5)), (7, .int (oI x6)), (8, .int (oI x7)), (9, .int (oI x8))] [.int (oI x9)] _ _ _ _ _
      refine xr_istore [(0, .ref 491), (1, .int (oI p1)), (2, .int (oI p2)), (3, .int (oI p3)), (5, .int (oI x4)), (6, .int (oI x5)), (7, .int (oI x6)), (8, .int (oI x7)), (9, .int (oI x8)), (10, .int (oI x9))] (xd dX12_handshake 80 rfl) (by decide) rfl ?_
      refine xr_iload (xd dX12_handshake 81 rfl) 9 rfl ?_
      refine xr_iload (xd dX12_handshake 82 rfl) 4 rfl ?_
      refine xr_iconst (v := oI 1) (xd dX12_handshake 83 rfl) (by decide) ?_
      replace h := h (fun (x13 : Int) (J14 : zM) (L15 : yM) => xJ (xGm b dC dI cA ts) l mX12_handshake 0 0 (zQ0 n R Q) (fun _ _ => False) 0 0 177 [(0, .ref 491), (1, .int (oI p1)), (2, .int (oI p2)), (3, .int (oI p3)), (5, .int (oI x4)), (6, .int (oI x5)), (7, .int (oI x6)), (8, .int (oI x7)), (9, .int (oI x8))] [.int (oI x13), .int (oI x9)] al n R (zi J14) (li L15)) (by
        intro x13 J14 L15 h
        show xJ _ _ _ _ _ _ _ _ _ 177 [(0, .ref 491), (1, .int (oI p1)), (2, .int (oI p2)), (3, .int (oI p3)), (5, .int (oI x4)), (6, .int (oI x5)), (7, .int (oI x6)), (8, .int (oI x7)), (9, .int (oI x8))] [.int (oI x13), .int (oI x9)] _ _ _ _ _
        refine zr_iand (xd dX12_handshake 96 rfl) ?_
        obtain ⟨x17, e_x17⟩ : ∃ z_ : Int, z_ = (zand x9 x13) := ⟨_, rfl⟩
        replace h := h x17 e_x17
        refine zr_nm e_x17 ?_
        refine xr_istore [(0, .ref 491), (1, .int (oI p1)), (2, .int (oI p2)), (3, .int (oI p3)), (5, .int (oI x4)), (6, .int (oI x5)), (7, .int (oI x6)), (8, .int (oI x7)), (9, .int (oI x8)), (10, .int (oI x17))] (xd dX12_handshake 97 rfl) (by decide) rfl ?_
        refine xr_iload (xd dX12_handshake 98 rfl) 9 rfl ?_
        replace h := h (fun (x18 : Int) (J19 : zM) (L20 : yM) => xJ (xGm b dC dI cA ts) l mX12_handshake 0 0 (zQ0 n R Q) (fun _ _ => False) 0 0 224 [(0, .ref 491), (1, .int (oI p1)), (2, .int (oI p2)), (3, .int (oI p3)), (5, .int (oI x4)), (6, .int (oI x5)), (7, .int (oI x6)), (8, .int (oI x7)), (9, .int (oI x8)), (10, .int (oI x17))] [.int (oI x18)] al n R (zi J19) (li L20)) (by
          intro x18 J19 L20 h
          show xJ _ _ _ _ _ _ _ _ _ 224 [(0, .ref 491), (1, .int (oI p1)), (2, .int (oI p2)), (3, .int (oI p3)), (5, .int (oI x4)), (6, .int (oI x5)), (7, .int (oI x6)), (8, .int (oI x7)), (9, .int (oI x8)), (10, .int (oI x17))] [.int (oI x18)] _ _ _ _ _
          refine xr_istore [(0, .ref 491), (1, .int (oI p1)), (2, .int (oI p2)), (3, .int (oI p3)), (5, .int (oI x4)), (6, .int (oI x5)), (7, .int (oI x6)), (8, .int (oI x7)), (9, .int (oI x8)), (10, .int (oI x17)), (11, .int (oI x18))] (xd dX12_handshake 123 rfl) (by decide) rfl ?_
          refine xr_aload_n (xd dX12_handshake 124 rfl) 0 rfl ?_
          refine xr_iload_n (xd dX12_handshake 125 rfl) 1 rfl ?_
          refine xr_iload (xd dX12_handshake 126 rfl) 6 rfl ?_
          refine xr_callV mX12_slotOf 2 [.int (oI p1), .int (oI x6)] (xd dX12_handshake 127 rfl) l12_469 kX12_slotOf rfl (lt552 hn (by decide)) kd_491 (by decide) rfl (by decide) (Nat.le_of_ble_eq_true rfl) (v_X12_slotOf hn hR  h) (by decide) (by decide) (fun r_ M_ h_ => ?_) (fun _ _ h_ => h_.elim)
          obtain ⟨r24, J22, L23, rfl, rfl, h⟩ := h_
          show xJ _ _ _ _ _ _ _ _ _ 233 [(0, .ref 491), (1, .int (oI p1)), (2, .int (oI p2)), (3, .int (oI p3)), (5, .int (oI x4)), (6, .int (oI x5)), (7, .int (oI x6)), (8, .int (oI x7)), (9, .int (oI x8)), (10, .int (oI x17)), (11, .int (oI x18))] [.int (oI r24)] _ _ _ (zi J22) (li L23)
          refine xr_istore [(0, .ref 491), (1, .int (oI p1)), (2, .int (oI p2)), (3, .int (oI p3)), (5, .int (oI x4)), (6, .int (oI x5)), (7, .int (oI x6)), (8, .int (oI x7)), (9, .int (oI x8)), (10, .int (oI x17)), (11, .int (oI x18)), (12, .int (oI r24))] (xd dX12_handshake 128 rfl) (by decide) rfl ?_
          refine xr_iload (xd dX12_handshake 129 rfl) 10 rfl ?_
          replace h := h (fun (x25 : Int) (J26 : zM) (L27 : yM) => xJ (xGm b dC dI cA ts) l mX12_handshake 0 0 (zQ0 n R Q) (fun _ _ => False) 0 0 279 [(0, .ref 491), (1, .int (oI p1)), (2, .int (oI p2)), (3, .int (oI p3)), (5, .int (oI x4)), (6, .int (oI x5)), (7, .int (oI x6)), (8, .int (oI x7)), (9, .int (oI x8)), (10, .int (oI x25)), (11, .int (oI x18)), (12, .int (oI r24))] [] al n R (zi J26) (li L27)) (by
            intro x25 J26 L27 h
            show xJ _ _ _ _ _ _ _ _ _ 279 [(0, .ref 491), (1, .int (oI p1)), (2, .int (oI p2)), (3, .int (oI p3)), (5, .int (oI x4)), (6, .int (oI x5)), (7, .int (oI x6)), (8, .int (oI x7)), (9, .int (oI x8)), (10, .int (oI x25)), (11, .int (oI x18)), (12, .int (oI r24))] [] _ _ _ _ _
            refine xr_iload (xd dX12_handshake 151 rfl) 9 rfl ?_
            obtain ⟨o29, h⟩ := h
            refine zr_if_ne 290 (xd dX12_handshake 152 rfl) (by decide) o29 (fun c30 => ?_) (fun c30 => ?_)
            · replace h := ifn h c30
              refine xr_iload_n (xd dX12_handshake 157 rfl) 1 rfl ?_
              refine xr_iconst (v := oI 1) (xd dX12_handshake 158 rfl) (by decide) ?_
              replace h := h (fun (J31 : zM) (L32 : yM) => xJ (xGm b dC dI cA ts) l mX12_handshake 0 0 (zQ0 n R Q) (fun _ _ => False) 0 0 313 [(0, .ref 491), (1, .int (oI p1)), (2, .int (oI p2)), (3, .int (oI p3)), (5, .int (oI x4)), (6, .int (oI x5)), (7, .int (oI x6)), (8, .int (oI x7)), (9, .int (oI x8)), (11, .int (oI x18)), (12, .int (oI r24))] [] al n R (zi J31) (li L32)) (by
                intro J31 L32 h
                show xJ _ _ _ _ _ _ _ _ _ 313 [(0, .ref 491), (1, .int (oI p1)), (2, .int (oI p2)), (3, .int (oI p3)), (5, .int (oI x4)), (6, .int (oI x5)), (7, .int (oI x6)), (8, .int (oI x7)), (9, .int (oI x8)), (11, .int (oI x18)), (12, .int (oI r24))] [] _ _ _ _ _
                refine xr_aload_n (xd dX12_handshake 170 rfl) 0 rfl ?_
                refine xr_getR (b := 523) 12 41 (xd dX12_handshake 171 rfl) f12_106 (by decide) (by decide) (lt552 hn (by decide)) kd_491 rfl (r_491_41 hR) ?_
                refine xr_iload_n (xd dX12_handshake 172 rfl) 1 rfl ?_
                obtain ⟨o34, h⟩ := h
                refine zr_zaload (xd dX12_handshake 173 rfl) (lt552 hn (by decide)) kd_523 ln_523 (by decide) o34 ?_
                replace h := h (fun (J35 : zM) (L36 : yM) => xJ (xGm b dC dI cA ts) l mX12_handshake 0 0 (zQ0 n R Q) (fun _ _ => False) 0 0 329 [(0, .ref 491), (1, .int (oI p1)), (5, .int (oI x4)), (6, .int (oI x5)), (7, .int (oI x6)), (8, .int (oI x7)), (9, .int (oI x8)), (11, .int (oI x18)), (12, .int (oI r24))] [] al n R (zi J35) (li L36)) (by
                  intro J35 L36 h
                  show xJ _ _ _ _ _ _ _ _ _ 329 [(0, .ref 491), (1, .int (oI p1)), (5, .int (oI x4)), (6, .int (oI x5)), (7, .int (oI x6)), (8, .int (oI x7)), (9, .int (oI x8)), (11, .int (oI x18)), (12, .int (oI r24))] [] _ _ _ _ _
                  refine xr_iload (xd dX12_handshake 180 rfl) 7 rfl ?_
                  obtain ⟨o38, h⟩ := h
                  refine zr_if_eq 354 (xd dX12_handshake 181 rfl) (by decide) o38 (fun c39 => ?_) (fun c39 => ?_)
                  · replace h := ifp h c39
                    refine xr_iload (xd dX12_handshake 192 rfl) 4 rfl ?_
                    refine xr_aload_n (xd dX12_handshake 193 rfl) 0 rfl ?_
                    refine xr_getR (b := 535) 12 53 (xd dX12_handshake 194 rfl) f12_142 (by decide) (by decide) (lt552 hn (by decide)) kd_491 rfl (r_491_53 hR) ?_
                    refine xr_iload_n (xd dX12_handshake 195 rfl) 1 rfl ?_
                    obtain ⟨o40, h⟩ := h
                    refine zr_iaload (xd dX12_handshake 196 rfl) (lt552 hn (by decide)) kd_535 ln_535 (by decide) o40 ?_
                    obtain ⟨o41, h⟩ := h
                    obtain ⟨o42, h⟩ := h
                    refine zr_icmp_ge 372 (xd dX12_handshake 197 rfl) (by decide) o41 o42 (fun c43 => ?_) (fun c43 => ?_)
                    · replace h := ifn h c43
                      exact xr_vret (xd dX12_handshake 202 rfl) rfl (by decide) (by decide) (fun _ => rfl) ⟨_, _, rfl, rfl, h⟩
                    · replace h := ifp h c43
                      refine xr_aload_n (xd dX12_handshake 198 rfl) 0 rfl ?_
                      refine xr_iload_n (xd dX12_handshake 199 rfl) 1 rfl ?_
                      refine xr_iload (xd dX12_handshake 200 rfl) 2 rfl ?_
                      refine xr_callV mX12_older 2 [.int (oI p1), .int (oI x4)] (xd dX12_handshake 201 rfl) l12_504 kX12_older rfl (lt552 hn (by decide)) kd_491 (by decide) rfl (by decide) (Nat.le_of_ble_eq_true rfl) (v_X12_older hn hR  h) (by decide) (by decide) (fun r_ M_ h_ => ?_) (fun _ _ h_ => h_.elim)
                      obtain ⟨J44, L45, rfl, rfl, h⟩ := h_
                      show xJ _ _ _ _ _ _ _ _ _ 372 [(0, .ref 491), (1, .int (oI p1)), (5, .int (oI x4)), (6, .int (oI x5)), (7, .int (oI x6)), (8, .int (oI x7)), (9, .int (oI x8)), (11, .int (oI x18)), (12, .int (oI r24))] [] _ _ _ (zi J44) (li L45)
                      exact xr_vret (xd dX12_handshake 202 rfl) rfl (by decide) (by decide) (fun _ => rfl) ⟨_, _, rfl, rfl, h⟩
                  · replace h := ifn h c39
                    refine xr_aload_n (xd dX12_handshake 182 rfl) 0 rfl ?_
                    refine xr_iload_n (xd dX12_handshake 183 rfl) 1 rfl ?_
                    refine xr_iload (xd dX12_handshake 184 rfl) 8 rfl ?_
                    refine xr_iload (xd dX12_handshake 185 rfl) 4 rfl ?_
                    refine xr_iload (xd dX12_handshake 186 rfl) 2 rfl ?_
                    refine xr_iload (xd dX12_handshake 187 rfl) 3 rfl ?_
                    refine xr_iload (xd dX12_handshake 188 rfl) 5 rfl ?_
                    refine xr_iload (xd dX12_handshake 189 rfl) 6 rfl ?_
                    refine xr_callV mX12_keeps 7 [.int (oI p1), .int (oI r24), .int (oI x6), .int (oI x4), .int (oI x5), .int (oI x7), .int (oI x8)] (xd dX12_handshake 190 rfl) l12_500 kX12_keeps rfl (lt552 hn (by decide)) kd_491 (by decide) rfl (by decide) (Nat.le_of_ble_eq_true rfl) (v_X12_keeps hn hR  h) (by decide) (by decide) (fun r_ M_ h_ => ?_) (fun _ _ h_ => h_.elim)
                    obtain ⟨J46, L47, rfl, rfl, h⟩ := h_
                    show xJ _ _ _ _ _ _ _ _ _ 351 [(0, .ref 491), (1, .int (oI p1)), (5, .int (oI x4)), (6, .int (oI x5)), (7, .int (oI x6)), (8, .int (oI x7)), (9, .int (oI x8)), (11, .int (oI x18)), (12, .int (oI r24))] [] _ _ _ (zi J46) (li L47)
                    refine xr_goto 372 (xd dX12_handshake 191 rfl) (by decide) ?_
                    exact xr_vret (xd dX12_handshake 202 rfl) rfl (by decide) (by decide) (fun _ => rfl) ⟨_, _, rfl, rfl, h⟩)
                obtain ⟨o48, h⟩ := h
                refine zr_if_eq 329 (xd dX12_handshake 174 rfl) (by decide) o48 (fun c49 => ?_) (fun c49 => ?_)
                · replace h := ifp h c49
                  refine xJ.pick (ls' := [(0, .ref 491), (1, .int (oI p1)), (5, .int (oI x4)), (6, .int (oI x5)), (7, .int (oI x6)), (8, .int (oI x7)), (9, .int (oI x8)), (11, .int (oI x18)), (12, .int (oI r24))]) [0, 1, 4, 5, 6, 7, 8, 9, 10] rfl ?_
                  exact h
                · replace h := ifn h c49
                  refine xr_aload_n (xd dX12_handshake 175 rfl) 0 rfl ?_
                  refine xr_iload_n (xd dX12_handshake 176 rfl) 1 rfl ?_
                  refine xr_iload_n (xd dX12_handshake 177 rfl) 2 rfl ?_
                  refine xr_iload_n (xd dX12_handshake 178 rfl) 3 rfl ?_
                  refine xr_callV mX12_listed 3 [.int (oI p1), .int (oI p2), .int (oI p3)] (xd dX12_handshake 179 rfl) l12_497 kX12_listed rfl (lt552 hn (by decide)) kd_491 (by decide) rfl (by decide) (Nat.le_of_ble_eq_true rfl) (v_X12_listed hn hR  h) (by decide) (by decide) (fun r_ M_ h_ => ?_) (fun _ _ h_ => h_.elim)
                  obtain ⟨J50, L51, rfl, rfl, h⟩ := h_
                  show xJ _ _ _ _ _ _ _ _ _ 329 [(0, .ref 491), (1, .int (oI p1)), (2, .int (oI p2)), (3, .int (oI p3)), (5, .int (oI x4)), (6, .int (oI x5)), (7, .int (oI x6)), (8, .int (oI x7)), (9, .int (oI x8)), (11, .int (oI x18)), (12, .int (oI r24))] [] _ _ _ (zi J50) (li L51)
                  refine xJ.pick (ls' := [(0, .ref 491), (1, .int (oI p1)), (5, .int (oI x4)), (6, .int (oI x5)), (7, .int (oI x6)), (8, .int (oI x7)), (9, .int (oI x8)), (11, .int (oI x18)), (12, .int (oI r24))]) [0, 1, 4, 5, 6, 7, 8, 9, 10] rfl ?_
                  exact h)
              obtain ⟨o52, h⟩ := h
              refine zr_icmp_ne 313 (xd dX12_handshake 159 rfl) (by decide) o52 (by decide) (fun c53 => ?_) (fun c53 => ?_)
              · replace h := ifn h c53
                refine xJ.pick (ls' := [(0, .ref 491), (1, .int (oI p1)), (2, .int (oI p2)), (3, .int (oI p3)), (5, .int (oI x4)), (6, .int (oI x5)), (7, .int (oI x6)), (8, .int (oI x7)), (9, .int (oI x8)), (11, .int (oI x18)), (12, .int (oI r24))]) [0, 1, 2, 3, 4, 5, 6, 7, 8, 10, 11] rfl ?_
                exact h
              · replace h := ifp h c53
                refine xr_aload_n (xd dX12_handshake 160 rfl) 0 rfl ?_
                refine xr_getR (b := 534) 12 52 (xd dX12_handshake 161 rfl) f12_139 (by decide) (by decide) (lt552 hn (by decide)) kd_491 rfl (r_491_52 hR) ?_
                refine xr_iconst (v := oI 1) (xd dX12_handshake 162 rfl) (by decide) ?_
                refine zr_iaload (xd dX12_handshake 163 rfl) (lt552 hn (by decide)) kd_534 ln_534 (by decide) ⟨by decide, by decide⟩ ?_
                obtain ⟨o54, h⟩ := h
                refine zr_if_ne 313 (xd dX12_handshake 164 rfl) (by decide) o54 (fun c55 => ?_) (fun c55 => ?_)
                · replace h := ifn h c55
                  refine xJ.pick (ls' := [(0, .ref 491), (1, .int (oI p1)), (2, .int (oI p2)), (3, .int (oI p3)), (5, .int (oI x4)), (6, .int (oI x5)), (7, .int (oI x6)), (8, .int (oI x7)), (9, .int (oI x8)), (11, .int (oI x18)), (12, .int (oI r24))]) [0, 1, 2, 3, 4, 5, 6, 7, 8, 10, 11] rfl ?_
                  exact h
                · replace h := ifp h c55
                  refine xr_aload_n (xd dX12_handshake 165 rfl) 0 rfl ?_
                  refine xr_iload (xd dX12_handshake 166 rfl) 6 rfl ?_
                  refine xr_iload (xd dX12_handshake 167 rfl) 5 rfl ?_
                  refine xr_callV mX12_helloComes 2 [.int (oI x6), .int (oI x5)] (xd dX12_handshake 168 rfl) l12_494 kX12_helloComes rfl (lt552 hn (by decide)) kd_491 (by decide) rfl (by decide) (Nat.le_of_ble_eq_true rfl) (v_X12_helloComes hn hR  h) (by decide) (by decide) (fun r_ M_ h_ => ?_) (fun _ _ h_ => h_.elim)
                  obtain ⟨J56, L57, rfl, rfl, h⟩ := h_
                  show xJ _ _ _ _ _ _ _ _ _ 312 [(0, .ref 491), (1, .int (oI p1)), (2, .int (oI p2)), (3, .int (oI p3)), (5, .int (oI x4)), (6, .int (oI x5)), (7, .int (oI x6)), (8, .int (oI x7)), (9, .int (oI x8)), (10, .int (oI x25)), (11, .int (oI x18)), (12, .int (oI r24))] [] _ _ _ (zi J56) (li L57)
                  exact xr_vret (xd dX12_handshake 169 rfl) rfl (by decide) (by decide) (fun _ => rfl) ⟨_, _, rfl, rfl, h⟩
            · replace h := ifp h c30
              refine xr_aload_n (xd dX12_handshake 153 rfl) 0 rfl ?_
              refine xr_iload_n (xd dX12_handshake 154 rfl) 1 rfl ?_
              refine xr_callV mX12_malformed 1 [.int (oI p1)] (xd dX12_handshake 155 rfl) l12_484 kX12_malformed rfl (lt552 hn (by decide)) kd_491 (by decide) rfl (by decide) (Nat.le_of_ble_eq_true rfl) (v_X12_malformed hn hR  h) (by decide) (by decide) (fun r_ M_ h_ => ?_) (fun _ _ h_ => h_.elim)
              obtain ⟨J58, L59, rfl, rfl, h⟩ := h_
              show xJ _ _ _ _ _ _ _ _ _ 289 [(0, .ref 491), (1, .int (oI p1)), (2, .int (oI p2)), (3, .int (oI p3)), (5, .int (oI x4)), (6, .int (oI x5)), (7, .int (oI x6)), (8, .int (oI x7)), (9, .int (oI x8)), (10, .int (oI x25)), (11, .int (oI x18)), (12, .int (oI r24))] [] _ _ _ (zi J58) (li L59)
              exact xr_vret (xd dX12_handshake 156 rfl) rfl (by decide) (by decide) (fun _ => rfl) ⟨_, _, rfl, rfl, h⟩)
          obtain ⟨o60, h⟩ := h
          refine zr_if_eq 279 (xd dX12_handshake 130 rfl) (by decide) o60 (fun c61 => ?_) (fun c61 => ?_)
          · replace h := ifp h c61
            exact h
          · replace h := ifn h c61
            refine xr_aload_n (xd dX12_handshake 131 rfl) 0 rfl ?_
            refine xr_getR (b := 540) 12 59 (xd dX12_handshake 132 rfl) f12_157 (by decide) (by decide) (lt552 hn (by decide)) kd_491 rfl (r_491_59 hR) ?_
            refine xr_iload (xd dX12_handshake 133 rfl) 11 rfl ?_
            obtain ⟨o62, h⟩ := h
            refine zr_iaload (xd dX12_handshake 134 rfl) (lt552 hn (by decide)) kd_540 ln_540 (by decide) o62 ?_
            refine xr_iload (xd dX12_handshake 135 rfl) 6 rfl ?_
            obtain ⟨o63, h⟩ := h
            obtain ⟨o64, h⟩ := h
            refine zr_icmp_ne 279 (xd dX12_handshake 136 rfl) (by decide) o63 o64 (fun c65 => ?_) (fun c65 => ?_)
            · replace h := ifn h c65
              exact h
            · replace h := ifp h c65
              refine xr_aload_n (xd dX12_handshake 137 rfl) 0 rfl ?_
              refine xr_getR (b := 541) 12 60 (xd dX12_handshake 138 rfl) f12_160 (by decide) (by decide) (lt552 hn (by decide)) kd_491 rfl (r_491_60 hR) ?_
              refine xr_iload (xd dX12_handshake 139 rfl) 11 rfl ?_
              obtain ⟨o66, h⟩ := h
              refine zr_iaload (xd dX12_handshake 140 rfl) (lt552 hn (by decide)) kd_541 ln_541 (by decide) o66 ?_
              refine xr_iload (xd dX12_handshake 141 rfl) 4 rfl ?_
              replace h := h (fun (J67 : zM) (L68 : yM) => xJ (xGm b dC dI cA ts) l mX12_handshake 0 0 (zQ0 n R Q) (fun _ _ => False) 0 0 276 [(0, .ref 491), (1, .int (oI p1)), (2, .int (oI p2)), (3, .int (oI p3)), (5, .int (oI x4)), (6, .int (oI x5)), (7, .int (oI x6)), (8, .int (oI x7)), (9, .int (oI x8)), (11, .int (oI x18)), (12, .int (oI r24))] [] al n R (zi J67) (li L68)) (by
                intro J67 L68 h
                show xJ _ _ _ _ _ _ _ _ _ 276 [(0, .ref 491), (1, .int (oI p1)), (2, .int (oI p2)), (3, .int (oI p3)), (5, .int (oI x4)), (6, .int (oI x5)), (7, .int (oI x6)), (8, .int (oI x7)), (9, .int (oI x8)), (11, .int (oI x18)), (12, .int (oI r24))] [] _ _ _ _ _
                refine xr_iconst (v := oI 0) (xd dX12_handshake 149 rfl) (by decide) ?_
                refine xr_istore [(0, .ref 491), (1, .int (oI p1)), (2, .int (oI p2)), (3, .int (oI p3)), (5, .int (oI x4)), (6, .int (oI x5)), (7, .int (oI x6)), (8, .int (oI x7)), (9, .int (oI x8)), (10, .int (oI 0)), (11, .int (oI x18)), (12, .int (oI r24))] (xd dX12_handshake 150 rfl) (by decide) rfl ?_
                exact h)
              obtain ⟨o70, h⟩ := h
              obtain ⟨o71, h⟩ := h
              refine zr_icmp_ne 276 (xd dX12_handshake 142 rfl) (by decide) o70 o71 (fun c72 => ?_) (fun c72 => ?_)
              · replace h := ifn h c72
                refine xJ.pick (ls' := [(0, .ref 491), (1, .int (oI p1)), (2, .int (oI p2)), (3, .int (oI p3)), (5, .int (oI x4)), (6, .int (oI x5)), (7, .int (oI x6)), (8, .int (oI x7)), (9, .int (oI x8)), (11, .int (oI x18)), (12, .int (oI r24))]) [0, 1, 2, 3, 4, 5, 6, 7, 8, 10, 11] rfl ?_
                exact h
              · replace h := ifp h c72
                refine xr_aload_n (xd dX12_handshake 143 rfl) 0 rfl ?_
                refine xr_getR (b := 542) 12 61 (xd dX12_handshake 144 rfl) f12_163 (by decide) (by decide) (lt552 hn (by decide)) kd_491 rfl (r_491_61 hR) ?_
                refine xr_iload (xd dX12_handshake 145 rfl) 11 rfl ?_
                obtain ⟨o73, h⟩ := h
                refine zr_iaload (xd dX12_handshake 146 rfl) (lt552 hn (by decide)) kd_542 ln_542 (by decide) o73 ?_
                refine xr_iload (xd dX12_handshake 147 rfl) 5 rfl ?_
                obtain ⟨o74, h⟩ := h
                obtain ⟨o75, h⟩ := h
                refine zr_icmp_eq 279 (xd dX12_handshake 148 rfl) (by decide) o74 o75 (fun c76 => ?_) (fun c76 => ?_)
                · replace h := ifp h c76
                  exact h
                · replace h := ifn h c76
                  refine xJ.pick (ls' := [(0, .ref 491), (1, .int (oI p1)), (2, .int (oI p2)), (3, .int (oI p3)), (5, .int (oI x4)), (6, .int (oI x5)), (7, .int (oI x6)), (8, .int (oI x7)), (9, .int (oI x8)), (11, .int (oI x18)), (12, .int (oI r24))]) [0, 1, 2, 3, 4, 5, 6, 7, 8, 10, 11] rfl ?_
                  exact h)
        replace h := h (fun (J77 : zM) (L78 : yM) => xJ (xGm b dC dI cA ts) l mX12_handshake 0 0 (zQ0 n R Q) (fun _ _ => False) 0 0 223 [(0, .ref 491), (1, .int (oI p1)), (2, .int (oI p2)), (3, .int (oI p3)), (5, .int (oI x4)), (6, .int (oI x5)), (7, .int (oI x6)), (8, .int (oI x7)), (9, .int (oI x8)), (10, .int (oI x17))] [] al n R (zi J77) (li L78)) (by
          intro J77 L78 h
          show xJ _ _ _ _ _ _ _ _ _ 223 [(0, .ref 491), (1, .int (oI p1)), (2, .int (oI p2)), (3, .int (oI p3)), (5, .int (oI x4)), (6, .int (oI x5)), (7, .int (oI x6)), (8, .int (oI x7)), (9, .int (oI x8)), (10, .int (oI x17))] [] _ _ _ _ _
          refine xr_iconst (v := oI 0) (xd dX12_handshake 122 rfl) (by decide) ?_
          exact h)
        obtain ⟨o80, h⟩ := h
        refine zr_if_eq 223 (xd dX12_handshake 99 rfl) (by decide) o80 (fun c81 => ?_) (fun c81 => ?_)
        · replace h := ifp h c81
          exact h
        · replace h := ifn h c81
          refine xr_aload_n (xd dX12_handshake 100 rfl) 0 rfl ?_
          refine xr_getR (b := 534) 12 52 (xd dX12_handshake 101 rfl) f12_139 (by decide) (by decide) (lt552 hn (by decide)) kd_491 rfl (r_491_52 hR) ?_
          refine xr_iload_n (xd dX12_handshake 102 rfl) 1 rfl ?_
          obtain ⟨o82, h⟩ := h
          refine zr_iaload (xd dX12_handshake 103 rfl) (lt552 hn (by decide)) kd_534 ln_534 (by decide) o82 ?_
          refine xr_iconst (v := oI 1) (xd dX12_handshake 104 rfl) (by decide) ?_
          obtain ⟨o83, h⟩ := h
          refine zr_icmp_ne 223 (xd dX12_handshake 105 rfl) (by decide) o83 (by decide) (fun c84 => ?_) (fun c84 => ?_)
          · replace h := ifn h c84
            exact h
          · replace h := ifp h c84
            refine xr_iload (xd dX12_handshake 106 rfl) 6 rfl ?_
            refine xr_aload_n (xd dX12_handshake 107 rfl) 0 rfl ?_
            refine xr_getR (b := 535) 12 53 (xd dX12_handshake 108 rfl) f12_142 (by decide) (by decide) (lt552 hn (by decide)) kd_491 rfl (r_491_53 hR) ?_
            refine xr_iload_n (xd dX12_handshake 109 rfl) 1 rfl ?_
            obtain ⟨o85, h⟩ := h
            refine zr_iaload (xd dX12_handshake 110 rfl) (lt552 hn (by decide)) kd_535 ln_535 (by decide) o85 ?_
            obtain ⟨o86, h⟩ := h
            obtain ⟨o87, h⟩ := h
            refine zr_icmp_lt 223 (xd dX12_handshake 111 rfl) (by decide) o86 o87 (fun c88 => ?_) (fun c88 => ?_)
            · replace h := ifp h c88
              exact h
            · replace h := ifn h c88
              refine xr_iload (xd dX12_handshake 112 rfl) 6 rfl ?_
              refine xr_aload_n (xd dX12_handshake 113 rfl) 0 rfl ?_
              refine xr_getR (b := 535) 12 53 (xd dX12_handshake 114 rfl) f12_142 (by decide) (by decide) (lt552 hn (by decide)) kd_491 rfl (r_491_53 hR) ?_
              refine xr_iload_n (xd dX12_handshake 115 rfl) 1 rfl ?_
              obtain ⟨o89, h⟩ := h
              refine zr_iaload (xd dX12_handshake 116 rfl) (lt552 hn (by decide)) kd_535 ln_535 (by decide) o89 ?_
              refine xr_iconst (v := oI 4) (xd dX12_handshake 117 rfl) (by decide) ?_
              refine zr_iadd (xd dX12_handshake 118 rfl) ?_
              obtain ⟨o90, h⟩ := h
              refine zr_icmp_gt 223 (xd dX12_handshake 119 rfl) (by decide) o86 o90 (fun c91 => ?_) (fun c91 => ?_)
              · replace h := ifp h c91
                exact h
              · replace h := ifn h c91
                refine xr_iconst (v := oI 1) (xd dX12_handshake 120 rfl) (by decide) ?_
                refine xr_goto 224 (xd dX12_handshake 121 rfl) (by decide) ?_
                exact h)
      replace h := h (fun (J92 : zM) (L93 : yM) => xJ (xGm b dC dI cA ts) l mX12_handshake 0 0 (zQ0 n R Q) (fun _ _ => False) 0 0 172 [(0, .ref 491), (1, .int (oI p1)), (2, .int (oI p2)), (3, .int (oI p3)), (5, .int (oI x4)), (6, .int (oI x5)), (7, .int (oI x6)), (8, .int (oI x7)), (9, .int (oI x8))] [.int (oI x9)] al n R (zi J92) (li L93)) (by
        intro J92 L93 h
        show xJ _ _ _ _ _ _ _ _ _ 172 [(0, .ref 491), (1, .int (oI p1)), (2, .int (oI p2)), (3, .int (oI p3)), (5, .int (oI x4)), (6, .int (oI x5)), (7, .int (oI x6)), (8, .int (oI x7)), (9, .int (oI x8))] [.int (oI x9)] _ _ _ _ _
        refine xr_iconst (v := oI 1) (xd dX12_handshake 93 rfl) (by decide) ?_
        refine xr_goto 177 (xd dX12_handshake 94 rfl) (by decide) ?_
        exact h)
      obtain ⟨o95, h⟩ := h
      refine zr_icmp_ne 172 (xd dX12_handshake 84 rfl) (by decide) o95 (by decide) (fun c96 => ?_) (fun c96 => ?_)
      · replace h := ifn h c96
        refine xJ.pick (ls' := [(0, .ref 491), (1, .int (oI p1)), (2, .int (oI p2)), (3, .int (oI p3)), (5, .int (oI x4)), (6, .int (oI x5)), (7, .int (oI x6)), (8, .int (oI x7)), (9, .int (oI x8))]) [0, 1, 2, 3, 4, 5, 6, 7, 8] rfl ?_
        exact h
      · replace h := ifp h c96
        refine xr_iload (xd dX12_handshake 85 rfl) 7 rfl ?_
        replace h := h (fun (J97 : zM) (L98 : yM) => xJ (xGm b dC dI cA ts) l mX12_handshake 0 0 (zQ0 n R Q) (fun _ _ => False) 0 0 176 [(0, .ref 491), (1, .int (oI p1)), (2, .int (oI p2)), (3, .int (oI p3)), (5, .int (oI x4)), (6, .int (oI x5)), (7, .int (oI x6)), (8, .int (oI x7)), (9, .int (oI x8))] [.int (oI x9)] al n R (zi J97) (li L98)) (by
          intro J97 L98 h
          show xJ _ _ _ _ _ _ _ _ _ 176 [(0, .ref 491), (1, .int (oI p1)), (2, .int (oI p2)), (3, .int (oI p3)), (5, .int (oI x4)), (6, .int (oI x5)), (7, .int (oI x6)), (8, .int (oI x7)), (9, .int (oI x8))] [.int (oI x9)] _ _ _ _ _
          refine xr_iconst (v := oI 0) (xd dX12_handshake 95 rfl) (by decide) ?_
          exact h)
        obtain ⟨o100, h⟩ := h
        refine zr_if_ne 176 (xd dX12_handshake 86 rfl) (by decide) o100 (fun c101 => ?_) (fun c101 => ?_)
        · replace h := ifn h c101
          refine xJ.pick (ls' := [(0, .ref 491), (1, .int (oI p1)), (2, .int (oI p2)), (3, .int (oI p3)), (5, .int (oI x4)), (6, .int (oI x5)), (7, .int (oI x6)), (8, .int (oI x7)), (9, .int (oI x8))]) [0, 1, 2, 3, 4, 5, 6, 7, 8] rfl ?_
          exact h
        · replace h := ifp h c101
          refine xr_iload (xd dX12_handshake 87 rfl) 8 rfl ?_
          refine xr_iload (xd dX12_handshake 88 rfl) 5 rfl ?_
          obtain ⟨o102, h⟩ := h
          obtain ⟨o103, h⟩ := h
          refine zr_icmp_ne 176 (xd dX12_handshake 89 rfl) (by decide) o102 o103 (fun c104 => ?_) (fun c104 => ?_)
          · replace h := ifn h c104
            refine xJ.pick (ls' := [(0, .ref 491), (1, .int (oI p1)), (2, .int (oI p2)), (3, .int (oI p3)), (5, .int (oI x4)), (6, .int (oI x5)), (7, .int (oI x6)), (8, .int (oI x7)), (9, .int (oI x8))]) [0, 1, 2, 3, 4, 5, 6, 7, 8] rfl ?_
            exact h
          · replace h := ifp h c104
            refine xr_iload (xd dX12_handshake 90 rfl) 6 rfl ?_
            refine xr_iconst (v := oI 1) (xd dX12_handshake 91 rfl) (by decide) ?_
            obtain ⟨o105, h⟩ := h
            refine zr_icmp_gt 176 (xd dX12_handshake 92 rfl) (by decide) o105 (by decide) (fun c106 => ?_) (fun c106 => ?_)
            · replace h := ifp h c106
              refine xJ.pick (ls' := [(0, .ref 491), (1, .int (oI p1)), (2, .int (oI p2)), (3, .int (oI p3)), (5, .int (oI x4)), (6, .int (oI x5)), (7, .int (oI x6)), (8, .int (oI x7)), (9, .int (oI x8))]) [0, 1, 2, 3, 4, 5, 6, 7, 8] rfl ?_
              exact h
            · replace h := ifn h c106
              refine xJ.pick (ls' := [(0, .ref 491), (1, .int (oI p1)), (2, .int (oI p2)), (3, .int (oI p3)), (5, .int (oI x4)), (6, .int (oI x5)), (7, .int (oI x6)), (8, .int (oI x7)), (9, .int (oI x8))]) [0, 1, 2, 3, 4, 5, 6, 7, 8] rfl ?_
              exact h)
    replace h := h (fun (J107 : zM) (L108 : yM) => xJ (xGm b dC dI cA ts) l mX12_handshake 0 0 (zQ0 n R Q) (fun _ _ => False) 0 0 143 [(0, .ref 491), (1, .int (oI p1)), (2, .int (oI p2)), (3, .int (oI p3)), (5, .int (oI x4)), (6, .int (oI x5)), (7, .int (oI x6)), (8, .int (oI x7)), (9, .int (oI x8))] [] al n R (zi J107) (li L108)) (by
      intro J107 L108 h
      show xJ _ _ _ _ _ _ _ _ _ 143 [(0, .ref 491), (1, .int (oI p1)), (2, .int (oI p2)), (3, .int (oI p3)), (5, .int (oI x4)), (6, .int (oI x5)), (7, .int (oI x6)), (8, .int (oI x7)), (9, .int (oI x8))] [] _ _ _ _ _
      refine xr_iconst (v := oI 0) (xd dX12_handshake 79 rfl) (by decide) ?_
      exact h)
    obtain ⟨o110, h⟩ := h
    refine zr_icmp_ne 143 (xd dX12_handshake 60 rfl) (by decide) o2 o110 (fun c111 => ?_) (fun c111 => ?_)
    · replace h := ifn h c111
      refine xJ.pick (ls' := [(0, .ref 491), (1, .int (oI p1)), (2, .int (oI p2)), (3, .int (oI p3)), (5, .int (oI x4)), (6, .int (oI x5)), (7, .int (oI x6)), (8, .int (oI x7)), (9, .int (oI x8))]) [0, 1, 2, 3, 5, 6, 7, 8, 9] rfl ?_
      exact h
    · replace h := ifp h c111
      refine xr_iload (xd dX12_handshake 61 rfl) 9 rfl ?_
      obtain ⟨o112, h⟩ := h
      refine zr_if_le 143 (xd dX12_handshake 62 rfl) (by decide) o112 (fun c113 => ?_) (fun c113 => ?_)
      · replace h := ifn h c113
        refine xJ.pick (ls' := [(0, .ref 491), (1, .int (oI p1)), (2, .int (oI p2)), (3, .int (oI p3)), (5, .int (oI x4)), (6, .int (oI x5)), (7, .int (oI x6)), (8, .int (oI x7)), (9, .int (oI x8))]) [0, 1, 2, 3, 5, 6, 7, 8, 9] rfl ?_
        exact h
      · replace h := ifp h c113
        refine xr_iload_n (xd dX12_handshake 63 rfl) 1 rfl ?_
        refine xr_iload_n (xd dX12_handshake 64 rfl) 2 rfl ?_
        refine xr_iload (xd dX12_handshake 65 rfl) 5 rfl ?_
        refine xr_callS mX12_isKind 3 [.int (oI p1), .int (oI p2), .int (oI x4)] (xd dX12_handshake 66 rfl) l12_487 kX12_isKind rfl rfl (by decide) (Nat.le_of_ble_eq_true rfl) (v_X12_isKind hn hR  h) (by decide) (by decide) (fun r_ M_ h_ => ?_) (fun _ _ h_ => h_.elim)
        obtain ⟨r116, J114, L115, rfl, rfl, h⟩ := h_
        show xJ _ _ _ _ _ _ _ _ _ 116 [(0, .ref 491), (1, .int (oI p1)), (2, .int (oI p2)), (3, .int (oI p3)), (4, .int (oI x1)), (5, .int (oI x4)), (6, .int (oI x5)), (7, .int (oI x6)), (8, .int (oI x7)), (9, .int (oI x8))] [.int (oI r116)] _ _ _ (zi J114) (li L115)
        obtain ⟨o117, h⟩ := h
        refine zr_if_eq 143 (xd dX12_handshake 67 rfl) (by decide) o117 (fun c118 => ?_) (fun c118 => ?_)
        · replace h := ifp h c118
          refine xJ.pick (ls' := [(0, .ref 491), (1, .int (oI p1)), (2, .int (oI p2)), (3, .int (oI p3)), (5, .int (oI x4)), (6, .int (oI x5)), (7, .int (oI x6)), (8, .int (oI x7)), (9, .int (oI x8))]) [0, 1, 2, 3, 5, 6, 7, 8, 9] rfl ?_
          exact h
        · replace h := ifn h c118
          refine xr_iload (xd dX12_handshake 68 rfl) 5 rfl ?_
          refine xr_iload (xd dX12_handshake 69 rfl) 6 rfl ?_
          refine xr_callS mX12_isLength 2 [.int (oI x4), .int (oI x5)] (xd dX12_handshake 70 rfl) l12_491 kX12_isLength rfl rfl (by decide) (Nat.le_of_ble_eq_true rfl) (v_X12_isLength hn hR  h) (by decide) (by decide) (fun r_ M_ h_ => ?_) (fun _ _ h_ => h_.elim)
          obtain ⟨r121, J119, L120, rfl, rfl, h⟩ := h_
          show xJ _ _ _ _ _ _ _ _ _ 126 [(0, .ref 491), (1, .int (oI p1)), (2, .int (oI p2)), (3, .int (oI p3)), (4, .int (oI x1)), (5, .int (oI x4)), (6, .int (oI x5)), (7, .int (oI x6)), (8, .int (oI x7)), (9, .int (oI x8))] [.int (oI r121)] _ _ _ (zi J119) (li L120)
          obtain ⟨o122, h⟩ := h
          refine zr_if_eq 143 (xd dX12_handshake 71 rfl) (by decide) o122 (fun c123 => ?_) (fun c123 => ?_)
          · replace h := ifp h c123
            refine xJ.pick (ls' := [(0, .ref 491), (1, .int (oI p1)), (2, .int (oI p2)), (3, .int (oI p3)), (5, .int (oI x4)), (6, .int (oI x5)), (7, .int (oI x6)), (8, .int (oI x7)), (9, .int (oI x8))]) [0, 1, 2, 3, 5, 6, 7, 8, 9] rfl ?_
            exact h
          · replace h := ifn h c123
            refine xr_iload (xd dX12_handshake 72 rfl) 8 rfl ?_
            refine xr_iload (xd dX12_handshake 73 rfl) 9 rfl ?_
            refine zr_iadd (xd dX12_handshake 74 rfl) ?_
            refine xr_iload (xd dX12_handshake 75 rfl) 6 rfl ?_
            obtain ⟨o124, h⟩ := h
            obtain ⟨o125, h⟩ := h
            refine zr_icmp_gt 143 (xd dX12_handshake 76 rfl) (by decide) o124 o125 (fun c126 => ?_) (fun c126 => ?_)
            · replace h := ifp h c126
              refine xJ.pick (ls' := [(0, .ref 491), (1, .int (oI p1)), (2, .int (oI p2)), (3, .int (oI p3)), (5, .int (oI x4)), (6, .int (oI x5)), (7, .int (oI x6)), (8, .int (oI x7)), (9, .int (oI x8))]) [0, 1, 2, 3, 5, 6, 7, 8, 9] rfl ?_
              exact h
            · replace h := ifn h c126
              refine xr_iconst (v := oI 1) (xd dX12_handshake 77 rfl) (by decide) ?_
              refine xr_goto 144 (xd dX12_handshake 78 rfl) (by decide) ?_
              refine xJ.pick (ls' := [(0, .ref 491), (1, .int (oI p1)), (2, .int (oI p2)), (3, .int (oI p3)), (5, .int (oI x4)), (6, .int (oI x5)), (7, .int (oI x6)), (8, .int (oI x7)), (9, .int (oI x8))]) [0, 1, 2, 3, 5, 6, 7, 8, 9] rfl ?_
              exact h
  · replace h := ifp h c3
    refine xr_aload_n (xd dX12_handshake 6 rfl) 0 rfl ?_
    refine xr_iload_n (xd dX12_handshake 7 rfl) 1 rfl ?_
    refine xr_callV mX12_malformed 1 [.int (oI p1)] (xd dX12_handshake 8 rfl) l12_484 kX12_malformed rfl (lt552 hn (by decide)) kd_491 (by decide) rfl (by decide) (Nat.le_of_ble_eq_true rfl) (v_X12_malformed hn hR  h) (by decide) (by decide) (fun r_ M_ h_ => ?_) (fun _ _ h_ => h_.elim)
    obtain ⟨J127, L128, rfl, rfl, h⟩ := h_
    show xJ _ _ _ _ _ _ _ _ _ 18 [(0, .ref 491), (1, .int (oI p1)), (2, .int (oI p2)), (3, .int (oI p3)), (4, .int (oI x1))] [] _ _ _ (zi J127) (li L128)
    exact xr_vret (xd dX12_handshake 9 rfl) rfl (by decide) (by decide) (fun _ => rfl) ⟨_, _, rfl, rfl, h⟩
def w_X12_ackComes (p1 : Int) (p2 : Int) (J : zM) (L : yM) (Q : zM → yM → Prop) : Prop := (if (zrem (J 491 70) 3) = 0 then zl_z (fun K2 x3 J4 L5 => R32 x3 ∧ R32 (J4 491 70) ∧ (if x3 < (J4 491 70) then ((0 : Int) ≤ x3 ∧ x3 < 560) ∧ ∀ x29 : Int, x29 = (J4 550 x3) → ((0 : Int) ≤ (x3 + 1) ∧ (x3 + 1) < 560) ∧ ((0 : Int) ≤ (x3 + 2) ∧ (x3 + 2) < 560) ∧ ∀ x32 : Int, x32 = ((256 * (J4 550 (x3 + 1))) + (J4 550 (x3 + 2))) → zl_z (fun K33 x34 J35 L36 => ((0 : Int) ≤ p1 ∧ p1 < 2) ∧ ∀ K40 : zM → yM → Prop, (∀ (J38 : zM) (L39 : yM), (K2 (x3 + 3) J38 L39) → K40 J38 L39) → R32 x34 ∧ R32 (J35 528 p1) ∧ (if x34 < (J35 528 p1) then R32 x29 ∧ R32 p2 ∧ (if p2 < x29 then K40 J35 L36 else ((0 : Int) ≤ p1 ∧ p1 < 2) ∧ R32 (J35 522 p1) ∧ (if (J35 522 p1) = 0 then ∀ x50 : Int, x50 = ((10000 * p1) + (5 * x34)) → ((0 : Int) ≤ x50 ∧ x50 < 20000) ∧ ∀ K54 : zM → yM → Prop, (∀ (J52 : zM) (L53 : yM), (K33 (x34 + 1) J52 L53) → K54 J52 L53) → R32 (J35 529 x50) ∧ (if (J35 529 x50) = x29 then ((0 : Int) ≤ (x50 + 1) ∧ (x50 + 1) < 20000) ∧ R32 (J35 529 (x50 + 1)) ∧ R32 x32 ∧ (if (J35 529 (x50 + 1)) = x32 then zl_z (fun K61 x62 J63 L64 => ((0 : Int) ≤ (x50 + 4) ∧ (x50 + 4) < 20000) ∧ R32 x62 ∧ R32 (J63 529 (x50 + 4)) ∧ (if x62 < (J63 529 (x50 + 4)) then ((0 : Int) ≤ (x50 + 2) ∧ (x50 + 2) < 20000) ∧ ((0 : Int) ≤ (x50 + 3) ∧ (x50 + 3) < 20000) ∧ ((0 : Int) ≤ ((((600 * p1) + (200 * (J63 529 (x50 + 2)))) + (J63 529 (x50 + 3))) + x62) ∧ ((((600 * p1) + (200 * (J63 529 (x50 + 2)))) + (J63 529 (x50 + 3))) + x62) < 1200) ∧ ∀ J72 : zM, J72 = zs J63 521 ((((600 * p1) + (200 * (J63 529 (x50 + 2)))) + (J63 529 (x50 + 3))) + x62) 1 → K61 (x62 + 1) J72 L64 else K54 J63 L64)) 0 J35 L36 else K54 J35 L36) else K54 J35 L36) else K40 J35 L36)) else K40 J35 L36)) 0 J4 L5 else ((0 : Int) ≤ p1 ∧ p1 < 2) ∧ ((0 : Int) ≤ p1 ∧ p1 < 2) ∧ ∀ K14 : Int → zM → yM → Prop, (∀ (x11 : Int) (J12 : zM) (L13 : yM), (((0 : Int) ≤ p1 ∧ p1 < 2) ∧ B01 (zor (J4 522 p1) x11) ∧ ∀ J17 : zM, J17 = zs J12 522 p1 (zor (J4 522 p1) x11) → Q J17 L13) → K14 x11 J12 L13) → ∀ K20 : zM → yM → Prop, (∀ (J18 : zM) (L19 : yM), (K14 0 J18 L19) → K20 J18 L19) → R32 (J4 517 p1) ∧ (if 0 < (J4 517 p1) then w_X12_left p1 J4 L5 (fun r25 J23 L24 => R32 r25 ∧ (if r25 = 0 then K14 1 J23 L24 else K20 J23 L24)) else K20 J4 L5))) 0 J L else w_X12_malformed p1 J L (fun J73 L74 => Q J73 L74))
set_option maxHeartbeats 4000000 in
set_option maxRecDepth 100000 in
theorem v_X12_ackComes {b : Nat} {dC : Nat → ClassId} {dI : Nat → Nat → Nat} {cA : Nat → ClassId} {ts : Nat → Nat} {l : Launch} {n : Nat} {R : Nat → Nat → Option Nat} {al : Bool} (hn : 552 ≤ n) (hR : xRk R) {p1 : Int} {p2 : Int}  {J : zM} {L : yM} {Q : zM → yM → Prop} (h : w_X12_ackComes p1 p2 J L Q) : xCn (xGm b dC dI cA ts) l mX12_ackComes [.ref 491, .int (oI p1), .int (oI p2)] al (n, R, zi J, li L) 0 0 (zQ0 n R Q) (fun _ _ => False) := by
  refine xCn.ofJ (by decide) (Nat.le_of_ble_eq_true rfl) ?_
  show xJ _ _ _ _ _ _ _ _ _ 0 [(0, .ref 491), (1, .int (oI p1)), (2, .int (oI p2))] [] _ _ _ _ _
  unfold w_X12_ackComes at h
  refine xr_aload_n (xd dX12_ackComes 0 rfl) 0 rfl ?_
  refine zr_getI 12 70 70 rfl (xd dX12_ackComes 1 rfl) f12_481 (by decide) (by decide) (lt552 hn (by decide)) kd_491 rfl ?_
  refine xr_iconst (v := oI 3) (xd dX12_ackComes 2 rfl) (by decide) ?_
  refine zr_irem (xd dX12_ackComes 3 rfl) (by decide) (by decide) ?_
  refine zr_if_eq 15 (xd dX12_ackComes 4 rfl) (by decide) (R32_of _) (fun c1 => ?_) (fun c1 => ?_)
  · replace h := ifp h c1
    refine xr_iconst (v := oI 0) (xd dX12_ackComes 9 rfl) (by decide) ?_
    refine xr_istore_n [(0, .ref 491), (1, .int (oI p1)), (2, .int (oI p2)), (3, .int (oI 0))] (xd dX12_ackComes 10 rfl) rfl (by decide) rfl ?_
    refine h (fun x3 J4 L5 => xJ (xGm b dC dI cA ts) l mX12_ackComes 0 0 (zQ0 n R Q) (fun _ _ => False) 0 0 17 [(0, .ref 491), (1, .int (oI p1)), (2, .int (oI p2)), (3, .int (oI x3))] [] al n R (zi J4) (li L5)) ?_
    intro x3 J4 L5 h
    show xJ _ _ _ _ _ _ _ _ _ 17 [(0, .ref 491), (1, .int (oI p1)), (2, .int (oI p2)), (3, .int (oI x3))] [] _ _ _ _ _
    refine xr_iload_n (xd dX12_ackComes 11 rfl) 3 rfl ?_
    refine xr_aload_n (xd dX12_ackComes 12 rfl) 0 rfl ?_
    refine zr_getI 12 70 70 rfl (xd dX12_ackComes 13 rfl) f12_481 (by decide) (by decide) (lt552 hn (by decide)) kd_491 rfl ?_
    obtain ⟨o6, h⟩ := h
    obtain ⟨o7, h⟩ := h
    refine zr_icmp_ge 196 (xd dX12_ackComes 14 rfl) (by decide) o6 o7 (fun c8 => ?_) (fun c8 => ?_)
    · replace h := ifn h c8
      refine xr_aload_n (xd dX12_ackComes 115 rfl) 0 rfl ?_
      refine xr_getR (b := 522) 12 40 (xd dX12_ackComes 116 rfl) f12_103 (by decide) (by decide) (lt552 hn (by decide)) kd_491 rfl (r_491_40 hR) ?_
      refine xr_iload_n (xd dX12_ackComes 117 rfl) 1 rfl ?_
      refine xr_dup2 (xd dX12_ackComes 118 rfl) rfl rfl ?_
      obtain ⟨o9, h⟩ := h
      refine zr_zaload (xd dX12_ackComes 119 rfl) (lt552 hn (by decide)) kd_522 ln_522 (by decide) o9 ?_
      refine xr_aload_n (xd dX12_ackComes 120 rfl) 0 rfl ?_
      refine xr_getR (b := 517) 12 35 (xd dX12_ackComes 121 rfl) f12_88 (by decide) (by decide) (lt552 hn (by decide)) kd_491 rfl (r_491_35 hR) ?_
      refine xr_iload_n (xd dX12_ackComes 122 rfl) 1 rfl ?_
      obtain ⟨o10, h⟩ := h
      refine zr_iaload (xd dX12_ackComes 123 rfl) (lt552 hn (by decide)) kd_517 ln_517 (by decide) o10 ?_
      replace h := h (fun (x11 : Int) (J12 : zM) (L13 : yM) => xJ (xGm b dC dI cA ts) l mX12_ackComes 0 0 (zQ0 n R Q) (fun _ _ => False) 0 0 225 [] [.int (oI x11), .int (oI (J4 522 p1)), .int (oI p1), .ref 522] al n R (zi J12) (li L13)) (by
        intro x11 J12 L13 h
        show xJ _ _ _ _ _ _ _ _ _ 225 [] [.int (oI x11), .int (oI (J4 522 p1)), .int (oI p1), .ref 522] _ _ _ _ _
        refine zr_ior (xd dX12_ackComes 132 rfl) ?_
        obtain ⟨o15, h⟩ := h
        obtain ⟨o16, h⟩ := h
        obtain ⟨J17, e_J17⟩ : ∃ z_ : zM, z_ = zs J12 522 p1 (zor (J4 522 p1) x11) := ⟨_, rfl⟩
        replace h := h J17 e_J17
        refine zr_zastore o16 e_J17 (xd dX12_ackComes 133 rfl) (lt552 hn (by decide)) kd_522 ln_522 (by decide) o15 ?_
        exact xr_vret (xd dX12_ackComes 134 rfl) rfl (by decide) (by decide) (fun _ => rfl) ⟨_, _, rfl, rfl, h⟩)
      replace h := h (fun (J18 : zM) (L19 : yM) => xJ (xGm b dC dI cA ts) l mX12_ackComes 0 0 (zQ0 n R Q) (fun _ _ => False) 0 0 224 [] [.int (oI (J4 522 p1)), .int (oI p1), .ref 522] al n R (zi J18) (li L19)) (by
        intro J18 L19 h
        show xJ _ _ _ _ _ _ _ _ _ 224 [] [.int (oI (J4 522 p1)), .int (oI p1), .ref 522] _ _ _ _ _
        refine xr_iconst (v := oI 0) (xd dX12_ackComes 131 rfl) (by decide) ?_
        exact h)
      obtain ⟨o21, h⟩ := h
      refine zr_if_le 224 (xd dX12_ackComes 124 rfl) (by decide) o21 (fun c22 => ?_) (fun c22 => ?_)
      · replace h := ifn h c22
        refine xJ.pick (ls' := []) [] rfl ?_
        exact h
      · replace h := ifp h c22
        refine xr_aload_n (xd dX12_ackComes 125 rfl) 0 rfl ?_
        refine xr_iload_n (xd dX12_ackComes 126 rfl) 1 rfl ?_
        refine xr_callV mX12_left 1 [.int (oI p1)] (xd dX12_ackComes 127 rfl) l12_516 kX12_left rfl (lt552 hn (by decide)) kd_491 (by decide) rfl (by decide) (Nat.le_of_ble_eq_true rfl) (v_X12_left hn hR  h) (by decide) (by decide) (fun r_ M_ h_ => ?_) (fun _ _ h_ => h_.elim)
        obtain ⟨r25, J23, L24, rfl, rfl, h⟩ := h_
        show xJ _ _ _ _ _ _ _ _ _ 217 [(0, .ref 491), (1, .int (oI p1)), (2, .int (oI p2)), (3, .int (oI x3))] [.int (oI r25), .int (oI (J4 522 p1)), .int (oI p1), .ref 522] _ _ _ (zi J23) (li L24)
        obtain ⟨o26, h⟩ := h
        refine zr_if_ne 224 (xd dX12_ackComes 128 rfl) (by decide) o26 (fun c27 => ?_) (fun c27 => ?_)
        · replace h := ifn h c27
          refine xJ.pick (ls' := []) [] rfl ?_
          exact h
        · replace h := ifp h c27
          refine xr_iconst (v := oI 1) (xd dX12_ackComes 129 rfl) (by decide) ?_
          refine xr_goto 225 (xd dX12_ackComes 130 rfl) (by decide) ?_
          refine xJ.pick (ls' := []) [] rfl ?_
          exact h
    · replace h := ifp h c8
      refine xr_aload_n (xd dX12_ackComes 15 rfl) 0 rfl ?_
      refine xr_getR (b := 550) 12 69 (xd dX12_ackComes 16 rfl) f12_187 (by decide) (by decide) (lt552 hn (by decide)) kd_491 rfl (r_491_69 hR) ?_
      refine xr_iload_n (xd dX12_ackComes 17 rfl) 3 rfl ?_
      obtain ⟨o28, h⟩ := h
      refine zr_iaload (xd dX12_ackComes 18 rfl) (lt552 hn (by decide)) kd_550 ln_550 (by decide) o28 ?_
      obtain ⟨x29, e_x29⟩ : ∃ z_ : Int, z_ = (J4 550 x3) := ⟨_, rfl⟩
      replace h := h x29 e_x29
      refine zr_nm e_x29 ?_
      refine xr_istore [(0, .ref 491), (1, .int (oI p1)), (2, .int (oI p2)), (3, .int (oI x3)), (4, .int (oI x29))] (xd dX12_ackComes 19 rfl) (by decide) rfl ?_
      refine xr_sipush (v := oI 256) (xd dX12_ackComes 20 rfl) (by decide) ?_
      refine xr_aload_n (xd dX12_ackComes 21 rfl) 0 rfl ?_
      refine xr_getR (b := 550) 12 69 (xd dX12_ackComes 22 rfl) f12_187 (by decide) (by decide) (lt552 hn (by decide)) kd_491 rfl (r_491_69 hR) ?_
      refine xr_iload_n (xd dX12_ackComes 23 rfl) 3 rfl ?_
      refine xr_iconst (v := oI 1) (xd dX12_ackComes 24 rfl) (by decide) ?_
      refine zr_iadd (xd dX12_ackComes 25 rfl) ?_
      obtain ⟨o30, h⟩ := h
      refine zr_iaload (xd dX12_ackComes 26 rfl) (lt552 hn (by decide)) kd_550 ln_550 (by decide) o30 ?_
      refine zr_imul (xd dX12_ackComes 27 rfl) ?_
      refine xr_aload_n (xd dX12_ackComes 28 rfl) 0 rfl ?_
      refine xr_getR (b := 550) 12 69 (xd dX12_ackComes 29 rfl) f12_187 (by decide) (by decide) (lt552 hn (by decide)) kd_491 rfl (r_491_69 hR) ?_
      refine xr_iload_n (xd dX12_ackComes 30 rfl) 3 rfl ?_
      refine xr_iconst (v := oI 2) (xd dX12_ackComes 31 rfl) (by decide) ?_
      refine zr_iadd (xd dX12_ackComes 32 rfl) ?_
      obtain ⟨o31, h⟩ := h
      refine zr_iaload (xd dX12_ackComes 33 rfl) (lt552 hn (by decide)) kd_550 ln_550 (by decide) o31 ?_
      refine zr_iadd (xd dX12_ackComes 34 rfl) ?_
      obtain ⟨x32, e_x32⟩ : ∃ z_ : Int, z_ = ((256 * (J4 550 (x3 + 1))) + (J4 550 (x3 + 2))) := ⟨_, rfl⟩
      replace h := h x32 e_x32
      refine zr_nm e_x32 ?_
      refine xr_istore [(0, .ref 491), (1, .int (oI p1)), (2, .int (oI p2)), (3, .int (oI x3)), (4, .int (oI x29)), (5, .int (oI x32))] (xd dX12_ackComes 35 rfl) (by decide) rfl ?_
      refine xr_iconst (v := oI 0) (xd dX12_ackComes 36 rfl) (by decide) ?_
      refine xr_istore [(0, .ref 491), (1, .int (oI p1)), (2, .int (oI p2)), (3, .int (oI x3)), (4, .int (oI x29)), (5, .int (oI x32)), (6, .int (oI 0))] (xd dX12_ackComes 37 rfl) (by decide) rfl ?_
      refine h (fun x34 J35 L36 => xJ (xGm b dC dI cA ts) l mX12_ackComes 0 0 (zQ0 n R Q) (fun _ _ => False) 0 0 59 [(0, .ref 491), (1, .int (oI p1)), (2, .int (oI p2)), (3, .int (oI x3)), (4, .int (oI x29)), (5, .int (oI x32)), (6, .int (oI x34))] [] al n R (zi J35) (li L36)) ?_
      intro x34 J35 L36 h
      show xJ _ _ _ _ _ _ _ _ _ 59 [(0, .ref 491), (1, .int (oI p1)), (2, .int (oI p2)), (3, .int (oI x3)), (4, .int (oI x29)), (5, .int (oI x32)), (6, .int (oI x34))] [] _ _ _ _ _
      refine xr_iload (xd dX12_ackComes 38 rfl) 6 rfl ?_
      refine xr_aload_n (xd dX12_ackComes 39 rfl) 0 rfl ?_
      refine xr_getR (b := 528) 12 46 (xd dX12_ackComes 40 rfl) f12_121 (by decide) (by decide) (lt552 hn (by decide)) kd_491 rfl (r_491_46 hR) ?_
      refine xr_iload_n (xd dX12_ackComes 41 rfl) 1 rfl ?_
      obtain ⟨o37, h⟩ := h
      refine zr_iaload (xd dX12_ackComes 42 rfl) (lt552 hn (by decide)) kd_528 ln_528 (by decide) o37 ?_
      replace h := h (fun (J38 : zM) (L39 : yM) => xJ (xGm b dC dI cA ts) l mX12_ackComes 0 0 (zQ0 n R Q) (fun _ _ => False) 0 0 190 [(0, .ref 491), (1, .int (oI p1)), (2, .int (oI p2)), (3, .int (oI x3))] [] al n R (zi J38) (li L39)) (by
        intro J38 L39 h
        show xJ _ _ _ _ _ _ _ _ _ 190 [(0, .ref 491), (1, .int (oI p1)), (2, .int (oI p2)), (3, .int (oI x3))] [] _ _ _ _ _
        refine zr_iinc [(0, .ref 491), (1, .int (oI p1)), (2, .int (oI p2)), (3, .int (oI (x3 + 3)))] (xd dX12_ackComes 113 rfl) 3 rfl (by decide) rfl ?_
        refine xr_goto 17 (xd dX12_ackComes 114 rfl) (by decide) ?_
        exact h)
      obtain ⟨o41, h⟩ := h
      obtain ⟨o42, h⟩ := h
      refine zr_icmp_ge 190 (xd dX12_ackComes 43 rfl) (by decide) o41 o42 (fun c43 => ?_) (fun c43 => ?_)
      · replace h := ifn h c43
        refine xJ.pick (ls' := [(0, .ref 491), (1, .int (oI p1)), (2, .int (oI p2)), (3, .int (oI x3))]) [0, 1, 2, 3] rfl ?_
        exact h
      · replace h := ifp h c43
        refine xr_iload (xd dX12_ackComes 44 rfl) 4 rfl ?_
        refine xr_iload_n (xd dX12_ackComes 45 rfl) 2 rfl ?_
        obtain ⟨o44, h⟩ := h
        obtain ⟨o45, h⟩ := h
        refine zr_icmp_gt 190 (xd dX12_ackComes 46 rfl) (by decide) o44 o45 (fun c46 => ?_) (fun c46 => ?_)
        · replace h := ifp h c46
          refine xJ.pick (ls' := [(0, .ref 491), (1, .int (oI p1)), (2, .int (oI p2)), (3, .int (oI x3))]) [0, 1, 2, 3] rfl ?_
          exact h
        · replace h := ifn h c46
          refine xr_aload_n (xd dX12_ackComes 47 rfl) 0 rfl ?_
          refine xr_getR (b := 522) 12 40 (xd dX12_ackComes 48 rfl) f12_103 (by decide) (by decide) (lt552 hn (by decide)) kd_491 rfl (r_491_40 hR) ?_
          refine xr_iload_n (xd dX12_ackComes 49 rfl) 1 rfl ?_
          obtain ⟨o47, h⟩ := h
          refine zr_zaload (xd dX12_ackComes 50 rfl) (lt552 hn (by decide)) kd_522 ln_522 (by decide) o47 ?_
          obtain ⟨o48, h⟩ := h
          refine zr_if_ne 190 (xd dX12_ackComes 51 rfl) (by decide) o48 (fun c49 => ?_) (fun c49 => ?_)
          · replace h := ifn h c49
            refine xJ.pick (ls' := [(0, .ref 491), (1, .int (oI p1)), (2, .int (oI p2)), (3, .int (oI x3))]) [0, 1, 2, 3] rfl ?_
            exact h
          · replace h := ifp h c49
            refine xr_sipush (v := oI 10000) (xd dX12_ackComes 52 rfl) (by decide) ?_
            refine xr_iload_n (xd dX12_ackComes 53 rfl) 1 rfl ?_
            refine zr_imul (xd dX12_ackComes 54 rfl) ?_
            refine xr_iconst (v := oI 5) (xd dX12_ackComes 55 rfl) (by decide) ?_
            refine xr_iload (xd dX12_ackComes 56 rfl) 6 rfl ?_
            refine zr_imul (xd dX12_ackComes 57 rfl) ?_
            refine zr_iadd (xd dX12_ackComes 58 rfl) ?_
            obtain ⟨x50, e_x50⟩ : ∃ z_ : Int, z_ = ((10000 * p1) + (5 * x34)) := ⟨_, rfl⟩
            replace h := h x50 e_x50
            refine zr_nm e_x50 ?_
            refine xr_istore [(0, .ref 491), (1, .int (oI p1)), (2, .int (oI p2)), (3, .int (oI x3)), (4, .int (oI x29)), (5, .int (oI x32)), (6, .int (oI x34)), (7, .int (oI x50))] (xd dX12_ackComes 59 rfl) (by decide) rfl ?_
            refine xr_aload_n (xd dX12_ackComes 60 rfl) 0 rfl ?_
            refine xr_getR (b := 529) 12 47 (xd dX12_ackComes 61 rfl) f12_124 (by decide) (by decide) (lt552 hn (by decide)) kd_491 rfl (r_491_47 hR) ?_
            refine xr_iload (xd dX12_ackComes 62 rfl) 7 rfl ?_
            obtain ⟨o51, h⟩ := h
            refine zr_iaload (xd dX12_ackComes 63 rfl) (lt552 hn (by decide)) kd_529 ln_529 (by decide) o51 ?_
            refine xr_iload (xd dX12_ackComes 64 rfl) 4 rfl ?_
            replace h := h (fun (J52 : zM) (L53 : yM) => xJ (xGm b dC dI cA ts) l mX12_ackComes 0 0 (zQ0 n R Q) (fun _ _ => False) 0 0 184 [(0, .ref 491), (1, .int (oI p1)), (2, .int (oI p2)), (3, .int (oI x3)), (4, .int (oI x29)), (5, .int (oI x32)), (6, .int (oI x34))] [] al n R (zi J52) (li L53)) (by
              intro J52 L53 h
              show xJ _ _ _ _ _ _ _ _ _ 184 [(0, .ref 491), (1, .int (oI p1)), (2, .int (oI p2)), (3, .int (oI x3)), (4, .int (oI x29)), (5, .int (oI x32)), (6, .int (oI x34))] [] _ _ _ _ _
              refine zr_iinc [(0, .ref 491), (1, .int (oI p1)), (2, .int (oI p2)), (3, .int (oI x3)), (4, .int (oI x29)), (5, .int (oI x32)), (6, .int (oI (x34 + 1)))] (xd dX12_ackComes 111 rfl) 6 rfl (by decide) rfl ?_
              refine xr_goto 59 (xd dX12_ackComes 112 rfl) (by decide) ?_
              exact h)
            obtain ⟨o55, h⟩ := h
            refine zr_icmp_ne 184 (xd dX12_ackComes 65 rfl) (by decide) o55 o44 (fun c56 => ?_) (fun c56 => ?_)
            · replace h := ifn h c56
              refine xJ.pick (ls' := [(0, .ref 491), (1, .int (oI p1)), (2, .int (oI p2)), (3, .int (oI x3)), (4, .int (oI x29)), (5, .int (oI x32)), (6, .int (oI x34))]) [0, 1, 2, 3, 4, 5, 6] rfl ?_
              exact h
            · replace h := ifp h c56
              refine xr_aload_n (xd dX12_ackComes 66 rfl) 0 rfl ?_
              refine xr_getR (b := 529) 12 47 (xd dX12_ackComes 67 rfl) f12_124 (by decide) (by decide) (lt552 hn (by decide)) kd_491 rfl (r_491_47 hR) ?_
              refine xr_iload (xd dX12_ackComes 68 rfl) 7 rfl ?_
              refine xr_iconst (v := oI 1) (xd dX12_ackComes 69 rfl) (by decide) ?_
              refine zr_iadd (xd dX12_ackComes 70 rfl) ?_
              obtain ⟨o57, h⟩ := h
              refine zr_iaload (xd dX12_ackComes 71 rfl) (lt552 hn (by decide)) kd_529 ln_529 (by decide) o57 ?_
              refine xr_iload (xd dX12_ackComes 72 rfl) 5 rfl ?_
              obtain ⟨o58, h⟩ := h
              obtain ⟨o59, h⟩ := h
              refine zr_icmp_ne 184 (xd dX12_ackComes 73 rfl) (by decide) o58 o59 (fun c60 => ?_) (fun c60 => ?_)
              · replace h := ifn h c60
                refine xJ.pick (ls' := [(0, .ref 491), (1, .int (oI p1)), (2, .int (oI p2)), (3, .int (oI x3)), (4, .int (oI x29)), (5, .int (oI x32)), (6, .int (oI x34))]) [0, 1, 2, 3, 4, 5, 6] rfl ?_
                exact h
              · replace h := ifp h c60
                refine xr_iconst (v := oI 0) (xd dX12_ackComes 74 rfl) (by decide) ?_
                refine xr_istore [(0, .ref 491), (1, .int (oI p1)), (2, .int (oI p2)), (3, .int (oI x3)), (4, .int (oI x29)), (5, .int (oI x32)), (6, .int (oI x34)), (7, .int (oI x50)), (8, .int (oI 0))] (xd dX12_ackComes 75 rfl) (by decide) rfl ?_
                refine h (fun x62 J63 L64 => xJ (xGm b dC dI cA ts) l mX12_ackComes 0 0 (zQ0 n R Q) (fun _ _ => False) 0 0 126 [(0, .ref 491), (1, .int (oI p1)), (2, .int (oI p2)), (3, .int (oI x3)), (4, .int (oI x29)), (5, .int (oI x32)), (6, .int (oI x34)), (7, .int (oI x50)), (8, .int (oI x62))] [] al n R (zi J63) (li L64)) ?_
                intro x62 J63 L64 h
                show xJ _ _ _ _ _ _ _ _ _ 126 [(0, .ref 491), (1, .int (oI p1)), (2, .int (oI p2)), (3, .int (oI x3)), (4, .int (oI x29)), (5, .int (oI x32)), (6, .int (oI x34)), (7, .int (oI x50)), (8, .int (oI x62))] [] _ _ _ _ _
                refine xr_iload (xd dX12_ackComes 76 rfl) 8 rfl ?_
                refine xr_aload_n (xd dX12_ackComes 77 rfl) 0 rfl ?_
                refine xr_getR (b := 529) 12 47 (xd dX12_ackComes 78 rfl) f12_124 (by decide) (by decide) (lt552 hn (by decide)) kd_491 rfl (r_491_47 hR) ?_
                refine xr_iload (xd dX12_ackComes 79 rfl) 7 rfl ?_
                refine xr_iconst (v := oI 4) (xd dX12_ackComes 80 rfl) (by decide) ?_
                refine zr_iadd (xd dX12_ackComes 81 rfl) ?_
                obtain ⟨o65, h⟩ := h
                refine zr_iaload (xd dX12_ackComes 82 rfl) (lt552 hn (by decide)) kd_529 ln_529 (by decide) o65 ?_
                obtain ⟨o66, h⟩ := h
                obtain ⟨o67, h⟩ := h
                refine zr_icmp_ge 184 (xd dX12_ackComes 83 rfl) (by decide) o66 o67 (fun c68 => ?_) (fun c68 => ?_)
                · replace h := ifn h c68
                  refine xJ.pick (ls' := [(0, .ref 491), (1, .int (oI p1)), (2, .int (oI p2)), (3, .int (oI x3)), (4, .int (oI x29)), (5, .int (oI x32)), (6, .int (oI x34))]) [0, 1, 2, 3, 4, 5, 6] rfl ?_
                  exact h
                · replace h := ifp h c68
                  refine xr_aload_n (xd dX12_ackComes 84 rfl) 0 rfl ?_
                  refine xr_getR (b := 521) 12 39 (xd dX12_ackComes 85 rfl) f12_100 (by decide) (by decide) (lt552 hn (by decide)) kd_491 rfl (r_491_39 hR) ?_
                  refine xr_sipush (v := oI 600) (xd dX12_ackComes 86 rfl) (by decide) ?_
                  refine xr_iload_n (xd dX12_ackComes 87 rfl) 1 rfl ?_
                  refine zr_imul (xd dX12_ackComes 88 rfl) ?_
                  refine xr_sipush (v := oI 200) (xd dX12_ackComes 89 rfl) (by decide) ?_
                  refine xr_aload_n (xd dX12_ackComes 90 rfl) 0 rfl ?_
                  refine xr_getR (b := 529) 12 47 (xd dX12_ackComes 91 rfl) f12_124 (by decide) (by decide) (lt552 hn (by decide)) kd_491 rfl (r_491_47 hR) ?_
                  refine xr_iload (xd dX12_ackComes 92 rfl) 7 rfl ?_
                  refine xr_iconst (v := oI 2) (xd dX12_ackComes 93 rfl) (by decide) ?_
                  refine zr_iadd (xd dX12_ackComes 94 rfl) ?_
                  obtain ⟨o69, h⟩ := h
                  refine zr_iaload (xd dX12_ackComes 95 rfl) (lt552 hn (by decide)) kd_529 ln_529 (by decide) o69 ?_
                  refine zr_imul (xd dX12_ackComes 96 rfl) ?_
                  refine zr_iadd (xd dX12_ackComes 97 rfl) ?_
                  refine xr_aload_n (xd dX12_ackComes 98 rfl) 0 rfl ?_
                  refine xr_getR (b := 529) 12 47 (xd dX12_ackComes 99 rfl) f12_124 (by decide) (by decide) (lt552 hn (by decide)) kd_491 rfl (r_491_47 hR) ?_
                  refine xr_iload (xd dX12_ackComes 100 rfl) 7 rfl ?_
                  refine xr_iconst (v := oI 3) (xd dX12_ackComes 101 rfl) (by decide) ?_
                  refine zr_iadd (xd dX12_ackComes 102 rfl) ?_
                  obtain ⟨o70, h⟩ := h
                  refine zr_iaload (xd dX12_ackComes 103 rfl) (lt552 hn (by decide)) kd_529 ln_529 (by decide) o70 ?_
                  refine zr_iadd (xd dX12_ackComes 104 rfl) ?_
                  refine xr_iload (xd dX12_ackComes 105 rfl) 8 rfl ?_
                  refine zr_iadd (xd dX12_ackComes 106 rfl) ?_
                  refine xr_iconst (v := oI 1) (xd dX12_ackComes 107 rfl) (by decide) ?_
                  obtain ⟨o71, h⟩ := h
                  obtain ⟨J72, e_J72⟩ : ∃ z_ : zM, z_ = zs J63 521 ((((600 * p1) + (200 * (J63 529 (x50 + 2)))) + (J63 529 (x50 + 3))) + x62) 1 := ⟨_, rfl⟩
                  replace h := h J72 e_J72
                  refine zr_zastore (Or.inr rfl) e_J72 (xd dX12_ackComes 108 rfl) (lt552 hn (by decide)) kd_521 ln_521 (by decide) o71 ?_
                  refine zr_iinc [(0, .ref 491), (1, .int (oI p1)), (2, .int (oI p2)), (3, .int (oI x3)), (4, .int (oI x29)), (5, .int (oI x32)), (6, .int (oI x34)), (7, .int (oI x50)), (8, .int (oI (x62 + 1)))] (xd dX12_ackComes 109 rfl) 8 rfl (by decide) rfl ?_
                  refine xr_goto 126 (xd dX12_ackComes 110 rfl) (by decide) ?_
                  exact h
  · replace h := ifn h c1
    refine xr_aload_n (xd dX12_ackComes 5 rfl) 0 rfl ?_
    refine xr_iload_n (xd dX12_ackComes 6 rfl) 1 rfl ?_
    refine xr_callV mX12_malformed 1 [.int (oI p1)] (xd dX12_ackComes 7 rfl) l12_484 kX12_malformed rfl (lt552 hn (by decide)) kd_491 (by decide) rfl (by decide) (Nat.le_of_ble_eq_true rfl) (v_X12_malformed hn hR  h) (by decide) (by decide) (fun r_ M_ h_ => ?_) (fun _ _ h_ => h_.elim)
    obtain ⟨J73, L74, rfl, rfl, h⟩ := h_
    show xJ _ _ _ _ _ _ _ _ _ 14 [(0, .ref 491), (1, .int (oI p1)), (2, .int (oI p2))] [] _ _ _ (zi J73) (li L74)
    exact xr_vret (xd dX12_ackComes 8 rfl) rfl (by decide) (by decide) (fun _ => rfl) ⟨_, _, rfl, rfl, h⟩
