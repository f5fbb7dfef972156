def w_X12_thrown  (J : zM) (L : yM) (Q : Int → zM → yM → Prop) : Prop := Q (J 491 0) J L
set_option maxHeartbeats 4000000 in
set_option maxRecDepth 100000 in
theorem v_X12_thrown {b : Nat} {dC : Nat → ClassId} {dI : Nat → Nat → Nat} {cA : Nat → ClassId} {ts : Nat → Nat} {l : Launch} {n : Nat} {R : Nat → Nat → Option Nat} {al : Bool} (hn : 552 ≤ n) (hR : xRk R)   {J : zM} {L : yM} {Q : Int → zM → yM → Prop} (h : w_X12_thrown  J L Q) : xCn (xGm b dC dI cA ts) l mX12_thrown [.ref 491] al (n, R, zi J, li L) 0 0 (zQ1 n R Q) (fun _ _ => False) := by
  refine xCn.ofJ (by decide) (Nat.le_of_ble_eq_true rfl) ?_
  show xJ _ _ _ _ _ _ _ _ _ 0 [(0, .ref 491)] [] _ _ _ _ _
  unfold w_X12_thrown at h
  refine xr_aload_n (xd dX12_thrown 0 rfl) 0 rfl ?_
  refine zr_getI 12 0 0 rfl (xd dX12_thrown 1 rfl) f12_200 (by decide) (by decide) (lt552 hn (by decide)) kd_491 rfl ?_
  exact xr_iret (xd dX12_thrown 2 rfl) rfl (by decide) (by decide) (fun _ => rfl) ⟨_, _, _, rfl, rfl, h⟩
def w_X12_add (p1 : Int) (J : zM) (L : yM) (Q : zM → yM → Prop) : Prop := ((0 : Int) ≤ (J 491 13) ∧ (J 491 13) < 1400) ∧ ∀ J2 : zM, J2 = zs J 497 (J 491 13) (zand p1 255) → ∀ J3 : zM, J3 = zs J2 491 13 ((J2 491 13) + 1) → Q J3 L
set_option maxHeartbeats 4000000 in
set_option maxRecDepth 100000 in
theorem v_X12_add {b : Nat} {dC : Nat → ClassId} {dI : Nat → Nat → Nat} {cA : Nat → ClassId} {ts : Nat → Nat} {l : Launch} {n : Nat} {R : Nat → Nat → Option Nat} {al : Bool} (hn : 552 ≤ n) (hR : xRk R) {p1 : Int}  {J : zM} {L : yM} {Q : zM → yM → Prop} (h : w_X12_add p1 J L Q) : xCn (xGm b dC dI cA ts) l mX12_add [.ref 491, .int (oI p1)] al (n, R, zi J, li L) 0 0 (zQ0 n R Q) (fun _ _ => False) := by
  refine xCn.ofJ (by decide) (Nat.le_of_ble_eq_true rfl) ?_
  show xJ _ _ _ _ _ _ _ _ _ 0 [(0, .ref 491), (1, .int (oI p1))] [] _ _ _ _ _
  unfold w_X12_add at h
  refine xr_aload_n (xd dX12_add 0 rfl) 0 rfl ?_
  refine xr_getR (b := 497) 12 12 (xd dX12_add 1 rfl) f12_25 (by decide) (by decide) (lt552 hn (by decide)) kd_491 rfl (r_491_12 hR) ?_
  refine xr_aload_n (xd dX12_add 2 rfl) 0 rfl ?_
  refine zr_getI 12 13 13 rfl (xd dX12_add 3 rfl) f12_229 (by decide) (by decide) (lt552 hn (by decide)) kd_491 rfl ?_
  refine xr_iload_n (xd dX12_add 4 rfl) 1 rfl ?_
  refine xr_sipush (v := oI 255) (xd dX12_add 5 rfl) (by decide) ?_
  refine zr_iand (xd dX12_add 6 rfl) ?_
  obtain ⟨o1, h⟩ := h
  obtain ⟨J2, e_J2⟩ : ∃ z_ : zM, z_ = zs J 497 (J 491 13) (zand p1 255) := ⟨_, rfl⟩
  replace h := h J2 e_J2
  refine zr_iastore e_J2 (xd dX12_add 7 rfl) (lt552 hn (by decide)) kd_497 ln_497 (by decide) o1 ?_
  refine xr_aload_n (xd dX12_add 8 rfl) 0 rfl ?_
  refine xr_dup (xd dX12_add 9 rfl) rfl ?_
  refine zr_getI 12 13 13 rfl (xd dX12_add 10 rfl) f12_229 (by decide) (by decide) (lt552 hn (by decide)) kd_491 rfl ?_
  refine xr_iconst (v := oI 1) (xd dX12_add 11 rfl) (by decide) ?_
  refine zr_iadd (xd dX12_add 12 rfl) ?_
  obtain ⟨J3, e_J3⟩ : ∃ z_ : zM, z_ = zs J2 491 13 ((J2 491 13) + 1) := ⟨_, rfl⟩
  replace h := h J3 e_J3
  refine zr_putI 12 13 13 rfl e_J3 (xd dX12_add 13 rfl) f12_229 (by decide) (by decide) (lt552 hn (by decide)) kd_491 (Or.inl rfl) rfl rfl (fun _ => rfl) ?_
  exact xr_vret (xd dX12_add 14 rfl) rfl (by decide) (by decide) (fun _ => rfl) ⟨_, _, rfl, rfl, h⟩
def w_X12_addNumber (p1 : Int) (p2 : Int64) (J : zM) (L : yM) (Q : zM → yM → Prop) : Prop := ∀ x1 : Int, x1 = (p1 - 1) → zl_z (fun K2 x3 J4 L5 => R32 x3 ∧ (if x3 < 0 then Q J4 L5 else w_X12_add (zl2i ((yshr p2 (8 * x3)) &&& 255)) J4 L5 (fun J8 L9 => K2 (x3 + (-1)) J8 L9))) x1 J L
set_option maxHeartbeats 4000000 in
set_option maxRecDepth 100000 in
theorem v_X12_addNumber {b : Nat} {dC : Nat → ClassId} {dI : Nat → Nat → Nat} {cA : Nat → ClassId} {ts : Nat → Nat} {l : Launch} {n : Nat} {R : Nat → Nat → Option Nat} {al : Bool} (hn : 552 ≤ n) (hR : xRk R) {p1 : Int} {p2 : Int64}  {J : zM} {L : yM} {Q : zM → yM → Prop} (h : w_X12_addNumber p1 p2 J L Q) : xCn (xGm b dC dI cA ts) l mX12_addNumber [.ref 491, .int (oI p1), .long p2] al (n, R, zi J, li L) 0 0 (zQ0 n R Q) (fun _ _ => False) := by
  refine xCn.ofJ (by decide) (Nat.le_of_ble_eq_true rfl) ?_
  show xJ _ _ _ _ _ _ _ _ _ 0 [(0, .ref 491), (1, .int (oI p1)), (2, .long p2)] [] _ _ _ _ _
  unfold w_X12_addNumber at h
  refine xr_iload_n (xd dX12_addNumber 0 rfl) 1 rfl ?_
  refine xr_iconst (v := oI 1) (xd dX12_addNumber 1 rfl) (by decide) ?_
  refine zr_isub (xd dX12_addNumber 2 rfl) ?_
  obtain ⟨x1, e_x1⟩ : ∃ z_ : Int, z_ = (p1 - 1) := ⟨_, rfl⟩
  replace h := h x1 e_x1
  refine zr_nm e_x1 ?_
  refine xr_istore [(0, .ref 491), (1, .int (oI p1)), (2, .long p2), (4, .int (oI x1))] (xd dX12_addNumber 3 rfl) (by decide) rfl ?_
  refine xJ.pick (ls' := [(0, .ref 491), (2, .long p2), (4, .int (oI x1))]) [0, 2, 3] rfl ?_
  refine h (fun x3 J4 L5 => xJ (xGm b dC dI cA ts) l mX12_addNumber 0 0 (zQ0 n R Q) (fun _ _ => False) 0 0 5 [(0, .ref 491), (2, .long p2), (4, .int (oI x3))] [] al n R (zi J4) (li L5)) ?_
  intro x3 J4 L5 h
  show xJ _ _ _ _ _ _ _ _ _ 5 [(0, .ref 491), (2, .long p2), (4, .int (oI x3))] [] _ _ _ _ _
  refine xr_iload (xd dX12_addNumber 4 rfl) 2 rfl ?_
  obtain ⟨o6, h⟩ := h
  refine zr_if_lt 32 (xd dX12_addNumber 5 rfl) (by decide) o6 (fun c7 => ?_) (fun c7 => ?_)
  · replace h := ifp h c7
    exact xr_vret (xd dX12_addNumber 18 rfl) rfl (by decide) (by decide) (fun _ => rfl) ⟨_, _, rfl, rfl, h⟩
  · replace h := ifn h c7
    refine xr_aload_n (xd dX12_addNumber 6 rfl) 0 rfl ?_
    refine xr_lload_n (xd dX12_addNumber 7 rfl) 1 rfl ?_
    refine xr_bipush (v := oI 8) (xd dX12_addNumber 8 rfl) (by decide) ?_
    refine xr_iload (xd dX12_addNumber 9 rfl) 2 rfl ?_
    refine zr_imul (xd dX12_addNumber 10 rfl) ?_
    refine zr_lshr (xd dX12_addNumber 11 rfl) ?_
    refine xr_ldc2_w (v := 255) (xd dX12_addNumber 12 rfl) q12_236 ?_
    refine xr_land (xd dX12_addNumber 13 rfl) ?_
    refine zr_l2i (xd dX12_addNumber 14 rfl) ?_
    refine xr_callV mX12_add 1 [.int (oI (zl2i ((yshr p2 (8 * x3)) &&& 255)))] (xd dX12_addNumber 15 rfl) l12_238 kX12_add rfl (lt552 hn (by decide)) kd_491 (by decide) rfl (by decide) (Nat.le_of_ble_eq_true rfl) (v_X12_add hn hR  h) (by decide) (by decide) (fun r_ M_ h_ => ?_) (fun _ _ h_ => h_.elim)
    obtain ⟨J8, L9, rfl, rfl, h⟩ := h_
    show xJ _ _ _ _ _ _ _ _ _ 26 [(0, .ref 491), (2, .long p2), (4, .int (oI x3))] [] _ _ _ (zi J8) (li L9)
    refine zr_iinc [(0, .ref 491), (2, .long p2), (4, .int (oI (x3 + (-1))))] (xd dX12_addNumber 16 rfl) 2 rfl (by decide) rfl ?_
    refine xr_goto 5 (xd dX12_addNumber 17 rfl) (by decide) ?_
    exact h
def w_X12_addOwn (p1 : Int) (p2 : Int) (J : zM) (L : yM) (Q : zM → yM → Prop) : Prop := zl_z (fun K1 x2 J3 L4 => R32 x2 ∧ R32 p2 ∧ (if x2 < p2 then ((0 : Int) ≤ (p1 + x2) ∧ (p1 + x2) < 2048) ∧ w_X12_add (J3 492 (p1 + x2)) J3 L4 (fun J9 L10 => K1 (x2 + 1) J9 L10) else Q J3 L4)) 0 J L
set_option maxHeartbeats 4000000 in
set_option maxRecDepth 100000 in
theorem v_X12_addOwn {b : Nat} {dC : Nat → ClassId} {dI : Nat → Nat → Nat} {cA : Nat → ClassId} {ts : Nat → Nat} {l : Launch} {n : Nat} {R : Nat → Nat → Option Nat} {al : Bool} (hn : 552 ≤ n) (hR : xRk R) {p1 : Int} {p2 : Int}  {J : zM} {L : yM} {Q : zM → yM → Prop} (h : w_X12_addOwn p1 p2 J L Q) : xCn (xGm b dC dI cA ts) l mX12_addOwn [.ref 491, .int (oI p1), .int (oI p2)] al (n, R, zi J, li L) 0 0 (zQ0 n R Q) (fun _ _ => False) := by
  refine xCn.ofJ (by decide) (Nat.le_of_ble_eq_true rfl) ?_
  show xJ _ _ _ _ _ _ _ _ _ 0 [(0, .ref 491), (1, .int (oI p1)), (2, .int (oI p2))] [] _ _ _ _ _
  unfold w_X12_addOwn at h
  refine xr_iconst (v := oI 0) (xd dX12_addOwn 0 rfl) (by decide) ?_
  refine xr_istore_n [(0, .ref 491), (1, .int (oI p1)), (2, .int (oI p2)), (3, .int (oI 0))] (xd dX12_addOwn 1 rfl) rfl (by decide) rfl ?_
  refine h (fun x2 J3 L4 => xJ (xGm b dC dI cA ts) l mX12_addOwn 0 0 (zQ0 n R Q) (fun _ _ => False) 0 0 2 [(0, .ref 491), (1, .int (oI p1)), (2, .int (oI p2)), (3, .int (oI x2))] [] al n R (zi J3) (li L4)) ?_
  intro x2 J3 L4 h
  show xJ _ _ _ _ _ _ _ _ _ 2 [(0, .ref 491), (1, .int (oI p1)), (2, .int (oI p2)), (3, .int (oI x2))] [] _ _ _ _ _
  refine xr_iload_n (xd dX12_addOwn 2 rfl) 3 rfl ?_
  refine xr_iload_n (xd dX12_addOwn 3 rfl) 2 rfl ?_
  obtain ⟨o5, h⟩ := h
  obtain ⟨o6, h⟩ := h
  refine zr_icmp_ge 25 (xd dX12_addOwn 4 rfl) (by decide) o5 o6 (fun c7 => ?_) (fun c7 => ?_)
  · replace h := ifn h c7
    exact xr_vret (xd dX12_addOwn 15 rfl) rfl (by decide) (by decide) (fun _ => rfl) ⟨_, _, rfl, rfl, h⟩
  · replace h := ifp h c7
    refine xr_aload_n (xd dX12_addOwn 5 rfl) 0 rfl ?_
    refine xr_aload_n (xd dX12_addOwn 6 rfl) 0 rfl ?_
    refine xr_getR (b := 492) 12 5 (xd dX12_addOwn 7 rfl) f12_7 (by decide) (by decide) (lt552 hn (by decide)) kd_491 rfl (r_491_5 hR) ?_
    refine xr_iload_n (xd dX12_addOwn 8 rfl) 1 rfl ?_
    refine xr_iload_n (xd dX12_addOwn 9 rfl) 3 rfl ?_
    refine zr_iadd (xd dX12_addOwn 10 rfl) ?_
    obtain ⟨o8, h⟩ := h
    refine zr_iaload (xd dX12_addOwn 11 rfl) (lt552 hn (by decide)) kd_492 ln_492 (by decide) o8 ?_
    refine xr_callV mX12_add 1 [.int (oI (J3 492 (p1 + x2)))] (xd dX12_addOwn 12 rfl) l12_238 kX12_add rfl (lt552 hn (by decide)) kd_491 (by decide) rfl (by decide) (Nat.le_of_ble_eq_true rfl) (v_X12_add hn hR  h) (by decide) (by decide) (fun r_ M_ h_ => ?_) (fun _ _ h_ => h_.elim)
    obtain ⟨J9, L10, rfl, rfl, h⟩ := h_
    show xJ _ _ _ _ _ _ _ _ _ 19 [(0, .ref 491), (1, .int (oI p1)), (2, .int (oI p2)), (3, .int (oI x2))] [] _ _ _ (zi J9) (li L10)
    refine zr_iinc [(0, .ref 491), (1, .int (oI p1)), (2, .int (oI p2)), (3, .int (oI (x2 + 1)))] (xd dX12_addOwn 13 rfl) 3 rfl (by decide) rfl ?_
    refine xr_goto 2 (xd dX12_addOwn 14 rfl) (by decide) ?_
    exact h
def w_X12_addDigest  (J : zM) (L : yM) (Q : zM → yM → Prop) : Prop := zl_z (fun K1 x2 J3 L4 => R32 x2 ∧ (if x2 < 32 then ((0 : Int) ≤ x2 ∧ x2 < 32) ∧ w_X12_add (J3 500 x2) J3 L4 (fun J8 L9 => K1 (x2 + 1) J8 L9) else Q J3 L4)) 0 J L
set_option maxHeartbeats 4000000 in
set_option maxRecDepth 100000 in
theorem v_X12_addDigest {b : Nat} {dC : Nat → ClassId} {dI : Nat → Nat → Nat} {cA : Nat → ClassId} {ts : Nat → Nat} {l : Launch} {n : Nat} {R : Nat → Nat → Option Nat} {al : Bool} (hn : 552 ≤ n) (hR : xRk R)   {J : zM} {L : yM} {Q : zM → yM → Prop} (h : w_X12_addDigest  J L Q) : xCn (xGm b dC dI cA ts) l mX12_addDigest [.ref 491] al (n, R, zi J, li L) 0 0 (zQ0 n R Q) (fun _ _ => False) := by
  refine xCn.ofJ (by decide) (Nat.le_of_ble_eq_true rfl) ?_
  show xJ _ _ _ _ _ _ _ _ _ 0 [(0, .ref 491)] [] _ _ _ _ _
  unfold w_X12_addDigest at h
  refine xr_iconst (v := oI 0) (xd dX12_addDigest 0 rfl) (by decide) ?_
  refine xr_istore_n [(0, .ref 491), (1, .int (oI 0))] (xd dX12_addDigest 1 rfl) rfl (by decide) rfl ?_
  refine h (fun x2 J3 L4 => xJ (xGm b dC dI cA ts) l mX12_addDigest 0 0 (zQ0 n R Q) (fun _ _ => False) 0 0 2 [(0, .ref 491), (1, .int (oI x2))] [] al n R (zi J3) (li L4)) ?_
  intro x2 J3 L4 h
  show xJ _ _ _ _ _ _ _ _ _ 2 [(0, .ref 491), (1, .int (oI x2))] [] _ _ _ _ _
  refine xr_iload_n (xd dX12_addDigest 2 rfl) 1 rfl ?_
  refine xr_bipush (v := oI 32) (xd dX12_addDigest 3 rfl) (by decide) ?_
  obtain ⟨o5, h⟩ := h
  refine zr_icmp_ge 24 (xd dX12_addDigest 4 rfl) (by decide) o5 (by decide) (fun c6 => ?_) (fun c6 => ?_)
  · replace h := ifn h c6
    exact xr_vret (xd dX12_addDigest 13 rfl) rfl (by decide) (by decide) (fun _ => rfl) ⟨_, _, rfl, rfl, h⟩
  · replace h := ifp h c6
    refine xr_aload_n (xd dX12_addDigest 5 rfl) 0 rfl ?_
    refine xr_aload_n (xd dX12_addDigest 6 rfl) 0 rfl ?_
    refine xr_getR (b := 500) 12 16 (xd dX12_addDigest 7 rfl) f12_34 (by decide) (by decide) (lt552 hn (by decide)) kd_491 rfl (r_491_16 hR) ?_
    refine xr_iload_n (xd dX12_addDigest 8 rfl) 1 rfl ?_
    obtain ⟨o7, h⟩ := h
    refine zr_iaload (xd dX12_addDigest 9 rfl) (lt552 hn (by decide)) kd_500 ln_500 (by decide) o7 ?_
    refine xr_callV mX12_add 1 [.int (oI (J3 500 x2))] (xd dX12_addDigest 10 rfl) l12_238 kX12_add rfl (lt552 hn (by decide)) kd_491 (by decide) rfl (by decide) (Nat.le_of_ble_eq_true rfl) (v_X12_add hn hR  h) (by decide) (by decide) (fun r_ M_ h_ => ?_) (fun _ _ h_ => h_.elim)
    obtain ⟨J8, L9, rfl, rfl, h⟩ := h_
    show xJ _ _ _ _ _ _ _ _ _ 18 [(0, .ref 491), (1, .int (oI x2))] [] _ _ _ (zi J8) (li L9)
    refine zr_iinc [(0, .ref 491), (1, .int (oI (x2 + 1)))] (xd dX12_addDigest 11 rfl) 1 rfl (by decide) rfl ?_
    refine xr_goto 2 (xd dX12_addDigest 12 rfl) (by decide) ?_
    exact h
def w_X12_beginCode  (J : zM) (L : yM) (Q : zM → yM → Prop) : Prop := ∀ J1 : zM, J1 = zs J 491 13 64 → Q J1 L
set_option maxHeartbeats 4000000 in
set_option maxRecDepth 100000 in
theorem v_X12_beginCode {b : Nat} {dC : Nat → ClassId} {dI : Nat → Nat → Nat} {cA : Nat → ClassId} {ts : Nat → Nat} {l : Launch} {n : Nat} {R : Nat → Nat → Option Nat} {al : Bool} (hn : 552 ≤ n) (hR : xRk R)   {J : zM} {L : yM} {Q : zM → yM → Prop} (h : w_X12_beginCode  J L Q) : xCn (xGm b dC dI cA ts) l mX12_beginCode [.ref 491] al (n, R, zi J, li L) 0 0 (zQ0 n R Q) (fun _ _ => False) := by
  refine xCn.ofJ (by decide) (Nat.le_of_ble_eq_true rfl) ?_
  show xJ _ _ _ _ _ _ _ _ _ 0 [(0, .ref 491)] [] _ _ _ _ _
  unfold w_X12_beginCode at h
  refine xr_aload_n (xd dX12_beginCode 0 rfl) 0 rfl ?_
  refine xr_bipush (v := oI 64) (xd dX12_beginCode 1 rfl) (by decide) ?_
  obtain ⟨J1, e_J1⟩ : ∃ z_ : zM, z_ = zs J 491 13 64 := ⟨_, rfl⟩
  replace h := h J1 e_J1
  refine zr_putI 12 13 13 rfl e_J1 (xd dX12_beginCode 2 rfl) f12_229 (by decide) (by decide) (lt552 hn (by decide)) kd_491 (Or.inl rfl) rfl rfl (fun _ => rfl) ?_
  exact xr_vret (xd dX12_beginCode 3 rfl) rfl (by decide) (by decide) (fun _ => rfl) ⟨_, _, rfl, rfl, h⟩
def w_X12_keyOwn (p1 : Int) (p2 : Int) (J : zM) (L : yM) (Q : zM → yM → Prop) : Prop := zl_z (fun K1 x2 J3 L4 => R32 x2 ∧ (if x2 < 64 then ∀ K10 : Int → zM → yM → Prop, (∀ (x7 : Int) (J8 : zM) (L9 : yM), (((0 : Int) ≤ x2 ∧ x2 < 64) ∧ ∀ J12 : zM, J12 = zs J8 501 x2 x7 → K1 (x2 + 1) J12 L9) → K10 x7 J8 L9) → R32 p2 ∧ (if x2 < p2 then ((0 : Int) ≤ (p1 + x2) ∧ (p1 + x2) < 2048) ∧ K10 (J3 492 (p1 + x2)) J3 L4 else K10 0 J3 L4) else Q J3 L4)) 0 J L
set_option maxHeartbeats 4000000 in
set_option maxRecDepth 100000 in
theorem v_X12_keyOwn {b : Nat} {dC : Nat → ClassId} {dI : Nat → Nat → Nat} {cA : Nat → ClassId} {ts : Nat → Nat} {l : Launch} {n : Nat} {R : Nat → Nat → Option Nat} {al : Bool} (hn : 552 ≤ n) (hR : xRk R) {p1 : Int} {p2 : Int}  {J : zM} {L : yM} {Q : zM → yM → Prop} (h : w_X12_keyOwn p1 p2 J L Q) : xCn (xGm b dC dI cA ts) l mX12_keyOwn [.ref 491, .int (oI p1), .int (oI p2)] al (n, R, zi J, li L) 0 0 (zQ0 n R Q) (fun _ _ => False) := by
  refine xCn.ofJ (by decide) (Nat.le_of_ble_eq_true rfl) ?_
  show xJ _ _ _ _ _ _ _ _ _ 0 [(0, .ref 491), (1, .int (oI p1)), (2, .int (oI p2))] [] _ _ _ _ _
  unfold w_X12_keyOwn at h
  refine xr_iconst (v := oI 0) (xd dX12_keyOwn 0 rfl) (by decide) ?_
  refine xr_istore_n [(0, .ref 491), (1, .int (oI p1)), (2, .int (oI p2)), (3, .int (oI 0))] (xd dX12_keyOwn 1 rfl) rfl (by decide) rfl ?_
  refine h (fun x2 J3 L4 => xJ (xGm b dC dI cA ts) l mX12_keyOwn 0 0 (zQ0 n R Q) (fun _ _ => False) 0 0 2 [(0, .ref 491), (1, .int (oI p1)), (2, .int (oI p2)), (3, .int (oI x2))] [] al n R (zi J3) (li L4)) ?_
  intro x2 J3 L4 h
  show xJ _ _ _ _ _ _ _ _ _ 2 [(0, .ref 491), (1, .int (oI p1)), (2, .int (oI p2)), (3, .int (oI x2))] [] _ _ _ _ _
  refine xr_iload_n (xd dX12_keyOwn 2 rfl) 3 rfl ?_
  refine xr_bipush (v := oI 64) (xd dX12_keyOwn 3 rfl) (by decide) ?_
  obtain ⟨o5, h⟩ := h
  refine zr_icmp_ge 37 (xd dX12_keyOwn 4 rfl) (by decide) o5 (by decide) (fun c6 => ?_) (fun c6 => ?_)
  · replace h := ifn h c6
    exact xr_vret (xd dX12_keyOwn 22 rfl) rfl (by decide) (by decide) (fun _ => rfl) ⟨_, _, rfl, rfl, h⟩
  · replace h := ifp h c6
    refine xr_aload_n (xd dX12_keyOwn 5 rfl) 0 rfl ?_
    refine xr_getR (b := 501) 12 17 (xd dX12_keyOwn 6 rfl) f12_37 (by decide) (by decide) (lt552 hn (by decide)) kd_491 rfl (r_491_17 hR) ?_
    refine xr_iload_n (xd dX12_keyOwn 7 rfl) 3 rfl ?_
    refine xr_iload_n (xd dX12_keyOwn 8 rfl) 3 rfl ?_
    refine xr_iload_n (xd dX12_keyOwn 9 rfl) 2 rfl ?_
    replace h := h (fun (x7 : Int) (J8 : zM) (L9 : yM) => xJ (xGm b dC dI cA ts) l mX12_keyOwn 0 0 (zQ0 n R Q) (fun _ _ => False) 0 0 30 [(0, .ref 491), (1, .int (oI p1)), (2, .int (oI p2)), (3, .int (oI x2))] [.int (oI x7), .int (oI x2), .ref 501] al n R (zi J8) (li L9)) (by
      intro x7 J8 L9 h
      show xJ _ _ _ _ _ _ _ _ _ 30 [(0, .ref 491), (1, .int (oI p1)), (2, .int (oI p2)), (3, .int (oI x2))] [.int (oI x7), .int (oI x2), .ref 501] _ _ _ _ _
      obtain ⟨o11, h⟩ := h
      obtain ⟨J12, e_J12⟩ : ∃ z_ : zM, z_ = zs J8 501 x2 x7 := ⟨_, rfl⟩
      replace h := h J12 e_J12
      refine zr_iastore e_J12 (xd dX12_keyOwn 19 rfl) (lt552 hn (by decide)) kd_501 ln_501 (by decide) o11 ?_
      refine zr_iinc [(0, .ref 491), (1, .int (oI p1)), (2, .int (oI p2)), (3, .int (oI (x2 + 1)))] (xd dX12_keyOwn 20 rfl) 3 rfl (by decide) rfl ?_
      refine xr_goto 2 (xd dX12_keyOwn 21 rfl) (by decide) ?_
      exact h)
    obtain ⟨o13, h⟩ := h
    refine zr_icmp_ge 29 (xd dX12_keyOwn 10 rfl) (by decide) o5 o13 (fun c14 => ?_) (fun c14 => ?_)
    · replace h := ifn h c14
      refine xr_iconst (v := oI 0) (xd dX12_keyOwn 18 rfl) (by decide) ?_
      exact h
    · replace h := ifp h c14
      refine xr_aload_n (xd dX12_keyOwn 11 rfl) 0 rfl ?_
      refine xr_getR (b := 492) 12 5 (xd dX12_keyOwn 12 rfl) f12_7 (by decide) (by decide) (lt552 hn (by decide)) kd_491 rfl (r_491_5 hR) ?_
      refine xr_iload_n (xd dX12_keyOwn 13 rfl) 1 rfl ?_
      refine xr_iload_n (xd dX12_keyOwn 14 rfl) 3 rfl ?_
      refine zr_iadd (xd dX12_keyOwn 15 rfl) ?_
      obtain ⟨o15, h⟩ := h
      refine zr_iaload (xd dX12_keyOwn 16 rfl) (lt552 hn (by decide)) kd_492 ln_492 (by decide) o15 ?_
      refine xr_goto 30 (xd dX12_keyOwn 17 rfl) (by decide) ?_
      exact h
def w_X12_keyDigest  (J : zM) (L : yM) (Q : zM → yM → Prop) : Prop := zl_z (fun K1 x2 J3 L4 => R32 x2 ∧ (if x2 < 64 then ∀ K10 : Int → zM → yM → Prop, (∀ (x7 : Int) (J8 : zM) (L9 : yM), (((0 : Int) ≤ x2 ∧ x2 < 64) ∧ ∀ J12 : zM, J12 = zs J8 501 x2 x7 → K1 (x2 + 1) J12 L9) → K10 x7 J8 L9) → (if x2 < 32 then ((0 : Int) ≤ x2 ∧ x2 < 32) ∧ K10 (J3 500 x2) J3 L4 else K10 0 J3 L4) else Q J3 L4)) 0 J L
set_option maxHeartbeats 4000000 in
set_option maxRecDepth 100000 in
theorem v_X12_keyDigest {b : Nat} {dC : Nat → ClassId} {dI : Nat → Nat → Nat} {cA : Nat → ClassId} {ts : Nat → Nat} {l : Launch} {n : Nat} {R : Nat → Nat → Option Nat} {al : Bool} (hn : 552 ≤ n) (hR : xRk R)   {J : zM} {L : yM} {Q : zM → yM → Prop} (h : w_X12_keyDigest  J L Q) : xCn (xGm b dC dI cA ts) l mX12_keyDigest [.ref 491] al (n, R, zi J, li L) 0 0 (zQ0 n R Q) (fun _ _ => False) := by
  refine xCn.ofJ (by decide) (Nat.le_of_ble_eq_true rfl) ?_
  show xJ _ _ _ _ _ _ _ _ _ 0 [(0, .ref 491)] [] _ _ _ _ _
  unfold w_X12_keyDigest at h
  refine xr_iconst (v := oI 0) (xd dX12_keyDigest 0 rfl) (by decide) ?_
  refine xr_istore_n [(0, .ref 491), (1, .int (oI 0))] (xd dX12_keyDigest 1 rfl) rfl (by decide) rfl ?_
  refine h (fun x2 J3 L4 => xJ (xGm b dC dI cA ts) l mX12_keyDigest 0 0 (zQ0 n R Q) (fun _ _ => False) 0 0 2 [(0, .ref 491), (1, .int (oI x2))] [] al n R (zi J3) (li L4)) ?_
  intro x2 J3 L4 h
  show xJ _ _ _ _ _ _ _ _ _ 2 [(0, .ref 491), (1, .int (oI x2))] [] _ _ _ _ _
  refine xr_iload_n (xd dX12_keyDigest 2 rfl) 1 rfl ?_
  refine xr_bipush (v := oI 64) (xd dX12_keyDigest 3 rfl) (by decide) ?_
  obtain ⟨o5, h⟩ := h
  refine zr_icmp_ge 36 (xd dX12_keyDigest 4 rfl) (by decide) o5 (by decide) (fun c6 => ?_) (fun c6 => ?_)
  · replace h := ifn h c6
    exact xr_vret (xd dX12_keyDigest 20 rfl) rfl (by decide) (by decide) (fun _ => rfl) ⟨_, _, rfl, rfl, h⟩
  · replace h := ifp h c6
    refine xr_aload_n (xd dX12_keyDigest 5 rfl) 0 rfl ?_
    refine xr_getR (b := 501) 12 17 (xd dX12_keyDigest 6 rfl) f12_37 (by decide) (by decide) (lt552 hn (by decide)) kd_491 rfl (r_491_17 hR) ?_
    refine xr_iload_n (xd dX12_keyDigest 7 rfl) 1 rfl ?_
    refine xr_iload_n (xd dX12_keyDigest 8 rfl) 1 rfl ?_
    refine xr_bipush (v := oI 32) (xd dX12_keyDigest 9 rfl) (by decide) ?_
    replace h := h (fun (x7 : Int) (J8 : zM) (L9 : yM) => xJ (xGm b dC dI cA ts) l mX12_keyDigest 0 0 (zQ0 n R Q) (fun _ _ => False) 0 0 29 [(0, .ref 491), (1, .int (oI x2))] [.int (oI x7), .int (oI x2), .ref 501] al n R (zi J8) (li L9)) (by
      intro x7 J8 L9 h
      show xJ _ _ _ _ _ _ _ _ _ 29 [(0, .ref 491), (1, .int (oI x2))] [.int (oI x7), .int (oI x2), .ref 501] _ _ _ _ _
      obtain ⟨o11, h⟩ := h
      obtain ⟨J12, e_J12⟩ : ∃ z_ : zM, z_ = zs J8 501 x2 x7 := ⟨_, rfl⟩
      replace h := h J12 e_J12
      refine zr_iastore e_J12 (xd dX12_keyDigest 17 rfl) (lt552 hn (by decide)) kd_501 ln_501 (by decide) o11 ?_
      refine zr_iinc [(0, .ref 491), (1, .int (oI (x2 + 1)))] (xd dX12_keyDigest 18 rfl) 1 rfl (by decide) rfl ?_
      refine xr_goto 2 (xd dX12_keyDigest 19 rfl) (by decide) ?_
      exact h)
    refine zr_icmp_ge 28 (xd dX12_keyDigest 10 rfl) (by decide) o5 (by decide) (fun c13 => ?_) (fun c13 => ?_)
    · replace h := ifn h c13
      refine xr_iconst (v := oI 0) (xd dX12_keyDigest 16 rfl) (by decide) ?_
      exact h
    · replace h := ifp h c13
      refine xr_aload_n (xd dX12_keyDigest 11 rfl) 0 rfl ?_
      refine xr_getR (b := 500) 12 16 (xd dX12_keyDigest 12 rfl) f12_34 (by decide) (by decide) (lt552 hn (by decide)) kd_491 rfl (r_491_16 hR) ?_
      refine xr_iload_n (xd dX12_keyDigest 13 rfl) 1 rfl ?_
      obtain ⟨o14, h⟩ := h
      refine zr_iaload (xd dX12_keyDigest 14 rfl) (lt552 hn (by decide)) kd_500 ln_500 (by decide) o14 ?_
      refine xr_goto 29 (xd dX12_keyDigest 15 rfl) (by decide) ?_
      exact h
def w_X12_addLabel (p1 : Int) (p2 : Int64) (J : zM) (L : yM) (Q : zM → yM → Prop) : Prop := w_X12_add p1 J L (fun J1 L2 => zl_z (fun K3 x4 J5 L6 => R32 x4 ∧ R32 p1 ∧ (if x4 < p1 then w_X12_add (zl2i ((yshr p2 (8 * x4)) &&& 255)) J5 L6 (fun J10 L11 => K3 (x4 + 1) J10 L11) else Q J5 L6)) 0 J1 L2)
set_option maxHeartbeats 4000000 in
set_option maxRecDepth 100000 in
theorem v_X12_addLabel {b : Nat} {dC : Nat → ClassId} {dI : Nat → Nat → Nat} {cA : Nat → ClassId} {ts : Nat → Nat} {l : Launch} {n : Nat} {R : Nat → Nat → Option Nat} {al : Bool} (hn : 552 ≤ n) (hR : xRk R) {p1 : Int} {p2 : Int64}  {J : zM} {L : yM} {Q : zM → yM → Prop} (h : w_X12_addLabel p1 p2 J L Q) : xCn (xGm b dC dI cA ts) l mX12_addLabel [.ref 491, .int (oI p1), .long p2] al (n, R, zi J, li L) 0 0 (zQ0 n R Q) (fun _ _ => False) := by
  refine xCn.ofJ (by decide) (Nat.le_of_ble_eq_true rfl) ?_
  show xJ _ _ _ _ _ _ _ _ _ 0 [(0, .ref 491), (1, .int (oI p1)), (2, .long p2)] [] _ _ _ _ _
  unfold w_X12_addLabel at h
  refine xr_aload_n (xd dX12_addLabel 0 rfl) 0 rfl ?_
  refine xr_iload_n (xd dX12_addLabel 1 rfl) 1 rfl ?_
  refine xr_callV mX12_add 1 [.int (oI p1)] (xd dX12_addLabel 2 rfl) l12_238 kX12_add rfl (lt552 hn (by decide)) kd_491 (by decide) rfl (by decide) (Nat.le_of_ble_eq_true rfl) (v_X12_add hn hR  h) (by decide) (by decide) (fun r_ M_ h_ => ?_) (fun _ _ h_ => h_.elim)
  obtain ⟨J1, L2, rfl, rfl, h⟩ := h_
  show xJ _ _ _ _ _ _ _ _ _ 5 [(0, .ref 491), (1, .int (oI p1)), (2, .long p2)] [] _ _ _ (zi J1) (li L2)
  refine xr_iconst (v := oI 0) (xd dX12_addLabel 3 rfl) (by decide) ?_
  refine xr_istore [(0, .ref 491), (1, .int (oI p1)), (2, .long p2), (4, .int (oI 0))] (xd dX12_addLabel 4 rfl) (by decide) rfl ?_
  refine h (fun x4 J5 L6 => xJ (xGm b dC dI cA ts) l mX12_addLabel 0 0 (zQ0 n R Q) (fun _ _ => False) 0 0 8 [(0, .ref 491), (1, .int (oI p1)), (2, .long p2), (4, .int (oI x4))] [] al n R (zi J5) (li L6)) ?_
  intro x4 J5 L6 h
  show xJ _ _ _ _ _ _ _ _ _ 8 [(0, .ref 491), (1, .int (oI p1)), (2, .long p2), (4, .int (oI x4))] [] _ _ _ _ _
  refine xr_iload (xd dX12_addLabel 5 rfl) 3 rfl ?_
  refine xr_iload_n (xd dX12_addLabel 6 rfl) 1 rfl ?_
  obtain ⟨o7, h⟩ := h
  obtain ⟨o8, h⟩ := h
  refine zr_icmp_ge 36 (xd dX12_addLabel 7 rfl) (by decide) o7 o8 (fun c9 => ?_) (fun c9 => ?_)
  · replace h := ifn h c9
    exact xr_vret (xd dX12_addLabel 20 rfl) rfl (by decide) (by decide) (fun _ => rfl) ⟨_, _, rfl, rfl, h⟩
  · replace h := ifp h c9
    refine xr_aload_n (xd dX12_addLabel 8 rfl) 0 rfl ?_
    refine xr_lload_n (xd dX12_addLabel 9 rfl) 2 rfl ?_
    refine xr_bipush (v := oI 8) (xd dX12_addLabel 10 rfl) (by decide) ?_
    refine xr_iload (xd dX12_addLabel 11 rfl) 3 rfl ?_
    refine zr_imul (xd dX12_addLabel 12 rfl) ?_
    refine zr_lshr (xd dX12_addLabel 13 rfl) ?_
    refine xr_ldc2_w (v := 255) (xd dX12_addLabel 14 rfl) q12_236 ?_
    refine xr_land (xd dX12_addLabel 15 rfl) ?_
    refine zr_l2i (xd dX12_addLabel 16 rfl) ?_
    refine xr_callV mX12_add 1 [.int (oI (zl2i ((yshr p2 (8 * x4)) &&& 255)))] (xd dX12_addLabel 17 rfl) l12_238 kX12_add rfl (lt552 hn (by decide)) kd_491 (by decide) rfl (by decide) (Nat.le_of_ble_eq_true rfl) (v_X12_add hn hR  h) (by decide) (by decide) (fun r_ M_ h_ => ?_) (fun _ _ h_ => h_.elim)
    obtain ⟨J10, L11, rfl, rfl, h⟩ := h_
    show xJ _ _ _ _ _ _ _ _ _ 30 [(0, .ref 491), (1, .int (oI p1)), (2, .long p2), (4, .int (oI x4))] [] _ _ _ (zi J10) (li L11)
    refine zr_iinc [(0, .ref 491), (1, .int (oI p1)), (2, .long p2), (4, .int (oI (x4 + 1)))] (xd dX12_addLabel 18 rfl) 3 rfl (by decide) rfl ?_
    refine xr_goto 8 (xd dX12_addLabel 19 rfl) (by decide) ?_
    exact h
def w_X12_expandNone (p1 : Int) (p2 : Int64) (J : zM) (L : yM) (Q : zM → yM → Prop) : Prop := w_X12_beginCode J L (fun J1 L2 => w_X12_addLabel p1 p2 J1 L2 (fun J3 L4 => w_X12_add 0 J3 L4 (fun J5 L6 => w_X12_code J5 L6 (fun J7 L8 => Q J7 L8))))
set_option maxHeartbeats 4000000 in
set_option maxRecDepth 100000 in
theorem v_X12_expandNone {b : Nat} {dC : Nat → ClassId} {dI : Nat → Nat → Nat} {cA : Nat → ClassId} {ts : Nat → Nat} {l : Launch} {n : Nat} {R : Nat → Nat → Option Nat} {al : Bool} (hn : 552 ≤ n) (hR : xRk R) {p1 : Int} {p2 : Int64}  {J : zM} {L : yM} {Q : zM → yM → Prop} (h : w_X12_expandNone p1 p2 J L Q) : xCn (xGm b dC dI cA ts) l mX12_expandNone [.ref 491, .int (oI p1), .long p2] al (n, R, zi J, li L) 0 0 (zQ0 n R Q) (fun _ _ => False) := by
  refine xCn.ofJ (by decide) (Nat.le_of_ble_eq_true rfl) ?_
  show xJ _ _ _ _ _ _ _ _ _ 0 [(0, .ref 491), (1, .int (oI p1)), (2, .long p2)] [] _ _ _ _ _
  unfold w_X12_expandNone at h
  refine xr_aload_n (xd dX12_expandNone 0 rfl) 0 rfl ?_
  refine xr_callV mX12_beginCode 0 [] (xd dX12_expandNone 1 rfl) l12_247 kX12_beginCode rfl (lt552 hn (by decide)) kd_491 (by decide) rfl (by decide) (Nat.le_of_ble_eq_true rfl) (v_X12_beginCode hn hR  h) (by decide) (by decide) (fun r_ M_ h_ => ?_) (fun _ _ h_ => h_.elim)
  obtain ⟨J1, L2, rfl, rfl, h⟩ := h_
  show xJ _ _ _ _ _ _ _ _ _ 4 [(0, .ref 491), (1, .int (oI p1)), (2, .long p2)] [] _ _ _ (zi J1) (li L2)
  refine xr_aload_n (xd dX12_expandNone 2 rfl) 0 rfl ?_
  refine xr_iload_n (xd dX12_expandNone 3 rfl) 1 rfl ?_
  refine xr_lload_n (xd dX12_expandNone 4 rfl) 2 rfl ?_
  refine xr_callV mX12_addLabel 2 [.int (oI p1), .long p2] (xd dX12_expandNone 5 rfl) l12_250 kX12_addLabel rfl (lt552 hn (by decide)) kd_491 (by decide) rfl (by decide) (Nat.le_of_ble_eq_true rfl) (v_X12_addLabel hn hR  h) (by decide) (by decide) (fun r_ M_ h_ => ?_) (fun _ _ h_ => h_.elim)
  obtain ⟨J3, L4, rfl, rfl, h⟩ := h_
  show xJ _ _ _ _ _ _ _ _ _ 10 [(0, .ref 491), (1, .int (oI p1)), (2, .long p2)] [] _ _ _ (zi J3) (li L4)
  refine xr_aload_n (xd dX12_expandNone 6 rfl) 0 rfl ?_
  refine xr_iconst (v := oI 0) (xd dX12_expandNone 7 rfl) (by decide) ?_
  refine xr_callV mX12_add 1 [.int (oI 0)] (xd dX12_expandNone 8 rfl) l12_238 kX12_add rfl (lt552 hn (by decide)) kd_491 (by decide) rfl (by decide) (Nat.le_of_ble_eq_true rfl) (v_X12_add hn hR  h) (by decide) (by decide) (fun r_ M_ h_ => ?_) (fun _ _ h_ => h_.elim)
  obtain ⟨J5, L6, rfl, rfl, h⟩ := h_
  show xJ _ _ _ _ _ _ _ _ _ 15 [(0, .ref 491), (1, .int (oI p1)), (2, .long p2)] [] _ _ _ (zi J5) (li L6)
  refine xr_aload_n (xd dX12_expandNone 9 rfl) 0 rfl ?_
  refine xr_callV mX12_code 0 [] (xd dX12_expandNone 10 rfl) l12_254 kX12_code rfl (lt552 hn (by decide)) kd_491 (by decide) rfl (by decide) (Nat.le_of_ble_eq_true rfl) (v_X12_code hn hR  h) (by decide) (by decide) (fun r_ M_ h_ => ?_) (fun _ _ h_ => h_.elim)
  obtain ⟨J7, L8, rfl, rfl, h⟩ := h_
  show xJ _ _ _ _ _ _ _ _ _ 19 [(0, .ref 491), (1, .int (oI p1)), (2, .long p2)] [] _ _ _ (zi J7) (li L8)
  exact xr_vret (xd dX12_expandNone 11 rfl) rfl (by decide) (by decide) (fun _ => rfl) ⟨_, _, rfl, rfl, h⟩
def w_X12_expandDigest (p1 : Int) (p2 : Int64) (J : zM) (L : yM) (Q : zM → yM → Prop) : Prop := zl_z (fun K1 x2 J3 L4 => R32 x2 ∧ (if x2 < 32 then ((0 : Int) ≤ x2 ∧ x2 < 32) ∧ ((0 : Int) ≤ x2 ∧ x2 < 32) ∧ ∀ J26 : zM, J26 = zs J3 502 x2 (J3 500 x2) → K1 (x2 + 1) J26 L4 else w_X12_beginCode J3 L4 (fun J7 L8 => w_X12_addLabel p1 p2 J7 L8 (fun J9 L10 => w_X12_add 32 J9 L10 (fun J11 L12 => zl_z (fun K13 x14 J15 L16 => R32 x14 ∧ (if x14 < 32 then ((0 : Int) ≤ x14 ∧ x14 < 32) ∧ w_X12_add (J15 502 x14) J15 L16 (fun J22 L23 => K13 (x14 + 1) J22 L23) else w_X12_code J15 L16 (fun J19 L20 => Q J19 L20))) 0 J11 L12))))) 0 J L
set_option maxHeartbeats 4000000 in
set_option maxRecDepth 100000 in
theorem v_X12_expandDigest {b : Nat} {dC : Nat → ClassId} {dI : Nat → Nat → Nat} {cA : Nat → ClassId} {ts : Nat → Nat} {l : Launch} {n : Nat} {R : Nat → Nat → Option Nat} {al : Bool} (hn : 552 ≤ n) (hR : xRk R) {p1 : Int} {p2 : Int64}  {J : zM} {L : yM} {Q : zM → yM → Prop} (h : w_X12_expandDigest p1 p2 J L Q) : xCn (xGm b dC dI cA ts) l mX12_expandDigest [.ref 491, .int (oI p1), .long p2] al (n, R, zi J, li L) 0 0 (zQ0 n R Q) (fun _ _ => False) := by
  refine xCn.ofJ (by decide) (Nat.le_of_ble_eq_true rfl) ?_
  show xJ _ _ _ _ _ _ _ _ _ 0 [(0, .ref 491), (1, .int (oI p1)), (2, .long p2)] [] _ _ _ _ _
  unfold w_X12_expandDigest at h
  refine xr_iconst (v := oI 0) (xd dX12_expandDigest 0 rfl) (by decide) ?_
  refine xr_istore [(0, .ref 491), (1, .int (oI p1)), (2, .long p2), (4, .int (oI 0))] (xd dX12_expandDigest 1 rfl) (by decide) rfl ?_
  refine h (fun x2 J3 L4 => xJ (xGm b dC dI cA ts) l mX12_expandDigest 0 0 (zQ0 n R Q) (fun _ _ => False) 0 0 3 [(0, .ref 491), (1, .int (oI p1)), (2, .long p2), (4, .int (oI x2))] [] al n R (zi J3) (li L4)) ?_
  intro x2 J3 L4 h
  show xJ _ _ _ _ _ _ _ _ _ 3 [(0, .ref 491), (1, .int (oI p1)), (2, .long p2), (4, .int (oI x2))] [] _ _ _ _ _
  refine xr_iload (xd dX12_expandDigest 2 rfl) 3 rfl ?_
  refine xr_bipush (v := oI 32) (xd dX12_expandDigest 3 rfl) (by decide) ?_
  obtain ⟨o5, h⟩ := h
  refine zr_icmp_ge 30 (xd dX12_expandDigest 4 rfl) (by decide) o5 (by decide) (fun c6 => ?_) (fun c6 => ?_)
  · replace h := ifn h c6
    refine xr_aload_n (xd dX12_expandDigest 15 rfl) 0 rfl ?_
    refine xr_callV mX12_beginCode 0 [] (xd dX12_expandDigest 16 rfl) l12_247 kX12_beginCode rfl (lt552 hn (by decide)) kd_491 (by decide) rfl (by decide) (Nat.le_of_ble_eq_true rfl) (v_X12_beginCode hn hR  h) (by decide) (by decide) (fun r_ M_ h_ => ?_) (fun _ _ h_ => h_.elim)
    obtain ⟨J7, L8, rfl, rfl, h⟩ := h_
    show xJ _ _ _ _ _ _ _ _ _ 34 [(0, .ref 491), (1, .int (oI p1)), (2, .long p2), (4, .int (oI x2))] [] _ _ _ (zi J7) (li L8)
    refine xr_aload_n (xd dX12_expandDigest 17 rfl) 0 rfl ?_
    refine xr_iload_n (xd dX12_expandDigest 18 rfl) 1 rfl ?_
    refine xr_lload_n (xd dX12_expandDigest 19 rfl) 2 rfl ?_
    refine xr_callV mX12_addLabel 2 [.int (oI p1), .long p2] (xd dX12_expandDigest 20 rfl) l12_250 kX12_addLabel rfl (lt552 hn (by decide)) kd_491 (by decide) rfl (by decide) (Nat.le_of_ble_eq_true rfl) (v_X12_addLabel hn hR  h) (by decide) (by decide) (fun r_ M_ h_ => ?_) (fun _ _ h_ => h_.elim)
    obtain ⟨J9, L10, rfl, rfl, h⟩ := h_
    show xJ _ _ _ _ _ _ _ _ _ 40 [(0, .ref 491), (1, .int (oI p1)), (2, .long p2), (4, .int (oI x2))] [] _ _ _ (zi J9) (li L10)
    refine xr_aload_n (xd dX12_expandDigest 21 rfl) 0 rfl ?_
    refine xr_bipush (v := oI 32) (xd dX12_expandDigest 22 rfl) (by decide) ?_
    refine xr_callV mX12_add 1 [.int (oI 32)] (xd dX12_expandDigest 23 rfl) l12_238 kX12_add rfl (lt552 hn (by decide)) kd_491 (by decide) rfl (by decide) (Nat.le_of_ble_eq_true rfl) (v_X12_add hn hR  h) (by decide) (by decide) (fun r_ M_ h_ => ?_) (fun _ _ h_ => h_.elim)
    obtain ⟨J11, L12, rfl, rfl, h⟩ := h_
    show xJ _ _ _ _ _ _ _ _ _ 46 [(0, .ref 491), (1, .int (oI p1)), (2, .long p2), (4, .int (oI x2))] [] _ _ _ (zi J11) (li L12)
    refine xr_iconst (v := oI 0) (xd dX12_expandDigest 24 rfl) (by decide) ?_
    refine xr_istore [(0, .ref 491), (1, .int (oI p1)), (2, .long p2), (4, .int (oI 0))] (xd dX12_expandDigest 25 rfl) (by decide) rfl ?_
    refine xJ.pick (ls' := [(0, .ref 491), (4, .int (oI 0))]) [0, 3] rfl ?_
    refine h (fun x14 J15 L16 => xJ (xGm b dC dI cA ts) l mX12_expandDigest 0 0 (zQ0 n R Q) (fun _ _ => False) 0 0 49 [(0, .ref 491), (4, .int (oI x14))] [] al n R (zi J15) (li L16)) ?_
    intro x14 J15 L16 h
    show xJ _ _ _ _ _ _ _ _ _ 49 [(0, .ref 491), (4, .int (oI x14))] [] _ _ _ _ _
    refine xr_iload (xd dX12_expandDigest 26 rfl) 1 rfl ?_
    refine xr_bipush (v := oI 32) (xd dX12_expandDigest 27 rfl) (by decide) ?_
    obtain ⟨o17, h⟩ := h
    refine zr_icmp_ge 73 (xd dX12_expandDigest 28 rfl) (by decide) o17 (by decide) (fun c18 => ?_) (fun c18 => ?_)
    · replace h := ifn h c18
      refine xr_aload_n (xd dX12_expandDigest 37 rfl) 0 rfl ?_
      refine xr_callV mX12_code 0 [] (xd dX12_expandDigest 38 rfl) l12_254 kX12_code rfl (lt552 hn (by decide)) kd_491 (by decide) rfl (by decide) (Nat.le_of_ble_eq_true rfl) (v_X12_code hn hR  h) (by decide) (by decide) (fun r_ M_ h_ => ?_) (fun _ _ h_ => h_.elim)
      obtain ⟨J19, L20, rfl, rfl, h⟩ := h_
      show xJ _ _ _ _ _ _ _ _ _ 77 [(0, .ref 491), (4, .int (oI x14))] [] _ _ _ (zi J19) (li L20)
      exact xr_vret (xd dX12_expandDigest 39 rfl) rfl (by decide) (by decide) (fun _ => rfl) ⟨_, _, rfl, rfl, h⟩
    · replace h := ifp h c18
      refine xr_aload_n (xd dX12_expandDigest 29 rfl) 0 rfl ?_
      refine xr_aload_n (xd dX12_expandDigest 30 rfl) 0 rfl ?_
      refine xr_getR (b := 502) 12 18 (xd dX12_expandDigest 31 rfl) f12_40 (by decide) (by decide) (lt552 hn (by decide)) kd_491 rfl (r_491_18 hR) ?_
      refine xr_iload (xd dX12_expandDigest 32 rfl) 1 rfl ?_
      obtain ⟨o21, h⟩ := h
      refine zr_iaload (xd dX12_expandDigest 33 rfl) (lt552 hn (by decide)) kd_502 ln_502 (by decide) o21 ?_
      refine xr_callV mX12_add 1 [.int (oI (J15 502 x14))] (xd dX12_expandDigest 34 rfl) l12_238 kX12_add rfl (lt552 hn (by decide)) kd_491 (by decide) rfl (by decide) (Nat.le_of_ble_eq_true rfl) (v_X12_add hn hR  h) (by decide) (by decide) (fun r_ M_ h_ => ?_) (fun _ _ h_ => h_.elim)
      obtain ⟨J22, L23, rfl, rfl, h⟩ := h_
      show xJ _ _ _ _ _ _ _ _ _ 67 [(0, .ref 491), (4, .int (oI x14))] [] _ _ _ (zi J22) (li L23)
      refine zr_iinc [(0, .ref 491), (4, .int (oI (x14 + 1)))] (xd dX12_expandDigest 35 rfl) 1 rfl (by decide) rfl ?_
      refine xr_goto 49 (xd dX12_expandDigest 36 rfl) (by decide) ?_
      exact h
  · replace h := ifp h c6
    refine xr_aload_n (xd dX12_expandDigest 5 rfl) 0 rfl ?_
    refine xr_getR (b := 502) 12 18 (xd dX12_expandDigest 6 rfl) f12_40 (by decide) (by decide) (lt552 hn (by decide)) kd_491 rfl (r_491_18 hR) ?_
    refine xr_iload (xd dX12_expandDigest 7 rfl) 3 rfl ?_
    refine xr_aload_n (xd dX12_expandDigest 8 rfl) 0 rfl ?_
    refine xr_getR (b := 500) 12 16 (xd dX12_expandDigest 9 rfl) f12_34 (by decide) (by decide) (lt552 hn (by decide)) kd_491 rfl (r_491_16 hR) ?_
    refine xr_iload (xd dX12_expandDigest 10 rfl) 3 rfl ?_
    obtain ⟨o24, h⟩ := h
    refine zr_iaload (xd dX12_expandDigest 11 rfl) (lt552 hn (by decide)) kd_500 ln_500 (by decide) o24 ?_
    obtain ⟨o25, h⟩ := h
    obtain ⟨J26, e_J26⟩ : ∃ z_ : zM, z_ = zs J3 502 x2 (J3 500 x2) := ⟨_, rfl⟩
    replace h := h J26 e_J26
    refine zr_iastore e_J26 (xd dX12_expandDigest 12 rfl) (lt552 hn (by decide)) kd_502 ln_502 (by decide) o25 ?_
    refine zr_iinc [(0, .ref 491), (1, .int (oI p1)), (2, .long p2), (4, .int (oI (x2 + 1)))] (xd dX12_expandDigest 13 rfl) 3 rfl (by decide) rfl ?_
    refine xr_goto 3 (xd dX12_expandDigest 14 rfl) (by decide) ?_
    exact h
def w_X12_store (p1 : Int) (p2 : Int) (J : zM) (L : yM) (Q : zM → yM → Prop) : Prop := zl_z (fun K1 x2 J3 L4 => R32 x2 ∧ R32 p2 ∧ (if x2 < p2 then ((0 : Int) ≤ x2 ∧ x2 < 32) ∧ ((0 : Int) ≤ (p1 + x2) ∧ (p1 + x2) < 2048) ∧ ∀ J10 : zM, J10 = zs J3 492 (p1 + x2) (J3 500 x2) → K1 (x2 + 1) J10 L4 else Q J3 L4)) 0 J L
set_option maxHeartbeats 4000000 in
set_option maxRecDepth 100000 in
theorem v_X12_store {b : Nat} {dC : Nat → ClassId} {dI : Nat → Nat → Nat} {cA : Nat → ClassId} {ts : Nat → Nat} {l : Launch} {n : Nat} {R : Nat → Nat → Option Nat} {al : Bool} (hn : 552 ≤ n) (hR : xRk R) {p1 : Int} {p2 : Int}  {J : zM} {L : yM} {Q : zM → yM → Prop} (h : w_X12_store p1 p2 J L Q) : xCn (xGm b dC dI cA ts) l mX12_store [.ref 491, .int (oI p1), .int (oI p2)] al (n, R, zi J, li L) 0 0 (zQ0 n R Q) (fun _ _ => False) := by
  refine xCn.ofJ (by decide) (Nat.le_of_ble_eq_true rfl) ?_
  show xJ _ _ _ _ _ _ _ _ _ 0 [(0, .ref 491), (1, .int (oI p1)), (2, .int (oI p2))] [] _ _ _ _ _
  unfold w_X12_store at h
  refine xr_iconst (v := oI 0) (xd dX12_store 0 rfl) (by decide) ?_
  refine xr_istore_n [(0, .ref 491), (1, .int (oI p1)), (2, .int (oI p2)), (3, .int (oI 0))] (xd dX12_store 1 rfl) rfl (by decide) rfl ?_
  refine h (fun x2 J3 L4 => xJ (xGm b dC dI cA ts) l mX12_store 0 0 (zQ0 n R Q) (fun _ _ => False) 0 0 2 [(0, .ref 491), (1, .int (oI p1)), (2, .int (oI p2)), (3, .int (oI x2))] [] al n R (zi J3) (li L4)) ?_
  intro x2 J3 L4 h
  show xJ _ _ _ _ _ _ _ _ _ 2 [(0, .ref 491), (1, .int (oI p1)), (2, .int (oI p2)), (3, .int (oI x2))] [] _ _ _ _ _
  refine xr_iload_n (xd dX12_store 2 rfl) 3 rfl ?_
  refine xr_iload_n (xd dX12_store 3 rfl) 2 rfl ?_
  obtain ⟨o5, h⟩ := h
  obtain ⟨o6, h⟩ := h
  refine zr_icmp_ge 27 (xd dX12_store 4 rfl) (by decide) o5 o6 (fun c7 => ?_) (fun c7 => ?_)
  · replace h := ifn h c7
    exact xr_vret (xd dX12_store 17 rfl) rfl (by decide) (by decide) (fun _ => rfl) ⟨_, _, rfl, rfl, h⟩
  · replace h := ifp h c7
    refine xr_aload_n (xd dX12_store 5 rfl) 0 rfl ?_
    refine xr_getR (b := 492) 12 5 (xd dX12_store 6 rfl) f12_7 (by decide) (by decide) (lt552 hn (by decide)) kd_491 rfl (r_491_5 hR) ?_
    refine xr_iload_n (xd dX12_store 7 rfl) 1 rfl ?_
    refine xr_iload_n (xd dX12_store 8 rfl) 3 rfl ?_
    refine zr_iadd (xd dX12_store 9 rfl) ?_
    refine xr_aload_n (xd dX12_store 10 rfl) 0 rfl ?_
    refine xr_getR (b := 500) 12 16 (xd dX12_store 11 rfl) f12_34 (by decide) (by decide) (lt552 hn (by decide)) kd_491 rfl (r_491_16 hR) ?_
    refine xr_iload_n (xd dX12_store 12 rfl) 3 rfl ?_
    obtain ⟨o8, h⟩ := h
    refine zr_iaload (xd dX12_store 13 rfl) (lt552 hn (by decide)) kd_500 ln_500 (by decide) o8 ?_
    obtain ⟨o9, h⟩ := h
    obtain ⟨J10, e_J10⟩ : ∃ z_ : zM, z_ = zs J3 492 (p1 + x2) (J3 500 x2) := ⟨_, rfl⟩
    replace h := h J10 e_J10
    refine zr_iastore e_J10 (xd dX12_store 14 rfl) (lt552 hn (by decide)) kd_492 ln_492 (by decide) o9 ?_
    refine zr_iinc [(0, .ref 491), (1, .int (oI p1)), (2, .int (oI p2)), (3, .int (oI (x2 + 1)))] (xd dX12_store 15 rfl) 3 rfl (by decide) rfl ?_
    refine xr_goto 2 (xd dX12_store 16 rfl) (by decide) ?_
    exact h
def w_X12_isDigest (p1 : Int) (p2 : Int) (J : zM) (L : yM) (Q : Int → zM → yM → Prop) : Prop := zl_zz (fun K1 x2 x3 J4 L5 => R32 x3 ∧ R32 p2 ∧ (if x3 < p2 then ((0 : Int) ≤ (p1 + x3) ∧ (p1 + x3) < 2048) ∧ ((0 : Int) ≤ x3 ∧ x3 < 32) ∧ ∀ K15 : Int → zM → yM → Prop, (∀ (x12 : Int) (J13 : zM) (L14 : yM), (∀ x16 : Int, x16 = (zand x2 x12) → K1 x16 (x3 + 1) J13 L14) → K15 x12 J13 L14) → R32 (J4 492 (p1 + x3)) ∧ R32 (J4 500 x3) ∧ (if (J4 492 (p1 + x3)) = (J4 500 x3) then K15 1 J4 L5 else K15 0 J4 L5) else B01 x2 ∧ Q x2 J4 L5)) 1 0 J L
set_option maxHeartbeats 4000000 in
set_option maxRecDepth 100000 in
theorem v_X12_isDigest {b : Nat} {dC : Nat → ClassId} {dI : Nat → Nat → Nat} {cA : Nat → ClassId} {ts : Nat → Nat} {l : Launch} {n : Nat} {R : Nat → Nat → Option Nat} {al : Bool} (hn : 552 ≤ n) (hR : xRk R) {p1 : Int} {p2 : Int}  {J : zM} {L : yM} {Q : Int → zM → yM → Prop} (h : w_X12_isDigest p1 p2 J L Q) : xCn (xGm b dC dI cA ts) l mX12_isDigest [.ref 491, .int (oI p1), .int (oI p2)] al (n, R, zi J, li L) 0 0 (zQ1 n R Q) (fun _ _ => False) := by
  refine xCn.ofJ (by decide) (Nat.le_of_ble_eq_true rfl) ?_
  show xJ _ _ _ _ _ _ _ _ _ 0 [(0, .ref 491), (1, .int (oI p1)), (2, .int (oI p2))] [] _ _ _ _ _
  unfold w_X12_isDigest at h
  refine xr_iconst (v := oI 1) (xd dX12_isDigest 0 rfl) (by decide) ?_
  refine xr_istore_n [(0, .ref 491), (1, .int (oI p1)), (2, .int (oI p2)), (3, .int (oI 1))] (xd dX12_isDigest 1 rfl) rfl (by decide) rfl ?_
  refine xr_iconst (v := oI 0) (xd dX12_isDigest 2 rfl) (by decide) ?_
  refine xr_istore [(0, .ref 491), (1, .int (oI p1)), (2, .int (oI p2)), (3, .int (oI 1)), (4, .int (oI 0))] (xd dX12_isDigest 3 rfl) (by decide) rfl ?_
  refine h (fun x2 x3 J4 L5 => xJ (xGm b dC dI cA ts) l mX12_isDigest 0 0 (zQ1 n R Q) (fun _ _ => False) 0 0 5 [(0, .ref 491), (1, .int (oI p1)), (2, .int (oI p2)), (3, .int (oI x2)), (4, .int (oI x3))] [] al n R (zi J4) (li L5)) ?_
  intro x2 x3 J4 L5 h
  show xJ _ _ _ _ _ _ _ _ _ 5 [(0, .ref 491), (1, .int (oI p1)), (2, .int (oI p2)), (3, .int (oI x2)), (4, .int (oI x3))] [] _ _ _ _ _
  refine xr_iload (xd dX12_isDigest 4 rfl) 4 rfl ?_
  refine xr_iload_n (xd dX12_isDigest 5 rfl) 2 rfl ?_
  obtain ⟨o6, h⟩ := h
  obtain ⟨o7, h⟩ := h
  refine zr_icmp_ge 44 (xd dX12_isDigest 6 rfl) (by decide) o6 o7 (fun c8 => ?_) (fun c8 => ?_)
  · replace h := ifn h c8
    refine xr_iload_n (xd dX12_isDigest 26 rfl) 3 rfl ?_
    obtain ⟨o9, h⟩ := h
    exact xr_zret (xd dX12_isDigest 27 rfl) rfl (zret_b o9) (by decide) (by decide) (fun _ => rfl) ⟨_, _, _, rfl, rfl, h⟩
  · replace h := ifp h c8
    refine xr_iload_n (xd dX12_isDigest 7 rfl) 3 rfl ?_
    refine xr_aload_n (xd dX12_isDigest 8 rfl) 0 rfl ?_
    refine xr_getR (b := 492) 12 5 (xd dX12_isDigest 9 rfl) f12_7 (by decide) (by decide) (lt552 hn (by decide)) kd_491 rfl (r_491_5 hR) ?_
    refine xr_iload_n (xd dX12_isDigest 10 rfl) 1 rfl ?_
    refine xr_iload (xd dX12_isDigest 11 rfl) 4 rfl ?_
    refine zr_iadd (xd dX12_isDigest 12 rfl) ?_
    obtain ⟨o10, h⟩ := h
    refine zr_iaload (xd dX12_isDigest 13 rfl) (lt552 hn (by decide)) kd_492 ln_492 (by decide) o10 ?_
    refine xr_aload_n (xd dX12_isDigest 14 rfl) 0 rfl ?_
    refine xr_getR (b := 500) 12 16 (xd dX12_isDigest 15 rfl) f12_34 (by decide) (by decide) (lt552 hn (by decide)) kd_491 rfl (r_491_16 hR) ?_
    refine xr_iload (xd dX12_isDigest 16 rfl) 4 rfl ?_
    obtain ⟨o11, h⟩ := h
    refine zr_iaload (xd dX12_isDigest 17 rfl) (lt552 hn (by decide)) kd_500 ln_500 (by decide) o11 ?_
    replace h := h (fun (x12 : Int) (J13 : zM) (L14 : yM) => xJ (xGm b dC dI cA ts) l mX12_isDigest 0 0 (zQ1 n R Q) (fun _ _ => False) 0 0 36 [(0, .ref 491), (1, .int (oI p1)), (2, .int (oI p2)), (4, .int (oI x3))] [.int (oI x12), .int (oI x2)] al n R (zi J13) (li L14)) (by
      intro x12 J13 L14 h
      show xJ _ _ _ _ _ _ _ _ _ 36 [(0, .ref 491), (1, .int (oI p1)), (2, .int (oI p2)), (4, .int (oI x3))] [.int (oI x12), .int (oI x2)] _ _ _ _ _
      refine zr_iand (xd dX12_isDigest 22 rfl) ?_
      obtain ⟨x16, e_x16⟩ : ∃ z_ : Int, z_ = (zand x2 x12) := ⟨_, rfl⟩
      replace h := h x16 e_x16
      refine zr_nm e_x16 ?_
      refine xr_istore_n [(0, .ref 491), (1, .int (oI p1)), (2, .int (oI p2)), (3, .int (oI x16)), (4, .int (oI x3))] (xd dX12_isDigest 23 rfl) rfl (by decide) rfl ?_
      refine zr_iinc [(0, .ref 491), (1, .int (oI p1)), (2, .int (oI p2)), (3, .int (oI x16)), (4, .int (oI (x3 + 1)))] (xd dX12_isDigest 24 rfl) 4 rfl (by decide) rfl ?_
      refine xr_goto 5 (xd dX12_isDigest 25 rfl) (by decide) ?_
      exact h)
    obtain ⟨o17, h⟩ := h
    obtain ⟨o18, h⟩ := h
    refine zr_icmp_ne 35 (xd dX12_isDigest 18 rfl) (by decide) o17 o18 (fun c19 => ?_) (fun c19 => ?_)
    · replace h := ifn h c19
      refine xr_iconst (v := oI 0) (xd dX12_isDigest 21 rfl) (by decide) ?_
      refine xJ.pick (ls' := [(0, .ref 491), (1, .int (oI p1)), (2, .int (oI p2)), (4, .int (oI x3))]) [0, 1, 2, 4] rfl ?_
      exact h
    · replace h := ifp h c19
      refine xr_iconst (v := oI 1) (xd dX12_isDigest 19 rfl) (by decide) ?_
      refine xr_goto 36 (xd dX12_isDigest 20 rfl) (by decide) ?_
      refine xJ.pick (ls' := [(0, .ref 491), (1, .int (oI p1)), (2, .int (oI p2)), (4, .int (oI x3))]) [0, 1, 2, 4] rfl ?_
      exact h
def w_X12_chance (p1 : Int) (J : zM) (L : yM) (Q : zM → yM → Prop) : Prop := w_X12_keyOwn ((1024 * p1) + 24) 8 J L (fun J1 L2 => w_X12_beginCode J1 L2 (fun J3 L4 => w_X12_add p1 J3 L4 (fun J5 L6 => ((0 : Int) ≤ p1 ∧ p1 < 2) ∧ w_X12_addNumber 2 (zi2l (J5 503 p1)) J5 L6 (fun J8 L9 => w_X12_code J8 L9 (fun J10 L11 => ((0 : Int) ≤ p1 ∧ p1 < 2) ∧ ((0 : Int) ≤ p1 ∧ p1 < 2) ∧ ∀ J14 : zM, J14 = zs J10 503 p1 ((J10 503 p1) + 1) → Q J14 L11)))))
set_option maxHeartbeats 4000000 in
set_option maxRecDepth 100000 in
theorem v_X12_chance {b : Nat} {dC : Nat → ClassId} {dI : Nat → Nat → Nat} {cA : Nat → ClassId} {ts : Nat → Nat} {l : Launch} {n : Nat} {R : Nat → Nat → Option Nat} {al : Bool} (hn : 552 ≤ n) (hR : xRk R) {p1 : Int}  {J : zM} {L : yM} {Q : zM → yM → Prop} (h : w_X12_chance p1 J L Q) : xCn (xGm b dC dI cA ts) l mX12_chance [.ref 491, .int (oI p1)] al (n, R, zi J, li L) 0 0 (zQ0 n R Q) (fun _ _ => False) := by
  refine xCn.ofJ (by decide) (Nat.le_of_ble_eq_true rfl) ?_
  show xJ _ _ _ _ _ _ _ _ _ 0 [(0, .ref 491), (1, .int (oI p1))] [] _ _ _ _ _
  unfold w_X12_chance at h
  refine xr_aload_n (xd dX12_chance 0 rfl) 0 rfl ?_
  refine xr_sipush (v := oI 1024) (xd dX12_chance 1 rfl) (by decide) ?_
  refine xr_iload_n (xd dX12_chance 2 rfl) 1 rfl ?_
  refine zr_imul (xd dX12_chance 3 rfl) ?_
  refine xr_bipush (v := oI 24) (xd dX12_chance 4 rfl) (by decide) ?_
  refine zr_iadd (xd dX12_chance 5 rfl) ?_
  refine xr_bipush (v := oI 8) (xd dX12_chance 6 rfl) (by decide) ?_
  refine xr_callV mX12_keyOwn 2 [.int (oI ((1024 * p1) + 24)), .int (oI 8)] (xd dX12_chance 7 rfl) l12_257 kX12_keyOwn rfl (lt552 hn (by decide)) kd_491 (by decide) rfl (by decide) (Nat.le_of_ble_eq_true rfl) (v_X12_keyOwn hn hR  h) (by decide) (by decide) (fun r_ M_ h_ => ?_) (fun _ _ h_ => h_.elim)
  obtain ⟨J1, L2, rfl, rfl, h⟩ := h_
  show xJ _ _ _ _ _ _ _ _ _ 14 [(0, .ref 491), (1, .int (oI p1))] [] _ _ _ (zi J1) (li L2)
  refine xr_aload_n (xd dX12_chance 8 rfl) 0 rfl ?_
  refine xr_callV mX12_beginCode 0 [] (xd dX12_chance 9 rfl) l12_247 kX12_beginCode rfl (lt552 hn (by decide)) kd_491 (by decide) rfl (by decide) (Nat.le_of_ble_eq_true rfl) (v_X12_beginCode hn hR  h) (by decide) (by decide) (fun r_ M_ h_ => ?_) (fun _ _ h_ => h_.elim)
  obtain ⟨J3, L4, rfl, rfl, h⟩ := h_
  show xJ _ _ _ _ _ _ _ _ _ 18 [(0, .ref 491), (1, .int (oI p1))] [] _ _ _ (zi J3) (li L4)
  refine xr_aload_n (xd dX12_chance 10 rfl) 0 rfl ?_
  refine xr_iload_n (xd dX12_chance 11 rfl) 1 rfl ?_
  refine xr_callV mX12_add 1 [.int (oI p1)] (xd dX12_chance 12 rfl) l12_238 kX12_add rfl (lt552 hn (by decide)) kd_491 (by decide) rfl (by decide) (Nat.le_of_ble_eq_true rfl) (v_X12_add hn hR  h) (by decide) (by decide) (fun r_ M_ h_ => ?_) (fun _ _ h_ => h_.elim)
  obtain ⟨J5, L6, rfl, rfl, h⟩ := h_
  show xJ _ _ _ _ _ _ _ _ _ 23 [(0, .ref 491), (1, .int (oI p1))] [] _ _ _ (zi J5) (li L6)
  refine xr_aload_n (xd dX12_chance 13 rfl) 0 rfl ?_
  refine xr_iconst (v := oI 2) (xd dX12_chance 14 rfl) (by decide) ?_
  refine xr_aload_n (xd dX12_chance 15 rfl) 0 rfl ?_
  refine xr_getR (b := 503) 12 19 (xd dX12_chance 16 rfl) f12_43 (by decide) (by decide) (lt552 hn (by decide)) kd_491 rfl (r_491_19 hR) ?_
  refine xr_iload_n (xd dX12_chance 17 rfl) 1 rfl ?_
  obtain ⟨o7, h⟩ := h
  refine zr_iaload (xd dX12_chance 18 rfl) (lt552 hn (by decide)) kd_503 ln_503 (by decide) o7 ?_
  refine zr_i2l (xd dX12_chance 19 rfl) ?_
  refine xr_callV mX12_addNumber 2 [.int (oI 2), .long (zi2l (J5 503 p1))] (xd dX12_chance 20 rfl) l12_260 kX12_addNumber rfl (lt552 hn (by decide)) kd_491 (by decide) rfl (by decide) (Nat.le_of_ble_eq_true rfl) (v_X12_addNumber hn hR  h) (by decide) (by decide) (fun r_ M_ h_ => ?_) (fun _ _ h_ => h_.elim)
  obtain ⟨J8, L9, rfl, rfl, h⟩ := h_
  show xJ _ _ _ _ _ _ _ _ _ 35 [(0, .ref 491), (1, .int (oI p1))] [] _ _ _ (zi J8) (li L9)
  refine xr_aload_n (xd dX12_chance 21 rfl) 0 rfl ?_
  refine xr_callV mX12_code 0 [] (xd dX12_chance 22 rfl) l12_254 kX12_code rfl (lt552 hn (by decide)) kd_491 (by decide) rfl (by decide) (Nat.le_of_ble_eq_true rfl) (v_X12_code hn hR  h) (by decide) (by decide) (fun r_ M_ h_ => ?_) (fun _ _ h_ => h_.elim)
  obtain ⟨J10, L11, rfl, rfl, h⟩ := h_
  show xJ _ _ _ _ _ _ _ _ _ 39 [(0, .ref 491), (1, .int (oI p1))] [] _ _ _ (zi J10) (li L11)
  refine xr_aload_n (xd dX12_chance 23 rfl) 0 rfl ?_
  refine xr_getR (b := 503) 12 19 (xd dX12_chance 24 rfl) f12_43 (by decide) (by decide) (lt552 hn (by decide)) kd_491 rfl (r_491_19 hR) ?_
  refine xr_iload_n (xd dX12_chance 25 rfl) 1 rfl ?_
  refine xr_dup2 (xd dX12_chance 26 rfl) rfl rfl ?_
  obtain ⟨o12, h⟩ := h
  refine zr_iaload (xd dX12_chance 27 rfl) (lt552 hn (by decide)) kd_503 ln_503 (by decide) o12 ?_
  refine xr_iconst (v := oI 1) (xd dX12_chance 28 rfl) (by decide) ?_
  refine zr_iadd (xd dX12_chance 29 rfl) ?_
  obtain ⟨o13, h⟩ := h
  obtain ⟨J14, e_J14⟩ : ∃ z_ : zM, z_ = zs J10 503 p1 ((J10 503 p1) + 1) := ⟨_, rfl⟩
  replace h := h J14 e_J14
  refine zr_iastore e_J14 (xd dX12_chance 30 rfl) (lt552 hn (by decide)) kd_503 ln_503 (by decide) o13 ?_
  exact xr_vret (xd dX12_chance 31 rfl) rfl (by decide) (by decide) (fun _ => rfl) ⟨_, _, rfl, rfl, h⟩
def w_X12_power (p1 : Int64) (p2 : Int64) (J : zM) (L : yM) (Q : Int64 → zM → yM → Prop) : Prop := ∀ x1 : Int64, x1 = (yrem p1 2147483647) → zl_lll (fun K2 x3 x4 x5 J6 L7 => (if 0 < (zcmp x5 0) then ∀ K12 : Int64 → zM → yM → Prop, (∀ (x9 : Int64) (J10 : zM) (L11 : yM), (∀ x13 : Int64, x13 = (yrem (x4 * x4) 2147483647) → ∀ x14 : Int64, x14 = (yshr x5 1) → K2 x9 x13 x14 J10 L11) → K12 x9 J10 L11) → (if (zcmp (x5 &&& 1) 1) = 0 then ∀ x16 : Int64, x16 = (yrem (x3 * x4) 2147483647) → K12 x16 J6 L7 else K12 x3 J6 L7) else Q x3 J6 L7)) 1 x1 p2 J L
set_option maxHeartbeats 4000000 in
set_option maxRecDepth 100000 in
theorem v_X12_power {b : Nat} {dC : Nat → ClassId} {dI : Nat → Nat → Nat} {cA : Nat → ClassId} {ts : Nat → Nat} {l : Launch} {n : Nat} {R : Nat → Nat → Option Nat} {al : Bool} (hn : 552 ≤ n) (hR : xRk R) {p1 : Int64} {p2 : Int64}  {J : zM} {L : yM} {Q : Int64 → zM → yM → Prop} (h : w_X12_power p1 p2 J L Q) : xCn (xGm b dC dI cA ts) l mX12_power [.long p1, .long p2] al (n, R, zi J, li L) 0 0 (zQ2 n R Q) (fun _ _ => False) := by
  refine xCn.ofJ (by decide) (Nat.le_of_ble_eq_true rfl) ?_
  show xJ _ _ _ _ _ _ _ _ _ 0 [(0, .long p1), (2, .long p2)] [] _ _ _ _ _
  unfold w_X12_power at h
  refine xr_lconst (v := 1) (xd dX12_power 0 rfl) (by decide) ?_
  refine xr_lstore [(0, .long p1), (2, .long p2), (4, .long 1)] (xd dX12_power 1 rfl) (by decide) rfl ?_
  refine xr_lload_n (xd dX12_power 2 rfl) 0 rfl ?_
  refine xr_ldc2_w (v := 2147483647) (xd dX12_power 3 rfl) q12_263 ?_
  refine zr_lrem (xd dX12_power 4 rfl) (by decide) ?_
  obtain ⟨x1, e_x1⟩ : ∃ z_ : Int64, z_ = (yrem p1 2147483647) := ⟨_, rfl⟩
  replace h := h x1 e_x1
  refine zr_nml e_x1 ?_
  refine xr_lstore [(0, .long p1), (2, .long p2), (4, .long 1), (6, .long x1)] (xd dX12_power 5 rfl) (by decide) rfl ?_
  refine xr_lload_n (xd dX12_power 6 rfl) 1 rfl ?_
  refine xr_lstore [(0, .long p1), (2, .long p2), (4, .long 1), (6, .long x1), (8, .long p2)] (xd dX12_power 7 rfl) (by decide) rfl ?_
  refine xJ.pick (ls' := [(4, .long 1), (6, .long x1), (8, .long p2)]) [2, 3, 4] rfl ?_
  refine h (fun x3 x4 x5 J6 L7 => xJ (xGm b dC dI cA ts) l mX12_power 0 0 (zQ2 n R Q) (fun _ _ => False) 0 0 13 [(4, .long x3), (6, .long x4), (8, .long x5)] [] al n R (zi J6) (li L7)) ?_
  intro x3 x4 x5 J6 L7 h
  show xJ _ _ _ _ _ _ _ _ _ 13 [(4, .long x3), (6, .long x4), (8, .long x5)] [] _ _ _ _ _
  refine xr_lload (xd dX12_power 8 rfl) 2 rfl ?_
  refine xr_lconst (v := 0) (xd dX12_power 9 rfl) (by decide) ?_
  refine zr_lcmp (xd dX12_power 10 rfl) ?_
  refine zr_if_le 60 (xd dX12_power 11 rfl) (by decide) (R32_of _) (fun c8 => ?_) (fun c8 => ?_)
  · replace h := ifn h c8
    refine xr_lload (xd dX12_power 35 rfl) 0 rfl ?_
    exact xr_lret (xd dX12_power 36 rfl) rfl (by decide) (by decide) (fun _ => rfl) ⟨_, _, _, rfl, rfl, h⟩
  · replace h := ifp h c8
    refine xr_lload (xd dX12_power 12 rfl) 2 rfl ?_
    refine xr_lconst (v := 1) (xd dX12_power 13 rfl) (by decide) ?_
    refine xr_land (xd dX12_power 14 rfl) ?_
    refine xr_lconst (v := 1) (xd dX12_power 15 rfl) (by decide) ?_
    refine zr_lcmp (xd dX12_power 16 rfl) ?_
    replace h := h (fun (x9 : Int64) (J10 : zM) (L11 : yM) => xJ (xGm b dC dI cA ts) l mX12_power 0 0 (zQ2 n R Q) (fun _ _ => False) 0 0 40 [(4, .long x9), (6, .long x4), (8, .long x5)] [] al n R (zi J10) (li L11)) (by
      intro x9 J10 L11 h
      show xJ _ _ _ _ _ _ _ _ _ 40 [(4, .long x9), (6, .long x4), (8, .long x5)] [] _ _ _ _ _
      refine xr_lload (xd dX12_power 24 rfl) 1 rfl ?_
      refine xr_lload (xd dX12_power 25 rfl) 1 rfl ?_
      refine xr_lmul (xd dX12_power 26 rfl) ?_
      refine xr_ldc2_w (v := 2147483647) (xd dX12_power 27 rfl) q12_263 ?_
      refine zr_lrem (xd dX12_power 28 rfl) (by decide) ?_
      obtain ⟨x13, e_x13⟩ : ∃ z_ : Int64, z_ = (yrem (x4 * x4) 2147483647) := ⟨_, rfl⟩
      replace h := h x13 e_x13
      refine zr_nml e_x13 ?_
      refine xr_lstore [(4, .long x9), (6, .long x13), (8, .long x5)] (xd dX12_power 29 rfl) (by decide) rfl ?_
      refine xr_lload (xd dX12_power 30 rfl) 2 rfl ?_
      refine xr_iconst (v := oI 1) (xd dX12_power 31 rfl) (by decide) ?_
      refine zr_lshr (xd dX12_power 32 rfl) ?_
      obtain ⟨x14, e_x14⟩ : ∃ z_ : Int64, z_ = (yshr x5 1) := ⟨_, rfl⟩
      replace h := h x14 e_x14
      refine zr_nml e_x14 ?_
      refine xr_lstore [(4, .long x9), (6, .long x13), (8, .long x14)] (xd dX12_power 33 rfl) (by decide) rfl ?_
      refine xr_goto 13 (xd dX12_power 34 rfl) (by decide) ?_
      exact h)
    refine zr_if_ne 40 (xd dX12_power 17 rfl) (by decide) (R32_of _) (fun c15 => ?_) (fun c15 => ?_)
    · replace h := ifn h c15
      exact h
    · replace h := ifp h c15
      refine xr_lload (xd dX12_power 18 rfl) 0 rfl ?_
      refine xr_lload (xd dX12_power 19 rfl) 1 rfl ?_
      refine xr_lmul (xd dX12_power 20 rfl) ?_
      refine xr_ldc2_w (v := 2147483647) (xd dX12_power 21 rfl) q12_263 ?_
      refine zr_lrem (xd dX12_power 22 rfl) (by decide) ?_
      obtain ⟨x16, e_x16⟩ : ∃ z_ : Int64, z_ = (yrem (x3 * x4) 2147483647) := ⟨_, rfl⟩
      replace h := h x16 e_x16
      refine zr_nml e_x16 ?_
      refine xr_lstore [(4, .long x16), (6, .long x4), (8, .long x5)] (xd dX12_power 23 rfl) (by decide) rfl ?_
      exact h
def w_X12_takeShare (p1 : Int) (J : zM) (L : yM) (Q : zM → yM → Prop) : Prop := w_X12_chance p1 J L (fun J1 L2 => zl_lz (fun K3 x4 x5 J6 L7 => R32 x5 ∧ (if x5 < 4 then ((0 : Int) ≤ x5 ∧ x5 < 32) ∧ ∀ x19 : Int64, x19 = ((yshl x4 8) ||| (zi2l (J6 500 x5))) → K3 x19 (x5 + 1) J6 L7 else ((0 : Int) ≤ p1 ∧ p1 < 2) ∧ ∀ L11 : yM, L11 = ys L7 504 p1 ((yrem x4 2147483646) + 1) → ((0 : Int) ≤ p1 ∧ p1 < 2) ∧ w_X12_power 7 (L11 504 p1) J6 L11 (fun r15 J13 L14 => ((0 : Int) ≤ p1 ∧ p1 < 2) ∧ ∀ L17 : yM, L17 = ys L14 505 p1 r15 → Q J13 L17))) 0 0 J1 L2)
set_option maxHeartbeats 4000000 in
set_option maxRecDepth 100000 in
theorem v_X12_takeShare {b : Nat} {dC : Nat → ClassId} {dI : Nat → Nat → Nat} {cA : Nat → ClassId} {ts : Nat → Nat} {l : Launch} {n : Nat} {R : Nat → Nat → Option Nat} {al : Bool} (hn : 552 ≤ n) (hR : xRk R) {p1 : Int}  {J : zM} {L : yM} {Q : zM → yM → Prop} (h : w_X12_takeShare p1 J L Q) : xCn (xGm b dC dI cA ts) l mX12_takeShare [.ref 491, .int (oI p1)] al (n, R, zi J, li L) 0 0 (zQ0 n R Q) (fun _ _ => False) := by
  refine xCn.ofJ (by decide) (Nat.le_of_ble_eq_true rfl) ?_
  show xJ _ _ _ _ _ _ _ _ _ 0 [(0, .ref 491), (1, .int (oI p1))] [] _ _ _ _ _
  unfold w_X12_takeShare at h
  refine xr_aload_n (xd dX12_takeShare 0 rfl) 0 rfl ?_
  refine xr_iload_n (xd dX12_takeShare 1 rfl) 1 rfl ?_
  refine xr_callV mX12_chance 1 [.int (oI p1)] (xd dX12_takeShare 2 rfl) l12_265 kX12_chance rfl (lt552 hn (by decide)) kd_491 (by decide) rfl (by decide) (Nat.le_of_ble_eq_true rfl) (v_X12_chance hn hR  h) (by decide) (by decide) (fun r_ M_ h_ => ?_) (fun _ _ h_ => h_.elim)
  obtain ⟨J1, L2, rfl, rfl, h⟩ := h_
  show xJ _ _ _ _ _ _ _ _ _ 5 [(0, .ref 491), (1, .int (oI p1))] [] _ _ _ (zi J1) (li L2)
  refine xr_lconst (v := 0) (xd dX12_takeShare 3 rfl) (by decide) ?_
  refine xr_lstore_n [(0, .ref 491), (1, .int (oI p1)), (2, .long 0)] (xd dX12_takeShare 4 rfl) rfl (by decide) rfl ?_
  refine xr_iconst (v := oI 0) (xd dX12_takeShare 5 rfl) (by decide) ?_
  refine xr_istore [(0, .ref 491), (1, .int (oI p1)), (2, .long 0), (4, .int (oI 0))] (xd dX12_takeShare 6 rfl) (by decide) rfl ?_
  refine h (fun x4 x5 J6 L7 => xJ (xGm b dC dI cA ts) l mX12_takeShare 0 0 (zQ0 n R Q) (fun _ _ => False) 0 0 10 [(0, .ref 491), (1, .int (oI p1)), (2, .long x4), (4, .int (oI x5))] [] al n R (zi J6) (li L7)) ?_
  intro x4 x5 J6 L7 h
  show xJ _ _ _ _ _ _ _ _ _ 10 [(0, .ref 491), (1, .int (oI p1)), (2, .long x4), (4, .int (oI x5))] [] _ _ _ _ _
  refine xr_iload (xd dX12_takeShare 7 rfl) 3 rfl ?_
  refine xr_iconst (v := oI 4) (xd dX12_takeShare 8 rfl) (by decide) ?_
  obtain ⟨o8, h⟩ := h
  refine zr_icmp_ge 36 (xd dX12_takeShare 9 rfl) (by decide) o8 (by decide) (fun c9 => ?_) (fun c9 => ?_)
  · replace h := ifn h c9
    refine xr_aload_n (xd dX12_takeShare 22 rfl) 0 rfl ?_
    refine xr_getR (b := 504) 12 20 (xd dX12_takeShare 23 rfl) f12_46 (by decide) (by decide) (lt552 hn (by decide)) kd_491 rfl (r_491_20 hR) ?_
    refine xr_iload_n (xd dX12_takeShare 24 rfl) 1 rfl ?_
    refine xr_lload_n (xd dX12_takeShare 25 rfl) 2 rfl ?_
    refine xr_ldc2_w (v := 2147483646) (xd dX12_takeShare 26 rfl) q12_268 ?_
    refine zr_lrem (xd dX12_takeShare 27 rfl) (by decide) ?_
    refine xr_lconst (v := 1) (xd dX12_takeShare 28 rfl) (by decide) ?_
    refine xr_ladd (xd dX12_takeShare 29 rfl) ?_
    obtain ⟨o10, h⟩ := h
    obtain ⟨L11, e_L11⟩ : ∃ z_ : yM, z_ = ys L7 504 p1 ((yrem x4 2147483646) + 1) := ⟨_, rfl⟩
    replace h := h L11 e_L11
    refine zr_lastore e_L11 (xd dX12_takeShare 30 rfl) (lt552 hn (by decide)) kd_504 ln_504 (by decide) o10 ?_
    refine xr_aload_n (xd dX12_takeShare 31 rfl) 0 rfl ?_
    refine xr_getR (b := 505) 12 21 (xd dX12_takeShare 32 rfl) f12_50 (by decide) (by decide) (lt552 hn (by decide)) kd_491 rfl (r_491_21 hR) ?_
    refine xr_iload_n (xd dX12_takeShare 33 rfl) 1 rfl ?_
    refine xr_ldc2_w (v := 7) (xd dX12_takeShare 34 rfl) q12_270 ?_
    refine xr_aload_n (xd dX12_takeShare 35 rfl) 0 rfl ?_
    refine xr_getR (b := 504) 12 20 (xd dX12_takeShare 36 rfl) f12_46 (by decide) (by decide) (lt552 hn (by decide)) kd_491 rfl (r_491_20 hR) ?_
    refine xr_iload_n (xd dX12_takeShare 37 rfl) 1 rfl ?_
    obtain ⟨o12, h⟩ := h
    refine zr_laload (xd dX12_takeShare 38 rfl) (lt552 hn (by decide)) kd_504 ln_504 (by decide) o12 ?_
    refine xr_callS mX12_power 2 [.long 7, .long (L11 504 p1)] (xd dX12_takeShare 39 rfl) l12_272 kX12_power rfl rfl (by decide) (Nat.le_of_ble_eq_true rfl) (v_X12_power hn hR  h) (by decide) (by decide) (fun r_ M_ h_ => ?_) (fun _ _ h_ => h_.elim)
    obtain ⟨r15, J13, L14, rfl, rfl, h⟩ := h_
    show xJ _ _ _ _ _ _ _ _ _ 66 [(0, .ref 491), (1, .int (oI p1)), (2, .long x4), (4, .int (oI x5))] [.long r15, .int (oI p1), .ref 505] _ _ _ (zi J13) (li L14)
    obtain ⟨o16, h⟩ := h
    obtain ⟨L17, e_L17⟩ : ∃ z_ : yM, z_ = ys L14 505 p1 r15 := ⟨_, rfl⟩
    replace h := h L17 e_L17
    refine zr_lastore e_L17 (xd dX12_takeShare 40 rfl) (lt552 hn (by decide)) kd_505 ln_505 (by decide) o16 ?_
    exact xr_vret (xd dX12_takeShare 41 rfl) rfl (by decide) (by decide) (fun _ => rfl) ⟨_, _, rfl, rfl, h⟩
  · replace h := ifp h c9
    refine xr_lload_n (xd dX12_takeShare 10 rfl) 2 rfl ?_
    refine xr_bipush (v := oI 8) (xd dX12_takeShare 11 rfl) (by decide) ?_
    refine zr_lshl (xd dX12_takeShare 12 rfl) ?_
    refine xr_aload_n (xd dX12_takeShare 13 rfl) 0 rfl ?_
    refine xr_getR (b := 500) 12 16 (xd dX12_takeShare 14 rfl) f12_34 (by decide) (by decide) (lt552 hn (by decide)) kd_491 rfl (r_491_16 hR) ?_
    refine xr_iload (xd dX12_takeShare 15 rfl) 3 rfl ?_
    obtain ⟨o18, h⟩ := h
    refine zr_iaload (xd dX12_takeShare 16 rfl) (lt552 hn (by decide)) kd_500 ln_500 (by decide) o18 ?_
    refine zr_i2l (xd dX12_takeShare 17 rfl) ?_
    refine xr_lor (xd dX12_takeShare 18 rfl) ?_
    obtain ⟨x19, e_x19⟩ : ∃ z_ : Int64, z_ = ((yshl x4 8) ||| (zi2l (J6 500 x5))) := ⟨_, rfl⟩
    replace h := h x19 e_x19
    refine zr_nml e_x19 ?_
    refine xr_lstore_n [(0, .ref 491), (1, .int (oI p1)), (2, .long x19), (4, .int (oI x5))] (xd dX12_takeShare 19 rfl) rfl (by decide) rfl ?_
    refine zr_iinc [(0, .ref 491), (1, .int (oI p1)), (2, .long x19), (4, .int (oI (x5 + 1)))] (xd dX12_takeShare 20 rfl) 3 rfl (by decide) rfl ?_
    refine xr_goto 10 (xd dX12_takeShare 21 rfl) (by decide) ?_
    exact h
def w_X12_early (p1 : Int) (J : zM) (L : yM) (Q : zM → yM → Prop) : Prop := zl_z (fun K1 x2 J3 L4 => R32 x2 ∧ (if x2 < 64 then ((0 : Int) ≤ x2 ∧ x2 < 64) ∧ ∀ J16 : zM, J16 = zs J3 501 x2 0 → K1 (x2 + 1) J16 L4 else w_X12_beginCode J3 L4 (fun J7 L8 => w_X12_addOwn ((1024 * p1) + 0) 16 J7 L8 (fun J9 L10 => w_X12_code J9 L10 (fun J11 L12 => w_X12_store ((1024 * p1) + 32) 32 J11 L12 (fun J13 L14 => Q J13 L14)))))) 0 J L
set_option maxHeartbeats 4000000 in
set_option maxRecDepth 100000 in
theorem v_X12_early {b : Nat} {dC : Nat → ClassId} {dI : Nat → Nat → Nat} {cA : Nat → ClassId} {ts : Nat → Nat} {l : Launch} {n : Nat} {R : Nat → Nat → Option Nat} {al : Bool} (hn : 552 ≤ n) (hR : xRk R) {p1 : Int}  {J : zM} {L : yM} {Q : zM → yM → Prop} (h : w_X12_early p1 J L Q) : xCn (xGm b dC dI cA ts) l mX12_early [.ref 491, .int (oI p1)] al (n, R, zi J, li L) 0 0 (zQ0 n R Q) (fun _ _ => False) := by
  refine xCn.ofJ (by decide) (Nat.le_of_ble_eq_true rfl) ?_
  show xJ _ _ _ _ _ _ _ _ _ 0 [(0, .ref 491), (1, .int (oI p1))] [] _ _ _ _ _
  unfold w_X12_early at h
  refine xr_iconst (v := oI 0) (xd dX12_early 0 rfl) (by decide) ?_
  refine xr_istore_n [(0, .ref 491), (1, .int (oI p1)), (2, .int (oI 0))] (xd dX12_early 1 rfl) rfl (by decide) rfl ?_
  refine h (fun x2 J3 L4 => xJ (xGm b dC dI cA ts) l mX12_early 0 0 (zQ0 n R Q) (fun _ _ => False) 0 0 2 [(0, .ref 491), (1, .int (oI p1)), (2, .int (oI x2))] [] al n R (zi J3) (li L4)) ?_
  intro x2 J3 L4 h
  show xJ _ _ _ _ _ _ _ _ _ 2 [(0, .ref 491), (1, .int (oI p1)), (2, .int (oI x2))] [] _ _ _ _ _
  refine xr_iload_n (xd dX12_early 2 rfl) 2 rfl ?_
  refine xr_bipush (v := oI 64) (xd dX12_early 3 rfl) (by decide) ?_
  obtain ⟨o5, h⟩ := h
  refine zr_icmp_ge 21 (xd dX12_early 4 rfl) (by decide) o5 (by decide) (fun c6 => ?_) (fun c6 => ?_)
  · replace h := ifn h c6
    refine xr_aload_n (xd dX12_early 12 rfl) 0 rfl ?_
    refine xr_callV mX12_beginCode 0 [] (xd dX12_early 13 rfl) l12_247 kX12_beginCode rfl (lt552 hn (by decide)) kd_491 (by decide) rfl (by decide) (Nat.le_of_ble_eq_true rfl) (v_X12_beginCode hn hR  h) (by decide) (by decide) (fun r_ M_ h_ => ?_) (fun _ _ h_ => h_.elim)
    obtain ⟨J7, L8, rfl, rfl, h⟩ := h_
    show xJ _ _ _ _ _ _ _ _ _ 25 [(0, .ref 491), (1, .int (oI p1)), (2, .int (oI x2))] [] _ _ _ (zi J7) (li L8)
    refine xr_aload_n (xd dX12_early 14 rfl) 0 rfl ?_
    refine xr_sipush (v := oI 1024) (xd dX12_early 15 rfl) (by decide) ?_
    refine xr_iload_n (xd dX12_early 16 rfl) 1 rfl ?_
    refine zr_imul (xd dX12_early 17 rfl) ?_
    refine xr_iconst (v := oI 0) (xd dX12_early 18 rfl) (by decide) ?_
    refine zr_iadd (xd dX12_early 19 rfl) ?_
    refine xr_bipush (v := oI 16) (xd dX12_early 20 rfl) (by decide) ?_
    refine xr_callV mX12_addOwn 2 [.int (oI ((1024 * p1) + 0)), .int (oI 16)] (xd dX12_early 21 rfl) l12_276 kX12_addOwn rfl (lt552 hn (by decide)) kd_491 (by decide) rfl (by decide) (Nat.le_of_ble_eq_true rfl) (v_X12_addOwn hn hR  h) (by decide) (by decide) (fun r_ M_ h_ => ?_) (fun _ _ h_ => h_.elim)
    obtain ⟨J9, L10, rfl, rfl, h⟩ := h_
    show xJ _ _ _ _ _ _ _ _ _ 38 [(0, .ref 491), (1, .int (oI p1)), (2, .int (oI x2))] [] _ _ _ (zi J9) (li L10)
    refine xr_aload_n (xd dX12_early 22 rfl) 0 rfl ?_
    refine xr_callV mX12_code 0 [] (xd dX12_early 23 rfl) l12_254 kX12_code rfl (lt552 hn (by decide)) kd_491 (by decide) rfl (by decide) (Nat.le_of_ble_eq_true rfl) (v_X12_code hn hR  h) (by decide) (by decide) (fun r_ M_ h_ => ?_) (fun _ _ h_ => h_.elim)
    obtain ⟨J11, L12, rfl, rfl, h⟩ := h_
    show xJ _ _ _ _ _ _ _ _ _ 42 [(0, .ref 491), (1, .int (oI p1)), (2, .int (oI x2))] [] _ _ _ (zi J11) (li L12)
    refine xr_aload_n (xd dX12_early 24 rfl) 0 rfl ?_
    refine xr_sipush (v := oI 1024) (xd dX12_early 25 rfl) (by decide) ?_
    refine xr_iload_n (xd dX12_early 26 rfl) 1 rfl ?_
    refine zr_imul (xd dX12_early 27 rfl) ?_
    refine xr_bipush (v := oI 32) (xd dX12_early 28 rfl) (by decide) ?_
    refine zr_iadd (xd dX12_early 29 rfl) ?_
    refine xr_bipush (v := oI 32) (xd dX12_early 30 rfl) (by decide) ?_
    refine xr_callV mX12_store 2 [.int (oI ((1024 * p1) + 32)), .int (oI 32)] (xd dX12_early 31 rfl) l12_279 kX12_store rfl (lt552 hn (by decide)) kd_491 (by decide) rfl (by decide) (Nat.le_of_ble_eq_true rfl) (v_X12_store hn hR  h) (by decide) (by decide) (fun r_ M_ h_ => ?_) (fun _ _ h_ => h_.elim)
    obtain ⟨J13, L14, rfl, rfl, h⟩ := h_
    show xJ _ _ _ _ _ _ _ _ _ 56 [(0, .ref 491), (1, .int (oI p1)), (2, .int (oI x2))] [] _ _ _ (zi J13) (li L14)
    exact xr_vret (xd dX12_early 32 rfl) rfl (by decide) (by decide) (fun _ => rfl) ⟨_, _, rfl, rfl, h⟩
  · replace h := ifp h c6
    refine xr_aload_n (xd dX12_early 5 rfl) 0 rfl ?_
    refine xr_getR (b := 501) 12 17 (xd dX12_early 6 rfl) f12_37 (by decide) (by decide) (lt552 hn (by decide)) kd_491 rfl (r_491_17 hR) ?_
    refine xr_iload_n (xd dX12_early 7 rfl) 2 rfl ?_
    refine xr_iconst (v := oI 0) (xd dX12_early 8 rfl) (by decide) ?_
    obtain ⟨o15, h⟩ := h
    obtain ⟨J16, e_J16⟩ : ∃ z_ : zM, z_ = zs J3 501 x2 0 := ⟨_, rfl⟩
    replace h := h J16 e_J16
    refine zr_iastore e_J16 (xd dX12_early 9 rfl) (lt552 hn (by decide)) kd_501 ln_501 (by decide) o15 ?_
    refine zr_iinc [(0, .ref 491), (1, .int (oI p1)), (2, .int (oI (x2 + 1)))] (xd dX12_early 10 rfl) 2 rfl (by decide) rfl ?_
    refine xr_goto 2 (xd dX12_early 11 rfl) (by decide) ?_
    exact h
def w_X12_addMessage (p1 : Int) (J : zM) (L : yM) (Q : zM → yM → Prop) : Prop := ((0 : Int) ≤ (p1 + 1) ∧ (p1 + 1) < 2048) ∧ ((0 : Int) ≤ (p1 + 2) ∧ (p1 + 2) < 2048) ∧ w_X12_addOwn p1 ((3 + (256 * (J 492 (p1 + 1)))) + (J 492 (p1 + 2))) J L (fun J3 L4 => Q J3 L4)
set_option maxHeartbeats 4000000 in
set_option maxRecDepth 100000 in
theorem v_X12_addMessage {b : Nat} {dC : Nat → ClassId} {dI : Nat → Nat → Nat} {cA : Nat → ClassId} {ts : Nat → Nat} {l : Launch} {n : Nat} {R : Nat → Nat → Option Nat} {al : Bool} (hn : 552 ≤ n) (hR : xRk R) {p1 : Int}  {J : zM} {L : yM} {Q : zM → yM → Prop} (h : w_X12_addMessage p1 J L Q) : xCn (xGm b dC dI cA ts) l mX12_addMessage [.ref 491, .int (oI p1)] al (n, R, zi J, li L) 0 0 (zQ0 n R Q) (fun _ _ => False) := by
  refine xCn.ofJ (by decide) (Nat.le_of_ble_eq_true rfl) ?_
  show xJ _ _ _ _ _ _ _ _ _ 0 [(0, .ref 491), (1, .int (oI p1))] [] _ _ _ _ _
  unfold w_X12_addMessage at h
  refine xr_aload_n (xd dX12_addMessage 0 rfl) 0 rfl ?_
  refine xr_iload_n (xd dX12_addMessage 1 rfl) 1 rfl ?_
  refine xr_iconst (v := oI 3) (xd dX12_addMessage 2 rfl) (by decide) ?_
  refine xr_sipush (v := oI 256) (xd dX12_addMessage 3 rfl) (by decide) ?_
  refine xr_aload_n (xd dX12_addMessage 4 rfl) 0 rfl ?_
  refine xr_getR (b := 492) 12 5 (xd dX12_addMessage 5 rfl) f12_7 (by decide) (by decide) (lt552 hn (by decide)) kd_491 rfl (r_491_5 hR) ?_
  refine xr_iload_n (xd dX12_addMessage 6 rfl) 1 rfl ?_
  refine xr_iconst (v := oI 1) (xd dX12_addMessage 7 rfl) (by decide) ?_
  refine zr_iadd (xd dX12_addMessage 8 rfl) ?_
  obtain ⟨o1, h⟩ := h
  refine zr_iaload (xd dX12_addMessage 9 rfl) (lt552 hn (by decide)) kd_492 ln_492 (by decide) o1 ?_
  refine zr_imul (xd dX12_addMessage 10 rfl) ?_
  refine zr_iadd (xd dX12_addMessage 11 rfl) ?_
  refine xr_aload_n (xd dX12_addMessage 12 rfl) 0 rfl ?_
  refine xr_getR (b := 492) 12 5 (xd dX12_addMessage 13 rfl) f12_7 (by decide) (by decide) (lt552 hn (by decide)) kd_491 rfl (r_491_5 hR) ?_
  refine xr_iload_n (xd dX12_addMessage 14 rfl) 1 rfl ?_
  refine xr_iconst (v := oI 2) (xd dX12_addMessage 15 rfl) (by decide) ?_
  refine zr_iadd (xd dX12_addMessage 16 rfl) ?_
  obtain ⟨o2, h⟩ := h
  refine zr_iaload (xd dX12_addMessage 17 rfl) (lt552 hn (by decide)) kd_492 ln_492 (by decide) o2 ?_
  refine zr_iadd (xd dX12_addMessage 18 rfl) ?_
  refine xr_callV mX12_addOwn 2 [.int (oI p1), .int (oI ((3 + (256 * (J 492 (p1 + 1)))) + (J 492 (p1 + 2))))] (xd dX12_addMessage 19 rfl) l12_276 kX12_addOwn rfl (lt552 hn (by decide)) kd_491 (by decide) rfl (by decide) (Nat.le_of_ble_eq_true rfl) (v_X12_addOwn hn hR  h) (by decide) (by decide) (fun r_ M_ h_ => ?_) (fun _ _ h_ => h_.elim)
  obtain ⟨J3, L4, rfl, rfl, h⟩ := h_
  show xJ _ _ _ _ _ _ _ _ _ 28 [(0, .ref 491), (1, .int (oI p1))] [] _ _ _ (zi J3) (li L4)
  exact xr_vret (xd dX12_addMessage 20 rfl) rfl (by decide) (by decide) (fun _ => rfl) ⟨_, _, rfl, rfl, h⟩
def w_X12_transcript (p1 : Int) (p2 : Int) (J : zM) (L : yM) (Q : zM → yM → Prop) : Prop := ∀ J1 : zM, J1 = zs J 491 13 0 → ∀ x2 : Int, x2 = (1024 * p1) → w_X12_addMessage (x2 + 512) J1 L (fun J3 L4 => ∀ K7 : zM → yM → Prop, (∀ (J5 : zM) (L6 : yM), (∀ K10 : zM → yM → Prop, (∀ (J8 : zM) (L9 : yM), (∀ K13 : zM → yM → Prop, (∀ (J11 : zM) (L12 : yM), (w_X12_hashFrom 0 J11 L12 (fun J14 L15 => Q J14 L15)) → K13 J11 L12) → R32 p2 ∧ (if 3 < p2 then w_X12_addMessage (x2 + 790) J8 L9 (fun J18 L19 => K13 J18 L19) else K13 J8 L9)) → K10 J8 L9) → R32 p2 ∧ (if 2 < p2 then w_X12_addMessage (x2 + 630) J5 L6 (fun J22 L23 => K10 J22 L23) else K10 J5 L6)) → K7 J5 L6) → R32 p2 ∧ (if 1 < p2 then w_X12_addMessage (x2 + 600) J3 L4 (fun J26 L27 => K7 J26 L27) else K7 J3 L4))
set_option maxHeartbeats 4000000 in
set_option maxRecDepth 100000 in
theorem v_X12_transcript {b : Nat} {dC : Nat → ClassId} {dI : Nat → Nat → Nat} {cA : Nat → ClassId} {ts : Nat → Nat} {l : Launch} {n : Nat} {R : Nat → Nat → Option Nat} {al : Bool} (hn : 552 ≤ n) (hR : xRk R) {p1 : Int} {p2 : Int}  {J : zM} {L : yM} {Q : zM → yM → Prop} (h : w_X12_transcript p1 p2 J L Q) : xCn (xGm b dC dI cA ts) l mX12_transcript [.ref 491, .int (oI p1), .int (oI p2)] al (n, R, zi J, li L) 0 0 (zQ0 n R Q) (fun _ _ => False) := by
  refine xCn.ofJ (by decide) (Nat.le_of_ble_eq_true rfl) ?_
  show xJ _ _ _ _ _ _ _ _ _ 0 [(0, .ref 491), (1, .int (oI p1)), (2, .int (oI p2))] [] _ _ _ _ _
  unfold w_X12_transcript at h
  refine xr_aload_n (xd dX12_transcript 0 rfl) 0 rfl ?_
  refine xr_iconst (v := oI 0) (xd dX12_transcript 1 rfl) (by decide) ?_
  obtain ⟨J1, e_J1⟩ : ∃ z_ : zM, z_ = zs J 491 13 0 := ⟨_, rfl⟩
  replace h := h J1 e_J1
  refine zr_putI 12 13 13 rfl e_J1 (xd dX12_transcript 2 rfl) f12_229 (by decide) (by decide) (lt552 hn (by decide)) kd_491 (Or.inl rfl) rfl rfl (fun _ => rfl) ?_
  refine xr_sipush (v := oI 1024) (xd dX12_transcript 3 rfl) (by decide) ?_
  refine xr_iload_n (xd dX12_transcript 4 rfl) 1 rfl ?_
  refine zr_imul (xd dX12_transcript 5 rfl) ?_
  obtain ⟨x2, e_x2⟩ : ∃ z_ : Int, z_ = (1024 * p1) := ⟨_, rfl⟩
  replace h := h x2 e_x2
  refine zr_nm e_x2 ?_
  refine xr_istore_n [(0, .ref 491), (1, .int (oI p1)), (2, .int (oI p2)), (3, .int (oI x2))] (xd dX12_transcript 6 rfl) rfl (by decide) rfl ?_
  refine xr_aload_n (xd dX12_transcript 7 rfl) 0 rfl ?_
  refine xr_iload_n (xd dX12_transcript 8 rfl) 3 rfl ?_
  refine xr_sipush (v := oI 512) (xd dX12_transcript 9 rfl) (by decide) ?_
  refine zr_iadd (xd dX12_transcript 10 rfl) ?_
  refine xr_callV mX12_addMessage 1 [.int (oI (x2 + 512))] (xd dX12_transcript 11 rfl) l12_282 kX12_addMessage rfl (lt552 hn (by decide)) kd_491 (by decide) rfl (by decide) (Nat.le_of_ble_eq_true rfl) (v_X12_addMessage hn hR  h) (by decide) (by decide) (fun r_ M_ h_ => ?_) (fun _ _ h_ => h_.elim)
  obtain ⟨J3, L4, rfl, rfl, h⟩ := h_
  show xJ _ _ _ _ _ _ _ _ _ 20 [(0, .ref 491), (1, .int (oI p1)), (2, .int (oI p2)), (3, .int (oI x2))] [] _ _ _ (zi J3) (li L4)
  refine xr_iload_n (xd dX12_transcript 12 rfl) 2 rfl ?_
  refine xr_iconst (v := oI 1) (xd dX12_transcript 13 rfl) (by decide) ?_
  replace h := h (fun (J5 : zM) (L6 : yM) => xJ (xGm b dC dI cA ts) l mX12_transcript 0 0 (zQ0 n R Q) (fun _ _ => False) 0 0 34 [(0, .ref 491), (2, .int (oI p2)), (3, .int (oI x2))] [] al n R (zi J5) (li L6)) (by
    intro J5 L6 h
    show xJ _ _ _ _ _ _ _ _ _ 34 [(0, .ref 491), (2, .int (oI p2)), (3, .int (oI x2))] [] _ _ _ _ _
    refine xr_iload_n (xd dX12_transcript 20 rfl) 1 rfl ?_
    refine xr_iconst (v := oI 2) (xd dX12_transcript 21 rfl) (by decide) ?_
    replace h := h (fun (J8 : zM) (L9 : yM) => xJ (xGm b dC dI cA ts) l mX12_transcript 0 0 (zQ0 n R Q) (fun _ _ => False) 0 0 48 [(0, .ref 491), (2, .int (oI p2)), (3, .int (oI x2))] [] al n R (zi J8) (li L9)) (by
      intro J8 L9 h
      show xJ _ _ _ _ _ _ _ _ _ 48 [(0, .ref 491), (2, .int (oI p2)), (3, .int (oI x2))] [] _ _ _ _ _
      refine xr_iload_n (xd dX12_transcript 28 rfl) 1 rfl ?_
      refine xr_iconst (v := oI 3) (xd dX12_transcript 29 rfl) (by decide) ?_
      replace h := h (fun (J11 : zM) (L12 : yM) => xJ (xGm b dC dI cA ts) l mX12_transcript 0 0 (zQ0 n R Q) (fun _ _ => False) 0 0 62 [(0, .ref 491)] [] al n R (zi J11) (li L12)) (by
        intro J11 L12 h
        show xJ _ _ _ _ _ _ _ _ _ 62 [(0, .ref 491)] [] _ _ _ _ _
        refine xr_aload_n (xd dX12_transcript 36 rfl) 0 rfl ?_
        refine xr_iconst (v := oI 0) (xd dX12_transcript 37 rfl) (by decide) ?_
        refine xr_callV mX12_hashFrom 1 [.int (oI 0)] (xd dX12_transcript 38 rfl) l12_241 kX12_hashFrom rfl (lt552 hn (by decide)) kd_491 (by decide) rfl (by decide) (Nat.le_of_ble_eq_true rfl) (v_X12_hashFrom hn hR  h) (by decide) (by decide) (fun r_ M_ h_ => ?_) (fun _ _ h_ => h_.elim)
        obtain ⟨J14, L15, rfl, rfl, h⟩ := h_
        show xJ _ _ _ _ _ _ _ _ _ 67 [(0, .ref 491)] [] _ _ _ (zi J14) (li L15)
        exact xr_vret (xd dX12_transcript 39 rfl) rfl (by decide) (by decide) (fun _ => rfl) ⟨_, _, rfl, rfl, h⟩)
      obtain ⟨o16, h⟩ := h
      refine zr_icmp_le 62 (xd dX12_transcript 30 rfl) (by decide) o16 (by decide) (fun c17 => ?_) (fun c17 => ?_)
      · replace h := ifn h c17
        refine xJ.pick (ls' := [(0, .ref 491)]) [0] rfl ?_
        exact h
      · replace h := ifp h c17
        refine xr_aload_n (xd dX12_transcript 31 rfl) 0 rfl ?_
        refine xr_iload_n (xd dX12_transcript 32 rfl) 2 rfl ?_
        refine xr_sipush (v := oI 790) (xd dX12_transcript 33 rfl) (by decide) ?_
        refine zr_iadd (xd dX12_transcript 34 rfl) ?_
        refine xr_callV mX12_addMessage 1 [.int (oI (x2 + 790))] (xd dX12_transcript 35 rfl) l12_282 kX12_addMessage rfl (lt552 hn (by decide)) kd_491 (by decide) rfl (by decide) (Nat.le_of_ble_eq_true rfl) (v_X12_addMessage hn hR  h) (by decide) (by decide) (fun r_ M_ h_ => ?_) (fun _ _ h_ => h_.elim)
        obtain ⟨J18, L19, rfl, rfl, h⟩ := h_
        show xJ _ _ _ _ _ _ _ _ _ 62 [(0, .ref 491), (2, .int (oI p2)), (3, .int (oI x2))] [] _ _ _ (zi J18) (li L19)
        refine xJ.pick (ls' := [(0, .ref 491)]) [0] rfl ?_
        exact h)
    obtain ⟨o20, h⟩ := h
    refine zr_icmp_le 48 (xd dX12_transcript 22 rfl) (by decide) o20 (by decide) (fun c21 => ?_) (fun c21 => ?_)
    · replace h := ifn h c21
      exact h
    · replace h := ifp h c21
      refine xr_aload_n (xd dX12_transcript 23 rfl) 0 rfl ?_
      refine xr_iload_n (xd dX12_transcript 24 rfl) 2 rfl ?_
      refine xr_sipush (v := oI 630) (xd dX12_transcript 25 rfl) (by decide) ?_
      refine zr_iadd (xd dX12_transcript 26 rfl) ?_
      refine xr_callV mX12_addMessage 1 [.int (oI (x2 + 630))] (xd dX12_transcript 27 rfl) l12_282 kX12_addMessage rfl (lt552 hn (by decide)) kd_491 (by decide) rfl (by decide) (Nat.le_of_ble_eq_true rfl) (v_X12_addMessage hn hR  h) (by decide) (by decide) (fun r_ M_ h_ => ?_) (fun _ _ h_ => h_.elim)
      obtain ⟨J22, L23, rfl, rfl, h⟩ := h_
      show xJ _ _ _ _ _ _ _ _ _ 48 [(0, .ref 491), (2, .int (oI p2)), (3, .int (oI x2))] [] _ _ _ (zi J22) (li L23)
      exact h)
  obtain ⟨o24, h⟩ := h
  refine zr_icmp_le 34 (xd dX12_transcript 14 rfl) (by decide) o24 (by decide) (fun c25 => ?_) (fun c25 => ?_)
  · replace h := ifn h c25
    refine xJ.pick (ls' := [(0, .ref 491), (2, .int (oI p2)), (3, .int (oI x2))]) [0, 2, 3] rfl ?_
    exact h
  · replace h := ifp h c25
    refine xr_aload_n (xd dX12_transcript 15 rfl) 0 rfl ?_
    refine xr_iload_n (xd dX12_transcript 16 rfl) 3 rfl ?_
    refine xr_sipush (v := oI 600) (xd dX12_transcript 17 rfl) (by decide) ?_
    refine zr_iadd (xd dX12_transcript 18 rfl) ?_
    refine xr_callV mX12_addMessage 1 [.int (oI (x2 + 600))] (xd dX12_transcript 19 rfl) l12_282 kX12_addMessage rfl (lt552 hn (by decide)) kd_491 (by decide) rfl (by decide) (Nat.le_of_ble_eq_true rfl) (v_X12_addMessage hn hR  h) (by decide) (by decide) (fun r_ M_ h_ => ?_) (fun _ _ h_ => h_.elim)
    obtain ⟨J26, L27, rfl, rfl, h⟩ := h_
    show xJ _ _ _ _ _ _ _ _ _ 34 [(0, .ref 491), (1, .int (oI p1)), (2, .int (oI p2)), (3, .int (oI x2))] [] _ _ _ (zi J26) (li L27)
    refine xJ.pick (ls' := [(0, .ref 491), (2, .int (oI p2)), (3, .int (oI x2))]) [0, 2, 3] rfl ?_
    exact h
def w_X12_makeSecret (p1 : Int) (p2 : Int) (p3 : Int) (p4 : Int) (p5 : Int64) (J : zM) (L : yM) (Q : zM → yM → Prop) : Prop := ∀ x1 : Int, x1 = (1024 * p1) → w_X12_transcript p1 p4 J L (fun J2 L3 => w_X12_keyOwn (x1 + p3) 32 J2 L3 (fun J4 L5 => w_X12_expandDigest 3 p5 J4 L5 (fun J6 L7 => w_X12_store ((x1 + 128) + (32 * p2)) 32 J6 L7 (fun J8 L9 => w_X12_keyOwn ((x1 + 128) + (32 * p2)) 32 J8 L9 (fun J10 L11 => w_X12_expandNone 3 7955819 J10 L11 (fun J12 L13 => w_X12_store ((x1 + 256) + (64 * p2)) 32 J12 L13 (fun J14 L15 => w_X12_keyOwn ((x1 + 128) + (32 * p2)) 32 J14 L15 (fun J16 L17 => w_X12_expandNone 2 28275 J16 L17 (fun J18 L19 => w_X12_store (((x1 + 256) + (64 * p2)) + 32) 32 J18 L19 (fun J20 L21 => Q J20 L21))))))))))
set_option maxHeartbeats 4000000 in
set_option maxRecDepth 100000 in
theorem v_X12_makeSecret {b : Nat} {dC : Nat → ClassId} {dI : Nat → Nat → Nat} {cA : Nat → ClassId} {ts : Nat → Nat} {l : Launch} {n : Nat} {R : Nat → Nat → Option Nat} {al : Bool} (hn : 552 ≤ n) (hR : xRk R) {p1 : Int} {p2 : Int} {p3 : Int} {p4 : Int} {p5 : Int64}  {J : zM} {L : yM} {Q : zM → yM → Prop} (h : w_X12_makeSecret p1 p2 p3 p4 p5 J L Q) : xCn (xGm b dC dI cA ts) l mX12_makeSecret [.ref 491, .int (oI p1), .int (oI p2), .int (oI p3), .int (oI p4), .long p5] al (n, R, zi J, li L) 0 0 (zQ0 n R Q) (fun _ _ => False) := by
  refine xCn.ofJ (by decide) (Nat.le_of_ble_eq_true rfl) ?_
  show xJ _ _ _ _ _ _ _ _ _ 0 [(0, .ref 491), (1, .int (oI p1)), (2, .int (oI p2)), (3, .int (oI p3)), (4, .int (oI p4)), (5, .long p5)] [] _ _ _ _ _
  unfold w_X12_makeSecret at h
  refine xr_sipush (v := oI 1024) (xd dX12_makeSecret 0 rfl) (by decide) ?_
  refine xr_iload_n (xd dX12_makeSecret 1 rfl) 1 rfl ?_
  refine zr_imul (xd dX12_makeSecret 2 rfl) ?_
  obtain ⟨x1, e_x1⟩ : ∃ z_ : Int, z_ = (1024 * p1) := ⟨_, rfl⟩
  replace h := h x1 e_x1
  refine zr_nm e_x1 ?_
  refine xr_istore [(0, .ref 491), (1, .int (oI p1)), (2, .int (oI p2)), (3, .int (oI p3)), (4, .int (oI p4)), (5, .long p5), (7, .int (oI x1))] (xd dX12_makeSecret 3 rfl) (by decide) rfl ?_
  refine xr_aload_n (xd dX12_makeSecret 4 rfl) 0 rfl ?_
  refine xr_iload_n (xd dX12_makeSecret 5 rfl) 1 rfl ?_
  refine xr_iload (xd dX12_makeSecret 6 rfl) 4 rfl ?_
  refine xr_callV mX12_transcript 2 [.int (oI p1), .int (oI p4)] (xd dX12_makeSecret 7 rfl) l12_285 kX12_transcript rfl (lt552 hn (by decide)) kd_491 (by decide) rfl (by decide) (Nat.le_of_ble_eq_true rfl) (v_X12_transcript hn hR  h) (by decide) (by decide) (fun r_ M_ h_ => ?_) (fun _ _ h_ => h_.elim)
  obtain ⟨J2, L3, rfl, rfl, h⟩ := h_
  show xJ _ _ _ _ _ _ _ _ _ 14 [(0, .ref 491), (1, .int (oI p1)), (2, .int (oI p2)), (3, .int (oI p3)), (4, .int (oI p4)), (5, .long p5), (7, .int (oI x1))] [] _ _ _ (zi J2) (li L3)
  refine xr_aload_n (xd dX12_makeSecret 8 rfl) 0 rfl ?_
  refine xr_iload (xd dX12_makeSecret 9 rfl) 6 rfl ?_
  refine xr_iload_n (xd dX12_makeSecret 10 rfl) 3 rfl ?_
  refine zr_iadd (xd dX12_makeSecret 11 rfl) ?_
  refine xr_bipush (v := oI 32) (xd dX12_makeSecret 12 rfl) (by decide) ?_
  refine xr_callV mX12_keyOwn 2 [.int (oI (x1 + p3)), .int (oI 32)] (xd dX12_makeSecret 13 rfl) l12_257 kX12_keyOwn rfl (lt552 hn (by decide)) kd_491 (by decide) rfl (by decide) (Nat.le_of_ble_eq_true rfl) (v_X12_keyOwn hn hR  h) (by decide) (by decide) (fun r_ M_ h_ => ?_) (fun _ _ h_ => h_.elim)
  obtain ⟨J4, L5, rfl, rfl, h⟩ := h_
  show xJ _ _ _ _ _ _ _ _ _ 24 [(0, .ref 491), (1, .int (oI p1)), (2, .int (oI p2)), (3, .int (oI p3)), (4, .int (oI p4)), (5, .long p5), (7, .int (oI x1))] [] _ _ _ (zi J4) (li L5)
  refine xr_aload_n (xd dX12_makeSecret 14 rfl) 0 rfl ?_
  refine xr_iconst (v := oI 3) (xd dX12_makeSecret 15 rfl) (by decide) ?_
  refine xr_lload (xd dX12_makeSecret 16 rfl) 5 rfl ?_
  refine xr_callV mX12_expandDigest 2 [.int (oI 3), .long p5] (xd dX12_makeSecret 17 rfl) l12_288 kX12_expandDigest rfl (lt552 hn (by decide)) kd_491 (by decide) rfl (by decide) (Nat.le_of_ble_eq_true rfl) (v_X12_expandDigest hn hR  h) (by decide) (by decide) (fun r_ M_ h_ => ?_) (fun _ _ h_ => h_.elim)
  obtain ⟨J6, L7, rfl, rfl, h⟩ := h_
  show xJ _ _ _ _ _ _ _ _ _ 31 [(0, .ref 491), (1, .int (oI p1)), (2, .int (oI p2)), (3, .int (oI p3)), (4, .int (oI p4)), (5, .long p5), (7, .int (oI x1))] [] _ _ _ (zi J6) (li L7)
  refine xr_aload_n (xd dX12_makeSecret 18 rfl) 0 rfl ?_
  refine xr_iload (xd dX12_makeSecret 19 rfl) 6 rfl ?_
  refine xr_sipush (v := oI 128) (xd dX12_makeSecret 20 rfl) (by decide) ?_
  refine zr_iadd (xd dX12_makeSecret 21 rfl) ?_
  refine xr_bipush (v := oI 32) (xd dX12_makeSecret 22 rfl) (by decide) ?_
  refine xr_iload_n (xd dX12_makeSecret 23 rfl) 2 rfl ?_
  refine zr_imul (xd dX12_makeSecret 24 rfl) ?_
  refine zr_iadd (xd dX12_makeSecret 25 rfl) ?_
  refine xr_bipush (v := oI 32) (xd dX12_makeSecret 26 rfl) (by decide) ?_
  refine xr_callV mX12_store 2 [.int (oI ((x1 + 128) + (32 * p2))), .int (oI 32)] (xd dX12_makeSecret 27 rfl) l12_279 kX12_store rfl (lt552 hn (by decide)) kd_491 (by decide) rfl (by decide) (Nat.le_of_ble_eq_true rfl) (v_X12_store hn hR  h) (by decide) (by decide) (fun r_ M_ h_ => ?_) (fun _ _ h_ => h_.elim)
  obtain ⟨J8, L9, rfl, rfl, h⟩ := h_
  show xJ _ _ _ _ _ _ _ _ _ 48 [(0, .ref 491), (1, .int (oI p1)), (2, .int (oI p2)), (3, .int (oI p3)), (4, .int (oI p4)), (5, .long p5), (7, .int (oI x1))] [] _ _ _ (zi J8) (li L9)
  refine xr_aload_n (xd dX12_makeSecret 28 rfl) 0 rfl ?_
  refine xr_iload (xd dX12_makeSecret 29 rfl) 6 rfl ?_
  refine xr_sipush (v := oI 128) (xd dX12_makeSecret 30 rfl) (by decide) ?_
  refine zr_iadd (xd dX12_makeSecret 31 rfl) ?_
  refine xr_bipush (v := oI 32) (xd dX12_makeSecret 32 rfl) (by decide) ?_
  refine xr_iload_n (xd dX12_makeSecret 33 rfl) 2 rfl ?_
  refine zr_imul (xd dX12_makeSecret 34 rfl) ?_
  refine zr_iadd (xd dX12_makeSecret 35 rfl) ?_
  refine xr_bipush (v := oI 32) (xd dX12_makeSecret 36 rfl) (by decide) ?_
  refine xr_callV mX12_keyOwn 2 [.int (oI ((x1 + 128) + (32 * p2))), .int (oI 32)] (xd dX12_makeSecret 37 rfl) l12_257 kX12_keyOwn rfl (lt552 hn (by decide)) kd_491 (by decide) rfl (by decide) (Nat.le_of_ble_eq_true rfl) (v_X12_keyOwn hn hR  h) (by decide) (by decide) (fun r_ M_ h_ => ?_) (fun _ _ h_ => h_.elim)
  obtain ⟨J10, L11, rfl, rfl, h⟩ := h_
  show xJ _ _ _ _ _ _ _ _ _ 65 [(0, .ref 491), (1, .int (oI p1)), (2, .int (oI p2)), (3, .int (oI p3)), (4, .int (oI p4)), (5, .long p5), (7, .int (oI x1))] [] _ _ _ (zi J10) (li L11)
  refine xr_aload_n (xd dX12_makeSecret 38 rfl) 0 rfl ?_
  refine xr_iconst (v := oI 3) (xd dX12_makeSecret 39 rfl) (by decide) ?_
  refine xr_ldc2_w (v := 7955819) (xd dX12_makeSecret 40 rfl) q12_291 ?_
  refine xr_callV mX12_expandNone 2 [.int (oI 3), .long 7955819] (xd dX12_makeSecret 41 rfl) l12_293 kX12_expandNone rfl (lt552 hn (by decide)) kd_491 (by decide) rfl (by decide) (Nat.le_of_ble_eq_true rfl) (v_X12_expandNone hn hR  h) (by decide) (by decide) (fun r_ M_ h_ => ?_) (fun _ _ h_ => h_.elim)
  obtain ⟨J12, L13, rfl, rfl, h⟩ := h_
  show xJ _ _ _ _ _ _ _ _ _ 73 [(0, .ref 491), (1, .int (oI p1)), (2, .int (oI p2)), (3, .int (oI p3)), (4, .int (oI p4)), (5, .long p5), (7, .int (oI x1))] [] _ _ _ (zi J12) (li L13)
  refine xr_aload_n (xd dX12_makeSecret 42 rfl) 0 rfl ?_
  refine xr_iload (xd dX12_makeSecret 43 rfl) 6 rfl ?_
  refine xr_sipush (v := oI 256) (xd dX12_makeSecret 44 rfl) (by decide) ?_
  refine zr_iadd (xd dX12_makeSecret 45 rfl) ?_
  refine xr_bipush (v := oI 64) (xd dX12_makeSecret 46 rfl) (by decide) ?_
  refine xr_iload_n (xd dX12_makeSecret 47 rfl) 2 rfl ?_
  refine zr_imul (xd dX12_makeSecret 48 rfl) ?_
  refine zr_iadd (xd dX12_makeSecret 49 rfl) ?_
  refine xr_bipush (v := oI 32) (xd dX12_makeSecret 50 rfl) (by decide) ?_
  refine xr_callV mX12_store 2 [.int (oI ((x1 + 256) + (64 * p2))), .int (oI 32)] (xd dX12_makeSecret 51 rfl) l12_279 kX12_store rfl (lt552 hn (by decide)) kd_491 (by decide) rfl (by decide) (Nat.le_of_ble_eq_true rfl) (v_X12_store hn hR  h) (by decide) (by decide) (fun r_ M_ h_ => ?_) (fun _ _ h_ => h_.elim)
  obtain ⟨J14, L15, rfl, rfl, h⟩ := h_
  show xJ _ _ _ _ _ _ _ _ _ 90 [(0, .ref 491), (1, .int (oI p1)), (2, .int (oI p2)), (3, .int (oI p3)), (4, .int (oI p4)), (5, .long p5), (7, .int (oI x1))] [] _ _ _ (zi J14) (li L15)
  refine xr_aload_n (xd dX12_makeSecret 52 rfl) 0 rfl ?_
  refine xr_iload (xd dX12_makeSecret 53 rfl) 6 rfl ?_
  refine xr_sipush (v := oI 128) (xd dX12_makeSecret 54 rfl) (by decide) ?_
  refine zr_iadd (xd dX12_makeSecret 55 rfl) ?_
  refine xr_bipush (v := oI 32) (xd dX12_makeSecret 56 rfl) (by decide) ?_
  refine xr_iload_n (xd dX12_makeSecret 57 rfl) 2 rfl ?_
  refine zr_imul (xd dX12_makeSecret 58 rfl) ?_
  refine zr_iadd (xd dX12_makeSecret 59 rfl) ?_
  refine xr_bipush (v := oI 32) (xd dX12_makeSecret 60 rfl) (by decide) ?_
  refine xr_callV mX12_keyOwn 2 [.int (oI ((x1 + 128) + (32 * p2))), .int (oI 32)] (xd dX12_makeSecret 61 rfl) l12_257 kX12_keyOwn rfl (lt552 hn (by decide)) kd_491 (by decide) rfl (by decide) (Nat.le_of_ble_eq_true rfl) (v_X12_keyOwn hn hR  h) (by decide) (by decide) (fun r_ M_ h_ => ?_) (fun _ _ h_ => h_.elim)
  obtain ⟨J16, L17, rfl, rfl, h⟩ := h_
  show xJ _ _ _ _ _ _ _ _ _ 107 [(0, .ref 491), (1, .int (oI p1)), (2, .int (oI p2)), (3, .int (oI p3)), (4, .int (oI p4)), (5, .long p5), (7, .int (oI x1))] [] _ _ _ (zi J16) (li L17)
  refine xr_aload_n (xd dX12_makeSecret 62 rfl) 0 rfl ?_
  refine xr_iconst (v := oI 2) (xd dX12_makeSecret 63 rfl) (by decide) ?_
  refine xr_ldc2_w (v := 28275) (xd dX12_makeSecret 64 rfl) q12_296 ?_
  refine xr_callV mX12_expandNone 2 [.int (oI 2), .long 28275] (xd dX12_makeSecret 65 rfl) l12_293 kX12_expandNone rfl (lt552 hn (by decide)) kd_491 (by decide) rfl (by decide) (Nat.le_of_ble_eq_true rfl) (v_X12_expandNone hn hR  h) (by decide) (by decide) (fun r_ M_ h_ => ?_) (fun _ _ h_ => h_.elim)
  obtain ⟨J18, L19, rfl, rfl, h⟩ := h_
  show xJ _ _ _ _ _ _ _ _ _ 115 [(0, .ref 491), (1, .int (oI p1)), (2, .int (oI p2)), (3, .int (oI p3)), (4, .int (oI p4)), (5, .long p5), (7, .int (oI x1))] [] _ _ _ (zi J18) (li L19)
  refine xr_aload_n (xd dX12_makeSecret 66 rfl) 0 rfl ?_
  refine xr_iload (xd dX12_makeSecret 67 rfl) 6 rfl ?_
  refine xr_sipush (v := oI 256) (xd dX12_makeSecret 68 rfl) (by decide) ?_
  refine zr_iadd (xd dX12_makeSecret 69 rfl) ?_
  refine xr_bipush (v := oI 64) (xd dX12_makeSecret 70 rfl) (by decide) ?_
  refine xr_iload_n (xd dX12_makeSecret 71 rfl) 2 rfl ?_
  refine zr_imul (xd dX12_makeSecret 72 rfl) ?_
  refine zr_iadd (xd dX12_makeSecret 73 rfl) ?_
  refine xr_bipush (v := oI 32) (xd dX12_makeSecret 74 rfl) (by decide) ?_
  refine zr_iadd (xd dX12_makeSecret 75 rfl) ?_
  refine xr_bipush (v := oI 32) (xd dX12_makeSecret 76 rfl) (by decide) ?_
  refine xr_callV mX12_store 2 [.int (oI (((x1 + 256) + (64 * p2)) + 32)), .int (oI 32)] (xd dX12_makeSecret 77 rfl) l12_279 kX12_store rfl (lt552 hn (by decide)) kd_491 (by decide) rfl (by decide) (Nat.le_of_ble_eq_true rfl) (v_X12_store hn hR  h) (by decide) (by decide) (fun r_ M_ h_ => ?_) (fun _ _ h_ => h_.elim)
  obtain ⟨J20, L21, rfl, rfl, h⟩ := h_
  show xJ _ _ _ _ _ _ _ _ _ 135 [(0, .ref 491), (1, .int (oI p1)), (2, .int (oI p2)), (3, .int (oI p3)), (4, .int (oI p4)), (5, .long p5), (7, .int (oI x1))] [] _ _ _ (zi J20) (li L21)
  exact xr_vret (xd dX12_makeSecret 78 rfl) rfl (by decide) (by decide) (fun _ => rfl) ⟨_, _, rfl, rfl, h⟩
def w_X12_epochTwo (p1 : Int) (p2 : Int64) (J : zM) (L : yM) (Q : zM → yM → Prop) : Prop := ∀ x1 : Int, x1 = (1024 * p1) → w_X12_keyOwn (x1 + 32) 32 J L (fun J2 L3 => w_X12_expandNone 7 28259056920716644 J2 L3 (fun J4 L5 => w_X12_keyDigest J4 L5 (fun J6 L7 => w_X12_beginCode J6 L7 (fun J8 L9 => w_X12_addNumber 4 p2 J8 L9 (fun J10 L11 => w_X12_code J10 L11 (fun J12 L13 => w_X12_store (x1 + 64) 32 J12 L13 (fun J14 L15 => w_X12_keyOwn (x1 + 64) 32 J14 L15 (fun J16 L17 => w_X12_expandNone 7 28259056920716644 J16 L17 (fun J18 L19 => w_X12_keyDigest J18 L19 (fun J20 L21 => w_X12_beginCode J20 L21 (fun J22 L23 => zl_z (fun K24 x25 J26 L27 => R32 x25 ∧ (if x25 < 32 then w_X12_add 0 J26 L27 (fun J40 L41 => K24 (x25 + 1) J40 L41) else w_X12_code J26 L27 (fun J30 L31 => w_X12_store (x1 + 96) 32 J30 L31 (fun J32 L33 => w_X12_makeSecret p1 0 64 2 7563363 J32 L33 (fun J34 L35 => w_X12_makeSecret p1 1 64 2 7563379 J34 L35 (fun J36 L37 => ((0 : Int) ≤ p1 ∧ p1 < 2) ∧ ∀ J39 : zM, J39 = zs J36 506 p1 1 → Q J39 L37)))))) 0 J22 L23)))))))))))
set_option maxHeartbeats 4000000 in
set_option maxRecDepth 100000 in
theorem v_X12_epochTwo {b : Nat} {dC : Nat → ClassId} {dI : Nat → Nat → Nat} {cA : Nat → ClassId} {ts : Nat → Nat} {l : Launch} {n : Nat} {R : Nat → Nat → Option Nat} {al : Bool} (hn : 552 ≤ n) (hR : xRk R) {p1 : Int} {p2 : Int64}  {J : zM} {L : yM} {Q : zM → yM → Prop} (h : w_X12_epochTwo p1 p2 J L Q) : xCn (xGm b dC dI cA ts) l mX12_epochTwo [.ref 491, .int (oI p1), .long p2] al (n, R, zi J, li L) 0 0 (zQ0 n R Q) (fun _ _ => False) := by
  refine xCn.ofJ (by decide) (Nat.le_of_ble_eq_true rfl) ?_
  show xJ _ _ _ _ _ _ _ _ _ 0 [(0, .ref 491), (1, .int (oI p1)), (2, .long p2)] [] _ _ _ _ _
  unfold w_X12_epochTwo at h
  refine xr_sipush (v := oI 1024) (xd dX12_epochTwo 0 rfl) (by decide) ?_
  refine xr_iload_n (xd dX12_epochTwo 1 rfl) 1 rfl ?_
  refine zr_imul (xd dX12_epochTwo 2 rfl) ?_
  obtain ⟨x1, e_x1⟩ : ∃ z_ : Int, z_ = (1024 * p1) := ⟨_, rfl⟩
  replace h := h x1 e_x1
  refine zr_nm e_x1 ?_
  refine xr_istore [(0, .ref 491), (1, .int (oI p1)), (2, .long p2), (4, .int (oI x1))] (xd dX12_epochTwo 3 rfl) (by decide) rfl ?_
  refine xr_aload_n (xd dX12_epochTwo 4 rfl) 0 rfl ?_
  refine xr_iload (xd dX12_epochTwo 5 rfl) 3 rfl ?_
  refine xr_bipush (v := oI 32) (xd dX12_epochTwo 6 rfl) (by decide) ?_
  refine zr_iadd (xd dX12_epochTwo 7 rfl) ?_
  refine xr_bipush (v := oI 32) (xd dX12_epochTwo 8 rfl) (by decide) ?_
  refine xr_callV mX12_keyOwn 2 [.int (oI (x1 + 32)), .int (oI 32)] (xd dX12_epochTwo 9 rfl) l12_257 kX12_keyOwn rfl (lt552 hn (by decide)) kd_491 (by decide) rfl (by decide) (Nat.le_of_ble_eq_true rfl) (v_X12_keyOwn hn hR  h) (by decide) (by decide) (fun r_ M_ h_ => ?_) (fun _ _ h_ => h_.elim)
  obtain ⟨J2, L3, rfl, rfl, h⟩ := h_
  show xJ _ _ _ _ _ _ _ _ _ 18 [(0, .ref 491), (1, .int (oI p1)), (2, .long p2), (4, .int (oI x1))] [] _ _ _ (zi J2) (li L3)
  refine xr_aload_n (xd dX12_epochTwo 10 rfl) 0 rfl ?_
  refine xr_bipush (v := oI 7) (xd dX12_epochTwo 11 rfl) (by decide) ?_
  refine xr_ldc2_w (v := 28259056920716644) (xd dX12_epochTwo 12 rfl) q12_298 ?_
  refine xr_callV mX12_expandNone 2 [.int (oI 7), .long 28259056920716644] (xd dX12_epochTwo 13 rfl) l12_293 kX12_expandNone rfl (lt552 hn (by decide)) kd_491 (by decide) rfl (by decide) (Nat.le_of_ble_eq_true rfl) (v_X12_expandNone hn hR  h) (by decide) (by decide) (fun r_ M_ h_ => ?_) (fun _ _ h_ => h_.elim)
  obtain ⟨J4, L5, rfl, rfl, h⟩ := h_
  show xJ _ _ _ _ _ _ _ _ _ 27 [(0, .ref 491), (1, .int (oI p1)), (2, .long p2), (4, .int (oI x1))] [] _ _ _ (zi J4) (li L5)
  refine xr_aload_n (xd dX12_epochTwo 14 rfl) 0 rfl ?_
  refine xr_callV mX12_keyDigest 0 [] (xd dX12_epochTwo 15 rfl) l12_300 kX12_keyDigest rfl (lt552 hn (by decide)) kd_491 (by decide) rfl (by decide) (Nat.le_of_ble_eq_true rfl) (v_X12_keyDigest hn hR  h) (by decide) (by decide) (fun r_ M_ h_ => ?_) (fun _ _ h_ => h_.elim)
  obtain ⟨J6, L7, rfl, rfl, h⟩ := h_
  show xJ _ _ _ _ _ _ _ _ _ 31 [(0, .ref 491), (1, .int (oI p1)), (2, .long p2), (4, .int (oI x1))] [] _ _ _ (zi J6) (li L7)
  refine xr_aload_n (xd dX12_epochTwo 16 rfl) 0 rfl ?_
  refine xr_callV mX12_beginCode 0 [] (xd dX12_epochTwo 17 rfl) l12_247 kX12_beginCode rfl (lt552 hn (by decide)) kd_491 (by decide) rfl (by decide) (Nat.le_of_ble_eq_true rfl) (v_X12_beginCode hn hR  h) (by decide) (by decide) (fun r_ M_ h_ => ?_) (fun _ _ h_ => h_.elim)
  obtain ⟨J8, L9, rfl, rfl, h⟩ := h_
  show xJ _ _ _ _ _ _ _ _ _ 35 [(0, .ref 491), (1, .int (oI p1)), (2, .long p2), (4, .int (oI x1))] [] _ _ _ (zi J8) (li L9)
  refine xr_aload_n (xd dX12_epochTwo 18 rfl) 0 rfl ?_
  refine xr_iconst (v := oI 4) (xd dX12_epochTwo 19 rfl) (by decide) ?_
  refine xr_lload_n (xd dX12_epochTwo 20 rfl) 2 rfl ?_
  refine xr_callV mX12_addNumber 2 [.int (oI 4), .long p2] (xd dX12_epochTwo 21 rfl) l12_260 kX12_addNumber rfl (lt552 hn (by decide)) kd_491 (by decide) rfl (by decide) (Nat.le_of_ble_eq_true rfl) (v_X12_addNumber hn hR  h) (by decide) (by decide) (fun r_ M_ h_ => ?_) (fun _ _ h_ => h_.elim)
  obtain ⟨J10, L11, rfl, rfl, h⟩ := h_
  show xJ _ _ _ _ _ _ _ _ _ 41 [(0, .ref 491), (1, .int (oI p1)), (2, .long p2), (4, .int (oI x1))] [] _ _ _ (zi J10) (li L11)
  refine xr_aload_n (xd dX12_epochTwo 22 rfl) 0 rfl ?_
  refine xr_callV mX12_code 0 [] (xd dX12_epochTwo 23 rfl) l12_254 kX12_code rfl (lt552 hn (by decide)) kd_491 (by decide) rfl (by decide) (Nat.le_of_ble_eq_true rfl) (v_X12_code hn hR  h) (by decide) (by decide) (fun r_ M_ h_ => ?_) (fun _ _ h_ => h_.elim)
  obtain ⟨J12, L13, rfl, rfl, h⟩ := h_
  show xJ _ _ _ _ _ _ _ _ _ 45 [(0, .ref 491), (1, .int (oI p1)), (2, .long p2), (4, .int (oI x1))] [] _ _ _ (zi J12) (li L13)
  refine xr_aload_n (xd dX12_epochTwo 24 rfl) 0 rfl ?_
  refine xr_iload (xd dX12_epochTwo 25 rfl) 3 rfl ?_
  refine xr_bipush (v := oI 64) (xd dX12_epochTwo 26 rfl) (by decide) ?_
  refine zr_iadd (xd dX12_epochTwo 27 rfl) ?_
  refine xr_bipush (v := oI 32) (xd dX12_epochTwo 28 rfl) (by decide) ?_
  refine xr_callV mX12_store 2 [.int (oI (x1 + 64)), .int (oI 32)] (xd dX12_epochTwo 29 rfl) l12_279 kX12_store rfl (lt552 hn (by decide)) kd_491 (by decide) rfl (by decide) (Nat.le_of_ble_eq_true rfl) (v_X12_store hn hR  h) (by decide) (by decide) (fun r_ M_ h_ => ?_) (fun _ _ h_ => h_.elim)
  obtain ⟨J14, L15, rfl, rfl, h⟩ := h_
  show xJ _ _ _ _ _ _ _ _ _ 56 [(0, .ref 491), (1, .int (oI p1)), (2, .long p2), (4, .int (oI x1))] [] _ _ _ (zi J14) (li L15)
  refine xr_aload_n (xd dX12_epochTwo 30 rfl) 0 rfl ?_
  refine xr_iload (xd dX12_epochTwo 31 rfl) 3 rfl ?_
  refine xr_bipush (v := oI 64) (xd dX12_epochTwo 32 rfl) (by decide) ?_
  refine zr_iadd (xd dX12_epochTwo 33 rfl) ?_
  refine xr_bipush (v := oI 32) (xd dX12_epochTwo 34 rfl) (by decide) ?_
  refine xr_callV mX12_keyOwn 2 [.int (oI (x1 + 64)), .int (oI 32)] (xd dX12_epochTwo 35 rfl) l12_257 kX12_keyOwn rfl (lt552 hn (by decide)) kd_491 (by decide) rfl (by decide) (Nat.le_of_ble_eq_true rfl) (v_X12_keyOwn hn hR  h) (by decide) (by decide) (fun r_ M_ h_ => ?_) (fun _ _ h_ => h_.elim)
  obtain ⟨J16, L17, rfl, rfl, h⟩ := h_
  show xJ _ _ _ _ _ _ _ _ _ 67 [(0, .ref 491), (1, .int (oI p1)), (2, .long p2), (4, .int (oI x1))] [] _ _ _ (zi J16) (li L17)
  refine xr_aload_n (xd dX12_epochTwo 36 rfl) 0 rfl ?_
  refine xr_bipush (v := oI 7) (xd dX12_epochTwo 37 rfl) (by decide) ?_
  refine xr_ldc2_w (v := 28259056920716644) (xd dX12_epochTwo 38 rfl) q12_298 ?_
  refine xr_callV mX12_expandNone 2 [.int (oI 7), .long 28259056920716644] (xd dX12_epochTwo 39 rfl) l12_293 kX12_expandNone rfl (lt552 hn (by decide)) kd_491 (by decide) rfl (by decide) (Nat.le_of_ble_eq_true rfl) (v_X12_expandNone hn hR  h) (by decide) (by decide) (fun r_ M_ h_ => ?_) (fun _ _ h_ => h_.elim)
  obtain ⟨J18, L19, rfl, rfl, h⟩ := h_
  show xJ _ _ _ _ _ _ _ _ _ 76 [(0, .ref 491), (1, .int (oI p1)), (2, .long p2), (4, .int (oI x1))] [] _ _ _ (zi J18) (li L19)
  refine xr_aload_n (xd dX12_epochTwo 40 rfl) 0 rfl ?_
  refine xr_callV mX12_keyDigest 0 [] (xd dX12_epochTwo 41 rfl) l12_300 kX12_keyDigest rfl (lt552 hn (by decide)) kd_491 (by decide) rfl (by decide) (Nat.le_of_ble_eq_true rfl) (v_X12_keyDigest hn hR  h) (by decide) (by decide) (fun r_ M_ h_ => ?_) (fun _ _ h_ => h_.elim)
  obtain ⟨J20, L21, rfl, rfl, h⟩ := h_
  show xJ _ _ _ _ _ _ _ _ _ 80 [(0, .ref 491), (1, .int (oI p1)), (2, .long p2), (4, .int (oI x1))] [] _ _ _ (zi J20) (li L21)
  refine xr_aload_n (xd dX12_epochTwo 42 rfl) 0 rfl ?_
  refine xr_callV mX12_beginCode 0 [] (xd dX12_epochTwo 43 rfl) l12_247 kX12_beginCode rfl (lt552 hn (by decide)) kd_491 (by decide) rfl (by decide) (Nat.le_of_ble_eq_true rfl) (v_X12_beginCode hn hR  h) (by decide) (by decide) (fun r_ M_ h_ => ?_) (fun _ _ h_ => h_.elim)
  obtain ⟨J22, L23, rfl, rfl, h⟩ := h_
  show xJ _ _ _ _ _ _ _ _ _ 84 [(0, .ref 491), (1, .int (oI p1)), (2, .long p2), (4, .int (oI x1))] [] _ _ _ (zi J22) (li L23)
  refine xr_iconst (v := oI 0) (xd dX12_epochTwo 44 rfl) (by decide) ?_
  refine xr_istore [(0, .ref 491), (1, .int (oI p1)), (2, .long p2), (4, .int (oI x1)), (5, .int (oI 0))] (xd dX12_epochTwo 45 rfl) (by decide) rfl ?_
  refine xJ.pick (ls' := [(0, .ref 491), (1, .int (oI p1)), (4, .int (oI x1)), (5, .int (oI 0))]) [0, 1, 3, 4] rfl ?_
  refine h (fun x25 J26 L27 => xJ (xGm b dC dI cA ts) l mX12_epochTwo 0 0 (zQ0 n R Q) (fun _ _ => False) 0 0 87 [(0, .ref 491), (1, .int (oI p1)), (4, .int (oI x1)), (5, .int (oI x25))] [] al n R (zi J26) (li L27)) ?_
  intro x25 J26 L27 h
  show xJ _ _ _ _ _ _ _ _ _ 87 [(0, .ref 491), (1, .int (oI p1)), (4, .int (oI x1)), (5, .int (oI x25))] [] _ _ _ _ _
  refine xr_iload (xd dX12_epochTwo 46 rfl) 3 rfl ?_
  refine xr_bipush (v := oI 32) (xd dX12_epochTwo 47 rfl) (by decide) ?_
  obtain ⟨o28, h⟩ := h
  refine zr_icmp_ge 105 (xd dX12_epochTwo 48 rfl) (by decide) o28 (by decide) (fun c29 => ?_) (fun c29 => ?_)
  · replace h := ifn h c29
    refine xr_aload_n (xd dX12_epochTwo 54 rfl) 0 rfl ?_
    refine xr_callV mX12_code 0 [] (xd dX12_epochTwo 55 rfl) l12_254 kX12_code rfl (lt552 hn (by decide)) kd_491 (by decide) rfl (by decide) (Nat.le_of_ble_eq_true rfl) (v_X12_code hn hR  h) (by decide) (by decide) (fun r_ M_ h_ => ?_) (fun _ _ h_ => h_.elim)
    obtain ⟨J30, L31, rfl, rfl, h⟩ := h_
    show xJ _ _ _ _ _ _ _ _ _ 109 [(0, .ref 491), (1, .int (oI p1)), (4, .int (oI x1)), (5, .int (oI x25))] [] _ _ _ (zi J30) (li L31)
    refine xr_aload_n (xd dX12_epochTwo 56 rfl) 0 rfl ?_
    refine xr_iload (xd dX12_epochTwo 57 rfl) 2 rfl ?_
    refine xr_bipush (v := oI 96) (xd dX12_epochTwo 58 rfl) (by decide) ?_
    refine zr_iadd (xd dX12_epochTwo 59 rfl) ?_
    refine xr_bipush (v := oI 32) (xd dX12_epochTwo 60 rfl) (by decide) ?_
    refine xr_callV mX12_store 2 [.int (oI (x1 + 96)), .int (oI 32)] (xd dX12_epochTwo 61 rfl) l12_279 kX12_store rfl (lt552 hn (by decide)) kd_491 (by decide) rfl (by decide) (Nat.le_of_ble_eq_true rfl) (v_X12_store hn hR  h) (by decide) (by decide) (fun r_ M_ h_ => ?_) (fun _ _ h_ => h_.elim)
    obtain ⟨J32, L33, rfl, rfl, h⟩ := h_
    show xJ _ _ _ _ _ _ _ _ _ 120 [(0, .ref 491), (1, .int (oI p1)), (4, .int (oI x1)), (5, .int (oI x25))] [] _ _ _ (zi J32) (li L33)
    refine xr_aload_n (xd dX12_epochTwo 62 rfl) 0 rfl ?_
    refine xr_iload_n (xd dX12_epochTwo 63 rfl) 1 rfl ?_
    refine xr_iconst (v := oI 0) (xd dX12_epochTwo 64 rfl) (by decide) ?_
    refine xr_bipush (v := oI 64) (xd dX12_epochTwo 65 rfl) (by decide) ?_
    refine xr_iconst (v := oI 2) (xd dX12_epochTwo 66 rfl) (by decide) ?_
    refine xr_ldc2_w (v := 7563363) (xd dX12_epochTwo 67 rfl) q12_303 ?_
    refine xr_callV mX12_makeSecret 5 [.int (oI p1), .int (oI 0), .int (oI 64), .int (oI 2), .long 7563363] (xd dX12_epochTwo 68 rfl) l12_305 kX12_makeSecret rfl (lt552 hn (by decide)) kd_491 (by decide) rfl (by decide) (Nat.le_of_ble_eq_true rfl) (v_X12_makeSecret hn hR  h) (by decide) (by decide) (fun r_ M_ h_ => ?_) (fun _ _ h_ => h_.elim)
    obtain ⟨J34, L35, rfl, rfl, h⟩ := h_
    show xJ _ _ _ _ _ _ _ _ _ 132 [(0, .ref 491), (1, .int (oI p1)), (4, .int (oI x1)), (5, .int (oI x25))] [] _ _ _ (zi J34) (li L35)
    refine xr_aload_n (xd dX12_epochTwo 69 rfl) 0 rfl ?_
    refine xr_iload_n (xd dX12_epochTwo 70 rfl) 1 rfl ?_
    refine xr_iconst (v := oI 1) (xd dX12_epochTwo 71 rfl) (by decide) ?_
    refine xr_bipush (v := oI 64) (xd dX12_epochTwo 72 rfl) (by decide) ?_
    refine xr_iconst (v := oI 2) (xd dX12_epochTwo 73 rfl) (by decide) ?_
    refine xr_ldc2_w (v := 7563379) (xd dX12_epochTwo 74 rfl) q12_309 ?_
    refine xr_callV mX12_makeSecret 5 [.int (oI p1), .int (oI 1), .int (oI 64), .int (oI 2), .long 7563379] (xd dX12_epochTwo 75 rfl) l12_305 kX12_makeSecret rfl (lt552 hn (by decide)) kd_491 (by decide) rfl (by decide) (Nat.le_of_ble_eq_true rfl) (v_X12_makeSecret hn hR  h) (by decide) (by decide) (fun r_ M_ h_ => ?_) (fun _ _ h_ => h_.elim)
    obtain ⟨J36, L37, rfl, rfl, h⟩ := h_
    show xJ _ _ _ _ _ _ _ _ _ 144 [(0, .ref 491), (1, .int (oI p1)), (4, .int (oI x1)), (5, .int (oI x25))] [] _ _ _ (zi J36) (li L37)
    refine xr_aload_n (xd dX12_epochTwo 76 rfl) 0 rfl ?_
    refine xr_getR (b := 506) 12 22 (xd dX12_epochTwo 77 rfl) f12_53 (by decide) (by decide) (lt552 hn (by decide)) kd_491 rfl (r_491_22 hR) ?_
    refine xr_iload_n (xd dX12_epochTwo 78 rfl) 1 rfl ?_
    refine xr_iconst (v := oI 1) (xd dX12_epochTwo 79 rfl) (by decide) ?_
    obtain ⟨o38, h⟩ := h
    obtain ⟨J39, e_J39⟩ : ∃ z_ : zM, z_ = zs J36 506 p1 1 := ⟨_, rfl⟩
    replace h := h J39 e_J39
    refine zr_zastore (Or.inr rfl) e_J39 (xd dX12_epochTwo 80 rfl) (lt552 hn (by decide)) kd_506 ln_506 (by decide) o38 ?_
    exact xr_vret (xd dX12_epochTwo 81 rfl) rfl (by decide) (by decide) (fun _ => rfl) ⟨_, _, rfl, rfl, h⟩
  · replace h := ifp h c29
    refine xr_aload_n (xd dX12_epochTwo 49 rfl) 0 rfl ?_
    refine xr_iconst (v := oI 0) (xd dX12_epochTwo 50 rfl) (by decide) ?_
    refine xr_callV mX12_add 1 [.int (oI 0)] (xd dX12_epochTwo 51 rfl) l12_238 kX12_add rfl (lt552 hn (by decide)) kd_491 (by decide) rfl (by decide) (Nat.le_of_ble_eq_true rfl) (v_X12_add hn hR  h) (by decide) (by decide) (fun r_ M_ h_ => ?_) (fun _ _ h_ => h_.elim)
    obtain ⟨J40, L41, rfl, rfl, h⟩ := h_
    show xJ _ _ _ _ _ _ _ _ _ 99 [(0, .ref 491), (1, .int (oI p1)), (4, .int (oI x1)), (5, .int (oI x25))] [] _ _ _ (zi J40) (li L41)
    refine zr_iinc [(0, .ref 491), (1, .int (oI p1)), (4, .int (oI x1)), (5, .int (oI (x25 + 1)))] (xd dX12_epochTwo 52 rfl) 3 rfl (by decide) rfl ?_
    refine xr_goto 87 (xd dX12_epochTwo 53 rfl) (by decide) ?_
    exact h
def w_X12_epochThree (p1 : Int) (J : zM) (L : yM) (Q : zM → yM → Prop) : Prop := w_X12_makeSecret p1 2 96 4 7364963 J L (fun J1 L2 => w_X12_makeSecret p1 3 96 4 7364979 J1 L2 (fun J3 L4 => ((0 : Int) ≤ p1 ∧ p1 < 2) ∧ ∀ J6 : zM, J6 = zs J3 507 p1 1 → Q J6 L4))
set_option maxHeartbeats 4000000 in
set_option maxRecDepth 100000 in
theorem v_X12_epochThree {b : Nat} {dC : Nat → ClassId} {dI : Nat → Nat → Nat} {cA : Nat → ClassId} {ts : Nat → Nat} {l : Launch} {n : Nat} {R : Nat → Nat → Option Nat} {al : Bool} (hn : 552 ≤ n) (hR : xRk R) {p1 : Int}  {J : zM} {L : yM} {Q : zM → yM → Prop} (h : w_X12_epochThree p1 J L Q) : xCn (xGm b dC dI cA ts) l mX12_epochThree [.ref 491, .int (oI p1)] al (n, R, zi J, li L) 0 0 (zQ0 n R Q) (fun _ _ => False) := by
  refine xCn.ofJ (by decide) (Nat.le_of_ble_eq_true rfl) ?_
  show xJ _ _ _ _ _ _ _ _ _ 0 [(0, .ref 491), (1, .int (oI p1))] [] _ _ _ _ _
  unfold w_X12_epochThree at h
  refine xr_aload_n (xd dX12_epochThree 0 rfl) 0 rfl ?_
  refine xr_iload_n (xd dX12_epochThree 1 rfl) 1 rfl ?_
  refine xr_iconst (v := oI 2) (xd dX12_epochThree 2 rfl) (by decide) ?_
  refine xr_bipush (v := oI 96) (xd dX12_epochThree 3 rfl) (by decide) ?_
  refine xr_iconst (v := oI 4) (xd dX12_epochThree 4 rfl) (by decide) ?_
  refine xr_ldc2_w (v := 7364963) (xd dX12_epochThree 5 rfl) q12_311 ?_
  refine xr_callV mX12_makeSecret 5 [.int (oI p1), .int (oI 2), .int (oI 96), .int (oI 4), .long 7364963] (xd dX12_epochThree 6 rfl) l12_305 kX12_makeSecret rfl (lt552 hn (by decide)) kd_491 (by decide) rfl (by decide) (Nat.le_of_ble_eq_true rfl) (v_X12_makeSecret hn hR  h) (by decide) (by decide) (fun r_ M_ h_ => ?_) (fun _ _ h_ => h_.elim)
  obtain ⟨J1, L2, rfl, rfl, h⟩ := h_
  show xJ _ _ _ _ _ _ _ _ _ 12 [(0, .ref 491), (1, .int (oI p1))] [] _ _ _ (zi J1) (li L2)
  refine xr_aload_n (xd dX12_epochThree 7 rfl) 0 rfl ?_
  refine xr_iload_n (xd dX12_epochThree 8 rfl) 1 rfl ?_
  refine xr_iconst (v := oI 3) (xd dX12_epochThree 9 rfl) (by decide) ?_
  refine xr_bipush (v := oI 96) (xd dX12_epochThree 10 rfl) (by decide) ?_
  refine xr_iconst (v := oI 4) (xd dX12_epochThree 11 rfl) (by decide) ?_
  refine xr_ldc2_w (v := 7364979) (xd dX12_epochThree 12 rfl) q12_313 ?_
  refine xr_callV mX12_makeSecret 5 [.int (oI p1), .int (oI 3), .int (oI 96), .int (oI 4), .long 7364979] (xd dX12_epochThree 13 rfl) l12_305 kX12_makeSecret rfl (lt552 hn (by decide)) kd_491 (by decide) rfl (by decide) (Nat.le_of_ble_eq_true rfl) (v_X12_makeSecret hn hR  h) (by decide) (by decide) (fun r_ M_ h_ => ?_) (fun _ _ h_ => h_.elim)
  obtain ⟨J3, L4, rfl, rfl, h⟩ := h_
  show xJ _ _ _ _ _ _ _ _ _ 24 [(0, .ref 491), (1, .int (oI p1))] [] _ _ _ (zi J3) (li L4)
  refine xr_aload_n (xd dX12_epochThree 14 rfl) 0 rfl ?_
  refine xr_getR (b := 507) 12 23 (xd dX12_epochThree 15 rfl) f12_57 (by decide) (by decide) (lt552 hn (by decide)) kd_491 rfl (r_491_23 hR) ?_
  refine xr_iload_n (xd dX12_epochThree 16 rfl) 1 rfl ?_
  refine xr_iconst (v := oI 1) (xd dX12_epochThree 17 rfl) (by decide) ?_
  obtain ⟨o5, h⟩ := h
  obtain ⟨J6, e_J6⟩ : ∃ z_ : zM, z_ = zs J3 507 p1 1 := ⟨_, rfl⟩
  replace h := h J6 e_J6
  refine zr_zastore (Or.inr rfl) e_J6 (xd dX12_epochThree 18 rfl) (lt552 hn (by decide)) kd_507 ln_507 (by decide) o5 ?_
  exact xr_vret (xd dX12_epochThree 19 rfl) rfl (by decide) (by decide) (fun _ => rfl) ⟨_, _, rfl, rfl, h⟩
def w_X12_finished (p1 : Int) (p2 : Int) (J : zM) (L : yM) (Q : zM → yM → Prop) : Prop := ∀ K4 : Int → zM → yM → Prop, (∀ (x1 : Int) (J2 : zM) (L3 : yM), (w_X12_transcript p1 x1 J2 L3 (fun J5 L6 => zl_z (fun K7 x8 J9 L10 => R32 x8 ∧ (if x8 < 32 then ((0 : Int) ≤ x8 ∧ x8 < 32) ∧ ((0 : Int) ≤ x8 ∧ x8 < 32) ∧ ∀ J34 : zM, J34 = zs J9 508 x8 (J9 500 x8) → K7 (x8 + 1) J34 L10 else w_X12_keyOwn (((1024 * p1) + 128) + (32 * p2)) 32 J9 L10 (fun J13 L14 => w_X12_expandNone 8 7234303221339941222 J13 L14 (fun J15 L16 => w_X12_keyDigest J15 L16 (fun J17 L18 => w_X12_beginCode J17 L18 (fun J19 L20 => zl_z (fun K21 x22 J23 L24 => R32 x22 ∧ (if x22 < 32 then ((0 : Int) ≤ x22 ∧ x22 < 32) ∧ w_X12_add (J23 508 x22) J23 L24 (fun J30 L31 => K21 (x22 + 1) J30 L31) else w_X12_code J23 L24 (fun J27 L28 => Q J27 L28))) 0 J19 L20)))))) 0 J5 L6)) → K4 x1 J2 L3) → R32 p2 ∧ (if p2 = 1 then K4 3 J L else K4 4 J L)
set_option maxHeartbeats 4000000 in
set_option maxRecDepth 100000 in
theorem v_X12_finished {b : Nat} {dC : Nat → ClassId} {dI : Nat → Nat → Nat} {cA : Nat → ClassId} {ts : Nat → Nat} {l : Launch} {n : Nat} {R : Nat → Nat → Option Nat} {al : Bool} (hn : 552 ≤ n) (hR : xRk R) {p1 : Int} {p2 : Int}  {J : zM} {L : yM} {Q : zM → yM → Prop} (h : w_X12_finished p1 p2 J L Q) : xCn (xGm b dC dI cA ts) l mX12_finished [.ref 491, .int (oI p1), .int (oI p2)] al (n, R, zi J, li L) 0 0 (zQ0 n R Q) (fun _ _ => False) := by
  refine xCn.ofJ (by decide) (Nat.le_of_ble_eq_true rfl) ?_
  show xJ _ _ _ _ _ _ _ _ _ 0 [(0, .ref 491), (1, .int (oI p1)), (2, .int (oI p2))] [] _ _ _ _ _
  unfold w_X12_finished at h
  refine xr_aload_n (xd dX12_finished 0 rfl) 0 rfl ?_
  refine xr_iload_n (xd dX12_finished 1 rfl) 1 rfl ?_
  refine xr_iload_n (xd dX12_finished 2 rfl) 2 rfl ?_
  refine xr_iconst (v := oI 1) (xd dX12_finished 3 rfl) (by decide) ?_
  replace h := h (fun (x1 : Int) (J2 : zM) (L3 : yM) => xJ (xGm b dC dI cA ts) l mX12_finished 0 0 (zQ0 n R Q) (fun _ _ => False) 0 0 12 [(0, .ref 491), (1, .int (oI p1)), (2, .int (oI p2))] [.int (oI x1), .int (oI p1), .ref 491] al n R (zi J2) (li L3)) (by
    intro x1 J2 L3 h
    show xJ _ _ _ _ _ _ _ _ _ 12 [(0, .ref 491), (1, .int (oI p1)), (2, .int (oI p2))] [.int (oI x1), .int (oI p1), .ref 491] _ _ _ _ _
    refine xr_callV mX12_transcript 2 [.int (oI p1), .int (oI x1)] (xd dX12_finished 8 rfl) l12_285 kX12_transcript rfl (lt552 hn (by decide)) kd_491 (by decide) rfl (by decide) (Nat.le_of_ble_eq_true rfl) (v_X12_transcript hn hR  h) (by decide) (by decide) (fun r_ M_ h_ => ?_) (fun _ _ h_ => h_.elim)
    obtain ⟨J5, L6, rfl, rfl, h⟩ := h_
    show xJ _ _ _ _ _ _ _ _ _ 15 [(0, .ref 491), (1, .int (oI p1)), (2, .int (oI p2))] [] _ _ _ (zi J5) (li L6)
    refine xr_iconst (v := oI 0) (xd dX12_finished 9 rfl) (by decide) ?_
    refine xr_istore_n [(0, .ref 491), (1, .int (oI p1)), (2, .int (oI p2)), (3, .int (oI 0))] (xd dX12_finished 10 rfl) rfl (by decide) rfl ?_
    refine h (fun x8 J9 L10 => xJ (xGm b dC dI cA ts) l mX12_finished 0 0 (zQ0 n R Q) (fun _ _ => False) 0 0 17 [(0, .ref 491), (1, .int (oI p1)), (2, .int (oI p2)), (3, .int (oI x8))] [] al n R (zi J9) (li L10)) ?_
    intro x8 J9 L10 h
    show xJ _ _ _ _ _ _ _ _ _ 17 [(0, .ref 491), (1, .int (oI p1)), (2, .int (oI p2)), (3, .int (oI x8))] [] _ _ _ _ _
    refine xr_iload_n (xd dX12_finished 11 rfl) 3 rfl ?_
    refine xr_bipush (v := oI 32) (xd dX12_finished 12 rfl) (by decide) ?_
    obtain ⟨o11, h⟩ := h
    refine zr_icmp_ge 41 (xd dX12_finished 13 rfl) (by decide) o11 (by decide) (fun c12 => ?_) (fun c12 => ?_)
    · replace h := ifn h c12
      refine xr_aload_n (xd dX12_finished 24 rfl) 0 rfl ?_
      refine xr_sipush (v := oI 1024) (xd dX12_finished 25 rfl) (by decide) ?_
      refine xr_iload_n (xd dX12_finished 26 rfl) 1 rfl ?_
      refine zr_imul (xd dX12_finished 27 rfl) ?_
      refine xr_sipush (v := oI 128) (xd dX12_finished 28 rfl) (by decide) ?_
      refine zr_iadd (xd dX12_finished 29 rfl) ?_
      refine xr_bipush (v := oI 32) (xd dX12_finished 30 rfl) (by decide) ?_
      refine xr_iload_n (xd dX12_finished 31 rfl) 2 rfl ?_
      refine zr_imul (xd dX12_finished 32 rfl) ?_
      refine zr_iadd (xd dX12_finished 33 rfl) ?_
      refine xr_bipush (v := oI 32) (xd dX12_finished 34 rfl) (by decide) ?_
      refine xr_callV mX12_keyOwn 2 [.int (oI (((1024 * p1) + 128) + (32 * p2))), .int (oI 32)] (xd dX12_finished 35 rfl) l12_257 kX12_keyOwn rfl (lt552 hn (by decide)) kd_491 (by decide) rfl (by decide) (Nat.le_of_ble_eq_true rfl) (v_X12_keyOwn hn hR  h) (by decide) (by decide) (fun r_ M_ h_ => ?_) (fun _ _ h_ => h_.elim)
      obtain ⟨J13, L14, rfl, rfl, h⟩ := h_
      show xJ _ _ _ _ _ _ _ _ _ 61 [(0, .ref 491), (1, .int (oI p1)), (2, .int (oI p2)), (3, .int (oI x8))] [] _ _ _ (zi J13) (li L14)
      refine xr_aload_n (xd dX12_finished 36 rfl) 0 rfl ?_
      refine xr_bipush (v := oI 8) (xd dX12_finished 37 rfl) (by decide) ?_
      refine xr_ldc2_w (v := 7234303221339941222) (xd dX12_finished 38 rfl) q12_315 ?_
      refine xr_callV mX12_expandNone 2 [.int (oI 8), .long 7234303221339941222] (xd dX12_finished 39 rfl) l12_293 kX12_expandNone rfl (lt552 hn (by decide)) kd_491 (by decide) rfl (by decide) (Nat.le_of_ble_eq_true rfl) (v_X12_expandNone hn hR  h) (by decide) (by decide) (fun r_ M_ h_ => ?_) (fun _ _ h_ => h_.elim)
      obtain ⟨J15, L16, rfl, rfl, h⟩ := h_
      show xJ _ _ _ _ _ _ _ _ _ 70 [(0, .ref 491), (1, .int (oI p1)), (2, .int (oI p2)), (3, .int (oI x8))] [] _ _ _ (zi J15) (li L16)
      refine xr_aload_n (xd dX12_finished 40 rfl) 0 rfl ?_
      refine xr_callV mX12_keyDigest 0 [] (xd dX12_finished 41 rfl) l12_300 kX12_keyDigest rfl (lt552 hn (by decide)) kd_491 (by decide) rfl (by decide) (Nat.le_of_ble_eq_true rfl) (v_X12_keyDigest hn hR  h) (by decide) (by decide) (fun r_ M_ h_ => ?_) (fun _ _ h_ => h_.elim)
      obtain ⟨J17, L18, rfl, rfl, h⟩ := h_
      show xJ _ _ _ _ _ _ _ _ _ 74 [(0, .ref 491), (1, .int (oI p1)), (2, .int (oI p2)), (3, .int (oI x8))] [] _ _ _ (zi J17) (li L18)
      refine xr_aload_n (xd dX12_finished 42 rfl) 0 rfl ?_
      refine xr_callV mX12_beginCode 0 [] (xd dX12_finished 43 rfl) l12_247 kX12_beginCode rfl (lt552 hn (by decide)) kd_491 (by decide) rfl (by decide) (Nat.le_of_ble_eq_true rfl) (v_X12_beginCode hn hR  h) (by decide) (by decide) (fun r_ M_ h_ => ?_) (fun _ _ h_ => h_.elim)
      obtain ⟨J19, L20, rfl, rfl, h⟩ := h_
      show xJ _ _ _ _ _ _ _ _ _ 78 [(0, .ref 491), (1, .int (oI p1)), (2, .int (oI p2)), (3, .int (oI x8))] [] _ _ _ (zi J19) (li L20)
      refine xr_iconst (v := oI 0) (xd dX12_finished 44 rfl) (by decide) ?_
      refine xr_istore_n [(0, .ref 491), (1, .int (oI p1)), (2, .int (oI p2)), (3, .int (oI 0))] (xd dX12_finished 45 rfl) rfl (by decide) rfl ?_
      refine xJ.pick (ls' := [(0, .ref 491), (3, .int (oI 0))]) [0, 3] rfl ?_
      refine h (fun x22 J23 L24 => xJ (xGm b dC dI cA ts) l mX12_finished 0 0 (zQ0 n R Q) (fun _ _ => False) 0 0 80 [(0, .ref 491), (3, .int (oI x22))] [] al n R (zi J23) (li L24)) ?_
      intro x22 J23 L24 h
      show xJ _ _ _ _ _ _ _ _ _ 80 [(0, .ref 491), (3, .int (oI x22))] [] _ _ _ _ _
      refine xr_iload_n (xd dX12_finished 46 rfl) 1 rfl ?_
      refine xr_bipush (v := oI 32) (xd dX12_finished 47 rfl) (by decide) ?_
      obtain ⟨o25, h⟩ := h
      refine zr_icmp_ge 102 (xd dX12_finished 48 rfl) (by decide) o25 (by decide) (fun c26 => ?_) (fun c26 => ?_)
      · replace h := ifn h c26
        refine xr_aload_n (xd dX12_finished 57 rfl) 0 rfl ?_
        refine xr_callV mX12_code 0 [] (xd dX12_finished 58 rfl) l12_254 kX12_code rfl (lt552 hn (by decide)) kd_491 (by decide) rfl (by decide) (Nat.le_of_ble_eq_true rfl) (v_X12_code hn hR  h) (by decide) (by decide) (fun r_ M_ h_ => ?_) (fun _ _ h_ => h_.elim)
        obtain ⟨J27, L28, rfl, rfl, h⟩ := h_
        show xJ _ _ _ _ _ _ _ _ _ 106 [(0, .ref 491), (3, .int (oI x22))] [] _ _ _ (zi J27) (li L28)
        exact xr_vret (xd dX12_finished 59 rfl) rfl (by decide) (by decide) (fun _ => rfl) ⟨_, _, rfl, rfl, h⟩
      · replace h := ifp h c26
        refine xr_aload_n (xd dX12_finished 49 rfl) 0 rfl ?_
        refine xr_aload_n (xd dX12_finished 50 rfl) 0 rfl ?_
        refine xr_getR (b := 508) 12 24 (xd dX12_finished 51 rfl) f12_60 (by decide) (by decide) (lt552 hn (by decide)) kd_491 rfl (r_491_24 hR) ?_
        refine xr_iload_n (xd dX12_finished 52 rfl) 1 rfl ?_
        obtain ⟨o29, h⟩ := h
        refine zr_iaload (xd dX12_finished 53 rfl) (lt552 hn (by decide)) kd_508 ln_508 (by decide) o29 ?_
        refine xr_callV mX12_add 1 [.int (oI (J23 508 x22))] (xd dX12_finished 54 rfl) l12_238 kX12_add rfl (lt552 hn (by decide)) kd_491 (by decide) rfl (by decide) (Nat.le_of_ble_eq_true rfl) (v_X12_add hn hR  h) (by decide) (by decide) (fun r_ M_ h_ => ?_) (fun _ _ h_ => h_.elim)
        obtain ⟨J30, L31, rfl, rfl, h⟩ := h_
        show xJ _ _ _ _ _ _ _ _ _ 96 [(0, .ref 491), (3, .int (oI x22))] [] _ _ _ (zi J30) (li L31)
        refine zr_iinc [(0, .ref 491), (3, .int (oI (x22 + 1)))] (xd dX12_finished 55 rfl) 1 rfl (by decide) rfl ?_
        refine xr_goto 80 (xd dX12_finished 56 rfl) (by decide) ?_
        exact h
    · replace h := ifp h c12
      refine xr_aload_n (xd dX12_finished 14 rfl) 0 rfl ?_
      refine xr_getR (b := 508) 12 24 (xd dX12_finished 15 rfl) f12_60 (by decide) (by decide) (lt552 hn (by decide)) kd_491 rfl (r_491_24 hR) ?_
      refine xr_iload_n (xd dX12_finished 16 rfl) 3 rfl ?_
      refine xr_aload_n (xd dX12_finished 17 rfl) 0 rfl ?_
      refine xr_getR (b := 500) 12 16 (xd dX12_finished 18 rfl) f12_34 (by decide) (by decide) (lt552 hn (by decide)) kd_491 rfl (r_491_16 hR) ?_
      refine xr_iload_n (xd dX12_finished 19 rfl) 3 rfl ?_
      obtain ⟨o32, h⟩ := h
      refine zr_iaload (xd dX12_finished 20 rfl) (lt552 hn (by decide)) kd_500 ln_500 (by decide) o32 ?_
      obtain ⟨o33, h⟩ := h
      obtain ⟨J34, e_J34⟩ : ∃ z_ : zM, z_ = zs J9 508 x8 (J9 500 x8) := ⟨_, rfl⟩
      replace h := h J34 e_J34
      refine zr_iastore e_J34 (xd dX12_finished 21 rfl) (lt552 hn (by decide)) kd_508 ln_508 (by decide) o33 ?_
      refine zr_iinc [(0, .ref 491), (1, .int (oI p1)), (2, .int (oI p2)), (3, .int (oI (x8 + 1)))] (xd dX12_finished 22 rfl) 3 rfl (by decide) rfl ?_
      refine xr_goto 17 (xd dX12_finished 23 rfl) (by decide) ?_
      exact h)
  obtain ⟨o35, h⟩ := h
  refine zr_icmp_ne 11 (xd dX12_finished 4 rfl) (by decide) o35 (by decide) (fun c36 => ?_) (fun c36 => ?_)
  · replace h := ifn h c36
    refine xr_iconst (v := oI 4) (xd dX12_finished 7 rfl) (by decide) ?_
    exact h
  · replace h := ifp h c36
    refine xr_iconst (v := oI 3) (xd dX12_finished 5 rfl) (by decide) ?_
    refine xr_goto 12 (xd dX12_finished 6 rfl) (by decide) ?_
    exact h
def w_X12_putMessage (p1 : Int) (p2 : Int) (p3 : Int) (J : zM) (L : yM) (Q : zM → yM → Prop) : Prop := ((0 : Int) ≤ p1 ∧ p1 < 2048) ∧ ∀ J2 : zM, J2 = zs J 492 p1 p2 → ((0 : Int) ≤ (p1 + 1) ∧ (p1 + 1) < 2048) ∧ ∀ J4 : zM, J4 = zs J2 492 (p1 + 1) (zshr p3 8) → ((0 : Int) ≤ (p1 + 2) ∧ (p1 + 2) < 2048) ∧ ∀ J6 : zM, J6 = zs J4 492 (p1 + 2) (zand p3 255) → Q J6 L
set_option maxHeartbeats 4000000 in
set_option maxRecDepth 100000 in
theorem v_X12_putMessage {b : Nat} {dC : Nat → ClassId} {dI : Nat → Nat → Nat} {cA : Nat → ClassId} {ts : Nat → Nat} {l : Launch} {n : Nat} {R : Nat → Nat → Option Nat} {al : Bool} (hn : 552 ≤ n) (hR : xRk R) {p1 : Int} {p2 : Int} {p3 : Int}  {J : zM} {L : yM} {Q : zM → yM → Prop} (h : w_X12_putMessage p1 p2 p3 J L Q) : xCn (xGm b dC dI cA ts) l mX12_putMessage [.ref 491, .int (oI p1), .int (oI p2), .int (oI p3)] al (n, R, zi J, li L) 0 0 (zQ0 n R Q) (fun _ _ => False) := by
  refine xCn.ofJ (by decide) (Nat.le_of_ble_eq_true rfl) ?_
  show xJ _ _ _ _ _ _ _ _ _ 0 [(0, .ref 491), (1, .int (oI p1)), (2, .int (oI p2)), (3, .int (oI p3))] [] _ _ _ _ _
  unfold w_X12_putMessage at h
  refine xr_aload_n (xd dX12_putMessage 0 rfl) 0 rfl ?_
  refine xr_getR (b := 492) 12 5 (xd dX12_putMessage 1 rfl) f12_7 (by decide) (by decide) (lt552 hn (by decide)) kd_491 rfl (r_491_5 hR) ?_
  refine xr_iload_n (xd dX12_putMessage 2 rfl) 1 rfl ?_
  refine xr_iload_n (xd dX12_putMessage 3 rfl) 2 rfl ?_
  obtain ⟨o1, h⟩ := h
  obtain ⟨J2, e_J2⟩ : ∃ z_ : zM, z_ = zs J 492 p1 p2 := ⟨_, rfl⟩
  replace h := h J2 e_J2
  refine zr_iastore e_J2 (xd dX12_putMessage 4 rfl) (lt552 hn (by decide)) kd_492 ln_492 (by decide) o1 ?_
  refine xr_aload_n (xd dX12_putMessage 5 rfl) 0 rfl ?_
  refine xr_getR (b := 492) 12 5 (xd dX12_putMessage 6 rfl) f12_7 (by decide) (by decide) (lt552 hn (by decide)) kd_491 rfl (r_491_5 hR) ?_
  refine xr_iload_n (xd dX12_putMessage 7 rfl) 1 rfl ?_
  refine xr_iconst (v := oI 1) (xd dX12_putMessage 8 rfl) (by decide) ?_
  refine zr_iadd (xd dX12_putMessage 9 rfl) ?_
  refine xr_iload_n (xd dX12_putMessage 10 rfl) 3 rfl ?_
  refine xr_bipush (v := oI 8) (xd dX12_putMessage 11 rfl) (by decide) ?_
  refine zr_ishr (xd dX12_putMessage 12 rfl) ?_
  obtain ⟨o3, h⟩ := h
  obtain ⟨J4, e_J4⟩ : ∃ z_ : zM, z_ = zs J2 492 (p1 + 1) (zshr p3 8) := ⟨_, rfl⟩
  replace h := h J4 e_J4
  refine zr_iastore e_J4 (xd dX12_putMessage 13 rfl) (lt552 hn (by decide)) kd_492 ln_492 (by decide) o3 ?_
  refine xr_aload_n (xd dX12_putMessage 14 rfl) 0 rfl ?_
  refine xr_getR (b := 492) 12 5 (xd dX12_putMessage 15 rfl) f12_7 (by decide) (by decide) (lt552 hn (by decide)) kd_491 rfl (r_491_5 hR) ?_
  refine xr_iload_n (xd dX12_putMessage 16 rfl) 1 rfl ?_
  refine xr_iconst (v := oI 2) (xd dX12_putMessage 17 rfl) (by decide) ?_
  refine zr_iadd (xd dX12_putMessage 18 rfl) ?_
  refine xr_iload_n (xd dX12_putMessage 19 rfl) 3 rfl ?_
  refine xr_sipush (v := oI 255) (xd dX12_putMessage 20 rfl) (by decide) ?_
  refine zr_iand (xd dX12_putMessage 21 rfl) ?_
  obtain ⟨o5, h⟩ := h
  obtain ⟨J6, e_J6⟩ : ∃ z_ : zM, z_ = zs J4 492 (p1 + 2) (zand p3 255) := ⟨_, rfl⟩
  replace h := h J6 e_J6
  refine zr_iastore e_J6 (xd dX12_putMessage 22 rfl) (lt552 hn (by decide)) kd_492 ln_492 (by decide) o5 ?_
  exact xr_vret (xd dX12_putMessage 23 rfl) rfl (by decide) (by decide) (fun _ => rfl) ⟨_, _, rfl, rfl, h⟩
def w_X12_copyPlace (p1 : Int) (p2 : Int) (J : zM) (L : yM) (Q : zM → yM → Prop) : Prop := ((0 : Int) ≤ p1 ∧ p1 < 120) ∧ ((0 : Int) ≤ p2 ∧ p2 < 120) ∧ ∀ J3 : zM, J3 = zs J 510 p2 (J 510 p1) → zl_z (fun K4 x5 J6 L7 => ((0 : Int) ≤ p1 ∧ p1 < 120) ∧ R32 x5 ∧ R32 (J6 510 p1) ∧ (if x5 < (J6 510 p1) then ((0 : Int) ≤ ((500 * p1) + x5) ∧ ((500 * p1) + x5) < 60000) ∧ ((0 : Int) ≤ ((500 * p2) + x5) ∧ ((500 * p2) + x5) < 60000) ∧ ∀ J14 : zM, J14 = zs J6 511 ((500 * p2) + x5) (J6 511 ((500 * p1) + x5)) → K4 (x5 + 1) J14 L7 else Q J6 L7)) 0 J3 L
set_option maxHeartbeats 4000000 in
set_option maxRecDepth 100000 in
theorem v_X12_copyPlace {b : Nat} {dC : Nat → ClassId} {dI : Nat → Nat → Nat} {cA : Nat → ClassId} {ts : Nat → Nat} {l : Launch} {n : Nat} {R : Nat → Nat → Option Nat} {al : Bool} (hn : 552 ≤ n) (hR : xRk R) {p1 : Int} {p2 : Int}  {J : zM} {L : yM} {Q : zM → yM → Prop} (h : w_X12_copyPlace p1 p2 J L Q) : xCn (xGm b dC dI cA ts) l mX12_copyPlace [.ref 491, .int (oI p1), .int (oI p2)] al (n, R, zi J, li L) 0 0 (zQ0 n R Q) (fun _ _ => False) := by
  refine xCn.ofJ (by decide) (Nat.le_of_ble_eq_true rfl) ?_
  show xJ _ _ _ _ _ _ _ _ _ 0 [(0, .ref 491), (1, .int (oI p1)), (2, .int (oI p2))] [] _ _ _ _ _
  unfold w_X12_copyPlace at h
  refine xr_aload_n (xd dX12_copyPlace 0 rfl) 0 rfl ?_
  refine xr_getR (b := 510) 12 26 (xd dX12_copyPlace 1 rfl) f12_66 (by decide) (by decide) (lt552 hn (by decide)) kd_491 rfl (r_491_26 hR) ?_
  refine xr_iload_n (xd dX12_copyPlace 2 rfl) 2 rfl ?_
  refine xr_aload_n (xd dX12_copyPlace 3 rfl) 0 rfl ?_
  refine xr_getR (b := 510) 12 26 (xd dX12_copyPlace 4 rfl) f12_66 (by decide) (by decide) (lt552 hn (by decide)) kd_491 rfl (r_491_26 hR) ?_
  refine xr_iload_n (xd dX12_copyPlace 5 rfl) 1 rfl ?_
  obtain ⟨o1, h⟩ := h
  refine zr_iaload (xd dX12_copyPlace 6 rfl) (lt552 hn (by decide)) kd_510 ln_510 (by decide) o1 ?_
  obtain ⟨o2, h⟩ := h
  obtain ⟨J3, e_J3⟩ : ∃ z_ : zM, z_ = zs J 510 p2 (J 510 p1) := ⟨_, rfl⟩
  replace h := h J3 e_J3
  refine zr_iastore e_J3 (xd dX12_copyPlace 7 rfl) (lt552 hn (by decide)) kd_510 ln_510 (by decide) o2 ?_
  refine xr_iconst (v := oI 0) (xd dX12_copyPlace 8 rfl) (by decide) ?_
  refine xr_istore_n [(0, .ref 491), (1, .int (oI p1)), (2, .int (oI p2)), (3, .int (oI 0))] (xd dX12_copyPlace 9 rfl) rfl (by decide) rfl ?_
  refine h (fun x5 J6 L7 => xJ (xGm b dC dI cA ts) l mX12_copyPlace 0 0 (zQ0 n R Q) (fun _ _ => False) 0 0 14 [(0, .ref 491), (1, .int (oI p1)), (2, .int (oI p2)), (3, .int (oI x5))] [] al n R (zi J6) (li L7)) ?_
  intro x5 J6 L7 h
  show xJ _ _ _ _ _ _ _ _ _ 14 [(0, .ref 491), (1, .int (oI p1)), (2, .int (oI p2)), (3, .int (oI x5))] [] _ _ _ _ _
  refine xr_iload_n (xd dX12_copyPlace 10 rfl) 3 rfl ?_
  refine xr_aload_n (xd dX12_copyPlace 11 rfl) 0 rfl ?_
  refine xr_getR (b := 510) 12 26 (xd dX12_copyPlace 12 rfl) f12_66 (by decide) (by decide) (lt552 hn (by decide)) kd_491 rfl (r_491_26 hR) ?_
  refine xr_iload_n (xd dX12_copyPlace 13 rfl) 1 rfl ?_
  obtain ⟨o8, h⟩ := h
  refine zr_iaload (xd dX12_copyPlace 14 rfl) (lt552 hn (by decide)) kd_510 ln_510 (by decide) o8 ?_
  obtain ⟨o9, h⟩ := h
  obtain ⟨o10, h⟩ := h
  refine zr_icmp_ge 54 (xd dX12_copyPlace 15 rfl) (by decide) o9 o10 (fun c11 => ?_) (fun c11 => ?_)
  · replace h := ifn h c11
    exact xr_vret (xd dX12_copyPlace 34 rfl) rfl (by decide) (by decide) (fun _ => rfl) ⟨_, _, rfl, rfl, h⟩
  · replace h := ifp h c11
    refine xr_aload_n (xd dX12_copyPlace 16 rfl) 0 rfl ?_
    refine xr_getR (b := 511) 12 27 (xd dX12_copyPlace 17 rfl) f12_70 (by decide) (by decide) (lt552 hn (by decide)) kd_491 rfl (r_491_27 hR) ?_
    refine xr_sipush (v := oI 500) (xd dX12_copyPlace 18 rfl) (by decide) ?_
    refine xr_iload_n (xd dX12_copyPlace 19 rfl) 2 rfl ?_
    refine zr_imul (xd dX12_copyPlace 20 rfl) ?_
    refine xr_iload_n (xd dX12_copyPlace 21 rfl) 3 rfl ?_
    refine zr_iadd (xd dX12_copyPlace 22 rfl) ?_
    refine xr_aload_n (xd dX12_copyPlace 23 rfl) 0 rfl ?_
    refine xr_getR (b := 511) 12 27 (xd dX12_copyPlace 24 rfl) f12_70 (by decide) (by decide) (lt552 hn (by decide)) kd_491 rfl (r_491_27 hR) ?_
    refine xr_sipush (v := oI 500) (xd dX12_copyPlace 25 rfl) (by decide) ?_
    refine xr_iload_n (xd dX12_copyPlace 26 rfl) 1 rfl ?_
    refine zr_imul (xd dX12_copyPlace 27 rfl) ?_
    refine xr_iload_n (xd dX12_copyPlace 28 rfl) 3 rfl ?_
    refine zr_iadd (xd dX12_copyPlace 29 rfl) ?_
    obtain ⟨o12, h⟩ := h
    refine zr_iaload (xd dX12_copyPlace 30 rfl) (lt552 hn (by decide)) kd_511 ln_511 (by decide) o12 ?_
    obtain ⟨o13, h⟩ := h
    obtain ⟨J14, e_J14⟩ : ∃ z_ : zM, z_ = zs J6 511 ((500 * p2) + x5) (J6 511 ((500 * p1) + x5)) := ⟨_, rfl⟩
    replace h := h J14 e_J14
    refine zr_iastore e_J14 (xd dX12_copyPlace 31 rfl) (lt552 hn (by decide)) kd_511 ln_511 (by decide) o13 ?_
    refine zr_iinc [(0, .ref 491), (1, .int (oI p1)), (2, .int (oI p2)), (3, .int (oI (x5 + 1)))] (xd dX12_copyPlace 32 rfl) 3 rfl (by decide) rfl ?_
    refine xr_goto 14 (xd dX12_copyPlace 33 rfl) (by decide) ?_
    exact h
def w_X12_removePlace (p1 : Int) (p2 : Int) (J : zM) (L : yM) (Q : zM → yM → Prop) : Prop := zl_z (fun K1 x2 J3 L4 => ((0 : Int) ≤ p1 ∧ p1 < 2) ∧ R32 (x2 + 1) ∧ R32 (J3 509 p1) ∧ (if (x2 + 1) < (J3 509 p1) then w_X12_copyPlace (((60 * p1) + x2) + 1) ((60 * p1) + x2) J3 L4 (fun J12 L13 => K1 (x2 + 1) J12 L13) else ((0 : Int) ≤ p1 ∧ p1 < 2) ∧ ((0 : Int) ≤ p1 ∧ p1 < 2) ∧ ∀ J11 : zM, J11 = zs J3 509 p1 ((J3 509 p1) - 1) → Q J11 L4)) p2 J L
set_option maxHeartbeats 4000000 in
set_option maxRecDepth 100000 in
theorem v_X12_removePlace {b : Nat} {dC : Nat → ClassId} {dI : Nat → Nat → Nat} {cA : Nat → ClassId} {ts : Nat → Nat} {l : Launch} {n : Nat} {R : Nat → Nat → Option Nat} {al : Bool} (hn : 552 ≤ n) (hR : xRk R) {p1 : Int} {p2 : Int}  {J : zM} {L : yM} {Q : zM → yM → Prop} (h : w_X12_removePlace p1 p2 J L Q) : xCn (xGm b dC dI cA ts) l mX12_removePlace [.ref 491, .int (oI p1), .int (oI p2)] al (n, R, zi J, li L) 0 0 (zQ0 n R Q) (fun _ _ => False) := by
  refine xCn.ofJ (by decide) (Nat.le_of_ble_eq_true rfl) ?_
  show xJ _ _ _ _ _ _ _ _ _ 0 [(0, .ref 491), (1, .int (oI p1)), (2, .int (oI p2))] [] _ _ _ _ _
  unfold w_X12_removePlace at h
  refine xr_iload_n (xd dX12_removePlace 0 rfl) 2 rfl ?_
  refine xr_istore_n [(0, .ref 491), (1, .int (oI p1)), (2, .int (oI p2)), (3, .int (oI p2))] (xd dX12_removePlace 1 rfl) rfl (by decide) rfl ?_
  refine xJ.pick (ls' := [(0, .ref 491), (1, .int (oI p1)), (3, .int (oI p2))]) [0, 1, 3] rfl ?_
  refine h (fun x2 J3 L4 => xJ (xGm b dC dI cA ts) l mX12_removePlace 0 0 (zQ0 n R Q) (fun _ _ => False) 0 0 2 [(0, .ref 491), (1, .int (oI p1)), (3, .int (oI x2))] [] al n R (zi J3) (li L4)) ?_
  intro x2 J3 L4 h
  show xJ _ _ _ _ _ _ _ _ _ 2 [(0, .ref 491), (1, .int (oI p1)), (3, .int (oI x2))] [] _ _ _ _ _
  refine xr_iload_n (xd dX12_removePlace 2 rfl) 2 rfl ?_
  refine xr_iconst (v := oI 1) (xd dX12_removePlace 3 rfl) (by decide) ?_
  refine zr_iadd (xd dX12_removePlace 4 rfl) ?_
  refine xr_aload_n (xd dX12_removePlace 5 rfl) 0 rfl ?_
  refine xr_getR (b := 509) 12 25 (xd dX12_removePlace 6 rfl) f12_63 (by decide) (by decide) (lt552 hn (by decide)) kd_491 rfl (r_491_25 hR) ?_
  refine xr_iload_n (xd dX12_removePlace 7 rfl) 1 rfl ?_
  obtain ⟨o5, h⟩ := h
  refine zr_iaload (xd dX12_removePlace 8 rfl) (lt552 hn (by decide)) kd_509 ln_509 (by decide) o5 ?_
  obtain ⟨o6, h⟩ := h
  obtain ⟨o7, h⟩ := h
  refine zr_icmp_ge 38 (xd dX12_removePlace 9 rfl) (by decide) o6 o7 (fun c8 => ?_) (fun c8 => ?_)
  · replace h := ifn h c8
    refine xr_aload_n (xd dX12_removePlace 26 rfl) 0 rfl ?_
    refine xr_getR (b := 509) 12 25 (xd dX12_removePlace 27 rfl) f12_63 (by decide) (by decide) (lt552 hn (by decide)) kd_491 rfl (r_491_25 hR) ?_
    refine xr_iload_n (xd dX12_removePlace 28 rfl) 1 rfl ?_
    refine xr_dup2 (xd dX12_removePlace 29 rfl) rfl rfl ?_
    obtain ⟨o9, h⟩ := h
    refine zr_iaload (xd dX12_removePlace 30 rfl) (lt552 hn (by decide)) kd_509 ln_509 (by decide) o9 ?_
    refine xr_iconst (v := oI 1) (xd dX12_removePlace 31 rfl) (by decide) ?_
    refine zr_isub (xd dX12_removePlace 32 rfl) ?_
    obtain ⟨o10, h⟩ := h
    obtain ⟨J11, e_J11⟩ : ∃ z_ : zM, z_ = zs J3 509 p1 ((J3 509 p1) - 1) := ⟨_, rfl⟩
    replace h := h J11 e_J11
    refine zr_iastore e_J11 (xd dX12_removePlace 33 rfl) (lt552 hn (by decide)) kd_509 ln_509 (by decide) o10 ?_
    exact xr_vret (xd dX12_removePlace 34 rfl) rfl (by decide) (by decide) (fun _ => rfl) ⟨_, _, rfl, rfl, h⟩
  · replace h := ifp h c8
    refine xr_aload_n (xd dX12_removePlace 10 rfl) 0 rfl ?_
    refine xr_bipush (v := oI 60) (xd dX12_removePlace 11 rfl) (by decide) ?_
    refine xr_iload_n (xd dX12_removePlace 12 rfl) 1 rfl ?_
    refine zr_imul (xd dX12_removePlace 13 rfl) ?_
    refine xr_iload_n (xd dX12_removePlace 14 rfl) 2 rfl ?_
    refine zr_iadd (xd dX12_removePlace 15 rfl) ?_
    refine xr_iconst (v := oI 1) (xd dX12_removePlace 16 rfl) (by decide) ?_
    refine zr_iadd (xd dX12_removePlace 17 rfl) ?_
    refine xr_bipush (v := oI 60) (xd dX12_removePlace 18 rfl) (by decide) ?_
    refine xr_iload_n (xd dX12_removePlace 19 rfl) 1 rfl ?_
    refine zr_imul (xd dX12_removePlace 20 rfl) ?_
    refine xr_iload_n (xd dX12_removePlace 21 rfl) 2 rfl ?_
    refine zr_iadd (xd dX12_removePlace 22 rfl) ?_
    refine xr_callV mX12_copyPlace 2 [.int (oI (((60 * p1) + x2) + 1)), .int (oI ((60 * p1) + x2))] (xd dX12_removePlace 23 rfl) l12_317 kX12_copyPlace rfl (lt552 hn (by decide)) kd_491 (by decide) rfl (by decide) (Nat.le_of_ble_eq_true rfl) (v_X12_copyPlace hn hR  h) (by decide) (by decide) (fun r_ M_ h_ => ?_) (fun _ _ h_ => h_.elim)
    obtain ⟨J12, L13, rfl, rfl, h⟩ := h_
    show xJ _ _ _ _ _ _ _ _ _ 32 [(0, .ref 491), (1, .int (oI p1)), (3, .int (oI x2))] [] _ _ _ (zi J12) (li L13)
    refine zr_iinc [(0, .ref 491), (1, .int (oI p1)), (3, .int (oI (x2 + 1)))] (xd dX12_removePlace 24 rfl) 2 rfl (by decide) rfl ?_
    refine xr_goto 2 (xd dX12_removePlace 25 rfl) (by decide) ?_
    exact h
def w_X12_sendMade (p1 : Int) (J : zM) (L : yM) (Q : zM → yM → Prop) : Prop := R32 (J 491 30) ∧ (if (J 491 30) = 0 then Q J L else ((0 : Int) ≤ p1 ∧ p1 < 2) ∧ ((0 : Int) ≤ p1 ∧ p1 < 2) ∧ ∀ J5 : zM, J5 = zs J 512 p1 ((J 512 p1) + 1) → ∀ x6 : Int, x6 = (1 - p1) → ((0 : Int) ≤ x6 ∧ x6 < 2) ∧ ∀ K10 : zM → yM → Prop, (∀ (J8 : zM) (L9 : yM), (∀ J11 : zM, J11 = zs J8 491 30 0 → Q J11 L9) → K10 J8 L9) → R32 (J5 509 x6) ∧ (if (J5 509 x6) < 60 then ((0 : Int) ≤ x6 ∧ x6 < 2) ∧ ∀ x15 : Int, x15 = ((60 * x6) + (J5 509 x6)) → ((0 : Int) ≤ x15 ∧ x15 < 120) ∧ ∀ J17 : zM, J17 = zs J5 510 x15 (J5 491 30) → zl_z (fun K18 x19 J20 L21 => R32 x19 ∧ R32 (J20 491 30) ∧ (if x19 < (J20 491 30) then ((0 : Int) ≤ x19 ∧ x19 < 600) ∧ ((0 : Int) ≤ ((500 * x15) + x19) ∧ ((500 * x15) + x19) < 60000) ∧ ∀ J30 : zM, J30 = zs J20 511 ((500 * x15) + x19) (J20 513 x19) → K18 (x19 + 1) J30 L21 else ((0 : Int) ≤ x6 ∧ x6 < 2) ∧ ((0 : Int) ≤ x6 ∧ x6 < 2) ∧ ∀ J27 : zM, J27 = zs J20 509 x6 ((J20 509 x6) + 1) → K10 J27 L21)) 0 J17 L else K10 J5 L))
set_option maxHeartbeats 4000000 in
set_option maxRecDepth 100000 in
theorem v_X12_sendMade {b : Nat} {dC : Nat → ClassId} {dI : Nat → Nat → Nat} {cA : Nat → ClassId} {ts : Nat → Nat} {l : Launch} {n : Nat} {R : Nat → Nat → Option Nat} {al : Bool} (hn : 552 ≤ n) (hR : xRk R) {p1 : Int}  {J : zM} {L : yM} {Q : zM → yM → Prop} (h : w_X12_sendMade p1 J L Q) : xCn (xGm b dC dI cA ts) l mX12_sendMade [.ref 491, .int (oI p1)] al (n, R, zi J, li L) 0 0 (zQ0 n R Q) (fun _ _ => False) := by
  refine xCn.ofJ (by decide) (Nat.le_of_ble_eq_true rfl) ?_
  show xJ _ _ _ _ _ _ _ _ _ 0 [(0, .ref 491), (1, .int (oI p1))] [] _ _ _ _ _
  unfold w_X12_sendMade at h
  refine xr_aload_n (xd dX12_sendMade 0 rfl) 0 rfl ?_
  refine zr_getI 12 30 30 rfl (xd dX12_sendMade 1 rfl) f12_320 (by decide) (by decide) (lt552 hn (by decide)) kd_491 rfl ?_
  obtain ⟨o1, h⟩ := h
  refine zr_if_ne 8 (xd dX12_sendMade 2 rfl) (by decide) o1 (fun c2 => ?_) (fun c2 => ?_)
  · replace h := ifn h c2
    refine xr_aload_n (xd dX12_sendMade 4 rfl) 0 rfl ?_
    refine xr_getR (b := 512) 12 28 (xd dX12_sendMade 5 rfl) f12_73 (by decide) (by decide) (lt552 hn (by decide)) kd_491 rfl (r_491_28 hR) ?_
    refine xr_iload_n (xd dX12_sendMade 6 rfl) 1 rfl ?_
    refine xr_dup2 (xd dX12_sendMade 7 rfl) rfl rfl ?_
    obtain ⟨o3, h⟩ := h
    refine zr_iaload (xd dX12_sendMade 8 rfl) (lt552 hn (by decide)) kd_512 ln_512 (by decide) o3 ?_
    refine xr_iconst (v := oI 1) (xd dX12_sendMade 9 rfl) (by decide) ?_
    refine zr_iadd (xd dX12_sendMade 10 rfl) ?_
    obtain ⟨o4, h⟩ := h
    obtain ⟨J5, e_J5⟩ : ∃ z_ : zM, z_ = zs J 512 p1 ((J 512 p1) + 1) := ⟨_, rfl⟩
    replace h := h J5 e_J5
    refine zr_iastore e_J5 (xd dX12_sendMade 11 rfl) (lt552 hn (by decide)) kd_512 ln_512 (by decide) o4 ?_
    refine xr_iconst (v := oI 1) (xd dX12_sendMade 12 rfl) (by decide) ?_
    refine xr_iload_n (xd dX12_sendMade 13 rfl) 1 rfl ?_
    refine zr_isub (xd dX12_sendMade 14 rfl) ?_
    obtain ⟨x6, e_x6⟩ : ∃ z_ : Int, z_ = (1 - p1) := ⟨_, rfl⟩
    replace h := h x6 e_x6
    refine zr_nm e_x6 ?_
    refine xr_istore_n [(0, .ref 491), (1, .int (oI p1)), (2, .int (oI x6))] (xd dX12_sendMade 15 rfl) rfl (by decide) rfl ?_
    refine xr_aload_n (xd dX12_sendMade 16 rfl) 0 rfl ?_
    refine xr_getR (b := 509) 12 25 (xd dX12_sendMade 17 rfl) f12_63 (by decide) (by decide) (lt552 hn (by decide)) kd_491 rfl (r_491_25 hR) ?_
    refine xr_iload_n (xd dX12_sendMade 18 rfl) 2 rfl ?_
    obtain ⟨o7, h⟩ := h
    refine zr_iaload (xd dX12_sendMade 19 rfl) (lt552 hn (by decide)) kd_509 ln_509 (by decide) o7 ?_
    refine xr_bipush (v := oI 60) (xd dX12_sendMade 20 rfl) (by decide) ?_
    replace h := h (fun (J8 : zM) (L9 : yM) => xJ (xGm b dC dI cA ts) l mX12_sendMade 0 0 (zQ0 n R Q) (fun _ _ => False) 0 0 103 [(0, .ref 491)] [] al n R (zi J8) (li L9)) (by
      intro J8 L9 h
      show xJ _ _ _ _ _ _ _ _ _ 103 [(0, .ref 491)] [] _ _ _ _ _
      refine xr_aload_n (xd dX12_sendMade 65 rfl) 0 rfl ?_
      refine xr_iconst (v := oI 0) (xd dX12_sendMade 66 rfl) (by decide) ?_
      obtain ⟨J11, e_J11⟩ : ∃ z_ : zM, z_ = zs J8 491 30 0 := ⟨_, rfl⟩
      replace h := h J11 e_J11
      refine zr_putI 12 30 30 rfl e_J11 (xd dX12_sendMade 67 rfl) f12_320 (by decide) (by decide) (lt552 hn (by decide)) kd_491 (Or.inl rfl) rfl rfl (fun _ => rfl) ?_
      exact xr_vret (xd dX12_sendMade 68 rfl) rfl (by decide) (by decide) (fun _ => rfl) ⟨_, _, rfl, rfl, h⟩)
    obtain ⟨o12, h⟩ := h
    refine zr_icmp_ge 103 (xd dX12_sendMade 21 rfl) (by decide) o12 (by decide) (fun c13 => ?_) (fun c13 => ?_)
    · replace h := ifn h c13
      refine xJ.pick (ls' := [(0, .ref 491)]) [0] rfl ?_
      exact h
    · replace h := ifp h c13
      refine xr_bipush (v := oI 60) (xd dX12_sendMade 22 rfl) (by decide) ?_
      refine xr_iload_n (xd dX12_sendMade 23 rfl) 2 rfl ?_
      refine zr_imul (xd dX12_sendMade 24 rfl) ?_
      refine xr_aload_n (xd dX12_sendMade 25 rfl) 0 rfl ?_
      refine xr_getR (b := 509) 12 25 (xd dX12_sendMade 26 rfl) f12_63 (by decide) (by decide) (lt552 hn (by decide)) kd_491 rfl (r_491_25 hR) ?_
      refine xr_iload_n (xd dX12_sendMade 27 rfl) 2 rfl ?_
      obtain ⟨o14, h⟩ := h
      refine zr_iaload (xd dX12_sendMade 28 rfl) (lt552 hn (by decide)) kd_509 ln_509 (by decide) o14 ?_
      refine zr_iadd (xd dX12_sendMade 29 rfl) ?_
      obtain ⟨x15, e_x15⟩ : ∃ z_ : Int, z_ = ((60 * x6) + (J5 509 x6)) := ⟨_, rfl⟩
      replace h := h x15 e_x15
      refine zr_nm e_x15 ?_
      refine xr_istore_n [(0, .ref 491), (1, .int (oI p1)), (2, .int (oI x6)), (3, .int (oI x15))] (xd dX12_sendMade 30 rfl) rfl (by decide) rfl ?_
      refine xr_aload_n (xd dX12_sendMade 31 rfl) 0 rfl ?_
      refine xr_getR (b := 510) 12 26 (xd dX12_sendMade 32 rfl) f12_66 (by decide) (by decide) (lt552 hn (by decide)) kd_491 rfl (r_491_26 hR) ?_
      refine xr_iload_n (xd dX12_sendMade 33 rfl) 3 rfl ?_
      refine xr_aload_n (xd dX12_sendMade 34 rfl) 0 rfl ?_
      refine zr_getI 12 30 30 rfl (xd dX12_sendMade 35 rfl) f12_320 (by decide) (by decide) (lt552 hn (by decide)) kd_491 rfl ?_
      obtain ⟨o16, h⟩ := h
      obtain ⟨J17, e_J17⟩ : ∃ z_ : zM, z_ = zs J5 510 x15 (J5 491 30) := ⟨_, rfl⟩
      replace h := h J17 e_J17
      refine zr_iastore e_J17 (xd dX12_sendMade 36 rfl) (lt552 hn (by decide)) kd_510 ln_510 (by decide) o16 ?_
      refine xr_iconst (v := oI 0) (xd dX12_sendMade 37 rfl) (by decide) ?_
      refine xr_istore [(0, .ref 491), (1, .int (oI p1)), (2, .int (oI x6)), (3, .int (oI x15)), (4, .int (oI 0))] (xd dX12_sendMade 38 rfl) (by decide) rfl ?_
      refine xJ.pick (ls' := [(0, .ref 491), (2, .int (oI x6)), (3, .int (oI x15)), (4, .int (oI 0))]) [0, 2, 3, 4] rfl ?_
      refine h (fun x19 J20 L21 => xJ (xGm b dC dI cA ts) l mX12_sendMade 0 0 (zQ0 n R Q) (fun _ _ => False) 0 0 58 [(0, .ref 491), (2, .int (oI x6)), (3, .int (oI x15)), (4, .int (oI x19))] [] al n R (zi J20) (li L21)) ?_
      intro x19 J20 L21 h
      show xJ _ _ _ _ _ _ _ _ _ 58 [(0, .ref 491), (2, .int (oI x6)), (3, .int (oI x15)), (4, .int (oI x19))] [] _ _ _ _ _
      refine xr_iload (xd dX12_sendMade 39 rfl) 3 rfl ?_
      refine xr_aload_n (xd dX12_sendMade 40 rfl) 0 rfl ?_
      refine zr_getI 12 30 30 rfl (xd dX12_sendMade 41 rfl) f12_320 (by decide) (by decide) (lt552 hn (by decide)) kd_491 rfl ?_
      obtain ⟨o22, h⟩ := h
      obtain ⟨o23, h⟩ := h
      refine zr_icmp_ge 93 (xd dX12_sendMade 42 rfl) (by decide) o22 o23 (fun c24 => ?_) (fun c24 => ?_)
      · replace h := ifn h c24
        refine xr_aload_n (xd dX12_sendMade 57 rfl) 0 rfl ?_
        refine xr_getR (b := 509) 12 25 (xd dX12_sendMade 58 rfl) f12_63 (by decide) (by decide) (lt552 hn (by decide)) kd_491 rfl (r_491_25 hR) ?_
        refine xr_iload_n (xd dX12_sendMade 59 rfl) 1 rfl ?_
        refine xr_dup2 (xd dX12_sendMade 60 rfl) rfl rfl ?_
        obtain ⟨o25, h⟩ := h
        refine zr_iaload (xd dX12_sendMade 61 rfl) (lt552 hn (by decide)) kd_509 ln_509 (by decide) o25 ?_
        refine xr_iconst (v := oI 1) (xd dX12_sendMade 62 rfl) (by decide) ?_
        refine zr_iadd (xd dX12_sendMade 63 rfl) ?_
        obtain ⟨o26, h⟩ := h
        obtain ⟨J27, e_J27⟩ : ∃ z_ : zM, z_ = zs J20 509 x6 ((J20 509 x6) + 1) := ⟨_, rfl⟩
        replace h := h J27 e_J27
        refine zr_iastore e_J27 (xd dX12_sendMade 64 rfl) (lt552 hn (by decide)) kd_509 ln_509 (by decide) o26 ?_
        refine xJ.pick (ls' := [(0, .ref 491)]) [0] rfl ?_
        exact h
      · replace h := ifp h c24
        refine xr_aload_n (xd dX12_sendMade 43 rfl) 0 rfl ?_
        refine xr_getR (b := 511) 12 27 (xd dX12_sendMade 44 rfl) f12_70 (by decide) (by decide) (lt552 hn (by decide)) kd_491 rfl (r_491_27 hR) ?_
        refine xr_sipush (v := oI 500) (xd dX12_sendMade 45 rfl) (by decide) ?_
        refine xr_iload_n (xd dX12_sendMade 46 rfl) 2 rfl ?_
        refine zr_imul (xd dX12_sendMade 47 rfl) ?_
        refine xr_iload (xd dX12_sendMade 48 rfl) 3 rfl ?_
        refine zr_iadd (xd dX12_sendMade 49 rfl) ?_
        refine xr_aload_n (xd dX12_sendMade 50 rfl) 0 rfl ?_
        refine xr_getR (b := 513) 12 29 (xd dX12_sendMade 51 rfl) f12_76 (by decide) (by decide) (lt552 hn (by decide)) kd_491 rfl (r_491_29 hR) ?_
        refine xr_iload (xd dX12_sendMade 52 rfl) 3 rfl ?_
        obtain ⟨o28, h⟩ := h
        refine zr_iaload (xd dX12_sendMade 53 rfl) (lt552 hn (by decide)) kd_513 ln_513 (by decide) o28 ?_
        obtain ⟨o29, h⟩ := h
        obtain ⟨J30, e_J30⟩ : ∃ z_ : zM, z_ = zs J20 511 ((500 * x15) + x19) (J20 513 x19) := ⟨_, rfl⟩
        replace h := h J30 e_J30
        refine zr_iastore e_J30 (xd dX12_sendMade 54 rfl) (lt552 hn (by decide)) kd_511 ln_511 (by decide) o29 ?_
        refine zr_iinc [(0, .ref 491), (2, .int (oI x6)), (3, .int (oI x15)), (4, .int (oI (x19 + 1)))] (xd dX12_sendMade 55 rfl) 3 rfl (by decide) rfl ?_
        refine xr_goto 58 (xd dX12_sendMade 56 rfl) (by decide) ?_
        exact h
  · replace h := ifp h c2
    exact xr_vret (xd dX12_sendMade 3 rfl) rfl (by decide) (by decide) (fun _ => rfl) ⟨_, _, rfl, rfl, h⟩
def w_X12_put (p1 : Int) (J : zM) (L : yM) (Q : zM → yM → Prop) : Prop := ((0 : Int) ≤ (J 491 30) ∧ (J 491 30) < 600) ∧ ∀ J2 : zM, J2 = zs J 513 (J 491 30) (zand p1 255) → ∀ J3 : zM, J3 = zs J2 491 30 ((J2 491 30) + 1) → Q J3 L
set_option maxHeartbeats 4000000 in
set_option maxRecDepth 100000 in
theorem v_X12_put {b : Nat} {dC : Nat → ClassId} {dI : Nat → Nat → Nat} {cA : Nat → ClassId} {ts : Nat → Nat} {l : Launch} {n : Nat} {R : Nat → Nat → Option Nat} {al : Bool} (hn : 552 ≤ n) (hR : xRk R) {p1 : Int}  {J : zM} {L : yM} {Q : zM → yM → Prop} (h : w_X12_put p1 J L Q) : xCn (xGm b dC dI cA ts) l mX12_put [.ref 491, .int (oI p1)] al (n, R, zi J, li L) 0 0 (zQ0 n R Q) (fun _ _ => False) := by
  refine xCn.ofJ (by decide) (Nat.le_of_ble_eq_true rfl) ?_
  show xJ _ _ _ _ _ _ _ _ _ 0 [(0, .ref 491), (1, .int (oI p1))] [] _ _ _ _ _
  unfold w_X12_put at h
  refine xr_aload_n (xd dX12_put 0 rfl) 0 rfl ?_
  refine xr_getR (b := 513) 12 29 (xd dX12_put 1 rfl) f12_76 (by decide) (by decide) (lt552 hn (by decide)) kd_491 rfl (r_491_29 hR) ?_
  refine xr_aload_n (xd dX12_put 2 rfl) 0 rfl ?_
  refine zr_getI 12 30 30 rfl (xd dX12_put 3 rfl) f12_320 (by decide) (by decide) (lt552 hn (by decide)) kd_491 rfl ?_
  refine xr_iload_n (xd dX12_put 4 rfl) 1 rfl ?_
  refine xr_sipush (v := oI 255) (xd dX12_put 5 rfl) (by decide) ?_
  refine zr_iand (xd dX12_put 6 rfl) ?_
  obtain ⟨o1, h⟩ := h
  obtain ⟨J2, e_J2⟩ : ∃ z_ : zM, z_ = zs J 513 (J 491 30) (zand p1 255) := ⟨_, rfl⟩
  replace h := h J2 e_J2
  refine zr_iastore e_J2 (xd dX12_put 7 rfl) (lt552 hn (by decide)) kd_513 ln_513 (by decide) o1 ?_
  refine xr_aload_n (xd dX12_put 8 rfl) 0 rfl ?_
  refine xr_dup (xd dX12_put 9 rfl) rfl ?_
  refine zr_getI 12 30 30 rfl (xd dX12_put 10 rfl) f12_320 (by decide) (by decide) (lt552 hn (by decide)) kd_491 rfl ?_
  refine xr_iconst (v := oI 1) (xd dX12_put 11 rfl) (by decide) ?_
  refine zr_iadd (xd dX12_put 12 rfl) ?_
  obtain ⟨J3, e_J3⟩ : ∃ z_ : zM, z_ = zs J2 491 30 ((J2 491 30) + 1) := ⟨_, rfl⟩
  replace h := h J3 e_J3
  refine zr_putI 12 30 30 rfl e_J3 (xd dX12_put 13 rfl) f12_320 (by decide) (by decide) (lt552 hn (by decide)) kd_491 (Or.inl rfl) rfl rfl (fun _ => rfl) ?_
  exact xr_vret (xd dX12_put 14 rfl) rfl (by decide) (by decide) (fun _ => rfl) ⟨_, _, rfl, rfl, h⟩
def w_X12_stream (p1 : Int) (p2 : Int) (p3 : Int) (p4 : Int) (J : zM) (L : yM) (Q : zM → yM → Prop) : Prop := w_X12_keyOwn p1 32 J L (fun J1 L2 => w_X12_beginCode J1 L2 (fun J3 L4 => w_X12_add 1 J3 L4 (fun J5 L6 => w_X12_add p2 J5 L6 (fun J7 L8 => w_X12_addNumber 2 (zi2l p3) J7 L8 (fun J9 L10 => w_X12_add p4 J9 L10 (fun J11 L12 => w_X12_code J11 L12 (fun J13 L14 => Q J13 L14)))))))
set_option maxHeartbeats 4000000 in
set_option maxRecDepth 100000 in
theorem v_X12_stream {b : Nat} {dC : Nat → ClassId} {dI : Nat → Nat → Nat} {cA : Nat → ClassId} {ts : Nat → Nat} {l : Launch} {n : Nat} {R : Nat → Nat → Option Nat} {al : Bool} (hn : 552 ≤ n) (hR : xRk R) {p1 : Int} {p2 : Int} {p3 : Int} {p4 : Int}  {J : zM} {L : yM} {Q : zM → yM → Prop} (h : w_X12_stream p1 p2 p3 p4 J L Q) : xCn (xGm b dC dI cA ts) l mX12_stream [.ref 491, .int (oI p1), .int (oI p2), .int (oI p3), .int (oI p4)] al (n, R, zi J, li L) 0 0 (zQ0 n R Q) (fun _ _ => False) := by
  refine xCn.ofJ (by decide) (Nat.le_of_ble_eq_true rfl) ?_
  show xJ _ _ _ _ _ _ _ _ _ 0 [(0, .ref 491), (1, .int (oI p1)), (2, .int (oI p2)), (3, .int (oI p3)), (4, .int (oI p4))] [] _ _ _ _ _
  unfold w_X12_stream at h
  refine xr_aload_n (xd dX12_stream 0 rfl) 0 rfl ?_
  refine xr_iload_n (xd dX12_stream 1 rfl) 1 rfl ?_
  refine xr_bipush (v := oI 32) (xd dX12_stream 2 rfl) (by decide) ?_
  refine xr_callV mX12_keyOwn 2 [.int (oI p1), .int (oI 32)] (xd dX12_stream 3 rfl) l12_257 kX12_keyOwn rfl (lt552 hn (by decide)) kd_491 (by decide) rfl (by decide) (Nat.le_of_ble_eq_true rfl) (v_X12_keyOwn hn hR  h) (by decide) (by decide) (fun r_ M_ h_ => ?_) (fun _ _ h_ => h_.elim)
  obtain ⟨J1, L2, rfl, rfl, h⟩ := h_
  show xJ _ _ _ _ _ _ _ _ _ 7 [(0, .ref 491), (1, .int (oI p1)), (2, .int (oI p2)), (3, .int (oI p3)), (4, .int (oI p4))] [] _ _ _ (zi J1) (li L2)
  refine xr_aload_n (xd dX12_stream 4 rfl) 0 rfl ?_
  refine xr_callV mX12_beginCode 0 [] (xd dX12_stream 5 rfl) l12_247 kX12_beginCode rfl (lt552 hn (by decide)) kd_491 (by decide) rfl (by decide) (Nat.le_of_ble_eq_true rfl) (v_X12_beginCode hn hR  h) (by decide) (by decide) (fun r_ M_ h_ => ?_) (fun _ _ h_ => h_.elim)
  obtain ⟨J3, L4, rfl, rfl, h⟩ := h_
  show xJ _ _ _ _ _ _ _ _ _ 11 [(0, .ref 491), (1, .int (oI p1)), (2, .int (oI p2)), (3, .int (oI p3)), (4, .int (oI p4))] [] _ _ _ (zi J3) (li L4)
  refine xr_aload_n (xd dX12_stream 6 rfl) 0 rfl ?_
  refine xr_iconst (v := oI 1) (xd dX12_stream 7 rfl) (by decide) ?_
  refine xr_callV mX12_add 1 [.int (oI 1)] (xd dX12_stream 8 rfl) l12_238 kX12_add rfl (lt552 hn (by decide)) kd_491 (by decide) rfl (by decide) (Nat.le_of_ble_eq_true rfl) (v_X12_add hn hR  h) (by decide) (by decide) (fun r_ M_ h_ => ?_) (fun _ _ h_ => h_.elim)
  obtain ⟨J5, L6, rfl, rfl, h⟩ := h_
  show xJ _ _ _ _ _ _ _ _ _ 16 [(0, .ref 491), (1, .int (oI p1)), (2, .int (oI p2)), (3, .int (oI p3)), (4, .int (oI p4))] [] _ _ _ (zi J5) (li L6)
  refine xr_aload_n (xd dX12_stream 9 rfl) 0 rfl ?_
  refine xr_iload_n (xd dX12_stream 10 rfl) 2 rfl ?_
  refine xr_callV mX12_add 1 [.int (oI p2)] (xd dX12_stream 11 rfl) l12_238 kX12_add rfl (lt552 hn (by decide)) kd_491 (by decide) rfl (by decide) (Nat.le_of_ble_eq_true rfl) (v_X12_add hn hR  h) (by decide) (by decide) (fun r_ M_ h_ => ?_) (fun _ _ h_ => h_.elim)
  obtain ⟨J7, L8, rfl, rfl, h⟩ := h_
  show xJ _ _ _ _ _ _ _ _ _ 21 [(0, .ref 491), (1, .int (oI p1)), (2, .int (oI p2)), (3, .int (oI p3)), (4, .int (oI p4))] [] _ _ _ (zi J7) (li L8)
  refine xr_aload_n (xd dX12_stream 12 rfl) 0 rfl ?_
  refine xr_iconst (v := oI 2) (xd dX12_stream 13 rfl) (by decide) ?_
  refine xr_iload_n (xd dX12_stream 14 rfl) 3 rfl ?_
  refine zr_i2l (xd dX12_stream 15 rfl) ?_
  refine xr_callV mX12_addNumber 2 [.int (oI 2), .long (zi2l p3)] (xd dX12_stream 16 rfl) l12_260 kX12_addNumber rfl (lt552 hn (by decide)) kd_491 (by decide) rfl (by decide) (Nat.le_of_ble_eq_true rfl) (v_X12_addNumber hn hR  h) (by decide) (by decide) (fun r_ M_ h_ => ?_) (fun _ _ h_ => h_.elim)
  obtain ⟨J9, L10, rfl, rfl, h⟩ := h_
  show xJ _ _ _ _ _ _ _ _ _ 28 [(0, .ref 491), (1, .int (oI p1)), (2, .int (oI p2)), (3, .int (oI p3)), (4, .int (oI p4))] [] _ _ _ (zi J9) (li L10)
  refine xr_aload_n (xd dX12_stream 17 rfl) 0 rfl ?_
  refine xr_iload (xd dX12_stream 18 rfl) 4 rfl ?_
  refine xr_callV mX12_add 1 [.int (oI p4)] (xd dX12_stream 19 rfl) l12_238 kX12_add rfl (lt552 hn (by decide)) kd_491 (by decide) rfl (by decide) (Nat.le_of_ble_eq_true rfl) (v_X12_add hn hR  h) (by decide) (by decide) (fun r_ M_ h_ => ?_) (fun _ _ h_ => h_.elim)
  obtain ⟨J11, L12, rfl, rfl, h⟩ := h_
  show xJ _ _ _ _ _ _ _ _ _ 34 [(0, .ref 491), (1, .int (oI p1)), (2, .int (oI p2)), (3, .int (oI p3)), (4, .int (oI p4))] [] _ _ _ (zi J11) (li L12)
  refine xr_aload_n (xd dX12_stream 20 rfl) 0 rfl ?_
  refine xr_callV mX12_code 0 [] (xd dX12_stream 21 rfl) l12_254 kX12_code rfl (lt552 hn (by decide)) kd_491 (by decide) rfl (by decide) (Nat.le_of_ble_eq_true rfl) (v_X12_code hn hR  h) (by decide) (by decide) (fun r_ M_ h_ => ?_) (fun _ _ h_ => h_.elim)
  obtain ⟨J13, L14, rfl, rfl, h⟩ := h_
  show xJ _ _ _ _ _ _ _ _ _ 38 [(0, .ref 491), (1, .int (oI p1)), (2, .int (oI p2)), (3, .int (oI p3)), (4, .int (oI p4))] [] _ _ _ (zi J13) (li L14)
  exact xr_vret (xd dX12_stream 22 rfl) rfl (by decide) (by decide) (fun _ => rfl) ⟨_, _, rfl, rfl, h⟩
def w_X12_tag (p1 : Int) (p2 : Int) (p3 : Int) (p4 : Int) (J : zM) (L : yM) (Q : zM → yM → Prop) : Prop := w_X12_keyOwn p1 32 J L (fun J1 L2 => w_X12_beginCode J1 L2 (fun J3 L4 => w_X12_add 2 J3 L4 (fun J5 L6 => w_X12_add p2 J5 L6 (fun J7 L8 => w_X12_addNumber 2 (zi2l p3) J7 L8 (fun J9 L10 => w_X12_add (32 + p2) J9 L10 (fun J11 L12 => w_X12_addNumber 2 (zi2l p3) J11 L12 (fun J13 L14 => w_X12_addNumber 2 (zi2l (p4 + 8)) J13 L14 (fun J15 L16 => zl_z (fun K17 x18 J19 L20 => R32 x18 ∧ R32 p4 ∧ (if x18 < p4 then ((0 : Int) ≤ x18 ∧ x18 < 520) ∧ w_X12_add (J19 516 x18) J19 L20 (fun J27 L28 => K17 (x18 + 1) J27 L28) else w_X12_code J19 L20 (fun J24 L25 => Q J24 L25))) 0 J15 L16))))))))
set_option maxHeartbeats 4000000 in
set_option maxRecDepth 100000 in
theorem v_X12_tag {b : Nat} {dC : Nat → ClassId} {dI : Nat → Nat → Nat} {cA : Nat → ClassId} {ts : Nat → Nat} {l : Launch} {n : Nat} {R : Nat → Nat → Option Nat} {al : Bool} (hn : 552 ≤ n) (hR : xRk R) {p1 : Int} {p2 : Int} {p3 : Int} {p4 : Int}  {J : zM} {L : yM} {Q : zM → yM → Prop} (h : w_X12_tag p1 p2 p3 p4 J L Q) : xCn (xGm b dC dI cA ts) l mX12_tag [.ref 491, .int (oI p1), .int (oI p2), .int (oI p3), .int (oI p4)] al (n, R, zi J, li L) 0 0 (zQ0 n R Q) (fun _ _ => False) := by
  refine xCn.ofJ (by decide) (Nat.le_of_ble_eq_true rfl) ?_
  show xJ _ _ _ _ _ _ _ _ _ 0 [(0, .ref 491), (1, .int (oI p1)), (2, .int (oI p2)), (3, .int (oI p3)), (4, .int (oI p4))] [] _ _ _ _ _
  unfold w_X12_tag at h
  refine xr_aload_n (xd dX12_tag 0 rfl) 0 rfl ?_
  refine xr_iload_n (xd dX12_tag 1 rfl) 1 rfl ?_
  refine xr_bipush (v := oI 32) (xd dX12_tag 2 rfl) (by decide) ?_
  refine xr_callV mX12_keyOwn 2 [.int (oI p1), .int (oI 32)] (xd dX12_tag 3 rfl) l12_257 kX12_keyOwn rfl (lt552 hn (by decide)) kd_491 (by decide) rfl (by decide) (Nat.le_of_ble_eq_true rfl) (v_X12_keyOwn hn hR  h) (by decide) (by decide) (fun r_ M_ h_ => ?_) (fun _ _ h_ => h_.elim)
  obtain ⟨J1, L2, rfl, rfl, h⟩ := h_
  show xJ _ _ _ _ _ _ _ _ _ 7 [(0, .ref 491), (1, .int (oI p1)), (2, .int (oI p2)), (3, .int (oI p3)), (4, .int (oI p4))] [] _ _ _ (zi J1) (li L2)
  refine xr_aload_n (xd dX12_tag 4 rfl) 0 rfl ?_
  refine xr_callV mX12_beginCode 0 [] (xd dX12_tag 5 rfl) l12_247 kX12_beginCode rfl (lt552 hn (by decide)) kd_491 (by decide) rfl (by decide) (Nat.le_of_ble_eq_true rfl) (v_X12_beginCode hn hR  h) (by decide) (by decide) (fun r_ M_ h_ => ?_) (fun _ _ h_ => h_.elim)
  obtain ⟨J3, L4, rfl, rfl, h⟩ := h_
  show xJ _ _ _ _ _ _ _ _ _ 11 [(0, .ref 491), (1, .int (oI p1)), (2, .int (oI p2)), (3, .int (oI p3)), (4, .int (oI p4))] [] _ _ _ (zi J3) (li L4)
  refine xr_aload_n (xd dX12_tag 6 rfl) 0 rfl ?_
  refine xr_iconst (v := oI 2) (xd dX12_tag 7 rfl) (by decide) ?_
  refine xr_callV mX12_add 1 [.int (oI 2)] (xd dX12_tag 8 rfl) l12_238 kX12_add rfl (lt552 hn (by decide)) kd_491 (by decide) rfl (by decide) (Nat.le_of_ble_eq_true rfl) (v_X12_add hn hR  h) (by decide) (by decide) (fun r_ M_ h_ => ?_) (fun _ _ h_ => h_.elim)
  obtain ⟨J5, L6, rfl, rfl, h⟩ := h_
  show xJ _ _ _ _ _ _ _ _ _ 16 [(0, .ref 491), (1, .int (oI p1)), (2, .int (oI p2)), (3, .int (oI p3)), (4, .int (oI p4))] [] _ _ _ (zi J5) (li L6)
  refine xr_aload_n (xd dX12_tag 9 rfl) 0 rfl ?_
  refine xr_iload_n (xd dX12_tag 10 rfl) 2 rfl ?_
  refine xr_callV mX12_add 1 [.int (oI p2)] (xd dX12_tag 11 rfl) l12_238 kX12_add rfl (lt552 hn (by decide)) kd_491 (by decide) rfl (by decide) (Nat.le_of_ble_eq_true rfl) (v_X12_add hn hR  h) (by decide) (by decide) (fun r_ M_ h_ => ?_) (fun _ _ h_ => h_.elim)
  obtain ⟨J7, L8, rfl, rfl, h⟩ := h_
  show xJ _ _ _ _ _ _ _ _ _ 21 [(0, .ref 491), (1, .int (oI p1)), (2, .int (oI p2)), (3, .int (oI p3)), (4, .int (oI p4))] [] _ _ _ (zi J7) (li L8)
  refine xr_aload_n (xd dX12_tag 12 rfl) 0 rfl ?_
  refine xr_iconst (v := oI 2) (xd dX12_tag 13 rfl) (by decide) ?_
  refine xr_iload_n (xd dX12_tag 14 rfl) 3 rfl ?_
  refine zr_i2l (xd dX12_tag 15 rfl) ?_
  refine xr_callV mX12_addNumber 2 [.int (oI 2), .long (zi2l p3)] (xd dX12_tag 16 rfl) l12_260 kX12_addNumber rfl (lt552 hn (by decide)) kd_491 (by decide) rfl (by decide) (Nat.le_of_ble_eq_true rfl) (v_X12_addNumber hn hR  h) (by decide) (by decide) (fun r_ M_ h_ => ?_) (fun _ _ h_ => h_.elim)
  obtain ⟨J9, L10, rfl, rfl, h⟩ := h_
  show xJ _ _ _ _ _ _ _ _ _ 28 [(0, .ref 491), (1, .int (oI p1)), (2, .int (oI p2)), (3, .int (oI p3)), (4, .int (oI p4))] [] _ _ _ (zi J9) (li L10)
  refine xr_aload_n (xd dX12_tag 17 rfl) 0 rfl ?_
  refine xr_bipush (v := oI 32) (xd dX12_tag 18 rfl) (by decide) ?_
  refine xr_iload_n (xd dX12_tag 19 rfl) 2 rfl ?_
  refine zr_iadd (xd dX12_tag 20 rfl) ?_
  refine xr_callV mX12_add 1 [.int (oI (32 + p2))] (xd dX12_tag 21 rfl) l12_238 kX12_add rfl (lt552 hn (by decide)) kd_491 (by decide) rfl (by decide) (Nat.le_of_ble_eq_true rfl) (v_X12_add hn hR  h) (by decide) (by decide) (fun r_ M_ h_ => ?_) (fun _ _ h_ => h_.elim)
  obtain ⟨J11, L12, rfl, rfl, h⟩ := h_
  show xJ _ _ _ _ _ _ _ _ _ 36 [(0, .ref 491), (1, .int (oI p1)), (2, .int (oI p2)), (3, .int (oI p3)), (4, .int (oI p4))] [] _ _ _ (zi J11) (li L12)
  refine xr_aload_n (xd dX12_tag 22 rfl) 0 rfl ?_
  refine xr_iconst (v := oI 2) (xd dX12_tag 23 rfl) (by decide) ?_
  refine xr_iload_n (xd dX12_tag 24 rfl) 3 rfl ?_
  refine zr_i2l (xd dX12_tag 25 rfl) ?_
  refine xr_callV mX12_addNumber 2 [.int (oI 2), .long (zi2l p3)] (xd dX12_tag 26 rfl) l12_260 kX12_addNumber rfl (lt552 hn (by decide)) kd_491 (by decide) rfl (by decide) (Nat.le_of_ble_eq_true rfl) (v_X12_addNumber hn hR  h) (by decide) (by decide) (fun r_ M_ h_ => ?_) (fun _ _ h_ => h_.elim)
  obtain ⟨J13, L14, rfl, rfl, h⟩ := h_
  show xJ _ _ _ _ _ _ _ _ _ 43 [(0, .ref 491), (1, .int (oI p1)), (2, .int (oI p2)), (3, .int (oI p3)), (4, .int (oI p4))] [] _ _ _ (zi J13) (li L14)
  refine xr_aload_n (xd dX12_tag 27 rfl) 0 rfl ?_
  refine xr_iconst (v := oI 2) (xd dX12_tag 28 rfl) (by decide) ?_
  refine xr_iload (xd dX12_tag 29 rfl) 4 rfl ?_
  refine xr_bipush (v := oI 8) (xd dX12_tag 30 rfl) (by decide) ?_
  refine zr_iadd (xd dX12_tag 31 rfl) ?_
  refine zr_i2l (xd dX12_tag 32 rfl) ?_
  refine xr_callV mX12_addNumber 2 [.int (oI 2), .long (zi2l (p4 + 8))] (xd dX12_tag 33 rfl) l12_260 kX12_addNumber rfl (lt552 hn (by decide)) kd_491 (by decide) rfl (by decide) (Nat.le_of_ble_eq_true rfl) (v_X12_addNumber hn hR  h) (by decide) (by decide) (fun r_ M_ h_ => ?_) (fun _ _ h_ => h_.elim)
  obtain ⟨J15, L16, rfl, rfl, h⟩ := h_
  show xJ _ _ _ _ _ _ _ _ _ 54 [(0, .ref 491), (1, .int (oI p1)), (2, .int (oI p2)), (3, .int (oI p3)), (4, .int (oI p4))] [] _ _ _ (zi J15) (li L16)
  refine xr_iconst (v := oI 0) (xd dX12_tag 34 rfl) (by decide) ?_
  refine xr_istore [(0, .ref 491), (1, .int (oI p1)), (2, .int (oI p2)), (3, .int (oI p3)), (4, .int (oI p4)), (5, .int (oI 0))] (xd dX12_tag 35 rfl) (by decide) rfl ?_
  refine xJ.pick (ls' := [(0, .ref 491), (4, .int (oI p4)), (5, .int (oI 0))]) [0, 4, 5] rfl ?_
  refine h (fun x18 J19 L20 => xJ (xGm b dC dI cA ts) l mX12_tag 0 0 (zQ0 n R Q) (fun _ _ => False) 0 0 57 [(0, .ref 491), (4, .int (oI p4)), (5, .int (oI x18))] [] al n R (zi J19) (li L20)) ?_
  intro x18 J19 L20 h
  show xJ _ _ _ _ _ _ _ _ _ 57 [(0, .ref 491), (4, .int (oI p4)), (5, .int (oI x18))] [] _ _ _ _ _
  refine xr_iload (xd dX12_tag 36 rfl) 2 rfl ?_
  refine xr_iload (xd dX12_tag 37 rfl) 1 rfl ?_
  obtain ⟨o21, h⟩ := h
  obtain ⟨o22, h⟩ := h
  refine zr_icmp_ge 81 (xd dX12_tag 38 rfl) (by decide) o21 o22 (fun c23 => ?_) (fun c23 => ?_)
  · replace h := ifn h c23
    refine xr_aload_n (xd dX12_tag 47 rfl) 0 rfl ?_
    refine xr_callV mX12_code 0 [] (xd dX12_tag 48 rfl) l12_254 kX12_code rfl (lt552 hn (by decide)) kd_491 (by decide) rfl (by decide) (Nat.le_of_ble_eq_true rfl) (v_X12_code hn hR  h) (by decide) (by decide) (fun r_ M_ h_ => ?_) (fun _ _ h_ => h_.elim)
    obtain ⟨J24, L25, rfl, rfl, h⟩ := h_
    show xJ _ _ _ _ _ _ _ _ _ 85 [(0, .ref 491), (4, .int (oI p4)), (5, .int (oI x18))] [] _ _ _ (zi J24) (li L25)
    exact xr_vret (xd dX12_tag 49 rfl) rfl (by decide) (by decide) (fun _ => rfl) ⟨_, _, rfl, rfl, h⟩
  · replace h := ifp h c23
    refine xr_aload_n (xd dX12_tag 39 rfl) 0 rfl ?_
    refine xr_aload_n (xd dX12_tag 40 rfl) 0 rfl ?_
    refine xr_getR (b := 516) 12 34 (xd dX12_tag 41 rfl) f12_85 (by decide) (by decide) (lt552 hn (by decide)) kd_491 rfl (r_491_34 hR) ?_
    refine xr_iload (xd dX12_tag 42 rfl) 2 rfl ?_
    obtain ⟨o26, h⟩ := h
    refine zr_iaload (xd dX12_tag 43 rfl) (lt552 hn (by decide)) kd_516 ln_516 (by decide) o26 ?_
    refine xr_callV mX12_add 1 [.int (oI (J19 516 x18))] (xd dX12_tag 44 rfl) l12_238 kX12_add rfl (lt552 hn (by decide)) kd_491 (by decide) rfl (by decide) (Nat.le_of_ble_eq_true rfl) (v_X12_add hn hR  h) (by decide) (by decide) (fun r_ M_ h_ => ?_) (fun _ _ h_ => h_.elim)
    obtain ⟨J27, L28, rfl, rfl, h⟩ := h_
    show xJ _ _ _ _ _ _ _ _ _ 75 [(0, .ref 491), (4, .int (oI p4)), (5, .int (oI x18))] [] _ _ _ (zi J27) (li L28)
    refine zr_iinc [(0, .ref 491), (4, .int (oI p4)), (5, .int (oI (x18 + 1)))] (xd dX12_tag 45 rfl) 2 rfl (by decide) rfl ?_
    refine xr_goto 57 (xd dX12_tag 46 rfl) (by decide) ?_
    exact h
def w_X12_mask (p1 : Int) (J : zM) (L : yM) (Q : zM → yM → Prop) : Prop := zl_z (fun K1 x2 J3 L4 => R32 x2 ∧ (if x2 < 8 then ((0 : Int) ≤ x2 ∧ x2 < 32) ∧ ((0 : Int) ≤ x2 ∧ x2 < 32) ∧ ∀ J24 : zM, J24 = zs J3 508 x2 (J3 500 x2) → K1 (x2 + 1) J24 L4 else w_X12_keyOwn (p1 + 32) 32 J3 L4 (fun J7 L8 => w_X12_beginCode J7 L8 (fun J9 L10 => zl_z (fun K11 x12 J13 L14 => R32 x12 ∧ (if x12 < 8 then ((0 : Int) ≤ x12 ∧ x12 < 32) ∧ w_X12_add (J13 508 x12) J13 L14 (fun J20 L21 => K11 (x12 + 1) J20 L21) else w_X12_code J13 L14 (fun J17 L18 => Q J17 L18))) 0 J9 L10)))) 0 J L
set_option maxHeartbeats 4000000 in
set_option maxRecDepth 100000 in
theorem v_X12_mask {b : Nat} {dC : Nat → ClassId} {dI : Nat → Nat → Nat} {cA : Nat → ClassId} {ts : Nat → Nat} {l : Launch} {n : Nat} {R : Nat → Nat → Option Nat} {al : Bool} (hn : 552 ≤ n) (hR : xRk R) {p1 : Int}  {J : zM} {L : yM} {Q : zM → yM → Prop} (h : w_X12_mask p1 J L Q) : xCn (xGm b dC dI cA ts) l mX12_mask [.ref 491, .int (oI p1)] al (n, R, zi J, li L) 0 0 (zQ0 n R Q) (fun _ _ => False) := by
  refine xCn.ofJ (by decide) (Nat.le_of_ble_eq_true rfl) ?_
  show xJ _ _ _ _ _ _ _ _ _ 0 [(0, .ref 491), (1, .int (oI p1))] [] _ _ _ _ _
  unfold w_X12_mask at h
  refine xr_iconst (v := oI 0) (xd dX12_mask 0 rfl) (by decide) ?_
  refine xr_istore_n [(0, .ref 491), (1, .int (oI p1)), (2, .int (oI 0))] (xd dX12_mask 1 rfl) rfl (by decide) rfl ?_
  refine h (fun x2 J3 L4 => xJ (xGm b dC dI cA ts) l mX12_mask 0 0 (zQ0 n R Q) (fun _ _ => False) 0 0 2 [(0, .ref 491), (1, .int (oI p1)), (2, .int (oI x2))] [] al n R (zi J3) (li L4)) ?_
  intro x2 J3 L4 h
  show xJ _ _ _ _ _ _ _ _ _ 2 [(0, .ref 491), (1, .int (oI p1)), (2, .int (oI x2))] [] _ _ _ _ _
  refine xr_iload_n (xd dX12_mask 2 rfl) 2 rfl ?_
  refine xr_bipush (v := oI 8) (xd dX12_mask 3 rfl) (by decide) ?_
  obtain ⟨o5, h⟩ := h
  refine zr_icmp_ge 26 (xd dX12_mask 4 rfl) (by decide) o5 (by decide) (fun c6 => ?_) (fun c6 => ?_)
  · replace h := ifn h c6
    refine xr_aload_n (xd dX12_mask 15 rfl) 0 rfl ?_
    refine xr_iload_n (xd dX12_mask 16 rfl) 1 rfl ?_
    refine xr_bipush (v := oI 32) (xd dX12_mask 17 rfl) (by decide) ?_
    refine zr_iadd (xd dX12_mask 18 rfl) ?_
    refine xr_bipush (v := oI 32) (xd dX12_mask 19 rfl) (by decide) ?_
    refine xr_callV mX12_keyOwn 2 [.int (oI (p1 + 32)), .int (oI 32)] (xd dX12_mask 20 rfl) l12_257 kX12_keyOwn rfl (lt552 hn (by decide)) kd_491 (by decide) rfl (by decide) (Nat.le_of_ble_eq_true rfl) (v_X12_keyOwn hn hR  h) (by decide) (by decide) (fun r_ M_ h_ => ?_) (fun _ _ h_ => h_.elim)
    obtain ⟨J7, L8, rfl, rfl, h⟩ := h_
    show xJ _ _ _ _ _ _ _ _ _ 36 [(0, .ref 491), (1, .int (oI p1)), (2, .int (oI x2))] [] _ _ _ (zi J7) (li L8)
    refine xr_aload_n (xd dX12_mask 21 rfl) 0 rfl ?_
    refine xr_callV mX12_beginCode 0 [] (xd dX12_mask 22 rfl) l12_247 kX12_beginCode rfl (lt552 hn (by decide)) kd_491 (by decide) rfl (by decide) (Nat.le_of_ble_eq_true rfl) (v_X12_beginCode hn hR  h) (by decide) (by decide) (fun r_ M_ h_ => ?_) (fun _ _ h_ => h_.elim)
    obtain ⟨J9, L10, rfl, rfl, h⟩ := h_
    show xJ _ _ _ _ _ _ _ _ _ 40 [(0, .ref 491), (1, .int (oI p1)), (2, .int (oI x2))] [] _ _ _ (zi J9) (li L10)
    refine xr_iconst (v := oI 0) (xd dX12_mask 23 rfl) (by decide) ?_
    refine xr_istore_n [(0, .ref 491), (1, .int (oI p1)), (2, .int (oI 0))] (xd dX12_mask 24 rfl) rfl (by decide) rfl ?_
    refine xJ.pick (ls' := [(0, .ref 491), (2, .int (oI 0))]) [0, 2] rfl ?_
    refine h (fun x12 J13 L14 => xJ (xGm b dC dI cA ts) l mX12_mask 0 0 (zQ0 n R Q) (fun _ _ => False) 0 0 42 [(0, .ref 491), (2, .int (oI x12))] [] al n R (zi J13) (li L14)) ?_
    intro x12 J13 L14 h
    show xJ _ _ _ _ _ _ _ _ _ 42 [(0, .ref 491), (2, .int (oI x12))] [] _ _ _ _ _
    refine xr_iload_n (xd dX12_mask 25 rfl) 1 rfl ?_
    refine xr_bipush (v := oI 8) (xd dX12_mask 26 rfl) (by decide) ?_
    obtain ⟨o15, h⟩ := h
    refine zr_icmp_ge 64 (xd dX12_mask 27 rfl) (by decide) o15 (by decide) (fun c16 => ?_) (fun c16 => ?_)
    · replace h := ifn h c16
      refine xr_aload_n (xd dX12_mask 36 rfl) 0 rfl ?_
      refine xr_callV mX12_code 0 [] (xd dX12_mask 37 rfl) l12_254 kX12_code rfl (lt552 hn (by decide)) kd_491 (by decide) rfl (by decide) (Nat.le_of_ble_eq_true rfl) (v_X12_code hn hR  h) (by decide) (by decide) (fun r_ M_ h_ => ?_) (fun _ _ h_ => h_.elim)
      obtain ⟨J17, L18, rfl, rfl, h⟩ := h_
      show xJ _ _ _ _ _ _ _ _ _ 68 [(0, .ref 491), (2, .int (oI x12))] [] _ _ _ (zi J17) (li L18)
      exact xr_vret (xd dX12_mask 38 rfl) rfl (by decide) (by decide) (fun _ => rfl) ⟨_, _, rfl, rfl, h⟩
    · replace h := ifp h c16
      refine xr_aload_n (xd dX12_mask 28 rfl) 0 rfl ?_
      refine xr_aload_n (xd dX12_mask 29 rfl) 0 rfl ?_
      refine xr_getR (b := 508) 12 24 (xd dX12_mask 30 rfl) f12_60 (by decide) (by decide) (lt552 hn (by decide)) kd_491 rfl (r_491_24 hR) ?_
      refine xr_iload_n (xd dX12_mask 31 rfl) 1 rfl ?_
      obtain ⟨o19, h⟩ := h
      refine zr_iaload (xd dX12_mask 32 rfl) (lt552 hn (by decide)) kd_508 ln_508 (by decide) o19 ?_
      refine xr_callV mX12_add 1 [.int (oI (J13 508 x12))] (xd dX12_mask 33 rfl) l12_238 kX12_add rfl (lt552 hn (by decide)) kd_491 (by decide) rfl (by decide) (Nat.le_of_ble_eq_true rfl) (v_X12_add hn hR  h) (by decide) (by decide) (fun r_ M_ h_ => ?_) (fun _ _ h_ => h_.elim)
      obtain ⟨J20, L21, rfl, rfl, h⟩ := h_
      show xJ _ _ _ _ _ _ _ _ _ 58 [(0, .ref 491), (2, .int (oI x12))] [] _ _ _ (zi J20) (li L21)
      refine zr_iinc [(0, .ref 491), (2, .int (oI (x12 + 1)))] (xd dX12_mask 34 rfl) 1 rfl (by decide) rfl ?_
      refine xr_goto 42 (xd dX12_mask 35 rfl) (by decide) ?_
      exact h
  · replace h := ifp h c6
    refine xr_aload_n (xd dX12_mask 5 rfl) 0 rfl ?_
    refine xr_getR (b := 508) 12 24 (xd dX12_mask 6 rfl) f12_60 (by decide) (by decide) (lt552 hn (by decide)) kd_491 rfl (r_491_24 hR) ?_
    refine xr_iload_n (xd dX12_mask 7 rfl) 2 rfl ?_
    refine xr_aload_n (xd dX12_mask 8 rfl) 0 rfl ?_
    refine xr_getR (b := 500) 12 16 (xd dX12_mask 9 rfl) f12_34 (by decide) (by decide) (lt552 hn (by decide)) kd_491 rfl (r_491_16 hR) ?_
    refine xr_iload_n (xd dX12_mask 10 rfl) 2 rfl ?_
    obtain ⟨o22, h⟩ := h
    refine zr_iaload (xd dX12_mask 11 rfl) (lt552 hn (by decide)) kd_500 ln_500 (by decide) o22 ?_
    obtain ⟨o23, h⟩ := h
    obtain ⟨J24, e_J24⟩ : ∃ z_ : zM, z_ = zs J3 508 x2 (J3 500 x2) := ⟨_, rfl⟩
    replace h := h J24 e_J24
    refine zr_iastore e_J24 (xd dX12_mask 12 rfl) (lt552 hn (by decide)) kd_508 ln_508 (by decide) o23 ?_
    refine zr_iinc [(0, .ref 491), (1, .int (oI p1)), (2, .int (oI (x2 + 1)))] (xd dX12_mask 13 rfl) 2 rfl (by decide) rfl ?_
    refine xr_goto 2 (xd dX12_mask 14 rfl) (by decide) ?_
    exact h
def w_X12_streamed (p1 : Int) (p2 : Int) (p3 : Int) (p4 : Int) (J : zM) (L : yM) (Q : zM → yM → Prop) : Prop := zl_z (fun K1 x2 J3 L4 => R32 x2 ∧ R32 p4 ∧ (if x2 < p4 then ∀ K10 : zM → yM → Prop, (∀ (J8 : zM) (L9 : yM), (((0 : Int) ≤ x2 ∧ x2 < 520) ∧ ((0 : Int) ≤ (zrem x2 32) ∧ (zrem x2 32) < 32) ∧ ((0 : Int) ≤ x2 ∧ x2 < 520) ∧ ∀ J14 : zM, J14 = zs J8 516 x2 (zxor (J8 516 x2) (J8 500 (zrem x2 32))) → K1 (x2 + 1) J14 L9) → K10 J8 L9) → (if (zrem x2 32) = 0 then w_X12_stream p1 p2 p3 (zdiv x2 32) J3 L4 (fun J16 L17 => K10 J16 L17) else K10 J3 L4) else Q J3 L4)) 0 J L
set_option maxHeartbeats 4000000 in
set_option maxRecDepth 100000 in
theorem v_X12_streamed {b : Nat} {dC : Nat → ClassId} {dI : Nat → Nat → Nat} {cA : Nat → ClassId} {ts : Nat → Nat} {l : Launch} {n : Nat} {R : Nat → Nat → Option Nat} {al : Bool} (hn : 552 ≤ n) (hR : xRk R) {p1 : Int} {p2 : Int} {p3 : Int} {p4 : Int}  {J : zM} {L : yM} {Q : zM → yM → Prop} (h : w_X12_streamed p1 p2 p3 p4 J L Q) : xCn (xGm b dC dI cA ts) l mX12_streamed [.ref 491, .int (oI p1), .int (oI p2), .int (oI p3), .int (oI p4)] al (n, R, zi J, li L) 0 0 (zQ0 n R Q) (fun _ _ => False) := by
  refine xCn.ofJ (by decide) (Nat.le_of_ble_eq_true rfl) ?_
  show xJ _ _ _ _ _ _ _ _ _ 0 [(0, .ref 491), (1, .int (oI p1)), (2, .int (oI p2)), (3, .int (oI p3)), (4, .int (oI p4))] [] _ _ _ _ _
  unfold w_X12_streamed at h
  refine xr_iconst (v := oI 0) (xd dX12_streamed 0 rfl) (by decide) ?_
  refine xr_istore [(0, .ref 491), (1, .int (oI p1)), (2, .int (oI p2)), (3, .int (oI p3)), (4, .int (oI p4)), (5, .int (oI 0))] (xd dX12_streamed 1 rfl) (by decide) rfl ?_
  refine h (fun x2 J3 L4 => xJ (xGm b dC dI cA ts) l mX12_streamed 0 0 (zQ0 n R Q) (fun _ _ => False) 0 0 3 [(0, .ref 491), (1, .int (oI p1)), (2, .int (oI p2)), (3, .int (oI p3)), (4, .int (oI p4)), (5, .int (oI x2))] [] al n R (zi J3) (li L4)) ?_
  intro x2 J3 L4 h
  show xJ _ _ _ _ _ _ _ _ _ 3 [(0, .ref 491), (1, .int (oI p1)), (2, .int (oI p2)), (3, .int (oI p3)), (4, .int (oI p4)), (5, .int (oI x2))] [] _ _ _ _ _
  refine xr_iload (xd dX12_streamed 2 rfl) 5 rfl ?_
  refine xr_iload (xd dX12_streamed 3 rfl) 4 rfl ?_
  obtain ⟨o5, h⟩ := h
  obtain ⟨o6, h⟩ := h
  refine zr_icmp_ge 56 (xd dX12_streamed 4 rfl) (by decide) o5 o6 (fun c7 => ?_) (fun c7 => ?_)
  · replace h := ifn h c7
    exact xr_vret (xd dX12_streamed 32 rfl) rfl (by decide) (by decide) (fun _ => rfl) ⟨_, _, rfl, rfl, h⟩
  · replace h := ifp h c7
    refine xr_iload (xd dX12_streamed 5 rfl) 5 rfl ?_
    refine xr_bipush (v := oI 32) (xd dX12_streamed 6 rfl) (by decide) ?_
    refine zr_irem (xd dX12_streamed 7 rfl) (by decide) (by decide) ?_
    replace h := h (fun (J8 : zM) (L9 : yM) => xJ (xGm b dC dI cA ts) l mX12_streamed 0 0 (zQ0 n R Q) (fun _ _ => False) 0 0 30 [(0, .ref 491), (1, .int (oI p1)), (2, .int (oI p2)), (3, .int (oI p3)), (4, .int (oI p4)), (5, .int (oI x2))] [] al n R (zi J8) (li L9)) (by
      intro J8 L9 h
      show xJ _ _ _ _ _ _ _ _ _ 30 [(0, .ref 491), (1, .int (oI p1)), (2, .int (oI p2)), (3, .int (oI p3)), (4, .int (oI p4)), (5, .int (oI x2))] [] _ _ _ _ _
      refine xr_aload_n (xd dX12_streamed 17 rfl) 0 rfl ?_
      refine xr_getR (b := 516) 12 34 (xd dX12_streamed 18 rfl) f12_85 (by decide) (by decide) (lt552 hn (by decide)) kd_491 rfl (r_491_34 hR) ?_
      refine xr_iload (xd dX12_streamed 19 rfl) 5 rfl ?_
      refine xr_dup2 (xd dX12_streamed 20 rfl) rfl rfl ?_
      obtain ⟨o11, h⟩ := h
      refine zr_iaload (xd dX12_streamed 21 rfl) (lt552 hn (by decide)) kd_516 ln_516 (by decide) o11 ?_
      refine xr_aload_n (xd dX12_streamed 22 rfl) 0 rfl ?_
      refine xr_getR (b := 500) 12 16 (xd dX12_streamed 23 rfl) f12_34 (by decide) (by decide) (lt552 hn (by decide)) kd_491 rfl (r_491_16 hR) ?_
      refine xr_iload (xd dX12_streamed 24 rfl) 5 rfl ?_
      refine xr_bipush (v := oI 32) (xd dX12_streamed 25 rfl) (by decide) ?_
      refine zr_irem (xd dX12_streamed 26 rfl) (by decide) (by decide) ?_
      obtain ⟨o12, h⟩ := h
      refine zr_iaload (xd dX12_streamed 27 rfl) (lt552 hn (by decide)) kd_500 ln_500 (by decide) o12 ?_
      refine zr_ixor (xd dX12_streamed 28 rfl) ?_
      obtain ⟨o13, h⟩ := h
      obtain ⟨J14, e_J14⟩ : ∃ z_ : zM, z_ = zs J8 516 x2 (zxor (J8 516 x2) (J8 500 (zrem x2 32))) := ⟨_, rfl⟩
      replace h := h J14 e_J14
      refine zr_iastore e_J14 (xd dX12_streamed 29 rfl) (lt552 hn (by decide)) kd_516 ln_516 (by decide) o13 ?_
      refine zr_iinc [(0, .ref 491), (1, .int (oI p1)), (2, .int (oI p2)), (3, .int (oI p3)), (4, .int (oI p4)), (5, .int (oI (x2 + 1)))] (xd dX12_streamed 30 rfl) 5 rfl (by decide) rfl ?_
      refine xr_goto 3 (xd dX12_streamed 31 rfl) (by decide) ?_
      exact h)
    refine zr_if_ne 30 (xd dX12_streamed 8 rfl) (by decide) (R32_of _) (fun c15 => ?_) (fun c15 => ?_)
    · replace h := ifn h c15
      exact h
    · replace h := ifp h c15
      refine xr_aload_n (xd dX12_streamed 9 rfl) 0 rfl ?_
      refine xr_iload_n (xd dX12_streamed 10 rfl) 1 rfl ?_
      refine xr_iload_n (xd dX12_streamed 11 rfl) 2 rfl ?_
      refine xr_iload_n (xd dX12_streamed 12 rfl) 3 rfl ?_
      refine xr_iload (xd dX12_streamed 13 rfl) 5 rfl ?_
      refine xr_bipush (v := oI 32) (xd dX12_streamed 14 rfl) (by decide) ?_
      refine zr_idiv (xd dX12_streamed 15 rfl) (by decide) (by decide) ?_
      refine xr_callV mX12_stream 4 [.int (oI p1), .int (oI p2), .int (oI p3), .int (oI (zdiv x2 32))] (xd dX12_streamed 16 rfl) l12_323 kX12_stream rfl (lt552 hn (by decide)) kd_491 (by decide) rfl (by decide) (Nat.le_of_ble_eq_true rfl) (v_X12_stream hn hR  h) (by decide) (by decide) (fun r_ M_ h_ => ?_) (fun _ _ h_ => h_.elim)
      obtain ⟨J16, L17, rfl, rfl, h⟩ := h_
      show xJ _ _ _ _ _ _ _ _ _ 30 [(0, .ref 491), (1, .int (oI p1)), (2, .int (oI p2)), (3, .int (oI p3)), (4, .int (oI p4)), (5, .int (oI x2))] [] _ _ _ (zi J16) (li L17)
      exact h
def w_X12_record (p1 : Int) (p2 : Int) (p3 : Int) (J : zM) (L : yM) (Q : Int → zM → yM → Prop) : Prop := ((0 : Int) ≤ ((4 * p1) + p2) ∧ ((4 * p1) + p2) < 8) ∧ ∀ x2 : Int, x2 = (J 514 ((4 * p1) + p2)) → R32 x2 ∧ (if 65535 < x2 then Q (-1) J L else ((0 : Int) ≤ ((4 * p1) + p2) ∧ ((4 * p1) + p2) < 8) ∧ ((0 : Int) ≤ ((4 * p1) + p2) ∧ ((4 * p1) + p2) < 8) ∧ ∀ J7 : zM, J7 = zs J 514 ((4 * p1) + p2) ((J 514 ((4 * p1) + p2)) + 1) → R32 p2 ∧ (if p2 = 0 then w_X12_put p3 J7 L (fun J59 L60 => w_X12_put 0 J59 L60 (fun J61 L62 => w_X12_put (zshr x2 8) J61 L62 (fun J63 L64 => w_X12_put x2 J63 L64 (fun J65 L66 => w_X12_put (zshr (J65 491 33) 8) J65 L66 (fun J67 L68 => w_X12_put (J67 491 33) J67 L68 (fun J69 L70 => zl_z (fun K71 x72 J73 L74 => R32 x72 ∧ R32 (J73 491 33) ∧ (if x72 < (J73 491 33) then ((0 : Int) ≤ x72 ∧ x72 < 300) ∧ w_X12_put (J73 515 x72) J73 L74 (fun J79 L80 => K71 (x72 + 1) J79 L80) else Q x2 J73 L74)) 0 J69 L70)))))) else ∀ x10 : Int, x10 = (((1024 * p1) + 256) + (64 * ((2 * (p2 - 2)) + p1))) → zl_z (fun K11 x12 J13 L14 => R32 x12 ∧ R32 (J13 491 33) ∧ (if x12 < (J13 491 33) then ((0 : Int) ≤ x12 ∧ x12 < 300) ∧ ((0 : Int) ≤ x12 ∧ x12 < 520) ∧ ∀ J58 : zM, J58 = zs J13 516 x12 (J13 515 x12) → K11 (x12 + 1) J58 L14 else ((0 : Int) ≤ (J13 491 33) ∧ (J13 491 33) < 520) ∧ ∀ J19 : zM, J19 = zs J13 516 (J13 491 33) p3 → ∀ x20 : Int, x20 = ((J19 491 33) + 1) → w_X12_streamed x10 p2 x2 x20 J19 L14 (fun J21 L22 => w_X12_tag x10 p2 x2 x20 J21 L22 (fun J23 L24 => zl_z (fun K25 x26 J27 L28 => R32 x26 ∧ (if x26 < 8 then ((0 : Int) ≤ x26 ∧ x26 < 32) ∧ ((0 : Int) ≤ (x20 + x26) ∧ (x20 + x26) < 520) ∧ ∀ J55 : zM, J55 = zs J27 516 (x20 + x26) (J27 500 x26) → K25 (x26 + 1) J55 L28 else w_X12_mask x10 J27 L28 (fun J31 L32 => w_X12_put (32 + p2) J31 L32 (fun J33 L34 => w_X12_put (zxor (zshr x2 8) (J33 500 0)) J33 L34 (fun J35 L36 => w_X12_put (zxor x2 (J35 500 1)) J35 L36 (fun J37 L38 => w_X12_put (zshr (x20 + 8) 8) J37 L38 (fun J39 L40 => w_X12_put (x20 + 8) J39 L40 (fun J41 L42 => zl_z (fun K43 x44 J45 L46 => R32 x44 ∧ R32 (x20 + 8) ∧ (if x44 < (x20 + 8) then ((0 : Int) ≤ x44 ∧ x44 < 520) ∧ w_X12_put (J45 516 x44) J45 L46 (fun J51 L52 => K43 (x44 + 1) J51 L52) else Q x2 J45 L46)) 0 J41 L42)))))))) 0 J23 L24)))) 0 J7 L))
set_option maxHeartbeats 4000000 in
set_option maxRecDepth 100000 in
theorem v_X12_record {b : Nat} {dC : Nat → ClassId} {dI : Nat → Nat → Nat} {cA : Nat → ClassId} {ts : Nat → Nat} {l : Launch} {n : Nat} {R : Nat → Nat → Option Nat} {al : Bool} (hn : 552 ≤ n) (hR : xRk R) {p1 : Int} {p2 : Int} {p3 : Int}  {J : zM} {L : yM} {Q : Int → zM → yM → Prop} (h : w_X12_record p1 p2 p3 J L Q) : xCn (xGm b dC dI cA ts) l mX12_record [.ref 491, .int (oI p1), .int (oI p2), .int (oI p3)] al (n, R, zi J, li L) 0 0 (zQ1 n R Q) (fun _ _ => False) := by
  refine xCn.ofJ (by decide) (Nat.le_of_ble_eq_true rfl) ?_
  show xJ _ _ _ _ _ _ _ _ _ 0 [(0, .ref 491), (1, .int (oI p1)), (2, .int (oI p2)), (3, .int (oI p3))] [] _ _ _ _ _
  unfold w_X12_record at h
  refine xr_aload_n (xd dX12_record 0 rfl) 0 rfl ?_
  refine xr_getR (b := 514) 12 31 (xd dX12_record 1 rfl) f12_79 (by decide) (by decide) (lt552 hn (by decide)) kd_491 rfl (r_491_31 hR) ?_
  refine xr_iconst (v := oI 4) (xd dX12_record 2 rfl) (by decide) ?_
  refine xr_iload_n (xd dX12_record 3 rfl) 1 rfl ?_
  refine zr_imul (xd dX12_record 4 rfl) ?_
  refine xr_iload_n (xd dX12_record 5 rfl) 2 rfl ?_
  refine zr_iadd (xd dX12_record 6 rfl) ?_
  obtain ⟨o1, h⟩ := h
  refine zr_iaload (xd dX12_record 7 rfl) (lt552 hn (by decide)) kd_514 ln_514 (by decide) o1 ?_
  obtain ⟨x2, e_x2⟩ : ∃ z_ : Int, z_ = (J 514 ((4 * p1) + p2)) := ⟨_, rfl⟩
  replace h := h x2 e_x2
  refine zr_nm e_x2 ?_
  refine xr_istore [(0, .ref 491), (1, .int (oI p1)), (2, .int (oI p2)), (3, .int (oI p3)), (4, .int (oI x2))] (xd dX12_record 8 rfl) (by decide) rfl ?_
  refine xr_iload (xd dX12_record 9 rfl) 4 rfl ?_
  refine xr_ldc_w (v := oI 65535) (xd dX12_record 10 rfl) q12_327 ?_
  obtain ⟨o3, h⟩ := h
  refine zr_icmp_le 22 (xd dX12_record 11 rfl) (by decide) o3 (by decide) (fun c4 => ?_) (fun c4 => ?_)
  · replace h := ifn h c4
    refine xr_aload_n (xd dX12_record 14 rfl) 0 rfl ?_
    refine xr_getR (b := 514) 12 31 (xd dX12_record 15 rfl) f12_79 (by decide) (by decide) (lt552 hn (by decide)) kd_491 rfl (r_491_31 hR) ?_
    refine xr_iconst (v := oI 4) (xd dX12_record 16 rfl) (by decide) ?_
    refine xr_iload_n (xd dX12_record 17 rfl) 1 rfl ?_
    refine zr_imul (xd dX12_record 18 rfl) ?_
    refine xr_iload_n (xd dX12_record 19 rfl) 2 rfl ?_
    refine zr_iadd (xd dX12_record 20 rfl) ?_
    refine xr_dup2 (xd dX12_record 21 rfl) rfl rfl ?_
    obtain ⟨o5, h⟩ := h
    refine zr_iaload (xd dX12_record 22 rfl) (lt552 hn (by decide)) kd_514 ln_514 (by decide) o5 ?_
    refine xr_iconst (v := oI 1) (xd dX12_record 23 rfl) (by decide) ?_
    refine zr_iadd (xd dX12_record 24 rfl) ?_
    obtain ⟨o6, h⟩ := h
    obtain ⟨J7, e_J7⟩ : ∃ z_ : zM, z_ = zs J 514 ((4 * p1) + p2) ((J 514 ((4 * p1) + p2)) + 1) := ⟨_, rfl⟩
    replace h := h J7 e_J7
    refine zr_iastore e_J7 (xd dX12_record 25 rfl) (lt552 hn (by decide)) kd_514 ln_514 (by decide) o6 ?_
    refine xr_iload_n (xd dX12_record 26 rfl) 2 rfl ?_
    obtain ⟨o8, h⟩ := h
    refine zr_if_ne 116 (xd dX12_record 27 rfl) (by decide) o8 (fun c9 => ?_) (fun c9 => ?_)
    · replace h := ifn h c9
      refine xr_sipush (v := oI 1024) (xd dX12_record 68 rfl) (by decide) ?_
      refine xr_iload_n (xd dX12_record 69 rfl) 1 rfl ?_
      refine zr_imul (xd dX12_record 70 rfl) ?_
      refine xr_sipush (v := oI 256) (xd dX12_record 71 rfl) (by decide) ?_
      refine zr_iadd (xd dX12_record 72 rfl) ?_
      refine xr_bipush (v := oI 64) (xd dX12_record 73 rfl) (by decide) ?_
      refine xr_iconst (v := oI 2) (xd dX12_record 74 rfl) (by decide) ?_
      refine xr_iload_n (xd dX12_record 75 rfl) 2 rfl ?_
      refine xr_iconst (v := oI 2) (xd dX12_record 76 rfl) (by decide) ?_
      refine zr_isub (xd dX12_record 77 rfl) ?_
      refine zr_imul (xd dX12_record 78 rfl) ?_
      refine xr_iload_n (xd dX12_record 79 rfl) 1 rfl ?_
      refine zr_iadd (xd dX12_record 80 rfl) ?_
      refine zr_imul (xd dX12_record 81 rfl) ?_
      refine zr_iadd (xd dX12_record 82 rfl) ?_
      obtain ⟨x10, e_x10⟩ : ∃ z_ : Int, z_ = (((1024 * p1) + 256) + (64 * ((2 * (p2 - 2)) + p1))) := ⟨_, rfl⟩
      replace h := h x10 e_x10
      refine zr_nm e_x10 ?_
      refine xr_istore [(0, .ref 491), (1, .int (oI p1)), (2, .int (oI p2)), (3, .int (oI p3)), (4, .int (oI x2)), (5, .int (oI x10))] (xd dX12_record 83 rfl) (by decide) rfl ?_
      refine xr_iconst (v := oI 0) (xd dX12_record 84 rfl) (by decide) ?_
      refine xr_istore [(0, .ref 491), (1, .int (oI p1)), (2, .int (oI p2)), (3, .int (oI p3)), (4, .int (oI x2)), (5, .int (oI x10)), (6, .int (oI 0))] (xd dX12_record 85 rfl) (by decide) rfl ?_
      refine xJ.pick (ls' := [(0, .ref 491), (2, .int (oI p2)), (3, .int (oI p3)), (4, .int (oI x2)), (5, .int (oI x10)), (6, .int (oI 0))]) [0, 2, 3, 4, 5, 6] rfl ?_
      refine h (fun x12 J13 L14 => xJ (xGm b dC dI cA ts) l mX12_record 0 0 (zQ1 n R Q) (fun _ _ => False) 0 0 141 [(0, .ref 491), (2, .int (oI p2)), (3, .int (oI p3)), (4, .int (oI x2)), (5, .int (oI x10)), (6, .int (oI x12))] [] al n R (zi J13) (li L14)) ?_
      intro x12 J13 L14 h
      show xJ _ _ _ _ _ _ _ _ _ 141 [(0, .ref 491), (2, .int (oI p2)), (3, .int (oI p3)), (4, .int (oI x2)), (5, .int (oI x10)), (6, .int (oI x12))] [] _ _ _ _ _
      refine xr_iload (xd dX12_record 86 rfl) 5 rfl ?_
      refine xr_aload_n (xd dX12_record 87 rfl) 0 rfl ?_
      refine zr_getI 12 33 33 rfl (xd dX12_record 88 rfl) f12_331 (by decide) (by decide) (lt552 hn (by decide)) kd_491 rfl ?_
      obtain ⟨o15, h⟩ := h
      obtain ⟨o16, h⟩ := h
      refine zr_icmp_ge 170 (xd dX12_record 89 rfl) (by decide) o15 o16 (fun c17 => ?_) (fun c17 => ?_)
      · replace h := ifn h c17
        refine xr_aload_n (xd dX12_record 100 rfl) 0 rfl ?_
        refine xr_getR (b := 516) 12 34 (xd dX12_record 101 rfl) f12_85 (by decide) (by decide) (lt552 hn (by decide)) kd_491 rfl (r_491_34 hR) ?_
        refine xr_aload_n (xd dX12_record 102 rfl) 0 rfl ?_
        refine zr_getI 12 33 33 rfl (xd dX12_record 103 rfl) f12_331 (by decide) (by decide) (lt552 hn (by decide)) kd_491 rfl ?_
        refine xr_iload_n (xd dX12_record 104 rfl) 2 rfl ?_
        obtain ⟨o18, h⟩ := h
        obtain ⟨J19, e_J19⟩ : ∃ z_ : zM, z_ = zs J13 516 (J13 491 33) p3 := ⟨_, rfl⟩
        replace h := h J19 e_J19
        refine zr_iastore e_J19 (xd dX12_record 105 rfl) (lt552 hn (by decide)) kd_516 ln_516 (by decide) o18 ?_
        refine xr_aload_n (xd dX12_record 106 rfl) 0 rfl ?_
        refine zr_getI 12 33 33 rfl (xd dX12_record 107 rfl) f12_331 (by decide) (by decide) (lt552 hn (by decide)) kd_491 rfl ?_
        refine xr_iconst (v := oI 1) (xd dX12_record 108 rfl) (by decide) ?_
        refine zr_iadd (xd dX12_record 109 rfl) ?_
        obtain ⟨x20, e_x20⟩ : ∃ z_ : Int, z_ = ((J19 491 33) + 1) := ⟨_, rfl⟩
        replace h := h x20 e_x20
        refine zr_nm e_x20 ?_
        refine xr_istore [(0, .ref 491), (2, .int (oI p2)), (3, .int (oI p3)), (4, .int (oI x2)), (5, .int (oI x10)), (6, .int (oI x20))] (xd dX12_record 110 rfl) (by decide) rfl ?_
        refine xr_aload_n (xd dX12_record 111 rfl) 0 rfl ?_
        refine xr_iload (xd dX12_record 112 rfl) 4 rfl ?_
        refine xr_iload_n (xd dX12_record 113 rfl) 1 rfl ?_
        refine xr_iload (xd dX12_record 114 rfl) 3 rfl ?_
        refine xr_iload (xd dX12_record 115 rfl) 5 rfl ?_
        refine xr_callV mX12_streamed 4 [.int (oI x10), .int (oI p2), .int (oI x2), .int (oI x20)] (xd dX12_record 116 rfl) l12_334 kX12_streamed rfl (lt552 hn (by decide)) kd_491 (by decide) rfl (by decide) (Nat.le_of_ble_eq_true rfl) (v_X12_streamed hn hR  h) (by decide) (by decide) (fun r_ M_ h_ => ?_) (fun _ _ h_ => h_.elim)
        obtain ⟨J21, L22, rfl, rfl, h⟩ := h_
        show xJ _ _ _ _ _ _ _ _ _ 199 [(0, .ref 491), (2, .int (oI p2)), (3, .int (oI p3)), (4, .int (oI x2)), (5, .int (oI x10)), (6, .int (oI x20))] [] _ _ _ (zi J21) (li L22)
        refine xr_aload_n (xd dX12_record 117 rfl) 0 rfl ?_
        refine xr_iload (xd dX12_record 118 rfl) 4 rfl ?_
        refine xr_iload_n (xd dX12_record 119 rfl) 1 rfl ?_
        refine xr_iload (xd dX12_record 120 rfl) 3 rfl ?_
        refine xr_iload (xd dX12_record 121 rfl) 5 rfl ?_
        refine xr_callV mX12_tag 4 [.int (oI x10), .int (oI p2), .int (oI x2), .int (oI x20)] (xd dX12_record 122 rfl) l12_337 kX12_tag rfl (lt552 hn (by decide)) kd_491 (by decide) rfl (by decide) (Nat.le_of_ble_eq_true rfl) (v_X12_tag hn hR  h) (by decide) (by decide) (fun r_ M_ h_ => ?_) (fun _ _ h_ => h_.elim)
        obtain ⟨J23, L24, rfl, rfl, h⟩ := h_
        show xJ _ _ _ _ _ _ _ _ _ 210 [(0, .ref 491), (2, .int (oI p2)), (3, .int (oI p3)), (4, .int (oI x2)), (5, .int (oI x10)), (6, .int (oI x20))] [] _ _ _ (zi J23) (li L24)
        refine xr_iconst (v := oI 0) (xd dX12_record 123 rfl) (by decide) ?_
        refine xr_istore [(0, .ref 491), (2, .int (oI p2)), (3, .int (oI p3)), (4, .int (oI x2)), (5, .int (oI x10)), (6, .int (oI x20)), (7, .int (oI 0))] (xd dX12_record 124 rfl) (by decide) rfl ?_
        refine xJ.pick (ls' := [(0, .ref 491), (2, .int (oI p2)), (4, .int (oI x2)), (5, .int (oI x10)), (6, .int (oI x20)), (7, .int (oI 0))]) [0, 1, 3, 4, 5, 6] rfl ?_
        refine h (fun x26 J27 L28 => xJ (xGm b dC dI cA ts) l mX12_record 0 0 (zQ1 n R Q) (fun _ _ => False) 0 0 213 [(0, .ref 491), (2, .int (oI p2)), (4, .int (oI x2)), (5, .int (oI x10)), (6, .int (oI x20)), (7, .int (oI x26))] [] al n R (zi J27) (li L28)) ?_
        intro x26 J27 L28 h
        show xJ _ _ _ _ _ _ _ _ _ 213 [(0, .ref 491), (2, .int (oI p2)), (4, .int (oI x2)), (5, .int (oI x10)), (6, .int (oI x20)), (7, .int (oI x26))] [] _ _ _ _ _
        refine xr_iload (xd dX12_record 125 rfl) 5 rfl ?_
        refine xr_bipush (v := oI 8) (xd dX12_record 126 rfl) (by decide) ?_
        obtain ⟨o29, h⟩ := h
        refine zr_icmp_ge 243 (xd dX12_record 127 rfl) (by decide) o29 (by decide) (fun c30 => ?_) (fun c30 => ?_)
        · replace h := ifn h c30
          refine xr_aload_n (xd dX12_record 140 rfl) 0 rfl ?_
          refine xr_iload (xd dX12_record 141 rfl) 3 rfl ?_
          refine xr_callV mX12_mask 1 [.int (oI x10)] (xd dX12_record 142 rfl) l12_340 kX12_mask rfl (lt552 hn (by decide)) kd_491 (by decide) rfl (by decide) (Nat.le_of_ble_eq_true rfl) (v_X12_mask hn hR  h) (by decide) (by decide) (fun r_ M_ h_ => ?_) (fun _ _ h_ => h_.elim)
          obtain ⟨J31, L32, rfl, rfl, h⟩ := h_
          show xJ _ _ _ _ _ _ _ _ _ 249 [(0, .ref 491), (2, .int (oI p2)), (4, .int (oI x2)), (5, .int (oI x10)), (6, .int (oI x20)), (7, .int (oI x26))] [] _ _ _ (zi J31) (li L32)
          refine xr_aload_n (xd dX12_record 143 rfl) 0 rfl ?_
          refine xr_bipush (v := oI 32) (xd dX12_record 144 rfl) (by decide) ?_
          refine xr_iload_n (xd dX12_record 145 rfl) 1 rfl ?_
          refine zr_iadd (xd dX12_record 146 rfl) ?_
          refine xr_callV mX12_put 1 [.int (oI (32 + p2))] (xd dX12_record 147 rfl) l12_328 kX12_put rfl (lt552 hn (by decide)) kd_491 (by decide) rfl (by decide) (Nat.le_of_ble_eq_true rfl) (v_X12_put hn hR  h) (by decide) (by decide) (fun r_ M_ h_ => ?_) (fun _ _ h_ => h_.elim)
          obtain ⟨J33, L34, rfl, rfl, h⟩ := h_
          show xJ _ _ _ _ _ _ _ _ _ 257 [(0, .ref 491), (2, .int (oI p2)), (4, .int (oI x2)), (5, .int (oI x10)), (6, .int (oI x20)), (7, .int (oI x26))] [] _ _ _ (zi J33) (li L34)
          refine xr_aload_n (xd dX12_record 148 rfl) 0 rfl ?_
          refine xr_iload (xd dX12_record 149 rfl) 2 rfl ?_
          refine xr_bipush (v := oI 8) (xd dX12_record 150 rfl) (by decide) ?_
          refine zr_ishr (xd dX12_record 151 rfl) ?_
          refine xr_aload_n (xd dX12_record 152 rfl) 0 rfl ?_
          refine xr_getR (b := 500) 12 16 (xd dX12_record 153 rfl) f12_34 (by decide) (by decide) (lt552 hn (by decide)) kd_491 rfl (r_491_16 hR) ?_
          refine xr_iconst (v := oI 0) (xd dX12_record 154 rfl) (by decide) ?_
          refine zr_iaload (xd dX12_record 155 rfl) (lt552 hn (by decide)) kd_500 ln_500 (by decide) ⟨by decide, by decide⟩ ?_
          refine zr_ixor (xd dX12_record 156 rfl) ?_
          refine xr_callV mX12_put 1 [.int (oI (zxor (zshr x2 8) (J33 500 0)))] (xd dX12_record 157 rfl) l12_328 kX12_put rfl (lt552 hn (by decide)) kd_491 (by decide) rfl (by decide) (Nat.le_of_ble_eq_true rfl) (v_X12_put hn hR  h) (by decide) (by decide) (fun r_ M_ h_ => ?_) (fun _ _ h_ => h_.elim)
          obtain ⟨J35, L36, rfl, rfl, h⟩ := h_
          show xJ _ _ _ _ _ _ _ _ _ 273 [(0, .ref 491), (2, .int (oI p2)), (4, .int (oI x2)), (5, .int (oI x10)), (6, .int (oI x20)), (7, .int (oI x26))] [] _ _ _ (zi J35) (li L36)
          refine xr_aload_n (xd dX12_record 158 rfl) 0 rfl ?_
          refine xr_iload (xd dX12_record 159 rfl) 2 rfl ?_
          refine xr_aload_n (xd dX12_record 160 rfl) 0 rfl ?_
          refine xr_getR (b := 500) 12 16 (xd dX12_record 161 rfl) f12_34 (by decide) (by decide) (lt552 hn (by decide)) kd_491 rfl (r_491_16 hR) ?_
          refine xr_iconst (v := oI 1) (xd dX12_record 162 rfl) (by decide) ?_
          refine zr_iaload (xd dX12_record 163 rfl) (lt552 hn (by decide)) kd_500 ln_500 (by decide) ⟨by decide, by decide⟩ ?_
          refine zr_ixor (xd dX12_record 164 rfl) ?_
          refine xr_callV mX12_put 1 [.int (oI (zxor x2 (J35 500 1)))] (xd dX12_record 165 rfl) l12_328 kX12_put rfl (lt552 hn (by decide)) kd_491 (by decide) rfl (by decide) (Nat.le_of_ble_eq_true rfl) (v_X12_put hn hR  h) (by decide) (by decide) (fun r_ M_ h_ => ?_) (fun _ _ h_ => h_.elim)
          obtain ⟨J37, L38, rfl, rfl, h⟩ := h_
          show xJ _ _ _ _ _ _ _ _ _ 286 [(0, .ref 491), (2, .int (oI p2)), (4, .int (oI x2)), (5, .int (oI x10)), (6, .int (oI x20)), (7, .int (oI x26))] [] _ _ _ (zi J37) (li L38)
          refine xr_aload_n (xd dX12_record 166 rfl) 0 rfl ?_
          refine xr_iload (xd dX12_record 167 rfl) 4 rfl ?_
          refine xr_bipush (v := oI 8) (xd dX12_record 168 rfl) (by decide) ?_
          refine zr_iadd (xd dX12_record 169 rfl) ?_
          refine xr_bipush (v := oI 8) (xd dX12_record 170 rfl) (by decide) ?_
          refine zr_ishr (xd dX12_record 171 rfl) ?_
          refine xr_callV mX12_put 1 [.int (oI (zshr (x20 + 8) 8))] (xd dX12_record 172 rfl) l12_328 kX12_put rfl (lt552 hn (by decide)) kd_491 (by decide) rfl (by decide) (Nat.le_of_ble_eq_true rfl) (v_X12_put hn hR  h) (by decide) (by decide) (fun r_ M_ h_ => ?_) (fun _ _ h_ => h_.elim)
          obtain ⟨J39, L40, rfl, rfl, h⟩ := h_
          show xJ _ _ _ _ _ _ _ _ _ 298 [(0, .ref 491), (2, .int (oI p2)), (4, .int (oI x2)), (5, .int (oI x10)), (6, .int (oI x20)), (7, .int (oI x26))] [] _ _ _ (zi J39) (li L40)
          refine xr_aload_n (xd dX12_record 173 rfl) 0 rfl ?_
          refine xr_iload (xd dX12_record 174 rfl) 4 rfl ?_
          refine xr_bipush (v := oI 8) (xd dX12_record 175 rfl) (by decide) ?_
          refine zr_iadd (xd dX12_record 176 rfl) ?_
          refine xr_callV mX12_put 1 [.int (oI (x20 + 8))] (xd dX12_record 177 rfl) l12_328 kX12_put rfl (lt552 hn (by decide)) kd_491 (by decide) rfl (by decide) (Nat.le_of_ble_eq_true rfl) (v_X12_put hn hR  h) (by decide) (by decide) (fun r_ M_ h_ => ?_) (fun _ _ h_ => h_.elim)
          obtain ⟨J41, L42, rfl, rfl, h⟩ := h_
          show xJ _ _ _ _ _ _ _ _ _ 307 [(0, .ref 491), (2, .int (oI p2)), (4, .int (oI x2)), (5, .int (oI x10)), (6, .int (oI x20)), (7, .int (oI x26))] [] _ _ _ (zi J41) (li L42)
          refine xr_iconst (v := oI 0) (xd dX12_record 178 rfl) (by decide) ?_
          refine xr_istore [(0, .ref 491), (2, .int (oI p2)), (4, .int (oI x2)), (5, .int (oI x10)), (6, .int (oI x20)), (7, .int (oI 0))] (xd dX12_record 179 rfl) (by decide) rfl ?_
          refine xJ.pick (ls' := [(0, .ref 491), (4, .int (oI x2)), (6, .int (oI x20)), (7, .int (oI 0))]) [0, 2, 4, 5] rfl ?_
          refine h (fun x44 J45 L46 => xJ (xGm b dC dI cA ts) l mX12_record 0 0 (zQ1 n R Q) (fun _ _ => False) 0 0 310 [(0, .ref 491), (4, .int (oI x2)), (6, .int (oI x20)), (7, .int (oI x44))] [] al n R (zi J45) (li L46)) ?_
          intro x44 J45 L46 h
          show xJ _ _ _ _ _ _ _ _ _ 310 [(0, .ref 491), (4, .int (oI x2)), (6, .int (oI x20)), (7, .int (oI x44))] [] _ _ _ _ _
          refine xr_iload (xd dX12_record 180 rfl) 3 rfl ?_
          refine xr_iload (xd dX12_record 181 rfl) 2 rfl ?_
          refine xr_bipush (v := oI 8) (xd dX12_record 182 rfl) (by decide) ?_
          refine zr_iadd (xd dX12_record 183 rfl) ?_
          obtain ⟨o47, h⟩ := h
          obtain ⟨o48, h⟩ := h
          refine zr_icmp_ge 337 (xd dX12_record 184 rfl) (by decide) o47 o48 (fun c49 => ?_) (fun c49 => ?_)
          · replace h := ifn h c49
            refine xr_iload (xd dX12_record 193 rfl) 1 rfl ?_
            exact xr_iret (xd dX12_record 194 rfl) rfl (by decide) (by decide) (fun _ => rfl) ⟨_, _, _, rfl, rfl, h⟩
          · replace h := ifp h c49
            refine xr_aload_n (xd dX12_record 185 rfl) 0 rfl ?_
            refine xr_aload_n (xd dX12_record 186 rfl) 0 rfl ?_
            refine xr_getR (b := 516) 12 34 (xd dX12_record 187 rfl) f12_85 (by decide) (by decide) (lt552 hn (by decide)) kd_491 rfl (r_491_34 hR) ?_
            refine xr_iload (xd dX12_record 188 rfl) 3 rfl ?_
            obtain ⟨o50, h⟩ := h
            refine zr_iaload (xd dX12_record 189 rfl) (lt552 hn (by decide)) kd_516 ln_516 (by decide) o50 ?_
            refine xr_callV mX12_put 1 [.int (oI (J45 516 x44))] (xd dX12_record 190 rfl) l12_328 kX12_put rfl (lt552 hn (by decide)) kd_491 (by decide) rfl (by decide) (Nat.le_of_ble_eq_true rfl) (v_X12_put hn hR  h) (by decide) (by decide) (fun r_ M_ h_ => ?_) (fun _ _ h_ => h_.elim)
            obtain ⟨J51, L52, rfl, rfl, h⟩ := h_
            show xJ _ _ _ _ _ _ _ _ _ 331 [(0, .ref 491), (4, .int (oI x2)), (6, .int (oI x20)), (7, .int (oI x44))] [] _ _ _ (zi J51) (li L52)
            refine zr_iinc [(0, .ref 491), (4, .int (oI x2)), (6, .int (oI x20)), (7, .int (oI (x44 + 1)))] (xd dX12_record 191 rfl) 3 rfl (by decide) rfl ?_
            refine xr_goto 310 (xd dX12_record 192 rfl) (by decide) ?_
            exact h
        · replace h := ifp h c30
          refine xr_aload_n (xd dX12_record 128 rfl) 0 rfl ?_
          refine xr_getR (b := 516) 12 34 (xd dX12_record 129 rfl) f12_85 (by decide) (by decide) (lt552 hn (by decide)) kd_491 rfl (r_491_34 hR) ?_
          refine xr_iload (xd dX12_record 130 rfl) 4 rfl ?_
          refine xr_iload (xd dX12_record 131 rfl) 5 rfl ?_
          refine zr_iadd (xd dX12_record 132 rfl) ?_
          refine xr_aload_n (xd dX12_record 133 rfl) 0 rfl ?_
          refine xr_getR (b := 500) 12 16 (xd dX12_record 134 rfl) f12_34 (by decide) (by decide) (lt552 hn (by decide)) kd_491 rfl (r_491_16 hR) ?_
          refine xr_iload (xd dX12_record 135 rfl) 5 rfl ?_
          obtain ⟨o53, h⟩ := h
          refine zr_iaload (xd dX12_record 136 rfl) (lt552 hn (by decide)) kd_500 ln_500 (by decide) o53 ?_
          obtain ⟨o54, h⟩ := h
          obtain ⟨J55, e_J55⟩ : ∃ z_ : zM, z_ = zs J27 516 (x20 + x26) (J27 500 x26) := ⟨_, rfl⟩
          replace h := h J55 e_J55
          refine zr_iastore e_J55 (xd dX12_record 137 rfl) (lt552 hn (by decide)) kd_516 ln_516 (by decide) o54 ?_
          refine zr_iinc [(0, .ref 491), (2, .int (oI p2)), (4, .int (oI x2)), (5, .int (oI x10)), (6, .int (oI x20)), (7, .int (oI (x26 + 1)))] (xd dX12_record 138 rfl) 5 rfl (by decide) rfl ?_
          refine xr_goto 213 (xd dX12_record 139 rfl) (by decide) ?_
          exact h
      · replace h := ifp h c17
        refine xr_aload_n (xd dX12_record 90 rfl) 0 rfl ?_
        refine xr_getR (b := 516) 12 34 (xd dX12_record 91 rfl) f12_85 (by decide) (by decide) (lt552 hn (by decide)) kd_491 rfl (r_491_34 hR) ?_
        refine xr_iload (xd dX12_record 92 rfl) 5 rfl ?_
        refine xr_aload_n (xd dX12_record 93 rfl) 0 rfl ?_
        refine xr_getR (b := 515) 12 32 (xd dX12_record 94 rfl) f12_82 (by decide) (by decide) (lt552 hn (by decide)) kd_491 rfl (r_491_32 hR) ?_
        refine xr_iload (xd dX12_record 95 rfl) 5 rfl ?_
        obtain ⟨o56, h⟩ := h
        refine zr_iaload (xd dX12_record 96 rfl) (lt552 hn (by decide)) kd_515 ln_515 (by decide) o56 ?_
        obtain ⟨o57, h⟩ := h
        obtain ⟨J58, e_J58⟩ : ∃ z_ : zM, z_ = zs J13 516 x12 (J13 515 x12) := ⟨_, rfl⟩
        replace h := h J58 e_J58
        refine zr_iastore e_J58 (xd dX12_record 97 rfl) (lt552 hn (by decide)) kd_516 ln_516 (by decide) o57 ?_
        refine zr_iinc [(0, .ref 491), (2, .int (oI p2)), (3, .int (oI p3)), (4, .int (oI x2)), (5, .int (oI x10)), (6, .int (oI (x12 + 1)))] (xd dX12_record 98 rfl) 5 rfl (by decide) rfl ?_
        refine xr_goto 141 (xd dX12_record 99 rfl) (by decide) ?_
        exact h
    · replace h := ifp h c9
      refine xr_aload_n (xd dX12_record 28 rfl) 0 rfl ?_
      refine xr_iload_n (xd dX12_record 29 rfl) 3 rfl ?_
      refine xr_callV mX12_put 1 [.int (oI p3)] (xd dX12_record 30 rfl) l12_328 kX12_put rfl (lt552 hn (by decide)) kd_491 (by decide) rfl (by decide) (Nat.le_of_ble_eq_true rfl) (v_X12_put hn hR  h) (by decide) (by decide) (fun r_ M_ h_ => ?_) (fun _ _ h_ => h_.elim)
      obtain ⟨J59, L60, rfl, rfl, h⟩ := h_
      show xJ _ _ _ _ _ _ _ _ _ 45 [(0, .ref 491), (1, .int (oI p1)), (2, .int (oI p2)), (3, .int (oI p3)), (4, .int (oI x2))] [] _ _ _ (zi J59) (li L60)
      refine xr_aload_n (xd dX12_record 31 rfl) 0 rfl ?_
      refine xr_iconst (v := oI 0) (xd dX12_record 32 rfl) (by decide) ?_
      refine xr_callV mX12_put 1 [.int (oI 0)] (xd dX12_record 33 rfl) l12_328 kX12_put rfl (lt552 hn (by decide)) kd_491 (by decide) rfl (by decide) (Nat.le_of_ble_eq_true rfl) (v_X12_put hn hR  h) (by decide) (by decide) (fun r_ M_ h_ => ?_) (fun _ _ h_ => h_.elim)
      obtain ⟨J61, L62, rfl, rfl, h⟩ := h_
      show xJ _ _ _ _ _ _ _ _ _ 50 [(0, .ref 491), (1, .int (oI p1)), (2, .int (oI p2)), (3, .int (oI p3)), (4, .int (oI x2))] [] _ _ _ (zi J61) (li L62)
      refine xr_aload_n (xd dX12_record 34 rfl) 0 rfl ?_
      refine xr_iload (xd dX12_record 35 rfl) 4 rfl ?_
      refine xr_bipush (v := oI 8) (xd dX12_record 36 rfl) (by decide) ?_
      refine zr_ishr (xd dX12_record 37 rfl) ?_
      refine xr_callV mX12_put 1 [.int (oI (zshr x2 8))] (xd dX12_record 38 rfl) l12_328 kX12_put rfl (lt552 hn (by decide)) kd_491 (by decide) rfl (by decide) (Nat.le_of_ble_eq_true rfl) (v_X12_put hn hR  h) (by decide) (by decide) (fun r_ M_ h_ => ?_) (fun _ _ h_ => h_.elim)
      obtain ⟨J63, L64, rfl, rfl, h⟩ := h_
      show xJ _ _ _ _ _ _ _ _ _ 59 [(0, .ref 491), (1, .int (oI p1)), (2, .int (oI p2)), (3, .int (oI p3)), (4, .int (oI x2))] [] _ _ _ (zi J63) (li L64)
      refine xr_aload_n (xd dX12_record 39 rfl) 0 rfl ?_
      refine xr_iload (xd dX12_record 40 rfl) 4 rfl ?_
      refine xr_callV mX12_put 1 [.int (oI x2)] (xd dX12_record 41 rfl) l12_328 kX12_put rfl (lt552 hn (by decide)) kd_491 (by decide) rfl (by decide) (Nat.le_of_ble_eq_true rfl) (v_X12_put hn hR  h) (by decide) (by decide) (fun r_ M_ h_ => ?_) (fun _ _ h_ => h_.elim)
      obtain ⟨J65, L66, rfl, rfl, h⟩ := h_
      show xJ _ _ _ _ _ _ _ _ _ 65 [(0, .ref 491), (1, .int (oI p1)), (2, .int (oI p2)), (3, .int (oI p3)), (4, .int (oI x2))] [] _ _ _ (zi J65) (li L66)
      refine xr_aload_n (xd dX12_record 42 rfl) 0 rfl ?_
      refine xr_aload_n (xd dX12_record 43 rfl) 0 rfl ?_
      refine zr_getI 12 33 33 rfl (xd dX12_record 44 rfl) f12_331 (by decide) (by decide) (lt552 hn (by decide)) kd_491 rfl ?_
      refine xr_bipush (v := oI 8) (xd dX12_record 45 rfl) (by decide) ?_
      refine zr_ishr (xd dX12_record 46 rfl) ?_
      refine xr_callV mX12_put 1 [.int (oI (zshr (J65 491 33) 8))] (xd dX12_record 47 rfl) l12_328 kX12_put rfl (lt552 hn (by decide)) kd_491 (by decide) rfl (by decide) (Nat.le_of_ble_eq_true rfl) (v_X12_put hn hR  h) (by decide) (by decide) (fun r_ M_ h_ => ?_) (fun _ _ h_ => h_.elim)
      obtain ⟨J67, L68, rfl, rfl, h⟩ := h_
      show xJ _ _ _ _ _ _ _ _ _ 76 [(0, .ref 491), (1, .int (oI p1)), (2, .int (oI p2)), (3, .int (oI p3)), (4, .int (oI x2))] [] _ _ _ (zi J67) (li L68)
      refine xr_aload_n (xd dX12_record 48 rfl) 0 rfl ?_
      refine xr_aload_n (xd dX12_record 49 rfl) 0 rfl ?_
      refine zr_getI 12 33 33 rfl (xd dX12_record 50 rfl) f12_331 (by decide) (by decide) (lt552 hn (by decide)) kd_491 rfl ?_
      refine xr_callV mX12_put 1 [.int (oI (J67 491 33))] (xd dX12_record 51 rfl) l12_328 kX12_put rfl (lt552 hn (by decide)) kd_491 (by decide) rfl (by decide) (Nat.le_of_ble_eq_true rfl) (v_X12_put hn hR  h) (by decide) (by decide) (fun r_ M_ h_ => ?_) (fun _ _ h_ => h_.elim)
      obtain ⟨J69, L70, rfl, rfl, h⟩ := h_
      show xJ _ _ _ _ _ _ _ _ _ 84 [(0, .ref 491), (1, .int (oI p1)), (2, .int (oI p2)), (3, .int (oI p3)), (4, .int (oI x2))] [] _ _ _ (zi J69) (li L70)
      refine xr_iconst (v := oI 0) (xd dX12_record 52 rfl) (by decide) ?_
      refine xr_istore [(0, .ref 491), (1, .int (oI p1)), (2, .int (oI p2)), (3, .int (oI p3)), (4, .int (oI x2)), (5, .int (oI 0))] (xd dX12_record 53 rfl) (by decide) rfl ?_
      refine xJ.pick (ls' := [(0, .ref 491), (4, .int (oI x2)), (5, .int (oI 0))]) [0, 4, 5] rfl ?_
      refine h (fun x72 J73 L74 => xJ (xGm b dC dI cA ts) l mX12_record 0 0 (zQ1 n R Q) (fun _ _ => False) 0 0 87 [(0, .ref 491), (4, .int (oI x2)), (5, .int (oI x72))] [] al n R (zi J73) (li L74)) ?_
      intro x72 J73 L74 h
      show xJ _ _ _ _ _ _ _ _ _ 87 [(0, .ref 491), (4, .int (oI x2)), (5, .int (oI x72))] [] _ _ _ _ _
      refine xr_iload (xd dX12_record 54 rfl) 2 rfl ?_
      refine xr_aload_n (xd dX12_record 55 rfl) 0 rfl ?_
      refine zr_getI 12 33 33 rfl (xd dX12_record 56 rfl) f12_331 (by decide) (by decide) (lt552 hn (by decide)) kd_491 rfl ?_
      obtain ⟨o75, h⟩ := h
      obtain ⟨o76, h⟩ := h
      refine zr_icmp_ge 113 (xd dX12_record 57 rfl) (by decide) o75 o76 (fun c77 => ?_) (fun c77 => ?_)
      · replace h := ifn h c77
        refine xr_iload (xd dX12_record 66 rfl) 1 rfl ?_
        exact xr_iret (xd dX12_record 67 rfl) rfl (by decide) (by decide) (fun _ => rfl) ⟨_, _, _, rfl, rfl, h⟩
      · replace h := ifp h c77
        refine xr_aload_n (xd dX12_record 58 rfl) 0 rfl ?_
        refine xr_aload_n (xd dX12_record 59 rfl) 0 rfl ?_
        refine xr_getR (b := 515) 12 32 (xd dX12_record 60 rfl) f12_82 (by decide) (by decide) (lt552 hn (by decide)) kd_491 rfl (r_491_32 hR) ?_
        refine xr_iload (xd dX12_record 61 rfl) 2 rfl ?_
        obtain ⟨o78, h⟩ := h
        refine zr_iaload (xd dX12_record 62 rfl) (lt552 hn (by decide)) kd_515 ln_515 (by decide) o78 ?_
        refine xr_callV mX12_put 1 [.int (oI (J73 515 x72))] (xd dX12_record 63 rfl) l12_328 kX12_put rfl (lt552 hn (by decide)) kd_491 (by decide) rfl (by decide) (Nat.le_of_ble_eq_true rfl) (v_X12_put hn hR  h) (by decide) (by decide) (fun r_ M_ h_ => ?_) (fun _ _ h_ => h_.elim)
        obtain ⟨J79, L80, rfl, rfl, h⟩ := h_
        show xJ _ _ _ _ _ _ _ _ _ 107 [(0, .ref 491), (4, .int (oI x2)), (5, .int (oI x72))] [] _ _ _ (zi J79) (li L80)
        refine zr_iinc [(0, .ref 491), (4, .int (oI x2)), (5, .int (oI (x72 + 1)))] (xd dX12_record 64 rfl) 2 rfl (by decide) rfl ?_
        refine xr_goto 87 (xd dX12_record 65 rfl) (by decide) ?_
        exact h
  · replace h := ifp h c4
    refine xr_iconst (v := oI (-1)) (xd dX12_record 12 rfl) (by decide) ?_
    exact xr_iret (xd dX12_record 13 rfl) rfl (by decide) (by decide) (fun _ => rfl) ⟨_, _, _, rfl, rfl, h⟩
def w_X12_inner (p1 : Int) (J : zM) (L : yM) (Q : zM → yM → Prop) : Prop := ((0 : Int) ≤ (J 491 33) ∧ (J 491 33) < 300) ∧ ∀ J2 : zM, J2 = zs J 515 (J 491 33) (zand p1 255) → ∀ J3 : zM, J3 = zs J2 491 33 ((J2 491 33) + 1) → Q J3 L
set_option maxHeartbeats 4000000 in
set_option maxRecDepth 100000 in
theorem v_X12_inner {b : Nat} {dC : Nat → ClassId} {dI : Nat → Nat → Nat} {cA : Nat → ClassId} {ts : Nat → Nat} {l : Launch} {n : Nat} {R : Nat → Nat → Option Nat} {al : Bool} (hn : 552 ≤ n) (hR : xRk R) {p1 : Int}  {J : zM} {L : yM} {Q : zM → yM → Prop} (h : w_X12_inner p1 J L Q) : xCn (xGm b dC dI cA ts) l mX12_inner [.ref 491, .int (oI p1)] al (n, R, zi J, li L) 0 0 (zQ0 n R Q) (fun _ _ => False) := by
  refine xCn.ofJ (by decide) (Nat.le_of_ble_eq_true rfl) ?_
  show xJ _ _ _ _ _ _ _ _ _ 0 [(0, .ref 491), (1, .int (oI p1))] [] _ _ _ _ _
  unfold w_X12_inner at h
  refine xr_aload_n (xd dX12_inner 0 rfl) 0 rfl ?_
  refine xr_getR (b := 515) 12 32 (xd dX12_inner 1 rfl) f12_82 (by decide) (by decide) (lt552 hn (by decide)) kd_491 rfl (r_491_32 hR) ?_
  refine xr_aload_n (xd dX12_inner 2 rfl) 0 rfl ?_
  refine zr_getI 12 33 33 rfl (xd dX12_inner 3 rfl) f12_331 (by decide) (by decide) (lt552 hn (by decide)) kd_491 rfl ?_
  refine xr_iload_n (xd dX12_inner 4 rfl) 1 rfl ?_
  refine xr_sipush (v := oI 255) (xd dX12_inner 5 rfl) (by decide) ?_
  refine zr_iand (xd dX12_inner 6 rfl) ?_
  obtain ⟨o1, h⟩ := h
  obtain ⟨J2, e_J2⟩ : ∃ z_ : zM, z_ = zs J 515 (J 491 33) (zand p1 255) := ⟨_, rfl⟩
  replace h := h J2 e_J2
  refine zr_iastore e_J2 (xd dX12_inner 7 rfl) (lt552 hn (by decide)) kd_515 ln_515 (by decide) o1 ?_
  refine xr_aload_n (xd dX12_inner 8 rfl) 0 rfl ?_
  refine xr_dup (xd dX12_inner 9 rfl) rfl ?_
  refine zr_getI 12 33 33 rfl (xd dX12_inner 10 rfl) f12_331 (by decide) (by decide) (lt552 hn (by decide)) kd_491 rfl ?_
  refine xr_iconst (v := oI 1) (xd dX12_inner 11 rfl) (by decide) ?_
  refine zr_iadd (xd dX12_inner 12 rfl) ?_
  obtain ⟨J3, e_J3⟩ : ∃ z_ : zM, z_ = zs J2 491 33 ((J2 491 33) + 1) := ⟨_, rfl⟩
  replace h := h J3 e_J3
  refine zr_putI 12 33 33 rfl e_J3 (xd dX12_inner 13 rfl) f12_331 (by decide) (by decide) (lt552 hn (by decide)) kd_491 (Or.inl rfl) rfl rfl (fun _ => rfl) ?_
  exact xr_vret (xd dX12_inner 14 rfl) rfl (by decide) (by decide) (fun _ => rfl) ⟨_, _, rfl, rfl, h⟩
def w_X12_greatestEpoch (p1 : Int) (J : zM) (L : yM) (Q : Int → zM → yM → Prop) : Prop := ((0 : Int) ≤ p1 ∧ p1 < 2) ∧ R32 (J 507 p1) ∧ (if (J 507 p1) = 0 then ((0 : Int) ≤ p1 ∧ p1 < 2) ∧ R32 (J 506 p1) ∧ (if (J 506 p1) = 0 then Q 0 J L else Q 2 J L) else Q 3 J L)
set_option maxHeartbeats 4000000 in
set_option maxRecDepth 100000 in
theorem v_X12_greatestEpoch {b : Nat} {dC : Nat → ClassId} {dI : Nat → Nat → Nat} {cA : Nat → ClassId} {ts : Nat → Nat} {l : Launch} {n : Nat} {R : Nat → Nat → Option Nat} {al : Bool} (hn : 552 ≤ n) (hR : xRk R) {p1 : Int}  {J : zM} {L : yM} {Q : Int → zM → yM → Prop} (h : w_X12_greatestEpoch p1 J L Q) : xCn (xGm b dC dI cA ts) l mX12_greatestEpoch [.ref 491, .int (oI p1)] al (n, R, zi J, li L) 0 0 (zQ1 n R Q) (fun _ _ => False) := by
  refine xCn.ofJ (by decide) (Nat.le_of_ble_eq_true rfl) ?_
  show xJ _ _ _ _ _ _ _ _ _ 0 [(0, .ref 491), (1, .int (oI p1))] [] _ _ _ _ _
  unfold w_X12_greatestEpoch at h
  refine xr_aload_n (xd dX12_greatestEpoch 0 rfl) 0 rfl ?_
  refine xr_getR (b := 507) 12 23 (xd dX12_greatestEpoch 1 rfl) f12_57 (by decide) (by decide) (lt552 hn (by decide)) kd_491 rfl (r_491_23 hR) ?_
  refine xr_iload_n (xd dX12_greatestEpoch 2 rfl) 1 rfl ?_
  obtain ⟨o1, h⟩ := h
  refine zr_zaload (xd dX12_greatestEpoch 3 rfl) (lt552 hn (by decide)) kd_507 ln_507 (by decide) o1 ?_
  obtain ⟨o2, h⟩ := h
  refine zr_if_eq 13 (xd dX12_greatestEpoch 4 rfl) (by decide) o2 (fun c3 => ?_) (fun c3 => ?_)
  · replace h := ifp h c3
    refine xr_aload_n (xd dX12_greatestEpoch 7 rfl) 0 rfl ?_
    refine xr_getR (b := 506) 12 22 (xd dX12_greatestEpoch 8 rfl) f12_53 (by decide) (by decide) (lt552 hn (by decide)) kd_491 rfl (r_491_22 hR) ?_
    refine xr_iload_n (xd dX12_greatestEpoch 9 rfl) 1 rfl ?_
    obtain ⟨o4, h⟩ := h
    refine zr_zaload (xd dX12_greatestEpoch 10 rfl) (lt552 hn (by decide)) kd_506 ln_506 (by decide) o4 ?_
    obtain ⟨o5, h⟩ := h
    refine zr_if_eq 26 (xd dX12_greatestEpoch 11 rfl) (by decide) o5 (fun c6 => ?_) (fun c6 => ?_)
    · replace h := ifp h c6
      refine xr_iconst (v := oI 0) (xd dX12_greatestEpoch 14 rfl) (by decide) ?_
      exact xr_iret (xd dX12_greatestEpoch 15 rfl) rfl (by decide) (by decide) (fun _ => rfl) ⟨_, _, _, rfl, rfl, h⟩
    · replace h := ifn h c6
      refine xr_iconst (v := oI 2) (xd dX12_greatestEpoch 12 rfl) (by decide) ?_
      refine xr_goto 27 (xd dX12_greatestEpoch 13 rfl) (by decide) ?_
      exact xr_iret (xd dX12_greatestEpoch 15 rfl) rfl (by decide) (by decide) (fun _ => rfl) ⟨_, _, _, rfl, rfl, h⟩
  · replace h := ifn h c3
    refine xr_iconst (v := oI 3) (xd dX12_greatestEpoch 5 rfl) (by decide) ?_
    refine xr_goto 27 (xd dX12_greatestEpoch 6 rfl) (by decide) ?_
    exact xr_iret (xd dX12_greatestEpoch 15 rfl) rfl (by decide) (by decide) (fun _ => rfl) ⟨_, _, _, rfl, rfl, h⟩
def w_X12_sendAlert (p1 : Int) (p2 : Int) (J : zM) (L : yM) (Q : zM → yM → Prop) : Prop := ∀ J1 : zM, J1 = zs J 491 33 0 → w_X12_inner p2 J1 L (fun J2 L3 => ∀ J4 : zM, J4 = zs J2 491 30 0 → w_X12_greatestEpoch p1 J4 L3 (fun r7 J5 L6 => w_X12_record p1 r7 21 J5 L6 (fun r10 J8 L9 => w_X12_sendMade p1 J8 L9 (fun J11 L12 => Q J11 L12))))
set_option maxHeartbeats 4000000 in
set_option maxRecDepth 100000 in
theorem v_X12_sendAlert {b : Nat} {dC : Nat → ClassId} {dI : Nat → Nat → Nat} {cA : Nat → ClassId} {ts : Nat → Nat} {l : Launch} {n : Nat} {R : Nat → Nat → Option Nat} {al : Bool} (hn : 552 ≤ n) (hR : xRk R) {p1 : Int} {p2 : Int}  {J : zM} {L : yM} {Q : zM → yM → Prop} (h : w_X12_sendAlert p1 p2 J L Q) : xCn (xGm b dC dI cA ts) l mX12_sendAlert [.ref 491, .int (oI p1), .int (oI p2)] al (n, R, zi J, li L) 0 0 (zQ0 n R Q) (fun _ _ => False) := by
  refine xCn.ofJ (by decide) (Nat.le_of_ble_eq_true rfl) ?_
  show xJ _ _ _ _ _ _ _ _ _ 0 [(0, .ref 491), (1, .int (oI p1)), (2, .int (oI p2))] [] _ _ _ _ _
  unfold w_X12_sendAlert at h
  refine xr_aload_n (xd dX12_sendAlert 0 rfl) 0 rfl ?_
  refine xr_iconst (v := oI 0) (xd dX12_sendAlert 1 rfl) (by decide) ?_
  obtain ⟨J1, e_J1⟩ : ∃ z_ : zM, z_ = zs J 491 33 0 := ⟨_, rfl⟩
  replace h := h J1 e_J1
  refine zr_putI 12 33 33 rfl e_J1 (xd dX12_sendAlert 2 rfl) f12_331 (by decide) (by decide) (lt552 hn (by decide)) kd_491 (Or.inl rfl) rfl rfl (fun _ => rfl) ?_
  refine xr_aload_n (xd dX12_sendAlert 3 rfl) 0 rfl ?_
  refine xr_iload_n (xd dX12_sendAlert 4 rfl) 2 rfl ?_
  refine xr_callV mX12_inner 1 [.int (oI p2)] (xd dX12_sendAlert 5 rfl) l12_343 kX12_inner rfl (lt552 hn (by decide)) kd_491 (by decide) rfl (by decide) (Nat.le_of_ble_eq_true rfl) (v_X12_inner hn hR  h) (by decide) (by decide) (fun r_ M_ h_ => ?_) (fun _ _ h_ => h_.elim)
  obtain ⟨J2, L3, rfl, rfl, h⟩ := h_
  show xJ _ _ _ _ _ _ _ _ _ 10 [(0, .ref 491), (1, .int (oI p1)), (2, .int (oI p2))] [] _ _ _ (zi J2) (li L3)
  refine xr_aload_n (xd dX12_sendAlert 6 rfl) 0 rfl ?_
  refine xr_iconst (v := oI 0) (xd dX12_sendAlert 7 rfl) (by decide) ?_
  obtain ⟨J4, e_J4⟩ : ∃ z_ : zM, z_ = zs J2 491 30 0 := ⟨_, rfl⟩
  replace h := h J4 e_J4
  refine zr_putI 12 30 30 rfl e_J4 (xd dX12_sendAlert 8 rfl) f12_320 (by decide) (by decide) (lt552 hn (by decide)) kd_491 (Or.inl rfl) rfl rfl (fun _ => rfl) ?_
  refine xr_aload_n (xd dX12_sendAlert 9 rfl) 0 rfl ?_
  refine xr_iload_n (xd dX12_sendAlert 10 rfl) 1 rfl ?_
  refine xr_aload_n (xd dX12_sendAlert 11 rfl) 0 rfl ?_
  refine xr_iload_n (xd dX12_sendAlert 12 rfl) 1 rfl ?_
  refine xr_callV mX12_greatestEpoch 1 [.int (oI p1)] (xd dX12_sendAlert 13 rfl) l12_346 kX12_greatestEpoch rfl (lt552 hn (by decide)) kd_491 (by decide) rfl (by decide) (Nat.le_of_ble_eq_true rfl) (v_X12_greatestEpoch hn hR  h) (by decide) (by decide) (fun r_ M_ h_ => ?_) (fun _ _ h_ => h_.elim)
  obtain ⟨r7, J5, L6, rfl, rfl, h⟩ := h_
  show xJ _ _ _ _ _ _ _ _ _ 22 [(0, .ref 491), (1, .int (oI p1)), (2, .int (oI p2))] [.int (oI r7), .int (oI p1), .ref 491] _ _ _ (zi J5) (li L6)
  refine xr_bipush (v := oI 21) (xd dX12_sendAlert 14 rfl) (by decide) ?_
  refine xr_callV mX12_record 3 [.int (oI p1), .int (oI r7), .int (oI 21)] (xd dX12_sendAlert 15 rfl) l12_350 kX12_record rfl (lt552 hn (by decide)) kd_491 (by decide) rfl (by decide) (Nat.le_of_ble_eq_true rfl) (v_X12_record hn hR  h) (by decide) (by decide) (fun r_ M_ h_ => ?_) (fun _ _ h_ => h_.elim)
  obtain ⟨r10, J8, L9, rfl, rfl, h⟩ := h_
  show xJ _ _ _ _ _ _ _ _ _ 27 [(0, .ref 491), (1, .int (oI p1)), (2, .int (oI p2))] [.int (oI r10)] _ _ _ (zi J8) (li L9)
  refine xr_istore_n [(0, .ref 491), (1, .int (oI p1)), (2, .int (oI p2)), (3, .int (oI r10))] (xd dX12_sendAlert 16 rfl) rfl (by decide) rfl ?_
  refine xr_aload_n (xd dX12_sendAlert 17 rfl) 0 rfl ?_
  refine xr_iload_n (xd dX12_sendAlert 18 rfl) 1 rfl ?_
  refine xr_callV mX12_sendMade 1 [.int (oI p1)] (xd dX12_sendAlert 19 rfl) l12_354 kX12_sendMade rfl (lt552 hn (by decide)) kd_491 (by decide) rfl (by decide) (Nat.le_of_ble_eq_true rfl) (v_X12_sendMade hn hR  h) (by decide) (by decide) (fun r_ M_ h_ => ?_) (fun _ _ h_ => h_.elim)
  obtain ⟨J11, L12, rfl, rfl, h⟩ := h_
  show xJ _ _ _ _ _ _ _ _ _ 33 [(0, .ref 491), (1, .int (oI p1)), (2, .int (oI p2)), (3, .int (oI r10))] [] _ _ _ (zi J11) (li L12)
  exact xr_vret (xd dX12_sendAlert 20 rfl) rfl (by decide) (by decide) (fun _ => rfl) ⟨_, _, rfl, rfl, h⟩
def w_X12_bodySize (p1 : Int) (J : zM) (L : yM) (Q : Int → zM → yM → Prop) : Prop := ((0 : Int) ≤ (p1 + 1) ∧ (p1 + 1) < 2048) ∧ ((0 : Int) ≤ (p1 + 2) ∧ (p1 + 2) < 2048) ∧ Q ((256 * (J 492 (p1 + 1))) + (J 492 (p1 + 2))) J L
set_option maxHeartbeats 4000000 in
set_option maxRecDepth 100000 in
theorem v_X12_bodySize {b : Nat} {dC : Nat → ClassId} {dI : Nat → Nat → Nat} {cA : Nat → ClassId} {ts : Nat → Nat} {l : Launch} {n : Nat} {R : Nat → Nat → Option Nat} {al : Bool} (hn : 552 ≤ n) (hR : xRk R) {p1 : Int}  {J : zM} {L : yM} {Q : Int → zM → yM → Prop} (h : w_X12_bodySize p1 J L Q) : xCn (xGm b dC dI cA ts) l mX12_bodySize [.ref 491, .int (oI p1)] al (n, R, zi J, li L) 0 0 (zQ1 n R Q) (fun _ _ => False) := by
  refine xCn.ofJ (by decide) (Nat.le_of_ble_eq_true rfl) ?_
  show xJ _ _ _ _ _ _ _ _ _ 0 [(0, .ref 491), (1, .int (oI p1))] [] _ _ _ _ _
  unfold w_X12_bodySize at h
  refine xr_sipush (v := oI 256) (xd dX12_bodySize 0 rfl) (by decide) ?_
  refine xr_aload_n (xd dX12_bodySize 1 rfl) 0 rfl ?_
  refine xr_getR (b := 492) 12 5 (xd dX12_bodySize 2 rfl) f12_7 (by decide) (by decide) (lt552 hn (by decide)) kd_491 rfl (r_491_5 hR) ?_
  refine xr_iload_n (xd dX12_bodySize 3 rfl) 1 rfl ?_
  refine xr_iconst (v := oI 1) (xd dX12_bodySize 4 rfl) (by decide) ?_
  refine zr_iadd (xd dX12_bodySize 5 rfl) ?_
  obtain ⟨o1, h⟩ := h
  refine zr_iaload (xd dX12_bodySize 6 rfl) (lt552 hn (by decide)) kd_492 ln_492 (by decide) o1 ?_
  refine zr_imul (xd dX12_bodySize 7 rfl) ?_
  refine xr_aload_n (xd dX12_bodySize 8 rfl) 0 rfl ?_
  refine xr_getR (b := 492) 12 5 (xd dX12_bodySize 9 rfl) f12_7 (by decide) (by decide) (lt552 hn (by decide)) kd_491 rfl (r_491_5 hR) ?_
  refine xr_iload_n (xd dX12_bodySize 10 rfl) 1 rfl ?_
  refine xr_iconst (v := oI 2) (xd dX12_bodySize 11 rfl) (by decide) ?_
  refine zr_iadd (xd dX12_bodySize 12 rfl) ?_
  obtain ⟨o2, h⟩ := h
  refine zr_iaload (xd dX12_bodySize 13 rfl) (lt552 hn (by decide)) kd_492 ln_492 (by decide) o2 ?_
  refine zr_iadd (xd dX12_bodySize 14 rfl) ?_
  exact xr_iret (xd dX12_bodySize 15 rfl) rfl (by decide) (by decide) (fun _ => rfl) ⟨_, _, _, rfl, rfl, h⟩
def w_X12_clearFlight (p1 : Int) (J : zM) (L : yM) (Q : zM → yM → Prop) : Prop := ((0 : Int) ≤ p1 ∧ p1 < 2) ∧ ∀ J2 : zM, J2 = zs J 517 p1 0 → ∀ x3 : Int, x3 = (600 * p1) → zl_z (fun K4 x5 J6 L7 => R32 x5 ∧ R32 ((600 * p1) + 600) ∧ (if x5 < ((600 * p1) + 600) then ((0 : Int) ≤ x5 ∧ x5 < 1200) ∧ ∀ J22 : zM, J22 = zs J6 521 x5 0 → K4 (x5 + 1) J22 L7 else ((0 : Int) ≤ p1 ∧ p1 < 2) ∧ ∀ J12 : zM, J12 = zs J6 528 p1 0 → ((0 : Int) ≤ p1 ∧ p1 < 2) ∧ ∀ J14 : zM, J14 = zs J12 530 p1 0 → ((0 : Int) ≤ p1 ∧ p1 < 2) ∧ ∀ J16 : zM, J16 = zs J14 522 p1 0 → ((0 : Int) ≤ p1 ∧ p1 < 2) ∧ ∀ J18 : zM, J18 = zs J16 526 p1 0 → ((0 : Int) ≤ p1 ∧ p1 < 2) ∧ ∀ J20 : zM, J20 = zs J18 524 p1 4 → Q J20 L7)) x3 J2 L
set_option maxHeartbeats 4000000 in
set_option maxRecDepth 100000 in
theorem v_X12_clearFlight {b : Nat} {dC : Nat → ClassId} {dI : Nat → Nat → Nat} {cA : Nat → ClassId} {ts : Nat → Nat} {l : Launch} {n : Nat} {R : Nat → Nat → Option Nat} {al : Bool} (hn : 552 ≤ n) (hR : xRk R) {p1 : Int}  {J : zM} {L : yM} {Q : zM → yM → Prop} (h : w_X12_clearFlight p1 J L Q) : xCn (xGm b dC dI cA ts) l mX12_clearFlight [.ref 491, .int (oI p1)] al (n, R, zi J, li L) 0 0 (zQ0 n R Q) (fun _ _ => False) := by
  refine xCn.ofJ (by decide) (Nat.le_of_ble_eq_true rfl) ?_
  show xJ _ _ _ _ _ _ _ _ _ 0 [(0, .ref 491), (1, .int (oI p1))] [] _ _ _ _ _
  unfold w_X12_clearFlight at h
  refine xr_aload_n (xd dX12_clearFlight 0 rfl) 0 rfl ?_
  refine xr_getR (b := 517) 12 35 (xd dX12_clearFlight 1 rfl) f12_88 (by decide) (by decide) (lt552 hn (by decide)) kd_491 rfl (r_491_35 hR) ?_
  refine xr_iload_n (xd dX12_clearFlight 2 rfl) 1 rfl ?_
  refine xr_iconst (v := oI 0) (xd dX12_clearFlight 3 rfl) (by decide) ?_
  obtain ⟨o1, h⟩ := h
  obtain ⟨J2, e_J2⟩ : ∃ z_ : zM, z_ = zs J 517 p1 0 := ⟨_, rfl⟩
  replace h := h J2 e_J2
  refine zr_iastore e_J2 (xd dX12_clearFlight 4 rfl) (lt552 hn (by decide)) kd_517 ln_517 (by decide) o1 ?_
  refine xr_sipush (v := oI 600) (xd dX12_clearFlight 5 rfl) (by decide) ?_
  refine xr_iload_n (xd dX12_clearFlight 6 rfl) 1 rfl ?_
  refine zr_imul (xd dX12_clearFlight 7 rfl) ?_
  obtain ⟨x3, e_x3⟩ : ∃ z_ : Int, z_ = (600 * p1) := ⟨_, rfl⟩
  replace h := h x3 e_x3
  refine zr_nm e_x3 ?_
  refine xr_istore_n [(0, .ref 491), (1, .int (oI p1)), (2, .int (oI x3))] (xd dX12_clearFlight 8 rfl) rfl (by decide) rfl ?_
  refine h (fun x5 J6 L7 => xJ (xGm b dC dI cA ts) l mX12_clearFlight 0 0 (zQ0 n R Q) (fun _ _ => False) 0 0 13 [(0, .ref 491), (1, .int (oI p1)), (2, .int (oI x5))] [] al n R (zi J6) (li L7)) ?_
  intro x5 J6 L7 h
  show xJ _ _ _ _ _ _ _ _ _ 13 [(0, .ref 491), (1, .int (oI p1)), (2, .int (oI x5))] [] _ _ _ _ _
  refine xr_iload_n (xd dX12_clearFlight 9 rfl) 2 rfl ?_
  refine xr_sipush (v := oI 600) (xd dX12_clearFlight 10 rfl) (by decide) ?_
  refine xr_iload_n (xd dX12_clearFlight 11 rfl) 1 rfl ?_
  refine zr_imul (xd dX12_clearFlight 12 rfl) ?_
  refine xr_sipush (v := oI 600) (xd dX12_clearFlight 13 rfl) (by decide) ?_
  refine zr_iadd (xd dX12_clearFlight 14 rfl) ?_
  obtain ⟨o8, h⟩ := h
  obtain ⟨o9, h⟩ := h
  refine zr_icmp_ge 39 (xd dX12_clearFlight 15 rfl) (by decide) o8 o9 (fun c10 => ?_) (fun c10 => ?_)
  · replace h := ifn h c10
    refine xr_aload_n (xd dX12_clearFlight 23 rfl) 0 rfl ?_
    refine xr_getR (b := 528) 12 46 (xd dX12_clearFlight 24 rfl) f12_121 (by decide) (by decide) (lt552 hn (by decide)) kd_491 rfl (r_491_46 hR) ?_
    refine xr_iload_n (xd dX12_clearFlight 25 rfl) 1 rfl ?_
    refine xr_iconst (v := oI 0) (xd dX12_clearFlight 26 rfl) (by decide) ?_
    obtain ⟨o11, h⟩ := h
    obtain ⟨J12, e_J12⟩ : ∃ z_ : zM, z_ = zs J6 528 p1 0 := ⟨_, rfl⟩
    replace h := h J12 e_J12
    refine zr_iastore e_J12 (xd dX12_clearFlight 27 rfl) (lt552 hn (by decide)) kd_528 ln_528 (by decide) o11 ?_
    refine xr_aload_n (xd dX12_clearFlight 28 rfl) 0 rfl ?_
    refine xr_getR (b := 530) 12 48 (xd dX12_clearFlight 29 rfl) f12_127 (by decide) (by decide) (lt552 hn (by decide)) kd_491 rfl (r_491_48 hR) ?_
    refine xr_iload_n (xd dX12_clearFlight 30 rfl) 1 rfl ?_
    refine xr_iconst (v := oI 0) (xd dX12_clearFlight 31 rfl) (by decide) ?_
    obtain ⟨o13, h⟩ := h
    obtain ⟨J14, e_J14⟩ : ∃ z_ : zM, z_ = zs J12 530 p1 0 := ⟨_, rfl⟩
    replace h := h J14 e_J14
    refine zr_iastore e_J14 (xd dX12_clearFlight 32 rfl) (lt552 hn (by decide)) kd_530 ln_530 (by decide) o13 ?_
    refine xr_aload_n (xd dX12_clearFlight 33 rfl) 0 rfl ?_
    refine xr_getR (b := 522) 12 40 (xd dX12_clearFlight 34 rfl) f12_103 (by decide) (by decide) (lt552 hn (by decide)) kd_491 rfl (r_491_40 hR) ?_
    refine xr_iload_n (xd dX12_clearFlight 35 rfl) 1 rfl ?_
    refine xr_iconst (v := oI 0) (xd dX12_clearFlight 36 rfl) (by decide) ?_
    obtain ⟨o15, h⟩ := h
    obtain ⟨J16, e_J16⟩ : ∃ z_ : zM, z_ = zs J14 522 p1 0 := ⟨_, rfl⟩
    replace h := h J16 e_J16
    refine zr_zastore (Or.inl rfl) e_J16 (xd dX12_clearFlight 37 rfl) (lt552 hn (by decide)) kd_522 ln_522 (by decide) o15 ?_
    refine xr_aload_n (xd dX12_clearFlight 38 rfl) 0 rfl ?_
    refine xr_getR (b := 526) 12 44 (xd dX12_clearFlight 39 rfl) f12_115 (by decide) (by decide) (lt552 hn (by decide)) kd_491 rfl (r_491_44 hR) ?_
    refine xr_iload_n (xd dX12_clearFlight 40 rfl) 1 rfl ?_
    refine xr_iconst (v := oI 0) (xd dX12_clearFlight 41 rfl) (by decide) ?_
    obtain ⟨o17, h⟩ := h
    obtain ⟨J18, e_J18⟩ : ∃ z_ : zM, z_ = zs J16 526 p1 0 := ⟨_, rfl⟩
    replace h := h J18 e_J18
    refine zr_iastore e_J18 (xd dX12_clearFlight 42 rfl) (lt552 hn (by decide)) kd_526 ln_526 (by decide) o17 ?_
    refine xr_aload_n (xd dX12_clearFlight 43 rfl) 0 rfl ?_
    refine xr_getR (b := 524) 12 42 (xd dX12_clearFlight 44 rfl) f12_109 (by decide) (by decide) (lt552 hn (by decide)) kd_491 rfl (r_491_42 hR) ?_
    refine xr_iload_n (xd dX12_clearFlight 45 rfl) 1 rfl ?_
    refine xr_iconst (v := oI 4) (xd dX12_clearFlight 46 rfl) (by decide) ?_
    obtain ⟨o19, h⟩ := h
    obtain ⟨J20, e_J20⟩ : ∃ z_ : zM, z_ = zs J18 524 p1 4 := ⟨_, rfl⟩
    replace h := h J20 e_J20
    refine zr_iastore e_J20 (xd dX12_clearFlight 47 rfl) (lt552 hn (by decide)) kd_524 ln_524 (by decide) o19 ?_
    exact xr_vret (xd dX12_clearFlight 48 rfl) rfl (by decide) (by decide) (fun _ => rfl) ⟨_, _, rfl, rfl, h⟩
  · replace h := ifp h c10
    refine xr_aload_n (xd dX12_clearFlight 16 rfl) 0 rfl ?_
    refine xr_getR (b := 521) 12 39 (xd dX12_clearFlight 17 rfl) f12_100 (by decide) (by decide) (lt552 hn (by decide)) kd_491 rfl (r_491_39 hR) ?_
    refine xr_iload_n (xd dX12_clearFlight 18 rfl) 2 rfl ?_
    refine xr_iconst (v := oI 0) (xd dX12_clearFlight 19 rfl) (by decide) ?_
    obtain ⟨o21, h⟩ := h
    obtain ⟨J22, e_J22⟩ : ∃ z_ : zM, z_ = zs J6 521 x5 0 := ⟨_, rfl⟩
    replace h := h J22 e_J22
    refine zr_zastore (Or.inl rfl) e_J22 (xd dX12_clearFlight 20 rfl) (lt552 hn (by decide)) kd_521 ln_521 (by decide) o21 ?_
    refine zr_iinc [(0, .ref 491), (1, .int (oI p1)), (2, .int (oI (x5 + 1)))] (xd dX12_clearFlight 21 rfl) 2 rfl (by decide) rfl ?_
    refine xr_goto 13 (xd dX12_clearFlight 22 rfl) (by decide) ?_
    exact h
def w_X12_addFlight (p1 : Int) (p2 : Int) (p3 : Int) (p4 : Int) (J : zM) (L : yM) (Q : zM → yM → Prop) : Prop := ((0 : Int) ≤ p1 ∧ p1 < 2) ∧ ∀ x2 : Int, x2 = ((3 * p1) + (J 517 p1)) → ((0 : Int) ≤ x2 ∧ x2 < 6) ∧ ∀ J4 : zM, J4 = zs J 518 x2 p2 → ((0 : Int) ≤ x2 ∧ x2 < 6) ∧ ∀ J6 : zM, J6 = zs J4 519 x2 p3 → ((0 : Int) ≤ x2 ∧ x2 < 6) ∧ ∀ J8 : zM, J8 = zs J6 520 x2 p4 → ((0 : Int) ≤ p1 ∧ p1 < 2) ∧ ((0 : Int) ≤ p1 ∧ p1 < 2) ∧ ∀ J11 : zM, J11 = zs J8 517 p1 ((J8 517 p1) + 1) → Q J11 L
set_option maxHeartbeats 4000000 in
set_option maxRecDepth 100000 in
theorem v_X12_addFlight {b : Nat} {dC : Nat → ClassId} {dI : Nat → Nat → Nat} {cA : Nat → ClassId} {ts : Nat → Nat} {l : Launch} {n : Nat} {R : Nat → Nat → Option Nat} {al : Bool} (hn : 552 ≤ n) (hR : xRk R) {p1 : Int} {p2 : Int} {p3 : Int} {p4 : Int}  {J : zM} {L : yM} {Q : zM → yM → Prop} (h : w_X12_addFlight p1 p2 p3 p4 J L Q) : xCn (xGm b dC dI cA ts) l mX12_addFlight [.ref 491, .int (oI p1), .int (oI p2), .int (oI p3), .int (oI p4)] al (n, R, zi J, li L) 0 0 (zQ0 n R Q) (fun _ _ => False) := by
  refine xCn.ofJ (by decide) (Nat.le_of_ble_eq_true rfl) ?_
  show xJ _ _ _ _ _ _ _ _ _ 0 [(0, .ref 491), (1, .int (oI p1)), (2, .int (oI p2)), (3, .int (oI p3)), (4, .int (oI p4))] [] _ _ _ _ _
  unfold w_X12_addFlight at h
  refine xr_iconst (v := oI 3) (xd dX12_addFlight 0 rfl) (by decide) ?_
  refine xr_iload_n (xd dX12_addFlight 1 rfl) 1 rfl ?_
  refine zr_imul (xd dX12_addFlight 2 rfl) ?_
  refine xr_aload_n (xd dX12_addFlight 3 rfl) 0 rfl ?_
  refine xr_getR (b := 517) 12 35 (xd dX12_addFlight 4 rfl) f12_88 (by decide) (by decide) (lt552 hn (by decide)) kd_491 rfl (r_491_35 hR) ?_
  refine xr_iload_n (xd dX12_addFlight 5 rfl) 1 rfl ?_
  obtain ⟨o1, h⟩ := h
  refine zr_iaload (xd dX12_addFlight 6 rfl) (lt552 hn (by decide)) kd_517 ln_517 (by decide) o1 ?_
  refine zr_iadd (xd dX12_addFlight 7 rfl) ?_
  obtain ⟨x2, e_x2⟩ : ∃ z_ : Int, z_ = ((3 * p1) + (J 517 p1)) := ⟨_, rfl⟩
  replace h := h x2 e_x2
  refine zr_nm e_x2 ?_
  refine xr_istore [(0, .ref 491), (1, .int (oI p1)), (2, .int (oI p2)), (3, .int (oI p3)), (4, .int (oI p4)), (5, .int (oI x2))] (xd dX12_addFlight 8 rfl) (by decide) rfl ?_
  refine xr_aload_n (xd dX12_addFlight 9 rfl) 0 rfl ?_
  refine xr_getR (b := 518) 12 36 (xd dX12_addFlight 10 rfl) f12_91 (by decide) (by decide) (lt552 hn (by decide)) kd_491 rfl (r_491_36 hR) ?_
  refine xr_iload (xd dX12_addFlight 11 rfl) 5 rfl ?_
  refine xr_iload_n (xd dX12_addFlight 12 rfl) 2 rfl ?_
  obtain ⟨o3, h⟩ := h
  obtain ⟨J4, e_J4⟩ : ∃ z_ : zM, z_ = zs J 518 x2 p2 := ⟨_, rfl⟩
  replace h := h J4 e_J4
  refine zr_iastore e_J4 (xd dX12_addFlight 13 rfl) (lt552 hn (by decide)) kd_518 ln_518 (by decide) o3 ?_
  refine xr_aload_n (xd dX12_addFlight 14 rfl) 0 rfl ?_
  refine xr_getR (b := 519) 12 37 (xd dX12_addFlight 15 rfl) f12_94 (by decide) (by decide) (lt552 hn (by decide)) kd_491 rfl (r_491_37 hR) ?_
  refine xr_iload (xd dX12_addFlight 16 rfl) 5 rfl ?_
  refine xr_iload_n (xd dX12_addFlight 17 rfl) 3 rfl ?_
  obtain ⟨o5, h⟩ := h
  obtain ⟨J6, e_J6⟩ : ∃ z_ : zM, z_ = zs J4 519 x2 p3 := ⟨_, rfl⟩
  replace h := h J6 e_J6
  refine zr_iastore e_J6 (xd dX12_addFlight 18 rfl) (lt552 hn (by decide)) kd_519 ln_519 (by decide) o5 ?_
  refine xr_aload_n (xd dX12_addFlight 19 rfl) 0 rfl ?_
  refine xr_getR (b := 520) 12 38 (xd dX12_addFlight 20 rfl) f12_97 (by decide) (by decide) (lt552 hn (by decide)) kd_491 rfl (r_491_38 hR) ?_
  refine xr_iload (xd dX12_addFlight 21 rfl) 5 rfl ?_
  refine xr_iload (xd dX12_addFlight 22 rfl) 4 rfl ?_
  obtain ⟨o7, h⟩ := h
  obtain ⟨J8, e_J8⟩ : ∃ z_ : zM, z_ = zs J6 520 x2 p4 := ⟨_, rfl⟩
  replace h := h J8 e_J8
  refine zr_iastore e_J8 (xd dX12_addFlight 23 rfl) (lt552 hn (by decide)) kd_520 ln_520 (by decide) o7 ?_
  refine xr_aload_n (xd dX12_addFlight 24 rfl) 0 rfl ?_
  refine xr_getR (b := 517) 12 35 (xd dX12_addFlight 25 rfl) f12_88 (by decide) (by decide) (lt552 hn (by decide)) kd_491 rfl (r_491_35 hR) ?_
  refine xr_iload_n (xd dX12_addFlight 26 rfl) 1 rfl ?_
  refine xr_dup2 (xd dX12_addFlight 27 rfl) rfl rfl ?_
  obtain ⟨o9, h⟩ := h
  refine zr_iaload (xd dX12_addFlight 28 rfl) (lt552 hn (by decide)) kd_517 ln_517 (by decide) o9 ?_
  refine xr_iconst (v := oI 1) (xd dX12_addFlight 29 rfl) (by decide) ?_
  refine zr_iadd (xd dX12_addFlight 30 rfl) ?_
  obtain ⟨o10, h⟩ := h
  obtain ⟨J11, e_J11⟩ : ∃ z_ : zM, z_ = zs J8 517 p1 ((J8 517 p1) + 1) := ⟨_, rfl⟩
  replace h := h J11 e_J11
  refine zr_iastore e_J11 (xd dX12_addFlight 31 rfl) (lt552 hn (by decide)) kd_517 ln_517 (by decide) o10 ?_
  exact xr_vret (xd dX12_addFlight 32 rfl) rfl (by decide) (by decide) (fun _ => rfl) ⟨_, _, rfl, rfl, h⟩
def w_X12_note (p1 : Int) (p2 : Int) (p3 : Int) (p4 : Int) (p5 : Int) (p6 : Int) (J : zM) (L : yM) (Q : zM → yM → Prop) : Prop := ((0 : Int) ≤ p1 ∧ p1 < 2) ∧ ∀ x2 : Int, x2 = ((10000 * p1) + (5 * (J 528 p1))) → ((0 : Int) ≤ p1 ∧ p1 < 2) ∧ R32 (J 528 p1) ∧ (if (J 528 p1) < 2000 then ((0 : Int) ≤ x2 ∧ x2 < 20000) ∧ ∀ J7 : zM, J7 = zs J 529 x2 p2 → ((0 : Int) ≤ (x2 + 1) ∧ (x2 + 1) < 20000) ∧ ∀ J9 : zM, J9 = zs J7 529 (x2 + 1) p3 → ((0 : Int) ≤ (x2 + 2) ∧ (x2 + 2) < 20000) ∧ ∀ J11 : zM, J11 = zs J9 529 (x2 + 2) p4 → ((0 : Int) ≤ (x2 + 3) ∧ (x2 + 3) < 20000) ∧ ∀ J13 : zM, J13 = zs J11 529 (x2 + 3) p5 → ((0 : Int) ≤ (x2 + 4) ∧ (x2 + 4) < 20000) ∧ ∀ J15 : zM, J15 = zs J13 529 (x2 + 4) p6 → ((0 : Int) ≤ p1 ∧ p1 < 2) ∧ ((0 : Int) ≤ p1 ∧ p1 < 2) ∧ ∀ J18 : zM, J18 = zs J15 528 p1 ((J15 528 p1) + 1) → Q J18 L else Q J L)
set_option maxHeartbeats 4000000 in
set_option maxRecDepth 100000 in
theorem v_X12_note {b : Nat} {dC : Nat → ClassId} {dI : Nat → Nat → Nat} {cA : Nat → ClassId} {ts : Nat → Nat} {l : Launch} {n : Nat} {R : Nat → Nat → Option Nat} {al : Bool} (hn : 552 ≤ n) (hR : xRk R) {p1 : Int} {p2 : Int} {p3 : Int} {p4 : Int} {p5 : Int} {p6 : Int}  {J : zM} {L : yM} {Q : zM → yM → Prop} (h : w_X12_note p1 p2 p3 p4 p5 p6 J L Q) : xCn (xGm b dC dI cA ts) l mX12_note [.ref 491, .int (oI p1), .int (oI p2), .int (oI p3), .int (oI p4), .int (oI p5), .int (oI p6)] al (n, R, zi J, li L) 0 0 (zQ0 n R Q) (fun _ _ => False) := by
  refine xCn.ofJ (by decide) (Nat.le_of_ble_eq_true rfl) ?_
  show xJ _ _ _ _ _ _ _ _ _ 0 [(0, .ref 491), (1, .int (oI p1)), (2, .int (oI p2)), (3, .int (oI p3)), (4, .int (oI p4)), (5, .int (oI p5)), (6, .int (oI p6))] [] _ _ _ _ _
  unfold w_X12_note at h
  refine xr_sipush (v := oI 10000) (xd dX12_note 0 rfl) (by decide) ?_
  refine xr_iload_n (xd dX12_note 1 rfl) 1 rfl ?_
  refine zr_imul (xd dX12_note 2 rfl) ?_
  refine xr_iconst (v := oI 5) (xd dX12_note 3 rfl) (by decide) ?_
  refine xr_aload_n (xd dX12_note 4 rfl) 0 rfl ?_
  refine xr_getR (b := 528) 12 46 (xd dX12_note 5 rfl) f12_121 (by decide) (by decide) (lt552 hn (by decide)) kd_491 rfl (r_491_46 hR) ?_
  refine xr_iload_n (xd dX12_note 6 rfl) 1 rfl ?_
  obtain ⟨o1, h⟩ := h
  refine zr_iaload (xd dX12_note 7 rfl) (lt552 hn (by decide)) kd_528 ln_528 (by decide) o1 ?_
  refine zr_imul (xd dX12_note 8 rfl) ?_
  refine zr_iadd (xd dX12_note 9 rfl) ?_
  obtain ⟨x2, e_x2⟩ : ∃ z_ : Int, z_ = ((10000 * p1) + (5 * (J 528 p1))) := ⟨_, rfl⟩
  replace h := h x2 e_x2
  refine zr_nm e_x2 ?_
  refine xr_istore [(0, .ref 491), (1, .int (oI p1)), (2, .int (oI p2)), (3, .int (oI p3)), (4, .int (oI p4)), (5, .int (oI p5)), (6, .int (oI p6)), (7, .int (oI x2))] (xd dX12_note 10 rfl) (by decide) rfl ?_
  refine xr_aload_n (xd dX12_note 11 rfl) 0 rfl ?_
  refine xr_getR (b := 528) 12 46 (xd dX12_note 12 rfl) f12_121 (by decide) (by decide) (lt552 hn (by decide)) kd_491 rfl (r_491_46 hR) ?_
  refine xr_iload_n (xd dX12_note 13 rfl) 1 rfl ?_
  obtain ⟨o3, h⟩ := h
  refine zr_iaload (xd dX12_note 14 rfl) (lt552 hn (by decide)) kd_528 ln_528 (by decide) o3 ?_
  refine xr_sipush (v := oI 2000) (xd dX12_note 15 rfl) (by decide) ?_
  obtain ⟨o4, h⟩ := h
  refine zr_icmp_ge 89 (xd dX12_note 16 rfl) (by decide) o4 (by decide) (fun c5 => ?_) (fun c5 => ?_)
  · replace h := ifn h c5
    exact xr_vret (xd dX12_note 58 rfl) rfl (by decide) (by decide) (fun _ => rfl) ⟨_, _, rfl, rfl, h⟩
  · replace h := ifp h c5
    refine xr_aload_n (xd dX12_note 17 rfl) 0 rfl ?_
    refine xr_getR (b := 529) 12 47 (xd dX12_note 18 rfl) f12_124 (by decide) (by decide) (lt552 hn (by decide)) kd_491 rfl (r_491_47 hR) ?_
    refine xr_iload (xd dX12_note 19 rfl) 7 rfl ?_
    refine xr_iload_n (xd dX12_note 20 rfl) 2 rfl ?_
    obtain ⟨o6, h⟩ := h
    obtain ⟨J7, e_J7⟩ : ∃ z_ : zM, z_ = zs J 529 x2 p2 := ⟨_, rfl⟩
    replace h := h J7 e_J7
    refine zr_iastore e_J7 (xd dX12_note 21 rfl) (lt552 hn (by decide)) kd_529 ln_529 (by decide) o6 ?_
    refine xr_aload_n (xd dX12_note 22 rfl) 0 rfl ?_
    refine xr_getR (b := 529) 12 47 (xd dX12_note 23 rfl) f12_124 (by decide) (by decide) (lt552 hn (by decide)) kd_491 rfl (r_491_47 hR) ?_
    refine xr_iload (xd dX12_note 24 rfl) 7 rfl ?_
    refine xr_iconst (v := oI 1) (xd dX12_note 25 rfl) (by decide) ?_
    refine zr_iadd (xd dX12_note 26 rfl) ?_
    refine xr_iload_n (xd dX12_note 27 rfl) 3 rfl ?_
    obtain ⟨o8, h⟩ := h
    obtain ⟨J9, e_J9⟩ : ∃ z_ : zM, z_ = zs J7 529 (x2 + 1) p3 := ⟨_, rfl⟩
    replace h := h J9 e_J9
    refine zr_iastore e_J9 (xd dX12_note 28 rfl) (lt552 hn (by decide)) kd_529 ln_529 (by decide) o8 ?_
    refine xr_aload_n (xd dX12_note 29 rfl) 0 rfl ?_
    refine xr_getR (b := 529) 12 47 (xd dX12_note 30 rfl) f12_124 (by decide) (by decide) (lt552 hn (by decide)) kd_491 rfl (r_491_47 hR) ?_
    refine xr_iload (xd dX12_note 31 rfl) 7 rfl ?_
    refine xr_iconst (v := oI 2) (xd dX12_note 32 rfl) (by decide) ?_
    refine zr_iadd (xd dX12_note 33 rfl) ?_
    refine xr_iload (xd dX12_note 34 rfl) 4 rfl ?_
    obtain ⟨o10, h⟩ := h
    obtain ⟨J11, e_J11⟩ : ∃ z_ : zM, z_ = zs J9 529 (x2 + 2) p4 := ⟨_, rfl⟩
    replace h := h J11 e_J11
    refine zr_iastore e_J11 (xd dX12_note 35 rfl) (lt552 hn (by decide)) kd_529 ln_529 (by decide) o10 ?_
    refine xr_aload_n (xd dX12_note 36 rfl) 0 rfl ?_
    refine xr_getR (b := 529) 12 47 (xd dX12_note 37 rfl) f12_124 (by decide) (by decide) (lt552 hn (by decide)) kd_491 rfl (r_491_47 hR) ?_
    refine xr_iload (xd dX12_note 38 rfl) 7 rfl ?_
    refine xr_iconst (v := oI 3) (xd dX12_note 39 rfl) (by decide) ?_
    refine zr_iadd (xd dX12_note 40 rfl) ?_
    refine xr_iload (xd dX12_note 41 rfl) 5 rfl ?_
    obtain ⟨o12, h⟩ := h
    obtain ⟨J13, e_J13⟩ : ∃ z_ : zM, z_ = zs J11 529 (x2 + 3) p5 := ⟨_, rfl⟩
    replace h := h J13 e_J13
    refine zr_iastore e_J13 (xd dX12_note 42 rfl) (lt552 hn (by decide)) kd_529 ln_529 (by decide) o12 ?_
    refine xr_aload_n (xd dX12_note 43 rfl) 0 rfl ?_
    refine xr_getR (b := 529) 12 47 (xd dX12_note 44 rfl) f12_124 (by decide) (by decide) (lt552 hn (by decide)) kd_491 rfl (r_491_47 hR) ?_
    refine xr_iload (xd dX12_note 45 rfl) 7 rfl ?_
    refine xr_iconst (v := oI 4) (xd dX12_note 46 rfl) (by decide) ?_
    refine zr_iadd (xd dX12_note 47 rfl) ?_
    refine xr_iload (xd dX12_note 48 rfl) 6 rfl ?_
    obtain ⟨o14, h⟩ := h
    obtain ⟨J15, e_J15⟩ : ∃ z_ : zM, z_ = zs J13 529 (x2 + 4) p6 := ⟨_, rfl⟩
    replace h := h J15 e_J15
    refine zr_iastore e_J15 (xd dX12_note 49 rfl) (lt552 hn (by decide)) kd_529 ln_529 (by decide) o14 ?_
    refine xr_aload_n (xd dX12_note 50 rfl) 0 rfl ?_
    refine xr_getR (b := 528) 12 46 (xd dX12_note 51 rfl) f12_121 (by decide) (by decide) (lt552 hn (by decide)) kd_491 rfl (r_491_46 hR) ?_
    refine xr_iload_n (xd dX12_note 52 rfl) 1 rfl ?_
    refine xr_dup2 (xd dX12_note 53 rfl) rfl rfl ?_
    obtain ⟨o16, h⟩ := h
    refine zr_iaload (xd dX12_note 54 rfl) (lt552 hn (by decide)) kd_528 ln_528 (by decide) o16 ?_
    refine xr_iconst (v := oI 1) (xd dX12_note 55 rfl) (by decide) ?_
    refine zr_iadd (xd dX12_note 56 rfl) ?_
    obtain ⟨o17, h⟩ := h
    obtain ⟨J18, e_J18⟩ : ∃ z_ : zM, z_ = zs J15 528 p1 ((J15 528 p1) + 1) := ⟨_, rfl⟩
    replace h := h J18 e_J18
    refine zr_iastore e_J18 (xd dX12_note 57 rfl) (lt552 hn (by decide)) kd_528 ln_528 (by decide) o17 ?_
    exact xr_vret (xd dX12_note 58 rfl) rfl (by decide) (by decide) (fun _ => rfl) ⟨_, _, rfl, rfl, h⟩
def w_X12_fragment (p1 : Int) (p2 : Int) (p3 : Int) (p4 : Int) (p5 : Int) (p6 : Int) (J : zM) (L : yM) (Q : Int → zM → yM → Prop) : Prop := w_X12_bodySize p2 J L (fun r3 J1 L2 => ∀ J4 : zM, J4 = zs J1 491 33 0 → ((0 : Int) ≤ p2 ∧ p2 < 2048) ∧ w_X12_inner (J4 492 p2) J4 L2 (fun J6 L7 => w_X12_inner (zshr r3 8) J6 L7 (fun J8 L9 => w_X12_inner r3 J8 L9 (fun J10 L11 => w_X12_inner p4 J10 L11 (fun J12 L13 => w_X12_inner (zshr p5 8) J12 L13 (fun J14 L15 => w_X12_inner p5 J14 L15 (fun J16 L17 => w_X12_inner (zshr p6 8) J16 L17 (fun J18 L19 => w_X12_inner p6 J18 L19 (fun J20 L21 => zl_z (fun K22 x23 J24 L25 => R32 x23 ∧ R32 p6 ∧ (if x23 < p6 then ((0 : Int) ≤ (((p2 + 3) + p5) + x23) ∧ (((p2 + 3) + p5) + x23) < 2048) ∧ w_X12_inner (J24 492 (((p2 + 3) + p5) + x23)) J24 L25 (fun J33 L34 => K22 (x23 + 1) J33 L34) else w_X12_record p1 p3 22 J24 L25 (fun r31 J29 L30 => Q r31 J29 L30))) 0 J20 L21)))))))))
set_option maxHeartbeats 4000000 in
set_option maxRecDepth 100000 in
theorem v_X12_fragment {b : Nat} {dC : Nat → ClassId} {dI : Nat → Nat → Nat} {cA : Nat → ClassId} {ts : Nat → Nat} {l : Launch} {n : Nat} {R : Nat → Nat → Option Nat} {al : Bool} (hn : 552 ≤ n) (hR : xRk R) {p1 : Int} {p2 : Int} {p3 : Int} {p4 : Int} {p5 : Int} {p6 : Int}  {J : zM} {L : yM} {Q : Int → zM → yM → Prop} (h : w_X12_fragment p1 p2 p3 p4 p5 p6 J L Q) : xCn (xGm b dC dI cA ts) l mX12_fragment [.ref 491, .int (oI p1), .int (oI p2), .int (oI p3), .int (oI p4), .int (oI p5), .int (oI p6)] al (n, R, zi J, li L) 0 0 (zQ1 n R Q) (fun _ _ => False) := by
  refine xCn.ofJ (by decide) (Nat.le_of_ble_eq_true rfl) ?_
  show xJ _ _ _ _ _ _ _ _ _ 0 [(0, .ref 491), (1, .int (oI p1)), (2, .int (oI p2)), (3, .int (oI p3)), (4, .int (oI p4)), (5, .int (oI p5)), (6, .int (oI p6))] [] _ _ _ _ _
  unfold w_X12_fragment at h
  refine xr_aload_n (xd dX12_fragment 0 rfl) 0 rfl ?_
  refine xr_iload_n (xd dX12_fragment 1 rfl) 2 rfl ?_
  refine xr_callV mX12_bodySize 1 [.int (oI p2)] (xd dX12_fragment 2 rfl) l12_357 kX12_bodySize rfl (lt552 hn (by decide)) kd_491 (by decide) rfl (by decide) (Nat.le_of_ble_eq_true rfl) (v_X12_bodySize hn hR  h) (by decide) (by decide) (fun r_ M_ h_ => ?_) (fun _ _ h_ => h_.elim)
  obtain ⟨r3, J1, L2, rfl, rfl, h⟩ := h_
  show xJ _ _ _ _ _ _ _ _ _ 5 [(0, .ref 491), (1, .int (oI p1)), (2, .int (oI p2)), (3, .int (oI p3)), (4, .int (oI p4)), (5, .int (oI p5)), (6, .int (oI p6))] [.int (oI r3)] _ _ _ (zi J1) (li L2)
  refine xr_istore [(0, .ref 491), (1, .int (oI p1)), (2, .int (oI p2)), (3, .int (oI p3)), (4, .int (oI p4)), (5, .int (oI p5)), (6, .int (oI p6)), (7, .int (oI r3))] (xd dX12_fragment 3 rfl) (by decide) rfl ?_
  refine xr_aload_n (xd dX12_fragment 4 rfl) 0 rfl ?_
  refine xr_iconst (v := oI 0) (xd dX12_fragment 5 rfl) (by decide) ?_
  obtain ⟨J4, e_J4⟩ : ∃ z_ : zM, z_ = zs J1 491 33 0 := ⟨_, rfl⟩
  replace h := h J4 e_J4
  refine zr_putI 12 33 33 rfl e_J4 (xd dX12_fragment 6 rfl) f12_331 (by decide) (by decide) (lt552 hn (by decide)) kd_491 (Or.inl rfl) rfl rfl (fun _ => rfl) ?_
  refine xr_aload_n (xd dX12_fragment 7 rfl) 0 rfl ?_
  refine xr_aload_n (xd dX12_fragment 8 rfl) 0 rfl ?_
  refine xr_getR (b := 492) 12 5 (xd dX12_fragment 9 rfl) f12_7 (by decide) (by decide) (lt552 hn (by decide)) kd_491 rfl (r_491_5 hR) ?_
  refine xr_iload_n (xd dX12_fragment 10 rfl) 2 rfl ?_
  obtain ⟨o5, h⟩ := h
  refine zr_iaload (xd dX12_fragment 11 rfl) (lt552 hn (by decide)) kd_492 ln_492 (by decide) o5 ?_
  refine xr_callV mX12_inner 1 [.int (oI (J4 492 p2))] (xd dX12_fragment 12 rfl) l12_343 kX12_inner rfl (lt552 hn (by decide)) kd_491 (by decide) rfl (by decide) (Nat.le_of_ble_eq_true rfl) (v_X12_inner hn hR  h) (by decide) (by decide) (fun r_ M_ h_ => ?_) (fun _ _ h_ => h_.elim)
  obtain ⟨J6, L7, rfl, rfl, h⟩ := h_
  show xJ _ _ _ _ _ _ _ _ _ 22 [(0, .ref 491), (1, .int (oI p1)), (2, .int (oI p2)), (3, .int (oI p3)), (4, .int (oI p4)), (5, .int (oI p5)), (6, .int (oI p6)), (7, .int (oI r3))] [] _ _ _ (zi J6) (li L7)
  refine xr_aload_n (xd dX12_fragment 13 rfl) 0 rfl ?_
  refine xr_iload (xd dX12_fragment 14 rfl) 7 rfl ?_
  refine xr_bipush (v := oI 8) (xd dX12_fragment 15 rfl) (by decide) ?_
  refine zr_ishr (xd dX12_fragment 16 rfl) ?_
  refine xr_callV mX12_inner 1 [.int (oI (zshr r3 8))] (xd dX12_fragment 17 rfl) l12_343 kX12_inner rfl (lt552 hn (by decide)) kd_491 (by decide) rfl (by decide) (Nat.le_of_ble_eq_true rfl) (v_X12_inner hn hR  h) (by decide) (by decide) (fun r_ M_ h_ => ?_) (fun _ _ h_ => h_.elim)
  obtain ⟨J8, L9, rfl, rfl, h⟩ := h_
  show xJ _ _ _ _ _ _ _ _ _ 31 [(0, .ref 491), (1, .int (oI p1)), (2, .int (oI p2)), (3, .int (oI p3)), (4, .int (oI p4)), (5, .int (oI p5)), (6, .int (oI p6)), (7, .int (oI r3))] [] _ _ _ (zi J8) (li L9)
  refine xr_aload_n (xd dX12_fragment 18 rfl) 0 rfl ?_
  refine xr_iload (xd dX12_fragment 19 rfl) 7 rfl ?_
  refine xr_callV mX12_inner 1 [.int (oI r3)] (xd dX12_fragment 20 rfl) l12_343 kX12_inner rfl (lt552 hn (by decide)) kd_491 (by decide) rfl (by decide) (Nat.le_of_ble_eq_true rfl) (v_X12_inner hn hR  h) (by decide) (by decide) (fun r_ M_ h_ => ?_) (fun _ _ h_ => h_.elim)
  obtain ⟨J10, L11, rfl, rfl, h⟩ := h_
  show xJ _ _ _ _ _ _ _ _ _ 37 [(0, .ref 491), (1, .int (oI p1)), (2, .int (oI p2)), (3, .int (oI p3)), (4, .int (oI p4)), (5, .int (oI p5)), (6, .int (oI p6)), (7, .int (oI r3))] [] _ _ _ (zi J10) (li L11)
  refine xr_aload_n (xd dX12_fragment 21 rfl) 0 rfl ?_
  refine xr_iload (xd dX12_fragment 22 rfl) 4 rfl ?_
  refine xr_callV mX12_inner 1 [.int (oI p4)] (xd dX12_fragment 23 rfl) l12_343 kX12_inner rfl (lt552 hn (by decide)) kd_491 (by decide) rfl (by decide) (Nat.le_of_ble_eq_true rfl) (v_X12_inner hn hR  h) (by decide) (by decide) (fun r_ M_ h_ => ?_) (fun _ _ h_ => h_.elim)
  obtain ⟨J12, L13, rfl, rfl, h⟩ := h_
  show xJ _ _ _ _ _ _ _ _ _ 43 [(0, .ref 491), (1, .int (oI p1)), (2, .int (oI p2)), (3, .int (oI p3)), (4, .int (oI p4)), (5, .int (oI p5)), (6, .int (oI p6)), (7, .int (oI r3))] [] _ _ _ (zi J12) (li L13)
  refine xr_aload_n (xd dX12_fragment 24 rfl) 0 rfl ?_
  refine xr_iload (xd dX12_fragment 25 rfl) 5 rfl ?_
  refine xr_bipush (v := oI 8) (xd dX12_fragment 26 rfl) (by decide) ?_
  refine zr_ishr (xd dX12_fragment 27 rfl) ?_
  refine xr_callV mX12_inner 1 [.int (oI (zshr p5 8))] (xd dX12_fragment 28 rfl) l12_343 kX12_inner rfl (lt552 hn (by decide)) kd_491 (by decide) rfl (by decide) (Nat.le_of_ble_eq_true rfl) (v_X12_inner hn hR  h) (by decide) (by decide) (fun r_ M_ h_ => ?_) (fun _ _ h_ => h_.elim)
  obtain ⟨J14, L15, rfl, rfl, h⟩ := h_
  show xJ _ _ _ _ _ _ _ _ _ 52 [(0, .ref 491), (1, .int (oI p1)), (2, .int (oI p2)), (3, .int (oI p3)), (4, .int (oI p4)), (5, .int (oI p5)), (6, .int (oI p6)), (7, .int (oI r3))] [] _ _ _ (zi J14) (li L15)
  refine xr_aload_n (xd dX12_fragment 29 rfl) 0 rfl ?_
  refine xr_iload (xd dX12_fragment 30 rfl) 5 rfl ?_
  refine xr_callV mX12_inner 1 [.int (oI p5)] (xd dX12_fragment 31 rfl) l12_343 kX12_inner rfl (lt552 hn (by decide)) kd_491 (by decide) rfl (by decide) (Nat.le_of_ble_eq_true rfl) (v_X12_inner hn hR  h) (by decide) (by decide) (fun r_ M_ h_ => ?_) (fun _ _ h_ => h_.elim)
  obtain ⟨J16, L17, rfl, rfl, h⟩ := h_
  show xJ _ _ _ _ _ _ _ _ _ 58 [(0, .ref 491), (1, .int (oI p1)), (2, .int (oI p2)), (3, .int (oI p3)), (4, .int (oI p4)), (5, .int (oI p5)), (6, .int (oI p6)), (7, .int (oI r3))] [] _ _ _ (zi J16) (li L17)
  refine xr_aload_n (xd dX12_fragment 32 rfl) 0 rfl ?_
  refine xr_iload (xd dX12_fragment 33 rfl) 6 rfl ?_
  refine xr_bipush (v := oI 8) (xd dX12_fragment 34 rfl) (by decide) ?_
  refine zr_ishr (xd dX12_fragment 35 rfl) ?_
  refine xr_callV mX12_inner 1 [.int (oI (zshr p6 8))] (xd dX12_fragment 36 rfl) l12_343 kX12_inner rfl (lt552 hn (by decide)) kd_491 (by decide) rfl (by decide) (Nat.le_of_ble_eq_true rfl) (v_X12_inner hn hR  h) (by decide) (by decide) (fun r_ M_ h_ => ?_) (fun _ _ h_ => h_.elim)
  obtain ⟨J18, L19, rfl, rfl, h⟩ := h_
  show xJ _ _ _ _ _ _ _ _ _ 67 [(0, .ref 491), (1, .int (oI p1)), (2, .int (oI p2)), (3, .int (oI p3)), (4, .int (oI p4)), (5, .int (oI p5)), (6, .int (oI p6)), (7, .int (oI r3))] [] _ _ _ (zi J18) (li L19)
  refine xr_aload_n (xd dX12_fragment 37 rfl) 0 rfl ?_
  refine xr_iload (xd dX12_fragment 38 rfl) 6 rfl ?_
  refine xr_callV mX12_inner 1 [.int (oI p6)] (xd dX12_fragment 39 rfl) l12_343 kX12_inner rfl (lt552 hn (by decide)) kd_491 (by decide) rfl (by decide) (Nat.le_of_ble_eq_true rfl) (v_X12_inner hn hR  h) (by decide) (by decide) (fun r_ M_ h_ => ?_) (fun _ _ h_ => h_.elim)
  obtain ⟨J20, L21, rfl, rfl, h⟩ := h_
  show xJ _ _ _ _ _ _ _ _ _ 73 [(0, .ref 491), (1, .int (oI p1)), (2, .int (oI p2)), (3, .int (oI p3)), (4, .int (oI p4)), (5, .int (oI p5)), (6, .int (oI p6)), (7, .int (oI r3))] [] _ _ _ (zi J20) (li L21)
  refine xr_iconst (v := oI 0) (xd dX12_fragment 40 rfl) (by decide) ?_
  refine xr_istore [(0, .ref 491), (1, .int (oI p1)), (2, .int (oI p2)), (3, .int (oI p3)), (4, .int (oI p4)), (5, .int (oI p5)), (6, .int (oI p6)), (7, .int (oI r3)), (8, .int (oI 0))] (xd dX12_fragment 41 rfl) (by decide) rfl ?_
  refine xJ.pick (ls' := [(0, .ref 491), (1, .int (oI p1)), (2, .int (oI p2)), (3, .int (oI p3)), (5, .int (oI p5)), (6, .int (oI p6)), (8, .int (oI 0))]) [0, 1, 2, 3, 5, 6, 8] rfl ?_
  refine h (fun x23 J24 L25 => xJ (xGm b dC dI cA ts) l mX12_fragment 0 0 (zQ1 n R Q) (fun _ _ => False) 0 0 76 [(0, .ref 491), (1, .int (oI p1)), (2, .int (oI p2)), (3, .int (oI p3)), (5, .int (oI p5)), (6, .int (oI p6)), (8, .int (oI x23))] [] al n R (zi J24) (li L25)) ?_
  intro x23 J24 L25 h
  show xJ _ _ _ _ _ _ _ _ _ 76 [(0, .ref 491), (1, .int (oI p1)), (2, .int (oI p2)), (3, .int (oI p3)), (5, .int (oI p5)), (6, .int (oI p6)), (8, .int (oI x23))] [] _ _ _ _ _
  refine xr_iload (xd dX12_fragment 42 rfl) 6 rfl ?_
  refine xr_iload (xd dX12_fragment 43 rfl) 5 rfl ?_
  obtain ⟨o26, h⟩ := h
  obtain ⟨o27, h⟩ := h
  refine zr_icmp_ge 107 (xd dX12_fragment 44 rfl) (by decide) o26 o27 (fun c28 => ?_) (fun c28 => ?_)
  · replace h := ifn h c28
    refine xr_aload_n (xd dX12_fragment 59 rfl) 0 rfl ?_
    refine xr_iload_n (xd dX12_fragment 60 rfl) 1 rfl ?_
    refine xr_iload_n (xd dX12_fragment 61 rfl) 3 rfl ?_
    refine xr_bipush (v := oI 22) (xd dX12_fragment 62 rfl) (by decide) ?_
    refine xr_callV mX12_record 3 [.int (oI p1), .int (oI p3), .int (oI 22)] (xd dX12_fragment 63 rfl) l12_350 kX12_record rfl (lt552 hn (by decide)) kd_491 (by decide) rfl (by decide) (Nat.le_of_ble_eq_true rfl) (v_X12_record hn hR  h) (by decide) (by decide) (fun r_ M_ h_ => ?_) (fun _ _ h_ => h_.elim)
    obtain ⟨r31, J29, L30, rfl, rfl, h⟩ := h_
    show xJ _ _ _ _ _ _ _ _ _ 115 [(0, .ref 491), (1, .int (oI p1)), (2, .int (oI p2)), (3, .int (oI p3)), (5, .int (oI p5)), (6, .int (oI p6)), (8, .int (oI x23))] [.int (oI r31)] _ _ _ (zi J29) (li L30)
    exact xr_iret (xd dX12_fragment 64 rfl) rfl (by decide) (by decide) (fun _ => rfl) ⟨_, _, _, rfl, rfl, h⟩
  · replace h := ifp h c28
    refine xr_aload_n (xd dX12_fragment 45 rfl) 0 rfl ?_
    refine xr_aload_n (xd dX12_fragment 46 rfl) 0 rfl ?_
    refine xr_getR (b := 492) 12 5 (xd dX12_fragment 47 rfl) f12_7 (by decide) (by decide) (lt552 hn (by decide)) kd_491 rfl (r_491_5 hR) ?_
    refine xr_iload_n (xd dX12_fragment 48 rfl) 2 rfl ?_
    refine xr_iconst (v := oI 3) (xd dX12_fragment 49 rfl) (by decide) ?_
    refine zr_iadd (xd dX12_fragment 50 rfl) ?_
    refine xr_iload (xd dX12_fragment 51 rfl) 4 rfl ?_
    refine zr_iadd (xd dX12_fragment 52 rfl) ?_
    refine xr_iload (xd dX12_fragment 53 rfl) 6 rfl ?_
    refine zr_iadd (xd dX12_fragment 54 rfl) ?_
    obtain ⟨o32, h⟩ := h
    refine zr_iaload (xd dX12_fragment 55 rfl) (lt552 hn (by decide)) kd_492 ln_492 (by decide) o32 ?_
    refine xr_callV mX12_inner 1 [.int (oI (J24 492 (((p2 + 3) + p5) + x23)))] (xd dX12_fragment 56 rfl) l12_343 kX12_inner rfl (lt552 hn (by decide)) kd_491 (by decide) rfl (by decide) (Nat.le_of_ble_eq_true rfl) (v_X12_inner hn hR  h) (by decide) (by decide) (fun r_ M_ h_ => ?_) (fun _ _ h_ => h_.elim)
    obtain ⟨J33, L34, rfl, rfl, h⟩ := h_
    show xJ _ _ _ _ _ _ _ _ _ 101 [(0, .ref 491), (1, .int (oI p1)), (2, .int (oI p2)), (3, .int (oI p3)), (5, .int (oI p5)), (6, .int (oI p6)), (8, .int (oI x23))] [] _ _ _ (zi J33) (li L34)
    refine zr_iinc [(0, .ref 491), (1, .int (oI p1)), (2, .int (oI p2)), (3, .int (oI p3)), (5, .int (oI p5)), (6, .int (oI p6)), (8, .int (oI (x23 + 1)))] (xd dX12_fragment 57 rfl) 6 rfl (by decide) rfl ?_
    refine xr_goto 76 (xd dX12_fragment 58 rfl) (by decide) ?_
    exact h
def w_X12_fly (p1 : Int) (J : zM) (L : yM) (Q : zM → yM → Prop) : Prop := ∀ J1 : zM, J1 = zs J 491 30 0 → ((0 : Int) ≤ p1 ∧ p1 < 2) ∧ ∀ J3 : zM, J3 = zs J1 525 p1 (J1 491 3) → ((0 : Int) ≤ p1 ∧ p1 < 2) ∧ ∀ J5 : zM, J5 = zs J3 523 p1 1 → zl_z (fun K6 x7 J8 L9 => ((0 : Int) ≤ p1 ∧ p1 < 2) ∧ R32 x7 ∧ R32 (J8 517 p1) ∧ (if x7 < (J8 517 p1) then ((0 : Int) ≤ ((3 * p1) + x7) ∧ ((3 * p1) + x7) < 6) ∧ ∀ x17 : Int, x17 = (J8 518 ((3 * p1) + x7)) → ((0 : Int) ≤ ((3 * p1) + x7) ∧ ((3 * p1) + x7) < 6) ∧ ∀ x19 : Int, x19 = (J8 519 ((3 * p1) + x7)) → w_X12_bodySize x17 J8 L9 (fun r22 J20 L21 => zl_z (fun K23 x24 J25 L26 => R32 x24 ∧ R32 r22 ∧ (if x24 < r22 then ((0 : Int) ≤ (((600 * p1) + (200 * x7)) + x24) ∧ (((600 * p1) + (200 * x7)) + x24) < 1200) ∧ R32 (J25 521 (((600 * p1) + (200 * x7)) + x24)) ∧ (if (J25 521 (((600 * p1) + (200 * x7)) + x24)) = 0 then ∀ K36 : Int → zM → yM → Prop, (∀ (x33 : Int) (J34 : zM) (L35 : yM), (∀ x37 : Int, x37 = (((J25 491 2) - (J25 491 30)) - x33) → ∀ K41 : Int → zM → yM → Prop, (∀ (x38 : Int) (J39 : zM) (L40 : yM), (zl_z (fun K42 x43 J44 L45 => ∀ K48 : zM → yM → Prop, (∀ (J46 : zM) (L47 : yM), (((0 : Int) ≤ ((3 * p1) + x7) ∧ ((3 * p1) + x7) < 6) ∧ w_X12_fragment p1 x17 x19 (J46 520 ((3 * p1) + x7)) x24 (x43 - x24) J46 L47 (fun r52 J50 L51 => ∀ K55 : zM → yM → Prop, (∀ (J53 : zM) (L54 : yM), (K23 x43 J53 L54) → K55 J53 L54) → R32 r52 ∧ (if r52 < 0 then K55 J50 L51 else w_X12_note p1 x19 r52 x7 x24 (x43 - x24) J50 L51 (fun J58 L59 => K55 J58 L59)))) → K48 J46 L47) → R32 x43 ∧ R32 r22 ∧ (if x43 < r22 then R32 (x43 - x24) ∧ R32 x38 ∧ (if (x43 - x24) < x38 then ((0 : Int) ≤ (((600 * p1) + (200 * x7)) + x43) ∧ (((600 * p1) + (200 * x7)) + x43) < 1200) ∧ R32 (J44 521 (((600 * p1) + (200 * x7)) + x43)) ∧ (if (J44 521 (((600 * p1) + (200 * x7)) + x43)) = 0 then K42 (x43 + 1) J44 L45 else K48 J44 L45) else K48 J44 L45) else K48 J44 L45)) x24 J39 L40) → K41 x38 J39 L40) → R32 x37 ∧ (if x37 < 1 then w_X12_sendMade p1 J34 L35 (fun J71 L72 => ∀ K76 : Int → zM → yM → Prop, (∀ (x73 : Int) (J74 : zM) (L75 : yM), (∀ x77 : Int, x77 = ((J71 491 2) - x73) → K41 x77 J74 L75) → K76 x73 J74 L75) → R32 x19 ∧ (if x19 = 0 then K76 14 J71 L72 else K76 22 J71 L72)) else K41 x37 J34 L35)) → K36 x33 J34 L35) → R32 x19 ∧ (if x19 = 0 then K36 14 J25 L26 else K36 22 J25 L26) else K23 (x24 + 1) J25 L26) else K6 (x7 + 1) J25 L26)) 0 J20 L21) else w_X12_sendMade p1 J8 L9 (fun J14 L15 => Q J14 L15))) 0 J5 L
set_option maxHeartbeats 4000000 in
set_option maxRecDepth 100000 in
theorem v_X12_fly {b : Nat} {dC : Nat → ClassId} {dI : Nat → Nat → Nat} {cA : Nat → ClassId} {ts : Nat → Nat} {l : Launch} {n : Nat} {R : Nat → Nat → Option Nat} {al : Bool} (hn : 552 ≤ n) (hR : xRk R) {p1 : Int}  {J : zM} {L : yM} {Q : zM → yM → Prop} (h : w_X12_fly p1 J L Q) : xCn (xGm b dC dI cA ts) l mX12_fly [.ref 491, .int (oI p1)] al (n, R, zi J, li L) 0 0 (zQ0 n R Q) (fun _ _ => False) := by
  refine xCn.ofJ (by decide) (Nat.le_of_ble_eq_true rfl) ?_
  show xJ _ _ _ _ _ _ _ _ _ 0 [(0, .ref 491), (1, .int (oI p1))] [] _ _ _ _ _
  unfold w_X12_fly at h
  refine xr_aload_n (xd dX12_fly 0 rfl) 0 rfl ?_
  refine xr_iconst (v := oI 0) (xd dX12_fly 1 rfl) (by decide) ?_
  obtain ⟨J1, e_J1⟩ : ∃ z_ : zM, z_ = zs J 491 30 0 := ⟨_, rfl⟩
  replace h := h J1 e_J1
  refine zr_putI 12 30 30 rfl e_J1 (xd dX12_fly 2 rfl) f12_320 (by decide) (by decide) (lt552 hn (by decide)) kd_491 (Or.inl rfl) rfl rfl (fun _ => rfl) ?_
  refine xr_aload_n (xd dX12_fly 3 rfl) 0 rfl ?_
  refine xr_getR (b := 525) 12 43 (xd dX12_fly 4 rfl) f12_112 (by decide) (by decide) (lt552 hn (by decide)) kd_491 rfl (r_491_43 hR) ?_
  refine xr_iload_n (xd dX12_fly 5 rfl) 1 rfl ?_
  refine xr_aload_n (xd dX12_fly 6 rfl) 0 rfl ?_
  refine zr_getI 12 3 3 rfl (xd dX12_fly 7 rfl) f12_360 (by decide) (by decide) (lt552 hn (by decide)) kd_491 rfl ?_
  obtain ⟨o2, h⟩ := h
  obtain ⟨J3, e_J3⟩ : ∃ z_ : zM, z_ = zs J1 525 p1 (J1 491 3) := ⟨_, rfl⟩
  replace h := h J3 e_J3
  refine zr_iastore e_J3 (xd dX12_fly 8 rfl) (lt552 hn (by decide)) kd_525 ln_525 (by decide) o2 ?_
  refine xr_aload_n (xd dX12_fly 9 rfl) 0 rfl ?_
  refine xr_getR (b := 523) 12 41 (xd dX12_fly 10 rfl) f12_106 (by decide) (by decide) (lt552 hn (by decide)) kd_491 rfl (r_491_41 hR) ?_
  refine xr_iload_n (xd dX12_fly 11 rfl) 1 rfl ?_
  refine xr_iconst (v := oI 1) (xd dX12_fly 12 rfl) (by decide) ?_
  obtain ⟨o4, h⟩ := h
  obtain ⟨J5, e_J5⟩ : ∃ z_ : zM, z_ = zs J3 523 p1 1 := ⟨_, rfl⟩
  replace h := h J5 e_J5
  refine zr_zastore (Or.inr rfl) e_J5 (xd dX12_fly 13 rfl) (lt552 hn (by decide)) kd_523 ln_523 (by decide) o4 ?_
  refine xr_iconst (v := oI 0) (xd dX12_fly 14 rfl) (by decide) ?_
  refine xr_istore_n [(0, .ref 491), (1, .int (oI p1)), (2, .int (oI 0))] (xd dX12_fly 15 rfl) rfl (by decide) rfl ?_
  refine h (fun x7 J8 L9 => xJ (xGm b dC dI cA ts) l mX12_fly 0 0 (zQ0 n R Q) (fun _ _ => False) 0 0 24 [(0, .ref 491), (1, .int (oI p1)), (2, .int (oI x7))] [] al n R (zi J8) (li L9)) ?_
  intro x7 J8 L9 h
  show xJ _ _ _ _ _ _ _ _ _ 24 [(0, .ref 491), (1, .int (oI p1)), (2, .int (oI x7))] [] _ _ _ _ _
  refine xr_iload_n (xd dX12_fly 16 rfl) 2 rfl ?_
  refine xr_aload_n (xd dX12_fly 17 rfl) 0 rfl ?_
  refine xr_getR (b := 517) 12 35 (xd dX12_fly 18 rfl) f12_88 (by decide) (by decide) (lt552 hn (by decide)) kd_491 rfl (r_491_35 hR) ?_
  refine xr_iload_n (xd dX12_fly 19 rfl) 1 rfl ?_
  obtain ⟨o10, h⟩ := h
  refine zr_iaload (xd dX12_fly 20 rfl) (lt552 hn (by decide)) kd_517 ln_517 (by decide) o10 ?_
  obtain ⟨o11, h⟩ := h
  obtain ⟨o12, h⟩ := h
  refine zr_icmp_ge 267 (xd dX12_fly 21 rfl) (by decide) o11 o12 (fun c13 => ?_) (fun c13 => ?_)
  · replace h := ifn h c13
    refine xr_aload_n (xd dX12_fly 151 rfl) 0 rfl ?_
    refine xr_iload_n (xd dX12_fly 152 rfl) 1 rfl ?_
    refine xr_callV mX12_sendMade 1 [.int (oI p1)] (xd dX12_fly 153 rfl) l12_354 kX12_sendMade rfl (lt552 hn (by decide)) kd_491 (by decide) rfl (by decide) (Nat.le_of_ble_eq_true rfl) (v_X12_sendMade hn hR  h) (by decide) (by decide) (fun r_ M_ h_ => ?_) (fun _ _ h_ => h_.elim)
    obtain ⟨J14, L15, rfl, rfl, h⟩ := h_
    show xJ _ _ _ _ _ _ _ _ _ 272 [(0, .ref 491), (1, .int (oI p1)), (2, .int (oI x7))] [] _ _ _ (zi J14) (li L15)
    exact xr_vret (xd dX12_fly 154 rfl) rfl (by decide) (by decide) (fun _ => rfl) ⟨_, _, rfl, rfl, h⟩
  · replace h := ifp h c13
    refine xr_aload_n (xd dX12_fly 22 rfl) 0 rfl ?_
    refine xr_getR (b := 518) 12 36 (xd dX12_fly 23 rfl) f12_91 (by decide) (by decide) (lt552 hn (by decide)) kd_491 rfl (r_491_36 hR) ?_
    refine xr_iconst (v := oI 3) (xd dX12_fly 24 rfl) (by decide) ?_
    refine xr_iload_n (xd dX12_fly 25 rfl) 1 rfl ?_
    refine zr_imul (xd dX12_fly 26 rfl) ?_
    refine xr_iload_n (xd dX12_fly 27 rfl) 2 rfl ?_
    refine zr_iadd (xd dX12_fly 28 rfl) ?_
    obtain ⟨o16, h⟩ := h
    refine zr_iaload (xd dX12_fly 29 rfl) (lt552 hn (by decide)) kd_518 ln_518 (by decide) o16 ?_
    obtain ⟨x17, e_x17⟩ : ∃ z_ : Int, z_ = (J8 518 ((3 * p1) + x7)) := ⟨_, rfl⟩
    replace h := h x17 e_x17
    refine zr_nm e_x17 ?_
    refine xr_istore_n [(0, .ref 491), (1, .int (oI p1)), (2, .int (oI x7)), (3, .int (oI x17))] (xd dX12_fly 30 rfl) rfl (by decide) rfl ?_
    refine xr_aload_n (xd dX12_fly 31 rfl) 0 rfl ?_
    refine xr_getR (b := 519) 12 37 (xd dX12_fly 32 rfl) f12_94 (by decide) (by decide) (lt552 hn (by decide)) kd_491 rfl (r_491_37 hR) ?_
    refine xr_iconst (v := oI 3) (xd dX12_fly 33 rfl) (by decide) ?_
    refine xr_iload_n (xd dX12_fly 34 rfl) 1 rfl ?_
    refine zr_imul (xd dX12_fly 35 rfl) ?_
    refine xr_iload_n (xd dX12_fly 36 rfl) 2 rfl ?_
    refine zr_iadd (xd dX12_fly 37 rfl) ?_
    obtain ⟨o18, h⟩ := h
    refine zr_iaload (xd dX12_fly 38 rfl) (lt552 hn (by decide)) kd_519 ln_519 (by decide) o18 ?_
    obtain ⟨x19, e_x19⟩ : ∃ z_ : Int, z_ = (J8 519 ((3 * p1) + x7)) := ⟨_, rfl⟩
    replace h := h x19 e_x19
    refine zr_nm e_x19 ?_
    refine xr_istore [(0, .ref 491), (1, .int (oI p1)), (2, .int (oI x7)), (3, .int (oI x17)), (4, .int (oI x19))] (xd dX12_fly 39 rfl) (by decide) rfl ?_
    refine xr_aload_n (xd dX12_fly 40 rfl) 0 rfl ?_
    refine xr_iload_n (xd dX12_fly 41 rfl) 3 rfl ?_
    refine xr_callV mX12_bodySize 1 [.int (oI x17)] (xd dX12_fly 42 rfl) l12_357 kX12_bodySize rfl (lt552 hn (by decide)) kd_491 (by decide) rfl (by decide) (Nat.le_of_ble_eq_true rfl) (v_X12_bodySize hn hR  h) (by decide) (by decide) (fun r_ M_ h_ => ?_) (fun _ _ h_ => h_.elim)
    obtain ⟨r22, J20, L21, rfl, rfl, h⟩ := h_
    show xJ _ _ _ _ _ _ _ _ _ 62 [(0, .ref 491), (1, .int (oI p1)), (2, .int (oI x7)), (3, .int (oI x17)), (4, .int (oI x19))] [.int (oI r22)] _ _ _ (zi J20) (li L21)
    refine xr_istore [(0, .ref 491), (1, .int (oI p1)), (2, .int (oI x7)), (3, .int (oI x17)), (4, .int (oI x19)), (5, .int (oI r22))] (xd dX12_fly 43 rfl) (by decide) rfl ?_
    refine xr_iconst (v := oI 0) (xd dX12_fly 44 rfl) (by decide) ?_
    refine xr_istore [(0, .ref 491), (1, .int (oI p1)), (2, .int (oI x7)), (3, .int (oI x17)), (4, .int (oI x19)), (5, .int (oI r22)), (6, .int (oI 0))] (xd dX12_fly 45 rfl) (by decide) rfl ?_
    refine h (fun x24 J25 L26 => xJ (xGm b dC dI cA ts) l mX12_fly 0 0 (zQ0 n R Q) (fun _ _ => False) 0 0 67 [(0, .ref 491), (1, .int (oI p1)), (2, .int (oI x7)), (3, .int (oI x17)), (4, .int (oI x19)), (5, .int (oI r22)), (6, .int (oI x24))] [] al n R (zi J25) (li L26)) ?_
    intro x24 J25 L26 h
    show xJ _ _ _ _ _ _ _ _ _ 67 [(0, .ref 491), (1, .int (oI p1)), (2, .int (oI x7)), (3, .int (oI x17)), (4, .int (oI x19)), (5, .int (oI r22)), (6, .int (oI x24))] [] _ _ _ _ _
    refine xr_iload (xd dX12_fly 46 rfl) 6 rfl ?_
    refine xr_iload (xd dX12_fly 47 rfl) 5 rfl ?_
    obtain ⟨o27, h⟩ := h
    obtain ⟨o28, h⟩ := h
    refine zr_icmp_ge 261 (xd dX12_fly 48 rfl) (by decide) o27 o28 (fun c29 => ?_) (fun c29 => ?_)
    · replace h := ifn h c29
      refine zr_iinc [(0, .ref 491), (1, .int (oI p1)), (2, .int (oI (x7 + 1))), (3, .int (oI x17)), (4, .int (oI x19)), (5, .int (oI r22)), (6, .int (oI x24))] (xd dX12_fly 149 rfl) 2 rfl (by decide) rfl ?_
      refine xr_goto 24 (xd dX12_fly 150 rfl) (by decide) ?_
      refine xJ.pick (ls' := [(0, .ref 491), (1, .int (oI p1)), (2, .int (oI (x7 + 1)))]) [0, 1, 2] rfl ?_
      exact h
    · replace h := ifp h c29
      refine xr_aload_n (xd dX12_fly 49 rfl) 0 rfl ?_
      refine xr_getR (b := 521) 12 39 (xd dX12_fly 50 rfl) f12_100 (by decide) (by decide) (lt552 hn (by decide)) kd_491 rfl (r_491_39 hR) ?_
      refine xr_sipush (v := oI 600) (xd dX12_fly 51 rfl) (by decide) ?_
      refine xr_iload_n (xd dX12_fly 52 rfl) 1 rfl ?_
      refine zr_imul (xd dX12_fly 53 rfl) ?_
      refine xr_sipush (v := oI 200) (xd dX12_fly 54 rfl) (by decide) ?_
      refine xr_iload_n (xd dX12_fly 55 rfl) 2 rfl ?_
      refine zr_imul (xd dX12_fly 56 rfl) ?_
      refine zr_iadd (xd dX12_fly 57 rfl) ?_
      refine xr_iload (xd dX12_fly 58 rfl) 6 rfl ?_
      refine zr_iadd (xd dX12_fly 59 rfl) ?_
      obtain ⟨o30, h⟩ := h
      refine zr_zaload (xd dX12_fly 60 rfl) (lt552 hn (by decide)) kd_521 ln_521 (by decide) o30 ?_
      obtain ⟨o31, h⟩ := h
      refine zr_if_eq 102 (xd dX12_fly 61 rfl) (by decide) o31 (fun c32 => ?_) (fun c32 => ?_)
      · replace h := ifp h c32
        refine xr_aload_n (xd dX12_fly 64 rfl) 0 rfl ?_
        refine zr_getI 12 2 2 rfl (xd dX12_fly 65 rfl) f12_363 (by decide) (by decide) (lt552 hn (by decide)) kd_491 rfl ?_
        refine xr_aload_n (xd dX12_fly 66 rfl) 0 rfl ?_
        refine zr_getI 12 30 30 rfl (xd dX12_fly 67 rfl) f12_320 (by decide) (by decide) (lt552 hn (by decide)) kd_491 rfl ?_
        refine zr_isub (xd dX12_fly 68 rfl) ?_
        refine xr_iload (xd dX12_fly 69 rfl) 4 rfl ?_
        replace h := h (fun (x33 : Int) (J34 : zM) (L35 : yM) => xJ (xGm b dC dI cA ts) l mX12_fly 0 0 (zQ0 n R Q) (fun _ _ => False) 0 0 123 [(0, .ref 491), (1, .int (oI p1)), (2, .int (oI x7)), (3, .int (oI x17)), (4, .int (oI x19)), (5, .int (oI r22)), (6, .int (oI x24))] [.int (oI x33), .int (oI ((J25 491 2) - (J25 491 30)))] al n R (zi J34) (li L35)) (by
          intro x33 J34 L35 h
          show xJ _ _ _ _ _ _ _ _ _ 123 [(0, .ref 491), (1, .int (oI p1)), (2, .int (oI x7)), (3, .int (oI x17)), (4, .int (oI x19)), (5, .int (oI r22)), (6, .int (oI x24))] [.int (oI x33), .int (oI ((J25 491 2) - (J25 491 30)))] _ _ _ _ _
          refine zr_isub (xd dX12_fly 74 rfl) ?_
          obtain ⟨x37, e_x37⟩ : ∃ z_ : Int, z_ = (((J25 491 2) - (J25 491 30)) - x33) := ⟨_, rfl⟩
          replace h := h x37 e_x37
          refine zr_nm e_x37 ?_
          refine xr_istore [(0, .ref 491), (1, .int (oI p1)), (2, .int (oI x7)), (3, .int (oI x17)), (4, .int (oI x19)), (5, .int (oI r22)), (6, .int (oI x24)), (7, .int (oI x37))] (xd dX12_fly 75 rfl) (by decide) rfl ?_
          refine xr_iload (xd dX12_fly 76 rfl) 7 rfl ?_
          refine xr_iconst (v := oI 1) (xd dX12_fly 77 rfl) (by decide) ?_
          replace h := h (fun (x38 : Int) (J39 : zM) (L40 : yM) => xJ (xGm b dC dI cA ts) l mX12_fly 0 0 (zQ0 n R Q) (fun _ _ => False) 0 0 156 [(0, .ref 491), (1, .int (oI p1)), (2, .int (oI x7)), (3, .int (oI x17)), (4, .int (oI x19)), (5, .int (oI r22)), (6, .int (oI x24)), (7, .int (oI x38))] [] al n R (zi J39) (li L40)) (by
            intro x38 J39 L40 h
            show xJ _ _ _ _ _ _ _ _ _ 156 [(0, .ref 491), (1, .int (oI p1)), (2, .int (oI x7)), (3, .int (oI x17)), (4, .int (oI x19)), (5, .int (oI r22)), (6, .int (oI x24)), (7, .int (oI x38))] [] _ _ _ _ _
            refine xr_iload (xd dX12_fly 91 rfl) 6 rfl ?_
            refine xr_istore [(0, .ref 491), (1, .int (oI p1)), (2, .int (oI x7)), (3, .int (oI x17)), (4, .int (oI x19)), (5, .int (oI r22)), (6, .int (oI x24)), (7, .int (oI x38)), (8, .int (oI x24))] (xd dX12_fly 92 rfl) (by decide) rfl ?_
            refine h (fun x43 J44 L45 => xJ (xGm b dC dI cA ts) l mX12_fly 0 0 (zQ0 n R Q) (fun _ _ => False) 0 0 160 [(0, .ref 491), (1, .int (oI p1)), (2, .int (oI x7)), (3, .int (oI x17)), (4, .int (oI x19)), (5, .int (oI r22)), (6, .int (oI x24)), (7, .int (oI x38)), (8, .int (oI x43))] [] al n R (zi J44) (li L45)) ?_
            intro x43 J44 L45 h
            show xJ _ _ _ _ _ _ _ _ _ 160 [(0, .ref 491), (1, .int (oI p1)), (2, .int (oI x7)), (3, .int (oI x17)), (4, .int (oI x19)), (5, .int (oI r22)), (6, .int (oI x24)), (7, .int (oI x38)), (8, .int (oI x43))] [] _ _ _ _ _
            refine xr_iload (xd dX12_fly 93 rfl) 8 rfl ?_
            refine xr_iload (xd dX12_fly 94 rfl) 5 rfl ?_
            replace h := h (fun (J46 : zM) (L47 : yM) => xJ (xGm b dC dI cA ts) l mX12_fly 0 0 (zQ0 n R Q) (fun _ _ => False) 0 0 205 [(0, .ref 491), (1, .int (oI p1)), (2, .int (oI x7)), (3, .int (oI x17)), (4, .int (oI x19)), (5, .int (oI r22)), (6, .int (oI x24)), (8, .int (oI x43))] [] al n R (zi J46) (li L47)) (by
              intro J46 L47 h
              show xJ _ _ _ _ _ _ _ _ _ 205 [(0, .ref 491), (1, .int (oI p1)), (2, .int (oI x7)), (3, .int (oI x17)), (4, .int (oI x19)), (5, .int (oI r22)), (6, .int (oI x24)), (8, .int (oI x43))] [] _ _ _ _ _
              refine xr_aload_n (xd dX12_fly 116 rfl) 0 rfl ?_
              refine xr_iload_n (xd dX12_fly 117 rfl) 1 rfl ?_
              refine xr_iload_n (xd dX12_fly 118 rfl) 3 rfl ?_
              refine xr_iload (xd dX12_fly 119 rfl) 4 rfl ?_
              refine xr_aload_n (xd dX12_fly 120 rfl) 0 rfl ?_
              refine xr_getR (b := 520) 12 38 (xd dX12_fly 121 rfl) f12_97 (by decide) (by decide) (lt552 hn (by decide)) kd_491 rfl (r_491_38 hR) ?_
              refine xr_iconst (v := oI 3) (xd dX12_fly 122 rfl) (by decide) ?_
              refine xr_iload_n (xd dX12_fly 123 rfl) 1 rfl ?_
              refine zr_imul (xd dX12_fly 124 rfl) ?_
              refine xr_iload_n (xd dX12_fly 125 rfl) 2 rfl ?_
              refine zr_iadd (xd dX12_fly 126 rfl) ?_
              obtain ⟨o49, h⟩ := h
              refine zr_iaload (xd dX12_fly 127 rfl) (lt552 hn (by decide)) kd_520 ln_520 (by decide) o49 ?_
              refine xr_iload (xd dX12_fly 128 rfl) 6 rfl ?_
              refine xr_iload (xd dX12_fly 129 rfl) 7 rfl ?_
              refine xr_iload (xd dX12_fly 130 rfl) 6 rfl ?_
              refine zr_isub (xd dX12_fly 131 rfl) ?_
              refine xr_callV mX12_fragment 6 [.int (oI p1), .int (oI x17), .int (oI x19), .int (oI (J46 520 ((3 * p1) + x7))), .int (oI x24), .int (oI (x43 - x24))] (xd dX12_fly 132 rfl) l12_366 kX12_fragment rfl (lt552 hn (by decide)) kd_491 (by decide) rfl (by decide) (Nat.le_of_ble_eq_true rfl) (v_X12_fragment hn hR  h) (by decide) (by decide) (fun r_ M_ h_ => ?_) (fun _ _ h_ => h_.elim)
              obtain ⟨r52, J50, L51, rfl, rfl, h⟩ := h_
              show xJ _ _ _ _ _ _ _ _ _ 230 [(0, .ref 491), (1, .int (oI p1)), (2, .int (oI x7)), (3, .int (oI x17)), (4, .int (oI x19)), (5, .int (oI r22)), (6, .int (oI x24)), (8, .int (oI x43))] [.int (oI r52)] _ _ _ (zi J50) (li L51)
              refine xr_istore [(0, .ref 491), (1, .int (oI p1)), (2, .int (oI x7)), (3, .int (oI x17)), (4, .int (oI x19)), (5, .int (oI r22)), (6, .int (oI x24)), (8, .int (oI x43)), (9, .int (oI r52))] (xd dX12_fly 133 rfl) (by decide) rfl ?_
              refine xr_iload (xd dX12_fly 134 rfl) 8 rfl ?_
              replace h := h (fun (J53 : zM) (L54 : yM) => xJ (xGm b dC dI cA ts) l mX12_fly 0 0 (zQ0 n R Q) (fun _ _ => False) 0 0 254 [(0, .ref 491), (1, .int (oI p1)), (2, .int (oI x7)), (3, .int (oI x17)), (4, .int (oI x19)), (5, .int (oI r22)), (8, .int (oI x43))] [] al n R (zi J53) (li L54)) (by
                intro J53 L54 h
                show xJ _ _ _ _ _ _ _ _ _ 254 [(0, .ref 491), (1, .int (oI p1)), (2, .int (oI x7)), (3, .int (oI x17)), (4, .int (oI x19)), (5, .int (oI r22)), (8, .int (oI x43))] [] _ _ _ _ _
                refine xr_iload (xd dX12_fly 146 rfl) 6 rfl ?_
                refine xr_istore [(0, .ref 491), (1, .int (oI p1)), (2, .int (oI x7)), (3, .int (oI x17)), (4, .int (oI x19)), (5, .int (oI r22)), (6, .int (oI x43)), (8, .int (oI x43))] (xd dX12_fly 147 rfl) (by decide) rfl ?_
                refine xr_goto 67 (xd dX12_fly 148 rfl) (by decide) ?_
                refine xJ.pick (ls' := [(0, .ref 491), (1, .int (oI p1)), (2, .int (oI x7)), (3, .int (oI x17)), (4, .int (oI x19)), (5, .int (oI r22)), (6, .int (oI x43))]) [0, 1, 2, 3, 4, 5, 6] rfl ?_
                exact h)
              obtain ⟨o56, h⟩ := h
              refine zr_if_lt 254 (xd dX12_fly 135 rfl) (by decide) o56 (fun c57 => ?_) (fun c57 => ?_)
              · replace h := ifp h c57
                refine xJ.pick (ls' := [(0, .ref 491), (1, .int (oI p1)), (2, .int (oI x7)), (3, .int (oI x17)), (4, .int (oI x19)), (5, .int (oI r22)), (8, .int (oI x43))]) [0, 1, 2, 3, 4, 5, 7] rfl ?_
                exact h
              · replace h := ifn h c57
                refine xr_aload_n (xd dX12_fly 136 rfl) 0 rfl ?_
                refine xr_iload_n (xd dX12_fly 137 rfl) 1 rfl ?_
                refine xr_iload (xd dX12_fly 138 rfl) 4 rfl ?_
                refine xr_iload (xd dX12_fly 139 rfl) 8 rfl ?_
                refine xr_iload_n (xd dX12_fly 140 rfl) 2 rfl ?_
                refine xr_iload (xd dX12_fly 141 rfl) 6 rfl ?_
                refine xr_iload (xd dX12_fly 142 rfl) 7 rfl ?_
                refine xr_iload (xd dX12_fly 143 rfl) 6 rfl ?_
                refine zr_isub (xd dX12_fly 144 rfl) ?_
                refine xr_callV mX12_note 6 [.int (oI p1), .int (oI x19), .int (oI r52), .int (oI x7), .int (oI x24), .int (oI (x43 - x24))] (xd dX12_fly 145 rfl) l12_370 kX12_note rfl (lt552 hn (by decide)) kd_491 (by decide) rfl (by decide) (Nat.le_of_ble_eq_true rfl) (v_X12_note hn hR  h) (by decide) (by decide) (fun r_ M_ h_ => ?_) (fun _ _ h_ => h_.elim)
                obtain ⟨J58, L59, rfl, rfl, h⟩ := h_
                show xJ _ _ _ _ _ _ _ _ _ 254 [(0, .ref 491), (1, .int (oI p1)), (2, .int (oI x7)), (3, .int (oI x17)), (4, .int (oI x19)), (5, .int (oI r22)), (6, .int (oI x24)), (8, .int (oI x43)), (9, .int (oI r52))] [] _ _ _ (zi J58) (li L59)
                refine xJ.pick (ls' := [(0, .ref 491), (1, .int (oI p1)), (2, .int (oI x7)), (3, .int (oI x17)), (4, .int (oI x19)), (5, .int (oI r22)), (8, .int (oI x43))]) [0, 1, 2, 3, 4, 5, 7] rfl ?_
                exact h)
            obtain ⟨o60, h⟩ := h
            obtain ⟨o61, h⟩ := h
            refine zr_icmp_ge 205 (xd dX12_fly 95 rfl) (by decide) o60 o61 (fun c62 => ?_) (fun c62 => ?_)
            · replace h := ifn h c62
              refine xJ.pick (ls' := [(0, .ref 491), (1, .int (oI p1)), (2, .int (oI x7)), (3, .int (oI x17)), (4, .int (oI x19)), (5, .int (oI r22)), (6, .int (oI x24)), (8, .int (oI x43))]) [0, 1, 2, 3, 4, 5, 6, 8] rfl ?_
              exact h
            · replace h := ifp h c62
              refine xr_iload (xd dX12_fly 96 rfl) 8 rfl ?_
              refine xr_iload (xd dX12_fly 97 rfl) 6 rfl ?_
              refine zr_isub (xd dX12_fly 98 rfl) ?_
              refine xr_iload (xd dX12_fly 99 rfl) 7 rfl ?_
              obtain ⟨o63, h⟩ := h
              obtain ⟨o64, h⟩ := h
              refine zr_icmp_ge 205 (xd dX12_fly 100 rfl) (by decide) o63 o64 (fun c65 => ?_) (fun c65 => ?_)
              · replace h := ifn h c65
                refine xJ.pick (ls' := [(0, .ref 491), (1, .int (oI p1)), (2, .int (oI x7)), (3, .int (oI x17)), (4, .int (oI x19)), (5, .int (oI r22)), (6, .int (oI x24)), (8, .int (oI x43))]) [0, 1, 2, 3, 4, 5, 6, 8] rfl ?_
                exact h
              · replace h := ifp h c65
                refine xr_aload_n (xd dX12_fly 101 rfl) 0 rfl ?_
                refine xr_getR (b := 521) 12 39 (xd dX12_fly 102 rfl) f12_100 (by decide) (by decide) (lt552 hn (by decide)) kd_491 rfl (r_491_39 hR) ?_
                refine xr_sipush (v := oI 600) (xd dX12_fly 103 rfl) (by decide) ?_
                refine xr_iload_n (xd dX12_fly 104 rfl) 1 rfl ?_
                refine zr_imul (xd dX12_fly 105 rfl) ?_
                refine xr_sipush (v := oI 200) (xd dX12_fly 106 rfl) (by decide) ?_
                refine xr_iload_n (xd dX12_fly 107 rfl) 2 rfl ?_
                refine zr_imul (xd dX12_fly 108 rfl) ?_
                refine zr_iadd (xd dX12_fly 109 rfl) ?_
                refine xr_iload (xd dX12_fly 110 rfl) 8 rfl ?_
                refine zr_iadd (xd dX12_fly 111 rfl) ?_
                obtain ⟨o66, h⟩ := h
                refine zr_zaload (xd dX12_fly 112 rfl) (lt552 hn (by decide)) kd_521 ln_521 (by decide) o66 ?_
                obtain ⟨o67, h⟩ := h
                refine zr_if_ne 205 (xd dX12_fly 113 rfl) (by decide) o67 (fun c68 => ?_) (fun c68 => ?_)
                · replace h := ifn h c68
                  refine xJ.pick (ls' := [(0, .ref 491), (1, .int (oI p1)), (2, .int (oI x7)), (3, .int (oI x17)), (4, .int (oI x19)), (5, .int (oI r22)), (6, .int (oI x24)), (8, .int (oI x43))]) [0, 1, 2, 3, 4, 5, 6, 8] rfl ?_
                  exact h
                · replace h := ifp h c68
                  refine zr_iinc [(0, .ref 491), (1, .int (oI p1)), (2, .int (oI x7)), (3, .int (oI x17)), (4, .int (oI x19)), (5, .int (oI r22)), (6, .int (oI x24)), (7, .int (oI x38)), (8, .int (oI (x43 + 1)))] (xd dX12_fly 114 rfl) 8 rfl (by decide) rfl ?_
                  refine xr_goto 160 (xd dX12_fly 115 rfl) (by decide) ?_
                  exact h)
          obtain ⟨o69, h⟩ := h
          refine zr_icmp_ge 156 (xd dX12_fly 78 rfl) (by decide) o69 (by decide) (fun c70 => ?_) (fun c70 => ?_)
          · replace h := ifn h c70
            exact h
          · replace h := ifp h c70
            refine xr_aload_n (xd dX12_fly 79 rfl) 0 rfl ?_
            refine xr_iload_n (xd dX12_fly 80 rfl) 1 rfl ?_
            refine xr_callV mX12_sendMade 1 [.int (oI p1)] (xd dX12_fly 81 rfl) l12_354 kX12_sendMade rfl (lt552 hn (by decide)) kd_491 (by decide) rfl (by decide) (Nat.le_of_ble_eq_true rfl) (v_X12_sendMade hn hR  h) (by decide) (by decide) (fun r_ M_ h_ => ?_) (fun _ _ h_ => h_.elim)
            obtain ⟨J71, L72, rfl, rfl, h⟩ := h_
            show xJ _ _ _ _ _ _ _ _ _ 137 [(0, .ref 491), (1, .int (oI p1)), (2, .int (oI x7)), (3, .int (oI x17)), (4, .int (oI x19)), (5, .int (oI r22)), (6, .int (oI x24)), (7, .int (oI x37))] [] _ _ _ (zi J71) (li L72)
            refine xr_aload_n (xd dX12_fly 82 rfl) 0 rfl ?_
            refine zr_getI 12 2 2 rfl (xd dX12_fly 83 rfl) f12_363 (by decide) (by decide) (lt552 hn (by decide)) kd_491 rfl ?_
            refine xr_iload (xd dX12_fly 84 rfl) 4 rfl ?_
            replace h := h (fun (x73 : Int) (J74 : zM) (L75 : yM) => xJ (xGm b dC dI cA ts) l mX12_fly 0 0 (zQ0 n R Q) (fun _ _ => False) 0 0 153 [(0, .ref 491), (1, .int (oI p1)), (2, .int (oI x7)), (3, .int (oI x17)), (4, .int (oI x19)), (5, .int (oI r22)), (6, .int (oI x24))] [.int (oI x73), .int (oI (J71 491 2))] al n R (zi J74) (li L75)) (by
              intro x73 J74 L75 h
              show xJ _ _ _ _ _ _ _ _ _ 153 [(0, .ref 491), (1, .int (oI p1)), (2, .int (oI x7)), (3, .int (oI x17)), (4, .int (oI x19)), (5, .int (oI r22)), (6, .int (oI x24))] [.int (oI x73), .int (oI (J71 491 2))] _ _ _ _ _
              refine zr_isub (xd dX12_fly 89 rfl) ?_
              obtain ⟨x77, e_x77⟩ : ∃ z_ : Int, z_ = ((J71 491 2) - x73) := ⟨_, rfl⟩
              replace h := h x77 e_x77
              refine zr_nm e_x77 ?_
              refine xr_istore [(0, .ref 491), (1, .int (oI p1)), (2, .int (oI x7)), (3, .int (oI x17)), (4, .int (oI x19)), (5, .int (oI r22)), (6, .int (oI x24)), (7, .int (oI x77))] (xd dX12_fly 90 rfl) (by decide) rfl ?_
              exact h)
            obtain ⟨o78, h⟩ := h
            refine zr_if_ne 151 (xd dX12_fly 85 rfl) (by decide) o78 (fun c79 => ?_) (fun c79 => ?_)
            · replace h := ifn h c79
              refine xr_bipush (v := oI 22) (xd dX12_fly 88 rfl) (by decide) ?_
              refine xJ.pick (ls' := [(0, .ref 491), (1, .int (oI p1)), (2, .int (oI x7)), (3, .int (oI x17)), (4, .int (oI x19)), (5, .int (oI r22)), (6, .int (oI x24))]) [0, 1, 2, 3, 4, 5, 6] rfl ?_
              exact h
            · replace h := ifp h c79
              refine xr_bipush (v := oI 14) (xd dX12_fly 86 rfl) (by decide) ?_
              refine xr_goto 153 (xd dX12_fly 87 rfl) (by decide) ?_
              refine xJ.pick (ls' := [(0, .ref 491), (1, .int (oI p1)), (2, .int (oI x7)), (3, .int (oI x17)), (4, .int (oI x19)), (5, .int (oI r22)), (6, .int (oI x24))]) [0, 1, 2, 3, 4, 5, 6] rfl ?_
              exact h)
        obtain ⟨o80, h⟩ := h
        refine zr_if_ne 121 (xd dX12_fly 70 rfl) (by decide) o80 (fun c81 => ?_) (fun c81 => ?_)
        · replace h := ifn h c81
          refine xr_bipush (v := oI 22) (xd dX12_fly 73 rfl) (by decide) ?_
          exact h
        · replace h := ifp h c81
          refine xr_bipush (v := oI 14) (xd dX12_fly 71 rfl) (by decide) ?_
          refine xr_goto 123 (xd dX12_fly 72 rfl) (by decide) ?_
          exact h
      · replace h := ifn h c32
        refine zr_iinc [(0, .ref 491), (1, .int (oI p1)), (2, .int (oI x7)), (3, .int (oI x17)), (4, .int (oI x19)), (5, .int (oI r22)), (6, .int (oI (x24 + 1)))] (xd dX12_fly 62 rfl) 6 rfl (by decide) rfl ?_
        refine xr_goto 67 (xd dX12_fly 63 rfl) (by decide) ?_
        exact h
def w_X12_left (p1 : Int) (J : zM) (L : yM) (Q : Int → zM → yM → Prop) : Prop := zl_zz (fun K1 x2 x3 J4 L5 => ((0 : Int) ≤ p1 ∧ p1 < 2) ∧ R32 x3 ∧ R32 (J4 517 p1) ∧ (if x3 < (J4 517 p1) then ((0 : Int) ≤ p1 ∧ p1 < 2) ∧ R32 (J4 522 p1) ∧ (if (J4 522 p1) = 0 then zl_zz (fun K13 x14 x15 J16 L17 => ((0 : Int) ≤ ((3 * p1) + x3) ∧ ((3 * p1) + x3) < 6) ∧ w_X12_bodySize (J16 518 ((3 * p1) + x3)) J16 L17 (fun r21 J19 L20 => R32 x15 ∧ R32 r21 ∧ (if x15 < r21 then ((0 : Int) ≤ (((600 * p1) + (200 * x3)) + x15) ∧ (((600 * p1) + (200 * x3)) + x15) < 1200) ∧ ∀ K29 : Int → zM → yM → Prop, (∀ (x26 : Int) (J27 : zM) (L28 : yM), (∀ x30 : Int, x30 = (x14 + x26) → K13 x30 (x15 + 1) J27 L28) → K29 x26 J27 L28) → R32 (J19 521 (((600 * p1) + (200 * x3)) + x15)) ∧ (if (J19 521 (((600 * p1) + (200 * x3)) + x15)) = 0 then K29 1 J19 L20 else K29 0 J19 L20) else K1 x14 (x3 + 1) J19 L20))) x2 0 J4 L5 else Q x2 J4 L5) else Q x2 J4 L5)) 0 0 J L
set_option maxHeartbeats 4000000 in
set_option maxRecDepth 100000 in
theorem v_X12_left {b : Nat} {dC : Nat → ClassId} {dI : Nat → Nat → Nat} {cA : Nat → ClassId} {ts : Nat → Nat} {l : Launch} {n : Nat} {R : Nat → Nat → Option Nat} {al : Bool} (hn : 552 ≤ n) (hR : xRk R) {p1 : Int}  {J : zM} {L : yM} {Q : Int → zM → yM → Prop} (h : w_X12_left p1 J L Q) : xCn (xGm b dC dI cA ts) l mX12_left [.ref 491, .int (oI p1)] al (n, R, zi J, li L) 0 0 (zQ1 n R Q) (fun _ _ => False) := by
  refine xCn.ofJ (by decide) (Nat.le_of_ble_eq_true rfl) ?_
  show xJ _ _ _ _ _ _ _ _ _ 0 [(0, .ref 491), (1, .int (oI p1))] [] _ _ _ _ _
  unfold w_X12_left at h
  refine xr_iconst (v := oI 0) (xd dX12_left 0 rfl) (by decide) ?_
  refine xr_istore_n [(0, .ref 491), (1, .int (oI p1)), (2, .int (oI 0))] (xd dX12_left 1 rfl) rfl (by decide) rfl ?_
  refine xr_iconst (v := oI 0) (xd dX12_left 2 rfl) (by decide) ?_
  refine xr_istore_n [(0, .ref 491), (1, .int (oI p1)), (2, .int (oI 0)), (3, .int (oI 0))] (xd dX12_left 3 rfl) rfl (by decide) rfl ?_
  refine h (fun x2 x3 J4 L5 => xJ (xGm b dC dI cA ts) l mX12_left 0 0 (zQ1 n R Q) (fun _ _ => False) 0 0 4 [(0, .ref 491), (1, .int (oI p1)), (2, .int (oI x2)), (3, .int (oI x3))] [] al n R (zi J4) (li L5)) ?_
  intro x2 x3 J4 L5 h
  show xJ _ _ _ _ _ _ _ _ _ 4 [(0, .ref 491), (1, .int (oI p1)), (2, .int (oI x2)), (3, .int (oI x3))] [] _ _ _ _ _
  refine xr_iload_n (xd dX12_left 4 rfl) 3 rfl ?_
  refine xr_aload_n (xd dX12_left 5 rfl) 0 rfl ?_
  refine xr_getR (b := 517) 12 35 (xd dX12_left 6 rfl) f12_88 (by decide) (by decide) (lt552 hn (by decide)) kd_491 rfl (r_491_35 hR) ?_
  refine xr_iload_n (xd dX12_left 7 rfl) 1 rfl ?_
  obtain ⟨o6, h⟩ := h
  refine zr_iaload (xd dX12_left 8 rfl) (lt552 hn (by decide)) kd_517 ln_517 (by decide) o6 ?_
  obtain ⟨o7, h⟩ := h
  obtain ⟨o8, h⟩ := h
  refine zr_icmp_ge 87 (xd dX12_left 9 rfl) (by decide) o7 o8 (fun c9 => ?_) (fun c9 => ?_)
  · replace h := ifn h c9
    refine xr_iload_n (xd dX12_left 52 rfl) 2 rfl ?_
    exact xr_iret (xd dX12_left 53 rfl) rfl (by decide) (by decide) (fun _ => rfl) ⟨_, _, _, rfl, rfl, h⟩
  · replace h := ifp h c9
    refine xr_aload_n (xd dX12_left 10 rfl) 0 rfl ?_
    refine xr_getR (b := 522) 12 40 (xd dX12_left 11 rfl) f12_103 (by decide) (by decide) (lt552 hn (by decide)) kd_491 rfl (r_491_40 hR) ?_
    refine xr_iload_n (xd dX12_left 12 rfl) 1 rfl ?_
    obtain ⟨o10, h⟩ := h
    refine zr_zaload (xd dX12_left 13 rfl) (lt552 hn (by decide)) kd_522 ln_522 (by decide) o10 ?_
    obtain ⟨o11, h⟩ := h
    refine zr_if_ne 87 (xd dX12_left 14 rfl) (by decide) o11 (fun c12 => ?_) (fun c12 => ?_)
    · replace h := ifn h c12
      refine xr_iload_n (xd dX12_left 52 rfl) 2 rfl ?_
      exact xr_iret (xd dX12_left 53 rfl) rfl (by decide) (by decide) (fun _ => rfl) ⟨_, _, _, rfl, rfl, h⟩
    · replace h := ifp h c12
      refine xr_iconst (v := oI 0) (xd dX12_left 15 rfl) (by decide) ?_
      refine xr_istore [(0, .ref 491), (1, .int (oI p1)), (2, .int (oI x2)), (3, .int (oI x3)), (4, .int (oI 0))] (xd dX12_left 16 rfl) (by decide) rfl ?_
      refine h (fun x14 x15 J16 L17 => xJ (xGm b dC dI cA ts) l mX12_left 0 0 (zQ1 n R Q) (fun _ _ => False) 0 0 26 [(0, .ref 491), (1, .int (oI p1)), (2, .int (oI x14)), (3, .int (oI x3)), (4, .int (oI x15))] [] al n R (zi J16) (li L17)) ?_
      intro x14 x15 J16 L17 h
      show xJ _ _ _ _ _ _ _ _ _ 26 [(0, .ref 491), (1, .int (oI p1)), (2, .int (oI x14)), (3, .int (oI x3)), (4, .int (oI x15))] [] _ _ _ _ _
      refine xr_iload (xd dX12_left 17 rfl) 4 rfl ?_
      refine xr_aload_n (xd dX12_left 18 rfl) 0 rfl ?_
      refine xr_aload_n (xd dX12_left 19 rfl) 0 rfl ?_
      refine xr_getR (b := 518) 12 36 (xd dX12_left 20 rfl) f12_91 (by decide) (by decide) (lt552 hn (by decide)) kd_491 rfl (r_491_36 hR) ?_
      refine xr_iconst (v := oI 3) (xd dX12_left 21 rfl) (by decide) ?_
      refine xr_iload_n (xd dX12_left 22 rfl) 1 rfl ?_
      refine zr_imul (xd dX12_left 23 rfl) ?_
      refine xr_iload_n (xd dX12_left 24 rfl) 3 rfl ?_
      refine zr_iadd (xd dX12_left 25 rfl) ?_
      obtain ⟨o18, h⟩ := h
      refine zr_iaload (xd dX12_left 26 rfl) (lt552 hn (by decide)) kd_518 ln_518 (by decide) o18 ?_
      refine xr_callV mX12_bodySize 1 [.int (oI (J16 518 ((3 * p1) + x3)))] (xd dX12_left 27 rfl) l12_357 kX12_bodySize rfl (lt552 hn (by decide)) kd_491 (by decide) rfl (by decide) (Nat.le_of_ble_eq_true rfl) (v_X12_bodySize hn hR  h) (by decide) (by decide) (fun r_ M_ h_ => ?_) (fun _ _ h_ => h_.elim)
      obtain ⟨r21, J19, L20, rfl, rfl, h⟩ := h_
      show xJ _ _ _ _ _ _ _ _ _ 42 [(0, .ref 491), (1, .int (oI p1)), (2, .int (oI x14)), (3, .int (oI x3)), (4, .int (oI x15))] [.int (oI r21), .int (oI x15)] _ _ _ (zi J19) (li L20)
      obtain ⟨o22, h⟩ := h
      obtain ⟨o23, h⟩ := h
      refine zr_icmp_ge 81 (xd dX12_left 28 rfl) (by decide) o22 o23 (fun c24 => ?_) (fun c24 => ?_)
      · replace h := ifn h c24
        refine zr_iinc [(0, .ref 491), (1, .int (oI p1)), (2, .int (oI x14)), (3, .int (oI (x3 + 1))), (4, .int (oI x15))] (xd dX12_left 50 rfl) 3 rfl (by decide) rfl ?_
        refine xr_goto 4 (xd dX12_left 51 rfl) (by decide) ?_
        refine xJ.pick (ls' := [(0, .ref 491), (1, .int (oI p1)), (2, .int (oI x14)), (3, .int (oI (x3 + 1)))]) [0, 1, 2, 3] rfl ?_
        exact h
      · replace h := ifp h c24
        refine xr_iload_n (xd dX12_left 29 rfl) 2 rfl ?_
        refine xr_aload_n (xd dX12_left 30 rfl) 0 rfl ?_
        refine xr_getR (b := 521) 12 39 (xd dX12_left 31 rfl) f12_100 (by decide) (by decide) (lt552 hn (by decide)) kd_491 rfl (r_491_39 hR) ?_
        refine xr_sipush (v := oI 600) (xd dX12_left 32 rfl) (by decide) ?_
        refine xr_iload_n (xd dX12_left 33 rfl) 1 rfl ?_
        refine zr_imul (xd dX12_left 34 rfl) ?_
        refine xr_sipush (v := oI 200) (xd dX12_left 35 rfl) (by decide) ?_
        refine xr_iload_n (xd dX12_left 36 rfl) 3 rfl ?_
        refine zr_imul (xd dX12_left 37 rfl) ?_
        refine zr_iadd (xd dX12_left 38 rfl) ?_
        refine xr_iload (xd dX12_left 39 rfl) 4 rfl ?_
        refine zr_iadd (xd dX12_left 40 rfl) ?_
        obtain ⟨o25, h⟩ := h
        refine zr_zaload (xd dX12_left 41 rfl) (lt552 hn (by decide)) kd_521 ln_521 (by decide) o25 ?_
        replace h := h (fun (x26 : Int) (J27 : zM) (L28 : yM) => xJ (xGm b dC dI cA ts) l mX12_left 0 0 (zQ1 n R Q) (fun _ _ => False) 0 0 73 [(0, .ref 491), (1, .int (oI p1)), (3, .int (oI x3)), (4, .int (oI x15))] [.int (oI x26), .int (oI x14)] al n R (zi J27) (li L28)) (by
          intro x26 J27 L28 h
          show xJ _ _ _ _ _ _ _ _ _ 73 [(0, .ref 491), (1, .int (oI p1)), (3, .int (oI x3)), (4, .int (oI x15))] [.int (oI x26), .int (oI x14)] _ _ _ _ _
          refine zr_iadd (xd dX12_left 46 rfl) ?_
          obtain ⟨x30, e_x30⟩ : ∃ z_ : Int, z_ = (x14 + x26) := ⟨_, rfl⟩
          replace h := h x30 e_x30
          refine zr_nm e_x30 ?_
          refine xr_istore_n [(0, .ref 491), (1, .int (oI p1)), (2, .int (oI x30)), (3, .int (oI x3)), (4, .int (oI x15))] (xd dX12_left 47 rfl) rfl (by decide) rfl ?_
          refine zr_iinc [(0, .ref 491), (1, .int (oI p1)), (2, .int (oI x30)), (3, .int (oI x3)), (4, .int (oI (x15 + 1)))] (xd dX12_left 48 rfl) 4 rfl (by decide) rfl ?_
          refine xr_goto 26 (xd dX12_left 49 rfl) (by decide) ?_
          exact h)
        obtain ⟨o31, h⟩ := h
        refine zr_if_eq 72 (xd dX12_left 42 rfl) (by decide) o31 (fun c32 => ?_) (fun c32 => ?_)
        · replace h := ifp h c32
          refine xr_iconst (v := oI 1) (xd dX12_left 45 rfl) (by decide) ?_
          refine xJ.pick (ls' := [(0, .ref 491), (1, .int (oI p1)), (3, .int (oI x3)), (4, .int (oI x15))]) [0, 1, 3, 4] rfl ?_
          exact h
        · replace h := ifn h c32
          refine xr_iconst (v := oI 0) (xd dX12_left 43 rfl) (by decide) ?_
          refine xr_goto 73 (xd dX12_left 44 rfl) (by decide) ?_
          refine xJ.pick (ls' := [(0, .ref 491), (1, .int (oI p1)), (3, .int (oI x3)), (4, .int (oI x15))]) [0, 1, 3, 4] rfl ?_
          exact h
def w_X12_hasTimer (p1 : Int) (J : zM) (L : yM) (Q : Int → zM → yM → Prop) : Prop := ((0 : Int) ≤ p1 ∧ p1 < 2) ∧ R32 (J 517 p1) ∧ (if 0 < (J 517 p1) then ((0 : Int) ≤ p1 ∧ p1 < 2) ∧ R32 (J 522 p1) ∧ (if (J 522 p1) = 0 then ((0 : Int) ≤ p1 ∧ p1 < 2) ∧ R32 (J 534 p1) ∧ (if (J 534 p1) = 4 then Q 0 J L else Q 1 J L) else Q 0 J L) else Q 0 J L)
set_option maxHeartbeats 4000000 in
set_option maxRecDepth 100000 in
theorem v_X12_hasTimer {b : Nat} {dC : Nat → ClassId} {dI : Nat → Nat → Nat} {cA : Nat → ClassId} {ts : Nat → Nat} {l : Launch} {n : Nat} {R : Nat → Nat → Option Nat} {al : Bool} (hn : 552 ≤ n) (hR : xRk R) {p1 : Int}  {J : zM} {L : yM} {Q : Int → zM → yM → Prop} (h : w_X12_hasTimer p1 J L Q) : xCn (xGm b dC dI cA ts) l mX12_hasTimer [.ref 491, .int (oI p1)] al (n, R, zi J, li L) 0 0 (zQ1 n R Q) (fun _ _ => False) := by
  refine xCn.ofJ (by decide) (Nat.le_of_ble_eq_true rfl) ?_
  show xJ _ _ _ _ _ _ _ _ _ 0 [(0, .ref 491), (1, .int (oI p1))] [] _ _ _ _ _
  unfold w_X12_hasTimer at h
  refine xr_aload_n (xd dX12_hasTimer 0 rfl) 0 rfl ?_
  refine xr_getR (b := 517) 12 35 (xd dX12_hasTimer 1 rfl) f12_88 (by decide) (by decide) (lt552 hn (by decide)) kd_491 rfl (r_491_35 hR) ?_
  refine xr_iload_n (xd dX12_hasTimer 2 rfl) 1 rfl ?_
  obtain ⟨o1, h⟩ := h
  refine zr_iaload (xd dX12_hasTimer 3 rfl) (lt552 hn (by decide)) kd_517 ln_517 (by decide) o1 ?_
  obtain ⟨o2, h⟩ := h
  refine zr_if_le 32 (xd dX12_hasTimer 4 rfl) (by decide) o2 (fun c3 => ?_) (fun c3 => ?_)
  · replace h := ifn h c3
    refine xr_iconst (v := oI 0) (xd dX12_hasTimer 18 rfl) (by decide) ?_
    exact xr_zret (xd dX12_hasTimer 19 rfl) rfl (zret_b (Or.inl rfl)) (by decide) (by decide) (fun _ => rfl) ⟨_, _, _, rfl, rfl, h⟩
  · replace h := ifp h c3
    refine xr_aload_n (xd dX12_hasTimer 5 rfl) 0 rfl ?_
    refine xr_getR (b := 522) 12 40 (xd dX12_hasTimer 6 rfl) f12_103 (by decide) (by decide) (lt552 hn (by decide)) kd_491 rfl (r_491_40 hR) ?_
    refine xr_iload_n (xd dX12_hasTimer 7 rfl) 1 rfl ?_
    obtain ⟨o4, h⟩ := h
    refine zr_zaload (xd dX12_hasTimer 8 rfl) (lt552 hn (by decide)) kd_522 ln_522 (by decide) o4 ?_
    obtain ⟨o5, h⟩ := h
    refine zr_if_ne 32 (xd dX12_hasTimer 9 rfl) (by decide) o5 (fun c6 => ?_) (fun c6 => ?_)
    · replace h := ifn h c6
      refine xr_iconst (v := oI 0) (xd dX12_hasTimer 18 rfl) (by decide) ?_
      exact xr_zret (xd dX12_hasTimer 19 rfl) rfl (zret_b (Or.inl rfl)) (by decide) (by decide) (fun _ => rfl) ⟨_, _, _, rfl, rfl, h⟩
    · replace h := ifp h c6
      refine xr_aload_n (xd dX12_hasTimer 10 rfl) 0 rfl ?_
      refine xr_getR (b := 534) 12 52 (xd dX12_hasTimer 11 rfl) f12_139 (by decide) (by decide) (lt552 hn (by decide)) kd_491 rfl (r_491_52 hR) ?_
      refine xr_iload_n (xd dX12_hasTimer 12 rfl) 1 rfl ?_
      obtain ⟨o7, h⟩ := h
      refine zr_iaload (xd dX12_hasTimer 13 rfl) (lt552 hn (by decide)) kd_534 ln_534 (by decide) o7 ?_
      refine xr_iconst (v := oI 4) (xd dX12_hasTimer 14 rfl) (by decide) ?_
      obtain ⟨o8, h⟩ := h
      refine zr_icmp_eq 32 (xd dX12_hasTimer 15 rfl) (by decide) o8 (by decide) (fun c9 => ?_) (fun c9 => ?_)
      · replace h := ifp h c9
        refine xr_iconst (v := oI 0) (xd dX12_hasTimer 18 rfl) (by decide) ?_
        exact xr_zret (xd dX12_hasTimer 19 rfl) rfl (zret_b (Or.inl rfl)) (by decide) (by decide) (fun _ => rfl) ⟨_, _, _, rfl, rfl, h⟩
      · replace h := ifn h c9
        refine xr_iconst (v := oI 1) (xd dX12_hasTimer 16 rfl) (by decide) ?_
        refine xr_goto 33 (xd dX12_hasTimer 17 rfl) (by decide) ?_
        exact xr_zret (xd dX12_hasTimer 19 rfl) rfl (zret_b (Or.inr rfl)) (by decide) (by decide) (fun _ => rfl) ⟨_, _, _, rfl, rfl, h⟩
def w_X12_acks (p1 : Int) (J : zM) (L : yM) (Q : zM → yM → Prop) : Prop := ((0 : Int) ≤ p1 ∧ p1 < 2) ∧ R32 (J 530 p1) ∧ (if (J 530 p1) = 0 then Q J L else ∀ J4 : zM, J4 = zs J 491 33 0 → zl_z (fun K5 x6 J7 L8 => ((0 : Int) ≤ p1 ∧ p1 < 2) ∧ R32 x6 ∧ R32 (J7 530 p1) ∧ (if x6 < (J7 530 p1) then ((0 : Int) ≤ ((8 * p1) + x6) ∧ ((8 * p1) + x6) < 16) ∧ w_X12_inner (J7 531 ((8 * p1) + x6)) J7 L8 (fun J23 L24 => ((0 : Int) ≤ ((8 * p1) + x6) ∧ ((8 * p1) + x6) < 16) ∧ w_X12_inner (zshr (J23 532 ((8 * p1) + x6)) 8) J23 L24 (fun J26 L27 => ((0 : Int) ≤ ((8 * p1) + x6) ∧ ((8 * p1) + x6) < 16) ∧ w_X12_inner (J26 532 ((8 * p1) + x6)) J26 L27 (fun J29 L30 => K5 (x6 + 1) J29 L30))) else ∀ J13 : zM, J13 = zs J7 491 30 0 → w_X12_greatestEpoch p1 J13 L8 (fun r16 J14 L15 => w_X12_record p1 r16 26 J14 L15 (fun r19 J17 L18 => w_X12_sendMade p1 J17 L18 (fun J20 L21 => Q J20 L21))))) 0 J4 L)
set_option maxHeartbeats 4000000 in
set_option maxRecDepth 100000 in
theorem v_X12_acks {b : Nat} {dC : Nat → ClassId} {dI : Nat → Nat → Nat} {cA : Nat → ClassId} {ts : Nat → Nat} {l : Launch} {n : Nat} {R : Nat → Nat → Option Nat} {al : Bool} (hn : 552 ≤ n) (hR : xRk R) {p1 : Int}  {J : zM} {L : yM} {Q : zM → yM → Prop} (h : w_X12_acks p1 J L Q) : xCn (xGm b dC dI cA ts) l mX12_acks [.ref 491, .int (oI p1)] al (n, R, zi J, li L) 0 0 (zQ0 n R Q) (fun _ _ => False) := by
  refine xCn.ofJ (by decide) (Nat.le_of_ble_eq_true rfl) ?_
  show xJ _ _ _ _ _ _ _ _ _ 0 [(0, .ref 491), (1, .int (oI p1))] [] _ _ _ _ _
  unfold w_X12_acks at h
  refine xr_aload_n (xd dX12_acks 0 rfl) 0 rfl ?_
  refine xr_getR (b := 530) 12 48 (xd dX12_acks 1 rfl) f12_127 (by decide) (by decide) (lt552 hn (by decide)) kd_491 rfl (r_491_48 hR) ?_
  refine xr_iload_n (xd dX12_acks 2 rfl) 1 rfl ?_
  obtain ⟨o1, h⟩ := h
  refine zr_iaload (xd dX12_acks 3 rfl) (lt552 hn (by decide)) kd_530 ln_530 (by decide) o1 ?_
  obtain ⟨o2, h⟩ := h
  refine zr_if_ne 10 (xd dX12_acks 4 rfl) (by decide) o2 (fun c3 => ?_) (fun c3 => ?_)
  · replace h := ifn h c3
    refine xr_aload_n (xd dX12_acks 6 rfl) 0 rfl ?_
    refine xr_iconst (v := oI 0) (xd dX12_acks 7 rfl) (by decide) ?_
    obtain ⟨J4, e_J4⟩ : ∃ z_ : zM, z_ = zs J 491 33 0 := ⟨_, rfl⟩
    replace h := h J4 e_J4
    refine zr_putI 12 33 33 rfl e_J4 (xd dX12_acks 8 rfl) f12_331 (by decide) (by decide) (lt552 hn (by decide)) kd_491 (Or.inl rfl) rfl rfl (fun _ => rfl) ?_
    refine xr_iconst (v := oI 0) (xd dX12_acks 9 rfl) (by decide) ?_
    refine xr_istore_n [(0, .ref 491), (1, .int (oI p1)), (2, .int (oI 0))] (xd dX12_acks 10 rfl) rfl (by decide) rfl ?_
    refine h (fun x6 J7 L8 => xJ (xGm b dC dI cA ts) l mX12_acks 0 0 (zQ0 n R Q) (fun _ _ => False) 0 0 17 [(0, .ref 491), (1, .int (oI p1)), (2, .int (oI x6))] [] al n R (zi J7) (li L8)) ?_
    intro x6 J7 L8 h
    show xJ _ _ _ _ _ _ _ _ _ 17 [(0, .ref 491), (1, .int (oI p1)), (2, .int (oI x6))] [] _ _ _ _ _
    refine xr_iload_n (xd dX12_acks 11 rfl) 2 rfl ?_
    refine xr_aload_n (xd dX12_acks 12 rfl) 0 rfl ?_
    refine xr_getR (b := 530) 12 48 (xd dX12_acks 13 rfl) f12_127 (by decide) (by decide) (lt552 hn (by decide)) kd_491 rfl (r_491_48 hR) ?_
    refine xr_iload_n (xd dX12_acks 14 rfl) 1 rfl ?_
    obtain ⟨o9, h⟩ := h
    refine zr_iaload (xd dX12_acks 15 rfl) (lt552 hn (by decide)) kd_530 ln_530 (by decide) o9 ?_
    obtain ⟨o10, h⟩ := h
    obtain ⟨o11, h⟩ := h
    refine zr_icmp_ge 81 (xd dX12_acks 16 rfl) (by decide) o10 o11 (fun c12 => ?_) (fun c12 => ?_)
    · replace h := ifn h c12
      refine xr_aload_n (xd dX12_acks 51 rfl) 0 rfl ?_
      refine xr_iconst (v := oI 0) (xd dX12_acks 52 rfl) (by decide) ?_
      obtain ⟨J13, e_J13⟩ : ∃ z_ : zM, z_ = zs J7 491 30 0 := ⟨_, rfl⟩
      replace h := h J13 e_J13
      refine zr_putI 12 30 30 rfl e_J13 (xd dX12_acks 53 rfl) f12_320 (by decide) (by decide) (lt552 hn (by decide)) kd_491 (Or.inl rfl) rfl rfl (fun _ => rfl) ?_
      refine xr_aload_n (xd dX12_acks 54 rfl) 0 rfl ?_
      refine xr_iload_n (xd dX12_acks 55 rfl) 1 rfl ?_
      refine xr_aload_n (xd dX12_acks 56 rfl) 0 rfl ?_
      refine xr_iload_n (xd dX12_acks 57 rfl) 1 rfl ?_
      refine xr_callV mX12_greatestEpoch 1 [.int (oI p1)] (xd dX12_acks 58 rfl) l12_346 kX12_greatestEpoch rfl (lt552 hn (by decide)) kd_491 (by decide) rfl (by decide) (Nat.le_of_ble_eq_true rfl) (v_X12_greatestEpoch hn hR  h) (by decide) (by decide) (fun r_ M_ h_ => ?_) (fun _ _ h_ => h_.elim)
      obtain ⟨r16, J14, L15, rfl, rfl, h⟩ := h_
      show xJ _ _ _ _ _ _ _ _ _ 93 [(0, .ref 491), (1, .int (oI p1)), (2, .int (oI x6))] [.int (oI r16), .int (oI p1), .ref 491] _ _ _ (zi J14) (li L15)
      refine xr_bipush (v := oI 26) (xd dX12_acks 59 rfl) (by decide) ?_
      refine xr_callV mX12_record 3 [.int (oI p1), .int (oI r16), .int (oI 26)] (xd dX12_acks 60 rfl) l12_350 kX12_record rfl (lt552 hn (by decide)) kd_491 (by decide) rfl (by decide) (Nat.le_of_ble_eq_true rfl) (v_X12_record hn hR  h) (by decide) (by decide) (fun r_ M_ h_ => ?_) (fun _ _ h_ => h_.elim)
      obtain ⟨r19, J17, L18, rfl, rfl, h⟩ := h_
      show xJ _ _ _ _ _ _ _ _ _ 98 [(0, .ref 491), (1, .int (oI p1)), (2, .int (oI x6))] [.int (oI r19)] _ _ _ (zi J17) (li L18)
      refine xr_istore_n [(0, .ref 491), (1, .int (oI p1)), (2, .int (oI r19))] (xd dX12_acks 61 rfl) rfl (by decide) rfl ?_
      refine xr_aload_n (xd dX12_acks 62 rfl) 0 rfl ?_
      refine xr_iload_n (xd dX12_acks 63 rfl) 1 rfl ?_
      refine xr_callV mX12_sendMade 1 [.int (oI p1)] (xd dX12_acks 64 rfl) l12_354 kX12_sendMade rfl (lt552 hn (by decide)) kd_491 (by decide) rfl (by decide) (Nat.le_of_ble_eq_true rfl) (v_X12_sendMade hn hR  h) (by decide) (by decide) (fun r_ M_ h_ => ?_) (fun _ _ h_ => h_.elim)
      obtain ⟨J20, L21, rfl, rfl, h⟩ := h_
      show xJ _ _ _ _ _ _ _ _ _ 104 [(0, .ref 491), (1, .int (oI p1)), (2, .int (oI r19))] [] _ _ _ (zi J20) (li L21)
      exact xr_vret (xd dX12_acks 65 rfl) rfl (by decide) (by decide) (fun _ => rfl) ⟨_, _, rfl, rfl, h⟩
    · replace h := ifp h c12
      refine xr_aload_n (xd dX12_acks 17 rfl) 0 rfl ?_
      refine xr_aload_n (xd dX12_acks 18 rfl) 0 rfl ?_
      refine xr_getR (b := 531) 12 49 (xd dX12_acks 19 rfl) f12_130 (by decide) (by decide) (lt552 hn (by decide)) kd_491 rfl (r_491_49 hR) ?_
      refine xr_bipush (v := oI 8) (xd dX12_acks 20 rfl) (by decide) ?_
      refine xr_iload_n (xd dX12_acks 21 rfl) 1 rfl ?_
      refine zr_imul (xd dX12_acks 22 rfl) ?_
      refine xr_iload_n (xd dX12_acks 23 rfl) 2 rfl ?_
      refine zr_iadd (xd dX12_acks 24 rfl) ?_
      obtain ⟨o22, h⟩ := h
      refine zr_iaload (xd dX12_acks 25 rfl) (lt552 hn (by decide)) kd_531 ln_531 (by decide) o22 ?_
      refine xr_callV mX12_inner 1 [.int (oI (J7 531 ((8 * p1) + x6)))] (xd dX12_acks 26 rfl) l12_343 kX12_inner rfl (lt552 hn (by decide)) kd_491 (by decide) rfl (by decide) (Nat.le_of_ble_eq_true rfl) (v_X12_inner hn hR  h) (by decide) (by decide) (fun r_ M_ h_ => ?_) (fun _ _ h_ => h_.elim)
      obtain ⟨J23, L24, rfl, rfl, h⟩ := h_
      show xJ _ _ _ _ _ _ _ _ _ 42 [(0, .ref 491), (1, .int (oI p1)), (2, .int (oI x6))] [] _ _ _ (zi J23) (li L24)
      refine xr_aload_n (xd dX12_acks 27 rfl) 0 rfl ?_
      refine xr_aload_n (xd dX12_acks 28 rfl) 0 rfl ?_
      refine xr_getR (b := 532) 12 50 (xd dX12_acks 29 rfl) f12_133 (by decide) (by decide) (lt552 hn (by decide)) kd_491 rfl (r_491_50 hR) ?_
      refine xr_bipush (v := oI 8) (xd dX12_acks 30 rfl) (by decide) ?_
      refine xr_iload_n (xd dX12_acks 31 rfl) 1 rfl ?_
      refine zr_imul (xd dX12_acks 32 rfl) ?_
      refine xr_iload_n (xd dX12_acks 33 rfl) 2 rfl ?_
      refine zr_iadd (xd dX12_acks 34 rfl) ?_
      obtain ⟨o25, h⟩ := h
      refine zr_iaload (xd dX12_acks 35 rfl) (lt552 hn (by decide)) kd_532 ln_532 (by decide) o25 ?_
      refine xr_bipush (v := oI 8) (xd dX12_acks 36 rfl) (by decide) ?_
      refine zr_ishr (xd dX12_acks 37 rfl) ?_
      refine xr_callV mX12_inner 1 [.int (oI (zshr (J23 532 ((8 * p1) + x6)) 8))] (xd dX12_acks 38 rfl) l12_343 kX12_inner rfl (lt552 hn (by decide)) kd_491 (by decide) rfl (by decide) (Nat.le_of_ble_eq_true rfl) (v_X12_inner hn hR  h) (by decide) (by decide) (fun r_ M_ h_ => ?_) (fun _ _ h_ => h_.elim)
      obtain ⟨J26, L27, rfl, rfl, h⟩ := h_
      show xJ _ _ _ _ _ _ _ _ _ 60 [(0, .ref 491), (1, .int (oI p1)), (2, .int (oI x6))] [] _ _ _ (zi J26) (li L27)
      refine xr_aload_n (xd dX12_acks 39 rfl) 0 rfl ?_
      refine xr_aload_n (xd dX12_acks 40 rfl) 0 rfl ?_
      refine xr_getR (b := 532) 12 50 (xd dX12_acks 41 rfl) f12_133 (by decide) (by decide) (lt552 hn (by decide)) kd_491 rfl (r_491_50 hR) ?_
      refine xr_bipush (v := oI 8) (xd dX12_acks 42 rfl) (by decide) ?_
      refine xr_iload_n (xd dX12_acks 43 rfl) 1 rfl ?_
      refine zr_imul (xd dX12_acks 44 rfl) ?_
      refine xr_iload_n (xd dX12_acks 45 rfl) 2 rfl ?_
      refine zr_iadd (xd dX12_acks 46 rfl) ?_
      obtain ⟨o28, h⟩ := h
      refine zr_iaload (xd dX12_acks 47 rfl) (lt552 hn (by decide)) kd_532 ln_532 (by decide) o28 ?_
      refine xr_callV mX12_inner 1 [.int (oI (J26 532 ((8 * p1) + x6)))] (xd dX12_acks 48 rfl) l12_343 kX12_inner rfl (lt552 hn (by decide)) kd_491 (by decide) rfl (by decide) (Nat.le_of_ble_eq_true rfl) (v_X12_inner hn hR  h) (by decide) (by decide) (fun r_ M_ h_ => ?_) (fun _ _ h_ => h_.elim)
      obtain ⟨J29, L30, rfl, rfl, h⟩ := h_
      show xJ _ _ _ _ _ _ _ _ _ 75 [(0, .ref 491), (1, .int (oI p1)), (2, .int (oI x6))] [] _ _ _ (zi J29) (li L30)
      refine zr_iinc [(0, .ref 491), (1, .int (oI p1)), (2, .int (oI (x6 + 1)))] (xd dX12_acks 49 rfl) 2 rfl (by decide) rfl ?_
      refine xr_goto 17 (xd dX12_acks 50 rfl) (by decide) ?_
      exact h
  · replace h := ifp h c3
    exact xr_vret (xd dX12_acks 5 rfl) rfl (by decide) (by decide) (fun _ => rfl) ⟨_, _, rfl, rfl, h⟩
def w_X12_listed (p1 : Int) (p2 : Int) (p3 : Int) (J : zM) (L : yM) (Q : zM → yM → Prop) : Prop := ((0 : Int) ≤ p1 ∧ p1 < 2) ∧ ∀ K4 : zM → yM → Prop, (∀ (J2 : zM) (L3 : yM), (((0 : Int) ≤ p1 ∧ p1 < 2) ∧ ((0 : Int) ≤ ((8 * p1) + (J2 530 p1)) ∧ ((8 * p1) + (J2 530 p1)) < 16) ∧ ∀ J7 : zM, J7 = zs J2 531 ((8 * p1) + (J2 530 p1)) p2 → ((0 : Int) ≤ p1 ∧ p1 < 2) ∧ ((0 : Int) ≤ ((8 * p1) + (J7 530 p1)) ∧ ((8 * p1) + (J7 530 p1)) < 16) ∧ ∀ J10 : zM, J10 = zs J7 532 ((8 * p1) + (J7 530 p1)) p3 → ((0 : Int) ≤ p1 ∧ p1 < 2) ∧ ((0 : Int) ≤ p1 ∧ p1 < 2) ∧ ∀ J13 : zM, J13 = zs J10 530 p1 ((J10 530 p1) + 1) → ((0 : Int) ≤ p1 ∧ p1 < 2) ∧ ∀ J15 : zM, J15 = zs J13 533 p1 (J13 491 3) → Q J15 L3) → K4 J2 L3) → R32 (J 530 p1) ∧ (if (J 530 p1) = 8 then zl_z (fun K18 x19 J20 L21 => R32 x19 ∧ (if x19 < 7 then ((0 : Int) ≤ (((8 * p1) + x19) + 1) ∧ (((8 * p1) + x19) + 1) < 16) ∧ ((0 : Int) ≤ ((8 * p1) + x19) ∧ ((8 * p1) + x19) < 16) ∧ ∀ J28 : zM, J28 = zs J20 531 ((8 * p1) + x19) (J20 531 (((8 * p1) + x19) + 1)) → ((0 : Int) ≤ (((8 * p1) + x19) + 1) ∧ (((8 * p1) + x19) + 1) < 16) ∧ ((0 : Int) ≤ ((8 * p1) + x19) ∧ ((8 * p1) + x19) < 16) ∧ ∀ J31 : zM, J31 = zs J28 532 ((8 * p1) + x19) (J28 532 (((8 * p1) + x19) + 1)) → K18 (x19 + 1) J31 L21 else ((0 : Int) ≤ p1 ∧ p1 < 2) ∧ ∀ J25 : zM, J25 = zs J20 530 p1 7 → K4 J25 L21)) 0 J L else K4 J L)
set_option maxHeartbeats 4000000 in
set_option maxRecDepth 100000 in
theorem v_X12_listed {b : Nat} {dC : Nat → ClassId} {dI : Nat → Nat → Nat} {cA : Nat → ClassId} {ts : Nat → Nat} {l : Launch} {n : Nat} {R : Nat → Nat → Option Nat} {al : Bool} (hn : 552 ≤ n) (hR : xRk R) {p1 : Int} {p2 : Int} {p3 : Int}  {J : zM} {L : yM} {Q : zM → yM → Prop} (h : w_X12_listed p1 p2 p3 J L Q) : xCn (xGm b dC dI cA ts) l mX12_listed [.ref 491, .int (oI p1), .int (oI p2), .int (oI p3)] al (n, R, zi J, li L) 0 0 (zQ0 n R Q) (fun _ _ => False) := by
  refine xCn.ofJ (by decide) (Nat.le_of_ble_eq_true rfl) ?_
  show xJ _ _ _ _ _ _ _ _ _ 0 [(0, .ref 491), (1, .int (oI p1)), (2, .int (oI p2)), (3, .int (oI p3))] [] _ _ _ _ _
  unfold w_X12_listed at h
  refine xr_aload_n (xd dX12_listed 0 rfl) 0 rfl ?_
  refine xr_getR (b := 530) 12 48 (xd dX12_listed 1 rfl) f12_127 (by decide) (by decide) (lt552 hn (by decide)) kd_491 rfl (r_491_48 hR) ?_
  refine xr_iload_n (xd dX12_listed 2 rfl) 1 rfl ?_
  obtain ⟨o1, h⟩ := h
  refine zr_iaload (xd dX12_listed 3 rfl) (lt552 hn (by decide)) kd_530 ln_530 (by decide) o1 ?_
  refine xr_bipush (v := oI 8) (xd dX12_listed 4 rfl) (by decide) ?_
  replace h := h (fun (J2 : zM) (L3 : yM) => xJ (xGm b dC dI cA ts) l mX12_listed 0 0 (zQ0 n R Q) (fun _ _ => False) 0 0 87 [(0, .ref 491), (1, .int (oI p1)), (2, .int (oI p2)), (3, .int (oI p3))] [] al n R (zi J2) (li L3)) (by
    intro J2 L3 h
    show xJ _ _ _ _ _ _ _ _ _ 87 [(0, .ref 491), (1, .int (oI p1)), (2, .int (oI p2)), (3, .int (oI p3))] [] _ _ _ _ _
    refine xr_aload_n (xd dX12_listed 54 rfl) 0 rfl ?_
    refine xr_getR (b := 531) 12 49 (xd dX12_listed 55 rfl) f12_130 (by decide) (by decide) (lt552 hn (by decide)) kd_491 rfl (r_491_49 hR) ?_
    refine xr_bipush (v := oI 8) (xd dX12_listed 56 rfl) (by decide) ?_
    refine xr_iload_n (xd dX12_listed 57 rfl) 1 rfl ?_
    refine zr_imul (xd dX12_listed 58 rfl) ?_
    refine xr_aload_n (xd dX12_listed 59 rfl) 0 rfl ?_
    refine xr_getR (b := 530) 12 48 (xd dX12_listed 60 rfl) f12_127 (by decide) (by decide) (lt552 hn (by decide)) kd_491 rfl (r_491_48 hR) ?_
    refine xr_iload_n (xd dX12_listed 61 rfl) 1 rfl ?_
    obtain ⟨o5, h⟩ := h
    refine zr_iaload (xd dX12_listed 62 rfl) (lt552 hn (by decide)) kd_530 ln_530 (by decide) o5 ?_
    refine zr_iadd (xd dX12_listed 63 rfl) ?_
    refine xr_iload_n (xd dX12_listed 64 rfl) 2 rfl ?_
    obtain ⟨o6, h⟩ := h
    obtain ⟨J7, e_J7⟩ : ∃ z_ : zM, z_ = zs J2 531 ((8 * p1) + (J2 530 p1)) p2 := ⟨_, rfl⟩
    replace h := h J7 e_J7
    refine zr_iastore e_J7 (xd dX12_listed 65 rfl) (lt552 hn (by decide)) kd_531 ln_531 (by decide) o6 ?_
    refine xr_aload_n (xd dX12_listed 66 rfl) 0 rfl ?_
    refine xr_getR (b := 532) 12 50 (xd dX12_listed 67 rfl) f12_133 (by decide) (by decide) (lt552 hn (by decide)) kd_491 rfl (r_491_50 hR) ?_
    refine xr_bipush (v := oI 8) (xd dX12_listed 68 rfl) (by decide) ?_
    refine xr_iload_n (xd dX12_listed 69 rfl) 1 rfl ?_
    refine zr_imul (xd dX12_listed 70 rfl) ?_
    refine xr_aload_n (xd dX12_listed 71 rfl) 0 rfl ?_
    refine xr_getR (b := 530) 12 48 (xd dX12_listed 72 rfl) f12_127 (by decide) (by decide) (lt552 hn (by decide)) kd_491 rfl (r_491_48 hR) ?_
    refine xr_iload_n (xd dX12_listed 73 rfl) 1 rfl ?_
    obtain ⟨o8, h⟩ := h
    refine zr_iaload (xd dX12_listed 74 rfl) (lt552 hn (by decide)) kd_530 ln_530 (by decide) o8 ?_
    refine zr_iadd (xd dX12_listed 75 rfl) ?_
    refine xr_iload_n (xd dX12_listed 76 rfl) 3 rfl ?_
    obtain ⟨o9, h⟩ := h
    obtain ⟨J10, e_J10⟩ : ∃ z_ : zM, z_ = zs J7 532 ((8 * p1) + (J7 530 p1)) p3 := ⟨_, rfl⟩
    replace h := h J10 e_J10
    refine zr_iastore e_J10 (xd dX12_listed 77 rfl) (lt552 hn (by decide)) kd_532 ln_532 (by decide) o9 ?_
    refine xr_aload_n (xd dX12_listed 78 rfl) 0 rfl ?_
    refine xr_getR (b := 530) 12 48 (xd dX12_listed 79 rfl) f12_127 (by decide) (by decide) (lt552 hn (by decide)) kd_491 rfl (r_491_48 hR) ?_
    refine xr_iload_n (xd dX12_listed 80 rfl) 1 rfl ?_
    refine xr_dup2 (xd dX12_listed 81 rfl) rfl rfl ?_
    obtain ⟨o11, h⟩ := h
    refine zr_iaload (xd dX12_listed 82 rfl) (lt552 hn (by decide)) kd_530 ln_530 (by decide) o11 ?_
    refine xr_iconst (v := oI 1) (xd dX12_listed 83 rfl) (by decide) ?_
    refine zr_iadd (xd dX12_listed 84 rfl) ?_
    obtain ⟨o12, h⟩ := h
    obtain ⟨J13, e_J13⟩ : ∃ z_ : zM, z_ = zs J10 530 p1 ((J10 530 p1) + 1) := ⟨_, rfl⟩
    replace h := h J13 e_J13
    refine zr_iastore e_J13 (xd dX12_listed 85 rfl) (lt552 hn (by decide)) kd_530 ln_530 (by decide) o12 ?_
    refine xr_aload_n (xd dX12_listed 86 rfl) 0 rfl ?_
    refine xr_getR (b := 533) 12 51 (xd dX12_listed 87 rfl) f12_136 (by decide) (by decide) (lt552 hn (by decide)) kd_491 rfl (r_491_51 hR) ?_
    refine xr_iload_n (xd dX12_listed 88 rfl) 1 rfl ?_
    refine xr_aload_n (xd dX12_listed 89 rfl) 0 rfl ?_
    refine zr_getI 12 3 3 rfl (xd dX12_listed 90 rfl) f12_360 (by decide) (by decide) (lt552 hn (by decide)) kd_491 rfl ?_
    obtain ⟨o14, h⟩ := h
    obtain ⟨J15, e_J15⟩ : ∃ z_ : zM, z_ = zs J13 533 p1 (J13 491 3) := ⟨_, rfl⟩
    replace h := h J15 e_J15
    refine zr_iastore e_J15 (xd dX12_listed 91 rfl) (lt552 hn (by decide)) kd_533 ln_533 (by decide) o14 ?_
    exact xr_vret (xd dX12_listed 92 rfl) rfl (by decide) (by decide) (fun _ => rfl) ⟨_, _, rfl, rfl, h⟩)
  obtain ⟨o16, h⟩ := h
  refine zr_icmp_ne 87 (xd dX12_listed 5 rfl) (by decide) o16 (by decide) (fun c17 => ?_) (fun c17 => ?_)
  · replace h := ifn h c17
    exact h
  · replace h := ifp h c17
    refine xr_iconst (v := oI 0) (xd dX12_listed 6 rfl) (by decide) ?_
    refine xr_istore [(0, .ref 491), (1, .int (oI p1)), (2, .int (oI p2)), (3, .int (oI p3)), (4, .int (oI 0))] (xd dX12_listed 7 rfl) (by decide) rfl ?_
    refine h (fun x19 J20 L21 => xJ (xGm b dC dI cA ts) l mX12_listed 0 0 (zQ0 n R Q) (fun _ _ => False) 0 0 14 [(0, .ref 491), (1, .int (oI p1)), (2, .int (oI p2)), (3, .int (oI p3)), (4, .int (oI x19))] [] al n R (zi J20) (li L21)) ?_
    intro x19 J20 L21 h
    show xJ _ _ _ _ _ _ _ _ _ 14 [(0, .ref 491), (1, .int (oI p1)), (2, .int (oI p2)), (3, .int (oI p3)), (4, .int (oI x19))] [] _ _ _ _ _
    refine xr_iload (xd dX12_listed 8 rfl) 4 rfl ?_
    refine xr_bipush (v := oI 7) (xd dX12_listed 9 rfl) (by decide) ?_
    obtain ⟨o22, h⟩ := h
    refine zr_icmp_ge 79 (xd dX12_listed 10 rfl) (by decide) o22 (by decide) (fun c23 => ?_) (fun c23 => ?_)
    · replace h := ifn h c23
      refine xr_aload_n (xd dX12_listed 49 rfl) 0 rfl ?_
      refine xr_getR (b := 530) 12 48 (xd dX12_listed 50 rfl) f12_127 (by decide) (by decide) (lt552 hn (by decide)) kd_491 rfl (r_491_48 hR) ?_
      refine xr_iload_n (xd dX12_listed 51 rfl) 1 rfl ?_
      refine xr_bipush (v := oI 7) (xd dX12_listed 52 rfl) (by decide) ?_
      obtain ⟨o24, h⟩ := h
      obtain ⟨J25, e_J25⟩ : ∃ z_ : zM, z_ = zs J20 530 p1 7 := ⟨_, rfl⟩
      replace h := h J25 e_J25
      refine zr_iastore e_J25 (xd dX12_listed 53 rfl) (lt552 hn (by decide)) kd_530 ln_530 (by decide) o24 ?_
      refine xJ.pick (ls' := [(0, .ref 491), (1, .int (oI p1)), (2, .int (oI p2)), (3, .int (oI p3))]) [0, 1, 2, 3] rfl ?_
      exact h
    · replace h := ifp h c23
      refine xr_aload_n (xd dX12_listed 11 rfl) 0 rfl ?_
      refine xr_getR (b := 531) 12 49 (xd dX12_listed 12 rfl) f12_130 (by decide) (by decide) (lt552 hn (by decide)) kd_491 rfl (r_491_49 hR) ?_
      refine xr_bipush (v := oI 8) (xd dX12_listed 13 rfl) (by decide) ?_
      refine xr_iload_n (xd dX12_listed 14 rfl) 1 rfl ?_
      refine zr_imul (xd dX12_listed 15 rfl) ?_
      refine xr_iload (xd dX12_listed 16 rfl) 4 rfl ?_
      refine zr_iadd (xd dX12_listed 17 rfl) ?_
      refine xr_aload_n (xd dX12_listed 18 rfl) 0 rfl ?_
      refine xr_getR (b := 531) 12 49 (xd dX12_listed 19 rfl) f12_130 (by decide) (by decide) (lt552 hn (by decide)) kd_491 rfl (r_491_49 hR) ?_
      refine xr_bipush (v := oI 8) (xd dX12_listed 20 rfl) (by decide) ?_
      refine xr_iload_n (xd dX12_listed 21 rfl) 1 rfl ?_
      refine zr_imul (xd dX12_listed 22 rfl) ?_
      refine xr_iload (xd dX12_listed 23 rfl) 4 rfl ?_
      refine zr_iadd (xd dX12_listed 24 rfl) ?_
      refine xr_iconst (v := oI 1) (xd dX12_listed 25 rfl) (by decide) ?_
      refine zr_iadd (xd dX12_listed 26 rfl) ?_
      obtain ⟨o26, h⟩ := h
      refine zr_iaload (xd dX12_listed 27 rfl) (lt552 hn (by decide)) kd_531 ln_531 (by decide) o26 ?_
      obtain ⟨o27, h⟩ := h
      obtain ⟨J28, e_J28⟩ : ∃ z_ : zM, z_ = zs J20 531 ((8 * p1) + x19) (J20 531 (((8 * p1) + x19) + 1)) := ⟨_, rfl⟩
      replace h := h J28 e_J28
      refine zr_iastore e_J28 (xd dX12_listed 28 rfl) (lt552 hn (by decide)) kd_531 ln_531 (by decide) o27 ?_
      refine xr_aload_n (xd dX12_listed 29 rfl) 0 rfl ?_
      refine xr_getR (b := 532) 12 50 (xd dX12_listed 30 rfl) f12_133 (by decide) (by decide) (lt552 hn (by decide)) kd_491 rfl (r_491_50 hR) ?_
      refine xr_bipush (v := oI 8) (xd dX12_listed 31 rfl) (by decide) ?_
      refine xr_iload_n (xd dX12_listed 32 rfl) 1 rfl ?_
      refine zr_imul (xd dX12_listed 33 rfl) ?_
      refine xr_iload (xd dX12_listed 34 rfl) 4 rfl ?_
      refine zr_iadd (xd dX12_listed 35 rfl) ?_
      refine xr_aload_n (xd dX12_listed 36 rfl) 0 rfl ?_
      refine xr_getR (b := 532) 12 50 (xd dX12_listed 37 rfl) f12_133 (by decide) (by decide) (lt552 hn (by decide)) kd_491 rfl (r_491_50 hR) ?_
      refine xr_bipush (v := oI 8) (xd dX12_listed 38 rfl) (by decide) ?_
      refine xr_iload_n (xd dX12_listed 39 rfl) 1 rfl ?_
      refine zr_imul (xd dX12_listed 40 rfl) ?_
      refine xr_iload (xd dX12_listed 41 rfl) 4 rfl ?_
      refine zr_iadd (xd dX12_listed 42 rfl) ?_
      refine xr_iconst (v := oI 1) (xd dX12_listed 43 rfl) (by decide) ?_
      refine zr_iadd (xd dX12_listed 44 rfl) ?_
      obtain ⟨o29, h⟩ := h
      refine zr_iaload (xd dX12_listed 45 rfl) (lt552 hn (by decide)) kd_532 ln_532 (by decide) o29 ?_
      obtain ⟨o30, h⟩ := h
      obtain ⟨J31, e_J31⟩ : ∃ z_ : zM, z_ = zs J28 532 ((8 * p1) + x19) (J28 532 (((8 * p1) + x19) + 1)) := ⟨_, rfl⟩
      replace h := h J31 e_J31
      refine zr_iastore e_J31 (xd dX12_listed 46 rfl) (lt552 hn (by decide)) kd_532 ln_532 (by decide) o30 ?_
      refine zr_iinc [(0, .ref 491), (1, .int (oI p1)), (2, .int (oI p2)), (3, .int (oI p3)), (4, .int (oI (x19 + 1)))] (xd dX12_listed 47 rfl) 4 rfl (by decide) rfl ?_
      refine xr_goto 14 (xd dX12_listed 48 rfl) (by decide) ?_
      exact h
def w_X12_die (p1 : Int) (J : zM) (L : yM) (Q : zM → yM → Prop) : Prop := ((0 : Int) ≤ p1 ∧ p1 < 2) ∧ ∀ J2 : zM, J2 = zs J 534 p1 4 → Q J2 L
set_option maxHeartbeats 4000000 in
set_option maxRecDepth 100000 in
theorem v_X12_die {b : Nat} {dC : Nat → ClassId} {dI : Nat → Nat → Nat} {cA : Nat → ClassId} {ts : Nat → Nat} {l : Launch} {n : Nat} {R : Nat → Nat → Option Nat} {al : Bool} (hn : 552 ≤ n) (hR : xRk R) {p1 : Int}  {J : zM} {L : yM} {Q : zM → yM → Prop} (h : w_X12_die p1 J L Q) : xCn (xGm b dC dI cA ts) l mX12_die [.ref 491, .int (oI p1)] al (n, R, zi J, li L) 0 0 (zQ0 n R Q) (fun _ _ => False) := by
  refine xCn.ofJ (by decide) (Nat.le_of_ble_eq_true rfl) ?_
  show xJ _ _ _ _ _ _ _ _ _ 0 [(0, .ref 491), (1, .int (oI p1))] [] _ _ _ _ _
  unfold w_X12_die at h
  refine xr_aload_n (xd dX12_die 0 rfl) 0 rfl ?_
  refine xr_getR (b := 534) 12 52 (xd dX12_die 1 rfl) f12_139 (by decide) (by decide) (lt552 hn (by decide)) kd_491 rfl (r_491_52 hR) ?_
  refine xr_iload_n (xd dX12_die 2 rfl) 1 rfl ?_
  refine xr_iconst (v := oI 4) (xd dX12_die 3 rfl) (by decide) ?_
  obtain ⟨o1, h⟩ := h
  obtain ⟨J2, e_J2⟩ : ∃ z_ : zM, z_ = zs J 534 p1 4 := ⟨_, rfl⟩
  replace h := h J2 e_J2
  refine zr_iastore e_J2 (xd dX12_die 4 rfl) (lt552 hn (by decide)) kd_534 ln_534 (by decide) o1 ?_
  exact xr_vret (xd dX12_die 5 rfl) rfl (by decide) (by decide) (fun _ => rfl) ⟨_, _, rfl, rfl, h⟩
