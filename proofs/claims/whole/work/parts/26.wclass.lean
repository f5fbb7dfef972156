def w_X0_startAnew (e : Nat) (J : zM) (L : yM) (Q : zM → yM → Prop) : Prop := ∀ J1 : zM, J1 = zs J (e + 33) 2 0 → ∀ J2 : zM, J2 = zs J1 (e + 33) 3 0 → Q J2 L
set_option maxHeartbeats 4000000 in
set_option maxRecDepth 100000 in
theorem v_X0_startAnew {b : Nat} {dC : Nat → ClassId} {dI : Nat → Nat → Nat} {cA : Nat → ClassId} {ts : Nat → Nat} {l : Launch} {n : Nat} {R : Nat → Nat → Option Nat} {al : Bool} (hn : 491 ≤ n) (hR : xRk R) {e : Nat} (he : iSide e) {J : zM} {L : yM} {Q : zM → yM → Prop} (h : w_X0_startAnew e J L Q) : xCn (xGm b dC dI cA ts) l mX0_startAnew [.ref (e + 33)] al (n, R, zi J, li L) 0 0 (zQ0 n R Q) (fun _ _ => False) := by
  refine xCn.ofJ (by decide) (Nat.le_of_ble_eq_true rfl) ?_
  show xJ _ _ _ _ _ _ _ _ _ 0 [(0, .ref (e + 33))] [] _ _ _ _ _
  unfold w_X0_startAnew at h
  refine xr_aload_n (xd dX0_startAnew 0 rfl) 0 rfl ?_
  refine xr_iconst (v := oI 0) (xd dX0_startAnew 1 rfl) (by decide) ?_
  obtain ⟨J1, e_J1⟩ : ∃ z_ : zM, z_ = zs J (e + 33) 2 0 := ⟨_, rfl⟩
  replace h := h J1 e_J1
  refine zr_putI 0 2 2 rfl e_J1 (xd dX0_startAnew 2 rfl) f0_18 (by decide) (by decide) (lt491 hn (ltS he (by decide))) (kdS_33 he) (Or.inl rfl) rfl rfl (fun _ => rfl) ?_
  refine xr_aload_n (xd dX0_startAnew 3 rfl) 0 rfl ?_
  refine xr_iconst (v := oI 0) (xd dX0_startAnew 4 rfl) (by decide) ?_
  obtain ⟨J2, e_J2⟩ : ∃ z_ : zM, z_ = zs J1 (e + 33) 3 0 := ⟨_, rfl⟩
  replace h := h J2 e_J2
  refine zr_putI 0 3 3 rfl e_J2 (xd dX0_startAnew 5 rfl) f0_22 (by decide) (by decide) (lt491 hn (ltS he (by decide))) (kdS_33 he) (Or.inl rfl) rfl rfl (fun _ => rfl) ?_
  exact xr_vret (xd dX0_startAnew 6 rfl) rfl (by decide) (by decide) (fun _ => rfl) ⟨_, _, rfl, rfl, h⟩
def w_X0_add (e : Nat) (p1 : Int) (p2 : Int) (p3 : Int) (J : zM) (L : yM) (Q : zM → yM → Prop) : Prop := ∀ K3 : zM → yM → Prop, (∀ (J1 : zM) (L2 : yM), (((0 : Int) ≤ (J1 (e + 33) 2) ∧ (J1 (e + 33) 2) < 8) ∧ ∀ J5 : zM, J5 = zs J1 (e + 34) (J1 (e + 33) 2) p1 → ((0 : Int) ≤ (J5 (e + 33) 2) ∧ (J5 (e + 33) 2) < 8) ∧ ∀ J7 : zM, J7 = zs J5 (e + 35) (J5 (e + 33) 2) p2 → ∀ J8 : zM, J8 = zs J7 (e + 33) 2 ((J7 (e + 33) 2) + 1) → ∀ J9 : zM, J9 = zs J8 (e + 33) 3 p3 → Q J9 L2) → K3 J1 L2) → R32 (J (e + 33) 2) ∧ (if (J (e + 33) 2) = 8 then ∀ J12 : zM, J12 = zs J (e + 33) 2 ((J (e + 33) 2) - 1) → ((0 : Int) ≤ 1 ∧ (0 : Int) ≤ 0 ∧ (0 : Int) ≤ (J12 (e + 33) 2) ∧ (1 + (J12 (e + 33) 2) : Int) ≤ 8 ∧ (0 + (J12 (e + 33) 2) : Int) ≤ 8) ∧ ∀ J14 : zM, J14 = zcp J12 (e + 34) 1 (e + 34) 0 (J12 (e + 33) 2) → ((0 : Int) ≤ 1 ∧ (0 : Int) ≤ 0 ∧ (0 : Int) ≤ (J14 (e + 33) 2) ∧ (1 + (J14 (e + 33) 2) : Int) ≤ 8 ∧ (0 + (J14 (e + 33) 2) : Int) ≤ 8) ∧ ∀ J16 : zM, J16 = zcp J14 (e + 35) 1 (e + 35) 0 (J14 (e + 33) 2) → K3 J16 L else K3 J L)
set_option maxHeartbeats 4000000 in
set_option maxRecDepth 100000 in
theorem v_X0_add {b : Nat} {dC : Nat → ClassId} {dI : Nat → Nat → Nat} {cA : Nat → ClassId} {ts : Nat → Nat} {l : Launch} {n : Nat} {R : Nat → Nat → Option Nat} {al : Bool} (hn : 491 ≤ n) (hR : xRk R) {e : Nat} {p1 : Int} {p2 : Int} {p3 : Int} (he : iSide e) {J : zM} {L : yM} {Q : zM → yM → Prop} (h : w_X0_add e p1 p2 p3 J L Q) : xCn (xGm b dC dI cA ts) l mX0_add [.ref (e + 33), .int (oI p1), .int (oI p2), .int (oI p3)] al (n, R, zi J, li L) 0 0 (zQ0 n R Q) (fun _ _ => False) := by
  refine xCn.ofJ (by decide) (Nat.le_of_ble_eq_true rfl) ?_
  show xJ _ _ _ _ _ _ _ _ _ 0 [(0, .ref (e + 33)), (1, .int (oI p1)), (2, .int (oI p2)), (3, .int (oI p3))] [] _ _ _ _ _
  unfold w_X0_add at h
  refine xr_aload_n (xd dX0_add 0 rfl) 0 rfl ?_
  refine zr_getI 0 2 2 rfl (xd dX0_add 1 rfl) f0_18 (by decide) (by decide) (lt491 hn (ltS he (by decide))) (kdS_33 he) rfl ?_
  refine xr_bipush (v := oI 8) (xd dX0_add 2 rfl) (by decide) ?_
  replace h := h (fun (J1 : zM) (L2 : yM) => xJ (xGm b dC dI cA ts) l mX0_add 0 0 (zQ0 n R Q) (fun _ _ => False) 0 0 53 [(0, .ref (e + 33)), (1, .int (oI p1)), (2, .int (oI p2)), (3, .int (oI p3))] [] al n R (zi J1) (li L2)) (by
    intro J1 L2 h
    show xJ _ _ _ _ _ _ _ _ _ 53 [(0, .ref (e + 33)), (1, .int (oI p1)), (2, .int (oI p2)), (3, .int (oI p3))] [] _ _ _ _ _
    refine xr_aload_n (xd dX0_add 28 rfl) 0 rfl ?_
    refine xr_getR (b := (e + 34)) 0 0 (xd dX0_add 29 rfl) f0_9 (by decide) (by decide) (lt491 hn (ltS he (by decide))) (kdS_33 he) rfl (rS_33_0 hR he) ?_
    refine xr_aload_n (xd dX0_add 30 rfl) 0 rfl ?_
    refine zr_getI 0 2 2 rfl (xd dX0_add 31 rfl) f0_18 (by decide) (by decide) (lt491 hn (ltS he (by decide))) (kdS_33 he) rfl ?_
    refine xr_iload_n (xd dX0_add 32 rfl) 1 rfl ?_
    obtain ⟨o4, h⟩ := h
    obtain ⟨J5, e_J5⟩ : ∃ z_ : zM, z_ = zs J1 (e + 34) (J1 (e + 33) 2) p1 := ⟨_, rfl⟩
    replace h := h J5 e_J5
    refine zr_iastore e_J5 (xd dX0_add 33 rfl) (lt491 hn (ltS he (by decide))) (kdS_34 he) (lnS_34 he) (by decide) o4 ?_
    refine xr_aload_n (xd dX0_add 34 rfl) 0 rfl ?_
    refine xr_getR (b := (e + 35)) 0 1 (xd dX0_add 35 rfl) f0_15 (by decide) (by decide) (lt491 hn (ltS he (by decide))) (kdS_33 he) rfl (rS_33_1 hR he) ?_
    refine xr_aload_n (xd dX0_add 36 rfl) 0 rfl ?_
    refine zr_getI 0 2 2 rfl (xd dX0_add 37 rfl) f0_18 (by decide) (by decide) (lt491 hn (ltS he (by decide))) (kdS_33 he) rfl ?_
    refine xr_iload_n (xd dX0_add 38 rfl) 2 rfl ?_
    obtain ⟨o6, h⟩ := h
    obtain ⟨J7, e_J7⟩ : ∃ z_ : zM, z_ = zs J5 (e + 35) (J5 (e + 33) 2) p2 := ⟨_, rfl⟩
    replace h := h J7 e_J7
    refine zr_iastore e_J7 (xd dX0_add 39 rfl) (lt491 hn (ltS he (by decide))) (kdS_35 he) (lnS_35 he) (by decide) o6 ?_
    refine xr_aload_n (xd dX0_add 40 rfl) 0 rfl ?_
    refine xr_dup (xd dX0_add 41 rfl) rfl ?_
    refine zr_getI 0 2 2 rfl (xd dX0_add 42 rfl) f0_18 (by decide) (by decide) (lt491 hn (ltS he (by decide))) (kdS_33 he) rfl ?_
    refine xr_iconst (v := oI 1) (xd dX0_add 43 rfl) (by decide) ?_
    refine zr_iadd (xd dX0_add 44 rfl) ?_
    obtain ⟨J8, e_J8⟩ : ∃ z_ : zM, z_ = zs J7 (e + 33) 2 ((J7 (e + 33) 2) + 1) := ⟨_, rfl⟩
    replace h := h J8 e_J8
    refine zr_putI 0 2 2 rfl e_J8 (xd dX0_add 45 rfl) f0_18 (by decide) (by decide) (lt491 hn (ltS he (by decide))) (kdS_33 he) (Or.inl rfl) rfl rfl (fun _ => rfl) ?_
    refine xr_aload_n (xd dX0_add 46 rfl) 0 rfl ?_
    refine xr_iload_n (xd dX0_add 47 rfl) 3 rfl ?_
    obtain ⟨J9, e_J9⟩ : ∃ z_ : zM, z_ = zs J8 (e + 33) 3 p3 := ⟨_, rfl⟩
    replace h := h J9 e_J9
    refine zr_putI 0 3 3 rfl e_J9 (xd dX0_add 48 rfl) f0_22 (by decide) (by decide) (lt491 hn (ltS he (by decide))) (kdS_33 he) (Or.inl rfl) rfl rfl (fun _ => rfl) ?_
    exact xr_vret (xd dX0_add 49 rfl) rfl (by decide) (by decide) (fun _ => rfl) ⟨_, _, rfl, rfl, h⟩)
  obtain ⟨o10, h⟩ := h
  refine zr_icmp_ne 53 (xd dX0_add 3 rfl) (by decide) o10 (by decide) (fun c11 => ?_) (fun c11 => ?_)
  · replace h := ifn h c11
    exact h
  · replace h := ifp h c11
    refine xr_aload_n (xd dX0_add 4 rfl) 0 rfl ?_
    refine xr_dup (xd dX0_add 5 rfl) rfl ?_
    refine zr_getI 0 2 2 rfl (xd dX0_add 6 rfl) f0_18 (by decide) (by decide) (lt491 hn (ltS he (by decide))) (kdS_33 he) rfl ?_
    refine xr_iconst (v := oI 1) (xd dX0_add 7 rfl) (by decide) ?_
    refine zr_isub (xd dX0_add 8 rfl) ?_
    obtain ⟨J12, e_J12⟩ : ∃ z_ : zM, z_ = zs J (e + 33) 2 ((J (e + 33) 2) - 1) := ⟨_, rfl⟩
    replace h := h J12 e_J12
    refine zr_putI 0 2 2 rfl e_J12 (xd dX0_add 9 rfl) f0_18 (by decide) (by decide) (lt491 hn (ltS he (by decide))) (kdS_33 he) (Or.inl rfl) rfl rfl (fun _ => rfl) ?_
    refine xr_aload_n (xd dX0_add 10 rfl) 0 rfl ?_
    refine xr_getR (b := (e + 34)) 0 0 (xd dX0_add 11 rfl) f0_9 (by decide) (by decide) (lt491 hn (ltS he (by decide))) (kdS_33 he) rfl (rS_33_0 hR he) ?_
    refine xr_iconst (v := oI 1) (xd dX0_add 12 rfl) (by decide) ?_
    refine xr_aload_n (xd dX0_add 13 rfl) 0 rfl ?_
    refine xr_getR (b := (e + 34)) 0 0 (xd dX0_add 14 rfl) f0_9 (by decide) (by decide) (lt491 hn (ltS he (by decide))) (kdS_33 he) rfl (rS_33_0 hR he) ?_
    refine xr_iconst (v := oI 0) (xd dX0_add 15 rfl) (by decide) ?_
    refine xr_aload_n (xd dX0_add 16 rfl) 0 rfl ?_
    refine zr_getI 0 2 2 rfl (xd dX0_add 17 rfl) f0_18 (by decide) (by decide) (lt491 hn (ltS he (by decide))) (kdS_33 he) rfl ?_
    obtain ⟨o13, h⟩ := h
    obtain ⟨J14, e_J14⟩ : ∃ z_ : zM, z_ = zcp J12 (e + 34) 1 (e + 34) 0 (J12 (e + 33) 2) := ⟨_, rfl⟩
    replace h := h J14 e_J14
    refine zr_acopy e_J14 (xd dX0_add 18 rfl) l0_25 (lt491 hn (ltS he (by decide))) (kdS_34 he) (lnS_34 he) (by decide) (lt491 hn (ltS he (by decide))) (kdS_34 he) (lnS_34 he) (by decide) o13.1 o13.2.1 o13.2.2.1 o13.2.2.2.1 o13.2.2.2.2 ⟨Nat.le_of_ble_eq_true rfl, Nat.le_of_ble_eq_true rfl⟩ ?_
    refine xr_aload_n (xd dX0_add 19 rfl) 0 rfl ?_
    refine xr_getR (b := (e + 35)) 0 1 (xd dX0_add 20 rfl) f0_15 (by decide) (by decide) (lt491 hn (ltS he (by decide))) (kdS_33 he) rfl (rS_33_1 hR he) ?_
    refine xr_iconst (v := oI 1) (xd dX0_add 21 rfl) (by decide) ?_
    refine xr_aload_n (xd dX0_add 22 rfl) 0 rfl ?_
    refine xr_getR (b := (e + 35)) 0 1 (xd dX0_add 23 rfl) f0_15 (by decide) (by decide) (lt491 hn (ltS he (by decide))) (kdS_33 he) rfl (rS_33_1 hR he) ?_
    refine xr_iconst (v := oI 0) (xd dX0_add 24 rfl) (by decide) ?_
    refine xr_aload_n (xd dX0_add 25 rfl) 0 rfl ?_
    refine zr_getI 0 2 2 rfl (xd dX0_add 26 rfl) f0_18 (by decide) (by decide) (lt491 hn (ltS he (by decide))) (kdS_33 he) rfl ?_
    obtain ⟨o15, h⟩ := h
    obtain ⟨J16, e_J16⟩ : ∃ z_ : zM, z_ = zcp J14 (e + 35) 1 (e + 35) 0 (J14 (e + 33) 2) := ⟨_, rfl⟩
    replace h := h J16 e_J16
    refine zr_acopy e_J16 (xd dX0_add 27 rfl) l0_25 (lt491 hn (ltS he (by decide))) (kdS_35 he) (lnS_35 he) (by decide) (lt491 hn (ltS he (by decide))) (kdS_35 he) (lnS_35 he) (by decide) o15.1 o15.2.1 o15.2.2.1 o15.2.2.2.1 o15.2.2.2.2 ⟨Nat.le_of_ble_eq_true rfl, Nat.le_of_ble_eq_true rfl⟩ ?_
    exact h
def w_X0_putInto (e : Nat) (p1 : Nat) (J : zM) (L : yM) (Q : Int → zM → yM → Prop) : Prop := zl_z (fun K1 x2 J3 L4 => R32 x2 ∧ R32 (J3 (e + 33) 2) ∧ (if x2 < (J3 (e + 33) 2) then R32 ((3 * x2) + 2) ∧ R32 (ln0 p1 : Int) ∧ (if ((3 * x2) + 2) < (ln0 p1 : Int) then ((0 : Int) ≤ x2 ∧ x2 < 8) ∧ ((0 : Int) ≤ (3 * x2) ∧ (3 * x2) < (ln0 p1 : Int)) ∧ ∀ J13 : zM, J13 = zs J3 p1 (3 * x2) (J3 (e + 34) x2) → ((0 : Int) ≤ x2 ∧ x2 < 8) ∧ ((0 : Int) ≤ ((3 * x2) + 1) ∧ ((3 * x2) + 1) < (ln0 p1 : Int)) ∧ ∀ J16 : zM, J16 = zs J13 p1 ((3 * x2) + 1) (zush (J13 (e + 35) x2) 8) → ((0 : Int) ≤ x2 ∧ x2 < 8) ∧ ((0 : Int) ≤ ((3 * x2) + 2) ∧ ((3 * x2) + 2) < (ln0 p1 : Int)) ∧ ∀ J19 : zM, J19 = zs J16 p1 ((3 * x2) + 2) (zand (J16 (e + 35) x2) 255) → K1 (x2 + 1) J19 L4 else Q (3 * (J3 (e + 33) 2)) J3 L4) else Q (3 * (J3 (e + 33) 2)) J3 L4)) 0 J L
set_option maxHeartbeats 4000000 in
set_option maxRecDepth 100000 in
theorem v_X0_putInto {b : Nat} {dC : Nat → ClassId} {dI : Nat → Nat → Nat} {cA : Nat → ClassId} {ts : Nat → Nat} {l : Launch} {n : Nat} {R : Nat → Nat → Option Nat} {al : Bool} (hn : 491 ≤ n) (hR : xRk R) {e : Nat} {p1 : Nat} (he : iSide e) (h_p1 : za p1) {J : zM} {L : yM} {Q : Int → zM → yM → Prop} (h : w_X0_putInto e p1 J L Q) : xCn (xGm b dC dI cA ts) l mX0_putInto [.ref (e + 33), .ref p1] al (n, R, zi J, li L) 0 0 (zQ1 n R Q) (fun _ _ => False) := by
  refine xCn.ofJ (by decide) (Nat.le_of_ble_eq_true rfl) ?_
  show xJ _ _ _ _ _ _ _ _ _ 0 [(0, .ref (e + 33)), (1, .ref p1)] [] _ _ _ _ _
  unfold w_X0_putInto at h
  refine xr_iconst (v := oI 0) (xd dX0_putInto 0 rfl) (by decide) ?_
  refine xr_istore_n [(0, .ref (e + 33)), (1, .ref p1), (2, .int (oI 0))] (xd dX0_putInto 1 rfl) rfl (by decide) rfl ?_
  refine h (fun x2 J3 L4 => xJ (xGm b dC dI cA ts) l mX0_putInto 0 0 (zQ1 n R Q) (fun _ _ => False) 0 0 2 [(0, .ref (e + 33)), (1, .ref p1), (2, .int (oI x2))] [] al n R (zi J3) (li L4)) ?_
  intro x2 J3 L4 h
  show xJ _ _ _ _ _ _ _ _ _ 2 [(0, .ref (e + 33)), (1, .ref p1), (2, .int (oI x2))] [] _ _ _ _ _
  refine xr_iload_n (xd dX0_putInto 2 rfl) 2 rfl ?_
  refine xr_aload_n (xd dX0_putInto 3 rfl) 0 rfl ?_
  refine zr_getI 0 2 2 rfl (xd dX0_putInto 4 rfl) f0_18 (by decide) (by decide) (lt491 hn (ltS he (by decide))) (kdS_33 he) rfl ?_
  obtain ⟨o5, h⟩ := h
  obtain ⟨o6, h⟩ := h
  refine zr_icmp_ge 70 (xd dX0_putInto 5 rfl) (by decide) o5 o6 (fun c7 => ?_) (fun c7 => ?_)
  · replace h := ifn h c7
    refine xr_iconst (v := oI 3) (xd dX0_putInto 51 rfl) (by decide) ?_
    refine xr_aload_n (xd dX0_putInto 52 rfl) 0 rfl ?_
    refine zr_getI 0 2 2 rfl (xd dX0_putInto 53 rfl) f0_18 (by decide) (by decide) (lt491 hn (ltS he (by decide))) (kdS_33 he) rfl ?_
    refine zr_imul (xd dX0_putInto 54 rfl) ?_
    exact xr_iret (xd dX0_putInto 55 rfl) rfl (by decide) (by decide) (fun _ => rfl) ⟨_, _, _, rfl, rfl, h⟩
  · replace h := ifp h c7
    refine xr_iconst (v := oI 3) (xd dX0_putInto 6 rfl) (by decide) ?_
    refine xr_iload_n (xd dX0_putInto 7 rfl) 2 rfl ?_
    refine zr_imul (xd dX0_putInto 8 rfl) ?_
    refine xr_iconst (v := oI 2) (xd dX0_putInto 9 rfl) (by decide) ?_
    refine zr_iadd (xd dX0_putInto 10 rfl) ?_
    refine xr_aload_n (xd dX0_putInto 11 rfl) 1 rfl ?_
    refine zr_alen (v := (ln0 p1 : Int)) 0 (xd dX0_putInto 12 rfl) (lt491 hn h_p1.2) (by decide) h_p1.1 rfl rfl ?_
    obtain ⟨o8, h⟩ := h
    obtain ⟨o9, h⟩ := h
    refine zr_icmp_ge 70 (xd dX0_putInto 13 rfl) (by decide) o8 o9 (fun c10 => ?_) (fun c10 => ?_)
    · replace h := ifn h c10
      refine xr_iconst (v := oI 3) (xd dX0_putInto 51 rfl) (by decide) ?_
      refine xr_aload_n (xd dX0_putInto 52 rfl) 0 rfl ?_
      refine zr_getI 0 2 2 rfl (xd dX0_putInto 53 rfl) f0_18 (by decide) (by decide) (lt491 hn (ltS he (by decide))) (kdS_33 he) rfl ?_
      refine zr_imul (xd dX0_putInto 54 rfl) ?_
      exact xr_iret (xd dX0_putInto 55 rfl) rfl (by decide) (by decide) (fun _ => rfl) ⟨_, _, _, rfl, rfl, h⟩
    · replace h := ifp h c10
      refine xr_aload_n (xd dX0_putInto 14 rfl) 1 rfl ?_
      refine xr_iconst (v := oI 3) (xd dX0_putInto 15 rfl) (by decide) ?_
      refine xr_iload_n (xd dX0_putInto 16 rfl) 2 rfl ?_
      refine zr_imul (xd dX0_putInto 17 rfl) ?_
      refine xr_aload_n (xd dX0_putInto 18 rfl) 0 rfl ?_
      refine xr_getR (b := (e + 34)) 0 0 (xd dX0_putInto 19 rfl) f0_9 (by decide) (by decide) (lt491 hn (ltS he (by decide))) (kdS_33 he) rfl (rS_33_0 hR he) ?_
      refine xr_iload_n (xd dX0_putInto 20 rfl) 2 rfl ?_
      obtain ⟨o11, h⟩ := h
      refine zr_iaload (xd dX0_putInto 21 rfl) (lt491 hn (ltS he (by decide))) (kdS_34 he) (lnS_34 he) (by decide) o11 ?_
      obtain ⟨o12, h⟩ := h
      obtain ⟨J13, e_J13⟩ : ∃ z_ : zM, z_ = zs J3 p1 (3 * x2) (J3 (e + 34) x2) := ⟨_, rfl⟩
      replace h := h J13 e_J13
      refine zr_iastore e_J13 (xd dX0_putInto 22 rfl) (lt491 hn h_p1.2) h_p1.1 rfl (ln0_lt p1) o12 ?_
      refine xr_aload_n (xd dX0_putInto 23 rfl) 1 rfl ?_
      refine xr_iconst (v := oI 3) (xd dX0_putInto 24 rfl) (by decide) ?_
      refine xr_iload_n (xd dX0_putInto 25 rfl) 2 rfl ?_
      refine zr_imul (xd dX0_putInto 26 rfl) ?_
      refine xr_iconst (v := oI 1) (xd dX0_putInto 27 rfl) (by decide) ?_
      refine zr_iadd (xd dX0_putInto 28 rfl) ?_
      refine xr_aload_n (xd dX0_putInto 29 rfl) 0 rfl ?_
      refine xr_getR (b := (e + 35)) 0 1 (xd dX0_putInto 30 rfl) f0_15 (by decide) (by decide) (lt491 hn (ltS he (by decide))) (kdS_33 he) rfl (rS_33_1 hR he) ?_
      refine xr_iload_n (xd dX0_putInto 31 rfl) 2 rfl ?_
      obtain ⟨o14, h⟩ := h
      refine zr_iaload (xd dX0_putInto 32 rfl) (lt491 hn (ltS he (by decide))) (kdS_35 he) (lnS_35 he) (by decide) o14 ?_
      refine xr_bipush (v := oI 8) (xd dX0_putInto 33 rfl) (by decide) ?_
      refine zr_iushr (xd dX0_putInto 34 rfl) ?_
      obtain ⟨o15, h⟩ := h
      obtain ⟨J16, e_J16⟩ : ∃ z_ : zM, z_ = zs J13 p1 ((3 * x2) + 1) (zush (J13 (e + 35) x2) 8) := ⟨_, rfl⟩
      replace h := h J16 e_J16
      refine zr_iastore e_J16 (xd dX0_putInto 35 rfl) (lt491 hn h_p1.2) h_p1.1 rfl (ln0_lt p1) o15 ?_
      refine xr_aload_n (xd dX0_putInto 36 rfl) 1 rfl ?_
      refine xr_iconst (v := oI 3) (xd dX0_putInto 37 rfl) (by decide) ?_
      refine xr_iload_n (xd dX0_putInto 38 rfl) 2 rfl ?_
      refine zr_imul (xd dX0_putInto 39 rfl) ?_
      refine xr_iconst (v := oI 2) (xd dX0_putInto 40 rfl) (by decide) ?_
      refine zr_iadd (xd dX0_putInto 41 rfl) ?_
      refine xr_aload_n (xd dX0_putInto 42 rfl) 0 rfl ?_
      refine xr_getR (b := (e + 35)) 0 1 (xd dX0_putInto 43 rfl) f0_15 (by decide) (by decide) (lt491 hn (ltS he (by decide))) (kdS_33 he) rfl (rS_33_1 hR he) ?_
      refine xr_iload_n (xd dX0_putInto 44 rfl) 2 rfl ?_
      obtain ⟨o17, h⟩ := h
      refine zr_iaload (xd dX0_putInto 45 rfl) (lt491 hn (ltS he (by decide))) (kdS_35 he) (lnS_35 he) (by decide) o17 ?_
      refine xr_sipush (v := oI 255) (xd dX0_putInto 46 rfl) (by decide) ?_
      refine zr_iand (xd dX0_putInto 47 rfl) ?_
      obtain ⟨o18, h⟩ := h
      obtain ⟨J19, e_J19⟩ : ∃ z_ : zM, z_ = zs J16 p1 ((3 * x2) + 2) (zand (J16 (e + 35) x2) 255) := ⟨_, rfl⟩
      replace h := h J19 e_J19
      refine zr_iastore e_J19 (xd dX0_putInto 48 rfl) (lt491 hn h_p1.2) h_p1.1 rfl (ln0_lt p1) o18 ?_
      refine zr_iinc [(0, .ref (e + 33)), (1, .ref p1), (2, .int (oI (x2 + 1)))] (xd dX0_putInto 49 rfl) 2 rfl (by decide) rfl ?_
      refine xr_goto 2 (xd dX0_putInto 50 rfl) (by decide) ?_
      exact h
def w_X4_lengthOf (r : Nat) (p1 : Int) (J : zM) (L : yM) (Q : Int → zM → yM → Prop) : Prop := R32 p1 ∧ (if p1 < 0 then Q 0 J L else R32 (J r 5) ∧ (if p1 < (J r 5) then ((0 : Int) ≤ p1 ∧ p1 < (rq r : Int)) ∧ ((0 : Int) ≤ (J (r + 3 + rq r) p1) ∧ (J (r + 3 + rq r) p1) < (rq r : Int)) ∧ Q (J (r + 2 + rq r) (J (r + 3 + rq r) p1)) J L else Q 0 J L))
set_option maxHeartbeats 4000000 in
set_option maxRecDepth 100000 in
theorem v_X4_lengthOf {b : Nat} {dC : Nat → ClassId} {dI : Nat → Nat → Nat} {cA : Nat → ClassId} {ts : Nat → Nat} {l : Launch} {n : Nat} {R : Nat → Nat → Option Nat} {al : Bool} (hn : 491 ≤ n) (hR : xRk R) {r : Nat} {p1 : Int} (h_r : iRows r) {J : zM} {L : yM} {Q : Int → zM → yM → Prop} (h : w_X4_lengthOf r p1 J L Q) : xCn (xGm b dC dI cA ts) l mX4_lengthOf [.ref r, .int (oI p1)] al (n, R, zi J, li L) 0 0 (zQ1 n R Q) (fun _ _ => False) := by
  refine xCn.ofJ (by decide) (Nat.le_of_ble_eq_true rfl) ?_
  show xJ _ _ _ _ _ _ _ _ _ 0 [(0, .ref r), (1, .int (oI p1))] [] _ _ _ _ _
  unfold w_X4_lengthOf at h
  refine xr_iload_n (xd dX4_lengthOf 0 rfl) 1 rfl ?_
  obtain ⟨o1, h⟩ := h
  refine zr_if_lt 26 (xd dX4_lengthOf 1 rfl) (by decide) o1 (fun c2 => ?_) (fun c2 => ?_)
  · replace h := ifp h c2
    refine xr_iconst (v := oI 0) (xd dX4_lengthOf 14 rfl) (by decide) ?_
    exact xr_iret (xd dX4_lengthOf 15 rfl) rfl (by decide) (by decide) (fun _ => rfl) ⟨_, _, _, rfl, rfl, h⟩
  · replace h := ifn h c2
    refine xr_iload_n (xd dX4_lengthOf 2 rfl) 1 rfl ?_
    refine xr_aload_n (xd dX4_lengthOf 3 rfl) 0 rfl ?_
    refine zr_getI 4 5 5 rfl (xd dX4_lengthOf 4 rfl) f4_28 (by decide) (by decide) (lt491 hn (rows_lt0 h_r)) (rows_kd h_r).1 rfl ?_
    obtain ⟨o3, h⟩ := h
    refine zr_icmp_ge 26 (xd dX4_lengthOf 5 rfl) (by decide) o1 o3 (fun c4 => ?_) (fun c4 => ?_)
    · replace h := ifn h c4
      refine xr_iconst (v := oI 0) (xd dX4_lengthOf 14 rfl) (by decide) ?_
      exact xr_iret (xd dX4_lengthOf 15 rfl) rfl (by decide) (by decide) (fun _ => rfl) ⟨_, _, _, rfl, rfl, h⟩
    · replace h := ifp h c4
      refine xr_aload_n (xd dX4_lengthOf 6 rfl) 0 rfl ?_
      refine xr_getR (b := (r + 2 + rq r)) 4 3 (xd dX4_lengthOf 7 rfl) f4_21 (by decide) (by decide) (lt491 hn (rows_lt0 h_r)) (rows_kd h_r).1 rfl (rows_3 hR h_r) ?_
      refine xr_aload_n (xd dX4_lengthOf 8 rfl) 0 rfl ?_
      refine xr_getR (b := (r + 3 + rq r)) 4 4 (xd dX4_lengthOf 9 rfl) f4_25 (by decide) (by decide) (lt491 hn (rows_lt0 h_r)) (rows_kd h_r).1 rfl (rows_4 hR h_r) ?_
      refine xr_iload_n (xd dX4_lengthOf 10 rfl) 1 rfl ?_
      obtain ⟨o5, h⟩ := h
      refine zr_iaload (xd dX4_lengthOf 11 rfl) (lt491 hn (rows_lt h_r)) (rows_kd h_r).2.2.2 (rows_ln h_r).2.2 (rq_lt _) o5 ?_
      obtain ⟨o6, h⟩ := h
      refine zr_iaload (xd dX4_lengthOf 12 rfl) (lt491 hn (rows_lt2 h_r)) (rows_kd h_r).2.2.1 (rows_ln h_r).2.1 (rq_lt _) o6 ?_
      refine xr_goto 27 (xd dX4_lengthOf 13 rfl) (by decide) ?_
      exact xr_iret (xd dX4_lengthOf 15 rfl) rfl (by decide) (by decide) (fun _ => rfl) ⟨_, _, _, rfl, rfl, h⟩
def w_X4_copyInto (r : Nat) (p1 : Nat) (p2 : Int) (J : zM) (L : yM) (Q : Int → zM → yM → Prop) : Prop := w_X4_lengthOf r p2 J L (fun r3 J1 L2 => R32 r3 ∧ R32 (ln0 p1 : Int) ∧ ∀ x6 : Int, x6 = (min r3 (ln0 p1 : Int)) → R32 x6 ∧ (if 0 < x6 then ((0 : Int) ≤ p2 ∧ p2 < (rq r : Int)) ∧ ((0 : Int) ≤ (J1 (r + 3 + rq r) p2) ∧ (J1 (r + 3 + rq r) p2) < (rq r : Int)) ∧ ((0 : Int) ≤ 0 ∧ (0 : Int) ≤ 0 ∧ (0 : Int) ≤ x6 ∧ (0 + x6 : Int) ≤ (rw0 r : Int) ∧ (0 + x6 : Int) ≤ (ln0 p1 : Int)) ∧ ∀ J13 : zM, J13 = zcp J1 (r + 2 + ((J1 (r + 3 + rq r) p2)).toNat) 0 p1 0 x6 → Q x6 J13 L2 else Q x6 J1 L2))
set_option maxHeartbeats 4000000 in
set_option maxRecDepth 100000 in
theorem v_X4_copyInto {b : Nat} {dC : Nat → ClassId} {dI : Nat → Nat → Nat} {cA : Nat → ClassId} {ts : Nat → Nat} {l : Launch} {n : Nat} {R : Nat → Nat → Option Nat} {al : Bool} (hn : 491 ≤ n) (hR : xRk R) {r : Nat} {p1 : Nat} {p2 : Int} (h_r : iRows r) (h_p1 : za p1) {J : zM} {L : yM} {Q : Int → zM → yM → Prop} (h : w_X4_copyInto r p1 p2 J L Q) : xCn (xGm b dC dI cA ts) l mX4_copyInto [.ref r, .ref p1, .int (oI p2)] al (n, R, zi J, li L) 0 0 (zQ1 n R Q) (fun _ _ => False) := by
  refine xCn.ofJ (by decide) (Nat.le_of_ble_eq_true rfl) ?_
  show xJ _ _ _ _ _ _ _ _ _ 0 [(0, .ref r), (1, .ref p1), (2, .int (oI p2))] [] _ _ _ _ _
  unfold w_X4_copyInto at h
  refine xr_aload_n (xd dX4_copyInto 0 rfl) 0 rfl ?_
  refine xr_iload_n (xd dX4_copyInto 1 rfl) 2 rfl ?_
  refine xr_callV mX4_lengthOf 1 [.int (oI p2)] (xd dX4_copyInto 2 rfl) l4_41 kX4_lengthOf rfl (lt491 hn (rows_lt0 h_r)) (rows_kd h_r).1 (by decide) rfl (by decide) (Nat.le_of_ble_eq_true rfl) (v_X4_lengthOf hn hR h_r h) (by decide) (by decide) (fun r_ M_ h_ => ?_) (fun _ _ h_ => h_.elim)
  obtain ⟨r3, J1, L2, rfl, rfl, h⟩ := h_
  show xJ _ _ _ _ _ _ _ _ _ 5 [(0, .ref r), (1, .ref p1), (2, .int (oI p2))] [.int (oI r3)] _ _ _ (zi J1) (li L2)
  refine xr_aload_n (xd dX4_copyInto 3 rfl) 1 rfl ?_
  refine zr_alen (v := (ln0 p1 : Int)) 0 (xd dX4_copyInto 4 rfl) (lt491 hn h_p1.2) (by decide) h_p1.1 rfl rfl ?_
  obtain ⟨o4, h⟩ := h
  obtain ⟨o5, h⟩ := h
  refine zr_min (xd dX4_copyInto 5 rfl) l4_45 kmin ⟨Nat.le_of_ble_eq_true rfl, Nat.le_of_ble_eq_true rfl⟩ (by decide) (by decide) o4 o5 ?_
  obtain ⟨x6, e_x6⟩ : ∃ z_ : Int, z_ = (min r3 (ln0 p1 : Int)) := ⟨_, rfl⟩
  replace h := h x6 e_x6
  refine zr_nm e_x6 ?_
  refine xr_istore_n [(0, .ref r), (1, .ref p1), (2, .int (oI p2)), (3, .int (oI x6))] (xd dX4_copyInto 6 rfl) rfl (by decide) rfl ?_
  refine xr_iload_n (xd dX4_copyInto 7 rfl) 3 rfl ?_
  obtain ⟨o7, h⟩ := h
  refine zr_if_le 33 (xd dX4_copyInto 8 rfl) (by decide) o7 (fun c8 => ?_) (fun c8 => ?_)
  · replace h := ifn h c8
    refine xr_iload_n (xd dX4_copyInto 21 rfl) 3 rfl ?_
    exact xr_iret (xd dX4_copyInto 22 rfl) rfl (by decide) (by decide) (fun _ => rfl) ⟨_, _, _, rfl, rfl, h⟩
  · replace h := ifp h c8
    refine xr_aload_n (xd dX4_copyInto 9 rfl) 0 rfl ?_
    refine xr_getR (b := (r + 1)) 4 2 (xd dX4_copyInto 10 rfl) f4_18 (by decide) (by decide) (lt491 hn (rows_lt0 h_r)) (rows_kd h_r).1 rfl (rows_2 hR h_r) ?_
    refine xr_aload_n (xd dX4_copyInto 11 rfl) 0 rfl ?_
    refine xr_getR (b := (r + 3 + rq r)) 4 4 (xd dX4_copyInto 12 rfl) f4_25 (by decide) (by decide) (lt491 hn (rows_lt0 h_r)) (rows_kd h_r).1 rfl (rows_4 hR h_r) ?_
    refine xr_iload_n (xd dX4_copyInto 13 rfl) 2 rfl ?_
    obtain ⟨o9, h⟩ := h
    refine zr_iaload (xd dX4_copyInto 14 rfl) (lt491 hn (rows_lt h_r)) (rows_kd h_r).2.2.2 (rows_ln h_r).2.2 (rq_lt _) o9 ?_
    obtain ⟨o10, h⟩ := h
    have f11 := rowsI hR h_r o10
    refine zr_aaload (b := (r + 2 + ((J1 (r + 3 + rq r) p2)).toNat)) 3 (xd dX4_copyInto 15 rfl) (lt491 hn (rows_lt1 h_r)) (by decide) (by decide) (rows_kd h_r).2.1 (rows_ln h_r).1 (rq_lt _) o10 f11.1 ?_
    refine xr_iconst (v := oI 0) (xd dX4_copyInto 16 rfl) (by decide) ?_
    refine xr_aload_n (xd dX4_copyInto 17 rfl) 1 rfl ?_
    refine xr_iconst (v := oI 0) (xd dX4_copyInto 18 rfl) (by decide) ?_
    refine xr_iload_n (xd dX4_copyInto 19 rfl) 3 rfl ?_
    obtain ⟨o12, h⟩ := h
    obtain ⟨J13, e_J13⟩ : ∃ z_ : zM, z_ = zcp J1 (r + 2 + ((J1 (r + 3 + rq r) p2)).toNat) 0 p1 0 x6 := ⟨_, rfl⟩
    replace h := h J13 e_J13
    refine zr_acopy e_J13 (xd dX4_copyInto 20 rfl) l4_31 (lt491 hn f11.2.1.2) f11.2.1.1 f11.2.2 (rw0_lt _) (lt491 hn h_p1.2) h_p1.1 rfl (ln0_lt p1) o12.1 o12.2.1 o12.2.2.1 o12.2.2.2.1 o12.2.2.2.2 ⟨Nat.le_of_ble_eq_true rfl, Nat.le_of_ble_eq_true rfl⟩ ?_
    refine xr_iload_n (xd dX4_copyInto 21 rfl) 3 rfl ?_
    exact xr_iret (xd dX4_copyInto 22 rfl) rfl (by decide) (by decide) (fun _ => rfl) ⟨_, _, _, rfl, rfl, h⟩
def w_X1_load (p1 : Nat) (p2 : Int) (J : zM) (L : yM) (Q : zM → yM → Prop) : Prop := w_X4_copyInto p1 4 p2 J L (fun r3 J1 L2 => ∀ J4 : zM, J4 = zs J1 3 1 r3 → ∀ J5 : zM, J5 = zs J4 3 3 0 → Q J5 L2)
set_option maxHeartbeats 4000000 in
set_option maxRecDepth 100000 in
theorem v_X1_load {b : Nat} {dC : Nat → ClassId} {dI : Nat → Nat → Nat} {cA : Nat → ClassId} {ts : Nat → Nat} {l : Launch} {n : Nat} {R : Nat → Nat → Option Nat} {al : Bool} (hn : 491 ≤ n) (hR : xRk R) {p1 : Nat} {p2 : Int} (h_p1 : iRows p1) {J : zM} {L : yM} {Q : zM → yM → Prop} (h : w_X1_load p1 p2 J L Q) : xCn (xGm b dC dI cA ts) l mX1_load [.ref 3, .ref p1, .int (oI p2)] al (n, R, zi J, li L) 0 0 (zQ0 n R Q) (fun _ _ => False) := by
  refine xCn.ofJ (by decide) (Nat.le_of_ble_eq_true rfl) ?_
  show xJ _ _ _ _ _ _ _ _ _ 0 [(0, .ref 3), (1, .ref p1), (2, .int (oI p2))] [] _ _ _ _ _
  unfold w_X1_load at h
  refine xr_aload_n (xd dX1_load 0 rfl) 0 rfl ?_
  refine xr_aload_n (xd dX1_load 1 rfl) 1 rfl ?_
  refine xr_aload_n (xd dX1_load 2 rfl) 0 rfl ?_
  refine xr_getR (b := 4) 1 0 (xd dX1_load 3 rfl) f1_9 (by decide) (by decide) (lt491 hn (by decide)) kd_3 rfl (r_3_0 hR) ?_
  refine xr_iload_n (xd dX1_load 4 rfl) 2 rfl ?_
  refine xr_callV mX4_copyInto 2 [.ref 4, .int (oI p2)] (xd dX1_load 5 rfl) l1_15 kX4_copyInto rfl (lt491 hn (rows_lt0 h_p1)) (rows_kd h_p1).1 (by decide) rfl (by decide) (Nat.le_of_ble_eq_true rfl) (v_X4_copyInto hn hR h_p1 (za_mk kd_4 (by decide)) h) (by decide) (by decide) (fun r_ M_ h_ => ?_) (fun _ _ h_ => h_.elim)
  obtain ⟨r3, J1, L2, rfl, rfl, h⟩ := h_
  show xJ _ _ _ _ _ _ _ _ _ 10 [(0, .ref 3), (1, .ref p1), (2, .int (oI p2))] [.int (oI r3), .ref 3] _ _ _ (zi J1) (li L2)
  obtain ⟨J4, e_J4⟩ : ∃ z_ : zM, z_ = zs J1 3 1 r3 := ⟨_, rfl⟩
  replace h := h J4 e_J4
  refine zr_putI 1 1 1 rfl e_J4 (xd dX1_load 6 rfl) f1_21 (by decide) (by decide) (lt491 hn (by decide)) kd_3 (Or.inl rfl) rfl rfl (fun _ => rfl) ?_
  refine xr_aload_n (xd dX1_load 7 rfl) 0 rfl ?_
  refine xr_iconst (v := oI 0) (xd dX1_load 8 rfl) (by decide) ?_
  obtain ⟨J5, e_J5⟩ : ∃ z_ : zM, z_ = zs J4 3 3 0 := ⟨_, rfl⟩
  replace h := h J5 e_J5
  refine zr_putI 1 3 3 rfl e_J5 (xd dX1_load 9 rfl) f1_25 (by decide) (by decide) (lt491 hn (by decide)) kd_3 (Or.inl rfl) rfl rfl (fun _ => rfl) ?_
  exact xr_vret (xd dX1_load 10 rfl) rfl (by decide) (by decide) (fun _ => rfl) ⟨_, _, rfl, rfl, h⟩
def w_X1_hasMore  (J : zM) (L : yM) (Q : Int → zM → yM → Prop) : Prop := R32 (J 3 3) ∧ R32 (J 3 1) ∧ (if (J 3 3) < (J 3 1) then Q 1 J L else Q 0 J L)
set_option maxHeartbeats 4000000 in
set_option maxRecDepth 100000 in
theorem v_X1_hasMore {b : Nat} {dC : Nat → ClassId} {dI : Nat → Nat → Nat} {cA : Nat → ClassId} {ts : Nat → Nat} {l : Launch} {n : Nat} {R : Nat → Nat → Option Nat} {al : Bool} (hn : 491 ≤ n) (hR : xRk R)   {J : zM} {L : yM} {Q : Int → zM → yM → Prop} (h : w_X1_hasMore  J L Q) : xCn (xGm b dC dI cA ts) l mX1_hasMore [.ref 3] al (n, R, zi J, li L) 0 0 (zQ1 n R Q) (fun _ _ => False) := by
  refine xCn.ofJ (by decide) (Nat.le_of_ble_eq_true rfl) ?_
  show xJ _ _ _ _ _ _ _ _ _ 0 [(0, .ref 3)] [] _ _ _ _ _
  unfold w_X1_hasMore at h
  refine xr_aload_n (xd dX1_hasMore 0 rfl) 0 rfl ?_
  refine zr_getI 1 3 3 rfl (xd dX1_hasMore 1 rfl) f1_25 (by decide) (by decide) (lt491 hn (by decide)) kd_3 rfl ?_
  refine xr_aload_n (xd dX1_hasMore 2 rfl) 0 rfl ?_
  refine zr_getI 1 1 1 rfl (xd dX1_hasMore 3 rfl) f1_21 (by decide) (by decide) (lt491 hn (by decide)) kd_3 rfl ?_
  obtain ⟨o1, h⟩ := h
  obtain ⟨o2, h⟩ := h
  refine zr_icmp_ge 15 (xd dX1_hasMore 4 rfl) (by decide) o1 o2 (fun c3 => ?_) (fun c3 => ?_)
  · replace h := ifn h c3
    refine xr_iconst (v := oI 0) (xd dX1_hasMore 7 rfl) (by decide) ?_
    exact xr_zret (xd dX1_hasMore 8 rfl) rfl (zret_b (Or.inl rfl)) (by decide) (by decide) (fun _ => rfl) ⟨_, _, _, rfl, rfl, h⟩
  · replace h := ifp h c3
    refine xr_iconst (v := oI 1) (xd dX1_hasMore 5 rfl) (by decide) ?_
    refine xr_goto 16 (xd dX1_hasMore 6 rfl) (by decide) ?_
    exact xr_zret (xd dX1_hasMore 8 rfl) rfl (zret_b (Or.inr rfl)) (by decide) (by decide) (fun _ => rfl) ⟨_, _, _, rfl, rfl, h⟩
def w_X1_shortAt (p1 : Int) (J : zM) (L : yM) (Q : Int → zM → yM → Prop) : Prop := R32 p1 ∧ (if p1 < 0 then Q 0 J L else R32 (p1 + 1) ∧ R32 (J 3 1) ∧ (if (p1 + 1) < (J 3 1) then ((0 : Int) ≤ p1 ∧ p1 < 500) ∧ ((0 : Int) ≤ (p1 + 1) ∧ (p1 + 1) < 500) ∧ Q (zor (zshl (J 4 p1) 8) (J 4 (p1 + 1))) J L else Q 0 J L))
set_option maxHeartbeats 4000000 in
set_option maxRecDepth 100000 in
theorem v_X1_shortAt {b : Nat} {dC : Nat → ClassId} {dI : Nat → Nat → Nat} {cA : Nat → ClassId} {ts : Nat → Nat} {l : Launch} {n : Nat} {R : Nat → Nat → Option Nat} {al : Bool} (hn : 491 ≤ n) (hR : xRk R) {p1 : Int}  {J : zM} {L : yM} {Q : Int → zM → yM → Prop} (h : w_X1_shortAt p1 J L Q) : xCn (xGm b dC dI cA ts) l mX1_shortAt [.ref 3, .int (oI p1)] al (n, R, zi J, li L) 0 0 (zQ1 n R Q) (fun _ _ => False) := by
  refine xCn.ofJ (by decide) (Nat.le_of_ble_eq_true rfl) ?_
  show xJ _ _ _ _ _ _ _ _ _ 0 [(0, .ref 3), (1, .int (oI p1))] [] _ _ _ _ _
  unfold w_X1_shortAt at h
  refine xr_iload_n (xd dX1_shortAt 0 rfl) 1 rfl ?_
  obtain ⟨o1, h⟩ := h
  refine zr_if_lt 35 (xd dX1_shortAt 1 rfl) (by decide) o1 (fun c2 => ?_) (fun c2 => ?_)
  · replace h := ifp h c2
    refine xr_iconst (v := oI 0) (xd dX1_shortAt 22 rfl) (by decide) ?_
    exact xr_iret (xd dX1_shortAt 23 rfl) rfl (by decide) (by decide) (fun _ => rfl) ⟨_, _, _, rfl, rfl, h⟩
  · replace h := ifn h c2
    refine xr_iload_n (xd dX1_shortAt 2 rfl) 1 rfl ?_
    refine xr_iconst (v := oI 1) (xd dX1_shortAt 3 rfl) (by decide) ?_
    refine zr_iadd (xd dX1_shortAt 4 rfl) ?_
    refine xr_aload_n (xd dX1_shortAt 5 rfl) 0 rfl ?_
    refine zr_getI 1 1 1 rfl (xd dX1_shortAt 6 rfl) f1_21 (by decide) (by decide) (lt491 hn (by decide)) kd_3 rfl ?_
    obtain ⟨o3, h⟩ := h
    obtain ⟨o4, h⟩ := h
    refine zr_icmp_ge 35 (xd dX1_shortAt 7 rfl) (by decide) o3 o4 (fun c5 => ?_) (fun c5 => ?_)
    · replace h := ifn h c5
      refine xr_iconst (v := oI 0) (xd dX1_shortAt 22 rfl) (by decide) ?_
      exact xr_iret (xd dX1_shortAt 23 rfl) rfl (by decide) (by decide) (fun _ => rfl) ⟨_, _, _, rfl, rfl, h⟩
    · replace h := ifp h c5
      refine xr_aload_n (xd dX1_shortAt 8 rfl) 0 rfl ?_
      refine xr_getR (b := 4) 1 0 (xd dX1_shortAt 9 rfl) f1_9 (by decide) (by decide) (lt491 hn (by decide)) kd_3 rfl (r_3_0 hR) ?_
      refine xr_iload_n (xd dX1_shortAt 10 rfl) 1 rfl ?_
      obtain ⟨o6, h⟩ := h
      refine zr_iaload (xd dX1_shortAt 11 rfl) (lt491 hn (by decide)) kd_4 ln_4 (by decide) o6 ?_
      refine xr_bipush (v := oI 8) (xd dX1_shortAt 12 rfl) (by decide) ?_
      refine zr_ishl (xd dX1_shortAt 13 rfl) ?_
      refine xr_aload_n (xd dX1_shortAt 14 rfl) 0 rfl ?_
      refine xr_getR (b := 4) 1 0 (xd dX1_shortAt 15 rfl) f1_9 (by decide) (by decide) (lt491 hn (by decide)) kd_3 rfl (r_3_0 hR) ?_
      refine xr_iload_n (xd dX1_shortAt 16 rfl) 1 rfl ?_
      refine xr_iconst (v := oI 1) (xd dX1_shortAt 17 rfl) (by decide) ?_
      refine zr_iadd (xd dX1_shortAt 18 rfl) ?_
      obtain ⟨o7, h⟩ := h
      refine zr_iaload (xd dX1_shortAt 19 rfl) (lt491 hn (by decide)) kd_4 ln_4 (by decide) o7 ?_
      refine zr_ior (xd dX1_shortAt 20 rfl) ?_
      refine xr_goto 36 (xd dX1_shortAt 21 rfl) (by decide) ?_
      exact xr_iret (xd dX1_shortAt 23 rfl) rfl (by decide) (by decide) (fun _ => rfl) ⟨_, _, _, rfl, rfl, h⟩
def w_X1_cutRecord  (J : zM) (L : yM) (Q : Int → zM → yM → Prop) : Prop := ∀ J1 : zM, J1 = zs J 3 2 (J 3 3) → ∀ K5 : Int → zM → yM → Prop, (∀ (x2 : Int) (J3 : zM) (L4 : yM), (∀ K9 : Int → zM → yM → Prop, (∀ (x6 : Int) (J7 : zM) (L8 : yM), (∀ K12 : zM → yM → Prop, (∀ (J10 : zM) (L11 : yM), (∀ K16 : Int → zM → yM → Prop, (∀ (x13 : Int) (J14 : zM) (L15 : yM), (∀ J17 : zM, J17 = zs J14 3 7 ((J10 3 2) + x13) → R32 (J17 3 7) ∧ R32 (J17 3 1) ∧ (if (J17 3 1) < (J17 3 7) then Q 0 J17 L15 else ∀ K23 : zM → yM → Prop, (∀ (J21 : zM) (L22 : yM), (w_X1_shortAt ((J21 3 7) - 2) J21 L22 (fun r26 J24 L25 => ∀ J27 : zM, J27 = zs J24 3 8 r26 → R32 ((J27 3 7) + (J27 3 8)) ∧ R32 (J27 3 1) ∧ (if (J27 3 1) < ((J27 3 7) + (J27 3 8)) then Q 0 J27 L25 else ∀ J31 : zM, J31 = zs J27 3 3 ((J27 3 7) + (J27 3 8)) → ∀ K35 : Int → zM → yM → Prop, (∀ (x32 : Int) (J33 : zM) (L34 : yM), (∀ J36 : zM, J36 = zs J33 3 4 x32 → ∀ J37 : zM, J37 = zs J36 3 5 x2 → w_X1_shortAt ((J37 3 7) - 4) J37 L34 (fun r40 J38 L39 => ∀ J41 : zM, J41 = zs J38 3 6 r40 → Q 1 J41 L39)) → K35 x32 J33 L34) → R32 x6 ∧ (if x6 = 0 then K35 0 J31 L25 else K35 (x2 - 32) J31 L25)))) → K23 J21 L22) → R32 x6 ∧ (if x6 = 0 then ((0 : Int) ≤ ((J17 3 2) + 1) ∧ ((J17 3 2) + 1) < 500) ∧ R32 (J17 4 ((J17 3 2) + 1)) ∧ (if (J17 4 ((J17 3 2) + 1)) = 0 then K23 J17 L15 else Q 0 J17 L15) else K23 J17 L15))) → K16 x13 J14 L15) → R32 x6 ∧ (if x6 = 0 then K16 6 J10 L11 else K16 5 J10 L11)) → K12 J10 L11) → R32 x6 ∧ (if x6 = 0 then R32 x2 ∧ (if x2 = 21 then K12 J7 L8 else (if x2 = 22 then K12 J7 L8 else (if x2 = 26 then K12 J7 L8 else Q 0 J7 L8))) else K12 J7 L8)) → K9 x6 J7 L8) → ∀ K59 : zM → yM → Prop, (∀ (J57 : zM) (L58 : yM), (K9 1 J57 L58) → K59 J57 L58) → R32 x2 ∧ (if x2 = 34 then K59 J3 L4 else (if x2 = 35 then K59 J3 L4 else K9 0 J3 L4))) → K5 x2 J3 L4) → R32 (J1 3 2) ∧ R32 (J1 3 1) ∧ (if (J1 3 2) < (J1 3 1) then ((0 : Int) ≤ (J1 3 2) ∧ (J1 3 2) < 500) ∧ K5 (J1 4 (J1 3 2)) J1 L else K5 0 J1 L)
set_option maxHeartbeats 4000000 in
set_option maxRecDepth 100000 in
theorem v_X1_cutRecord {b : Nat} {dC : Nat → ClassId} {dI : Nat → Nat → Nat} {cA : Nat → ClassId} {ts : Nat → Nat} {l : Launch} {n : Nat} {R : Nat → Nat → Option Nat} {al : Bool} (hn : 491 ≤ n) (hR : xRk R)   {J : zM} {L : yM} {Q : Int → zM → yM → Prop} (h : w_X1_cutRecord  J L Q) : xCn (xGm b dC dI cA ts) l mX1_cutRecord [.ref 3] al (n, R, zi J, li L) 0 0 (zQ1 n R Q) (fun _ _ => False) := by
  refine xCn.ofJ (by decide) (Nat.le_of_ble_eq_true rfl) ?_
  show xJ _ _ _ _ _ _ _ _ _ 0 [(0, .ref 3)] [] _ _ _ _ _
  unfold w_X1_cutRecord at h
  refine xr_aload_n (xd dX1_cutRecord 0 rfl) 0 rfl ?_
  refine xr_aload_n (xd dX1_cutRecord 1 rfl) 0 rfl ?_
  refine zr_getI 1 3 3 rfl (xd dX1_cutRecord 2 rfl) f1_25 (by decide) (by decide) (lt491 hn (by decide)) kd_3 rfl ?_
  obtain ⟨J1, e_J1⟩ : ∃ z_ : zM, z_ = zs J 3 2 (J 3 3) := ⟨_, rfl⟩
  replace h := h J1 e_J1
  refine zr_putI 1 2 2 rfl e_J1 (xd dX1_cutRecord 3 rfl) f1_28 (by decide) (by decide) (lt491 hn (by decide)) kd_3 (Or.inl rfl) rfl rfl (fun _ => rfl) ?_
  refine xr_aload_n (xd dX1_cutRecord 4 rfl) 0 rfl ?_
  refine zr_getI 1 2 2 rfl (xd dX1_cutRecord 5 rfl) f1_28 (by decide) (by decide) (lt491 hn (by decide)) kd_3 rfl ?_
  refine xr_aload_n (xd dX1_cutRecord 6 rfl) 0 rfl ?_
  refine zr_getI 1 1 1 rfl (xd dX1_cutRecord 7 rfl) f1_21 (by decide) (by decide) (lt491 hn (by decide)) kd_3 rfl ?_
  replace h := h (fun (x2 : Int) (J3 : zM) (L4 : yM) => xJ (xGm b dC dI cA ts) l mX1_cutRecord 0 0 (zQ1 n R Q) (fun _ _ => False) 0 0 32 [(0, .ref 3)] [.int (oI x2)] al n R (zi J3) (li L4)) (by
    intro x2 J3 L4 h
    show xJ _ _ _ _ _ _ _ _ _ 32 [(0, .ref 3)] [.int (oI x2)] _ _ _ _ _
    refine xr_istore_n [(0, .ref 3), (1, .int (oI x2))] (xd dX1_cutRecord 16 rfl) rfl (by decide) rfl ?_
    refine xr_iload_n (xd dX1_cutRecord 17 rfl) 1 rfl ?_
    refine xr_bipush (v := oI 34) (xd dX1_cutRecord 18 rfl) (by decide) ?_
    replace h := h (fun (x6 : Int) (J7 : zM) (L8 : yM) => xJ (xGm b dC dI cA ts) l mX1_cutRecord 0 0 (zQ1 n R Q) (fun _ _ => False) 0 0 50 [(0, .ref 3), (1, .int (oI x2))] [.int (oI x6)] al n R (zi J7) (li L8)) (by
      intro x6 J7 L8 h
      show xJ _ _ _ _ _ _ _ _ _ 50 [(0, .ref 3), (1, .int (oI x2))] [.int (oI x6)] _ _ _ _ _
      refine xr_istore_n [(0, .ref 3), (1, .int (oI x2)), (2, .int (oI x6))] (xd dX1_cutRecord 26 rfl) rfl (by decide) rfl ?_
      refine xr_iload_n (xd dX1_cutRecord 27 rfl) 2 rfl ?_
      replace h := h (fun (J10 : zM) (L11 : yM) => xJ (xGm b dC dI cA ts) l mX1_cutRecord 0 0 (zQ1 n R Q) (fun _ _ => False) 0 0 75 [(0, .ref 3), (1, .int (oI x2)), (2, .int (oI x6))] [] al n R (zi J10) (li L11)) (by
        intro J10 L11 h
        show xJ _ _ _ _ _ _ _ _ _ 75 [(0, .ref 3), (1, .int (oI x2)), (2, .int (oI x6))] [] _ _ _ _ _
        refine xr_aload_n (xd dX1_cutRecord 40 rfl) 0 rfl ?_
        refine xr_aload_n (xd dX1_cutRecord 41 rfl) 0 rfl ?_
        refine zr_getI 1 2 2 rfl (xd dX1_cutRecord 42 rfl) f1_28 (by decide) (by decide) (lt491 hn (by decide)) kd_3 rfl ?_
        refine xr_iload_n (xd dX1_cutRecord 43 rfl) 2 rfl ?_
        replace h := h (fun (x13 : Int) (J14 : zM) (L15 : yM) => xJ (xGm b dC dI cA ts) l mX1_cutRecord 0 0 (zQ1 n R Q) (fun _ _ => False) 0 0 90 [(0, .ref 3), (1, .int (oI x2)), (2, .int (oI x6))] [.int (oI x13), .int (oI (J10 3 2)), .ref 3] al n R (zi J14) (li L15)) (by
          intro x13 J14 L15 h
          show xJ _ _ _ _ _ _ _ _ _ 90 [(0, .ref 3), (1, .int (oI x2)), (2, .int (oI x6))] [.int (oI x13), .int (oI (J10 3 2)), .ref 3] _ _ _ _ _
          refine zr_iadd (xd dX1_cutRecord 48 rfl) ?_
          obtain ⟨J17, e_J17⟩ : ∃ z_ : zM, z_ = zs J14 3 7 ((J10 3 2) + x13) := ⟨_, rfl⟩
          replace h := h J17 e_J17
          refine zr_putI 1 7 7 rfl e_J17 (xd dX1_cutRecord 49 rfl) f1_31 (by decide) (by decide) (lt491 hn (by decide)) kd_3 (Or.inl rfl) rfl rfl (fun _ => rfl) ?_
          refine xr_aload_n (xd dX1_cutRecord 50 rfl) 0 rfl ?_
          refine zr_getI 1 7 7 rfl (xd dX1_cutRecord 51 rfl) f1_31 (by decide) (by decide) (lt491 hn (by decide)) kd_3 rfl ?_
          refine xr_aload_n (xd dX1_cutRecord 52 rfl) 0 rfl ?_
          refine zr_getI 1 1 1 rfl (xd dX1_cutRecord 53 rfl) f1_21 (by decide) (by decide) (lt491 hn (by decide)) kd_3 rfl ?_
          obtain ⟨o18, h⟩ := h
          obtain ⟨o19, h⟩ := h
          refine zr_icmp_gt 123 (xd dX1_cutRecord 54 rfl) (by decide) o18 o19 (fun c20 => ?_) (fun c20 => ?_)
          · replace h := ifp h c20
            refine xr_iconst (v := oI 0) (xd dX1_cutRecord 65 rfl) (by decide) ?_
            exact xr_zret (xd dX1_cutRecord 66 rfl) rfl (zret_b (Or.inl rfl)) (by decide) (by decide) (fun _ => rfl) ⟨_, _, _, rfl, rfl, h⟩
          · replace h := ifn h c20
            refine xr_iload_n (xd dX1_cutRecord 55 rfl) 2 rfl ?_
            replace h := h (fun (J21 : zM) (L22 : yM) => xJ (xGm b dC dI cA ts) l mX1_cutRecord 0 0 (zQ1 n R Q) (fun _ _ => False) 0 0 125 [(0, .ref 3), (1, .int (oI x2)), (2, .int (oI x6))] [] al n R (zi J21) (li L22)) (by
              intro J21 L22 h
              show xJ _ _ _ _ _ _ _ _ _ 125 [(0, .ref 3), (1, .int (oI x2)), (2, .int (oI x6))] [] _ _ _ _ _
              refine xr_aload_n (xd dX1_cutRecord 67 rfl) 0 rfl ?_
              refine xr_aload_n (xd dX1_cutRecord 68 rfl) 0 rfl ?_
              refine xr_aload_n (xd dX1_cutRecord 69 rfl) 0 rfl ?_
              refine zr_getI 1 7 7 rfl (xd dX1_cutRecord 70 rfl) f1_31 (by decide) (by decide) (lt491 hn (by decide)) kd_3 rfl ?_
              refine xr_iconst (v := oI 2) (xd dX1_cutRecord 71 rfl) (by decide) ?_
              refine zr_isub (xd dX1_cutRecord 72 rfl) ?_
              refine xr_callV mX1_shortAt 1 [.int (oI ((J21 3 7) - 2))] (xd dX1_cutRecord 73 rfl) l1_34 kX1_shortAt rfl (lt491 hn (by decide)) kd_3 (by decide) rfl (by decide) (Nat.le_of_ble_eq_true rfl) (v_X1_shortAt hn hR  h) (by decide) (by decide) (fun r_ M_ h_ => ?_) (fun _ _ h_ => h_.elim)
              obtain ⟨r26, J24, L25, rfl, rfl, h⟩ := h_
              show xJ _ _ _ _ _ _ _ _ _ 136 [(0, .ref 3), (1, .int (oI x2)), (2, .int (oI x6))] [.int (oI r26), .ref 3] _ _ _ (zi J24) (li L25)
              obtain ⟨J27, e_J27⟩ : ∃ z_ : zM, z_ = zs J24 3 8 r26 := ⟨_, rfl⟩
              replace h := h J27 e_J27
              refine zr_putI 1 8 8 rfl e_J27 (xd dX1_cutRecord 74 rfl) f1_38 (by decide) (by decide) (lt491 hn (by decide)) kd_3 (Or.inl rfl) rfl rfl (fun _ => rfl) ?_
              refine xr_aload_n (xd dX1_cutRecord 75 rfl) 0 rfl ?_
              refine zr_getI 1 7 7 rfl (xd dX1_cutRecord 76 rfl) f1_31 (by decide) (by decide) (lt491 hn (by decide)) kd_3 rfl ?_
              refine xr_aload_n (xd dX1_cutRecord 77 rfl) 0 rfl ?_
              refine zr_getI 1 8 8 rfl (xd dX1_cutRecord 78 rfl) f1_38 (by decide) (by decide) (lt491 hn (by decide)) kd_3 rfl ?_
              refine zr_iadd (xd dX1_cutRecord 79 rfl) ?_
              refine xr_aload_n (xd dX1_cutRecord 80 rfl) 0 rfl ?_
              refine zr_getI 1 1 1 rfl (xd dX1_cutRecord 81 rfl) f1_21 (by decide) (by decide) (lt491 hn (by decide)) kd_3 rfl ?_
              obtain ⟨o28, h⟩ := h
              obtain ⟨o29, h⟩ := h
              refine zr_icmp_le 157 (xd dX1_cutRecord 82 rfl) (by decide) o28 o29 (fun c30 => ?_) (fun c30 => ?_)
              · replace h := ifn h c30
                refine xr_aload_n (xd dX1_cutRecord 85 rfl) 0 rfl ?_
                refine xr_aload_n (xd dX1_cutRecord 86 rfl) 0 rfl ?_
                refine zr_getI 1 7 7 rfl (xd dX1_cutRecord 87 rfl) f1_31 (by decide) (by decide) (lt491 hn (by decide)) kd_3 rfl ?_
                refine xr_aload_n (xd dX1_cutRecord 88 rfl) 0 rfl ?_
                refine zr_getI 1 8 8 rfl (xd dX1_cutRecord 89 rfl) f1_38 (by decide) (by decide) (lt491 hn (by decide)) kd_3 rfl ?_
                refine zr_iadd (xd dX1_cutRecord 90 rfl) ?_
                obtain ⟨J31, e_J31⟩ : ∃ z_ : zM, z_ = zs J27 3 3 ((J27 3 7) + (J27 3 8)) := ⟨_, rfl⟩
                replace h := h J31 e_J31
                refine zr_putI 1 3 3 rfl e_J31 (xd dX1_cutRecord 91 rfl) f1_25 (by decide) (by decide) (lt491 hn (by decide)) kd_3 (Or.inl rfl) rfl rfl (fun _ => rfl) ?_
                refine xr_aload_n (xd dX1_cutRecord 92 rfl) 0 rfl ?_
                refine xr_iload_n (xd dX1_cutRecord 93 rfl) 2 rfl ?_
                replace h := h (fun (x32 : Int) (J33 : zM) (L34 : yM) => xJ (xGm b dC dI cA ts) l mX1_cutRecord 0 0 (zQ1 n R Q) (fun _ _ => False) 0 0 183 [(0, .ref 3), (1, .int (oI x2))] [.int (oI x32), .ref 3] al n R (zi J33) (li L34)) (by
                  intro x32 J33 L34 h
                  show xJ _ _ _ _ _ _ _ _ _ 183 [(0, .ref 3), (1, .int (oI x2))] [.int (oI x32), .ref 3] _ _ _ _ _
                  obtain ⟨J36, e_J36⟩ : ∃ z_ : zM, z_ = zs J33 3 4 x32 := ⟨_, rfl⟩
                  replace h := h J36 e_J36
                  refine zr_putI 1 4 4 rfl e_J36 (xd dX1_cutRecord 100 rfl) f1_41 (by decide) (by decide) (lt491 hn (by decide)) kd_3 (Or.inl rfl) rfl rfl (fun _ => rfl) ?_
                  refine xr_aload_n (xd dX1_cutRecord 101 rfl) 0 rfl ?_
                  refine xr_iload_n (xd dX1_cutRecord 102 rfl) 1 rfl ?_
                  obtain ⟨J37, e_J37⟩ : ∃ z_ : zM, z_ = zs J36 3 5 x2 := ⟨_, rfl⟩
                  replace h := h J37 e_J37
                  refine zr_putI 1 5 5 rfl e_J37 (xd dX1_cutRecord 103 rfl) f1_44 (by decide) (by decide) (lt491 hn (by decide)) kd_3 (Or.inl rfl) rfl rfl (fun _ => rfl) ?_
                  refine xr_aload_n (xd dX1_cutRecord 104 rfl) 0 rfl ?_
                  refine xr_aload_n (xd dX1_cutRecord 105 rfl) 0 rfl ?_
                  refine xr_aload_n (xd dX1_cutRecord 106 rfl) 0 rfl ?_
                  refine zr_getI 1 7 7 rfl (xd dX1_cutRecord 107 rfl) f1_31 (by decide) (by decide) (lt491 hn (by decide)) kd_3 rfl ?_
                  refine xr_iconst (v := oI 4) (xd dX1_cutRecord 108 rfl) (by decide) ?_
                  refine zr_isub (xd dX1_cutRecord 109 rfl) ?_
                  refine xr_callV mX1_shortAt 1 [.int (oI ((J37 3 7) - 4))] (xd dX1_cutRecord 110 rfl) l1_34 kX1_shortAt rfl (lt491 hn (by decide)) kd_3 (by decide) rfl (by decide) (Nat.le_of_ble_eq_true rfl) (v_X1_shortAt hn hR  h) (by decide) (by decide) (fun r_ M_ h_ => ?_) (fun _ _ h_ => h_.elim)
                  obtain ⟨r40, J38, L39, rfl, rfl, h⟩ := h_
                  show xJ _ _ _ _ _ _ _ _ _ 202 [(0, .ref 3), (1, .int (oI x2))] [.int (oI r40), .ref 3] _ _ _ (zi J38) (li L39)
                  obtain ⟨J41, e_J41⟩ : ∃ z_ : zM, z_ = zs J38 3 6 r40 := ⟨_, rfl⟩
                  replace h := h J41 e_J41
                  refine zr_putI 1 6 6 rfl e_J41 (xd dX1_cutRecord 111 rfl) f1_47 (by decide) (by decide) (lt491 hn (by decide)) kd_3 (Or.inl rfl) rfl rfl (fun _ => rfl) ?_
                  refine xr_iconst (v := oI 1) (xd dX1_cutRecord 112 rfl) (by decide) ?_
                  exact xr_zret (xd dX1_cutRecord 113 rfl) rfl (zret_b (Or.inr rfl)) (by decide) (by decide) (fun _ => rfl) ⟨_, _, _, rfl, rfl, h⟩)
                obtain ⟨o42, h⟩ := h
                refine zr_if_eq 182 (xd dX1_cutRecord 94 rfl) (by decide) o42 (fun c43 => ?_) (fun c43 => ?_)
                · replace h := ifp h c43
                  refine xr_iconst (v := oI 0) (xd dX1_cutRecord 99 rfl) (by decide) ?_
                  refine xJ.pick (ls' := [(0, .ref 3), (1, .int (oI x2))]) [0, 1] rfl ?_
                  exact h
                · replace h := ifn h c43
                  refine xr_iload_n (xd dX1_cutRecord 95 rfl) 1 rfl ?_
                  refine xr_bipush (v := oI 32) (xd dX1_cutRecord 96 rfl) (by decide) ?_
                  refine zr_isub (xd dX1_cutRecord 97 rfl) ?_
                  refine xr_goto 183 (xd dX1_cutRecord 98 rfl) (by decide) ?_
                  refine xJ.pick (ls' := [(0, .ref 3), (1, .int (oI x2))]) [0, 1] rfl ?_
                  exact h
              · replace h := ifp h c30
                refine xr_iconst (v := oI 0) (xd dX1_cutRecord 83 rfl) (by decide) ?_
                exact xr_zret (xd dX1_cutRecord 84 rfl) rfl (zret_b (Or.inl rfl)) (by decide) (by decide) (fun _ => rfl) ⟨_, _, _, rfl, rfl, h⟩)
            obtain ⟨o44, h⟩ := h
            refine zr_if_ne 125 (xd dX1_cutRecord 56 rfl) (by decide) o44 (fun c45 => ?_) (fun c45 => ?_)
            · replace h := ifn h c45
              exact h
            · replace h := ifp h c45
              refine xr_aload_n (xd dX1_cutRecord 57 rfl) 0 rfl ?_
              refine xr_getR (b := 4) 1 0 (xd dX1_cutRecord 58 rfl) f1_9 (by decide) (by decide) (lt491 hn (by decide)) kd_3 rfl (r_3_0 hR) ?_
              refine xr_aload_n (xd dX1_cutRecord 59 rfl) 0 rfl ?_
              refine zr_getI 1 2 2 rfl (xd dX1_cutRecord 60 rfl) f1_28 (by decide) (by decide) (lt491 hn (by decide)) kd_3 rfl ?_
              refine xr_iconst (v := oI 1) (xd dX1_cutRecord 61 rfl) (by decide) ?_
              refine zr_iadd (xd dX1_cutRecord 62 rfl) ?_
              obtain ⟨o46, h⟩ := h
              refine zr_iaload (xd dX1_cutRecord 63 rfl) (lt491 hn (by decide)) kd_4 ln_4 (by decide) o46 ?_
              obtain ⟨o47, h⟩ := h
              refine zr_if_eq 125 (xd dX1_cutRecord 64 rfl) (by decide) o47 (fun c48 => ?_) (fun c48 => ?_)
              · replace h := ifp h c48
                exact h
              · replace h := ifn h c48
                refine xr_iconst (v := oI 0) (xd dX1_cutRecord 65 rfl) (by decide) ?_
                exact xr_zret (xd dX1_cutRecord 66 rfl) rfl (zret_b (Or.inl rfl)) (by decide) (by decide) (fun _ => rfl) ⟨_, _, _, rfl, rfl, h⟩)
        obtain ⟨o49, h⟩ := h
        refine zr_if_eq 88 (xd dX1_cutRecord 44 rfl) (by decide) o49 (fun c50 => ?_) (fun c50 => ?_)
        · replace h := ifp h c50
          refine xr_bipush (v := oI 6) (xd dX1_cutRecord 47 rfl) (by decide) ?_
          exact h
        · replace h := ifn h c50
          refine xr_iconst (v := oI 5) (xd dX1_cutRecord 45 rfl) (by decide) ?_
          refine xr_goto 90 (xd dX1_cutRecord 46 rfl) (by decide) ?_
          exact h)
      obtain ⟨o51, h⟩ := h
      refine zr_if_ne 75 (xd dX1_cutRecord 28 rfl) (by decide) o51 (fun c52 => ?_) (fun c52 => ?_)
      · replace h := ifn h c52
        exact h
      · replace h := ifp h c52
        refine xr_iload_n (xd dX1_cutRecord 29 rfl) 1 rfl ?_
        refine xr_bipush (v := oI 21) (xd dX1_cutRecord 30 rfl) (by decide) ?_
        obtain ⟨o53, h⟩ := h
        refine zr_icmp_eq 75 (xd dX1_cutRecord 31 rfl) (by decide) o53 (by decide) (fun c54 => ?_) (fun c54 => ?_)
        · replace h := ifp h c54
          exact h
        · replace h := ifn h c54
          refine xr_iload_n (xd dX1_cutRecord 32 rfl) 1 rfl ?_
          refine xr_bipush (v := oI 22) (xd dX1_cutRecord 33 rfl) (by decide) ?_
          refine zr_icmp_eq 75 (xd dX1_cutRecord 34 rfl) (by decide) o53 (by decide) (fun c55 => ?_) (fun c55 => ?_)
          · replace h := ifp h c55
            exact h
          · replace h := ifn h c55
            refine xr_iload_n (xd dX1_cutRecord 35 rfl) 1 rfl ?_
            refine xr_bipush (v := oI 26) (xd dX1_cutRecord 36 rfl) (by decide) ?_
            refine zr_icmp_eq 75 (xd dX1_cutRecord 37 rfl) (by decide) o53 (by decide) (fun c56 => ?_) (fun c56 => ?_)
            · replace h := ifp h c56
              exact h
            · replace h := ifn h c56
              refine xr_iconst (v := oI 0) (xd dX1_cutRecord 38 rfl) (by decide) ?_
              exact xr_zret (xd dX1_cutRecord 39 rfl) rfl (zret_b (Or.inl rfl)) (by decide) (by decide) (fun _ => rfl) ⟨_, _, _, rfl, rfl, h⟩)
    replace h := h (fun (J57 : zM) (L58 : yM) => xJ (xGm b dC dI cA ts) l mX1_cutRecord 0 0 (zQ1 n R Q) (fun _ _ => False) 0 0 45 [(0, .ref 3), (1, .int (oI x2))] [] al n R (zi J57) (li L58)) (by
      intro J57 L58 h
      show xJ _ _ _ _ _ _ _ _ _ 45 [(0, .ref 3), (1, .int (oI x2))] [] _ _ _ _ _
      refine xr_iconst (v := oI 1) (xd dX1_cutRecord 23 rfl) (by decide) ?_
      refine xr_goto 50 (xd dX1_cutRecord 24 rfl) (by decide) ?_
      exact h)
    obtain ⟨o60, h⟩ := h
    refine zr_icmp_eq 45 (xd dX1_cutRecord 19 rfl) (by decide) o60 (by decide) (fun c61 => ?_) (fun c61 => ?_)
    · replace h := ifp h c61
      exact h
    · replace h := ifn h c61
      refine xr_iload_n (xd dX1_cutRecord 20 rfl) 1 rfl ?_
      refine xr_bipush (v := oI 35) (xd dX1_cutRecord 21 rfl) (by decide) ?_
      refine zr_icmp_ne 49 (xd dX1_cutRecord 22 rfl) (by decide) o60 (by decide) (fun c62 => ?_) (fun c62 => ?_)
      · replace h := ifn h c62
        refine xr_iconst (v := oI 0) (xd dX1_cutRecord 25 rfl) (by decide) ?_
        exact h
      · replace h := ifp h c62
        exact h)
  obtain ⟨o63, h⟩ := h
  obtain ⟨o64, h⟩ := h
  refine zr_icmp_ge 31 (xd dX1_cutRecord 8 rfl) (by decide) o63 o64 (fun c65 => ?_) (fun c65 => ?_)
  · replace h := ifn h c65
    refine xr_iconst (v := oI 0) (xd dX1_cutRecord 15 rfl) (by decide) ?_
    exact h
  · replace h := ifp h c65
    refine xr_aload_n (xd dX1_cutRecord 9 rfl) 0 rfl ?_
    refine xr_getR (b := 4) 1 0 (xd dX1_cutRecord 10 rfl) f1_9 (by decide) (by decide) (lt491 hn (by decide)) kd_3 rfl (r_3_0 hR) ?_
    refine xr_aload_n (xd dX1_cutRecord 11 rfl) 0 rfl ?_
    refine zr_getI 1 2 2 rfl (xd dX1_cutRecord 12 rfl) f1_28 (by decide) (by decide) (lt491 hn (by decide)) kd_3 rfl ?_
    obtain ⟨o66, h⟩ := h
    refine zr_iaload (xd dX1_cutRecord 13 rfl) (lt491 hn (by decide)) kd_4 ln_4 (by decide) o66 ?_
    refine xr_goto 32 (xd dX1_cutRecord 14 rfl) (by decide) ?_
    exact h
def w_X1_unmask (p1 : Int) (J : zM) (L : yM) (Q : zM → yM → Prop) : Prop := ((0 : Int) ≤ ((J 3 2) + 1) ∧ ((J 3 2) + 1) < 500) ∧ ((0 : Int) ≤ ((J 3 2) + 1) ∧ ((J 3 2) + 1) < 500) ∧ ∀ J3 : zM, J3 = zs J 4 ((J 3 2) + 1) (zxor (J 4 ((J 3 2) + 1)) (zush p1 8)) → ((0 : Int) ≤ ((J3 3 2) + 2) ∧ ((J3 3 2) + 2) < 500) ∧ ((0 : Int) ≤ ((J3 3 2) + 2) ∧ ((J3 3 2) + 2) < 500) ∧ ∀ J6 : zM, J6 = zs J3 4 ((J3 3 2) + 2) (zxor (J3 4 ((J3 3 2) + 2)) (zand p1 255)) → w_X1_shortAt ((J6 3 2) + 1) J6 L (fun r9 J7 L8 => ∀ J10 : zM, J10 = zs J7 3 6 r9 → Q J10 L8)
set_option maxHeartbeats 4000000 in
set_option maxRecDepth 100000 in
theorem v_X1_unmask {b : Nat} {dC : Nat → ClassId} {dI : Nat → Nat → Nat} {cA : Nat → ClassId} {ts : Nat → Nat} {l : Launch} {n : Nat} {R : Nat → Nat → Option Nat} {al : Bool} (hn : 491 ≤ n) (hR : xRk R) {p1 : Int}  {J : zM} {L : yM} {Q : zM → yM → Prop} (h : w_X1_unmask p1 J L Q) : xCn (xGm b dC dI cA ts) l mX1_unmask [.ref 3, .int (oI p1)] al (n, R, zi J, li L) 0 0 (zQ0 n R Q) (fun _ _ => False) := by
  refine xCn.ofJ (by decide) (Nat.le_of_ble_eq_true rfl) ?_
  show xJ _ _ _ _ _ _ _ _ _ 0 [(0, .ref 3), (1, .int (oI p1))] [] _ _ _ _ _
  unfold w_X1_unmask at h
  refine xr_aload_n (xd dX1_unmask 0 rfl) 0 rfl ?_
  refine xr_getR (b := 4) 1 0 (xd dX1_unmask 1 rfl) f1_9 (by decide) (by decide) (lt491 hn (by decide)) kd_3 rfl (r_3_0 hR) ?_
  refine xr_aload_n (xd dX1_unmask 2 rfl) 0 rfl ?_
  refine zr_getI 1 2 2 rfl (xd dX1_unmask 3 rfl) f1_28 (by decide) (by decide) (lt491 hn (by decide)) kd_3 rfl ?_
  refine xr_iconst (v := oI 1) (xd dX1_unmask 4 rfl) (by decide) ?_
  refine zr_iadd (xd dX1_unmask 5 rfl) ?_
  refine xr_dup2 (xd dX1_unmask 6 rfl) rfl rfl ?_
  obtain ⟨o1, h⟩ := h
  refine zr_iaload (xd dX1_unmask 7 rfl) (lt491 hn (by decide)) kd_4 ln_4 (by decide) o1 ?_
  refine xr_iload_n (xd dX1_unmask 8 rfl) 1 rfl ?_
  refine xr_bipush (v := oI 8) (xd dX1_unmask 9 rfl) (by decide) ?_
  refine zr_iushr (xd dX1_unmask 10 rfl) ?_
  refine zr_ixor (xd dX1_unmask 11 rfl) ?_
  obtain ⟨o2, h⟩ := h
  obtain ⟨J3, e_J3⟩ : ∃ z_ : zM, z_ = zs J 4 ((J 3 2) + 1) (zxor (J 4 ((J 3 2) + 1)) (zush p1 8)) := ⟨_, rfl⟩
  replace h := h J3 e_J3
  refine zr_iastore e_J3 (xd dX1_unmask 12 rfl) (lt491 hn (by decide)) kd_4 ln_4 (by decide) o2 ?_
  refine xr_aload_n (xd dX1_unmask 13 rfl) 0 rfl ?_
  refine xr_getR (b := 4) 1 0 (xd dX1_unmask 14 rfl) f1_9 (by decide) (by decide) (lt491 hn (by decide)) kd_3 rfl (r_3_0 hR) ?_
  refine xr_aload_n (xd dX1_unmask 15 rfl) 0 rfl ?_
  refine zr_getI 1 2 2 rfl (xd dX1_unmask 16 rfl) f1_28 (by decide) (by decide) (lt491 hn (by decide)) kd_3 rfl ?_
  refine xr_iconst (v := oI 2) (xd dX1_unmask 17 rfl) (by decide) ?_
  refine zr_iadd (xd dX1_unmask 18 rfl) ?_
  refine xr_dup2 (xd dX1_unmask 19 rfl) rfl rfl ?_
  obtain ⟨o4, h⟩ := h
  refine zr_iaload (xd dX1_unmask 20 rfl) (lt491 hn (by decide)) kd_4 ln_4 (by decide) o4 ?_
  refine xr_iload_n (xd dX1_unmask 21 rfl) 1 rfl ?_
  refine xr_sipush (v := oI 255) (xd dX1_unmask 22 rfl) (by decide) ?_
  refine zr_iand (xd dX1_unmask 23 rfl) ?_
  refine zr_ixor (xd dX1_unmask 24 rfl) ?_
  obtain ⟨o5, h⟩ := h
  obtain ⟨J6, e_J6⟩ : ∃ z_ : zM, z_ = zs J3 4 ((J3 3 2) + 2) (zxor (J3 4 ((J3 3 2) + 2)) (zand p1 255)) := ⟨_, rfl⟩
  replace h := h J6 e_J6
  refine zr_iastore e_J6 (xd dX1_unmask 25 rfl) (lt491 hn (by decide)) kd_4 ln_4 (by decide) o5 ?_
  refine xr_aload_n (xd dX1_unmask 26 rfl) 0 rfl ?_
  refine xr_aload_n (xd dX1_unmask 27 rfl) 0 rfl ?_
  refine xr_aload_n (xd dX1_unmask 28 rfl) 0 rfl ?_
  refine zr_getI 1 2 2 rfl (xd dX1_unmask 29 rfl) f1_28 (by decide) (by decide) (lt491 hn (by decide)) kd_3 rfl ?_
  refine xr_iconst (v := oI 1) (xd dX1_unmask 30 rfl) (by decide) ?_
  refine zr_iadd (xd dX1_unmask 31 rfl) ?_
  refine xr_callV mX1_shortAt 1 [.int (oI ((J6 3 2) + 1))] (xd dX1_unmask 32 rfl) l1_34 kX1_shortAt rfl (lt491 hn (by decide)) kd_3 (by decide) rfl (by decide) (Nat.le_of_ble_eq_true rfl) (v_X1_shortAt hn hR  h) (by decide) (by decide) (fun r_ M_ h_ => ?_) (fun _ _ h_ => h_.elim)
  obtain ⟨r9, J7, L8, rfl, rfl, h⟩ := h_
  show xJ _ _ _ _ _ _ _ _ _ 48 [(0, .ref 3), (1, .int (oI p1))] [.int (oI r9), .ref 3] _ _ _ (zi J7) (li L8)
  obtain ⟨J10, e_J10⟩ : ∃ z_ : zM, z_ = zs J7 3 6 r9 := ⟨_, rfl⟩
  replace h := h J10 e_J10
  refine zr_putI 1 6 6 rfl e_J10 (xd dX1_unmask 33 rfl) f1_47 (by decide) (by decide) (lt491 hn (by decide)) kd_3 (Or.inl rfl) rfl rfl (fun _ => rfl) ?_
  exact xr_vret (xd dX1_unmask 34 rfl) rfl (by decide) (by decide) (fun _ => rfl) ⟨_, _, rfl, rfl, h⟩
def w_X1_sealedMany  (J : zM) (L : yM) (Q : Int → zM → yM → Prop) : Prop := Q ((J 3 8) - 8) J L
set_option maxHeartbeats 4000000 in
set_option maxRecDepth 100000 in
theorem v_X1_sealedMany {b : Nat} {dC : Nat → ClassId} {dI : Nat → Nat → Nat} {cA : Nat → ClassId} {ts : Nat → Nat} {l : Launch} {n : Nat} {R : Nat → Nat → Option Nat} {al : Bool} (hn : 491 ≤ n) (hR : xRk R)   {J : zM} {L : yM} {Q : Int → zM → yM → Prop} (h : w_X1_sealedMany  J L Q) : xCn (xGm b dC dI cA ts) l mX1_sealedMany [.ref 3] al (n, R, zi J, li L) 0 0 (zQ1 n R Q) (fun _ _ => False) := by
  refine xCn.ofJ (by decide) (Nat.le_of_ble_eq_true rfl) ?_
  show xJ _ _ _ _ _ _ _ _ _ 0 [(0, .ref 3)] [] _ _ _ _ _
  unfold w_X1_sealedMany at h
  refine xr_aload_n (xd dX1_sealedMany 0 rfl) 0 rfl ?_
  refine zr_getI 1 8 8 rfl (xd dX1_sealedMany 1 rfl) f1_38 (by decide) (by decide) (lt491 hn (by decide)) kd_3 rfl ?_
  refine xr_bipush (v := oI 8) (xd dX1_sealedMany 2 rfl) (by decide) ?_
  refine zr_isub (xd dX1_sealedMany 3 rfl) ?_
  exact xr_iret (xd dX1_sealedMany 4 rfl) rfl (by decide) (by decide) (fun _ => rfl) ⟨_, _, _, rfl, rfl, h⟩
def w_X1_tagAt  (J : zM) (L : yM) (Q : Int → zM → yM → Prop) : Prop := Q (((J 3 7) + (J 3 8)) - 8) J L
set_option maxHeartbeats 4000000 in
set_option maxRecDepth 100000 in
theorem v_X1_tagAt {b : Nat} {dC : Nat → ClassId} {dI : Nat → Nat → Nat} {cA : Nat → ClassId} {ts : Nat → Nat} {l : Launch} {n : Nat} {R : Nat → Nat → Option Nat} {al : Bool} (hn : 491 ≤ n) (hR : xRk R)   {J : zM} {L : yM} {Q : Int → zM → yM → Prop} (h : w_X1_tagAt  J L Q) : xCn (xGm b dC dI cA ts) l mX1_tagAt [.ref 3] al (n, R, zi J, li L) 0 0 (zQ1 n R Q) (fun _ _ => False) := by
  refine xCn.ofJ (by decide) (Nat.le_of_ble_eq_true rfl) ?_
  show xJ _ _ _ _ _ _ _ _ _ 0 [(0, .ref 3)] [] _ _ _ _ _
  unfold w_X1_tagAt at h
  refine xr_aload_n (xd dX1_tagAt 0 rfl) 0 rfl ?_
  refine zr_getI 1 7 7 rfl (xd dX1_tagAt 1 rfl) f1_31 (by decide) (by decide) (lt491 hn (by decide)) kd_3 rfl ?_
  refine xr_aload_n (xd dX1_tagAt 2 rfl) 0 rfl ?_
  refine zr_getI 1 8 8 rfl (xd dX1_tagAt 3 rfl) f1_38 (by decide) (by decide) (lt491 hn (by decide)) kd_3 rfl ?_
  refine zr_iadd (xd dX1_tagAt 4 rfl) ?_
  refine xr_bipush (v := oI 8) (xd dX1_tagAt 5 rfl) (by decide) ?_
  refine zr_isub (xd dX1_tagAt 6 rfl) ?_
  exact xr_iret (xd dX1_tagAt 7 rfl) rfl (by decide) (by decide) (fun _ => rfl) ⟨_, _, _, rfl, rfl, h⟩
def w_X1_takeType  (J : zM) (L : yM) (Q : zM → yM → Prop) : Prop := ∀ J1 : zM, J1 = zs J 3 8 ((J 3 8) - 9) → ((0 : Int) ≤ ((J1 3 7) + (J1 3 8)) ∧ ((J1 3 7) + (J1 3 8)) < 500) ∧ ∀ J3 : zM, J3 = zs J1 3 5 (J1 4 ((J1 3 7) + (J1 3 8))) → Q J3 L
set_option maxHeartbeats 4000000 in
set_option maxRecDepth 100000 in
theorem v_X1_takeType {b : Nat} {dC : Nat → ClassId} {dI : Nat → Nat → Nat} {cA : Nat → ClassId} {ts : Nat → Nat} {l : Launch} {n : Nat} {R : Nat → Nat → Option Nat} {al : Bool} (hn : 491 ≤ n) (hR : xRk R)   {J : zM} {L : yM} {Q : zM → yM → Prop} (h : w_X1_takeType  J L Q) : xCn (xGm b dC dI cA ts) l mX1_takeType [.ref 3] al (n, R, zi J, li L) 0 0 (zQ0 n R Q) (fun _ _ => False) := by
  refine xCn.ofJ (by decide) (Nat.le_of_ble_eq_true rfl) ?_
  show xJ _ _ _ _ _ _ _ _ _ 0 [(0, .ref 3)] [] _ _ _ _ _
  unfold w_X1_takeType at h
  refine xr_aload_n (xd dX1_takeType 0 rfl) 0 rfl ?_
  refine xr_dup (xd dX1_takeType 1 rfl) rfl ?_
  refine zr_getI 1 8 8 rfl (xd dX1_takeType 2 rfl) f1_38 (by decide) (by decide) (lt491 hn (by decide)) kd_3 rfl ?_
  refine xr_bipush (v := oI 9) (xd dX1_takeType 3 rfl) (by decide) ?_
  refine zr_isub (xd dX1_takeType 4 rfl) ?_
  obtain ⟨J1, e_J1⟩ : ∃ z_ : zM, z_ = zs J 3 8 ((J 3 8) - 9) := ⟨_, rfl⟩
  replace h := h J1 e_J1
  refine zr_putI 1 8 8 rfl e_J1 (xd dX1_takeType 5 rfl) f1_38 (by decide) (by decide) (lt491 hn (by decide)) kd_3 (Or.inl rfl) rfl rfl (fun _ => rfl) ?_
  refine xr_aload_n (xd dX1_takeType 6 rfl) 0 rfl ?_
  refine xr_aload_n (xd dX1_takeType 7 rfl) 0 rfl ?_
  refine xr_getR (b := 4) 1 0 (xd dX1_takeType 8 rfl) f1_9 (by decide) (by decide) (lt491 hn (by decide)) kd_3 rfl (r_3_0 hR) ?_
  refine xr_aload_n (xd dX1_takeType 9 rfl) 0 rfl ?_
  refine zr_getI 1 7 7 rfl (xd dX1_takeType 10 rfl) f1_31 (by decide) (by decide) (lt491 hn (by decide)) kd_3 rfl ?_
  refine xr_aload_n (xd dX1_takeType 11 rfl) 0 rfl ?_
  refine zr_getI 1 8 8 rfl (xd dX1_takeType 12 rfl) f1_38 (by decide) (by decide) (lt491 hn (by decide)) kd_3 rfl ?_
  refine zr_iadd (xd dX1_takeType 13 rfl) ?_
  obtain ⟨o2, h⟩ := h
  refine zr_iaload (xd dX1_takeType 14 rfl) (lt491 hn (by decide)) kd_4 ln_4 (by decide) o2 ?_
  obtain ⟨J3, e_J3⟩ : ∃ z_ : zM, z_ = zs J1 3 5 (J1 4 ((J1 3 7) + (J1 3 8))) := ⟨_, rfl⟩
  replace h := h J3 e_J3
  refine zr_putI 1 5 5 rfl e_J3 (xd dX1_takeType 15 rfl) f1_44 (by decide) (by decide) (lt491 hn (by decide)) kd_3 (Or.inl rfl) rfl rfl (fun _ => rfl) ?_
  exact xr_vret (xd dX1_takeType 16 rfl) rfl (by decide) (by decide) (fun _ => rfl) ⟨_, _, rfl, rfl, h⟩
def w_X1_contentOctet (p1 : Int) (J : zM) (L : yM) (Q : Int → zM → yM → Prop) : Prop := R32 p1 ∧ (if p1 < 0 then Q 0 J L else R32 (J 3 8) ∧ (if p1 < (J 3 8) then ((0 : Int) ≤ ((J 3 7) + p1) ∧ ((J 3 7) + p1) < 500) ∧ Q (J 4 ((J 3 7) + p1)) J L else Q 0 J L))
set_option maxHeartbeats 4000000 in
set_option maxRecDepth 100000 in
theorem v_X1_contentOctet {b : Nat} {dC : Nat → ClassId} {dI : Nat → Nat → Nat} {cA : Nat → ClassId} {ts : Nat → Nat} {l : Launch} {n : Nat} {R : Nat → Nat → Option Nat} {al : Bool} (hn : 491 ≤ n) (hR : xRk R) {p1 : Int}  {J : zM} {L : yM} {Q : Int → zM → yM → Prop} (h : w_X1_contentOctet p1 J L Q) : xCn (xGm b dC dI cA ts) l mX1_contentOctet [.ref 3, .int (oI p1)] al (n, R, zi J, li L) 0 0 (zQ1 n R Q) (fun _ _ => False) := by
  refine xCn.ofJ (by decide) (Nat.le_of_ble_eq_true rfl) ?_
  show xJ _ _ _ _ _ _ _ _ _ 0 [(0, .ref 3), (1, .int (oI p1))] [] _ _ _ _ _
  unfold w_X1_contentOctet at h
  refine xr_iload_n (xd dX1_contentOctet 0 rfl) 1 rfl ?_
  obtain ⟨o1, h⟩ := h
  refine zr_if_lt 26 (xd dX1_contentOctet 1 rfl) (by decide) o1 (fun c2 => ?_) (fun c2 => ?_)
  · replace h := ifp h c2
    refine xr_iconst (v := oI 0) (xd dX1_contentOctet 14 rfl) (by decide) ?_
    exact xr_iret (xd dX1_contentOctet 15 rfl) rfl (by decide) (by decide) (fun _ => rfl) ⟨_, _, _, rfl, rfl, h⟩
  · replace h := ifn h c2
    refine xr_iload_n (xd dX1_contentOctet 2 rfl) 1 rfl ?_
    refine xr_aload_n (xd dX1_contentOctet 3 rfl) 0 rfl ?_
    refine zr_getI 1 8 8 rfl (xd dX1_contentOctet 4 rfl) f1_38 (by decide) (by decide) (lt491 hn (by decide)) kd_3 rfl ?_
    obtain ⟨o3, h⟩ := h
    refine zr_icmp_ge 26 (xd dX1_contentOctet 5 rfl) (by decide) o1 o3 (fun c4 => ?_) (fun c4 => ?_)
    · replace h := ifn h c4
      refine xr_iconst (v := oI 0) (xd dX1_contentOctet 14 rfl) (by decide) ?_
      exact xr_iret (xd dX1_contentOctet 15 rfl) rfl (by decide) (by decide) (fun _ => rfl) ⟨_, _, _, rfl, rfl, h⟩
    · replace h := ifp h c4
      refine xr_aload_n (xd dX1_contentOctet 6 rfl) 0 rfl ?_
      refine xr_getR (b := 4) 1 0 (xd dX1_contentOctet 7 rfl) f1_9 (by decide) (by decide) (lt491 hn (by decide)) kd_3 rfl (r_3_0 hR) ?_
      refine xr_aload_n (xd dX1_contentOctet 8 rfl) 0 rfl ?_
      refine zr_getI 1 7 7 rfl (xd dX1_contentOctet 9 rfl) f1_31 (by decide) (by decide) (lt491 hn (by decide)) kd_3 rfl ?_
      refine xr_iload_n (xd dX1_contentOctet 10 rfl) 1 rfl ?_
      refine zr_iadd (xd dX1_contentOctet 11 rfl) ?_
      obtain ⟨o5, h⟩ := h
      refine zr_iaload (xd dX1_contentOctet 12 rfl) (lt491 hn (by decide)) kd_4 ln_4 (by decide) o5 ?_
      refine xr_goto 27 (xd dX1_contentOctet 13 rfl) (by decide) ?_
      exact xr_iret (xd dX1_contentOctet 15 rfl) rfl (by decide) (by decide) (fun _ => rfl) ⟨_, _, _, rfl, rfl, h⟩
def w_X1_readFragment  (J : zM) (L : yM) (Q : Int → zM → yM → Prop) : Prop := R32 (J 3 8) ∧ (if (J 3 8) < 8 then Q 0 J L else ((0 : Int) ≤ (J 3 7) ∧ (J 3 7) < 500) ∧ ∀ J4 : zM, J4 = zs J 3 9 (J 4 (J 3 7)) → w_X1_shortAt ((J4 3 7) + 1) J4 L (fun r7 J5 L6 => ∀ J8 : zM, J8 = zs J5 3 10 r7 → ((0 : Int) ≤ ((J8 3 7) + 3) ∧ ((J8 3 7) + 3) < 500) ∧ ∀ J10 : zM, J10 = zs J8 3 11 (J8 4 ((J8 3 7) + 3)) → w_X1_shortAt ((J10 3 7) + 4) J10 L6 (fun r13 J11 L12 => ∀ J14 : zM, J14 = zs J11 3 12 r13 → w_X1_shortAt ((J14 3 7) + 6) J14 L12 (fun r17 J15 L16 => ∀ J18 : zM, J18 = zs J15 3 13 r17 → ∀ J19 : zM, J19 = zs J18 3 14 ((J18 3 7) + 8) → R32 (J19 3 13) ∧ (if 0 < (J19 3 13) then R32 (J19 3 8) ∧ R32 (8 + (J19 3 13)) ∧ (if (J19 3 8) = (8 + (J19 3 13)) then R32 ((J19 3 12) + (J19 3 13)) ∧ R32 (J19 3 10) ∧ (if (J19 3 10) < ((J19 3 12) + (J19 3 13)) then Q 0 J19 L16 else Q 1 J19 L16) else Q 0 J19 L16) else Q 0 J19 L16)))))
set_option maxHeartbeats 4000000 in
set_option maxRecDepth 100000 in
theorem v_X1_readFragment {b : Nat} {dC : Nat → ClassId} {dI : Nat → Nat → Nat} {cA : Nat → ClassId} {ts : Nat → Nat} {l : Launch} {n : Nat} {R : Nat → Nat → Option Nat} {al : Bool} (hn : 491 ≤ n) (hR : xRk R)   {J : zM} {L : yM} {Q : Int → zM → yM → Prop} (h : w_X1_readFragment  J L Q) : xCn (xGm b dC dI cA ts) l mX1_readFragment [.ref 3] al (n, R, zi J, li L) 0 0 (zQ1 n R Q) (fun _ _ => False) := by
  refine xCn.ofJ (by decide) (Nat.le_of_ble_eq_true rfl) ?_
  show xJ _ _ _ _ _ _ _ _ _ 0 [(0, .ref 3)] [] _ _ _ _ _
  unfold w_X1_readFragment at h
  refine xr_aload_n (xd dX1_readFragment 0 rfl) 0 rfl ?_
  refine zr_getI 1 8 8 rfl (xd dX1_readFragment 1 rfl) f1_38 (by decide) (by decide) (lt491 hn (by decide)) kd_3 rfl ?_
  refine xr_bipush (v := oI 8) (xd dX1_readFragment 2 rfl) (by decide) ?_
  obtain ⟨o1, h⟩ := h
  refine zr_icmp_ge 11 (xd dX1_readFragment 3 rfl) (by decide) o1 (by decide) (fun c2 => ?_) (fun c2 => ?_)
  · replace h := ifn h c2
    refine xr_aload_n (xd dX1_readFragment 6 rfl) 0 rfl ?_
    refine xr_aload_n (xd dX1_readFragment 7 rfl) 0 rfl ?_
    refine xr_getR (b := 4) 1 0 (xd dX1_readFragment 8 rfl) f1_9 (by decide) (by decide) (lt491 hn (by decide)) kd_3 rfl (r_3_0 hR) ?_
    refine xr_aload_n (xd dX1_readFragment 9 rfl) 0 rfl ?_
    refine zr_getI 1 7 7 rfl (xd dX1_readFragment 10 rfl) f1_31 (by decide) (by decide) (lt491 hn (by decide)) kd_3 rfl ?_
    obtain ⟨o3, h⟩ := h
    refine zr_iaload (xd dX1_readFragment 11 rfl) (lt491 hn (by decide)) kd_4 ln_4 (by decide) o3 ?_
    obtain ⟨J4, e_J4⟩ : ∃ z_ : zM, z_ = zs J 3 9 (J 4 (J 3 7)) := ⟨_, rfl⟩
    replace h := h J4 e_J4
    refine zr_putI 1 9 9 rfl e_J4 (xd dX1_readFragment 12 rfl) f1_50 (by decide) (by decide) (lt491 hn (by decide)) kd_3 (Or.inl rfl) rfl rfl (fun _ => rfl) ?_
    refine xr_aload_n (xd dX1_readFragment 13 rfl) 0 rfl ?_
    refine xr_aload_n (xd dX1_readFragment 14 rfl) 0 rfl ?_
    refine xr_aload_n (xd dX1_readFragment 15 rfl) 0 rfl ?_
    refine zr_getI 1 7 7 rfl (xd dX1_readFragment 16 rfl) f1_31 (by decide) (by decide) (lt491 hn (by decide)) kd_3 rfl ?_
    refine xr_iconst (v := oI 1) (xd dX1_readFragment 17 rfl) (by decide) ?_
    refine zr_iadd (xd dX1_readFragment 18 rfl) ?_
    refine xr_callV mX1_shortAt 1 [.int (oI ((J4 3 7) + 1))] (xd dX1_readFragment 19 rfl) l1_34 kX1_shortAt rfl (lt491 hn (by decide)) kd_3 (by decide) rfl (by decide) (Nat.le_of_ble_eq_true rfl) (v_X1_shortAt hn hR  h) (by decide) (by decide) (fun r_ M_ h_ => ?_) (fun _ _ h_ => h_.elim)
    obtain ⟨r7, J5, L6, rfl, rfl, h⟩ := h_
    show xJ _ _ _ _ _ _ _ _ _ 35 [(0, .ref 3)] [.int (oI r7), .ref 3] _ _ _ (zi J5) (li L6)
    obtain ⟨J8, e_J8⟩ : ∃ z_ : zM, z_ = zs J5 3 10 r7 := ⟨_, rfl⟩
    replace h := h J8 e_J8
    refine zr_putI 1 10 10 rfl e_J8 (xd dX1_readFragment 20 rfl) f1_53 (by decide) (by decide) (lt491 hn (by decide)) kd_3 (Or.inl rfl) rfl rfl (fun _ => rfl) ?_
    refine xr_aload_n (xd dX1_readFragment 21 rfl) 0 rfl ?_
    refine xr_aload_n (xd dX1_readFragment 22 rfl) 0 rfl ?_
    refine xr_getR (b := 4) 1 0 (xd dX1_readFragment 23 rfl) f1_9 (by decide) (by decide) (lt491 hn (by decide)) kd_3 rfl (r_3_0 hR) ?_
    refine xr_aload_n (xd dX1_readFragment 24 rfl) 0 rfl ?_
    refine zr_getI 1 7 7 rfl (xd dX1_readFragment 25 rfl) f1_31 (by decide) (by decide) (lt491 hn (by decide)) kd_3 rfl ?_
    refine xr_iconst (v := oI 3) (xd dX1_readFragment 26 rfl) (by decide) ?_
    refine zr_iadd (xd dX1_readFragment 27 rfl) ?_
    obtain ⟨o9, h⟩ := h
    refine zr_iaload (xd dX1_readFragment 28 rfl) (lt491 hn (by decide)) kd_4 ln_4 (by decide) o9 ?_
    obtain ⟨J10, e_J10⟩ : ∃ z_ : zM, z_ = zs J8 3 11 (J8 4 ((J8 3 7) + 3)) := ⟨_, rfl⟩
    replace h := h J10 e_J10
    refine zr_putI 1 11 11 rfl e_J10 (xd dX1_readFragment 29 rfl) f1_56 (by decide) (by decide) (lt491 hn (by decide)) kd_3 (Or.inl rfl) rfl rfl (fun _ => rfl) ?_
    refine xr_aload_n (xd dX1_readFragment 30 rfl) 0 rfl ?_
    refine xr_aload_n (xd dX1_readFragment 31 rfl) 0 rfl ?_
    refine xr_aload_n (xd dX1_readFragment 32 rfl) 0 rfl ?_
    refine zr_getI 1 7 7 rfl (xd dX1_readFragment 33 rfl) f1_31 (by decide) (by decide) (lt491 hn (by decide)) kd_3 rfl ?_
    refine xr_iconst (v := oI 4) (xd dX1_readFragment 34 rfl) (by decide) ?_
    refine zr_iadd (xd dX1_readFragment 35 rfl) ?_
    refine xr_callV mX1_shortAt 1 [.int (oI ((J10 3 7) + 4))] (xd dX1_readFragment 36 rfl) l1_34 kX1_shortAt rfl (lt491 hn (by decide)) kd_3 (by decide) rfl (by decide) (Nat.le_of_ble_eq_true rfl) (v_X1_shortAt hn hR  h) (by decide) (by decide) (fun r_ M_ h_ => ?_) (fun _ _ h_ => h_.elim)
    obtain ⟨r13, J11, L12, rfl, rfl, h⟩ := h_
    show xJ _ _ _ _ _ _ _ _ _ 64 [(0, .ref 3)] [.int (oI r13), .ref 3] _ _ _ (zi J11) (li L12)
    obtain ⟨J14, e_J14⟩ : ∃ z_ : zM, z_ = zs J11 3 12 r13 := ⟨_, rfl⟩
    replace h := h J14 e_J14
    refine zr_putI 1 12 12 rfl e_J14 (xd dX1_readFragment 37 rfl) f1_59 (by decide) (by decide) (lt491 hn (by decide)) kd_3 (Or.inl rfl) rfl rfl (fun _ => rfl) ?_
    refine xr_aload_n (xd dX1_readFragment 38 rfl) 0 rfl ?_
    refine xr_aload_n (xd dX1_readFragment 39 rfl) 0 rfl ?_
    refine xr_aload_n (xd dX1_readFragment 40 rfl) 0 rfl ?_
    refine zr_getI 1 7 7 rfl (xd dX1_readFragment 41 rfl) f1_31 (by decide) (by decide) (lt491 hn (by decide)) kd_3 rfl ?_
    refine xr_bipush (v := oI 6) (xd dX1_readFragment 42 rfl) (by decide) ?_
    refine zr_iadd (xd dX1_readFragment 43 rfl) ?_
    refine xr_callV mX1_shortAt 1 [.int (oI ((J14 3 7) + 6))] (xd dX1_readFragment 44 rfl) l1_34 kX1_shortAt rfl (lt491 hn (by decide)) kd_3 (by decide) rfl (by decide) (Nat.le_of_ble_eq_true rfl) (v_X1_shortAt hn hR  h) (by decide) (by decide) (fun r_ M_ h_ => ?_) (fun _ _ h_ => h_.elim)
    obtain ⟨r17, J15, L16, rfl, rfl, h⟩ := h_
    show xJ _ _ _ _ _ _ _ _ _ 79 [(0, .ref 3)] [.int (oI r17), .ref 3] _ _ _ (zi J15) (li L16)
    obtain ⟨J18, e_J18⟩ : ∃ z_ : zM, z_ = zs J15 3 13 r17 := ⟨_, rfl⟩
    replace h := h J18 e_J18
    refine zr_putI 1 13 13 rfl e_J18 (xd dX1_readFragment 45 rfl) f1_62 (by decide) (by decide) (lt491 hn (by decide)) kd_3 (Or.inl rfl) rfl rfl (fun _ => rfl) ?_
    refine xr_aload_n (xd dX1_readFragment 46 rfl) 0 rfl ?_
    refine xr_aload_n (xd dX1_readFragment 47 rfl) 0 rfl ?_
    refine zr_getI 1 7 7 rfl (xd dX1_readFragment 48 rfl) f1_31 (by decide) (by decide) (lt491 hn (by decide)) kd_3 rfl ?_
    refine xr_bipush (v := oI 8) (xd dX1_readFragment 49 rfl) (by decide) ?_
    refine zr_iadd (xd dX1_readFragment 50 rfl) ?_
    obtain ⟨J19, e_J19⟩ : ∃ z_ : zM, z_ = zs J18 3 14 ((J18 3 7) + 8) := ⟨_, rfl⟩
    replace h := h J19 e_J19
    refine zr_putI 1 14 14 rfl e_J19 (xd dX1_readFragment 51 rfl) f1_65 (by decide) (by decide) (lt491 hn (by decide)) kd_3 (Or.inl rfl) rfl rfl (fun _ => rfl) ?_
    refine xr_aload_n (xd dX1_readFragment 52 rfl) 0 rfl ?_
    refine zr_getI 1 13 13 rfl (xd dX1_readFragment 53 rfl) f1_62 (by decide) (by decide) (lt491 hn (by decide)) kd_3 rfl ?_
    obtain ⟨o20, h⟩ := h
    refine zr_if_le 134 (xd dX1_readFragment 54 rfl) (by decide) o20 (fun c21 => ?_) (fun c21 => ?_)
    · replace h := ifn h c21
      refine xr_iconst (v := oI 0) (xd dX1_readFragment 72 rfl) (by decide) ?_
      exact xr_zret (xd dX1_readFragment 73 rfl) rfl (zret_b (Or.inl rfl)) (by decide) (by decide) (fun _ => rfl) ⟨_, _, _, rfl, rfl, h⟩
    · replace h := ifp h c21
      refine xr_aload_n (xd dX1_readFragment 55 rfl) 0 rfl ?_
      refine zr_getI 1 8 8 rfl (xd dX1_readFragment 56 rfl) f1_38 (by decide) (by decide) (lt491 hn (by decide)) kd_3 rfl ?_
      refine xr_bipush (v := oI 8) (xd dX1_readFragment 57 rfl) (by decide) ?_
      refine xr_aload_n (xd dX1_readFragment 58 rfl) 0 rfl ?_
      refine zr_getI 1 13 13 rfl (xd dX1_readFragment 59 rfl) f1_62 (by decide) (by decide) (lt491 hn (by decide)) kd_3 rfl ?_
      refine zr_iadd (xd dX1_readFragment 60 rfl) ?_
      obtain ⟨o22, h⟩ := h
      obtain ⟨o23, h⟩ := h
      refine zr_icmp_ne 134 (xd dX1_readFragment 61 rfl) (by decide) o22 o23 (fun c24 => ?_) (fun c24 => ?_)
      · replace h := ifn h c24
        refine xr_iconst (v := oI 0) (xd dX1_readFragment 72 rfl) (by decide) ?_
        exact xr_zret (xd dX1_readFragment 73 rfl) rfl (zret_b (Or.inl rfl)) (by decide) (by decide) (fun _ => rfl) ⟨_, _, _, rfl, rfl, h⟩
      · replace h := ifp h c24
        refine xr_aload_n (xd dX1_readFragment 62 rfl) 0 rfl ?_
        refine zr_getI 1 12 12 rfl (xd dX1_readFragment 63 rfl) f1_59 (by decide) (by decide) (lt491 hn (by decide)) kd_3 rfl ?_
        refine xr_aload_n (xd dX1_readFragment 64 rfl) 0 rfl ?_
        refine zr_getI 1 13 13 rfl (xd dX1_readFragment 65 rfl) f1_62 (by decide) (by decide) (lt491 hn (by decide)) kd_3 rfl ?_
        refine zr_iadd (xd dX1_readFragment 66 rfl) ?_
        refine xr_aload_n (xd dX1_readFragment 67 rfl) 0 rfl ?_
        refine zr_getI 1 10 10 rfl (xd dX1_readFragment 68 rfl) f1_53 (by decide) (by decide) (lt491 hn (by decide)) kd_3 rfl ?_
        obtain ⟨o25, h⟩ := h
        obtain ⟨o26, h⟩ := h
        refine zr_icmp_gt 134 (xd dX1_readFragment 69 rfl) (by decide) o25 o26 (fun c27 => ?_) (fun c27 => ?_)
        · replace h := ifp h c27
          refine xr_iconst (v := oI 0) (xd dX1_readFragment 72 rfl) (by decide) ?_
          exact xr_zret (xd dX1_readFragment 73 rfl) rfl (zret_b (Or.inl rfl)) (by decide) (by decide) (fun _ => rfl) ⟨_, _, _, rfl, rfl, h⟩
        · replace h := ifn h c27
          refine xr_iconst (v := oI 1) (xd dX1_readFragment 70 rfl) (by decide) ?_
          refine xr_goto 135 (xd dX1_readFragment 71 rfl) (by decide) ?_
          exact xr_zret (xd dX1_readFragment 73 rfl) rfl (zret_b (Or.inr rfl)) (by decide) (by decide) (fun _ => rfl) ⟨_, _, _, rfl, rfl, h⟩
  · replace h := ifp h c2
    refine xr_iconst (v := oI 0) (xd dX1_readFragment 4 rfl) (by decide) ?_
    exact xr_zret (xd dX1_readFragment 5 rfl) rfl (zret_b (Or.inl rfl)) (by decide) (by decide) (fun _ => rfl) ⟨_, _, _, rfl, rfl, h⟩
def w_X2_startAnew (e : Nat) (J : zM) (L : yM) (Q : zM → yM → Prop) : Prop := ∀ J1 : zM, J1 = zs J (e + 8) 8 0 → ∀ J2 : zM, J2 = zs J1 (e + 8) 9 0 → ∀ J3 : zM, J3 = zs J2 (e + 8) 10 0 → ∀ J4 : zM, J4 = zs J3 (e + 8) 11 0 → ∀ J5 : zM, J5 = zs J4 (e + 8) 12 0 → ∀ J6 : zM, J6 = zs J5 (e + 8) 13 0 → Q J6 L
set_option maxHeartbeats 4000000 in
set_option maxRecDepth 100000 in
theorem v_X2_startAnew {b : Nat} {dC : Nat → ClassId} {dI : Nat → Nat → Nat} {cA : Nat → ClassId} {ts : Nat → Nat} {l : Launch} {n : Nat} {R : Nat → Nat → Option Nat} {al : Bool} (hn : 491 ≤ n) (hR : xRk R) {e : Nat} (he : iSide e) {J : zM} {L : yM} {Q : zM → yM → Prop} (h : w_X2_startAnew e J L Q) : xCn (xGm b dC dI cA ts) l mX2_startAnew [.ref (e + 8)] al (n, R, zi J, li L) 0 0 (zQ0 n R Q) (fun _ _ => False) := by
  refine xCn.ofJ (by decide) (Nat.le_of_ble_eq_true rfl) ?_
  show xJ _ _ _ _ _ _ _ _ _ 0 [(0, .ref (e + 8))] [] _ _ _ _ _
  unfold w_X2_startAnew at h
  refine xr_aload_n (xd dX2_startAnew 0 rfl) 0 rfl ?_
  refine xr_iconst (v := oI 0) (xd dX2_startAnew 1 rfl) (by decide) ?_
  obtain ⟨J1, e_J1⟩ : ∃ z_ : zM, z_ = zs J (e + 8) 8 0 := ⟨_, rfl⟩
  replace h := h J1 e_J1
  refine zr_putI 2 8 8 rfl e_J1 (xd dX2_startAnew 2 rfl) f2_36 (by decide) (by decide) (lt491 hn (ltS he (by decide))) (kdS_8 he) (Or.inl rfl) rfl rfl (fun _ => rfl) ?_
  refine xr_aload_n (xd dX2_startAnew 3 rfl) 0 rfl ?_
  refine xr_iconst (v := oI 0) (xd dX2_startAnew 4 rfl) (by decide) ?_
  obtain ⟨J2, e_J2⟩ : ∃ z_ : zM, z_ = zs J1 (e + 8) 9 0 := ⟨_, rfl⟩
  replace h := h J2 e_J2
  refine zr_putI 2 9 9 rfl e_J2 (xd dX2_startAnew 5 rfl) f2_40 (by decide) (by decide) (lt491 hn (ltS he (by decide))) (kdS_8 he) (Or.inl rfl) rfl rfl (fun _ => rfl) ?_
  refine xr_aload_n (xd dX2_startAnew 6 rfl) 0 rfl ?_
  refine xr_iconst (v := oI 0) (xd dX2_startAnew 7 rfl) (by decide) ?_
  obtain ⟨J3, e_J3⟩ : ∃ z_ : zM, z_ = zs J2 (e + 8) 10 0 := ⟨_, rfl⟩
  replace h := h J3 e_J3
  refine zr_putI 2 10 10 rfl e_J3 (xd dX2_startAnew 8 rfl) f2_43 (by decide) (by decide) (lt491 hn (ltS he (by decide))) (kdS_8 he) (Or.inl rfl) rfl rfl (fun _ => rfl) ?_
  refine xr_aload_n (xd dX2_startAnew 9 rfl) 0 rfl ?_
  refine xr_iconst (v := oI 0) (xd dX2_startAnew 10 rfl) (by decide) ?_
  obtain ⟨J4, e_J4⟩ : ∃ z_ : zM, z_ = zs J3 (e + 8) 11 0 := ⟨_, rfl⟩
  replace h := h J4 e_J4
  refine zr_putI 2 11 11 rfl e_J4 (xd dX2_startAnew 11 rfl) f2_46 (by decide) (by decide) (lt491 hn (ltS he (by decide))) (kdS_8 he) (Or.inl rfl) rfl rfl (fun _ => rfl) ?_
  refine xr_aload_n (xd dX2_startAnew 12 rfl) 0 rfl ?_
  refine xr_iconst (v := oI 0) (xd dX2_startAnew 13 rfl) (by decide) ?_
  obtain ⟨J5, e_J5⟩ : ∃ z_ : zM, z_ = zs J4 (e + 8) 12 0 := ⟨_, rfl⟩
  replace h := h J5 e_J5
  refine zr_putI 2 12 12 rfl e_J5 (xd dX2_startAnew 14 rfl) f2_49 (by decide) (by decide) (lt491 hn (ltS he (by decide))) (kdS_8 he) (Or.inl rfl) rfl rfl (fun _ => rfl) ?_
  refine xr_aload_n (xd dX2_startAnew 15 rfl) 0 rfl ?_
  refine xr_iconst (v := oI 0) (xd dX2_startAnew 16 rfl) (by decide) ?_
  obtain ⟨J6, e_J6⟩ : ∃ z_ : zM, z_ = zs J5 (e + 8) 13 0 := ⟨_, rfl⟩
  replace h := h J6 e_J6
  refine zr_putI 2 13 13 rfl e_J6 (xd dX2_startAnew 17 rfl) f2_52 (by decide) (by decide) (lt491 hn (ltS he (by decide))) (kdS_8 he) (Or.inl rfl) (zret_b (Or.inl rfl)) (fits_b (Or.inl rfl)) (fun _ => rfl) ?_
  exact xr_vret (xd dX2_startAnew 18 rfl) rfl (by decide) (by decide) (fun _ => rfl) ⟨_, _, rfl, rfl, h⟩
def w_X2_addMessage (e : Nat) (p1 : Int) (p2 : Int) (p3 : Nat) (p4 : Int) (J : zM) (L : yM) (Q : zM → yM → Prop) : Prop := R32 (J (e + 8) 8) ∧ (if (J (e + 8) 8) < 3 then R32 p4 ∧ R32 (ln0 p3 : Int) ∧ (if (ln0 p3 : Int) < p4 then Q J L else ((0 : Int) ≤ (J (e + 8) 8) ∧ (J (e + 8) 8) < 4) ∧ R32 ((J (e + 13) (J (e + 8) 8)) + p4) ∧ (if 204 < ((J (e + 13) (J (e + 8) 8)) + p4) then Q J L else ((0 : Int) ≤ (J (e + 8) 8) ∧ (J (e + 8) 8) < 4) ∧ ∀ x10 : Int, x10 = (J (e + 13) (J (e + 8) 8)) → ((0 : Int) ≤ 0 ∧ (0 : Int) ≤ x10 ∧ (0 : Int) ≤ p4 ∧ (0 + p4 : Int) ≤ (ln0 p3 : Int) ∧ (x10 + p4 : Int) ≤ 204) ∧ ∀ J12 : zM, J12 = zcp J p3 0 (e + 9) x10 p4 → zl_z (fun K13 x14 J15 L16 => R32 x14 ∧ R32 (x10 + p4) ∧ (if x14 < (x10 + p4) then ((0 : Int) ≤ x14 ∧ x14 < 204) ∧ ∀ J28 : zM, J28 = zs J15 (e + 10) x14 0 → K13 (x14 + 1) J28 L16 else ((0 : Int) ≤ (J15 (e + 8) 8) ∧ (J15 (e + 8) 8) < 3) ∧ ∀ J21 : zM, J21 = zs J15 (e + 11) (J15 (e + 8) 8) p1 → ((0 : Int) ≤ (J21 (e + 8) 8) ∧ (J21 (e + 8) 8) < 3) ∧ ∀ J23 : zM, J23 = zs J21 (e + 12) (J21 (e + 8) 8) p2 → ∀ J24 : zM, J24 = zs J23 (e + 8) 8 ((J23 (e + 8) 8) + 1) → ((0 : Int) ≤ (J24 (e + 8) 8) ∧ (J24 (e + 8) 8) < 4) ∧ ∀ J26 : zM, J26 = zs J24 (e + 13) (J24 (e + 8) 8) (x10 + p4) → Q J26 L16)) x10 J12 L)) else Q J L)
set_option maxHeartbeats 4000000 in
set_option maxRecDepth 100000 in
theorem v_X2_addMessage {b : Nat} {dC : Nat → ClassId} {dI : Nat → Nat → Nat} {cA : Nat → ClassId} {ts : Nat → Nat} {l : Launch} {n : Nat} {R : Nat → Nat → Option Nat} {al : Bool} (hn : 491 ≤ n) (hR : xRk R) {e : Nat} {p1 : Int} {p2 : Int} {p3 : Nat} {p4 : Int} (he : iSide e) (h_p3 : za p3) {J : zM} {L : yM} {Q : zM → yM → Prop} (h : w_X2_addMessage e p1 p2 p3 p4 J L Q) : xCn (xGm b dC dI cA ts) l mX2_addMessage [.ref (e + 8), .int (oI p1), .int (oI p2), .ref p3, .int (oI p4)] al (n, R, zi J, li L) 0 0 (zQ0 n R Q) (fun _ _ => False) := by
  refine xCn.ofJ (by decide) (Nat.le_of_ble_eq_true rfl) ?_
  show xJ _ _ _ _ _ _ _ _ _ 0 [(0, .ref (e + 8)), (1, .int (oI p1)), (2, .int (oI p2)), (3, .ref p3), (4, .int (oI p4))] [] _ _ _ _ _
  unfold w_X2_addMessage at h
  refine xr_aload_n (xd dX2_addMessage 0 rfl) 0 rfl ?_
  refine zr_getI 2 8 8 rfl (xd dX2_addMessage 1 rfl) f2_36 (by decide) (by decide) (lt491 hn (ltS he (by decide))) (kdS_8 he) rfl ?_
  refine xr_aload_n (xd dX2_addMessage 2 rfl) 0 rfl ?_
  refine xr_getR (b := (e + 11)) 2 2 (xd dX2_addMessage 3 rfl) f2_18 (by decide) (by decide) (lt491 hn (ltS he (by decide))) (kdS_8 he) rfl (rS_8_2 hR he) ?_
  refine zr_alen (v := 3) 0 (xd dX2_addMessage 4 rfl) (lt491 hn (ltS he (by decide))) (by decide) (kdS_11 he) (lnS_11 he) rfl ?_
  obtain ⟨o1, h⟩ := h
  refine zr_icmp_ge 37 (xd dX2_addMessage 5 rfl) (by decide) o1 (by decide) (fun c2 => ?_) (fun c2 => ?_)
  · replace h := ifn h c2
    exact xr_vret (xd dX2_addMessage 19 rfl) rfl (by decide) (by decide) (fun _ => rfl) ⟨_, _, rfl, rfl, h⟩
  · replace h := ifp h c2
    refine xr_iload (xd dX2_addMessage 6 rfl) 4 rfl ?_
    refine xr_aload_n (xd dX2_addMessage 7 rfl) 3 rfl ?_
    refine zr_alen (v := (ln0 p3 : Int)) 0 (xd dX2_addMessage 8 rfl) (lt491 hn h_p3.2) (by decide) h_p3.1 rfl rfl ?_
    obtain ⟨o3, h⟩ := h
    obtain ⟨o4, h⟩ := h
    refine zr_icmp_gt 37 (xd dX2_addMessage 9 rfl) (by decide) o3 o4 (fun c5 => ?_) (fun c5 => ?_)
    · replace h := ifp h c5
      exact xr_vret (xd dX2_addMessage 19 rfl) rfl (by decide) (by decide) (fun _ => rfl) ⟨_, _, rfl, rfl, h⟩
    · replace h := ifn h c5
      refine xr_aload_n (xd dX2_addMessage 10 rfl) 0 rfl ?_
      refine xr_getR (b := (e + 13)) 2 4 (xd dX2_addMessage 11 rfl) f2_24 (by decide) (by decide) (lt491 hn (ltS he (by decide))) (kdS_8 he) rfl (rS_8_4 hR he) ?_
      refine xr_aload_n (xd dX2_addMessage 12 rfl) 0 rfl ?_
      refine zr_getI 2 8 8 rfl (xd dX2_addMessage 13 rfl) f2_36 (by decide) (by decide) (lt491 hn (ltS he (by decide))) (kdS_8 he) rfl ?_
      obtain ⟨o6, h⟩ := h
      refine zr_iaload (xd dX2_addMessage 14 rfl) (lt491 hn (ltS he (by decide))) (kdS_13 he) (lnS_13 he) (by decide) o6 ?_
      refine xr_iload (xd dX2_addMessage 15 rfl) 4 rfl ?_
      refine zr_iadd (xd dX2_addMessage 16 rfl) ?_
      refine xr_sipush (v := oI 204) (xd dX2_addMessage 17 rfl) (by decide) ?_
      obtain ⟨o7, h⟩ := h
      refine zr_icmp_le 38 (xd dX2_addMessage 18 rfl) (by decide) o7 (by decide) (fun c8 => ?_) (fun c8 => ?_)
      · replace h := ifn h c8
        refine xr_aload_n (xd dX2_addMessage 20 rfl) 0 rfl ?_
        refine xr_getR (b := (e + 13)) 2 4 (xd dX2_addMessage 21 rfl) f2_24 (by decide) (by decide) (lt491 hn (ltS he (by decide))) (kdS_8 he) rfl (rS_8_4 hR he) ?_
        refine xr_aload_n (xd dX2_addMessage 22 rfl) 0 rfl ?_
        refine zr_getI 2 8 8 rfl (xd dX2_addMessage 23 rfl) f2_36 (by decide) (by decide) (lt491 hn (ltS he (by decide))) (kdS_8 he) rfl ?_
        obtain ⟨o9, h⟩ := h
        refine zr_iaload (xd dX2_addMessage 24 rfl) (lt491 hn (ltS he (by decide))) (kdS_13 he) (lnS_13 he) (by decide) o9 ?_
        obtain ⟨x10, e_x10⟩ : ∃ z_ : Int, z_ = (J (e + 13) (J (e + 8) 8)) := ⟨_, rfl⟩
        replace h := h x10 e_x10
        refine zr_nm e_x10 ?_
        refine xr_istore [(0, .ref (e + 8)), (1, .int (oI p1)), (2, .int (oI p2)), (3, .ref p3), (4, .int (oI p4)), (5, .int (oI x10))] (xd dX2_addMessage 25 rfl) (by decide) rfl ?_
        refine xr_aload_n (xd dX2_addMessage 26 rfl) 3 rfl ?_
        refine xr_iconst (v := oI 0) (xd dX2_addMessage 27 rfl) (by decide) ?_
        refine xr_aload_n (xd dX2_addMessage 28 rfl) 0 rfl ?_
        refine xr_getR (b := (e + 9)) 2 0 (xd dX2_addMessage 29 rfl) f2_9 (by decide) (by decide) (lt491 hn (ltS he (by decide))) (kdS_8 he) rfl (rS_8_0 hR he) ?_
        refine xr_iload (xd dX2_addMessage 30 rfl) 5 rfl ?_
        refine xr_iload (xd dX2_addMessage 31 rfl) 4 rfl ?_
        obtain ⟨o11, h⟩ := h
        obtain ⟨J12, e_J12⟩ : ∃ z_ : zM, z_ = zcp J p3 0 (e + 9) x10 p4 := ⟨_, rfl⟩
        replace h := h J12 e_J12
        refine zr_acopy e_J12 (xd dX2_addMessage 32 rfl) l2_56 (lt491 hn h_p3.2) h_p3.1 rfl (ln0_lt p3) (lt491 hn (ltS he (by decide))) (kdS_9 he) (lnS_9 he) (by decide) o11.1 o11.2.1 o11.2.2.1 o11.2.2.2.1 o11.2.2.2.2 ⟨Nat.le_of_ble_eq_true rfl, Nat.le_of_ble_eq_true rfl⟩ ?_
        refine xr_iload (xd dX2_addMessage 33 rfl) 5 rfl ?_
        refine xr_istore [(0, .ref (e + 8)), (1, .int (oI p1)), (2, .int (oI p2)), (3, .ref p3), (4, .int (oI p4)), (5, .int (oI x10)), (6, .int (oI x10))] (xd dX2_addMessage 34 rfl) (by decide) rfl ?_
        refine xJ.pick (ls' := [(0, .ref (e + 8)), (1, .int (oI p1)), (2, .int (oI p2)), (4, .int (oI p4)), (5, .int (oI x10)), (6, .int (oI x10))]) [0, 1, 2, 4, 5, 6] rfl ?_
        refine h (fun x14 J15 L16 => xJ (xGm b dC dI cA ts) l mX2_addMessage 0 0 (zQ0 n R Q) (fun _ _ => False) 0 0 66 [(0, .ref (e + 8)), (1, .int (oI p1)), (2, .int (oI p2)), (4, .int (oI p4)), (5, .int (oI x10)), (6, .int (oI x14))] [] al n R (zi J15) (li L16)) ?_
        intro x14 J15 L16 h
        show xJ _ _ _ _ _ _ _ _ _ 66 [(0, .ref (e + 8)), (1, .int (oI p1)), (2, .int (oI p2)), (4, .int (oI p4)), (5, .int (oI x10)), (6, .int (oI x14))] [] _ _ _ _ _
        refine xr_iload (xd dX2_addMessage 35 rfl) 5 rfl ?_
        refine xr_iload (xd dX2_addMessage 36 rfl) 4 rfl ?_
        refine xr_iload (xd dX2_addMessage 37 rfl) 3 rfl ?_
        refine zr_iadd (xd dX2_addMessage 38 rfl) ?_
        obtain ⟨o17, h⟩ := h
        obtain ⟨o18, h⟩ := h
        refine zr_icmp_ge 90 (xd dX2_addMessage 39 rfl) (by decide) o17 o18 (fun c19 => ?_) (fun c19 => ?_)
        · replace h := ifn h c19
          refine xr_aload_n (xd dX2_addMessage 47 rfl) 0 rfl ?_
          refine xr_getR (b := (e + 11)) 2 2 (xd dX2_addMessage 48 rfl) f2_18 (by decide) (by decide) (lt491 hn (ltS he (by decide))) (kdS_8 he) rfl (rS_8_2 hR he) ?_
          refine xr_aload_n (xd dX2_addMessage 49 rfl) 0 rfl ?_
          refine zr_getI 2 8 8 rfl (xd dX2_addMessage 50 rfl) f2_36 (by decide) (by decide) (lt491 hn (ltS he (by decide))) (kdS_8 he) rfl ?_
          refine xr_iload_n (xd dX2_addMessage 51 rfl) 1 rfl ?_
          obtain ⟨o20, h⟩ := h
          obtain ⟨J21, e_J21⟩ : ∃ z_ : zM, z_ = zs J15 (e + 11) (J15 (e + 8) 8) p1 := ⟨_, rfl⟩
          replace h := h J21 e_J21
          refine zr_iastore e_J21 (xd dX2_addMessage 52 rfl) (lt491 hn (ltS he (by decide))) (kdS_11 he) (lnS_11 he) (by decide) o20 ?_
          refine xr_aload_n (xd dX2_addMessage 53 rfl) 0 rfl ?_
          refine xr_getR (b := (e + 12)) 2 3 (xd dX2_addMessage 54 rfl) f2_21 (by decide) (by decide) (lt491 hn (ltS he (by decide))) (kdS_8 he) rfl (rS_8_3 hR he) ?_
          refine xr_aload_n (xd dX2_addMessage 55 rfl) 0 rfl ?_
          refine zr_getI 2 8 8 rfl (xd dX2_addMessage 56 rfl) f2_36 (by decide) (by decide) (lt491 hn (ltS he (by decide))) (kdS_8 he) rfl ?_
          refine xr_iload_n (xd dX2_addMessage 57 rfl) 2 rfl ?_
          obtain ⟨o22, h⟩ := h
          obtain ⟨J23, e_J23⟩ : ∃ z_ : zM, z_ = zs J21 (e + 12) (J21 (e + 8) 8) p2 := ⟨_, rfl⟩
          replace h := h J23 e_J23
          refine zr_iastore e_J23 (xd dX2_addMessage 58 rfl) (lt491 hn (ltS he (by decide))) (kdS_12 he) (lnS_12 he) (by decide) o22 ?_
          refine xr_aload_n (xd dX2_addMessage 59 rfl) 0 rfl ?_
          refine xr_dup (xd dX2_addMessage 60 rfl) rfl ?_
          refine zr_getI 2 8 8 rfl (xd dX2_addMessage 61 rfl) f2_36 (by decide) (by decide) (lt491 hn (ltS he (by decide))) (kdS_8 he) rfl ?_
          refine xr_iconst (v := oI 1) (xd dX2_addMessage 62 rfl) (by decide) ?_
          refine zr_iadd (xd dX2_addMessage 63 rfl) ?_
          obtain ⟨J24, e_J24⟩ : ∃ z_ : zM, z_ = zs J23 (e + 8) 8 ((J23 (e + 8) 8) + 1) := ⟨_, rfl⟩
          replace h := h J24 e_J24
          refine zr_putI 2 8 8 rfl e_J24 (xd dX2_addMessage 64 rfl) f2_36 (by decide) (by decide) (lt491 hn (ltS he (by decide))) (kdS_8 he) (Or.inl rfl) rfl rfl (fun _ => rfl) ?_
          refine xr_aload_n (xd dX2_addMessage 65 rfl) 0 rfl ?_
          refine xr_getR (b := (e + 13)) 2 4 (xd dX2_addMessage 66 rfl) f2_24 (by decide) (by decide) (lt491 hn (ltS he (by decide))) (kdS_8 he) rfl (rS_8_4 hR he) ?_
          refine xr_aload_n (xd dX2_addMessage 67 rfl) 0 rfl ?_
          refine zr_getI 2 8 8 rfl (xd dX2_addMessage 68 rfl) f2_36 (by decide) (by decide) (lt491 hn (ltS he (by decide))) (kdS_8 he) rfl ?_
          refine xr_iload (xd dX2_addMessage 69 rfl) 4 rfl ?_
          refine xr_iload (xd dX2_addMessage 70 rfl) 3 rfl ?_
          refine zr_iadd (xd dX2_addMessage 71 rfl) ?_
          obtain ⟨o25, h⟩ := h
          obtain ⟨J26, e_J26⟩ : ∃ z_ : zM, z_ = zs J24 (e + 13) (J24 (e + 8) 8) (x10 + p4) := ⟨_, rfl⟩
          replace h := h J26 e_J26
          refine zr_iastore e_J26 (xd dX2_addMessage 72 rfl) (lt491 hn (ltS he (by decide))) (kdS_13 he) (lnS_13 he) (by decide) o25 ?_
          exact xr_vret (xd dX2_addMessage 73 rfl) rfl (by decide) (by decide) (fun _ => rfl) ⟨_, _, rfl, rfl, h⟩
        · replace h := ifp h c19
          refine xr_aload_n (xd dX2_addMessage 40 rfl) 0 rfl ?_
          refine xr_getR (b := (e + 10)) 2 1 (xd dX2_addMessage 41 rfl) f2_15 (by decide) (by decide) (lt491 hn (ltS he (by decide))) (kdS_8 he) rfl (rS_8_1 hR he) ?_
          refine xr_iload (xd dX2_addMessage 42 rfl) 5 rfl ?_
          refine xr_iconst (v := oI 0) (xd dX2_addMessage 43 rfl) (by decide) ?_
          obtain ⟨o27, h⟩ := h
          obtain ⟨J28, e_J28⟩ : ∃ z_ : zM, z_ = zs J15 (e + 10) x14 0 := ⟨_, rfl⟩
          replace h := h J28 e_J28
          refine zr_iastore e_J28 (xd dX2_addMessage 44 rfl) (lt491 hn (ltS he (by decide))) (kdS_10 he) (lnS_10 he) (by decide) o27 ?_
          refine zr_iinc [(0, .ref (e + 8)), (1, .int (oI p1)), (2, .int (oI p2)), (4, .int (oI p4)), (5, .int (oI x10)), (6, .int (oI (x14 + 1)))] (xd dX2_addMessage 45 rfl) 5 rfl (by decide) rfl ?_
          refine xr_goto 66 (xd dX2_addMessage 46 rfl) (by decide) ?_
          exact h
      · replace h := ifp h c8
        exact xr_vret (xd dX2_addMessage 19 rfl) rfl (by decide) (by decide) (fun _ => rfl) ⟨_, _, rfl, rfl, h⟩
def w_X2_sentFirst (e : Nat) (p1 : Int) (J : zM) (L : yM) (Q : zM → yM → Prop) : Prop := ∀ J1 : zM, J1 = zs J (e + 8) 10 4 → ∀ J2 : zM, J2 = zs J1 (e + 8) 11 p1 → ∀ J3 : zM, J3 = zs J2 (e + 8) 13 1 → Q J3 L
set_option maxHeartbeats 4000000 in
set_option maxRecDepth 100000 in
theorem v_X2_sentFirst {b : Nat} {dC : Nat → ClassId} {dI : Nat → Nat → Nat} {cA : Nat → ClassId} {ts : Nat → Nat} {l : Launch} {n : Nat} {R : Nat → Nat → Option Nat} {al : Bool} (hn : 491 ≤ n) (hR : xRk R) {e : Nat} {p1 : Int} (he : iSide e) {J : zM} {L : yM} {Q : zM → yM → Prop} (h : w_X2_sentFirst e p1 J L Q) : xCn (xGm b dC dI cA ts) l mX2_sentFirst [.ref (e + 8), .int (oI p1)] al (n, R, zi J, li L) 0 0 (zQ0 n R Q) (fun _ _ => False) := by
  refine xCn.ofJ (by decide) (Nat.le_of_ble_eq_true rfl) ?_
  show xJ _ _ _ _ _ _ _ _ _ 0 [(0, .ref (e + 8)), (1, .int (oI p1))] [] _ _ _ _ _
  unfold w_X2_sentFirst at h
  refine xr_aload_n (xd dX2_sentFirst 0 rfl) 0 rfl ?_
  refine xr_iconst (v := oI 4) (xd dX2_sentFirst 1 rfl) (by decide) ?_
  obtain ⟨J1, e_J1⟩ : ∃ z_ : zM, z_ = zs J (e + 8) 10 4 := ⟨_, rfl⟩
  replace h := h J1 e_J1
  refine zr_putI 2 10 10 rfl e_J1 (xd dX2_sentFirst 2 rfl) f2_43 (by decide) (by decide) (lt491 hn (ltS he (by decide))) (kdS_8 he) (Or.inl rfl) rfl rfl (fun _ => rfl) ?_
  refine xr_aload_n (xd dX2_sentFirst 3 rfl) 0 rfl ?_
  refine xr_iload_n (xd dX2_sentFirst 4 rfl) 1 rfl ?_
  obtain ⟨J2, e_J2⟩ : ∃ z_ : zM, z_ = zs J1 (e + 8) 11 p1 := ⟨_, rfl⟩
  replace h := h J2 e_J2
  refine zr_putI 2 11 11 rfl e_J2 (xd dX2_sentFirst 5 rfl) f2_46 (by decide) (by decide) (lt491 hn (ltS he (by decide))) (kdS_8 he) (Or.inl rfl) rfl rfl (fun _ => rfl) ?_
  refine xr_aload_n (xd dX2_sentFirst 6 rfl) 0 rfl ?_
  refine xr_iconst (v := oI 1) (xd dX2_sentFirst 7 rfl) (by decide) ?_
  obtain ⟨J3, e_J3⟩ : ∃ z_ : zM, z_ = zs J2 (e + 8) 13 1 := ⟨_, rfl⟩
  replace h := h J3 e_J3
  refine zr_putI 2 13 13 rfl e_J3 (xd dX2_sentFirst 8 rfl) f2_52 (by decide) (by decide) (lt491 hn (ltS he (by decide))) (kdS_8 he) (Or.inl rfl) (zret_b (Or.inr rfl)) (fits_b (Or.inr rfl)) (fun _ => rfl) ?_
  exact xr_vret (xd dX2_sentFirst 9 rfl) rfl (by decide) (by decide) (fun _ => rfl) ⟨_, _, rfl, rfl, h⟩
def w_X2_end (e : Nat) (J : zM) (L : yM) (Q : Int → zM → yM → Prop) : Prop := ((0 : Int) ≤ (J (e + 8) 8) ∧ (J (e + 8) 8) < 4) ∧ Q (J (e + 13) (J (e + 8) 8)) J L
set_option maxHeartbeats 4000000 in
set_option maxRecDepth 100000 in
theorem v_X2_end {b : Nat} {dC : Nat → ClassId} {dI : Nat → Nat → Nat} {cA : Nat → ClassId} {ts : Nat → Nat} {l : Launch} {n : Nat} {R : Nat → Nat → Option Nat} {al : Bool} (hn : 491 ≤ n) (hR : xRk R) {e : Nat} (he : iSide e) {J : zM} {L : yM} {Q : Int → zM → yM → Prop} (h : w_X2_end e J L Q) : xCn (xGm b dC dI cA ts) l mX2_end [.ref (e + 8)] al (n, R, zi J, li L) 0 0 (zQ1 n R Q) (fun _ _ => False) := by
  refine xCn.ofJ (by decide) (Nat.le_of_ble_eq_true rfl) ?_
  show xJ _ _ _ _ _ _ _ _ _ 0 [(0, .ref (e + 8))] [] _ _ _ _ _
  unfold w_X2_end at h
  refine xr_aload_n (xd dX2_end 0 rfl) 0 rfl ?_
  refine xr_getR (b := (e + 13)) 2 4 (xd dX2_end 1 rfl) f2_24 (by decide) (by decide) (lt491 hn (ltS he (by decide))) (kdS_8 he) rfl (rS_8_4 hR he) ?_
  refine xr_aload_n (xd dX2_end 2 rfl) 0 rfl ?_
  refine zr_getI 2 8 8 rfl (xd dX2_end 3 rfl) f2_36 (by decide) (by decide) (lt491 hn (ltS he (by decide))) (kdS_8 he) rfl ?_
  obtain ⟨o1, h⟩ := h
  refine zr_iaload (xd dX2_end 4 rfl) (lt491 hn (ltS he (by decide))) (kdS_13 he) (lnS_13 he) (by decide) o1 ?_
  exact xr_iret (xd dX2_end 5 rfl) rfl (by decide) (by decide) (fun _ => rfl) ⟨_, _, _, rfl, rfl, h⟩
def w_X2_messageAt (e : Nat) (p1 : Int) (J : zM) (L : yM) (Q : Int → zM → yM → Prop) : Prop := zl_z (fun K1 x2 J3 L4 => R32 x2 ∧ R32 ((J3 (e + 8) 8) - 1) ∧ (if x2 < ((J3 (e + 8) 8) - 1) then ((0 : Int) ≤ (x2 + 1) ∧ (x2 + 1) < 4) ∧ R32 p1 ∧ R32 (J3 (e + 13) (x2 + 1)) ∧ (if p1 < (J3 (e + 13) (x2 + 1)) then Q x2 J3 L4 else K1 (x2 + 1) J3 L4) else Q x2 J3 L4)) 0 J L
set_option maxHeartbeats 4000000 in
set_option maxRecDepth 100000 in
theorem v_X2_messageAt {b : Nat} {dC : Nat → ClassId} {dI : Nat → Nat → Nat} {cA : Nat → ClassId} {ts : Nat → Nat} {l : Launch} {n : Nat} {R : Nat → Nat → Option Nat} {al : Bool} (hn : 491 ≤ n) (hR : xRk R) {e : Nat} {p1 : Int} (he : iSide e) {J : zM} {L : yM} {Q : Int → zM → yM → Prop} (h : w_X2_messageAt e p1 J L Q) : xCn (xGm b dC dI cA ts) l mX2_messageAt [.ref (e + 8), .int (oI p1)] al (n, R, zi J, li L) 0 0 (zQ1 n R Q) (fun _ _ => False) := by
  refine xCn.ofJ (by decide) (Nat.le_of_ble_eq_true rfl) ?_
  show xJ _ _ _ _ _ _ _ _ _ 0 [(0, .ref (e + 8)), (1, .int (oI p1))] [] _ _ _ _ _
  unfold w_X2_messageAt at h
  refine xr_iconst (v := oI 0) (xd dX2_messageAt 0 rfl) (by decide) ?_
  refine xr_istore_n [(0, .ref (e + 8)), (1, .int (oI p1)), (2, .int (oI 0))] (xd dX2_messageAt 1 rfl) rfl (by decide) rfl ?_
  refine h (fun x2 J3 L4 => xJ (xGm b dC dI cA ts) l mX2_messageAt 0 0 (zQ1 n R Q) (fun _ _ => False) 0 0 2 [(0, .ref (e + 8)), (1, .int (oI p1)), (2, .int (oI x2))] [] al n R (zi J3) (li L4)) ?_
  intro x2 J3 L4 h
  show xJ _ _ _ _ _ _ _ _ _ 2 [(0, .ref (e + 8)), (1, .int (oI p1)), (2, .int (oI x2))] [] _ _ _ _ _
  refine xr_iload_n (xd dX2_messageAt 2 rfl) 2 rfl ?_
  refine xr_aload_n (xd dX2_messageAt 3 rfl) 0 rfl ?_
  refine zr_getI 2 8 8 rfl (xd dX2_messageAt 4 rfl) f2_36 (by decide) (by decide) (lt491 hn (ltS he (by decide))) (kdS_8 he) rfl ?_
  refine xr_iconst (v := oI 1) (xd dX2_messageAt 5 rfl) (by decide) ?_
  refine zr_isub (xd dX2_messageAt 6 rfl) ?_
  obtain ⟨o5, h⟩ := h
  obtain ⟨o6, h⟩ := h
  refine zr_icmp_ge 30 (xd dX2_messageAt 7 rfl) (by decide) o5 o6 (fun c7 => ?_) (fun c7 => ?_)
  · replace h := ifn h c7
    refine xr_iload_n (xd dX2_messageAt 18 rfl) 2 rfl ?_
    exact xr_iret (xd dX2_messageAt 19 rfl) rfl (by decide) (by decide) (fun _ => rfl) ⟨_, _, _, rfl, rfl, h⟩
  · replace h := ifp h c7
    refine xr_iload_n (xd dX2_messageAt 8 rfl) 1 rfl ?_
    refine xr_aload_n (xd dX2_messageAt 9 rfl) 0 rfl ?_
    refine xr_getR (b := (e + 13)) 2 4 (xd dX2_messageAt 10 rfl) f2_24 (by decide) (by decide) (lt491 hn (ltS he (by decide))) (kdS_8 he) rfl (rS_8_4 hR he) ?_
    refine xr_iload_n (xd dX2_messageAt 11 rfl) 2 rfl ?_
    refine xr_iconst (v := oI 1) (xd dX2_messageAt 12 rfl) (by decide) ?_
    refine zr_iadd (xd dX2_messageAt 13 rfl) ?_
    obtain ⟨o8, h⟩ := h
    refine zr_iaload (xd dX2_messageAt 14 rfl) (lt491 hn (ltS he (by decide))) (kdS_13 he) (lnS_13 he) (by decide) o8 ?_
    obtain ⟨o9, h⟩ := h
    obtain ⟨o10, h⟩ := h
    refine zr_icmp_lt 30 (xd dX2_messageAt 15 rfl) (by decide) o9 o10 (fun c11 => ?_) (fun c11 => ?_)
    · replace h := ifp h c11
      refine xr_iload_n (xd dX2_messageAt 18 rfl) 2 rfl ?_
      exact xr_iret (xd dX2_messageAt 19 rfl) rfl (by decide) (by decide) (fun _ => rfl) ⟨_, _, _, rfl, rfl, h⟩
    · replace h := ifn h c11
      refine zr_iinc [(0, .ref (e + 8)), (1, .int (oI p1)), (2, .int (oI (x2 + 1)))] (xd dX2_messageAt 16 rfl) 2 rfl (by decide) rfl ?_
      refine xr_goto 2 (xd dX2_messageAt 17 rfl) (by decide) ?_
      exact h
def w_X2_openRun (e : Nat) (p1 : Int) (p2 : Int) (p3 : Int) (J : zM) (L : yM) (Q : Int → zM → yM → Prop) : Prop := zl_z (fun K1 x2 J3 L4 => ((0 : Int) ≤ (p2 + 1) ∧ (p2 + 1) < 4) ∧ R32 x2 ∧ R32 (J3 (e + 13) (p2 + 1)) ∧ (if x2 < (J3 (e + 13) (p2 + 1)) then R32 (p1 + p3) ∧ (if x2 < (p1 + p3) then ((0 : Int) ≤ x2 ∧ x2 < 204) ∧ R32 (J3 (e + 10) x2) ∧ (if (J3 (e + 10) x2) = 0 then K1 (x2 + 1) J3 L4 else Q (x2 - p1) J3 L4) else Q (x2 - p1) J3 L4) else Q (x2 - p1) J3 L4)) p1 J L
set_option maxHeartbeats 4000000 in
set_option maxRecDepth 100000 in
theorem v_X2_openRun {b : Nat} {dC : Nat → ClassId} {dI : Nat → Nat → Nat} {cA : Nat → ClassId} {ts : Nat → Nat} {l : Launch} {n : Nat} {R : Nat → Nat → Option Nat} {al : Bool} (hn : 491 ≤ n) (hR : xRk R) {e : Nat} {p1 : Int} {p2 : Int} {p3 : Int} (he : iSide e) {J : zM} {L : yM} {Q : Int → zM → yM → Prop} (h : w_X2_openRun e p1 p2 p3 J L Q) : xCn (xGm b dC dI cA ts) l mX2_openRun [.ref (e + 8), .int (oI p1), .int (oI p2), .int (oI p3)] al (n, R, zi J, li L) 0 0 (zQ1 n R Q) (fun _ _ => False) := by
  refine xCn.ofJ (by decide) (Nat.le_of_ble_eq_true rfl) ?_
  show xJ _ _ _ _ _ _ _ _ _ 0 [(0, .ref (e + 8)), (1, .int (oI p1)), (2, .int (oI p2)), (3, .int (oI p3))] [] _ _ _ _ _
  unfold w_X2_openRun at h
  refine xr_iload_n (xd dX2_openRun 0 rfl) 1 rfl ?_
  refine xr_istore [(0, .ref (e + 8)), (1, .int (oI p1)), (2, .int (oI p2)), (3, .int (oI p3)), (4, .int (oI p1))] (xd dX2_openRun 1 rfl) (by decide) rfl ?_
  refine h (fun x2 J3 L4 => xJ (xGm b dC dI cA ts) l mX2_openRun 0 0 (zQ1 n R Q) (fun _ _ => False) 0 0 3 [(0, .ref (e + 8)), (1, .int (oI p1)), (2, .int (oI p2)), (3, .int (oI p3)), (4, .int (oI x2))] [] al n R (zi J3) (li L4)) ?_
  intro x2 J3 L4 h
  show xJ _ _ _ _ _ _ _ _ _ 3 [(0, .ref (e + 8)), (1, .int (oI p1)), (2, .int (oI p2)), (3, .int (oI p3)), (4, .int (oI x2))] [] _ _ _ _ _
  refine xr_iload (xd dX2_openRun 2 rfl) 4 rfl ?_
  refine xr_aload_n (xd dX2_openRun 3 rfl) 0 rfl ?_
  refine xr_getR (b := (e + 13)) 2 4 (xd dX2_openRun 4 rfl) f2_24 (by decide) (by decide) (lt491 hn (ltS he (by decide))) (kdS_8 he) rfl (rS_8_4 hR he) ?_
  refine xr_iload_n (xd dX2_openRun 5 rfl) 2 rfl ?_
  refine xr_iconst (v := oI 1) (xd dX2_openRun 6 rfl) (by decide) ?_
  refine zr_iadd (xd dX2_openRun 7 rfl) ?_
  obtain ⟨o5, h⟩ := h
  refine zr_iaload (xd dX2_openRun 8 rfl) (lt491 hn (ltS he (by decide))) (kdS_13 he) (lnS_13 he) (by decide) o5 ?_
  obtain ⟨o6, h⟩ := h
  obtain ⟨o7, h⟩ := h
  refine zr_icmp_ge 40 (xd dX2_openRun 9 rfl) (by decide) o6 o7 (fun c8 => ?_) (fun c8 => ?_)
  · replace h := ifn h c8
    refine xr_iload (xd dX2_openRun 22 rfl) 4 rfl ?_
    refine xr_iload_n (xd dX2_openRun 23 rfl) 1 rfl ?_
    refine zr_isub (xd dX2_openRun 24 rfl) ?_
    exact xr_iret (xd dX2_openRun 25 rfl) rfl (by decide) (by decide) (fun _ => rfl) ⟨_, _, _, rfl, rfl, h⟩
  · replace h := ifp h c8
    refine xr_iload (xd dX2_openRun 10 rfl) 4 rfl ?_
    refine xr_iload_n (xd dX2_openRun 11 rfl) 1 rfl ?_
    refine xr_iload_n (xd dX2_openRun 12 rfl) 3 rfl ?_
    refine zr_iadd (xd dX2_openRun 13 rfl) ?_
    obtain ⟨o9, h⟩ := h
    refine zr_icmp_ge 40 (xd dX2_openRun 14 rfl) (by decide) o6 o9 (fun c10 => ?_) (fun c10 => ?_)
    · replace h := ifn h c10
      refine xr_iload (xd dX2_openRun 22 rfl) 4 rfl ?_
      refine xr_iload_n (xd dX2_openRun 23 rfl) 1 rfl ?_
      refine zr_isub (xd dX2_openRun 24 rfl) ?_
      exact xr_iret (xd dX2_openRun 25 rfl) rfl (by decide) (by decide) (fun _ => rfl) ⟨_, _, _, rfl, rfl, h⟩
    · replace h := ifp h c10
      refine xr_aload_n (xd dX2_openRun 15 rfl) 0 rfl ?_
      refine xr_getR (b := (e + 10)) 2 1 (xd dX2_openRun 16 rfl) f2_15 (by decide) (by decide) (lt491 hn (ltS he (by decide))) (kdS_8 he) rfl (rS_8_1 hR he) ?_
      refine xr_iload (xd dX2_openRun 17 rfl) 4 rfl ?_
      obtain ⟨o11, h⟩ := h
      refine zr_iaload (xd dX2_openRun 18 rfl) (lt491 hn (ltS he (by decide))) (kdS_10 he) (lnS_10 he) (by decide) o11 ?_
      obtain ⟨o12, h⟩ := h
      refine zr_if_ne 40 (xd dX2_openRun 19 rfl) (by decide) o12 (fun c13 => ?_) (fun c13 => ?_)
      · replace h := ifn h c13
        refine xr_iload (xd dX2_openRun 22 rfl) 4 rfl ?_
        refine xr_iload_n (xd dX2_openRun 23 rfl) 1 rfl ?_
        refine zr_isub (xd dX2_openRun 24 rfl) ?_
        exact xr_iret (xd dX2_openRun 25 rfl) rfl (by decide) (by decide) (fun _ => rfl) ⟨_, _, _, rfl, rfl, h⟩
      · replace h := ifp h c13
        refine zr_iinc [(0, .ref (e + 8)), (1, .int (oI p1)), (2, .int (oI p2)), (3, .int (oI p3)), (4, .int (oI (x2 + 1)))] (xd dX2_openRun 20 rfl) 4 rfl (by decide) rfl ?_
        refine xr_goto 3 (xd dX2_openRun 21 rfl) (by decide) ?_
        exact h
def w_X2_log (e : Nat) (p1 : Int) (p2 : Int) (p3 : Int) (p4 : Int) (J : zM) (L : yM) (Q : zM → yM → Prop) : Prop := R32 p2 ∧ (if p2 = (-1) then Q J L else R32 (J (e + 8) 9) ∧ (if (J (e + 8) 9) < 1836 then ((0 : Int) ≤ (J (e + 8) 9) ∧ (J (e + 8) 9) < 1836) ∧ ∀ J6 : zM, J6 = zs J (e + 14) (J (e + 8) 9) (zor (zshl p1 16) p2) → ((0 : Int) ≤ (J6 (e + 8) 9) ∧ (J6 (e + 8) 9) < 1836) ∧ ∀ J8 : zM, J8 = zs J6 (e + 15) (J6 (e + 8) 9) p3 → ((0 : Int) ≤ (J8 (e + 8) 9) ∧ (J8 (e + 8) 9) < 1836) ∧ ∀ J10 : zM, J10 = zs J8 (e + 16) (J8 (e + 8) 9) p4 → ∀ J11 : zM, J11 = zs J10 (e + 8) 9 ((J10 (e + 8) 9) + 1) → Q J11 L else Q J L))
set_option maxHeartbeats 4000000 in
set_option maxRecDepth 100000 in
theorem v_X2_log {b : Nat} {dC : Nat → ClassId} {dI : Nat → Nat → Nat} {cA : Nat → ClassId} {ts : Nat → Nat} {l : Launch} {n : Nat} {R : Nat → Nat → Option Nat} {al : Bool} (hn : 491 ≤ n) (hR : xRk R) {e : Nat} {p1 : Int} {p2 : Int} {p3 : Int} {p4 : Int} (he : iSide e) {J : zM} {L : yM} {Q : zM → yM → Prop} (h : w_X2_log e p1 p2 p3 p4 J L Q) : xCn (xGm b dC dI cA ts) l mX2_log [.ref (e + 8), .int (oI p1), .int (oI p2), .int (oI p3), .int (oI p4)] al (n, R, zi J, li L) 0 0 (zQ0 n R Q) (fun _ _ => False) := by
  refine xCn.ofJ (by decide) (Nat.le_of_ble_eq_true rfl) ?_
  show xJ _ _ _ _ _ _ _ _ _ 0 [(0, .ref (e + 8)), (1, .int (oI p1)), (2, .int (oI p2)), (3, .int (oI p3)), (4, .int (oI p4))] [] _ _ _ _ _
  unfold w_X2_log at h
  refine xr_iload_n (xd dX2_log 0 rfl) 2 rfl ?_
  refine xr_iconst (v := oI (-1)) (xd dX2_log 1 rfl) (by decide) ?_
  obtain ⟨o1, h⟩ := h
  refine zr_icmp_eq 63 (xd dX2_log 2 rfl) (by decide) o1 (by decide) (fun c2 => ?_) (fun c2 => ?_)
  · replace h := ifp h c2
    exact xr_vret (xd dX2_log 37 rfl) rfl (by decide) (by decide) (fun _ => rfl) ⟨_, _, rfl, rfl, h⟩
  · replace h := ifn h c2
    refine xr_aload_n (xd dX2_log 3 rfl) 0 rfl ?_
    refine zr_getI 2 9 9 rfl (xd dX2_log 4 rfl) f2_40 (by decide) (by decide) (lt491 hn (ltS he (by decide))) (kdS_8 he) rfl ?_
    refine xr_aload_n (xd dX2_log 5 rfl) 0 rfl ?_
    refine xr_getR (b := (e + 14)) 2 5 (xd dX2_log 6 rfl) f2_27 (by decide) (by decide) (lt491 hn (ltS he (by decide))) (kdS_8 he) rfl (rS_8_5 hR he) ?_
    refine zr_alen (v := 1836) 0 (xd dX2_log 7 rfl) (lt491 hn (ltS he (by decide))) (by decide) (kdS_14 he) (lnS_14 he) rfl ?_
    obtain ⟨o3, h⟩ := h
    refine zr_icmp_ge 63 (xd dX2_log 8 rfl) (by decide) o3 (by decide) (fun c4 => ?_) (fun c4 => ?_)
    · replace h := ifn h c4
      exact xr_vret (xd dX2_log 37 rfl) rfl (by decide) (by decide) (fun _ => rfl) ⟨_, _, rfl, rfl, h⟩
    · replace h := ifp h c4
      refine xr_aload_n (xd dX2_log 9 rfl) 0 rfl ?_
      refine xr_getR (b := (e + 14)) 2 5 (xd dX2_log 10 rfl) f2_27 (by decide) (by decide) (lt491 hn (ltS he (by decide))) (kdS_8 he) rfl (rS_8_5 hR he) ?_
      refine xr_aload_n (xd dX2_log 11 rfl) 0 rfl ?_
      refine zr_getI 2 9 9 rfl (xd dX2_log 12 rfl) f2_40 (by decide) (by decide) (lt491 hn (ltS he (by decide))) (kdS_8 he) rfl ?_
      refine xr_iload_n (xd dX2_log 13 rfl) 1 rfl ?_
      refine xr_bipush (v := oI 16) (xd dX2_log 14 rfl) (by decide) ?_
      refine zr_ishl (xd dX2_log 15 rfl) ?_
      refine xr_iload_n (xd dX2_log 16 rfl) 2 rfl ?_
      refine zr_ior (xd dX2_log 17 rfl) ?_
      obtain ⟨o5, h⟩ := h
      obtain ⟨J6, e_J6⟩ : ∃ z_ : zM, z_ = zs J (e + 14) (J (e + 8) 9) (zor (zshl p1 16) p2) := ⟨_, rfl⟩
      replace h := h J6 e_J6
      refine zr_iastore e_J6 (xd dX2_log 18 rfl) (lt491 hn (ltS he (by decide))) (kdS_14 he) (lnS_14 he) (by decide) o5 ?_
      refine xr_aload_n (xd dX2_log 19 rfl) 0 rfl ?_
      refine xr_getR (b := (e + 15)) 2 6 (xd dX2_log 20 rfl) f2_30 (by decide) (by decide) (lt491 hn (ltS he (by decide))) (kdS_8 he) rfl (rS_8_6 hR he) ?_
      refine xr_aload_n (xd dX2_log 21 rfl) 0 rfl ?_
      refine zr_getI 2 9 9 rfl (xd dX2_log 22 rfl) f2_40 (by decide) (by decide) (lt491 hn (ltS he (by decide))) (kdS_8 he) rfl ?_
      refine xr_iload_n (xd dX2_log 23 rfl) 3 rfl ?_
      obtain ⟨o7, h⟩ := h
      obtain ⟨J8, e_J8⟩ : ∃ z_ : zM, z_ = zs J6 (e + 15) (J6 (e + 8) 9) p3 := ⟨_, rfl⟩
      replace h := h J8 e_J8
      refine zr_iastore e_J8 (xd dX2_log 24 rfl) (lt491 hn (ltS he (by decide))) (kdS_15 he) (lnS_15 he) (by decide) o7 ?_
      refine xr_aload_n (xd dX2_log 25 rfl) 0 rfl ?_
      refine xr_getR (b := (e + 16)) 2 7 (xd dX2_log 26 rfl) f2_33 (by decide) (by decide) (lt491 hn (ltS he (by decide))) (kdS_8 he) rfl (rS_8_7 hR he) ?_
      refine xr_aload_n (xd dX2_log 27 rfl) 0 rfl ?_
      refine zr_getI 2 9 9 rfl (xd dX2_log 28 rfl) f2_40 (by decide) (by decide) (lt491 hn (ltS he (by decide))) (kdS_8 he) rfl ?_
      refine xr_iload (xd dX2_log 29 rfl) 4 rfl ?_
      obtain ⟨o9, h⟩ := h
      obtain ⟨J10, e_J10⟩ : ∃ z_ : zM, z_ = zs J8 (e + 16) (J8 (e + 8) 9) p4 := ⟨_, rfl⟩
      replace h := h J10 e_J10
      refine zr_iastore e_J10 (xd dX2_log 30 rfl) (lt491 hn (ltS he (by decide))) (kdS_16 he) (lnS_16 he) (by decide) o9 ?_
      refine xr_aload_n (xd dX2_log 31 rfl) 0 rfl ?_
      refine xr_dup (xd dX2_log 32 rfl) rfl ?_
      refine zr_getI 2 9 9 rfl (xd dX2_log 33 rfl) f2_40 (by decide) (by decide) (lt491 hn (ltS he (by decide))) (kdS_8 he) rfl ?_
      refine xr_iconst (v := oI 1) (xd dX2_log 34 rfl) (by decide) ?_
      refine zr_iadd (xd dX2_log 35 rfl) ?_
      obtain ⟨J11, e_J11⟩ : ∃ z_ : zM, z_ = zs J10 (e + 8) 9 ((J10 (e + 8) 9) + 1) := ⟨_, rfl⟩
      replace h := h J11 e_J11
      refine zr_putI 2 9 9 rfl e_J11 (xd dX2_log 36 rfl) f2_40 (by decide) (by decide) (lt491 hn (ltS he (by decide))) (kdS_8 he) (Or.inl rfl) rfl rfl (fun _ => rfl) ?_
      exact xr_vret (xd dX2_log 37 rfl) rfl (by decide) (by decide) (fun _ => rfl) ⟨_, _, rfl, rfl, h⟩
def w_X2_ackRecord (e : Nat) (p1 : Int) (p2 : Int) (J : zM) (L : yM) (Q : zM → yM → Prop) : Prop := ∀ x1 : Int, x1 = (zor (zshl p1 16) p2) → zl_z (fun K2 x3 J4 L5 => R32 x3 ∧ R32 (J4 (e + 8) 9) ∧ (if x3 < (J4 (e + 8) 9) then ((0 : Int) ≤ x3 ∧ x3 < 1836) ∧ ∀ K12 : zM → yM → Prop, (∀ (J10 : zM) (L11 : yM), (K2 (x3 + 1) J10 L11) → K12 J10 L11) → R32 (J4 (e + 14) x3) ∧ R32 x1 ∧ (if (J4 (e + 14) x3) = x1 then ((0 : Int) ≤ x3 ∧ x3 < 1836) ∧ ∀ x17 : Int, x17 = (J4 (e + 15) x3) → zl_z (fun K18 x19 J20 L21 => ((0 : Int) ≤ x3 ∧ x3 < 1836) ∧ R32 x19 ∧ R32 (J20 (e + 16) x3) ∧ (if x19 < (J20 (e + 16) x3) then ((0 : Int) ≤ x19 ∧ x19 < 204) ∧ ∀ J27 : zM, J27 = zs J20 (e + 10) x19 1 → K18 (x19 + 1) J27 L21 else K12 J20 L21)) x17 J4 L5 else K12 J4 L5) else Q J4 L5)) 0 J L
set_option maxHeartbeats 4000000 in
set_option maxRecDepth 100000 in
theorem v_X2_ackRecord {b : Nat} {dC : Nat → ClassId} {dI : Nat → Nat → Nat} {cA : Nat → ClassId} {ts : Nat → Nat} {l : Launch} {n : Nat} {R : Nat → Nat → Option Nat} {al : Bool} (hn : 491 ≤ n) (hR : xRk R) {e : Nat} {p1 : Int} {p2 : Int} (he : iSide e) {J : zM} {L : yM} {Q : zM → yM → Prop} (h : w_X2_ackRecord e p1 p2 J L Q) : xCn (xGm b dC dI cA ts) l mX2_ackRecord [.ref (e + 8), .int (oI p1), .int (oI p2)] al (n, R, zi J, li L) 0 0 (zQ0 n R Q) (fun _ _ => False) := by
  refine xCn.ofJ (by decide) (Nat.le_of_ble_eq_true rfl) ?_
  show xJ _ _ _ _ _ _ _ _ _ 0 [(0, .ref (e + 8)), (1, .int (oI p1)), (2, .int (oI p2))] [] _ _ _ _ _
  unfold w_X2_ackRecord at h
  refine xr_iload_n (xd dX2_ackRecord 0 rfl) 1 rfl ?_
  refine xr_bipush (v := oI 16) (xd dX2_ackRecord 1 rfl) (by decide) ?_
  refine zr_ishl (xd dX2_ackRecord 2 rfl) ?_
  refine xr_iload_n (xd dX2_ackRecord 3 rfl) 2 rfl ?_
  refine zr_ior (xd dX2_ackRecord 4 rfl) ?_
  obtain ⟨x1, e_x1⟩ : ∃ z_ : Int, z_ = (zor (zshl p1 16) p2) := ⟨_, rfl⟩
  replace h := h x1 e_x1
  refine zr_nm e_x1 ?_
  refine xr_istore_n [(0, .ref (e + 8)), (1, .int (oI p1)), (2, .int (oI p2)), (3, .int (oI x1))] (xd dX2_ackRecord 5 rfl) rfl (by decide) rfl ?_
  refine xr_iconst (v := oI 0) (xd dX2_ackRecord 6 rfl) (by decide) ?_
  refine xr_istore [(0, .ref (e + 8)), (1, .int (oI p1)), (2, .int (oI p2)), (3, .int (oI x1)), (4, .int (oI 0))] (xd dX2_ackRecord 7 rfl) (by decide) rfl ?_
  refine xJ.pick (ls' := [(0, .ref (e + 8)), (3, .int (oI x1)), (4, .int (oI 0))]) [0, 3, 4] rfl ?_
  refine h (fun x3 J4 L5 => xJ (xGm b dC dI cA ts) l mX2_ackRecord 0 0 (zQ0 n R Q) (fun _ _ => False) 0 0 10 [(0, .ref (e + 8)), (3, .int (oI x1)), (4, .int (oI x3))] [] al n R (zi J4) (li L5)) ?_
  intro x3 J4 L5 h
  show xJ _ _ _ _ _ _ _ _ _ 10 [(0, .ref (e + 8)), (3, .int (oI x1)), (4, .int (oI x3))] [] _ _ _ _ _
  refine xr_iload (xd dX2_ackRecord 8 rfl) 2 rfl ?_
  refine xr_aload_n (xd dX2_ackRecord 9 rfl) 0 rfl ?_
  refine zr_getI 2 9 9 rfl (xd dX2_ackRecord 10 rfl) f2_40 (by decide) (by decide) (lt491 hn (ltS he (by decide))) (kdS_8 he) rfl ?_
  obtain ⟨o6, h⟩ := h
  obtain ⟨o7, h⟩ := h
  refine zr_icmp_ge 71 (xd dX2_ackRecord 11 rfl) (by decide) o6 o7 (fun c8 => ?_) (fun c8 => ?_)
  · replace h := ifn h c8
    exact xr_vret (xd dX2_ackRecord 38 rfl) rfl (by decide) (by decide) (fun _ => rfl) ⟨_, _, rfl, rfl, h⟩
  · replace h := ifp h c8
    refine xr_aload_n (xd dX2_ackRecord 12 rfl) 0 rfl ?_
    refine xr_getR (b := (e + 14)) 2 5 (xd dX2_ackRecord 13 rfl) f2_27 (by decide) (by decide) (lt491 hn (ltS he (by decide))) (kdS_8 he) rfl (rS_8_5 hR he) ?_
    refine xr_iload (xd dX2_ackRecord 14 rfl) 2 rfl ?_
    obtain ⟨o9, h⟩ := h
    refine zr_iaload (xd dX2_ackRecord 15 rfl) (lt491 hn (ltS he (by decide))) (kdS_14 he) (lnS_14 he) (by decide) o9 ?_
    refine xr_iload_n (xd dX2_ackRecord 16 rfl) 1 rfl ?_
    replace h := h (fun (J10 : zM) (L11 : yM) => xJ (xGm b dC dI cA ts) l mX2_ackRecord 0 0 (zQ0 n R Q) (fun _ _ => False) 0 0 65 [(0, .ref (e + 8)), (3, .int (oI x1)), (4, .int (oI x3))] [] al n R (zi J10) (li L11)) (by
      intro J10 L11 h
      show xJ _ _ _ _ _ _ _ _ _ 65 [(0, .ref (e + 8)), (3, .int (oI x1)), (4, .int (oI x3))] [] _ _ _ _ _
      refine zr_iinc [(0, .ref (e + 8)), (3, .int (oI x1)), (4, .int (oI (x3 + 1)))] (xd dX2_ackRecord 36 rfl) 2 rfl (by decide) rfl ?_
      refine xr_goto 10 (xd dX2_ackRecord 37 rfl) (by decide) ?_
      exact h)
    obtain ⟨o13, h⟩ := h
    obtain ⟨o14, h⟩ := h
    refine zr_icmp_ne 65 (xd dX2_ackRecord 17 rfl) (by decide) o13 o14 (fun c15 => ?_) (fun c15 => ?_)
    · replace h := ifn h c15
      exact h
    · replace h := ifp h c15
      refine xr_aload_n (xd dX2_ackRecord 18 rfl) 0 rfl ?_
      refine xr_getR (b := (e + 15)) 2 6 (xd dX2_ackRecord 19 rfl) f2_30 (by decide) (by decide) (lt491 hn (ltS he (by decide))) (kdS_8 he) rfl (rS_8_6 hR he) ?_
      refine xr_iload (xd dX2_ackRecord 20 rfl) 2 rfl ?_
      obtain ⟨o16, h⟩ := h
      refine zr_iaload (xd dX2_ackRecord 21 rfl) (lt491 hn (ltS he (by decide))) (kdS_15 he) (lnS_15 he) (by decide) o16 ?_
      obtain ⟨x17, e_x17⟩ : ∃ z_ : Int, z_ = (J4 (e + 15) x3) := ⟨_, rfl⟩
      replace h := h x17 e_x17
      refine zr_nm e_x17 ?_
      refine xr_istore [(0, .ref (e + 8)), (3, .int (oI x1)), (4, .int (oI x3)), (5, .int (oI x17))] (xd dX2_ackRecord 22 rfl) (by decide) rfl ?_
      refine h (fun x19 J20 L21 => xJ (xGm b dC dI cA ts) l mX2_ackRecord 0 0 (zQ0 n R Q) (fun _ _ => False) 0 0 39 [(0, .ref (e + 8)), (3, .int (oI x1)), (4, .int (oI x3)), (5, .int (oI x19))] [] al n R (zi J20) (li L21)) ?_
      intro x19 J20 L21 h
      show xJ _ _ _ _ _ _ _ _ _ 39 [(0, .ref (e + 8)), (3, .int (oI x1)), (4, .int (oI x3)), (5, .int (oI x19))] [] _ _ _ _ _
      refine xr_iload (xd dX2_ackRecord 23 rfl) 3 rfl ?_
      refine xr_aload_n (xd dX2_ackRecord 24 rfl) 0 rfl ?_
      refine xr_getR (b := (e + 16)) 2 7 (xd dX2_ackRecord 25 rfl) f2_33 (by decide) (by decide) (lt491 hn (ltS he (by decide))) (kdS_8 he) rfl (rS_8_7 hR he) ?_
      refine xr_iload (xd dX2_ackRecord 26 rfl) 2 rfl ?_
      obtain ⟨o22, h⟩ := h
      refine zr_iaload (xd dX2_ackRecord 27 rfl) (lt491 hn (ltS he (by decide))) (kdS_16 he) (lnS_16 he) (by decide) o22 ?_
      obtain ⟨o23, h⟩ := h
      obtain ⟨o24, h⟩ := h
      refine zr_icmp_ge 65 (xd dX2_ackRecord 28 rfl) (by decide) o23 o24 (fun c25 => ?_) (fun c25 => ?_)
      · replace h := ifn h c25
        refine xJ.pick (ls' := [(0, .ref (e + 8)), (3, .int (oI x1)), (4, .int (oI x3))]) [0, 1, 2] rfl ?_
        exact h
      · replace h := ifp h c25
        refine xr_aload_n (xd dX2_ackRecord 29 rfl) 0 rfl ?_
        refine xr_getR (b := (e + 10)) 2 1 (xd dX2_ackRecord 30 rfl) f2_15 (by decide) (by decide) (lt491 hn (ltS he (by decide))) (kdS_8 he) rfl (rS_8_1 hR he) ?_
        refine xr_iload (xd dX2_ackRecord 31 rfl) 3 rfl ?_
        refine xr_iconst (v := oI 1) (xd dX2_ackRecord 32 rfl) (by decide) ?_
        obtain ⟨o26, h⟩ := h
        obtain ⟨J27, e_J27⟩ : ∃ z_ : zM, z_ = zs J20 (e + 10) x19 1 := ⟨_, rfl⟩
        replace h := h J27 e_J27
        refine zr_iastore e_J27 (xd dX2_ackRecord 33 rfl) (lt491 hn (ltS he (by decide))) (kdS_10 he) (lnS_10 he) (by decide) o26 ?_
        refine zr_iinc [(0, .ref (e + 8)), (3, .int (oI x1)), (4, .int (oI x3)), (5, .int (oI (x19 + 1)))] (xd dX2_ackRecord 34 rfl) 3 rfl (by decide) rfl ?_
        refine xr_goto 39 (xd dX2_ackRecord 35 rfl) (by decide) ?_
        exact h
def w_X2_notAcked (e : Nat) (J : zM) (L : yM) (Q : Int → zM → yM → Prop) : Prop := zl_zz (fun K1 x2 x3 J4 L5 => w_X2_end e J4 L5 (fun r8 J6 L7 => R32 x3 ∧ R32 r8 ∧ (if x3 < r8 then ((0 : Int) ≤ x3 ∧ x3 < 204) ∧ ∀ x13 : Int, x13 = (x2 + (1 - (J6 (e + 10) x3))) → K1 x13 (x3 + 1) J6 L7 else Q x2 J6 L7))) 0 0 J L
set_option maxHeartbeats 4000000 in
set_option maxRecDepth 100000 in
theorem v_X2_notAcked {b : Nat} {dC : Nat → ClassId} {dI : Nat → Nat → Nat} {cA : Nat → ClassId} {ts : Nat → Nat} {l : Launch} {n : Nat} {R : Nat → Nat → Option Nat} {al : Bool} (hn : 491 ≤ n) (hR : xRk R) {e : Nat} (he : iSide e) {J : zM} {L : yM} {Q : Int → zM → yM → Prop} (h : w_X2_notAcked e J L Q) : xCn (xGm b dC dI cA ts) l mX2_notAcked [.ref (e + 8)] al (n, R, zi J, li L) 0 0 (zQ1 n R Q) (fun _ _ => False) := by
  refine xCn.ofJ (by decide) (Nat.le_of_ble_eq_true rfl) ?_
  show xJ _ _ _ _ _ _ _ _ _ 0 [(0, .ref (e + 8))] [] _ _ _ _ _
  unfold w_X2_notAcked at h
  refine xr_iconst (v := oI 0) (xd dX2_notAcked 0 rfl) (by decide) ?_
  refine xr_istore_n [(0, .ref (e + 8)), (1, .int (oI 0))] (xd dX2_notAcked 1 rfl) rfl (by decide) rfl ?_
  refine xr_iconst (v := oI 0) (xd dX2_notAcked 2 rfl) (by decide) ?_
  refine xr_istore_n [(0, .ref (e + 8)), (1, .int (oI 0)), (2, .int (oI 0))] (xd dX2_notAcked 3 rfl) rfl (by decide) rfl ?_
  refine h (fun x2 x3 J4 L5 => xJ (xGm b dC dI cA ts) l mX2_notAcked 0 0 (zQ1 n R Q) (fun _ _ => False) 0 0 4 [(0, .ref (e + 8)), (1, .int (oI x2)), (2, .int (oI x3))] [] al n R (zi J4) (li L5)) ?_
  intro x2 x3 J4 L5 h
  show xJ _ _ _ _ _ _ _ _ _ 4 [(0, .ref (e + 8)), (1, .int (oI x2)), (2, .int (oI x3))] [] _ _ _ _ _
  refine xr_iload_n (xd dX2_notAcked 4 rfl) 2 rfl ?_
  refine xr_aload_n (xd dX2_notAcked 5 rfl) 0 rfl ?_
  refine xr_callV mX2_end 0 [] (xd dX2_notAcked 6 rfl) l2_62 kX2_end rfl (lt491 hn (ltS he (by decide))) (kdS_8 he) (by decide) rfl (by decide) (Nat.le_of_ble_eq_true rfl) (v_X2_end hn hR he h) (by decide) (by decide) (fun r_ M_ h_ => ?_) (fun _ _ h_ => h_.elim)
  obtain ⟨r8, J6, L7, rfl, rfl, h⟩ := h_
  show xJ _ _ _ _ _ _ _ _ _ 9 [(0, .ref (e + 8)), (1, .int (oI x2)), (2, .int (oI x3))] [.int (oI r8), .int (oI x3)] _ _ _ (zi J6) (li L7)
  obtain ⟨o9, h⟩ := h
  obtain ⟨o10, h⟩ := h
  refine zr_icmp_ge 29 (xd dX2_notAcked 7 rfl) (by decide) o9 o10 (fun c11 => ?_) (fun c11 => ?_)
  · replace h := ifn h c11
    refine xr_iload_n (xd dX2_notAcked 19 rfl) 1 rfl ?_
    exact xr_iret (xd dX2_notAcked 20 rfl) rfl (by decide) (by decide) (fun _ => rfl) ⟨_, _, _, rfl, rfl, h⟩
  · replace h := ifp h c11
    refine xr_iload_n (xd dX2_notAcked 8 rfl) 1 rfl ?_
    refine xr_iconst (v := oI 1) (xd dX2_notAcked 9 rfl) (by decide) ?_
    refine xr_aload_n (xd dX2_notAcked 10 rfl) 0 rfl ?_
    refine xr_getR (b := (e + 10)) 2 1 (xd dX2_notAcked 11 rfl) f2_15 (by decide) (by decide) (lt491 hn (ltS he (by decide))) (kdS_8 he) rfl (rS_8_1 hR he) ?_
    refine xr_iload_n (xd dX2_notAcked 12 rfl) 2 rfl ?_
    obtain ⟨o12, h⟩ := h
    refine zr_iaload (xd dX2_notAcked 13 rfl) (lt491 hn (ltS he (by decide))) (kdS_10 he) (lnS_10 he) (by decide) o12 ?_
    refine zr_isub (xd dX2_notAcked 14 rfl) ?_
    refine zr_iadd (xd dX2_notAcked 15 rfl) ?_
    obtain ⟨x13, e_x13⟩ : ∃ z_ : Int, z_ = (x2 + (1 - (J6 (e + 10) x3))) := ⟨_, rfl⟩
    replace h := h x13 e_x13
    refine zr_nm e_x13 ?_
    refine xr_istore_n [(0, .ref (e + 8)), (1, .int (oI x13)), (2, .int (oI x3))] (xd dX2_notAcked 16 rfl) rfl (by decide) rfl ?_
    refine zr_iinc [(0, .ref (e + 8)), (1, .int (oI x13)), (2, .int (oI (x3 + 1)))] (xd dX2_notAcked 17 rfl) 2 rfl (by decide) rfl ?_
    refine xr_goto 4 (xd dX2_notAcked 18 rfl) (by decide) ?_
    exact h
def w_X3_startAnew (e : Nat) (J : zM) (L : yM) (Q : zM → yM → Prop) : Prop := zl_z (fun K1 x2 J3 L4 => R32 x2 ∧ (if x2 < 5 then ((0 : Int) ≤ x2 ∧ x2 < 5) ∧ ∀ J8 : zM, J8 = zs J3 (e + 18) x2 (-1) → K1 (x2 + 1) J8 L4 else Q J3 L4)) 0 J L
set_option maxHeartbeats 4000000 in
set_option maxRecDepth 100000 in
theorem v_X3_startAnew {b : Nat} {dC : Nat → ClassId} {dI : Nat → Nat → Nat} {cA : Nat → ClassId} {ts : Nat → Nat} {l : Launch} {n : Nat} {R : Nat → Nat → Option Nat} {al : Bool} (hn : 491 ≤ n) (hR : xRk R) {e : Nat} (he : iSide e) {J : zM} {L : yM} {Q : zM → yM → Prop} (h : w_X3_startAnew e J L Q) : xCn (xGm b dC dI cA ts) l mX3_startAnew [.ref (e + 17)] al (n, R, zi J, li L) 0 0 (zQ0 n R Q) (fun _ _ => False) := by
  refine xCn.ofJ (by decide) (Nat.le_of_ble_eq_true rfl) ?_
  show xJ _ _ _ _ _ _ _ _ _ 0 [(0, .ref (e + 17))] [] _ _ _ _ _
  unfold w_X3_startAnew at h
  refine xr_iconst (v := oI 0) (xd dX3_startAnew 0 rfl) (by decide) ?_
  refine xr_istore_n [(0, .ref (e + 17)), (1, .int (oI 0))] (xd dX3_startAnew 1 rfl) rfl (by decide) rfl ?_
  refine h (fun x2 J3 L4 => xJ (xGm b dC dI cA ts) l mX3_startAnew 0 0 (zQ0 n R Q) (fun _ _ => False) 0 0 2 [(0, .ref (e + 17)), (1, .int (oI x2))] [] al n R (zi J3) (li L4)) ?_
  intro x2 J3 L4 h
  show xJ _ _ _ _ _ _ _ _ _ 2 [(0, .ref (e + 17)), (1, .int (oI x2))] [] _ _ _ _ _
  refine xr_iload_n (xd dX3_startAnew 2 rfl) 1 rfl ?_
  refine xr_iconst (v := oI 5) (xd dX3_startAnew 3 rfl) (by decide) ?_
  obtain ⟨o5, h⟩ := h
  refine zr_icmp_ge 20 (xd dX3_startAnew 4 rfl) (by decide) o5 (by decide) (fun c6 => ?_) (fun c6 => ?_)
  · replace h := ifn h c6
    exact xr_vret (xd dX3_startAnew 12 rfl) rfl (by decide) (by decide) (fun _ => rfl) ⟨_, _, rfl, rfl, h⟩
  · replace h := ifp h c6
    refine xr_aload_n (xd dX3_startAnew 5 rfl) 0 rfl ?_
    refine xr_getR (b := (e + 18)) 3 0 (xd dX3_startAnew 6 rfl) f3_9 (by decide) (by decide) (lt491 hn (ltS he (by decide))) (kdS_17 he) rfl (rS_17_0 hR he) ?_
    refine xr_iload_n (xd dX3_startAnew 7 rfl) 1 rfl ?_
    refine xr_iconst (v := oI (-1)) (xd dX3_startAnew 8 rfl) (by decide) ?_
    obtain ⟨o7, h⟩ := h
    obtain ⟨J8, e_J8⟩ : ∃ z_ : zM, z_ = zs J3 (e + 18) x2 (-1) := ⟨_, rfl⟩
    replace h := h J8 e_J8
    refine zr_iastore e_J8 (xd dX3_startAnew 9 rfl) (lt491 hn (ltS he (by decide))) (kdS_18 he) (lnS_18 he) (by decide) o7 ?_
    refine zr_iinc [(0, .ref (e + 17)), (1, .int (oI (x2 + 1)))] (xd dX3_startAnew 10 rfl) 1 rfl (by decide) rfl ?_
    refine xr_goto 2 (xd dX3_startAnew 11 rfl) (by decide) ?_
    exact h
def w_X3_agrees (e : Nat) (p1 : Int) (p2 : Int) (p3 : Int) (J : zM) (L : yM) (Q : Int → zM → yM → Prop) : Prop := ∀ x1 : Int, x1 = (zrem p1 5) → ((0 : Int) ≤ x1 ∧ x1 < 5) ∧ R32 (J (e + 18) x1) ∧ (if (J (e + 18) x1) = (-1) then Q 1 J L else ((0 : Int) ≤ x1 ∧ x1 < 5) ∧ R32 p2 ∧ (if (J (e + 18) x1) = p2 then ((0 : Int) ≤ x1 ∧ x1 < 5) ∧ R32 (J (e + 19) x1) ∧ R32 p3 ∧ (if (J (e + 19) x1) = p3 then Q 1 J L else Q 0 J L) else Q 0 J L))
set_option maxHeartbeats 4000000 in
set_option maxRecDepth 100000 in
theorem v_X3_agrees {b : Nat} {dC : Nat → ClassId} {dI : Nat → Nat → Nat} {cA : Nat → ClassId} {ts : Nat → Nat} {l : Launch} {n : Nat} {R : Nat → Nat → Option Nat} {al : Bool} (hn : 491 ≤ n) (hR : xRk R) {e : Nat} {p1 : Int} {p2 : Int} {p3 : Int} (he : iSide e) {J : zM} {L : yM} {Q : Int → zM → yM → Prop} (h : w_X3_agrees e p1 p2 p3 J L Q) : xCn (xGm b dC dI cA ts) l mX3_agrees [.ref (e + 17), .int (oI p1), .int (oI p2), .int (oI p3)] al (n, R, zi J, li L) 0 0 (zQ1 n R Q) (fun _ _ => False) := by
  refine xCn.ofJ (by decide) (Nat.le_of_ble_eq_true rfl) ?_
  show xJ _ _ _ _ _ _ _ _ _ 0 [(0, .ref (e + 17)), (1, .int (oI p1)), (2, .int (oI p2)), (3, .int (oI p3))] [] _ _ _ _ _
  unfold w_X3_agrees at h
  refine xr_iload_n (xd dX3_agrees 0 rfl) 1 rfl ?_
  refine xr_iconst (v := oI 5) (xd dX3_agrees 1 rfl) (by decide) ?_
  refine zr_irem (xd dX3_agrees 2 rfl) (by decide) (by decide) ?_
  obtain ⟨x1, e_x1⟩ : ∃ z_ : Int, z_ = (zrem p1 5) := ⟨_, rfl⟩
  replace h := h x1 e_x1
  refine zr_nm e_x1 ?_
  refine xr_istore [(0, .ref (e + 17)), (1, .int (oI p1)), (2, .int (oI p2)), (3, .int (oI p3)), (4, .int (oI x1))] (xd dX3_agrees 3 rfl) (by decide) rfl ?_
  refine xr_aload_n (xd dX3_agrees 4 rfl) 0 rfl ?_
  refine xr_getR (b := (e + 18)) 3 0 (xd dX3_agrees 5 rfl) f3_9 (by decide) (by decide) (lt491 hn (ltS he (by decide))) (kdS_17 he) rfl (rS_17_0 hR he) ?_
  refine xr_iload (xd dX3_agrees 6 rfl) 4 rfl ?_
  obtain ⟨o2, h⟩ := h
  refine zr_iaload (xd dX3_agrees 7 rfl) (lt491 hn (ltS he (by decide))) (kdS_18 he) (lnS_18 he) (by decide) o2 ?_
  refine xr_iconst (v := oI (-1)) (xd dX3_agrees 8 rfl) (by decide) ?_
  obtain ⟨o3, h⟩ := h
  refine zr_icmp_eq 38 (xd dX3_agrees 9 rfl) (by decide) o3 (by decide) (fun c4 => ?_) (fun c4 => ?_)
  · replace h := ifp h c4
    refine xr_iconst (v := oI 1) (xd dX3_agrees 22 rfl) (by decide) ?_
    refine xr_goto 43 (xd dX3_agrees 23 rfl) (by decide) ?_
    exact xr_zret (xd dX3_agrees 25 rfl) rfl (zret_b (Or.inr rfl)) (by decide) (by decide) (fun _ => rfl) ⟨_, _, _, rfl, rfl, h⟩
  · replace h := ifn h c4
    refine xr_aload_n (xd dX3_agrees 10 rfl) 0 rfl ?_
    refine xr_getR (b := (e + 18)) 3 0 (xd dX3_agrees 11 rfl) f3_9 (by decide) (by decide) (lt491 hn (ltS he (by decide))) (kdS_17 he) rfl (rS_17_0 hR he) ?_
    refine xr_iload (xd dX3_agrees 12 rfl) 4 rfl ?_
    obtain ⟨o5, h⟩ := h
    refine zr_iaload (xd dX3_agrees 13 rfl) (lt491 hn (ltS he (by decide))) (kdS_18 he) (lnS_18 he) (by decide) o5 ?_
    refine xr_iload_n (xd dX3_agrees 14 rfl) 2 rfl ?_
    obtain ⟨o6, h⟩ := h
    refine zr_icmp_ne 42 (xd dX3_agrees 15 rfl) (by decide) o3 o6 (fun c7 => ?_) (fun c7 => ?_)
    · replace h := ifn h c7
      refine xr_iconst (v := oI 0) (xd dX3_agrees 24 rfl) (by decide) ?_
      exact xr_zret (xd dX3_agrees 25 rfl) rfl (zret_b (Or.inl rfl)) (by decide) (by decide) (fun _ => rfl) ⟨_, _, _, rfl, rfl, h⟩
    · replace h := ifp h c7
      refine xr_aload_n (xd dX3_agrees 16 rfl) 0 rfl ?_
      refine xr_getR (b := (e + 19)) 3 1 (xd dX3_agrees 17 rfl) f3_15 (by decide) (by decide) (lt491 hn (ltS he (by decide))) (kdS_17 he) rfl (rS_17_1 hR he) ?_
      refine xr_iload (xd dX3_agrees 18 rfl) 4 rfl ?_
      obtain ⟨o8, h⟩ := h
      refine zr_iaload (xd dX3_agrees 19 rfl) (lt491 hn (ltS he (by decide))) (kdS_19 he) (lnS_19 he) (by decide) o8 ?_
      refine xr_iload_n (xd dX3_agrees 20 rfl) 3 rfl ?_
      obtain ⟨o9, h⟩ := h
      obtain ⟨o10, h⟩ := h
      refine zr_icmp_ne 42 (xd dX3_agrees 21 rfl) (by decide) o9 o10 (fun c11 => ?_) (fun c11 => ?_)
      · replace h := ifn h c11
        refine xr_iconst (v := oI 0) (xd dX3_agrees 24 rfl) (by decide) ?_
        exact xr_zret (xd dX3_agrees 25 rfl) rfl (zret_b (Or.inl rfl)) (by decide) (by decide) (fun _ => rfl) ⟨_, _, _, rfl, rfl, h⟩
      · replace h := ifp h c11
        refine xr_iconst (v := oI 1) (xd dX3_agrees 22 rfl) (by decide) ?_
        refine xr_goto 43 (xd dX3_agrees 23 rfl) (by decide) ?_
        exact xr_zret (xd dX3_agrees 25 rfl) rfl (zret_b (Or.inr rfl)) (by decide) (by decide) (fun _ => rfl) ⟨_, _, _, rfl, rfl, h⟩
def w_X3_openSlot (e : Nat) (p1 : Int) (p2 : Int) (p3 : Int) (J : zM) (L : yM) (Q : zM → yM → Prop) : Prop := ((0 : Int) ≤ p1 ∧ p1 < 5) ∧ ∀ J2 : zM, J2 = zs J (e + 18) p1 p2 → ((0 : Int) ≤ p1 ∧ p1 < 5) ∧ ∀ J4 : zM, J4 = zs J2 (e + 19) p1 p3 → ((0 : Int) ≤ p1 ∧ p1 < 5) ∧ ∀ J6 : zM, J6 = zs J4 (e + 20) p1 p3 → zl_z (fun K7 x8 J9 L10 => R32 x8 ∧ (if x8 < 152 then ((0 : Int) ≤ p1 ∧ p1 < 5) ∧ ((0 : Int) ≤ x8 ∧ x8 < 152) ∧ ∀ J16 : zM, J16 = zs J9 (e + 28 + (p1).toNat) x8 0 → K7 (x8 + 1) J16 L10 else Q J9 L10)) 0 J6 L
set_option maxHeartbeats 4000000 in
set_option maxRecDepth 100000 in
theorem v_X3_openSlot {b : Nat} {dC : Nat → ClassId} {dI : Nat → Nat → Nat} {cA : Nat → ClassId} {ts : Nat → Nat} {l : Launch} {n : Nat} {R : Nat → Nat → Option Nat} {al : Bool} (hn : 491 ≤ n) (hR : xRk R) {e : Nat} {p1 : Int} {p2 : Int} {p3 : Int} (he : iSide e) {J : zM} {L : yM} {Q : zM → yM → Prop} (h : w_X3_openSlot e p1 p2 p3 J L Q) : xCn (xGm b dC dI cA ts) l mX3_openSlot [.ref (e + 17), .int (oI p1), .int (oI p2), .int (oI p3)] al (n, R, zi J, li L) 0 0 (zQ0 n R Q) (fun _ _ => False) := by
  refine xCn.ofJ (by decide) (Nat.le_of_ble_eq_true rfl) ?_
  show xJ _ _ _ _ _ _ _ _ _ 0 [(0, .ref (e + 17)), (1, .int (oI p1)), (2, .int (oI p2)), (3, .int (oI p3))] [] _ _ _ _ _
  unfold w_X3_openSlot at h
  refine xr_aload_n (xd dX3_openSlot 0 rfl) 0 rfl ?_
  refine xr_getR (b := (e + 18)) 3 0 (xd dX3_openSlot 1 rfl) f3_9 (by decide) (by decide) (lt491 hn (ltS he (by decide))) (kdS_17 he) rfl (rS_17_0 hR he) ?_
  refine xr_iload_n (xd dX3_openSlot 2 rfl) 1 rfl ?_
  refine xr_iload_n (xd dX3_openSlot 3 rfl) 2 rfl ?_
  obtain ⟨o1, h⟩ := h
  obtain ⟨J2, e_J2⟩ : ∃ z_ : zM, z_ = zs J (e + 18) p1 p2 := ⟨_, rfl⟩
  replace h := h J2 e_J2
  refine zr_iastore e_J2 (xd dX3_openSlot 4 rfl) (lt491 hn (ltS he (by decide))) (kdS_18 he) (lnS_18 he) (by decide) o1 ?_
  refine xr_aload_n (xd dX3_openSlot 5 rfl) 0 rfl ?_
  refine xr_getR (b := (e + 19)) 3 1 (xd dX3_openSlot 6 rfl) f3_15 (by decide) (by decide) (lt491 hn (ltS he (by decide))) (kdS_17 he) rfl (rS_17_1 hR he) ?_
  refine xr_iload_n (xd dX3_openSlot 7 rfl) 1 rfl ?_
  refine xr_iload_n (xd dX3_openSlot 8 rfl) 3 rfl ?_
  obtain ⟨o3, h⟩ := h
  obtain ⟨J4, e_J4⟩ : ∃ z_ : zM, z_ = zs J2 (e + 19) p1 p3 := ⟨_, rfl⟩
  replace h := h J4 e_J4
  refine zr_iastore e_J4 (xd dX3_openSlot 9 rfl) (lt491 hn (ltS he (by decide))) (kdS_19 he) (lnS_19 he) (by decide) o3 ?_
  refine xr_aload_n (xd dX3_openSlot 10 rfl) 0 rfl ?_
  refine xr_getR (b := (e + 20)) 3 2 (xd dX3_openSlot 11 rfl) f3_18 (by decide) (by decide) (lt491 hn (ltS he (by decide))) (kdS_17 he) rfl (rS_17_2 hR he) ?_
  refine xr_iload_n (xd dX3_openSlot 12 rfl) 1 rfl ?_
  refine xr_iload_n (xd dX3_openSlot 13 rfl) 3 rfl ?_
  obtain ⟨o5, h⟩ := h
  obtain ⟨J6, e_J6⟩ : ∃ z_ : zM, z_ = zs J4 (e + 20) p1 p3 := ⟨_, rfl⟩
  replace h := h J6 e_J6
  refine zr_iastore e_J6 (xd dX3_openSlot 14 rfl) (lt491 hn (ltS he (by decide))) (kdS_20 he) (lnS_20 he) (by decide) o5 ?_
  refine xr_iconst (v := oI 0) (xd dX3_openSlot 15 rfl) (by decide) ?_
  refine xr_istore [(0, .ref (e + 17)), (1, .int (oI p1)), (2, .int (oI p2)), (3, .int (oI p3)), (4, .int (oI 0))] (xd dX3_openSlot 16 rfl) (by decide) rfl ?_
  refine xJ.pick (ls' := [(0, .ref (e + 17)), (1, .int (oI p1)), (4, .int (oI 0))]) [0, 1, 4] rfl ?_
  refine h (fun x8 J9 L10 => xJ (xGm b dC dI cA ts) l mX3_openSlot 0 0 (zQ0 n R Q) (fun _ _ => False) 0 0 24 [(0, .ref (e + 17)), (1, .int (oI p1)), (4, .int (oI x8))] [] al n R (zi J9) (li L10)) ?_
  intro x8 J9 L10 h
  show xJ _ _ _ _ _ _ _ _ _ 24 [(0, .ref (e + 17)), (1, .int (oI p1)), (4, .int (oI x8))] [] _ _ _ _ _
  refine xr_iload (xd dX3_openSlot 17 rfl) 2 rfl ?_
  refine xr_sipush (v := oI 152) (xd dX3_openSlot 18 rfl) (by decide) ?_
  obtain ⟨o11, h⟩ := h
  refine zr_icmp_ge 48 (xd dX3_openSlot 19 rfl) (by decide) o11 (by decide) (fun c12 => ?_) (fun c12 => ?_)
  · replace h := ifn h c12
    exact xr_vret (xd dX3_openSlot 29 rfl) rfl (by decide) (by decide) (fun _ => rfl) ⟨_, _, rfl, rfl, h⟩
  · replace h := ifp h c12
    refine xr_aload_n (xd dX3_openSlot 20 rfl) 0 rfl ?_
    refine xr_getR (b := (e + 27)) 3 4 (xd dX3_openSlot 21 rfl) f3_26 (by decide) (by decide) (lt491 hn (ltS he (by decide))) (kdS_17 he) rfl (rS_17_4 hR he) ?_
    refine xr_iload_n (xd dX3_openSlot 22 rfl) 1 rfl ?_
    obtain ⟨o13, h⟩ := h
    have f14 := famS_27 hR he o13
    refine zr_aaload (b := (e + 28 + (p1).toNat)) 3 (xd dX3_openSlot 23 rfl) (lt491 hn (ltS he (by decide))) (by decide) (by decide) (kdS_27 he) (lnS_27 he) (by decide) o13 f14.1 ?_
    refine xr_iload (xd dX3_openSlot 24 rfl) 2 rfl ?_
    refine xr_iconst (v := oI 0) (xd dX3_openSlot 25 rfl) (by decide) ?_
    obtain ⟨o15, h⟩ := h
    obtain ⟨J16, e_J16⟩ : ∃ z_ : zM, z_ = zs J9 (e + 28 + (p1).toNat) x8 0 := ⟨_, rfl⟩
    replace h := h J16 e_J16
    refine zr_iastore e_J16 (xd dX3_openSlot 26 rfl) (lt491 hn f14.2.1.2) f14.2.1.1 f14.2.2 (by decide) o15 ?_
    refine zr_iinc [(0, .ref (e + 17)), (1, .int (oI p1)), (4, .int (oI (x8 + 1)))] (xd dX3_openSlot 27 rfl) 2 rfl (by decide) rfl ?_
    refine xr_goto 24 (xd dX3_openSlot 28 rfl) (by decide) ?_
    exact h
def w_X3_keep (e : Nat) (J : zM) (L : yM) (Q : zM → yM → Prop) : Prop := ∀ x1 : Int, x1 = (zrem (J 3 11) 5) → R32 ((J 3 12) + (J 3 13)) ∧ (if 152 < ((J 3 12) + (J 3 13)) then Q J L else ((0 : Int) ≤ x1 ∧ x1 < 5) ∧ ∀ K7 : zM → yM → Prop, (∀ (J5 : zM) (L6 : yM), (zl_z (fun K8 x9 J10 L11 => R32 x9 ∧ R32 (J10 3 13) ∧ (if x9 < (J10 3 13) then ((0 : Int) ≤ x1 ∧ x1 < 5) ∧ ((0 : Int) ≤ x1 ∧ x1 < 5) ∧ ((0 : Int) ≤ ((J10 3 12) + x9) ∧ ((J10 3 12) + x9) < 152) ∧ ((0 : Int) ≤ x1 ∧ x1 < 5) ∧ ∀ J20 : zM, J20 = zs J10 (e + 20) x1 ((J10 (e + 20) x1) - (1 - (J10 (e + 28 + (x1).toNat) ((J10 3 12) + x9)))) → ((0 : Int) ≤ x1 ∧ x1 < 5) ∧ ((0 : Int) ≤ ((J20 3 12) + x9) ∧ ((J20 3 12) + x9) < 152) ∧ ∀ J24 : zM, J24 = zs J20 (e + 28 + (x1).toNat) ((J20 3 12) + x9) 1 → ((0 : Int) ≤ x1 ∧ x1 < 5) ∧ ((0 : Int) ≤ ((J24 3 14) + x9) ∧ ((J24 3 14) + x9) < 500) ∧ ((0 : Int) ≤ ((J24 3 12) + x9) ∧ ((J24 3 12) + x9) < 152) ∧ ∀ J29 : zM, J29 = zs J24 (e + 22 + (x1).toNat) ((J24 3 12) + x9) (J24 4 ((J24 3 14) + x9)) → K8 (x9 + 1) J29 L11 else Q J10 L11)) 0 J5 L6) → K7 J5 L6) → R32 (J (e + 18) x1) ∧ (if (J (e + 18) x1) = (-1) then w_X3_openSlot e x1 (J 3 9) (J 3 10) J L (fun J32 L33 => K7 J32 L33) else K7 J L))
set_option maxHeartbeats 4000000 in
set_option maxRecDepth 100000 in
theorem v_X3_keep {b : Nat} {dC : Nat → ClassId} {dI : Nat → Nat → Nat} {cA : Nat → ClassId} {ts : Nat → Nat} {l : Launch} {n : Nat} {R : Nat → Nat → Option Nat} {al : Bool} (hn : 491 ≤ n) (hR : xRk R) {e : Nat} (he : iSide e) {J : zM} {L : yM} {Q : zM → yM → Prop} (h : w_X3_keep e J L Q) : xCn (xGm b dC dI cA ts) l mX3_keep [.ref (e + 17), .ref 3] al (n, R, zi J, li L) 0 0 (zQ0 n R Q) (fun _ _ => False) := by
  refine xCn.ofJ (by decide) (Nat.le_of_ble_eq_true rfl) ?_
  show xJ _ _ _ _ _ _ _ _ _ 0 [(0, .ref (e + 17)), (1, .ref 3)] [] _ _ _ _ _
  unfold w_X3_keep at h
  refine xr_aload_n (xd dX3_keep 0 rfl) 1 rfl ?_
  refine zr_getI 1 11 11 rfl (xd dX3_keep 1 rfl) f3_29 (by decide) (by decide) (lt491 hn (by decide)) kd_3 rfl ?_
  refine xr_iconst (v := oI 5) (xd dX3_keep 2 rfl) (by decide) ?_
  refine zr_irem (xd dX3_keep 3 rfl) (by decide) (by decide) ?_
  obtain ⟨x1, e_x1⟩ : ∃ z_ : Int, z_ = (zrem (J 3 11) 5) := ⟨_, rfl⟩
  replace h := h x1 e_x1
  refine zr_nm e_x1 ?_
  refine xr_istore_n [(0, .ref (e + 17)), (1, .ref 3), (2, .int (oI x1))] (xd dX3_keep 4 rfl) rfl (by decide) rfl ?_
  refine xr_aload_n (xd dX3_keep 5 rfl) 1 rfl ?_
  refine zr_getI 1 12 12 rfl (xd dX3_keep 6 rfl) f3_35 (by decide) (by decide) (lt491 hn (by decide)) kd_3 rfl ?_
  refine xr_aload_n (xd dX3_keep 7 rfl) 1 rfl ?_
  refine zr_getI 1 13 13 rfl (xd dX3_keep 8 rfl) f3_38 (by decide) (by decide) (lt491 hn (by decide)) kd_3 rfl ?_
  refine zr_iadd (xd dX3_keep 9 rfl) ?_
  refine xr_sipush (v := oI 152) (xd dX3_keep 10 rfl) (by decide) ?_
  obtain ⟨o2, h⟩ := h
  refine zr_icmp_le 23 (xd dX3_keep 11 rfl) (by decide) o2 (by decide) (fun c3 => ?_) (fun c3 => ?_)
  · replace h := ifn h c3
    refine xr_aload_n (xd dX3_keep 13 rfl) 0 rfl ?_
    refine xr_getR (b := (e + 18)) 3 0 (xd dX3_keep 14 rfl) f3_9 (by decide) (by decide) (lt491 hn (ltS he (by decide))) (kdS_17 he) rfl (rS_17_0 hR he) ?_
    refine xr_iload_n (xd dX3_keep 15 rfl) 2 rfl ?_
    obtain ⟨o4, h⟩ := h
    refine zr_iaload (xd dX3_keep 16 rfl) (lt491 hn (ltS he (by decide))) (kdS_18 he) (lnS_18 he) (by decide) o4 ?_
    refine xr_iconst (v := oI (-1)) (xd dX3_keep 17 rfl) (by decide) ?_
    replace h := h (fun (J5 : zM) (L6 : yM) => xJ (xGm b dC dI cA ts) l mX3_keep 0 0 (zQ0 n R Q) (fun _ _ => False) 0 0 46 [(0, .ref (e + 17)), (1, .ref 3), (2, .int (oI x1))] [] al n R (zi J5) (li L6)) (by
      intro J5 L6 h
      show xJ _ _ _ _ _ _ _ _ _ 46 [(0, .ref (e + 17)), (1, .ref 3), (2, .int (oI x1))] [] _ _ _ _ _
      refine xr_iconst (v := oI 0) (xd dX3_keep 26 rfl) (by decide) ?_
      refine xr_istore_n [(0, .ref (e + 17)), (1, .ref 3), (2, .int (oI x1)), (3, .int (oI 0))] (xd dX3_keep 27 rfl) rfl (by decide) rfl ?_
      refine h (fun x9 J10 L11 => xJ (xGm b dC dI cA ts) l mX3_keep 0 0 (zQ0 n R Q) (fun _ _ => False) 0 0 48 [(0, .ref (e + 17)), (1, .ref 3), (2, .int (oI x1)), (3, .int (oI x9))] [] al n R (zi J10) (li L11)) ?_
      intro x9 J10 L11 h
      show xJ _ _ _ _ _ _ _ _ _ 48 [(0, .ref (e + 17)), (1, .ref 3), (2, .int (oI x1)), (3, .int (oI x9))] [] _ _ _ _ _
      refine xr_iload_n (xd dX3_keep 28 rfl) 3 rfl ?_
      refine xr_aload_n (xd dX3_keep 29 rfl) 1 rfl ?_
      refine zr_getI 1 13 13 rfl (xd dX3_keep 30 rfl) f3_38 (by decide) (by decide) (lt491 hn (by decide)) kd_3 rfl ?_
      obtain ⟨o12, h⟩ := h
      obtain ⟨o13, h⟩ := h
      refine zr_icmp_ge 124 (xd dX3_keep 31 rfl) (by decide) o12 o13 (fun c14 => ?_) (fun c14 => ?_)
      · replace h := ifn h c14
        exact xr_vret (xd dX3_keep 78 rfl) rfl (by decide) (by decide) (fun _ => rfl) ⟨_, _, rfl, rfl, h⟩
      · replace h := ifp h c14
        refine xr_aload_n (xd dX3_keep 32 rfl) 0 rfl ?_
        refine xr_getR (b := (e + 20)) 3 2 (xd dX3_keep 33 rfl) f3_18 (by decide) (by decide) (lt491 hn (ltS he (by decide))) (kdS_17 he) rfl (rS_17_2 hR he) ?_
        refine xr_iload_n (xd dX3_keep 34 rfl) 2 rfl ?_
        refine xr_dup2 (xd dX3_keep 35 rfl) rfl rfl ?_
        obtain ⟨o15, h⟩ := h
        refine zr_iaload (xd dX3_keep 36 rfl) (lt491 hn (ltS he (by decide))) (kdS_20 he) (lnS_20 he) (by decide) o15 ?_
        refine xr_iconst (v := oI 1) (xd dX3_keep 37 rfl) (by decide) ?_
        refine xr_aload_n (xd dX3_keep 38 rfl) 0 rfl ?_
        refine xr_getR (b := (e + 27)) 3 4 (xd dX3_keep 39 rfl) f3_26 (by decide) (by decide) (lt491 hn (ltS he (by decide))) (kdS_17 he) rfl (rS_17_4 hR he) ?_
        refine xr_iload_n (xd dX3_keep 40 rfl) 2 rfl ?_
        obtain ⟨o16, h⟩ := h
        have f17 := famS_27 hR he o16
        refine zr_aaload (b := (e + 28 + (x1).toNat)) 3 (xd dX3_keep 41 rfl) (lt491 hn (ltS he (by decide))) (by decide) (by decide) (kdS_27 he) (lnS_27 he) (by decide) o16 f17.1 ?_
        refine xr_aload_n (xd dX3_keep 42 rfl) 1 rfl ?_
        refine zr_getI 1 12 12 rfl (xd dX3_keep 43 rfl) f3_35 (by decide) (by decide) (lt491 hn (by decide)) kd_3 rfl ?_
        refine xr_iload_n (xd dX3_keep 44 rfl) 3 rfl ?_
        refine zr_iadd (xd dX3_keep 45 rfl) ?_
        obtain ⟨o18, h⟩ := h
        refine zr_iaload (xd dX3_keep 46 rfl) (lt491 hn f17.2.1.2) f17.2.1.1 f17.2.2 (by decide) o18 ?_
        refine zr_isub (xd dX3_keep 47 rfl) ?_
        refine zr_isub (xd dX3_keep 48 rfl) ?_
        obtain ⟨o19, h⟩ := h
        obtain ⟨J20, e_J20⟩ : ∃ z_ : zM, z_ = zs J10 (e + 20) x1 ((J10 (e + 20) x1) - (1 - (J10 (e + 28 + (x1).toNat) ((J10 3 12) + x9)))) := ⟨_, rfl⟩
        replace h := h J20 e_J20
        refine zr_iastore e_J20 (xd dX3_keep 49 rfl) (lt491 hn (ltS he (by decide))) (kdS_20 he) (lnS_20 he) (by decide) o19 ?_
        refine xr_aload_n (xd dX3_keep 50 rfl) 0 rfl ?_
        refine xr_getR (b := (e + 27)) 3 4 (xd dX3_keep 51 rfl) f3_26 (by decide) (by decide) (lt491 hn (ltS he (by decide))) (kdS_17 he) rfl (rS_17_4 hR he) ?_
        refine xr_iload_n (xd dX3_keep 52 rfl) 2 rfl ?_
        obtain ⟨o21, h⟩ := h
        have f22 := famS_27 hR he o21
        refine zr_aaload (b := (e + 28 + (x1).toNat)) 3 (xd dX3_keep 53 rfl) (lt491 hn (ltS he (by decide))) (by decide) (by decide) (kdS_27 he) (lnS_27 he) (by decide) o21 f22.1 ?_
        refine xr_aload_n (xd dX3_keep 54 rfl) 1 rfl ?_
        refine zr_getI 1 12 12 rfl (xd dX3_keep 55 rfl) f3_35 (by decide) (by decide) (lt491 hn (by decide)) kd_3 rfl ?_
        refine xr_iload_n (xd dX3_keep 56 rfl) 3 rfl ?_
        refine zr_iadd (xd dX3_keep 57 rfl) ?_
        refine xr_iconst (v := oI 1) (xd dX3_keep 58 rfl) (by decide) ?_
        obtain ⟨o23, h⟩ := h
        obtain ⟨J24, e_J24⟩ : ∃ z_ : zM, z_ = zs J20 (e + 28 + (x1).toNat) ((J20 3 12) + x9) 1 := ⟨_, rfl⟩
        replace h := h J24 e_J24
        refine zr_iastore e_J24 (xd dX3_keep 59 rfl) (lt491 hn f22.2.1.2) f22.2.1.1 f22.2.2 (by decide) o23 ?_
        refine xr_aload_n (xd dX3_keep 60 rfl) 0 rfl ?_
        refine xr_getR (b := (e + 21)) 3 3 (xd dX3_keep 61 rfl) f3_23 (by decide) (by decide) (lt491 hn (ltS he (by decide))) (kdS_17 he) rfl (rS_17_3 hR he) ?_
        refine xr_iload_n (xd dX3_keep 62 rfl) 2 rfl ?_
        obtain ⟨o25, h⟩ := h
        have f26 := famS_21 hR he o25
        refine zr_aaload (b := (e + 22 + (x1).toNat)) 3 (xd dX3_keep 63 rfl) (lt491 hn (ltS he (by decide))) (by decide) (by decide) (kdS_21 he) (lnS_21 he) (by decide) o25 f26.1 ?_
        refine xr_aload_n (xd dX3_keep 64 rfl) 1 rfl ?_
        refine zr_getI 1 12 12 rfl (xd dX3_keep 65 rfl) f3_35 (by decide) (by decide) (lt491 hn (by decide)) kd_3 rfl ?_
        refine xr_iload_n (xd dX3_keep 66 rfl) 3 rfl ?_
        refine zr_iadd (xd dX3_keep 67 rfl) ?_
        refine xr_aload_n (xd dX3_keep 68 rfl) 1 rfl ?_
        refine xr_getR (b := 4) 1 0 (xd dX3_keep 69 rfl) f3_51 (by decide) (by decide) (lt491 hn (by decide)) kd_3 rfl (r_3_0 hR) ?_
        refine xr_aload_n (xd dX3_keep 70 rfl) 1 rfl ?_
        refine zr_getI 1 14 14 rfl (xd dX3_keep 71 rfl) f3_54 (by decide) (by decide) (lt491 hn (by decide)) kd_3 rfl ?_
        refine xr_iload_n (xd dX3_keep 72 rfl) 3 rfl ?_
        refine zr_iadd (xd dX3_keep 73 rfl) ?_
        obtain ⟨o27, h⟩ := h
        refine zr_iaload (xd dX3_keep 74 rfl) (lt491 hn (by decide)) kd_4 ln_4 (by decide) o27 ?_
        obtain ⟨o28, h⟩ := h
        obtain ⟨J29, e_J29⟩ : ∃ z_ : zM, z_ = zs J24 (e + 22 + (x1).toNat) ((J24 3 12) + x9) (J24 4 ((J24 3 14) + x9)) := ⟨_, rfl⟩
        replace h := h J29 e_J29
        refine zr_iastore e_J29 (xd dX3_keep 75 rfl) (lt491 hn f26.2.1.2) f26.2.1.1 f26.2.2 (by decide) o28 ?_
        refine zr_iinc [(0, .ref (e + 17)), (1, .ref 3), (2, .int (oI x1)), (3, .int (oI (x9 + 1)))] (xd dX3_keep 76 rfl) 3 rfl (by decide) rfl ?_
        refine xr_goto 48 (xd dX3_keep 77 rfl) (by decide) ?_
        exact h)
    obtain ⟨o30, h⟩ := h
    refine zr_icmp_ne 46 (xd dX3_keep 18 rfl) (by decide) o30 (by decide) (fun c31 => ?_) (fun c31 => ?_)
    · replace h := ifn h c31
      exact h
    · replace h := ifp h c31
      refine xr_aload_n (xd dX3_keep 19 rfl) 0 rfl ?_
      refine xr_iload_n (xd dX3_keep 20 rfl) 2 rfl ?_
      refine xr_aload_n (xd dX3_keep 21 rfl) 1 rfl ?_
      refine zr_getI 1 9 9 rfl (xd dX3_keep 22 rfl) f3_41 (by decide) (by decide) (lt491 hn (by decide)) kd_3 rfl ?_
      refine xr_aload_n (xd dX3_keep 23 rfl) 1 rfl ?_
      refine zr_getI 1 10 10 rfl (xd dX3_keep 24 rfl) f3_44 (by decide) (by decide) (lt491 hn (by decide)) kd_3 rfl ?_
      refine xr_callV mX3_openSlot 3 [.int (oI x1), .int (oI (J 3 9)), .int (oI (J 3 10))] (xd dX3_keep 25 rfl) l3_47 kX3_openSlot rfl (lt491 hn (ltS he (by decide))) (kdS_17 he) (by decide) rfl (by decide) (Nat.le_of_ble_eq_true rfl) (v_X3_openSlot hn hR he h) (by decide) (by decide) (fun r_ M_ h_ => ?_) (fun _ _ h_ => h_.elim)
      obtain ⟨J32, L33, rfl, rfl, h⟩ := h_
      show xJ _ _ _ _ _ _ _ _ _ 46 [(0, .ref (e + 17)), (1, .ref 3), (2, .int (oI x1))] [] _ _ _ (zi J32) (li L33)
      exact h
  · replace h := ifp h c3
    exact xr_vret (xd dX3_keep 12 rfl) rfl (by decide) (by decide) (fun _ => rfl) ⟨_, _, rfl, rfl, h⟩
def w_X3_isWhole (e : Nat) (p1 : Int) (J : zM) (L : yM) (Q : Int → zM → yM → Prop) : Prop := ∀ x1 : Int, x1 = (zrem p1 5) → ((0 : Int) ≤ x1 ∧ x1 < 5) ∧ R32 (J (e + 18) x1) ∧ (if (J (e + 18) x1) = (-1) then Q 0 J L else ((0 : Int) ≤ x1 ∧ x1 < 5) ∧ R32 (J (e + 20) x1) ∧ (if (J (e + 20) x1) = 0 then Q 1 J L else Q 0 J L))
set_option maxHeartbeats 4000000 in
set_option maxRecDepth 100000 in
theorem v_X3_isWhole {b : Nat} {dC : Nat → ClassId} {dI : Nat → Nat → Nat} {cA : Nat → ClassId} {ts : Nat → Nat} {l : Launch} {n : Nat} {R : Nat → Nat → Option Nat} {al : Bool} (hn : 491 ≤ n) (hR : xRk R) {e : Nat} {p1 : Int} (he : iSide e) {J : zM} {L : yM} {Q : Int → zM → yM → Prop} (h : w_X3_isWhole e p1 J L Q) : xCn (xGm b dC dI cA ts) l mX3_isWhole [.ref (e + 17), .int (oI p1)] al (n, R, zi J, li L) 0 0 (zQ1 n R Q) (fun _ _ => False) := by
  refine xCn.ofJ (by decide) (Nat.le_of_ble_eq_true rfl) ?_
  show xJ _ _ _ _ _ _ _ _ _ 0 [(0, .ref (e + 17)), (1, .int (oI p1))] [] _ _ _ _ _
  unfold w_X3_isWhole at h
  refine xr_iload_n (xd dX3_isWhole 0 rfl) 1 rfl ?_
  refine xr_iconst (v := oI 5) (xd dX3_isWhole 1 rfl) (by decide) ?_
  refine zr_irem (xd dX3_isWhole 2 rfl) (by decide) (by decide) ?_
  obtain ⟨x1, e_x1⟩ : ∃ z_ : Int, z_ = (zrem p1 5) := ⟨_, rfl⟩
  replace h := h x1 e_x1
  refine zr_nm e_x1 ?_
  refine xr_istore_n [(0, .ref (e + 17)), (1, .int (oI p1)), (2, .int (oI x1))] (xd dX3_isWhole 3 rfl) rfl (by decide) rfl ?_
  refine xr_aload_n (xd dX3_isWhole 4 rfl) 0 rfl ?_
  refine xr_getR (b := (e + 18)) 3 0 (xd dX3_isWhole 5 rfl) f3_9 (by decide) (by decide) (lt491 hn (ltS he (by decide))) (kdS_17 he) rfl (rS_17_0 hR he) ?_
  refine xr_iload_n (xd dX3_isWhole 6 rfl) 2 rfl ?_
  obtain ⟨o2, h⟩ := h
  refine zr_iaload (xd dX3_isWhole 7 rfl) (lt491 hn (ltS he (by decide))) (kdS_18 he) (lnS_18 he) (by decide) o2 ?_
  refine xr_iconst (v := oI (-1)) (xd dX3_isWhole 8 rfl) (by decide) ?_
  obtain ⟨o3, h⟩ := h
  refine zr_icmp_eq 27 (xd dX3_isWhole 9 rfl) (by decide) o3 (by decide) (fun c4 => ?_) (fun c4 => ?_)
  · replace h := ifp h c4
    refine xr_iconst (v := oI 0) (xd dX3_isWhole 17 rfl) (by decide) ?_
    exact xr_zret (xd dX3_isWhole 18 rfl) rfl (zret_b (Or.inl rfl)) (by decide) (by decide) (fun _ => rfl) ⟨_, _, _, rfl, rfl, h⟩
  · replace h := ifn h c4
    refine xr_aload_n (xd dX3_isWhole 10 rfl) 0 rfl ?_
    refine xr_getR (b := (e + 20)) 3 2 (xd dX3_isWhole 11 rfl) f3_18 (by decide) (by decide) (lt491 hn (ltS he (by decide))) (kdS_17 he) rfl (rS_17_2 hR he) ?_
    refine xr_iload_n (xd dX3_isWhole 12 rfl) 2 rfl ?_
    obtain ⟨o5, h⟩ := h
    refine zr_iaload (xd dX3_isWhole 13 rfl) (lt491 hn (ltS he (by decide))) (kdS_20 he) (lnS_20 he) (by decide) o5 ?_
    obtain ⟨o6, h⟩ := h
    refine zr_if_ne 27 (xd dX3_isWhole 14 rfl) (by decide) o6 (fun c7 => ?_) (fun c7 => ?_)
    · replace h := ifn h c7
      refine xr_iconst (v := oI 0) (xd dX3_isWhole 17 rfl) (by decide) ?_
      exact xr_zret (xd dX3_isWhole 18 rfl) rfl (zret_b (Or.inl rfl)) (by decide) (by decide) (fun _ => rfl) ⟨_, _, _, rfl, rfl, h⟩
    · replace h := ifp h c7
      refine xr_iconst (v := oI 1) (xd dX3_isWhole 15 rfl) (by decide) ?_
      refine xr_goto 28 (xd dX3_isWhole 16 rfl) (by decide) ?_
      exact xr_zret (xd dX3_isWhole 18 rfl) rfl (zret_b (Or.inr rfl)) (by decide) (by decide) (fun _ => rfl) ⟨_, _, _, rfl, rfl, h⟩
def w_X3_free (e : Nat) (p1 : Int) (J : zM) (L : yM) (Q : zM → yM → Prop) : Prop := ((0 : Int) ≤ (zrem p1 5) ∧ (zrem p1 5) < 5) ∧ ∀ J2 : zM, J2 = zs J (e + 18) (zrem p1 5) (-1) → Q J2 L
set_option maxHeartbeats 4000000 in
set_option maxRecDepth 100000 in
theorem v_X3_free {b : Nat} {dC : Nat → ClassId} {dI : Nat → Nat → Nat} {cA : Nat → ClassId} {ts : Nat → Nat} {l : Launch} {n : Nat} {R : Nat → Nat → Option Nat} {al : Bool} (hn : 491 ≤ n) (hR : xRk R) {e : Nat} {p1 : Int} (he : iSide e) {J : zM} {L : yM} {Q : zM → yM → Prop} (h : w_X3_free e p1 J L Q) : xCn (xGm b dC dI cA ts) l mX3_free [.ref (e + 17), .int (oI p1)] al (n, R, zi J, li L) 0 0 (zQ0 n R Q) (fun _ _ => False) := by
  refine xCn.ofJ (by decide) (Nat.le_of_ble_eq_true rfl) ?_
  show xJ _ _ _ _ _ _ _ _ _ 0 [(0, .ref (e + 17)), (1, .int (oI p1))] [] _ _ _ _ _
  unfold w_X3_free at h
  refine xr_aload_n (xd dX3_free 0 rfl) 0 rfl ?_
  refine xr_getR (b := (e + 18)) 3 0 (xd dX3_free 1 rfl) f3_9 (by decide) (by decide) (lt491 hn (ltS he (by decide))) (kdS_17 he) rfl (rS_17_0 hR he) ?_
  refine xr_iload_n (xd dX3_free 2 rfl) 1 rfl ?_
  refine xr_iconst (v := oI 5) (xd dX3_free 3 rfl) (by decide) ?_
  refine zr_irem (xd dX3_free 4 rfl) (by decide) (by decide) ?_
  refine xr_iconst (v := oI (-1)) (xd dX3_free 5 rfl) (by decide) ?_
  obtain ⟨o1, h⟩ := h
  obtain ⟨J2, e_J2⟩ : ∃ z_ : zM, z_ = zs J (e + 18) (zrem p1 5) (-1) := ⟨_, rfl⟩
  replace h := h J2 e_J2
  refine zr_iastore e_J2 (xd dX3_free 6 rfl) (lt491 hn (ltS he (by decide))) (kdS_18 he) (lnS_18 he) (by decide) o1 ?_
  exact xr_vret (xd dX3_free 7 rfl) rfl (by decide) (by decide) (fun _ => rfl) ⟨_, _, rfl, rfl, h⟩
def w_X4_empty (r : Nat) (J : zM) (L : yM) (Q : zM → yM → Prop) : Prop := ∀ J1 : zM, J1 = zs J r 5 0 → Q J1 L
set_option maxHeartbeats 4000000 in
set_option maxRecDepth 100000 in
theorem v_X4_empty {b : Nat} {dC : Nat → ClassId} {dI : Nat → Nat → Nat} {cA : Nat → ClassId} {ts : Nat → Nat} {l : Launch} {n : Nat} {R : Nat → Nat → Option Nat} {al : Bool} (hn : 491 ≤ n) (hR : xRk R) {r : Nat} (h_r : iRows r) {J : zM} {L : yM} {Q : zM → yM → Prop} (h : w_X4_empty r J L Q) : xCn (xGm b dC dI cA ts) l mX4_empty [.ref r] al (n, R, zi J, li L) 0 0 (zQ0 n R Q) (fun _ _ => False) := by
  refine xCn.ofJ (by decide) (Nat.le_of_ble_eq_true rfl) ?_
  show xJ _ _ _ _ _ _ _ _ _ 0 [(0, .ref r)] [] _ _ _ _ _
  unfold w_X4_empty at h
  refine xr_aload_n (xd dX4_empty 0 rfl) 0 rfl ?_
  refine xr_iconst (v := oI 0) (xd dX4_empty 1 rfl) (by decide) ?_
  obtain ⟨J1, e_J1⟩ : ∃ z_ : zM, z_ = zs J r 5 0 := ⟨_, rfl⟩
  replace h := h J1 e_J1
  refine zr_putI 4 5 5 rfl e_J1 (xd dX4_empty 2 rfl) f4_28 (by decide) (by decide) (lt491 hn (rows_lt0 h_r)) (rows_kd h_r).1 (Or.inl rfl) rfl rfl (fun _ => rfl) ?_
  exact xr_vret (xd dX4_empty 3 rfl) rfl (by decide) (by decide) (fun _ => rfl) ⟨_, _, rfl, rfl, h⟩
def w_X4_add (r : Nat) (p1 : Nat) (p2 : Int) (J : zM) (L : yM) (Q : Int → zM → yM → Prop) : Prop := R32 (J r 5) ∧ R32 (J r 0) ∧ (if (J r 5) < (J r 0) then R32 p2 ∧ (if p2 < 0 then Q 0 J L else R32 (J r 1) ∧ (if (J r 1) < p2 then Q 0 J L else R32 (ln0 p1 : Int) ∧ (if (ln0 p1 : Int) < p2 then Q 0 J L else ((0 : Int) ≤ (J r 5) ∧ (J r 5) < (rq r : Int)) ∧ ∀ x11 : Int, x11 = (J (r + 3 + rq r) (J r 5)) → ((0 : Int) ≤ x11 ∧ x11 < (rq r : Int)) ∧ ((0 : Int) ≤ 0 ∧ (0 : Int) ≤ 0 ∧ (0 : Int) ≤ p2 ∧ (0 + p2 : Int) ≤ (ln0 p1 : Int) ∧ (0 + p2 : Int) ≤ (rw0 r : Int)) ∧ ∀ J15 : zM, J15 = zcp J p1 0 (r + 2 + (x11).toNat) 0 p2 → ((0 : Int) ≤ x11 ∧ x11 < (rq r : Int)) ∧ ∀ J17 : zM, J17 = zs J15 (r + 2 + rq r) x11 p2 → ∀ J18 : zM, J18 = zs J17 r 5 ((J17 r 5) + 1) → Q 1 J18 L))) else Q 0 J L)
set_option maxHeartbeats 4000000 in
set_option maxRecDepth 100000 in
theorem v_X4_add {b : Nat} {dC : Nat → ClassId} {dI : Nat → Nat → Nat} {cA : Nat → ClassId} {ts : Nat → Nat} {l : Launch} {n : Nat} {R : Nat → Nat → Option Nat} {al : Bool} (hn : 491 ≤ n) (hR : xRk R) {r : Nat} {p1 : Nat} {p2 : Int} (h_r : iRows r) (h_p1 : za p1) {J : zM} {L : yM} {Q : Int → zM → yM → Prop} (h : w_X4_add r p1 p2 J L Q) : xCn (xGm b dC dI cA ts) l mX4_add [.ref r, .ref p1, .int (oI p2)] al (n, R, zi J, li L) 0 0 (zQ1 n R Q) (fun _ _ => False) := by
  refine xCn.ofJ (by decide) (Nat.le_of_ble_eq_true rfl) ?_
  show xJ _ _ _ _ _ _ _ _ _ 0 [(0, .ref r), (1, .ref p1), (2, .int (oI p2))] [] _ _ _ _ _
  unfold w_X4_add at h
  refine xr_aload_n (xd dX4_add 0 rfl) 0 rfl ?_
  refine zr_getI 4 5 5 rfl (xd dX4_add 1 rfl) f4_28 (by decide) (by decide) (lt491 hn (rows_lt0 h_r)) (rows_kd h_r).1 rfl ?_
  refine xr_aload_n (xd dX4_add 2 rfl) 0 rfl ?_
  refine zr_getI 4 0 0 rfl (xd dX4_add 3 rfl) f4_7 (by decide) (by decide) (lt491 hn (rows_lt0 h_r)) (rows_kd h_r).1 rfl ?_
  obtain ⟨o1, h⟩ := h
  obtain ⟨o2, h⟩ := h
  refine zr_icmp_ge 29 (xd dX4_add 4 rfl) (by decide) o1 o2 (fun c3 => ?_) (fun c3 => ?_)
  · replace h := ifn h c3
    refine xr_iconst (v := oI 0) (xd dX4_add 15 rfl) (by decide) ?_
    exact xr_zret (xd dX4_add 16 rfl) rfl (zret_b (Or.inl rfl)) (by decide) (by decide) (fun _ => rfl) ⟨_, _, _, rfl, rfl, h⟩
  · replace h := ifp h c3
    refine xr_iload_n (xd dX4_add 5 rfl) 2 rfl ?_
    obtain ⟨o4, h⟩ := h
    refine zr_if_lt 29 (xd dX4_add 6 rfl) (by decide) o4 (fun c5 => ?_) (fun c5 => ?_)
    · replace h := ifp h c5
      refine xr_iconst (v := oI 0) (xd dX4_add 15 rfl) (by decide) ?_
      exact xr_zret (xd dX4_add 16 rfl) rfl (zret_b (Or.inl rfl)) (by decide) (by decide) (fun _ => rfl) ⟨_, _, _, rfl, rfl, h⟩
    · replace h := ifn h c5
      refine xr_iload_n (xd dX4_add 7 rfl) 2 rfl ?_
      refine xr_aload_n (xd dX4_add 8 rfl) 0 rfl ?_
      refine zr_getI 4 1 1 rfl (xd dX4_add 9 rfl) f4_13 (by decide) (by decide) (lt491 hn (rows_lt0 h_r)) (rows_kd h_r).1 rfl ?_
      obtain ⟨o6, h⟩ := h
      refine zr_icmp_gt 29 (xd dX4_add 10 rfl) (by decide) o4 o6 (fun c7 => ?_) (fun c7 => ?_)
      · replace h := ifp h c7
        refine xr_iconst (v := oI 0) (xd dX4_add 15 rfl) (by decide) ?_
        exact xr_zret (xd dX4_add 16 rfl) rfl (zret_b (Or.inl rfl)) (by decide) (by decide) (fun _ => rfl) ⟨_, _, _, rfl, rfl, h⟩
      · replace h := ifn h c7
        refine xr_iload_n (xd dX4_add 11 rfl) 2 rfl ?_
        refine xr_aload_n (xd dX4_add 12 rfl) 1 rfl ?_
        refine zr_alen (v := (ln0 p1 : Int)) 0 (xd dX4_add 13 rfl) (lt491 hn h_p1.2) (by decide) h_p1.1 rfl rfl ?_
        obtain ⟨o8, h⟩ := h
        refine zr_icmp_le 31 (xd dX4_add 14 rfl) (by decide) o4 o8 (fun c9 => ?_) (fun c9 => ?_)
        · replace h := ifn h c9
          refine xr_aload_n (xd dX4_add 17 rfl) 0 rfl ?_
          refine xr_getR (b := (r + 3 + rq r)) 4 4 (xd dX4_add 18 rfl) f4_25 (by decide) (by decide) (lt491 hn (rows_lt0 h_r)) (rows_kd h_r).1 rfl (rows_4 hR h_r) ?_
          refine xr_aload_n (xd dX4_add 19 rfl) 0 rfl ?_
          refine zr_getI 4 5 5 rfl (xd dX4_add 20 rfl) f4_28 (by decide) (by decide) (lt491 hn (rows_lt0 h_r)) (rows_kd h_r).1 rfl ?_
          obtain ⟨o10, h⟩ := h
          refine zr_iaload (xd dX4_add 21 rfl) (lt491 hn (rows_lt h_r)) (rows_kd h_r).2.2.2 (rows_ln h_r).2.2 (rq_lt _) o10 ?_
          obtain ⟨x11, e_x11⟩ : ∃ z_ : Int, z_ = (J (r + 3 + rq r) (J r 5)) := ⟨_, rfl⟩
          replace h := h x11 e_x11
          refine zr_nm e_x11 ?_
          refine xr_istore_n [(0, .ref r), (1, .ref p1), (2, .int (oI p2)), (3, .int (oI x11))] (xd dX4_add 22 rfl) rfl (by decide) rfl ?_
          refine xr_aload_n (xd dX4_add 23 rfl) 1 rfl ?_
          refine xr_iconst (v := oI 0) (xd dX4_add 24 rfl) (by decide) ?_
          refine xr_aload_n (xd dX4_add 25 rfl) 0 rfl ?_
          refine xr_getR (b := (r + 1)) 4 2 (xd dX4_add 26 rfl) f4_18 (by decide) (by decide) (lt491 hn (rows_lt0 h_r)) (rows_kd h_r).1 rfl (rows_2 hR h_r) ?_
          refine xr_iload_n (xd dX4_add 27 rfl) 3 rfl ?_
          obtain ⟨o12, h⟩ := h
          have f13 := rowsI hR h_r o12
          refine zr_aaload (b := (r + 2 + (x11).toNat)) 3 (xd dX4_add 28 rfl) (lt491 hn (rows_lt1 h_r)) (by decide) (by decide) (rows_kd h_r).2.1 (rows_ln h_r).1 (rq_lt _) o12 f13.1 ?_
          refine xr_iconst (v := oI 0) (xd dX4_add 29 rfl) (by decide) ?_
          refine xr_iload_n (xd dX4_add 30 rfl) 2 rfl ?_
          obtain ⟨o14, h⟩ := h
          obtain ⟨J15, e_J15⟩ : ∃ z_ : zM, z_ = zcp J p1 0 (r + 2 + (x11).toNat) 0 p2 := ⟨_, rfl⟩
          replace h := h J15 e_J15
          refine zr_acopy e_J15 (xd dX4_add 31 rfl) l4_31 (lt491 hn h_p1.2) h_p1.1 rfl (ln0_lt p1) (lt491 hn f13.2.1.2) f13.2.1.1 f13.2.2 (rw0_lt _) o14.1 o14.2.1 o14.2.2.1 o14.2.2.2.1 o14.2.2.2.2 ⟨Nat.le_of_ble_eq_true rfl, Nat.le_of_ble_eq_true rfl⟩ ?_
          refine xr_aload_n (xd dX4_add 32 rfl) 0 rfl ?_
          refine xr_getR (b := (r + 2 + rq r)) 4 3 (xd dX4_add 33 rfl) f4_21 (by decide) (by decide) (lt491 hn (rows_lt0 h_r)) (rows_kd h_r).1 rfl (rows_3 hR h_r) ?_
          refine xr_iload_n (xd dX4_add 34 rfl) 3 rfl ?_
          refine xr_iload_n (xd dX4_add 35 rfl) 2 rfl ?_
          obtain ⟨o16, h⟩ := h
          obtain ⟨J17, e_J17⟩ : ∃ z_ : zM, z_ = zs J15 (r + 2 + rq r) x11 p2 := ⟨_, rfl⟩
          replace h := h J17 e_J17
          refine zr_iastore e_J17 (xd dX4_add 36 rfl) (lt491 hn (rows_lt2 h_r)) (rows_kd h_r).2.2.1 (rows_ln h_r).2.1 (rq_lt _) o16 ?_
          refine xr_aload_n (xd dX4_add 37 rfl) 0 rfl ?_
          refine xr_dup (xd dX4_add 38 rfl) rfl ?_
          refine zr_getI 4 5 5 rfl (xd dX4_add 39 rfl) f4_28 (by decide) (by decide) (lt491 hn (rows_lt0 h_r)) (rows_kd h_r).1 rfl ?_
          refine xr_iconst (v := oI 1) (xd dX4_add 40 rfl) (by decide) ?_
          refine zr_iadd (xd dX4_add 41 rfl) ?_
          obtain ⟨J18, e_J18⟩ : ∃ z_ : zM, z_ = zs J17 r 5 ((J17 r 5) + 1) := ⟨_, rfl⟩
          replace h := h J18 e_J18
          refine zr_putI 4 5 5 rfl e_J18 (xd dX4_add 42 rfl) f4_28 (by decide) (by decide) (lt491 hn (rows_lt0 h_r)) (rows_kd h_r).1 (Or.inl rfl) rfl rfl (fun _ => rfl) ?_
          refine xr_iconst (v := oI 1) (xd dX4_add 43 rfl) (by decide) ?_
          exact xr_zret (xd dX4_add 44 rfl) rfl (zret_b (Or.inr rfl)) (by decide) (by decide) (fun _ => rfl) ⟨_, _, _, rfl, rfl, h⟩
        · replace h := ifp h c9
          refine xr_iconst (v := oI 0) (xd dX4_add 15 rfl) (by decide) ?_
          exact xr_zret (xd dX4_add 16 rfl) rfl (zret_b (Or.inl rfl)) (by decide) (by decide) (fun _ => rfl) ⟨_, _, _, rfl, rfl, h⟩
def w_X4_addCopy (r : Nat) (p1 : Int) (J : zM) (L : yM) (Q : Int → zM → yM → Prop) : Prop := R32 p1 ∧ (if p1 < 0 then Q 0 J L else R32 (J r 5) ∧ (if p1 < (J r 5) then ((0 : Int) ≤ p1 ∧ p1 < (rq r : Int)) ∧ ((0 : Int) ≤ (J (r + 3 + rq r) p1) ∧ (J (r + 3 + rq r) p1) < (rq r : Int)) ∧ ((0 : Int) ≤ p1 ∧ p1 < (rq r : Int)) ∧ ((0 : Int) ≤ (J (r + 3 + rq r) p1) ∧ (J (r + 3 + rq r) p1) < (rq r : Int)) ∧ w_X4_add r (r + 2 + ((J (r + 3 + rq r) p1)).toNat) (J (r + 2 + rq r) (J (r + 3 + rq r) p1)) J L (fun r12 J10 L11 => R32 r12 ∧ (if r12 = 0 then Q 0 J10 L11 else Q 1 J10 L11)) else Q 0 J L))
set_option maxHeartbeats 4000000 in
set_option maxRecDepth 100000 in
theorem v_X4_addCopy {b : Nat} {dC : Nat → ClassId} {dI : Nat → Nat → Nat} {cA : Nat → ClassId} {ts : Nat → Nat} {l : Launch} {n : Nat} {R : Nat → Nat → Option Nat} {al : Bool} (hn : 491 ≤ n) (hR : xRk R) {r : Nat} {p1 : Int} (h_r : iRows r) {J : zM} {L : yM} {Q : Int → zM → yM → Prop} (h : w_X4_addCopy r p1 J L Q) : xCn (xGm b dC dI cA ts) l mX4_addCopy [.ref r, .int (oI p1)] al (n, R, zi J, li L) 0 0 (zQ1 n R Q) (fun _ _ => False) := by
  refine xCn.ofJ (by decide) (Nat.le_of_ble_eq_true rfl) ?_
  show xJ _ _ _ _ _ _ _ _ _ 0 [(0, .ref r), (1, .int (oI p1))] [] _ _ _ _ _
  unfold w_X4_addCopy at h
  refine xr_iload_n (xd dX4_addCopy 0 rfl) 1 rfl ?_
  obtain ⟨o1, h⟩ := h
  refine zr_if_lt 45 (xd dX4_addCopy 1 rfl) (by decide) o1 (fun c2 => ?_) (fun c2 => ?_)
  · replace h := ifp h c2
    refine xr_iconst (v := oI 0) (xd dX4_addCopy 25 rfl) (by decide) ?_
    exact xr_zret (xd dX4_addCopy 26 rfl) rfl (zret_b (Or.inl rfl)) (by decide) (by decide) (fun _ => rfl) ⟨_, _, _, rfl, rfl, h⟩
  · replace h := ifn h c2
    refine xr_iload_n (xd dX4_addCopy 2 rfl) 1 rfl ?_
    refine xr_aload_n (xd dX4_addCopy 3 rfl) 0 rfl ?_
    refine zr_getI 4 5 5 rfl (xd dX4_addCopy 4 rfl) f4_28 (by decide) (by decide) (lt491 hn (rows_lt0 h_r)) (rows_kd h_r).1 rfl ?_
    obtain ⟨o3, h⟩ := h
    refine zr_icmp_ge 45 (xd dX4_addCopy 5 rfl) (by decide) o1 o3 (fun c4 => ?_) (fun c4 => ?_)
    · replace h := ifn h c4
      refine xr_iconst (v := oI 0) (xd dX4_addCopy 25 rfl) (by decide) ?_
      exact xr_zret (xd dX4_addCopy 26 rfl) rfl (zret_b (Or.inl rfl)) (by decide) (by decide) (fun _ => rfl) ⟨_, _, _, rfl, rfl, h⟩
    · replace h := ifp h c4
      refine xr_aload_n (xd dX4_addCopy 6 rfl) 0 rfl ?_
      refine xr_aload_n (xd dX4_addCopy 7 rfl) 0 rfl ?_
      refine xr_getR (b := (r + 1)) 4 2 (xd dX4_addCopy 8 rfl) f4_18 (by decide) (by decide) (lt491 hn (rows_lt0 h_r)) (rows_kd h_r).1 rfl (rows_2 hR h_r) ?_
      refine xr_aload_n (xd dX4_addCopy 9 rfl) 0 rfl ?_
      refine xr_getR (b := (r + 3 + rq r)) 4 4 (xd dX4_addCopy 10 rfl) f4_25 (by decide) (by decide) (lt491 hn (rows_lt0 h_r)) (rows_kd h_r).1 rfl (rows_4 hR h_r) ?_
      refine xr_iload_n (xd dX4_addCopy 11 rfl) 1 rfl ?_
      obtain ⟨o5, h⟩ := h
      refine zr_iaload (xd dX4_addCopy 12 rfl) (lt491 hn (rows_lt h_r)) (rows_kd h_r).2.2.2 (rows_ln h_r).2.2 (rq_lt _) o5 ?_
      obtain ⟨o6, h⟩ := h
      have f7 := rowsI hR h_r o6
      refine zr_aaload (b := (r + 2 + ((J (r + 3 + rq r) p1)).toNat)) 3 (xd dX4_addCopy 13 rfl) (lt491 hn (rows_lt1 h_r)) (by decide) (by decide) (rows_kd h_r).2.1 (rows_ln h_r).1 (rq_lt _) o6 f7.1 ?_
      refine xr_aload_n (xd dX4_addCopy 14 rfl) 0 rfl ?_
      refine xr_getR (b := (r + 2 + rq r)) 4 3 (xd dX4_addCopy 15 rfl) f4_21 (by decide) (by decide) (lt491 hn (rows_lt0 h_r)) (rows_kd h_r).1 rfl (rows_3 hR h_r) ?_
      refine xr_aload_n (xd dX4_addCopy 16 rfl) 0 rfl ?_
      refine xr_getR (b := (r + 3 + rq r)) 4 4 (xd dX4_addCopy 17 rfl) f4_25 (by decide) (by decide) (lt491 hn (rows_lt0 h_r)) (rows_kd h_r).1 rfl (rows_4 hR h_r) ?_
      refine xr_iload_n (xd dX4_addCopy 18 rfl) 1 rfl ?_
      obtain ⟨o8, h⟩ := h
      refine zr_iaload (xd dX4_addCopy 19 rfl) (lt491 hn (rows_lt h_r)) (rows_kd h_r).2.2.2 (rows_ln h_r).2.2 (rq_lt _) o8 ?_
      obtain ⟨o9, h⟩ := h
      refine zr_iaload (xd dX4_addCopy 20 rfl) (lt491 hn (rows_lt2 h_r)) (rows_kd h_r).2.2.1 (rows_ln h_r).2.1 (rq_lt _) o9 ?_
      refine xr_callV mX4_add 2 [.ref (r + 2 + ((J (r + 3 + rq r) p1)).toNat), .int (oI (J (r + 2 + rq r) (J (r + 3 + rq r) p1)))] (xd dX4_addCopy 21 rfl) l4_37 kX4_add rfl (lt491 hn (rows_lt0 h_r)) (rows_kd h_r).1 (by decide) rfl (by decide) (Nat.le_of_ble_eq_true rfl) (v_X4_add hn hR h_r (za_mk f7.2.1.1 f7.2.1.2) h) (by decide) (by decide) (fun r_ M_ h_ => ?_) (fun _ _ h_ => h_.elim)
      obtain ⟨r12, J10, L11, rfl, rfl, h⟩ := h_
      show xJ _ _ _ _ _ _ _ _ _ 38 [(0, .ref r), (1, .int (oI p1))] [.int (oI r12)] _ _ _ (zi J10) (li L11)
      obtain ⟨o13, h⟩ := h
      refine zr_if_eq 45 (xd dX4_addCopy 22 rfl) (by decide) o13 (fun c14 => ?_) (fun c14 => ?_)
      · replace h := ifp h c14
        refine xr_iconst (v := oI 0) (xd dX4_addCopy 25 rfl) (by decide) ?_
        exact xr_zret (xd dX4_addCopy 26 rfl) rfl (zret_b (Or.inl rfl)) (by decide) (by decide) (fun _ => rfl) ⟨_, _, _, rfl, rfl, h⟩
      · replace h := ifn h c14
        refine xr_iconst (v := oI 1) (xd dX4_addCopy 23 rfl) (by decide) ?_
        refine xr_goto 46 (xd dX4_addCopy 24 rfl) (by decide) ?_
        exact xr_zret (xd dX4_addCopy 26 rfl) rfl (zret_b (Or.inr rfl)) (by decide) (by decide) (fun _ => rfl) ⟨_, _, _, rfl, rfl, h⟩
def w_X4_drop (r : Nat) (p1 : Int) (J : zM) (L : yM) (Q : zM → yM → Prop) : Prop := R32 p1 ∧ (if p1 < 0 then Q J L else R32 (J r 5) ∧ (if p1 < (J r 5) then ((0 : Int) ≤ p1 ∧ p1 < (rq r : Int)) ∧ ∀ x6 : Int, x6 = (J (r + 3 + rq r) p1) → zl_z (fun K7 x8 J9 L10 => R32 x8 ∧ R32 ((J9 r 5) - 1) ∧ (if x8 < ((J9 r 5) - 1) then ((0 : Int) ≤ (x8 + 1) ∧ (x8 + 1) < (rq r : Int)) ∧ ((0 : Int) ≤ x8 ∧ x8 < (rq r : Int)) ∧ ∀ J19 : zM, J19 = zs J9 (r + 3 + rq r) x8 (J9 (r + 3 + rq r) (x8 + 1)) → K7 (x8 + 1) J19 L10 else ∀ J14 : zM, J14 = zs J9 r 5 ((J9 r 5) - 1) → ((0 : Int) ≤ (J14 r 5) ∧ (J14 r 5) < (rq r : Int)) ∧ ∀ J16 : zM, J16 = zs J14 (r + 3 + rq r) (J14 r 5) x6 → Q J16 L10)) p1 J L else Q J L))
set_option maxHeartbeats 4000000 in
set_option maxRecDepth 100000 in
theorem v_X4_drop {b : Nat} {dC : Nat → ClassId} {dI : Nat → Nat → Nat} {cA : Nat → ClassId} {ts : Nat → Nat} {l : Launch} {n : Nat} {R : Nat → Nat → Option Nat} {al : Bool} (hn : 491 ≤ n) (hR : xRk R) {r : Nat} {p1 : Int} (h_r : iRows r) {J : zM} {L : yM} {Q : zM → yM → Prop} (h : w_X4_drop r p1 J L Q) : xCn (xGm b dC dI cA ts) l mX4_drop [.ref r, .int (oI p1)] al (n, R, zi J, li L) 0 0 (zQ0 n R Q) (fun _ _ => False) := by
  refine xCn.ofJ (by decide) (Nat.le_of_ble_eq_true rfl) ?_
  show xJ _ _ _ _ _ _ _ _ _ 0 [(0, .ref r), (1, .int (oI p1))] [] _ _ _ _ _
  unfold w_X4_drop at h
  refine xr_iload_n (xd dX4_drop 0 rfl) 1 rfl ?_
  obtain ⟨o1, h⟩ := h
  refine zr_if_lt 12 (xd dX4_drop 1 rfl) (by decide) o1 (fun c2 => ?_) (fun c2 => ?_)
  · replace h := ifp h c2
    exact xr_vret (xd dX4_drop 6 rfl) rfl (by decide) (by decide) (fun _ => rfl) ⟨_, _, rfl, rfl, h⟩
  · replace h := ifn h c2
    refine xr_iload_n (xd dX4_drop 2 rfl) 1 rfl ?_
    refine xr_aload_n (xd dX4_drop 3 rfl) 0 rfl ?_
    refine zr_getI 4 5 5 rfl (xd dX4_drop 4 rfl) f4_28 (by decide) (by decide) (lt491 hn (rows_lt0 h_r)) (rows_kd h_r).1 rfl ?_
    obtain ⟨o3, h⟩ := h
    refine zr_icmp_lt 13 (xd dX4_drop 5 rfl) (by decide) o1 o3 (fun c4 => ?_) (fun c4 => ?_)
    · replace h := ifp h c4
      refine xr_aload_n (xd dX4_drop 7 rfl) 0 rfl ?_
      refine xr_getR (b := (r + 3 + rq r)) 4 4 (xd dX4_drop 8 rfl) f4_25 (by decide) (by decide) (lt491 hn (rows_lt0 h_r)) (rows_kd h_r).1 rfl (rows_4 hR h_r) ?_
      refine xr_iload_n (xd dX4_drop 9 rfl) 1 rfl ?_
      obtain ⟨o5, h⟩ := h
      refine zr_iaload (xd dX4_drop 10 rfl) (lt491 hn (rows_lt h_r)) (rows_kd h_r).2.2.2 (rows_ln h_r).2.2 (rq_lt _) o5 ?_
      obtain ⟨x6, e_x6⟩ : ∃ z_ : Int, z_ = (J (r + 3 + rq r) p1) := ⟨_, rfl⟩
      replace h := h x6 e_x6
      refine zr_nm e_x6 ?_
      refine xr_istore_n [(0, .ref r), (1, .int (oI p1)), (2, .int (oI x6))] (xd dX4_drop 11 rfl) rfl (by decide) rfl ?_
      refine xr_iload_n (xd dX4_drop 12 rfl) 1 rfl ?_
      refine xr_istore_n [(0, .ref r), (1, .int (oI p1)), (2, .int (oI x6)), (3, .int (oI p1))] (xd dX4_drop 13 rfl) rfl (by decide) rfl ?_
      refine xJ.pick (ls' := [(0, .ref r), (2, .int (oI x6)), (3, .int (oI p1))]) [0, 2, 3] rfl ?_
      refine h (fun x8 J9 L10 => xJ (xGm b dC dI cA ts) l mX4_drop 0 0 (zQ0 n R Q) (fun _ _ => False) 0 0 22 [(0, .ref r), (2, .int (oI x6)), (3, .int (oI x8))] [] al n R (zi J9) (li L10)) ?_
      intro x8 J9 L10 h
      show xJ _ _ _ _ _ _ _ _ _ 22 [(0, .ref r), (2, .int (oI x6)), (3, .int (oI x8))] [] _ _ _ _ _
      refine xr_iload_n (xd dX4_drop 14 rfl) 2 rfl ?_
      refine xr_aload_n (xd dX4_drop 15 rfl) 0 rfl ?_
      refine zr_getI 4 5 5 rfl (xd dX4_drop 16 rfl) f4_28 (by decide) (by decide) (lt491 hn (rows_lt0 h_r)) (rows_kd h_r).1 rfl ?_
      refine xr_iconst (v := oI 1) (xd dX4_drop 17 rfl) (by decide) ?_
      refine zr_isub (xd dX4_drop 18 rfl) ?_
      obtain ⟨o11, h⟩ := h
      obtain ⟨o12, h⟩ := h
      refine zr_icmp_ge 52 (xd dX4_drop 19 rfl) (by decide) o11 o12 (fun c13 => ?_) (fun c13 => ?_)
      · replace h := ifn h c13
        refine xr_aload_n (xd dX4_drop 32 rfl) 0 rfl ?_
        refine xr_dup (xd dX4_drop 33 rfl) rfl ?_
        refine zr_getI 4 5 5 rfl (xd dX4_drop 34 rfl) f4_28 (by decide) (by decide) (lt491 hn (rows_lt0 h_r)) (rows_kd h_r).1 rfl ?_
        refine xr_iconst (v := oI 1) (xd dX4_drop 35 rfl) (by decide) ?_
        refine zr_isub (xd dX4_drop 36 rfl) ?_
        obtain ⟨J14, e_J14⟩ : ∃ z_ : zM, z_ = zs J9 r 5 ((J9 r 5) - 1) := ⟨_, rfl⟩
        replace h := h J14 e_J14
        refine zr_putI 4 5 5 rfl e_J14 (xd dX4_drop 37 rfl) f4_28 (by decide) (by decide) (lt491 hn (rows_lt0 h_r)) (rows_kd h_r).1 (Or.inl rfl) rfl rfl (fun _ => rfl) ?_
        refine xr_aload_n (xd dX4_drop 38 rfl) 0 rfl ?_
        refine xr_getR (b := (r + 3 + rq r)) 4 4 (xd dX4_drop 39 rfl) f4_25 (by decide) (by decide) (lt491 hn (rows_lt0 h_r)) (rows_kd h_r).1 rfl (rows_4 hR h_r) ?_
        refine xr_aload_n (xd dX4_drop 40 rfl) 0 rfl ?_
        refine zr_getI 4 5 5 rfl (xd dX4_drop 41 rfl) f4_28 (by decide) (by decide) (lt491 hn (rows_lt0 h_r)) (rows_kd h_r).1 rfl ?_
        refine xr_iload_n (xd dX4_drop 42 rfl) 1 rfl ?_
        obtain ⟨o15, h⟩ := h
        obtain ⟨J16, e_J16⟩ : ∃ z_ : zM, z_ = zs J14 (r + 3 + rq r) (J14 r 5) x6 := ⟨_, rfl⟩
        replace h := h J16 e_J16
        refine zr_iastore e_J16 (xd dX4_drop 43 rfl) (lt491 hn (rows_lt h_r)) (rows_kd h_r).2.2.2 (rows_ln h_r).2.2 (rq_lt _) o15 ?_
        exact xr_vret (xd dX4_drop 44 rfl) rfl (by decide) (by decide) (fun _ => rfl) ⟨_, _, rfl, rfl, h⟩
      · replace h := ifp h c13
        refine xr_aload_n (xd dX4_drop 20 rfl) 0 rfl ?_
        refine xr_getR (b := (r + 3 + rq r)) 4 4 (xd dX4_drop 21 rfl) f4_25 (by decide) (by decide) (lt491 hn (rows_lt0 h_r)) (rows_kd h_r).1 rfl (rows_4 hR h_r) ?_
        refine xr_iload_n (xd dX4_drop 22 rfl) 2 rfl ?_
        refine xr_aload_n (xd dX4_drop 23 rfl) 0 rfl ?_
        refine xr_getR (b := (r + 3 + rq r)) 4 4 (xd dX4_drop 24 rfl) f4_25 (by decide) (by decide) (lt491 hn (rows_lt0 h_r)) (rows_kd h_r).1 rfl (rows_4 hR h_r) ?_
        refine xr_iload_n (xd dX4_drop 25 rfl) 2 rfl ?_
        refine xr_iconst (v := oI 1) (xd dX4_drop 26 rfl) (by decide) ?_
        refine zr_iadd (xd dX4_drop 27 rfl) ?_
        obtain ⟨o17, h⟩ := h
        refine zr_iaload (xd dX4_drop 28 rfl) (lt491 hn (rows_lt h_r)) (rows_kd h_r).2.2.2 (rows_ln h_r).2.2 (rq_lt _) o17 ?_
        obtain ⟨o18, h⟩ := h
        obtain ⟨J19, e_J19⟩ : ∃ z_ : zM, z_ = zs J9 (r + 3 + rq r) x8 (J9 (r + 3 + rq r) (x8 + 1)) := ⟨_, rfl⟩
        replace h := h J19 e_J19
        refine zr_iastore e_J19 (xd dX4_drop 29 rfl) (lt491 hn (rows_lt h_r)) (rows_kd h_r).2.2.2 (rows_ln h_r).2.2 (rq_lt _) o18 ?_
        refine zr_iinc [(0, .ref r), (2, .int (oI x6)), (3, .int (oI (x8 + 1)))] (xd dX4_drop 30 rfl) 2 rfl (by decide) rfl ?_
        refine xr_goto 22 (xd dX4_drop 31 rfl) (by decide) ?_
        exact h
    · replace h := ifn h c4
      exact xr_vret (xd dX4_drop 6 rfl) rfl (by decide) (by decide) (fun _ => rfl) ⟨_, _, rfl, rfl, h⟩
def w_X4_octetOf (r : Nat) (p1 : Int) (p2 : Int) (J : zM) (L : yM) (Q : Int → zM → yM → Prop) : Prop := R32 p2 ∧ (if p2 < 0 then Q 0 J L else w_X4_lengthOf r p1 J L (fun r5 J3 L4 => R32 p2 ∧ R32 r5 ∧ (if p2 < r5 then ((0 : Int) ≤ p1 ∧ p1 < (rq r : Int)) ∧ ((0 : Int) ≤ (J3 (r + 3 + rq r) p1) ∧ (J3 (r + 3 + rq r) p1) < (rq r : Int)) ∧ ((0 : Int) ≤ p2 ∧ p2 < (rw0 r : Int)) ∧ Q (J3 (r + 2 + ((J3 (r + 3 + rq r) p1)).toNat) p2) J3 L4 else Q 0 J3 L4)))
set_option maxHeartbeats 4000000 in
set_option maxRecDepth 100000 in
theorem v_X4_octetOf {b : Nat} {dC : Nat → ClassId} {dI : Nat → Nat → Nat} {cA : Nat → ClassId} {ts : Nat → Nat} {l : Launch} {n : Nat} {R : Nat → Nat → Option Nat} {al : Bool} (hn : 491 ≤ n) (hR : xRk R) {r : Nat} {p1 : Int} {p2 : Int} (h_r : iRows r) {J : zM} {L : yM} {Q : Int → zM → yM → Prop} (h : w_X4_octetOf r p1 p2 J L Q) : xCn (xGm b dC dI cA ts) l mX4_octetOf [.ref r, .int (oI p1), .int (oI p2)] al (n, R, zi J, li L) 0 0 (zQ1 n R Q) (fun _ _ => False) := by
  refine xCn.ofJ (by decide) (Nat.le_of_ble_eq_true rfl) ?_
  show xJ _ _ _ _ _ _ _ _ _ 0 [(0, .ref r), (1, .int (oI p1)), (2, .int (oI p2))] [] _ _ _ _ _
  unfold w_X4_octetOf at h
  refine xr_iload_n (xd dX4_octetOf 0 rfl) 2 rfl ?_
  obtain ⟨o1, h⟩ := h
  refine zr_if_lt 29 (xd dX4_octetOf 1 rfl) (by decide) o1 (fun c2 => ?_) (fun c2 => ?_)
  · replace h := ifp h c2
    refine xr_iconst (v := oI 0) (xd dX4_octetOf 17 rfl) (by decide) ?_
    exact xr_iret (xd dX4_octetOf 18 rfl) rfl (by decide) (by decide) (fun _ => rfl) ⟨_, _, _, rfl, rfl, h⟩
  · replace h := ifn h c2
    refine xr_iload_n (xd dX4_octetOf 2 rfl) 2 rfl ?_
    refine xr_aload_n (xd dX4_octetOf 3 rfl) 0 rfl ?_
    refine xr_iload_n (xd dX4_octetOf 4 rfl) 1 rfl ?_
    refine xr_callV mX4_lengthOf 1 [.int (oI p1)] (xd dX4_octetOf 5 rfl) l4_41 kX4_lengthOf rfl (lt491 hn (rows_lt0 h_r)) (rows_kd h_r).1 (by decide) rfl (by decide) (Nat.le_of_ble_eq_true rfl) (v_X4_lengthOf hn hR h_r h) (by decide) (by decide) (fun r_ M_ h_ => ?_) (fun _ _ h_ => h_.elim)
    obtain ⟨r5, J3, L4, rfl, rfl, h⟩ := h_
    show xJ _ _ _ _ _ _ _ _ _ 10 [(0, .ref r), (1, .int (oI p1)), (2, .int (oI p2))] [.int (oI r5), .int (oI p2)] _ _ _ (zi J3) (li L4)
    obtain ⟨o6, h⟩ := h
    obtain ⟨o7, h⟩ := h
    refine zr_icmp_ge 29 (xd dX4_octetOf 6 rfl) (by decide) o6 o7 (fun c8 => ?_) (fun c8 => ?_)
    · replace h := ifn h c8
      refine xr_iconst (v := oI 0) (xd dX4_octetOf 17 rfl) (by decide) ?_
      exact xr_iret (xd dX4_octetOf 18 rfl) rfl (by decide) (by decide) (fun _ => rfl) ⟨_, _, _, rfl, rfl, h⟩
    · replace h := ifp h c8
      refine xr_aload_n (xd dX4_octetOf 7 rfl) 0 rfl ?_
      refine xr_getR (b := (r + 1)) 4 2 (xd dX4_octetOf 8 rfl) f4_18 (by decide) (by decide) (lt491 hn (rows_lt0 h_r)) (rows_kd h_r).1 rfl (rows_2 hR h_r) ?_
      refine xr_aload_n (xd dX4_octetOf 9 rfl) 0 rfl ?_
      refine xr_getR (b := (r + 3 + rq r)) 4 4 (xd dX4_octetOf 10 rfl) f4_25 (by decide) (by decide) (lt491 hn (rows_lt0 h_r)) (rows_kd h_r).1 rfl (rows_4 hR h_r) ?_
      refine xr_iload_n (xd dX4_octetOf 11 rfl) 1 rfl ?_
      obtain ⟨o9, h⟩ := h
      refine zr_iaload (xd dX4_octetOf 12 rfl) (lt491 hn (rows_lt h_r)) (rows_kd h_r).2.2.2 (rows_ln h_r).2.2 (rq_lt _) o9 ?_
      obtain ⟨o10, h⟩ := h
      have f11 := rowsI hR h_r o10
      refine zr_aaload (b := (r + 2 + ((J3 (r + 3 + rq r) p1)).toNat)) 3 (xd dX4_octetOf 13 rfl) (lt491 hn (rows_lt1 h_r)) (by decide) (by decide) (rows_kd h_r).2.1 (rows_ln h_r).1 (rq_lt _) o10 f11.1 ?_
      refine xr_iload_n (xd dX4_octetOf 14 rfl) 2 rfl ?_
      obtain ⟨o12, h⟩ := h
      refine zr_iaload (xd dX4_octetOf 15 rfl) (lt491 hn f11.2.1.2) f11.2.1.1 f11.2.2 (rw0_lt _) o12 ?_
      refine xr_goto 30 (xd dX4_octetOf 16 rfl) (by decide) ?_
      exact xr_iret (xd dX4_octetOf 18 rfl) rfl (by decide) (by decide) (fun _ => rfl) ⟨_, _, _, rfl, rfl, h⟩
def w_X4_turnOctet (r : Nat) (p1 : Int) (p2 : Int) (p3 : Int) (J : zM) (L : yM) (Q : zM → yM → Prop) : Prop := R32 p2 ∧ (if p2 < 0 then Q J L else w_X4_lengthOf r p1 J L (fun r5 J3 L4 => R32 p2 ∧ R32 r5 ∧ (if p2 < r5 then ((0 : Int) ≤ p1 ∧ p1 < (rq r : Int)) ∧ ((0 : Int) ≤ (J3 (r + 3 + rq r) p1) ∧ (J3 (r + 3 + rq r) p1) < (rq r : Int)) ∧ ((0 : Int) ≤ p2 ∧ p2 < (rw0 r : Int)) ∧ ((0 : Int) ≤ p2 ∧ p2 < (rw0 r : Int)) ∧ ∀ J14 : zM, J14 = zs J3 (r + 2 + ((J3 (r + 3 + rq r) p1)).toNat) p2 (zxor (J3 (r + 2 + ((J3 (r + 3 + rq r) p1)).toNat) p2) (zand p3 255)) → Q J14 L4 else Q J3 L4)))
set_option maxHeartbeats 4000000 in
set_option maxRecDepth 100000 in
theorem v_X4_turnOctet {b : Nat} {dC : Nat → ClassId} {dI : Nat → Nat → Nat} {cA : Nat → ClassId} {ts : Nat → Nat} {l : Launch} {n : Nat} {R : Nat → Nat → Option Nat} {al : Bool} (hn : 491 ≤ n) (hR : xRk R) {r : Nat} {p1 : Int} {p2 : Int} {p3 : Int} (h_r : iRows r) {J : zM} {L : yM} {Q : zM → yM → Prop} (h : w_X4_turnOctet r p1 p2 p3 J L Q) : xCn (xGm b dC dI cA ts) l mX4_turnOctet [.ref r, .int (oI p1), .int (oI p2), .int (oI p3)] al (n, R, zi J, li L) 0 0 (zQ0 n R Q) (fun _ _ => False) := by
  refine xCn.ofJ (by decide) (Nat.le_of_ble_eq_true rfl) ?_
  show xJ _ _ _ _ _ _ _ _ _ 0 [(0, .ref r), (1, .int (oI p1)), (2, .int (oI p2)), (3, .int (oI p3))] [] _ _ _ _ _
  unfold w_X4_turnOctet at h
  refine xr_iload_n (xd dX4_turnOctet 0 rfl) 2 rfl ?_
  obtain ⟨o1, h⟩ := h
  refine zr_if_lt 34 (xd dX4_turnOctet 1 rfl) (by decide) o1 (fun c2 => ?_) (fun c2 => ?_)
  · replace h := ifp h c2
    exact xr_vret (xd dX4_turnOctet 22 rfl) rfl (by decide) (by decide) (fun _ => rfl) ⟨_, _, rfl, rfl, h⟩
  · replace h := ifn h c2
    refine xr_iload_n (xd dX4_turnOctet 2 rfl) 2 rfl ?_
    refine xr_aload_n (xd dX4_turnOctet 3 rfl) 0 rfl ?_
    refine xr_iload_n (xd dX4_turnOctet 4 rfl) 1 rfl ?_
    refine xr_callV mX4_lengthOf 1 [.int (oI p1)] (xd dX4_turnOctet 5 rfl) l4_41 kX4_lengthOf rfl (lt491 hn (rows_lt0 h_r)) (rows_kd h_r).1 (by decide) rfl (by decide) (Nat.le_of_ble_eq_true rfl) (v_X4_lengthOf hn hR h_r h) (by decide) (by decide) (fun r_ M_ h_ => ?_) (fun _ _ h_ => h_.elim)
    obtain ⟨r5, J3, L4, rfl, rfl, h⟩ := h_
    show xJ _ _ _ _ _ _ _ _ _ 10 [(0, .ref r), (1, .int (oI p1)), (2, .int (oI p2)), (3, .int (oI p3))] [.int (oI r5), .int (oI p2)] _ _ _ (zi J3) (li L4)
    obtain ⟨o6, h⟩ := h
    obtain ⟨o7, h⟩ := h
    refine zr_icmp_ge 34 (xd dX4_turnOctet 6 rfl) (by decide) o6 o7 (fun c8 => ?_) (fun c8 => ?_)
    · replace h := ifn h c8
      exact xr_vret (xd dX4_turnOctet 22 rfl) rfl (by decide) (by decide) (fun _ => rfl) ⟨_, _, rfl, rfl, h⟩
    · replace h := ifp h c8
      refine xr_aload_n (xd dX4_turnOctet 7 rfl) 0 rfl ?_
      refine xr_getR (b := (r + 1)) 4 2 (xd dX4_turnOctet 8 rfl) f4_18 (by decide) (by decide) (lt491 hn (rows_lt0 h_r)) (rows_kd h_r).1 rfl (rows_2 hR h_r) ?_
      refine xr_aload_n (xd dX4_turnOctet 9 rfl) 0 rfl ?_
      refine xr_getR (b := (r + 3 + rq r)) 4 4 (xd dX4_turnOctet 10 rfl) f4_25 (by decide) (by decide) (lt491 hn (rows_lt0 h_r)) (rows_kd h_r).1 rfl (rows_4 hR h_r) ?_
      refine xr_iload_n (xd dX4_turnOctet 11 rfl) 1 rfl ?_
      obtain ⟨o9, h⟩ := h
      refine zr_iaload (xd dX4_turnOctet 12 rfl) (lt491 hn (rows_lt h_r)) (rows_kd h_r).2.2.2 (rows_ln h_r).2.2 (rq_lt _) o9 ?_
      obtain ⟨o10, h⟩ := h
      have f11 := rowsI hR h_r o10
      refine zr_aaload (b := (r + 2 + ((J3 (r + 3 + rq r) p1)).toNat)) 3 (xd dX4_turnOctet 13 rfl) (lt491 hn (rows_lt1 h_r)) (by decide) (by decide) (rows_kd h_r).2.1 (rows_ln h_r).1 (rq_lt _) o10 f11.1 ?_
      refine xr_iload_n (xd dX4_turnOctet 14 rfl) 2 rfl ?_
      refine xr_dup2 (xd dX4_turnOctet 15 rfl) rfl rfl ?_
      obtain ⟨o12, h⟩ := h
      refine zr_iaload (xd dX4_turnOctet 16 rfl) (lt491 hn f11.2.1.2) f11.2.1.1 f11.2.2 (rw0_lt _) o12 ?_
      refine xr_iload_n (xd dX4_turnOctet 17 rfl) 3 rfl ?_
      refine xr_sipush (v := oI 255) (xd dX4_turnOctet 18 rfl) (by decide) ?_
      refine zr_iand (xd dX4_turnOctet 19 rfl) ?_
      refine zr_ixor (xd dX4_turnOctet 20 rfl) ?_
      obtain ⟨o13, h⟩ := h
      obtain ⟨J14, e_J14⟩ : ∃ z_ : zM, z_ = zs J3 (r + 2 + ((J3 (r + 3 + rq r) p1)).toNat) p2 (zxor (J3 (r + 2 + ((J3 (r + 3 + rq r) p1)).toNat) p2) (zand p3 255)) := ⟨_, rfl⟩
      replace h := h J14 e_J14
      refine zr_iastore e_J14 (xd dX4_turnOctet 21 rfl) (lt491 hn f11.2.1.2) f11.2.1.1 f11.2.2 (rw0_lt _) o13 ?_
      exact xr_vret (xd dX4_turnOctet 22 rfl) rfl (by decide) (by decide) (fun _ => rfl) ⟨_, _, rfl, rfl, h⟩
def w_X5_startAnew (e : Nat) (J : zM) (L : yM) (Q : zM → yM → Prop) : Prop := ∀ J1 : zM, J1 = zs J (e + 144) 10 0 → ∀ J2 : zM, J2 = zs J1 (e + 144) 11 0 → Q J2 L
set_option maxHeartbeats 4000000 in
set_option maxRecDepth 100000 in
theorem v_X5_startAnew {b : Nat} {dC : Nat → ClassId} {dI : Nat → Nat → Nat} {cA : Nat → ClassId} {ts : Nat → Nat} {l : Launch} {n : Nat} {R : Nat → Nat → Option Nat} {al : Bool} (hn : 491 ≤ n) (hR : xRk R) {e : Nat} (he : iSide e) {J : zM} {L : yM} {Q : zM → yM → Prop} (h : w_X5_startAnew e J L Q) : xCn (xGm b dC dI cA ts) l mX5_startAnew [.ref (e + 144)] al (n, R, zi J, li L) 0 0 (zQ0 n R Q) (fun _ _ => False) := by
  refine xCn.ofJ (by decide) (Nat.le_of_ble_eq_true rfl) ?_
  show xJ _ _ _ _ _ _ _ _ _ 0 [(0, .ref (e + 144))] [] _ _ _ _ _
  unfold w_X5_startAnew at h
  refine xr_aload_n (xd dX5_startAnew 0 rfl) 0 rfl ?_
  refine xr_iconst (v := oI 0) (xd dX5_startAnew 1 rfl) (by decide) ?_
  obtain ⟨J1, e_J1⟩ : ∃ z_ : zM, z_ = zs J (e + 144) 10 0 := ⟨_, rfl⟩
  replace h := h J1 e_J1
  refine zr_putI 5 10 10 rfl e_J1 (xd dX5_startAnew 2 rfl) f5_45 (by decide) (by decide) (lt491 hn (ltS he (by decide))) (kdS_144 he) (Or.inl rfl) rfl rfl (fun _ => rfl) ?_
  refine xr_aload_n (xd dX5_startAnew 3 rfl) 0 rfl ?_
  refine xr_iconst (v := oI 0) (xd dX5_startAnew 4 rfl) (by decide) ?_
  obtain ⟨J2, e_J2⟩ : ∃ z_ : zM, z_ = zs J1 (e + 144) 11 0 := ⟨_, rfl⟩
  replace h := h J2 e_J2
  refine zr_putI 5 11 11 rfl e_J2 (xd dX5_startAnew 5 rfl) f5_49 (by decide) (by decide) (lt491 hn (ltS he (by decide))) (kdS_144 he) (Or.inl rfl) rfl rfl (fun _ => rfl) ?_
  exact xr_vret (xd dX5_startAnew 6 rfl) rfl (by decide) (by decide) (fun _ => rfl) ⟨_, _, rfl, rfl, h⟩
def w_X5_addMessage (e : Nat) (p1 : Int) (p2 : Nat) (p3 : Int) (p4 : Int) (J : zM) (L : yM) (Q : zM → yM → Prop) : Prop := ∀ x1 : Int, x1 = (((J (e + 144) 10) + 3) + p4) → R32 x1 ∧ (if 293 < x1 then Q J L else R32 p3 ∧ (if p3 < 0 then Q J L else R32 p4 ∧ (if p4 < 0 then Q J L else R32 (p3 + p4) ∧ R32 (ln0 p2 : Int) ∧ (if (ln0 p2 : Int) < (p3 + p4) then Q J L else ((0 : Int) ≤ (J (e + 144) 10) ∧ (J (e + 144) 10) < 293) ∧ ∀ J12 : zM, J12 = zs J (e + 162) (J (e + 144) 10) p1 → ((0 : Int) ≤ ((J12 (e + 144) 10) + 1) ∧ ((J12 (e + 144) 10) + 1) < 293) ∧ ∀ J14 : zM, J14 = zs J12 (e + 162) ((J12 (e + 144) 10) + 1) (zush p4 8) → ((0 : Int) ≤ ((J14 (e + 144) 10) + 2) ∧ ((J14 (e + 144) 10) + 2) < 293) ∧ ∀ J16 : zM, J16 = zs J14 (e + 162) ((J14 (e + 144) 10) + 2) (zand p4 255) → ((0 : Int) ≤ p3 ∧ (0 : Int) ≤ ((J16 (e + 144) 10) + 3) ∧ (0 : Int) ≤ p4 ∧ (p3 + p4 : Int) ≤ (ln0 p2 : Int) ∧ (((J16 (e + 144) 10) + 3) + p4 : Int) ≤ 293) ∧ ∀ J18 : zM, J18 = zcp J16 p2 p3 (e + 162) ((J16 (e + 144) 10) + 3) p4 → ∀ J19 : zM, J19 = zs J18 (e + 144) 10 x1 → Q J19 L))))
set_option maxHeartbeats 4000000 in
set_option maxRecDepth 100000 in
theorem v_X5_addMessage {b : Nat} {dC : Nat → ClassId} {dI : Nat → Nat → Nat} {cA : Nat → ClassId} {ts : Nat → Nat} {l : Launch} {n : Nat} {R : Nat → Nat → Option Nat} {al : Bool} (hn : 491 ≤ n) (hR : xRk R) {e : Nat} {p1 : Int} {p2 : Nat} {p3 : Int} {p4 : Int} (he : iSide e) (h_p2 : za p2) {J : zM} {L : yM} {Q : zM → yM → Prop} (h : w_X5_addMessage e p1 p2 p3 p4 J L Q) : xCn (xGm b dC dI cA ts) l mX5_addMessage [.ref (e + 144), .int (oI p1), .ref p2, .int (oI p3), .int (oI p4)] al (n, R, zi J, li L) 0 0 (zQ0 n R Q) (fun _ _ => False) := by
  refine xCn.ofJ (by decide) (Nat.le_of_ble_eq_true rfl) ?_
  show xJ _ _ _ _ _ _ _ _ _ 0 [(0, .ref (e + 144)), (1, .int (oI p1)), (2, .ref p2), (3, .int (oI p3)), (4, .int (oI p4))] [] _ _ _ _ _
  unfold w_X5_addMessage at h
  refine xr_aload_n (xd dX5_addMessage 0 rfl) 0 rfl ?_
  refine zr_getI 5 10 10 rfl (xd dX5_addMessage 1 rfl) f5_45 (by decide) (by decide) (lt491 hn (ltS he (by decide))) (kdS_144 he) rfl ?_
  refine xr_iconst (v := oI 3) (xd dX5_addMessage 2 rfl) (by decide) ?_
  refine zr_iadd (xd dX5_addMessage 3 rfl) ?_
  refine xr_iload (xd dX5_addMessage 4 rfl) 4 rfl ?_
  refine zr_iadd (xd dX5_addMessage 5 rfl) ?_
  obtain ⟨x1, e_x1⟩ : ∃ z_ : Int, z_ = (((J (e + 144) 10) + 3) + p4) := ⟨_, rfl⟩
  replace h := h x1 e_x1
  refine zr_nm e_x1 ?_
  refine xr_istore [(0, .ref (e + 144)), (1, .int (oI p1)), (2, .ref p2), (3, .int (oI p3)), (4, .int (oI p4)), (5, .int (oI x1))] (xd dX5_addMessage 6 rfl) (by decide) rfl ?_
  refine xr_iload (xd dX5_addMessage 7 rfl) 5 rfl ?_
  refine xr_aload_n (xd dX5_addMessage 8 rfl) 0 rfl ?_
  refine xr_getR (b := (e + 162)) 5 4 (xd dX5_addMessage 9 rfl) f5_22 (by decide) (by decide) (lt491 hn (ltS he (by decide))) (kdS_144 he) rfl (rS_144_4 hR he) ?_
  refine zr_alen (v := 293) 0 (xd dX5_addMessage 10 rfl) (lt491 hn (ltS he (by decide))) (by decide) (kdS_162 he) (lnS_162 he) rfl ?_
  obtain ⟨o2, h⟩ := h
  refine zr_icmp_gt 39 (xd dX5_addMessage 11 rfl) (by decide) o2 (by decide) (fun c3 => ?_) (fun c3 => ?_)
  · replace h := ifp h c3
    exact xr_vret (xd dX5_addMessage 22 rfl) rfl (by decide) (by decide) (fun _ => rfl) ⟨_, _, rfl, rfl, h⟩
  · replace h := ifn h c3
    refine xr_iload_n (xd dX5_addMessage 12 rfl) 3 rfl ?_
    obtain ⟨o4, h⟩ := h
    refine zr_if_lt 39 (xd dX5_addMessage 13 rfl) (by decide) o4 (fun c5 => ?_) (fun c5 => ?_)
    · replace h := ifp h c5
      exact xr_vret (xd dX5_addMessage 22 rfl) rfl (by decide) (by decide) (fun _ => rfl) ⟨_, _, rfl, rfl, h⟩
    · replace h := ifn h c5
      refine xr_iload (xd dX5_addMessage 14 rfl) 4 rfl ?_
      obtain ⟨o6, h⟩ := h
      refine zr_if_lt 39 (xd dX5_addMessage 15 rfl) (by decide) o6 (fun c7 => ?_) (fun c7 => ?_)
      · replace h := ifp h c7
        exact xr_vret (xd dX5_addMessage 22 rfl) rfl (by decide) (by decide) (fun _ => rfl) ⟨_, _, rfl, rfl, h⟩
      · replace h := ifn h c7
        refine xr_iload_n (xd dX5_addMessage 16 rfl) 3 rfl ?_
        refine xr_iload (xd dX5_addMessage 17 rfl) 4 rfl ?_
        refine zr_iadd (xd dX5_addMessage 18 rfl) ?_
        refine xr_aload_n (xd dX5_addMessage 19 rfl) 2 rfl ?_
        refine zr_alen (v := (ln0 p2 : Int)) 0 (xd dX5_addMessage 20 rfl) (lt491 hn h_p2.2) (by decide) h_p2.1 rfl rfl ?_
        obtain ⟨o8, h⟩ := h
        obtain ⟨o9, h⟩ := h
        refine zr_icmp_le 40 (xd dX5_addMessage 21 rfl) (by decide) o8 o9 (fun c10 => ?_) (fun c10 => ?_)
        · replace h := ifn h c10
          refine xr_aload_n (xd dX5_addMessage 23 rfl) 0 rfl ?_
          refine xr_getR (b := (e + 162)) 5 4 (xd dX5_addMessage 24 rfl) f5_22 (by decide) (by decide) (lt491 hn (ltS he (by decide))) (kdS_144 he) rfl (rS_144_4 hR he) ?_
          refine xr_aload_n (xd dX5_addMessage 25 rfl) 0 rfl ?_
          refine zr_getI 5 10 10 rfl (xd dX5_addMessage 26 rfl) f5_45 (by decide) (by decide) (lt491 hn (ltS he (by decide))) (kdS_144 he) rfl ?_
          refine xr_iload_n (xd dX5_addMessage 27 rfl) 1 rfl ?_
          obtain ⟨o11, h⟩ := h
          obtain ⟨J12, e_J12⟩ : ∃ z_ : zM, z_ = zs J (e + 162) (J (e + 144) 10) p1 := ⟨_, rfl⟩
          replace h := h J12 e_J12
          refine zr_iastore e_J12 (xd dX5_addMessage 28 rfl) (lt491 hn (ltS he (by decide))) (kdS_162 he) (lnS_162 he) (by decide) o11 ?_
          refine xr_aload_n (xd dX5_addMessage 29 rfl) 0 rfl ?_
          refine xr_getR (b := (e + 162)) 5 4 (xd dX5_addMessage 30 rfl) f5_22 (by decide) (by decide) (lt491 hn (ltS he (by decide))) (kdS_144 he) rfl (rS_144_4 hR he) ?_
          refine xr_aload_n (xd dX5_addMessage 31 rfl) 0 rfl ?_
          refine zr_getI 5 10 10 rfl (xd dX5_addMessage 32 rfl) f5_45 (by decide) (by decide) (lt491 hn (ltS he (by decide))) (kdS_144 he) rfl ?_
          refine xr_iconst (v := oI 1) (xd dX5_addMessage 33 rfl) (by decide) ?_
          refine zr_iadd (xd dX5_addMessage 34 rfl) ?_
          refine xr_iload (xd dX5_addMessage 35 rfl) 4 rfl ?_
          refine xr_bipush (v := oI 8) (xd dX5_addMessage 36 rfl) (by decide) ?_
          refine zr_iushr (xd dX5_addMessage 37 rfl) ?_
          obtain ⟨o13, h⟩ := h
          obtain ⟨J14, e_J14⟩ : ∃ z_ : zM, z_ = zs J12 (e + 162) ((J12 (e + 144) 10) + 1) (zush p4 8) := ⟨_, rfl⟩
          replace h := h J14 e_J14
          refine zr_iastore e_J14 (xd dX5_addMessage 38 rfl) (lt491 hn (ltS he (by decide))) (kdS_162 he) (lnS_162 he) (by decide) o13 ?_
          refine xr_aload_n (xd dX5_addMessage 39 rfl) 0 rfl ?_
          refine xr_getR (b := (e + 162)) 5 4 (xd dX5_addMessage 40 rfl) f5_22 (by decide) (by decide) (lt491 hn (ltS he (by decide))) (kdS_144 he) rfl (rS_144_4 hR he) ?_
          refine xr_aload_n (xd dX5_addMessage 41 rfl) 0 rfl ?_
          refine zr_getI 5 10 10 rfl (xd dX5_addMessage 42 rfl) f5_45 (by decide) (by decide) (lt491 hn (ltS he (by decide))) (kdS_144 he) rfl ?_
          refine xr_iconst (v := oI 2) (xd dX5_addMessage 43 rfl) (by decide) ?_
          refine zr_iadd (xd dX5_addMessage 44 rfl) ?_
          refine xr_iload (xd dX5_addMessage 45 rfl) 4 rfl ?_
          refine xr_sipush (v := oI 255) (xd dX5_addMessage 46 rfl) (by decide) ?_
          refine zr_iand (xd dX5_addMessage 47 rfl) ?_
          obtain ⟨o15, h⟩ := h
          obtain ⟨J16, e_J16⟩ : ∃ z_ : zM, z_ = zs J14 (e + 162) ((J14 (e + 144) 10) + 2) (zand p4 255) := ⟨_, rfl⟩
          replace h := h J16 e_J16
          refine zr_iastore e_J16 (xd dX5_addMessage 48 rfl) (lt491 hn (ltS he (by decide))) (kdS_162 he) (lnS_162 he) (by decide) o15 ?_
          refine xr_aload_n (xd dX5_addMessage 49 rfl) 2 rfl ?_
          refine xr_iload_n (xd dX5_addMessage 50 rfl) 3 rfl ?_
          refine xr_aload_n (xd dX5_addMessage 51 rfl) 0 rfl ?_
          refine xr_getR (b := (e + 162)) 5 4 (xd dX5_addMessage 52 rfl) f5_22 (by decide) (by decide) (lt491 hn (ltS he (by decide))) (kdS_144 he) rfl (rS_144_4 hR he) ?_
          refine xr_aload_n (xd dX5_addMessage 53 rfl) 0 rfl ?_
          refine zr_getI 5 10 10 rfl (xd dX5_addMessage 54 rfl) f5_45 (by decide) (by decide) (lt491 hn (ltS he (by decide))) (kdS_144 he) rfl ?_
          refine xr_iconst (v := oI 3) (xd dX5_addMessage 55 rfl) (by decide) ?_
          refine zr_iadd (xd dX5_addMessage 56 rfl) ?_
          refine xr_iload (xd dX5_addMessage 57 rfl) 4 rfl ?_
          obtain ⟨o17, h⟩ := h
          obtain ⟨J18, e_J18⟩ : ∃ z_ : zM, z_ = zcp J16 p2 p3 (e + 162) ((J16 (e + 144) 10) + 3) p4 := ⟨_, rfl⟩
          replace h := h J18 e_J18
          refine zr_acopy e_J18 (xd dX5_addMessage 58 rfl) l5_52 (lt491 hn h_p2.2) h_p2.1 rfl (ln0_lt p2) (lt491 hn (ltS he (by decide))) (kdS_162 he) (lnS_162 he) (by decide) o17.1 o17.2.1 o17.2.2.1 o17.2.2.2.1 o17.2.2.2.2 ⟨Nat.le_of_ble_eq_true rfl, Nat.le_of_ble_eq_true rfl⟩ ?_
          refine xr_aload_n (xd dX5_addMessage 59 rfl) 0 rfl ?_
          refine xr_iload (xd dX5_addMessage 60 rfl) 5 rfl ?_
          obtain ⟨J19, e_J19⟩ : ∃ z_ : zM, z_ = zs J18 (e + 144) 10 x1 := ⟨_, rfl⟩
          replace h := h J19 e_J19
          refine zr_putI 5 10 10 rfl e_J19 (xd dX5_addMessage 61 rfl) f5_45 (by decide) (by decide) (lt491 hn (ltS he (by decide))) (kdS_144 he) (Or.inl rfl) rfl rfl (fun _ => rfl) ?_
          exact xr_vret (xd dX5_addMessage 62 rfl) rfl (by decide) (by decide) (fun _ => rfl) ⟨_, _, rfl, rfl, h⟩
        · replace h := ifp h c10
          exact xr_vret (xd dX5_addMessage 22 rfl) rfl (by decide) (by decide) (fun _ => rfl) ⟨_, _, rfl, rfl, h⟩
def w_X5_startWithHello (e : Nat) (p1 : Nat) (p2 : Int) (p3 : Int) (J : zM) (L : yM) (Q : zM → yM → Prop) : Prop := ∀ J1 : zM, J1 = zs J (e + 144) 10 0 → w_X5_addMessage e 1 p1 p2 p3 J1 L (fun J2 L3 => Q J2 L3)
set_option maxHeartbeats 4000000 in
set_option maxRecDepth 100000 in
theorem v_X5_startWithHello {b : Nat} {dC : Nat → ClassId} {dI : Nat → Nat → Nat} {cA : Nat → ClassId} {ts : Nat → Nat} {l : Launch} {n : Nat} {R : Nat → Nat → Option Nat} {al : Bool} (hn : 491 ≤ n) (hR : xRk R) {e : Nat} {p1 : Nat} {p2 : Int} {p3 : Int} (he : iSide e) (h_p1 : za p1) {J : zM} {L : yM} {Q : zM → yM → Prop} (h : w_X5_startWithHello e p1 p2 p3 J L Q) : xCn (xGm b dC dI cA ts) l mX5_startWithHello [.ref (e + 144), .ref p1, .int (oI p2), .int (oI p3)] al (n, R, zi J, li L) 0 0 (zQ0 n R Q) (fun _ _ => False) := by
  refine xCn.ofJ (by decide) (Nat.le_of_ble_eq_true rfl) ?_
  show xJ _ _ _ _ _ _ _ _ _ 0 [(0, .ref (e + 144)), (1, .ref p1), (2, .int (oI p2)), (3, .int (oI p3))] [] _ _ _ _ _
  unfold w_X5_startWithHello at h
  refine xr_aload_n (xd dX5_startWithHello 0 rfl) 0 rfl ?_
  refine xr_iconst (v := oI 0) (xd dX5_startWithHello 1 rfl) (by decide) ?_
  obtain ⟨J1, e_J1⟩ : ∃ z_ : zM, z_ = zs J (e + 144) 10 0 := ⟨_, rfl⟩
  replace h := h J1 e_J1
  refine zr_putI 5 10 10 rfl e_J1 (xd dX5_startWithHello 2 rfl) f5_45 (by decide) (by decide) (lt491 hn (ltS he (by decide))) (kdS_144 he) (Or.inl rfl) rfl rfl (fun _ => rfl) ?_
  refine xr_aload_n (xd dX5_startWithHello 3 rfl) 0 rfl ?_
  refine xr_iconst (v := oI 1) (xd dX5_startWithHello 4 rfl) (by decide) ?_
  refine xr_aload_n (xd dX5_startWithHello 5 rfl) 1 rfl ?_
  refine xr_iload_n (xd dX5_startWithHello 6 rfl) 2 rfl ?_
  refine xr_iload_n (xd dX5_startWithHello 7 rfl) 3 rfl ?_
  refine xr_callV mX5_addMessage 4 [.int (oI 1), .ref p1, .int (oI p2), .int (oI p3)] (xd dX5_startWithHello 8 rfl) l5_58 kX5_addMessage rfl (lt491 hn (ltS he (by decide))) (kdS_144 he) (by decide) rfl (by decide) (Nat.le_of_ble_eq_true rfl) (v_X5_addMessage hn hR he (za_mk h_p1.1 h_p1.2) h) (by decide) (by decide) (fun r_ M_ h_ => ?_) (fun _ _ h_ => h_.elim)
  obtain ⟨J2, L3, rfl, rfl, h⟩ := h_
  show xJ _ _ _ _ _ _ _ _ _ 13 [(0, .ref (e + 144)), (1, .ref p1), (2, .int (oI p2)), (3, .int (oI p3))] [] _ _ _ (zi J2) (li L3)
  exact xr_vret (xd dX5_startWithHello 9 rfl) rfl (by decide) (by decide) (fun _ => rfl) ⟨_, _, rfl, rfl, h⟩
def w_X5_setBinder (e : Nat) (p1 : Nat) (J : zM) (L : yM) (Q : zM → yM → Prop) : Prop := R32 (J (e + 144) 10) ∧ (if (J (e + 144) 10) < 32 then Q J L else R32 (ln0 p1 : Int) ∧ (if (ln0 p1 : Int) < 32 then Q J L else ((0 : Int) ≤ 0 ∧ (0 : Int) ≤ ((J (e + 144) 10) - 32) ∧ (0 : Int) ≤ 32 ∧ (0 + 32 : Int) ≤ (ln0 p1 : Int) ∧ (((J (e + 144) 10) - 32) + 32 : Int) ≤ 293) ∧ ∀ J6 : zM, J6 = zcp J p1 0 (e + 162) ((J (e + 144) 10) - 32) 32 → Q J6 L))
set_option maxHeartbeats 4000000 in
set_option maxRecDepth 100000 in
theorem v_X5_setBinder {b : Nat} {dC : Nat → ClassId} {dI : Nat → Nat → Nat} {cA : Nat → ClassId} {ts : Nat → Nat} {l : Launch} {n : Nat} {R : Nat → Nat → Option Nat} {al : Bool} (hn : 491 ≤ n) (hR : xRk R) {e : Nat} {p1 : Nat} (he : iSide e) (h_p1 : za p1) {J : zM} {L : yM} {Q : zM → yM → Prop} (h : w_X5_setBinder e p1 J L Q) : xCn (xGm b dC dI cA ts) l mX5_setBinder [.ref (e + 144), .ref p1] al (n, R, zi J, li L) 0 0 (zQ0 n R Q) (fun _ _ => False) := by
  refine xCn.ofJ (by decide) (Nat.le_of_ble_eq_true rfl) ?_
  show xJ _ _ _ _ _ _ _ _ _ 0 [(0, .ref (e + 144)), (1, .ref p1)] [] _ _ _ _ _
  unfold w_X5_setBinder at h
  refine xr_aload_n (xd dX5_setBinder 0 rfl) 0 rfl ?_
  refine zr_getI 5 10 10 rfl (xd dX5_setBinder 1 rfl) f5_45 (by decide) (by decide) (lt491 hn (ltS he (by decide))) (kdS_144 he) rfl ?_
  refine xr_bipush (v := oI 32) (xd dX5_setBinder 2 rfl) (by decide) ?_
  obtain ⟨o1, h⟩ := h
  refine zr_icmp_lt 34 (xd dX5_setBinder 3 rfl) (by decide) o1 (by decide) (fun c2 => ?_) (fun c2 => ?_)
  · replace h := ifp h c2
    exact xr_vret (xd dX5_setBinder 18 rfl) rfl (by decide) (by decide) (fun _ => rfl) ⟨_, _, rfl, rfl, h⟩
  · replace h := ifn h c2
    refine xr_aload_n (xd dX5_setBinder 4 rfl) 1 rfl ?_
    refine zr_alen (v := (ln0 p1 : Int)) 0 (xd dX5_setBinder 5 rfl) (lt491 hn h_p1.2) (by decide) h_p1.1 rfl rfl ?_
    refine xr_bipush (v := oI 32) (xd dX5_setBinder 6 rfl) (by decide) ?_
    obtain ⟨o3, h⟩ := h
    refine zr_icmp_lt 34 (xd dX5_setBinder 7 rfl) (by decide) o3 (by decide) (fun c4 => ?_) (fun c4 => ?_)
    · replace h := ifp h c4
      exact xr_vret (xd dX5_setBinder 18 rfl) rfl (by decide) (by decide) (fun _ => rfl) ⟨_, _, rfl, rfl, h⟩
    · replace h := ifn h c4
      refine xr_aload_n (xd dX5_setBinder 8 rfl) 1 rfl ?_
      refine xr_iconst (v := oI 0) (xd dX5_setBinder 9 rfl) (by decide) ?_
      refine xr_aload_n (xd dX5_setBinder 10 rfl) 0 rfl ?_
      refine xr_getR (b := (e + 162)) 5 4 (xd dX5_setBinder 11 rfl) f5_22 (by decide) (by decide) (lt491 hn (ltS he (by decide))) (kdS_144 he) rfl (rS_144_4 hR he) ?_
      refine xr_aload_n (xd dX5_setBinder 12 rfl) 0 rfl ?_
      refine zr_getI 5 10 10 rfl (xd dX5_setBinder 13 rfl) f5_45 (by decide) (by decide) (lt491 hn (ltS he (by decide))) (kdS_144 he) rfl ?_
      refine xr_bipush (v := oI 32) (xd dX5_setBinder 14 rfl) (by decide) ?_
      refine zr_isub (xd dX5_setBinder 15 rfl) ?_
      refine xr_bipush (v := oI 32) (xd dX5_setBinder 16 rfl) (by decide) ?_
      obtain ⟨o5, h⟩ := h
      obtain ⟨J6, e_J6⟩ : ∃ z_ : zM, z_ = zcp J p1 0 (e + 162) ((J (e + 144) 10) - 32) 32 := ⟨_, rfl⟩
      replace h := h J6 e_J6
      refine zr_acopy e_J6 (xd dX5_setBinder 17 rfl) l5_52 (lt491 hn h_p1.2) h_p1.1 rfl (ln0_lt p1) (lt491 hn (ltS he (by decide))) (kdS_162 he) (lnS_162 he) (by decide) o5.1 o5.2.1 o5.2.2.1 o5.2.2.2.1 o5.2.2.2.2 ⟨Nat.le_of_ble_eq_true rfl, Nat.le_of_ble_eq_true rfl⟩ ?_
      exact xr_vret (xd dX5_setBinder 18 rfl) rfl (by decide) (by decide) (fun _ => rfl) ⟨_, _, rfl, rfl, h⟩
def w_X7_clear  (J : zM) (L : yM) (Q : zM → yM → Prop) : Prop := ∀ J1 : zM, J1 = zs J 6 4 0 → Q J1 L
set_option maxHeartbeats 4000000 in
set_option maxRecDepth 100000 in
theorem v_X7_clear {b : Nat} {dC : Nat → ClassId} {dI : Nat → Nat → Nat} {cA : Nat → ClassId} {ts : Nat → Nat} {l : Launch} {n : Nat} {R : Nat → Nat → Option Nat} {al : Bool} (hn : 491 ≤ n) (hR : xRk R)   {J : zM} {L : yM} {Q : zM → yM → Prop} (h : w_X7_clear  J L Q) : xCn (xGm b dC dI cA ts) l mX7_clear [.ref 6] al (n, R, zi J, li L) 0 0 (zQ0 n R Q) (fun _ _ => False) := by
  refine xCn.ofJ (by decide) (Nat.le_of_ble_eq_true rfl) ?_
  show xJ _ _ _ _ _ _ _ _ _ 0 [(0, .ref 6)] [] _ _ _ _ _
  unfold w_X7_clear at h
  refine xr_aload_n (xd dX7_clear 0 rfl) 0 rfl ?_
  refine xr_iconst (v := oI 0) (xd dX7_clear 1 rfl) (by decide) ?_
  obtain ⟨J1, e_J1⟩ : ∃ z_ : zM, z_ = zs J 6 4 0 := ⟨_, rfl⟩
  replace h := h J1 e_J1
  refine zr_putI 7 4 4 rfl e_J1 (xd dX7_clear 2 rfl) f7_24 (by decide) (by decide) (lt491 hn (by decide)) kd_6 (Or.inl rfl) rfl rfl (fun _ => rfl) ?_
  exact xr_vret (xd dX7_clear 3 rfl) rfl (by decide) (by decide) (fun _ => rfl) ⟨_, _, rfl, rfl, h⟩
def w_X7_putAll (p1 : Nat) (p2 : Int) (p3 : Int) (J : zM) (L : yM) (Q : zM → yM → Prop) : Prop := R32 p2 ∧ (if p2 < 0 then Q J L else R32 p3 ∧ (if p3 < 0 then Q J L else R32 (p2 + p3) ∧ R32 (ln0 p1 : Int) ∧ (if (ln0 p1 : Int) < (p2 + p3) then Q J L else R32 ((J 6 4) + p3) ∧ (if 568 < ((J 6 4) + p3) then Q J L else ((0 : Int) ≤ p2 ∧ (0 : Int) ≤ (64 + (J 6 4)) ∧ (0 : Int) ≤ p3 ∧ (p2 + p3 : Int) ≤ (ln0 p1 : Int) ∧ ((64 + (J 6 4)) + p3 : Int) ≤ 704) ∧ ∀ J11 : zM, J11 = zcp J p1 p2 7 (64 + (J 6 4)) p3 → ∀ J12 : zM, J12 = zs J11 6 4 ((J11 6 4) + p3) → Q J12 L))))
set_option maxHeartbeats 4000000 in
set_option maxRecDepth 100000 in
theorem v_X7_putAll {b : Nat} {dC : Nat → ClassId} {dI : Nat → Nat → Nat} {cA : Nat → ClassId} {ts : Nat → Nat} {l : Launch} {n : Nat} {R : Nat → Nat → Option Nat} {al : Bool} (hn : 491 ≤ n) (hR : xRk R) {p1 : Nat} {p2 : Int} {p3 : Int} (h_p1 : za p1) {J : zM} {L : yM} {Q : zM → yM → Prop} (h : w_X7_putAll p1 p2 p3 J L Q) : xCn (xGm b dC dI cA ts) l mX7_putAll [.ref 6, .ref p1, .int (oI p2), .int (oI p3)] al (n, R, zi J, li L) 0 0 (zQ0 n R Q) (fun _ _ => False) := by
  refine xCn.ofJ (by decide) (Nat.le_of_ble_eq_true rfl) ?_
  show xJ _ _ _ _ _ _ _ _ _ 0 [(0, .ref 6), (1, .ref p1), (2, .int (oI p2)), (3, .int (oI p3))] [] _ _ _ _ _
  unfold w_X7_putAll at h
  refine xr_iload_n (xd dX7_putAll 0 rfl) 2 rfl ?_
  obtain ⟨o1, h⟩ := h
  refine zr_if_lt 28 (xd dX7_putAll 1 rfl) (by decide) o1 (fun c2 => ?_) (fun c2 => ?_)
  · replace h := ifp h c2
    exact xr_vret (xd dX7_putAll 16 rfl) rfl (by decide) (by decide) (fun _ => rfl) ⟨_, _, rfl, rfl, h⟩
  · replace h := ifn h c2
    refine xr_iload_n (xd dX7_putAll 2 rfl) 3 rfl ?_
    obtain ⟨o3, h⟩ := h
    refine zr_if_lt 28 (xd dX7_putAll 3 rfl) (by decide) o3 (fun c4 => ?_) (fun c4 => ?_)
    · replace h := ifp h c4
      exact xr_vret (xd dX7_putAll 16 rfl) rfl (by decide) (by decide) (fun _ => rfl) ⟨_, _, rfl, rfl, h⟩
    · replace h := ifn h c4
      refine xr_iload_n (xd dX7_putAll 4 rfl) 2 rfl ?_
      refine xr_iload_n (xd dX7_putAll 5 rfl) 3 rfl ?_
      refine zr_iadd (xd dX7_putAll 6 rfl) ?_
      refine xr_aload_n (xd dX7_putAll 7 rfl) 1 rfl ?_
      refine zr_alen (v := (ln0 p1 : Int)) 0 (xd dX7_putAll 8 rfl) (lt491 hn h_p1.2) (by decide) h_p1.1 rfl rfl ?_
      obtain ⟨o5, h⟩ := h
      obtain ⟨o6, h⟩ := h
      refine zr_icmp_gt 28 (xd dX7_putAll 9 rfl) (by decide) o5 o6 (fun c7 => ?_) (fun c7 => ?_)
      · replace h := ifp h c7
        exact xr_vret (xd dX7_putAll 16 rfl) rfl (by decide) (by decide) (fun _ => rfl) ⟨_, _, rfl, rfl, h⟩
      · replace h := ifn h c7
        refine xr_aload_n (xd dX7_putAll 10 rfl) 0 rfl ?_
        refine zr_getI 7 4 4 rfl (xd dX7_putAll 11 rfl) f7_24 (by decide) (by decide) (lt491 hn (by decide)) kd_6 rfl ?_
        refine xr_iload_n (xd dX7_putAll 12 rfl) 3 rfl ?_
        refine zr_iadd (xd dX7_putAll 13 rfl) ?_
        refine xr_sipush (v := oI 568) (xd dX7_putAll 14 rfl) (by decide) ?_
        obtain ⟨o8, h⟩ := h
        refine zr_icmp_le 29 (xd dX7_putAll 15 rfl) (by decide) o8 (by decide) (fun c9 => ?_) (fun c9 => ?_)
        · replace h := ifn h c9
          refine xr_aload_n (xd dX7_putAll 17 rfl) 1 rfl ?_
          refine xr_iload_n (xd dX7_putAll 18 rfl) 2 rfl ?_
          refine xr_aload_n (xd dX7_putAll 19 rfl) 0 rfl ?_
          refine xr_getR (b := 7) 7 0 (xd dX7_putAll 20 rfl) f7_9 (by decide) (by decide) (lt491 hn (by decide)) kd_6 rfl (r_6_0 hR) ?_
          refine xr_bipush (v := oI 64) (xd dX7_putAll 21 rfl) (by decide) ?_
          refine xr_aload_n (xd dX7_putAll 22 rfl) 0 rfl ?_
          refine zr_getI 7 4 4 rfl (xd dX7_putAll 23 rfl) f7_24 (by decide) (by decide) (lt491 hn (by decide)) kd_6 rfl ?_
          refine zr_iadd (xd dX7_putAll 24 rfl) ?_
          refine xr_iload_n (xd dX7_putAll 25 rfl) 3 rfl ?_
          obtain ⟨o10, h⟩ := h
          obtain ⟨J11, e_J11⟩ : ∃ z_ : zM, z_ = zcp J p1 p2 7 (64 + (J 6 4)) p3 := ⟨_, rfl⟩
          replace h := h J11 e_J11
          refine zr_acopy e_J11 (xd dX7_putAll 26 rfl) l7_32 (lt491 hn h_p1.2) h_p1.1 rfl (ln0_lt p1) (lt491 hn (by decide)) kd_7 ln_7 (by decide) o10.1 o10.2.1 o10.2.2.1 o10.2.2.2.1 o10.2.2.2.2 ⟨Nat.le_of_ble_eq_true rfl, Nat.le_of_ble_eq_true rfl⟩ ?_
          refine xr_aload_n (xd dX7_putAll 27 rfl) 0 rfl ?_
          refine xr_dup (xd dX7_putAll 28 rfl) rfl ?_
          refine zr_getI 7 4 4 rfl (xd dX7_putAll 29 rfl) f7_24 (by decide) (by decide) (lt491 hn (by decide)) kd_6 rfl ?_
          refine xr_iload_n (xd dX7_putAll 30 rfl) 3 rfl ?_
          refine zr_iadd (xd dX7_putAll 31 rfl) ?_
          obtain ⟨J12, e_J12⟩ : ∃ z_ : zM, z_ = zs J11 6 4 ((J11 6 4) + p3) := ⟨_, rfl⟩
          replace h := h J12 e_J12
          refine zr_putI 7 4 4 rfl e_J12 (xd dX7_putAll 32 rfl) f7_24 (by decide) (by decide) (lt491 hn (by decide)) kd_6 (Or.inl rfl) rfl rfl (fun _ => rfl) ?_
          exact xr_vret (xd dX7_putAll 33 rfl) rfl (by decide) (by decide) (fun _ => rfl) ⟨_, _, rfl, rfl, h⟩
        · replace h := ifp h c9
          exact xr_vret (xd dX7_putAll 16 rfl) rfl (by decide) (by decide) (fun _ => rfl) ⟨_, _, rfl, rfl, h⟩
def w_X5_digestAllBut (e : Nat) (p1 : Int) (J : zM) (L : yM) (Q : zM → yM → Prop) : Prop := w_X7_clear J L (fun J1 L2 => w_X7_putAll (e + 162) 0 ((J1 (e + 144) 10) - p1) J1 L2 (fun J3 L4 => w_X7_hashInto (e + 165) J3 L4 (fun J5 L6 => Q J5 L6)))
set_option maxHeartbeats 4000000 in
set_option maxRecDepth 100000 in
theorem v_X5_digestAllBut {b : Nat} {dC : Nat → ClassId} {dI : Nat → Nat → Nat} {cA : Nat → ClassId} {ts : Nat → Nat} {l : Launch} {n : Nat} {R : Nat → Nat → Option Nat} {al : Bool} (hn : 491 ≤ n) (hR : xRk R) {e : Nat} {p1 : Int} (he : iSide e) {J : zM} {L : yM} {Q : zM → yM → Prop} (h : w_X5_digestAllBut e p1 J L Q) : xCn (xGm b dC dI cA ts) l mX5_digestAllBut [.ref (e + 144), .int (oI p1)] al (n, R, zi J, li L) 0 0 (zQ0 n R Q) (fun _ _ => False) := by
  refine xCn.ofJ (by decide) (Nat.le_of_ble_eq_true rfl) ?_
  show xJ _ _ _ _ _ _ _ _ _ 0 [(0, .ref (e + 144)), (1, .int (oI p1))] [] _ _ _ _ _
  unfold w_X5_digestAllBut at h
  refine xr_aload_n (xd dX5_digestAllBut 0 rfl) 0 rfl ?_
  refine xr_getR (b := 6) 5 0 (xd dX5_digestAllBut 1 rfl) f5_41 (by decide) (by decide) (lt491 hn (ltS he (by decide))) (kdS_144 he) rfl (rS_144_0 hR he) ?_
  refine xr_callV mX7_clear 0 [] (xd dX5_digestAllBut 2 rfl) l5_62 kX7_clear rfl (lt491 hn (by decide)) kd_6 (by decide) rfl (by decide) (Nat.le_of_ble_eq_true rfl) (v_X7_clear hn hR  h) (by decide) (by decide) (fun r_ M_ h_ => ?_) (fun _ _ h_ => h_.elim)
  obtain ⟨J1, L2, rfl, rfl, h⟩ := h_
  show xJ _ _ _ _ _ _ _ _ _ 7 [(0, .ref (e + 144)), (1, .int (oI p1))] [] _ _ _ (zi J1) (li L2)
  refine xr_aload_n (xd dX5_digestAllBut 3 rfl) 0 rfl ?_
  refine xr_getR (b := 6) 5 0 (xd dX5_digestAllBut 4 rfl) f5_41 (by decide) (by decide) (lt491 hn (ltS he (by decide))) (kdS_144 he) rfl (rS_144_0 hR he) ?_
  refine xr_aload_n (xd dX5_digestAllBut 5 rfl) 0 rfl ?_
  refine xr_getR (b := (e + 162)) 5 4 (xd dX5_digestAllBut 6 rfl) f5_22 (by decide) (by decide) (lt491 hn (ltS he (by decide))) (kdS_144 he) rfl (rS_144_4 hR he) ?_
  refine xr_iconst (v := oI 0) (xd dX5_digestAllBut 7 rfl) (by decide) ?_
  refine xr_aload_n (xd dX5_digestAllBut 8 rfl) 0 rfl ?_
  refine zr_getI 5 10 10 rfl (xd dX5_digestAllBut 9 rfl) f5_45 (by decide) (by decide) (lt491 hn (ltS he (by decide))) (kdS_144 he) rfl ?_
  refine xr_iload_n (xd dX5_digestAllBut 10 rfl) 1 rfl ?_
  refine zr_isub (xd dX5_digestAllBut 11 rfl) ?_
  refine xr_callV mX7_putAll 3 [.ref (e + 162), .int (oI 0), .int (oI ((J1 (e + 144) 10) - p1))] (xd dX5_digestAllBut 12 rfl) l5_67 kX7_putAll rfl (lt491 hn (by decide)) kd_6 (by decide) rfl (by decide) (Nat.le_of_ble_eq_true rfl) (v_X7_putAll hn hR (za_mk (kdS_162 he) (ltS he (by decide))) h) (by decide) (by decide) (fun r_ M_ h_ => ?_) (fun _ _ h_ => h_.elim)
  obtain ⟨J3, L4, rfl, rfl, h⟩ := h_
  show xJ _ _ _ _ _ _ _ _ _ 25 [(0, .ref (e + 144)), (1, .int (oI p1))] [] _ _ _ (zi J3) (li L4)
  refine xr_aload_n (xd dX5_digestAllBut 13 rfl) 0 rfl ?_
  refine xr_getR (b := 6) 5 0 (xd dX5_digestAllBut 14 rfl) f5_41 (by decide) (by decide) (lt491 hn (ltS he (by decide))) (kdS_144 he) rfl (rS_144_0 hR he) ?_
  refine xr_aload_n (xd dX5_digestAllBut 15 rfl) 0 rfl ?_
  refine xr_getR (b := (e + 165)) 5 7 (xd dX5_digestAllBut 16 rfl) f5_32 (by decide) (by decide) (lt491 hn (ltS he (by decide))) (kdS_144 he) rfl (rS_144_7 hR he) ?_
  refine xr_callV mX7_hashInto 1 [.ref (e + 165)] (xd dX5_digestAllBut 17 rfl) l5_71 kX7_hashInto rfl (lt491 hn (by decide)) kd_6 (by decide) rfl (by decide) (Nat.le_of_ble_eq_true rfl) (v_X7_hashInto hn hR (za_mk (kdS_165 he) (ltS he (by decide))) h) (by decide) (by decide) (fun r_ M_ h_ => ?_) (fun _ _ h_ => h_.elim)
  obtain ⟨J5, L6, rfl, rfl, h⟩ := h_
  show xJ _ _ _ _ _ _ _ _ _ 36 [(0, .ref (e + 144)), (1, .int (oI p1))] [] _ _ _ (zi J5) (li L6)
  exact xr_vret (xd dX5_digestAllBut 18 rfl) rfl (by decide) (by decide) (fun _ => rfl) ⟨_, _, rfl, rfl, h⟩
def w_X5_makeEarly (e : Nat) (p1 : Nat) (J : zM) (L : yM) (Q : zM → yM → Prop) : Prop := w_X7_clear J L (fun J1 L2 => w_X7_putAll p1 0 (ln0 p1 : Int) J1 L2 (fun J3 L4 => w_X7_macInto (e + 167) (e + 163) J3 L4 (fun J5 L6 => Q J5 L6)))
set_option maxHeartbeats 4000000 in
set_option maxRecDepth 100000 in
theorem v_X5_makeEarly {b : Nat} {dC : Nat → ClassId} {dI : Nat → Nat → Nat} {cA : Nat → ClassId} {ts : Nat → Nat} {l : Launch} {n : Nat} {R : Nat → Nat → Option Nat} {al : Bool} (hn : 491 ≤ n) (hR : xRk R) {e : Nat} {p1 : Nat} (he : iSide e) (h_p1 : za p1) {J : zM} {L : yM} {Q : zM → yM → Prop} (h : w_X5_makeEarly e p1 J L Q) : xCn (xGm b dC dI cA ts) l mX5_makeEarly [.ref (e + 144), .ref p1] al (n, R, zi J, li L) 0 0 (zQ0 n R Q) (fun _ _ => False) := by
  refine xCn.ofJ (by decide) (Nat.le_of_ble_eq_true rfl) ?_
  show xJ _ _ _ _ _ _ _ _ _ 0 [(0, .ref (e + 144)), (1, .ref p1)] [] _ _ _ _ _
  unfold w_X5_makeEarly at h
  refine xr_aload_n (xd dX5_makeEarly 0 rfl) 0 rfl ?_
  refine xr_getR (b := 6) 5 0 (xd dX5_makeEarly 1 rfl) f5_41 (by decide) (by decide) (lt491 hn (ltS he (by decide))) (kdS_144 he) rfl (rS_144_0 hR he) ?_
  refine xr_callV mX7_clear 0 [] (xd dX5_makeEarly 2 rfl) l5_62 kX7_clear rfl (lt491 hn (by decide)) kd_6 (by decide) rfl (by decide) (Nat.le_of_ble_eq_true rfl) (v_X7_clear hn hR  h) (by decide) (by decide) (fun r_ M_ h_ => ?_) (fun _ _ h_ => h_.elim)
  obtain ⟨J1, L2, rfl, rfl, h⟩ := h_
  show xJ _ _ _ _ _ _ _ _ _ 7 [(0, .ref (e + 144)), (1, .ref p1)] [] _ _ _ (zi J1) (li L2)
  refine xr_aload_n (xd dX5_makeEarly 3 rfl) 0 rfl ?_
  refine xr_getR (b := 6) 5 0 (xd dX5_makeEarly 4 rfl) f5_41 (by decide) (by decide) (lt491 hn (ltS he (by decide))) (kdS_144 he) rfl (rS_144_0 hR he) ?_
  refine xr_aload_n (xd dX5_makeEarly 5 rfl) 1 rfl ?_
  refine xr_iconst (v := oI 0) (xd dX5_makeEarly 6 rfl) (by decide) ?_
  refine xr_aload_n (xd dX5_makeEarly 7 rfl) 1 rfl ?_
  refine zr_alen (v := (ln0 p1 : Int)) 0 (xd dX5_makeEarly 8 rfl) (lt491 hn h_p1.2) (by decide) h_p1.1 rfl rfl ?_
  refine xr_callV mX7_putAll 3 [.ref p1, .int (oI 0), .int (oI (ln0 p1 : Int))] (xd dX5_makeEarly 9 rfl) l5_67 kX7_putAll rfl (lt491 hn (by decide)) kd_6 (by decide) rfl (by decide) (Nat.le_of_ble_eq_true rfl) (v_X7_putAll hn hR (za_mk h_p1.1 h_p1.2) h) (by decide) (by decide) (fun r_ M_ h_ => ?_) (fun _ _ h_ => h_.elim)
  obtain ⟨J3, L4, rfl, rfl, h⟩ := h_
  show xJ _ _ _ _ _ _ _ _ _ 18 [(0, .ref (e + 144)), (1, .ref p1)] [] _ _ _ (zi J3) (li L4)
  refine xr_aload_n (xd dX5_makeEarly 10 rfl) 0 rfl ?_
  refine xr_getR (b := 6) 5 0 (xd dX5_makeEarly 11 rfl) f5_41 (by decide) (by decide) (lt491 hn (ltS he (by decide))) (kdS_144 he) rfl (rS_144_0 hR he) ?_
  refine xr_aload_n (xd dX5_makeEarly 12 rfl) 0 rfl ?_
  refine xr_getR (b := (e + 167)) 5 9 (xd dX5_makeEarly 13 rfl) f5_38 (by decide) (by decide) (lt491 hn (ltS he (by decide))) (kdS_144 he) rfl (rS_144_9 hR he) ?_
  refine xr_aload_n (xd dX5_makeEarly 14 rfl) 0 rfl ?_
  refine xr_getR (b := (e + 163)) 5 5 (xd dX5_makeEarly 15 rfl) f5_26 (by decide) (by decide) (lt491 hn (ltS he (by decide))) (kdS_144 he) rfl (rS_144_5 hR he) ?_
  refine xr_callV mX7_macInto 2 [.ref (e + 167), .ref (e + 163)] (xd dX5_makeEarly 16 rfl) l5_75 kX7_macInto rfl (lt491 hn (by decide)) kd_6 (by decide) rfl (by decide) (Nat.le_of_ble_eq_true rfl) (v_X7_macInto hn hR (za_mk (kdS_167 he) (ltS he (by decide))) (za_mk (kdS_163 he) (ltS he (by decide))) h) (by decide) (by decide) (fun r_ M_ h_ => ?_) (fun _ _ h_ => h_.elim)
  obtain ⟨J5, L6, rfl, rfl, h⟩ := h_
  show xJ _ _ _ _ _ _ _ _ _ 33 [(0, .ref (e + 144)), (1, .ref p1)] [] _ _ _ (zi J5) (li L6)
  exact xr_vret (xd dX5_makeEarly 17 rfl) rfl (by decide) (by decide) (fun _ => rfl) ⟨_, _, rfl, rfl, h⟩
def w_X5_binderInto (e : Nat) (p1 : Nat) (p2 : Nat) (J : zM) (L : yM) (Q : zM → yM → Prop) : Prop := w_X5_makeEarly e p1 J L (fun J1 L2 => w_X5_expand e (e + 163) 1000009 (e + 164) J1 L2 (fun J3 L4 => w_X5_digestAllBut e 32 J3 L4 (fun J5 L6 => w_X7_clear J5 L6 (fun J7 L8 => w_X7_putAll (e + 165) 0 32 J7 L8 (fun J9 L10 => w_X7_macInto (e + 164) p2 J9 L10 (fun J11 L12 => Q J11 L12))))))
set_option maxHeartbeats 4000000 in
set_option maxRecDepth 100000 in
theorem v_X5_binderInto {b : Nat} {dC : Nat → ClassId} {dI : Nat → Nat → Nat} {cA : Nat → ClassId} {ts : Nat → Nat} {l : Launch} {n : Nat} {R : Nat → Nat → Option Nat} {al : Bool} (hn : 491 ≤ n) (hR : xRk R) {e : Nat} {p1 : Nat} {p2 : Nat} (he : iSide e) (h_p1 : za p1) (h_p2 : za p2) {J : zM} {L : yM} {Q : zM → yM → Prop} (h : w_X5_binderInto e p1 p2 J L Q) : xCn (xGm b dC dI cA ts) l mX5_binderInto [.ref (e + 144), .ref p1, .ref p2] al (n, R, zi J, li L) 0 0 (zQ0 n R Q) (fun _ _ => False) := by
  refine xCn.ofJ (by decide) (Nat.le_of_ble_eq_true rfl) ?_
  show xJ _ _ _ _ _ _ _ _ _ 0 [(0, .ref (e + 144)), (1, .ref p1), (2, .ref p2)] [] _ _ _ _ _
  unfold w_X5_binderInto at h
  refine xr_aload_n (xd dX5_binderInto 0 rfl) 0 rfl ?_
  refine xr_aload_n (xd dX5_binderInto 1 rfl) 1 rfl ?_
  refine xr_callV mX5_makeEarly 1 [.ref p1] (xd dX5_binderInto 2 rfl) l5_93 kX5_makeEarly rfl (lt491 hn (ltS he (by decide))) (kdS_144 he) (by decide) rfl (by decide) (Nat.le_of_ble_eq_true rfl) (v_X5_makeEarly hn hR he (za_mk h_p1.1 h_p1.2) h) (by decide) (by decide) (fun r_ M_ h_ => ?_) (fun _ _ h_ => h_.elim)
  obtain ⟨J1, L2, rfl, rfl, h⟩ := h_
  show xJ _ _ _ _ _ _ _ _ _ 5 [(0, .ref (e + 144)), (1, .ref p1), (2, .ref p2)] [] _ _ _ (zi J1) (li L2)
  refine xr_aload_n (xd dX5_binderInto 3 rfl) 0 rfl ?_
  refine xr_aload_n (xd dX5_binderInto 4 rfl) 0 rfl ?_
  refine xr_getR (b := (e + 163)) 5 5 (xd dX5_binderInto 5 rfl) f5_26 (by decide) (by decide) (lt491 hn (ltS he (by decide))) (kdS_144 he) rfl (rS_144_5 hR he) ?_
  refine zr_ldcS 7 (xd dX5_binderInto 6 rfl) (by decide) rfl ?_
  refine xr_aload_n (xd dX5_binderInto 7 rfl) 0 rfl ?_
  refine xr_getR (b := (e + 164)) 5 6 (xd dX5_binderInto 8 rfl) f5_29 (by decide) (by decide) (lt491 hn (ltS he (by decide))) (kdS_144 he) rfl (rS_144_6 hR he) ?_
  refine xr_callV mX5_expand 3 [.ref (e + 163), .ref 1000009, .ref (e + 164)] (xd dX5_binderInto 9 rfl) l5_98 kX5_expand rfl (lt491 hn (ltS he (by decide))) (kdS_144 he) (by decide) rfl (by decide) (Nat.le_of_ble_eq_true rfl) (v_X5_expand hn hR he (za_mk (kdS_163 he) (ltS he (by decide))) (za_mk (kdS_164 he) (ltS he (by decide))) h) (by decide) (by decide) (fun r_ M_ h_ => ?_) (fun _ _ h_ => h_.elim)
  obtain ⟨J3, L4, rfl, rfl, h⟩ := h_
  show xJ _ _ _ _ _ _ _ _ _ 19 [(0, .ref (e + 144)), (1, .ref p1), (2, .ref p2)] [] _ _ _ (zi J3) (li L4)
  refine xr_aload_n (xd dX5_binderInto 10 rfl) 0 rfl ?_
  refine xr_bipush (v := oI 32) (xd dX5_binderInto 11 rfl) (by decide) ?_
  refine xr_callV mX5_digestAllBut 1 [.int (oI 32)] (xd dX5_binderInto 12 rfl) l5_102 kX5_digestAllBut rfl (lt491 hn (ltS he (by decide))) (kdS_144 he) (by decide) rfl (by decide) (Nat.le_of_ble_eq_true rfl) (v_X5_digestAllBut hn hR he h) (by decide) (by decide) (fun r_ M_ h_ => ?_) (fun _ _ h_ => h_.elim)
  obtain ⟨J5, L6, rfl, rfl, h⟩ := h_
  show xJ _ _ _ _ _ _ _ _ _ 25 [(0, .ref (e + 144)), (1, .ref p1), (2, .ref p2)] [] _ _ _ (zi J5) (li L6)
  refine xr_aload_n (xd dX5_binderInto 13 rfl) 0 rfl ?_
  refine xr_getR (b := 6) 5 0 (xd dX5_binderInto 14 rfl) f5_41 (by decide) (by decide) (lt491 hn (ltS he (by decide))) (kdS_144 he) rfl (rS_144_0 hR he) ?_
  refine xr_callV mX7_clear 0 [] (xd dX5_binderInto 15 rfl) l5_62 kX7_clear rfl (lt491 hn (by decide)) kd_6 (by decide) rfl (by decide) (Nat.le_of_ble_eq_true rfl) (v_X7_clear hn hR  h) (by decide) (by decide) (fun r_ M_ h_ => ?_) (fun _ _ h_ => h_.elim)
  obtain ⟨J7, L8, rfl, rfl, h⟩ := h_
  show xJ _ _ _ _ _ _ _ _ _ 32 [(0, .ref (e + 144)), (1, .ref p1), (2, .ref p2)] [] _ _ _ (zi J7) (li L8)
  refine xr_aload_n (xd dX5_binderInto 16 rfl) 0 rfl ?_
  refine xr_getR (b := 6) 5 0 (xd dX5_binderInto 17 rfl) f5_41 (by decide) (by decide) (lt491 hn (ltS he (by decide))) (kdS_144 he) rfl (rS_144_0 hR he) ?_
  refine xr_aload_n (xd dX5_binderInto 18 rfl) 0 rfl ?_
  refine xr_getR (b := (e + 165)) 5 7 (xd dX5_binderInto 19 rfl) f5_32 (by decide) (by decide) (lt491 hn (ltS he (by decide))) (kdS_144 he) rfl (rS_144_7 hR he) ?_
  refine xr_iconst (v := oI 0) (xd dX5_binderInto 20 rfl) (by decide) ?_
  refine xr_bipush (v := oI 32) (xd dX5_binderInto 21 rfl) (by decide) ?_
  refine xr_callV mX7_putAll 3 [.ref (e + 165), .int (oI 0), .int (oI 32)] (xd dX5_binderInto 22 rfl) l5_67 kX7_putAll rfl (lt491 hn (by decide)) kd_6 (by decide) rfl (by decide) (Nat.le_of_ble_eq_true rfl) (v_X7_putAll hn hR (za_mk (kdS_165 he) (ltS he (by decide))) h) (by decide) (by decide) (fun r_ M_ h_ => ?_) (fun _ _ h_ => h_.elim)
  obtain ⟨J9, L10, rfl, rfl, h⟩ := h_
  show xJ _ _ _ _ _ _ _ _ _ 46 [(0, .ref (e + 144)), (1, .ref p1), (2, .ref p2)] [] _ _ _ (zi J9) (li L10)
  refine xr_aload_n (xd dX5_binderInto 23 rfl) 0 rfl ?_
  refine xr_getR (b := 6) 5 0 (xd dX5_binderInto 24 rfl) f5_41 (by decide) (by decide) (lt491 hn (ltS he (by decide))) (kdS_144 he) rfl (rS_144_0 hR he) ?_
  refine xr_aload_n (xd dX5_binderInto 25 rfl) 0 rfl ?_
  refine xr_getR (b := (e + 164)) 5 6 (xd dX5_binderInto 26 rfl) f5_29 (by decide) (by decide) (lt491 hn (ltS he (by decide))) (kdS_144 he) rfl (rS_144_6 hR he) ?_
  refine xr_aload_n (xd dX5_binderInto 27 rfl) 2 rfl ?_
  refine xr_callV mX7_macInto 2 [.ref (e + 164), .ref p2] (xd dX5_binderInto 28 rfl) l5_75 kX7_macInto rfl (lt491 hn (by decide)) kd_6 (by decide) rfl (by decide) (Nat.le_of_ble_eq_true rfl) (v_X7_macInto hn hR (za_mk (kdS_164 he) (ltS he (by decide))) (za_mk h_p2.1 h_p2.2) h) (by decide) (by decide) (fun r_ M_ h_ => ?_) (fun _ _ h_ => h_.elim)
  obtain ⟨J11, L12, rfl, rfl, h⟩ := h_
  show xJ _ _ _ _ _ _ _ _ _ 58 [(0, .ref (e + 144)), (1, .ref p1), (2, .ref p2)] [] _ _ _ (zi J11) (li L12)
  exact xr_vret (xd dX5_binderInto 29 rfl) rfl (by decide) (by decide) (fun _ => rfl) ⟨_, _, rfl, rfl, h⟩
def w_X7_put (p1 : Int) (J : zM) (L : yM) (Q : zM → yM → Prop) : Prop := R32 (J 6 4) ∧ (if (J 6 4) < 568 then ((0 : Int) ≤ (64 + (J 6 4)) ∧ (64 + (J 6 4)) < 704) ∧ ∀ J4 : zM, J4 = zs J 7 (64 + (J 6 4)) (zand p1 255) → ∀ J5 : zM, J5 = zs J4 6 4 ((J4 6 4) + 1) → Q J5 L else Q J L)
set_option maxHeartbeats 4000000 in
set_option maxRecDepth 100000 in
theorem v_X7_put {b : Nat} {dC : Nat → ClassId} {dI : Nat → Nat → Nat} {cA : Nat → ClassId} {ts : Nat → Nat} {l : Launch} {n : Nat} {R : Nat → Nat → Option Nat} {al : Bool} (hn : 491 ≤ n) (hR : xRk R) {p1 : Int}  {J : zM} {L : yM} {Q : zM → yM → Prop} (h : w_X7_put p1 J L Q) : xCn (xGm b dC dI cA ts) l mX7_put [.ref 6, .int (oI p1)] al (n, R, zi J, li L) 0 0 (zQ0 n R Q) (fun _ _ => False) := by
  refine xCn.ofJ (by decide) (Nat.le_of_ble_eq_true rfl) ?_
  show xJ _ _ _ _ _ _ _ _ _ 0 [(0, .ref 6), (1, .int (oI p1))] [] _ _ _ _ _
  unfold w_X7_put at h
  refine xr_aload_n (xd dX7_put 0 rfl) 0 rfl ?_
  refine zr_getI 7 4 4 rfl (xd dX7_put 1 rfl) f7_24 (by decide) (by decide) (lt491 hn (by decide)) kd_6 rfl ?_
  refine xr_sipush (v := oI 568) (xd dX7_put 2 rfl) (by decide) ?_
  obtain ⟨o1, h⟩ := h
  refine zr_icmp_ge 37 (xd dX7_put 3 rfl) (by decide) o1 (by decide) (fun c2 => ?_) (fun c2 => ?_)
  · replace h := ifn h c2
    exact xr_vret (xd dX7_put 20 rfl) rfl (by decide) (by decide) (fun _ => rfl) ⟨_, _, rfl, rfl, h⟩
  · replace h := ifp h c2
    refine xr_aload_n (xd dX7_put 4 rfl) 0 rfl ?_
    refine xr_getR (b := 7) 7 0 (xd dX7_put 5 rfl) f7_9 (by decide) (by decide) (lt491 hn (by decide)) kd_6 rfl (r_6_0 hR) ?_
    refine xr_bipush (v := oI 64) (xd dX7_put 6 rfl) (by decide) ?_
    refine xr_aload_n (xd dX7_put 7 rfl) 0 rfl ?_
    refine zr_getI 7 4 4 rfl (xd dX7_put 8 rfl) f7_24 (by decide) (by decide) (lt491 hn (by decide)) kd_6 rfl ?_
    refine zr_iadd (xd dX7_put 9 rfl) ?_
    refine xr_iload_n (xd dX7_put 10 rfl) 1 rfl ?_
    refine xr_sipush (v := oI 255) (xd dX7_put 11 rfl) (by decide) ?_
    refine zr_iand (xd dX7_put 12 rfl) ?_
    obtain ⟨o3, h⟩ := h
    obtain ⟨J4, e_J4⟩ : ∃ z_ : zM, z_ = zs J 7 (64 + (J 6 4)) (zand p1 255) := ⟨_, rfl⟩
    replace h := h J4 e_J4
    refine zr_iastore e_J4 (xd dX7_put 13 rfl) (lt491 hn (by decide)) kd_7 ln_7 (by decide) o3 ?_
    refine xr_aload_n (xd dX7_put 14 rfl) 0 rfl ?_
    refine xr_dup (xd dX7_put 15 rfl) rfl ?_
    refine zr_getI 7 4 4 rfl (xd dX7_put 16 rfl) f7_24 (by decide) (by decide) (lt491 hn (by decide)) kd_6 rfl ?_
    refine xr_iconst (v := oI 1) (xd dX7_put 17 rfl) (by decide) ?_
    refine zr_iadd (xd dX7_put 18 rfl) ?_
    obtain ⟨J5, e_J5⟩ : ∃ z_ : zM, z_ = zs J4 6 4 ((J4 6 4) + 1) := ⟨_, rfl⟩
    replace h := h J5 e_J5
    refine zr_putI 7 4 4 rfl e_J5 (xd dX7_put 19 rfl) f7_24 (by decide) (by decide) (lt491 hn (by decide)) kd_6 (Or.inl rfl) rfl rfl (fun _ => rfl) ?_
    exact xr_vret (xd dX7_put 20 rfl) rfl (by decide) (by decide) (fun _ => rfl) ⟨_, _, rfl, rfl, h⟩
def w_X7_putShort (p1 : Int) (J : zM) (L : yM) (Q : zM → yM → Prop) : Prop := w_X7_put (zush p1 8) J L (fun J1 L2 => w_X7_put p1 J1 L2 (fun J3 L4 => Q J3 L4))
set_option maxHeartbeats 4000000 in
set_option maxRecDepth 100000 in
theorem v_X7_putShort {b : Nat} {dC : Nat → ClassId} {dI : Nat → Nat → Nat} {cA : Nat → ClassId} {ts : Nat → Nat} {l : Launch} {n : Nat} {R : Nat → Nat → Option Nat} {al : Bool} (hn : 491 ≤ n) (hR : xRk R) {p1 : Int}  {J : zM} {L : yM} {Q : zM → yM → Prop} (h : w_X7_putShort p1 J L Q) : xCn (xGm b dC dI cA ts) l mX7_putShort [.ref 6, .int (oI p1)] al (n, R, zi J, li L) 0 0 (zQ0 n R Q) (fun _ _ => False) := by
  refine xCn.ofJ (by decide) (Nat.le_of_ble_eq_true rfl) ?_
  show xJ _ _ _ _ _ _ _ _ _ 0 [(0, .ref 6), (1, .int (oI p1))] [] _ _ _ _ _
  unfold w_X7_putShort at h
  refine xr_aload_n (xd dX7_putShort 0 rfl) 0 rfl ?_
  refine xr_iload_n (xd dX7_putShort 1 rfl) 1 rfl ?_
  refine xr_bipush (v := oI 8) (xd dX7_putShort 2 rfl) (by decide) ?_
  refine zr_iushr (xd dX7_putShort 3 rfl) ?_
  refine xr_callV mX7_put 1 [.int (oI (zush p1 8))] (xd dX7_putShort 4 rfl) l7_28 kX7_put rfl (lt491 hn (by decide)) kd_6 (by decide) rfl (by decide) (Nat.le_of_ble_eq_true rfl) (v_X7_put hn hR  h) (by decide) (by decide) (fun r_ M_ h_ => ?_) (fun _ _ h_ => h_.elim)
  obtain ⟨J1, L2, rfl, rfl, h⟩ := h_
  show xJ _ _ _ _ _ _ _ _ _ 8 [(0, .ref 6), (1, .int (oI p1))] [] _ _ _ (zi J1) (li L2)
  refine xr_aload_n (xd dX7_putShort 5 rfl) 0 rfl ?_
  refine xr_iload_n (xd dX7_putShort 6 rfl) 1 rfl ?_
  refine xr_callV mX7_put 1 [.int (oI p1)] (xd dX7_putShort 7 rfl) l7_28 kX7_put rfl (lt491 hn (by decide)) kd_6 (by decide) rfl (by decide) (Nat.le_of_ble_eq_true rfl) (v_X7_put hn hR  h) (by decide) (by decide) (fun r_ M_ h_ => ?_) (fun _ _ h_ => h_.elim)
  obtain ⟨J3, L4, rfl, rfl, h⟩ := h_
  show xJ _ _ _ _ _ _ _ _ _ 13 [(0, .ref 6), (1, .int (oI p1))] [] _ _ _ (zi J3) (li L4)
  exact xr_vret (xd dX7_putShort 8 rfl) rfl (by decide) (by decide) (fun _ => rfl) ⟨_, _, rfl, rfl, h⟩
def w_X5_enterHandshake (e : Nat) (p1 : Nat) (p2 : Int) (J : zM) (L : yM) (Q : zM → yM → Prop) : Prop := w_X5_makeEarly e p1 J L (fun J1 L2 => w_X5_expand e (e + 163) 1000014 (e + 164) J1 L2 (fun J3 L4 => w_X7_clear J3 L4 (fun J5 L6 => w_X7_putShort (zush p2 16) J5 L6 (fun J7 L8 => w_X7_putShort p2 J7 L8 (fun J9 L10 => w_X7_macInto (e + 164) (e + 150) J9 L10 (fun J12 L13 => w_X5_expand e (e + 150) 1000014 (e + 164) J12 L13 (fun J15 L16 => w_X7_clear J15 L16 (fun J17 L18 => w_X7_putAll (e + 167) 0 32 J17 L18 (fun J19 L20 => w_X7_macInto (e + 164) (e + 151) J19 L20 (fun J22 L23 => w_X5_digestAllBut e 0 J22 L23 (fun J24 L25 => w_X5_expandDigest e (e + 150) 1000015 (e + 146) J24 L25 (fun J28 L29 => w_X5_expandDigest e (e + 150) 1000016 (e + 147) J28 L29 (fun J32 L33 => zl_z (fun K34 x35 J36 L37 => R32 x35 ∧ (if x35 < 2 then ((0 : Int) ≤ x35 ∧ x35 < 6) ∧ ((0 : Int) ≤ x35 ∧ x35 < 4) ∧ w_X5_expand e (e + 146 + (x35).toNat) 1000017 (e + 153 + (x35).toNat) J36 L37 (fun J45 L46 => ((0 : Int) ≤ x35 ∧ x35 < 6) ∧ ((0 : Int) ≤ x35 ∧ x35 < 4) ∧ w_X5_expand e (e + 146 + (x35).toNat) 1000018 (e + 158 + (x35).toNat) J45 L46 (fun J51 L52 => K34 (x35 + 1) J51 L52)) else ∀ J40 : zM, J40 = zs J36 (e + 144) 11 2 → Q J40 L37)) 0 J32 L33)))))))))))))
set_option maxHeartbeats 4000000 in
set_option maxRecDepth 100000 in
theorem v_X5_enterHandshake {b : Nat} {dC : Nat → ClassId} {dI : Nat → Nat → Nat} {cA : Nat → ClassId} {ts : Nat → Nat} {l : Launch} {n : Nat} {R : Nat → Nat → Option Nat} {al : Bool} (hn : 491 ≤ n) (hR : xRk R) {e : Nat} {p1 : Nat} {p2 : Int} (he : iSide e) (h_p1 : za p1) {J : zM} {L : yM} {Q : zM → yM → Prop} (h : w_X5_enterHandshake e p1 p2 J L Q) : xCn (xGm b dC dI cA ts) l mX5_enterHandshake [.ref (e + 144), .ref p1, .int (oI p2)] al (n, R, zi J, li L) 0 0 (zQ0 n R Q) (fun _ _ => False) := by
  refine xCn.ofJ (by decide) (Nat.le_of_ble_eq_true rfl) ?_
  show xJ _ _ _ _ _ _ _ _ _ 0 [(0, .ref (e + 144)), (1, .ref p1), (2, .int (oI p2))] [] _ _ _ _ _
  unfold w_X5_enterHandshake at h
  refine xr_aload_n (xd dX5_enterHandshake 0 rfl) 0 rfl ?_
  refine xr_aload_n (xd dX5_enterHandshake 1 rfl) 1 rfl ?_
  refine xr_callV mX5_makeEarly 1 [.ref p1] (xd dX5_enterHandshake 2 rfl) l5_93 kX5_makeEarly rfl (lt491 hn (ltS he (by decide))) (kdS_144 he) (by decide) rfl (by decide) (Nat.le_of_ble_eq_true rfl) (v_X5_makeEarly hn hR he (za_mk h_p1.1 h_p1.2) h) (by decide) (by decide) (fun r_ M_ h_ => ?_) (fun _ _ h_ => h_.elim)
  obtain ⟨J1, L2, rfl, rfl, h⟩ := h_
  show xJ _ _ _ _ _ _ _ _ _ 5 [(0, .ref (e + 144)), (1, .ref p1), (2, .int (oI p2))] [] _ _ _ (zi J1) (li L2)
  refine xr_aload_n (xd dX5_enterHandshake 3 rfl) 0 rfl ?_
  refine xr_aload_n (xd dX5_enterHandshake 4 rfl) 0 rfl ?_
  refine xr_getR (b := (e + 163)) 5 5 (xd dX5_enterHandshake 5 rfl) f5_26 (by decide) (by decide) (lt491 hn (ltS he (by decide))) (kdS_144 he) rfl (rS_144_5 hR he) ?_
  refine zr_ldcS 12 (xd dX5_enterHandshake 6 rfl) (by decide) rfl ?_
  refine xr_aload_n (xd dX5_enterHandshake 7 rfl) 0 rfl ?_
  refine xr_getR (b := (e + 164)) 5 6 (xd dX5_enterHandshake 8 rfl) f5_29 (by decide) (by decide) (lt491 hn (ltS he (by decide))) (kdS_144 he) rfl (rS_144_6 hR he) ?_
  refine xr_callV mX5_expand 3 [.ref (e + 163), .ref 1000014, .ref (e + 164)] (xd dX5_enterHandshake 9 rfl) l5_98 kX5_expand rfl (lt491 hn (ltS he (by decide))) (kdS_144 he) (by decide) rfl (by decide) (Nat.le_of_ble_eq_true rfl) (v_X5_expand hn hR he (za_mk (kdS_163 he) (ltS he (by decide))) (za_mk (kdS_164 he) (ltS he (by decide))) h) (by decide) (by decide) (fun r_ M_ h_ => ?_) (fun _ _ h_ => h_.elim)
  obtain ⟨J3, L4, rfl, rfl, h⟩ := h_
  show xJ _ _ _ _ _ _ _ _ _ 19 [(0, .ref (e + 144)), (1, .ref p1), (2, .int (oI p2))] [] _ _ _ (zi J3) (li L4)
  refine xr_aload_n (xd dX5_enterHandshake 10 rfl) 0 rfl ?_
  refine xr_getR (b := 6) 5 0 (xd dX5_enterHandshake 11 rfl) f5_41 (by decide) (by decide) (lt491 hn (ltS he (by decide))) (kdS_144 he) rfl (rS_144_0 hR he) ?_
  refine xr_callV mX7_clear 0 [] (xd dX5_enterHandshake 12 rfl) l5_62 kX7_clear rfl (lt491 hn (by decide)) kd_6 (by decide) rfl (by decide) (Nat.le_of_ble_eq_true rfl) (v_X7_clear hn hR  h) (by decide) (by decide) (fun r_ M_ h_ => ?_) (fun _ _ h_ => h_.elim)
  obtain ⟨J5, L6, rfl, rfl, h⟩ := h_
  show xJ _ _ _ _ _ _ _ _ _ 26 [(0, .ref (e + 144)), (1, .ref p1), (2, .int (oI p2))] [] _ _ _ (zi J5) (li L6)
  refine xr_aload_n (xd dX5_enterHandshake 13 rfl) 0 rfl ?_
  refine xr_getR (b := 6) 5 0 (xd dX5_enterHandshake 14 rfl) f5_41 (by decide) (by decide) (lt491 hn (ltS he (by decide))) (kdS_144 he) rfl (rS_144_0 hR he) ?_
  refine xr_iload_n (xd dX5_enterHandshake 15 rfl) 2 rfl ?_
  refine xr_bipush (v := oI 16) (xd dX5_enterHandshake 16 rfl) (by decide) ?_
  refine zr_iushr (xd dX5_enterHandshake 17 rfl) ?_
  refine xr_callV mX7_putShort 1 [.int (oI (zush p2 16))] (xd dX5_enterHandshake 18 rfl) l5_107 kX7_putShort rfl (lt491 hn (by decide)) kd_6 (by decide) rfl (by decide) (Nat.le_of_ble_eq_true rfl) (v_X7_putShort hn hR  h) (by decide) (by decide) (fun r_ M_ h_ => ?_) (fun _ _ h_ => h_.elim)
  obtain ⟨J7, L8, rfl, rfl, h⟩ := h_
  show xJ _ _ _ _ _ _ _ _ _ 37 [(0, .ref (e + 144)), (1, .ref p1), (2, .int (oI p2))] [] _ _ _ (zi J7) (li L8)
  refine xr_aload_n (xd dX5_enterHandshake 19 rfl) 0 rfl ?_
  refine xr_getR (b := 6) 5 0 (xd dX5_enterHandshake 20 rfl) f5_41 (by decide) (by decide) (lt491 hn (ltS he (by decide))) (kdS_144 he) rfl (rS_144_0 hR he) ?_
  refine xr_iload_n (xd dX5_enterHandshake 21 rfl) 2 rfl ?_
  refine xr_callV mX7_putShort 1 [.int (oI p2)] (xd dX5_enterHandshake 22 rfl) l5_107 kX7_putShort rfl (lt491 hn (by decide)) kd_6 (by decide) rfl (by decide) (Nat.le_of_ble_eq_true rfl) (v_X7_putShort hn hR  h) (by decide) (by decide) (fun r_ M_ h_ => ?_) (fun _ _ h_ => h_.elim)
  obtain ⟨J9, L10, rfl, rfl, h⟩ := h_
  show xJ _ _ _ _ _ _ _ _ _ 45 [(0, .ref (e + 144)), (1, .ref p1), (2, .int (oI p2))] [] _ _ _ (zi J9) (li L10)
  refine xr_aload_n (xd dX5_enterHandshake 23 rfl) 0 rfl ?_
  refine xr_getR (b := 6) 5 0 (xd dX5_enterHandshake 24 rfl) f5_41 (by decide) (by decide) (lt491 hn (ltS he (by decide))) (kdS_144 he) rfl (rS_144_0 hR he) ?_
  refine xr_aload_n (xd dX5_enterHandshake 25 rfl) 0 rfl ?_
  refine xr_getR (b := (e + 164)) 5 6 (xd dX5_enterHandshake 26 rfl) f5_29 (by decide) (by decide) (lt491 hn (ltS he (by decide))) (kdS_144 he) rfl (rS_144_6 hR he) ?_
  refine xr_aload_n (xd dX5_enterHandshake 27 rfl) 0 rfl ?_
  refine xr_getR (b := (e + 145)) 5 1 (xd dX5_enterHandshake 28 rfl) f5_11 (by decide) (by decide) (lt491 hn (ltS he (by decide))) (kdS_144 he) rfl (rS_144_1 hR he) ?_
  refine xr_iconst (v := oI 4) (xd dX5_enterHandshake 29 rfl) (by decide) ?_
  refine zr_aaload (b := (e + 150)) 3 (xd dX5_enterHandshake 30 rfl) (lt491 hn (ltS he (by decide))) (by decide) (by decide) (kdS_145 he) (lnS_145 he) (by decide) ⟨by decide, by decide⟩ (famS_145 hR he (i := 4) ⟨by decide, by decide⟩).1 ?_
  refine xr_callV mX7_macInto 2 [.ref (e + 164), .ref (e + 150)] (xd dX5_enterHandshake 31 rfl) l5_75 kX7_macInto rfl (lt491 hn (by decide)) kd_6 (by decide) rfl (by decide) (Nat.le_of_ble_eq_true rfl) (v_X7_macInto hn hR (za_mk (kdS_164 he) (ltS he (by decide))) (za_mk (kdS_150 he) (ltS he (by decide))) h) (by decide) (by decide) (fun r_ M_ h_ => ?_) (fun _ _ h_ => h_.elim)
  obtain ⟨J12, L13, rfl, rfl, h⟩ := h_
  show xJ _ _ _ _ _ _ _ _ _ 62 [(0, .ref (e + 144)), (1, .ref p1), (2, .int (oI p2))] [] _ _ _ (zi J12) (li L13)
  refine xr_aload_n (xd dX5_enterHandshake 32 rfl) 0 rfl ?_
  refine xr_aload_n (xd dX5_enterHandshake 33 rfl) 0 rfl ?_
  refine xr_getR (b := (e + 145)) 5 1 (xd dX5_enterHandshake 34 rfl) f5_11 (by decide) (by decide) (lt491 hn (ltS he (by decide))) (kdS_144 he) rfl (rS_144_1 hR he) ?_
  refine xr_iconst (v := oI 4) (xd dX5_enterHandshake 35 rfl) (by decide) ?_
  refine zr_aaload (b := (e + 150)) 3 (xd dX5_enterHandshake 36 rfl) (lt491 hn (ltS he (by decide))) (by decide) (by decide) (kdS_145 he) (lnS_145 he) (by decide) ⟨by decide, by decide⟩ (famS_145 hR he (i := 4) ⟨by decide, by decide⟩).1 ?_
  refine zr_ldcS 12 (xd dX5_enterHandshake 37 rfl) (by decide) rfl ?_
  refine xr_aload_n (xd dX5_enterHandshake 38 rfl) 0 rfl ?_
  refine xr_getR (b := (e + 164)) 5 6 (xd dX5_enterHandshake 39 rfl) f5_29 (by decide) (by decide) (lt491 hn (ltS he (by decide))) (kdS_144 he) rfl (rS_144_6 hR he) ?_
  refine xr_callV mX5_expand 3 [.ref (e + 150), .ref 1000014, .ref (e + 164)] (xd dX5_enterHandshake 40 rfl) l5_98 kX5_expand rfl (lt491 hn (ltS he (by decide))) (kdS_144 he) (by decide) rfl (by decide) (Nat.le_of_ble_eq_true rfl) (v_X5_expand hn hR he (za_mk (kdS_150 he) (ltS he (by decide))) (za_mk (kdS_164 he) (ltS he (by decide))) h) (by decide) (by decide) (fun r_ M_ h_ => ?_) (fun _ _ h_ => h_.elim)
  obtain ⟨J15, L16, rfl, rfl, h⟩ := h_
  show xJ _ _ _ _ _ _ _ _ _ 78 [(0, .ref (e + 144)), (1, .ref p1), (2, .int (oI p2))] [] _ _ _ (zi J15) (li L16)
  refine xr_aload_n (xd dX5_enterHandshake 41 rfl) 0 rfl ?_
  refine xr_getR (b := 6) 5 0 (xd dX5_enterHandshake 42 rfl) f5_41 (by decide) (by decide) (lt491 hn (ltS he (by decide))) (kdS_144 he) rfl (rS_144_0 hR he) ?_
  refine xr_callV mX7_clear 0 [] (xd dX5_enterHandshake 43 rfl) l5_62 kX7_clear rfl (lt491 hn (by decide)) kd_6 (by decide) rfl (by decide) (Nat.le_of_ble_eq_true rfl) (v_X7_clear hn hR  h) (by decide) (by decide) (fun r_ M_ h_ => ?_) (fun _ _ h_ => h_.elim)
  obtain ⟨J17, L18, rfl, rfl, h⟩ := h_
  show xJ _ _ _ _ _ _ _ _ _ 85 [(0, .ref (e + 144)), (1, .ref p1), (2, .int (oI p2))] [] _ _ _ (zi J17) (li L18)
  refine xr_aload_n (xd dX5_enterHandshake 44 rfl) 0 rfl ?_
  refine xr_getR (b := 6) 5 0 (xd dX5_enterHandshake 45 rfl) f5_41 (by decide) (by decide) (lt491 hn (ltS he (by decide))) (kdS_144 he) rfl (rS_144_0 hR he) ?_
  refine xr_aload_n (xd dX5_enterHandshake 46 rfl) 0 rfl ?_
  refine xr_getR (b := (e + 167)) 5 9 (xd dX5_enterHandshake 47 rfl) f5_38 (by decide) (by decide) (lt491 hn (ltS he (by decide))) (kdS_144 he) rfl (rS_144_9 hR he) ?_
  refine xr_iconst (v := oI 0) (xd dX5_enterHandshake 48 rfl) (by decide) ?_
  refine xr_bipush (v := oI 32) (xd dX5_enterHandshake 49 rfl) (by decide) ?_
  refine xr_callV mX7_putAll 3 [.ref (e + 167), .int (oI 0), .int (oI 32)] (xd dX5_enterHandshake 50 rfl) l5_67 kX7_putAll rfl (lt491 hn (by decide)) kd_6 (by decide) rfl (by decide) (Nat.le_of_ble_eq_true rfl) (v_X7_putAll hn hR (za_mk (kdS_167 he) (ltS he (by decide))) h) (by decide) (by decide) (fun r_ M_ h_ => ?_) (fun _ _ h_ => h_.elim)
  obtain ⟨J19, L20, rfl, rfl, h⟩ := h_
  show xJ _ _ _ _ _ _ _ _ _ 99 [(0, .ref (e + 144)), (1, .ref p1), (2, .int (oI p2))] [] _ _ _ (zi J19) (li L20)
  refine xr_aload_n (xd dX5_enterHandshake 51 rfl) 0 rfl ?_
  refine xr_getR (b := 6) 5 0 (xd dX5_enterHandshake 52 rfl) f5_41 (by decide) (by decide) (lt491 hn (ltS he (by decide))) (kdS_144 he) rfl (rS_144_0 hR he) ?_
  refine xr_aload_n (xd dX5_enterHandshake 53 rfl) 0 rfl ?_
  refine xr_getR (b := (e + 164)) 5 6 (xd dX5_enterHandshake 54 rfl) f5_29 (by decide) (by decide) (lt491 hn (ltS he (by decide))) (kdS_144 he) rfl (rS_144_6 hR he) ?_
  refine xr_aload_n (xd dX5_enterHandshake 55 rfl) 0 rfl ?_
  refine xr_getR (b := (e + 145)) 5 1 (xd dX5_enterHandshake 56 rfl) f5_11 (by decide) (by decide) (lt491 hn (ltS he (by decide))) (kdS_144 he) rfl (rS_144_1 hR he) ?_
  refine xr_iconst (v := oI 5) (xd dX5_enterHandshake 57 rfl) (by decide) ?_
  refine zr_aaload (b := (e + 151)) 3 (xd dX5_enterHandshake 58 rfl) (lt491 hn (ltS he (by decide))) (by decide) (by decide) (kdS_145 he) (lnS_145 he) (by decide) ⟨by decide, by decide⟩ (famS_145 hR he (i := 5) ⟨by decide, by decide⟩).1 ?_
  refine xr_callV mX7_macInto 2 [.ref (e + 164), .ref (e + 151)] (xd dX5_enterHandshake 59 rfl) l5_75 kX7_macInto rfl (lt491 hn (by decide)) kd_6 (by decide) rfl (by decide) (Nat.le_of_ble_eq_true rfl) (v_X7_macInto hn hR (za_mk (kdS_164 he) (ltS he (by decide))) (za_mk (kdS_151 he) (ltS he (by decide))) h) (by decide) (by decide) (fun r_ M_ h_ => ?_) (fun _ _ h_ => h_.elim)
  obtain ⟨J22, L23, rfl, rfl, h⟩ := h_
  show xJ _ _ _ _ _ _ _ _ _ 116 [(0, .ref (e + 144)), (1, .ref p1), (2, .int (oI p2))] [] _ _ _ (zi J22) (li L23)
  refine xr_aload_n (xd dX5_enterHandshake 60 rfl) 0 rfl ?_
  refine xr_iconst (v := oI 0) (xd dX5_enterHandshake 61 rfl) (by decide) ?_
  refine xr_callV mX5_digestAllBut 1 [.int (oI 0)] (xd dX5_enterHandshake 62 rfl) l5_102 kX5_digestAllBut rfl (lt491 hn (ltS he (by decide))) (kdS_144 he) (by decide) rfl (by decide) (Nat.le_of_ble_eq_true rfl) (v_X5_digestAllBut hn hR he h) (by decide) (by decide) (fun r_ M_ h_ => ?_) (fun _ _ h_ => h_.elim)
  obtain ⟨J24, L25, rfl, rfl, h⟩ := h_
  show xJ _ _ _ _ _ _ _ _ _ 121 [(0, .ref (e + 144)), (1, .ref p1), (2, .int (oI p2))] [] _ _ _ (zi J24) (li L25)
  refine xr_aload_n (xd dX5_enterHandshake 63 rfl) 0 rfl ?_
  refine xr_aload_n (xd dX5_enterHandshake 64 rfl) 0 rfl ?_
  refine xr_getR (b := (e + 145)) 5 1 (xd dX5_enterHandshake 65 rfl) f5_11 (by decide) (by decide) (lt491 hn (ltS he (by decide))) (kdS_144 he) rfl (rS_144_1 hR he) ?_
  refine xr_iconst (v := oI 4) (xd dX5_enterHandshake 66 rfl) (by decide) ?_
  refine zr_aaload (b := (e + 150)) 3 (xd dX5_enterHandshake 67 rfl) (lt491 hn (ltS he (by decide))) (by decide) (by decide) (kdS_145 he) (lnS_145 he) (by decide) ⟨by decide, by decide⟩ (famS_145 hR he (i := 4) ⟨by decide, by decide⟩).1 ?_
  refine zr_ldcS 13 (xd dX5_enterHandshake 68 rfl) (by decide) rfl ?_
  refine xr_aload_n (xd dX5_enterHandshake 69 rfl) 0 rfl ?_
  refine xr_getR (b := (e + 145)) 5 1 (xd dX5_enterHandshake 70 rfl) f5_11 (by decide) (by decide) (lt491 hn (ltS he (by decide))) (kdS_144 he) rfl (rS_144_1 hR he) ?_
  refine xr_iconst (v := oI 0) (xd dX5_enterHandshake 71 rfl) (by decide) ?_
  refine zr_aaload (b := (e + 146)) 3 (xd dX5_enterHandshake 72 rfl) (lt491 hn (ltS he (by decide))) (by decide) (by decide) (kdS_145 he) (lnS_145 he) (by decide) ⟨by decide, by decide⟩ (famS_145 hR he (i := 0) ⟨by decide, by decide⟩).1 ?_
  refine xr_callV mX5_expandDigest 3 [.ref (e + 150), .ref 1000015, .ref (e + 146)] (xd dX5_enterHandshake 73 rfl) l5_112 kX5_expandDigest rfl (lt491 hn (ltS he (by decide))) (kdS_144 he) (by decide) rfl (by decide) (Nat.le_of_ble_eq_true rfl) (v_X5_expandDigest hn hR he (za_mk (kdS_150 he) (ltS he (by decide))) (za_mk (kdS_146 he) (ltS he (by decide))) h) (by decide) (by decide) (fun r_ M_ h_ => ?_) (fun _ _ h_ => h_.elim)
  obtain ⟨J28, L29, rfl, rfl, h⟩ := h_
  show xJ _ _ _ _ _ _ _ _ _ 139 [(0, .ref (e + 144)), (1, .ref p1), (2, .int (oI p2))] [] _ _ _ (zi J28) (li L29)
  refine xr_aload_n (xd dX5_enterHandshake 74 rfl) 0 rfl ?_
  refine xr_aload_n (xd dX5_enterHandshake 75 rfl) 0 rfl ?_
  refine xr_getR (b := (e + 145)) 5 1 (xd dX5_enterHandshake 76 rfl) f5_11 (by decide) (by decide) (lt491 hn (ltS he (by decide))) (kdS_144 he) rfl (rS_144_1 hR he) ?_
  refine xr_iconst (v := oI 4) (xd dX5_enterHandshake 77 rfl) (by decide) ?_
  refine zr_aaload (b := (e + 150)) 3 (xd dX5_enterHandshake 78 rfl) (lt491 hn (ltS he (by decide))) (by decide) (by decide) (kdS_145 he) (lnS_145 he) (by decide) ⟨by decide, by decide⟩ (famS_145 hR he (i := 4) ⟨by decide, by decide⟩).1 ?_
  refine zr_ldcS 14 (xd dX5_enterHandshake 79 rfl) (by decide) rfl ?_
  refine xr_aload_n (xd dX5_enterHandshake 80 rfl) 0 rfl ?_
  refine xr_getR (b := (e + 145)) 5 1 (xd dX5_enterHandshake 81 rfl) f5_11 (by decide) (by decide) (lt491 hn (ltS he (by decide))) (kdS_144 he) rfl (rS_144_1 hR he) ?_
  refine xr_iconst (v := oI 1) (xd dX5_enterHandshake 82 rfl) (by decide) ?_
  refine zr_aaload (b := (e + 147)) 3 (xd dX5_enterHandshake 83 rfl) (lt491 hn (ltS he (by decide))) (by decide) (by decide) (kdS_145 he) (lnS_145 he) (by decide) ⟨by decide, by decide⟩ (famS_145 hR he (i := 1) ⟨by decide, by decide⟩).1 ?_
  refine xr_callV mX5_expandDigest 3 [.ref (e + 150), .ref 1000016, .ref (e + 147)] (xd dX5_enterHandshake 84 rfl) l5_112 kX5_expandDigest rfl (lt491 hn (ltS he (by decide))) (kdS_144 he) (by decide) rfl (by decide) (Nat.le_of_ble_eq_true rfl) (v_X5_expandDigest hn hR he (za_mk (kdS_150 he) (ltS he (by decide))) (za_mk (kdS_147 he) (ltS he (by decide))) h) (by decide) (by decide) (fun r_ M_ h_ => ?_) (fun _ _ h_ => h_.elim)
  obtain ⟨J32, L33, rfl, rfl, h⟩ := h_
  show xJ _ _ _ _ _ _ _ _ _ 157 [(0, .ref (e + 144)), (1, .ref p1), (2, .int (oI p2))] [] _ _ _ (zi J32) (li L33)
  refine xr_iconst (v := oI 0) (xd dX5_enterHandshake 85 rfl) (by decide) ?_
  refine xr_istore_n [(0, .ref (e + 144)), (1, .ref p1), (2, .int (oI p2)), (3, .int (oI 0))] (xd dX5_enterHandshake 86 rfl) rfl (by decide) rfl ?_
  refine xJ.pick (ls' := [(0, .ref (e + 144)), (3, .int (oI 0))]) [0, 3] rfl ?_
  refine h (fun x35 J36 L37 => xJ (xGm b dC dI cA ts) l mX5_enterHandshake 0 0 (zQ0 n R Q) (fun _ _ => False) 0 0 159 [(0, .ref (e + 144)), (3, .int (oI x35))] [] al n R (zi J36) (li L37)) ?_
  intro x35 J36 L37 h
  show xJ _ _ _ _ _ _ _ _ _ 159 [(0, .ref (e + 144)), (3, .int (oI x35))] [] _ _ _ _ _
  refine xr_iload_n (xd dX5_enterHandshake 87 rfl) 1 rfl ?_
  refine xr_iconst (v := oI 2) (xd dX5_enterHandshake 88 rfl) (by decide) ?_
  obtain ⟨o38, h⟩ := h
  refine zr_icmp_ge 206 (xd dX5_enterHandshake 89 rfl) (by decide) o38 (by decide) (fun c39 => ?_) (fun c39 => ?_)
  · replace h := ifn h c39
    refine xr_aload_n (xd dX5_enterHandshake 114 rfl) 0 rfl ?_
    refine xr_iconst (v := oI 2) (xd dX5_enterHandshake 115 rfl) (by decide) ?_
    obtain ⟨J40, e_J40⟩ : ∃ z_ : zM, z_ = zs J36 (e + 144) 11 2 := ⟨_, rfl⟩
    replace h := h J40 e_J40
    refine zr_putI 5 11 11 rfl e_J40 (xd dX5_enterHandshake 116 rfl) f5_49 (by decide) (by decide) (lt491 hn (ltS he (by decide))) (kdS_144 he) (Or.inl rfl) rfl rfl (fun _ => rfl) ?_
    exact xr_vret (xd dX5_enterHandshake 117 rfl) rfl (by decide) (by decide) (fun _ => rfl) ⟨_, _, rfl, rfl, h⟩
  · replace h := ifp h c39
    refine xr_aload_n (xd dX5_enterHandshake 90 rfl) 0 rfl ?_
    refine xr_aload_n (xd dX5_enterHandshake 91 rfl) 0 rfl ?_
    refine xr_getR (b := (e + 145)) 5 1 (xd dX5_enterHandshake 92 rfl) f5_11 (by decide) (by decide) (lt491 hn (ltS he (by decide))) (kdS_144 he) rfl (rS_144_1 hR he) ?_
    refine xr_iload_n (xd dX5_enterHandshake 93 rfl) 1 rfl ?_
    obtain ⟨o41, h⟩ := h
    have f42 := famS_145 hR he o41
    refine zr_aaload (b := (e + 146 + (x35).toNat)) 3 (xd dX5_enterHandshake 94 rfl) (lt491 hn (ltS he (by decide))) (by decide) (by decide) (kdS_145 he) (lnS_145 he) (by decide) o41 f42.1 ?_
    refine zr_ldcS 15 (xd dX5_enterHandshake 95 rfl) (by decide) rfl ?_
    refine xr_aload_n (xd dX5_enterHandshake 96 rfl) 0 rfl ?_
    refine xr_getR (b := (e + 152)) 5 2 (xd dX5_enterHandshake 97 rfl) f5_16 (by decide) (by decide) (lt491 hn (ltS he (by decide))) (kdS_144 he) rfl (rS_144_2 hR he) ?_
    refine xr_iload_n (xd dX5_enterHandshake 98 rfl) 1 rfl ?_
    obtain ⟨o43, h⟩ := h
    have f44 := famS_152 hR he o43
    refine zr_aaload (b := (e + 153 + (x35).toNat)) 3 (xd dX5_enterHandshake 99 rfl) (lt491 hn (ltS he (by decide))) (by decide) (by decide) (kdS_152 he) (lnS_152 he) (by decide) o43 f44.1 ?_
    refine xr_callV mX5_expand 3 [.ref (e + 146 + (x35).toNat), .ref 1000017, .ref (e + 153 + (x35).toNat)] (xd dX5_enterHandshake 100 rfl) l5_98 kX5_expand rfl (lt491 hn (ltS he (by decide))) (kdS_144 he) (by decide) rfl (by decide) (Nat.le_of_ble_eq_true rfl) (v_X5_expand hn hR he (za_mk f42.2.1.1 f42.2.1.2) (za_mk f44.2.1.1 f44.2.1.2) h) (by decide) (by decide) (fun r_ M_ h_ => ?_) (fun _ _ h_ => h_.elim)
    obtain ⟨J45, L46, rfl, rfl, h⟩ := h_
    show xJ _ _ _ _ _ _ _ _ _ 182 [(0, .ref (e + 144)), (3, .int (oI x35))] [] _ _ _ (zi J45) (li L46)
    refine xr_aload_n (xd dX5_enterHandshake 101 rfl) 0 rfl ?_
    refine xr_aload_n (xd dX5_enterHandshake 102 rfl) 0 rfl ?_
    refine xr_getR (b := (e + 145)) 5 1 (xd dX5_enterHandshake 103 rfl) f5_11 (by decide) (by decide) (lt491 hn (ltS he (by decide))) (kdS_144 he) rfl (rS_144_1 hR he) ?_
    refine xr_iload_n (xd dX5_enterHandshake 104 rfl) 1 rfl ?_
    obtain ⟨o47, h⟩ := h
    have f48 := famS_145 hR he o47
    refine zr_aaload (b := (e + 146 + (x35).toNat)) 3 (xd dX5_enterHandshake 105 rfl) (lt491 hn (ltS he (by decide))) (by decide) (by decide) (kdS_145 he) (lnS_145 he) (by decide) o47 f48.1 ?_
    refine zr_ldcS 16 (xd dX5_enterHandshake 106 rfl) (by decide) rfl ?_
    refine xr_aload_n (xd dX5_enterHandshake 107 rfl) 0 rfl ?_
    refine xr_getR (b := (e + 157)) 5 3 (xd dX5_enterHandshake 108 rfl) f5_19 (by decide) (by decide) (lt491 hn (ltS he (by decide))) (kdS_144 he) rfl (rS_144_3 hR he) ?_
    refine xr_iload_n (xd dX5_enterHandshake 109 rfl) 1 rfl ?_
    obtain ⟨o49, h⟩ := h
    have f50 := famS_157 hR he o49
    refine zr_aaload (b := (e + 158 + (x35).toNat)) 3 (xd dX5_enterHandshake 110 rfl) (lt491 hn (ltS he (by decide))) (by decide) (by decide) (kdS_157 he) (lnS_157 he) (by decide) o49 f50.1 ?_
    refine xr_callV mX5_expand 3 [.ref (e + 146 + (x35).toNat), .ref 1000018, .ref (e + 158 + (x35).toNat)] (xd dX5_enterHandshake 111 rfl) l5_98 kX5_expand rfl (lt491 hn (ltS he (by decide))) (kdS_144 he) (by decide) rfl (by decide) (Nat.le_of_ble_eq_true rfl) (v_X5_expand hn hR he (za_mk f48.2.1.1 f48.2.1.2) (za_mk f50.2.1.1 f50.2.1.2) h) (by decide) (by decide) (fun r_ M_ h_ => ?_) (fun _ _ h_ => h_.elim)
    obtain ⟨J51, L52, rfl, rfl, h⟩ := h_
    show xJ _ _ _ _ _ _ _ _ _ 200 [(0, .ref (e + 144)), (3, .int (oI x35))] [] _ _ _ (zi J51) (li L52)
    refine zr_iinc [(0, .ref (e + 144)), (3, .int (oI (x35 + 1)))] (xd dX5_enterHandshake 112 rfl) 1 rfl (by decide) rfl ?_
    refine xr_goto 159 (xd dX5_enterHandshake 113 rfl) (by decide) ?_
    exact h
def w_X5_enterData (e : Nat) (J : zM) (L : yM) (Q : zM → yM → Prop) : Prop := w_X5_digestAllBut e 0 J L (fun J1 L2 => w_X5_expandDigest e (e + 151) 1000020 (e + 148) J1 L2 (fun J5 L6 => w_X5_expandDigest e (e + 151) 1000021 (e + 149) J5 L6 (fun J9 L10 => zl_z (fun K11 x12 J13 L14 => R32 x12 ∧ (if x12 < 4 then ((0 : Int) ≤ x12 ∧ x12 < 6) ∧ ((0 : Int) ≤ x12 ∧ x12 < 4) ∧ w_X5_expand e (e + 146 + (x12).toNat) 1000017 (e + 153 + (x12).toNat) J13 L14 (fun J22 L23 => ((0 : Int) ≤ x12 ∧ x12 < 6) ∧ ((0 : Int) ≤ x12 ∧ x12 < 4) ∧ w_X5_expand e (e + 146 + (x12).toNat) 1000018 (e + 158 + (x12).toNat) J22 L23 (fun J28 L29 => K11 (x12 + 1) J28 L29)) else ∀ J17 : zM, J17 = zs J13 (e + 144) 11 3 → Q J17 L14)) 2 J9 L10)))
set_option maxHeartbeats 4000000 in
set_option maxRecDepth 100000 in
theorem v_X5_enterData {b : Nat} {dC : Nat → ClassId} {dI : Nat → Nat → Nat} {cA : Nat → ClassId} {ts : Nat → Nat} {l : Launch} {n : Nat} {R : Nat → Nat → Option Nat} {al : Bool} (hn : 491 ≤ n) (hR : xRk R) {e : Nat} (he : iSide e) {J : zM} {L : yM} {Q : zM → yM → Prop} (h : w_X5_enterData e J L Q) : xCn (xGm b dC dI cA ts) l mX5_enterData [.ref (e + 144)] al (n, R, zi J, li L) 0 0 (zQ0 n R Q) (fun _ _ => False) := by
  refine xCn.ofJ (by decide) (Nat.le_of_ble_eq_true rfl) ?_
  show xJ _ _ _ _ _ _ _ _ _ 0 [(0, .ref (e + 144))] [] _ _ _ _ _
  unfold w_X5_enterData at h
  refine xr_aload_n (xd dX5_enterData 0 rfl) 0 rfl ?_
  refine xr_iconst (v := oI 0) (xd dX5_enterData 1 rfl) (by decide) ?_
  refine xr_callV mX5_digestAllBut 1 [.int (oI 0)] (xd dX5_enterData 2 rfl) l5_102 kX5_digestAllBut rfl (lt491 hn (ltS he (by decide))) (kdS_144 he) (by decide) rfl (by decide) (Nat.le_of_ble_eq_true rfl) (v_X5_digestAllBut hn hR he h) (by decide) (by decide) (fun r_ M_ h_ => ?_) (fun _ _ h_ => h_.elim)
  obtain ⟨J1, L2, rfl, rfl, h⟩ := h_
  show xJ _ _ _ _ _ _ _ _ _ 5 [(0, .ref (e + 144))] [] _ _ _ (zi J1) (li L2)
  refine xr_aload_n (xd dX5_enterData 3 rfl) 0 rfl ?_
  refine xr_aload_n (xd dX5_enterData 4 rfl) 0 rfl ?_
  refine xr_getR (b := (e + 145)) 5 1 (xd dX5_enterData 5 rfl) f5_11 (by decide) (by decide) (lt491 hn (ltS he (by decide))) (kdS_144 he) rfl (rS_144_1 hR he) ?_
  refine xr_iconst (v := oI 5) (xd dX5_enterData 6 rfl) (by decide) ?_
  refine zr_aaload (b := (e + 151)) 3 (xd dX5_enterData 7 rfl) (lt491 hn (ltS he (by decide))) (by decide) (by decide) (kdS_145 he) (lnS_145 he) (by decide) ⟨by decide, by decide⟩ (famS_145 hR he (i := 5) ⟨by decide, by decide⟩).1 ?_
  refine zr_ldcS 18 (xd dX5_enterData 8 rfl) (by decide) rfl ?_
  refine xr_aload_n (xd dX5_enterData 9 rfl) 0 rfl ?_
  refine xr_getR (b := (e + 145)) 5 1 (xd dX5_enterData 10 rfl) f5_11 (by decide) (by decide) (lt491 hn (ltS he (by decide))) (kdS_144 he) rfl (rS_144_1 hR he) ?_
  refine xr_iconst (v := oI 2) (xd dX5_enterData 11 rfl) (by decide) ?_
  refine zr_aaload (b := (e + 148)) 3 (xd dX5_enterData 12 rfl) (lt491 hn (ltS he (by decide))) (by decide) (by decide) (kdS_145 he) (lnS_145 he) (by decide) ⟨by decide, by decide⟩ (famS_145 hR he (i := 2) ⟨by decide, by decide⟩).1 ?_
  refine xr_callV mX5_expandDigest 3 [.ref (e + 151), .ref 1000020, .ref (e + 148)] (xd dX5_enterData 13 rfl) l5_112 kX5_expandDigest rfl (lt491 hn (ltS he (by decide))) (kdS_144 he) (by decide) rfl (by decide) (Nat.le_of_ble_eq_true rfl) (v_X5_expandDigest hn hR he (za_mk (kdS_151 he) (ltS he (by decide))) (za_mk (kdS_148 he) (ltS he (by decide))) h) (by decide) (by decide) (fun r_ M_ h_ => ?_) (fun _ _ h_ => h_.elim)
  obtain ⟨J5, L6, rfl, rfl, h⟩ := h_
  show xJ _ _ _ _ _ _ _ _ _ 23 [(0, .ref (e + 144))] [] _ _ _ (zi J5) (li L6)
  refine xr_aload_n (xd dX5_enterData 14 rfl) 0 rfl ?_
  refine xr_aload_n (xd dX5_enterData 15 rfl) 0 rfl ?_
  refine xr_getR (b := (e + 145)) 5 1 (xd dX5_enterData 16 rfl) f5_11 (by decide) (by decide) (lt491 hn (ltS he (by decide))) (kdS_144 he) rfl (rS_144_1 hR he) ?_
  refine xr_iconst (v := oI 5) (xd dX5_enterData 17 rfl) (by decide) ?_
  refine zr_aaload (b := (e + 151)) 3 (xd dX5_enterData 18 rfl) (lt491 hn (ltS he (by decide))) (by decide) (by decide) (kdS_145 he) (lnS_145 he) (by decide) ⟨by decide, by decide⟩ (famS_145 hR he (i := 5) ⟨by decide, by decide⟩).1 ?_
  refine zr_ldcS 19 (xd dX5_enterData 19 rfl) (by decide) rfl ?_
  refine xr_aload_n (xd dX5_enterData 20 rfl) 0 rfl ?_
  refine xr_getR (b := (e + 145)) 5 1 (xd dX5_enterData 21 rfl) f5_11 (by decide) (by decide) (lt491 hn (ltS he (by decide))) (kdS_144 he) rfl (rS_144_1 hR he) ?_
  refine xr_iconst (v := oI 3) (xd dX5_enterData 22 rfl) (by decide) ?_
  refine zr_aaload (b := (e + 149)) 3 (xd dX5_enterData 23 rfl) (lt491 hn (ltS he (by decide))) (by decide) (by decide) (kdS_145 he) (lnS_145 he) (by decide) ⟨by decide, by decide⟩ (famS_145 hR he (i := 3) ⟨by decide, by decide⟩).1 ?_
  refine xr_callV mX5_expandDigest 3 [.ref (e + 151), .ref 1000021, .ref (e + 149)] (xd dX5_enterData 24 rfl) l5_112 kX5_expandDigest rfl (lt491 hn (ltS he (by decide))) (kdS_144 he) (by decide) rfl (by decide) (Nat.le_of_ble_eq_true rfl) (v_X5_expandDigest hn hR he (za_mk (kdS_151 he) (ltS he (by decide))) (za_mk (kdS_149 he) (ltS he (by decide))) h) (by decide) (by decide) (fun r_ M_ h_ => ?_) (fun _ _ h_ => h_.elim)
  obtain ⟨J9, L10, rfl, rfl, h⟩ := h_
  show xJ _ _ _ _ _ _ _ _ _ 41 [(0, .ref (e + 144))] [] _ _ _ (zi J9) (li L10)
  refine xr_iconst (v := oI 2) (xd dX5_enterData 25 rfl) (by decide) ?_
  refine xr_istore_n [(0, .ref (e + 144)), (1, .int (oI 2))] (xd dX5_enterData 26 rfl) rfl (by decide) rfl ?_
  refine h (fun x12 J13 L14 => xJ (xGm b dC dI cA ts) l mX5_enterData 0 0 (zQ0 n R Q) (fun _ _ => False) 0 0 43 [(0, .ref (e + 144)), (1, .int (oI x12))] [] al n R (zi J13) (li L14)) ?_
  intro x12 J13 L14 h
  show xJ _ _ _ _ _ _ _ _ _ 43 [(0, .ref (e + 144)), (1, .int (oI x12))] [] _ _ _ _ _
  refine xr_iload_n (xd dX5_enterData 27 rfl) 1 rfl ?_
  refine xr_aload_n (xd dX5_enterData 28 rfl) 0 rfl ?_
  refine xr_getR (b := (e + 152)) 5 2 (xd dX5_enterData 29 rfl) f5_16 (by decide) (by decide) (lt491 hn (ltS he (by decide))) (kdS_144 he) rfl (rS_144_2 hR he) ?_
  refine zr_alen (v := 4) 3 (xd dX5_enterData 30 rfl) (lt491 hn (ltS he (by decide))) (by decide) (kdS_152 he) (lnS_152 he) rfl ?_
  obtain ⟨o15, h⟩ := h
  refine zr_icmp_ge 94 (xd dX5_enterData 31 rfl) (by decide) o15 (by decide) (fun c16 => ?_) (fun c16 => ?_)
  · replace h := ifn h c16
    refine xr_aload_n (xd dX5_enterData 56 rfl) 0 rfl ?_
    refine xr_iconst (v := oI 3) (xd dX5_enterData 57 rfl) (by decide) ?_
    obtain ⟨J17, e_J17⟩ : ∃ z_ : zM, z_ = zs J13 (e + 144) 11 3 := ⟨_, rfl⟩
    replace h := h J17 e_J17
    refine zr_putI 5 11 11 rfl e_J17 (xd dX5_enterData 58 rfl) f5_49 (by decide) (by decide) (lt491 hn (ltS he (by decide))) (kdS_144 he) (Or.inl rfl) rfl rfl (fun _ => rfl) ?_
    exact xr_vret (xd dX5_enterData 59 rfl) rfl (by decide) (by decide) (fun _ => rfl) ⟨_, _, rfl, rfl, h⟩
  · replace h := ifp h c16
    refine xr_aload_n (xd dX5_enterData 32 rfl) 0 rfl ?_
    refine xr_aload_n (xd dX5_enterData 33 rfl) 0 rfl ?_
    refine xr_getR (b := (e + 145)) 5 1 (xd dX5_enterData 34 rfl) f5_11 (by decide) (by decide) (lt491 hn (ltS he (by decide))) (kdS_144 he) rfl (rS_144_1 hR he) ?_
    refine xr_iload_n (xd dX5_enterData 35 rfl) 1 rfl ?_
    obtain ⟨o18, h⟩ := h
    have f19 := famS_145 hR he o18
    refine zr_aaload (b := (e + 146 + (x12).toNat)) 3 (xd dX5_enterData 36 rfl) (lt491 hn (ltS he (by decide))) (by decide) (by decide) (kdS_145 he) (lnS_145 he) (by decide) o18 f19.1 ?_
    refine zr_ldcS 15 (xd dX5_enterData 37 rfl) (by decide) rfl ?_
    refine xr_aload_n (xd dX5_enterData 38 rfl) 0 rfl ?_
    refine xr_getR (b := (e + 152)) 5 2 (xd dX5_enterData 39 rfl) f5_16 (by decide) (by decide) (lt491 hn (ltS he (by decide))) (kdS_144 he) rfl (rS_144_2 hR he) ?_
    refine xr_iload_n (xd dX5_enterData 40 rfl) 1 rfl ?_
    obtain ⟨o20, h⟩ := h
    have f21 := famS_152 hR he o20
    refine zr_aaload (b := (e + 153 + (x12).toNat)) 3 (xd dX5_enterData 41 rfl) (lt491 hn (ltS he (by decide))) (by decide) (by decide) (kdS_152 he) (lnS_152 he) (by decide) o20 f21.1 ?_
    refine xr_callV mX5_expand 3 [.ref (e + 146 + (x12).toNat), .ref 1000017, .ref (e + 153 + (x12).toNat)] (xd dX5_enterData 42 rfl) l5_98 kX5_expand rfl (lt491 hn (ltS he (by decide))) (kdS_144 he) (by decide) rfl (by decide) (Nat.le_of_ble_eq_true rfl) (v_X5_expand hn hR he (za_mk f19.2.1.1 f19.2.1.2) (za_mk f21.2.1.1 f21.2.1.2) h) (by decide) (by decide) (fun r_ M_ h_ => ?_) (fun _ _ h_ => h_.elim)
    obtain ⟨J22, L23, rfl, rfl, h⟩ := h_
    show xJ _ _ _ _ _ _ _ _ _ 70 [(0, .ref (e + 144)), (1, .int (oI x12))] [] _ _ _ (zi J22) (li L23)
    refine xr_aload_n (xd dX5_enterData 43 rfl) 0 rfl ?_
    refine xr_aload_n (xd dX5_enterData 44 rfl) 0 rfl ?_
    refine xr_getR (b := (e + 145)) 5 1 (xd dX5_enterData 45 rfl) f5_11 (by decide) (by decide) (lt491 hn (ltS he (by decide))) (kdS_144 he) rfl (rS_144_1 hR he) ?_
    refine xr_iload_n (xd dX5_enterData 46 rfl) 1 rfl ?_
    obtain ⟨o24, h⟩ := h
    have f25 := famS_145 hR he o24
    refine zr_aaload (b := (e + 146 + (x12).toNat)) 3 (xd dX5_enterData 47 rfl) (lt491 hn (ltS he (by decide))) (by decide) (by decide) (kdS_145 he) (lnS_145 he) (by decide) o24 f25.1 ?_
    refine zr_ldcS 16 (xd dX5_enterData 48 rfl) (by decide) rfl ?_
    refine xr_aload_n (xd dX5_enterData 49 rfl) 0 rfl ?_
    refine xr_getR (b := (e + 157)) 5 3 (xd dX5_enterData 50 rfl) f5_19 (by decide) (by decide) (lt491 hn (ltS he (by decide))) (kdS_144 he) rfl (rS_144_3 hR he) ?_
    refine xr_iload_n (xd dX5_enterData 51 rfl) 1 rfl ?_
    obtain ⟨o26, h⟩ := h
    have f27 := famS_157 hR he o26
    refine zr_aaload (b := (e + 158 + (x12).toNat)) 3 (xd dX5_enterData 52 rfl) (lt491 hn (ltS he (by decide))) (by decide) (by decide) (kdS_157 he) (lnS_157 he) (by decide) o26 f27.1 ?_
    refine xr_callV mX5_expand 3 [.ref (e + 146 + (x12).toNat), .ref 1000018, .ref (e + 158 + (x12).toNat)] (xd dX5_enterData 53 rfl) l5_98 kX5_expand rfl (lt491 hn (ltS he (by decide))) (kdS_144 he) (by decide) rfl (by decide) (Nat.le_of_ble_eq_true rfl) (v_X5_expand hn hR he (za_mk f25.2.1.1 f25.2.1.2) (za_mk f27.2.1.1 f27.2.1.2) h) (by decide) (by decide) (fun r_ M_ h_ => ?_) (fun _ _ h_ => h_.elim)
    obtain ⟨J28, L29, rfl, rfl, h⟩ := h_
    show xJ _ _ _ _ _ _ _ _ _ 88 [(0, .ref (e + 144)), (1, .int (oI x12))] [] _ _ _ (zi J28) (li L29)
    refine zr_iinc [(0, .ref (e + 144)), (1, .int (oI (x12 + 1)))] (xd dX5_enterData 54 rfl) 1 rfl (by decide) rfl ?_
    refine xr_goto 43 (xd dX5_enterData 55 rfl) (by decide) ?_
    exact h
def w_X5_finishedInto (e : Nat) (p1 : Int) (p2 : Nat) (J : zM) (L : yM) (Q : zM → yM → Prop) : Prop := ((0 : Int) ≤ p1 ∧ p1 < 6) ∧ w_X5_expand e (e + 146 + (p1).toNat) 1000019 (e + 164) J L (fun J3 L4 => w_X5_digestAllBut e 0 J3 L4 (fun J5 L6 => w_X7_clear J5 L6 (fun J7 L8 => w_X7_putAll (e + 165) 0 32 J7 L8 (fun J9 L10 => w_X7_macInto (e + 164) p2 J9 L10 (fun J11 L12 => Q J11 L12)))))
set_option maxHeartbeats 4000000 in
set_option maxRecDepth 100000 in
theorem v_X5_finishedInto {b : Nat} {dC : Nat → ClassId} {dI : Nat → Nat → Nat} {cA : Nat → ClassId} {ts : Nat → Nat} {l : Launch} {n : Nat} {R : Nat → Nat → Option Nat} {al : Bool} (hn : 491 ≤ n) (hR : xRk R) {e : Nat} {p1 : Int} {p2 : Nat} (he : iSide e) (h_p2 : za p2) {J : zM} {L : yM} {Q : zM → yM → Prop} (h : w_X5_finishedInto e p1 p2 J L Q) : xCn (xGm b dC dI cA ts) l mX5_finishedInto [.ref (e + 144), .int (oI p1), .ref p2] al (n, R, zi J, li L) 0 0 (zQ0 n R Q) (fun _ _ => False) := by
  refine xCn.ofJ (by decide) (Nat.le_of_ble_eq_true rfl) ?_
  show xJ _ _ _ _ _ _ _ _ _ 0 [(0, .ref (e + 144)), (1, .int (oI p1)), (2, .ref p2)] [] _ _ _ _ _
  unfold w_X5_finishedInto at h
  refine xr_aload_n (xd dX5_finishedInto 0 rfl) 0 rfl ?_
  refine xr_aload_n (xd dX5_finishedInto 1 rfl) 0 rfl ?_
  refine xr_getR (b := (e + 145)) 5 1 (xd dX5_finishedInto 2 rfl) f5_11 (by decide) (by decide) (lt491 hn (ltS he (by decide))) (kdS_144 he) rfl (rS_144_1 hR he) ?_
  refine xr_iload_n (xd dX5_finishedInto 3 rfl) 1 rfl ?_
  obtain ⟨o1, h⟩ := h
  have f2 := famS_145 hR he o1
  refine zr_aaload (b := (e + 146 + (p1).toNat)) 3 (xd dX5_finishedInto 4 rfl) (lt491 hn (ltS he (by decide))) (by decide) (by decide) (kdS_145 he) (lnS_145 he) (by decide) o1 f2.1 ?_
  refine zr_ldcS 17 (xd dX5_finishedInto 5 rfl) (by decide) rfl ?_
  refine xr_aload_n (xd dX5_finishedInto 6 rfl) 0 rfl ?_
  refine xr_getR (b := (e + 164)) 5 6 (xd dX5_finishedInto 7 rfl) f5_29 (by decide) (by decide) (lt491 hn (ltS he (by decide))) (kdS_144 he) rfl (rS_144_6 hR he) ?_
  refine xr_callV mX5_expand 3 [.ref (e + 146 + (p1).toNat), .ref 1000019, .ref (e + 164)] (xd dX5_finishedInto 8 rfl) l5_98 kX5_expand rfl (lt491 hn (ltS he (by decide))) (kdS_144 he) (by decide) rfl (by decide) (Nat.le_of_ble_eq_true rfl) (v_X5_expand hn hR he (za_mk f2.2.1.1 f2.2.1.2) (za_mk (kdS_164 he) (ltS he (by decide))) h) (by decide) (by decide) (fun r_ M_ h_ => ?_) (fun _ _ h_ => h_.elim)
  obtain ⟨J3, L4, rfl, rfl, h⟩ := h_
  show xJ _ _ _ _ _ _ _ _ _ 16 [(0, .ref (e + 144)), (1, .int (oI p1)), (2, .ref p2)] [] _ _ _ (zi J3) (li L4)
  refine xr_aload_n (xd dX5_finishedInto 9 rfl) 0 rfl ?_
  refine xr_iconst (v := oI 0) (xd dX5_finishedInto 10 rfl) (by decide) ?_
  refine xr_callV mX5_digestAllBut 1 [.int (oI 0)] (xd dX5_finishedInto 11 rfl) l5_102 kX5_digestAllBut rfl (lt491 hn (ltS he (by decide))) (kdS_144 he) (by decide) rfl (by decide) (Nat.le_of_ble_eq_true rfl) (v_X5_digestAllBut hn hR he h) (by decide) (by decide) (fun r_ M_ h_ => ?_) (fun _ _ h_ => h_.elim)
  obtain ⟨J5, L6, rfl, rfl, h⟩ := h_
  show xJ _ _ _ _ _ _ _ _ _ 21 [(0, .ref (e + 144)), (1, .int (oI p1)), (2, .ref p2)] [] _ _ _ (zi J5) (li L6)
  refine xr_aload_n (xd dX5_finishedInto 12 rfl) 0 rfl ?_
  refine xr_getR (b := 6) 5 0 (xd dX5_finishedInto 13 rfl) f5_41 (by decide) (by decide) (lt491 hn (ltS he (by decide))) (kdS_144 he) rfl (rS_144_0 hR he) ?_
  refine xr_callV mX7_clear 0 [] (xd dX5_finishedInto 14 rfl) l5_62 kX7_clear rfl (lt491 hn (by decide)) kd_6 (by decide) rfl (by decide) (Nat.le_of_ble_eq_true rfl) (v_X7_clear hn hR  h) (by decide) (by decide) (fun r_ M_ h_ => ?_) (fun _ _ h_ => h_.elim)
  obtain ⟨J7, L8, rfl, rfl, h⟩ := h_
  show xJ _ _ _ _ _ _ _ _ _ 28 [(0, .ref (e + 144)), (1, .int (oI p1)), (2, .ref p2)] [] _ _ _ (zi J7) (li L8)
  refine xr_aload_n (xd dX5_finishedInto 15 rfl) 0 rfl ?_
  refine xr_getR (b := 6) 5 0 (xd dX5_finishedInto 16 rfl) f5_41 (by decide) (by decide) (lt491 hn (ltS he (by decide))) (kdS_144 he) rfl (rS_144_0 hR he) ?_
  refine xr_aload_n (xd dX5_finishedInto 17 rfl) 0 rfl ?_
  refine xr_getR (b := (e + 165)) 5 7 (xd dX5_finishedInto 18 rfl) f5_32 (by decide) (by decide) (lt491 hn (ltS he (by decide))) (kdS_144 he) rfl (rS_144_7 hR he) ?_
  refine xr_iconst (v := oI 0) (xd dX5_finishedInto 19 rfl) (by decide) ?_
  refine xr_bipush (v := oI 32) (xd dX5_finishedInto 20 rfl) (by decide) ?_
  refine xr_callV mX7_putAll 3 [.ref (e + 165), .int (oI 0), .int (oI 32)] (xd dX5_finishedInto 21 rfl) l5_67 kX7_putAll rfl (lt491 hn (by decide)) kd_6 (by decide) rfl (by decide) (Nat.le_of_ble_eq_true rfl) (v_X7_putAll hn hR (za_mk (kdS_165 he) (ltS he (by decide))) h) (by decide) (by decide) (fun r_ M_ h_ => ?_) (fun _ _ h_ => h_.elim)
  obtain ⟨J9, L10, rfl, rfl, h⟩ := h_
  show xJ _ _ _ _ _ _ _ _ _ 42 [(0, .ref (e + 144)), (1, .int (oI p1)), (2, .ref p2)] [] _ _ _ (zi J9) (li L10)
  refine xr_aload_n (xd dX5_finishedInto 22 rfl) 0 rfl ?_
  refine xr_getR (b := 6) 5 0 (xd dX5_finishedInto 23 rfl) f5_41 (by decide) (by decide) (lt491 hn (ltS he (by decide))) (kdS_144 he) rfl (rS_144_0 hR he) ?_
  refine xr_aload_n (xd dX5_finishedInto 24 rfl) 0 rfl ?_
  refine xr_getR (b := (e + 164)) 5 6 (xd dX5_finishedInto 25 rfl) f5_29 (by decide) (by decide) (lt491 hn (ltS he (by decide))) (kdS_144 he) rfl (rS_144_6 hR he) ?_
  refine xr_aload_n (xd dX5_finishedInto 26 rfl) 2 rfl ?_
  refine xr_callV mX7_macInto 2 [.ref (e + 164), .ref p2] (xd dX5_finishedInto 27 rfl) l5_75 kX7_macInto rfl (lt491 hn (by decide)) kd_6 (by decide) rfl (by decide) (Nat.le_of_ble_eq_true rfl) (v_X7_macInto hn hR (za_mk (kdS_164 he) (ltS he (by decide))) (za_mk h_p2.1 h_p2.2) h) (by decide) (by decide) (fun r_ M_ h_ => ?_) (fun _ _ h_ => h_.elim)
  obtain ⟨J11, L12, rfl, rfl, h⟩ := h_
  show xJ _ _ _ _ _ _ _ _ _ 54 [(0, .ref (e + 144)), (1, .int (oI p1)), (2, .ref p2)] [] _ _ _ (zi J11) (li L12)
  exact xr_vret (xd dX5_finishedInto 28 rfl) rfl (by decide) (by decide) (fun _ => rfl) ⟨_, _, rfl, rfl, h⟩
def w_X5_whichKey (e : Nat) (p1 : Int) (p2 : Int) (J : zM) (L : yM) (Q : Int → zM → yM → Prop) : Prop := Q (((p1 - 2) * 2) + p2) J L
set_option maxHeartbeats 4000000 in
set_option maxRecDepth 100000 in
theorem v_X5_whichKey {b : Nat} {dC : Nat → ClassId} {dI : Nat → Nat → Nat} {cA : Nat → ClassId} {ts : Nat → Nat} {l : Launch} {n : Nat} {R : Nat → Nat → Option Nat} {al : Bool} (hn : 491 ≤ n) (hR : xRk R) {e : Nat} {p1 : Int} {p2 : Int} (he : iSide e) {J : zM} {L : yM} {Q : Int → zM → yM → Prop} (h : w_X5_whichKey e p1 p2 J L Q) : xCn (xGm b dC dI cA ts) l mX5_whichKey [.ref (e + 144), .int (oI p1), .int (oI p2)] al (n, R, zi J, li L) 0 0 (zQ1 n R Q) (fun _ _ => False) := by
  refine xCn.ofJ (by decide) (Nat.le_of_ble_eq_true rfl) ?_
  show xJ _ _ _ _ _ _ _ _ _ 0 [(0, .ref (e + 144)), (1, .int (oI p1)), (2, .int (oI p2))] [] _ _ _ _ _
  unfold w_X5_whichKey at h
  refine xr_iload_n (xd dX5_whichKey 0 rfl) 1 rfl ?_
  refine xr_iconst (v := oI 2) (xd dX5_whichKey 1 rfl) (by decide) ?_
  refine zr_isub (xd dX5_whichKey 2 rfl) ?_
  refine xr_iconst (v := oI 2) (xd dX5_whichKey 3 rfl) (by decide) ?_
  refine zr_imul (xd dX5_whichKey 4 rfl) ?_
  refine xr_iload_n (xd dX5_whichKey 5 rfl) 2 rfl ?_
  refine zr_iadd (xd dX5_whichKey 6 rfl) ?_
  exact xr_iret (xd dX5_whichKey 7 rfl) rfl (by decide) (by decide) (fun _ => rfl) ⟨_, _, _, rfl, rfl, h⟩
def w_X5_veil (e : Nat) (p1 : Nat) (p2 : Int) (p3 : Int) (p4 : Int) (J : zM) (L : yM) (Q : zM → yM → Prop) : Prop := ∀ x1 : Int, x1 = (p2 + 5) → R32 (x1 + p4) ∧ R32 (ln0 p1 : Int) ∧ (if (ln0 p1 : Int) < (x1 + p4) then Q J L else zl_z (fun K5 x6 J7 L8 => R32 (x6 * 32) ∧ R32 p4 ∧ (if (x6 * 32) < p4 then w_X7_clear J7 L8 (fun J12 L13 => w_X7_put 1 J12 L13 (fun J14 L15 => ((0 : Int) ≤ p2 ∧ p2 < (ln0 p1 : Int)) ∧ w_X7_put ((J14 p1 p2) - 32) J14 L15 (fun J17 L18 => w_X7_putAll p1 (p2 + 1) 2 J17 L18 (fun J19 L20 => w_X7_put x6 J19 L20 (fun J21 L22 => ((0 : Int) ≤ p3 ∧ p3 < 4) ∧ w_X7_macInto (e + 153 + (p3).toNat) (e + 166) J21 L22 (fun J25 L26 => zl_z (fun K27 x28 J29 L30 => ∀ K33 : zM → yM → Prop, (∀ (J31 : zM) (L32 : yM), (K5 (x6 + 1) J31 L32) → K33 J31 L32) → R32 x28 ∧ (if x28 < 32 then R32 ((x6 * 32) + x28) ∧ R32 p4 ∧ (if ((x6 * 32) + x28) < p4 then ((0 : Int) ≤ ((x1 + (x6 * 32)) + x28) ∧ ((x1 + (x6 * 32)) + x28) < (ln0 p1 : Int)) ∧ ((0 : Int) ≤ x28 ∧ x28 < 32) ∧ ((0 : Int) ≤ ((x1 + (x6 * 32)) + x28) ∧ ((x1 + (x6 * 32)) + x28) < (ln0 p1 : Int)) ∧ ∀ J42 : zM, J42 = zs J29 p1 ((x1 + (x6 * 32)) + x28) (zxor (J29 p1 ((x1 + (x6 * 32)) + x28)) (J29 (e + 166) x28)) → K27 (x28 + 1) J42 L30 else K33 J29 L30) else K33 J29 L30)) 0 J25 L26)))))) else Q J7 L8)) 0 J L)
set_option maxHeartbeats 4000000 in
set_option maxRecDepth 100000 in
theorem v_X5_veil {b : Nat} {dC : Nat → ClassId} {dI : Nat → Nat → Nat} {cA : Nat → ClassId} {ts : Nat → Nat} {l : Launch} {n : Nat} {R : Nat → Nat → Option Nat} {al : Bool} (hn : 491 ≤ n) (hR : xRk R) {e : Nat} {p1 : Nat} {p2 : Int} {p3 : Int} {p4 : Int} (he : iSide e) (h_p1 : za p1) {J : zM} {L : yM} {Q : zM → yM → Prop} (h : w_X5_veil e p1 p2 p3 p4 J L Q) : xCn (xGm b dC dI cA ts) l mX5_veil [.ref (e + 144), .ref p1, .int (oI p2), .int (oI p3), .int (oI p4)] al (n, R, zi J, li L) 0 0 (zQ0 n R Q) (fun _ _ => False) := by
  refine xCn.ofJ (by decide) (Nat.le_of_ble_eq_true rfl) ?_
  show xJ _ _ _ _ _ _ _ _ _ 0 [(0, .ref (e + 144)), (1, .ref p1), (2, .int (oI p2)), (3, .int (oI p3)), (4, .int (oI p4))] [] _ _ _ _ _
  unfold w_X5_veil at h
  refine xr_iload_n (xd dX5_veil 0 rfl) 2 rfl ?_
  refine xr_iconst (v := oI 5) (xd dX5_veil 1 rfl) (by decide) ?_
  refine zr_iadd (xd dX5_veil 2 rfl) ?_
  obtain ⟨x1, e_x1⟩ : ∃ z_ : Int, z_ = (p2 + 5) := ⟨_, rfl⟩
  replace h := h x1 e_x1
  refine zr_nm e_x1 ?_
  refine xr_istore [(0, .ref (e + 144)), (1, .ref p1), (2, .int (oI p2)), (3, .int (oI p3)), (4, .int (oI p4)), (5, .int (oI x1))] (xd dX5_veil 3 rfl) (by decide) rfl ?_
  refine xr_iload (xd dX5_veil 4 rfl) 5 rfl ?_
  refine xr_iload (xd dX5_veil 5 rfl) 4 rfl ?_
  refine zr_iadd (xd dX5_veil 6 rfl) ?_
  refine xr_aload_n (xd dX5_veil 7 rfl) 1 rfl ?_
  refine zr_alen (v := (ln0 p1 : Int)) 0 (xd dX5_veil 8 rfl) (lt491 hn h_p1.2) (by decide) h_p1.1 rfl rfl ?_
  obtain ⟨o2, h⟩ := h
  obtain ⟨o3, h⟩ := h
  refine zr_icmp_le 16 (xd dX5_veil 9 rfl) (by decide) o2 o3 (fun c4 => ?_) (fun c4 => ?_)
  · replace h := ifn h c4
    refine xr_iconst (v := oI 0) (xd dX5_veil 11 rfl) (by decide) ?_
    refine xr_istore [(0, .ref (e + 144)), (1, .ref p1), (2, .int (oI p2)), (3, .int (oI p3)), (4, .int (oI p4)), (5, .int (oI x1)), (6, .int (oI 0))] (xd dX5_veil 12 rfl) (by decide) rfl ?_
    refine h (fun x6 J7 L8 => xJ (xGm b dC dI cA ts) l mX5_veil 0 0 (zQ0 n R Q) (fun _ _ => False) 0 0 19 [(0, .ref (e + 144)), (1, .ref p1), (2, .int (oI p2)), (3, .int (oI p3)), (4, .int (oI p4)), (5, .int (oI x1)), (6, .int (oI x6))] [] al n R (zi J7) (li L8)) ?_
    intro x6 J7 L8 h
    show xJ _ _ _ _ _ _ _ _ _ 19 [(0, .ref (e + 144)), (1, .ref p1), (2, .int (oI p2)), (3, .int (oI p3)), (4, .int (oI p4)), (5, .int (oI x1)), (6, .int (oI x6))] [] _ _ _ _ _
    refine xr_iload (xd dX5_veil 13 rfl) 6 rfl ?_
    refine xr_bipush (v := oI 32) (xd dX5_veil 14 rfl) (by decide) ?_
    refine zr_imul (xd dX5_veil 15 rfl) ?_
    refine xr_iload (xd dX5_veil 16 rfl) 4 rfl ?_
    obtain ⟨o9, h⟩ := h
    obtain ⟨o10, h⟩ := h
    refine zr_icmp_ge 153 (xd dX5_veil 17 rfl) (by decide) o9 o10 (fun c11 => ?_) (fun c11 => ?_)
    · replace h := ifn h c11
      exact xr_vret (xd dX5_veil 86 rfl) rfl (by decide) (by decide) (fun _ => rfl) ⟨_, _, rfl, rfl, h⟩
    · replace h := ifp h c11
      refine xr_aload_n (xd dX5_veil 18 rfl) 0 rfl ?_
      refine xr_getR (b := 6) 5 0 (xd dX5_veil 19 rfl) f5_41 (by decide) (by decide) (lt491 hn (ltS he (by decide))) (kdS_144 he) rfl (rS_144_0 hR he) ?_
      refine xr_callV mX7_clear 0 [] (xd dX5_veil 20 rfl) l5_62 kX7_clear rfl (lt491 hn (by decide)) kd_6 (by decide) rfl (by decide) (Nat.le_of_ble_eq_true rfl) (v_X7_clear hn hR  h) (by decide) (by decide) (fun r_ M_ h_ => ?_) (fun _ _ h_ => h_.elim)
      obtain ⟨J12, L13, rfl, rfl, h⟩ := h_
      show xJ _ _ _ _ _ _ _ _ _ 36 [(0, .ref (e + 144)), (1, .ref p1), (2, .int (oI p2)), (3, .int (oI p3)), (4, .int (oI p4)), (5, .int (oI x1)), (6, .int (oI x6))] [] _ _ _ (zi J12) (li L13)
      refine xr_aload_n (xd dX5_veil 21 rfl) 0 rfl ?_
      refine xr_getR (b := 6) 5 0 (xd dX5_veil 22 rfl) f5_41 (by decide) (by decide) (lt491 hn (ltS he (by decide))) (kdS_144 he) rfl (rS_144_0 hR he) ?_
      refine xr_iconst (v := oI 1) (xd dX5_veil 23 rfl) (by decide) ?_
      refine xr_callV mX7_put 1 [.int (oI 1)] (xd dX5_veil 24 rfl) l5_85 kX7_put rfl (lt491 hn (by decide)) kd_6 (by decide) rfl (by decide) (Nat.le_of_ble_eq_true rfl) (v_X7_put hn hR  h) (by decide) (by decide) (fun r_ M_ h_ => ?_) (fun _ _ h_ => h_.elim)
      obtain ⟨J14, L15, rfl, rfl, h⟩ := h_
      show xJ _ _ _ _ _ _ _ _ _ 44 [(0, .ref (e + 144)), (1, .ref p1), (2, .int (oI p2)), (3, .int (oI p3)), (4, .int (oI p4)), (5, .int (oI x1)), (6, .int (oI x6))] [] _ _ _ (zi J14) (li L15)
      refine xr_aload_n (xd dX5_veil 25 rfl) 0 rfl ?_
      refine xr_getR (b := 6) 5 0 (xd dX5_veil 26 rfl) f5_41 (by decide) (by decide) (lt491 hn (ltS he (by decide))) (kdS_144 he) rfl (rS_144_0 hR he) ?_
      refine xr_aload_n (xd dX5_veil 27 rfl) 1 rfl ?_
      refine xr_iload_n (xd dX5_veil 28 rfl) 2 rfl ?_
      obtain ⟨o16, h⟩ := h
      refine zr_iaload (xd dX5_veil 29 rfl) (lt491 hn h_p1.2) h_p1.1 rfl (ln0_lt p1) o16 ?_
      refine xr_bipush (v := oI 32) (xd dX5_veil 30 rfl) (by decide) ?_
      refine zr_isub (xd dX5_veil 31 rfl) ?_
      refine xr_callV mX7_put 1 [.int (oI ((J14 p1 p2) - 32))] (xd dX5_veil 32 rfl) l5_85 kX7_put rfl (lt491 hn (by decide)) kd_6 (by decide) rfl (by decide) (Nat.le_of_ble_eq_true rfl) (v_X7_put hn hR  h) (by decide) (by decide) (fun r_ M_ h_ => ?_) (fun _ _ h_ => h_.elim)
      obtain ⟨J17, L18, rfl, rfl, h⟩ := h_
      show xJ _ _ _ _ _ _ _ _ _ 57 [(0, .ref (e + 144)), (1, .ref p1), (2, .int (oI p2)), (3, .int (oI p3)), (4, .int (oI p4)), (5, .int (oI x1)), (6, .int (oI x6))] [] _ _ _ (zi J17) (li L18)
      refine xr_aload_n (xd dX5_veil 33 rfl) 0 rfl ?_
      refine xr_getR (b := 6) 5 0 (xd dX5_veil 34 rfl) f5_41 (by decide) (by decide) (lt491 hn (ltS he (by decide))) (kdS_144 he) rfl (rS_144_0 hR he) ?_
      refine xr_aload_n (xd dX5_veil 35 rfl) 1 rfl ?_
      refine xr_iload_n (xd dX5_veil 36 rfl) 2 rfl ?_
      refine xr_iconst (v := oI 1) (xd dX5_veil 37 rfl) (by decide) ?_
      refine zr_iadd (xd dX5_veil 38 rfl) ?_
      refine xr_iconst (v := oI 2) (xd dX5_veil 39 rfl) (by decide) ?_
      refine xr_callV mX7_putAll 3 [.ref p1, .int (oI (p2 + 1)), .int (oI 2)] (xd dX5_veil 40 rfl) l5_67 kX7_putAll rfl (lt491 hn (by decide)) kd_6 (by decide) rfl (by decide) (Nat.le_of_ble_eq_true rfl) (v_X7_putAll hn hR (za_mk h_p1.1 h_p1.2) h) (by decide) (by decide) (fun r_ M_ h_ => ?_) (fun _ _ h_ => h_.elim)
      obtain ⟨J19, L20, rfl, rfl, h⟩ := h_
      show xJ _ _ _ _ _ _ _ _ _ 69 [(0, .ref (e + 144)), (1, .ref p1), (2, .int (oI p2)), (3, .int (oI p3)), (4, .int (oI p4)), (5, .int (oI x1)), (6, .int (oI x6))] [] _ _ _ (zi J19) (li L20)
      refine xr_aload_n (xd dX5_veil 41 rfl) 0 rfl ?_
      refine xr_getR (b := 6) 5 0 (xd dX5_veil 42 rfl) f5_41 (by decide) (by decide) (lt491 hn (ltS he (by decide))) (kdS_144 he) rfl (rS_144_0 hR he) ?_
      refine xr_iload (xd dX5_veil 43 rfl) 6 rfl ?_
      refine xr_callV mX7_put 1 [.int (oI x6)] (xd dX5_veil 44 rfl) l5_85 kX7_put rfl (lt491 hn (by decide)) kd_6 (by decide) rfl (by decide) (Nat.le_of_ble_eq_true rfl) (v_X7_put hn hR  h) (by decide) (by decide) (fun r_ M_ h_ => ?_) (fun _ _ h_ => h_.elim)
      obtain ⟨J21, L22, rfl, rfl, h⟩ := h_
      show xJ _ _ _ _ _ _ _ _ _ 78 [(0, .ref (e + 144)), (1, .ref p1), (2, .int (oI p2)), (3, .int (oI p3)), (4, .int (oI p4)), (5, .int (oI x1)), (6, .int (oI x6))] [] _ _ _ (zi J21) (li L22)
      refine xr_aload_n (xd dX5_veil 45 rfl) 0 rfl ?_
      refine xr_getR (b := 6) 5 0 (xd dX5_veil 46 rfl) f5_41 (by decide) (by decide) (lt491 hn (ltS he (by decide))) (kdS_144 he) rfl (rS_144_0 hR he) ?_
      refine xr_aload_n (xd dX5_veil 47 rfl) 0 rfl ?_
      refine xr_getR (b := (e + 152)) 5 2 (xd dX5_veil 48 rfl) f5_16 (by decide) (by decide) (lt491 hn (ltS he (by decide))) (kdS_144 he) rfl (rS_144_2 hR he) ?_
      refine xr_iload_n (xd dX5_veil 49 rfl) 3 rfl ?_
      obtain ⟨o23, h⟩ := h
      have f24 := famS_152 hR he o23
      refine zr_aaload (b := (e + 153 + (p3).toNat)) 3 (xd dX5_veil 50 rfl) (lt491 hn (ltS he (by decide))) (by decide) (by decide) (kdS_152 he) (lnS_152 he) (by decide) o23 f24.1 ?_
      refine xr_aload_n (xd dX5_veil 51 rfl) 0 rfl ?_
      refine xr_getR (b := (e + 166)) 5 8 (xd dX5_veil 52 rfl) f5_35 (by decide) (by decide) (lt491 hn (ltS he (by decide))) (kdS_144 he) rfl (rS_144_8 hR he) ?_
      refine xr_callV mX7_macInto 2 [.ref (e + 153 + (p3).toNat), .ref (e + 166)] (xd dX5_veil 53 rfl) l5_75 kX7_macInto rfl (lt491 hn (by decide)) kd_6 (by decide) rfl (by decide) (Nat.le_of_ble_eq_true rfl) (v_X7_macInto hn hR (za_mk f24.2.1.1 f24.2.1.2) (za_mk (kdS_166 he) (ltS he (by decide))) h) (by decide) (by decide) (fun r_ M_ h_ => ?_) (fun _ _ h_ => h_.elim)
      obtain ⟨J25, L26, rfl, rfl, h⟩ := h_
      show xJ _ _ _ _ _ _ _ _ _ 95 [(0, .ref (e + 144)), (1, .ref p1), (2, .int (oI p2)), (3, .int (oI p3)), (4, .int (oI p4)), (5, .int (oI x1)), (6, .int (oI x6))] [] _ _ _ (zi J25) (li L26)
      refine xr_iconst (v := oI 0) (xd dX5_veil 54 rfl) (by decide) ?_
      refine xr_istore [(0, .ref (e + 144)), (1, .ref p1), (2, .int (oI p2)), (3, .int (oI p3)), (4, .int (oI p4)), (5, .int (oI x1)), (6, .int (oI x6)), (7, .int (oI 0))] (xd dX5_veil 55 rfl) (by decide) rfl ?_
      refine h (fun x28 J29 L30 => xJ (xGm b dC dI cA ts) l mX5_veil 0 0 (zQ0 n R Q) (fun _ _ => False) 0 0 98 [(0, .ref (e + 144)), (1, .ref p1), (2, .int (oI p2)), (3, .int (oI p3)), (4, .int (oI p4)), (5, .int (oI x1)), (6, .int (oI x6)), (7, .int (oI x28))] [] al n R (zi J29) (li L30)) ?_
      intro x28 J29 L30 h
      show xJ _ _ _ _ _ _ _ _ _ 98 [(0, .ref (e + 144)), (1, .ref p1), (2, .int (oI p2)), (3, .int (oI p3)), (4, .int (oI p4)), (5, .int (oI x1)), (6, .int (oI x6)), (7, .int (oI x28))] [] _ _ _ _ _
      refine xr_iload (xd dX5_veil 56 rfl) 7 rfl ?_
      refine xr_bipush (v := oI 32) (xd dX5_veil 57 rfl) (by decide) ?_
      replace h := h (fun (J31 : zM) (L32 : yM) => xJ (xGm b dC dI cA ts) l mX5_veil 0 0 (zQ0 n R Q) (fun _ _ => False) 0 0 147 [(0, .ref (e + 144)), (1, .ref p1), (2, .int (oI p2)), (3, .int (oI p3)), (4, .int (oI p4)), (5, .int (oI x1)), (6, .int (oI x6))] [] al n R (zi J31) (li L32)) (by
        intro J31 L32 h
        show xJ _ _ _ _ _ _ _ _ _ 147 [(0, .ref (e + 144)), (1, .ref p1), (2, .int (oI p2)), (3, .int (oI p3)), (4, .int (oI p4)), (5, .int (oI x1)), (6, .int (oI x6))] [] _ _ _ _ _
        refine zr_iinc [(0, .ref (e + 144)), (1, .ref p1), (2, .int (oI p2)), (3, .int (oI p3)), (4, .int (oI p4)), (5, .int (oI x1)), (6, .int (oI (x6 + 1)))] (xd dX5_veil 84 rfl) 6 rfl (by decide) rfl ?_
        refine xr_goto 19 (xd dX5_veil 85 rfl) (by decide) ?_
        exact h)
      obtain ⟨o34, h⟩ := h
      refine zr_icmp_ge 147 (xd dX5_veil 58 rfl) (by decide) o34 (by decide) (fun c35 => ?_) (fun c35 => ?_)
      · replace h := ifn h c35
        refine xJ.pick (ls' := [(0, .ref (e + 144)), (1, .ref p1), (2, .int (oI p2)), (3, .int (oI p3)), (4, .int (oI p4)), (5, .int (oI x1)), (6, .int (oI x6))]) [0, 1, 2, 3, 4, 5, 6] rfl ?_
        exact h
      · replace h := ifp h c35
        refine xr_iload (xd dX5_veil 59 rfl) 6 rfl ?_
        refine xr_bipush (v := oI 32) (xd dX5_veil 60 rfl) (by decide) ?_
        refine zr_imul (xd dX5_veil 61 rfl) ?_
        refine xr_iload (xd dX5_veil 62 rfl) 7 rfl ?_
        refine zr_iadd (xd dX5_veil 63 rfl) ?_
        refine xr_iload (xd dX5_veil 64 rfl) 4 rfl ?_
        obtain ⟨o36, h⟩ := h
        obtain ⟨o37, h⟩ := h
        refine zr_icmp_ge 147 (xd dX5_veil 65 rfl) (by decide) o36 o37 (fun c38 => ?_) (fun c38 => ?_)
        · replace h := ifn h c38
          refine xJ.pick (ls' := [(0, .ref (e + 144)), (1, .ref p1), (2, .int (oI p2)), (3, .int (oI p3)), (4, .int (oI p4)), (5, .int (oI x1)), (6, .int (oI x6))]) [0, 1, 2, 3, 4, 5, 6] rfl ?_
          exact h
        · replace h := ifp h c38
          refine xr_aload_n (xd dX5_veil 66 rfl) 1 rfl ?_
          refine xr_iload (xd dX5_veil 67 rfl) 5 rfl ?_
          refine xr_iload (xd dX5_veil 68 rfl) 6 rfl ?_
          refine xr_bipush (v := oI 32) (xd dX5_veil 69 rfl) (by decide) ?_
          refine zr_imul (xd dX5_veil 70 rfl) ?_
          refine zr_iadd (xd dX5_veil 71 rfl) ?_
          refine xr_iload (xd dX5_veil 72 rfl) 7 rfl ?_
          refine zr_iadd (xd dX5_veil 73 rfl) ?_
          refine xr_dup2 (xd dX5_veil 74 rfl) rfl rfl ?_
          obtain ⟨o39, h⟩ := h
          refine zr_iaload (xd dX5_veil 75 rfl) (lt491 hn h_p1.2) h_p1.1 rfl (ln0_lt p1) o39 ?_
          refine xr_aload_n (xd dX5_veil 76 rfl) 0 rfl ?_
          refine xr_getR (b := (e + 166)) 5 8 (xd dX5_veil 77 rfl) f5_35 (by decide) (by decide) (lt491 hn (ltS he (by decide))) (kdS_144 he) rfl (rS_144_8 hR he) ?_
          refine xr_iload (xd dX5_veil 78 rfl) 7 rfl ?_
          obtain ⟨o40, h⟩ := h
          refine zr_iaload (xd dX5_veil 79 rfl) (lt491 hn (ltS he (by decide))) (kdS_166 he) (lnS_166 he) (by decide) o40 ?_
          refine zr_ixor (xd dX5_veil 80 rfl) ?_
          obtain ⟨o41, h⟩ := h
          obtain ⟨J42, e_J42⟩ : ∃ z_ : zM, z_ = zs J29 p1 ((x1 + (x6 * 32)) + x28) (zxor (J29 p1 ((x1 + (x6 * 32)) + x28)) (J29 (e + 166) x28)) := ⟨_, rfl⟩
          replace h := h J42 e_J42
          refine zr_iastore e_J42 (xd dX5_veil 81 rfl) (lt491 hn h_p1.2) h_p1.1 rfl (ln0_lt p1) o41 ?_
          refine zr_iinc [(0, .ref (e + 144)), (1, .ref p1), (2, .int (oI p2)), (3, .int (oI p3)), (4, .int (oI p4)), (5, .int (oI x1)), (6, .int (oI x6)), (7, .int (oI (x28 + 1)))] (xd dX5_veil 82 rfl) 7 rfl (by decide) rfl ?_
          refine xr_goto 98 (xd dX5_veil 83 rfl) (by decide) ?_
          exact h
  · replace h := ifp h c4
    exact xr_vret (xd dX5_veil 10 rfl) rfl (by decide) (by decide) (fun _ => rfl) ⟨_, _, rfl, rfl, h⟩
def w_X5_tagOf (e : Nat) (p1 : Nat) (p2 : Int) (p3 : Int) (p4 : Int) (J : zM) (L : yM) (Q : Nat → zM → yM → Prop) : Prop := w_X7_clear J L (fun J1 L2 => w_X7_put 2 J1 L2 (fun J3 L4 => ((0 : Int) ≤ p2 ∧ p2 < (ln0 p1 : Int)) ∧ w_X7_put ((J3 p1 p2) - 32) J3 L4 (fun J6 L7 => w_X7_putAll p1 (p2 + 1) 2 J6 L7 (fun J8 L9 => w_X7_putAll p1 p2 (5 + p4) J8 L9 (fun J10 L11 => ((0 : Int) ≤ p3 ∧ p3 < 4) ∧ w_X7_macInto (e + 153 + (p3).toNat) (e + 166) J10 L11 (fun J14 L15 => Q (e + 166) J14 L15))))))
set_option maxHeartbeats 4000000 in
set_option maxRecDepth 100000 in
theorem v_X5_tagOf {b : Nat} {dC : Nat → ClassId} {dI : Nat → Nat → Nat} {cA : Nat → ClassId} {ts : Nat → Nat} {l : Launch} {n : Nat} {R : Nat → Nat → Option Nat} {al : Bool} (hn : 491 ≤ n) (hR : xRk R) {e : Nat} {p1 : Nat} {p2 : Int} {p3 : Int} {p4 : Int} (he : iSide e) (h_p1 : za p1) {J : zM} {L : yM} {Q : Nat → zM → yM → Prop} (h : w_X5_tagOf e p1 p2 p3 p4 J L Q) : xCn (xGm b dC dI cA ts) l mX5_tagOf [.ref (e + 144), .ref p1, .int (oI p2), .int (oI p3), .int (oI p4)] al (n, R, zi J, li L) 0 0 (zQ3 n R Q) (fun _ _ => False) := by
  refine xCn.ofJ (by decide) (Nat.le_of_ble_eq_true rfl) ?_
  show xJ _ _ _ _ _ _ _ _ _ 0 [(0, .ref (e + 144)), (1, .ref p1), (2, .int (oI p2)), (3, .int (oI p3)), (4, .int (oI p4))] [] _ _ _ _ _
  unfold w_X5_tagOf at h
  refine xr_aload_n (xd dX5_tagOf 0 rfl) 0 rfl ?_
  refine xr_getR (b := 6) 5 0 (xd dX5_tagOf 1 rfl) f5_41 (by decide) (by decide) (lt491 hn (ltS he (by decide))) (kdS_144 he) rfl (rS_144_0 hR he) ?_
  refine xr_callV mX7_clear 0 [] (xd dX5_tagOf 2 rfl) l5_62 kX7_clear rfl (lt491 hn (by decide)) kd_6 (by decide) rfl (by decide) (Nat.le_of_ble_eq_true rfl) (v_X7_clear hn hR  h) (by decide) (by decide) (fun r_ M_ h_ => ?_) (fun _ _ h_ => h_.elim)
  obtain ⟨J1, L2, rfl, rfl, h⟩ := h_
  show xJ _ _ _ _ _ _ _ _ _ 7 [(0, .ref (e + 144)), (1, .ref p1), (2, .int (oI p2)), (3, .int (oI p3)), (4, .int (oI p4))] [] _ _ _ (zi J1) (li L2)
  refine xr_aload_n (xd dX5_tagOf 3 rfl) 0 rfl ?_
  refine xr_getR (b := 6) 5 0 (xd dX5_tagOf 4 rfl) f5_41 (by decide) (by decide) (lt491 hn (ltS he (by decide))) (kdS_144 he) rfl (rS_144_0 hR he) ?_
  refine xr_iconst (v := oI 2) (xd dX5_tagOf 5 rfl) (by decide) ?_
  refine xr_callV mX7_put 1 [.int (oI 2)] (xd dX5_tagOf 6 rfl) l5_85 kX7_put rfl (lt491 hn (by decide)) kd_6 (by decide) rfl (by decide) (Nat.le_of_ble_eq_true rfl) (v_X7_put hn hR  h) (by decide) (by decide) (fun r_ M_ h_ => ?_) (fun _ _ h_ => h_.elim)
  obtain ⟨J3, L4, rfl, rfl, h⟩ := h_
  show xJ _ _ _ _ _ _ _ _ _ 15 [(0, .ref (e + 144)), (1, .ref p1), (2, .int (oI p2)), (3, .int (oI p3)), (4, .int (oI p4))] [] _ _ _ (zi J3) (li L4)
  refine xr_aload_n (xd dX5_tagOf 7 rfl) 0 rfl ?_
  refine xr_getR (b := 6) 5 0 (xd dX5_tagOf 8 rfl) f5_41 (by decide) (by decide) (lt491 hn (ltS he (by decide))) (kdS_144 he) rfl (rS_144_0 hR he) ?_
  refine xr_aload_n (xd dX5_tagOf 9 rfl) 1 rfl ?_
  refine xr_iload_n (xd dX5_tagOf 10 rfl) 2 rfl ?_
  obtain ⟨o5, h⟩ := h
  refine zr_iaload (xd dX5_tagOf 11 rfl) (lt491 hn h_p1.2) h_p1.1 rfl (ln0_lt p1) o5 ?_
  refine xr_bipush (v := oI 32) (xd dX5_tagOf 12 rfl) (by decide) ?_
  refine zr_isub (xd dX5_tagOf 13 rfl) ?_
  refine xr_callV mX7_put 1 [.int (oI ((J3 p1 p2) - 32))] (xd dX5_tagOf 14 rfl) l5_85 kX7_put rfl (lt491 hn (by decide)) kd_6 (by decide) rfl (by decide) (Nat.le_of_ble_eq_true rfl) (v_X7_put hn hR  h) (by decide) (by decide) (fun r_ M_ h_ => ?_) (fun _ _ h_ => h_.elim)
  obtain ⟨J6, L7, rfl, rfl, h⟩ := h_
  show xJ _ _ _ _ _ _ _ _ _ 28 [(0, .ref (e + 144)), (1, .ref p1), (2, .int (oI p2)), (3, .int (oI p3)), (4, .int (oI p4))] [] _ _ _ (zi J6) (li L7)
  refine xr_aload_n (xd dX5_tagOf 15 rfl) 0 rfl ?_
  refine xr_getR (b := 6) 5 0 (xd dX5_tagOf 16 rfl) f5_41 (by decide) (by decide) (lt491 hn (ltS he (by decide))) (kdS_144 he) rfl (rS_144_0 hR he) ?_
  refine xr_aload_n (xd dX5_tagOf 17 rfl) 1 rfl ?_
  refine xr_iload_n (xd dX5_tagOf 18 rfl) 2 rfl ?_
  refine xr_iconst (v := oI 1) (xd dX5_tagOf 19 rfl) (by decide) ?_
  refine zr_iadd (xd dX5_tagOf 20 rfl) ?_
  refine xr_iconst (v := oI 2) (xd dX5_tagOf 21 rfl) (by decide) ?_
  refine xr_callV mX7_putAll 3 [.ref p1, .int (oI (p2 + 1)), .int (oI 2)] (xd dX5_tagOf 22 rfl) l5_67 kX7_putAll rfl (lt491 hn (by decide)) kd_6 (by decide) rfl (by decide) (Nat.le_of_ble_eq_true rfl) (v_X7_putAll hn hR (za_mk h_p1.1 h_p1.2) h) (by decide) (by decide) (fun r_ M_ h_ => ?_) (fun _ _ h_ => h_.elim)
  obtain ⟨J8, L9, rfl, rfl, h⟩ := h_
  show xJ _ _ _ _ _ _ _ _ _ 40 [(0, .ref (e + 144)), (1, .ref p1), (2, .int (oI p2)), (3, .int (oI p3)), (4, .int (oI p4))] [] _ _ _ (zi J8) (li L9)
  refine xr_aload_n (xd dX5_tagOf 23 rfl) 0 rfl ?_
  refine xr_getR (b := 6) 5 0 (xd dX5_tagOf 24 rfl) f5_41 (by decide) (by decide) (lt491 hn (ltS he (by decide))) (kdS_144 he) rfl (rS_144_0 hR he) ?_
  refine xr_aload_n (xd dX5_tagOf 25 rfl) 1 rfl ?_
  refine xr_iload_n (xd dX5_tagOf 26 rfl) 2 rfl ?_
  refine xr_iconst (v := oI 5) (xd dX5_tagOf 27 rfl) (by decide) ?_
  refine xr_iload (xd dX5_tagOf 28 rfl) 4 rfl ?_
  refine zr_iadd (xd dX5_tagOf 29 rfl) ?_
  refine xr_callV mX7_putAll 3 [.ref p1, .int (oI p2), .int (oI (5 + p4))] (xd dX5_tagOf 30 rfl) l5_67 kX7_putAll rfl (lt491 hn (by decide)) kd_6 (by decide) rfl (by decide) (Nat.le_of_ble_eq_true rfl) (v_X7_putAll hn hR (za_mk h_p1.1 h_p1.2) h) (by decide) (by decide) (fun r_ M_ h_ => ?_) (fun _ _ h_ => h_.elim)
  obtain ⟨J10, L11, rfl, rfl, h⟩ := h_
  show xJ _ _ _ _ _ _ _ _ _ 53 [(0, .ref (e + 144)), (1, .ref p1), (2, .int (oI p2)), (3, .int (oI p3)), (4, .int (oI p4))] [] _ _ _ (zi J10) (li L11)
  refine xr_aload_n (xd dX5_tagOf 31 rfl) 0 rfl ?_
  refine xr_getR (b := 6) 5 0 (xd dX5_tagOf 32 rfl) f5_41 (by decide) (by decide) (lt491 hn (ltS he (by decide))) (kdS_144 he) rfl (rS_144_0 hR he) ?_
  refine xr_aload_n (xd dX5_tagOf 33 rfl) 0 rfl ?_
  refine xr_getR (b := (e + 152)) 5 2 (xd dX5_tagOf 34 rfl) f5_16 (by decide) (by decide) (lt491 hn (ltS he (by decide))) (kdS_144 he) rfl (rS_144_2 hR he) ?_
  refine xr_iload_n (xd dX5_tagOf 35 rfl) 3 rfl ?_
  obtain ⟨o12, h⟩ := h
  have f13 := famS_152 hR he o12
  refine zr_aaload (b := (e + 153 + (p3).toNat)) 3 (xd dX5_tagOf 36 rfl) (lt491 hn (ltS he (by decide))) (by decide) (by decide) (kdS_152 he) (lnS_152 he) (by decide) o12 f13.1 ?_
  refine xr_aload_n (xd dX5_tagOf 37 rfl) 0 rfl ?_
  refine xr_getR (b := (e + 166)) 5 8 (xd dX5_tagOf 38 rfl) f5_35 (by decide) (by decide) (lt491 hn (ltS he (by decide))) (kdS_144 he) rfl (rS_144_8 hR he) ?_
  refine xr_callV mX7_macInto 2 [.ref (e + 153 + (p3).toNat), .ref (e + 166)] (xd dX5_tagOf 39 rfl) l5_75 kX7_macInto rfl (lt491 hn (by decide)) kd_6 (by decide) rfl (by decide) (Nat.le_of_ble_eq_true rfl) (v_X7_macInto hn hR (za_mk f13.2.1.1 f13.2.1.2) (za_mk (kdS_166 he) (ltS he (by decide))) h) (by decide) (by decide) (fun r_ M_ h_ => ?_) (fun _ _ h_ => h_.elim)
  obtain ⟨J14, L15, rfl, rfl, h⟩ := h_
  show xJ _ _ _ _ _ _ _ _ _ 70 [(0, .ref (e + 144)), (1, .ref p1), (2, .int (oI p2)), (3, .int (oI p3)), (4, .int (oI p4))] [] _ _ _ (zi J14) (li L15)
  refine xr_aload_n (xd dX5_tagOf 40 rfl) 0 rfl ?_
  refine xr_getR (b := (e + 166)) 5 8 (xd dX5_tagOf 41 rfl) f5_35 (by decide) (by decide) (lt491 hn (ltS he (by decide))) (kdS_144 he) rfl (rS_144_8 hR he) ?_
  exact xr_aret (xd dX5_tagOf 42 rfl) rfl (by decide) (by decide) (fun _ => rfl) ⟨_, _, _, rfl, rfl, h⟩
def w_X5_maskOf (e : Nat) (p1 : Nat) (p2 : Int) (p3 : Int) (J : zM) (L : yM) (Q : Int → zM → yM → Prop) : Prop := w_X7_clear J L (fun J1 L2 => w_X7_putAll p1 p2 8 J1 L2 (fun J3 L4 => ((0 : Int) ≤ p3 ∧ p3 < 4) ∧ w_X7_macInto (e + 158 + (p3).toNat) (e + 166) J3 L4 (fun J7 L8 => Q (zor (zshl (J7 (e + 166) 0) 8) (J7 (e + 166) 1)) J7 L8)))
set_option maxHeartbeats 4000000 in
set_option maxRecDepth 100000 in
theorem v_X5_maskOf {b : Nat} {dC : Nat → ClassId} {dI : Nat → Nat → Nat} {cA : Nat → ClassId} {ts : Nat → Nat} {l : Launch} {n : Nat} {R : Nat → Nat → Option Nat} {al : Bool} (hn : 491 ≤ n) (hR : xRk R) {e : Nat} {p1 : Nat} {p2 : Int} {p3 : Int} (he : iSide e) (h_p1 : za p1) {J : zM} {L : yM} {Q : Int → zM → yM → Prop} (h : w_X5_maskOf e p1 p2 p3 J L Q) : xCn (xGm b dC dI cA ts) l mX5_maskOf [.ref (e + 144), .ref p1, .int (oI p2), .int (oI p3)] al (n, R, zi J, li L) 0 0 (zQ1 n R Q) (fun _ _ => False) := by
  refine xCn.ofJ (by decide) (Nat.le_of_ble_eq_true rfl) ?_
  show xJ _ _ _ _ _ _ _ _ _ 0 [(0, .ref (e + 144)), (1, .ref p1), (2, .int (oI p2)), (3, .int (oI p3))] [] _ _ _ _ _
  unfold w_X5_maskOf at h
  refine xr_aload_n (xd dX5_maskOf 0 rfl) 0 rfl ?_
  refine xr_getR (b := 6) 5 0 (xd dX5_maskOf 1 rfl) f5_41 (by decide) (by decide) (lt491 hn (ltS he (by decide))) (kdS_144 he) rfl (rS_144_0 hR he) ?_
  refine xr_callV mX7_clear 0 [] (xd dX5_maskOf 2 rfl) l5_62 kX7_clear rfl (lt491 hn (by decide)) kd_6 (by decide) rfl (by decide) (Nat.le_of_ble_eq_true rfl) (v_X7_clear hn hR  h) (by decide) (by decide) (fun r_ M_ h_ => ?_) (fun _ _ h_ => h_.elim)
  obtain ⟨J1, L2, rfl, rfl, h⟩ := h_
  show xJ _ _ _ _ _ _ _ _ _ 7 [(0, .ref (e + 144)), (1, .ref p1), (2, .int (oI p2)), (3, .int (oI p3))] [] _ _ _ (zi J1) (li L2)
  refine xr_aload_n (xd dX5_maskOf 3 rfl) 0 rfl ?_
  refine xr_getR (b := 6) 5 0 (xd dX5_maskOf 4 rfl) f5_41 (by decide) (by decide) (lt491 hn (ltS he (by decide))) (kdS_144 he) rfl (rS_144_0 hR he) ?_
  refine xr_aload_n (xd dX5_maskOf 5 rfl) 1 rfl ?_
  refine xr_iload_n (xd dX5_maskOf 6 rfl) 2 rfl ?_
  refine xr_bipush (v := oI 8) (xd dX5_maskOf 7 rfl) (by decide) ?_
  refine xr_callV mX7_putAll 3 [.ref p1, .int (oI p2), .int (oI 8)] (xd dX5_maskOf 8 rfl) l5_67 kX7_putAll rfl (lt491 hn (by decide)) kd_6 (by decide) rfl (by decide) (Nat.le_of_ble_eq_true rfl) (v_X7_putAll hn hR (za_mk h_p1.1 h_p1.2) h) (by decide) (by decide) (fun r_ M_ h_ => ?_) (fun _ _ h_ => h_.elim)
  obtain ⟨J3, L4, rfl, rfl, h⟩ := h_
  show xJ _ _ _ _ _ _ _ _ _ 18 [(0, .ref (e + 144)), (1, .ref p1), (2, .int (oI p2)), (3, .int (oI p3))] [] _ _ _ (zi J3) (li L4)
  refine xr_aload_n (xd dX5_maskOf 9 rfl) 0 rfl ?_
  refine xr_getR (b := 6) 5 0 (xd dX5_maskOf 10 rfl) f5_41 (by decide) (by decide) (lt491 hn (ltS he (by decide))) (kdS_144 he) rfl (rS_144_0 hR he) ?_
  refine xr_aload_n (xd dX5_maskOf 11 rfl) 0 rfl ?_
  refine xr_getR (b := (e + 157)) 5 3 (xd dX5_maskOf 12 rfl) f5_19 (by decide) (by decide) (lt491 hn (ltS he (by decide))) (kdS_144 he) rfl (rS_144_3 hR he) ?_
  refine xr_iload_n (xd dX5_maskOf 13 rfl) 3 rfl ?_
  obtain ⟨o5, h⟩ := h
  have f6 := famS_157 hR he o5
  refine zr_aaload (b := (e + 158 + (p3).toNat)) 3 (xd dX5_maskOf 14 rfl) (lt491 hn (ltS he (by decide))) (by decide) (by decide) (kdS_157 he) (lnS_157 he) (by decide) o5 f6.1 ?_
  refine xr_aload_n (xd dX5_maskOf 15 rfl) 0 rfl ?_
  refine xr_getR (b := (e + 166)) 5 8 (xd dX5_maskOf 16 rfl) f5_35 (by decide) (by decide) (lt491 hn (ltS he (by decide))) (kdS_144 he) rfl (rS_144_8 hR he) ?_
  refine xr_callV mX7_macInto 2 [.ref (e + 158 + (p3).toNat), .ref (e + 166)] (xd dX5_maskOf 17 rfl) l5_75 kX7_macInto rfl (lt491 hn (by decide)) kd_6 (by decide) rfl (by decide) (Nat.le_of_ble_eq_true rfl) (v_X7_macInto hn hR (za_mk f6.2.1.1 f6.2.1.2) (za_mk (kdS_166 he) (ltS he (by decide))) h) (by decide) (by decide) (fun r_ M_ h_ => ?_) (fun _ _ h_ => h_.elim)
  obtain ⟨J7, L8, rfl, rfl, h⟩ := h_
  show xJ _ _ _ _ _ _ _ _ _ 35 [(0, .ref (e + 144)), (1, .ref p1), (2, .int (oI p2)), (3, .int (oI p3))] [] _ _ _ (zi J7) (li L8)
  refine xr_aload_n (xd dX5_maskOf 18 rfl) 0 rfl ?_
  refine xr_getR (b := (e + 166)) 5 8 (xd dX5_maskOf 19 rfl) f5_35 (by decide) (by decide) (lt491 hn (ltS he (by decide))) (kdS_144 he) rfl (rS_144_8 hR he) ?_
  refine xr_iconst (v := oI 0) (xd dX5_maskOf 20 rfl) (by decide) ?_
  refine zr_iaload (xd dX5_maskOf 21 rfl) (lt491 hn (ltS he (by decide))) (kdS_166 he) (lnS_166 he) (by decide) ⟨by decide, by decide⟩ ?_
  refine xr_bipush (v := oI 8) (xd dX5_maskOf 22 rfl) (by decide) ?_
  refine zr_ishl (xd dX5_maskOf 23 rfl) ?_
  refine xr_aload_n (xd dX5_maskOf 24 rfl) 0 rfl ?_
  refine xr_getR (b := (e + 166)) 5 8 (xd dX5_maskOf 25 rfl) f5_35 (by decide) (by decide) (lt491 hn (ltS he (by decide))) (kdS_144 he) rfl (rS_144_8 hR he) ?_
  refine xr_iconst (v := oI 1) (xd dX5_maskOf 26 rfl) (by decide) ?_
  refine zr_iaload (xd dX5_maskOf 27 rfl) (lt491 hn (ltS he (by decide))) (kdS_166 he) (lnS_166 he) (by decide) ⟨by decide, by decide⟩ ?_
  refine zr_ior (xd dX5_maskOf 28 rfl) ?_
  exact xr_iret (xd dX5_maskOf 29 rfl) rfl (by decide) (by decide) (fun _ => rfl) ⟨_, _, _, rfl, rfl, h⟩
def w_X6_startAnew (e : Nat) (p1 : Int) (J : zM) (L : yM) (Q : zM → yM → Prop) : Prop := ∀ J1 : zM, J1 = zs J (e + 168) 6 p1 → ∀ J2 : zM, J2 = zs J1 (e + 168) 7 0 → ∀ J3 : zM, J3 = zs J2 (e + 168) 8 0 → zl_z (fun K4 x5 J6 L7 => R32 x5 ∧ (if x5 < 4 then ((0 : Int) ≤ x5 ∧ x5 < 4) ∧ ∀ J11 : zM, J11 = zs J6 (e + 171) x5 0 → K4 (x5 + 1) J11 L7 else Q J6 L7)) 0 J3 L
set_option maxHeartbeats 4000000 in
set_option maxRecDepth 100000 in
theorem v_X6_startAnew {b : Nat} {dC : Nat → ClassId} {dI : Nat → Nat → Nat} {cA : Nat → ClassId} {ts : Nat → Nat} {l : Launch} {n : Nat} {R : Nat → Nat → Option Nat} {al : Bool} (hn : 491 ≤ n) (hR : xRk R) {e : Nat} {p1 : Int} (he : iSide e) {J : zM} {L : yM} {Q : zM → yM → Prop} (h : w_X6_startAnew e p1 J L Q) : xCn (xGm b dC dI cA ts) l mX6_startAnew [.ref (e + 168), .int (oI p1)] al (n, R, zi J, li L) 0 0 (zQ0 n R Q) (fun _ _ => False) := by
  refine xCn.ofJ (by decide) (Nat.le_of_ble_eq_true rfl) ?_
  show xJ _ _ _ _ _ _ _ _ _ 0 [(0, .ref (e + 168)), (1, .int (oI p1))] [] _ _ _ _ _
  unfold w_X6_startAnew at h
  refine xr_aload_n (xd dX6_startAnew 0 rfl) 0 rfl ?_
  refine xr_iload_n (xd dX6_startAnew 1 rfl) 1 rfl ?_
  obtain ⟨J1, e_J1⟩ : ∃ z_ : zM, z_ = zs J (e + 168) 6 p1 := ⟨_, rfl⟩
  replace h := h J1 e_J1
  refine zr_putI 6 6 6 rfl e_J1 (xd dX6_startAnew 2 rfl) f6_33 (by decide) (by decide) (lt491 hn (ltS he (by decide))) (kdS_168 he) (Or.inl rfl) rfl rfl (fun _ => rfl) ?_
  refine xr_aload_n (xd dX6_startAnew 3 rfl) 0 rfl ?_
  refine xr_iconst (v := oI 0) (xd dX6_startAnew 4 rfl) (by decide) ?_
  obtain ⟨J2, e_J2⟩ : ∃ z_ : zM, z_ = zs J1 (e + 168) 7 0 := ⟨_, rfl⟩
  replace h := h J2 e_J2
  refine zr_putI 6 7 7 rfl e_J2 (xd dX6_startAnew 5 rfl) f6_36 (by decide) (by decide) (lt491 hn (ltS he (by decide))) (kdS_168 he) (Or.inl rfl) rfl rfl (fun _ => rfl) ?_
  refine xr_aload_n (xd dX6_startAnew 6 rfl) 0 rfl ?_
  refine xr_iconst (v := oI 0) (xd dX6_startAnew 7 rfl) (by decide) ?_
  obtain ⟨J3, e_J3⟩ : ∃ z_ : zM, z_ = zs J2 (e + 168) 8 0 := ⟨_, rfl⟩
  replace h := h J3 e_J3
  refine zr_putI 6 8 8 rfl e_J3 (xd dX6_startAnew 8 rfl) f6_39 (by decide) (by decide) (lt491 hn (ltS he (by decide))) (kdS_168 he) (Or.inl rfl) rfl rfl (fun _ => rfl) ?_
  refine xr_iconst (v := oI 0) (xd dX6_startAnew 9 rfl) (by decide) ?_
  refine xr_istore_n [(0, .ref (e + 168)), (1, .int (oI p1)), (2, .int (oI 0))] (xd dX6_startAnew 10 rfl) rfl (by decide) rfl ?_
  refine xJ.pick (ls' := [(0, .ref (e + 168)), (2, .int (oI 0))]) [0, 2] rfl ?_
  refine h (fun x5 J6 L7 => xJ (xGm b dC dI cA ts) l mX6_startAnew 0 0 (zQ0 n R Q) (fun _ _ => False) 0 0 17 [(0, .ref (e + 168)), (2, .int (oI x5))] [] al n R (zi J6) (li L7)) ?_
  intro x5 J6 L7 h
  show xJ _ _ _ _ _ _ _ _ _ 17 [(0, .ref (e + 168)), (2, .int (oI x5))] [] _ _ _ _ _
  refine xr_iload_n (xd dX6_startAnew 11 rfl) 1 rfl ?_
  refine xr_aload_n (xd dX6_startAnew 12 rfl) 0 rfl ?_
  refine xr_getR (b := (e + 171)) 6 5 (xd dX6_startAnew 13 rfl) f6_18 (by decide) (by decide) (lt491 hn (ltS he (by decide))) (kdS_168 he) rfl (rS_168_5 hR he) ?_
  refine zr_alen (v := 4) 0 (xd dX6_startAnew 14 rfl) (lt491 hn (ltS he (by decide))) (by decide) (kdS_171 he) (lnS_171 he) rfl ?_
  obtain ⟨o8, h⟩ := h
  refine zr_icmp_ge 39 (xd dX6_startAnew 15 rfl) (by decide) o8 (by decide) (fun c9 => ?_) (fun c9 => ?_)
  · replace h := ifn h c9
    exact xr_vret (xd dX6_startAnew 23 rfl) rfl (by decide) (by decide) (fun _ => rfl) ⟨_, _, rfl, rfl, h⟩
  · replace h := ifp h c9
    refine xr_aload_n (xd dX6_startAnew 16 rfl) 0 rfl ?_
    refine xr_getR (b := (e + 171)) 6 5 (xd dX6_startAnew 17 rfl) f6_18 (by decide) (by decide) (lt491 hn (ltS he (by decide))) (kdS_168 he) rfl (rS_168_5 hR he) ?_
    refine xr_iload_n (xd dX6_startAnew 18 rfl) 1 rfl ?_
    refine xr_iconst (v := oI 0) (xd dX6_startAnew 19 rfl) (by decide) ?_
    obtain ⟨o10, h⟩ := h
    obtain ⟨J11, e_J11⟩ : ∃ z_ : zM, z_ = zs J6 (e + 171) x5 0 := ⟨_, rfl⟩
    replace h := h J11 e_J11
    refine zr_iastore e_J11 (xd dX6_startAnew 20 rfl) (lt491 hn (ltS he (by decide))) (kdS_171 he) (lnS_171 he) (by decide) o10 ?_
    refine zr_iinc [(0, .ref (e + 168)), (2, .int (oI (x5 + 1)))] (xd dX6_startAnew 21 rfl) 1 rfl (by decide) rfl ?_
    refine xr_goto 17 (xd dX6_startAnew 22 rfl) (by decide) ?_
    exact h
def w_X6_roomFor (e : Nat) (p1 : Int) (J : zM) (L : yM) (Q : Int → zM → yM → Prop) : Prop := R32 p1 ∧ (if p1 = 0 then Q (((J (e + 168) 6) - (J (e + 168) 7)) - 6) J L else Q (((J (e + 168) 6) - (J (e + 168) 7)) - 14) J L)
set_option maxHeartbeats 4000000 in
set_option maxRecDepth 100000 in
theorem v_X6_roomFor {b : Nat} {dC : Nat → ClassId} {dI : Nat → Nat → Nat} {cA : Nat → ClassId} {ts : Nat → Nat} {l : Launch} {n : Nat} {R : Nat → Nat → Option Nat} {al : Bool} (hn : 491 ≤ n) (hR : xRk R) {e : Nat} {p1 : Int} (he : iSide e) {J : zM} {L : yM} {Q : Int → zM → yM → Prop} (h : w_X6_roomFor e p1 J L Q) : xCn (xGm b dC dI cA ts) l mX6_roomFor [.ref (e + 168), .int (oI p1)] al (n, R, zi J, li L) 0 0 (zQ1 n R Q) (fun _ _ => False) := by
  refine xCn.ofJ (by decide) (Nat.le_of_ble_eq_true rfl) ?_
  show xJ _ _ _ _ _ _ _ _ _ 0 [(0, .ref (e + 168)), (1, .int (oI p1))] [] _ _ _ _ _
  unfold w_X6_roomFor at h
  refine xr_aload_n (xd dX6_roomFor 0 rfl) 0 rfl ?_
  refine zr_getI 6 6 6 rfl (xd dX6_roomFor 1 rfl) f6_33 (by decide) (by decide) (lt491 hn (ltS he (by decide))) (kdS_168 he) rfl ?_
  refine xr_aload_n (xd dX6_roomFor 2 rfl) 0 rfl ?_
  refine zr_getI 6 7 7 rfl (xd dX6_roomFor 3 rfl) f6_36 (by decide) (by decide) (lt491 hn (ltS he (by decide))) (kdS_168 he) rfl ?_
  refine zr_isub (xd dX6_roomFor 4 rfl) ?_
  refine xr_iload_n (xd dX6_roomFor 5 rfl) 1 rfl ?_
  obtain ⟨o1, h⟩ := h
  refine zr_if_ne 18 (xd dX6_roomFor 6 rfl) (by decide) o1 (fun c2 => ?_) (fun c2 => ?_)
  · replace h := ifn h c2
    refine xr_bipush (v := oI 14) (xd dX6_roomFor 9 rfl) (by decide) ?_
    refine zr_isub (xd dX6_roomFor 10 rfl) ?_
    exact xr_iret (xd dX6_roomFor 11 rfl) rfl (by decide) (by decide) (fun _ => rfl) ⟨_, _, _, rfl, rfl, h⟩
  · replace h := ifp h c2
    refine xr_bipush (v := oI 6) (xd dX6_roomFor 7 rfl) (by decide) ?_
    refine xr_goto 20 (xd dX6_roomFor 8 rfl) (by decide) ?_
    refine zr_isub (xd dX6_roomFor 10 rfl) ?_
    exact xr_iret (xd dX6_roomFor 11 rfl) rfl (by decide) (by decide) (fun _ => rfl) ⟨_, _, _, rfl, rfl, h⟩
def w_X6_putTwoShorts (e : Nat) (p1 : Int) (p2 : Int) (p3 : Int) (J : zM) (L : yM) (Q : zM → yM → Prop) : Prop := ((0 : Int) ≤ p1 ∧ p1 < 500) ∧ ∀ J2 : zM, J2 = zs J (e + 169) p1 (zush p2 8) → ((0 : Int) ≤ (p1 + 1) ∧ (p1 + 1) < 500) ∧ ∀ J4 : zM, J4 = zs J2 (e + 169) (p1 + 1) (zand p2 255) → ((0 : Int) ≤ (p1 + 2) ∧ (p1 + 2) < 500) ∧ ∀ J6 : zM, J6 = zs J4 (e + 169) (p1 + 2) (zush p3 8) → ((0 : Int) ≤ (p1 + 3) ∧ (p1 + 3) < 500) ∧ ∀ J8 : zM, J8 = zs J6 (e + 169) (p1 + 3) (zand p3 255) → Q J8 L
set_option maxHeartbeats 4000000 in
set_option maxRecDepth 100000 in
theorem v_X6_putTwoShorts {b : Nat} {dC : Nat → ClassId} {dI : Nat → Nat → Nat} {cA : Nat → ClassId} {ts : Nat → Nat} {l : Launch} {n : Nat} {R : Nat → Nat → Option Nat} {al : Bool} (hn : 491 ≤ n) (hR : xRk R) {e : Nat} {p1 : Int} {p2 : Int} {p3 : Int} (he : iSide e) {J : zM} {L : yM} {Q : zM → yM → Prop} (h : w_X6_putTwoShorts e p1 p2 p3 J L Q) : xCn (xGm b dC dI cA ts) l mX6_putTwoShorts [.ref (e + 168), .int (oI p1), .int (oI p2), .int (oI p3)] al (n, R, zi J, li L) 0 0 (zQ0 n R Q) (fun _ _ => False) := by
  refine xCn.ofJ (by decide) (Nat.le_of_ble_eq_true rfl) ?_
  show xJ _ _ _ _ _ _ _ _ _ 0 [(0, .ref (e + 168)), (1, .int (oI p1)), (2, .int (oI p2)), (3, .int (oI p3))] [] _ _ _ _ _
  unfold w_X6_putTwoShorts at h
  refine xr_aload_n (xd dX6_putTwoShorts 0 rfl) 0 rfl ?_
  refine xr_getR (b := (e + 169)) 6 3 (xd dX6_putTwoShorts 1 rfl) f6_9 (by decide) (by decide) (lt491 hn (ltS he (by decide))) (kdS_168 he) rfl (rS_168_3 hR he) ?_
  refine xr_iload_n (xd dX6_putTwoShorts 2 rfl) 1 rfl ?_
  refine xr_iload_n (xd dX6_putTwoShorts 3 rfl) 2 rfl ?_
  refine xr_bipush (v := oI 8) (xd dX6_putTwoShorts 4 rfl) (by decide) ?_
  refine zr_iushr (xd dX6_putTwoShorts 5 rfl) ?_
  obtain ⟨o1, h⟩ := h
  obtain ⟨J2, e_J2⟩ : ∃ z_ : zM, z_ = zs J (e + 169) p1 (zush p2 8) := ⟨_, rfl⟩
  replace h := h J2 e_J2
  refine zr_iastore e_J2 (xd dX6_putTwoShorts 6 rfl) (lt491 hn (ltS he (by decide))) (kdS_169 he) (lnS_169 he) (by decide) o1 ?_
  refine xr_aload_n (xd dX6_putTwoShorts 7 rfl) 0 rfl ?_
  refine xr_getR (b := (e + 169)) 6 3 (xd dX6_putTwoShorts 8 rfl) f6_9 (by decide) (by decide) (lt491 hn (ltS he (by decide))) (kdS_168 he) rfl (rS_168_3 hR he) ?_
  refine xr_iload_n (xd dX6_putTwoShorts 9 rfl) 1 rfl ?_
  refine xr_iconst (v := oI 1) (xd dX6_putTwoShorts 10 rfl) (by decide) ?_
  refine zr_iadd (xd dX6_putTwoShorts 11 rfl) ?_
  refine xr_iload_n (xd dX6_putTwoShorts 12 rfl) 2 rfl ?_
  refine xr_sipush (v := oI 255) (xd dX6_putTwoShorts 13 rfl) (by decide) ?_
  refine zr_iand (xd dX6_putTwoShorts 14 rfl) ?_
  obtain ⟨o3, h⟩ := h
  obtain ⟨J4, e_J4⟩ : ∃ z_ : zM, z_ = zs J2 (e + 169) (p1 + 1) (zand p2 255) := ⟨_, rfl⟩
  replace h := h J4 e_J4
  refine zr_iastore e_J4 (xd dX6_putTwoShorts 15 rfl) (lt491 hn (ltS he (by decide))) (kdS_169 he) (lnS_169 he) (by decide) o3 ?_
  refine xr_aload_n (xd dX6_putTwoShorts 16 rfl) 0 rfl ?_
  refine xr_getR (b := (e + 169)) 6 3 (xd dX6_putTwoShorts 17 rfl) f6_9 (by decide) (by decide) (lt491 hn (ltS he (by decide))) (kdS_168 he) rfl (rS_168_3 hR he) ?_
  refine xr_iload_n (xd dX6_putTwoShorts 18 rfl) 1 rfl ?_
  refine xr_iconst (v := oI 2) (xd dX6_putTwoShorts 19 rfl) (by decide) ?_
  refine zr_iadd (xd dX6_putTwoShorts 20 rfl) ?_
  refine xr_iload_n (xd dX6_putTwoShorts 21 rfl) 3 rfl ?_
  refine xr_bipush (v := oI 8) (xd dX6_putTwoShorts 22 rfl) (by decide) ?_
  refine zr_iushr (xd dX6_putTwoShorts 23 rfl) ?_
  obtain ⟨o5, h⟩ := h
  obtain ⟨J6, e_J6⟩ : ∃ z_ : zM, z_ = zs J4 (e + 169) (p1 + 2) (zush p3 8) := ⟨_, rfl⟩
  replace h := h J6 e_J6
  refine zr_iastore e_J6 (xd dX6_putTwoShorts 24 rfl) (lt491 hn (ltS he (by decide))) (kdS_169 he) (lnS_169 he) (by decide) o5 ?_
  refine xr_aload_n (xd dX6_putTwoShorts 25 rfl) 0 rfl ?_
  refine xr_getR (b := (e + 169)) 6 3 (xd dX6_putTwoShorts 26 rfl) f6_9 (by decide) (by decide) (lt491 hn (ltS he (by decide))) (kdS_168 he) rfl (rS_168_3 hR he) ?_
  refine xr_iload_n (xd dX6_putTwoShorts 27 rfl) 1 rfl ?_
  refine xr_iconst (v := oI 3) (xd dX6_putTwoShorts 28 rfl) (by decide) ?_
  refine zr_iadd (xd dX6_putTwoShorts 29 rfl) ?_
  refine xr_iload_n (xd dX6_putTwoShorts 30 rfl) 3 rfl ?_
  refine xr_sipush (v := oI 255) (xd dX6_putTwoShorts 31 rfl) (by decide) ?_
  refine zr_iand (xd dX6_putTwoShorts 32 rfl) ?_
  obtain ⟨o7, h⟩ := h
  obtain ⟨J8, e_J8⟩ : ∃ z_ : zM, z_ = zs J6 (e + 169) (p1 + 3) (zand p3 255) := ⟨_, rfl⟩
  replace h := h J8 e_J8
  refine zr_iastore e_J8 (xd dX6_putTwoShorts 33 rfl) (lt491 hn (ltS he (by decide))) (kdS_169 he) (lnS_169 he) (by decide) o7 ?_
  exact xr_vret (xd dX6_putTwoShorts 34 rfl) rfl (by decide) (by decide) (fun _ => rfl) ⟨_, _, rfl, rfl, h⟩
def w_X6_putRecord (e : Nat) (p1 : Int) (p2 : Int) (p3 : Int) (J : zM) (L : yM) (Q : Int → zM → yM → Prop) : Prop := ((0 : Int) ≤ p1 ∧ p1 < 4) ∧ ∀ x2 : Int, x2 = (J (e + 171) p1) → R32 x2 ∧ (if 65535 < x2 then Q (-1) J L else w_X6_roomFor e p1 J L (fun r7 J5 L6 => R32 p3 ∧ R32 r7 ∧ (if r7 < p3 then Q (-1) J5 L6 else ((0 : Int) ≤ p1 ∧ p1 < 4) ∧ ∀ J12 : zM, J12 = zs J5 (e + 171) p1 (x2 + 1) → ∀ x13 : Int, x13 = (J12 (e + 168) 7) → R32 p1 ∧ (if p1 = 0 then ((0 : Int) ≤ x13 ∧ x13 < 500) ∧ ∀ J47 : zM, J47 = zs J12 (e + 169) x13 p2 → ((0 : Int) ≤ (x13 + 1) ∧ (x13 + 1) < 500) ∧ ∀ J49 : zM, J49 = zs J47 (e + 169) (x13 + 1) 0 → w_X6_putTwoShorts e (x13 + 2) x2 p3 J49 L6 (fun J50 L51 => ((0 : Int) ≤ 0 ∧ (0 : Int) ≤ (x13 + 6) ∧ (0 : Int) ≤ p3 ∧ (0 + p3 : Int) ≤ 500 ∧ ((x13 + 6) + p3 : Int) ≤ 500) ∧ ∀ J53 : zM, J53 = zcp J50 (e + 170) 0 (e + 169) (x13 + 6) p3 → ∀ J54 : zM, J54 = zs J53 (e + 168) 7 ((x13 + 6) + p3) → Q x2 J54 L51) else ((0 : Int) ≤ x13 ∧ x13 < 500) ∧ ∀ J17 : zM, J17 = zs J12 (e + 169) x13 (32 + p1) → w_X6_putTwoShorts e (x13 + 1) x2 (p3 + 9) J17 L6 (fun J18 L19 => ((0 : Int) ≤ 0 ∧ (0 : Int) ≤ (x13 + 5) ∧ (0 : Int) ≤ p3 ∧ (0 + p3 : Int) ≤ 500 ∧ ((x13 + 5) + p3 : Int) ≤ 500) ∧ ∀ J21 : zM, J21 = zcp J18 (e + 170) 0 (e + 169) (x13 + 5) p3 → ((0 : Int) ≤ ((x13 + 5) + p3) ∧ ((x13 + 5) + p3) < 500) ∧ ∀ J23 : zM, J23 = zs J21 (e + 169) ((x13 + 5) + p3) p2 → w_X5_whichKey e p1 (J23 (e + 168) 0) J23 L19 (fun r26 J24 L25 => ∀ x27 : Int, x27 = (((x13 + 5) + p3) + 1) → w_X5_veil e (e + 169) x13 r26 (p3 + 1) J24 L25 (fun J28 L29 => w_X5_tagOf e (e + 169) x13 r26 (p3 + 1) J28 L29 (fun r32 J30 L31 => za r32 ∧ ((0 : Int) ≤ 0 ∧ (0 : Int) ≤ x27 ∧ (0 : Int) ≤ 8 ∧ (0 + 8 : Int) ≤ (ln0 r32 : Int) ∧ (x27 + 8 : Int) ≤ 500) ∧ ∀ J35 : zM, J35 = zcp J30 r32 0 (e + 169) x27 8 → w_X5_maskOf e (e + 169) x27 r26 J35 L31 (fun r38 J36 L37 => ((0 : Int) ≤ (x13 + 1) ∧ (x13 + 1) < 500) ∧ ((0 : Int) ≤ (x13 + 1) ∧ (x13 + 1) < 500) ∧ ∀ J41 : zM, J41 = zs J36 (e + 169) (x13 + 1) (zxor (J36 (e + 169) (x13 + 1)) (zush r38 8)) → ((0 : Int) ≤ (x13 + 2) ∧ (x13 + 2) < 500) ∧ ((0 : Int) ≤ (x13 + 2) ∧ (x13 + 2) < 500) ∧ ∀ J44 : zM, J44 = zs J41 (e + 169) (x13 + 2) (zxor (J41 (e + 169) (x13 + 2)) (zand r38 255)) → ∀ J45 : zM, J45 = zs J44 (e + 168) 7 (x27 + 8) → Q x2 J45 L37)))))))))
set_option maxHeartbeats 4000000 in
set_option maxRecDepth 100000 in
theorem v_X6_putRecord {b : Nat} {dC : Nat → ClassId} {dI : Nat → Nat → Nat} {cA : Nat → ClassId} {ts : Nat → Nat} {l : Launch} {n : Nat} {R : Nat → Nat → Option Nat} {al : Bool} (hn : 491 ≤ n) (hR : xRk R) {e : Nat} {p1 : Int} {p2 : Int} {p3 : Int} (he : iSide e) {J : zM} {L : yM} {Q : Int → zM → yM → Prop} (h : w_X6_putRecord e p1 p2 p3 J L Q) : xCn (xGm b dC dI cA ts) l mX6_putRecord [.ref (e + 168), .int (oI p1), .int (oI p2), .int (oI p3)] al (n, R, zi J, li L) 0 0 (zQ1 n R Q) (fun _ _ => False) := by
  refine xCn.ofJ (by decide) (Nat.le_of_ble_eq_true rfl) ?_
  show xJ _ _ _ _ _ _ _ _ _ 0 [(0, .ref (e + 168)), (1, .int (oI p1)), (2, .int (oI p2)), (3, .int (oI p3))] [] _ _ _ _ _
  unfold w_X6_putRecord at h
  refine xr_aload_n (xd dX6_putRecord 0 rfl) 0 rfl ?_
  refine xr_getR (b := (e + 171)) 6 5 (xd dX6_putRecord 1 rfl) f6_18 (by decide) (by decide) (lt491 hn (ltS he (by decide))) (kdS_168 he) rfl (rS_168_5 hR he) ?_
  refine xr_iload_n (xd dX6_putRecord 2 rfl) 1 rfl ?_
  obtain ⟨o1, h⟩ := h
  refine zr_iaload (xd dX6_putRecord 3 rfl) (lt491 hn (ltS he (by decide))) (kdS_171 he) (lnS_171 he) (by decide) o1 ?_
  obtain ⟨x2, e_x2⟩ : ∃ z_ : Int, z_ = (J (e + 171) p1) := ⟨_, rfl⟩
  replace h := h x2 e_x2
  refine zr_nm e_x2 ?_
  refine xr_istore [(0, .ref (e + 168)), (1, .int (oI p1)), (2, .int (oI p2)), (3, .int (oI p3)), (4, .int (oI x2))] (xd dX6_putRecord 4 rfl) (by decide) rfl ?_
  refine xr_iload (xd dX6_putRecord 5 rfl) 4 rfl ?_
  refine xr_ldc (v := oI 65535) (xd dX6_putRecord 6 rfl) q6_42 ?_
  obtain ⟨o3, h⟩ := h
  refine zr_icmp_gt 24 (xd dX6_putRecord 7 rfl) (by decide) o3 (by decide) (fun c4 => ?_) (fun c4 => ?_)
  · replace h := ifp h c4
    refine xr_iconst (v := oI (-1)) (xd dX6_putRecord 13 rfl) (by decide) ?_
    exact xr_iret (xd dX6_putRecord 14 rfl) rfl (by decide) (by decide) (fun _ => rfl) ⟨_, _, _, rfl, rfl, h⟩
  · replace h := ifn h c4
    refine xr_iload_n (xd dX6_putRecord 8 rfl) 3 rfl ?_
    refine xr_aload_n (xd dX6_putRecord 9 rfl) 0 rfl ?_
    refine xr_iload_n (xd dX6_putRecord 10 rfl) 1 rfl ?_
    refine xr_callV mX6_roomFor 1 [.int (oI p1)] (xd dX6_putRecord 11 rfl) l6_43 kX6_roomFor rfl (lt491 hn (ltS he (by decide))) (kdS_168 he) (by decide) rfl (by decide) (Nat.le_of_ble_eq_true rfl) (v_X6_roomFor hn hR he h) (by decide) (by decide) (fun r_ M_ h_ => ?_) (fun _ _ h_ => h_.elim)
    obtain ⟨r7, J5, L6, rfl, rfl, h⟩ := h_
    show xJ _ _ _ _ _ _ _ _ _ 21 [(0, .ref (e + 168)), (1, .int (oI p1)), (2, .int (oI p2)), (3, .int (oI p3)), (4, .int (oI x2))] [.int (oI r7), .int (oI p3)] _ _ _ (zi J5) (li L6)
    obtain ⟨o8, h⟩ := h
    obtain ⟨o9, h⟩ := h
    refine zr_icmp_le 26 (xd dX6_putRecord 12 rfl) (by decide) o8 o9 (fun c10 => ?_) (fun c10 => ?_)
    · replace h := ifn h c10
      refine xr_aload_n (xd dX6_putRecord 15 rfl) 0 rfl ?_
      refine xr_getR (b := (e + 171)) 6 5 (xd dX6_putRecord 16 rfl) f6_18 (by decide) (by decide) (lt491 hn (ltS he (by decide))) (kdS_168 he) rfl (rS_168_5 hR he) ?_
      refine xr_iload_n (xd dX6_putRecord 17 rfl) 1 rfl ?_
      refine xr_iload (xd dX6_putRecord 18 rfl) 4 rfl ?_
      refine xr_iconst (v := oI 1) (xd dX6_putRecord 19 rfl) (by decide) ?_
      refine zr_iadd (xd dX6_putRecord 20 rfl) ?_
      obtain ⟨o11, h⟩ := h
      obtain ⟨J12, e_J12⟩ : ∃ z_ : zM, z_ = zs J5 (e + 171) p1 (x2 + 1) := ⟨_, rfl⟩
      replace h := h J12 e_J12
      refine zr_iastore e_J12 (xd dX6_putRecord 21 rfl) (lt491 hn (ltS he (by decide))) (kdS_171 he) (lnS_171 he) (by decide) o11 ?_
      refine xr_aload_n (xd dX6_putRecord 22 rfl) 0 rfl ?_
      refine zr_getI 6 7 7 rfl (xd dX6_putRecord 23 rfl) f6_36 (by decide) (by decide) (lt491 hn (ltS he (by decide))) (kdS_168 he) rfl ?_
      obtain ⟨x13, e_x13⟩ : ∃ z_ : Int, z_ = (J12 (e + 168) 7) := ⟨_, rfl⟩
      replace h := h x13 e_x13
      refine zr_nm e_x13 ?_
      refine xr_istore [(0, .ref (e + 168)), (1, .int (oI p1)), (2, .int (oI p2)), (3, .int (oI p3)), (4, .int (oI x2)), (5, .int (oI x13))] (xd dX6_putRecord 24 rfl) (by decide) rfl ?_
      refine xr_iload_n (xd dX6_putRecord 25 rfl) 1 rfl ?_
      obtain ⟨o14, h⟩ := h
      refine zr_if_ne 107 (xd dX6_putRecord 26 rfl) (by decide) o14 (fun c15 => ?_) (fun c15 => ?_)
      · replace h := ifn h c15
        refine xr_aload_n (xd dX6_putRecord 65 rfl) 0 rfl ?_
        refine xr_getR (b := (e + 169)) 6 3 (xd dX6_putRecord 66 rfl) f6_9 (by decide) (by decide) (lt491 hn (ltS he (by decide))) (kdS_168 he) rfl (rS_168_3 hR he) ?_
        refine xr_iload (xd dX6_putRecord 67 rfl) 5 rfl ?_
        refine xr_bipush (v := oI 32) (xd dX6_putRecord 68 rfl) (by decide) ?_
        refine xr_iload_n (xd dX6_putRecord 69 rfl) 1 rfl ?_
        refine zr_iadd (xd dX6_putRecord 70 rfl) ?_
        obtain ⟨o16, h⟩ := h
        obtain ⟨J17, e_J17⟩ : ∃ z_ : zM, z_ = zs J12 (e + 169) x13 (32 + p1) := ⟨_, rfl⟩
        replace h := h J17 e_J17
        refine zr_iastore e_J17 (xd dX6_putRecord 71 rfl) (lt491 hn (ltS he (by decide))) (kdS_169 he) (lnS_169 he) (by decide) o16 ?_
        refine xr_aload_n (xd dX6_putRecord 72 rfl) 0 rfl ?_
        refine xr_iload (xd dX6_putRecord 73 rfl) 5 rfl ?_
        refine xr_iconst (v := oI 1) (xd dX6_putRecord 74 rfl) (by decide) ?_
        refine zr_iadd (xd dX6_putRecord 75 rfl) ?_
        refine xr_iload (xd dX6_putRecord 76 rfl) 4 rfl ?_
        refine xr_iload_n (xd dX6_putRecord 77 rfl) 3 rfl ?_
        refine xr_bipush (v := oI 9) (xd dX6_putRecord 78 rfl) (by decide) ?_
        refine zr_iadd (xd dX6_putRecord 79 rfl) ?_
        refine xr_callV mX6_putTwoShorts 3 [.int (oI (x13 + 1)), .int (oI x2), .int (oI (p3 + 9))] (xd dX6_putRecord 80 rfl) l6_47 kX6_putTwoShorts rfl (lt491 hn (ltS he (by decide))) (kdS_168 he) (by decide) rfl (by decide) (Nat.le_of_ble_eq_true rfl) (v_X6_putTwoShorts hn hR he h) (by decide) (by decide) (fun r_ M_ h_ => ?_) (fun _ _ h_ => h_.elim)
        obtain ⟨J18, L19, rfl, rfl, h⟩ := h_
        show xJ _ _ _ _ _ _ _ _ _ 132 [(0, .ref (e + 168)), (1, .int (oI p1)), (2, .int (oI p2)), (3, .int (oI p3)), (4, .int (oI x2)), (5, .int (oI x13))] [] _ _ _ (zi J18) (li L19)
        refine xr_aload_n (xd dX6_putRecord 81 rfl) 0 rfl ?_
        refine xr_getR (b := (e + 170)) 6 4 (xd dX6_putRecord 82 rfl) f6_15 (by decide) (by decide) (lt491 hn (ltS he (by decide))) (kdS_168 he) rfl (rS_168_4 hR he) ?_
        refine xr_iconst (v := oI 0) (xd dX6_putRecord 83 rfl) (by decide) ?_
        refine xr_aload_n (xd dX6_putRecord 84 rfl) 0 rfl ?_
        refine xr_getR (b := (e + 169)) 6 3 (xd dX6_putRecord 85 rfl) f6_9 (by decide) (by decide) (lt491 hn (ltS he (by decide))) (kdS_168 he) rfl (rS_168_3 hR he) ?_
        refine xr_iload (xd dX6_putRecord 86 rfl) 5 rfl ?_
        refine xr_iconst (v := oI 5) (xd dX6_putRecord 87 rfl) (by decide) ?_
        refine zr_iadd (xd dX6_putRecord 88 rfl) ?_
        refine xr_iload_n (xd dX6_putRecord 89 rfl) 3 rfl ?_
        obtain ⟨o20, h⟩ := h
        obtain ⟨J21, e_J21⟩ : ∃ z_ : zM, z_ = zcp J18 (e + 170) 0 (e + 169) (x13 + 5) p3 := ⟨_, rfl⟩
        replace h := h J21 e_J21
        refine zr_acopy e_J21 (xd dX6_putRecord 90 rfl) l6_51 (lt491 hn (ltS he (by decide))) (kdS_170 he) (lnS_170 he) (by decide) (lt491 hn (ltS he (by decide))) (kdS_169 he) (lnS_169 he) (by decide) o20.1 o20.2.1 o20.2.2.1 o20.2.2.2.1 o20.2.2.2.2 ⟨Nat.le_of_ble_eq_true rfl, Nat.le_of_ble_eq_true rfl⟩ ?_
        refine xr_aload_n (xd dX6_putRecord 91 rfl) 0 rfl ?_
        refine xr_getR (b := (e + 169)) 6 3 (xd dX6_putRecord 92 rfl) f6_9 (by decide) (by decide) (lt491 hn (ltS he (by decide))) (kdS_168 he) rfl (rS_168_3 hR he) ?_
        refine xr_iload (xd dX6_putRecord 93 rfl) 5 rfl ?_
        refine xr_iconst (v := oI 5) (xd dX6_putRecord 94 rfl) (by decide) ?_
        refine zr_iadd (xd dX6_putRecord 95 rfl) ?_
        refine xr_iload_n (xd dX6_putRecord 96 rfl) 3 rfl ?_
        refine zr_iadd (xd dX6_putRecord 97 rfl) ?_
        refine xr_iload_n (xd dX6_putRecord 98 rfl) 2 rfl ?_
        obtain ⟨o22, h⟩ := h
        obtain ⟨J23, e_J23⟩ : ∃ z_ : zM, z_ = zs J21 (e + 169) ((x13 + 5) + p3) p2 := ⟨_, rfl⟩
        replace h := h J23 e_J23
        refine zr_iastore e_J23 (xd dX6_putRecord 99 rfl) (lt491 hn (ltS he (by decide))) (kdS_169 he) (lnS_169 he) (by decide) o22 ?_
        refine xr_aload_n (xd dX6_putRecord 100 rfl) 0 rfl ?_
        refine xr_getR (b := (e + 144)) 6 2 (xd dX6_putRecord 101 rfl) f6_29 (by decide) (by decide) (lt491 hn (ltS he (by decide))) (kdS_168 he) rfl (rS_168_2 hR he) ?_
        refine xr_iload_n (xd dX6_putRecord 102 rfl) 1 rfl ?_
        refine xr_aload_n (xd dX6_putRecord 103 rfl) 0 rfl ?_
        refine zr_getI 6 0 0 rfl (xd dX6_putRecord 104 rfl) f6_21 (by decide) (by decide) (lt491 hn (ltS he (by decide))) (kdS_168 he) rfl ?_
        refine xr_callV mX5_whichKey 2 [.int (oI p1), .int (oI (J23 (e + 168) 0))] (xd dX6_putRecord 105 rfl) l6_57 kX5_whichKey rfl (lt491 hn (ltS he (by decide))) (kdS_144 he) (by decide) rfl (by decide) (Nat.le_of_ble_eq_true rfl) (v_X5_whichKey hn hR he h) (by decide) (by decide) (fun r_ M_ h_ => ?_) (fun _ _ h_ => h_.elim)
        obtain ⟨r26, J24, L25, rfl, rfl, h⟩ := h_
        show xJ _ _ _ _ _ _ _ _ _ 173 [(0, .ref (e + 168)), (1, .int (oI p1)), (2, .int (oI p2)), (3, .int (oI p3)), (4, .int (oI x2)), (5, .int (oI x13))] [.int (oI r26)] _ _ _ (zi J24) (li L25)
        refine xr_istore [(0, .ref (e + 168)), (1, .int (oI p1)), (2, .int (oI p2)), (3, .int (oI p3)), (4, .int (oI x2)), (5, .int (oI x13)), (6, .int (oI r26))] (xd dX6_putRecord 106 rfl) (by decide) rfl ?_
        refine xr_iload (xd dX6_putRecord 107 rfl) 5 rfl ?_
        refine xr_iconst (v := oI 5) (xd dX6_putRecord 108 rfl) (by decide) ?_
        refine zr_iadd (xd dX6_putRecord 109 rfl) ?_
        refine xr_iload_n (xd dX6_putRecord 110 rfl) 3 rfl ?_
        refine zr_iadd (xd dX6_putRecord 111 rfl) ?_
        refine xr_iconst (v := oI 1) (xd dX6_putRecord 112 rfl) (by decide) ?_
        refine zr_iadd (xd dX6_putRecord 113 rfl) ?_
        obtain ⟨x27, e_x27⟩ : ∃ z_ : Int, z_ = (((x13 + 5) + p3) + 1) := ⟨_, rfl⟩
        replace h := h x27 e_x27
        refine zr_nm e_x27 ?_
        refine xr_istore [(0, .ref (e + 168)), (1, .int (oI p1)), (2, .int (oI p2)), (3, .int (oI p3)), (4, .int (oI x2)), (5, .int (oI x13)), (6, .int (oI r26)), (7, .int (oI x27))] (xd dX6_putRecord 114 rfl) (by decide) rfl ?_
        refine xr_aload_n (xd dX6_putRecord 115 rfl) 0 rfl ?_
        refine xr_getR (b := (e + 144)) 6 2 (xd dX6_putRecord 116 rfl) f6_29 (by decide) (by decide) (lt491 hn (ltS he (by decide))) (kdS_168 he) rfl (rS_168_2 hR he) ?_
        refine xr_aload_n (xd dX6_putRecord 117 rfl) 0 rfl ?_
        refine xr_getR (b := (e + 169)) 6 3 (xd dX6_putRecord 118 rfl) f6_9 (by decide) (by decide) (lt491 hn (ltS he (by decide))) (kdS_168 he) rfl (rS_168_3 hR he) ?_
        refine xr_iload (xd dX6_putRecord 119 rfl) 5 rfl ?_
        refine xr_iload (xd dX6_putRecord 120 rfl) 6 rfl ?_
        refine xr_iload_n (xd dX6_putRecord 121 rfl) 3 rfl ?_
        refine xr_iconst (v := oI 1) (xd dX6_putRecord 122 rfl) (by decide) ?_
        refine zr_iadd (xd dX6_putRecord 123 rfl) ?_
        refine xr_callV mX5_veil 4 [.ref (e + 169), .int (oI x13), .int (oI r26), .int (oI (p3 + 1))] (xd dX6_putRecord 124 rfl) l6_63 kX5_veil rfl (lt491 hn (ltS he (by decide))) (kdS_144 he) (by decide) rfl (by decide) (Nat.le_of_ble_eq_true rfl) (v_X5_veil hn hR he (za_mk (kdS_169 he) (ltS he (by decide))) h) (by decide) (by decide) (fun r_ M_ h_ => ?_) (fun _ _ h_ => h_.elim)
        obtain ⟨J28, L29, rfl, rfl, h⟩ := h_
        show xJ _ _ _ _ _ _ _ _ _ 203 [(0, .ref (e + 168)), (1, .int (oI p1)), (2, .int (oI p2)), (3, .int (oI p3)), (4, .int (oI x2)), (5, .int (oI x13)), (6, .int (oI r26)), (7, .int (oI x27))] [] _ _ _ (zi J28) (li L29)
        refine xr_aload_n (xd dX6_putRecord 125 rfl) 0 rfl ?_
        refine xr_getR (b := (e + 144)) 6 2 (xd dX6_putRecord 126 rfl) f6_29 (by decide) (by decide) (lt491 hn (ltS he (by decide))) (kdS_168 he) rfl (rS_168_2 hR he) ?_
        refine xr_aload_n (xd dX6_putRecord 127 rfl) 0 rfl ?_
        refine xr_getR (b := (e + 169)) 6 3 (xd dX6_putRecord 128 rfl) f6_9 (by decide) (by decide) (lt491 hn (ltS he (by decide))) (kdS_168 he) rfl (rS_168_3 hR he) ?_
        refine xr_iload (xd dX6_putRecord 129 rfl) 5 rfl ?_
        refine xr_iload (xd dX6_putRecord 130 rfl) 6 rfl ?_
        refine xr_iload_n (xd dX6_putRecord 131 rfl) 3 rfl ?_
        refine xr_iconst (v := oI 1) (xd dX6_putRecord 132 rfl) (by decide) ?_
        refine zr_iadd (xd dX6_putRecord 133 rfl) ?_
        refine xr_callV mX5_tagOf 4 [.ref (e + 169), .int (oI x13), .int (oI r26), .int (oI (p3 + 1))] (xd dX6_putRecord 134 rfl) l6_67 kX5_tagOf rfl (lt491 hn (ltS he (by decide))) (kdS_144 he) (by decide) rfl (by decide) (Nat.le_of_ble_eq_true rfl) (v_X5_tagOf hn hR he (za_mk (kdS_169 he) (ltS he (by decide))) h) (by decide) (by decide) (fun r_ M_ h_ => ?_) (fun _ _ h_ => h_.elim)
        obtain ⟨r32, J30, L31, rfl, rfl, h⟩ := h_
        show xJ _ _ _ _ _ _ _ _ _ 221 [(0, .ref (e + 168)), (1, .int (oI p1)), (2, .int (oI p2)), (3, .int (oI p3)), (4, .int (oI x2)), (5, .int (oI x13)), (6, .int (oI r26)), (7, .int (oI x27))] [.ref r32] _ _ _ (zi J30) (li L31)
        refine xr_iconst (v := oI 0) (xd dX6_putRecord 135 rfl) (by decide) ?_
        refine xr_aload_n (xd dX6_putRecord 136 rfl) 0 rfl ?_
        refine xr_getR (b := (e + 169)) 6 3 (xd dX6_putRecord 137 rfl) f6_9 (by decide) (by decide) (lt491 hn (ltS he (by decide))) (kdS_168 he) rfl (rS_168_3 hR he) ?_
        refine xr_iload (xd dX6_putRecord 138 rfl) 7 rfl ?_
        refine xr_bipush (v := oI 8) (xd dX6_putRecord 139 rfl) (by decide) ?_
        obtain ⟨o33, h⟩ := h
        obtain ⟨o34, h⟩ := h
        obtain ⟨J35, e_J35⟩ : ∃ z_ : zM, z_ = zcp J30 r32 0 (e + 169) x27 8 := ⟨_, rfl⟩
        replace h := h J35 e_J35
        refine zr_acopy e_J35 (xd dX6_putRecord 140 rfl) l6_51 (lt491 hn o33.2) o33.1 rfl (ln0_lt r32) (lt491 hn (ltS he (by decide))) (kdS_169 he) (lnS_169 he) (by decide) o34.1 o34.2.1 o34.2.2.1 o34.2.2.2.1 o34.2.2.2.2 ⟨Nat.le_of_ble_eq_true rfl, Nat.le_of_ble_eq_true rfl⟩ ?_
        refine xr_aload_n (xd dX6_putRecord 141 rfl) 0 rfl ?_
        refine xr_getR (b := (e + 144)) 6 2 (xd dX6_putRecord 142 rfl) f6_29 (by decide) (by decide) (lt491 hn (ltS he (by decide))) (kdS_168 he) rfl (rS_168_2 hR he) ?_
        refine xr_aload_n (xd dX6_putRecord 143 rfl) 0 rfl ?_
        refine xr_getR (b := (e + 169)) 6 3 (xd dX6_putRecord 144 rfl) f6_9 (by decide) (by decide) (lt491 hn (ltS he (by decide))) (kdS_168 he) rfl (rS_168_3 hR he) ?_
        refine xr_iload (xd dX6_putRecord 145 rfl) 7 rfl ?_
        refine xr_iload (xd dX6_putRecord 146 rfl) 6 rfl ?_
        refine xr_callV mX5_maskOf 3 [.ref (e + 169), .int (oI x27), .int (oI r26)] (xd dX6_putRecord 147 rfl) l6_71 kX5_maskOf rfl (lt491 hn (ltS he (by decide))) (kdS_144 he) (by decide) rfl (by decide) (Nat.le_of_ble_eq_true rfl) (v_X5_maskOf hn hR he (za_mk (kdS_169 he) (ltS he (by decide))) h) (by decide) (by decide) (fun r_ M_ h_ => ?_) (fun _ _ h_ => h_.elim)
        obtain ⟨r38, J36, L37, rfl, rfl, h⟩ := h_
        show xJ _ _ _ _ _ _ _ _ _ 248 [(0, .ref (e + 168)), (1, .int (oI p1)), (2, .int (oI p2)), (3, .int (oI p3)), (4, .int (oI x2)), (5, .int (oI x13)), (6, .int (oI r26)), (7, .int (oI x27))] [.int (oI r38)] _ _ _ (zi J36) (li L37)
        refine xr_istore [(0, .ref (e + 168)), (1, .int (oI p1)), (2, .int (oI p2)), (3, .int (oI p3)), (4, .int (oI x2)), (5, .int (oI x13)), (6, .int (oI r26)), (7, .int (oI x27)), (8, .int (oI r38))] (xd dX6_putRecord 148 rfl) (by decide) rfl ?_
        refine xr_aload_n (xd dX6_putRecord 149 rfl) 0 rfl ?_
        refine xr_getR (b := (e + 169)) 6 3 (xd dX6_putRecord 150 rfl) f6_9 (by decide) (by decide) (lt491 hn (ltS he (by decide))) (kdS_168 he) rfl (rS_168_3 hR he) ?_
        refine xr_iload (xd dX6_putRecord 151 rfl) 5 rfl ?_
        refine xr_iconst (v := oI 1) (xd dX6_putRecord 152 rfl) (by decide) ?_
        refine zr_iadd (xd dX6_putRecord 153 rfl) ?_
        refine xr_dup2 (xd dX6_putRecord 154 rfl) rfl rfl ?_
        obtain ⟨o39, h⟩ := h
        refine zr_iaload (xd dX6_putRecord 155 rfl) (lt491 hn (ltS he (by decide))) (kdS_169 he) (lnS_169 he) (by decide) o39 ?_
        refine xr_iload (xd dX6_putRecord 156 rfl) 8 rfl ?_
        refine xr_bipush (v := oI 8) (xd dX6_putRecord 157 rfl) (by decide) ?_
        refine zr_iushr (xd dX6_putRecord 158 rfl) ?_
        refine zr_ixor (xd dX6_putRecord 159 rfl) ?_
        obtain ⟨o40, h⟩ := h
        obtain ⟨J41, e_J41⟩ : ∃ z_ : zM, z_ = zs J36 (e + 169) (x13 + 1) (zxor (J36 (e + 169) (x13 + 1)) (zush r38 8)) := ⟨_, rfl⟩
        replace h := h J41 e_J41
        refine zr_iastore e_J41 (xd dX6_putRecord 160 rfl) (lt491 hn (ltS he (by decide))) (kdS_169 he) (lnS_169 he) (by decide) o40 ?_
        refine xr_aload_n (xd dX6_putRecord 161 rfl) 0 rfl ?_
        refine xr_getR (b := (e + 169)) 6 3 (xd dX6_putRecord 162 rfl) f6_9 (by decide) (by decide) (lt491 hn (ltS he (by decide))) (kdS_168 he) rfl (rS_168_3 hR he) ?_
        refine xr_iload (xd dX6_putRecord 163 rfl) 5 rfl ?_
        refine xr_iconst (v := oI 2) (xd dX6_putRecord 164 rfl) (by decide) ?_
        refine zr_iadd (xd dX6_putRecord 165 rfl) ?_
        refine xr_dup2 (xd dX6_putRecord 166 rfl) rfl rfl ?_
        obtain ⟨o42, h⟩ := h
        refine zr_iaload (xd dX6_putRecord 167 rfl) (lt491 hn (ltS he (by decide))) (kdS_169 he) (lnS_169 he) (by decide) o42 ?_
        refine xr_iload (xd dX6_putRecord 168 rfl) 8 rfl ?_
        refine xr_sipush (v := oI 255) (xd dX6_putRecord 169 rfl) (by decide) ?_
        refine zr_iand (xd dX6_putRecord 170 rfl) ?_
        refine zr_ixor (xd dX6_putRecord 171 rfl) ?_
        obtain ⟨o43, h⟩ := h
        obtain ⟨J44, e_J44⟩ : ∃ z_ : zM, z_ = zs J41 (e + 169) (x13 + 2) (zxor (J41 (e + 169) (x13 + 2)) (zand r38 255)) := ⟨_, rfl⟩
        replace h := h J44 e_J44
        refine zr_iastore e_J44 (xd dX6_putRecord 172 rfl) (lt491 hn (ltS he (by decide))) (kdS_169 he) (lnS_169 he) (by decide) o43 ?_
        refine xr_aload_n (xd dX6_putRecord 173 rfl) 0 rfl ?_
        refine xr_iload (xd dX6_putRecord 174 rfl) 7 rfl ?_
        refine xr_bipush (v := oI 8) (xd dX6_putRecord 175 rfl) (by decide) ?_
        refine zr_iadd (xd dX6_putRecord 176 rfl) ?_
        obtain ⟨J45, e_J45⟩ : ∃ z_ : zM, z_ = zs J44 (e + 168) 7 (x27 + 8) := ⟨_, rfl⟩
        replace h := h J45 e_J45
        refine zr_putI 6 7 7 rfl e_J45 (xd dX6_putRecord 177 rfl) f6_36 (by decide) (by decide) (lt491 hn (ltS he (by decide))) (kdS_168 he) (Or.inl rfl) rfl rfl (fun _ => rfl) ?_
        refine xr_iload (xd dX6_putRecord 178 rfl) 4 rfl ?_
        exact xr_iret (xd dX6_putRecord 179 rfl) rfl (by decide) (by decide) (fun _ => rfl) ⟨_, _, _, rfl, rfl, h⟩
      · replace h := ifp h c15
        refine xr_aload_n (xd dX6_putRecord 27 rfl) 0 rfl ?_
        refine xr_getR (b := (e + 169)) 6 3 (xd dX6_putRecord 28 rfl) f6_9 (by decide) (by decide) (lt491 hn (ltS he (by decide))) (kdS_168 he) rfl (rS_168_3 hR he) ?_
        refine xr_iload (xd dX6_putRecord 29 rfl) 5 rfl ?_
        refine xr_iload_n (xd dX6_putRecord 30 rfl) 2 rfl ?_
        obtain ⟨o46, h⟩ := h
        obtain ⟨J47, e_J47⟩ : ∃ z_ : zM, z_ = zs J12 (e + 169) x13 p2 := ⟨_, rfl⟩
        replace h := h J47 e_J47
        refine zr_iastore e_J47 (xd dX6_putRecord 31 rfl) (lt491 hn (ltS he (by decide))) (kdS_169 he) (lnS_169 he) (by decide) o46 ?_
        refine xr_aload_n (xd dX6_putRecord 32 rfl) 0 rfl ?_
        refine xr_getR (b := (e + 169)) 6 3 (xd dX6_putRecord 33 rfl) f6_9 (by decide) (by decide) (lt491 hn (ltS he (by decide))) (kdS_168 he) rfl (rS_168_3 hR he) ?_
        refine xr_iload (xd dX6_putRecord 34 rfl) 5 rfl ?_
        refine xr_iconst (v := oI 1) (xd dX6_putRecord 35 rfl) (by decide) ?_
        refine zr_iadd (xd dX6_putRecord 36 rfl) ?_
        refine xr_iconst (v := oI 0) (xd dX6_putRecord 37 rfl) (by decide) ?_
        obtain ⟨o48, h⟩ := h
        obtain ⟨J49, e_J49⟩ : ∃ z_ : zM, z_ = zs J47 (e + 169) (x13 + 1) 0 := ⟨_, rfl⟩
        replace h := h J49 e_J49
        refine zr_iastore e_J49 (xd dX6_putRecord 38 rfl) (lt491 hn (ltS he (by decide))) (kdS_169 he) (lnS_169 he) (by decide) o48 ?_
        refine xr_aload_n (xd dX6_putRecord 39 rfl) 0 rfl ?_
        refine xr_iload (xd dX6_putRecord 40 rfl) 5 rfl ?_
        refine xr_iconst (v := oI 2) (xd dX6_putRecord 41 rfl) (by decide) ?_
        refine zr_iadd (xd dX6_putRecord 42 rfl) ?_
        refine xr_iload (xd dX6_putRecord 43 rfl) 4 rfl ?_
        refine xr_iload_n (xd dX6_putRecord 44 rfl) 3 rfl ?_
        refine xr_callV mX6_putTwoShorts 3 [.int (oI (x13 + 2)), .int (oI x2), .int (oI p3)] (xd dX6_putRecord 45 rfl) l6_47 kX6_putTwoShorts rfl (lt491 hn (ltS he (by decide))) (kdS_168 he) (by decide) rfl (by decide) (Nat.le_of_ble_eq_true rfl) (v_X6_putTwoShorts hn hR he h) (by decide) (by decide) (fun r_ M_ h_ => ?_) (fun _ _ h_ => h_.elim)
        obtain ⟨J50, L51, rfl, rfl, h⟩ := h_
        show xJ _ _ _ _ _ _ _ _ _ 75 [(0, .ref (e + 168)), (1, .int (oI p1)), (2, .int (oI p2)), (3, .int (oI p3)), (4, .int (oI x2)), (5, .int (oI x13))] [] _ _ _ (zi J50) (li L51)
        refine xr_aload_n (xd dX6_putRecord 46 rfl) 0 rfl ?_
        refine xr_getR (b := (e + 170)) 6 4 (xd dX6_putRecord 47 rfl) f6_15 (by decide) (by decide) (lt491 hn (ltS he (by decide))) (kdS_168 he) rfl (rS_168_4 hR he) ?_
        refine xr_iconst (v := oI 0) (xd dX6_putRecord 48 rfl) (by decide) ?_
        refine xr_aload_n (xd dX6_putRecord 49 rfl) 0 rfl ?_
        refine xr_getR (b := (e + 169)) 6 3 (xd dX6_putRecord 50 rfl) f6_9 (by decide) (by decide) (lt491 hn (ltS he (by decide))) (kdS_168 he) rfl (rS_168_3 hR he) ?_
        refine xr_iload (xd dX6_putRecord 51 rfl) 5 rfl ?_
        refine xr_bipush (v := oI 6) (xd dX6_putRecord 52 rfl) (by decide) ?_
        refine zr_iadd (xd dX6_putRecord 53 rfl) ?_
        refine xr_iload_n (xd dX6_putRecord 54 rfl) 3 rfl ?_
        obtain ⟨o52, h⟩ := h
        obtain ⟨J53, e_J53⟩ : ∃ z_ : zM, z_ = zcp J50 (e + 170) 0 (e + 169) (x13 + 6) p3 := ⟨_, rfl⟩
        replace h := h J53 e_J53
        refine zr_acopy e_J53 (xd dX6_putRecord 55 rfl) l6_51 (lt491 hn (ltS he (by decide))) (kdS_170 he) (lnS_170 he) (by decide) (lt491 hn (ltS he (by decide))) (kdS_169 he) (lnS_169 he) (by decide) o52.1 o52.2.1 o52.2.2.1 o52.2.2.2.1 o52.2.2.2.2 ⟨Nat.le_of_ble_eq_true rfl, Nat.le_of_ble_eq_true rfl⟩ ?_
        refine xr_aload_n (xd dX6_putRecord 56 rfl) 0 rfl ?_
        refine xr_iload (xd dX6_putRecord 57 rfl) 5 rfl ?_
        refine xr_bipush (v := oI 6) (xd dX6_putRecord 58 rfl) (by decide) ?_
        refine zr_iadd (xd dX6_putRecord 59 rfl) ?_
        refine xr_iload_n (xd dX6_putRecord 60 rfl) 3 rfl ?_
        refine zr_iadd (xd dX6_putRecord 61 rfl) ?_
        obtain ⟨J54, e_J54⟩ : ∃ z_ : zM, z_ = zs J53 (e + 168) 7 ((x13 + 6) + p3) := ⟨_, rfl⟩
        replace h := h J54 e_J54
        refine zr_putI 6 7 7 rfl e_J54 (xd dX6_putRecord 62 rfl) f6_36 (by decide) (by decide) (lt491 hn (ltS he (by decide))) (kdS_168 he) (Or.inl rfl) rfl rfl (fun _ => rfl) ?_
        refine xr_iload (xd dX6_putRecord 63 rfl) 4 rfl ?_
        exact xr_iret (xd dX6_putRecord 64 rfl) rfl (by decide) (by decide) (fun _ => rfl) ⟨_, _, _, rfl, rfl, h⟩
    · replace h := ifp h c10
      refine xr_iconst (v := oI (-1)) (xd dX6_putRecord 13 rfl) (by decide) ?_
      exact xr_iret (xd dX6_putRecord 14 rfl) rfl (by decide) (by decide) (fun _ => rfl) ⟨_, _, _, rfl, rfl, h⟩
def w_X6_flush (e : Nat) (J : zM) (L : yM) (Q : zM → yM → Prop) : Prop := R32 (J (e + 168) 7) ∧ (if 0 < (J (e + 168) 7) then w_X4_add (wy e) (e + 169) (J (e + 168) 7) J L (fun r5 J3 L4 => ∀ J6 : zM, J6 = zs J3 (e + 168) 8 ((J3 (e + 168) 8) + 1) → ∀ J7 : zM, J7 = zs J6 (e + 168) 7 0 → Q J7 L4) else Q J L)
set_option maxHeartbeats 4000000 in
set_option maxRecDepth 100000 in
theorem v_X6_flush {b : Nat} {dC : Nat → ClassId} {dI : Nat → Nat → Nat} {cA : Nat → ClassId} {ts : Nat → Nat} {l : Launch} {n : Nat} {R : Nat → Nat → Option Nat} {al : Bool} (hn : 491 ≤ n) (hR : xRk R) {e : Nat} (he : iSide e) {J : zM} {L : yM} {Q : zM → yM → Prop} (h : w_X6_flush e J L Q) : xCn (xGm b dC dI cA ts) l mX6_flush [.ref (e + 168)] al (n, R, zi J, li L) 0 0 (zQ0 n R Q) (fun _ _ => False) := by
  refine xCn.ofJ (by decide) (Nat.le_of_ble_eq_true rfl) ?_
  show xJ _ _ _ _ _ _ _ _ _ 0 [(0, .ref (e + 168))] [] _ _ _ _ _
  unfold w_X6_flush at h
  refine xr_aload_n (xd dX6_flush 0 rfl) 0 rfl ?_
  refine zr_getI 6 7 7 rfl (xd dX6_flush 1 rfl) f6_36 (by decide) (by decide) (lt491 hn (ltS he (by decide))) (kdS_168 he) rfl ?_
  obtain ⟨o1, h⟩ := h
  refine zr_if_le 38 (xd dX6_flush 2 rfl) (by decide) o1 (fun c2 => ?_) (fun c2 => ?_)
  · replace h := ifn h c2
    exact xr_vret (xd dX6_flush 20 rfl) rfl (by decide) (by decide) (fun _ => rfl) ⟨_, _, rfl, rfl, h⟩
  · replace h := ifp h c2
    refine xr_aload_n (xd dX6_flush 3 rfl) 0 rfl ?_
    refine xr_getR (b := (wy e)) 6 1 (xd dX6_flush 4 rfl) f6_25 (by decide) (by decide) (lt491 hn (ltS he (by decide))) (kdS_168 he) rfl (rS_168_1 hR he) ?_
    refine xr_aload_n (xd dX6_flush 5 rfl) 0 rfl ?_
    refine xr_getR (b := (e + 169)) 6 3 (xd dX6_flush 6 rfl) f6_9 (by decide) (by decide) (lt491 hn (ltS he (by decide))) (kdS_168 he) rfl (rS_168_3 hR he) ?_
    refine xr_aload_n (xd dX6_flush 7 rfl) 0 rfl ?_
    refine zr_getI 6 7 7 rfl (xd dX6_flush 8 rfl) f6_36 (by decide) (by decide) (lt491 hn (ltS he (by decide))) (kdS_168 he) rfl ?_
    refine xr_callV mX4_add 2 [.ref (e + 169), .int (oI (J (e + 168) 7))] (xd dX6_flush 9 rfl) l6_75 kX4_add rfl (lt491 hn (rows_lt0 (wy_hr he))) (rows_kd (wy_hr he)).1 (by decide) rfl (by decide) (Nat.le_of_ble_eq_true rfl) (v_X4_add hn hR (wy_hr he) (za_mk (kdS_169 he) (ltS he (by decide))) h) (by decide) (by decide) (fun r_ M_ h_ => ?_) (fun _ _ h_ => h_.elim)
    obtain ⟨r5, J3, L4, rfl, rfl, h⟩ := h_
    show xJ _ _ _ _ _ _ _ _ _ 22 [(0, .ref (e + 168))] [.int (oI r5)] _ _ _ (zi J3) (li L4)
    refine xr_pop (xd dX6_flush 10 rfl) rfl ?_
    refine xr_aload_n (xd dX6_flush 11 rfl) 0 rfl ?_
    refine xr_dup (xd dX6_flush 12 rfl) rfl ?_
    refine zr_getI 6 8 8 rfl (xd dX6_flush 13 rfl) f6_39 (by decide) (by decide) (lt491 hn (ltS he (by decide))) (kdS_168 he) rfl ?_
    refine xr_iconst (v := oI 1) (xd dX6_flush 14 rfl) (by decide) ?_
    refine zr_iadd (xd dX6_flush 15 rfl) ?_
    obtain ⟨J6, e_J6⟩ : ∃ z_ : zM, z_ = zs J3 (e + 168) 8 ((J3 (e + 168) 8) + 1) := ⟨_, rfl⟩
    replace h := h J6 e_J6
    refine zr_putI 6 8 8 rfl e_J6 (xd dX6_flush 16 rfl) f6_39 (by decide) (by decide) (lt491 hn (ltS he (by decide))) (kdS_168 he) (Or.inl rfl) rfl rfl (fun _ => rfl) ?_
    refine xr_aload_n (xd dX6_flush 17 rfl) 0 rfl ?_
    refine xr_iconst (v := oI 0) (xd dX6_flush 18 rfl) (by decide) ?_
    obtain ⟨J7, e_J7⟩ : ∃ z_ : zM, z_ = zs J6 (e + 168) 7 0 := ⟨_, rfl⟩
    replace h := h J7 e_J7
    refine zr_putI 6 7 7 rfl e_J7 (xd dX6_flush 19 rfl) f6_36 (by decide) (by decide) (lt491 hn (ltS he (by decide))) (kdS_168 he) (Or.inl rfl) rfl rfl (fun _ => rfl) ?_
    exact xr_vret (xd dX6_flush 20 rfl) rfl (by decide) (by decide) (fun _ => rfl) ⟨_, _, rfl, rfl, h⟩
def w_X11_putLong (p1 : Int64) (p2 : Nat) (p3 : Int) (J : zM) (L : yM) (Q : zM → yM → Prop) : Prop := zl_z (fun K1 x2 J3 L4 => R32 x2 ∧ (if x2 < 8 then R32 (p3 + x2) ∧ R32 (ln0 p2 : Int) ∧ (if (p3 + x2) < (ln0 p2 : Int) then ((0 : Int) ≤ (p3 + x2) ∧ (p3 + x2) < (ln0 p2 : Int)) ∧ ∀ J11 : zM, J11 = zs J3 p2 (p3 + x2) (zand (zl2i (yush p1 (56 - (8 * x2)))) 255) → K1 (x2 + 1) J11 L4 else Q J3 L4) else Q J3 L4)) 0 J L
set_option maxHeartbeats 4000000 in
set_option maxRecDepth 100000 in
theorem v_X11_putLong {b : Nat} {dC : Nat → ClassId} {dI : Nat → Nat → Nat} {cA : Nat → ClassId} {ts : Nat → Nat} {l : Launch} {n : Nat} {R : Nat → Nat → Option Nat} {al : Bool} (hn : 491 ≤ n) (hR : xRk R) {p1 : Int64} {p2 : Nat} {p3 : Int} (h_p2 : za p2) {J : zM} {L : yM} {Q : zM → yM → Prop} (h : w_X11_putLong p1 p2 p3 J L Q) : xCn (xGm b dC dI cA ts) l mX11_putLong [.long p1, .ref p2, .int (oI p3)] al (n, R, zi J, li L) 0 0 (zQ0 n R Q) (fun _ _ => False) := by
  refine xCn.ofJ (by decide) (Nat.le_of_ble_eq_true rfl) ?_
  show xJ _ _ _ _ _ _ _ _ _ 0 [(0, .long p1), (2, .ref p2), (3, .int (oI p3))] [] _ _ _ _ _
  unfold w_X11_putLong at h
  refine xr_iconst (v := oI 0) (xd dX11_putLong 0 rfl) (by decide) ?_
  refine xr_istore [(0, .long p1), (2, .ref p2), (3, .int (oI p3)), (4, .int (oI 0))] (xd dX11_putLong 1 rfl) (by decide) rfl ?_
  refine h (fun x2 J3 L4 => xJ (xGm b dC dI cA ts) l mX11_putLong 0 0 (zQ0 n R Q) (fun _ _ => False) 0 0 3 [(0, .long p1), (2, .ref p2), (3, .int (oI p3)), (4, .int (oI x2))] [] al n R (zi J3) (li L4)) ?_
  intro x2 J3 L4 h
  show xJ _ _ _ _ _ _ _ _ _ 3 [(0, .long p1), (2, .ref p2), (3, .int (oI p3)), (4, .int (oI x2))] [] _ _ _ _ _
  refine xr_iload (xd dX11_putLong 2 rfl) 3 rfl ?_
  refine xr_bipush (v := oI 8) (xd dX11_putLong 3 rfl) (by decide) ?_
  obtain ⟨o5, h⟩ := h
  refine zr_icmp_ge 46 (xd dX11_putLong 4 rfl) (by decide) o5 (by decide) (fun c6 => ?_) (fun c6 => ?_)
  · replace h := ifn h c6
    exact xr_vret (xd dX11_putLong 28 rfl) rfl (by decide) (by decide) (fun _ => rfl) ⟨_, _, rfl, rfl, h⟩
  · replace h := ifp h c6
    refine xr_iload_n (xd dX11_putLong 5 rfl) 2 rfl ?_
    refine xr_iload (xd dX11_putLong 6 rfl) 3 rfl ?_
    refine zr_iadd (xd dX11_putLong 7 rfl) ?_
    refine xr_aload_n (xd dX11_putLong 8 rfl) 1 rfl ?_
    refine zr_alen (v := (ln0 p2 : Int)) 0 (xd dX11_putLong 9 rfl) (lt491 hn h_p2.2) (by decide) h_p2.1 rfl rfl ?_
    obtain ⟨o7, h⟩ := h
    obtain ⟨o8, h⟩ := h
    refine zr_icmp_ge 46 (xd dX11_putLong 10 rfl) (by decide) o7 o8 (fun c9 => ?_) (fun c9 => ?_)
    · replace h := ifn h c9
      exact xr_vret (xd dX11_putLong 28 rfl) rfl (by decide) (by decide) (fun _ => rfl) ⟨_, _, rfl, rfl, h⟩
    · replace h := ifp h c9
      refine xr_aload_n (xd dX11_putLong 11 rfl) 1 rfl ?_
      refine xr_iload_n (xd dX11_putLong 12 rfl) 2 rfl ?_
      refine xr_iload (xd dX11_putLong 13 rfl) 3 rfl ?_
      refine zr_iadd (xd dX11_putLong 14 rfl) ?_
      refine xr_lload_n (xd dX11_putLong 15 rfl) 0 rfl ?_
      refine xr_bipush (v := oI 56) (xd dX11_putLong 16 rfl) (by decide) ?_
      refine xr_bipush (v := oI 8) (xd dX11_putLong 17 rfl) (by decide) ?_
      refine xr_iload (xd dX11_putLong 18 rfl) 3 rfl ?_
      refine zr_imul (xd dX11_putLong 19 rfl) ?_
      refine zr_isub (xd dX11_putLong 20 rfl) ?_
      refine zr_lushr (xd dX11_putLong 21 rfl) ?_
      refine zr_l2i (xd dX11_putLong 22 rfl) ?_
      refine xr_sipush (v := oI 255) (xd dX11_putLong 23 rfl) (by decide) ?_
      refine zr_iand (xd dX11_putLong 24 rfl) ?_
      obtain ⟨o10, h⟩ := h
      obtain ⟨J11, e_J11⟩ : ∃ z_ : zM, z_ = zs J3 p2 (p3 + x2) (zand (zl2i (yush p1 (56 - (8 * x2)))) 255) := ⟨_, rfl⟩
      replace h := h J11 e_J11
      refine zr_iastore e_J11 (xd dX11_putLong 25 rfl) (lt491 hn h_p2.2) h_p2.1 rfl (ln0_lt p2) o10 ?_
      refine zr_iinc [(0, .long p1), (2, .ref p2), (3, .int (oI p3)), (4, .int (oI (x2 + 1)))] (xd dX11_putLong 26 rfl) 3 rfl (by decide) rfl ?_
      refine xr_goto 3 (xd dX11_putLong 27 rfl) (by decide) ?_
      exact h
def w_X9_startAnew (e : Nat) (p1 : Int) (p2 : Int) (p3 : Int) (J : zM) (L : yM) (Q : zM → yM → Prop) : Prop := ∀ J1 : zM, J1 = zs J (e + 1) 7 p1 → B01 p2 ∧ ∀ J3 : zM, J3 = zs J1 (e + 1) 5 p2 → B01 p3 ∧ ∀ J5 : zM, J5 = zs J3 (e + 1) 6 p3 → w_X11_putLong 0 (e + 2) 0 J5 L (fun J6 L7 => w_X11_putLong 0 (e + 2) 8 J6 L7 (fun J8 L9 => w_X11_putLong 0 (e + 3) 0 J8 L9 (fun J10 L11 => w_X11_putLong 0 (e + 4) 0 J10 L11 (fun J12 L13 => ∀ J14 : zM, J14 = zs J12 (e + 1) 4 0 → ∀ J15 : zM, J15 = zs J14 (e + 1) 8 0 → ∀ J16 : zM, J16 = zs J15 (e + 1) 11 0 → ∀ J17 : zM, J17 = zs J16 (e + 1) 12 0 → ∀ L18 : yM, L18 = ys L13 (e + 1) 13 0 → ∀ J19 : zM, J19 = zs J17 (e + 1) 14 0 → Q J19 L18))))
set_option maxHeartbeats 4000000 in
set_option maxRecDepth 100000 in
theorem v_X9_startAnew {b : Nat} {dC : Nat → ClassId} {dI : Nat → Nat → Nat} {cA : Nat → ClassId} {ts : Nat → Nat} {l : Launch} {n : Nat} {R : Nat → Nat → Option Nat} {al : Bool} (hn : 491 ≤ n) (hR : xRk R) {e : Nat} {p1 : Int} {p2 : Int} {p3 : Int} (he : iSide e) {J : zM} {L : yM} {Q : zM → yM → Prop} (h : w_X9_startAnew e p1 p2 p3 J L Q) : xCn (xGm b dC dI cA ts) l mX9_startAnew [.ref (e + 1), .int (oI p1), .int (oI p2), .int (oI p3)] al (n, R, zi J, li L) 0 0 (zQ0 n R Q) (fun _ _ => False) := by
  refine xCn.ofJ (by decide) (Nat.le_of_ble_eq_true rfl) ?_
  show xJ _ _ _ _ _ _ _ _ _ 0 [(0, .ref (e + 1)), (1, .int (oI p1)), (2, .int (oI p2)), (3, .int (oI p3))] [] _ _ _ _ _
  unfold w_X9_startAnew at h
  refine xr_aload_n (xd dX9_startAnew 0 rfl) 0 rfl ?_
  refine xr_iload_n (xd dX9_startAnew 1 rfl) 1 rfl ?_
  obtain ⟨J1, e_J1⟩ : ∃ z_ : zM, z_ = zs J (e + 1) 7 p1 := ⟨_, rfl⟩
  replace h := h J1 e_J1
  refine zr_putI 9 7 7 rfl e_J1 (xd dX9_startAnew 2 rfl) f9_30 (by decide) (by decide) (lt491 hn (ltS he (by decide))) (kdS_1 he) (Or.inl rfl) rfl rfl (fun _ => rfl) ?_
  refine xr_aload_n (xd dX9_startAnew 3 rfl) 0 rfl ?_
  refine xr_iload_n (xd dX9_startAnew 4 rfl) 2 rfl ?_
  obtain ⟨o2, h⟩ := h
  obtain ⟨J3, e_J3⟩ : ∃ z_ : zM, z_ = zs J1 (e + 1) 5 p2 := ⟨_, rfl⟩
  replace h := h J3 e_J3
  refine zr_putI 9 5 5 rfl e_J3 (xd dX9_startAnew 5 rfl) f9_34 (by decide) (by decide) (lt491 hn (ltS he (by decide))) (kdS_1 he) (Or.inl rfl) (zret_b o2) (fits_b o2) (fun _ => rfl) ?_
  refine xr_aload_n (xd dX9_startAnew 6 rfl) 0 rfl ?_
  refine xr_iload_n (xd dX9_startAnew 7 rfl) 3 rfl ?_
  obtain ⟨o4, h⟩ := h
  obtain ⟨J5, e_J5⟩ : ∃ z_ : zM, z_ = zs J3 (e + 1) 6 p3 := ⟨_, rfl⟩
  replace h := h J5 e_J5
  refine zr_putI 9 6 6 rfl e_J5 (xd dX9_startAnew 8 rfl) f9_38 (by decide) (by decide) (lt491 hn (ltS he (by decide))) (kdS_1 he) (Or.inl rfl) (zret_b o4) (fits_b o4) (fun _ => rfl) ?_
  refine xr_lconst (v := 0) (xd dX9_startAnew 9 rfl) (by decide) ?_
  refine xr_aload_n (xd dX9_startAnew 10 rfl) 0 rfl ?_
  refine xr_getR (b := (e + 2)) 9 0 (xd dX9_startAnew 11 rfl) f9_9 (by decide) (by decide) (lt491 hn (ltS he (by decide))) (kdS_1 he) rfl (rS_1_0 hR he) ?_
  refine xr_iconst (v := oI 0) (xd dX9_startAnew 12 rfl) (by decide) ?_
  refine xr_callSN mX11_putLong 3 [.long 0, .ref (e + 2), .int (oI 0)] (xd dX9_startAnew 13 rfl) n9_41 kX11_putLong rfl (by decide) (Nat.le_of_ble_eq_true rfl) (v_X11_putLong hn hR (za_mk (kdS_2 he) (ltS he (by decide))) h) (by decide) (by decide) (fun r_ M_ h_ => ?_)
  obtain ⟨J6, L7, rfl, rfl, h⟩ := h_
  show xJ _ _ _ _ _ _ _ _ _ 24 [(0, .ref (e + 1)), (1, .int (oI p1)), (2, .int (oI p2)), (3, .int (oI p3))] [] _ _ _ (zi J6) (li L7)
  refine xr_lconst (v := 0) (xd dX9_startAnew 14 rfl) (by decide) ?_
  refine xr_aload_n (xd dX9_startAnew 15 rfl) 0 rfl ?_
  refine xr_getR (b := (e + 2)) 9 0 (xd dX9_startAnew 16 rfl) f9_9 (by decide) (by decide) (lt491 hn (ltS he (by decide))) (kdS_1 he) rfl (rS_1_0 hR he) ?_
  refine xr_bipush (v := oI 8) (xd dX9_startAnew 17 rfl) (by decide) ?_
  refine xr_callSN mX11_putLong 3 [.long 0, .ref (e + 2), .int (oI 8)] (xd dX9_startAnew 18 rfl) n9_41 kX11_putLong rfl (by decide) (Nat.le_of_ble_eq_true rfl) (v_X11_putLong hn hR (za_mk (kdS_2 he) (ltS he (by decide))) h) (by decide) (by decide) (fun r_ M_ h_ => ?_)
  obtain ⟨J8, L9, rfl, rfl, h⟩ := h_
  show xJ _ _ _ _ _ _ _ _ _ 34 [(0, .ref (e + 1)), (1, .int (oI p1)), (2, .int (oI p2)), (3, .int (oI p3))] [] _ _ _ (zi J8) (li L9)
  refine xr_lconst (v := 0) (xd dX9_startAnew 19 rfl) (by decide) ?_
  refine xr_aload_n (xd dX9_startAnew 20 rfl) 0 rfl ?_
  refine xr_getR (b := (e + 3)) 9 1 (xd dX9_startAnew 21 rfl) f9_15 (by decide) (by decide) (lt491 hn (ltS he (by decide))) (kdS_1 he) rfl (rS_1_1 hR he) ?_
  refine xr_iconst (v := oI 0) (xd dX9_startAnew 22 rfl) (by decide) ?_
  refine xr_callSN mX11_putLong 3 [.long 0, .ref (e + 3), .int (oI 0)] (xd dX9_startAnew 23 rfl) n9_41 kX11_putLong rfl (by decide) (Nat.le_of_ble_eq_true rfl) (v_X11_putLong hn hR (za_mk (kdS_3 he) (ltS he (by decide))) h) (by decide) (by decide) (fun r_ M_ h_ => ?_)
  obtain ⟨J10, L11, rfl, rfl, h⟩ := h_
  show xJ _ _ _ _ _ _ _ _ _ 43 [(0, .ref (e + 1)), (1, .int (oI p1)), (2, .int (oI p2)), (3, .int (oI p3))] [] _ _ _ (zi J10) (li L11)
  refine xr_lconst (v := 0) (xd dX9_startAnew 24 rfl) (by decide) ?_
  refine xr_aload_n (xd dX9_startAnew 25 rfl) 0 rfl ?_
  refine xr_getR (b := (e + 4)) 9 2 (xd dX9_startAnew 26 rfl) f9_18 (by decide) (by decide) (lt491 hn (ltS he (by decide))) (kdS_1 he) rfl (rS_1_2 hR he) ?_
  refine xr_iconst (v := oI 0) (xd dX9_startAnew 27 rfl) (by decide) ?_
  refine xr_callSN mX11_putLong 3 [.long 0, .ref (e + 4), .int (oI 0)] (xd dX9_startAnew 28 rfl) n9_41 kX11_putLong rfl (by decide) (Nat.le_of_ble_eq_true rfl) (v_X11_putLong hn hR (za_mk (kdS_4 he) (ltS he (by decide))) h) (by decide) (by decide) (fun r_ M_ h_ => ?_)
  obtain ⟨J12, L13, rfl, rfl, h⟩ := h_
  show xJ _ _ _ _ _ _ _ _ _ 52 [(0, .ref (e + 1)), (1, .int (oI p1)), (2, .int (oI p2)), (3, .int (oI p3))] [] _ _ _ (zi J12) (li L13)
  refine xr_aload_n (xd dX9_startAnew 29 rfl) 0 rfl ?_
  refine xr_iconst (v := oI 0) (xd dX9_startAnew 30 rfl) (by decide) ?_
  obtain ⟨J14, e_J14⟩ : ∃ z_ : zM, z_ = zs J12 (e + 1) 4 0 := ⟨_, rfl⟩
  replace h := h J14 e_J14
  refine zr_putI 9 4 4 rfl e_J14 (xd dX9_startAnew 31 rfl) f9_45 (by decide) (by decide) (lt491 hn (ltS he (by decide))) (kdS_1 he) (Or.inl rfl) rfl rfl (fun _ => rfl) ?_
  refine xr_aload_n (xd dX9_startAnew 32 rfl) 0 rfl ?_
  refine xr_iconst (v := oI 0) (xd dX9_startAnew 33 rfl) (by decide) ?_
  obtain ⟨J15, e_J15⟩ : ∃ z_ : zM, z_ = zs J14 (e + 1) 8 0 := ⟨_, rfl⟩
  replace h := h J15 e_J15
  refine zr_putI 9 8 8 rfl e_J15 (xd dX9_startAnew 34 rfl) f9_48 (by decide) (by decide) (lt491 hn (ltS he (by decide))) (kdS_1 he) (Or.inl rfl) rfl rfl (fun _ => rfl) ?_
  refine xr_aload_n (xd dX9_startAnew 35 rfl) 0 rfl ?_
  refine xr_iconst (v := oI 0) (xd dX9_startAnew 36 rfl) (by decide) ?_
  obtain ⟨J16, e_J16⟩ : ∃ z_ : zM, z_ = zs J15 (e + 1) 11 0 := ⟨_, rfl⟩
  replace h := h J16 e_J16
  refine zr_putI 9 11 11 rfl e_J16 (xd dX9_startAnew 37 rfl) f9_51 (by decide) (by decide) (lt491 hn (ltS he (by decide))) (kdS_1 he) (Or.inl rfl) rfl rfl (fun _ => rfl) ?_
  refine xr_aload_n (xd dX9_startAnew 38 rfl) 0 rfl ?_
  refine xr_iconst (v := oI 0) (xd dX9_startAnew 39 rfl) (by decide) ?_
  obtain ⟨J17, e_J17⟩ : ∃ z_ : zM, z_ = zs J16 (e + 1) 12 0 := ⟨_, rfl⟩
  replace h := h J17 e_J17
  refine zr_putI 9 12 12 rfl e_J17 (xd dX9_startAnew 40 rfl) f9_54 (by decide) (by decide) (lt491 hn (ltS he (by decide))) (kdS_1 he) (Or.inl rfl) rfl rfl (fun _ => rfl) ?_
  refine xr_aload_n (xd dX9_startAnew 41 rfl) 0 rfl ?_
  refine xr_lconst (v := 0) (xd dX9_startAnew 42 rfl) (by decide) ?_
  obtain ⟨L18, e_L18⟩ : ∃ z_ : yM, z_ = ys L13 (e + 1) 13 0 := ⟨_, rfl⟩
  replace h := h L18 e_L18
  refine zr_putL 9 13 13 rfl e_L18 (xd dX9_startAnew 43 rfl) f9_57 (by decide) (by decide) (lt491 hn (ltS he (by decide))) (kdS_1 he) rfl rfl rfl (fun _ => rfl) ?_
  refine xr_aload_n (xd dX9_startAnew 44 rfl) 0 rfl ?_
  refine xr_iconst (v := oI 0) (xd dX9_startAnew 45 rfl) (by decide) ?_
  obtain ⟨J19, e_J19⟩ : ∃ z_ : zM, z_ = zs J17 (e + 1) 14 0 := ⟨_, rfl⟩
  replace h := h J19 e_J19
  refine zr_putI 9 14 14 rfl e_J19 (xd dX9_startAnew 46 rfl) f9_61 (by decide) (by decide) (lt491 hn (ltS he (by decide))) (kdS_1 he) (Or.inl rfl) rfl rfl (fun _ => rfl) ?_
  exact xr_vret (xd dX9_startAnew 47 rfl) rfl (by decide) (by decide) (fun _ => rfl) ⟨_, _, rfl, rfl, h⟩
def w_X10_startAnew (w : Nat) (J : zM) (L : yM) (Q : zM → yM → Prop) : Prop := ∀ J1 : zM, J1 = zs J w 0 (-1) → ∀ L2 : yM, L2 = ys L w 1 0 → Q J1 L2
set_option maxHeartbeats 4000000 in
set_option maxRecDepth 100000 in
theorem v_X10_startAnew {b : Nat} {dC : Nat → ClassId} {dI : Nat → Nat → Nat} {cA : Nat → ClassId} {ts : Nat → Nat} {l : Launch} {n : Nat} {R : Nat → Nat → Option Nat} {al : Bool} (hn : 491 ≤ n) (hR : xRk R) {w : Nat} (h_w : (kd0 w = 10 ∧ w < 491)) {J : zM} {L : yM} {Q : zM → yM → Prop} (h : w_X10_startAnew w J L Q) : xCn (xGm b dC dI cA ts) l mX10_startAnew [.ref w] al (n, R, zi J, li L) 0 0 (zQ0 n R Q) (fun _ _ => False) := by
  refine xCn.ofJ (by decide) (Nat.le_of_ble_eq_true rfl) ?_
  show xJ _ _ _ _ _ _ _ _ _ 0 [(0, .ref w)] [] _ _ _ _ _
  unfold w_X10_startAnew at h
  refine xr_aload_n (xd dX10_startAnew 0 rfl) 0 rfl ?_
  refine xr_iconst (v := oI (-1)) (xd dX10_startAnew 1 rfl) (by decide) ?_
  obtain ⟨J1, e_J1⟩ : ∃ z_ : zM, z_ = zs J w 0 (-1) := ⟨_, rfl⟩
  replace h := h J1 e_J1
  refine zr_putI 10 0 0 rfl e_J1 (xd dX10_startAnew 2 rfl) f10_7 (by decide) (by decide) (lt491 hn h_w.2) h_w.1 (Or.inl rfl) rfl rfl (fun _ => rfl) ?_
  refine xr_aload_n (xd dX10_startAnew 3 rfl) 0 rfl ?_
  refine xr_lconst (v := 0) (xd dX10_startAnew 4 rfl) (by decide) ?_
  obtain ⟨L2, e_L2⟩ : ∃ z_ : yM, z_ = ys L w 1 0 := ⟨_, rfl⟩
  replace h := h L2 e_L2
  refine zr_putL 10 1 1 rfl e_L2 (xd dX10_startAnew 5 rfl) f10_13 (by decide) (by decide) (lt491 hn h_w.2) h_w.1 rfl rfl rfl (fun _ => rfl) ?_
  exact xr_vret (xd dX10_startAnew 6 rfl) rfl (by decide) (by decide) (fun _ => rfl) ⟨_, _, rfl, rfl, h⟩
def w_X11_epochOfKind (p1 : Int) (J : zM) (L : yM) (Q : Int → zM → yM → Prop) : Prop := R32 p1 ∧ (if p1 = 8 then Q 2 J L else (if p1 = 20 then Q 2 J L else Q 0 J L))
set_option maxHeartbeats 4000000 in
set_option maxRecDepth 100000 in
theorem v_X11_epochOfKind {b : Nat} {dC : Nat → ClassId} {dI : Nat → Nat → Nat} {cA : Nat → ClassId} {ts : Nat → Nat} {l : Launch} {n : Nat} {R : Nat → Nat → Option Nat} {al : Bool} (hn : 491 ≤ n) (hR : xRk R) {p1 : Int}  {J : zM} {L : yM} {Q : Int → zM → yM → Prop} (h : w_X11_epochOfKind p1 J L Q) : xCn (xGm b dC dI cA ts) l mX11_epochOfKind [.int (oI p1)] al (n, R, zi J, li L) 0 0 (zQ1 n R Q) (fun _ _ => False) := by
  refine xCn.ofJ (by decide) (Nat.le_of_ble_eq_true rfl) ?_
  show xJ _ _ _ _ _ _ _ _ _ 0 [(0, .int (oI p1))] [] _ _ _ _ _
  unfold w_X11_epochOfKind at h
  refine xr_iload_n (xd dX11_epochOfKind 0 rfl) 0 rfl ?_
  refine xr_bipush (v := oI 8) (xd dX11_epochOfKind 1 rfl) (by decide) ?_
  obtain ⟨o1, h⟩ := h
  refine zr_icmp_eq 12 (xd dX11_epochOfKind 2 rfl) (by decide) o1 (by decide) (fun c2 => ?_) (fun c2 => ?_)
  · replace h := ifp h c2
    refine xr_iconst (v := oI 2) (xd dX11_epochOfKind 6 rfl) (by decide) ?_
    refine xr_goto 17 (xd dX11_epochOfKind 7 rfl) (by decide) ?_
    exact xr_iret (xd dX11_epochOfKind 9 rfl) rfl (by decide) (by decide) (fun _ => rfl) ⟨_, _, _, rfl, rfl, h⟩
  · replace h := ifn h c2
    refine xr_iload_n (xd dX11_epochOfKind 3 rfl) 0 rfl ?_
    refine xr_bipush (v := oI 20) (xd dX11_epochOfKind 4 rfl) (by decide) ?_
    refine zr_icmp_ne 16 (xd dX11_epochOfKind 5 rfl) (by decide) o1 (by decide) (fun c3 => ?_) (fun c3 => ?_)
    · replace h := ifn h c3
      refine xr_iconst (v := oI 0) (xd dX11_epochOfKind 8 rfl) (by decide) ?_
      exact xr_iret (xd dX11_epochOfKind 9 rfl) rfl (by decide) (by decide) (fun _ => rfl) ⟨_, _, _, rfl, rfl, h⟩
    · replace h := ifp h c3
      refine xr_iconst (v := oI 2) (xd dX11_epochOfKind 6 rfl) (by decide) ?_
      refine xr_goto 17 (xd dX11_epochOfKind 7 rfl) (by decide) ?_
      exact xr_iret (xd dX11_epochOfKind 9 rfl) rfl (by decide) (by decide) (fun _ => rfl) ⟨_, _, _, rfl, rfl, h⟩
def w_X10_refuses (w : Nat) (p1 : Int) (J : zM) (L : yM) (Q : Int → zM → yM → Prop) : Prop := ∀ x1 : Int, x1 = ((J w 0) - p1) → R32 x1 ∧ (if x1 < 64 then (if x1 < 0 then Q 0 J L else (if (zcmp ((yush (L w 1) x1) &&& 1) 0) = 0 then Q 0 J L else Q 1 J L)) else Q 1 J L)
set_option maxHeartbeats 4000000 in
set_option maxRecDepth 100000 in
theorem v_X10_refuses {b : Nat} {dC : Nat → ClassId} {dI : Nat → Nat → Nat} {cA : Nat → ClassId} {ts : Nat → Nat} {l : Launch} {n : Nat} {R : Nat → Nat → Option Nat} {al : Bool} (hn : 491 ≤ n) (hR : xRk R) {w : Nat} {p1 : Int} (h_w : (kd0 w = 10 ∧ w < 491)) {J : zM} {L : yM} {Q : Int → zM → yM → Prop} (h : w_X10_refuses w p1 J L Q) : xCn (xGm b dC dI cA ts) l mX10_refuses [.ref w, .int (oI p1)] al (n, R, zi J, li L) 0 0 (zQ1 n R Q) (fun _ _ => False) := by
  refine xCn.ofJ (by decide) (Nat.le_of_ble_eq_true rfl) ?_
  show xJ _ _ _ _ _ _ _ _ _ 0 [(0, .ref w), (1, .int (oI p1))] [] _ _ _ _ _
  unfold w_X10_refuses at h
  refine xr_aload_n (xd dX10_refuses 0 rfl) 0 rfl ?_
  refine zr_getI 10 0 0 rfl (xd dX10_refuses 1 rfl) f10_7 (by decide) (by decide) (lt491 hn h_w.2) h_w.1 rfl ?_
  refine xr_iload_n (xd dX10_refuses 2 rfl) 1 rfl ?_
  refine zr_isub (xd dX10_refuses 3 rfl) ?_
  obtain ⟨x1, e_x1⟩ : ∃ z_ : Int, z_ = ((J w 0) - p1) := ⟨_, rfl⟩
  replace h := h x1 e_x1
  refine zr_nm e_x1 ?_
  refine xr_istore_n [(0, .ref w), (1, .int (oI p1)), (2, .int (oI x1))] (xd dX10_refuses 4 rfl) rfl (by decide) rfl ?_
  refine xr_iload_n (xd dX10_refuses 5 rfl) 2 rfl ?_
  refine xr_bipush (v := oI 64) (xd dX10_refuses 6 rfl) (by decide) ?_
  obtain ⟨o2, h⟩ := h
  refine zr_icmp_ge 30 (xd dX10_refuses 7 rfl) (by decide) o2 (by decide) (fun c3 => ?_) (fun c3 => ?_)
  · replace h := ifn h c3
    refine xr_iconst (v := oI 1) (xd dX10_refuses 19 rfl) (by decide) ?_
    refine xr_goto 35 (xd dX10_refuses 20 rfl) (by decide) ?_
    exact xr_zret (xd dX10_refuses 22 rfl) rfl (zret_b (Or.inr rfl)) (by decide) (by decide) (fun _ => rfl) ⟨_, _, _, rfl, rfl, h⟩
  · replace h := ifp h c3
    refine xr_iload_n (xd dX10_refuses 8 rfl) 2 rfl ?_
    refine zr_if_lt 34 (xd dX10_refuses 9 rfl) (by decide) o2 (fun c4 => ?_) (fun c4 => ?_)
    · replace h := ifp h c4
      refine xr_iconst (v := oI 0) (xd dX10_refuses 21 rfl) (by decide) ?_
      exact xr_zret (xd dX10_refuses 22 rfl) rfl (zret_b (Or.inl rfl)) (by decide) (by decide) (fun _ => rfl) ⟨_, _, _, rfl, rfl, h⟩
    · replace h := ifn h c4
      refine xr_aload_n (xd dX10_refuses 10 rfl) 0 rfl ?_
      refine zr_getL 10 1 1 rfl (xd dX10_refuses 11 rfl) f10_13 (by decide) (by decide) (lt491 hn h_w.2) h_w.1 rfl ?_
      refine xr_iload_n (xd dX10_refuses 12 rfl) 2 rfl ?_
      refine zr_lushr (xd dX10_refuses 13 rfl) ?_
      refine xr_lconst (v := 1) (xd dX10_refuses 14 rfl) (by decide) ?_
      refine xr_land (xd dX10_refuses 15 rfl) ?_
      refine xr_lconst (v := 0) (xd dX10_refuses 16 rfl) (by decide) ?_
      refine zr_lcmp (xd dX10_refuses 17 rfl) ?_
      refine zr_if_eq 34 (xd dX10_refuses 18 rfl) (by decide) (R32_of _) (fun c5 => ?_) (fun c5 => ?_)
      · replace h := ifp h c5
        refine xr_iconst (v := oI 0) (xd dX10_refuses 21 rfl) (by decide) ?_
        exact xr_zret (xd dX10_refuses 22 rfl) rfl (zret_b (Or.inl rfl)) (by decide) (by decide) (fun _ => rfl) ⟨_, _, _, rfl, rfl, h⟩
      · replace h := ifn h c5
        refine xr_iconst (v := oI 1) (xd dX10_refuses 19 rfl) (by decide) ?_
        refine xr_goto 35 (xd dX10_refuses 20 rfl) (by decide) ?_
        exact xr_zret (xd dX10_refuses 22 rfl) rfl (zret_b (Or.inr rfl)) (by decide) (by decide) (fun _ => rfl) ⟨_, _, _, rfl, rfl, h⟩
def w_X11_sameOctets (p1 : Nat) (p2 : Int) (p3 : Nat) (p4 : Int) (p5 : Int) (J : zM) (L : yM) (Q : Int → zM → yM → Prop) : Prop := R32 (p2 + p5) ∧ R32 (ln0 p1 : Int) ∧ (if (ln0 p1 : Int) < (p2 + p5) then Q 0 J L else R32 (p4 + p5) ∧ R32 (ln0 p3 : Int) ∧ (if (ln0 p3 : Int) < (p4 + p5) then Q 0 J L else zl_z (fun K7 x8 J9 L10 => R32 x8 ∧ R32 p5 ∧ (if x8 < p5 then ((0 : Int) ≤ (p2 + x8) ∧ (p2 + x8) < (ln0 p1 : Int)) ∧ ((0 : Int) ≤ (p4 + x8) ∧ (p4 + x8) < (ln0 p3 : Int)) ∧ R32 (J9 p1 (p2 + x8)) ∧ R32 (J9 p3 (p4 + x8)) ∧ (if (J9 p1 (p2 + x8)) = (J9 p3 (p4 + x8)) then K7 (x8 + 1) J9 L10 else Q 0 J9 L10) else Q 1 J9 L10)) 0 J L))
set_option maxHeartbeats 4000000 in
set_option maxRecDepth 100000 in
theorem v_X11_sameOctets {b : Nat} {dC : Nat → ClassId} {dI : Nat → Nat → Nat} {cA : Nat → ClassId} {ts : Nat → Nat} {l : Launch} {n : Nat} {R : Nat → Nat → Option Nat} {al : Bool} (hn : 491 ≤ n) (hR : xRk R) {p1 : Nat} {p2 : Int} {p3 : Nat} {p4 : Int} {p5 : Int} (h_p1 : za p1) (h_p3 : za p3) {J : zM} {L : yM} {Q : Int → zM → yM → Prop} (h : w_X11_sameOctets p1 p2 p3 p4 p5 J L Q) : xCn (xGm b dC dI cA ts) l mX11_sameOctets [.ref p1, .int (oI p2), .ref p3, .int (oI p4), .int (oI p5)] al (n, R, zi J, li L) 0 0 (zQ1 n R Q) (fun _ _ => False) := by
  refine xCn.ofJ (by decide) (Nat.le_of_ble_eq_true rfl) ?_
  show xJ _ _ _ _ _ _ _ _ _ 0 [(0, .ref p1), (1, .int (oI p2)), (2, .ref p3), (3, .int (oI p4)), (4, .int (oI p5))] [] _ _ _ _ _
  unfold w_X11_sameOctets at h
  refine xr_iload_n (xd dX11_sameOctets 0 rfl) 1 rfl ?_
  refine xr_iload (xd dX11_sameOctets 1 rfl) 4 rfl ?_
  refine zr_iadd (xd dX11_sameOctets 2 rfl) ?_
  refine xr_aload_n (xd dX11_sameOctets 3 rfl) 0 rfl ?_
  refine zr_alen (v := (ln0 p1 : Int)) 0 (xd dX11_sameOctets 4 rfl) (lt491 hn h_p1.2) (by decide) h_p1.1 rfl rfl ?_
  obtain ⟨o1, h⟩ := h
  obtain ⟨o2, h⟩ := h
  refine zr_icmp_gt 18 (xd dX11_sameOctets 5 rfl) (by decide) o1 o2 (fun c3 => ?_) (fun c3 => ?_)
  · replace h := ifp h c3
    refine xr_iconst (v := oI 0) (xd dX11_sameOctets 12 rfl) (by decide) ?_
    exact xr_zret (xd dX11_sameOctets 13 rfl) rfl (zret_b (Or.inl rfl)) (by decide) (by decide) (fun _ => rfl) ⟨_, _, _, rfl, rfl, h⟩
  · replace h := ifn h c3
    refine xr_iload_n (xd dX11_sameOctets 6 rfl) 3 rfl ?_
    refine xr_iload (xd dX11_sameOctets 7 rfl) 4 rfl ?_
    refine zr_iadd (xd dX11_sameOctets 8 rfl) ?_
    refine xr_aload_n (xd dX11_sameOctets 9 rfl) 2 rfl ?_
    refine zr_alen (v := (ln0 p3 : Int)) 0 (xd dX11_sameOctets 10 rfl) (lt491 hn h_p3.2) (by decide) h_p3.1 rfl rfl ?_
    obtain ⟨o4, h⟩ := h
    obtain ⟨o5, h⟩ := h
    refine zr_icmp_le 20 (xd dX11_sameOctets 11 rfl) (by decide) o4 o5 (fun c6 => ?_) (fun c6 => ?_)
    · replace h := ifn h c6
      refine xr_iconst (v := oI 0) (xd dX11_sameOctets 14 rfl) (by decide) ?_
      refine xr_istore [(0, .ref p1), (1, .int (oI p2)), (2, .ref p3), (3, .int (oI p4)), (4, .int (oI p5)), (5, .int (oI 0))] (xd dX11_sameOctets 15 rfl) (by decide) rfl ?_
      refine h (fun x8 J9 L10 => xJ (xGm b dC dI cA ts) l mX11_sameOctets 0 0 (zQ1 n R Q) (fun _ _ => False) 0 0 23 [(0, .ref p1), (1, .int (oI p2)), (2, .ref p3), (3, .int (oI p4)), (4, .int (oI p5)), (5, .int (oI x8))] [] al n R (zi J9) (li L10)) ?_
      intro x8 J9 L10 h
      show xJ _ _ _ _ _ _ _ _ _ 23 [(0, .ref p1), (1, .int (oI p2)), (2, .ref p3), (3, .int (oI p4)), (4, .int (oI p5)), (5, .int (oI x8))] [] _ _ _ _ _
      refine xr_iload (xd dX11_sameOctets 16 rfl) 5 rfl ?_
      refine xr_iload (xd dX11_sameOctets 17 rfl) 4 rfl ?_
      obtain ⟨o11, h⟩ := h
      obtain ⟨o12, h⟩ := h
      refine zr_icmp_ge 53 (xd dX11_sameOctets 18 rfl) (by decide) o11 o12 (fun c13 => ?_) (fun c13 => ?_)
      · replace h := ifn h c13
        refine xr_iconst (v := oI 1) (xd dX11_sameOctets 34 rfl) (by decide) ?_
        exact xr_zret (xd dX11_sameOctets 35 rfl) rfl (zret_b (Or.inr rfl)) (by decide) (by decide) (fun _ => rfl) ⟨_, _, _, rfl, rfl, h⟩
      · replace h := ifp h c13
        refine xr_aload_n (xd dX11_sameOctets 19 rfl) 0 rfl ?_
        refine xr_iload_n (xd dX11_sameOctets 20 rfl) 1 rfl ?_
        refine xr_iload (xd dX11_sameOctets 21 rfl) 5 rfl ?_
        refine zr_iadd (xd dX11_sameOctets 22 rfl) ?_
        obtain ⟨o14, h⟩ := h
        refine zr_iaload (xd dX11_sameOctets 23 rfl) (lt491 hn h_p1.2) h_p1.1 rfl (ln0_lt p1) o14 ?_
        refine xr_aload_n (xd dX11_sameOctets 24 rfl) 2 rfl ?_
        refine xr_iload_n (xd dX11_sameOctets 25 rfl) 3 rfl ?_
        refine xr_iload (xd dX11_sameOctets 26 rfl) 5 rfl ?_
        refine zr_iadd (xd dX11_sameOctets 27 rfl) ?_
        obtain ⟨o15, h⟩ := h
        refine zr_iaload (xd dX11_sameOctets 28 rfl) (lt491 hn h_p3.2) h_p3.1 rfl (ln0_lt p3) o15 ?_
        obtain ⟨o16, h⟩ := h
        obtain ⟨o17, h⟩ := h
        refine zr_icmp_eq 47 (xd dX11_sameOctets 29 rfl) (by decide) o16 o17 (fun c18 => ?_) (fun c18 => ?_)
        · replace h := ifp h c18
          refine zr_iinc [(0, .ref p1), (1, .int (oI p2)), (2, .ref p3), (3, .int (oI p4)), (4, .int (oI p5)), (5, .int (oI (x8 + 1)))] (xd dX11_sameOctets 32 rfl) 5 rfl (by decide) rfl ?_
          refine xr_goto 23 (xd dX11_sameOctets 33 rfl) (by decide) ?_
          exact h
        · replace h := ifn h c18
          refine xr_iconst (v := oI 0) (xd dX11_sameOctets 30 rfl) (by decide) ?_
          exact xr_zret (xd dX11_sameOctets 31 rfl) rfl (zret_b (Or.inl rfl)) (by decide) (by decide) (fun _ => rfl) ⟨_, _, _, rfl, rfl, h⟩
    · replace h := ifp h c6
      refine xr_iconst (v := oI 0) (xd dX11_sameOctets 12 rfl) (by decide) ?_
      exact xr_zret (xd dX11_sameOctets 13 rfl) rfl (zret_b (Or.inl rfl)) (by decide) (by decide) (fun _ => rfl) ⟨_, _, _, rfl, rfl, h⟩
def w_X10_mark (w : Nat) (p1 : Int) (J : zM) (L : yM) (Q : zM → yM → Prop) : Prop := ∀ x1 : Int, x1 = (p1 - (J w 0)) → R32 x1 ∧ (if 0 < x1 then ∀ K9 : Int64 → zM → yM → Prop, (∀ (x6 : Int64) (J7 : zM) (L8 : yM), (∀ L10 : yM, L10 = ys L8 w 1 x6 → ∀ J11 : zM, J11 = zs J7 w 0 p1 → Q J11 L10) → K9 x6 J7 L8) → (if x1 < 64 then K9 ((yshl (L w 1) x1) ||| 1) J L else K9 1 J L) else (if (-64) < x1 then ∀ L5 : yM, L5 = ys L w 1 ((L w 1) ||| (yshl 1 (-x1))) → Q J L5 else Q J L))
set_option maxHeartbeats 4000000 in
set_option maxRecDepth 100000 in
theorem v_X10_mark {b : Nat} {dC : Nat → ClassId} {dI : Nat → Nat → Nat} {cA : Nat → ClassId} {ts : Nat → Nat} {l : Launch} {n : Nat} {R : Nat → Nat → Option Nat} {al : Bool} (hn : 491 ≤ n) (hR : xRk R) {w : Nat} {p1 : Int} (h_w : (kd0 w = 10 ∧ w < 491)) {J : zM} {L : yM} {Q : zM → yM → Prop} (h : w_X10_mark w p1 J L Q) : xCn (xGm b dC dI cA ts) l mX10_mark [.ref w, .int (oI p1)] al (n, R, zi J, li L) 0 0 (zQ0 n R Q) (fun _ _ => False) := by
  refine xCn.ofJ (by decide) (Nat.le_of_ble_eq_true rfl) ?_
  show xJ _ _ _ _ _ _ _ _ _ 0 [(0, .ref w), (1, .int (oI p1))] [] _ _ _ _ _
  unfold w_X10_mark at h
  refine xr_iload_n (xd dX10_mark 0 rfl) 1 rfl ?_
  refine xr_aload_n (xd dX10_mark 1 rfl) 0 rfl ?_
  refine zr_getI 10 0 0 rfl (xd dX10_mark 2 rfl) f10_7 (by decide) (by decide) (lt491 hn h_w.2) h_w.1 rfl ?_
  refine zr_isub (xd dX10_mark 3 rfl) ?_
  obtain ⟨x1, e_x1⟩ : ∃ z_ : Int, z_ = (p1 - (J w 0)) := ⟨_, rfl⟩
  replace h := h x1 e_x1
  refine zr_nm e_x1 ?_
  refine xr_istore_n [(0, .ref w), (1, .int (oI p1)), (2, .int (oI x1))] (xd dX10_mark 4 rfl) rfl (by decide) rfl ?_
  refine xr_iload_n (xd dX10_mark 5 rfl) 2 rfl ?_
  obtain ⟨o2, h⟩ := h
  refine zr_if_le 41 (xd dX10_mark 6 rfl) (by decide) o2 (fun c3 => ?_) (fun c3 => ?_)
  · replace h := ifn h c3
    refine xr_iload_n (xd dX10_mark 24 rfl) 2 rfl ?_
    refine xr_bipush (v := oI (-64)) (xd dX10_mark 25 rfl) (by decide) ?_
    refine zr_icmp_le 60 (xd dX10_mark 26 rfl) (by decide) o2 (by decide) (fun c4 => ?_) (fun c4 => ?_)
    · replace h := ifn h c4
      exact xr_vret (xd dX10_mark 36 rfl) rfl (by decide) (by decide) (fun _ => rfl) ⟨_, _, rfl, rfl, h⟩
    · replace h := ifp h c4
      refine xr_aload_n (xd dX10_mark 27 rfl) 0 rfl ?_
      refine xr_dup (xd dX10_mark 28 rfl) rfl ?_
      refine zr_getL 10 1 1 rfl (xd dX10_mark 29 rfl) f10_13 (by decide) (by decide) (lt491 hn h_w.2) h_w.1 rfl ?_
      refine xr_lconst (v := 1) (xd dX10_mark 30 rfl) (by decide) ?_
      refine xr_iload_n (xd dX10_mark 31 rfl) 2 rfl ?_
      refine zr_ineg (xd dX10_mark 32 rfl) ?_
      refine zr_lshl (xd dX10_mark 33 rfl) ?_
      refine xr_lor (xd dX10_mark 34 rfl) ?_
      obtain ⟨L5, e_L5⟩ : ∃ z_ : yM, z_ = ys L w 1 ((L w 1) ||| (yshl 1 (-x1))) := ⟨_, rfl⟩
      replace h := h L5 e_L5
      refine zr_putL 10 1 1 rfl e_L5 (xd dX10_mark 35 rfl) f10_13 (by decide) (by decide) (lt491 hn h_w.2) h_w.1 rfl rfl rfl (fun _ => rfl) ?_
      exact xr_vret (xd dX10_mark 36 rfl) rfl (by decide) (by decide) (fun _ => rfl) ⟨_, _, rfl, rfl, h⟩
  · replace h := ifp h c3
    refine xr_aload_n (xd dX10_mark 7 rfl) 0 rfl ?_
    refine xr_iload_n (xd dX10_mark 8 rfl) 2 rfl ?_
    refine xr_bipush (v := oI 64) (xd dX10_mark 9 rfl) (by decide) ?_
    replace h := h (fun (x6 : Int64) (J7 : zM) (L8 : yM) => xJ (xGm b dC dI cA ts) l mX10_mark 0 0 (zQ0 n R Q) (fun _ _ => False) 0 0 30 [(0, .ref w), (1, .int (oI p1))] [.long x6, .ref w] al n R (zi J7) (li L8)) (by
      intro x6 J7 L8 h
      show xJ _ _ _ _ _ _ _ _ _ 30 [(0, .ref w), (1, .int (oI p1))] [.long x6, .ref w] _ _ _ _ _
      obtain ⟨L10, e_L10⟩ : ∃ z_ : yM, z_ = ys L8 w 1 x6 := ⟨_, rfl⟩
      replace h := h L10 e_L10
      refine zr_putL 10 1 1 rfl e_L10 (xd dX10_mark 19 rfl) f10_13 (by decide) (by decide) (lt491 hn h_w.2) h_w.1 rfl rfl rfl (fun _ => rfl) ?_
      refine xr_aload_n (xd dX10_mark 20 rfl) 0 rfl ?_
      refine xr_iload_n (xd dX10_mark 21 rfl) 1 rfl ?_
      obtain ⟨J11, e_J11⟩ : ∃ z_ : zM, z_ = zs J7 w 0 p1 := ⟨_, rfl⟩
      replace h := h J11 e_J11
      refine zr_putI 10 0 0 rfl e_J11 (xd dX10_mark 22 rfl) f10_7 (by decide) (by decide) (lt491 hn h_w.2) h_w.1 (Or.inl rfl) rfl rfl (fun _ => rfl) ?_
      refine xr_goto 60 (xd dX10_mark 23 rfl) (by decide) ?_
      exact xr_vret (xd dX10_mark 36 rfl) rfl (by decide) (by decide) (fun _ => rfl) ⟨_, _, rfl, rfl, h⟩)
    refine zr_icmp_lt 22 (xd dX10_mark 10 rfl) (by decide) o2 (by decide) (fun c12 => ?_) (fun c12 => ?_)
    · replace h := ifp h c12
      refine xr_aload_n (xd dX10_mark 13 rfl) 0 rfl ?_
      refine zr_getL 10 1 1 rfl (xd dX10_mark 14 rfl) f10_13 (by decide) (by decide) (lt491 hn h_w.2) h_w.1 rfl ?_
      refine xr_iload_n (xd dX10_mark 15 rfl) 2 rfl ?_
      refine zr_lshl (xd dX10_mark 16 rfl) ?_
      refine xr_lconst (v := 1) (xd dX10_mark 17 rfl) (by decide) ?_
      refine xr_lor (xd dX10_mark 18 rfl) ?_
      refine xJ.pick (ls' := [(0, .ref w), (1, .int (oI p1))]) [0, 1] rfl ?_
      exact h
    · replace h := ifn h c12
      refine xr_lconst (v := 1) (xd dX10_mark 11 rfl) (by decide) ?_
      refine xr_goto 30 (xd dX10_mark 12 rfl) (by decide) ?_
      refine xJ.pick (ls' := [(0, .ref w), (1, .int (oI p1))]) [0, 1] rfl ?_
      exact h
def w_X11_wordAt (p1 : Nat) (p2 : Int) (J : zM) (L : yM) (Q : Int64 → zM → yM → Prop) : Prop := zl_lz (fun K1 x2 x3 J4 L5 => R32 x3 ∧ R32 (p2 + 4) ∧ (if x3 < (p2 + 4) then R32 (ln0 p1 : Int) ∧ (if x3 < (ln0 p1 : Int) then ((0 : Int) ≤ x3 ∧ x3 < (ln0 p1 : Int)) ∧ ∀ x12 : Int64, x12 = ((yshl x2 8) ||| (zi2l (J4 p1 x3))) → K1 x12 (x3 + 1) J4 L5 else Q x2 J4 L5) else Q x2 J4 L5)) 0 p2 J L
set_option maxHeartbeats 4000000 in
set_option maxRecDepth 100000 in
theorem v_X11_wordAt {b : Nat} {dC : Nat → ClassId} {dI : Nat → Nat → Nat} {cA : Nat → ClassId} {ts : Nat → Nat} {l : Launch} {n : Nat} {R : Nat → Nat → Option Nat} {al : Bool} (hn : 491 ≤ n) (hR : xRk R) {p1 : Nat} {p2 : Int} (h_p1 : za p1) {J : zM} {L : yM} {Q : Int64 → zM → yM → Prop} (h : w_X11_wordAt p1 p2 J L Q) : xCn (xGm b dC dI cA ts) l mX11_wordAt [.ref p1, .int (oI p2)] al (n, R, zi J, li L) 0 0 (zQ2 n R Q) (fun _ _ => False) := by
  refine xCn.ofJ (by decide) (Nat.le_of_ble_eq_true rfl) ?_
  show xJ _ _ _ _ _ _ _ _ _ 0 [(0, .ref p1), (1, .int (oI p2))] [] _ _ _ _ _
  unfold w_X11_wordAt at h
  refine xr_lconst (v := 0) (xd dX11_wordAt 0 rfl) (by decide) ?_
  refine xr_lstore_n [(0, .ref p1), (1, .int (oI p2)), (2, .long 0)] (xd dX11_wordAt 1 rfl) rfl (by decide) rfl ?_
  refine xr_iload_n (xd dX11_wordAt 2 rfl) 1 rfl ?_
  refine xr_istore [(0, .ref p1), (1, .int (oI p2)), (2, .long 0), (4, .int (oI p2))] (xd dX11_wordAt 3 rfl) (by decide) rfl ?_
  refine h (fun x2 x3 J4 L5 => xJ (xGm b dC dI cA ts) l mX11_wordAt 0 0 (zQ2 n R Q) (fun _ _ => False) 0 0 5 [(0, .ref p1), (1, .int (oI p2)), (2, .long x2), (4, .int (oI x3))] [] al n R (zi J4) (li L5)) ?_
  intro x2 x3 J4 L5 h
  show xJ _ _ _ _ _ _ _ _ _ 5 [(0, .ref p1), (1, .int (oI p2)), (2, .long x2), (4, .int (oI x3))] [] _ _ _ _ _
  refine xr_iload (xd dX11_wordAt 4 rfl) 3 rfl ?_
  refine xr_iload_n (xd dX11_wordAt 5 rfl) 1 rfl ?_
  refine xr_iconst (v := oI 4) (xd dX11_wordAt 6 rfl) (by decide) ?_
  refine zr_iadd (xd dX11_wordAt 7 rfl) ?_
  obtain ⟨o6, h⟩ := h
  obtain ⟨o7, h⟩ := h
  refine zr_icmp_ge 37 (xd dX11_wordAt 8 rfl) (by decide) o6 o7 (fun c8 => ?_) (fun c8 => ?_)
  · replace h := ifn h c8
    refine xr_lload_n (xd dX11_wordAt 24 rfl) 2 rfl ?_
    exact xr_lret (xd dX11_wordAt 25 rfl) rfl (by decide) (by decide) (fun _ => rfl) ⟨_, _, _, rfl, rfl, h⟩
  · replace h := ifp h c8
    refine xr_iload (xd dX11_wordAt 9 rfl) 3 rfl ?_
    refine xr_aload_n (xd dX11_wordAt 10 rfl) 0 rfl ?_
    refine zr_alen (v := (ln0 p1 : Int)) 0 (xd dX11_wordAt 11 rfl) (lt491 hn h_p1.2) (by decide) h_p1.1 rfl rfl ?_
    obtain ⟨o9, h⟩ := h
    refine zr_icmp_ge 37 (xd dX11_wordAt 12 rfl) (by decide) o6 o9 (fun c10 => ?_) (fun c10 => ?_)
    · replace h := ifn h c10
      refine xr_lload_n (xd dX11_wordAt 24 rfl) 2 rfl ?_
      exact xr_lret (xd dX11_wordAt 25 rfl) rfl (by decide) (by decide) (fun _ => rfl) ⟨_, _, _, rfl, rfl, h⟩
    · replace h := ifp h c10
      refine xr_lload_n (xd dX11_wordAt 13 rfl) 2 rfl ?_
      refine xr_bipush (v := oI 8) (xd dX11_wordAt 14 rfl) (by decide) ?_
      refine zr_lshl (xd dX11_wordAt 15 rfl) ?_
      refine xr_aload_n (xd dX11_wordAt 16 rfl) 0 rfl ?_
      refine xr_iload (xd dX11_wordAt 17 rfl) 3 rfl ?_
      obtain ⟨o11, h⟩ := h
      refine zr_iaload (xd dX11_wordAt 18 rfl) (lt491 hn h_p1.2) h_p1.1 rfl (ln0_lt p1) o11 ?_
      refine zr_i2l (xd dX11_wordAt 19 rfl) ?_
      refine xr_lor (xd dX11_wordAt 20 rfl) ?_
      obtain ⟨x12, e_x12⟩ : ∃ z_ : Int64, z_ = ((yshl x2 8) ||| (zi2l (J4 p1 x3))) := ⟨_, rfl⟩
      replace h := h x12 e_x12
      refine zr_nml e_x12 ?_
      refine xr_lstore_n [(0, .ref p1), (1, .int (oI p2)), (2, .long x12), (4, .int (oI x3))] (xd dX11_wordAt 21 rfl) rfl (by decide) rfl ?_
      refine zr_iinc [(0, .ref p1), (1, .int (oI p2)), (2, .long x12), (4, .int (oI (x3 + 1)))] (xd dX11_wordAt 22 rfl) 3 rfl (by decide) rfl ?_
      refine xr_goto 5 (xd dX11_wordAt 23 rfl) (by decide) ?_
      exact h
def w_X9_chanceInto (e : Nat) (p2 : Int) (p3 : Nat) (J : zM) (L : yM) (Q : zM → yM → Prop) : Prop := w_X7_clear J L (fun J1 L2 => w_X7_put p2 J1 L2 (fun J3 L4 => w_X7_putShort (J3 (e + 1) 8) J3 L4 (fun J5 L6 => ∀ J7 : zM, J7 = zs J5 (e + 1) 8 ((J5 (e + 1) 8) + 1) → w_X7_macInto (e + 4) p3 J7 L6 (fun J8 L9 => Q J8 L9))))
set_option maxHeartbeats 4000000 in
set_option maxRecDepth 100000 in
theorem v_X9_chanceInto {b : Nat} {dC : Nat → ClassId} {dI : Nat → Nat → Nat} {cA : Nat → ClassId} {ts : Nat → Nat} {l : Launch} {n : Nat} {R : Nat → Nat → Option Nat} {al : Bool} (hn : 491 ≤ n) (hR : xRk R) {e : Nat} {p2 : Int} {p3 : Nat} (he : iSide e) (h_p3 : za p3) {J : zM} {L : yM} {Q : zM → yM → Prop} (h : w_X9_chanceInto e p2 p3 J L Q) : xCn (xGm b dC dI cA ts) l mX9_chanceInto [.ref (e + 1), .ref 6, .int (oI p2), .ref p3] al (n, R, zi J, li L) 0 0 (zQ0 n R Q) (fun _ _ => False) := by
  refine xCn.ofJ (by decide) (Nat.le_of_ble_eq_true rfl) ?_
  show xJ _ _ _ _ _ _ _ _ _ 0 [(0, .ref (e + 1)), (1, .ref 6), (2, .int (oI p2)), (3, .ref p3)] [] _ _ _ _ _
  unfold w_X9_chanceInto at h
  refine xr_aload_n (xd dX9_chanceInto 0 rfl) 1 rfl ?_
  refine xr_callV mX7_clear 0 [] (xd dX9_chanceInto 1 rfl) l9_64 kX7_clear rfl (lt491 hn (by decide)) kd_6 (by decide) rfl (by decide) (Nat.le_of_ble_eq_true rfl) (v_X7_clear hn hR  h) (by decide) (by decide) (fun r_ M_ h_ => ?_) (fun _ _ h_ => h_.elim)
  obtain ⟨J1, L2, rfl, rfl, h⟩ := h_
  show xJ _ _ _ _ _ _ _ _ _ 4 [(0, .ref (e + 1)), (1, .ref 6), (2, .int (oI p2)), (3, .ref p3)] [] _ _ _ (zi J1) (li L2)
  refine xr_aload_n (xd dX9_chanceInto 2 rfl) 1 rfl ?_
  refine xr_iload_n (xd dX9_chanceInto 3 rfl) 2 rfl ?_
  refine xr_callV mX7_put 1 [.int (oI p2)] (xd dX9_chanceInto 4 rfl) l9_69 kX7_put rfl (lt491 hn (by decide)) kd_6 (by decide) rfl (by decide) (Nat.le_of_ble_eq_true rfl) (v_X7_put hn hR  h) (by decide) (by decide) (fun r_ M_ h_ => ?_) (fun _ _ h_ => h_.elim)
  obtain ⟨J3, L4, rfl, rfl, h⟩ := h_
  show xJ _ _ _ _ _ _ _ _ _ 9 [(0, .ref (e + 1)), (1, .ref 6), (2, .int (oI p2)), (3, .ref p3)] [] _ _ _ (zi J3) (li L4)
  refine xr_aload_n (xd dX9_chanceInto 5 rfl) 1 rfl ?_
  refine xr_aload_n (xd dX9_chanceInto 6 rfl) 0 rfl ?_
  refine zr_getI 9 8 8 rfl (xd dX9_chanceInto 7 rfl) f9_48 (by decide) (by decide) (lt491 hn (ltS he (by decide))) (kdS_1 he) rfl ?_
  refine xr_callV mX7_putShort 1 [.int (oI (J3 (e + 1) 8))] (xd dX9_chanceInto 8 rfl) l9_73 kX7_putShort rfl (lt491 hn (by decide)) kd_6 (by decide) rfl (by decide) (Nat.le_of_ble_eq_true rfl) (v_X7_putShort hn hR  h) (by decide) (by decide) (fun r_ M_ h_ => ?_) (fun _ _ h_ => h_.elim)
  obtain ⟨J5, L6, rfl, rfl, h⟩ := h_
  show xJ _ _ _ _ _ _ _ _ _ 17 [(0, .ref (e + 1)), (1, .ref 6), (2, .int (oI p2)), (3, .ref p3)] [] _ _ _ (zi J5) (li L6)
  refine xr_aload_n (xd dX9_chanceInto 9 rfl) 0 rfl ?_
  refine xr_dup (xd dX9_chanceInto 10 rfl) rfl ?_
  refine zr_getI 9 8 8 rfl (xd dX9_chanceInto 11 rfl) f9_48 (by decide) (by decide) (lt491 hn (ltS he (by decide))) (kdS_1 he) rfl ?_
  refine xr_iconst (v := oI 1) (xd dX9_chanceInto 12 rfl) (by decide) ?_
  refine zr_iadd (xd dX9_chanceInto 13 rfl) ?_
  obtain ⟨J7, e_J7⟩ : ∃ z_ : zM, z_ = zs J5 (e + 1) 8 ((J5 (e + 1) 8) + 1) := ⟨_, rfl⟩
  replace h := h J7 e_J7
  refine zr_putI 9 8 8 rfl e_J7 (xd dX9_chanceInto 14 rfl) f9_48 (by decide) (by decide) (lt491 hn (ltS he (by decide))) (kdS_1 he) (Or.inl rfl) rfl rfl (fun _ => rfl) ?_
  refine xr_aload_n (xd dX9_chanceInto 15 rfl) 1 rfl ?_
  refine xr_aload_n (xd dX9_chanceInto 16 rfl) 0 rfl ?_
  refine xr_getR (b := (e + 4)) 9 2 (xd dX9_chanceInto 17 rfl) f9_18 (by decide) (by decide) (lt491 hn (ltS he (by decide))) (kdS_1 he) rfl (rS_1_2 hR he) ?_
  refine xr_aload_n (xd dX9_chanceInto 18 rfl) 3 rfl ?_
  refine xr_callV mX7_macInto 2 [.ref (e + 4), .ref p3] (xd dX9_chanceInto 19 rfl) l9_76 kX7_macInto rfl (lt491 hn (by decide)) kd_6 (by decide) rfl (by decide) (Nat.le_of_ble_eq_true rfl) (v_X7_macInto hn hR (za_mk (kdS_4 he) (ltS he (by decide))) (za_mk h_p3.1 h_p3.2) h) (by decide) (by decide) (fun r_ M_ h_ => ?_) (fun _ _ h_ => h_.elim)
  obtain ⟨J8, L9, rfl, rfl, h⟩ := h_
  show xJ _ _ _ _ _ _ _ _ _ 36 [(0, .ref (e + 1)), (1, .ref 6), (2, .int (oI p2)), (3, .ref p3)] [] _ _ _ (zi J8) (li L9)
  exact xr_vret (xd dX9_chanceInto 20 rfl) rfl (by decide) (by decide) (fun _ => rfl) ⟨_, _, rfl, rfl, h⟩
def w_X9_drawRandom (e : Nat) (p2 : Int) (p3 : Nat) (J : zM) (L : yM) (Q : zM → yM → Prop) : Prop := w_X9_chanceInto e p2 p3 J L (fun J1 L2 => ((0 : Int) ≤ 0 ∧ (0 : Int) ≤ 0 ∧ (0 : Int) ≤ 16 ∧ (0 + 16 : Int) ≤ (ln0 p3 : Int) ∧ (0 + 16 : Int) ≤ 16) ∧ ∀ J4 : zM, J4 = zcp J1 p3 0 (e + 6) 0 16 → Q J4 L2)
set_option maxHeartbeats 4000000 in
set_option maxRecDepth 100000 in
theorem v_X9_drawRandom {b : Nat} {dC : Nat → ClassId} {dI : Nat → Nat → Nat} {cA : Nat → ClassId} {ts : Nat → Nat} {l : Launch} {n : Nat} {R : Nat → Nat → Option Nat} {al : Bool} (hn : 491 ≤ n) (hR : xRk R) {e : Nat} {p2 : Int} {p3 : Nat} (he : iSide e) (h_p3 : za p3) {J : zM} {L : yM} {Q : zM → yM → Prop} (h : w_X9_drawRandom e p2 p3 J L Q) : xCn (xGm b dC dI cA ts) l mX9_drawRandom [.ref (e + 1), .ref 6, .int (oI p2), .ref p3] al (n, R, zi J, li L) 0 0 (zQ0 n R Q) (fun _ _ => False) := by
  refine xCn.ofJ (by decide) (Nat.le_of_ble_eq_true rfl) ?_
  show xJ _ _ _ _ _ _ _ _ _ 0 [(0, .ref (e + 1)), (1, .ref 6), (2, .int (oI p2)), (3, .ref p3)] [] _ _ _ _ _
  unfold w_X9_drawRandom at h
  refine xr_aload_n (xd dX9_drawRandom 0 rfl) 0 rfl ?_
  refine xr_aload_n (xd dX9_drawRandom 1 rfl) 1 rfl ?_
  refine xr_iload_n (xd dX9_drawRandom 2 rfl) 2 rfl ?_
  refine xr_aload_n (xd dX9_drawRandom 3 rfl) 3 rfl ?_
  refine xr_callV mX9_chanceInto 3 [.ref 6, .int (oI p2), .ref p3] (xd dX9_drawRandom 4 rfl) l9_80 kX9_chanceInto rfl (lt491 hn (ltS he (by decide))) (kdS_1 he) (by decide) rfl (by decide) (Nat.le_of_ble_eq_true rfl) (v_X9_chanceInto hn hR he (za_mk h_p3.1 h_p3.2) h) (by decide) (by decide) (fun r_ M_ h_ => ?_) (fun _ _ h_ => h_.elim)
  obtain ⟨J1, L2, rfl, rfl, h⟩ := h_
  show xJ _ _ _ _ _ _ _ _ _ 7 [(0, .ref (e + 1)), (1, .ref 6), (2, .int (oI p2)), (3, .ref p3)] [] _ _ _ (zi J1) (li L2)
  refine xr_aload_n (xd dX9_drawRandom 5 rfl) 3 rfl ?_
  refine xr_iconst (v := oI 0) (xd dX9_drawRandom 6 rfl) (by decide) ?_
  refine xr_aload_n (xd dX9_drawRandom 7 rfl) 0 rfl ?_
  refine xr_getR (b := (e + 6)) 9 9 (xd dX9_drawRandom 8 rfl) f9_24 (by decide) (by decide) (lt491 hn (ltS he (by decide))) (kdS_1 he) rfl (rS_1_9 hR he) ?_
  refine xr_iconst (v := oI 0) (xd dX9_drawRandom 9 rfl) (by decide) ?_
  refine xr_bipush (v := oI 16) (xd dX9_drawRandom 10 rfl) (by decide) ?_
  obtain ⟨o3, h⟩ := h
  obtain ⟨J4, e_J4⟩ : ∃ z_ : zM, z_ = zcp J1 p3 0 (e + 6) 0 16 := ⟨_, rfl⟩
  replace h := h J4 e_J4
  refine zr_acopy e_J4 (xd dX9_drawRandom 11 rfl) l9_84 (lt491 hn h_p3.2) h_p3.1 rfl (ln0_lt p3) (lt491 hn (ltS he (by decide))) (kdS_6 he) (lnS_6 he) (by decide) o3.1 o3.2.1 o3.2.2.1 o3.2.2.2.1 o3.2.2.2.2 ⟨Nat.le_of_ble_eq_true rfl, Nat.le_of_ble_eq_true rfl⟩ ?_
  exact xr_vret (xd dX9_drawRandom 12 rfl) rfl (by decide) (by decide) (fun _ => rfl) ⟨_, _, rfl, rfl, h⟩
def w_X11_power (p1 : Int64) (p2 : Int64) (J : zM) (L : yM) (Q : Int64 → zM → yM → Prop) : Prop := ∀ x1 : Int64, x1 = (yrem p1 2147483647) → zl_llz (fun K2 x3 x4 x5 J6 L7 => R32 x5 ∧ (if x5 < 32 then ∀ K13 : Int64 → zM → yM → Prop, (∀ (x10 : Int64) (J11 : zM) (L12 : yM), (∀ x14 : Int64, x14 = (yrem (x4 * x4) 2147483647) → K2 x10 x14 (x5 + 1) J11 L12) → K13 x10 J11 L12) → (if (zcmp ((yush p2 x5) &&& 1) 0) = 0 then K13 x3 J6 L7 else ∀ x16 : Int64, x16 = (yrem (x3 * x4) 2147483647) → K13 x16 J6 L7) else Q x3 J6 L7)) 1 x1 0 J L
set_option maxHeartbeats 4000000 in
set_option maxRecDepth 100000 in
theorem v_X11_power {b : Nat} {dC : Nat → ClassId} {dI : Nat → Nat → Nat} {cA : Nat → ClassId} {ts : Nat → Nat} {l : Launch} {n : Nat} {R : Nat → Nat → Option Nat} {al : Bool} (hn : 491 ≤ n) (hR : xRk R) {p1 : Int64} {p2 : Int64}  {J : zM} {L : yM} {Q : Int64 → zM → yM → Prop} (h : w_X11_power p1 p2 J L Q) : xCn (xGm b dC dI cA ts) l mX11_power [.long p1, .long p2] al (n, R, zi J, li L) 0 0 (zQ2 n R Q) (fun _ _ => False) := by
  refine xCn.ofJ (by decide) (Nat.le_of_ble_eq_true rfl) ?_
  show xJ _ _ _ _ _ _ _ _ _ 0 [(0, .long p1), (2, .long p2)] [] _ _ _ _ _
  unfold w_X11_power at h
  refine xr_lconst (v := 1) (xd dX11_power 0 rfl) (by decide) ?_
  refine xr_lstore [(0, .long p1), (2, .long p2), (4, .long 1)] (xd dX11_power 1 rfl) (by decide) rfl ?_
  refine xr_lload_n (xd dX11_power 2 rfl) 0 rfl ?_
  refine xr_ldc2_w (v := 2147483647) (xd dX11_power 3 rfl) q11_265 ?_
  refine zr_lrem (xd dX11_power 4 rfl) (by decide) ?_
  obtain ⟨x1, e_x1⟩ : ∃ z_ : Int64, z_ = (yrem p1 2147483647) := ⟨_, rfl⟩
  replace h := h x1 e_x1
  refine zr_nml e_x1 ?_
  refine xr_lstore [(0, .long p1), (2, .long p2), (4, .long 1), (6, .long x1)] (xd dX11_power 5 rfl) (by decide) rfl ?_
  refine xr_iconst (v := oI 0) (xd dX11_power 6 rfl) (by decide) ?_
  refine xr_istore [(0, .long p1), (2, .long p2), (4, .long 1), (6, .long x1), (8, .int (oI 0))] (xd dX11_power 7 rfl) (by decide) rfl ?_
  refine xJ.pick (ls' := [(2, .long p2), (4, .long 1), (6, .long x1), (8, .int (oI 0))]) [1, 2, 3, 4] rfl ?_
  refine h (fun x3 x4 x5 J6 L7 => xJ (xGm b dC dI cA ts) l mX11_power 0 0 (zQ2 n R Q) (fun _ _ => False) 0 0 13 [(2, .long p2), (4, .long x3), (6, .long x4), (8, .int (oI x5))] [] al n R (zi J6) (li L7)) ?_
  intro x3 x4 x5 J6 L7 h
  show xJ _ _ _ _ _ _ _ _ _ 13 [(2, .long p2), (4, .long x3), (6, .long x4), (8, .int (oI x5))] [] _ _ _ _ _
  refine xr_iload (xd dX11_power 8 rfl) 3 rfl ?_
  refine xr_bipush (v := oI 32) (xd dX11_power 9 rfl) (by decide) ?_
  obtain ⟨o8, h⟩ := h
  refine zr_icmp_ge 59 (xd dX11_power 10 rfl) (by decide) o8 (by decide) (fun c9 => ?_) (fun c9 => ?_)
  · replace h := ifn h c9
    refine xr_lload (xd dX11_power 33 rfl) 1 rfl ?_
    exact xr_lret (xd dX11_power 34 rfl) rfl (by decide) (by decide) (fun _ => rfl) ⟨_, _, _, rfl, rfl, h⟩
  · replace h := ifp h c9
    refine xr_lload_n (xd dX11_power 11 rfl) 0 rfl ?_
    refine xr_iload (xd dX11_power 12 rfl) 3 rfl ?_
    refine zr_lushr (xd dX11_power 13 rfl) ?_
    refine xr_lconst (v := 1) (xd dX11_power 14 rfl) (by decide) ?_
    refine xr_land (xd dX11_power 15 rfl) ?_
    refine xr_lconst (v := 0) (xd dX11_power 16 rfl) (by decide) ?_
    refine zr_lcmp (xd dX11_power 17 rfl) ?_
    replace h := h (fun (x10 : Int64) (J11 : zM) (L12 : yM) => xJ (xGm b dC dI cA ts) l mX11_power 0 0 (zQ2 n R Q) (fun _ _ => False) 0 0 42 [(2, .long p2), (4, .long x10), (6, .long x4), (8, .int (oI x5))] [] al n R (zi J11) (li L12)) (by
      intro x10 J11 L12 h
      show xJ _ _ _ _ _ _ _ _ _ 42 [(2, .long p2), (4, .long x10), (6, .long x4), (8, .int (oI x5))] [] _ _ _ _ _
      refine xr_lload (xd dX11_power 25 rfl) 2 rfl ?_
      refine xr_lload (xd dX11_power 26 rfl) 2 rfl ?_
      refine xr_lmul (xd dX11_power 27 rfl) ?_
      refine xr_ldc2_w (v := 2147483647) (xd dX11_power 28 rfl) q11_265 ?_
      refine zr_lrem (xd dX11_power 29 rfl) (by decide) ?_
      obtain ⟨x14, e_x14⟩ : ∃ z_ : Int64, z_ = (yrem (x4 * x4) 2147483647) := ⟨_, rfl⟩
      replace h := h x14 e_x14
      refine zr_nml e_x14 ?_
      refine xr_lstore [(2, .long p2), (4, .long x10), (6, .long x14), (8, .int (oI x5))] (xd dX11_power 30 rfl) (by decide) rfl ?_
      refine zr_iinc [(2, .long p2), (4, .long x10), (6, .long x14), (8, .int (oI (x5 + 1)))] (xd dX11_power 31 rfl) 3 rfl (by decide) rfl ?_
      refine xr_goto 13 (xd dX11_power 32 rfl) (by decide) ?_
      exact h)
    refine zr_if_eq 42 (xd dX11_power 18 rfl) (by decide) (R32_of _) (fun c15 => ?_) (fun c15 => ?_)
    · replace h := ifp h c15
      exact h
    · replace h := ifn h c15
      refine xr_lload (xd dX11_power 19 rfl) 1 rfl ?_
      refine xr_lload (xd dX11_power 20 rfl) 2 rfl ?_
      refine xr_lmul (xd dX11_power 21 rfl) ?_
      refine xr_ldc2_w (v := 2147483647) (xd dX11_power 22 rfl) q11_265 ?_
      refine zr_lrem (xd dX11_power 23 rfl) (by decide) ?_
      obtain ⟨x16, e_x16⟩ : ∃ z_ : Int64, z_ = (yrem (x3 * x4) 2147483647) := ⟨_, rfl⟩
      replace h := h x16 e_x16
      refine zr_nml e_x16 ?_
      refine xr_lstore [(2, .long p2), (4, .long x16), (6, .long x4), (8, .int (oI x5))] (xd dX11_power 24 rfl) (by decide) rfl ?_
      exact h
def w_X9_drawShare (e : Nat) (p2 : Int) (p3 : Nat) (J : zM) (L : yM) (Q : zM → yM → Prop) : Prop := w_X9_chanceInto e p2 p3 J L (fun J1 L2 => w_X11_wordAt p3 0 J1 L2 (fun r5 J3 L4 => ∀ L6 : yM, L6 = ys L4 (e + 1) 13 ((yrem r5 2147483646) + 1) → w_X11_power 7 (L6 (e + 1) 13) J3 L6 (fun r9 J7 L8 => ∀ J10 : zM, J10 = zs J7 (e + 1) 12 (zl2i r9) → Q J10 L8)))
set_option maxHeartbeats 4000000 in
set_option maxRecDepth 100000 in
theorem v_X9_drawShare {b : Nat} {dC : Nat → ClassId} {dI : Nat → Nat → Nat} {cA : Nat → ClassId} {ts : Nat → Nat} {l : Launch} {n : Nat} {R : Nat → Nat → Option Nat} {al : Bool} (hn : 491 ≤ n) (hR : xRk R) {e : Nat} {p2 : Int} {p3 : Nat} (he : iSide e) (h_p3 : za p3) {J : zM} {L : yM} {Q : zM → yM → Prop} (h : w_X9_drawShare e p2 p3 J L Q) : xCn (xGm b dC dI cA ts) l mX9_drawShare [.ref (e + 1), .ref 6, .int (oI p2), .ref p3] al (n, R, zi J, li L) 0 0 (zQ0 n R Q) (fun _ _ => False) := by
  refine xCn.ofJ (by decide) (Nat.le_of_ble_eq_true rfl) ?_
  show xJ _ _ _ _ _ _ _ _ _ 0 [(0, .ref (e + 1)), (1, .ref 6), (2, .int (oI p2)), (3, .ref p3)] [] _ _ _ _ _
  unfold w_X9_drawShare at h
  refine xr_aload_n (xd dX9_drawShare 0 rfl) 0 rfl ?_
  refine xr_aload_n (xd dX9_drawShare 1 rfl) 1 rfl ?_
  refine xr_iload_n (xd dX9_drawShare 2 rfl) 2 rfl ?_
  refine xr_aload_n (xd dX9_drawShare 3 rfl) 3 rfl ?_
  refine xr_callV mX9_chanceInto 3 [.ref 6, .int (oI p2), .ref p3] (xd dX9_drawShare 4 rfl) l9_80 kX9_chanceInto rfl (lt491 hn (ltS he (by decide))) (kdS_1 he) (by decide) rfl (by decide) (Nat.le_of_ble_eq_true rfl) (v_X9_chanceInto hn hR he (za_mk h_p3.1 h_p3.2) h) (by decide) (by decide) (fun r_ M_ h_ => ?_) (fun _ _ h_ => h_.elim)
  obtain ⟨J1, L2, rfl, rfl, h⟩ := h_
  show xJ _ _ _ _ _ _ _ _ _ 7 [(0, .ref (e + 1)), (1, .ref 6), (2, .int (oI p2)), (3, .ref p3)] [] _ _ _ (zi J1) (li L2)
  refine xr_aload_n (xd dX9_drawShare 5 rfl) 0 rfl ?_
  refine xr_aload_n (xd dX9_drawShare 6 rfl) 3 rfl ?_
  refine xr_iconst (v := oI 0) (xd dX9_drawShare 7 rfl) (by decide) ?_
  refine xr_callSN mX11_wordAt 2 [.ref p3, .int (oI 0)] (xd dX9_drawShare 8 rfl) n9_90 kX11_wordAt rfl (by decide) (Nat.le_of_ble_eq_true rfl) (v_X11_wordAt hn hR (za_mk h_p3.1 h_p3.2) h) (by decide) (by decide) (fun r_ M_ h_ => ?_)
  obtain ⟨r5, J3, L4, rfl, rfl, h⟩ := h_
  show xJ _ _ _ _ _ _ _ _ _ 13 [(0, .ref (e + 1)), (1, .ref 6), (2, .int (oI p2)), (3, .ref p3)] [.long r5, .ref (e + 1)] _ _ _ (zi J3) (li L4)
  refine xr_ldc2_w (v := 2147483646) (xd dX9_drawShare 9 rfl) q9_94 ?_
  refine zr_lrem (xd dX9_drawShare 10 rfl) (by decide) ?_
  refine xr_lconst (v := 1) (xd dX9_drawShare 11 rfl) (by decide) ?_
  refine xr_ladd (xd dX9_drawShare 12 rfl) ?_
  obtain ⟨L6, e_L6⟩ : ∃ z_ : yM, z_ = ys L4 (e + 1) 13 ((yrem r5 2147483646) + 1) := ⟨_, rfl⟩
  replace h := h L6 e_L6
  refine zr_putL 9 13 13 rfl e_L6 (xd dX9_drawShare 13 rfl) f9_57 (by decide) (by decide) (lt491 hn (ltS he (by decide))) (kdS_1 he) rfl rfl rfl (fun _ => rfl) ?_
  refine xr_aload_n (xd dX9_drawShare 14 rfl) 0 rfl ?_
  refine xr_ldc2_w (v := 7) (xd dX9_drawShare 15 rfl) q9_96 ?_
  refine xr_aload_n (xd dX9_drawShare 16 rfl) 0 rfl ?_
  refine zr_getL 9 13 13 rfl (xd dX9_drawShare 17 rfl) f9_57 (by decide) (by decide) (lt491 hn (ltS he (by decide))) (kdS_1 he) rfl ?_
  refine xr_callSN mX11_power 2 [.long 7, .long (L6 (e + 1) 13)] (xd dX9_drawShare 18 rfl) n9_98 kX11_power rfl (by decide) (Nat.le_of_ble_eq_true rfl) (v_X11_power hn hR  h) (by decide) (by decide) (fun r_ M_ h_ => ?_)
  obtain ⟨r9, J7, L8, rfl, rfl, h⟩ := h_
  show xJ _ _ _ _ _ _ _ _ _ 33 [(0, .ref (e + 1)), (1, .ref 6), (2, .int (oI p2)), (3, .ref p3)] [.long r9, .ref (e + 1)] _ _ _ (zi J7) (li L8)
  refine zr_l2i (xd dX9_drawShare 19 rfl) ?_
  obtain ⟨J10, e_J10⟩ : ∃ z_ : zM, z_ = zs J7 (e + 1) 12 (zl2i r9) := ⟨_, rfl⟩
  replace h := h J10 e_J10
  refine zr_putI 9 12 12 rfl e_J10 (xd dX9_drawShare 20 rfl) f9_54 (by decide) (by decide) (lt491 hn (ltS he (by decide))) (kdS_1 he) (Or.inl rfl) rfl rfl (fun _ => rfl) ?_
  exact xr_vret (xd dX9_drawShare 21 rfl) rfl (by decide) (by decide) (fun _ => rfl) ⟨_, _, rfl, rfl, h⟩
def w_X11_putWord (p1 : Int) (p2 : Nat) (p3 : Int) (J : zM) (L : yM) (Q : zM → yM → Prop) : Prop := zl_z (fun K1 x2 J3 L4 => R32 x2 ∧ (if x2 < 4 then R32 (p3 + x2) ∧ R32 (ln0 p2 : Int) ∧ (if (p3 + x2) < (ln0 p2 : Int) then ((0 : Int) ≤ (p3 + x2) ∧ (p3 + x2) < (ln0 p2 : Int)) ∧ ∀ J11 : zM, J11 = zs J3 p2 (p3 + x2) (zand (zush p1 (24 - (8 * x2))) 255) → K1 (x2 + 1) J11 L4 else Q J3 L4) else Q J3 L4)) 0 J L
set_option maxHeartbeats 4000000 in
set_option maxRecDepth 100000 in
theorem v_X11_putWord {b : Nat} {dC : Nat → ClassId} {dI : Nat → Nat → Nat} {cA : Nat → ClassId} {ts : Nat → Nat} {l : Launch} {n : Nat} {R : Nat → Nat → Option Nat} {al : Bool} (hn : 491 ≤ n) (hR : xRk R) {p1 : Int} {p2 : Nat} {p3 : Int} (h_p2 : za p2) {J : zM} {L : yM} {Q : zM → yM → Prop} (h : w_X11_putWord p1 p2 p3 J L Q) : xCn (xGm b dC dI cA ts) l mX11_putWord [.int (oI p1), .ref p2, .int (oI p3)] al (n, R, zi J, li L) 0 0 (zQ0 n R Q) (fun _ _ => False) := by
  refine xCn.ofJ (by decide) (Nat.le_of_ble_eq_true rfl) ?_
  show xJ _ _ _ _ _ _ _ _ _ 0 [(0, .int (oI p1)), (1, .ref p2), (2, .int (oI p3))] [] _ _ _ _ _
  unfold w_X11_putWord at h
  refine xr_iconst (v := oI 0) (xd dX11_putWord 0 rfl) (by decide) ?_
  refine xr_istore_n [(0, .int (oI p1)), (1, .ref p2), (2, .int (oI p3)), (3, .int (oI 0))] (xd dX11_putWord 1 rfl) rfl (by decide) rfl ?_
  refine h (fun x2 J3 L4 => xJ (xGm b dC dI cA ts) l mX11_putWord 0 0 (zQ0 n R Q) (fun _ _ => False) 0 0 2 [(0, .int (oI p1)), (1, .ref p2), (2, .int (oI p3)), (3, .int (oI x2))] [] al n R (zi J3) (li L4)) ?_
  intro x2 J3 L4 h
  show xJ _ _ _ _ _ _ _ _ _ 2 [(0, .int (oI p1)), (1, .ref p2), (2, .int (oI p3)), (3, .int (oI x2))] [] _ _ _ _ _
  refine xr_iload_n (xd dX11_putWord 2 rfl) 3 rfl ?_
  refine xr_iconst (v := oI 4) (xd dX11_putWord 3 rfl) (by decide) ?_
  obtain ⟨o5, h⟩ := h
  refine zr_icmp_ge 39 (xd dX11_putWord 4 rfl) (by decide) o5 (by decide) (fun c6 => ?_) (fun c6 => ?_)
  · replace h := ifn h c6
    exact xr_vret (xd dX11_putWord 27 rfl) rfl (by decide) (by decide) (fun _ => rfl) ⟨_, _, rfl, rfl, h⟩
  · replace h := ifp h c6
    refine xr_iload_n (xd dX11_putWord 5 rfl) 2 rfl ?_
    refine xr_iload_n (xd dX11_putWord 6 rfl) 3 rfl ?_
    refine zr_iadd (xd dX11_putWord 7 rfl) ?_
    refine xr_aload_n (xd dX11_putWord 8 rfl) 1 rfl ?_
    refine zr_alen (v := (ln0 p2 : Int)) 0 (xd dX11_putWord 9 rfl) (lt491 hn h_p2.2) (by decide) h_p2.1 rfl rfl ?_
    obtain ⟨o7, h⟩ := h
    obtain ⟨o8, h⟩ := h
    refine zr_icmp_ge 39 (xd dX11_putWord 10 rfl) (by decide) o7 o8 (fun c9 => ?_) (fun c9 => ?_)
    · replace h := ifn h c9
      exact xr_vret (xd dX11_putWord 27 rfl) rfl (by decide) (by decide) (fun _ => rfl) ⟨_, _, rfl, rfl, h⟩
    · replace h := ifp h c9
      refine xr_aload_n (xd dX11_putWord 11 rfl) 1 rfl ?_
      refine xr_iload_n (xd dX11_putWord 12 rfl) 2 rfl ?_
      refine xr_iload_n (xd dX11_putWord 13 rfl) 3 rfl ?_
      refine zr_iadd (xd dX11_putWord 14 rfl) ?_
      refine xr_iload_n (xd dX11_putWord 15 rfl) 0 rfl ?_
      refine xr_bipush (v := oI 24) (xd dX11_putWord 16 rfl) (by decide) ?_
      refine xr_bipush (v := oI 8) (xd dX11_putWord 17 rfl) (by decide) ?_
      refine xr_iload_n (xd dX11_putWord 18 rfl) 3 rfl ?_
      refine zr_imul (xd dX11_putWord 19 rfl) ?_
      refine zr_isub (xd dX11_putWord 20 rfl) ?_
      refine zr_iushr (xd dX11_putWord 21 rfl) ?_
      refine xr_sipush (v := oI 255) (xd dX11_putWord 22 rfl) (by decide) ?_
      refine zr_iand (xd dX11_putWord 23 rfl) ?_
      obtain ⟨o10, h⟩ := h
      obtain ⟨J11, e_J11⟩ : ∃ z_ : zM, z_ = zs J3 p2 (p3 + x2) (zand (zush p1 (24 - (8 * x2))) 255) := ⟨_, rfl⟩
      replace h := h J11 e_J11
      refine zr_iastore e_J11 (xd dX11_putWord 24 rfl) (lt491 hn h_p2.2) h_p2.1 rfl (ln0_lt p2) o10 ?_
      refine zr_iinc [(0, .int (oI p1)), (1, .ref p2), (2, .int (oI p3)), (3, .int (oI (x2 + 1)))] (xd dX11_putWord 25 rfl) 3 rfl (by decide) rfl ?_
      refine xr_goto 2 (xd dX11_putWord 26 rfl) (by decide) ?_
      exact h
