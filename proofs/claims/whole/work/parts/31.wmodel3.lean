def w_X12_alertComes (p1 : Int) (p2 : Int) (J : zM) (L : yM) (Q : zM → yM → Prop) : Prop := R32 (J 491 70) ∧ (if (J 491 70) = 1 then ∀ K5 : zM → yM → Prop, (∀ (J3 : zM) (L4 : yM), (R32 (J3 550 0) ∧ (if (J3 550 0) = 0 then ((0 : Int) ≤ p1 ∧ p1 < 2) ∧ ∀ J13 : zM, J13 = zs J3 539 p1 1 → Q J13 L4 else w_X12_heardAlert p1 (J3 550 0) J3 L4 (fun J8 L9 => w_X12_die p1 J8 L9 (fun J10 L11 => Q J10 L11)))) → K5 J3 L4) → R32 p2 ∧ (if p2 = 0 then ((0 : Int) ≤ p1 ∧ p1 < 2) ∧ R32 (J 506 p1) ∧ (if (J 506 p1) = 0 then K5 J L else Q J L) else K5 J L) else w_X12_malformed p1 J L (fun J19 L20 => Q J19 L20))
set_option maxHeartbeats 4000000 in
set_option maxRecDepth 100000 in
theorem v_X12_alertComes {b : Nat} {dC : Nat → ClassId} {dI : Nat → Nat → Nat} {cA : Nat → ClassId} {ts : Nat → Nat} {l : Launch} {n : Nat} {R : Nat → Nat → Option Nat} {al : Bool} (hn : 552 ≤ n) (hR : xRk R) {p1 : Int} {p2 : Int}  {J : zM} {L : yM} {Q : zM → yM → Prop} (h : w_X12_alertComes p1 p2 J L Q) : xCn (xGm b dC dI cA ts) l mX12_alertComes [.ref 491, .int (oI p1), .int (oI p2)] al (n, R, zi J, li L) 0 0 (zQ0 n R Q) (fun _ _ => False) := by
  refine xCn.ofJ (by decide) (Nat.le_of_ble_eq_true rfl) ?_
  show xJ _ _ _ _ _ _ _ _ _ 0 [(0, .ref 491), (1, .int (oI p1)), (2, .int (oI p2))] [] _ _ _ _ _
  unfold w_X12_alertComes at h
  refine xr_aload_n (xd dX12_alertComes 0 rfl) 0 rfl ?_
  refine zr_getI 12 70 70 rfl (xd dX12_alertComes 1 rfl) f12_481 (by decide) (by decide) (lt552 hn (by decide)) kd_491 rfl ?_
  refine xr_iconst (v := oI 1) (xd dX12_alertComes 2 rfl) (by decide) ?_
  obtain ⟨o1, h⟩ := h
  refine zr_icmp_eq 16 (xd dX12_alertComes 3 rfl) (by decide) o1 (by decide) (fun c2 => ?_) (fun c2 => ?_)
  · replace h := ifp h c2
    refine xr_iload_n (xd dX12_alertComes 8 rfl) 2 rfl ?_
    replace h := h (fun (J3 : zM) (L4 : yM) => xJ (xGm b dC dI cA ts) l mX12_alertComes 0 0 (zQ0 n R Q) (fun _ _ => False) 0 0 30 [(0, .ref 491), (1, .int (oI p1))] [] al n R (zi J3) (li L4)) (by
      intro J3 L4 h
      show xJ _ _ _ _ _ _ _ _ _ 30 [(0, .ref 491), (1, .int (oI p1))] [] _ _ _ _ _
      refine xr_aload_n (xd dX12_alertComes 16 rfl) 0 rfl ?_
      refine xr_getR (b := 550) 12 69 (xd dX12_alertComes 17 rfl) f12_187 (by decide) (by decide) (lt552 hn (by decide)) kd_491 rfl (r_491_69 hR) ?_
      refine xr_iconst (v := oI 0) (xd dX12_alertComes 18 rfl) (by decide) ?_
      refine zr_iaload (xd dX12_alertComes 19 rfl) (lt552 hn (by decide)) kd_550 ln_550 (by decide) ⟨by decide, by decide⟩ ?_
      obtain ⟨o6, h⟩ := h
      refine zr_if_ne 49 (xd dX12_alertComes 20 rfl) (by decide) o6 (fun c7 => ?_) (fun c7 => ?_)
      · replace h := ifn h c7
        refine xr_aload_n (xd dX12_alertComes 27 rfl) 0 rfl ?_
        refine xr_iload_n (xd dX12_alertComes 28 rfl) 1 rfl ?_
        refine xr_aload_n (xd dX12_alertComes 29 rfl) 0 rfl ?_
        refine xr_getR (b := 550) 12 69 (xd dX12_alertComes 30 rfl) f12_187 (by decide) (by decide) (lt552 hn (by decide)) kd_491 rfl (r_491_69 hR) ?_
        refine xr_iconst (v := oI 0) (xd dX12_alertComes 31 rfl) (by decide) ?_
        refine zr_iaload (xd dX12_alertComes 32 rfl) (lt552 hn (by decide)) kd_550 ln_550 (by decide) ⟨by decide, by decide⟩ ?_
        refine xr_callV mX12_heardAlert 2 [.int (oI p1), .int (oI (J3 550 0))] (xd dX12_alertComes 33 rfl) l12_377 kX12_heardAlert rfl (lt552 hn (by decide)) kd_491 (by decide) rfl (by decide) (Nat.le_of_ble_eq_true rfl) (v_X12_heardAlert hn hR  h) (by decide) (by decide) (fun r_ M_ h_ => ?_) (fun _ _ h_ => h_.elim)
        obtain ⟨J8, L9, rfl, rfl, h⟩ := h_
        show xJ _ _ _ _ _ _ _ _ _ 60 [(0, .ref 491), (1, .int (oI p1))] [] _ _ _ (zi J8) (li L9)
        refine xr_aload_n (xd dX12_alertComes 34 rfl) 0 rfl ?_
        refine xr_iload_n (xd dX12_alertComes 35 rfl) 1 rfl ?_
        refine xr_callV mX12_die 1 [.int (oI p1)] (xd dX12_alertComes 36 rfl) l12_380 kX12_die rfl (lt552 hn (by decide)) kd_491 (by decide) rfl (by decide) (Nat.le_of_ble_eq_true rfl) (v_X12_die hn hR  h) (by decide) (by decide) (fun r_ M_ h_ => ?_) (fun _ _ h_ => h_.elim)
        obtain ⟨J10, L11, rfl, rfl, h⟩ := h_
        show xJ _ _ _ _ _ _ _ _ _ 65 [(0, .ref 491), (1, .int (oI p1))] [] _ _ _ (zi J10) (li L11)
        exact xr_vret (xd dX12_alertComes 37 rfl) rfl (by decide) (by decide) (fun _ => rfl) ⟨_, _, rfl, rfl, h⟩
      · replace h := ifp h c7
        refine xr_aload_n (xd dX12_alertComes 21 rfl) 0 rfl ?_
        refine xr_getR (b := 539) 12 57 (xd dX12_alertComes 22 rfl) f12_154 (by decide) (by decide) (lt552 hn (by decide)) kd_491 rfl (r_491_57 hR) ?_
        refine xr_iload_n (xd dX12_alertComes 23 rfl) 1 rfl ?_
        refine xr_iconst (v := oI 1) (xd dX12_alertComes 24 rfl) (by decide) ?_
        obtain ⟨o12, h⟩ := h
        obtain ⟨J13, e_J13⟩ : ∃ z_ : zM, z_ = zs J3 539 p1 1 := ⟨_, rfl⟩
        replace h := h J13 e_J13
        refine zr_zastore (Or.inr rfl) e_J13 (xd dX12_alertComes 25 rfl) (lt552 hn (by decide)) kd_539 ln_539 (by decide) o12 ?_
        refine xr_goto 65 (xd dX12_alertComes 26 rfl) (by decide) ?_
        exact xr_vret (xd dX12_alertComes 37 rfl) rfl (by decide) (by decide) (fun _ => rfl) ⟨_, _, rfl, rfl, h⟩)
    obtain ⟨o14, h⟩ := h
    refine zr_if_ne 30 (xd dX12_alertComes 9 rfl) (by decide) o14 (fun c15 => ?_) (fun c15 => ?_)
    · replace h := ifn h c15
      refine xJ.pick (ls' := [(0, .ref 491), (1, .int (oI p1))]) [0, 1] rfl ?_
      exact h
    · replace h := ifp h c15
      refine xr_aload_n (xd dX12_alertComes 10 rfl) 0 rfl ?_
      refine xr_getR (b := 506) 12 22 (xd dX12_alertComes 11 rfl) f12_53 (by decide) (by decide) (lt552 hn (by decide)) kd_491 rfl (r_491_22 hR) ?_
      refine xr_iload_n (xd dX12_alertComes 12 rfl) 1 rfl ?_
      obtain ⟨o16, h⟩ := h
      refine zr_zaload (xd dX12_alertComes 13 rfl) (lt552 hn (by decide)) kd_506 ln_506 (by decide) o16 ?_
      obtain ⟨o17, h⟩ := h
      refine zr_if_eq 30 (xd dX12_alertComes 14 rfl) (by decide) o17 (fun c18 => ?_) (fun c18 => ?_)
      · replace h := ifp h c18
        refine xJ.pick (ls' := [(0, .ref 491), (1, .int (oI p1))]) [0, 1] rfl ?_
        exact h
      · replace h := ifn h c18
        exact xr_vret (xd dX12_alertComes 15 rfl) rfl (by decide) (by decide) (fun _ => rfl) ⟨_, _, rfl, rfl, h⟩
  · replace h := ifn h c2
    refine xr_aload_n (xd dX12_alertComes 4 rfl) 0 rfl ?_
    refine xr_iload_n (xd dX12_alertComes 5 rfl) 1 rfl ?_
    refine xr_callV mX12_malformed 1 [.int (oI p1)] (xd dX12_alertComes 6 rfl) l12_484 kX12_malformed rfl (lt552 hn (by decide)) kd_491 (by decide) rfl (by decide) (Nat.le_of_ble_eq_true rfl) (v_X12_malformed hn hR  h) (by decide) (by decide) (fun r_ M_ h_ => ?_) (fun _ _ h_ => h_.elim)
    obtain ⟨J19, L20, rfl, rfl, h⟩ := h_
    show xJ _ _ _ _ _ _ _ _ _ 13 [(0, .ref 491), (1, .int (oI p1)), (2, .int (oI p2))] [] _ _ _ (zi J19) (li L20)
    refine xr_goto 65 (xd dX12_alertComes 7 rfl) (by decide) ?_
    exact xr_vret (xd dX12_alertComes 37 rfl) rfl (by decide) (by decide) (fun _ => rfl) ⟨_, _, rfl, rfl, h⟩
def w_X12_dataComes (p1 : Int) (p2 : Int) (J : zM) (L : yM) (Q : zM → yM → Prop) : Prop := ∀ K3 : zM → yM → Prop, (∀ (J1 : zM) (L2 : yM), (w_X12_malformed p1 J1 L2 (fun J4 L5 => Q J4 L5)) → K3 J1 L2) → R32 p2 ∧ (if p2 = 3 then R32 (J 491 70) ∧ (if (J 491 70) < 1 then K3 J L else (if 60 < (J 491 70) then K3 J L else ((0 : Int) ≤ p1 ∧ p1 < 2) ∧ ∀ x12 : Int, x12 = ((100 * p1) + (zrem (J 547 p1) 100)) → ((0 : Int) ≤ x12 ∧ x12 < 200) ∧ ∀ J14 : zM, J14 = zs J 548 x12 (J 491 70) → zl_z (fun K15 x16 J17 L18 => R32 x16 ∧ R32 (J17 491 70) ∧ (if x16 < (J17 491 70) then ((0 : Int) ≤ x16 ∧ x16 < 560) ∧ ((0 : Int) ≤ ((60 * x12) + x16) ∧ ((60 * x12) + x16) < 12000) ∧ ∀ J30 : zM, J30 = zs J17 549 ((60 * x12) + x16) (J17 550 x16) → K15 (x16 + 1) J30 L18 else ((0 : Int) ≤ p1 ∧ p1 < 2) ∧ ((0 : Int) ≤ p1 ∧ p1 < 2) ∧ ∀ J24 : zM, J24 = zs J17 547 p1 ((J17 547 p1) + 1) → R32 p1 ∧ (if p1 = 0 then ∀ J27 : zM, J27 = zs J24 522 0 1 → Q J27 L18 else Q J24 L18))) 0 J14 L)) else K3 J L)
set_option maxHeartbeats 4000000 in
set_option maxRecDepth 100000 in
theorem v_X12_dataComes {b : Nat} {dC : Nat → ClassId} {dI : Nat → Nat → Nat} {cA : Nat → ClassId} {ts : Nat → Nat} {l : Launch} {n : Nat} {R : Nat → Nat → Option Nat} {al : Bool} (hn : 552 ≤ n) (hR : xRk R) {p1 : Int} {p2 : Int}  {J : zM} {L : yM} {Q : zM → yM → Prop} (h : w_X12_dataComes p1 p2 J L Q) : xCn (xGm b dC dI cA ts) l mX12_dataComes [.ref 491, .int (oI p1), .int (oI p2)] al (n, R, zi J, li L) 0 0 (zQ0 n R Q) (fun _ _ => False) := by
  refine xCn.ofJ (by decide) (Nat.le_of_ble_eq_true rfl) ?_
  show xJ _ _ _ _ _ _ _ _ _ 0 [(0, .ref 491), (1, .int (oI p1)), (2, .int (oI p2))] [] _ _ _ _ _
  unfold w_X12_dataComes at h
  refine xr_iload_n (xd dX12_dataComes 0 rfl) 2 rfl ?_
  refine xr_iconst (v := oI 3) (xd dX12_dataComes 1 rfl) (by decide) ?_
  replace h := h (fun (J1 : zM) (L2 : yM) => xJ (xGm b dC dI cA ts) l mX12_dataComes 0 0 (zQ0 n R Q) (fun _ _ => False) 0 0 22 [(0, .ref 491), (1, .int (oI p1))] [] al n R (zi J1) (li L2)) (by
    intro J1 L2 h
    show xJ _ _ _ _ _ _ _ _ _ 22 [(0, .ref 491), (1, .int (oI p1))] [] _ _ _ _ _
    refine xr_aload_n (xd dX12_dataComes 11 rfl) 0 rfl ?_
    refine xr_iload_n (xd dX12_dataComes 12 rfl) 1 rfl ?_
    refine xr_callV mX12_malformed 1 [.int (oI p1)] (xd dX12_dataComes 13 rfl) l12_484 kX12_malformed rfl (lt552 hn (by decide)) kd_491 (by decide) rfl (by decide) (Nat.le_of_ble_eq_true rfl) (v_X12_malformed hn hR  h) (by decide) (by decide) (fun r_ M_ h_ => ?_) (fun _ _ h_ => h_.elim)
    obtain ⟨J4, L5, rfl, rfl, h⟩ := h_
    show xJ _ _ _ _ _ _ _ _ _ 27 [(0, .ref 491), (1, .int (oI p1))] [] _ _ _ (zi J4) (li L5)
    exact xr_vret (xd dX12_dataComes 14 rfl) rfl (by decide) (by decide) (fun _ => rfl) ⟨_, _, rfl, rfl, h⟩)
  obtain ⟨o6, h⟩ := h
  refine zr_icmp_ne 22 (xd dX12_dataComes 2 rfl) (by decide) o6 (by decide) (fun c7 => ?_) (fun c7 => ?_)
  · replace h := ifn h c7
    refine xJ.pick (ls' := [(0, .ref 491), (1, .int (oI p1))]) [0, 1] rfl ?_
    exact h
  · replace h := ifp h c7
    refine xr_aload_n (xd dX12_dataComes 3 rfl) 0 rfl ?_
    refine zr_getI 12 70 70 rfl (xd dX12_dataComes 4 rfl) f12_481 (by decide) (by decide) (lt552 hn (by decide)) kd_491 rfl ?_
    refine xr_iconst (v := oI 1) (xd dX12_dataComes 5 rfl) (by decide) ?_
    obtain ⟨o8, h⟩ := h
    refine zr_icmp_lt 22 (xd dX12_dataComes 6 rfl) (by decide) o8 (by decide) (fun c9 => ?_) (fun c9 => ?_)
    · replace h := ifp h c9
      refine xJ.pick (ls' := [(0, .ref 491), (1, .int (oI p1))]) [0, 1] rfl ?_
      exact h
    · replace h := ifn h c9
      refine xr_aload_n (xd dX12_dataComes 7 rfl) 0 rfl ?_
      refine zr_getI 12 70 70 rfl (xd dX12_dataComes 8 rfl) f12_481 (by decide) (by decide) (lt552 hn (by decide)) kd_491 rfl ?_
      refine xr_bipush (v := oI 60) (xd dX12_dataComes 9 rfl) (by decide) ?_
      refine zr_icmp_le 28 (xd dX12_dataComes 10 rfl) (by decide) o8 (by decide) (fun c10 => ?_) (fun c10 => ?_)
      · replace h := ifn h c10
        refine xr_bipush (v := oI 100) (xd dX12_dataComes 15 rfl) (by decide) ?_
        refine xr_iload_n (xd dX12_dataComes 16 rfl) 1 rfl ?_
        refine zr_imul (xd dX12_dataComes 17 rfl) ?_
        refine xr_aload_n (xd dX12_dataComes 18 rfl) 0 rfl ?_
        refine xr_getR (b := 547) 12 66 (xd dX12_dataComes 19 rfl) f12_178 (by decide) (by decide) (lt552 hn (by decide)) kd_491 rfl (r_491_66 hR) ?_
        refine xr_iload_n (xd dX12_dataComes 20 rfl) 1 rfl ?_
        obtain ⟨o11, h⟩ := h
        refine zr_iaload (xd dX12_dataComes 21 rfl) (lt552 hn (by decide)) kd_547 ln_547 (by decide) o11 ?_
        refine xr_bipush (v := oI 100) (xd dX12_dataComes 22 rfl) (by decide) ?_
        refine zr_irem (xd dX12_dataComes 23 rfl) (by decide) (by decide) ?_
        refine zr_iadd (xd dX12_dataComes 24 rfl) ?_
        obtain ⟨x12, e_x12⟩ : ∃ z_ : Int, z_ = ((100 * p1) + (zrem (J 547 p1) 100)) := ⟨_, rfl⟩
        replace h := h x12 e_x12
        refine zr_nm e_x12 ?_
        refine xr_istore_n [(0, .ref 491), (1, .int (oI p1)), (2, .int (oI p2)), (3, .int (oI x12))] (xd dX12_dataComes 25 rfl) rfl (by decide) rfl ?_
        refine xr_aload_n (xd dX12_dataComes 26 rfl) 0 rfl ?_
        refine xr_getR (b := 548) 12 67 (xd dX12_dataComes 27 rfl) f12_181 (by decide) (by decide) (lt552 hn (by decide)) kd_491 rfl (r_491_67 hR) ?_
        refine xr_iload_n (xd dX12_dataComes 28 rfl) 3 rfl ?_
        refine xr_aload_n (xd dX12_dataComes 29 rfl) 0 rfl ?_
        refine zr_getI 12 70 70 rfl (xd dX12_dataComes 30 rfl) f12_481 (by decide) (by decide) (lt552 hn (by decide)) kd_491 rfl ?_
        obtain ⟨o13, h⟩ := h
        obtain ⟨J14, e_J14⟩ : ∃ z_ : zM, z_ = zs J 548 x12 (J 491 70) := ⟨_, rfl⟩
        replace h := h J14 e_J14
        refine zr_iastore e_J14 (xd dX12_dataComes 31 rfl) (lt552 hn (by decide)) kd_548 ln_548 (by decide) o13 ?_
        refine xr_iconst (v := oI 0) (xd dX12_dataComes 32 rfl) (by decide) ?_
        refine xr_istore [(0, .ref 491), (1, .int (oI p1)), (2, .int (oI p2)), (3, .int (oI x12)), (4, .int (oI 0))] (xd dX12_dataComes 33 rfl) (by decide) rfl ?_
        refine xJ.pick (ls' := [(0, .ref 491), (1, .int (oI p1)), (3, .int (oI x12)), (4, .int (oI 0))]) [0, 1, 3, 4] rfl ?_
        refine h (fun x16 J17 L18 => xJ (xGm b dC dI cA ts) l mX12_dataComes 0 0 (zQ0 n R Q) (fun _ _ => False) 0 0 56 [(0, .ref 491), (1, .int (oI p1)), (3, .int (oI x12)), (4, .int (oI x16))] [] al n R (zi J17) (li L18)) ?_
        intro x16 J17 L18 h
        show xJ _ _ _ _ _ _ _ _ _ 56 [(0, .ref 491), (1, .int (oI p1)), (3, .int (oI x12)), (4, .int (oI x16))] [] _ _ _ _ _
        refine xr_iload (xd dX12_dataComes 34 rfl) 3 rfl ?_
        refine xr_aload_n (xd dX12_dataComes 35 rfl) 0 rfl ?_
        refine zr_getI 12 70 70 rfl (xd dX12_dataComes 36 rfl) f12_481 (by decide) (by decide) (lt552 hn (by decide)) kd_491 rfl ?_
        obtain ⟨o19, h⟩ := h
        obtain ⟨o20, h⟩ := h
        refine zr_icmp_ge 90 (xd dX12_dataComes 37 rfl) (by decide) o19 o20 (fun c21 => ?_) (fun c21 => ?_)
        · replace h := ifn h c21
          refine xr_aload_n (xd dX12_dataComes 52 rfl) 0 rfl ?_
          refine xr_getR (b := 547) 12 66 (xd dX12_dataComes 53 rfl) f12_178 (by decide) (by decide) (lt552 hn (by decide)) kd_491 rfl (r_491_66 hR) ?_
          refine xr_iload_n (xd dX12_dataComes 54 rfl) 1 rfl ?_
          refine xr_dup2 (xd dX12_dataComes 55 rfl) rfl rfl ?_
          obtain ⟨o22, h⟩ := h
          refine zr_iaload (xd dX12_dataComes 56 rfl) (lt552 hn (by decide)) kd_547 ln_547 (by decide) o22 ?_
          refine xr_iconst (v := oI 1) (xd dX12_dataComes 57 rfl) (by decide) ?_
          refine zr_iadd (xd dX12_dataComes 58 rfl) ?_
          obtain ⟨o23, h⟩ := h
          obtain ⟨J24, e_J24⟩ : ∃ z_ : zM, z_ = zs J17 547 p1 ((J17 547 p1) + 1) := ⟨_, rfl⟩
          replace h := h J24 e_J24
          refine zr_iastore e_J24 (xd dX12_dataComes 59 rfl) (lt552 hn (by decide)) kd_547 ln_547 (by decide) o23 ?_
          refine xr_iload_n (xd dX12_dataComes 60 rfl) 1 rfl ?_
          obtain ⟨o25, h⟩ := h
          refine zr_if_ne 111 (xd dX12_dataComes 61 rfl) (by decide) o25 (fun c26 => ?_) (fun c26 => ?_)
          · replace h := ifn h c26
            exact xr_vret (xd dX12_dataComes 67 rfl) rfl (by decide) (by decide) (fun _ => rfl) ⟨_, _, rfl, rfl, h⟩
          · replace h := ifp h c26
            refine xr_aload_n (xd dX12_dataComes 62 rfl) 0 rfl ?_
            refine xr_getR (b := 522) 12 40 (xd dX12_dataComes 63 rfl) f12_103 (by decide) (by decide) (lt552 hn (by decide)) kd_491 rfl (r_491_40 hR) ?_
            refine xr_iconst (v := oI 0) (xd dX12_dataComes 64 rfl) (by decide) ?_
            refine xr_iconst (v := oI 1) (xd dX12_dataComes 65 rfl) (by decide) ?_
            obtain ⟨J27, e_J27⟩ : ∃ z_ : zM, z_ = zs J24 522 0 1 := ⟨_, rfl⟩
            replace h := h J27 e_J27
            refine zr_zastore (Or.inr rfl) e_J27 (xd dX12_dataComes 66 rfl) (lt552 hn (by decide)) kd_522 ln_522 (by decide) ⟨by decide, by decide⟩ ?_
            exact xr_vret (xd dX12_dataComes 67 rfl) rfl (by decide) (by decide) (fun _ => rfl) ⟨_, _, rfl, rfl, h⟩
        · replace h := ifp h c21
          refine xr_aload_n (xd dX12_dataComes 38 rfl) 0 rfl ?_
          refine xr_getR (b := 549) 12 68 (xd dX12_dataComes 39 rfl) f12_184 (by decide) (by decide) (lt552 hn (by decide)) kd_491 rfl (r_491_68 hR) ?_
          refine xr_bipush (v := oI 60) (xd dX12_dataComes 40 rfl) (by decide) ?_
          refine xr_iload_n (xd dX12_dataComes 41 rfl) 2 rfl ?_
          refine zr_imul (xd dX12_dataComes 42 rfl) ?_
          refine xr_iload (xd dX12_dataComes 43 rfl) 3 rfl ?_
          refine zr_iadd (xd dX12_dataComes 44 rfl) ?_
          refine xr_aload_n (xd dX12_dataComes 45 rfl) 0 rfl ?_
          refine xr_getR (b := 550) 12 69 (xd dX12_dataComes 46 rfl) f12_187 (by decide) (by decide) (lt552 hn (by decide)) kd_491 rfl (r_491_69 hR) ?_
          refine xr_iload (xd dX12_dataComes 47 rfl) 3 rfl ?_
          obtain ⟨o28, h⟩ := h
          refine zr_iaload (xd dX12_dataComes 48 rfl) (lt552 hn (by decide)) kd_550 ln_550 (by decide) o28 ?_
          obtain ⟨o29, h⟩ := h
          obtain ⟨J30, e_J30⟩ : ∃ z_ : zM, z_ = zs J17 549 ((60 * x12) + x16) (J17 550 x16) := ⟨_, rfl⟩
          replace h := h J30 e_J30
          refine zr_iastore e_J30 (xd dX12_dataComes 49 rfl) (lt552 hn (by decide)) kd_549 ln_549 (by decide) o29 ?_
          refine zr_iinc [(0, .ref 491), (1, .int (oI p1)), (3, .int (oI x12)), (4, .int (oI (x16 + 1)))] (xd dX12_dataComes 50 rfl) 3 rfl (by decide) rfl ?_
          refine xr_goto 56 (xd dX12_dataComes 51 rfl) (by decide) ?_
          exact h
      · replace h := ifp h c10
        refine xJ.pick (ls' := [(0, .ref 491), (1, .int (oI p1))]) [0, 1] rfl ?_
        exact h
def w_X12_inRecord (p1 : Int) (p2 : Int) (p3 : Int) (p4 : Int) (J : zM) (L : yM) (Q : zM → yM → Prop) : Prop := ∀ K3 : zM → yM → Prop, (∀ (J1 : zM) (L2 : yM), (w_X12_malformed p1 J1 L2 (fun J4 L5 => Q J4 L5)) → K3 J1 L2) → R32 p3 ∧ (if p3 = 21 then w_X12_alertComes p1 p2 J L (fun J8 L9 => Q J8 L9) else (if p3 = 22 then w_X12_handshake p1 p2 p4 J L (fun J11 L12 => Q J11 L12) else (if p3 = 23 then w_X12_dataComes p1 p2 J L (fun J14 L15 => Q J14 L15) else (if p3 = 26 then w_X12_ackComes p1 p2 J L (fun J17 L18 => Q J17 L18) else K3 J L))))
set_option maxHeartbeats 4000000 in
set_option maxRecDepth 100000 in
theorem v_X12_inRecord {b : Nat} {dC : Nat → ClassId} {dI : Nat → Nat → Nat} {cA : Nat → ClassId} {ts : Nat → Nat} {l : Launch} {n : Nat} {R : Nat → Nat → Option Nat} {al : Bool} (hn : 552 ≤ n) (hR : xRk R) {p1 : Int} {p2 : Int} {p3 : Int} {p4 : Int}  {J : zM} {L : yM} {Q : zM → yM → Prop} (h : w_X12_inRecord p1 p2 p3 p4 J L Q) : xCn (xGm b dC dI cA ts) l mX12_inRecord [.ref 491, .int (oI p1), .int (oI p2), .int (oI p3), .int (oI p4)] al (n, R, zi J, li L) 0 0 (zQ0 n R Q) (fun _ _ => False) := by
  refine xCn.ofJ (by decide) (Nat.le_of_ble_eq_true rfl) ?_
  show xJ _ _ _ _ _ _ _ _ _ 0 [(0, .ref 491), (1, .int (oI p1)), (2, .int (oI p2)), (3, .int (oI p3)), (4, .int (oI p4))] [] _ _ _ _ _
  unfold w_X12_inRecord at h
  refine xr_iload_n (xd dX12_inRecord 0 rfl) 3 rfl ?_
  replace h := h (fun (J1 : zM) (L2 : yM) => xJ (xGm b dC dI cA ts) l mX12_inRecord 0 0 (zQ0 n R Q) (fun _ _ => False) 0 0 78 [(0, .ref 491), (1, .int (oI p1))] [] al n R (zi J1) (li L2)) (by
    intro J1 L2 h
    show xJ _ _ _ _ _ _ _ _ _ 78 [(0, .ref 491), (1, .int (oI p1))] [] _ _ _ _ _
    refine xr_aload_n (xd dX12_inRecord 23 rfl) 0 rfl ?_
    refine xr_iload_n (xd dX12_inRecord 24 rfl) 1 rfl ?_
    refine xr_callV mX12_malformed 1 [.int (oI p1)] (xd dX12_inRecord 25 rfl) l12_484 kX12_malformed rfl (lt552 hn (by decide)) kd_491 (by decide) rfl (by decide) (Nat.le_of_ble_eq_true rfl) (v_X12_malformed hn hR  h) (by decide) (by decide) (fun r_ M_ h_ => ?_) (fun _ _ h_ => h_.elim)
    obtain ⟨J4, L5, rfl, rfl, h⟩ := h_
    show xJ _ _ _ _ _ _ _ _ _ 83 [(0, .ref 491), (1, .int (oI p1))] [] _ _ _ (zi J4) (li L5)
    exact xr_vret (xd dX12_inRecord 26 rfl) rfl (by decide) (by decide) (fun _ => rfl) ⟨_, _, rfl, rfl, h⟩)
  obtain ⟨o6, h⟩ := h
  by_cases c7 : p3 = 21
  · replace h := ifp h c7
    refine zr_tab (off := 50) 51 (xd dX12_inRecord 1 rfl) o6 (by rw [c7]; rfl) (by decide) (by decide) ?_
    refine xr_aload_n (xd dX12_inRecord 8 rfl) 0 rfl ?_
    refine xr_iload_n (xd dX12_inRecord 9 rfl) 1 rfl ?_
    refine xr_iload_n (xd dX12_inRecord 10 rfl) 2 rfl ?_
    refine xr_callV mX12_alertComes 2 [.int (oI p1), .int (oI p2)] (xd dX12_inRecord 11 rfl) l12_522 kX12_alertComes rfl (lt552 hn (by decide)) kd_491 (by decide) rfl (by decide) (Nat.le_of_ble_eq_true rfl) (v_X12_alertComes hn hR  h) (by decide) (by decide) (fun r_ M_ h_ => ?_) (fun _ _ h_ => h_.elim)
    obtain ⟨J8, L9, rfl, rfl, h⟩ := h_
    show xJ _ _ _ _ _ _ _ _ _ 57 [(0, .ref 491), (1, .int (oI p1)), (2, .int (oI p2)), (3, .int (oI p3)), (4, .int (oI p4))] [] _ _ _ (zi J8) (li L9)
    refine xr_goto 83 (xd dX12_inRecord 12 rfl) (by decide) ?_
    exact xr_vret (xd dX12_inRecord 26 rfl) rfl (by decide) (by decide) (fun _ => rfl) ⟨_, _, rfl, rfl, h⟩
  replace h := ifn h c7
  by_cases c10 : p3 = 22
  · replace h := ifp h c10
    refine zr_tab (off := 39) 40 (xd dX12_inRecord 1 rfl) o6 (by rw [c10]; rfl) (by decide) (by decide) ?_
    refine xr_aload_n (xd dX12_inRecord 2 rfl) 0 rfl ?_
    refine xr_iload_n (xd dX12_inRecord 3 rfl) 1 rfl ?_
    refine xr_iload_n (xd dX12_inRecord 4 rfl) 2 rfl ?_
    refine xr_iload (xd dX12_inRecord 5 rfl) 4 rfl ?_
    refine xr_callV mX12_handshake 3 [.int (oI p1), .int (oI p2), .int (oI p4)] (xd dX12_inRecord 6 rfl) l12_519 kX12_handshake rfl (lt552 hn (by decide)) kd_491 (by decide) rfl (by decide) (Nat.le_of_ble_eq_true rfl) (v_X12_handshake hn hR  h) (by decide) (by decide) (fun r_ M_ h_ => ?_) (fun _ _ h_ => h_.elim)
    obtain ⟨J11, L12, rfl, rfl, h⟩ := h_
    show xJ _ _ _ _ _ _ _ _ _ 48 [(0, .ref 491), (1, .int (oI p1)), (2, .int (oI p2)), (3, .int (oI p3)), (4, .int (oI p4))] [] _ _ _ (zi J11) (li L12)
    refine xr_goto 83 (xd dX12_inRecord 7 rfl) (by decide) ?_
    exact xr_vret (xd dX12_inRecord 26 rfl) rfl (by decide) (by decide) (fun _ => rfl) ⟨_, _, rfl, rfl, h⟩
  replace h := ifn h c10
  by_cases c13 : p3 = 23
  · replace h := ifp h c13
    refine zr_tab (off := 68) 69 (xd dX12_inRecord 1 rfl) o6 (by rw [c13]; rfl) (by decide) (by decide) ?_
    refine xr_aload_n (xd dX12_inRecord 18 rfl) 0 rfl ?_
    refine xr_iload_n (xd dX12_inRecord 19 rfl) 1 rfl ?_
    refine xr_iload_n (xd dX12_inRecord 20 rfl) 2 rfl ?_
    refine xr_callV mX12_dataComes 2 [.int (oI p1), .int (oI p2)] (xd dX12_inRecord 21 rfl) l12_528 kX12_dataComes rfl (lt552 hn (by decide)) kd_491 (by decide) rfl (by decide) (Nat.le_of_ble_eq_true rfl) (v_X12_dataComes hn hR  h) (by decide) (by decide) (fun r_ M_ h_ => ?_) (fun _ _ h_ => h_.elim)
    obtain ⟨J14, L15, rfl, rfl, h⟩ := h_
    show xJ _ _ _ _ _ _ _ _ _ 75 [(0, .ref 491), (1, .int (oI p1)), (2, .int (oI p2)), (3, .int (oI p3)), (4, .int (oI p4))] [] _ _ _ (zi J14) (li L15)
    refine xr_goto 83 (xd dX12_inRecord 22 rfl) (by decide) ?_
    exact xr_vret (xd dX12_inRecord 26 rfl) rfl (by decide) (by decide) (fun _ => rfl) ⟨_, _, rfl, rfl, h⟩
  replace h := ifn h c13
  by_cases c16 : p3 = 26
  · replace h := ifp h c16
    refine zr_tab (off := 59) 60 (xd dX12_inRecord 1 rfl) o6 (by rw [c16]; rfl) (by decide) (by decide) ?_
    refine xr_aload_n (xd dX12_inRecord 13 rfl) 0 rfl ?_
    refine xr_iload_n (xd dX12_inRecord 14 rfl) 1 rfl ?_
    refine xr_iload_n (xd dX12_inRecord 15 rfl) 2 rfl ?_
    refine xr_callV mX12_ackComes 2 [.int (oI p1), .int (oI p2)] (xd dX12_inRecord 16 rfl) l12_525 kX12_ackComes rfl (lt552 hn (by decide)) kd_491 (by decide) rfl (by decide) (Nat.le_of_ble_eq_true rfl) (v_X12_ackComes hn hR  h) (by decide) (by decide) (fun r_ M_ h_ => ?_) (fun _ _ h_ => h_.elim)
    obtain ⟨J17, L18, rfl, rfl, h⟩ := h_
    show xJ _ _ _ _ _ _ _ _ _ 66 [(0, .ref 491), (1, .int (oI p1)), (2, .int (oI p2)), (3, .int (oI p3)), (4, .int (oI p4))] [] _ _ _ (zi J17) (li L18)
    refine xr_goto 83 (xd dX12_inRecord 17 rfl) (by decide) ?_
    exact xr_vret (xd dX12_inRecord 26 rfl) rfl (by decide) (by decide) (fun _ => rfl) ⟨_, _, rfl, rfl, h⟩
  replace h := ifn h c16
  refine zr_tab (off := 77) 78 (xd dX12_inRecord 1 rfl) o6 (by unfold tabOff; split <;> first | rfl | (exfalso; omega) | (rcases (show p3 = 24 ∨ p3 = 25 by omega) with q | q <;> rw [q] <;> rfl)) (by decide) (by decide) ?_
  refine xJ.pick (ls' := [(0, .ref 491), (1, .int (oI p1))]) [0, 1] rfl ?_
  exact h
def w_X12_isStale (p1 : Int) (p2 : Int) (p3 : Int) (J : zM) (L : yM) (Q : Int → zM → yM → Prop) : Prop := ∀ x1 : Int, x1 = ((4 * p1) + p2) → ((0 : Int) ≤ x1 ∧ x1 < 8) ∧ R32 p3 ∧ R32 ((J 545 x1) - 64) ∧ (if ((J 545 x1) - 64) < p3 then ((0 : Int) ≤ x1 ∧ x1 < 8) ∧ R32 (J 545 x1) ∧ (if (J 545 x1) < p3 then Q 0 J L else ((0 : Int) ≤ x1 ∧ x1 < 8) ∧ ((0 : Int) ≤ x1 ∧ x1 < 8) ∧ (if (zcmp ((yush (L 546 x1) ((J 545 x1) - p3)) &&& 1) 1) = 0 then Q 1 J L else Q 0 J L)) else Q 1 J L)
set_option maxHeartbeats 4000000 in
set_option maxRecDepth 100000 in
theorem v_X12_isStale {b : Nat} {dC : Nat → ClassId} {dI : Nat → Nat → Nat} {cA : Nat → ClassId} {ts : Nat → Nat} {l : Launch} {n : Nat} {R : Nat → Nat → Option Nat} {al : Bool} (hn : 552 ≤ n) (hR : xRk R) {p1 : Int} {p2 : Int} {p3 : Int}  {J : zM} {L : yM} {Q : Int → zM → yM → Prop} (h : w_X12_isStale p1 p2 p3 J L Q) : xCn (xGm b dC dI cA ts) l mX12_isStale [.ref 491, .int (oI p1), .int (oI p2), .int (oI p3)] al (n, R, zi J, li L) 0 0 (zQ1 n R Q) (fun _ _ => False) := by
  refine xCn.ofJ (by decide) (Nat.le_of_ble_eq_true rfl) ?_
  show xJ _ _ _ _ _ _ _ _ _ 0 [(0, .ref 491), (1, .int (oI p1)), (2, .int (oI p2)), (3, .int (oI p3))] [] _ _ _ _ _
  unfold w_X12_isStale at h
  refine xr_iconst (v := oI 4) (xd dX12_isStale 0 rfl) (by decide) ?_
  refine xr_iload_n (xd dX12_isStale 1 rfl) 1 rfl ?_
  refine zr_imul (xd dX12_isStale 2 rfl) ?_
  refine xr_iload_n (xd dX12_isStale 3 rfl) 2 rfl ?_
  refine zr_iadd (xd dX12_isStale 4 rfl) ?_
  obtain ⟨x1, e_x1⟩ : ∃ z_ : Int, z_ = ((4 * p1) + p2) := ⟨_, rfl⟩
  replace h := h x1 e_x1
  refine zr_nm e_x1 ?_
  refine xr_istore [(0, .ref 491), (1, .int (oI p1)), (2, .int (oI p2)), (3, .int (oI p3)), (4, .int (oI x1))] (xd dX12_isStale 5 rfl) (by decide) rfl ?_
  refine xr_iload_n (xd dX12_isStale 6 rfl) 3 rfl ?_
  refine xr_aload_n (xd dX12_isStale 7 rfl) 0 rfl ?_
  refine xr_getR (b := 545) 12 64 (xd dX12_isStale 8 rfl) f12_172 (by decide) (by decide) (lt552 hn (by decide)) kd_491 rfl (r_491_64 hR) ?_
  refine xr_iload (xd dX12_isStale 9 rfl) 4 rfl ?_
  obtain ⟨o2, h⟩ := h
  refine zr_iaload (xd dX12_isStale 10 rfl) (lt552 hn (by decide)) kd_545 ln_545 (by decide) o2 ?_
  refine xr_bipush (v := oI 64) (xd dX12_isStale 11 rfl) (by decide) ?_
  refine zr_isub (xd dX12_isStale 12 rfl) ?_
  obtain ⟨o3, h⟩ := h
  obtain ⟨o4, h⟩ := h
  refine zr_icmp_le 56 (xd dX12_isStale 13 rfl) (by decide) o3 o4 (fun c5 => ?_) (fun c5 => ?_)
  · replace h := ifn h c5
    refine xr_iconst (v := oI 1) (xd dX12_isStale 36 rfl) (by decide) ?_
    refine xr_goto 61 (xd dX12_isStale 37 rfl) (by decide) ?_
    exact xr_zret (xd dX12_isStale 39 rfl) rfl (zret_b (Or.inr rfl)) (by decide) (by decide) (fun _ => rfl) ⟨_, _, _, rfl, rfl, h⟩
  · replace h := ifp h c5
    refine xr_iload_n (xd dX12_isStale 14 rfl) 3 rfl ?_
    refine xr_aload_n (xd dX12_isStale 15 rfl) 0 rfl ?_
    refine xr_getR (b := 545) 12 64 (xd dX12_isStale 16 rfl) f12_172 (by decide) (by decide) (lt552 hn (by decide)) kd_491 rfl (r_491_64 hR) ?_
    refine xr_iload (xd dX12_isStale 17 rfl) 4 rfl ?_
    obtain ⟨o6, h⟩ := h
    refine zr_iaload (xd dX12_isStale 18 rfl) (lt552 hn (by decide)) kd_545 ln_545 (by decide) o6 ?_
    obtain ⟨o7, h⟩ := h
    refine zr_icmp_gt 60 (xd dX12_isStale 19 rfl) (by decide) o3 o7 (fun c8 => ?_) (fun c8 => ?_)
    · replace h := ifp h c8
      refine xr_iconst (v := oI 0) (xd dX12_isStale 38 rfl) (by decide) ?_
      exact xr_zret (xd dX12_isStale 39 rfl) rfl (zret_b (Or.inl rfl)) (by decide) (by decide) (fun _ => rfl) ⟨_, _, _, rfl, rfl, h⟩
    · replace h := ifn h c8
      refine xr_aload_n (xd dX12_isStale 20 rfl) 0 rfl ?_
      refine xr_getR (b := 546) 12 65 (xd dX12_isStale 21 rfl) f12_175 (by decide) (by decide) (lt552 hn (by decide)) kd_491 rfl (r_491_65 hR) ?_
      refine xr_iload (xd dX12_isStale 22 rfl) 4 rfl ?_
      obtain ⟨o9, h⟩ := h
      refine zr_laload (xd dX12_isStale 23 rfl) (lt552 hn (by decide)) kd_546 ln_546 (by decide) o9 ?_
      refine xr_aload_n (xd dX12_isStale 24 rfl) 0 rfl ?_
      refine xr_getR (b := 545) 12 64 (xd dX12_isStale 25 rfl) f12_172 (by decide) (by decide) (lt552 hn (by decide)) kd_491 rfl (r_491_64 hR) ?_
      refine xr_iload (xd dX12_isStale 26 rfl) 4 rfl ?_
      obtain ⟨o10, h⟩ := h
      refine zr_iaload (xd dX12_isStale 27 rfl) (lt552 hn (by decide)) kd_545 ln_545 (by decide) o10 ?_
      refine xr_iload_n (xd dX12_isStale 28 rfl) 3 rfl ?_
      refine zr_isub (xd dX12_isStale 29 rfl) ?_
      refine zr_lushr (xd dX12_isStale 30 rfl) ?_
      refine xr_lconst (v := 1) (xd dX12_isStale 31 rfl) (by decide) ?_
      refine xr_land (xd dX12_isStale 32 rfl) ?_
      refine xr_lconst (v := 1) (xd dX12_isStale 33 rfl) (by decide) ?_
      refine zr_lcmp (xd dX12_isStale 34 rfl) ?_
      refine zr_if_ne 60 (xd dX12_isStale 35 rfl) (by decide) (R32_of _) (fun c11 => ?_) (fun c11 => ?_)
      · replace h := ifn h c11
        refine xr_iconst (v := oI 0) (xd dX12_isStale 38 rfl) (by decide) ?_
        exact xr_zret (xd dX12_isStale 39 rfl) rfl (zret_b (Or.inl rfl)) (by decide) (by decide) (fun _ => rfl) ⟨_, _, _, rfl, rfl, h⟩
      · replace h := ifp h c11
        refine xr_iconst (v := oI 1) (xd dX12_isStale 36 rfl) (by decide) ?_
        refine xr_goto 61 (xd dX12_isStale 37 rfl) (by decide) ?_
        exact xr_zret (xd dX12_isStale 39 rfl) rfl (zret_b (Or.inr rfl)) (by decide) (by decide) (fun _ => rfl) ⟨_, _, _, rfl, rfl, h⟩
def w_X12_mark (p1 : Int) (p2 : Int) (p3 : Int) (J : zM) (L : yM) (Q : zM → yM → Prop) : Prop := ∀ x1 : Int, x1 = ((4 * p1) + p2) → ((0 : Int) ≤ x1 ∧ x1 < 8) ∧ ∀ K5 : zM → yM → Prop, (∀ (J3 : zM) (L4 : yM), (((0 : Int) ≤ x1 ∧ x1 < 8) ∧ ((0 : Int) ≤ x1 ∧ x1 < 8) ∧ ((0 : Int) ≤ x1 ∧ x1 < 8) ∧ ∀ L9 : yM, L9 = ys L4 546 x1 ((L4 546 x1) ||| (yshl 1 ((J3 545 x1) - p3))) → Q J3 L9) → K5 J3 L4) → R32 p3 ∧ R32 (J 545 x1) ∧ (if (J 545 x1) < p3 then ((0 : Int) ≤ x1 ∧ x1 < 8) ∧ ∀ x14 : Int, x14 = (p3 - (J 545 x1)) → ∀ K18 : Int64 → zM → yM → Prop, (∀ (x15 : Int64) (J16 : zM) (L17 : yM), (((0 : Int) ≤ x1 ∧ x1 < 8) ∧ ∀ L20 : yM, L20 = ys L17 546 x1 x15 → ((0 : Int) ≤ x1 ∧ x1 < 8) ∧ ∀ J22 : zM, J22 = zs J16 545 x1 p3 → K5 J22 L20) → K18 x15 J16 L17) → R32 x14 ∧ (if 63 < x14 then K18 0 J L else ((0 : Int) ≤ x1 ∧ x1 < 8) ∧ K18 (yshl (L 546 x1) x14) J L) else K5 J L)
set_option maxHeartbeats 4000000 in
set_option maxRecDepth 100000 in
theorem v_X12_mark {b : Nat} {dC : Nat → ClassId} {dI : Nat → Nat → Nat} {cA : Nat → ClassId} {ts : Nat → Nat} {l : Launch} {n : Nat} {R : Nat → Nat → Option Nat} {al : Bool} (hn : 552 ≤ n) (hR : xRk R) {p1 : Int} {p2 : Int} {p3 : Int}  {J : zM} {L : yM} {Q : zM → yM → Prop} (h : w_X12_mark p1 p2 p3 J L Q) : xCn (xGm b dC dI cA ts) l mX12_mark [.ref 491, .int (oI p1), .int (oI p2), .int (oI p3)] al (n, R, zi J, li L) 0 0 (zQ0 n R Q) (fun _ _ => False) := by
  refine xCn.ofJ (by decide) (Nat.le_of_ble_eq_true rfl) ?_
  show xJ _ _ _ _ _ _ _ _ _ 0 [(0, .ref 491), (1, .int (oI p1)), (2, .int (oI p2)), (3, .int (oI p3))] [] _ _ _ _ _
  unfold w_X12_mark at h
  refine xr_iconst (v := oI 4) (xd dX12_mark 0 rfl) (by decide) ?_
  refine xr_iload_n (xd dX12_mark 1 rfl) 1 rfl ?_
  refine zr_imul (xd dX12_mark 2 rfl) ?_
  refine xr_iload_n (xd dX12_mark 3 rfl) 2 rfl ?_
  refine zr_iadd (xd dX12_mark 4 rfl) ?_
  obtain ⟨x1, e_x1⟩ : ∃ z_ : Int, z_ = ((4 * p1) + p2) := ⟨_, rfl⟩
  replace h := h x1 e_x1
  refine zr_nm e_x1 ?_
  refine xr_istore [(0, .ref 491), (1, .int (oI p1)), (2, .int (oI p2)), (3, .int (oI p3)), (4, .int (oI x1))] (xd dX12_mark 5 rfl) (by decide) rfl ?_
  refine xr_iload_n (xd dX12_mark 6 rfl) 3 rfl ?_
  refine xr_aload_n (xd dX12_mark 7 rfl) 0 rfl ?_
  refine xr_getR (b := 545) 12 64 (xd dX12_mark 8 rfl) f12_172 (by decide) (by decide) (lt552 hn (by decide)) kd_491 rfl (r_491_64 hR) ?_
  refine xr_iload (xd dX12_mark 9 rfl) 4 rfl ?_
  obtain ⟨o2, h⟩ := h
  refine zr_iaload (xd dX12_mark 10 rfl) (lt552 hn (by decide)) kd_545 ln_545 (by decide) o2 ?_
  replace h := h (fun (J3 : zM) (L4 : yM) => xJ (xGm b dC dI cA ts) l mX12_mark 0 0 (zQ0 n R Q) (fun _ _ => False) 0 0 65 [(0, .ref 491), (3, .int (oI p3)), (4, .int (oI x1))] [] al n R (zi J3) (li L4)) (by
    intro J3 L4 h
    show xJ _ _ _ _ _ _ _ _ _ 65 [(0, .ref 491), (3, .int (oI p3)), (4, .int (oI x1))] [] _ _ _ _ _
    refine xr_aload_n (xd dX12_mark 39 rfl) 0 rfl ?_
    refine xr_getR (b := 546) 12 65 (xd dX12_mark 40 rfl) f12_175 (by decide) (by decide) (lt552 hn (by decide)) kd_491 rfl (r_491_65 hR) ?_
    refine xr_iload (xd dX12_mark 41 rfl) 2 rfl ?_
    refine xr_dup2 (xd dX12_mark 42 rfl) rfl rfl ?_
    obtain ⟨o6, h⟩ := h
    refine zr_laload (xd dX12_mark 43 rfl) (lt552 hn (by decide)) kd_546 ln_546 (by decide) o6 ?_
    refine xr_lconst (v := 1) (xd dX12_mark 44 rfl) (by decide) ?_
    refine xr_aload_n (xd dX12_mark 45 rfl) 0 rfl ?_
    refine xr_getR (b := 545) 12 64 (xd dX12_mark 46 rfl) f12_172 (by decide) (by decide) (lt552 hn (by decide)) kd_491 rfl (r_491_64 hR) ?_
    refine xr_iload (xd dX12_mark 47 rfl) 2 rfl ?_
    obtain ⟨o7, h⟩ := h
    refine zr_iaload (xd dX12_mark 48 rfl) (lt552 hn (by decide)) kd_545 ln_545 (by decide) o7 ?_
    refine xr_iload_n (xd dX12_mark 49 rfl) 1 rfl ?_
    refine zr_isub (xd dX12_mark 50 rfl) ?_
    refine zr_lshl (xd dX12_mark 51 rfl) ?_
    refine xr_lor (xd dX12_mark 52 rfl) ?_
    obtain ⟨o8, h⟩ := h
    obtain ⟨L9, e_L9⟩ : ∃ z_ : yM, z_ = ys L4 546 x1 ((L4 546 x1) ||| (yshl 1 ((J3 545 x1) - p3))) := ⟨_, rfl⟩
    replace h := h L9 e_L9
    refine zr_lastore e_L9 (xd dX12_mark 53 rfl) (lt552 hn (by decide)) kd_546 ln_546 (by decide) o8 ?_
    exact xr_vret (xd dX12_mark 54 rfl) rfl (by decide) (by decide) (fun _ => rfl) ⟨_, _, rfl, rfl, h⟩)
  obtain ⟨o10, h⟩ := h
  obtain ⟨o11, h⟩ := h
  refine zr_icmp_le 65 (xd dX12_mark 11 rfl) (by decide) o10 o11 (fun c12 => ?_) (fun c12 => ?_)
  · replace h := ifn h c12
    refine xJ.pick (ls' := [(0, .ref 491), (3, .int (oI p3)), (4, .int (oI x1))]) [0, 3, 4] rfl ?_
    exact h
  · replace h := ifp h c12
    refine xr_iload_n (xd dX12_mark 12 rfl) 3 rfl ?_
    refine xr_aload_n (xd dX12_mark 13 rfl) 0 rfl ?_
    refine xr_getR (b := 545) 12 64 (xd dX12_mark 14 rfl) f12_172 (by decide) (by decide) (lt552 hn (by decide)) kd_491 rfl (r_491_64 hR) ?_
    refine xr_iload (xd dX12_mark 15 rfl) 4 rfl ?_
    obtain ⟨o13, h⟩ := h
    refine zr_iaload (xd dX12_mark 16 rfl) (lt552 hn (by decide)) kd_545 ln_545 (by decide) o13 ?_
    refine zr_isub (xd dX12_mark 17 rfl) ?_
    obtain ⟨x14, e_x14⟩ : ∃ z_ : Int, z_ = (p3 - (J 545 x1)) := ⟨_, rfl⟩
    replace h := h x14 e_x14
    refine zr_nm e_x14 ?_
    refine xr_istore [(0, .ref 491), (1, .int (oI p1)), (2, .int (oI p2)), (3, .int (oI p3)), (4, .int (oI x1)), (5, .int (oI x14))] (xd dX12_mark 18 rfl) (by decide) rfl ?_
    refine xr_aload_n (xd dX12_mark 19 rfl) 0 rfl ?_
    refine xr_getR (b := 546) 12 65 (xd dX12_mark 20 rfl) f12_175 (by decide) (by decide) (lt552 hn (by decide)) kd_491 rfl (r_491_65 hR) ?_
    refine xr_iload (xd dX12_mark 21 rfl) 4 rfl ?_
    refine xr_iload (xd dX12_mark 22 rfl) 5 rfl ?_
    refine xr_bipush (v := oI 63) (xd dX12_mark 23 rfl) (by decide) ?_
    replace h := h (fun (x15 : Int64) (J16 : zM) (L17 : yM) => xJ (xGm b dC dI cA ts) l mX12_mark 0 0 (zQ0 n R Q) (fun _ _ => False) 0 0 56 [(0, .ref 491), (3, .int (oI p3)), (4, .int (oI x1))] [.long x15, .int (oI x1), .ref 546] al n R (zi J16) (li L17)) (by
      intro x15 J16 L17 h
      show xJ _ _ _ _ _ _ _ _ _ 56 [(0, .ref 491), (3, .int (oI p3)), (4, .int (oI x1))] [.long x15, .int (oI x1), .ref 546] _ _ _ _ _
      obtain ⟨o19, h⟩ := h
      obtain ⟨L20, e_L20⟩ : ∃ z_ : yM, z_ = ys L17 546 x1 x15 := ⟨_, rfl⟩
      replace h := h L20 e_L20
      refine zr_lastore e_L20 (xd dX12_mark 33 rfl) (lt552 hn (by decide)) kd_546 ln_546 (by decide) o19 ?_
      refine xr_aload_n (xd dX12_mark 34 rfl) 0 rfl ?_
      refine xr_getR (b := 545) 12 64 (xd dX12_mark 35 rfl) f12_172 (by decide) (by decide) (lt552 hn (by decide)) kd_491 rfl (r_491_64 hR) ?_
      refine xr_iload (xd dX12_mark 36 rfl) 2 rfl ?_
      refine xr_iload_n (xd dX12_mark 37 rfl) 1 rfl ?_
      obtain ⟨o21, h⟩ := h
      obtain ⟨J22, e_J22⟩ : ∃ z_ : zM, z_ = zs J16 545 x1 p3 := ⟨_, rfl⟩
      replace h := h J22 e_J22
      refine zr_iastore e_J22 (xd dX12_mark 38 rfl) (lt552 hn (by decide)) kd_545 ln_545 (by decide) o21 ?_
      exact h)
    obtain ⟨o23, h⟩ := h
    refine zr_icmp_le 46 (xd dX12_mark 24 rfl) (by decide) o23 (by decide) (fun c24 => ?_) (fun c24 => ?_)
    · replace h := ifn h c24
      refine xr_aload_n (xd dX12_mark 27 rfl) 0 rfl ?_
      refine xr_getR (b := 546) 12 65 (xd dX12_mark 28 rfl) f12_175 (by decide) (by decide) (lt552 hn (by decide)) kd_491 rfl (r_491_65 hR) ?_
      refine xr_iload (xd dX12_mark 29 rfl) 4 rfl ?_
      obtain ⟨o25, h⟩ := h
      refine zr_laload (xd dX12_mark 30 rfl) (lt552 hn (by decide)) kd_546 ln_546 (by decide) o25 ?_
      refine xr_iload (xd dX12_mark 31 rfl) 5 rfl ?_
      refine zr_lshl (xd dX12_mark 32 rfl) ?_
      refine xJ.pick (ls' := [(0, .ref 491), (3, .int (oI p3)), (4, .int (oI x1))]) [0, 3, 4] rfl ?_
      exact h
    · replace h := ifp h c24
      refine xr_lconst (v := 0) (xd dX12_mark 25 rfl) (by decide) ?_
      refine xr_goto 56 (xd dX12_mark 26 rfl) (by decide) ?_
      refine xJ.pick (ls' := [(0, .ref 491), (3, .int (oI p3)), (4, .int (oI x1))]) [0, 3, 4] rfl ?_
      exact h
def w_X12_sealedRecord (p1 : Int) (p2 : Int) (p3 : Int) (p4 : Int) (J : zM) (L : yM) (Q : Int → zM → yM → Prop) : Prop := ∀ K4 : Int → zM → yM → Prop, (∀ (x1 : Int) (J2 : zM) (L3 : yM), (R32 x1 ∧ (if x1 = 0 then ((0 : Int) ≤ ((10 * p1) + 1) ∧ ((10 * p1) + 1) < 20) ∧ ((0 : Int) ≤ ((10 * p1) + 1) ∧ ((10 * p1) + 1) < 20) ∧ ∀ J107 : zM, J107 = zs J2 537 ((10 * p1) + 1) ((J2 537 ((10 * p1) + 1)) + 1) → Q 0 J107 L3 else R32 p4 ∧ (if p4 < 9 then ((0 : Int) ≤ ((10 * p1) + 3) ∧ ((10 * p1) + 3) < 20) ∧ ((0 : Int) ≤ ((10 * p1) + 3) ∧ ((10 * p1) + 3) < 20) ∧ ∀ J104 : zM, J104 = zs J2 537 ((10 * p1) + 3) ((J2 537 ((10 * p1) + 3)) + 1) → Q 0 J104 L3 else ∀ x9 : Int, x9 = (((1024 * p1) + 256) + (64 * (((2 * (p3 - 2)) + 1) - p1))) → ∀ x10 : Int, x10 = (p4 - 8) → zl_z (fun K11 x12 J13 L14 => R32 x12 ∧ (if x12 < 8 then ((0 : Int) ≤ (((p2 + 5) + x10) + x12) ∧ (((p2 + 5) + x10) + x12) < 520) ∧ ((0 : Int) ≤ x12 ∧ x12 < 32) ∧ ∀ J101 : zM, J101 = zs J13 500 x12 (J13 551 (((p2 + 5) + x10) + x12)) → K11 (x12 + 1) J101 L14 else w_X12_mask x9 J13 L14 (fun J17 L18 => ((0 : Int) ≤ (p2 + 1) ∧ (p2 + 1) < 520) ∧ ((0 : Int) ≤ (p2 + 2) ∧ (p2 + 2) < 520) ∧ ∀ x21 : Int, x21 = ((256 * (zxor (J17 551 (p2 + 1)) (J17 500 0))) + (zxor (J17 551 (p2 + 2)) (J17 500 1))) → w_X12_isStale p1 p3 x21 J17 L18 (fun r24 J22 L23 => R32 r24 ∧ (if r24 = 0 then zl_z (fun K27 x28 J29 L30 => R32 x28 ∧ R32 x10 ∧ (if x28 < x10 then ((0 : Int) ≤ ((p2 + 5) + x28) ∧ ((p2 + 5) + x28) < 520) ∧ ((0 : Int) ≤ x28 ∧ x28 < 520) ∧ ∀ J95 : zM, J95 = zs J29 516 x28 (J29 551 ((p2 + 5) + x28)) → K27 (x28 + 1) J95 L30 else w_X12_tag x9 p3 x21 x10 J29 L30 (fun J34 L35 => zl_zz (fun K36 x37 x38 J39 L40 => R32 x38 ∧ (if x38 < 8 then ((0 : Int) ≤ x38 ∧ x38 < 32) ∧ ((0 : Int) ≤ (((p2 + 5) + x10) + x38) ∧ (((p2 + 5) + x10) + x38) < 520) ∧ ∀ K88 : Int → zM → yM → Prop, (∀ (x85 : Int) (J86 : zM) (L87 : yM), (∀ x89 : Int, x89 = (zand x37 x85) → K36 x89 (x38 + 1) J86 L87) → K88 x85 J86 L87) → R32 (J39 500 x38) ∧ R32 (J39 551 (((p2 + 5) + x10) + x38)) ∧ (if (J39 500 x38) = (J39 551 (((p2 + 5) + x10) + x38)) then K88 1 J39 L40 else K88 0 J39 L40) else R32 x37 ∧ (if x37 = 0 then ((0 : Int) ≤ ((10 * p1) + 3) ∧ ((10 * p1) + 3) < 20) ∧ ((0 : Int) ≤ ((10 * p1) + 3) ∧ ((10 * p1) + 3) < 20) ∧ ∀ J82 : zM, J82 = zs J39 537 ((10 * p1) + 3) ((J39 537 ((10 * p1) + 3)) + 1) → Q 0 J82 L40 else w_X12_streamed x9 p3 x21 x10 J39 L40 (fun J45 L46 => ((0 : Int) ≤ (x10 - 1) ∧ (x10 - 1) < 520) ∧ ∀ x48 : Int, x48 = (J45 516 (x10 - 1)) → ∀ K51 : zM → yM → Prop, (∀ (J49 : zM) (L50 : yM), (∀ J52 : zM, J52 = zs J49 491 70 (x10 - 1) → zl_z (fun K53 x54 J55 L56 => R32 x54 ∧ R32 (J55 491 70) ∧ (if x54 < (J55 491 70) then ((0 : Int) ≤ x54 ∧ x54 < 520) ∧ ((0 : Int) ≤ x54 ∧ x54 < 560) ∧ ∀ J69 : zM, J69 = zs J55 550 x54 (J55 516 x54) → K53 (x54 + 1) J69 L56 else w_X12_mark p1 p3 x21 J55 L56 (fun J60 L61 => ((0 : Int) ≤ ((10 * p1) + 4) ∧ ((10 * p1) + 4) < 20) ∧ ((0 : Int) ≤ ((10 * p1) + 4) ∧ ((10 * p1) + 4) < 20) ∧ ∀ J64 : zM, J64 = zs J60 537 ((10 * p1) + 4) ((J60 537 ((10 * p1) + 4)) + 1) → w_X12_inRecord p1 p3 x48 x21 J64 L61 (fun J65 L66 => Q 1 J65 L66)))) 0 J52 L50) → K51 J49 L50) → R32 x48 ∧ (if x48 = 23 then w_X12_isOpen p1 J45 L46 (fun r74 J72 L73 => R32 r74 ∧ (if r74 = 0 then ((0 : Int) ≤ ((10 * p1) + 1) ∧ ((10 * p1) + 1) < 20) ∧ ((0 : Int) ≤ ((10 * p1) + 1) ∧ ((10 * p1) + 1) < 20) ∧ ∀ J79 : zM, J79 = zs J72 537 ((10 * p1) + 1) ((J72 537 ((10 * p1) + 1)) + 1) → Q 0 J79 L73 else K51 J72 L73)) else K51 J45 L46))))) 1 0 J34 L35))) 0 J22 L23 else ((0 : Int) ≤ ((10 * p1) + 2) ∧ ((10 * p1) + 2) < 20) ∧ ((0 : Int) ≤ ((10 * p1) + 2) ∧ ((10 * p1) + 2) < 20) ∧ ∀ J98 : zM, J98 = zs J22 537 ((10 * p1) + 2) ((J22 537 ((10 * p1) + 2)) + 1) → Q 0 J98 L23))))) 0 J2 L3))) → K4 x1 J2 L3) → R32 p3 ∧ (if p3 = 2 then ((0 : Int) ≤ p1 ∧ p1 < 2) ∧ K4 (J 506 p1) J L else ((0 : Int) ≤ p1 ∧ p1 < 2) ∧ K4 (J 507 p1) J L)
set_option maxHeartbeats 4000000 in
set_option maxRecDepth 100000 in
theorem v_X12_sealedRecord {b : Nat} {dC : Nat → ClassId} {dI : Nat → Nat → Nat} {cA : Nat → ClassId} {ts : Nat → Nat} {l : Launch} {n : Nat} {R : Nat → Nat → Option Nat} {al : Bool} (hn : 552 ≤ n) (hR : xRk R) {p1 : Int} {p2 : Int} {p3 : Int} {p4 : Int}  {J : zM} {L : yM} {Q : Int → zM → yM → Prop} (h : w_X12_sealedRecord p1 p2 p3 p4 J L Q) : xCn (xGm b dC dI cA ts) l mX12_sealedRecord [.ref 491, .int (oI p1), .int (oI p2), .int (oI p3), .int (oI p4)] al (n, R, zi J, li L) 0 0 (zQ1 n R Q) (fun _ _ => False) := by
  refine xCn.ofJ (by decide) (Nat.le_of_ble_eq_true rfl) ?_
  show xJ _ _ _ _ _ _ _ _ _ 0 [(0, .ref 491), (1, .int (oI p1)), (2, .int (oI p2)), (3, .int (oI p3)), (4, .int (oI p4))] [] _ _ _ _ _
  unfold w_X12_sealedRecord at h
  refine xr_iload_n (xd dX12_sealedRecord 0 rfl) 3 rfl ?_
  refine xr_iconst (v := oI 2) (xd dX12_sealedRecord 1 rfl) (by decide) ?_
  replace h := h (fun (x1 : Int) (J2 : zM) (L3 : yM) => xJ (xGm b dC dI cA ts) l mX12_sealedRecord 0 0 (zQ1 n R Q) (fun _ _ => False) 0 0 20 [(0, .ref 491), (1, .int (oI p1)), (2, .int (oI p2)), (3, .int (oI p3)), (4, .int (oI p4))] [.int (oI x1)] al n R (zi J2) (li L3)) (by
    intro x1 J2 L3 h
    show xJ _ _ _ _ _ _ _ _ _ 20 [(0, .ref 491), (1, .int (oI p1)), (2, .int (oI p2)), (3, .int (oI p3)), (4, .int (oI p4))] [.int (oI x1)] _ _ _ _ _
    refine xr_istore [(0, .ref 491), (1, .int (oI p1)), (2, .int (oI p2)), (3, .int (oI p3)), (4, .int (oI p4)), (5, .int (oI x1))] (xd dX12_sealedRecord 12 rfl) (by decide) rfl ?_
    refine xr_iload (xd dX12_sealedRecord 13 rfl) 5 rfl ?_
    obtain ⟨o5, h⟩ := h
    refine zr_if_ne 44 (xd dX12_sealedRecord 14 rfl) (by decide) o5 (fun c6 => ?_) (fun c6 => ?_)
    · replace h := ifn h c6
      refine xr_iload (xd dX12_sealedRecord 29 rfl) 4 rfl ?_
      refine xr_bipush (v := oI 9) (xd dX12_sealedRecord 30 rfl) (by decide) ?_
      obtain ⟨o7, h⟩ := h
      refine zr_icmp_ge 68 (xd dX12_sealedRecord 31 rfl) (by decide) o7 (by decide) (fun c8 => ?_) (fun c8 => ?_)
      · replace h := ifn h c8
        refine xr_sipush (v := oI 1024) (xd dX12_sealedRecord 46 rfl) (by decide) ?_
        refine xr_iload_n (xd dX12_sealedRecord 47 rfl) 1 rfl ?_
        refine zr_imul (xd dX12_sealedRecord 48 rfl) ?_
        refine xr_sipush (v := oI 256) (xd dX12_sealedRecord 49 rfl) (by decide) ?_
        refine zr_iadd (xd dX12_sealedRecord 50 rfl) ?_
        refine xr_bipush (v := oI 64) (xd dX12_sealedRecord 51 rfl) (by decide) ?_
        refine xr_iconst (v := oI 2) (xd dX12_sealedRecord 52 rfl) (by decide) ?_
        refine xr_iload_n (xd dX12_sealedRecord 53 rfl) 3 rfl ?_
        refine xr_iconst (v := oI 2) (xd dX12_sealedRecord 54 rfl) (by decide) ?_
        refine zr_isub (xd dX12_sealedRecord 55 rfl) ?_
        refine zr_imul (xd dX12_sealedRecord 56 rfl) ?_
        refine xr_iconst (v := oI 1) (xd dX12_sealedRecord 57 rfl) (by decide) ?_
        refine zr_iadd (xd dX12_sealedRecord 58 rfl) ?_
        refine xr_iload_n (xd dX12_sealedRecord 59 rfl) 1 rfl ?_
        refine zr_isub (xd dX12_sealedRecord 60 rfl) ?_
        refine zr_imul (xd dX12_sealedRecord 61 rfl) ?_
        refine zr_iadd (xd dX12_sealedRecord 62 rfl) ?_
        obtain ⟨x9, e_x9⟩ : ∃ z_ : Int, z_ = (((1024 * p1) + 256) + (64 * (((2 * (p3 - 2)) + 1) - p1))) := ⟨_, rfl⟩
        replace h := h x9 e_x9
        refine zr_nm e_x9 ?_
        refine xr_istore [(0, .ref 491), (1, .int (oI p1)), (2, .int (oI p2)), (3, .int (oI p3)), (4, .int (oI p4)), (5, .int (oI x1)), (6, .int (oI x9))] (xd dX12_sealedRecord 63 rfl) (by decide) rfl ?_
        refine xr_iload (xd dX12_sealedRecord 64 rfl) 4 rfl ?_
        refine xr_bipush (v := oI 8) (xd dX12_sealedRecord 65 rfl) (by decide) ?_
        refine zr_isub (xd dX12_sealedRecord 66 rfl) ?_
        obtain ⟨x10, e_x10⟩ : ∃ z_ : Int, z_ = (p4 - 8) := ⟨_, rfl⟩
        replace h := h x10 e_x10
        refine zr_nm e_x10 ?_
        refine xr_istore [(0, .ref 491), (1, .int (oI p1)), (2, .int (oI p2)), (3, .int (oI p3)), (4, .int (oI p4)), (5, .int (oI x1)), (6, .int (oI x9)), (7, .int (oI x10))] (xd dX12_sealedRecord 67 rfl) (by decide) rfl ?_
        refine xr_iconst (v := oI 0) (xd dX12_sealedRecord 68 rfl) (by decide) ?_
        refine xr_istore [(0, .ref 491), (1, .int (oI p1)), (2, .int (oI p2)), (3, .int (oI p3)), (4, .int (oI p4)), (5, .int (oI x1)), (6, .int (oI x9)), (7, .int (oI x10)), (8, .int (oI 0))] (xd dX12_sealedRecord 69 rfl) (by decide) rfl ?_
        refine xJ.pick (ls' := [(0, .ref 491), (1, .int (oI p1)), (2, .int (oI p2)), (3, .int (oI p3)), (6, .int (oI x9)), (7, .int (oI x10)), (8, .int (oI 0))]) [0, 1, 2, 3, 6, 7, 8] rfl ?_
        refine h (fun x12 J13 L14 => xJ (xGm b dC dI cA ts) l mX12_sealedRecord 0 0 (zQ1 n R Q) (fun _ _ => False) 0 0 102 [(0, .ref 491), (1, .int (oI p1)), (2, .int (oI p2)), (3, .int (oI p3)), (6, .int (oI x9)), (7, .int (oI x10)), (8, .int (oI x12))] [] al n R (zi J13) (li L14)) ?_
        intro x12 J13 L14 h
        show xJ _ _ _ _ _ _ _ _ _ 102 [(0, .ref 491), (1, .int (oI p1)), (2, .int (oI p2)), (3, .int (oI p3)), (6, .int (oI x9)), (7, .int (oI x10)), (8, .int (oI x12))] [] _ _ _ _ _
        refine xr_iload (xd dX12_sealedRecord 70 rfl) 6 rfl ?_
        refine xr_bipush (v := oI 8) (xd dX12_sealedRecord 71 rfl) (by decide) ?_
        obtain ⟨o15, h⟩ := h
        refine zr_icmp_ge 136 (xd dX12_sealedRecord 72 rfl) (by decide) o15 (by decide) (fun c16 => ?_) (fun c16 => ?_)
        · replace h := ifn h c16
          refine xr_aload_n (xd dX12_sealedRecord 89 rfl) 0 rfl ?_
          refine xr_iload (xd dX12_sealedRecord 90 rfl) 4 rfl ?_
          refine xr_callV mX12_mask 1 [.int (oI x9)] (xd dX12_sealedRecord 91 rfl) l12_340 kX12_mask rfl (lt552 hn (by decide)) kd_491 (by decide) rfl (by decide) (Nat.le_of_ble_eq_true rfl) (v_X12_mask hn hR  h) (by decide) (by decide) (fun r_ M_ h_ => ?_) (fun _ _ h_ => h_.elim)
          obtain ⟨J17, L18, rfl, rfl, h⟩ := h_
          show xJ _ _ _ _ _ _ _ _ _ 142 [(0, .ref 491), (1, .int (oI p1)), (2, .int (oI p2)), (3, .int (oI p3)), (6, .int (oI x9)), (7, .int (oI x10)), (8, .int (oI x12))] [] _ _ _ (zi J17) (li L18)
          refine xr_sipush (v := oI 256) (xd dX12_sealedRecord 92 rfl) (by decide) ?_
          refine xr_aload_n (xd dX12_sealedRecord 93 rfl) 0 rfl ?_
          refine xr_getR (b := 551) 12 71 (xd dX12_sealedRecord 94 rfl) f12_190 (by decide) (by decide) (lt552 hn (by decide)) kd_491 rfl (r_491_71 hR) ?_
          refine xr_iload_n (xd dX12_sealedRecord 95 rfl) 2 rfl ?_
          refine xr_iconst (v := oI 1) (xd dX12_sealedRecord 96 rfl) (by decide) ?_
          refine zr_iadd (xd dX12_sealedRecord 97 rfl) ?_
          obtain ⟨o19, h⟩ := h
          refine zr_iaload (xd dX12_sealedRecord 98 rfl) (lt552 hn (by decide)) kd_551 ln_551 (by decide) o19 ?_
          refine xr_aload_n (xd dX12_sealedRecord 99 rfl) 0 rfl ?_
          refine xr_getR (b := 500) 12 16 (xd dX12_sealedRecord 100 rfl) f12_34 (by decide) (by decide) (lt552 hn (by decide)) kd_491 rfl (r_491_16 hR) ?_
          refine xr_iconst (v := oI 0) (xd dX12_sealedRecord 101 rfl) (by decide) ?_
          refine zr_iaload (xd dX12_sealedRecord 102 rfl) (lt552 hn (by decide)) kd_500 ln_500 (by decide) ⟨by decide, by decide⟩ ?_
          refine zr_ixor (xd dX12_sealedRecord 103 rfl) ?_
          refine zr_imul (xd dX12_sealedRecord 104 rfl) ?_
          refine xr_aload_n (xd dX12_sealedRecord 105 rfl) 0 rfl ?_
          refine xr_getR (b := 551) 12 71 (xd dX12_sealedRecord 106 rfl) f12_190 (by decide) (by decide) (lt552 hn (by decide)) kd_491 rfl (r_491_71 hR) ?_
          refine xr_iload_n (xd dX12_sealedRecord 107 rfl) 2 rfl ?_
          refine xr_iconst (v := oI 2) (xd dX12_sealedRecord 108 rfl) (by decide) ?_
          refine zr_iadd (xd dX12_sealedRecord 109 rfl) ?_
          obtain ⟨o20, h⟩ := h
          refine zr_iaload (xd dX12_sealedRecord 110 rfl) (lt552 hn (by decide)) kd_551 ln_551 (by decide) o20 ?_
          refine xr_aload_n (xd dX12_sealedRecord 111 rfl) 0 rfl ?_
          refine xr_getR (b := 500) 12 16 (xd dX12_sealedRecord 112 rfl) f12_34 (by decide) (by decide) (lt552 hn (by decide)) kd_491 rfl (r_491_16 hR) ?_
          refine xr_iconst (v := oI 1) (xd dX12_sealedRecord 113 rfl) (by decide) ?_
          refine zr_iaload (xd dX12_sealedRecord 114 rfl) (lt552 hn (by decide)) kd_500 ln_500 (by decide) ⟨by decide, by decide⟩ ?_
          refine zr_ixor (xd dX12_sealedRecord 115 rfl) ?_
          refine zr_iadd (xd dX12_sealedRecord 116 rfl) ?_
          obtain ⟨x21, e_x21⟩ : ∃ z_ : Int, z_ = ((256 * (zxor (J17 551 (p2 + 1)) (J17 500 0))) + (zxor (J17 551 (p2 + 2)) (J17 500 1))) := ⟨_, rfl⟩
          replace h := h x21 e_x21
          refine zr_nm e_x21 ?_
          refine xr_istore [(0, .ref 491), (1, .int (oI p1)), (2, .int (oI p2)), (3, .int (oI p3)), (6, .int (oI x9)), (7, .int (oI x10)), (8, .int (oI x21))] (xd dX12_sealedRecord 117 rfl) (by decide) rfl ?_
          refine xr_aload_n (xd dX12_sealedRecord 118 rfl) 0 rfl ?_
          refine xr_iload_n (xd dX12_sealedRecord 119 rfl) 1 rfl ?_
          refine xr_iload_n (xd dX12_sealedRecord 120 rfl) 3 rfl ?_
          refine xr_iload (xd dX12_sealedRecord 121 rfl) 6 rfl ?_
          refine xr_callV mX12_isStale 3 [.int (oI p1), .int (oI p3), .int (oI x21)] (xd dX12_sealedRecord 122 rfl) l12_531 kX12_isStale rfl (lt552 hn (by decide)) kd_491 (by decide) rfl (by decide) (Nat.le_of_ble_eq_true rfl) (v_X12_isStale hn hR  h) (by decide) (by decide) (fun r_ M_ h_ => ?_) (fun _ _ h_ => h_.elim)
          obtain ⟨r24, J22, L23, rfl, rfl, h⟩ := h_
          show xJ _ _ _ _ _ _ _ _ _ 187 [(0, .ref 491), (1, .int (oI p1)), (2, .int (oI p2)), (3, .int (oI p3)), (6, .int (oI x9)), (7, .int (oI x10)), (8, .int (oI x21))] [.int (oI r24)] _ _ _ (zi J22) (li L23)
          obtain ⟨o25, h⟩ := h
          refine zr_if_eq 207 (xd dX12_sealedRecord 123 rfl) (by decide) o25 (fun c26 => ?_) (fun c26 => ?_)
          · replace h := ifp h c26
            refine xr_iconst (v := oI 0) (xd dX12_sealedRecord 138 rfl) (by decide) ?_
            refine xr_istore [(0, .ref 491), (1, .int (oI p1)), (2, .int (oI p2)), (3, .int (oI p3)), (6, .int (oI x9)), (7, .int (oI x10)), (8, .int (oI x21)), (9, .int (oI 0))] (xd dX12_sealedRecord 139 rfl) (by decide) rfl ?_
            refine h (fun x28 J29 L30 => xJ (xGm b dC dI cA ts) l mX12_sealedRecord 0 0 (zQ1 n R Q) (fun _ _ => False) 0 0 210 [(0, .ref 491), (1, .int (oI p1)), (2, .int (oI p2)), (3, .int (oI p3)), (6, .int (oI x9)), (7, .int (oI x10)), (8, .int (oI x21)), (9, .int (oI x28))] [] al n R (zi J29) (li L30)) ?_
            intro x28 J29 L30 h
            show xJ _ _ _ _ _ _ _ _ _ 210 [(0, .ref 491), (1, .int (oI p1)), (2, .int (oI p2)), (3, .int (oI p3)), (6, .int (oI x9)), (7, .int (oI x10)), (8, .int (oI x21)), (9, .int (oI x28))] [] _ _ _ _ _
            refine xr_iload (xd dX12_sealedRecord 140 rfl) 7 rfl ?_
            refine xr_iload (xd dX12_sealedRecord 141 rfl) 5 rfl ?_
            obtain ⟨o31, h⟩ := h
            obtain ⟨o32, h⟩ := h
            refine zr_icmp_ge 241 (xd dX12_sealedRecord 142 rfl) (by decide) o31 o32 (fun c33 => ?_) (fun c33 => ?_)
            · replace h := ifn h c33
              refine xr_aload_n (xd dX12_sealedRecord 157 rfl) 0 rfl ?_
              refine xr_iload (xd dX12_sealedRecord 158 rfl) 4 rfl ?_
              refine xr_iload_n (xd dX12_sealedRecord 159 rfl) 3 rfl ?_
              refine xr_iload (xd dX12_sealedRecord 160 rfl) 6 rfl ?_
              refine xr_iload (xd dX12_sealedRecord 161 rfl) 5 rfl ?_
              refine xr_callV mX12_tag 4 [.int (oI x9), .int (oI p3), .int (oI x21), .int (oI x10)] (xd dX12_sealedRecord 162 rfl) l12_337 kX12_tag rfl (lt552 hn (by decide)) kd_491 (by decide) rfl (by decide) (Nat.le_of_ble_eq_true rfl) (v_X12_tag hn hR  h) (by decide) (by decide) (fun r_ M_ h_ => ?_) (fun _ _ h_ => h_.elim)
              obtain ⟨J34, L35, rfl, rfl, h⟩ := h_
              show xJ _ _ _ _ _ _ _ _ _ 252 [(0, .ref 491), (1, .int (oI p1)), (2, .int (oI p2)), (3, .int (oI p3)), (6, .int (oI x9)), (7, .int (oI x10)), (8, .int (oI x21)), (9, .int (oI x28))] [] _ _ _ (zi J34) (li L35)
              refine xr_iconst (v := oI 1) (xd dX12_sealedRecord 163 rfl) (by decide) ?_
              refine xr_istore [(0, .ref 491), (1, .int (oI p1)), (2, .int (oI p2)), (3, .int (oI p3)), (6, .int (oI x9)), (7, .int (oI x10)), (8, .int (oI x21)), (9, .int (oI 1))] (xd dX12_sealedRecord 164 rfl) (by decide) rfl ?_
              refine xr_iconst (v := oI 0) (xd dX12_sealedRecord 165 rfl) (by decide) ?_
              refine xr_istore [(0, .ref 491), (1, .int (oI p1)), (2, .int (oI p2)), (3, .int (oI p3)), (6, .int (oI x9)), (7, .int (oI x10)), (8, .int (oI x21)), (9, .int (oI 1)), (10, .int (oI 0))] (xd dX12_sealedRecord 166 rfl) (by decide) rfl ?_
              refine h (fun x37 x38 J39 L40 => xJ (xGm b dC dI cA ts) l mX12_sealedRecord 0 0 (zQ1 n R Q) (fun _ _ => False) 0 0 258 [(0, .ref 491), (1, .int (oI p1)), (2, .int (oI p2)), (3, .int (oI p3)), (6, .int (oI x9)), (7, .int (oI x10)), (8, .int (oI x21)), (9, .int (oI x37)), (10, .int (oI x38))] [] al n R (zi J39) (li L40)) ?_
              intro x37 x38 J39 L40 h
              show xJ _ _ _ _ _ _ _ _ _ 258 [(0, .ref 491), (1, .int (oI p1)), (2, .int (oI p2)), (3, .int (oI p3)), (6, .int (oI x9)), (7, .int (oI x10)), (8, .int (oI x21)), (9, .int (oI x37)), (10, .int (oI x38))] [] _ _ _ _ _
              refine xr_iload (xd dX12_sealedRecord 167 rfl) 8 rfl ?_
              refine xr_bipush (v := oI 8) (xd dX12_sealedRecord 168 rfl) (by decide) ?_
              obtain ⟨o41, h⟩ := h
              refine zr_icmp_ge 305 (xd dX12_sealedRecord 169 rfl) (by decide) o41 (by decide) (fun c42 => ?_) (fun c42 => ?_)
              · replace h := ifn h c42
                refine xr_iload (xd dX12_sealedRecord 193 rfl) 7 rfl ?_
                obtain ⟨o43, h⟩ := h
                refine zr_if_ne 327 (xd dX12_sealedRecord 194 rfl) (by decide) o43 (fun c44 => ?_) (fun c44 => ?_)
                · replace h := ifn h c44
                  refine xr_aload_n (xd dX12_sealedRecord 209 rfl) 0 rfl ?_
                  refine xr_iload (xd dX12_sealedRecord 210 rfl) 4 rfl ?_
                  refine xr_iload_n (xd dX12_sealedRecord 211 rfl) 3 rfl ?_
                  refine xr_iload (xd dX12_sealedRecord 212 rfl) 6 rfl ?_
                  refine xr_iload (xd dX12_sealedRecord 213 rfl) 5 rfl ?_
                  refine xr_callV mX12_streamed 4 [.int (oI x9), .int (oI p3), .int (oI x21), .int (oI x10)] (xd dX12_sealedRecord 214 rfl) l12_334 kX12_streamed rfl (lt552 hn (by decide)) kd_491 (by decide) rfl (by decide) (Nat.le_of_ble_eq_true rfl) (v_X12_streamed hn hR  h) (by decide) (by decide) (fun r_ M_ h_ => ?_) (fun _ _ h_ => h_.elim)
                  obtain ⟨J45, L46, rfl, rfl, h⟩ := h_
                  show xJ _ _ _ _ _ _ _ _ _ 338 [(0, .ref 491), (1, .int (oI p1)), (2, .int (oI p2)), (3, .int (oI p3)), (6, .int (oI x9)), (7, .int (oI x10)), (8, .int (oI x21)), (9, .int (oI x37)), (10, .int (oI x38))] [] _ _ _ (zi J45) (li L46)
                  refine xr_aload_n (xd dX12_sealedRecord 215 rfl) 0 rfl ?_
                  refine xr_getR (b := 516) 12 34 (xd dX12_sealedRecord 216 rfl) f12_85 (by decide) (by decide) (lt552 hn (by decide)) kd_491 rfl (r_491_34 hR) ?_
                  refine xr_iload (xd dX12_sealedRecord 217 rfl) 5 rfl ?_
                  refine xr_iconst (v := oI 1) (xd dX12_sealedRecord 218 rfl) (by decide) ?_
                  refine zr_isub (xd dX12_sealedRecord 219 rfl) ?_
                  obtain ⟨o47, h⟩ := h
                  refine zr_iaload (xd dX12_sealedRecord 220 rfl) (lt552 hn (by decide)) kd_516 ln_516 (by decide) o47 ?_
                  obtain ⟨x48, e_x48⟩ : ∃ z_ : Int, z_ = (J45 516 (x10 - 1)) := ⟨_, rfl⟩
                  replace h := h x48 e_x48
                  refine zr_nm e_x48 ?_
                  refine xr_istore [(0, .ref 491), (1, .int (oI p1)), (2, .int (oI p2)), (3, .int (oI p3)), (6, .int (oI x9)), (7, .int (oI x10)), (8, .int (oI x21)), (9, .int (oI x37)), (10, .int (oI x48))] (xd dX12_sealedRecord 221 rfl) (by decide) rfl ?_
                  refine xr_iload (xd dX12_sealedRecord 222 rfl) 8 rfl ?_
                  refine xr_bipush (v := oI 23) (xd dX12_sealedRecord 223 rfl) (by decide) ?_
                  replace h := h (fun (J49 : zM) (L50 : yM) => xJ (xGm b dC dI cA ts) l mX12_sealedRecord 0 0 (zQ1 n R Q) (fun _ _ => False) 0 0 381 [(0, .ref 491), (1, .int (oI p1)), (3, .int (oI p3)), (7, .int (oI x10)), (8, .int (oI x21)), (10, .int (oI x48))] [] al n R (zi J49) (li L50)) (by
                    intro J49 L50 h
                    show xJ _ _ _ _ _ _ _ _ _ 381 [(0, .ref 491), (1, .int (oI p1)), (3, .int (oI p3)), (7, .int (oI x10)), (8, .int (oI x21)), (10, .int (oI x48))] [] _ _ _ _ _
                    refine xr_aload_n (xd dX12_sealedRecord 243 rfl) 0 rfl ?_
                    refine xr_iload (xd dX12_sealedRecord 244 rfl) 3 rfl ?_
                    refine xr_iconst (v := oI 1) (xd dX12_sealedRecord 245 rfl) (by decide) ?_
                    refine zr_isub (xd dX12_sealedRecord 246 rfl) ?_
                    obtain ⟨J52, e_J52⟩ : ∃ z_ : zM, z_ = zs J49 491 70 (x10 - 1) := ⟨_, rfl⟩
                    replace h := h J52 e_J52
                    refine zr_putI 12 70 70 rfl e_J52 (xd dX12_sealedRecord 247 rfl) f12_481 (by decide) (by decide) (lt552 hn (by decide)) kd_491 (Or.inl rfl) rfl rfl (fun _ => rfl) ?_
                    refine xr_iconst (v := oI 0) (xd dX12_sealedRecord 248 rfl) (by decide) ?_
                    refine xr_istore [(0, .ref 491), (1, .int (oI p1)), (3, .int (oI p3)), (7, .int (oI x10)), (8, .int (oI x21)), (10, .int (oI x48)), (11, .int (oI 0))] (xd dX12_sealedRecord 249 rfl) (by decide) rfl ?_
                    refine xJ.pick (ls' := [(0, .ref 491), (1, .int (oI p1)), (3, .int (oI p3)), (8, .int (oI x21)), (10, .int (oI x48)), (11, .int (oI 0))]) [0, 1, 2, 4, 5, 6] rfl ?_
                    refine h (fun x54 J55 L56 => xJ (xGm b dC dI cA ts) l mX12_sealedRecord 0 0 (zQ1 n R Q) (fun _ _ => False) 0 0 392 [(0, .ref 491), (1, .int (oI p1)), (3, .int (oI p3)), (8, .int (oI x21)), (10, .int (oI x48)), (11, .int (oI x54))] [] al n R (zi J55) (li L56)) ?_
                    intro x54 J55 L56 h
                    show xJ _ _ _ _ _ _ _ _ _ 392 [(0, .ref 491), (1, .int (oI p1)), (3, .int (oI p3)), (8, .int (oI x21)), (10, .int (oI x48)), (11, .int (oI x54))] [] _ _ _ _ _
                    refine xr_iload (xd dX12_sealedRecord 250 rfl) 5 rfl ?_
                    refine xr_aload_n (xd dX12_sealedRecord 251 rfl) 0 rfl ?_
                    refine zr_getI 12 70 70 rfl (xd dX12_sealedRecord 252 rfl) f12_481 (by decide) (by decide) (lt552 hn (by decide)) kd_491 rfl ?_
                    obtain ⟨o57, h⟩ := h
                    obtain ⟨o58, h⟩ := h
                    refine zr_icmp_ge 421 (xd dX12_sealedRecord 253 rfl) (by decide) o57 o58 (fun c59 => ?_) (fun c59 => ?_)
                    · replace h := ifn h c59
                      refine xr_aload_n (xd dX12_sealedRecord 264 rfl) 0 rfl ?_
                      refine xr_iload_n (xd dX12_sealedRecord 265 rfl) 1 rfl ?_
                      refine xr_iload_n (xd dX12_sealedRecord 266 rfl) 2 rfl ?_
                      refine xr_iload (xd dX12_sealedRecord 267 rfl) 3 rfl ?_
                      refine xr_callV mX12_mark 3 [.int (oI p1), .int (oI p3), .int (oI x21)] (xd dX12_sealedRecord 268 rfl) l12_534 kX12_mark rfl (lt552 hn (by decide)) kd_491 (by decide) rfl (by decide) (Nat.le_of_ble_eq_true rfl) (v_X12_mark hn hR  h) (by decide) (by decide) (fun r_ M_ h_ => ?_) (fun _ _ h_ => h_.elim)
                      obtain ⟨J60, L61, rfl, rfl, h⟩ := h_
                      show xJ _ _ _ _ _ _ _ _ _ 429 [(0, .ref 491), (1, .int (oI p1)), (3, .int (oI p3)), (8, .int (oI x21)), (10, .int (oI x48)), (11, .int (oI x54))] [] _ _ _ (zi J60) (li L61)
                      refine xr_aload_n (xd dX12_sealedRecord 269 rfl) 0 rfl ?_
                      refine xr_getR (b := 537) 12 55 (xd dX12_sealedRecord 270 rfl) f12_148 (by decide) (by decide) (lt552 hn (by decide)) kd_491 rfl (r_491_55 hR) ?_
                      refine xr_bipush (v := oI 10) (xd dX12_sealedRecord 271 rfl) (by decide) ?_
                      refine xr_iload_n (xd dX12_sealedRecord 272 rfl) 1 rfl ?_
                      refine zr_imul (xd dX12_sealedRecord 273 rfl) ?_
                      refine xr_iconst (v := oI 4) (xd dX12_sealedRecord 274 rfl) (by decide) ?_
                      refine zr_iadd (xd dX12_sealedRecord 275 rfl) ?_
                      refine xr_dup2 (xd dX12_sealedRecord 276 rfl) rfl rfl ?_
                      obtain ⟨o62, h⟩ := h
                      refine zr_iaload (xd dX12_sealedRecord 277 rfl) (lt552 hn (by decide)) kd_537 ln_537 (by decide) o62 ?_
                      refine xr_iconst (v := oI 1) (xd dX12_sealedRecord 278 rfl) (by decide) ?_
                      refine zr_iadd (xd dX12_sealedRecord 279 rfl) ?_
                      obtain ⟨o63, h⟩ := h
                      obtain ⟨J64, e_J64⟩ : ∃ z_ : zM, z_ = zs J60 537 ((10 * p1) + 4) ((J60 537 ((10 * p1) + 4)) + 1) := ⟨_, rfl⟩
                      replace h := h J64 e_J64
                      refine zr_iastore e_J64 (xd dX12_sealedRecord 280 rfl) (lt552 hn (by decide)) kd_537 ln_537 (by decide) o63 ?_
                      refine xr_aload_n (xd dX12_sealedRecord 281 rfl) 0 rfl ?_
                      refine xr_iload_n (xd dX12_sealedRecord 282 rfl) 1 rfl ?_
                      refine xr_iload_n (xd dX12_sealedRecord 283 rfl) 2 rfl ?_
                      refine xr_iload (xd dX12_sealedRecord 284 rfl) 4 rfl ?_
                      refine xr_iload (xd dX12_sealedRecord 285 rfl) 3 rfl ?_
                      refine xr_callV mX12_inRecord 4 [.int (oI p1), .int (oI p3), .int (oI x48), .int (oI x21)] (xd dX12_sealedRecord 286 rfl) l12_537 kX12_inRecord rfl (lt552 hn (by decide)) kd_491 (by decide) rfl (by decide) (Nat.le_of_ble_eq_true rfl) (v_X12_inRecord hn hR  h) (by decide) (by decide) (fun r_ M_ h_ => ?_) (fun _ _ h_ => h_.elim)
                      obtain ⟨J65, L66, rfl, rfl, h⟩ := h_
                      show xJ _ _ _ _ _ _ _ _ _ 454 [(0, .ref 491), (1, .int (oI p1)), (3, .int (oI p3)), (8, .int (oI x21)), (10, .int (oI x48)), (11, .int (oI x54))] [] _ _ _ (zi J65) (li L66)
                      refine xr_iconst (v := oI 1) (xd dX12_sealedRecord 287 rfl) (by decide) ?_
                      exact xr_zret (xd dX12_sealedRecord 288 rfl) rfl (zret_b (Or.inr rfl)) (by decide) (by decide) (fun _ => rfl) ⟨_, _, _, rfl, rfl, h⟩
                    · replace h := ifp h c59
                      refine xr_aload_n (xd dX12_sealedRecord 254 rfl) 0 rfl ?_
                      refine xr_getR (b := 550) 12 69 (xd dX12_sealedRecord 255 rfl) f12_187 (by decide) (by decide) (lt552 hn (by decide)) kd_491 rfl (r_491_69 hR) ?_
                      refine xr_iload (xd dX12_sealedRecord 256 rfl) 5 rfl ?_
                      refine xr_aload_n (xd dX12_sealedRecord 257 rfl) 0 rfl ?_
                      refine xr_getR (b := 516) 12 34 (xd dX12_sealedRecord 258 rfl) f12_85 (by decide) (by decide) (lt552 hn (by decide)) kd_491 rfl (r_491_34 hR) ?_
                      refine xr_iload (xd dX12_sealedRecord 259 rfl) 5 rfl ?_
                      obtain ⟨o67, h⟩ := h
                      refine zr_iaload (xd dX12_sealedRecord 260 rfl) (lt552 hn (by decide)) kd_516 ln_516 (by decide) o67 ?_
                      obtain ⟨o68, h⟩ := h
                      obtain ⟨J69, e_J69⟩ : ∃ z_ : zM, z_ = zs J55 550 x54 (J55 516 x54) := ⟨_, rfl⟩
                      replace h := h J69 e_J69
                      refine zr_iastore e_J69 (xd dX12_sealedRecord 261 rfl) (lt552 hn (by decide)) kd_550 ln_550 (by decide) o68 ?_
                      refine zr_iinc [(0, .ref 491), (1, .int (oI p1)), (3, .int (oI p3)), (8, .int (oI x21)), (10, .int (oI x48)), (11, .int (oI (x54 + 1)))] (xd dX12_sealedRecord 262 rfl) 5 rfl (by decide) rfl ?_
                      refine xr_goto 392 (xd dX12_sealedRecord 263 rfl) (by decide) ?_
                      exact h)
                  obtain ⟨o70, h⟩ := h
                  refine zr_icmp_ne 381 (xd dX12_sealedRecord 224 rfl) (by decide) o70 (by decide) (fun c71 => ?_) (fun c71 => ?_)
                  · replace h := ifn h c71
                    refine xJ.pick (ls' := [(0, .ref 491), (1, .int (oI p1)), (3, .int (oI p3)), (7, .int (oI x10)), (8, .int (oI x21)), (10, .int (oI x48))]) [0, 1, 3, 5, 6, 8] rfl ?_
                    exact h
                  · replace h := ifp h c71
                    refine xr_aload_n (xd dX12_sealedRecord 225 rfl) 0 rfl ?_
                    refine xr_iload_n (xd dX12_sealedRecord 226 rfl) 1 rfl ?_
                    refine xr_callV mX12_isOpen 1 [.int (oI p1)] (xd dX12_sealedRecord 227 rfl) l12_510 kX12_isOpen rfl (lt552 hn (by decide)) kd_491 (by decide) rfl (by decide) (Nat.le_of_ble_eq_true rfl) (v_X12_isOpen hn hR  h) (by decide) (by decide) (fun r_ M_ h_ => ?_) (fun _ _ h_ => h_.elim)
                    obtain ⟨r74, J72, L73, rfl, rfl, h⟩ := h_
                    show xJ _ _ _ _ _ _ _ _ _ 361 [(0, .ref 491), (1, .int (oI p1)), (2, .int (oI p2)), (3, .int (oI p3)), (6, .int (oI x9)), (7, .int (oI x10)), (8, .int (oI x21)), (9, .int (oI x37)), (10, .int (oI x48))] [.int (oI r74)] _ _ _ (zi J72) (li L73)
                    obtain ⟨o75, h⟩ := h
                    refine zr_if_ne 381 (xd dX12_sealedRecord 228 rfl) (by decide) o75 (fun c76 => ?_) (fun c76 => ?_)
                    · replace h := ifn h c76
                      refine xJ.pick (ls' := [(0, .ref 491), (1, .int (oI p1)), (3, .int (oI p3)), (7, .int (oI x10)), (8, .int (oI x21)), (10, .int (oI x48))]) [0, 1, 3, 5, 6, 8] rfl ?_
                      exact h
                    · replace h := ifp h c76
                      refine xr_aload_n (xd dX12_sealedRecord 229 rfl) 0 rfl ?_
                      refine xr_getR (b := 537) 12 55 (xd dX12_sealedRecord 230 rfl) f12_148 (by decide) (by decide) (lt552 hn (by decide)) kd_491 rfl (r_491_55 hR) ?_
                      refine xr_bipush (v := oI 10) (xd dX12_sealedRecord 231 rfl) (by decide) ?_
                      refine xr_iload_n (xd dX12_sealedRecord 232 rfl) 1 rfl ?_
                      refine zr_imul (xd dX12_sealedRecord 233 rfl) ?_
                      refine xr_iconst (v := oI 1) (xd dX12_sealedRecord 234 rfl) (by decide) ?_
                      refine zr_iadd (xd dX12_sealedRecord 235 rfl) ?_
                      refine xr_dup2 (xd dX12_sealedRecord 236 rfl) rfl rfl ?_
                      obtain ⟨o77, h⟩ := h
                      refine zr_iaload (xd dX12_sealedRecord 237 rfl) (lt552 hn (by decide)) kd_537 ln_537 (by decide) o77 ?_
                      refine xr_iconst (v := oI 1) (xd dX12_sealedRecord 238 rfl) (by decide) ?_
                      refine zr_iadd (xd dX12_sealedRecord 239 rfl) ?_
                      obtain ⟨o78, h⟩ := h
                      obtain ⟨J79, e_J79⟩ : ∃ z_ : zM, z_ = zs J72 537 ((10 * p1) + 1) ((J72 537 ((10 * p1) + 1)) + 1) := ⟨_, rfl⟩
                      replace h := h J79 e_J79
                      refine zr_iastore e_J79 (xd dX12_sealedRecord 240 rfl) (lt552 hn (by decide)) kd_537 ln_537 (by decide) o78 ?_
                      refine xr_iconst (v := oI 0) (xd dX12_sealedRecord 241 rfl) (by decide) ?_
                      exact xr_zret (xd dX12_sealedRecord 242 rfl) rfl (zret_b (Or.inl rfl)) (by decide) (by decide) (fun _ => rfl) ⟨_, _, _, rfl, rfl, h⟩
                · replace h := ifp h c44
                  refine xr_aload_n (xd dX12_sealedRecord 195 rfl) 0 rfl ?_
                  refine xr_getR (b := 537) 12 55 (xd dX12_sealedRecord 196 rfl) f12_148 (by decide) (by decide) (lt552 hn (by decide)) kd_491 rfl (r_491_55 hR) ?_
                  refine xr_bipush (v := oI 10) (xd dX12_sealedRecord 197 rfl) (by decide) ?_
                  refine xr_iload_n (xd dX12_sealedRecord 198 rfl) 1 rfl ?_
                  refine zr_imul (xd dX12_sealedRecord 199 rfl) ?_
                  refine xr_iconst (v := oI 3) (xd dX12_sealedRecord 200 rfl) (by decide) ?_
                  refine zr_iadd (xd dX12_sealedRecord 201 rfl) ?_
                  refine xr_dup2 (xd dX12_sealedRecord 202 rfl) rfl rfl ?_
                  obtain ⟨o80, h⟩ := h
                  refine zr_iaload (xd dX12_sealedRecord 203 rfl) (lt552 hn (by decide)) kd_537 ln_537 (by decide) o80 ?_
                  refine xr_iconst (v := oI 1) (xd dX12_sealedRecord 204 rfl) (by decide) ?_
                  refine zr_iadd (xd dX12_sealedRecord 205 rfl) ?_
                  obtain ⟨o81, h⟩ := h
                  obtain ⟨J82, e_J82⟩ : ∃ z_ : zM, z_ = zs J39 537 ((10 * p1) + 3) ((J39 537 ((10 * p1) + 3)) + 1) := ⟨_, rfl⟩
                  replace h := h J82 e_J82
                  refine zr_iastore e_J82 (xd dX12_sealedRecord 206 rfl) (lt552 hn (by decide)) kd_537 ln_537 (by decide) o81 ?_
                  refine xr_iconst (v := oI 0) (xd dX12_sealedRecord 207 rfl) (by decide) ?_
                  exact xr_zret (xd dX12_sealedRecord 208 rfl) rfl (zret_b (Or.inl rfl)) (by decide) (by decide) (fun _ => rfl) ⟨_, _, _, rfl, rfl, h⟩
              · replace h := ifp h c42
                refine xr_iload (xd dX12_sealedRecord 170 rfl) 7 rfl ?_
                refine xr_aload_n (xd dX12_sealedRecord 171 rfl) 0 rfl ?_
                refine xr_getR (b := 500) 12 16 (xd dX12_sealedRecord 172 rfl) f12_34 (by decide) (by decide) (lt552 hn (by decide)) kd_491 rfl (r_491_16 hR) ?_
                refine xr_iload (xd dX12_sealedRecord 173 rfl) 8 rfl ?_
                obtain ⟨o83, h⟩ := h
                refine zr_iaload (xd dX12_sealedRecord 174 rfl) (lt552 hn (by decide)) kd_500 ln_500 (by decide) o83 ?_
                refine xr_aload_n (xd dX12_sealedRecord 175 rfl) 0 rfl ?_
                refine xr_getR (b := 551) 12 71 (xd dX12_sealedRecord 176 rfl) f12_190 (by decide) (by decide) (lt552 hn (by decide)) kd_491 rfl (r_491_71 hR) ?_
                refine xr_iload_n (xd dX12_sealedRecord 177 rfl) 2 rfl ?_
                refine xr_iconst (v := oI 5) (xd dX12_sealedRecord 178 rfl) (by decide) ?_
                refine zr_iadd (xd dX12_sealedRecord 179 rfl) ?_
                refine xr_iload (xd dX12_sealedRecord 180 rfl) 5 rfl ?_
                refine zr_iadd (xd dX12_sealedRecord 181 rfl) ?_
                refine xr_iload (xd dX12_sealedRecord 182 rfl) 8 rfl ?_
                refine zr_iadd (xd dX12_sealedRecord 183 rfl) ?_
                obtain ⟨o84, h⟩ := h
                refine zr_iaload (xd dX12_sealedRecord 184 rfl) (lt552 hn (by decide)) kd_551 ln_551 (by decide) o84 ?_
                replace h := h (fun (x85 : Int) (J86 : zM) (L87 : yM) => xJ (xGm b dC dI cA ts) l mX12_sealedRecord 0 0 (zQ1 n R Q) (fun _ _ => False) 0 0 296 [(0, .ref 491), (1, .int (oI p1)), (2, .int (oI p2)), (3, .int (oI p3)), (6, .int (oI x9)), (7, .int (oI x10)), (8, .int (oI x21)), (10, .int (oI x38))] [.int (oI x85), .int (oI x37)] al n R (zi J86) (li L87)) (by
                  intro x85 J86 L87 h
                  show xJ _ _ _ _ _ _ _ _ _ 296 [(0, .ref 491), (1, .int (oI p1)), (2, .int (oI p2)), (3, .int (oI p3)), (6, .int (oI x9)), (7, .int (oI x10)), (8, .int (oI x21)), (10, .int (oI x38))] [.int (oI x85), .int (oI x37)] _ _ _ _ _
                  refine zr_iand (xd dX12_sealedRecord 189 rfl) ?_
                  obtain ⟨x89, e_x89⟩ : ∃ z_ : Int, z_ = (zand x37 x85) := ⟨_, rfl⟩
                  replace h := h x89 e_x89
                  refine zr_nm e_x89 ?_
                  refine xr_istore [(0, .ref 491), (1, .int (oI p1)), (2, .int (oI p2)), (3, .int (oI p3)), (6, .int (oI x9)), (7, .int (oI x10)), (8, .int (oI x21)), (9, .int (oI x89)), (10, .int (oI x38))] (xd dX12_sealedRecord 190 rfl) (by decide) rfl ?_
                  refine zr_iinc [(0, .ref 491), (1, .int (oI p1)), (2, .int (oI p2)), (3, .int (oI p3)), (6, .int (oI x9)), (7, .int (oI x10)), (8, .int (oI x21)), (9, .int (oI x89)), (10, .int (oI (x38 + 1)))] (xd dX12_sealedRecord 191 rfl) 8 rfl (by decide) rfl ?_
                  refine xr_goto 258 (xd dX12_sealedRecord 192 rfl) (by decide) ?_
                  exact h)
                obtain ⟨o90, h⟩ := h
                obtain ⟨o91, h⟩ := h
                refine zr_icmp_ne 295 (xd dX12_sealedRecord 185 rfl) (by decide) o90 o91 (fun c92 => ?_) (fun c92 => ?_)
                · replace h := ifn h c92
                  refine xr_iconst (v := oI 0) (xd dX12_sealedRecord 188 rfl) (by decide) ?_
                  refine xJ.pick (ls' := [(0, .ref 491), (1, .int (oI p1)), (2, .int (oI p2)), (3, .int (oI p3)), (6, .int (oI x9)), (7, .int (oI x10)), (8, .int (oI x21)), (10, .int (oI x38))]) [0, 1, 2, 3, 4, 5, 6, 8] rfl ?_
                  exact h
                · replace h := ifp h c92
                  refine xr_iconst (v := oI 1) (xd dX12_sealedRecord 186 rfl) (by decide) ?_
                  refine xr_goto 296 (xd dX12_sealedRecord 187 rfl) (by decide) ?_
                  refine xJ.pick (ls' := [(0, .ref 491), (1, .int (oI p1)), (2, .int (oI p2)), (3, .int (oI p3)), (6, .int (oI x9)), (7, .int (oI x10)), (8, .int (oI x21)), (10, .int (oI x38))]) [0, 1, 2, 3, 4, 5, 6, 8] rfl ?_
                  exact h
            · replace h := ifp h c33
              refine xr_aload_n (xd dX12_sealedRecord 143 rfl) 0 rfl ?_
              refine xr_getR (b := 516) 12 34 (xd dX12_sealedRecord 144 rfl) f12_85 (by decide) (by decide) (lt552 hn (by decide)) kd_491 rfl (r_491_34 hR) ?_
              refine xr_iload (xd dX12_sealedRecord 145 rfl) 7 rfl ?_
              refine xr_aload_n (xd dX12_sealedRecord 146 rfl) 0 rfl ?_
              refine xr_getR (b := 551) 12 71 (xd dX12_sealedRecord 147 rfl) f12_190 (by decide) (by decide) (lt552 hn (by decide)) kd_491 rfl (r_491_71 hR) ?_
              refine xr_iload_n (xd dX12_sealedRecord 148 rfl) 2 rfl ?_
              refine xr_iconst (v := oI 5) (xd dX12_sealedRecord 149 rfl) (by decide) ?_
              refine zr_iadd (xd dX12_sealedRecord 150 rfl) ?_
              refine xr_iload (xd dX12_sealedRecord 151 rfl) 7 rfl ?_
              refine zr_iadd (xd dX12_sealedRecord 152 rfl) ?_
              obtain ⟨o93, h⟩ := h
              refine zr_iaload (xd dX12_sealedRecord 153 rfl) (lt552 hn (by decide)) kd_551 ln_551 (by decide) o93 ?_
              obtain ⟨o94, h⟩ := h
              obtain ⟨J95, e_J95⟩ : ∃ z_ : zM, z_ = zs J29 516 x28 (J29 551 ((p2 + 5) + x28)) := ⟨_, rfl⟩
              replace h := h J95 e_J95
              refine zr_iastore e_J95 (xd dX12_sealedRecord 154 rfl) (lt552 hn (by decide)) kd_516 ln_516 (by decide) o94 ?_
              refine zr_iinc [(0, .ref 491), (1, .int (oI p1)), (2, .int (oI p2)), (3, .int (oI p3)), (6, .int (oI x9)), (7, .int (oI x10)), (8, .int (oI x21)), (9, .int (oI (x28 + 1)))] (xd dX12_sealedRecord 155 rfl) 7 rfl (by decide) rfl ?_
              refine xr_goto 210 (xd dX12_sealedRecord 156 rfl) (by decide) ?_
              exact h
          · replace h := ifn h c26
            refine xr_aload_n (xd dX12_sealedRecord 124 rfl) 0 rfl ?_
            refine xr_getR (b := 537) 12 55 (xd dX12_sealedRecord 125 rfl) f12_148 (by decide) (by decide) (lt552 hn (by decide)) kd_491 rfl (r_491_55 hR) ?_
            refine xr_bipush (v := oI 10) (xd dX12_sealedRecord 126 rfl) (by decide) ?_
            refine xr_iload_n (xd dX12_sealedRecord 127 rfl) 1 rfl ?_
            refine zr_imul (xd dX12_sealedRecord 128 rfl) ?_
            refine xr_iconst (v := oI 2) (xd dX12_sealedRecord 129 rfl) (by decide) ?_
            refine zr_iadd (xd dX12_sealedRecord 130 rfl) ?_
            refine xr_dup2 (xd dX12_sealedRecord 131 rfl) rfl rfl ?_
            obtain ⟨o96, h⟩ := h
            refine zr_iaload (xd dX12_sealedRecord 132 rfl) (lt552 hn (by decide)) kd_537 ln_537 (by decide) o96 ?_
            refine xr_iconst (v := oI 1) (xd dX12_sealedRecord 133 rfl) (by decide) ?_
            refine zr_iadd (xd dX12_sealedRecord 134 rfl) ?_
            obtain ⟨o97, h⟩ := h
            obtain ⟨J98, e_J98⟩ : ∃ z_ : zM, z_ = zs J22 537 ((10 * p1) + 2) ((J22 537 ((10 * p1) + 2)) + 1) := ⟨_, rfl⟩
            replace h := h J98 e_J98
            refine zr_iastore e_J98 (xd dX12_sealedRecord 135 rfl) (lt552 hn (by decide)) kd_537 ln_537 (by decide) o97 ?_
            refine xr_iconst (v := oI 0) (xd dX12_sealedRecord 136 rfl) (by decide) ?_
            exact xr_zret (xd dX12_sealedRecord 137 rfl) rfl (zret_b (Or.inl rfl)) (by decide) (by decide) (fun _ => rfl) ⟨_, _, _, rfl, rfl, h⟩
        · replace h := ifp h c16
          refine xr_aload_n (xd dX12_sealedRecord 73 rfl) 0 rfl ?_
          refine xr_getR (b := 500) 12 16 (xd dX12_sealedRecord 74 rfl) f12_34 (by decide) (by decide) (lt552 hn (by decide)) kd_491 rfl (r_491_16 hR) ?_
          refine xr_iload (xd dX12_sealedRecord 75 rfl) 6 rfl ?_
          refine xr_aload_n (xd dX12_sealedRecord 76 rfl) 0 rfl ?_
          refine xr_getR (b := 551) 12 71 (xd dX12_sealedRecord 77 rfl) f12_190 (by decide) (by decide) (lt552 hn (by decide)) kd_491 rfl (r_491_71 hR) ?_
          refine xr_iload_n (xd dX12_sealedRecord 78 rfl) 2 rfl ?_
          refine xr_iconst (v := oI 5) (xd dX12_sealedRecord 79 rfl) (by decide) ?_
          refine zr_iadd (xd dX12_sealedRecord 80 rfl) ?_
          refine xr_iload (xd dX12_sealedRecord 81 rfl) 5 rfl ?_
          refine zr_iadd (xd dX12_sealedRecord 82 rfl) ?_
          refine xr_iload (xd dX12_sealedRecord 83 rfl) 6 rfl ?_
          refine zr_iadd (xd dX12_sealedRecord 84 rfl) ?_
          obtain ⟨o99, h⟩ := h
          refine zr_iaload (xd dX12_sealedRecord 85 rfl) (lt552 hn (by decide)) kd_551 ln_551 (by decide) o99 ?_
          obtain ⟨o100, h⟩ := h
          obtain ⟨J101, e_J101⟩ : ∃ z_ : zM, z_ = zs J13 500 x12 (J13 551 (((p2 + 5) + x10) + x12)) := ⟨_, rfl⟩
          replace h := h J101 e_J101
          refine zr_iastore e_J101 (xd dX12_sealedRecord 86 rfl) (lt552 hn (by decide)) kd_500 ln_500 (by decide) o100 ?_
          refine zr_iinc [(0, .ref 491), (1, .int (oI p1)), (2, .int (oI p2)), (3, .int (oI p3)), (6, .int (oI x9)), (7, .int (oI x10)), (8, .int (oI (x12 + 1)))] (xd dX12_sealedRecord 87 rfl) 6 rfl (by decide) rfl ?_
          refine xr_goto 102 (xd dX12_sealedRecord 88 rfl) (by decide) ?_
          exact h
      · replace h := ifp h c8
        refine xr_aload_n (xd dX12_sealedRecord 32 rfl) 0 rfl ?_
        refine xr_getR (b := 537) 12 55 (xd dX12_sealedRecord 33 rfl) f12_148 (by decide) (by decide) (lt552 hn (by decide)) kd_491 rfl (r_491_55 hR) ?_
        refine xr_bipush (v := oI 10) (xd dX12_sealedRecord 34 rfl) (by decide) ?_
        refine xr_iload_n (xd dX12_sealedRecord 35 rfl) 1 rfl ?_
        refine zr_imul (xd dX12_sealedRecord 36 rfl) ?_
        refine xr_iconst (v := oI 3) (xd dX12_sealedRecord 37 rfl) (by decide) ?_
        refine zr_iadd (xd dX12_sealedRecord 38 rfl) ?_
        refine xr_dup2 (xd dX12_sealedRecord 39 rfl) rfl rfl ?_
        obtain ⟨o102, h⟩ := h
        refine zr_iaload (xd dX12_sealedRecord 40 rfl) (lt552 hn (by decide)) kd_537 ln_537 (by decide) o102 ?_
        refine xr_iconst (v := oI 1) (xd dX12_sealedRecord 41 rfl) (by decide) ?_
        refine zr_iadd (xd dX12_sealedRecord 42 rfl) ?_
        obtain ⟨o103, h⟩ := h
        obtain ⟨J104, e_J104⟩ : ∃ z_ : zM, z_ = zs J2 537 ((10 * p1) + 3) ((J2 537 ((10 * p1) + 3)) + 1) := ⟨_, rfl⟩
        replace h := h J104 e_J104
        refine zr_iastore e_J104 (xd dX12_sealedRecord 43 rfl) (lt552 hn (by decide)) kd_537 ln_537 (by decide) o103 ?_
        refine xr_iconst (v := oI 0) (xd dX12_sealedRecord 44 rfl) (by decide) ?_
        exact xr_zret (xd dX12_sealedRecord 45 rfl) rfl (zret_b (Or.inl rfl)) (by decide) (by decide) (fun _ => rfl) ⟨_, _, _, rfl, rfl, h⟩
    · replace h := ifp h c6
      refine xr_aload_n (xd dX12_sealedRecord 15 rfl) 0 rfl ?_
      refine xr_getR (b := 537) 12 55 (xd dX12_sealedRecord 16 rfl) f12_148 (by decide) (by decide) (lt552 hn (by decide)) kd_491 rfl (r_491_55 hR) ?_
      refine xr_bipush (v := oI 10) (xd dX12_sealedRecord 17 rfl) (by decide) ?_
      refine xr_iload_n (xd dX12_sealedRecord 18 rfl) 1 rfl ?_
      refine zr_imul (xd dX12_sealedRecord 19 rfl) ?_
      refine xr_iconst (v := oI 1) (xd dX12_sealedRecord 20 rfl) (by decide) ?_
      refine zr_iadd (xd dX12_sealedRecord 21 rfl) ?_
      refine xr_dup2 (xd dX12_sealedRecord 22 rfl) rfl rfl ?_
      obtain ⟨o105, h⟩ := h
      refine zr_iaload (xd dX12_sealedRecord 23 rfl) (lt552 hn (by decide)) kd_537 ln_537 (by decide) o105 ?_
      refine xr_iconst (v := oI 1) (xd dX12_sealedRecord 24 rfl) (by decide) ?_
      refine zr_iadd (xd dX12_sealedRecord 25 rfl) ?_
      obtain ⟨o106, h⟩ := h
      obtain ⟨J107, e_J107⟩ : ∃ z_ : zM, z_ = zs J2 537 ((10 * p1) + 1) ((J2 537 ((10 * p1) + 1)) + 1) := ⟨_, rfl⟩
      replace h := h J107 e_J107
      refine zr_iastore e_J107 (xd dX12_sealedRecord 26 rfl) (lt552 hn (by decide)) kd_537 ln_537 (by decide) o106 ?_
      refine xr_iconst (v := oI 0) (xd dX12_sealedRecord 27 rfl) (by decide) ?_
      exact xr_zret (xd dX12_sealedRecord 28 rfl) rfl (zret_b (Or.inl rfl)) (by decide) (by decide) (fun _ => rfl) ⟨_, _, _, rfl, rfl, h⟩)
  obtain ⟨o108, h⟩ := h
  refine zr_icmp_ne 14 (xd dX12_sealedRecord 2 rfl) (by decide) o108 (by decide) (fun c109 => ?_) (fun c109 => ?_)
  · replace h := ifn h c109
    refine xr_aload_n (xd dX12_sealedRecord 8 rfl) 0 rfl ?_
    refine xr_getR (b := 507) 12 23 (xd dX12_sealedRecord 9 rfl) f12_57 (by decide) (by decide) (lt552 hn (by decide)) kd_491 rfl (r_491_23 hR) ?_
    refine xr_iload_n (xd dX12_sealedRecord 10 rfl) 1 rfl ?_
    obtain ⟨o110, h⟩ := h
    refine zr_zaload (xd dX12_sealedRecord 11 rfl) (lt552 hn (by decide)) kd_507 ln_507 (by decide) o110 ?_
    exact h
  · replace h := ifp h c109
    refine xr_aload_n (xd dX12_sealedRecord 3 rfl) 0 rfl ?_
    refine xr_getR (b := 506) 12 22 (xd dX12_sealedRecord 4 rfl) f12_53 (by decide) (by decide) (lt552 hn (by decide)) kd_491 rfl (r_491_22 hR) ?_
    refine xr_iload_n (xd dX12_sealedRecord 5 rfl) 1 rfl ?_
    obtain ⟨o111, h⟩ := h
    refine zr_zaload (xd dX12_sealedRecord 6 rfl) (lt552 hn (by decide)) kd_506 ln_506 (by decide) o111 ?_
    refine xr_goto 20 (xd dX12_sealedRecord 7 rfl) (by decide) ?_
    exact h
def w_X12_plainRecord (p1 : Int) (p2 : Int) (p3 : Int) (J : zM) (L : yM) (Q : Int → zM → yM → Prop) : Prop := ((0 : Int) ≤ (p2 + 2) ∧ (p2 + 2) < 520) ∧ ((0 : Int) ≤ (p2 + 3) ∧ (p2 + 3) < 520) ∧ ∀ x3 : Int, x3 = ((256 * (J 551 (p2 + 2))) + (J 551 (p2 + 3))) → w_X12_isStale p1 0 x3 J L (fun r6 J4 L5 => R32 r6 ∧ (if r6 = 0 then ∀ J9 : zM, J9 = zs J4 491 70 p3 → zl_z (fun K10 x11 J12 L13 => R32 x11 ∧ R32 p3 ∧ (if x11 < p3 then ((0 : Int) ≤ ((p2 + 6) + x11) ∧ ((p2 + 6) + x11) < 520) ∧ ((0 : Int) ≤ x11 ∧ x11 < 560) ∧ ∀ J27 : zM, J27 = zs J12 550 x11 (J12 551 ((p2 + 6) + x11)) → K10 (x11 + 1) J27 L13 else w_X12_mark p1 0 x3 J12 L13 (fun J17 L18 => ((0 : Int) ≤ ((10 * p1) + 4) ∧ ((10 * p1) + 4) < 20) ∧ ((0 : Int) ≤ ((10 * p1) + 4) ∧ ((10 * p1) + 4) < 20) ∧ ∀ J21 : zM, J21 = zs J17 537 ((10 * p1) + 4) ((J17 537 ((10 * p1) + 4)) + 1) → ((0 : Int) ≤ p2 ∧ p2 < 520) ∧ w_X12_inRecord p1 0 (J21 551 p2) x3 J21 L18 (fun J23 L24 => Q 1 J23 L24)))) 0 J9 L5 else ((0 : Int) ≤ ((10 * p1) + 2) ∧ ((10 * p1) + 2) < 20) ∧ ((0 : Int) ≤ ((10 * p1) + 2) ∧ ((10 * p1) + 2) < 20) ∧ ∀ J30 : zM, J30 = zs J4 537 ((10 * p1) + 2) ((J4 537 ((10 * p1) + 2)) + 1) → Q 0 J30 L5))
set_option maxHeartbeats 4000000 in
set_option maxRecDepth 100000 in
theorem v_X12_plainRecord {b : Nat} {dC : Nat → ClassId} {dI : Nat → Nat → Nat} {cA : Nat → ClassId} {ts : Nat → Nat} {l : Launch} {n : Nat} {R : Nat → Nat → Option Nat} {al : Bool} (hn : 552 ≤ n) (hR : xRk R) {p1 : Int} {p2 : Int} {p3 : Int}  {J : zM} {L : yM} {Q : Int → zM → yM → Prop} (h : w_X12_plainRecord p1 p2 p3 J L Q) : xCn (xGm b dC dI cA ts) l mX12_plainRecord [.ref 491, .int (oI p1), .int (oI p2), .int (oI p3)] al (n, R, zi J, li L) 0 0 (zQ1 n R Q) (fun _ _ => False) := by
  refine xCn.ofJ (by decide) (Nat.le_of_ble_eq_true rfl) ?_
  show xJ _ _ _ _ _ _ _ _ _ 0 [(0, .ref 491), (1, .int (oI p1)), (2, .int (oI p2)), (3, .int (oI p3))] [] _ _ _ _ _
  unfold w_X12_plainRecord at h
  refine xr_sipush (v := oI 256) (xd dX12_plainRecord 0 rfl) (by decide) ?_
  refine xr_aload_n (xd dX12_plainRecord 1 rfl) 0 rfl ?_
  refine xr_getR (b := 551) 12 71 (xd dX12_plainRecord 2 rfl) f12_190 (by decide) (by decide) (lt552 hn (by decide)) kd_491 rfl (r_491_71 hR) ?_
  refine xr_iload_n (xd dX12_plainRecord 3 rfl) 2 rfl ?_
  refine xr_iconst (v := oI 2) (xd dX12_plainRecord 4 rfl) (by decide) ?_
  refine zr_iadd (xd dX12_plainRecord 5 rfl) ?_
  obtain ⟨o1, h⟩ := h
  refine zr_iaload (xd dX12_plainRecord 6 rfl) (lt552 hn (by decide)) kd_551 ln_551 (by decide) o1 ?_
  refine zr_imul (xd dX12_plainRecord 7 rfl) ?_
  refine xr_aload_n (xd dX12_plainRecord 8 rfl) 0 rfl ?_
  refine xr_getR (b := 551) 12 71 (xd dX12_plainRecord 9 rfl) f12_190 (by decide) (by decide) (lt552 hn (by decide)) kd_491 rfl (r_491_71 hR) ?_
  refine xr_iload_n (xd dX12_plainRecord 10 rfl) 2 rfl ?_
  refine xr_iconst (v := oI 3) (xd dX12_plainRecord 11 rfl) (by decide) ?_
  refine zr_iadd (xd dX12_plainRecord 12 rfl) ?_
  obtain ⟨o2, h⟩ := h
  refine zr_iaload (xd dX12_plainRecord 13 rfl) (lt552 hn (by decide)) kd_551 ln_551 (by decide) o2 ?_
  refine zr_iadd (xd dX12_plainRecord 14 rfl) ?_
  obtain ⟨x3, e_x3⟩ : ∃ z_ : Int, z_ = ((256 * (J 551 (p2 + 2))) + (J 551 (p2 + 3))) := ⟨_, rfl⟩
  replace h := h x3 e_x3
  refine zr_nm e_x3 ?_
  refine xr_istore [(0, .ref 491), (1, .int (oI p1)), (2, .int (oI p2)), (3, .int (oI p3)), (4, .int (oI x3))] (xd dX12_plainRecord 15 rfl) (by decide) rfl ?_
  refine xr_aload_n (xd dX12_plainRecord 16 rfl) 0 rfl ?_
  refine xr_iload_n (xd dX12_plainRecord 17 rfl) 1 rfl ?_
  refine xr_iconst (v := oI 0) (xd dX12_plainRecord 18 rfl) (by decide) ?_
  refine xr_iload (xd dX12_plainRecord 19 rfl) 4 rfl ?_
  refine xr_callV mX12_isStale 3 [.int (oI p1), .int (oI 0), .int (oI x3)] (xd dX12_plainRecord 20 rfl) l12_531 kX12_isStale rfl (lt552 hn (by decide)) kd_491 (by decide) rfl (by decide) (Nat.le_of_ble_eq_true rfl) (v_X12_isStale hn hR  h) (by decide) (by decide) (fun r_ M_ h_ => ?_) (fun _ _ h_ => h_.elim)
  obtain ⟨r6, J4, L5, rfl, rfl, h⟩ := h_
  show xJ _ _ _ _ _ _ _ _ _ 31 [(0, .ref 491), (1, .int (oI p1)), (2, .int (oI p2)), (3, .int (oI p3)), (4, .int (oI x3))] [.int (oI r6)] _ _ _ (zi J4) (li L5)
  obtain ⟨o7, h⟩ := h
  refine zr_if_eq 51 (xd dX12_plainRecord 21 rfl) (by decide) o7 (fun c8 => ?_) (fun c8 => ?_)
  · replace h := ifp h c8
    refine xr_aload_n (xd dX12_plainRecord 36 rfl) 0 rfl ?_
    refine xr_iload_n (xd dX12_plainRecord 37 rfl) 3 rfl ?_
    obtain ⟨J9, e_J9⟩ : ∃ z_ : zM, z_ = zs J4 491 70 p3 := ⟨_, rfl⟩
    replace h := h J9 e_J9
    refine zr_putI 12 70 70 rfl e_J9 (xd dX12_plainRecord 38 rfl) f12_481 (by decide) (by decide) (lt552 hn (by decide)) kd_491 (Or.inl rfl) rfl rfl (fun _ => rfl) ?_
    refine xr_iconst (v := oI 0) (xd dX12_plainRecord 39 rfl) (by decide) ?_
    refine xr_istore [(0, .ref 491), (1, .int (oI p1)), (2, .int (oI p2)), (3, .int (oI p3)), (4, .int (oI x3)), (5, .int (oI 0))] (xd dX12_plainRecord 40 rfl) (by decide) rfl ?_
    refine h (fun x11 J12 L13 => xJ (xGm b dC dI cA ts) l mX12_plainRecord 0 0 (zQ1 n R Q) (fun _ _ => False) 0 0 59 [(0, .ref 491), (1, .int (oI p1)), (2, .int (oI p2)), (3, .int (oI p3)), (4, .int (oI x3)), (5, .int (oI x11))] [] al n R (zi J12) (li L13)) ?_
    intro x11 J12 L13 h
    show xJ _ _ _ _ _ _ _ _ _ 59 [(0, .ref 491), (1, .int (oI p1)), (2, .int (oI p2)), (3, .int (oI p3)), (4, .int (oI x3)), (5, .int (oI x11))] [] _ _ _ _ _
    refine xr_iload (xd dX12_plainRecord 41 rfl) 5 rfl ?_
    refine xr_iload_n (xd dX12_plainRecord 42 rfl) 3 rfl ?_
    obtain ⟨o14, h⟩ := h
    obtain ⟨o15, h⟩ := h
    refine zr_icmp_ge 90 (xd dX12_plainRecord 43 rfl) (by decide) o14 o15 (fun c16 => ?_) (fun c16 => ?_)
    · replace h := ifn h c16
      refine xr_aload_n (xd dX12_plainRecord 58 rfl) 0 rfl ?_
      refine xr_iload_n (xd dX12_plainRecord 59 rfl) 1 rfl ?_
      refine xr_iconst (v := oI 0) (xd dX12_plainRecord 60 rfl) (by decide) ?_
      refine xr_iload (xd dX12_plainRecord 61 rfl) 4 rfl ?_
      refine xr_callV mX12_mark 3 [.int (oI p1), .int (oI 0), .int (oI x3)] (xd dX12_plainRecord 62 rfl) l12_534 kX12_mark rfl (lt552 hn (by decide)) kd_491 (by decide) rfl (by decide) (Nat.le_of_ble_eq_true rfl) (v_X12_mark hn hR  h) (by decide) (by decide) (fun r_ M_ h_ => ?_) (fun _ _ h_ => h_.elim)
      obtain ⟨J17, L18, rfl, rfl, h⟩ := h_
      show xJ _ _ _ _ _ _ _ _ _ 98 [(0, .ref 491), (1, .int (oI p1)), (2, .int (oI p2)), (3, .int (oI p3)), (4, .int (oI x3)), (5, .int (oI x11))] [] _ _ _ (zi J17) (li L18)
      refine xr_aload_n (xd dX12_plainRecord 63 rfl) 0 rfl ?_
      refine xr_getR (b := 537) 12 55 (xd dX12_plainRecord 64 rfl) f12_148 (by decide) (by decide) (lt552 hn (by decide)) kd_491 rfl (r_491_55 hR) ?_
      refine xr_bipush (v := oI 10) (xd dX12_plainRecord 65 rfl) (by decide) ?_
      refine xr_iload_n (xd dX12_plainRecord 66 rfl) 1 rfl ?_
      refine zr_imul (xd dX12_plainRecord 67 rfl) ?_
      refine xr_iconst (v := oI 4) (xd dX12_plainRecord 68 rfl) (by decide) ?_
      refine zr_iadd (xd dX12_plainRecord 69 rfl) ?_
      refine xr_dup2 (xd dX12_plainRecord 70 rfl) rfl rfl ?_
      obtain ⟨o19, h⟩ := h
      refine zr_iaload (xd dX12_plainRecord 71 rfl) (lt552 hn (by decide)) kd_537 ln_537 (by decide) o19 ?_
      refine xr_iconst (v := oI 1) (xd dX12_plainRecord 72 rfl) (by decide) ?_
      refine zr_iadd (xd dX12_plainRecord 73 rfl) ?_
      obtain ⟨o20, h⟩ := h
      obtain ⟨J21, e_J21⟩ : ∃ z_ : zM, z_ = zs J17 537 ((10 * p1) + 4) ((J17 537 ((10 * p1) + 4)) + 1) := ⟨_, rfl⟩
      replace h := h J21 e_J21
      refine zr_iastore e_J21 (xd dX12_plainRecord 74 rfl) (lt552 hn (by decide)) kd_537 ln_537 (by decide) o20 ?_
      refine xr_aload_n (xd dX12_plainRecord 75 rfl) 0 rfl ?_
      refine xr_iload_n (xd dX12_plainRecord 76 rfl) 1 rfl ?_
      refine xr_iconst (v := oI 0) (xd dX12_plainRecord 77 rfl) (by decide) ?_
      refine xr_aload_n (xd dX12_plainRecord 78 rfl) 0 rfl ?_
      refine xr_getR (b := 551) 12 71 (xd dX12_plainRecord 79 rfl) f12_190 (by decide) (by decide) (lt552 hn (by decide)) kd_491 rfl (r_491_71 hR) ?_
      refine xr_iload_n (xd dX12_plainRecord 80 rfl) 2 rfl ?_
      obtain ⟨o22, h⟩ := h
      refine zr_iaload (xd dX12_plainRecord 81 rfl) (lt552 hn (by decide)) kd_551 ln_551 (by decide) o22 ?_
      refine xr_iload (xd dX12_plainRecord 82 rfl) 4 rfl ?_
      refine xr_callV mX12_inRecord 4 [.int (oI p1), .int (oI 0), .int (oI (J21 551 p2)), .int (oI x3)] (xd dX12_plainRecord 83 rfl) l12_537 kX12_inRecord rfl (lt552 hn (by decide)) kd_491 (by decide) rfl (by decide) (Nat.le_of_ble_eq_true rfl) (v_X12_inRecord hn hR  h) (by decide) (by decide) (fun r_ M_ h_ => ?_) (fun _ _ h_ => h_.elim)
      obtain ⟨J23, L24, rfl, rfl, h⟩ := h_
      show xJ _ _ _ _ _ _ _ _ _ 127 [(0, .ref 491), (1, .int (oI p1)), (2, .int (oI p2)), (3, .int (oI p3)), (4, .int (oI x3)), (5, .int (oI x11))] [] _ _ _ (zi J23) (li L24)
      refine xr_iconst (v := oI 1) (xd dX12_plainRecord 84 rfl) (by decide) ?_
      exact xr_zret (xd dX12_plainRecord 85 rfl) rfl (zret_b (Or.inr rfl)) (by decide) (by decide) (fun _ => rfl) ⟨_, _, _, rfl, rfl, h⟩
    · replace h := ifp h c16
      refine xr_aload_n (xd dX12_plainRecord 44 rfl) 0 rfl ?_
      refine xr_getR (b := 550) 12 69 (xd dX12_plainRecord 45 rfl) f12_187 (by decide) (by decide) (lt552 hn (by decide)) kd_491 rfl (r_491_69 hR) ?_
      refine xr_iload (xd dX12_plainRecord 46 rfl) 5 rfl ?_
      refine xr_aload_n (xd dX12_plainRecord 47 rfl) 0 rfl ?_
      refine xr_getR (b := 551) 12 71 (xd dX12_plainRecord 48 rfl) f12_190 (by decide) (by decide) (lt552 hn (by decide)) kd_491 rfl (r_491_71 hR) ?_
      refine xr_iload_n (xd dX12_plainRecord 49 rfl) 2 rfl ?_
      refine xr_bipush (v := oI 6) (xd dX12_plainRecord 50 rfl) (by decide) ?_
      refine zr_iadd (xd dX12_plainRecord 51 rfl) ?_
      refine xr_iload (xd dX12_plainRecord 52 rfl) 5 rfl ?_
      refine zr_iadd (xd dX12_plainRecord 53 rfl) ?_
      obtain ⟨o25, h⟩ := h
      refine zr_iaload (xd dX12_plainRecord 54 rfl) (lt552 hn (by decide)) kd_551 ln_551 (by decide) o25 ?_
      obtain ⟨o26, h⟩ := h
      obtain ⟨J27, e_J27⟩ : ∃ z_ : zM, z_ = zs J12 550 x11 (J12 551 ((p2 + 6) + x11)) := ⟨_, rfl⟩
      replace h := h J27 e_J27
      refine zr_iastore e_J27 (xd dX12_plainRecord 55 rfl) (lt552 hn (by decide)) kd_550 ln_550 (by decide) o26 ?_
      refine zr_iinc [(0, .ref 491), (1, .int (oI p1)), (2, .int (oI p2)), (3, .int (oI p3)), (4, .int (oI x3)), (5, .int (oI (x11 + 1)))] (xd dX12_plainRecord 56 rfl) 5 rfl (by decide) rfl ?_
      refine xr_goto 59 (xd dX12_plainRecord 57 rfl) (by decide) ?_
      exact h
  · replace h := ifn h c8
    refine xr_aload_n (xd dX12_plainRecord 22 rfl) 0 rfl ?_
    refine xr_getR (b := 537) 12 55 (xd dX12_plainRecord 23 rfl) f12_148 (by decide) (by decide) (lt552 hn (by decide)) kd_491 rfl (r_491_55 hR) ?_
    refine xr_bipush (v := oI 10) (xd dX12_plainRecord 24 rfl) (by decide) ?_
    refine xr_iload_n (xd dX12_plainRecord 25 rfl) 1 rfl ?_
    refine zr_imul (xd dX12_plainRecord 26 rfl) ?_
    refine xr_iconst (v := oI 2) (xd dX12_plainRecord 27 rfl) (by decide) ?_
    refine zr_iadd (xd dX12_plainRecord 28 rfl) ?_
    refine xr_dup2 (xd dX12_plainRecord 29 rfl) rfl rfl ?_
    obtain ⟨o28, h⟩ := h
    refine zr_iaload (xd dX12_plainRecord 30 rfl) (lt552 hn (by decide)) kd_537 ln_537 (by decide) o28 ?_
    refine xr_iconst (v := oI 1) (xd dX12_plainRecord 31 rfl) (by decide) ?_
    refine zr_iadd (xd dX12_plainRecord 32 rfl) ?_
    obtain ⟨o29, h⟩ := h
    obtain ⟨J30, e_J30⟩ : ∃ z_ : zM, z_ = zs J4 537 ((10 * p1) + 2) ((J4 537 ((10 * p1) + 2)) + 1) := ⟨_, rfl⟩
    replace h := h J30 e_J30
    refine zr_iastore e_J30 (xd dX12_plainRecord 33 rfl) (lt552 hn (by decide)) kd_537 ln_537 (by decide) o29 ?_
    refine xr_iconst (v := oI 0) (xd dX12_plainRecord 34 rfl) (by decide) ?_
    exact xr_zret (xd dX12_plainRecord 35 rfl) rfl (zret_b (Or.inl rfl)) (by decide) (by decide) (fun _ => rfl) ⟨_, _, _, rfl, rfl, h⟩
def w_X12_arrives (p1 : Int) (J : zM) (L : yM) (Q : Int → zM → yM → Prop) : Prop := zl_zz (fun K1 x2 x3 J4 L5 => R32 x2 ∧ R32 (J4 491 72) ∧ (if x2 < (J4 491 72) then ((0 : Int) ≤ p1 ∧ p1 < 2) ∧ R32 (J4 534 p1) ∧ (if (J4 534 p1) = 4 then Q x3 J4 L5 else ((0 : Int) ≤ x2 ∧ x2 < 520) ∧ ∀ x13 : Int, x13 = (J4 551 x2) → ∀ K17 : Int → zM → yM → Prop, (∀ (x14 : Int) (J15 : zM) (L16 : yM), (∀ K21 : Int → zM → yM → Prop, (∀ (x18 : Int) (J19 : zM) (L20 : yM), (∀ K25 : Int → zM → yM → Prop, (∀ (x22 : Int) (J23 : zM) (L24 : yM), (∀ K29 : Int → zM → yM → Prop, (∀ (x26 : Int) (J27 : zM) (L28 : yM), (∀ K33 : Int → zM → yM → Prop, (∀ (x30 : Int) (J31 : zM) (L32 : yM), (∀ K38 : Int → Int → zM → yM → Prop, (∀ (x34 : Int) (x35 : Int) (J36 : zM) (L37 : yM), (K1 x34 x35 J36 L37) → K38 x34 x35 J36 L37) → ∀ K41 : zM → yM → Prop, (∀ (J39 : zM) (L40 : yM), (w_X12_malformed p1 J39 L40 (fun J42 L43 => ∀ x44 : Int, x44 = (J42 491 72) → K38 x44 x3 J42 L43)) → K41 J39 L40) → R32 x26 ∧ (if x26 = 0 then R32 ((x2 + x22) + x30) ∧ R32 (J31 491 72) ∧ (if (J31 491 72) < ((x2 + x22) + x30) then K41 J31 L32 else ∀ K53 : Int → zM → yM → Prop, (∀ (x50 : Int) (J51 : zM) (L52 : yM), (∀ K57 : Int → zM → yM → Prop, (∀ (x54 : Int) (J55 : zM) (L56 : yM), (∀ x58 : Int, x58 = (x3 + x54) → ∀ x59 : Int, x59 = (x2 + (x22 + x30)) → K38 x59 x58 J55 L56) → K57 x54 J55 L56) → R32 x50 ∧ (if x50 = 0 then K57 0 J51 L52 else K57 1 J51 L52)) → K53 x50 J51 L52) → R32 x14 ∧ (if x14 = 0 then w_X12_sealedRecord p1 x2 (x13 - 32) x30 J31 L32 (fun r66 J64 L65 => K53 r66 J64 L65) else w_X12_plainRecord p1 x2 x30 J31 L32 (fun r69 J67 L68 => K53 r69 J67 L68))) else K41 J31 L32)) → K33 x30 J31 L32) → R32 x26 ∧ (if x26 = 0 then ((0 : Int) ≤ ((x2 + x22) - 2) ∧ ((x2 + x22) - 2) < 520) ∧ ((0 : Int) ≤ ((x2 + x22) - 1) ∧ ((x2 + x22) - 1) < 520) ∧ K33 ((256 * (J27 551 ((x2 + x22) - 2))) + (J27 551 ((x2 + x22) - 1))) J27 L28 else K33 0 J27 L28)) → K29 x26 J27 L28) → ∀ K76 : zM → yM → Prop, (∀ (J74 : zM) (L75 : yM), (K29 1 J74 L75) → K76 J74 L75) → ∀ K79 : zM → yM → Prop, (∀ (J77 : zM) (L78 : yM), (∀ K82 : zM → yM → Prop, (∀ (J80 : zM) (L81 : yM), (R32 (x2 + x22) ∧ R32 (J80 491 72) ∧ (if (J80 491 72) < (x2 + x22) then K76 J80 L81 else K29 0 J80 L81)) → K82 J80 L81) → R32 x14 ∧ (if x14 = 0 then K82 J77 L78 else R32 (x2 + 1) ∧ R32 (J77 491 72) ∧ (if (x2 + 1) < (J77 491 72) then ((0 : Int) ≤ (x2 + 1) ∧ (x2 + 1) < 520) ∧ R32 (J77 551 (x2 + 1)) ∧ (if (J77 551 (x2 + 1)) = 0 then K82 J77 L78 else K76 J77 L78) else K82 J77 L78))) → K79 J77 L78) → R32 x14 ∧ (if x14 = 0 then R32 x18 ∧ (if x18 = 0 then K76 J23 L24 else K79 J23 L24) else K79 J23 L24)) → K25 x22 J23 L24) → R32 x14 ∧ (if x14 = 0 then K25 5 J19 L20 else K25 6 J19 L20)) → K21 x18 J19 L20) → ∀ K102 : zM → yM → Prop, (∀ (J100 : zM) (L101 : yM), (K21 1 J100 L101) → K102 J100 L101) → R32 x13 ∧ (if x13 = 34 then K102 J15 L16 else (if x13 = 35 then K102 J15 L16 else K21 0 J15 L16))) → K17 x14 J15 L16) → ∀ K108 : zM → yM → Prop, (∀ (J106 : zM) (L107 : yM), (K17 1 J106 L107) → K108 J106 L107) → R32 x13 ∧ (if x13 = 21 then K108 J4 L5 else (if x13 = 22 then K108 J4 L5 else (if x13 = 26 then K108 J4 L5 else K17 0 J4 L5)))) else Q x3 J4 L5)) 0 0 J L
set_option maxHeartbeats 4000000 in
set_option maxRecDepth 100000 in
theorem v_X12_arrives {b : Nat} {dC : Nat → ClassId} {dI : Nat → Nat → Nat} {cA : Nat → ClassId} {ts : Nat → Nat} {l : Launch} {n : Nat} {R : Nat → Nat → Option Nat} {al : Bool} (hn : 552 ≤ n) (hR : xRk R) {p1 : Int}  {J : zM} {L : yM} {Q : Int → zM → yM → Prop} (h : w_X12_arrives p1 J L Q) : xCn (xGm b dC dI cA ts) l mX12_arrives [.ref 491, .int (oI p1)] al (n, R, zi J, li L) 0 0 (zQ1 n R Q) (fun _ _ => False) := by
  refine xCn.ofJ (by decide) (Nat.le_of_ble_eq_true rfl) ?_
  show xJ _ _ _ _ _ _ _ _ _ 0 [(0, .ref 491), (1, .int (oI p1))] [] _ _ _ _ _
  unfold w_X12_arrives at h
  refine xr_iconst (v := oI 0) (xd dX12_arrives 0 rfl) (by decide) ?_
  refine xr_istore_n [(0, .ref 491), (1, .int (oI p1)), (2, .int (oI 0))] (xd dX12_arrives 1 rfl) rfl (by decide) rfl ?_
  refine xr_iconst (v := oI 0) (xd dX12_arrives 2 rfl) (by decide) ?_
  refine xr_istore_n [(0, .ref 491), (1, .int (oI p1)), (2, .int (oI 0)), (3, .int (oI 0))] (xd dX12_arrives 3 rfl) rfl (by decide) rfl ?_
  refine h (fun x2 x3 J4 L5 => xJ (xGm b dC dI cA ts) l mX12_arrives 0 0 (zQ1 n R Q) (fun _ _ => False) 0 0 4 [(0, .ref 491), (1, .int (oI p1)), (2, .int (oI x2)), (3, .int (oI x3))] [] al n R (zi J4) (li L5)) ?_
  intro x2 x3 J4 L5 h
  show xJ _ _ _ _ _ _ _ _ _ 4 [(0, .ref 491), (1, .int (oI p1)), (2, .int (oI x2)), (3, .int (oI x3))] [] _ _ _ _ _
  refine xr_iload_n (xd dX12_arrives 4 rfl) 2 rfl ?_
  refine xr_aload_n (xd dX12_arrives 5 rfl) 0 rfl ?_
  refine zr_getI 12 72 72 rfl (xd dX12_arrives 6 rfl) f12_540 (by decide) (by decide) (lt552 hn (by decide)) kd_491 rfl ?_
  obtain ⟨o6, h⟩ := h
  obtain ⟨o7, h⟩ := h
  refine zr_icmp_ge 271 (xd dX12_arrives 7 rfl) (by decide) o6 o7 (fun c8 => ?_) (fun c8 => ?_)
  · replace h := ifn h c8
    refine xr_iload_n (xd dX12_arrives 150 rfl) 3 rfl ?_
    exact xr_iret (xd dX12_arrives 151 rfl) rfl (by decide) (by decide) (fun _ => rfl) ⟨_, _, _, rfl, rfl, h⟩
  · replace h := ifp h c8
    refine xr_aload_n (xd dX12_arrives 8 rfl) 0 rfl ?_
    refine xr_getR (b := 534) 12 52 (xd dX12_arrives 9 rfl) f12_139 (by decide) (by decide) (lt552 hn (by decide)) kd_491 rfl (r_491_52 hR) ?_
    refine xr_iload_n (xd dX12_arrives 10 rfl) 1 rfl ?_
    obtain ⟨o9, h⟩ := h
    refine zr_iaload (xd dX12_arrives 11 rfl) (lt552 hn (by decide)) kd_534 ln_534 (by decide) o9 ?_
    refine xr_iconst (v := oI 4) (xd dX12_arrives 12 rfl) (by decide) ?_
    obtain ⟨o10, h⟩ := h
    refine zr_icmp_eq 271 (xd dX12_arrives 13 rfl) (by decide) o10 (by decide) (fun c11 => ?_) (fun c11 => ?_)
    · replace h := ifp h c11
      refine xr_iload_n (xd dX12_arrives 150 rfl) 3 rfl ?_
      exact xr_iret (xd dX12_arrives 151 rfl) rfl (by decide) (by decide) (fun _ => rfl) ⟨_, _, _, rfl, rfl, h⟩
    · replace h := ifn h c11
      refine xr_aload_n (xd dX12_arrives 14 rfl) 0 rfl ?_
      refine xr_getR (b := 551) 12 71 (xd dX12_arrives 15 rfl) f12_190 (by decide) (by decide) (lt552 hn (by decide)) kd_491 rfl (r_491_71 hR) ?_
      refine xr_iload_n (xd dX12_arrives 16 rfl) 2 rfl ?_
      obtain ⟨o12, h⟩ := h
      refine zr_iaload (xd dX12_arrives 17 rfl) (lt552 hn (by decide)) kd_551 ln_551 (by decide) o12 ?_
      obtain ⟨x13, e_x13⟩ : ∃ z_ : Int, z_ = (J4 551 x2) := ⟨_, rfl⟩
      replace h := h x13 e_x13
      refine zr_nm e_x13 ?_
      refine xr_istore [(0, .ref 491), (1, .int (oI p1)), (2, .int (oI x2)), (3, .int (oI x3)), (4, .int (oI x13))] (xd dX12_arrives 18 rfl) (by decide) rfl ?_
      refine xr_iload (xd dX12_arrives 19 rfl) 4 rfl ?_
      refine xr_bipush (v := oI 21) (xd dX12_arrives 20 rfl) (by decide) ?_
      replace h := h (fun (x14 : Int) (J15 : zM) (L16 : yM) => xJ (xGm b dC dI cA ts) l mX12_arrives 0 0 (zQ1 n R Q) (fun _ _ => False) 0 0 56 [(0, .ref 491), (1, .int (oI p1)), (2, .int (oI x2)), (3, .int (oI x3)), (4, .int (oI x13))] [.int (oI x14)] al n R (zi J15) (li L16)) (by
        intro x14 J15 L16 h
        show xJ _ _ _ _ _ _ _ _ _ 56 [(0, .ref 491), (1, .int (oI p1)), (2, .int (oI x2)), (3, .int (oI x3)), (4, .int (oI x13))] [.int (oI x14)] _ _ _ _ _
        refine xr_istore [(0, .ref 491), (1, .int (oI p1)), (2, .int (oI x2)), (3, .int (oI x3)), (4, .int (oI x13)), (5, .int (oI x14))] (xd dX12_arrives 31 rfl) (by decide) rfl ?_
        refine xr_iload (xd dX12_arrives 32 rfl) 4 rfl ?_
        refine xr_bipush (v := oI 34) (xd dX12_arrives 33 rfl) (by decide) ?_
        replace h := h (fun (x18 : Int) (J19 : zM) (L20 : yM) => xJ (xGm b dC dI cA ts) l mX12_arrives 0 0 (zQ1 n R Q) (fun _ _ => False) 0 0 77 [(0, .ref 491), (1, .int (oI p1)), (2, .int (oI x2)), (3, .int (oI x3)), (4, .int (oI x13)), (5, .int (oI x14))] [.int (oI x18)] al n R (zi J19) (li L20)) (by
          intro x18 J19 L20 h
          show xJ _ _ _ _ _ _ _ _ _ 77 [(0, .ref 491), (1, .int (oI p1)), (2, .int (oI x2)), (3, .int (oI x3)), (4, .int (oI x13)), (5, .int (oI x14))] [.int (oI x18)] _ _ _ _ _
          refine xr_istore [(0, .ref 491), (1, .int (oI p1)), (2, .int (oI x2)), (3, .int (oI x3)), (4, .int (oI x13)), (5, .int (oI x14)), (6, .int (oI x18))] (xd dX12_arrives 41 rfl) (by decide) rfl ?_
          refine xr_iload (xd dX12_arrives 42 rfl) 5 rfl ?_
          replace h := h (fun (x22 : Int) (J23 : zM) (L24 : yM) => xJ (xGm b dC dI cA ts) l mX12_arrives 0 0 (zQ1 n R Q) (fun _ _ => False) 0 0 90 [(0, .ref 491), (1, .int (oI p1)), (2, .int (oI x2)), (3, .int (oI x3)), (4, .int (oI x13)), (5, .int (oI x14)), (6, .int (oI x18))] [.int (oI x22)] al n R (zi J23) (li L24)) (by
            intro x22 J23 L24 h
            show xJ _ _ _ _ _ _ _ _ _ 90 [(0, .ref 491), (1, .int (oI p1)), (2, .int (oI x2)), (3, .int (oI x3)), (4, .int (oI x13)), (5, .int (oI x14)), (6, .int (oI x18))] [.int (oI x22)] _ _ _ _ _
            refine xr_istore [(0, .ref 491), (1, .int (oI p1)), (2, .int (oI x2)), (3, .int (oI x3)), (4, .int (oI x13)), (5, .int (oI x14)), (6, .int (oI x18)), (7, .int (oI x22))] (xd dX12_arrives 47 rfl) (by decide) rfl ?_
            refine xr_iload (xd dX12_arrives 48 rfl) 5 rfl ?_
            replace h := h (fun (x26 : Int) (J27 : zM) (L28 : yM) => xJ (xGm b dC dI cA ts) l mX12_arrives 0 0 (zQ1 n R Q) (fun _ _ => False) 0 0 144 [(0, .ref 491), (1, .int (oI p1)), (2, .int (oI x2)), (3, .int (oI x3)), (4, .int (oI x13)), (5, .int (oI x14)), (7, .int (oI x22))] [.int (oI x26)] al n R (zi J27) (li L28)) (by
              intro x26 J27 L28 h
              show xJ _ _ _ _ _ _ _ _ _ 144 [(0, .ref 491), (1, .int (oI p1)), (2, .int (oI x2)), (3, .int (oI x3)), (4, .int (oI x13)), (5, .int (oI x14)), (7, .int (oI x22))] [.int (oI x26)] _ _ _ _ _
              refine xr_istore [(0, .ref 491), (1, .int (oI p1)), (2, .int (oI x2)), (3, .int (oI x3)), (4, .int (oI x13)), (5, .int (oI x14)), (7, .int (oI x22)), (8, .int (oI x26))] (xd dX12_arrives 76 rfl) (by decide) rfl ?_
              refine xr_iload (xd dX12_arrives 77 rfl) 7 rfl ?_
              replace h := h (fun (x30 : Int) (J31 : zM) (L32 : yM) => xJ (xGm b dC dI cA ts) l mX12_arrives 0 0 (zQ1 n R Q) (fun _ _ => False) 0 0 182 [(0, .ref 491), (1, .int (oI p1)), (2, .int (oI x2)), (3, .int (oI x3)), (4, .int (oI x13)), (5, .int (oI x14)), (7, .int (oI x22)), (8, .int (oI x26))] [.int (oI x30)] al n R (zi J31) (li L32)) (by
                intro x30 J31 L32 h
                show xJ _ _ _ _ _ _ _ _ _ 182 [(0, .ref 491), (1, .int (oI p1)), (2, .int (oI x2)), (3, .int (oI x3)), (4, .int (oI x13)), (5, .int (oI x14)), (7, .int (oI x22)), (8, .int (oI x26))] [.int (oI x30)] _ _ _ _ _
                refine xr_istore [(0, .ref 491), (1, .int (oI p1)), (2, .int (oI x2)), (3, .int (oI x3)), (4, .int (oI x13)), (5, .int (oI x14)), (7, .int (oI x22)), (8, .int (oI x26)), (9, .int (oI x30))] (xd dX12_arrives 100 rfl) (by decide) rfl ?_
                refine xr_iload (xd dX12_arrives 101 rfl) 7 rfl ?_
                replace h := h (fun (x34 : Int) (x35 : Int) (J36 : zM) (L37 : yM) => xJ (xGm b dC dI cA ts) l mX12_arrives 0 0 (zQ1 n R Q) (fun _ _ => False) 0 0 268 [(0, .ref 491), (1, .int (oI p1)), (2, .int (oI x34)), (3, .int (oI x35))] [] al n R (zi J36) (li L37)) (by
                  intro x34 x35 J36 L37 h
                  show xJ _ _ _ _ _ _ _ _ _ 268 [(0, .ref 491), (1, .int (oI p1)), (2, .int (oI x34)), (3, .int (oI x35))] [] _ _ _ _ _
                  refine xr_goto 4 (xd dX12_arrives 149 rfl) (by decide) ?_
                  exact h)
                replace h := h (fun (J39 : zM) (L40 : yM) => xJ (xGm b dC dI cA ts) l mX12_arrives 0 0 (zQ1 n R Q) (fun _ _ => False) 0 0 203 [(0, .ref 491), (1, .int (oI p1)), (3, .int (oI x3))] [] al n R (zi J39) (li L40)) (by
                  intro J39 L40 h
                  show xJ _ _ _ _ _ _ _ _ _ 203 [(0, .ref 491), (1, .int (oI p1)), (3, .int (oI x3))] [] _ _ _ _ _
                  refine xr_aload_n (xd dX12_arrives 111 rfl) 0 rfl ?_
                  refine xr_iload_n (xd dX12_arrives 112 rfl) 1 rfl ?_
                  refine xr_callV mX12_malformed 1 [.int (oI p1)] (xd dX12_arrives 113 rfl) l12_484 kX12_malformed rfl (lt552 hn (by decide)) kd_491 (by decide) rfl (by decide) (Nat.le_of_ble_eq_true rfl) (v_X12_malformed hn hR  h) (by decide) (by decide) (fun r_ M_ h_ => ?_) (fun _ _ h_ => h_.elim)
                  obtain ⟨J42, L43, rfl, rfl, h⟩ := h_
                  show xJ _ _ _ _ _ _ _ _ _ 208 [(0, .ref 491), (1, .int (oI p1)), (3, .int (oI x3))] [] _ _ _ (zi J42) (li L43)
                  refine xr_aload_n (xd dX12_arrives 114 rfl) 0 rfl ?_
                  refine zr_getI 12 72 72 rfl (xd dX12_arrives 115 rfl) f12_540 (by decide) (by decide) (lt552 hn (by decide)) kd_491 rfl ?_
                  obtain ⟨x44, e_x44⟩ : ∃ z_ : Int, z_ = (J42 491 72) := ⟨_, rfl⟩
                  replace h := h x44 e_x44
                  refine zr_nm e_x44 ?_
                  refine xr_istore_n [(0, .ref 491), (1, .int (oI p1)), (2, .int (oI x44)), (3, .int (oI x3))] (xd dX12_arrives 116 rfl) rfl (by decide) rfl ?_
                  refine xr_goto 268 (xd dX12_arrives 117 rfl) (by decide) ?_
                  exact h)
                obtain ⟨o45, h⟩ := h
                refine zr_if_ne 203 (xd dX12_arrives 102 rfl) (by decide) o45 (fun c46 => ?_) (fun c46 => ?_)
                · replace h := ifn h c46
                  refine xJ.pick (ls' := [(0, .ref 491), (1, .int (oI p1)), (3, .int (oI x3))]) [0, 1, 3] rfl ?_
                  exact h
                · replace h := ifp h c46
                  refine xr_iload_n (xd dX12_arrives 103 rfl) 2 rfl ?_
                  refine xr_iload (xd dX12_arrives 104 rfl) 6 rfl ?_
                  refine zr_iadd (xd dX12_arrives 105 rfl) ?_
                  refine xr_iload (xd dX12_arrives 106 rfl) 8 rfl ?_
                  refine zr_iadd (xd dX12_arrives 107 rfl) ?_
                  refine xr_aload_n (xd dX12_arrives 108 rfl) 0 rfl ?_
                  refine zr_getI 12 72 72 rfl (xd dX12_arrives 109 rfl) f12_540 (by decide) (by decide) (lt552 hn (by decide)) kd_491 rfl ?_
                  obtain ⟨o47, h⟩ := h
                  obtain ⟨o48, h⟩ := h
                  refine zr_icmp_le 216 (xd dX12_arrives 110 rfl) (by decide) o47 o48 (fun c49 => ?_) (fun c49 => ?_)
                  · replace h := ifn h c49
                    refine xr_iload (xd dX12_arrives 118 rfl) 5 rfl ?_
                    replace h := h (fun (x50 : Int) (J51 : zM) (L52 : yM) => xJ (xGm b dC dI cA ts) l mX12_arrives 0 0 (zQ1 n R Q) (fun _ _ => False) 0 0 245 [(0, .ref 491), (1, .int (oI p1)), (2, .int (oI x2)), (3, .int (oI x3)), (7, .int (oI x22)), (9, .int (oI x30))] [.int (oI x50)] al n R (zi J51) (li L52)) (by
                      intro x50 J51 L52 h
                      show xJ _ _ _ _ _ _ _ _ _ 245 [(0, .ref 491), (1, .int (oI p1)), (2, .int (oI x2)), (3, .int (oI x3)), (7, .int (oI x22)), (9, .int (oI x30))] [.int (oI x50)] _ _ _ _ _
                      refine xr_istore [(0, .ref 491), (1, .int (oI p1)), (2, .int (oI x2)), (3, .int (oI x3)), (7, .int (oI x22)), (9, .int (oI x30)), (10, .int (oI x50))] (xd dX12_arrives 134 rfl) (by decide) rfl ?_
                      refine xr_iload_n (xd dX12_arrives 135 rfl) 3 rfl ?_
                      refine xr_iload (xd dX12_arrives 136 rfl) 6 rfl ?_
                      replace h := h (fun (x54 : Int) (J55 : zM) (L56 : yM) => xJ (xGm b dC dI cA ts) l mX12_arrives 0 0 (zQ1 n R Q) (fun _ _ => False) 0 0 258 [(0, .ref 491), (1, .int (oI p1)), (2, .int (oI x2)), (7, .int (oI x22)), (9, .int (oI x30))] [.int (oI x54), .int (oI x3)] al n R (zi J55) (li L56)) (by
                        intro x54 J55 L56 h
                        show xJ _ _ _ _ _ _ _ _ _ 258 [(0, .ref 491), (1, .int (oI p1)), (2, .int (oI x2)), (7, .int (oI x22)), (9, .int (oI x30))] [.int (oI x54), .int (oI x3)] _ _ _ _ _
                        refine zr_iadd (xd dX12_arrives 141 rfl) ?_
                        obtain ⟨x58, e_x58⟩ : ∃ z_ : Int, z_ = (x3 + x54) := ⟨_, rfl⟩
                        replace h := h x58 e_x58
                        refine zr_nm e_x58 ?_
                        refine xr_istore_n [(0, .ref 491), (1, .int (oI p1)), (2, .int (oI x2)), (3, .int (oI x58)), (7, .int (oI x22)), (9, .int (oI x30))] (xd dX12_arrives 142 rfl) rfl (by decide) rfl ?_
                        refine xr_iload_n (xd dX12_arrives 143 rfl) 2 rfl ?_
                        refine xr_iload (xd dX12_arrives 144 rfl) 4 rfl ?_
                        refine xr_iload (xd dX12_arrives 145 rfl) 5 rfl ?_
                        refine zr_iadd (xd dX12_arrives 146 rfl) ?_
                        refine zr_iadd (xd dX12_arrives 147 rfl) ?_
                        obtain ⟨x59, e_x59⟩ : ∃ z_ : Int, z_ = (x2 + (x22 + x30)) := ⟨_, rfl⟩
                        replace h := h x59 e_x59
                        refine zr_nm e_x59 ?_
                        refine xr_istore_n [(0, .ref 491), (1, .int (oI p1)), (2, .int (oI x59)), (3, .int (oI x58)), (7, .int (oI x22)), (9, .int (oI x30))] (xd dX12_arrives 148 rfl) rfl (by decide) rfl ?_
                        refine xJ.pick (ls' := [(0, .ref 491), (1, .int (oI p1)), (2, .int (oI x59)), (3, .int (oI x58))]) [0, 1, 2, 3] rfl ?_
                        exact h)
                      obtain ⟨o60, h⟩ := h
                      refine zr_if_eq 257 (xd dX12_arrives 137 rfl) (by decide) o60 (fun c61 => ?_) (fun c61 => ?_)
                      · replace h := ifp h c61
                        refine xr_iconst (v := oI 0) (xd dX12_arrives 140 rfl) (by decide) ?_
                        refine xJ.pick (ls' := [(0, .ref 491), (1, .int (oI p1)), (2, .int (oI x2)), (7, .int (oI x22)), (9, .int (oI x30))]) [0, 1, 2, 4, 5] rfl ?_
                        exact h
                      · replace h := ifn h c61
                        refine xr_iconst (v := oI 1) (xd dX12_arrives 138 rfl) (by decide) ?_
                        refine xr_goto 258 (xd dX12_arrives 139 rfl) (by decide) ?_
                        refine xJ.pick (ls' := [(0, .ref 491), (1, .int (oI p1)), (2, .int (oI x2)), (7, .int (oI x22)), (9, .int (oI x30))]) [0, 1, 2, 4, 5] rfl ?_
                        exact h)
                    obtain ⟨o62, h⟩ := h
                    refine zr_if_eq 232 (xd dX12_arrives 119 rfl) (by decide) o62 (fun c63 => ?_) (fun c63 => ?_)
                    · replace h := ifp h c63
                      refine xr_aload_n (xd dX12_arrives 126 rfl) 0 rfl ?_
                      refine xr_iload_n (xd dX12_arrives 127 rfl) 1 rfl ?_
                      refine xr_iload_n (xd dX12_arrives 128 rfl) 2 rfl ?_
                      refine xr_iload (xd dX12_arrives 129 rfl) 4 rfl ?_
                      refine xr_bipush (v := oI 32) (xd dX12_arrives 130 rfl) (by decide) ?_
                      refine zr_isub (xd dX12_arrives 131 rfl) ?_
                      refine xr_iload (xd dX12_arrives 132 rfl) 8 rfl ?_
                      refine xr_callV mX12_sealedRecord 4 [.int (oI p1), .int (oI x2), .int (oI (x13 - 32)), .int (oI x30)] (xd dX12_arrives 133 rfl) l12_546 kX12_sealedRecord rfl (lt552 hn (by decide)) kd_491 (by decide) rfl (by decide) (Nat.le_of_ble_eq_true rfl) (v_X12_sealedRecord hn hR  h) (by decide) (by decide) (fun r_ M_ h_ => ?_) (fun _ _ h_ => h_.elim)
                      obtain ⟨r66, J64, L65, rfl, rfl, h⟩ := h_
                      show xJ _ _ _ _ _ _ _ _ _ 245 [(0, .ref 491), (1, .int (oI p1)), (2, .int (oI x2)), (3, .int (oI x3)), (4, .int (oI x13)), (5, .int (oI x14)), (7, .int (oI x22)), (8, .int (oI x26)), (9, .int (oI x30))] [.int (oI r66)] _ _ _ (zi J64) (li L65)
                      refine xJ.pick (ls' := [(0, .ref 491), (1, .int (oI p1)), (2, .int (oI x2)), (3, .int (oI x3)), (7, .int (oI x22)), (9, .int (oI x30))]) [0, 1, 2, 3, 6, 8] rfl ?_
                      exact h
                    · replace h := ifn h c63
                      refine xr_aload_n (xd dX12_arrives 120 rfl) 0 rfl ?_
                      refine xr_iload_n (xd dX12_arrives 121 rfl) 1 rfl ?_
                      refine xr_iload_n (xd dX12_arrives 122 rfl) 2 rfl ?_
                      refine xr_iload (xd dX12_arrives 123 rfl) 8 rfl ?_
                      refine xr_callV mX12_plainRecord 3 [.int (oI p1), .int (oI x2), .int (oI x30)] (xd dX12_arrives 124 rfl) l12_543 kX12_plainRecord rfl (lt552 hn (by decide)) kd_491 (by decide) rfl (by decide) (Nat.le_of_ble_eq_true rfl) (v_X12_plainRecord hn hR  h) (by decide) (by decide) (fun r_ M_ h_ => ?_) (fun _ _ h_ => h_.elim)
                      obtain ⟨r69, J67, L68, rfl, rfl, h⟩ := h_
                      show xJ _ _ _ _ _ _ _ _ _ 229 [(0, .ref 491), (1, .int (oI p1)), (2, .int (oI x2)), (3, .int (oI x3)), (4, .int (oI x13)), (5, .int (oI x14)), (7, .int (oI x22)), (8, .int (oI x26)), (9, .int (oI x30))] [.int (oI r69)] _ _ _ (zi J67) (li L68)
                      refine xr_goto 245 (xd dX12_arrives 125 rfl) (by decide) ?_
                      refine xJ.pick (ls' := [(0, .ref 491), (1, .int (oI p1)), (2, .int (oI x2)), (3, .int (oI x3)), (7, .int (oI x22)), (9, .int (oI x30))]) [0, 1, 2, 3, 6, 8] rfl ?_
                      exact h
                  · replace h := ifp h c49
                    refine xJ.pick (ls' := [(0, .ref 491), (1, .int (oI p1)), (3, .int (oI x3))]) [0, 1, 3] rfl ?_
                    exact h)
              obtain ⟨o70, h⟩ := h
              refine zr_if_eq 155 (xd dX12_arrives 78 rfl) (by decide) o70 (fun c71 => ?_) (fun c71 => ?_)
              · replace h := ifp h c71
                refine xr_sipush (v := oI 256) (xd dX12_arrives 81 rfl) (by decide) ?_
                refine xr_aload_n (xd dX12_arrives 82 rfl) 0 rfl ?_
                refine xr_getR (b := 551) 12 71 (xd dX12_arrives 83 rfl) f12_190 (by decide) (by decide) (lt552 hn (by decide)) kd_491 rfl (r_491_71 hR) ?_
                refine xr_iload_n (xd dX12_arrives 84 rfl) 2 rfl ?_
                refine xr_iload (xd dX12_arrives 85 rfl) 6 rfl ?_
                refine zr_iadd (xd dX12_arrives 86 rfl) ?_
                refine xr_iconst (v := oI 2) (xd dX12_arrives 87 rfl) (by decide) ?_
                refine zr_isub (xd dX12_arrives 88 rfl) ?_
                obtain ⟨o72, h⟩ := h
                refine zr_iaload (xd dX12_arrives 89 rfl) (lt552 hn (by decide)) kd_551 ln_551 (by decide) o72 ?_
                refine zr_imul (xd dX12_arrives 90 rfl) ?_
                refine xr_aload_n (xd dX12_arrives 91 rfl) 0 rfl ?_
                refine xr_getR (b := 551) 12 71 (xd dX12_arrives 92 rfl) f12_190 (by decide) (by decide) (lt552 hn (by decide)) kd_491 rfl (r_491_71 hR) ?_
                refine xr_iload_n (xd dX12_arrives 93 rfl) 2 rfl ?_
                refine xr_iload (xd dX12_arrives 94 rfl) 6 rfl ?_
                refine zr_iadd (xd dX12_arrives 95 rfl) ?_
                refine xr_iconst (v := oI 1) (xd dX12_arrives 96 rfl) (by decide) ?_
                refine zr_isub (xd dX12_arrives 97 rfl) ?_
                obtain ⟨o73, h⟩ := h
                refine zr_iaload (xd dX12_arrives 98 rfl) (lt552 hn (by decide)) kd_551 ln_551 (by decide) o73 ?_
                refine zr_iadd (xd dX12_arrives 99 rfl) ?_
                exact h
              · replace h := ifn h c71
                refine xr_iconst (v := oI 0) (xd dX12_arrives 79 rfl) (by decide) ?_
                refine xr_goto 182 (xd dX12_arrives 80 rfl) (by decide) ?_
                exact h)
            replace h := h (fun (J74 : zM) (L75 : yM) => xJ (xGm b dC dI cA ts) l mX12_arrives 0 0 (zQ1 n R Q) (fun _ _ => False) 0 0 139 [(0, .ref 491), (1, .int (oI p1)), (2, .int (oI x2)), (3, .int (oI x3)), (4, .int (oI x13)), (5, .int (oI x14)), (7, .int (oI x22))] [] al n R (zi J74) (li L75)) (by
              intro J74 L75 h
              show xJ _ _ _ _ _ _ _ _ _ 139 [(0, .ref 491), (1, .int (oI p1)), (2, .int (oI x2)), (3, .int (oI x3)), (4, .int (oI x13)), (5, .int (oI x14)), (7, .int (oI x22))] [] _ _ _ _ _
              refine xr_iconst (v := oI 1) (xd dX12_arrives 73 rfl) (by decide) ?_
              refine xr_goto 144 (xd dX12_arrives 74 rfl) (by decide) ?_
              exact h)
            replace h := h (fun (J77 : zM) (L78 : yM) => xJ (xGm b dC dI cA ts) l mX12_arrives 0 0 (zQ1 n R Q) (fun _ _ => False) 0 0 102 [(0, .ref 491), (1, .int (oI p1)), (2, .int (oI x2)), (3, .int (oI x3)), (4, .int (oI x13)), (5, .int (oI x14)), (7, .int (oI x22))] [] al n R (zi J77) (li L78)) (by
              intro J77 L78 h
              show xJ _ _ _ _ _ _ _ _ _ 102 [(0, .ref 491), (1, .int (oI p1)), (2, .int (oI x2)), (3, .int (oI x3)), (4, .int (oI x13)), (5, .int (oI x14)), (7, .int (oI x22))] [] _ _ _ _ _
              refine xr_iload (xd dX12_arrives 52 rfl) 5 rfl ?_
              replace h := h (fun (J80 : zM) (L81 : yM) => xJ (xGm b dC dI cA ts) l mX12_arrives 0 0 (zQ1 n R Q) (fun _ _ => False) 0 0 128 [(0, .ref 491), (1, .int (oI p1)), (2, .int (oI x2)), (3, .int (oI x3)), (4, .int (oI x13)), (5, .int (oI x14)), (7, .int (oI x22))] [] al n R (zi J80) (li L81)) (by
                intro J80 L81 h
                show xJ _ _ _ _ _ _ _ _ _ 128 [(0, .ref 491), (1, .int (oI p1)), (2, .int (oI x2)), (3, .int (oI x3)), (4, .int (oI x13)), (5, .int (oI x14)), (7, .int (oI x22))] [] _ _ _ _ _
                refine xr_iload_n (xd dX12_arrives 67 rfl) 2 rfl ?_
                refine xr_iload (xd dX12_arrives 68 rfl) 6 rfl ?_
                refine zr_iadd (xd dX12_arrives 69 rfl) ?_
                refine xr_aload_n (xd dX12_arrives 70 rfl) 0 rfl ?_
                refine zr_getI 12 72 72 rfl (xd dX12_arrives 71 rfl) f12_540 (by decide) (by decide) (lt552 hn (by decide)) kd_491 rfl ?_
                obtain ⟨o83, h⟩ := h
                obtain ⟨o84, h⟩ := h
                refine zr_icmp_le 143 (xd dX12_arrives 72 rfl) (by decide) o83 o84 (fun c85 => ?_) (fun c85 => ?_)
                · replace h := ifn h c85
                  refine xr_iconst (v := oI 0) (xd dX12_arrives 75 rfl) (by decide) ?_
                  exact h
                · replace h := ifp h c85
                  exact h)
              obtain ⟨o86, h⟩ := h
              refine zr_if_eq 128 (xd dX12_arrives 53 rfl) (by decide) o86 (fun c87 => ?_) (fun c87 => ?_)
              · replace h := ifp h c87
                exact h
              · replace h := ifn h c87
                refine xr_iload_n (xd dX12_arrives 54 rfl) 2 rfl ?_
                refine xr_iconst (v := oI 1) (xd dX12_arrives 55 rfl) (by decide) ?_
                refine zr_iadd (xd dX12_arrives 56 rfl) ?_
                refine xr_aload_n (xd dX12_arrives 57 rfl) 0 rfl ?_
                refine zr_getI 12 72 72 rfl (xd dX12_arrives 58 rfl) f12_540 (by decide) (by decide) (lt552 hn (by decide)) kd_491 rfl ?_
                obtain ⟨o88, h⟩ := h
                obtain ⟨o89, h⟩ := h
                refine zr_icmp_ge 128 (xd dX12_arrives 59 rfl) (by decide) o88 o89 (fun c90 => ?_) (fun c90 => ?_)
                · replace h := ifn h c90
                  exact h
                · replace h := ifp h c90
                  refine xr_aload_n (xd dX12_arrives 60 rfl) 0 rfl ?_
                  refine xr_getR (b := 551) 12 71 (xd dX12_arrives 61 rfl) f12_190 (by decide) (by decide) (lt552 hn (by decide)) kd_491 rfl (r_491_71 hR) ?_
                  refine xr_iload_n (xd dX12_arrives 62 rfl) 2 rfl ?_
                  refine xr_iconst (v := oI 1) (xd dX12_arrives 63 rfl) (by decide) ?_
                  refine zr_iadd (xd dX12_arrives 64 rfl) ?_
                  obtain ⟨o91, h⟩ := h
                  refine zr_iaload (xd dX12_arrives 65 rfl) (lt552 hn (by decide)) kd_551 ln_551 (by decide) o91 ?_
                  obtain ⟨o92, h⟩ := h
                  refine zr_if_ne 139 (xd dX12_arrives 66 rfl) (by decide) o92 (fun c93 => ?_) (fun c93 => ?_)
                  · replace h := ifn h c93
                    exact h
                  · replace h := ifp h c93
                    exact h)
            obtain ⟨o94, h⟩ := h
            refine zr_if_ne 102 (xd dX12_arrives 49 rfl) (by decide) o94 (fun c95 => ?_) (fun c95 => ?_)
            · replace h := ifn h c95
              refine xJ.pick (ls' := [(0, .ref 491), (1, .int (oI p1)), (2, .int (oI x2)), (3, .int (oI x3)), (4, .int (oI x13)), (5, .int (oI x14)), (7, .int (oI x22))]) [0, 1, 2, 3, 4, 5, 7] rfl ?_
              exact h
            · replace h := ifp h c95
              refine xr_iload (xd dX12_arrives 50 rfl) 6 rfl ?_
              obtain ⟨o96, h⟩ := h
              refine zr_if_eq 139 (xd dX12_arrives 51 rfl) (by decide) o96 (fun c97 => ?_) (fun c97 => ?_)
              · replace h := ifp h c97
                refine xJ.pick (ls' := [(0, .ref 491), (1, .int (oI p1)), (2, .int (oI x2)), (3, .int (oI x3)), (4, .int (oI x13)), (5, .int (oI x14)), (7, .int (oI x22))]) [0, 1, 2, 3, 4, 5, 7] rfl ?_
                exact h
              · replace h := ifn h c97
                refine xJ.pick (ls' := [(0, .ref 491), (1, .int (oI p1)), (2, .int (oI x2)), (3, .int (oI x3)), (4, .int (oI x13)), (5, .int (oI x14)), (7, .int (oI x22))]) [0, 1, 2, 3, 4, 5, 7] rfl ?_
                exact h)
          obtain ⟨o98, h⟩ := h
          refine zr_if_eq 89 (xd dX12_arrives 43 rfl) (by decide) o98 (fun c99 => ?_) (fun c99 => ?_)
          · replace h := ifp h c99
            refine xr_iconst (v := oI 5) (xd dX12_arrives 46 rfl) (by decide) ?_
            exact h
          · replace h := ifn h c99
            refine xr_bipush (v := oI 6) (xd dX12_arrives 44 rfl) (by decide) ?_
            refine xr_goto 90 (xd dX12_arrives 45 rfl) (by decide) ?_
            exact h)
        replace h := h (fun (J100 : zM) (L101 : yM) => xJ (xGm b dC dI cA ts) l mX12_arrives 0 0 (zQ1 n R Q) (fun _ _ => False) 0 0 72 [(0, .ref 491), (1, .int (oI p1)), (2, .int (oI x2)), (3, .int (oI x3)), (4, .int (oI x13)), (5, .int (oI x14))] [] al n R (zi J100) (li L101)) (by
          intro J100 L101 h
          show xJ _ _ _ _ _ _ _ _ _ 72 [(0, .ref 491), (1, .int (oI p1)), (2, .int (oI x2)), (3, .int (oI x3)), (4, .int (oI x13)), (5, .int (oI x14))] [] _ _ _ _ _
          refine xr_iconst (v := oI 1) (xd dX12_arrives 38 rfl) (by decide) ?_
          refine xr_goto 77 (xd dX12_arrives 39 rfl) (by decide) ?_
          exact h)
        obtain ⟨o103, h⟩ := h
        refine zr_icmp_eq 72 (xd dX12_arrives 34 rfl) (by decide) o103 (by decide) (fun c104 => ?_) (fun c104 => ?_)
        · replace h := ifp h c104
          exact h
        · replace h := ifn h c104
          refine xr_iload (xd dX12_arrives 35 rfl) 4 rfl ?_
          refine xr_bipush (v := oI 35) (xd dX12_arrives 36 rfl) (by decide) ?_
          refine zr_icmp_ne 76 (xd dX12_arrives 37 rfl) (by decide) o103 (by decide) (fun c105 => ?_) (fun c105 => ?_)
          · replace h := ifn h c105
            refine xr_iconst (v := oI 0) (xd dX12_arrives 40 rfl) (by decide) ?_
            exact h
          · replace h := ifp h c105
            exact h)
      replace h := h (fun (J106 : zM) (L107 : yM) => xJ (xGm b dC dI cA ts) l mX12_arrives 0 0 (zQ1 n R Q) (fun _ _ => False) 0 0 51 [(0, .ref 491), (1, .int (oI p1)), (2, .int (oI x2)), (3, .int (oI x3)), (4, .int (oI x13))] [] al n R (zi J106) (li L107)) (by
        intro J106 L107 h
        show xJ _ _ _ _ _ _ _ _ _ 51 [(0, .ref 491), (1, .int (oI p1)), (2, .int (oI x2)), (3, .int (oI x3)), (4, .int (oI x13))] [] _ _ _ _ _
        refine xr_iconst (v := oI 1) (xd dX12_arrives 28 rfl) (by decide) ?_
        refine xr_goto 56 (xd dX12_arrives 29 rfl) (by decide) ?_
        exact h)
      obtain ⟨o109, h⟩ := h
      refine zr_icmp_eq 51 (xd dX12_arrives 21 rfl) (by decide) o109 (by decide) (fun c110 => ?_) (fun c110 => ?_)
      · replace h := ifp h c110
        exact h
      · replace h := ifn h c110
        refine xr_iload (xd dX12_arrives 22 rfl) 4 rfl ?_
        refine xr_bipush (v := oI 22) (xd dX12_arrives 23 rfl) (by decide) ?_
        refine zr_icmp_eq 51 (xd dX12_arrives 24 rfl) (by decide) o109 (by decide) (fun c111 => ?_) (fun c111 => ?_)
        · replace h := ifp h c111
          exact h
        · replace h := ifn h c111
          refine xr_iload (xd dX12_arrives 25 rfl) 4 rfl ?_
          refine xr_bipush (v := oI 26) (xd dX12_arrives 26 rfl) (by decide) ?_
          refine zr_icmp_ne 55 (xd dX12_arrives 27 rfl) (by decide) o109 (by decide) (fun c112 => ?_) (fun c112 => ?_)
          · replace h := ifn h c112
            refine xr_iconst (v := oI 0) (xd dX12_arrives 30 rfl) (by decide) ?_
            exact h
          · replace h := ifp h c112
            exact h
def w_X12_take (p1 : Int) (p2 : Int) (J : zM) (L : yM) (Q : zM → yM → Prop) : Prop := ∀ x1 : Int, x1 = ((60 * p1) + p2) → ((0 : Int) ≤ x1 ∧ x1 < 120) ∧ ∀ J3 : zM, J3 = zs J 491 72 (J 510 x1) → zl_z (fun K4 x5 J6 L7 => R32 x5 ∧ R32 (J6 491 72) ∧ (if x5 < (J6 491 72) then ((0 : Int) ≤ ((500 * x1) + x5) ∧ ((500 * x1) + x5) < 60000) ∧ ((0 : Int) ≤ x5 ∧ x5 < 520) ∧ ∀ J15 : zM, J15 = zs J6 551 x5 (J6 511 ((500 * x1) + x5)) → K4 (x5 + 1) J15 L7 else w_X12_removePlace p1 p2 J6 L7 (fun J11 L12 => Q J11 L12))) 0 J3 L
set_option maxHeartbeats 4000000 in
set_option maxRecDepth 100000 in
theorem v_X12_take {b : Nat} {dC : Nat → ClassId} {dI : Nat → Nat → Nat} {cA : Nat → ClassId} {ts : Nat → Nat} {l : Launch} {n : Nat} {R : Nat → Nat → Option Nat} {al : Bool} (hn : 552 ≤ n) (hR : xRk R) {p1 : Int} {p2 : Int}  {J : zM} {L : yM} {Q : zM → yM → Prop} (h : w_X12_take p1 p2 J L Q) : xCn (xGm b dC dI cA ts) l mX12_take [.ref 491, .int (oI p1), .int (oI p2)] al (n, R, zi J, li L) 0 0 (zQ0 n R Q) (fun _ _ => False) := by
  refine xCn.ofJ (by decide) (Nat.le_of_ble_eq_true rfl) ?_
  show xJ _ _ _ _ _ _ _ _ _ 0 [(0, .ref 491), (1, .int (oI p1)), (2, .int (oI p2))] [] _ _ _ _ _
  unfold w_X12_take at h
  refine xr_bipush (v := oI 60) (xd dX12_take 0 rfl) (by decide) ?_
  refine xr_iload_n (xd dX12_take 1 rfl) 1 rfl ?_
  refine zr_imul (xd dX12_take 2 rfl) ?_
  refine xr_iload_n (xd dX12_take 3 rfl) 2 rfl ?_
  refine zr_iadd (xd dX12_take 4 rfl) ?_
  obtain ⟨x1, e_x1⟩ : ∃ z_ : Int, z_ = ((60 * p1) + p2) := ⟨_, rfl⟩
  replace h := h x1 e_x1
  refine zr_nm e_x1 ?_
  refine xr_istore_n [(0, .ref 491), (1, .int (oI p1)), (2, .int (oI p2)), (3, .int (oI x1))] (xd dX12_take 5 rfl) rfl (by decide) rfl ?_
  refine xr_aload_n (xd dX12_take 6 rfl) 0 rfl ?_
  refine xr_aload_n (xd dX12_take 7 rfl) 0 rfl ?_
  refine xr_getR (b := 510) 12 26 (xd dX12_take 8 rfl) f12_66 (by decide) (by decide) (lt552 hn (by decide)) kd_491 rfl (r_491_26 hR) ?_
  refine xr_iload_n (xd dX12_take 9 rfl) 3 rfl ?_
  obtain ⟨o2, h⟩ := h
  refine zr_iaload (xd dX12_take 10 rfl) (lt552 hn (by decide)) kd_510 ln_510 (by decide) o2 ?_
  obtain ⟨J3, e_J3⟩ : ∃ z_ : zM, z_ = zs J 491 72 (J 510 x1) := ⟨_, rfl⟩
  replace h := h J3 e_J3
  refine zr_putI 12 72 72 rfl e_J3 (xd dX12_take 11 rfl) f12_540 (by decide) (by decide) (lt552 hn (by decide)) kd_491 (Or.inl rfl) rfl rfl (fun _ => rfl) ?_
  refine xr_iconst (v := oI 0) (xd dX12_take 12 rfl) (by decide) ?_
  refine xr_istore [(0, .ref 491), (1, .int (oI p1)), (2, .int (oI p2)), (3, .int (oI x1)), (4, .int (oI 0))] (xd dX12_take 13 rfl) (by decide) rfl ?_
  refine h (fun x5 J6 L7 => xJ (xGm b dC dI cA ts) l mX12_take 0 0 (zQ0 n R Q) (fun _ _ => False) 0 0 20 [(0, .ref 491), (1, .int (oI p1)), (2, .int (oI p2)), (3, .int (oI x1)), (4, .int (oI x5))] [] al n R (zi J6) (li L7)) ?_
  intro x5 J6 L7 h
  show xJ _ _ _ _ _ _ _ _ _ 20 [(0, .ref 491), (1, .int (oI p1)), (2, .int (oI p2)), (3, .int (oI x1)), (4, .int (oI x5))] [] _ _ _ _ _
  refine xr_iload (xd dX12_take 14 rfl) 4 rfl ?_
  refine xr_aload_n (xd dX12_take 15 rfl) 0 rfl ?_
  refine zr_getI 12 72 72 rfl (xd dX12_take 16 rfl) f12_540 (by decide) (by decide) (lt552 hn (by decide)) kd_491 rfl ?_
  obtain ⟨o8, h⟩ := h
  obtain ⟨o9, h⟩ := h
  refine zr_icmp_ge 55 (xd dX12_take 17 rfl) (by decide) o8 o9 (fun c10 => ?_) (fun c10 => ?_)
  · replace h := ifn h c10
    refine xr_aload_n (xd dX12_take 32 rfl) 0 rfl ?_
    refine xr_iload_n (xd dX12_take 33 rfl) 1 rfl ?_
    refine xr_iload_n (xd dX12_take 34 rfl) 2 rfl ?_
    refine xr_callV mX12_removePlace 2 [.int (oI p1), .int (oI p2)] (xd dX12_take 35 rfl) l12_550 kX12_removePlace rfl (lt552 hn (by decide)) kd_491 (by decide) rfl (by decide) (Nat.le_of_ble_eq_true rfl) (v_X12_removePlace hn hR  h) (by decide) (by decide) (fun r_ M_ h_ => ?_) (fun _ _ h_ => h_.elim)
    obtain ⟨J11, L12, rfl, rfl, h⟩ := h_
    show xJ _ _ _ _ _ _ _ _ _ 61 [(0, .ref 491), (1, .int (oI p1)), (2, .int (oI p2)), (3, .int (oI x1)), (4, .int (oI x5))] [] _ _ _ (zi J11) (li L12)
    exact xr_vret (xd dX12_take 36 rfl) rfl (by decide) (by decide) (fun _ => rfl) ⟨_, _, rfl, rfl, h⟩
  · replace h := ifp h c10
    refine xr_aload_n (xd dX12_take 18 rfl) 0 rfl ?_
    refine xr_getR (b := 551) 12 71 (xd dX12_take 19 rfl) f12_190 (by decide) (by decide) (lt552 hn (by decide)) kd_491 rfl (r_491_71 hR) ?_
    refine xr_iload (xd dX12_take 20 rfl) 4 rfl ?_
    refine xr_aload_n (xd dX12_take 21 rfl) 0 rfl ?_
    refine xr_getR (b := 511) 12 27 (xd dX12_take 22 rfl) f12_70 (by decide) (by decide) (lt552 hn (by decide)) kd_491 rfl (r_491_27 hR) ?_
    refine xr_sipush (v := oI 500) (xd dX12_take 23 rfl) (by decide) ?_
    refine xr_iload_n (xd dX12_take 24 rfl) 3 rfl ?_
    refine zr_imul (xd dX12_take 25 rfl) ?_
    refine xr_iload (xd dX12_take 26 rfl) 4 rfl ?_
    refine zr_iadd (xd dX12_take 27 rfl) ?_
    obtain ⟨o13, h⟩ := h
    refine zr_iaload (xd dX12_take 28 rfl) (lt552 hn (by decide)) kd_511 ln_511 (by decide) o13 ?_
    obtain ⟨o14, h⟩ := h
    obtain ⟨J15, e_J15⟩ : ∃ z_ : zM, z_ = zs J6 551 x5 (J6 511 ((500 * x1) + x5)) := ⟨_, rfl⟩
    replace h := h J15 e_J15
    refine zr_iastore e_J15 (xd dX12_take 29 rfl) (lt552 hn (by decide)) kd_551 ln_551 (by decide) o14 ?_
    refine zr_iinc [(0, .ref 491), (1, .int (oI p1)), (2, .int (oI p2)), (3, .int (oI x1)), (4, .int (oI (x5 + 1)))] (xd dX12_take 30 rfl) 4 rfl (by decide) rfl ?_
    refine xr_goto 20 (xd dX12_take 31 rfl) (by decide) ?_
    exact h
def w_X12_sideTick (p1 : Int) (J : zM) (L : yM) (Q : zM → yM → Prop) : Prop := ((0 : Int) ≤ p1 ∧ p1 < 2) ∧ R32 (J 534 p1) ∧ (if (J 534 p1) = 4 then Q J L else ((0 : Int) ≤ p1 ∧ p1 < 2) ∧ ∀ K7 : zM → yM → Prop, (∀ (J5 : zM) (L6 : yM), (w_X12_hasTimer p1 J5 L6 (fun r10 J8 L9 => R32 r10 ∧ (if r10 = 0 then Q J8 L9 else ((0 : Int) ≤ p1 ∧ p1 < 2) ∧ ((0 : Int) ≤ p1 ∧ p1 < 2) ∧ R32 ((J8 491 3) - (J8 525 p1)) ∧ R32 (J8 524 p1) ∧ (if ((J8 491 3) - (J8 525 p1)) < (J8 524 p1) then Q J8 L9 else ((0 : Int) ≤ p1 ∧ p1 < 2) ∧ R32 (J8 526 p1) ∧ (if (J8 526 p1) = 8 then w_X12_die p1 J8 L9 (fun J39 L40 => Q J39 L40) else ((0 : Int) ≤ p1 ∧ p1 < 2) ∧ ((0 : Int) ≤ p1 ∧ p1 < 2) ∧ ∀ J23 : zM, J23 = zs J8 526 p1 ((J8 526 p1) + 1) → ((0 : Int) ≤ p1 ∧ p1 < 2) ∧ ((0 : Int) ≤ p1 ∧ p1 < 2) ∧ ∀ J26 : zM, J26 = zs J23 527 p1 ((J23 527 p1) + 1) → ((0 : Int) ≤ p1 ∧ p1 < 2) ∧ ∀ K31 : Int → zM → yM → Prop, (∀ (x28 : Int) (J29 : zM) (L30 : yM), (((0 : Int) ≤ p1 ∧ p1 < 2) ∧ ∀ J33 : zM, J33 = zs J29 524 p1 x28 → w_X12_fly p1 J33 L30 (fun J34 L35 => Q J34 L35)) → K31 x28 J29 L30) → R32 ((J26 524 p1) * 2) ∧ (if 32 < ((J26 524 p1) * 2) then K31 32 J26 L9 else ((0 : Int) ≤ p1 ∧ p1 < 2) ∧ K31 ((J26 524 p1) * 2) J26 L9)))))) → K7 J5 L6) → (if (J 534 p1) = 1 then ((0 : Int) ≤ p1 ∧ p1 < 2) ∧ R32 (J 530 p1) ∧ (if 0 < (J 530 p1) then ((0 : Int) ≤ p1 ∧ p1 < 2) ∧ R32 (J 491 3) ∧ R32 ((J 533 p1) + 2) ∧ (if (J 491 3) = ((J 533 p1) + 2) then w_X12_acks p1 J L (fun J49 L50 => K7 J49 L50) else K7 J L) else K7 J L) else K7 J L))
set_option maxHeartbeats 4000000 in
set_option maxRecDepth 100000 in
theorem v_X12_sideTick {b : Nat} {dC : Nat → ClassId} {dI : Nat → Nat → Nat} {cA : Nat → ClassId} {ts : Nat → Nat} {l : Launch} {n : Nat} {R : Nat → Nat → Option Nat} {al : Bool} (hn : 552 ≤ n) (hR : xRk R) {p1 : Int}  {J : zM} {L : yM} {Q : zM → yM → Prop} (h : w_X12_sideTick p1 J L Q) : xCn (xGm b dC dI cA ts) l mX12_sideTick [.ref 491, .int (oI p1)] al (n, R, zi J, li L) 0 0 (zQ0 n R Q) (fun _ _ => False) := by
  refine xCn.ofJ (by decide) (Nat.le_of_ble_eq_true rfl) ?_
  show xJ _ _ _ _ _ _ _ _ _ 0 [(0, .ref 491), (1, .int (oI p1))] [] _ _ _ _ _
  unfold w_X12_sideTick at h
  refine xr_aload_n (xd dX12_sideTick 0 rfl) 0 rfl ?_
  refine xr_getR (b := 534) 12 52 (xd dX12_sideTick 1 rfl) f12_139 (by decide) (by decide) (lt552 hn (by decide)) kd_491 rfl (r_491_52 hR) ?_
  refine xr_iload_n (xd dX12_sideTick 2 rfl) 1 rfl ?_
  obtain ⟨o1, h⟩ := h
  refine zr_iaload (xd dX12_sideTick 3 rfl) (lt552 hn (by decide)) kd_534 ln_534 (by decide) o1 ?_
  refine xr_iconst (v := oI 4) (xd dX12_sideTick 4 rfl) (by decide) ?_
  obtain ⟨o2, h⟩ := h
  refine zr_icmp_ne 11 (xd dX12_sideTick 5 rfl) (by decide) o2 (by decide) (fun c3 => ?_) (fun c3 => ?_)
  · replace h := ifn h c3
    refine xr_aload_n (xd dX12_sideTick 7 rfl) 0 rfl ?_
    refine xr_getR (b := 534) 12 52 (xd dX12_sideTick 8 rfl) f12_139 (by decide) (by decide) (lt552 hn (by decide)) kd_491 rfl (r_491_52 hR) ?_
    refine xr_iload_n (xd dX12_sideTick 9 rfl) 1 rfl ?_
    obtain ⟨o4, h⟩ := h
    refine zr_iaload (xd dX12_sideTick 10 rfl) (lt552 hn (by decide)) kd_534 ln_534 (by decide) o4 ?_
    refine xr_iconst (v := oI 1) (xd dX12_sideTick 11 rfl) (by decide) ?_
    replace h := h (fun (J5 : zM) (L6 : yM) => xJ (xGm b dC dI cA ts) l mX12_sideTick 0 0 (zQ0 n R Q) (fun _ _ => False) 0 0 50 [(0, .ref 491), (1, .int (oI p1))] [] al n R (zi J5) (li L6)) (by
      intro J5 L6 h
      show xJ _ _ _ _ _ _ _ _ _ 50 [(0, .ref 491), (1, .int (oI p1))] [] _ _ _ _ _
      refine xr_aload_n (xd dX12_sideTick 30 rfl) 0 rfl ?_
      refine xr_iload_n (xd dX12_sideTick 31 rfl) 1 rfl ?_
      refine xr_callV mX12_hasTimer 1 [.int (oI p1)] (xd dX12_sideTick 32 rfl) l12_513 kX12_hasTimer rfl (lt552 hn (by decide)) kd_491 (by decide) rfl (by decide) (Nat.le_of_ble_eq_true rfl) (v_X12_hasTimer hn hR  h) (by decide) (by decide) (fun r_ M_ h_ => ?_) (fun _ _ h_ => h_.elim)
      obtain ⟨r10, J8, L9, rfl, rfl, h⟩ := h_
      show xJ _ _ _ _ _ _ _ _ _ 55 [(0, .ref 491), (1, .int (oI p1))] [.int (oI r10)] _ _ _ (zi J8) (li L9)
      obtain ⟨o11, h⟩ := h
      refine zr_if_eq 154 (xd dX12_sideTick 33 rfl) (by decide) o11 (fun c12 => ?_) (fun c12 => ?_)
      · replace h := ifp h c12
        exact xr_vret (xd dX12_sideTick 95 rfl) rfl (by decide) (by decide) (fun _ => rfl) ⟨_, _, rfl, rfl, h⟩
      · replace h := ifn h c12
        refine xr_aload_n (xd dX12_sideTick 34 rfl) 0 rfl ?_
        refine zr_getI 12 3 3 rfl (xd dX12_sideTick 35 rfl) f12_360 (by decide) (by decide) (lt552 hn (by decide)) kd_491 rfl ?_
        refine xr_aload_n (xd dX12_sideTick 36 rfl) 0 rfl ?_
        refine xr_getR (b := 525) 12 43 (xd dX12_sideTick 37 rfl) f12_112 (by decide) (by decide) (lt552 hn (by decide)) kd_491 rfl (r_491_43 hR) ?_
        refine xr_iload_n (xd dX12_sideTick 38 rfl) 1 rfl ?_
        obtain ⟨o13, h⟩ := h
        refine zr_iaload (xd dX12_sideTick 39 rfl) (lt552 hn (by decide)) kd_525 ln_525 (by decide) o13 ?_
        refine zr_isub (xd dX12_sideTick 40 rfl) ?_
        refine xr_aload_n (xd dX12_sideTick 41 rfl) 0 rfl ?_
        refine xr_getR (b := 524) 12 42 (xd dX12_sideTick 42 rfl) f12_109 (by decide) (by decide) (lt552 hn (by decide)) kd_491 rfl (r_491_42 hR) ?_
        refine xr_iload_n (xd dX12_sideTick 43 rfl) 1 rfl ?_
        obtain ⟨o14, h⟩ := h
        refine zr_iaload (xd dX12_sideTick 44 rfl) (lt552 hn (by decide)) kd_524 ln_524 (by decide) o14 ?_
        obtain ⟨o15, h⟩ := h
        obtain ⟨o16, h⟩ := h
        refine zr_icmp_lt 154 (xd dX12_sideTick 45 rfl) (by decide) o15 o16 (fun c17 => ?_) (fun c17 => ?_)
        · replace h := ifp h c17
          exact xr_vret (xd dX12_sideTick 95 rfl) rfl (by decide) (by decide) (fun _ => rfl) ⟨_, _, rfl, rfl, h⟩
        · replace h := ifn h c17
          refine xr_aload_n (xd dX12_sideTick 46 rfl) 0 rfl ?_
          refine xr_getR (b := 526) 12 44 (xd dX12_sideTick 47 rfl) f12_115 (by decide) (by decide) (lt552 hn (by decide)) kd_491 rfl (r_491_44 hR) ?_
          refine xr_iload_n (xd dX12_sideTick 48 rfl) 1 rfl ?_
          obtain ⟨o18, h⟩ := h
          refine zr_iaload (xd dX12_sideTick 49 rfl) (lt552 hn (by decide)) kd_526 ln_526 (by decide) o18 ?_
          refine xr_bipush (v := oI 8) (xd dX12_sideTick 50 rfl) (by decide) ?_
          obtain ⟨o19, h⟩ := h
          refine zr_icmp_ne 97 (xd dX12_sideTick 51 rfl) (by decide) o19 (by decide) (fun c20 => ?_) (fun c20 => ?_)
          · replace h := ifn h c20
            refine xr_aload_n (xd dX12_sideTick 56 rfl) 0 rfl ?_
            refine xr_getR (b := 526) 12 44 (xd dX12_sideTick 57 rfl) f12_115 (by decide) (by decide) (lt552 hn (by decide)) kd_491 rfl (r_491_44 hR) ?_
            refine xr_iload_n (xd dX12_sideTick 58 rfl) 1 rfl ?_
            refine xr_dup2 (xd dX12_sideTick 59 rfl) rfl rfl ?_
            obtain ⟨o21, h⟩ := h
            refine zr_iaload (xd dX12_sideTick 60 rfl) (lt552 hn (by decide)) kd_526 ln_526 (by decide) o21 ?_
            refine xr_iconst (v := oI 1) (xd dX12_sideTick 61 rfl) (by decide) ?_
            refine zr_iadd (xd dX12_sideTick 62 rfl) ?_
            obtain ⟨o22, h⟩ := h
            obtain ⟨J23, e_J23⟩ : ∃ z_ : zM, z_ = zs J8 526 p1 ((J8 526 p1) + 1) := ⟨_, rfl⟩
            replace h := h J23 e_J23
            refine zr_iastore e_J23 (xd dX12_sideTick 63 rfl) (lt552 hn (by decide)) kd_526 ln_526 (by decide) o22 ?_
            refine xr_aload_n (xd dX12_sideTick 64 rfl) 0 rfl ?_
            refine xr_getR (b := 527) 12 45 (xd dX12_sideTick 65 rfl) f12_118 (by decide) (by decide) (lt552 hn (by decide)) kd_491 rfl (r_491_45 hR) ?_
            refine xr_iload_n (xd dX12_sideTick 66 rfl) 1 rfl ?_
            refine xr_dup2 (xd dX12_sideTick 67 rfl) rfl rfl ?_
            obtain ⟨o24, h⟩ := h
            refine zr_iaload (xd dX12_sideTick 68 rfl) (lt552 hn (by decide)) kd_527 ln_527 (by decide) o24 ?_
            refine xr_iconst (v := oI 1) (xd dX12_sideTick 69 rfl) (by decide) ?_
            refine zr_iadd (xd dX12_sideTick 70 rfl) ?_
            obtain ⟨o25, h⟩ := h
            obtain ⟨J26, e_J26⟩ : ∃ z_ : zM, z_ = zs J23 527 p1 ((J23 527 p1) + 1) := ⟨_, rfl⟩
            replace h := h J26 e_J26
            refine zr_iastore e_J26 (xd dX12_sideTick 71 rfl) (lt552 hn (by decide)) kd_527 ln_527 (by decide) o25 ?_
            refine xr_aload_n (xd dX12_sideTick 72 rfl) 0 rfl ?_
            refine xr_getR (b := 524) 12 42 (xd dX12_sideTick 73 rfl) f12_109 (by decide) (by decide) (lt552 hn (by decide)) kd_491 rfl (r_491_42 hR) ?_
            refine xr_iload_n (xd dX12_sideTick 74 rfl) 1 rfl ?_
            refine xr_aload_n (xd dX12_sideTick 75 rfl) 0 rfl ?_
            refine xr_getR (b := 524) 12 42 (xd dX12_sideTick 76 rfl) f12_109 (by decide) (by decide) (lt552 hn (by decide)) kd_491 rfl (r_491_42 hR) ?_
            refine xr_iload_n (xd dX12_sideTick 77 rfl) 1 rfl ?_
            obtain ⟨o27, h⟩ := h
            refine zr_iaload (xd dX12_sideTick 78 rfl) (lt552 hn (by decide)) kd_524 ln_524 (by decide) o27 ?_
            refine xr_iconst (v := oI 2) (xd dX12_sideTick 79 rfl) (by decide) ?_
            refine zr_imul (xd dX12_sideTick 80 rfl) ?_
            refine xr_bipush (v := oI 32) (xd dX12_sideTick 81 rfl) (by decide) ?_
            replace h := h (fun (x28 : Int) (J29 : zM) (L30 : yM) => xJ (xGm b dC dI cA ts) l mX12_sideTick 0 0 (zQ0 n R Q) (fun _ _ => False) 0 0 148 [(0, .ref 491), (1, .int (oI p1))] [.int (oI x28), .int (oI p1), .ref 524] al n R (zi J29) (li L30)) (by
              intro x28 J29 L30 h
              show xJ _ _ _ _ _ _ _ _ _ 148 [(0, .ref 491), (1, .int (oI p1))] [.int (oI x28), .int (oI p1), .ref 524] _ _ _ _ _
              obtain ⟨o32, h⟩ := h
              obtain ⟨J33, e_J33⟩ : ∃ z_ : zM, z_ = zs J29 524 p1 x28 := ⟨_, rfl⟩
              replace h := h J33 e_J33
              refine zr_iastore e_J33 (xd dX12_sideTick 91 rfl) (lt552 hn (by decide)) kd_524 ln_524 (by decide) o32 ?_
              refine xr_aload_n (xd dX12_sideTick 92 rfl) 0 rfl ?_
              refine xr_iload_n (xd dX12_sideTick 93 rfl) 1 rfl ?_
              refine xr_callV mX12_fly 1 [.int (oI p1)] (xd dX12_sideTick 94 rfl) l12_421 kX12_fly rfl (lt552 hn (by decide)) kd_491 (by decide) rfl (by decide) (Nat.le_of_ble_eq_true rfl) (v_X12_fly hn hR  h) (by decide) (by decide) (fun r_ M_ h_ => ?_) (fun _ _ h_ => h_.elim)
              obtain ⟨J34, L35, rfl, rfl, h⟩ := h_
              show xJ _ _ _ _ _ _ _ _ _ 154 [(0, .ref 491), (1, .int (oI p1))] [] _ _ _ (zi J34) (li L35)
              exact xr_vret (xd dX12_sideTick 95 rfl) rfl (by decide) (by decide) (fun _ => rfl) ⟨_, _, rfl, rfl, h⟩)
            obtain ⟨o36, h⟩ := h
            refine zr_icmp_le 140 (xd dX12_sideTick 82 rfl) (by decide) o36 (by decide) (fun c37 => ?_) (fun c37 => ?_)
            · replace h := ifn h c37
              refine xr_aload_n (xd dX12_sideTick 85 rfl) 0 rfl ?_
              refine xr_getR (b := 524) 12 42 (xd dX12_sideTick 86 rfl) f12_109 (by decide) (by decide) (lt552 hn (by decide)) kd_491 rfl (r_491_42 hR) ?_
              refine xr_iload_n (xd dX12_sideTick 87 rfl) 1 rfl ?_
              obtain ⟨o38, h⟩ := h
              refine zr_iaload (xd dX12_sideTick 88 rfl) (lt552 hn (by decide)) kd_524 ln_524 (by decide) o38 ?_
              refine xr_iconst (v := oI 2) (xd dX12_sideTick 89 rfl) (by decide) ?_
              refine zr_imul (xd dX12_sideTick 90 rfl) ?_
              exact h
            · replace h := ifp h c37
              refine xr_bipush (v := oI 32) (xd dX12_sideTick 83 rfl) (by decide) ?_
              refine xr_goto 148 (xd dX12_sideTick 84 rfl) (by decide) ?_
              exact h
          · replace h := ifp h c20
            refine xr_aload_n (xd dX12_sideTick 52 rfl) 0 rfl ?_
            refine xr_iload_n (xd dX12_sideTick 53 rfl) 1 rfl ?_
            refine xr_callV mX12_die 1 [.int (oI p1)] (xd dX12_sideTick 54 rfl) l12_380 kX12_die rfl (lt552 hn (by decide)) kd_491 (by decide) rfl (by decide) (Nat.le_of_ble_eq_true rfl) (v_X12_die hn hR  h) (by decide) (by decide) (fun r_ M_ h_ => ?_) (fun _ _ h_ => h_.elim)
            obtain ⟨J39, L40, rfl, rfl, h⟩ := h_
            show xJ _ _ _ _ _ _ _ _ _ 94 [(0, .ref 491), (1, .int (oI p1))] [] _ _ _ (zi J39) (li L40)
            refine xr_goto 154 (xd dX12_sideTick 55 rfl) (by decide) ?_
            exact xr_vret (xd dX12_sideTick 95 rfl) rfl (by decide) (by decide) (fun _ => rfl) ⟨_, _, rfl, rfl, h⟩)
    refine zr_icmp_ne 50 (xd dX12_sideTick 12 rfl) (by decide) o2 (by decide) (fun c41 => ?_) (fun c41 => ?_)
    · replace h := ifn h c41
      exact h
    · replace h := ifp h c41
      refine xr_aload_n (xd dX12_sideTick 13 rfl) 0 rfl ?_
      refine xr_getR (b := 530) 12 48 (xd dX12_sideTick 14 rfl) f12_127 (by decide) (by decide) (lt552 hn (by decide)) kd_491 rfl (r_491_48 hR) ?_
      refine xr_iload_n (xd dX12_sideTick 15 rfl) 1 rfl ?_
      obtain ⟨o42, h⟩ := h
      refine zr_iaload (xd dX12_sideTick 16 rfl) (lt552 hn (by decide)) kd_530 ln_530 (by decide) o42 ?_
      obtain ⟨o43, h⟩ := h
      refine zr_if_le 50 (xd dX12_sideTick 17 rfl) (by decide) o43 (fun c44 => ?_) (fun c44 => ?_)
      · replace h := ifn h c44
        exact h
      · replace h := ifp h c44
        refine xr_aload_n (xd dX12_sideTick 18 rfl) 0 rfl ?_
        refine zr_getI 12 3 3 rfl (xd dX12_sideTick 19 rfl) f12_360 (by decide) (by decide) (lt552 hn (by decide)) kd_491 rfl ?_
        refine xr_aload_n (xd dX12_sideTick 20 rfl) 0 rfl ?_
        refine xr_getR (b := 533) 12 51 (xd dX12_sideTick 21 rfl) f12_136 (by decide) (by decide) (lt552 hn (by decide)) kd_491 rfl (r_491_51 hR) ?_
        refine xr_iload_n (xd dX12_sideTick 22 rfl) 1 rfl ?_
        obtain ⟨o45, h⟩ := h
        refine zr_iaload (xd dX12_sideTick 23 rfl) (lt552 hn (by decide)) kd_533 ln_533 (by decide) o45 ?_
        refine xr_iconst (v := oI 2) (xd dX12_sideTick 24 rfl) (by decide) ?_
        refine zr_iadd (xd dX12_sideTick 25 rfl) ?_
        obtain ⟨o46, h⟩ := h
        obtain ⟨o47, h⟩ := h
        refine zr_icmp_ne 50 (xd dX12_sideTick 26 rfl) (by decide) o46 o47 (fun c48 => ?_) (fun c48 => ?_)
        · replace h := ifn h c48
          exact h
        · replace h := ifp h c48
          refine xr_aload_n (xd dX12_sideTick 27 rfl) 0 rfl ?_
          refine xr_iload_n (xd dX12_sideTick 28 rfl) 1 rfl ?_
          refine xr_callV mX12_acks 1 [.int (oI p1)] (xd dX12_sideTick 29 rfl) l12_466 kX12_acks rfl (lt552 hn (by decide)) kd_491 (by decide) rfl (by decide) (Nat.le_of_ble_eq_true rfl) (v_X12_acks hn hR  h) (by decide) (by decide) (fun r_ M_ h_ => ?_) (fun _ _ h_ => h_.elim)
          obtain ⟨J49, L50, rfl, rfl, h⟩ := h_
          show xJ _ _ _ _ _ _ _ _ _ 50 [(0, .ref 491), (1, .int (oI p1))] [] _ _ _ (zi J49) (li L50)
          exact h
  · replace h := ifp h c3
    exact xr_vret (xd dX12_sideTick 6 rfl) rfl (by decide) (by decide) (fun _ => rfl) ⟨_, _, rfl, rfl, h⟩
def w_X12_ticks  (J : zM) (L : yM) (Q : zM → yM → Prop) : Prop := ∀ J1 : zM, J1 = zs J 491 3 ((J 491 3) + 1) → w_X12_sideTick 0 J1 L (fun J2 L3 => w_X12_sideTick 1 J2 L3 (fun J4 L5 => Q J4 L5))
set_option maxHeartbeats 4000000 in
set_option maxRecDepth 100000 in
theorem v_X12_ticks {b : Nat} {dC : Nat → ClassId} {dI : Nat → Nat → Nat} {cA : Nat → ClassId} {ts : Nat → Nat} {l : Launch} {n : Nat} {R : Nat → Nat → Option Nat} {al : Bool} (hn : 552 ≤ n) (hR : xRk R)   {J : zM} {L : yM} {Q : zM → yM → Prop} (h : w_X12_ticks  J L Q) : xCn (xGm b dC dI cA ts) l mX12_ticks [.ref 491] al (n, R, zi J, li L) 0 0 (zQ0 n R Q) (fun _ _ => False) := by
  refine xCn.ofJ (by decide) (Nat.le_of_ble_eq_true rfl) ?_
  show xJ _ _ _ _ _ _ _ _ _ 0 [(0, .ref 491)] [] _ _ _ _ _
  unfold w_X12_ticks at h
  refine xr_aload_n (xd dX12_ticks 0 rfl) 0 rfl ?_
  refine xr_dup (xd dX12_ticks 1 rfl) rfl ?_
  refine zr_getI 12 3 3 rfl (xd dX12_ticks 2 rfl) f12_360 (by decide) (by decide) (lt552 hn (by decide)) kd_491 rfl ?_
  refine xr_iconst (v := oI 1) (xd dX12_ticks 3 rfl) (by decide) ?_
  refine zr_iadd (xd dX12_ticks 4 rfl) ?_
  obtain ⟨J1, e_J1⟩ : ∃ z_ : zM, z_ = zs J 491 3 ((J 491 3) + 1) := ⟨_, rfl⟩
  replace h := h J1 e_J1
  refine zr_putI 12 3 3 rfl e_J1 (xd dX12_ticks 5 rfl) f12_360 (by decide) (by decide) (lt552 hn (by decide)) kd_491 (Or.inl rfl) rfl rfl (fun _ => rfl) ?_
  refine xr_aload_n (xd dX12_ticks 6 rfl) 0 rfl ?_
  refine xr_iconst (v := oI 0) (xd dX12_ticks 7 rfl) (by decide) ?_
  refine xr_callV mX12_sideTick 1 [.int (oI 0)] (xd dX12_ticks 8 rfl) l12_553 kX12_sideTick rfl (lt552 hn (by decide)) kd_491 (by decide) rfl (by decide) (Nat.le_of_ble_eq_true rfl) (v_X12_sideTick hn hR  h) (by decide) (by decide) (fun r_ M_ h_ => ?_) (fun _ _ h_ => h_.elim)
  obtain ⟨J2, L3, rfl, rfl, h⟩ := h_
  show xJ _ _ _ _ _ _ _ _ _ 15 [(0, .ref 491)] [] _ _ _ (zi J2) (li L3)
  refine xr_aload_n (xd dX12_ticks 9 rfl) 0 rfl ?_
  refine xr_iconst (v := oI 1) (xd dX12_ticks 10 rfl) (by decide) ?_
  refine xr_callV mX12_sideTick 1 [.int (oI 1)] (xd dX12_ticks 11 rfl) l12_553 kX12_sideTick rfl (lt552 hn (by decide)) kd_491 (by decide) rfl (by decide) (Nat.le_of_ble_eq_true rfl) (v_X12_sideTick hn hR  h) (by decide) (by decide) (fun r_ M_ h_ => ?_) (fun _ _ h_ => h_.elim)
  obtain ⟨J4, L5, rfl, rfl, h⟩ := h_
  show xJ _ _ _ _ _ _ _ _ _ 20 [(0, .ref 491)] [] _ _ _ (zi J4) (li L5)
  exact xr_vret (xd dX12_ticks 12 rfl) rfl (by decide) (by decide) (fun _ => rfl) ⟨_, _, rfl, rfl, h⟩
def w_X12_tick  (J : zM) (L : yM) (Q : Int → zM → yM → Prop) : Prop := ∀ J1 : zM, J1 = zs J 491 0 0 → w_X12_ticks J1 L (fun J2 L3 => Q (J2 491 3) J2 L3)
set_option maxHeartbeats 4000000 in
set_option maxRecDepth 100000 in
theorem v_X12_tick {b : Nat} {dC : Nat → ClassId} {dI : Nat → Nat → Nat} {cA : Nat → ClassId} {ts : Nat → Nat} {l : Launch} {n : Nat} {R : Nat → Nat → Option Nat} {al : Bool} (hn : 552 ≤ n) (hR : xRk R)   {J : zM} {L : yM} {Q : Int → zM → yM → Prop} (h : w_X12_tick  J L Q) : xCn (xGm b dC dI cA ts) l mX12_tick [.ref 491] al (n, R, zi J, li L) 0 0 (zQ1 n R Q) (fun _ _ => False) := by
  refine xCn.ofJ (by decide) (Nat.le_of_ble_eq_true rfl) ?_
  show xJ _ _ _ _ _ _ _ _ _ 0 [(0, .ref 491)] [] _ _ _ _ _
  unfold w_X12_tick at h
  refine xr_aload_n (xd dX12_tick 0 rfl) 0 rfl ?_
  refine xr_iconst (v := oI 0) (xd dX12_tick 1 rfl) (by decide) ?_
  obtain ⟨J1, e_J1⟩ : ∃ z_ : zM, z_ = zs J 491 0 0 := ⟨_, rfl⟩
  replace h := h J1 e_J1
  refine zr_putI 12 0 0 rfl e_J1 (xd dX12_tick 2 rfl) f12_200 (by decide) (by decide) (lt552 hn (by decide)) kd_491 (Or.inl rfl) rfl rfl (fun _ => rfl) ?_
  refine xr_aload_n (xd dX12_tick 3 rfl) 0 rfl ?_
  refine xr_callV mX12_ticks 0 [] (xd dX12_tick 4 rfl) l12_556 kX12_ticks rfl (lt552 hn (by decide)) kd_491 (by decide) rfl (by decide) (Nat.le_of_ble_eq_true rfl) (v_X12_ticks hn hR  h) (by decide) (by decide) (fun r_ M_ h_ => ?_) (fun _ _ h_ => h_.elim)
  obtain ⟨J2, L3, rfl, rfl, h⟩ := h_
  show xJ _ _ _ _ _ _ _ _ _ 9 [(0, .ref 491)] [] _ _ _ (zi J2) (li L3)
  refine xr_aload_n (xd dX12_tick 5 rfl) 0 rfl ?_
  refine zr_getI 12 3 3 rfl (xd dX12_tick 6 rfl) f12_360 (by decide) (by decide) (lt552 hn (by decide)) kd_491 rfl ?_
  exact xr_iret (xd dX12_tick 7 rfl) rfl (by decide) (by decide) (fun _ => rfl) ⟨_, _, _, rfl, rfl, h⟩
def w_X12_run (p1 : Int) (J : zM) (L : yM) (Q : Int → zM → yM → Prop) : Prop := ∀ K4 : Int → zM → yM → Prop, (∀ (x1 : Int) (J2 : zM) (L3 : yM), (∀ J5 : zM, J5 = zs J2 491 0 x1 → zl_zz (fun K6 x7 x8 J9 L10 => R32 x8 ∧ R32 p1 ∧ (if x8 < p1 then R32 (J9 491 0) ∧ (if (J9 491 0) = 0 then zl_zz (fun K16 x17 x18 J19 L20 => R32 x18 ∧ (if x18 < 0 then w_X12_ticks J19 L20 (fun J23 L24 => K6 x17 (x8 + 1) J23 L24) else ((0 : Int) ≤ x18 ∧ x18 < 2) ∧ ∀ x26 : Int, x26 = (J19 509 x18) → zl_zz (fun K27 x28 x29 J30 L31 => R32 x29 ∧ (if 0 < x29 then w_X12_take x18 0 J30 L31 (fun J34 L35 => w_X12_arrives x18 J34 L35 (fun r38 J36 L37 => K27 (x28 + 1) (x29 + (-1)) J36 L37)) else K16 x28 (x18 + (-1)) J30 L31)) x17 x26 J19 L20)) x7 1 J9 L10 else Q x7 J9 L10) else Q x7 J9 L10)) 0 0 J5 L3) → K4 x1 J2 L3) → ∀ K41 : zM → yM → Prop, (∀ (J39 : zM) (L40 : yM), (K4 1 J39 L40) → K41 J39 L40) → R32 p1 ∧ (if p1 < 0 then K41 J L else (if 100 < p1 then K41 J L else K4 0 J L))
set_option maxHeartbeats 4000000 in
set_option maxRecDepth 100000 in
theorem v_X12_run {b : Nat} {dC : Nat → ClassId} {dI : Nat → Nat → Nat} {cA : Nat → ClassId} {ts : Nat → Nat} {l : Launch} {n : Nat} {R : Nat → Nat → Option Nat} {al : Bool} (hn : 552 ≤ n) (hR : xRk R) {p1 : Int}  {J : zM} {L : yM} {Q : Int → zM → yM → Prop} (h : w_X12_run p1 J L Q) : xCn (xGm b dC dI cA ts) l mX12_run [.ref 491, .int (oI p1)] al (n, R, zi J, li L) 0 0 (zQ1 n R Q) (fun _ _ => False) := by
  refine xCn.ofJ (by decide) (Nat.le_of_ble_eq_true rfl) ?_
  show xJ _ _ _ _ _ _ _ _ _ 0 [(0, .ref 491), (1, .int (oI p1))] [] _ _ _ _ _
  unfold w_X12_run at h
  refine xr_aload_n (xd dX12_run 0 rfl) 0 rfl ?_
  refine xr_iload_n (xd dX12_run 1 rfl) 1 rfl ?_
  replace h := h (fun (x1 : Int) (J2 : zM) (L3 : yM) => xJ (xGm b dC dI cA ts) l mX12_run 0 0 (zQ1 n R Q) (fun _ _ => False) 0 0 16 [(0, .ref 491), (1, .int (oI p1))] [.int (oI x1), .ref 491] al n R (zi J2) (li L3)) (by
    intro x1 J2 L3 h
    show xJ _ _ _ _ _ _ _ _ _ 16 [(0, .ref 491), (1, .int (oI p1))] [.int (oI x1), .ref 491] _ _ _ _ _
    obtain ⟨J5, e_J5⟩ : ∃ z_ : zM, z_ = zs J2 491 0 x1 := ⟨_, rfl⟩
    replace h := h J5 e_J5
    refine zr_putI 12 0 0 rfl e_J5 (xd dX12_run 9 rfl) f12_200 (by decide) (by decide) (lt552 hn (by decide)) kd_491 (Or.inl rfl) rfl rfl (fun _ => rfl) ?_
    refine xr_iconst (v := oI 0) (xd dX12_run 10 rfl) (by decide) ?_
    refine xr_istore_n [(0, .ref 491), (1, .int (oI p1)), (2, .int (oI 0))] (xd dX12_run 11 rfl) rfl (by decide) rfl ?_
    refine xr_iconst (v := oI 0) (xd dX12_run 12 rfl) (by decide) ?_
    refine xr_istore_n [(0, .ref 491), (1, .int (oI p1)), (2, .int (oI 0)), (3, .int (oI 0))] (xd dX12_run 13 rfl) rfl (by decide) rfl ?_
    refine h (fun x7 x8 J9 L10 => xJ (xGm b dC dI cA ts) l mX12_run 0 0 (zQ1 n R Q) (fun _ _ => False) 0 0 23 [(0, .ref 491), (1, .int (oI p1)), (2, .int (oI x7)), (3, .int (oI x8))] [] al n R (zi J9) (li L10)) ?_
    intro x7 x8 J9 L10 h
    show xJ _ _ _ _ _ _ _ _ _ 23 [(0, .ref 491), (1, .int (oI p1)), (2, .int (oI x7)), (3, .int (oI x8))] [] _ _ _ _ _
    refine xr_iload_n (xd dX12_run 14 rfl) 3 rfl ?_
    refine xr_iload_n (xd dX12_run 15 rfl) 1 rfl ?_
    obtain ⟨o11, h⟩ := h
    obtain ⟨o12, h⟩ := h
    refine zr_icmp_ge 97 (xd dX12_run 16 rfl) (by decide) o11 o12 (fun c13 => ?_) (fun c13 => ?_)
    · replace h := ifn h c13
      refine xr_iload_n (xd dX12_run 48 rfl) 2 rfl ?_
      exact xr_iret (xd dX12_run 49 rfl) rfl (by decide) (by decide) (fun _ => rfl) ⟨_, _, _, rfl, rfl, h⟩
    · replace h := ifp h c13
      refine xr_aload_n (xd dX12_run 17 rfl) 0 rfl ?_
      refine zr_getI 12 0 0 rfl (xd dX12_run 18 rfl) f12_200 (by decide) (by decide) (lt552 hn (by decide)) kd_491 rfl ?_
      obtain ⟨o14, h⟩ := h
      refine zr_if_ne 97 (xd dX12_run 19 rfl) (by decide) o14 (fun c15 => ?_) (fun c15 => ?_)
      · replace h := ifn h c15
        refine xr_iload_n (xd dX12_run 48 rfl) 2 rfl ?_
        exact xr_iret (xd dX12_run 49 rfl) rfl (by decide) (by decide) (fun _ => rfl) ⟨_, _, _, rfl, rfl, h⟩
      · replace h := ifp h c15
        refine xr_iconst (v := oI 1) (xd dX12_run 20 rfl) (by decide) ?_
        refine xr_istore [(0, .ref 491), (1, .int (oI p1)), (2, .int (oI x7)), (3, .int (oI x8)), (4, .int (oI 1))] (xd dX12_run 21 rfl) (by decide) rfl ?_
        refine h (fun x17 x18 J19 L20 => xJ (xGm b dC dI cA ts) l mX12_run 0 0 (zQ1 n R Q) (fun _ _ => False) 0 0 38 [(0, .ref 491), (1, .int (oI p1)), (2, .int (oI x17)), (3, .int (oI x8)), (4, .int (oI x18))] [] al n R (zi J19) (li L20)) ?_
        intro x17 x18 J19 L20 h
        show xJ _ _ _ _ _ _ _ _ _ 38 [(0, .ref 491), (1, .int (oI p1)), (2, .int (oI x17)), (3, .int (oI x8)), (4, .int (oI x18))] [] _ _ _ _ _
        refine xr_iload (xd dX12_run 22 rfl) 4 rfl ?_
        obtain ⟨o21, h⟩ := h
        refine zr_if_lt 87 (xd dX12_run 23 rfl) (by decide) o21 (fun c22 => ?_) (fun c22 => ?_)
        · replace h := ifp h c22
          refine xr_aload_n (xd dX12_run 44 rfl) 0 rfl ?_
          refine xr_callV mX12_ticks 0 [] (xd dX12_run 45 rfl) l12_556 kX12_ticks rfl (lt552 hn (by decide)) kd_491 (by decide) rfl (by decide) (Nat.le_of_ble_eq_true rfl) (v_X12_ticks hn hR  h) (by decide) (by decide) (fun r_ M_ h_ => ?_) (fun _ _ h_ => h_.elim)
          obtain ⟨J23, L24, rfl, rfl, h⟩ := h_
          show xJ _ _ _ _ _ _ _ _ _ 91 [(0, .ref 491), (1, .int (oI p1)), (2, .int (oI x17)), (3, .int (oI x8)), (4, .int (oI x18))] [] _ _ _ (zi J23) (li L24)
          refine zr_iinc [(0, .ref 491), (1, .int (oI p1)), (2, .int (oI x17)), (3, .int (oI (x8 + 1))), (4, .int (oI x18))] (xd dX12_run 46 rfl) 3 rfl (by decide) rfl ?_
          refine xr_goto 23 (xd dX12_run 47 rfl) (by decide) ?_
          refine xJ.pick (ls' := [(0, .ref 491), (1, .int (oI p1)), (2, .int (oI x17)), (3, .int (oI (x8 + 1)))]) [0, 1, 2, 3] rfl ?_
          exact h
        · replace h := ifn h c22
          refine xr_aload_n (xd dX12_run 24 rfl) 0 rfl ?_
          refine xr_getR (b := 509) 12 25 (xd dX12_run 25 rfl) f12_63 (by decide) (by decide) (lt552 hn (by decide)) kd_491 rfl (r_491_25 hR) ?_
          refine xr_iload (xd dX12_run 26 rfl) 4 rfl ?_
          obtain ⟨o25, h⟩ := h
          refine zr_iaload (xd dX12_run 27 rfl) (lt552 hn (by decide)) kd_509 ln_509 (by decide) o25 ?_
          obtain ⟨x26, e_x26⟩ : ∃ z_ : Int, z_ = (J19 509 x18) := ⟨_, rfl⟩
          replace h := h x26 e_x26
          refine zr_nm e_x26 ?_
          refine xr_istore [(0, .ref 491), (1, .int (oI p1)), (2, .int (oI x17)), (3, .int (oI x8)), (4, .int (oI x18)), (5, .int (oI x26))] (xd dX12_run 28 rfl) (by decide) rfl ?_
          refine h (fun x28 x29 J30 L31 => xJ (xGm b dC dI cA ts) l mX12_run 0 0 (zQ1 n R Q) (fun _ _ => False) 0 0 52 [(0, .ref 491), (1, .int (oI p1)), (2, .int (oI x28)), (3, .int (oI x8)), (4, .int (oI x18)), (5, .int (oI x29))] [] al n R (zi J30) (li L31)) ?_
          intro x28 x29 J30 L31 h
          show xJ _ _ _ _ _ _ _ _ _ 52 [(0, .ref 491), (1, .int (oI p1)), (2, .int (oI x28)), (3, .int (oI x8)), (4, .int (oI x18)), (5, .int (oI x29))] [] _ _ _ _ _
          refine xr_iload (xd dX12_run 29 rfl) 5 rfl ?_
          obtain ⟨o32, h⟩ := h
          refine zr_if_le 81 (xd dX12_run 30 rfl) (by decide) o32 (fun c33 => ?_) (fun c33 => ?_)
          · replace h := ifn h c33
            refine zr_iinc [(0, .ref 491), (1, .int (oI p1)), (2, .int (oI x28)), (3, .int (oI x8)), (4, .int (oI (x18 + (-1)))), (5, .int (oI x29))] (xd dX12_run 42 rfl) 4 rfl (by decide) rfl ?_
            refine xr_goto 38 (xd dX12_run 43 rfl) (by decide) ?_
            refine xJ.pick (ls' := [(0, .ref 491), (1, .int (oI p1)), (2, .int (oI x28)), (3, .int (oI x8)), (4, .int (oI (x18 + (-1))))]) [0, 1, 2, 3, 4] rfl ?_
            exact h
          · replace h := ifp h c33
            refine xr_aload_n (xd dX12_run 31 rfl) 0 rfl ?_
            refine xr_iload (xd dX12_run 32 rfl) 4 rfl ?_
            refine xr_iconst (v := oI 0) (xd dX12_run 33 rfl) (by decide) ?_
            refine xr_callV mX12_take 2 [.int (oI x18), .int (oI 0)] (xd dX12_run 34 rfl) l12_559 kX12_take rfl (lt552 hn (by decide)) kd_491 (by decide) rfl (by decide) (Nat.le_of_ble_eq_true rfl) (v_X12_take hn hR  h) (by decide) (by decide) (fun r_ M_ h_ => ?_) (fun _ _ h_ => h_.elim)
            obtain ⟨J34, L35, rfl, rfl, h⟩ := h_
            show xJ _ _ _ _ _ _ _ _ _ 64 [(0, .ref 491), (1, .int (oI p1)), (2, .int (oI x28)), (3, .int (oI x8)), (4, .int (oI x18)), (5, .int (oI x29))] [] _ _ _ (zi J34) (li L35)
            refine xr_aload_n (xd dX12_run 35 rfl) 0 rfl ?_
            refine xr_iload (xd dX12_run 36 rfl) 4 rfl ?_
            refine xr_callV mX12_arrives 1 [.int (oI x18)] (xd dX12_run 37 rfl) l12_562 kX12_arrives rfl (lt552 hn (by decide)) kd_491 (by decide) rfl (by decide) (Nat.le_of_ble_eq_true rfl) (v_X12_arrives hn hR  h) (by decide) (by decide) (fun r_ M_ h_ => ?_) (fun _ _ h_ => h_.elim)
            obtain ⟨r38, J36, L37, rfl, rfl, h⟩ := h_
            show xJ _ _ _ _ _ _ _ _ _ 70 [(0, .ref 491), (1, .int (oI p1)), (2, .int (oI x28)), (3, .int (oI x8)), (4, .int (oI x18)), (5, .int (oI x29))] [.int (oI r38)] _ _ _ (zi J36) (li L37)
            refine xr_istore [(0, .ref 491), (1, .int (oI p1)), (2, .int (oI x28)), (3, .int (oI x8)), (4, .int (oI x18)), (5, .int (oI x29)), (6, .int (oI r38))] (xd dX12_run 38 rfl) (by decide) rfl ?_
            refine zr_iinc [(0, .ref 491), (1, .int (oI p1)), (2, .int (oI (x28 + 1))), (3, .int (oI x8)), (4, .int (oI x18)), (5, .int (oI x29)), (6, .int (oI r38))] (xd dX12_run 39 rfl) 2 rfl (by decide) rfl ?_
            refine zr_iinc [(0, .ref 491), (1, .int (oI p1)), (2, .int (oI (x28 + 1))), (3, .int (oI x8)), (4, .int (oI x18)), (5, .int (oI (x29 + (-1)))), (6, .int (oI r38))] (xd dX12_run 40 rfl) 5 rfl (by decide) rfl ?_
            refine xr_goto 52 (xd dX12_run 41 rfl) (by decide) ?_
            refine xJ.pick (ls' := [(0, .ref 491), (1, .int (oI p1)), (2, .int (oI (x28 + 1))), (3, .int (oI x8)), (4, .int (oI x18)), (5, .int (oI (x29 + (-1))))]) [0, 1, 2, 3, 4, 5] rfl ?_
            exact h)
  replace h := h (fun (J39 : zM) (L40 : yM) => xJ (xGm b dC dI cA ts) l mX12_run 0 0 (zQ1 n R Q) (fun _ _ => False) 0 0 11 [(0, .ref 491), (1, .int (oI p1))] [.ref 491] al n R (zi J39) (li L40)) (by
    intro J39 L40 h
    show xJ _ _ _ _ _ _ _ _ _ 11 [(0, .ref 491), (1, .int (oI p1))] [.ref 491] _ _ _ _ _
    refine xr_iconst (v := oI 1) (xd dX12_run 6 rfl) (by decide) ?_
    refine xr_goto 16 (xd dX12_run 7 rfl) (by decide) ?_
    exact h)
  obtain ⟨o42, h⟩ := h
  refine zr_if_lt 11 (xd dX12_run 2 rfl) (by decide) o42 (fun c43 => ?_) (fun c43 => ?_)
  · replace h := ifp h c43
    exact h
  · replace h := ifn h c43
    refine xr_iload_n (xd dX12_run 3 rfl) 1 rfl ?_
    refine xr_bipush (v := oI 100) (xd dX12_run 4 rfl) (by decide) ?_
    refine zr_icmp_le 15 (xd dX12_run 5 rfl) (by decide) o42 (by decide) (fun c44 => ?_) (fun c44 => ?_)
    · replace h := ifn h c44
      refine xr_iconst (v := oI 0) (xd dX12_run 8 rfl) (by decide) ?_
      exact h
    · replace h := ifp h c44
      exact h
def w_X12_noSide (p1 : Int) (J : zM) (L : yM) (Q : Int → zM → yM → Prop) : Prop := R32 p1 ∧ (if p1 < 0 then Q 1 J L else (if 1 < p1 then Q 1 J L else Q 0 J L))
set_option maxHeartbeats 4000000 in
set_option maxRecDepth 100000 in
theorem v_X12_noSide {b : Nat} {dC : Nat → ClassId} {dI : Nat → Nat → Nat} {cA : Nat → ClassId} {ts : Nat → Nat} {l : Launch} {n : Nat} {R : Nat → Nat → Option Nat} {al : Bool} (hn : 552 ≤ n) (hR : xRk R) {p1 : Int}  {J : zM} {L : yM} {Q : Int → zM → yM → Prop} (h : w_X12_noSide p1 J L Q) : xCn (xGm b dC dI cA ts) l mX12_noSide [.int (oI p1)] al (n, R, zi J, li L) 0 0 (zQ1 n R Q) (fun _ _ => False) := by
  refine xCn.ofJ (by decide) (Nat.le_of_ble_eq_true rfl) ?_
  show xJ _ _ _ _ _ _ _ _ _ 0 [(0, .int (oI p1))] [] _ _ _ _ _
  unfold w_X12_noSide at h
  refine xr_iload_n (xd dX12_noSide 0 rfl) 0 rfl ?_
  obtain ⟨o1, h⟩ := h
  refine zr_if_lt 9 (xd dX12_noSide 1 rfl) (by decide) o1 (fun c2 => ?_) (fun c2 => ?_)
  · replace h := ifp h c2
    refine xr_iconst (v := oI 1) (xd dX12_noSide 5 rfl) (by decide) ?_
    refine xr_goto 14 (xd dX12_noSide 6 rfl) (by decide) ?_
    exact xr_zret (xd dX12_noSide 8 rfl) rfl (zret_b (Or.inr rfl)) (by decide) (by decide) (fun _ => rfl) ⟨_, _, _, rfl, rfl, h⟩
  · replace h := ifn h c2
    refine xr_iload_n (xd dX12_noSide 2 rfl) 0 rfl ?_
    refine xr_iconst (v := oI 1) (xd dX12_noSide 3 rfl) (by decide) ?_
    refine zr_icmp_le 13 (xd dX12_noSide 4 rfl) (by decide) o1 (by decide) (fun c3 => ?_) (fun c3 => ?_)
    · replace h := ifn h c3
      refine xr_iconst (v := oI 0) (xd dX12_noSide 7 rfl) (by decide) ?_
      exact xr_zret (xd dX12_noSide 8 rfl) rfl (zret_b (Or.inl rfl)) (by decide) (by decide) (fun _ => rfl) ⟨_, _, _, rfl, rfl, h⟩
    · replace h := ifp h c3
      refine xr_iconst (v := oI 1) (xd dX12_noSide 5 rfl) (by decide) ?_
      refine xr_goto 14 (xd dX12_noSide 6 rfl) (by decide) ?_
      exact xr_zret (xd dX12_noSide 8 rfl) rfl (zret_b (Or.inr rfl)) (by decide) (by decide) (fun _ => rfl) ⟨_, _, _, rfl, rfl, h⟩
def w_X12_noPlace (p1 : Int) (p2 : Int) (J : zM) (L : yM) (Q : Int → zM → yM → Prop) : Prop := w_X12_noSide p1 J L (fun r3 J1 L2 => R32 r3 ∧ (if r3 = 0 then R32 p2 ∧ (if p2 < 0 then Q 1 J1 L2 else ((0 : Int) ≤ p1 ∧ p1 < 2) ∧ R32 (J1 509 p1) ∧ (if p2 < (J1 509 p1) then Q 0 J1 L2 else Q 1 J1 L2)) else Q 1 J1 L2))
set_option maxHeartbeats 4000000 in
set_option maxRecDepth 100000 in
theorem v_X12_noPlace {b : Nat} {dC : Nat → ClassId} {dI : Nat → Nat → Nat} {cA : Nat → ClassId} {ts : Nat → Nat} {l : Launch} {n : Nat} {R : Nat → Nat → Option Nat} {al : Bool} (hn : 552 ≤ n) (hR : xRk R) {p1 : Int} {p2 : Int}  {J : zM} {L : yM} {Q : Int → zM → yM → Prop} (h : w_X12_noPlace p1 p2 J L Q) : xCn (xGm b dC dI cA ts) l mX12_noPlace [.ref 491, .int (oI p1), .int (oI p2)] al (n, R, zi J, li L) 0 0 (zQ1 n R Q) (fun _ _ => False) := by
  refine xCn.ofJ (by decide) (Nat.le_of_ble_eq_true rfl) ?_
  show xJ _ _ _ _ _ _ _ _ _ 0 [(0, .ref 491), (1, .int (oI p1)), (2, .int (oI p2))] [] _ _ _ _ _
  unfold w_X12_noPlace at h
  refine xr_iload_n (xd dX12_noPlace 0 rfl) 1 rfl ?_
  refine xr_callS mX12_noSide 1 [.int (oI p1)] (xd dX12_noPlace 1 rfl) l12_565 kX12_noSide rfl rfl (by decide) (Nat.le_of_ble_eq_true rfl) (v_X12_noSide hn hR  h) (by decide) (by decide) (fun r_ M_ h_ => ?_) (fun _ _ h_ => h_.elim)
  obtain ⟨r3, J1, L2, rfl, rfl, h⟩ := h_
  show xJ _ _ _ _ _ _ _ _ _ 4 [(0, .ref 491), (1, .int (oI p1)), (2, .int (oI p2))] [.int (oI r3)] _ _ _ (zi J1) (li L2)
  obtain ⟨o4, h⟩ := h
  refine zr_if_ne 21 (xd dX12_noPlace 2 rfl) (by decide) o4 (fun c5 => ?_) (fun c5 => ?_)
  · replace h := ifn h c5
    refine xr_iconst (v := oI 1) (xd dX12_noPlace 11 rfl) (by decide) ?_
    refine xr_goto 26 (xd dX12_noPlace 12 rfl) (by decide) ?_
    exact xr_zret (xd dX12_noPlace 14 rfl) rfl (zret_b (Or.inr rfl)) (by decide) (by decide) (fun _ => rfl) ⟨_, _, _, rfl, rfl, h⟩
  · replace h := ifp h c5
    refine xr_iload_n (xd dX12_noPlace 3 rfl) 2 rfl ?_
    obtain ⟨o6, h⟩ := h
    refine zr_if_lt 21 (xd dX12_noPlace 4 rfl) (by decide) o6 (fun c7 => ?_) (fun c7 => ?_)
    · replace h := ifp h c7
      refine xr_iconst (v := oI 1) (xd dX12_noPlace 11 rfl) (by decide) ?_
      refine xr_goto 26 (xd dX12_noPlace 12 rfl) (by decide) ?_
      exact xr_zret (xd dX12_noPlace 14 rfl) rfl (zret_b (Or.inr rfl)) (by decide) (by decide) (fun _ => rfl) ⟨_, _, _, rfl, rfl, h⟩
    · replace h := ifn h c7
      refine xr_iload_n (xd dX12_noPlace 5 rfl) 2 rfl ?_
      refine xr_aload_n (xd dX12_noPlace 6 rfl) 0 rfl ?_
      refine xr_getR (b := 509) 12 25 (xd dX12_noPlace 7 rfl) f12_63 (by decide) (by decide) (lt552 hn (by decide)) kd_491 rfl (r_491_25 hR) ?_
      refine xr_iload_n (xd dX12_noPlace 8 rfl) 1 rfl ?_
      obtain ⟨o8, h⟩ := h
      refine zr_iaload (xd dX12_noPlace 9 rfl) (lt552 hn (by decide)) kd_509 ln_509 (by decide) o8 ?_
      obtain ⟨o9, h⟩ := h
      refine zr_icmp_lt 25 (xd dX12_noPlace 10 rfl) (by decide) o6 o9 (fun c10 => ?_) (fun c10 => ?_)
      · replace h := ifp h c10
        refine xr_iconst (v := oI 0) (xd dX12_noPlace 13 rfl) (by decide) ?_
        exact xr_zret (xd dX12_noPlace 14 rfl) rfl (zret_b (Or.inl rfl)) (by decide) (by decide) (fun _ => rfl) ⟨_, _, _, rfl, rfl, h⟩
      · replace h := ifn h c10
        refine xr_iconst (v := oI 1) (xd dX12_noPlace 11 rfl) (by decide) ?_
        refine xr_goto 26 (xd dX12_noPlace 12 rfl) (by decide) ?_
        exact xr_zret (xd dX12_noPlace 14 rfl) rfl (zret_b (Or.inr rfl)) (by decide) (by decide) (fun _ => rfl) ⟨_, _, _, rfl, rfl, h⟩
def w_X12_key (p1 : Int) (p2 : Int64) (p3 : Int64) (J : zM) (L : yM) (Q : zM → yM → Prop) : Prop := w_X12_noSide p1 J L (fun r3 J1 L2 => ∀ K7 : Int → zM → yM → Prop, (∀ (x4 : Int) (J5 : zM) (L6 : yM), (∀ J8 : zM, J8 = zs J5 491 0 x4 → R32 (J8 491 0) ∧ (if (J8 491 0) = 0 then w_X12_numberTo ((1024 * p1) + 0) 8 p2 J8 L6 (fun J11 L12 => w_X12_numberTo (((1024 * p1) + 0) + 8) 8 p3 J11 L12 (fun J13 L14 => Q J13 L14)) else Q J8 L6)) → K7 x4 J5 L6) → R32 r3 ∧ (if r3 = 0 then w_X12_hasBegun J1 L2 (fun r19 J17 L18 => R32 r19 ∧ (if r19 = 0 then K7 0 J17 L18 else K7 2 J17 L18)) else K7 1 J1 L2))
set_option maxHeartbeats 4000000 in
set_option maxRecDepth 100000 in
theorem v_X12_key {b : Nat} {dC : Nat → ClassId} {dI : Nat → Nat → Nat} {cA : Nat → ClassId} {ts : Nat → Nat} {l : Launch} {n : Nat} {R : Nat → Nat → Option Nat} {al : Bool} (hn : 552 ≤ n) (hR : xRk R) {p1 : Int} {p2 : Int64} {p3 : Int64}  {J : zM} {L : yM} {Q : zM → yM → Prop} (h : w_X12_key p1 p2 p3 J L Q) : xCn (xGm b dC dI cA ts) l mX12_key [.ref 491, .int (oI p1), .long p2, .long p3] al (n, R, zi J, li L) 0 0 (zQ0 n R Q) (fun _ _ => False) := by
  refine xCn.ofJ (by decide) (Nat.le_of_ble_eq_true rfl) ?_
  show xJ _ _ _ _ _ _ _ _ _ 0 [(0, .ref 491), (1, .int (oI p1)), (2, .long p2), (4, .long p3)] [] _ _ _ _ _
  unfold w_X12_key at h
  refine xr_aload_n (xd dX12_key 0 rfl) 0 rfl ?_
  refine xr_iload_n (xd dX12_key 1 rfl) 1 rfl ?_
  refine xr_callS mX12_noSide 1 [.int (oI p1)] (xd dX12_key 2 rfl) l12_565 kX12_noSide rfl rfl (by decide) (Nat.le_of_ble_eq_true rfl) (v_X12_noSide hn hR  h) (by decide) (by decide) (fun r_ M_ h_ => ?_) (fun _ _ h_ => h_.elim)
  obtain ⟨r3, J1, L2, rfl, rfl, h⟩ := h_
  show xJ _ _ _ _ _ _ _ _ _ 5 [(0, .ref 491), (1, .int (oI p1)), (2, .long p2), (4, .long p3)] [.int (oI r3), .ref 491] _ _ _ (zi J1) (li L2)
  replace h := h (fun (x4 : Int) (J5 : zM) (L6 : yM) => xJ (xGm b dC dI cA ts) l mX12_key 0 0 (zQ0 n R Q) (fun _ _ => False) 0 0 24 [(0, .ref 491), (1, .int (oI p1)), (2, .long p2), (4, .long p3)] [.int (oI x4), .ref 491] al n R (zi J5) (li L6)) (by
    intro x4 J5 L6 h
    show xJ _ _ _ _ _ _ _ _ _ 24 [(0, .ref 491), (1, .int (oI p1)), (2, .long p2), (4, .long p3)] [.int (oI x4), .ref 491] _ _ _ _ _
    obtain ⟨J8, e_J8⟩ : ∃ z_ : zM, z_ = zs J5 491 0 x4 := ⟨_, rfl⟩
    replace h := h J8 e_J8
    refine zr_putI 12 0 0 rfl e_J8 (xd dX12_key 12 rfl) f12_200 (by decide) (by decide) (lt552 hn (by decide)) kd_491 (Or.inl rfl) rfl rfl (fun _ => rfl) ?_
    refine xr_aload_n (xd dX12_key 13 rfl) 0 rfl ?_
    refine zr_getI 12 0 0 rfl (xd dX12_key 14 rfl) f12_200 (by decide) (by decide) (lt552 hn (by decide)) kd_491 rfl ?_
    obtain ⟨o9, h⟩ := h
    refine zr_if_ne 66 (xd dX12_key 15 rfl) (by decide) o9 (fun c10 => ?_) (fun c10 => ?_)
    · replace h := ifn h c10
      exact xr_vret (xd dX12_key 36 rfl) rfl (by decide) (by decide) (fun _ => rfl) ⟨_, _, rfl, rfl, h⟩
    · replace h := ifp h c10
      refine xr_aload_n (xd dX12_key 16 rfl) 0 rfl ?_
      refine xr_sipush (v := oI 1024) (xd dX12_key 17 rfl) (by decide) ?_
      refine xr_iload_n (xd dX12_key 18 rfl) 1 rfl ?_
      refine zr_imul (xd dX12_key 19 rfl) ?_
      refine xr_iconst (v := oI 0) (xd dX12_key 20 rfl) (by decide) ?_
      refine zr_iadd (xd dX12_key 21 rfl) ?_
      refine xr_bipush (v := oI 8) (xd dX12_key 22 rfl) (by decide) ?_
      refine xr_lload_n (xd dX12_key 23 rfl) 2 rfl ?_
      refine xr_callV mX12_numberTo 3 [.int (oI ((1024 * p1) + 0)), .int (oI 8), .long p2] (xd dX12_key 24 rfl) l12_411 kX12_numberTo rfl (lt552 hn (by decide)) kd_491 (by decide) rfl (by decide) (Nat.le_of_ble_eq_true rfl) (v_X12_numberTo hn hR  h) (by decide) (by decide) (fun r_ M_ h_ => ?_) (fun _ _ h_ => h_.elim)
      obtain ⟨J11, L12, rfl, rfl, h⟩ := h_
      show xJ _ _ _ _ _ _ _ _ _ 48 [(0, .ref 491), (1, .int (oI p1)), (2, .long p2), (4, .long p3)] [] _ _ _ (zi J11) (li L12)
      refine xr_aload_n (xd dX12_key 25 rfl) 0 rfl ?_
      refine xr_sipush (v := oI 1024) (xd dX12_key 26 rfl) (by decide) ?_
      refine xr_iload_n (xd dX12_key 27 rfl) 1 rfl ?_
      refine zr_imul (xd dX12_key 28 rfl) ?_
      refine xr_iconst (v := oI 0) (xd dX12_key 29 rfl) (by decide) ?_
      refine zr_iadd (xd dX12_key 30 rfl) ?_
      refine xr_bipush (v := oI 8) (xd dX12_key 31 rfl) (by decide) ?_
      refine zr_iadd (xd dX12_key 32 rfl) ?_
      refine xr_bipush (v := oI 8) (xd dX12_key 33 rfl) (by decide) ?_
      refine xr_lload (xd dX12_key 34 rfl) 3 rfl ?_
      refine xr_callV mX12_numberTo 3 [.int (oI (((1024 * p1) + 0) + 8)), .int (oI 8), .long p3] (xd dX12_key 35 rfl) l12_411 kX12_numberTo rfl (lt552 hn (by decide)) kd_491 (by decide) rfl (by decide) (Nat.le_of_ble_eq_true rfl) (v_X12_numberTo hn hR  h) (by decide) (by decide) (fun r_ M_ h_ => ?_) (fun _ _ h_ => h_.elim)
      obtain ⟨J13, L14, rfl, rfl, h⟩ := h_
      show xJ _ _ _ _ _ _ _ _ _ 66 [(0, .ref 491), (1, .int (oI p1)), (2, .long p2), (4, .long p3)] [] _ _ _ (zi J13) (li L14)
      exact xr_vret (xd dX12_key 36 rfl) rfl (by decide) (by decide) (fun _ => rfl) ⟨_, _, rfl, rfl, h⟩)
  obtain ⟨o15, h⟩ := h
  refine zr_if_eq 12 (xd dX12_key 3 rfl) (by decide) o15 (fun c16 => ?_) (fun c16 => ?_)
  · replace h := ifp h c16
    refine xr_aload_n (xd dX12_key 6 rfl) 0 rfl ?_
    refine xr_callV mX12_hasBegun 0 [] (xd dX12_key 7 rfl) l12_424 kX12_hasBegun rfl (lt552 hn (by decide)) kd_491 (by decide) rfl (by decide) (Nat.le_of_ble_eq_true rfl) (v_X12_hasBegun hn hR  h) (by decide) (by decide) (fun r_ M_ h_ => ?_) (fun _ _ h_ => h_.elim)
    obtain ⟨r19, J17, L18, rfl, rfl, h⟩ := h_
    show xJ _ _ _ _ _ _ _ _ _ 16 [(0, .ref 491), (1, .int (oI p1)), (2, .long p2), (4, .long p3)] [.int (oI r19), .ref 491] _ _ _ (zi J17) (li L18)
    obtain ⟨o20, h⟩ := h
    refine zr_if_eq 23 (xd dX12_key 8 rfl) (by decide) o20 (fun c21 => ?_) (fun c21 => ?_)
    · replace h := ifp h c21
      refine xr_iconst (v := oI 0) (xd dX12_key 11 rfl) (by decide) ?_
      exact h
    · replace h := ifn h c21
      refine xr_iconst (v := oI 2) (xd dX12_key 9 rfl) (by decide) ?_
      refine xr_goto 24 (xd dX12_key 10 rfl) (by decide) ?_
      exact h
  · replace h := ifn h c16
    refine xr_iconst (v := oI 1) (xd dX12_key 4 rfl) (by decide) ?_
    refine xr_goto 24 (xd dX12_key 5 rfl) (by decide) ?_
    exact h
def w_X12_name (p1 : Int) (p2 : Int64) (p3 : Int64) (J : zM) (L : yM) (Q : zM → yM → Prop) : Prop := w_X12_noSide p1 J L (fun r3 J1 L2 => ∀ K7 : Int → zM → yM → Prop, (∀ (x4 : Int) (J5 : zM) (L6 : yM), (∀ J8 : zM, J8 = zs J5 491 0 x4 → R32 (J8 491 0) ∧ (if (J8 491 0) = 0 then w_X12_numberTo ((1024 * p1) + 16) 8 p2 J8 L6 (fun J11 L12 => w_X12_numberTo ((1024 * p1) + 24) 8 p3 J11 L12 (fun J13 L14 => Q J13 L14)) else Q J8 L6)) → K7 x4 J5 L6) → R32 r3 ∧ (if r3 = 0 then w_X12_hasBegun J1 L2 (fun r19 J17 L18 => R32 r19 ∧ (if r19 = 0 then K7 0 J17 L18 else K7 2 J17 L18)) else K7 1 J1 L2))
set_option maxHeartbeats 4000000 in
set_option maxRecDepth 100000 in
theorem v_X12_name {b : Nat} {dC : Nat → ClassId} {dI : Nat → Nat → Nat} {cA : Nat → ClassId} {ts : Nat → Nat} {l : Launch} {n : Nat} {R : Nat → Nat → Option Nat} {al : Bool} (hn : 552 ≤ n) (hR : xRk R) {p1 : Int} {p2 : Int64} {p3 : Int64}  {J : zM} {L : yM} {Q : zM → yM → Prop} (h : w_X12_name p1 p2 p3 J L Q) : xCn (xGm b dC dI cA ts) l mX12_name [.ref 491, .int (oI p1), .long p2, .long p3] al (n, R, zi J, li L) 0 0 (zQ0 n R Q) (fun _ _ => False) := by
  refine xCn.ofJ (by decide) (Nat.le_of_ble_eq_true rfl) ?_
  show xJ _ _ _ _ _ _ _ _ _ 0 [(0, .ref 491), (1, .int (oI p1)), (2, .long p2), (4, .long p3)] [] _ _ _ _ _
  unfold w_X12_name at h
  refine xr_aload_n (xd dX12_name 0 rfl) 0 rfl ?_
  refine xr_iload_n (xd dX12_name 1 rfl) 1 rfl ?_
  refine xr_callS mX12_noSide 1 [.int (oI p1)] (xd dX12_name 2 rfl) l12_565 kX12_noSide rfl rfl (by decide) (Nat.le_of_ble_eq_true rfl) (v_X12_noSide hn hR  h) (by decide) (by decide) (fun r_ M_ h_ => ?_) (fun _ _ h_ => h_.elim)
  obtain ⟨r3, J1, L2, rfl, rfl, h⟩ := h_
  show xJ _ _ _ _ _ _ _ _ _ 5 [(0, .ref 491), (1, .int (oI p1)), (2, .long p2), (4, .long p3)] [.int (oI r3), .ref 491] _ _ _ (zi J1) (li L2)
  replace h := h (fun (x4 : Int) (J5 : zM) (L6 : yM) => xJ (xGm b dC dI cA ts) l mX12_name 0 0 (zQ0 n R Q) (fun _ _ => False) 0 0 24 [(0, .ref 491), (1, .int (oI p1)), (2, .long p2), (4, .long p3)] [.int (oI x4), .ref 491] al n R (zi J5) (li L6)) (by
    intro x4 J5 L6 h
    show xJ _ _ _ _ _ _ _ _ _ 24 [(0, .ref 491), (1, .int (oI p1)), (2, .long p2), (4, .long p3)] [.int (oI x4), .ref 491] _ _ _ _ _
    obtain ⟨J8, e_J8⟩ : ∃ z_ : zM, z_ = zs J5 491 0 x4 := ⟨_, rfl⟩
    replace h := h J8 e_J8
    refine zr_putI 12 0 0 rfl e_J8 (xd dX12_name 12 rfl) f12_200 (by decide) (by decide) (lt552 hn (by decide)) kd_491 (Or.inl rfl) rfl rfl (fun _ => rfl) ?_
    refine xr_aload_n (xd dX12_name 13 rfl) 0 rfl ?_
    refine zr_getI 12 0 0 rfl (xd dX12_name 14 rfl) f12_200 (by decide) (by decide) (lt552 hn (by decide)) kd_491 rfl ?_
    obtain ⟨o9, h⟩ := h
    refine zr_if_ne 65 (xd dX12_name 15 rfl) (by decide) o9 (fun c10 => ?_) (fun c10 => ?_)
    · replace h := ifn h c10
      exact xr_vret (xd dX12_name 34 rfl) rfl (by decide) (by decide) (fun _ => rfl) ⟨_, _, rfl, rfl, h⟩
    · replace h := ifp h c10
      refine xr_aload_n (xd dX12_name 16 rfl) 0 rfl ?_
      refine xr_sipush (v := oI 1024) (xd dX12_name 17 rfl) (by decide) ?_
      refine xr_iload_n (xd dX12_name 18 rfl) 1 rfl ?_
      refine zr_imul (xd dX12_name 19 rfl) ?_
      refine xr_bipush (v := oI 16) (xd dX12_name 20 rfl) (by decide) ?_
      refine zr_iadd (xd dX12_name 21 rfl) ?_
      refine xr_bipush (v := oI 8) (xd dX12_name 22 rfl) (by decide) ?_
      refine xr_lload_n (xd dX12_name 23 rfl) 2 rfl ?_
      refine xr_callV mX12_numberTo 3 [.int (oI ((1024 * p1) + 16)), .int (oI 8), .long p2] (xd dX12_name 24 rfl) l12_411 kX12_numberTo rfl (lt552 hn (by decide)) kd_491 (by decide) rfl (by decide) (Nat.le_of_ble_eq_true rfl) (v_X12_numberTo hn hR  h) (by decide) (by decide) (fun r_ M_ h_ => ?_) (fun _ _ h_ => h_.elim)
      obtain ⟨J11, L12, rfl, rfl, h⟩ := h_
      show xJ _ _ _ _ _ _ _ _ _ 49 [(0, .ref 491), (1, .int (oI p1)), (2, .long p2), (4, .long p3)] [] _ _ _ (zi J11) (li L12)
      refine xr_aload_n (xd dX12_name 25 rfl) 0 rfl ?_
      refine xr_sipush (v := oI 1024) (xd dX12_name 26 rfl) (by decide) ?_
      refine xr_iload_n (xd dX12_name 27 rfl) 1 rfl ?_
      refine zr_imul (xd dX12_name 28 rfl) ?_
      refine xr_bipush (v := oI 24) (xd dX12_name 29 rfl) (by decide) ?_
      refine zr_iadd (xd dX12_name 30 rfl) ?_
      refine xr_bipush (v := oI 8) (xd dX12_name 31 rfl) (by decide) ?_
      refine xr_lload (xd dX12_name 32 rfl) 3 rfl ?_
      refine xr_callV mX12_numberTo 3 [.int (oI ((1024 * p1) + 24)), .int (oI 8), .long p3] (xd dX12_name 33 rfl) l12_411 kX12_numberTo rfl (lt552 hn (by decide)) kd_491 (by decide) rfl (by decide) (Nat.le_of_ble_eq_true rfl) (v_X12_numberTo hn hR  h) (by decide) (by decide) (fun r_ M_ h_ => ?_) (fun _ _ h_ => h_.elim)
      obtain ⟨J13, L14, rfl, rfl, h⟩ := h_
      show xJ _ _ _ _ _ _ _ _ _ 65 [(0, .ref 491), (1, .int (oI p1)), (2, .long p2), (4, .long p3)] [] _ _ _ (zi J13) (li L14)
      exact xr_vret (xd dX12_name 34 rfl) rfl (by decide) (by decide) (fun _ => rfl) ⟨_, _, rfl, rfl, h⟩)
  obtain ⟨o15, h⟩ := h
  refine zr_if_eq 12 (xd dX12_name 3 rfl) (by decide) o15 (fun c16 => ?_) (fun c16 => ?_)
  · replace h := ifp h c16
    refine xr_aload_n (xd dX12_name 6 rfl) 0 rfl ?_
    refine xr_callV mX12_hasBegun 0 [] (xd dX12_name 7 rfl) l12_424 kX12_hasBegun rfl (lt552 hn (by decide)) kd_491 (by decide) rfl (by decide) (Nat.le_of_ble_eq_true rfl) (v_X12_hasBegun hn hR  h) (by decide) (by decide) (fun r_ M_ h_ => ?_) (fun _ _ h_ => h_.elim)
    obtain ⟨r19, J17, L18, rfl, rfl, h⟩ := h_
    show xJ _ _ _ _ _ _ _ _ _ 16 [(0, .ref 491), (1, .int (oI p1)), (2, .long p2), (4, .long p3)] [.int (oI r19), .ref 491] _ _ _ (zi J17) (li L18)
    obtain ⟨o20, h⟩ := h
    refine zr_if_eq 23 (xd dX12_name 8 rfl) (by decide) o20 (fun c21 => ?_) (fun c21 => ?_)
    · replace h := ifp h c21
      refine xr_iconst (v := oI 0) (xd dX12_name 11 rfl) (by decide) ?_
      exact h
    · replace h := ifn h c21
      refine xr_iconst (v := oI 2) (xd dX12_name 9 rfl) (by decide) ?_
      refine xr_goto 24 (xd dX12_name 10 rfl) (by decide) ?_
      exact h
  · replace h := ifn h c16
    refine xr_iconst (v := oI 1) (xd dX12_name 4 rfl) (by decide) ?_
    refine xr_goto 24 (xd dX12_name 5 rfl) (by decide) ?_
    exact h
def w_X12_draft (p1 : Int) (p2 : Int64) (J : zM) (L : yM) (Q : Int → zM → yM → Prop) : Prop := ∀ K4 : Int → zM → yM → Prop, (∀ (x1 : Int) (J2 : zM) (L3 : yM), (∀ J5 : zM, J5 = zs J2 491 0 x1 → R32 (J5 491 0) ∧ (if 0 < (J5 491 0) then Q 0 J5 L3 else zl_z (fun K8 x9 J10 L11 => R32 x9 ∧ R32 p1 ∧ (if x9 < p1 then ((0 : Int) ≤ ((J10 491 9) + x9) ∧ ((J10 491 9) + x9) < 500) ∧ ∀ J17 : zM, J17 = zs J10 494 ((J10 491 9) + x9) (zl2i ((yshr p2 (8 * x9)) &&& 255)) → K8 (x9 + 1) J17 L11 else ∀ J15 : zM, J15 = zs J10 491 9 ((J10 491 9) + p1) → Q (J15 491 9) J15 L11)) 0 J5 L3)) → K4 x1 J2 L3) → ∀ K20 : zM → yM → Prop, (∀ (J18 : zM) (L19 : yM), (K4 1 J18 L19) → K20 J18 L19) → R32 p1 ∧ (if p1 < 1 then K20 J L else (if 8 < p1 then K20 J L else R32 ((J 491 9) + p1) ∧ (if 500 < ((J 491 9) + p1) then K20 J L else K4 0 J L)))
set_option maxHeartbeats 4000000 in
set_option maxRecDepth 100000 in
theorem v_X12_draft {b : Nat} {dC : Nat → ClassId} {dI : Nat → Nat → Nat} {cA : Nat → ClassId} {ts : Nat → Nat} {l : Launch} {n : Nat} {R : Nat → Nat → Option Nat} {al : Bool} (hn : 552 ≤ n) (hR : xRk R) {p1 : Int} {p2 : Int64}  {J : zM} {L : yM} {Q : Int → zM → yM → Prop} (h : w_X12_draft p1 p2 J L Q) : xCn (xGm b dC dI cA ts) l mX12_draft [.ref 491, .int (oI p1), .long p2] al (n, R, zi J, li L) 0 0 (zQ1 n R Q) (fun _ _ => False) := by
  refine xCn.ofJ (by decide) (Nat.le_of_ble_eq_true rfl) ?_
  show xJ _ _ _ _ _ _ _ _ _ 0 [(0, .ref 491), (1, .int (oI p1)), (2, .long p2)] [] _ _ _ _ _
  unfold w_X12_draft at h
  refine xr_aload_n (xd dX12_draft 0 rfl) 0 rfl ?_
  refine xr_iload_n (xd dX12_draft 1 rfl) 1 rfl ?_
  refine xr_iconst (v := oI 1) (xd dX12_draft 2 rfl) (by decide) ?_
  replace h := h (fun (x1 : Int) (J2 : zM) (L3 : yM) => xJ (xGm b dC dI cA ts) l mX12_draft 0 0 (zQ1 n R Q) (fun _ _ => False) 0 0 29 [(0, .ref 491), (1, .int (oI p1)), (2, .long p2)] [.int (oI x1), .ref 491] al n R (zi J2) (li L3)) (by
    intro x1 J2 L3 h
    show xJ _ _ _ _ _ _ _ _ _ 29 [(0, .ref 491), (1, .int (oI p1)), (2, .long p2)] [.int (oI x1), .ref 491] _ _ _ _ _
    obtain ⟨J5, e_J5⟩ : ∃ z_ : zM, z_ = zs J2 491 0 x1 := ⟨_, rfl⟩
    replace h := h J5 e_J5
    refine zr_putI 12 0 0 rfl e_J5 (xd dX12_draft 16 rfl) f12_200 (by decide) (by decide) (lt552 hn (by decide)) kd_491 (Or.inl rfl) rfl rfl (fun _ => rfl) ?_
    refine xr_aload_n (xd dX12_draft 17 rfl) 0 rfl ?_
    refine zr_getI 12 0 0 rfl (xd dX12_draft 18 rfl) f12_200 (by decide) (by decide) (lt552 hn (by decide)) kd_491 rfl ?_
    obtain ⟨o6, h⟩ := h
    refine zr_if_le 41 (xd dX12_draft 19 rfl) (by decide) o6 (fun c7 => ?_) (fun c7 => ?_)
    · replace h := ifn h c7
      refine xr_iconst (v := oI 0) (xd dX12_draft 22 rfl) (by decide) ?_
      refine xr_istore [(0, .ref 491), (1, .int (oI p1)), (2, .long p2), (4, .int (oI 0))] (xd dX12_draft 23 rfl) (by decide) rfl ?_
      refine h (fun x9 J10 L11 => xJ (xGm b dC dI cA ts) l mX12_draft 0 0 (zQ1 n R Q) (fun _ _ => False) 0 0 44 [(0, .ref 491), (1, .int (oI p1)), (2, .long p2), (4, .int (oI x9))] [] al n R (zi J10) (li L11)) ?_
      intro x9 J10 L11 h
      show xJ _ _ _ _ _ _ _ _ _ 44 [(0, .ref 491), (1, .int (oI p1)), (2, .long p2), (4, .int (oI x9))] [] _ _ _ _ _
      refine xr_iload (xd dX12_draft 24 rfl) 3 rfl ?_
      refine xr_iload_n (xd dX12_draft 25 rfl) 1 rfl ?_
      obtain ⟨o12, h⟩ := h
      obtain ⟨o13, h⟩ := h
      refine zr_icmp_ge 80 (xd dX12_draft 26 rfl) (by decide) o12 o13 (fun c14 => ?_) (fun c14 => ?_)
      · replace h := ifn h c14
        refine xr_aload_n (xd dX12_draft 44 rfl) 0 rfl ?_
        refine xr_dup (xd dX12_draft 45 rfl) rfl ?_
        refine zr_getI 12 9 9 rfl (xd dX12_draft 46 rfl) f12_390 (by decide) (by decide) (lt552 hn (by decide)) kd_491 rfl ?_
        refine xr_iload_n (xd dX12_draft 47 rfl) 1 rfl ?_
        refine zr_iadd (xd dX12_draft 48 rfl) ?_
        obtain ⟨J15, e_J15⟩ : ∃ z_ : zM, z_ = zs J10 491 9 ((J10 491 9) + p1) := ⟨_, rfl⟩
        replace h := h J15 e_J15
        refine zr_putI 12 9 9 rfl e_J15 (xd dX12_draft 49 rfl) f12_390 (by decide) (by decide) (lt552 hn (by decide)) kd_491 (Or.inl rfl) rfl rfl (fun _ => rfl) ?_
        refine xr_aload_n (xd dX12_draft 50 rfl) 0 rfl ?_
        refine zr_getI 12 9 9 rfl (xd dX12_draft 51 rfl) f12_390 (by decide) (by decide) (lt552 hn (by decide)) kd_491 rfl ?_
        exact xr_iret (xd dX12_draft 52 rfl) rfl (by decide) (by decide) (fun _ => rfl) ⟨_, _, _, rfl, rfl, h⟩
      · replace h := ifp h c14
        refine xr_aload_n (xd dX12_draft 27 rfl) 0 rfl ?_
        refine xr_getR (b := 494) 12 8 (xd dX12_draft 28 rfl) f12_16 (by decide) (by decide) (lt552 hn (by decide)) kd_491 rfl (r_491_8 hR) ?_
        refine xr_aload_n (xd dX12_draft 29 rfl) 0 rfl ?_
        refine zr_getI 12 9 9 rfl (xd dX12_draft 30 rfl) f12_390 (by decide) (by decide) (lt552 hn (by decide)) kd_491 rfl ?_
        refine xr_iload (xd dX12_draft 31 rfl) 3 rfl ?_
        refine zr_iadd (xd dX12_draft 32 rfl) ?_
        refine xr_lload_n (xd dX12_draft 33 rfl) 2 rfl ?_
        refine xr_bipush (v := oI 8) (xd dX12_draft 34 rfl) (by decide) ?_
        refine xr_iload (xd dX12_draft 35 rfl) 3 rfl ?_
        refine zr_imul (xd dX12_draft 36 rfl) ?_
        refine zr_lshr (xd dX12_draft 37 rfl) ?_
        refine xr_ldc2_w (v := 255) (xd dX12_draft 38 rfl) q12_236 ?_
        refine xr_land (xd dX12_draft 39 rfl) ?_
        refine zr_l2i (xd dX12_draft 40 rfl) ?_
        obtain ⟨o16, h⟩ := h
        obtain ⟨J17, e_J17⟩ : ∃ z_ : zM, z_ = zs J10 494 ((J10 491 9) + x9) (zl2i ((yshr p2 (8 * x9)) &&& 255)) := ⟨_, rfl⟩
        replace h := h J17 e_J17
        refine zr_iastore e_J17 (xd dX12_draft 41 rfl) (lt552 hn (by decide)) kd_494 ln_494 (by decide) o16 ?_
        refine zr_iinc [(0, .ref 491), (1, .int (oI p1)), (2, .long p2), (4, .int (oI (x9 + 1)))] (xd dX12_draft 42 rfl) 3 rfl (by decide) rfl ?_
        refine xr_goto 44 (xd dX12_draft 43 rfl) (by decide) ?_
        exact h
    · replace h := ifp h c7
      refine xr_iconst (v := oI 0) (xd dX12_draft 20 rfl) (by decide) ?_
      exact xr_iret (xd dX12_draft 21 rfl) rfl (by decide) (by decide) (fun _ => rfl) ⟨_, _, _, rfl, rfl, h⟩)
  replace h := h (fun (J18 : zM) (L19 : yM) => xJ (xGm b dC dI cA ts) l mX12_draft 0 0 (zQ1 n R Q) (fun _ _ => False) 0 0 24 [(0, .ref 491), (1, .int (oI p1)), (2, .long p2)] [.ref 491] al n R (zi J18) (li L19)) (by
    intro J18 L19 h
    show xJ _ _ _ _ _ _ _ _ _ 24 [(0, .ref 491), (1, .int (oI p1)), (2, .long p2)] [.ref 491] _ _ _ _ _
    refine xr_iconst (v := oI 1) (xd dX12_draft 13 rfl) (by decide) ?_
    refine xr_goto 29 (xd dX12_draft 14 rfl) (by decide) ?_
    exact h)
  obtain ⟨o21, h⟩ := h
  refine zr_icmp_lt 24 (xd dX12_draft 3 rfl) (by decide) o21 (by decide) (fun c22 => ?_) (fun c22 => ?_)
  · replace h := ifp h c22
    exact h
  · replace h := ifn h c22
    refine xr_iload_n (xd dX12_draft 4 rfl) 1 rfl ?_
    refine xr_bipush (v := oI 8) (xd dX12_draft 5 rfl) (by decide) ?_
    refine zr_icmp_gt 24 (xd dX12_draft 6 rfl) (by decide) o21 (by decide) (fun c23 => ?_) (fun c23 => ?_)
    · replace h := ifp h c23
      exact h
    · replace h := ifn h c23
      refine xr_aload_n (xd dX12_draft 7 rfl) 0 rfl ?_
      refine zr_getI 12 9 9 rfl (xd dX12_draft 8 rfl) f12_390 (by decide) (by decide) (lt552 hn (by decide)) kd_491 rfl ?_
      refine xr_iload_n (xd dX12_draft 9 rfl) 1 rfl ?_
      refine zr_iadd (xd dX12_draft 10 rfl) ?_
      refine xr_sipush (v := oI 500) (xd dX12_draft 11 rfl) (by decide) ?_
      obtain ⟨o24, h⟩ := h
      refine zr_icmp_le 28 (xd dX12_draft 12 rfl) (by decide) o24 (by decide) (fun c25 => ?_) (fun c25 => ?_)
      · replace h := ifn h c25
        refine xr_iconst (v := oI 0) (xd dX12_draft 15 rfl) (by decide) ?_
        exact h
      · replace h := ifp h c25
        exact h
def w_X12_greet  (J : zM) (L : yM) (Q : Int → zM → yM → Prop) : Prop := w_X12_hasBegun J L (fun r3 J1 L2 => ∀ K7 : Int → zM → yM → Prop, (∀ (x4 : Int) (J5 : zM) (L6 : yM), (∀ J8 : zM, J8 = zs J5 491 0 x4 → R32 (J8 491 0) ∧ (if 0 < (J8 491 0) then Q 0 J8 L6 else ∀ J11 : zM, J11 = zs J8 491 7 (J8 491 9) → zl_z (fun K12 x13 J14 L15 => R32 x13 ∧ R32 (J14 491 7) ∧ (if x13 < (J14 491 7) then ((0 : Int) ≤ x13 ∧ x13 < 500) ∧ ((0 : Int) ≤ x13 ∧ x13 < 150) ∧ ∀ J22 : zM, J22 = zs J14 493 x13 (J14 494 x13) → K12 (x13 + 1) J22 L15 else ∀ J19 : zM, J19 = zs J14 491 9 0 → Q (J19 491 7) J19 L15)) 0 J11 L6)) → K7 x4 J5 L6) → R32 r3 ∧ (if r3 = 0 then R32 (J1 491 9) ∧ (if 150 < (J1 491 9) then K7 2 J1 L2 else K7 0 J1 L2) else K7 1 J1 L2))
set_option maxHeartbeats 4000000 in
set_option maxRecDepth 100000 in
theorem v_X12_greet {b : Nat} {dC : Nat → ClassId} {dI : Nat → Nat → Nat} {cA : Nat → ClassId} {ts : Nat → Nat} {l : Launch} {n : Nat} {R : Nat → Nat → Option Nat} {al : Bool} (hn : 552 ≤ n) (hR : xRk R)   {J : zM} {L : yM} {Q : Int → zM → yM → Prop} (h : w_X12_greet  J L Q) : xCn (xGm b dC dI cA ts) l mX12_greet [.ref 491] al (n, R, zi J, li L) 0 0 (zQ1 n R Q) (fun _ _ => False) := by
  refine xCn.ofJ (by decide) (Nat.le_of_ble_eq_true rfl) ?_
  show xJ _ _ _ _ _ _ _ _ _ 0 [(0, .ref 491)] [] _ _ _ _ _
  unfold w_X12_greet at h
  refine xr_aload_n (xd dX12_greet 0 rfl) 0 rfl ?_
  refine xr_aload_n (xd dX12_greet 1 rfl) 0 rfl ?_
  refine xr_callV mX12_hasBegun 0 [] (xd dX12_greet 2 rfl) l12_424 kX12_hasBegun rfl (lt552 hn (by decide)) kd_491 (by decide) rfl (by decide) (Nat.le_of_ble_eq_true rfl) (v_X12_hasBegun hn hR  h) (by decide) (by decide) (fun r_ M_ h_ => ?_) (fun _ _ h_ => h_.elim)
  obtain ⟨r3, J1, L2, rfl, rfl, h⟩ := h_
  show xJ _ _ _ _ _ _ _ _ _ 5 [(0, .ref 491)] [.int (oI r3), .ref 491] _ _ _ (zi J1) (li L2)
  replace h := h (fun (x4 : Int) (J5 : zM) (L6 : yM) => xJ (xGm b dC dI cA ts) l mX12_greet 0 0 (zQ1 n R Q) (fun _ _ => False) 0 0 27 [(0, .ref 491)] [.int (oI x4), .ref 491] al n R (zi J5) (li L6)) (by
    intro x4 J5 L6 h
    show xJ _ _ _ _ _ _ _ _ _ 27 [(0, .ref 491)] [.int (oI x4), .ref 491] _ _ _ _ _
    obtain ⟨J8, e_J8⟩ : ∃ z_ : zM, z_ = zs J5 491 0 x4 := ⟨_, rfl⟩
    replace h := h J8 e_J8
    refine zr_putI 12 0 0 rfl e_J8 (xd dX12_greet 13 rfl) f12_200 (by decide) (by decide) (lt552 hn (by decide)) kd_491 (Or.inl rfl) rfl rfl (fun _ => rfl) ?_
    refine xr_aload_n (xd dX12_greet 14 rfl) 0 rfl ?_
    refine zr_getI 12 0 0 rfl (xd dX12_greet 15 rfl) f12_200 (by decide) (by decide) (lt552 hn (by decide)) kd_491 rfl ?_
    obtain ⟨o9, h⟩ := h
    refine zr_if_le 39 (xd dX12_greet 16 rfl) (by decide) o9 (fun c10 => ?_) (fun c10 => ?_)
    · replace h := ifn h c10
      refine xr_aload_n (xd dX12_greet 19 rfl) 0 rfl ?_
      refine xr_aload_n (xd dX12_greet 20 rfl) 0 rfl ?_
      refine zr_getI 12 9 9 rfl (xd dX12_greet 21 rfl) f12_390 (by decide) (by decide) (lt552 hn (by decide)) kd_491 rfl ?_
      obtain ⟨J11, e_J11⟩ : ∃ z_ : zM, z_ = zs J8 491 7 (J8 491 9) := ⟨_, rfl⟩
      replace h := h J11 e_J11
      refine zr_putI 12 7 7 rfl e_J11 (xd dX12_greet 22 rfl) f12_393 (by decide) (by decide) (lt552 hn (by decide)) kd_491 (Or.inl rfl) rfl rfl (fun _ => rfl) ?_
      refine xr_iconst (v := oI 0) (xd dX12_greet 23 rfl) (by decide) ?_
      refine xr_istore_n [(0, .ref 491), (1, .int (oI 0))] (xd dX12_greet 24 rfl) rfl (by decide) rfl ?_
      refine h (fun x13 J14 L15 => xJ (xGm b dC dI cA ts) l mX12_greet 0 0 (zQ1 n R Q) (fun _ _ => False) 0 0 49 [(0, .ref 491), (1, .int (oI x13))] [] al n R (zi J14) (li L15)) ?_
      intro x13 J14 L15 h
      show xJ _ _ _ _ _ _ _ _ _ 49 [(0, .ref 491), (1, .int (oI x13))] [] _ _ _ _ _
      refine xr_iload_n (xd dX12_greet 25 rfl) 1 rfl ?_
      refine xr_aload_n (xd dX12_greet 26 rfl) 0 rfl ?_
      refine zr_getI 12 7 7 rfl (xd dX12_greet 27 rfl) f12_393 (by decide) (by decide) (lt552 hn (by decide)) kd_491 rfl ?_
      obtain ⟨o16, h⟩ := h
      obtain ⟨o17, h⟩ := h
      refine zr_icmp_ge 75 (xd dX12_greet 28 rfl) (by decide) o16 o17 (fun c18 => ?_) (fun c18 => ?_)
      · replace h := ifn h c18
        refine xr_aload_n (xd dX12_greet 39 rfl) 0 rfl ?_
        refine xr_iconst (v := oI 0) (xd dX12_greet 40 rfl) (by decide) ?_
        obtain ⟨J19, e_J19⟩ : ∃ z_ : zM, z_ = zs J14 491 9 0 := ⟨_, rfl⟩
        replace h := h J19 e_J19
        refine zr_putI 12 9 9 rfl e_J19 (xd dX12_greet 41 rfl) f12_390 (by decide) (by decide) (lt552 hn (by decide)) kd_491 (Or.inl rfl) rfl rfl (fun _ => rfl) ?_
        refine xr_aload_n (xd dX12_greet 42 rfl) 0 rfl ?_
        refine zr_getI 12 7 7 rfl (xd dX12_greet 43 rfl) f12_393 (by decide) (by decide) (lt552 hn (by decide)) kd_491 rfl ?_
        exact xr_iret (xd dX12_greet 44 rfl) rfl (by decide) (by decide) (fun _ => rfl) ⟨_, _, _, rfl, rfl, h⟩
      · replace h := ifp h c18
        refine xr_aload_n (xd dX12_greet 29 rfl) 0 rfl ?_
        refine xr_getR (b := 493) 12 6 (xd dX12_greet 30 rfl) f12_13 (by decide) (by decide) (lt552 hn (by decide)) kd_491 rfl (r_491_6 hR) ?_
        refine xr_iload_n (xd dX12_greet 31 rfl) 1 rfl ?_
        refine xr_aload_n (xd dX12_greet 32 rfl) 0 rfl ?_
        refine xr_getR (b := 494) 12 8 (xd dX12_greet 33 rfl) f12_16 (by decide) (by decide) (lt552 hn (by decide)) kd_491 rfl (r_491_8 hR) ?_
        refine xr_iload_n (xd dX12_greet 34 rfl) 1 rfl ?_
        obtain ⟨o20, h⟩ := h
        refine zr_iaload (xd dX12_greet 35 rfl) (lt552 hn (by decide)) kd_494 ln_494 (by decide) o20 ?_
        obtain ⟨o21, h⟩ := h
        obtain ⟨J22, e_J22⟩ : ∃ z_ : zM, z_ = zs J14 493 x13 (J14 494 x13) := ⟨_, rfl⟩
        replace h := h J22 e_J22
        refine zr_iastore e_J22 (xd dX12_greet 36 rfl) (lt552 hn (by decide)) kd_493 ln_493 (by decide) o21 ?_
        refine zr_iinc [(0, .ref 491), (1, .int (oI (x13 + 1)))] (xd dX12_greet 37 rfl) 1 rfl (by decide) rfl ?_
        refine xr_goto 49 (xd dX12_greet 38 rfl) (by decide) ?_
        exact h
    · replace h := ifp h c10
      refine xr_iconst (v := oI 0) (xd dX12_greet 17 rfl) (by decide) ?_
      exact xr_iret (xd dX12_greet 18 rfl) rfl (by decide) (by decide) (fun _ => rfl) ⟨_, _, _, rfl, rfl, h⟩)
  obtain ⟨o23, h⟩ := h
  refine zr_if_eq 12 (xd dX12_greet 3 rfl) (by decide) o23 (fun c24 => ?_) (fun c24 => ?_)
  · replace h := ifp h c24
    refine xr_aload_n (xd dX12_greet 6 rfl) 0 rfl ?_
    refine zr_getI 12 9 9 rfl (xd dX12_greet 7 rfl) f12_390 (by decide) (by decide) (lt552 hn (by decide)) kd_491 rfl ?_
    refine xr_sipush (v := oI 150) (xd dX12_greet 8 rfl) (by decide) ?_
    obtain ⟨o25, h⟩ := h
    refine zr_icmp_le 26 (xd dX12_greet 9 rfl) (by decide) o25 (by decide) (fun c26 => ?_) (fun c26 => ?_)
    · replace h := ifn h c26
      refine xr_iconst (v := oI 0) (xd dX12_greet 12 rfl) (by decide) ?_
      exact h
    · replace h := ifp h c26
      refine xr_iconst (v := oI 2) (xd dX12_greet 10 rfl) (by decide) ?_
      refine xr_goto 27 (xd dX12_greet 11 rfl) (by decide) ?_
      exact h
  · replace h := ifn h c24
    refine xr_iconst (v := oI 1) (xd dX12_greet 4 rfl) (by decide) ?_
    refine xr_goto 27 (xd dX12_greet 5 rfl) (by decide) ?_
    exact h
def w_X12_write (p1 : Int) (J : zM) (L : yM) (Q : Int → zM → yM → Prop) : Prop := w_X12_noSide p1 J L (fun r3 J1 L2 => ∀ K7 : Int → zM → yM → Prop, (∀ (x4 : Int) (J5 : zM) (L6 : yM), (∀ J8 : zM, J8 = zs J5 491 0 x4 → R32 (J8 491 0) ∧ (if 0 < (J8 491 0) then Q 0 J8 L6 else ((0 : Int) ≤ ((4 * p1) + 3) ∧ ((4 * p1) + 3) < 8) ∧ R32 (J8 514 ((4 * p1) + 3)) ∧ (if 65535 < (J8 514 ((4 * p1) + 3)) then Q (-1) J8 L6 else ∀ J14 : zM, J14 = zs J8 491 33 0 → zl_z (fun K15 x16 J17 L18 => R32 x16 ∧ R32 (J17 491 9) ∧ (if x16 < (J17 491 9) then ((0 : Int) ≤ x16 ∧ x16 < 500) ∧ w_X12_inner (J17 494 x16) J17 L18 (fun J30 L31 => K15 (x16 + 1) J30 L31) else ∀ J22 : zM, J22 = zs J17 491 9 0 → ∀ J23 : zM, J23 = zs J22 491 30 0 → w_X12_record p1 3 23 J23 L18 (fun r26 J24 L25 => w_X12_sendMade p1 J24 L25 (fun J27 L28 => Q r26 J27 L28)))) 0 J14 L6))) → K7 x4 J5 L6) → R32 r3 ∧ (if r3 = 0 then ((0 : Int) ≤ p1 ∧ p1 < 2) ∧ R32 (J1 534 p1) ∧ (if (J1 534 p1) = 2 then ∀ K39 : zM → yM → Prop, (∀ (J37 : zM) (L38 : yM), (K7 3 J37 L38) → K39 J37 L38) → R32 (J1 491 9) ∧ (if (J1 491 9) < 1 then K39 J1 L2 else (if 60 < (J1 491 9) then K39 J1 L2 else K7 0 J1 L2)) else K7 2 J1 L2) else K7 1 J1 L2))
set_option maxHeartbeats 4000000 in
set_option maxRecDepth 100000 in
theorem v_X12_write {b : Nat} {dC : Nat → ClassId} {dI : Nat → Nat → Nat} {cA : Nat → ClassId} {ts : Nat → Nat} {l : Launch} {n : Nat} {R : Nat → Nat → Option Nat} {al : Bool} (hn : 552 ≤ n) (hR : xRk R) {p1 : Int}  {J : zM} {L : yM} {Q : Int → zM → yM → Prop} (h : w_X12_write p1 J L Q) : xCn (xGm b dC dI cA ts) l mX12_write [.ref 491, .int (oI p1)] al (n, R, zi J, li L) 0 0 (zQ1 n R Q) (fun _ _ => False) := by
  refine xCn.ofJ (by decide) (Nat.le_of_ble_eq_true rfl) ?_
  show xJ _ _ _ _ _ _ _ _ _ 0 [(0, .ref 491), (1, .int (oI p1))] [] _ _ _ _ _
  unfold w_X12_write at h
  refine xr_aload_n (xd dX12_write 0 rfl) 0 rfl ?_
  refine xr_iload_n (xd dX12_write 1 rfl) 1 rfl ?_
  refine xr_callS mX12_noSide 1 [.int (oI p1)] (xd dX12_write 2 rfl) l12_565 kX12_noSide rfl rfl (by decide) (Nat.le_of_ble_eq_true rfl) (v_X12_noSide hn hR  h) (by decide) (by decide) (fun r_ M_ h_ => ?_) (fun _ _ h_ => h_.elim)
  obtain ⟨r3, J1, L2, rfl, rfl, h⟩ := h_
  show xJ _ _ _ _ _ _ _ _ _ 5 [(0, .ref 491), (1, .int (oI p1))] [.int (oI r3), .ref 491] _ _ _ (zi J1) (li L2)
  replace h := h (fun (x4 : Int) (J5 : zM) (L6 : yM) => xJ (xGm b dC dI cA ts) l mX12_write 0 0 (zQ1 n R Q) (fun _ _ => False) 0 0 48 [(0, .ref 491), (1, .int (oI p1))] [.int (oI x4), .ref 491] al n R (zi J5) (li L6)) (by
    intro x4 J5 L6 h
    show xJ _ _ _ _ _ _ _ _ _ 48 [(0, .ref 491), (1, .int (oI p1))] [.int (oI x4), .ref 491] _ _ _ _ _
    obtain ⟨J8, e_J8⟩ : ∃ z_ : zM, z_ = zs J5 491 0 x4 := ⟨_, rfl⟩
    replace h := h J8 e_J8
    refine zr_putI 12 0 0 rfl e_J8 (xd dX12_write 25 rfl) f12_200 (by decide) (by decide) (lt552 hn (by decide)) kd_491 (Or.inl rfl) rfl rfl (fun _ => rfl) ?_
    refine xr_aload_n (xd dX12_write 26 rfl) 0 rfl ?_
    refine zr_getI 12 0 0 rfl (xd dX12_write 27 rfl) f12_200 (by decide) (by decide) (lt552 hn (by decide)) kd_491 rfl ?_
    obtain ⟨o9, h⟩ := h
    refine zr_if_le 60 (xd dX12_write 28 rfl) (by decide) o9 (fun c10 => ?_) (fun c10 => ?_)
    · replace h := ifn h c10
      refine xr_aload_n (xd dX12_write 31 rfl) 0 rfl ?_
      refine xr_getR (b := 514) 12 31 (xd dX12_write 32 rfl) f12_79 (by decide) (by decide) (lt552 hn (by decide)) kd_491 rfl (r_491_31 hR) ?_
      refine xr_iconst (v := oI 4) (xd dX12_write 33 rfl) (by decide) ?_
      refine xr_iload_n (xd dX12_write 34 rfl) 1 rfl ?_
      refine zr_imul (xd dX12_write 35 rfl) ?_
      refine xr_iconst (v := oI 3) (xd dX12_write 36 rfl) (by decide) ?_
      refine zr_iadd (xd dX12_write 37 rfl) ?_
      obtain ⟨o11, h⟩ := h
      refine zr_iaload (xd dX12_write 38 rfl) (lt552 hn (by decide)) kd_514 ln_514 (by decide) o11 ?_
      refine xr_ldc_w (v := oI 65535) (xd dX12_write 39 rfl) q12_327 ?_
      obtain ⟨o12, h⟩ := h
      refine zr_icmp_le 78 (xd dX12_write 40 rfl) (by decide) o12 (by decide) (fun c13 => ?_) (fun c13 => ?_)
      · replace h := ifn h c13
        refine xr_aload_n (xd dX12_write 43 rfl) 0 rfl ?_
        refine xr_iconst (v := oI 0) (xd dX12_write 44 rfl) (by decide) ?_
        obtain ⟨J14, e_J14⟩ : ∃ z_ : zM, z_ = zs J8 491 33 0 := ⟨_, rfl⟩
        replace h := h J14 e_J14
        refine zr_putI 12 33 33 rfl e_J14 (xd dX12_write 45 rfl) f12_331 (by decide) (by decide) (lt552 hn (by decide)) kd_491 (Or.inl rfl) rfl rfl (fun _ => rfl) ?_
        refine xr_iconst (v := oI 0) (xd dX12_write 46 rfl) (by decide) ?_
        refine xr_istore_n [(0, .ref 491), (1, .int (oI p1)), (2, .int (oI 0))] (xd dX12_write 47 rfl) rfl (by decide) rfl ?_
        refine h (fun x16 J17 L18 => xJ (xGm b dC dI cA ts) l mX12_write 0 0 (zQ1 n R Q) (fun _ _ => False) 0 0 85 [(0, .ref 491), (1, .int (oI p1)), (2, .int (oI x16))] [] al n R (zi J17) (li L18)) ?_
        intro x16 J17 L18 h
        show xJ _ _ _ _ _ _ _ _ _ 85 [(0, .ref 491), (1, .int (oI p1)), (2, .int (oI x16))] [] _ _ _ _ _
        refine xr_iload_n (xd dX12_write 48 rfl) 2 rfl ?_
        refine xr_aload_n (xd dX12_write 49 rfl) 0 rfl ?_
        refine zr_getI 12 9 9 rfl (xd dX12_write 50 rfl) f12_390 (by decide) (by decide) (lt552 hn (by decide)) kd_491 rfl ?_
        obtain ⟨o19, h⟩ := h
        obtain ⟨o20, h⟩ := h
        refine zr_icmp_ge 109 (xd dX12_write 51 rfl) (by decide) o19 o20 (fun c21 => ?_) (fun c21 => ?_)
        · replace h := ifn h c21
          refine xr_aload_n (xd dX12_write 60 rfl) 0 rfl ?_
          refine xr_iconst (v := oI 0) (xd dX12_write 61 rfl) (by decide) ?_
          obtain ⟨J22, e_J22⟩ : ∃ z_ : zM, z_ = zs J17 491 9 0 := ⟨_, rfl⟩
          replace h := h J22 e_J22
          refine zr_putI 12 9 9 rfl e_J22 (xd dX12_write 62 rfl) f12_390 (by decide) (by decide) (lt552 hn (by decide)) kd_491 (Or.inl rfl) rfl rfl (fun _ => rfl) ?_
          refine xr_aload_n (xd dX12_write 63 rfl) 0 rfl ?_
          refine xr_iconst (v := oI 0) (xd dX12_write 64 rfl) (by decide) ?_
          obtain ⟨J23, e_J23⟩ : ∃ z_ : zM, z_ = zs J22 491 30 0 := ⟨_, rfl⟩
          replace h := h J23 e_J23
          refine zr_putI 12 30 30 rfl e_J23 (xd dX12_write 65 rfl) f12_320 (by decide) (by decide) (lt552 hn (by decide)) kd_491 (Or.inl rfl) rfl rfl (fun _ => rfl) ?_
          refine xr_aload_n (xd dX12_write 66 rfl) 0 rfl ?_
          refine xr_iload_n (xd dX12_write 67 rfl) 1 rfl ?_
          refine xr_iconst (v := oI 3) (xd dX12_write 68 rfl) (by decide) ?_
          refine xr_bipush (v := oI 23) (xd dX12_write 69 rfl) (by decide) ?_
          refine xr_callV mX12_record 3 [.int (oI p1), .int (oI 3), .int (oI 23)] (xd dX12_write 70 rfl) l12_350 kX12_record rfl (lt552 hn (by decide)) kd_491 (by decide) rfl (by decide) (Nat.le_of_ble_eq_true rfl) (v_X12_record hn hR  h) (by decide) (by decide) (fun r_ M_ h_ => ?_) (fun _ _ h_ => h_.elim)
          obtain ⟨r26, J24, L25, rfl, rfl, h⟩ := h_
          show xJ _ _ _ _ _ _ _ _ _ 127 [(0, .ref 491), (1, .int (oI p1)), (2, .int (oI x16))] [.int (oI r26)] _ _ _ (zi J24) (li L25)
          refine xr_istore_n [(0, .ref 491), (1, .int (oI p1)), (2, .int (oI r26))] (xd dX12_write 71 rfl) rfl (by decide) rfl ?_
          refine xr_aload_n (xd dX12_write 72 rfl) 0 rfl ?_
          refine xr_iload_n (xd dX12_write 73 rfl) 1 rfl ?_
          refine xr_callV mX12_sendMade 1 [.int (oI p1)] (xd dX12_write 74 rfl) l12_354 kX12_sendMade rfl (lt552 hn (by decide)) kd_491 (by decide) rfl (by decide) (Nat.le_of_ble_eq_true rfl) (v_X12_sendMade hn hR  h) (by decide) (by decide) (fun r_ M_ h_ => ?_) (fun _ _ h_ => h_.elim)
          obtain ⟨J27, L28, rfl, rfl, h⟩ := h_
          show xJ _ _ _ _ _ _ _ _ _ 133 [(0, .ref 491), (1, .int (oI p1)), (2, .int (oI r26))] [] _ _ _ (zi J27) (li L28)
          refine xr_iload_n (xd dX12_write 75 rfl) 2 rfl ?_
          exact xr_iret (xd dX12_write 76 rfl) rfl (by decide) (by decide) (fun _ => rfl) ⟨_, _, _, rfl, rfl, h⟩
        · replace h := ifp h c21
          refine xr_aload_n (xd dX12_write 52 rfl) 0 rfl ?_
          refine xr_aload_n (xd dX12_write 53 rfl) 0 rfl ?_
          refine xr_getR (b := 494) 12 8 (xd dX12_write 54 rfl) f12_16 (by decide) (by decide) (lt552 hn (by decide)) kd_491 rfl (r_491_8 hR) ?_
          refine xr_iload_n (xd dX12_write 55 rfl) 2 rfl ?_
          obtain ⟨o29, h⟩ := h
          refine zr_iaload (xd dX12_write 56 rfl) (lt552 hn (by decide)) kd_494 ln_494 (by decide) o29 ?_
          refine xr_callV mX12_inner 1 [.int (oI (J17 494 x16))] (xd dX12_write 57 rfl) l12_343 kX12_inner rfl (lt552 hn (by decide)) kd_491 (by decide) rfl (by decide) (Nat.le_of_ble_eq_true rfl) (v_X12_inner hn hR  h) (by decide) (by decide) (fun r_ M_ h_ => ?_) (fun _ _ h_ => h_.elim)
          obtain ⟨J30, L31, rfl, rfl, h⟩ := h_
          show xJ _ _ _ _ _ _ _ _ _ 103 [(0, .ref 491), (1, .int (oI p1)), (2, .int (oI x16))] [] _ _ _ (zi J30) (li L31)
          refine zr_iinc [(0, .ref 491), (1, .int (oI p1)), (2, .int (oI (x16 + 1)))] (xd dX12_write 58 rfl) 2 rfl (by decide) rfl ?_
          refine xr_goto 85 (xd dX12_write 59 rfl) (by decide) ?_
          exact h
      · replace h := ifp h c13
        refine xr_iconst (v := oI (-1)) (xd dX12_write 41 rfl) (by decide) ?_
        exact xr_iret (xd dX12_write 42 rfl) rfl (by decide) (by decide) (fun _ => rfl) ⟨_, _, _, rfl, rfl, h⟩
    · replace h := ifp h c10
      refine xr_iconst (v := oI 0) (xd dX12_write 29 rfl) (by decide) ?_
      exact xr_iret (xd dX12_write 30 rfl) rfl (by decide) (by decide) (fun _ => rfl) ⟨_, _, _, rfl, rfl, h⟩)
  obtain ⟨o32, h⟩ := h
  refine zr_if_eq 12 (xd dX12_write 3 rfl) (by decide) o32 (fun c33 => ?_) (fun c33 => ?_)
  · replace h := ifp h c33
    refine xr_aload_n (xd dX12_write 6 rfl) 0 rfl ?_
    refine xr_getR (b := 534) 12 52 (xd dX12_write 7 rfl) f12_139 (by decide) (by decide) (lt552 hn (by decide)) kd_491 rfl (r_491_52 hR) ?_
    refine xr_iload_n (xd dX12_write 8 rfl) 1 rfl ?_
    obtain ⟨o34, h⟩ := h
    refine zr_iaload (xd dX12_write 9 rfl) (lt552 hn (by decide)) kd_534 ln_534 (by decide) o34 ?_
    refine xr_iconst (v := oI 2) (xd dX12_write 10 rfl) (by decide) ?_
    obtain ⟨o35, h⟩ := h
    refine zr_icmp_eq 26 (xd dX12_write 11 rfl) (by decide) o35 (by decide) (fun c36 => ?_) (fun c36 => ?_)
    · replace h := ifp h c36
      refine xr_aload_n (xd dX12_write 14 rfl) 0 rfl ?_
      refine zr_getI 12 9 9 rfl (xd dX12_write 15 rfl) f12_390 (by decide) (by decide) (lt552 hn (by decide)) kd_491 rfl ?_
      refine xr_iconst (v := oI 1) (xd dX12_write 16 rfl) (by decide) ?_
      replace h := h (fun (J37 : zM) (L38 : yM) => xJ (xGm b dC dI cA ts) l mX12_write 0 0 (zQ1 n R Q) (fun _ _ => False) 0 0 43 [(0, .ref 491), (1, .int (oI p1))] [.ref 491] al n R (zi J37) (li L38)) (by
        intro J37 L38 h
        show xJ _ _ _ _ _ _ _ _ _ 43 [(0, .ref 491), (1, .int (oI p1))] [.ref 491] _ _ _ _ _
        refine xr_iconst (v := oI 3) (xd dX12_write 22 rfl) (by decide) ?_
        refine xr_goto 48 (xd dX12_write 23 rfl) (by decide) ?_
        exact h)
      obtain ⟨o40, h⟩ := h
      refine zr_icmp_lt 43 (xd dX12_write 17 rfl) (by decide) o40 (by decide) (fun c41 => ?_) (fun c41 => ?_)
      · replace h := ifp h c41
        exact h
      · replace h := ifn h c41
        refine xr_aload_n (xd dX12_write 18 rfl) 0 rfl ?_
        refine zr_getI 12 9 9 rfl (xd dX12_write 19 rfl) f12_390 (by decide) (by decide) (lt552 hn (by decide)) kd_491 rfl ?_
        refine xr_bipush (v := oI 60) (xd dX12_write 20 rfl) (by decide) ?_
        refine zr_icmp_le 47 (xd dX12_write 21 rfl) (by decide) o40 (by decide) (fun c42 => ?_) (fun c42 => ?_)
        · replace h := ifn h c42
          refine xr_iconst (v := oI 0) (xd dX12_write 24 rfl) (by decide) ?_
          exact h
        · replace h := ifp h c42
          exact h
    · replace h := ifn h c36
      refine xr_iconst (v := oI 2) (xd dX12_write 12 rfl) (by decide) ?_
      refine xr_goto 48 (xd dX12_write 13 rfl) (by decide) ?_
      exact h
  · replace h := ifn h c33
    refine xr_iconst (v := oI 1) (xd dX12_write 4 rfl) (by decide) ?_
    refine xr_goto 48 (xd dX12_write 5 rfl) (by decide) ?_
    exact h
def w_X12_close (p1 : Int) (J : zM) (L : yM) (Q : zM → yM → Prop) : Prop := w_X12_noSide p1 J L (fun r3 J1 L2 => ∀ K7 : Int → zM → yM → Prop, (∀ (x4 : Int) (J5 : zM) (L6 : yM), (∀ J8 : zM, J8 = zs J5 491 0 x4 → R32 (J8 491 0) ∧ (if (J8 491 0) = 0 then w_X12_sendAlert p1 0 J8 L6 (fun J11 L12 => ((0 : Int) ≤ p1 ∧ p1 < 2) ∧ ∀ J14 : zM, J14 = zs J11 534 p1 3 → Q J14 L12) else Q J8 L6)) → K7 x4 J5 L6) → R32 r3 ∧ (if r3 = 0 then ((0 : Int) ≤ p1 ∧ p1 < 2) ∧ R32 (J1 534 p1) ∧ (if (J1 534 p1) = 2 then K7 0 J1 L2 else K7 2 J1 L2) else K7 1 J1 L2))
set_option maxHeartbeats 4000000 in
set_option maxRecDepth 100000 in
theorem v_X12_close {b : Nat} {dC : Nat → ClassId} {dI : Nat → Nat → Nat} {cA : Nat → ClassId} {ts : Nat → Nat} {l : Launch} {n : Nat} {R : Nat → Nat → Option Nat} {al : Bool} (hn : 552 ≤ n) (hR : xRk R) {p1 : Int}  {J : zM} {L : yM} {Q : zM → yM → Prop} (h : w_X12_close p1 J L Q) : xCn (xGm b dC dI cA ts) l mX12_close [.ref 491, .int (oI p1)] al (n, R, zi J, li L) 0 0 (zQ0 n R Q) (fun _ _ => False) := by
  refine xCn.ofJ (by decide) (Nat.le_of_ble_eq_true rfl) ?_
  show xJ _ _ _ _ _ _ _ _ _ 0 [(0, .ref 491), (1, .int (oI p1))] [] _ _ _ _ _
  unfold w_X12_close at h
  refine xr_aload_n (xd dX12_close 0 rfl) 0 rfl ?_
  refine xr_iload_n (xd dX12_close 1 rfl) 1 rfl ?_
  refine xr_callS mX12_noSide 1 [.int (oI p1)] (xd dX12_close 2 rfl) l12_565 kX12_noSide rfl rfl (by decide) (Nat.le_of_ble_eq_true rfl) (v_X12_noSide hn hR  h) (by decide) (by decide) (fun r_ M_ h_ => ?_) (fun _ _ h_ => h_.elim)
  obtain ⟨r3, J1, L2, rfl, rfl, h⟩ := h_
  show xJ _ _ _ _ _ _ _ _ _ 5 [(0, .ref 491), (1, .int (oI p1))] [.int (oI r3), .ref 491] _ _ _ (zi J1) (li L2)
  replace h := h (fun (x4 : Int) (J5 : zM) (L6 : yM) => xJ (xGm b dC dI cA ts) l mX12_close 0 0 (zQ0 n R Q) (fun _ _ => False) 0 0 27 [(0, .ref 491), (1, .int (oI p1))] [.int (oI x4), .ref 491] al n R (zi J5) (li L6)) (by
    intro x4 J5 L6 h
    show xJ _ _ _ _ _ _ _ _ _ 27 [(0, .ref 491), (1, .int (oI p1))] [.int (oI x4), .ref 491] _ _ _ _ _
    obtain ⟨J8, e_J8⟩ : ∃ z_ : zM, z_ = zs J5 491 0 x4 := ⟨_, rfl⟩
    replace h := h J8 e_J8
    refine zr_putI 12 0 0 rfl e_J8 (xd dX12_close 15 rfl) f12_200 (by decide) (by decide) (lt552 hn (by decide)) kd_491 (Or.inl rfl) rfl rfl (fun _ => rfl) ?_
    refine xr_aload_n (xd dX12_close 16 rfl) 0 rfl ?_
    refine zr_getI 12 0 0 rfl (xd dX12_close 17 rfl) f12_200 (by decide) (by decide) (lt552 hn (by decide)) kd_491 rfl ?_
    obtain ⟨o9, h⟩ := h
    refine zr_if_ne 50 (xd dX12_close 18 rfl) (by decide) o9 (fun c10 => ?_) (fun c10 => ?_)
    · replace h := ifn h c10
      exact xr_vret (xd dX12_close 28 rfl) rfl (by decide) (by decide) (fun _ => rfl) ⟨_, _, rfl, rfl, h⟩
    · replace h := ifp h c10
      refine xr_aload_n (xd dX12_close 19 rfl) 0 rfl ?_
      refine xr_iload_n (xd dX12_close 20 rfl) 1 rfl ?_
      refine xr_iconst (v := oI 0) (xd dX12_close 21 rfl) (by decide) ?_
      refine xr_callV mX12_sendAlert 2 [.int (oI p1), .int (oI 0)] (xd dX12_close 22 rfl) l12_374 kX12_sendAlert rfl (lt552 hn (by decide)) kd_491 (by decide) rfl (by decide) (Nat.le_of_ble_eq_true rfl) (v_X12_sendAlert hn hR  h) (by decide) (by decide) (fun r_ M_ h_ => ?_) (fun _ _ h_ => h_.elim)
      obtain ⟨J11, L12, rfl, rfl, h⟩ := h_
      show xJ _ _ _ _ _ _ _ _ _ 43 [(0, .ref 491), (1, .int (oI p1))] [] _ _ _ (zi J11) (li L12)
      refine xr_aload_n (xd dX12_close 23 rfl) 0 rfl ?_
      refine xr_getR (b := 534) 12 52 (xd dX12_close 24 rfl) f12_139 (by decide) (by decide) (lt552 hn (by decide)) kd_491 rfl (r_491_52 hR) ?_
      refine xr_iload_n (xd dX12_close 25 rfl) 1 rfl ?_
      refine xr_iconst (v := oI 3) (xd dX12_close 26 rfl) (by decide) ?_
      obtain ⟨o13, h⟩ := h
      obtain ⟨J14, e_J14⟩ : ∃ z_ : zM, z_ = zs J11 534 p1 3 := ⟨_, rfl⟩
      replace h := h J14 e_J14
      refine zr_iastore e_J14 (xd dX12_close 27 rfl) (lt552 hn (by decide)) kd_534 ln_534 (by decide) o13 ?_
      exact xr_vret (xd dX12_close 28 rfl) rfl (by decide) (by decide) (fun _ => rfl) ⟨_, _, rfl, rfl, h⟩)
  obtain ⟨o15, h⟩ := h
  refine zr_if_eq 12 (xd dX12_close 3 rfl) (by decide) o15 (fun c16 => ?_) (fun c16 => ?_)
  · replace h := ifp h c16
    refine xr_aload_n (xd dX12_close 6 rfl) 0 rfl ?_
    refine xr_getR (b := 534) 12 52 (xd dX12_close 7 rfl) f12_139 (by decide) (by decide) (lt552 hn (by decide)) kd_491 rfl (r_491_52 hR) ?_
    refine xr_iload_n (xd dX12_close 8 rfl) 1 rfl ?_
    obtain ⟨o17, h⟩ := h
    refine zr_iaload (xd dX12_close 9 rfl) (lt552 hn (by decide)) kd_534 ln_534 (by decide) o17 ?_
    refine xr_iconst (v := oI 2) (xd dX12_close 10 rfl) (by decide) ?_
    obtain ⟨o18, h⟩ := h
    refine zr_icmp_eq 26 (xd dX12_close 11 rfl) (by decide) o18 (by decide) (fun c19 => ?_) (fun c19 => ?_)
    · replace h := ifp h c19
      refine xr_iconst (v := oI 0) (xd dX12_close 14 rfl) (by decide) ?_
      exact h
    · replace h := ifn h c19
      refine xr_iconst (v := oI 2) (xd dX12_close 12 rfl) (by decide) ?_
      refine xr_goto 27 (xd dX12_close 13 rfl) (by decide) ?_
      exact h
  · replace h := ifn h c16
    refine xr_iconst (v := oI 1) (xd dX12_close 4 rfl) (by decide) ?_
    refine xr_goto 27 (xd dX12_close 5 rfl) (by decide) ?_
    exact h
def w_X12_net (p1 : Int) (J : zM) (L : yM) (Q : Int → zM → yM → Prop) : Prop := w_X12_noSide p1 J L (fun r3 J1 L2 => ∀ K7 : Int → zM → yM → Prop, (∀ (x4 : Int) (J5 : zM) (L6 : yM), (∀ J8 : zM, J8 = zs J5 491 0 x4 → R32 (J8 491 0) ∧ (if 0 < (J8 491 0) then Q 0 J8 L6 else ((0 : Int) ≤ p1 ∧ p1 < 2) ∧ Q (J8 509 p1) J8 L6)) → K7 x4 J5 L6) → R32 r3 ∧ (if r3 = 0 then K7 0 J1 L2 else K7 1 J1 L2))
set_option maxHeartbeats 4000000 in
set_option maxRecDepth 100000 in
theorem v_X12_net {b : Nat} {dC : Nat → ClassId} {dI : Nat → Nat → Nat} {cA : Nat → ClassId} {ts : Nat → Nat} {l : Launch} {n : Nat} {R : Nat → Nat → Option Nat} {al : Bool} (hn : 552 ≤ n) (hR : xRk R) {p1 : Int}  {J : zM} {L : yM} {Q : Int → zM → yM → Prop} (h : w_X12_net p1 J L Q) : xCn (xGm b dC dI cA ts) l mX12_net [.ref 491, .int (oI p1)] al (n, R, zi J, li L) 0 0 (zQ1 n R Q) (fun _ _ => False) := by
  refine xCn.ofJ (by decide) (Nat.le_of_ble_eq_true rfl) ?_
  show xJ _ _ _ _ _ _ _ _ _ 0 [(0, .ref 491), (1, .int (oI p1))] [] _ _ _ _ _
  unfold w_X12_net at h
  refine xr_aload_n (xd dX12_net 0 rfl) 0 rfl ?_
  refine xr_iload_n (xd dX12_net 1 rfl) 1 rfl ?_
  refine xr_callS mX12_noSide 1 [.int (oI p1)] (xd dX12_net 2 rfl) l12_565 kX12_noSide rfl rfl (by decide) (Nat.le_of_ble_eq_true rfl) (v_X12_noSide hn hR  h) (by decide) (by decide) (fun r_ M_ h_ => ?_) (fun _ _ h_ => h_.elim)
  obtain ⟨r3, J1, L2, rfl, rfl, h⟩ := h_
  show xJ _ _ _ _ _ _ _ _ _ 5 [(0, .ref 491), (1, .int (oI p1))] [.int (oI r3), .ref 491] _ _ _ (zi J1) (li L2)
  replace h := h (fun (x4 : Int) (J5 : zM) (L6 : yM) => xJ (xGm b dC dI cA ts) l mX12_net 0 0 (zQ1 n R Q) (fun _ _ => False) 0 0 13 [(0, .ref 491), (1, .int (oI p1))] [.int (oI x4), .ref 491] al n R (zi J5) (li L6)) (by
    intro x4 J5 L6 h
    show xJ _ _ _ _ _ _ _ _ _ 13 [(0, .ref 491), (1, .int (oI p1))] [.int (oI x4), .ref 491] _ _ _ _ _
    obtain ⟨J8, e_J8⟩ : ∃ z_ : zM, z_ = zs J5 491 0 x4 := ⟨_, rfl⟩
    replace h := h J8 e_J8
    refine zr_putI 12 0 0 rfl e_J8 (xd dX12_net 7 rfl) f12_200 (by decide) (by decide) (lt552 hn (by decide)) kd_491 (Or.inl rfl) rfl rfl (fun _ => rfl) ?_
    refine xr_aload_n (xd dX12_net 8 rfl) 0 rfl ?_
    refine zr_getI 12 0 0 rfl (xd dX12_net 9 rfl) f12_200 (by decide) (by decide) (lt552 hn (by decide)) kd_491 rfl ?_
    obtain ⟨o9, h⟩ := h
    refine zr_if_le 27 (xd dX12_net 10 rfl) (by decide) o9 (fun c10 => ?_) (fun c10 => ?_)
    · replace h := ifn h c10
      refine xr_aload_n (xd dX12_net 13 rfl) 0 rfl ?_
      refine xr_getR (b := 509) 12 25 (xd dX12_net 14 rfl) f12_63 (by decide) (by decide) (lt552 hn (by decide)) kd_491 rfl (r_491_25 hR) ?_
      refine xr_iload_n (xd dX12_net 15 rfl) 1 rfl ?_
      obtain ⟨o11, h⟩ := h
      refine zr_iaload (xd dX12_net 16 rfl) (lt552 hn (by decide)) kd_509 ln_509 (by decide) o11 ?_
      exact xr_iret (xd dX12_net 17 rfl) rfl (by decide) (by decide) (fun _ => rfl) ⟨_, _, _, rfl, rfl, h⟩
    · replace h := ifp h c10
      refine xr_iconst (v := oI 0) (xd dX12_net 11 rfl) (by decide) ?_
      refine xr_goto 33 (xd dX12_net 12 rfl) (by decide) ?_
      exact xr_iret (xd dX12_net 17 rfl) rfl (by decide) (by decide) (fun _ => rfl) ⟨_, _, _, rfl, rfl, h⟩)
  obtain ⟨o12, h⟩ := h
  refine zr_if_eq 12 (xd dX12_net 3 rfl) (by decide) o12 (fun c13 => ?_) (fun c13 => ?_)
  · replace h := ifp h c13
    refine xr_iconst (v := oI 0) (xd dX12_net 6 rfl) (by decide) ?_
    exact h
  · replace h := ifn h c13
    refine xr_iconst (v := oI 1) (xd dX12_net 4 rfl) (by decide) ?_
    refine xr_goto 13 (xd dX12_net 5 rfl) (by decide) ?_
    exact h
def w_X12_size (p1 : Int) (p2 : Int) (J : zM) (L : yM) (Q : Int → zM → yM → Prop) : Prop := w_X12_noPlace p1 p2 J L (fun r3 J1 L2 => ∀ K7 : Int → zM → yM → Prop, (∀ (x4 : Int) (J5 : zM) (L6 : yM), (∀ J8 : zM, J8 = zs J5 491 0 x4 → R32 (J8 491 0) ∧ (if 0 < (J8 491 0) then Q 0 J8 L6 else ((0 : Int) ≤ ((60 * p1) + p2) ∧ ((60 * p1) + p2) < 120) ∧ Q (J8 510 ((60 * p1) + p2)) J8 L6)) → K7 x4 J5 L6) → R32 r3 ∧ (if r3 = 0 then K7 0 J1 L2 else K7 1 J1 L2))
set_option maxHeartbeats 4000000 in
set_option maxRecDepth 100000 in
theorem v_X12_size {b : Nat} {dC : Nat → ClassId} {dI : Nat → Nat → Nat} {cA : Nat → ClassId} {ts : Nat → Nat} {l : Launch} {n : Nat} {R : Nat → Nat → Option Nat} {al : Bool} (hn : 552 ≤ n) (hR : xRk R) {p1 : Int} {p2 : Int}  {J : zM} {L : yM} {Q : Int → zM → yM → Prop} (h : w_X12_size p1 p2 J L Q) : xCn (xGm b dC dI cA ts) l mX12_size [.ref 491, .int (oI p1), .int (oI p2)] al (n, R, zi J, li L) 0 0 (zQ1 n R Q) (fun _ _ => False) := by
  refine xCn.ofJ (by decide) (Nat.le_of_ble_eq_true rfl) ?_
  show xJ _ _ _ _ _ _ _ _ _ 0 [(0, .ref 491), (1, .int (oI p1)), (2, .int (oI p2))] [] _ _ _ _ _
  unfold w_X12_size at h
  refine xr_aload_n (xd dX12_size 0 rfl) 0 rfl ?_
  refine xr_aload_n (xd dX12_size 1 rfl) 0 rfl ?_
  refine xr_iload_n (xd dX12_size 2 rfl) 1 rfl ?_
  refine xr_iload_n (xd dX12_size 3 rfl) 2 rfl ?_
  refine xr_callV mX12_noPlace 2 [.int (oI p1), .int (oI p2)] (xd dX12_size 4 rfl) l12_568 kX12_noPlace rfl (lt552 hn (by decide)) kd_491 (by decide) rfl (by decide) (Nat.le_of_ble_eq_true rfl) (v_X12_noPlace hn hR  h) (by decide) (by decide) (fun r_ M_ h_ => ?_) (fun _ _ h_ => h_.elim)
  obtain ⟨r3, J1, L2, rfl, rfl, h⟩ := h_
  show xJ _ _ _ _ _ _ _ _ _ 7 [(0, .ref 491), (1, .int (oI p1)), (2, .int (oI p2))] [.int (oI r3), .ref 491] _ _ _ (zi J1) (li L2)
  replace h := h (fun (x4 : Int) (J5 : zM) (L6 : yM) => xJ (xGm b dC dI cA ts) l mX12_size 0 0 (zQ1 n R Q) (fun _ _ => False) 0 0 15 [(0, .ref 491), (1, .int (oI p1)), (2, .int (oI p2))] [.int (oI x4), .ref 491] al n R (zi J5) (li L6)) (by
    intro x4 J5 L6 h
    show xJ _ _ _ _ _ _ _ _ _ 15 [(0, .ref 491), (1, .int (oI p1)), (2, .int (oI p2))] [.int (oI x4), .ref 491] _ _ _ _ _
    obtain ⟨J8, e_J8⟩ : ∃ z_ : zM, z_ = zs J5 491 0 x4 := ⟨_, rfl⟩
    replace h := h J8 e_J8
    refine zr_putI 12 0 0 rfl e_J8 (xd dX12_size 9 rfl) f12_200 (by decide) (by decide) (lt552 hn (by decide)) kd_491 (Or.inl rfl) rfl rfl (fun _ => rfl) ?_
    refine xr_aload_n (xd dX12_size 10 rfl) 0 rfl ?_
    refine zr_getI 12 0 0 rfl (xd dX12_size 11 rfl) f12_200 (by decide) (by decide) (lt552 hn (by decide)) kd_491 rfl ?_
    obtain ⟨o9, h⟩ := h
    refine zr_if_le 29 (xd dX12_size 12 rfl) (by decide) o9 (fun c10 => ?_) (fun c10 => ?_)
    · replace h := ifn h c10
      refine xr_aload_n (xd dX12_size 15 rfl) 0 rfl ?_
      refine xr_getR (b := 510) 12 26 (xd dX12_size 16 rfl) f12_66 (by decide) (by decide) (lt552 hn (by decide)) kd_491 rfl (r_491_26 hR) ?_
      refine xr_bipush (v := oI 60) (xd dX12_size 17 rfl) (by decide) ?_
      refine xr_iload_n (xd dX12_size 18 rfl) 1 rfl ?_
      refine zr_imul (xd dX12_size 19 rfl) ?_
      refine xr_iload_n (xd dX12_size 20 rfl) 2 rfl ?_
      refine zr_iadd (xd dX12_size 21 rfl) ?_
      obtain ⟨o11, h⟩ := h
      refine zr_iaload (xd dX12_size 22 rfl) (lt552 hn (by decide)) kd_510 ln_510 (by decide) o11 ?_
      exact xr_iret (xd dX12_size 23 rfl) rfl (by decide) (by decide) (fun _ => rfl) ⟨_, _, _, rfl, rfl, h⟩
    · replace h := ifp h c10
      refine xr_iconst (v := oI 0) (xd dX12_size 13 rfl) (by decide) ?_
      refine xr_goto 40 (xd dX12_size 14 rfl) (by decide) ?_
      exact xr_iret (xd dX12_size 23 rfl) rfl (by decide) (by decide) (fun _ => rfl) ⟨_, _, _, rfl, rfl, h⟩)
  obtain ⟨o12, h⟩ := h
  refine zr_if_eq 14 (xd dX12_size 5 rfl) (by decide) o12 (fun c13 => ?_) (fun c13 => ?_)
  · replace h := ifp h c13
    refine xr_iconst (v := oI 0) (xd dX12_size 8 rfl) (by decide) ?_
    exact h
  · replace h := ifn h c13
    refine xr_iconst (v := oI 1) (xd dX12_size 6 rfl) (by decide) ?_
    refine xr_goto 15 (xd dX12_size 7 rfl) (by decide) ?_
    exact h
def w_X12_noOctet (p1 : Int) (p2 : Int) (p3 : Int) (J : zM) (L : yM) (Q : Int → zM → yM → Prop) : Prop := w_X12_noPlace p1 p2 J L (fun r3 J1 L2 => R32 r3 ∧ (if r3 = 0 then R32 p3 ∧ (if p3 < 0 then Q 1 J1 L2 else ((0 : Int) ≤ ((60 * p1) + p2) ∧ ((60 * p1) + p2) < 120) ∧ R32 (J1 510 ((60 * p1) + p2)) ∧ (if p3 < (J1 510 ((60 * p1) + p2)) then Q 0 J1 L2 else Q 1 J1 L2)) else Q 1 J1 L2))
set_option maxHeartbeats 4000000 in
set_option maxRecDepth 100000 in
theorem v_X12_noOctet {b : Nat} {dC : Nat → ClassId} {dI : Nat → Nat → Nat} {cA : Nat → ClassId} {ts : Nat → Nat} {l : Launch} {n : Nat} {R : Nat → Nat → Option Nat} {al : Bool} (hn : 552 ≤ n) (hR : xRk R) {p1 : Int} {p2 : Int} {p3 : Int}  {J : zM} {L : yM} {Q : Int → zM → yM → Prop} (h : w_X12_noOctet p1 p2 p3 J L Q) : xCn (xGm b dC dI cA ts) l mX12_noOctet [.ref 491, .int (oI p1), .int (oI p2), .int (oI p3)] al (n, R, zi J, li L) 0 0 (zQ1 n R Q) (fun _ _ => False) := by
  refine xCn.ofJ (by decide) (Nat.le_of_ble_eq_true rfl) ?_
  show xJ _ _ _ _ _ _ _ _ _ 0 [(0, .ref 491), (1, .int (oI p1)), (2, .int (oI p2)), (3, .int (oI p3))] [] _ _ _ _ _
  unfold w_X12_noOctet at h
  refine xr_aload_n (xd dX12_noOctet 0 rfl) 0 rfl ?_
  refine xr_iload_n (xd dX12_noOctet 1 rfl) 1 rfl ?_
  refine xr_iload_n (xd dX12_noOctet 2 rfl) 2 rfl ?_
  refine xr_callV mX12_noPlace 2 [.int (oI p1), .int (oI p2)] (xd dX12_noOctet 3 rfl) l12_568 kX12_noPlace rfl (lt552 hn (by decide)) kd_491 (by decide) rfl (by decide) (Nat.le_of_ble_eq_true rfl) (v_X12_noPlace hn hR  h) (by decide) (by decide) (fun r_ M_ h_ => ?_) (fun _ _ h_ => h_.elim)
  obtain ⟨r3, J1, L2, rfl, rfl, h⟩ := h_
  show xJ _ _ _ _ _ _ _ _ _ 6 [(0, .ref 491), (1, .int (oI p1)), (2, .int (oI p2)), (3, .int (oI p3))] [.int (oI r3)] _ _ _ (zi J1) (li L2)
  obtain ⟨o4, h⟩ := h
  refine zr_if_ne 28 (xd dX12_noOctet 4 rfl) (by decide) o4 (fun c5 => ?_) (fun c5 => ?_)
  · replace h := ifn h c5
    refine xr_iconst (v := oI 1) (xd dX12_noOctet 17 rfl) (by decide) ?_
    refine xr_goto 33 (xd dX12_noOctet 18 rfl) (by decide) ?_
    exact xr_zret (xd dX12_noOctet 20 rfl) rfl (zret_b (Or.inr rfl)) (by decide) (by decide) (fun _ => rfl) ⟨_, _, _, rfl, rfl, h⟩
  · replace h := ifp h c5
    refine xr_iload_n (xd dX12_noOctet 5 rfl) 3 rfl ?_
    obtain ⟨o6, h⟩ := h
    refine zr_if_lt 28 (xd dX12_noOctet 6 rfl) (by decide) o6 (fun c7 => ?_) (fun c7 => ?_)
    · replace h := ifp h c7
      refine xr_iconst (v := oI 1) (xd dX12_noOctet 17 rfl) (by decide) ?_
      refine xr_goto 33 (xd dX12_noOctet 18 rfl) (by decide) ?_
      exact xr_zret (xd dX12_noOctet 20 rfl) rfl (zret_b (Or.inr rfl)) (by decide) (by decide) (fun _ => rfl) ⟨_, _, _, rfl, rfl, h⟩
    · replace h := ifn h c7
      refine xr_iload_n (xd dX12_noOctet 7 rfl) 3 rfl ?_
      refine xr_aload_n (xd dX12_noOctet 8 rfl) 0 rfl ?_
      refine xr_getR (b := 510) 12 26 (xd dX12_noOctet 9 rfl) f12_66 (by decide) (by decide) (lt552 hn (by decide)) kd_491 rfl (r_491_26 hR) ?_
      refine xr_bipush (v := oI 60) (xd dX12_noOctet 10 rfl) (by decide) ?_
      refine xr_iload_n (xd dX12_noOctet 11 rfl) 1 rfl ?_
      refine zr_imul (xd dX12_noOctet 12 rfl) ?_
      refine xr_iload_n (xd dX12_noOctet 13 rfl) 2 rfl ?_
      refine zr_iadd (xd dX12_noOctet 14 rfl) ?_
      obtain ⟨o8, h⟩ := h
      refine zr_iaload (xd dX12_noOctet 15 rfl) (lt552 hn (by decide)) kd_510 ln_510 (by decide) o8 ?_
      obtain ⟨o9, h⟩ := h
      refine zr_icmp_lt 32 (xd dX12_noOctet 16 rfl) (by decide) o6 o9 (fun c10 => ?_) (fun c10 => ?_)
      · replace h := ifp h c10
        refine xr_iconst (v := oI 0) (xd dX12_noOctet 19 rfl) (by decide) ?_
        exact xr_zret (xd dX12_noOctet 20 rfl) rfl (zret_b (Or.inl rfl)) (by decide) (by decide) (fun _ => rfl) ⟨_, _, _, rfl, rfl, h⟩
      · replace h := ifn h c10
        refine xr_iconst (v := oI 1) (xd dX12_noOctet 17 rfl) (by decide) ?_
        refine xr_goto 33 (xd dX12_noOctet 18 rfl) (by decide) ?_
        exact xr_zret (xd dX12_noOctet 20 rfl) rfl (zret_b (Or.inr rfl)) (by decide) (by decide) (fun _ => rfl) ⟨_, _, _, rfl, rfl, h⟩
def w_X12_octet (p1 : Int) (p2 : Int) (p3 : Int) (J : zM) (L : yM) (Q : Int → zM → yM → Prop) : Prop := w_X12_noOctet p1 p2 p3 J L (fun r3 J1 L2 => ∀ K7 : Int → zM → yM → Prop, (∀ (x4 : Int) (J5 : zM) (L6 : yM), (∀ J8 : zM, J8 = zs J5 491 0 x4 → R32 (J8 491 0) ∧ (if 0 < (J8 491 0) then Q 0 J8 L6 else ((0 : Int) ≤ ((500 * ((60 * p1) + p2)) + p3) ∧ ((500 * ((60 * p1) + p2)) + p3) < 60000) ∧ Q (J8 511 ((500 * ((60 * p1) + p2)) + p3)) J8 L6)) → K7 x4 J5 L6) → R32 r3 ∧ (if r3 = 0 then K7 0 J1 L2 else K7 1 J1 L2))
set_option maxHeartbeats 4000000 in
set_option maxRecDepth 100000 in
theorem v_X12_octet {b : Nat} {dC : Nat → ClassId} {dI : Nat → Nat → Nat} {cA : Nat → ClassId} {ts : Nat → Nat} {l : Launch} {n : Nat} {R : Nat → Nat → Option Nat} {al : Bool} (hn : 552 ≤ n) (hR : xRk R) {p1 : Int} {p2 : Int} {p3 : Int}  {J : zM} {L : yM} {Q : Int → zM → yM → Prop} (h : w_X12_octet p1 p2 p3 J L Q) : xCn (xGm b dC dI cA ts) l mX12_octet [.ref 491, .int (oI p1), .int (oI p2), .int (oI p3)] al (n, R, zi J, li L) 0 0 (zQ1 n R Q) (fun _ _ => False) := by
  refine xCn.ofJ (by decide) (Nat.le_of_ble_eq_true rfl) ?_
  show xJ _ _ _ _ _ _ _ _ _ 0 [(0, .ref 491), (1, .int (oI p1)), (2, .int (oI p2)), (3, .int (oI p3))] [] _ _ _ _ _
  unfold w_X12_octet at h
  refine xr_aload_n (xd dX12_octet 0 rfl) 0 rfl ?_
  refine xr_aload_n (xd dX12_octet 1 rfl) 0 rfl ?_
  refine xr_iload_n (xd dX12_octet 2 rfl) 1 rfl ?_
  refine xr_iload_n (xd dX12_octet 3 rfl) 2 rfl ?_
  refine xr_iload_n (xd dX12_octet 4 rfl) 3 rfl ?_
  refine xr_callV mX12_noOctet 3 [.int (oI p1), .int (oI p2), .int (oI p3)] (xd dX12_octet 5 rfl) l12_571 kX12_noOctet rfl (lt552 hn (by decide)) kd_491 (by decide) rfl (by decide) (Nat.le_of_ble_eq_true rfl) (v_X12_noOctet hn hR  h) (by decide) (by decide) (fun r_ M_ h_ => ?_) (fun _ _ h_ => h_.elim)
  obtain ⟨r3, J1, L2, rfl, rfl, h⟩ := h_
  show xJ _ _ _ _ _ _ _ _ _ 8 [(0, .ref 491), (1, .int (oI p1)), (2, .int (oI p2)), (3, .int (oI p3))] [.int (oI r3), .ref 491] _ _ _ (zi J1) (li L2)
  replace h := h (fun (x4 : Int) (J5 : zM) (L6 : yM) => xJ (xGm b dC dI cA ts) l mX12_octet 0 0 (zQ1 n R Q) (fun _ _ => False) 0 0 16 [(0, .ref 491), (1, .int (oI p1)), (2, .int (oI p2)), (3, .int (oI p3))] [.int (oI x4), .ref 491] al n R (zi J5) (li L6)) (by
    intro x4 J5 L6 h
    show xJ _ _ _ _ _ _ _ _ _ 16 [(0, .ref 491), (1, .int (oI p1)), (2, .int (oI p2)), (3, .int (oI p3))] [.int (oI x4), .ref 491] _ _ _ _ _
    obtain ⟨J8, e_J8⟩ : ∃ z_ : zM, z_ = zs J5 491 0 x4 := ⟨_, rfl⟩
    replace h := h J8 e_J8
    refine zr_putI 12 0 0 rfl e_J8 (xd dX12_octet 10 rfl) f12_200 (by decide) (by decide) (lt552 hn (by decide)) kd_491 (Or.inl rfl) rfl rfl (fun _ => rfl) ?_
    refine xr_aload_n (xd dX12_octet 11 rfl) 0 rfl ?_
    refine zr_getI 12 0 0 rfl (xd dX12_octet 12 rfl) f12_200 (by decide) (by decide) (lt552 hn (by decide)) kd_491 rfl ?_
    obtain ⟨o9, h⟩ := h
    refine zr_if_le 30 (xd dX12_octet 13 rfl) (by decide) o9 (fun c10 => ?_) (fun c10 => ?_)
    · replace h := ifn h c10
      refine xr_aload_n (xd dX12_octet 16 rfl) 0 rfl ?_
      refine xr_getR (b := 511) 12 27 (xd dX12_octet 17 rfl) f12_70 (by decide) (by decide) (lt552 hn (by decide)) kd_491 rfl (r_491_27 hR) ?_
      refine xr_sipush (v := oI 500) (xd dX12_octet 18 rfl) (by decide) ?_
      refine xr_bipush (v := oI 60) (xd dX12_octet 19 rfl) (by decide) ?_
      refine xr_iload_n (xd dX12_octet 20 rfl) 1 rfl ?_
      refine zr_imul (xd dX12_octet 21 rfl) ?_
      refine xr_iload_n (xd dX12_octet 22 rfl) 2 rfl ?_
      refine zr_iadd (xd dX12_octet 23 rfl) ?_
      refine zr_imul (xd dX12_octet 24 rfl) ?_
      refine xr_iload_n (xd dX12_octet 25 rfl) 3 rfl ?_
      refine zr_iadd (xd dX12_octet 26 rfl) ?_
      obtain ⟨o11, h⟩ := h
      refine zr_iaload (xd dX12_octet 27 rfl) (lt552 hn (by decide)) kd_511 ln_511 (by decide) o11 ?_
      exact xr_iret (xd dX12_octet 28 rfl) rfl (by decide) (by decide) (fun _ => rfl) ⟨_, _, _, rfl, rfl, h⟩
    · replace h := ifp h c10
      refine xr_iconst (v := oI 0) (xd dX12_octet 14 rfl) (by decide) ?_
      refine xr_goto 47 (xd dX12_octet 15 rfl) (by decide) ?_
      exact xr_iret (xd dX12_octet 28 rfl) rfl (by decide) (by decide) (fun _ => rfl) ⟨_, _, _, rfl, rfl, h⟩)
  obtain ⟨o12, h⟩ := h
  refine zr_if_eq 15 (xd dX12_octet 6 rfl) (by decide) o12 (fun c13 => ?_) (fun c13 => ?_)
  · replace h := ifp h c13
    refine xr_iconst (v := oI 0) (xd dX12_octet 9 rfl) (by decide) ?_
    exact h
  · replace h := ifn h c13
    refine xr_iconst (v := oI 1) (xd dX12_octet 7 rfl) (by decide) ?_
    refine xr_goto 16 (xd dX12_octet 8 rfl) (by decide) ?_
    exact h
def w_X12_deliver (p1 : Int) (p2 : Int) (J : zM) (L : yM) (Q : Int → zM → yM → Prop) : Prop := w_X12_noPlace p1 p2 J L (fun r3 J1 L2 => ∀ K7 : Int → zM → yM → Prop, (∀ (x4 : Int) (J5 : zM) (L6 : yM), (∀ J8 : zM, J8 = zs J5 491 0 x4 → R32 (J8 491 0) ∧ (if 0 < (J8 491 0) then Q 0 J8 L6 else w_X12_take p1 p2 J8 L6 (fun J11 L12 => w_X12_arrives p1 J11 L12 (fun r15 J13 L14 => Q r15 J13 L14)))) → K7 x4 J5 L6) → R32 r3 ∧ (if r3 = 0 then K7 0 J1 L2 else K7 1 J1 L2))
set_option maxHeartbeats 4000000 in
set_option maxRecDepth 100000 in
theorem v_X12_deliver {b : Nat} {dC : Nat → ClassId} {dI : Nat → Nat → Nat} {cA : Nat → ClassId} {ts : Nat → Nat} {l : Launch} {n : Nat} {R : Nat → Nat → Option Nat} {al : Bool} (hn : 552 ≤ n) (hR : xRk R) {p1 : Int} {p2 : Int}  {J : zM} {L : yM} {Q : Int → zM → yM → Prop} (h : w_X12_deliver p1 p2 J L Q) : xCn (xGm b dC dI cA ts) l mX12_deliver [.ref 491, .int (oI p1), .int (oI p2)] al (n, R, zi J, li L) 0 0 (zQ1 n R Q) (fun _ _ => False) := by
  refine xCn.ofJ (by decide) (Nat.le_of_ble_eq_true rfl) ?_
  show xJ _ _ _ _ _ _ _ _ _ 0 [(0, .ref 491), (1, .int (oI p1)), (2, .int (oI p2))] [] _ _ _ _ _
  unfold w_X12_deliver at h
  refine xr_aload_n (xd dX12_deliver 0 rfl) 0 rfl ?_
  refine xr_aload_n (xd dX12_deliver 1 rfl) 0 rfl ?_
  refine xr_iload_n (xd dX12_deliver 2 rfl) 1 rfl ?_
  refine xr_iload_n (xd dX12_deliver 3 rfl) 2 rfl ?_
  refine xr_callV mX12_noPlace 2 [.int (oI p1), .int (oI p2)] (xd dX12_deliver 4 rfl) l12_568 kX12_noPlace rfl (lt552 hn (by decide)) kd_491 (by decide) rfl (by decide) (Nat.le_of_ble_eq_true rfl) (v_X12_noPlace hn hR  h) (by decide) (by decide) (fun r_ M_ h_ => ?_) (fun _ _ h_ => h_.elim)
  obtain ⟨r3, J1, L2, rfl, rfl, h⟩ := h_
  show xJ _ _ _ _ _ _ _ _ _ 7 [(0, .ref 491), (1, .int (oI p1)), (2, .int (oI p2))] [.int (oI r3), .ref 491] _ _ _ (zi J1) (li L2)
  replace h := h (fun (x4 : Int) (J5 : zM) (L6 : yM) => xJ (xGm b dC dI cA ts) l mX12_deliver 0 0 (zQ1 n R Q) (fun _ _ => False) 0 0 15 [(0, .ref 491), (1, .int (oI p1)), (2, .int (oI p2))] [.int (oI x4), .ref 491] al n R (zi J5) (li L6)) (by
    intro x4 J5 L6 h
    show xJ _ _ _ _ _ _ _ _ _ 15 [(0, .ref 491), (1, .int (oI p1)), (2, .int (oI p2))] [.int (oI x4), .ref 491] _ _ _ _ _
    obtain ⟨J8, e_J8⟩ : ∃ z_ : zM, z_ = zs J5 491 0 x4 := ⟨_, rfl⟩
    replace h := h J8 e_J8
    refine zr_putI 12 0 0 rfl e_J8 (xd dX12_deliver 9 rfl) f12_200 (by decide) (by decide) (lt552 hn (by decide)) kd_491 (Or.inl rfl) rfl rfl (fun _ => rfl) ?_
    refine xr_aload_n (xd dX12_deliver 10 rfl) 0 rfl ?_
    refine zr_getI 12 0 0 rfl (xd dX12_deliver 11 rfl) f12_200 (by decide) (by decide) (lt552 hn (by decide)) kd_491 rfl ?_
    obtain ⟨o9, h⟩ := h
    refine zr_if_le 27 (xd dX12_deliver 12 rfl) (by decide) o9 (fun c10 => ?_) (fun c10 => ?_)
    · replace h := ifn h c10
      refine xr_aload_n (xd dX12_deliver 15 rfl) 0 rfl ?_
      refine xr_iload_n (xd dX12_deliver 16 rfl) 1 rfl ?_
      refine xr_iload_n (xd dX12_deliver 17 rfl) 2 rfl ?_
      refine xr_callV mX12_take 2 [.int (oI p1), .int (oI p2)] (xd dX12_deliver 18 rfl) l12_559 kX12_take rfl (lt552 hn (by decide)) kd_491 (by decide) rfl (by decide) (Nat.le_of_ble_eq_true rfl) (v_X12_take hn hR  h) (by decide) (by decide) (fun r_ M_ h_ => ?_) (fun _ _ h_ => h_.elim)
      obtain ⟨J11, L12, rfl, rfl, h⟩ := h_
      show xJ _ _ _ _ _ _ _ _ _ 33 [(0, .ref 491), (1, .int (oI p1)), (2, .int (oI p2))] [] _ _ _ (zi J11) (li L12)
      refine xr_aload_n (xd dX12_deliver 19 rfl) 0 rfl ?_
      refine xr_iload_n (xd dX12_deliver 20 rfl) 1 rfl ?_
      refine xr_callV mX12_arrives 1 [.int (oI p1)] (xd dX12_deliver 21 rfl) l12_562 kX12_arrives rfl (lt552 hn (by decide)) kd_491 (by decide) rfl (by decide) (Nat.le_of_ble_eq_true rfl) (v_X12_arrives hn hR  h) (by decide) (by decide) (fun r_ M_ h_ => ?_) (fun _ _ h_ => h_.elim)
      obtain ⟨r15, J13, L14, rfl, rfl, h⟩ := h_
      show xJ _ _ _ _ _ _ _ _ _ 38 [(0, .ref 491), (1, .int (oI p1)), (2, .int (oI p2))] [.int (oI r15)] _ _ _ (zi J13) (li L14)
      exact xr_iret (xd dX12_deliver 22 rfl) rfl (by decide) (by decide) (fun _ => rfl) ⟨_, _, _, rfl, rfl, h⟩
    · replace h := ifp h c10
      refine xr_iconst (v := oI 0) (xd dX12_deliver 13 rfl) (by decide) ?_
      exact xr_iret (xd dX12_deliver 14 rfl) rfl (by decide) (by decide) (fun _ => rfl) ⟨_, _, _, rfl, rfl, h⟩)
  obtain ⟨o16, h⟩ := h
  refine zr_if_eq 14 (xd dX12_deliver 5 rfl) (by decide) o16 (fun c17 => ?_) (fun c17 => ?_)
  · replace h := ifp h c17
    refine xr_iconst (v := oI 0) (xd dX12_deliver 8 rfl) (by decide) ?_
    exact h
  · replace h := ifn h c17
    refine xr_iconst (v := oI 1) (xd dX12_deliver 6 rfl) (by decide) ?_
    refine xr_goto 15 (xd dX12_deliver 7 rfl) (by decide) ?_
    exact h
def w_X12_lose (p1 : Int) (p2 : Int) (J : zM) (L : yM) (Q : Int → zM → yM → Prop) : Prop := w_X12_noPlace p1 p2 J L (fun r3 J1 L2 => ∀ K7 : Int → zM → yM → Prop, (∀ (x4 : Int) (J5 : zM) (L6 : yM), (∀ J8 : zM, J8 = zs J5 491 0 x4 → R32 (J8 491 0) ∧ (if 0 < (J8 491 0) then Q 0 J8 L6 else w_X12_removePlace p1 p2 J8 L6 (fun J11 L12 => ((0 : Int) ≤ p1 ∧ p1 < 2) ∧ Q (J11 509 p1) J11 L12))) → K7 x4 J5 L6) → R32 r3 ∧ (if r3 = 0 then K7 0 J1 L2 else K7 1 J1 L2))
set_option maxHeartbeats 4000000 in
set_option maxRecDepth 100000 in
theorem v_X12_lose {b : Nat} {dC : Nat → ClassId} {dI : Nat → Nat → Nat} {cA : Nat → ClassId} {ts : Nat → Nat} {l : Launch} {n : Nat} {R : Nat → Nat → Option Nat} {al : Bool} (hn : 552 ≤ n) (hR : xRk R) {p1 : Int} {p2 : Int}  {J : zM} {L : yM} {Q : Int → zM → yM → Prop} (h : w_X12_lose p1 p2 J L Q) : xCn (xGm b dC dI cA ts) l mX12_lose [.ref 491, .int (oI p1), .int (oI p2)] al (n, R, zi J, li L) 0 0 (zQ1 n R Q) (fun _ _ => False) := by
  refine xCn.ofJ (by decide) (Nat.le_of_ble_eq_true rfl) ?_
  show xJ _ _ _ _ _ _ _ _ _ 0 [(0, .ref 491), (1, .int (oI p1)), (2, .int (oI p2))] [] _ _ _ _ _
  unfold w_X12_lose at h
  refine xr_aload_n (xd dX12_lose 0 rfl) 0 rfl ?_
  refine xr_aload_n (xd dX12_lose 1 rfl) 0 rfl ?_
  refine xr_iload_n (xd dX12_lose 2 rfl) 1 rfl ?_
  refine xr_iload_n (xd dX12_lose 3 rfl) 2 rfl ?_
  refine xr_callV mX12_noPlace 2 [.int (oI p1), .int (oI p2)] (xd dX12_lose 4 rfl) l12_568 kX12_noPlace rfl (lt552 hn (by decide)) kd_491 (by decide) rfl (by decide) (Nat.le_of_ble_eq_true rfl) (v_X12_noPlace hn hR  h) (by decide) (by decide) (fun r_ M_ h_ => ?_) (fun _ _ h_ => h_.elim)
  obtain ⟨r3, J1, L2, rfl, rfl, h⟩ := h_
  show xJ _ _ _ _ _ _ _ _ _ 7 [(0, .ref 491), (1, .int (oI p1)), (2, .int (oI p2))] [.int (oI r3), .ref 491] _ _ _ (zi J1) (li L2)
  replace h := h (fun (x4 : Int) (J5 : zM) (L6 : yM) => xJ (xGm b dC dI cA ts) l mX12_lose 0 0 (zQ1 n R Q) (fun _ _ => False) 0 0 15 [(0, .ref 491), (1, .int (oI p1)), (2, .int (oI p2))] [.int (oI x4), .ref 491] al n R (zi J5) (li L6)) (by
    intro x4 J5 L6 h
    show xJ _ _ _ _ _ _ _ _ _ 15 [(0, .ref 491), (1, .int (oI p1)), (2, .int (oI p2))] [.int (oI x4), .ref 491] _ _ _ _ _
    obtain ⟨J8, e_J8⟩ : ∃ z_ : zM, z_ = zs J5 491 0 x4 := ⟨_, rfl⟩
    replace h := h J8 e_J8
    refine zr_putI 12 0 0 rfl e_J8 (xd dX12_lose 9 rfl) f12_200 (by decide) (by decide) (lt552 hn (by decide)) kd_491 (Or.inl rfl) rfl rfl (fun _ => rfl) ?_
    refine xr_aload_n (xd dX12_lose 10 rfl) 0 rfl ?_
    refine zr_getI 12 0 0 rfl (xd dX12_lose 11 rfl) f12_200 (by decide) (by decide) (lt552 hn (by decide)) kd_491 rfl ?_
    obtain ⟨o9, h⟩ := h
    refine zr_if_le 27 (xd dX12_lose 12 rfl) (by decide) o9 (fun c10 => ?_) (fun c10 => ?_)
    · replace h := ifn h c10
      refine xr_aload_n (xd dX12_lose 15 rfl) 0 rfl ?_
      refine xr_iload_n (xd dX12_lose 16 rfl) 1 rfl ?_
      refine xr_iload_n (xd dX12_lose 17 rfl) 2 rfl ?_
      refine xr_callV mX12_removePlace 2 [.int (oI p1), .int (oI p2)] (xd dX12_lose 18 rfl) l12_550 kX12_removePlace rfl (lt552 hn (by decide)) kd_491 (by decide) rfl (by decide) (Nat.le_of_ble_eq_true rfl) (v_X12_removePlace hn hR  h) (by decide) (by decide) (fun r_ M_ h_ => ?_) (fun _ _ h_ => h_.elim)
      obtain ⟨J11, L12, rfl, rfl, h⟩ := h_
      show xJ _ _ _ _ _ _ _ _ _ 33 [(0, .ref 491), (1, .int (oI p1)), (2, .int (oI p2))] [] _ _ _ (zi J11) (li L12)
      refine xr_aload_n (xd dX12_lose 19 rfl) 0 rfl ?_
      refine xr_getR (b := 509) 12 25 (xd dX12_lose 20 rfl) f12_63 (by decide) (by decide) (lt552 hn (by decide)) kd_491 rfl (r_491_25 hR) ?_
      refine xr_iload_n (xd dX12_lose 21 rfl) 1 rfl ?_
      obtain ⟨o13, h⟩ := h
      refine zr_iaload (xd dX12_lose 22 rfl) (lt552 hn (by decide)) kd_509 ln_509 (by decide) o13 ?_
      exact xr_iret (xd dX12_lose 23 rfl) rfl (by decide) (by decide) (fun _ => rfl) ⟨_, _, _, rfl, rfl, h⟩
    · replace h := ifp h c10
      refine xr_iconst (v := oI 0) (xd dX12_lose 13 rfl) (by decide) ?_
      exact xr_iret (xd dX12_lose 14 rfl) rfl (by decide) (by decide) (fun _ => rfl) ⟨_, _, _, rfl, rfl, h⟩)
  obtain ⟨o14, h⟩ := h
  refine zr_if_eq 14 (xd dX12_lose 5 rfl) (by decide) o14 (fun c15 => ?_) (fun c15 => ?_)
  · replace h := ifp h c15
    refine xr_iconst (v := oI 0) (xd dX12_lose 8 rfl) (by decide) ?_
    exact h
  · replace h := ifn h c15
    refine xr_iconst (v := oI 1) (xd dX12_lose 6 rfl) (by decide) ?_
    refine xr_goto 15 (xd dX12_lose 7 rfl) (by decide) ?_
    exact h
def w_X12_twice (p1 : Int) (p2 : Int) (J : zM) (L : yM) (Q : Int → zM → yM → Prop) : Prop := w_X12_noPlace p1 p2 J L (fun r3 J1 L2 => ∀ K7 : Int → zM → yM → Prop, (∀ (x4 : Int) (J5 : zM) (L6 : yM), (∀ J8 : zM, J8 = zs J5 491 0 x4 → R32 (J8 491 0) ∧ (if 0 < (J8 491 0) then Q 0 J8 L6 else ((0 : Int) ≤ p1 ∧ p1 < 2) ∧ R32 (J8 509 p1) ∧ (if (J8 509 p1) = 60 then Q (-1) J8 L6 else ((0 : Int) ≤ p1 ∧ p1 < 2) ∧ w_X12_copyPlace ((60 * p1) + p2) ((60 * p1) + (J8 509 p1)) J8 L6 (fun J15 L16 => ((0 : Int) ≤ p1 ∧ p1 < 2) ∧ ((0 : Int) ≤ p1 ∧ p1 < 2) ∧ ∀ J19 : zM, J19 = zs J15 509 p1 ((J15 509 p1) + 1) → ((0 : Int) ≤ p1 ∧ p1 < 2) ∧ Q (J19 509 p1) J19 L16)))) → K7 x4 J5 L6) → R32 r3 ∧ (if r3 = 0 then K7 0 J1 L2 else K7 1 J1 L2))
set_option maxHeartbeats 4000000 in
set_option maxRecDepth 100000 in
theorem v_X12_twice {b : Nat} {dC : Nat → ClassId} {dI : Nat → Nat → Nat} {cA : Nat → ClassId} {ts : Nat → Nat} {l : Launch} {n : Nat} {R : Nat → Nat → Option Nat} {al : Bool} (hn : 552 ≤ n) (hR : xRk R) {p1 : Int} {p2 : Int}  {J : zM} {L : yM} {Q : Int → zM → yM → Prop} (h : w_X12_twice p1 p2 J L Q) : xCn (xGm b dC dI cA ts) l mX12_twice [.ref 491, .int (oI p1), .int (oI p2)] al (n, R, zi J, li L) 0 0 (zQ1 n R Q) (fun _ _ => False) := by
  refine xCn.ofJ (by decide) (Nat.le_of_ble_eq_true rfl) ?_
  show xJ _ _ _ _ _ _ _ _ _ 0 [(0, .ref 491), (1, .int (oI p1)), (2, .int (oI p2))] [] _ _ _ _ _
  unfold w_X12_twice at h
  refine xr_aload_n (xd dX12_twice 0 rfl) 0 rfl ?_
  refine xr_aload_n (xd dX12_twice 1 rfl) 0 rfl ?_
  refine xr_iload_n (xd dX12_twice 2 rfl) 1 rfl ?_
  refine xr_iload_n (xd dX12_twice 3 rfl) 2 rfl ?_
  refine xr_callV mX12_noPlace 2 [.int (oI p1), .int (oI p2)] (xd dX12_twice 4 rfl) l12_568 kX12_noPlace rfl (lt552 hn (by decide)) kd_491 (by decide) rfl (by decide) (Nat.le_of_ble_eq_true rfl) (v_X12_noPlace hn hR  h) (by decide) (by decide) (fun r_ M_ h_ => ?_) (fun _ _ h_ => h_.elim)
  obtain ⟨r3, J1, L2, rfl, rfl, h⟩ := h_
  show xJ _ _ _ _ _ _ _ _ _ 7 [(0, .ref 491), (1, .int (oI p1)), (2, .int (oI p2))] [.int (oI r3), .ref 491] _ _ _ (zi J1) (li L2)
  replace h := h (fun (x4 : Int) (J5 : zM) (L6 : yM) => xJ (xGm b dC dI cA ts) l mX12_twice 0 0 (zQ1 n R Q) (fun _ _ => False) 0 0 15 [(0, .ref 491), (1, .int (oI p1)), (2, .int (oI p2))] [.int (oI x4), .ref 491] al n R (zi J5) (li L6)) (by
    intro x4 J5 L6 h
    show xJ _ _ _ _ _ _ _ _ _ 15 [(0, .ref 491), (1, .int (oI p1)), (2, .int (oI p2))] [.int (oI x4), .ref 491] _ _ _ _ _
    obtain ⟨J8, e_J8⟩ : ∃ z_ : zM, z_ = zs J5 491 0 x4 := ⟨_, rfl⟩
    replace h := h J8 e_J8
    refine zr_putI 12 0 0 rfl e_J8 (xd dX12_twice 9 rfl) f12_200 (by decide) (by decide) (lt552 hn (by decide)) kd_491 (Or.inl rfl) rfl rfl (fun _ => rfl) ?_
    refine xr_aload_n (xd dX12_twice 10 rfl) 0 rfl ?_
    refine zr_getI 12 0 0 rfl (xd dX12_twice 11 rfl) f12_200 (by decide) (by decide) (lt552 hn (by decide)) kd_491 rfl ?_
    obtain ⟨o9, h⟩ := h
    refine zr_if_le 27 (xd dX12_twice 12 rfl) (by decide) o9 (fun c10 => ?_) (fun c10 => ?_)
    · replace h := ifn h c10
      refine xr_aload_n (xd dX12_twice 15 rfl) 0 rfl ?_
      refine xr_getR (b := 509) 12 25 (xd dX12_twice 16 rfl) f12_63 (by decide) (by decide) (lt552 hn (by decide)) kd_491 rfl (r_491_25 hR) ?_
      refine xr_iload_n (xd dX12_twice 17 rfl) 1 rfl ?_
      obtain ⟨o11, h⟩ := h
      refine zr_iaload (xd dX12_twice 18 rfl) (lt552 hn (by decide)) kd_509 ln_509 (by decide) o11 ?_
      refine xr_bipush (v := oI 60) (xd dX12_twice 19 rfl) (by decide) ?_
      obtain ⟨o12, h⟩ := h
      refine zr_icmp_ne 40 (xd dX12_twice 20 rfl) (by decide) o12 (by decide) (fun c13 => ?_) (fun c13 => ?_)
      · replace h := ifn h c13
        refine xr_aload_n (xd dX12_twice 23 rfl) 0 rfl ?_
        refine xr_bipush (v := oI 60) (xd dX12_twice 24 rfl) (by decide) ?_
        refine xr_iload_n (xd dX12_twice 25 rfl) 1 rfl ?_
        refine zr_imul (xd dX12_twice 26 rfl) ?_
        refine xr_iload_n (xd dX12_twice 27 rfl) 2 rfl ?_
        refine zr_iadd (xd dX12_twice 28 rfl) ?_
        refine xr_bipush (v := oI 60) (xd dX12_twice 29 rfl) (by decide) ?_
        refine xr_iload_n (xd dX12_twice 30 rfl) 1 rfl ?_
        refine zr_imul (xd dX12_twice 31 rfl) ?_
        refine xr_aload_n (xd dX12_twice 32 rfl) 0 rfl ?_
        refine xr_getR (b := 509) 12 25 (xd dX12_twice 33 rfl) f12_63 (by decide) (by decide) (lt552 hn (by decide)) kd_491 rfl (r_491_25 hR) ?_
        refine xr_iload_n (xd dX12_twice 34 rfl) 1 rfl ?_
        obtain ⟨o14, h⟩ := h
        refine zr_iaload (xd dX12_twice 35 rfl) (lt552 hn (by decide)) kd_509 ln_509 (by decide) o14 ?_
        refine zr_iadd (xd dX12_twice 36 rfl) ?_
        refine xr_callV mX12_copyPlace 2 [.int (oI ((60 * p1) + p2)), .int (oI ((60 * p1) + (J8 509 p1)))] (xd dX12_twice 37 rfl) l12_317 kX12_copyPlace rfl (lt552 hn (by decide)) kd_491 (by decide) rfl (by decide) (Nat.le_of_ble_eq_true rfl) (v_X12_copyPlace hn hR  h) (by decide) (by decide) (fun r_ M_ h_ => ?_) (fun _ _ h_ => h_.elim)
        obtain ⟨J15, L16, rfl, rfl, h⟩ := h_
        show xJ _ _ _ _ _ _ _ _ _ 61 [(0, .ref 491), (1, .int (oI p1)), (2, .int (oI p2))] [] _ _ _ (zi J15) (li L16)
        refine xr_aload_n (xd dX12_twice 38 rfl) 0 rfl ?_
        refine xr_getR (b := 509) 12 25 (xd dX12_twice 39 rfl) f12_63 (by decide) (by decide) (lt552 hn (by decide)) kd_491 rfl (r_491_25 hR) ?_
        refine xr_iload_n (xd dX12_twice 40 rfl) 1 rfl ?_
        refine xr_dup2 (xd dX12_twice 41 rfl) rfl rfl ?_
        obtain ⟨o17, h⟩ := h
        refine zr_iaload (xd dX12_twice 42 rfl) (lt552 hn (by decide)) kd_509 ln_509 (by decide) o17 ?_
        refine xr_iconst (v := oI 1) (xd dX12_twice 43 rfl) (by decide) ?_
        refine zr_iadd (xd dX12_twice 44 rfl) ?_
        obtain ⟨o18, h⟩ := h
        obtain ⟨J19, e_J19⟩ : ∃ z_ : zM, z_ = zs J15 509 p1 ((J15 509 p1) + 1) := ⟨_, rfl⟩
        replace h := h J19 e_J19
        refine zr_iastore e_J19 (xd dX12_twice 45 rfl) (lt552 hn (by decide)) kd_509 ln_509 (by decide) o18 ?_
        refine xr_aload_n (xd dX12_twice 46 rfl) 0 rfl ?_
        refine xr_getR (b := 509) 12 25 (xd dX12_twice 47 rfl) f12_63 (by decide) (by decide) (lt552 hn (by decide)) kd_491 rfl (r_491_25 hR) ?_
        refine xr_iload_n (xd dX12_twice 48 rfl) 1 rfl ?_
        obtain ⟨o20, h⟩ := h
        refine zr_iaload (xd dX12_twice 49 rfl) (lt552 hn (by decide)) kd_509 ln_509 (by decide) o20 ?_
        exact xr_iret (xd dX12_twice 50 rfl) rfl (by decide) (by decide) (fun _ => rfl) ⟨_, _, _, rfl, rfl, h⟩
      · replace h := ifp h c13
        refine xr_iconst (v := oI (-1)) (xd dX12_twice 21 rfl) (by decide) ?_
        exact xr_iret (xd dX12_twice 22 rfl) rfl (by decide) (by decide) (fun _ => rfl) ⟨_, _, _, rfl, rfl, h⟩
    · replace h := ifp h c10
      refine xr_iconst (v := oI 0) (xd dX12_twice 13 rfl) (by decide) ?_
      exact xr_iret (xd dX12_twice 14 rfl) rfl (by decide) (by decide) (fun _ => rfl) ⟨_, _, _, rfl, rfl, h⟩)
  obtain ⟨o21, h⟩ := h
  refine zr_if_eq 14 (xd dX12_twice 5 rfl) (by decide) o21 (fun c22 => ?_) (fun c22 => ?_)
  · replace h := ifp h c22
    refine xr_iconst (v := oI 0) (xd dX12_twice 8 rfl) (by decide) ?_
    exact h
  · replace h := ifn h c22
    refine xr_iconst (v := oI 1) (xd dX12_twice 6 rfl) (by decide) ?_
    refine xr_goto 15 (xd dX12_twice 7 rfl) (by decide) ?_
    exact h
def w_X12_forge (p1 : Int) (p2 : Int) (p3 : Int) (p4 : Int) (J : zM) (L : yM) (Q : Int → zM → yM → Prop) : Prop := w_X12_noOctet p1 p2 p3 J L (fun r3 J1 L2 => ∀ K7 : Int → zM → yM → Prop, (∀ (x4 : Int) (J5 : zM) (L6 : yM), (∀ J8 : zM, J8 = zs J5 491 0 x4 → R32 (J8 491 0) ∧ (if 0 < (J8 491 0) then Q 0 J8 L6 else ∀ x11 : Int, x11 = ((500 * ((60 * p1) + p2)) + p3) → ((0 : Int) ≤ x11 ∧ x11 < 60000) ∧ ((0 : Int) ≤ x11 ∧ x11 < 60000) ∧ ∀ J14 : zM, J14 = zs J8 511 x11 (zxor (J8 511 x11) (zand p4 255)) → ((0 : Int) ≤ x11 ∧ x11 < 60000) ∧ Q (J14 511 x11) J14 L6)) → K7 x4 J5 L6) → R32 r3 ∧ (if r3 = 0 then K7 0 J1 L2 else K7 1 J1 L2))
set_option maxHeartbeats 4000000 in
set_option maxRecDepth 100000 in
theorem v_X12_forge {b : Nat} {dC : Nat → ClassId} {dI : Nat → Nat → Nat} {cA : Nat → ClassId} {ts : Nat → Nat} {l : Launch} {n : Nat} {R : Nat → Nat → Option Nat} {al : Bool} (hn : 552 ≤ n) (hR : xRk R) {p1 : Int} {p2 : Int} {p3 : Int} {p4 : Int}  {J : zM} {L : yM} {Q : Int → zM → yM → Prop} (h : w_X12_forge p1 p2 p3 p4 J L Q) : xCn (xGm b dC dI cA ts) l mX12_forge [.ref 491, .int (oI p1), .int (oI p2), .int (oI p3), .int (oI p4)] al (n, R, zi J, li L) 0 0 (zQ1 n R Q) (fun _ _ => False) := by
  refine xCn.ofJ (by decide) (Nat.le_of_ble_eq_true rfl) ?_
  show xJ _ _ _ _ _ _ _ _ _ 0 [(0, .ref 491), (1, .int (oI p1)), (2, .int (oI p2)), (3, .int (oI p3)), (4, .int (oI p4))] [] _ _ _ _ _
  unfold w_X12_forge at h
  refine xr_aload_n (xd dX12_forge 0 rfl) 0 rfl ?_
  refine xr_aload_n (xd dX12_forge 1 rfl) 0 rfl ?_
  refine xr_iload_n (xd dX12_forge 2 rfl) 1 rfl ?_
  refine xr_iload_n (xd dX12_forge 3 rfl) 2 rfl ?_
  refine xr_iload_n (xd dX12_forge 4 rfl) 3 rfl ?_
  refine xr_callV mX12_noOctet 3 [.int (oI p1), .int (oI p2), .int (oI p3)] (xd dX12_forge 5 rfl) l12_571 kX12_noOctet rfl (lt552 hn (by decide)) kd_491 (by decide) rfl (by decide) (Nat.le_of_ble_eq_true rfl) (v_X12_noOctet hn hR  h) (by decide) (by decide) (fun r_ M_ h_ => ?_) (fun _ _ h_ => h_.elim)
  obtain ⟨r3, J1, L2, rfl, rfl, h⟩ := h_
  show xJ _ _ _ _ _ _ _ _ _ 8 [(0, .ref 491), (1, .int (oI p1)), (2, .int (oI p2)), (3, .int (oI p3)), (4, .int (oI p4))] [.int (oI r3), .ref 491] _ _ _ (zi J1) (li L2)
  replace h := h (fun (x4 : Int) (J5 : zM) (L6 : yM) => xJ (xGm b dC dI cA ts) l mX12_forge 0 0 (zQ1 n R Q) (fun _ _ => False) 0 0 16 [(0, .ref 491), (1, .int (oI p1)), (2, .int (oI p2)), (3, .int (oI p3)), (4, .int (oI p4))] [.int (oI x4), .ref 491] al n R (zi J5) (li L6)) (by
    intro x4 J5 L6 h
    show xJ _ _ _ _ _ _ _ _ _ 16 [(0, .ref 491), (1, .int (oI p1)), (2, .int (oI p2)), (3, .int (oI p3)), (4, .int (oI p4))] [.int (oI x4), .ref 491] _ _ _ _ _
    obtain ⟨J8, e_J8⟩ : ∃ z_ : zM, z_ = zs J5 491 0 x4 := ⟨_, rfl⟩
    replace h := h J8 e_J8
    refine zr_putI 12 0 0 rfl e_J8 (xd dX12_forge 10 rfl) f12_200 (by decide) (by decide) (lt552 hn (by decide)) kd_491 (Or.inl rfl) rfl rfl (fun _ => rfl) ?_
    refine xr_aload_n (xd dX12_forge 11 rfl) 0 rfl ?_
    refine zr_getI 12 0 0 rfl (xd dX12_forge 12 rfl) f12_200 (by decide) (by decide) (lt552 hn (by decide)) kd_491 rfl ?_
    obtain ⟨o9, h⟩ := h
    refine zr_if_le 28 (xd dX12_forge 13 rfl) (by decide) o9 (fun c10 => ?_) (fun c10 => ?_)
    · replace h := ifn h c10
      refine xr_sipush (v := oI 500) (xd dX12_forge 16 rfl) (by decide) ?_
      refine xr_bipush (v := oI 60) (xd dX12_forge 17 rfl) (by decide) ?_
      refine xr_iload_n (xd dX12_forge 18 rfl) 1 rfl ?_
      refine zr_imul (xd dX12_forge 19 rfl) ?_
      refine xr_iload_n (xd dX12_forge 20 rfl) 2 rfl ?_
      refine zr_iadd (xd dX12_forge 21 rfl) ?_
      refine zr_imul (xd dX12_forge 22 rfl) ?_
      refine xr_iload_n (xd dX12_forge 23 rfl) 3 rfl ?_
      refine zr_iadd (xd dX12_forge 24 rfl) ?_
      obtain ⟨x11, e_x11⟩ : ∃ z_ : Int, z_ = ((500 * ((60 * p1) + p2)) + p3) := ⟨_, rfl⟩
      replace h := h x11 e_x11
      refine zr_nm e_x11 ?_
      refine xr_istore [(0, .ref 491), (1, .int (oI p1)), (2, .int (oI p2)), (3, .int (oI p3)), (4, .int (oI p4)), (5, .int (oI x11))] (xd dX12_forge 25 rfl) (by decide) rfl ?_
      refine xr_aload_n (xd dX12_forge 26 rfl) 0 rfl ?_
      refine xr_getR (b := 511) 12 27 (xd dX12_forge 27 rfl) f12_70 (by decide) (by decide) (lt552 hn (by decide)) kd_491 rfl (r_491_27 hR) ?_
      refine xr_iload (xd dX12_forge 28 rfl) 5 rfl ?_
      refine xr_dup2 (xd dX12_forge 29 rfl) rfl rfl ?_
      obtain ⟨o12, h⟩ := h
      refine zr_iaload (xd dX12_forge 30 rfl) (lt552 hn (by decide)) kd_511 ln_511 (by decide) o12 ?_
      refine xr_iload (xd dX12_forge 31 rfl) 4 rfl ?_
      refine xr_sipush (v := oI 255) (xd dX12_forge 32 rfl) (by decide) ?_
      refine zr_iand (xd dX12_forge 33 rfl) ?_
      refine zr_ixor (xd dX12_forge 34 rfl) ?_
      obtain ⟨o13, h⟩ := h
      obtain ⟨J14, e_J14⟩ : ∃ z_ : zM, z_ = zs J8 511 x11 (zxor (J8 511 x11) (zand p4 255)) := ⟨_, rfl⟩
      replace h := h J14 e_J14
      refine zr_iastore e_J14 (xd dX12_forge 35 rfl) (lt552 hn (by decide)) kd_511 ln_511 (by decide) o13 ?_
      refine xr_aload_n (xd dX12_forge 36 rfl) 0 rfl ?_
      refine xr_getR (b := 511) 12 27 (xd dX12_forge 37 rfl) f12_70 (by decide) (by decide) (lt552 hn (by decide)) kd_491 rfl (r_491_27 hR) ?_
      refine xr_iload (xd dX12_forge 38 rfl) 5 rfl ?_
      obtain ⟨o15, h⟩ := h
      refine zr_iaload (xd dX12_forge 39 rfl) (lt552 hn (by decide)) kd_511 ln_511 (by decide) o15 ?_
      exact xr_iret (xd dX12_forge 40 rfl) rfl (by decide) (by decide) (fun _ => rfl) ⟨_, _, _, rfl, rfl, h⟩
    · replace h := ifp h c10
      refine xr_iconst (v := oI 0) (xd dX12_forge 14 rfl) (by decide) ?_
      exact xr_iret (xd dX12_forge 15 rfl) rfl (by decide) (by decide) (fun _ => rfl) ⟨_, _, _, rfl, rfl, h⟩)
  obtain ⟨o16, h⟩ := h
  refine zr_if_eq 15 (xd dX12_forge 6 rfl) (by decide) o16 (fun c17 => ?_) (fun c17 => ?_)
  · replace h := ifp h c17
    refine xr_iconst (v := oI 0) (xd dX12_forge 9 rfl) (by decide) ?_
    exact h
  · replace h := ifn h c17
    refine xr_iconst (v := oI 1) (xd dX12_forge 7 rfl) (by decide) ?_
    refine xr_goto 16 (xd dX12_forge 8 rfl) (by decide) ?_
    exact h
def w_X12_inject (p1 : Int) (J : zM) (L : yM) (Q : Int → zM → yM → Prop) : Prop := w_X12_noSide p1 J L (fun r3 J1 L2 => ∀ K7 : Int → zM → yM → Prop, (∀ (x4 : Int) (J5 : zM) (L6 : yM), (∀ J8 : zM, J8 = zs J5 491 0 x4 → R32 (J8 491 0) ∧ (if 0 < (J8 491 0) then Q 0 J8 L6 else ((0 : Int) ≤ p1 ∧ p1 < 2) ∧ R32 (J8 509 p1) ∧ (if (J8 509 p1) = 60 then Q (-1) J8 L6 else R32 (J8 491 9) ∧ (if (J8 491 9) = 0 then Q (-1) J8 L6 else ((0 : Int) ≤ p1 ∧ p1 < 2) ∧ ∀ x17 : Int, x17 = ((60 * p1) + (J8 509 p1)) → ((0 : Int) ≤ x17 ∧ x17 < 120) ∧ ∀ J19 : zM, J19 = zs J8 510 x17 (J8 491 9) → zl_z (fun K20 x21 J22 L23 => R32 x21 ∧ R32 (J22 491 9) ∧ (if x21 < (J22 491 9) then ((0 : Int) ≤ x21 ∧ x21 < 500) ∧ ((0 : Int) ≤ ((500 * x17) + x21) ∧ ((500 * x17) + x21) < 60000) ∧ ∀ J34 : zM, J34 = zs J22 511 ((500 * x17) + x21) (J22 494 x21) → K20 (x21 + 1) J34 L23 else ∀ J27 : zM, J27 = zs J22 491 9 0 → ((0 : Int) ≤ p1 ∧ p1 < 2) ∧ ((0 : Int) ≤ p1 ∧ p1 < 2) ∧ ∀ J30 : zM, J30 = zs J27 509 p1 ((J27 509 p1) + 1) → ((0 : Int) ≤ p1 ∧ p1 < 2) ∧ Q (J30 509 p1) J30 L23)) 0 J19 L6)))) → K7 x4 J5 L6) → R32 r3 ∧ (if r3 = 0 then K7 0 J1 L2 else K7 1 J1 L2))
set_option maxHeartbeats 4000000 in
set_option maxRecDepth 100000 in
theorem v_X12_inject {b : Nat} {dC : Nat → ClassId} {dI : Nat → Nat → Nat} {cA : Nat → ClassId} {ts : Nat → Nat} {l : Launch} {n : Nat} {R : Nat → Nat → Option Nat} {al : Bool} (hn : 552 ≤ n) (hR : xRk R) {p1 : Int}  {J : zM} {L : yM} {Q : Int → zM → yM → Prop} (h : w_X12_inject p1 J L Q) : xCn (xGm b dC dI cA ts) l mX12_inject [.ref 491, .int (oI p1)] al (n, R, zi J, li L) 0 0 (zQ1 n R Q) (fun _ _ => False) := by
  refine xCn.ofJ (by decide) (Nat.le_of_ble_eq_true rfl) ?_
  show xJ _ _ _ _ _ _ _ _ _ 0 [(0, .ref 491), (1, .int (oI p1))] [] _ _ _ _ _
  unfold w_X12_inject at h
  refine xr_aload_n (xd dX12_inject 0 rfl) 0 rfl ?_
  refine xr_iload_n (xd dX12_inject 1 rfl) 1 rfl ?_
  refine xr_callS mX12_noSide 1 [.int (oI p1)] (xd dX12_inject 2 rfl) l12_565 kX12_noSide rfl rfl (by decide) (Nat.le_of_ble_eq_true rfl) (v_X12_noSide hn hR  h) (by decide) (by decide) (fun r_ M_ h_ => ?_) (fun _ _ h_ => h_.elim)
  obtain ⟨r3, J1, L2, rfl, rfl, h⟩ := h_
  show xJ _ _ _ _ _ _ _ _ _ 5 [(0, .ref 491), (1, .int (oI p1))] [.int (oI r3), .ref 491] _ _ _ (zi J1) (li L2)
  replace h := h (fun (x4 : Int) (J5 : zM) (L6 : yM) => xJ (xGm b dC dI cA ts) l mX12_inject 0 0 (zQ1 n R Q) (fun _ _ => False) 0 0 13 [(0, .ref 491), (1, .int (oI p1))] [.int (oI x4), .ref 491] al n R (zi J5) (li L6)) (by
    intro x4 J5 L6 h
    show xJ _ _ _ _ _ _ _ _ _ 13 [(0, .ref 491), (1, .int (oI p1))] [.int (oI x4), .ref 491] _ _ _ _ _
    obtain ⟨J8, e_J8⟩ : ∃ z_ : zM, z_ = zs J5 491 0 x4 := ⟨_, rfl⟩
    replace h := h J8 e_J8
    refine zr_putI 12 0 0 rfl e_J8 (xd dX12_inject 7 rfl) f12_200 (by decide) (by decide) (lt552 hn (by decide)) kd_491 (Or.inl rfl) rfl rfl (fun _ => rfl) ?_
    refine xr_aload_n (xd dX12_inject 8 rfl) 0 rfl ?_
    refine zr_getI 12 0 0 rfl (xd dX12_inject 9 rfl) f12_200 (by decide) (by decide) (lt552 hn (by decide)) kd_491 rfl ?_
    obtain ⟨o9, h⟩ := h
    refine zr_if_le 25 (xd dX12_inject 10 rfl) (by decide) o9 (fun c10 => ?_) (fun c10 => ?_)
    · replace h := ifn h c10
      refine xr_aload_n (xd dX12_inject 13 rfl) 0 rfl ?_
      refine xr_getR (b := 509) 12 25 (xd dX12_inject 14 rfl) f12_63 (by decide) (by decide) (lt552 hn (by decide)) kd_491 rfl (r_491_25 hR) ?_
      refine xr_iload_n (xd dX12_inject 15 rfl) 1 rfl ?_
      obtain ⟨o11, h⟩ := h
      refine zr_iaload (xd dX12_inject 16 rfl) (lt552 hn (by decide)) kd_509 ln_509 (by decide) o11 ?_
      refine xr_bipush (v := oI 60) (xd dX12_inject 17 rfl) (by decide) ?_
      obtain ⟨o12, h⟩ := h
      refine zr_icmp_eq 43 (xd dX12_inject 18 rfl) (by decide) o12 (by decide) (fun c13 => ?_) (fun c13 => ?_)
      · replace h := ifp h c13
        refine xr_iconst (v := oI (-1)) (xd dX12_inject 22 rfl) (by decide) ?_
        exact xr_iret (xd dX12_inject 23 rfl) rfl (by decide) (by decide) (fun _ => rfl) ⟨_, _, _, rfl, rfl, h⟩
      · replace h := ifn h c13
        refine xr_aload_n (xd dX12_inject 19 rfl) 0 rfl ?_
        refine zr_getI 12 9 9 rfl (xd dX12_inject 20 rfl) f12_390 (by decide) (by decide) (lt552 hn (by decide)) kd_491 rfl ?_
        obtain ⟨o14, h⟩ := h
        refine zr_if_ne 45 (xd dX12_inject 21 rfl) (by decide) o14 (fun c15 => ?_) (fun c15 => ?_)
        · replace h := ifn h c15
          refine xr_bipush (v := oI 60) (xd dX12_inject 24 rfl) (by decide) ?_
          refine xr_iload_n (xd dX12_inject 25 rfl) 1 rfl ?_
          refine zr_imul (xd dX12_inject 26 rfl) ?_
          refine xr_aload_n (xd dX12_inject 27 rfl) 0 rfl ?_
          refine xr_getR (b := 509) 12 25 (xd dX12_inject 28 rfl) f12_63 (by decide) (by decide) (lt552 hn (by decide)) kd_491 rfl (r_491_25 hR) ?_
          refine xr_iload_n (xd dX12_inject 29 rfl) 1 rfl ?_
          obtain ⟨o16, h⟩ := h
          refine zr_iaload (xd dX12_inject 30 rfl) (lt552 hn (by decide)) kd_509 ln_509 (by decide) o16 ?_
          refine zr_iadd (xd dX12_inject 31 rfl) ?_
          obtain ⟨x17, e_x17⟩ : ∃ z_ : Int, z_ = ((60 * p1) + (J8 509 p1)) := ⟨_, rfl⟩
          replace h := h x17 e_x17
          refine zr_nm e_x17 ?_
          refine xr_istore_n [(0, .ref 491), (1, .int (oI p1)), (2, .int (oI x17))] (xd dX12_inject 32 rfl) rfl (by decide) rfl ?_
          refine xr_aload_n (xd dX12_inject 33 rfl) 0 rfl ?_
          refine xr_getR (b := 510) 12 26 (xd dX12_inject 34 rfl) f12_66 (by decide) (by decide) (lt552 hn (by decide)) kd_491 rfl (r_491_26 hR) ?_
          refine xr_iload_n (xd dX12_inject 35 rfl) 2 rfl ?_
          refine xr_aload_n (xd dX12_inject 36 rfl) 0 rfl ?_
          refine zr_getI 12 9 9 rfl (xd dX12_inject 37 rfl) f12_390 (by decide) (by decide) (lt552 hn (by decide)) kd_491 rfl ?_
          obtain ⟨o18, h⟩ := h
          obtain ⟨J19, e_J19⟩ : ∃ z_ : zM, z_ = zs J8 510 x17 (J8 491 9) := ⟨_, rfl⟩
          replace h := h J19 e_J19
          refine zr_iastore e_J19 (xd dX12_inject 38 rfl) (lt552 hn (by decide)) kd_510 ln_510 (by decide) o18 ?_
          refine xr_iconst (v := oI 0) (xd dX12_inject 39 rfl) (by decide) ?_
          refine xr_istore_n [(0, .ref 491), (1, .int (oI p1)), (2, .int (oI x17)), (3, .int (oI 0))] (xd dX12_inject 40 rfl) rfl (by decide) rfl ?_
          refine h (fun x21 J22 L23 => xJ (xGm b dC dI cA ts) l mX12_inject 0 0 (zQ1 n R Q) (fun _ _ => False) 0 0 69 [(0, .ref 491), (1, .int (oI p1)), (2, .int (oI x17)), (3, .int (oI x21))] [] al n R (zi J22) (li L23)) ?_
          intro x21 J22 L23 h
          show xJ _ _ _ _ _ _ _ _ _ 69 [(0, .ref 491), (1, .int (oI p1)), (2, .int (oI x17)), (3, .int (oI x21))] [] _ _ _ _ _
          refine xr_iload_n (xd dX12_inject 41 rfl) 3 rfl ?_
          refine xr_aload_n (xd dX12_inject 42 rfl) 0 rfl ?_
          refine zr_getI 12 9 9 rfl (xd dX12_inject 43 rfl) f12_390 (by decide) (by decide) (lt552 hn (by decide)) kd_491 rfl ?_
          obtain ⟨o24, h⟩ := h
          obtain ⟨o25, h⟩ := h
          refine zr_icmp_ge 101 (xd dX12_inject 44 rfl) (by decide) o24 o25 (fun c26 => ?_) (fun c26 => ?_)
          · replace h := ifn h c26
            refine xr_aload_n (xd dX12_inject 59 rfl) 0 rfl ?_
            refine xr_iconst (v := oI 0) (xd dX12_inject 60 rfl) (by decide) ?_
            obtain ⟨J27, e_J27⟩ : ∃ z_ : zM, z_ = zs J22 491 9 0 := ⟨_, rfl⟩
            replace h := h J27 e_J27
            refine zr_putI 12 9 9 rfl e_J27 (xd dX12_inject 61 rfl) f12_390 (by decide) (by decide) (lt552 hn (by decide)) kd_491 (Or.inl rfl) rfl rfl (fun _ => rfl) ?_
            refine xr_aload_n (xd dX12_inject 62 rfl) 0 rfl ?_
            refine xr_getR (b := 509) 12 25 (xd dX12_inject 63 rfl) f12_63 (by decide) (by decide) (lt552 hn (by decide)) kd_491 rfl (r_491_25 hR) ?_
            refine xr_iload_n (xd dX12_inject 64 rfl) 1 rfl ?_
            refine xr_dup2 (xd dX12_inject 65 rfl) rfl rfl ?_
            obtain ⟨o28, h⟩ := h
            refine zr_iaload (xd dX12_inject 66 rfl) (lt552 hn (by decide)) kd_509 ln_509 (by decide) o28 ?_
            refine xr_iconst (v := oI 1) (xd dX12_inject 67 rfl) (by decide) ?_
            refine zr_iadd (xd dX12_inject 68 rfl) ?_
            obtain ⟨o29, h⟩ := h
            obtain ⟨J30, e_J30⟩ : ∃ z_ : zM, z_ = zs J27 509 p1 ((J27 509 p1) + 1) := ⟨_, rfl⟩
            replace h := h J30 e_J30
            refine zr_iastore e_J30 (xd dX12_inject 69 rfl) (lt552 hn (by decide)) kd_509 ln_509 (by decide) o29 ?_
            refine xr_aload_n (xd dX12_inject 70 rfl) 0 rfl ?_
            refine xr_getR (b := 509) 12 25 (xd dX12_inject 71 rfl) f12_63 (by decide) (by decide) (lt552 hn (by decide)) kd_491 rfl (r_491_25 hR) ?_
            refine xr_iload_n (xd dX12_inject 72 rfl) 1 rfl ?_
            obtain ⟨o31, h⟩ := h
            refine zr_iaload (xd dX12_inject 73 rfl) (lt552 hn (by decide)) kd_509 ln_509 (by decide) o31 ?_
            exact xr_iret (xd dX12_inject 74 rfl) rfl (by decide) (by decide) (fun _ => rfl) ⟨_, _, _, rfl, rfl, h⟩
          · replace h := ifp h c26
            refine xr_aload_n (xd dX12_inject 45 rfl) 0 rfl ?_
            refine xr_getR (b := 511) 12 27 (xd dX12_inject 46 rfl) f12_70 (by decide) (by decide) (lt552 hn (by decide)) kd_491 rfl (r_491_27 hR) ?_
            refine xr_sipush (v := oI 500) (xd dX12_inject 47 rfl) (by decide) ?_
            refine xr_iload_n (xd dX12_inject 48 rfl) 2 rfl ?_
            refine zr_imul (xd dX12_inject 49 rfl) ?_
            refine xr_iload_n (xd dX12_inject 50 rfl) 3 rfl ?_
            refine zr_iadd (xd dX12_inject 51 rfl) ?_
            refine xr_aload_n (xd dX12_inject 52 rfl) 0 rfl ?_
            refine xr_getR (b := 494) 12 8 (xd dX12_inject 53 rfl) f12_16 (by decide) (by decide) (lt552 hn (by decide)) kd_491 rfl (r_491_8 hR) ?_
            refine xr_iload_n (xd dX12_inject 54 rfl) 3 rfl ?_
            obtain ⟨o32, h⟩ := h
            refine zr_iaload (xd dX12_inject 55 rfl) (lt552 hn (by decide)) kd_494 ln_494 (by decide) o32 ?_
            obtain ⟨o33, h⟩ := h
            obtain ⟨J34, e_J34⟩ : ∃ z_ : zM, z_ = zs J22 511 ((500 * x17) + x21) (J22 494 x21) := ⟨_, rfl⟩
            replace h := h J34 e_J34
            refine zr_iastore e_J34 (xd dX12_inject 56 rfl) (lt552 hn (by decide)) kd_511 ln_511 (by decide) o33 ?_
            refine zr_iinc [(0, .ref 491), (1, .int (oI p1)), (2, .int (oI x17)), (3, .int (oI (x21 + 1)))] (xd dX12_inject 57 rfl) 3 rfl (by decide) rfl ?_
            refine xr_goto 69 (xd dX12_inject 58 rfl) (by decide) ?_
            exact h
        · replace h := ifp h c15
          refine xr_iconst (v := oI (-1)) (xd dX12_inject 22 rfl) (by decide) ?_
          exact xr_iret (xd dX12_inject 23 rfl) rfl (by decide) (by decide) (fun _ => rfl) ⟨_, _, _, rfl, rfl, h⟩
    · replace h := ifp h c10
      refine xr_iconst (v := oI 0) (xd dX12_inject 11 rfl) (by decide) ?_
      exact xr_iret (xd dX12_inject 12 rfl) rfl (by decide) (by decide) (fun _ => rfl) ⟨_, _, _, rfl, rfl, h⟩)
  obtain ⟨o35, h⟩ := h
  refine zr_if_eq 12 (xd dX12_inject 3 rfl) (by decide) o35 (fun c36 => ?_) (fun c36 => ?_)
  · replace h := ifp h c36
    refine xr_iconst (v := oI 0) (xd dX12_inject 6 rfl) (by decide) ?_
    exact h
  · replace h := ifn h c36
    refine xr_iconst (v := oI 1) (xd dX12_inject 4 rfl) (by decide) ?_
    refine xr_goto 13 (xd dX12_inject 5 rfl) (by decide) ?_
    exact h
def w_X12_state (p1 : Int) (J : zM) (L : yM) (Q : Int → zM → yM → Prop) : Prop := w_X12_noSide p1 J L (fun r3 J1 L2 => ∀ K7 : Int → zM → yM → Prop, (∀ (x4 : Int) (J5 : zM) (L6 : yM), (∀ J8 : zM, J8 = zs J5 491 0 x4 → R32 (J8 491 0) ∧ (if 0 < (J8 491 0) then Q 0 J8 L6 else ((0 : Int) ≤ p1 ∧ p1 < 2) ∧ Q (J8 534 p1) J8 L6)) → K7 x4 J5 L6) → R32 r3 ∧ (if r3 = 0 then K7 0 J1 L2 else K7 1 J1 L2))
set_option maxHeartbeats 4000000 in
set_option maxRecDepth 100000 in
theorem v_X12_state {b : Nat} {dC : Nat → ClassId} {dI : Nat → Nat → Nat} {cA : Nat → ClassId} {ts : Nat → Nat} {l : Launch} {n : Nat} {R : Nat → Nat → Option Nat} {al : Bool} (hn : 552 ≤ n) (hR : xRk R) {p1 : Int}  {J : zM} {L : yM} {Q : Int → zM → yM → Prop} (h : w_X12_state p1 J L Q) : xCn (xGm b dC dI cA ts) l mX12_state [.ref 491, .int (oI p1)] al (n, R, zi J, li L) 0 0 (zQ1 n R Q) (fun _ _ => False) := by
  refine xCn.ofJ (by decide) (Nat.le_of_ble_eq_true rfl) ?_
  show xJ _ _ _ _ _ _ _ _ _ 0 [(0, .ref 491), (1, .int (oI p1))] [] _ _ _ _ _
  unfold w_X12_state at h
  refine xr_aload_n (xd dX12_state 0 rfl) 0 rfl ?_
  refine xr_iload_n (xd dX12_state 1 rfl) 1 rfl ?_
  refine xr_callS mX12_noSide 1 [.int (oI p1)] (xd dX12_state 2 rfl) l12_565 kX12_noSide rfl rfl (by decide) (Nat.le_of_ble_eq_true rfl) (v_X12_noSide hn hR  h) (by decide) (by decide) (fun r_ M_ h_ => ?_) (fun _ _ h_ => h_.elim)
  obtain ⟨r3, J1, L2, rfl, rfl, h⟩ := h_
  show xJ _ _ _ _ _ _ _ _ _ 5 [(0, .ref 491), (1, .int (oI p1))] [.int (oI r3), .ref 491] _ _ _ (zi J1) (li L2)
  replace h := h (fun (x4 : Int) (J5 : zM) (L6 : yM) => xJ (xGm b dC dI cA ts) l mX12_state 0 0 (zQ1 n R Q) (fun _ _ => False) 0 0 13 [(0, .ref 491), (1, .int (oI p1))] [.int (oI x4), .ref 491] al n R (zi J5) (li L6)) (by
    intro x4 J5 L6 h
    show xJ _ _ _ _ _ _ _ _ _ 13 [(0, .ref 491), (1, .int (oI p1))] [.int (oI x4), .ref 491] _ _ _ _ _
    obtain ⟨J8, e_J8⟩ : ∃ z_ : zM, z_ = zs J5 491 0 x4 := ⟨_, rfl⟩
    replace h := h J8 e_J8
    refine zr_putI 12 0 0 rfl e_J8 (xd dX12_state 7 rfl) f12_200 (by decide) (by decide) (lt552 hn (by decide)) kd_491 (Or.inl rfl) rfl rfl (fun _ => rfl) ?_
    refine xr_aload_n (xd dX12_state 8 rfl) 0 rfl ?_
    refine zr_getI 12 0 0 rfl (xd dX12_state 9 rfl) f12_200 (by decide) (by decide) (lt552 hn (by decide)) kd_491 rfl ?_
    obtain ⟨o9, h⟩ := h
    refine zr_if_le 27 (xd dX12_state 10 rfl) (by decide) o9 (fun c10 => ?_) (fun c10 => ?_)
    · replace h := ifn h c10
      refine xr_aload_n (xd dX12_state 13 rfl) 0 rfl ?_
      refine xr_getR (b := 534) 12 52 (xd dX12_state 14 rfl) f12_139 (by decide) (by decide) (lt552 hn (by decide)) kd_491 rfl (r_491_52 hR) ?_
      refine xr_iload_n (xd dX12_state 15 rfl) 1 rfl ?_
      obtain ⟨o11, h⟩ := h
      refine zr_iaload (xd dX12_state 16 rfl) (lt552 hn (by decide)) kd_534 ln_534 (by decide) o11 ?_
      exact xr_iret (xd dX12_state 17 rfl) rfl (by decide) (by decide) (fun _ => rfl) ⟨_, _, _, rfl, rfl, h⟩
    · replace h := ifp h c10
      refine xr_iconst (v := oI 0) (xd dX12_state 11 rfl) (by decide) ?_
      refine xr_goto 33 (xd dX12_state 12 rfl) (by decide) ?_
      exact xr_iret (xd dX12_state 17 rfl) rfl (by decide) (by decide) (fun _ => rfl) ⟨_, _, _, rfl, rfl, h⟩)
  obtain ⟨o12, h⟩ := h
  refine zr_if_eq 12 (xd dX12_state 3 rfl) (by decide) o12 (fun c13 => ?_) (fun c13 => ?_)
  · replace h := ifp h c13
    refine xr_iconst (v := oI 0) (xd dX12_state 6 rfl) (by decide) ?_
    exact h
  · replace h := ifn h c13
    refine xr_iconst (v := oI 1) (xd dX12_state 4 rfl) (by decide) ?_
    refine xr_goto 13 (xd dX12_state 5 rfl) (by decide) ?_
    exact h
def w_X12_got (p1 : Int) (J : zM) (L : yM) (Q : Int → zM → yM → Prop) : Prop := w_X12_noSide p1 J L (fun r3 J1 L2 => ∀ K7 : Int → zM → yM → Prop, (∀ (x4 : Int) (J5 : zM) (L6 : yM), (∀ J8 : zM, J8 = zs J5 491 0 x4 → R32 (J8 491 0) ∧ (if 0 < (J8 491 0) then Q 0 J8 L6 else ((0 : Int) ≤ p1 ∧ p1 < 2) ∧ Q (J8 547 p1) J8 L6)) → K7 x4 J5 L6) → R32 r3 ∧ (if r3 = 0 then K7 0 J1 L2 else K7 1 J1 L2))
set_option maxHeartbeats 4000000 in
set_option maxRecDepth 100000 in
theorem v_X12_got {b : Nat} {dC : Nat → ClassId} {dI : Nat → Nat → Nat} {cA : Nat → ClassId} {ts : Nat → Nat} {l : Launch} {n : Nat} {R : Nat → Nat → Option Nat} {al : Bool} (hn : 552 ≤ n) (hR : xRk R) {p1 : Int}  {J : zM} {L : yM} {Q : Int → zM → yM → Prop} (h : w_X12_got p1 J L Q) : xCn (xGm b dC dI cA ts) l mX12_got [.ref 491, .int (oI p1)] al (n, R, zi J, li L) 0 0 (zQ1 n R Q) (fun _ _ => False) := by
  refine xCn.ofJ (by decide) (Nat.le_of_ble_eq_true rfl) ?_
  show xJ _ _ _ _ _ _ _ _ _ 0 [(0, .ref 491), (1, .int (oI p1))] [] _ _ _ _ _
  unfold w_X12_got at h
  refine xr_aload_n (xd dX12_got 0 rfl) 0 rfl ?_
  refine xr_iload_n (xd dX12_got 1 rfl) 1 rfl ?_
  refine xr_callS mX12_noSide 1 [.int (oI p1)] (xd dX12_got 2 rfl) l12_565 kX12_noSide rfl rfl (by decide) (Nat.le_of_ble_eq_true rfl) (v_X12_noSide hn hR  h) (by decide) (by decide) (fun r_ M_ h_ => ?_) (fun _ _ h_ => h_.elim)
  obtain ⟨r3, J1, L2, rfl, rfl, h⟩ := h_
  show xJ _ _ _ _ _ _ _ _ _ 5 [(0, .ref 491), (1, .int (oI p1))] [.int (oI r3), .ref 491] _ _ _ (zi J1) (li L2)
  replace h := h (fun (x4 : Int) (J5 : zM) (L6 : yM) => xJ (xGm b dC dI cA ts) l mX12_got 0 0 (zQ1 n R Q) (fun _ _ => False) 0 0 13 [(0, .ref 491), (1, .int (oI p1))] [.int (oI x4), .ref 491] al n R (zi J5) (li L6)) (by
    intro x4 J5 L6 h
    show xJ _ _ _ _ _ _ _ _ _ 13 [(0, .ref 491), (1, .int (oI p1))] [.int (oI x4), .ref 491] _ _ _ _ _
    obtain ⟨J8, e_J8⟩ : ∃ z_ : zM, z_ = zs J5 491 0 x4 := ⟨_, rfl⟩
    replace h := h J8 e_J8
    refine zr_putI 12 0 0 rfl e_J8 (xd dX12_got 7 rfl) f12_200 (by decide) (by decide) (lt552 hn (by decide)) kd_491 (Or.inl rfl) rfl rfl (fun _ => rfl) ?_
    refine xr_aload_n (xd dX12_got 8 rfl) 0 rfl ?_
    refine zr_getI 12 0 0 rfl (xd dX12_got 9 rfl) f12_200 (by decide) (by decide) (lt552 hn (by decide)) kd_491 rfl ?_
    obtain ⟨o9, h⟩ := h
    refine zr_if_le 27 (xd dX12_got 10 rfl) (by decide) o9 (fun c10 => ?_) (fun c10 => ?_)
    · replace h := ifn h c10
      refine xr_aload_n (xd dX12_got 13 rfl) 0 rfl ?_
      refine xr_getR (b := 547) 12 66 (xd dX12_got 14 rfl) f12_178 (by decide) (by decide) (lt552 hn (by decide)) kd_491 rfl (r_491_66 hR) ?_
      refine xr_iload_n (xd dX12_got 15 rfl) 1 rfl ?_
      obtain ⟨o11, h⟩ := h
      refine zr_iaload (xd dX12_got 16 rfl) (lt552 hn (by decide)) kd_547 ln_547 (by decide) o11 ?_
      exact xr_iret (xd dX12_got 17 rfl) rfl (by decide) (by decide) (fun _ => rfl) ⟨_, _, _, rfl, rfl, h⟩
    · replace h := ifp h c10
      refine xr_iconst (v := oI 0) (xd dX12_got 11 rfl) (by decide) ?_
      refine xr_goto 33 (xd dX12_got 12 rfl) (by decide) ?_
      exact xr_iret (xd dX12_got 17 rfl) rfl (by decide) (by decide) (fun _ => rfl) ⟨_, _, _, rfl, rfl, h⟩)
  obtain ⟨o12, h⟩ := h
  refine zr_if_eq 12 (xd dX12_got 3 rfl) (by decide) o12 (fun c13 => ?_) (fun c13 => ?_)
  · replace h := ifp h c13
    refine xr_iconst (v := oI 0) (xd dX12_got 6 rfl) (by decide) ?_
    exact h
  · replace h := ifn h c13
    refine xr_iconst (v := oI 1) (xd dX12_got 4 rfl) (by decide) ?_
    refine xr_goto 13 (xd dX12_got 5 rfl) (by decide) ?_
    exact h
def w_X12_gotOctet (p1 : Int) (p2 : Int) (p3 : Int) (J : zM) (L : yM) (Q : Int → zM → yM → Prop) : Prop := w_X12_noSide p1 J L (fun r3 J1 L2 => ∀ K7 : Int → zM → yM → Prop, (∀ (x4 : Int) (J5 : zM) (L6 : yM), (∀ J8 : zM, J8 = zs J5 491 0 x4 → R32 (J8 491 0) ∧ (if 0 < (J8 491 0) then Q 0 J8 L6 else ∀ x11 : Int, x11 = ((100 * p1) + (zrem p2 100)) → ∀ K15 : Int → zM → yM → Prop, (∀ (x12 : Int) (J13 : zM) (L14 : yM), (∀ J16 : zM, J16 = zs J13 491 0 x12 → R32 (J16 491 0) ∧ (if 0 < (J16 491 0) then Q 0 J16 L14 else R32 p3 ∧ (if p3 = (-1) then ((0 : Int) ≤ x11 ∧ x11 < 200) ∧ Q (J16 548 x11) J16 L14 else ((0 : Int) ≤ ((60 * x11) + p3) ∧ ((60 * x11) + p3) < 12000) ∧ Q (J16 549 ((60 * x11) + p3)) J16 L14))) → K15 x12 J13 L14) → ∀ K25 : zM → yM → Prop, (∀ (J23 : zM) (L24 : yM), (K15 1 J23 L24) → K25 J23 L24) → R32 p3 ∧ (if p3 < (-1) then K25 J8 L6 else ((0 : Int) ≤ x11 ∧ x11 < 200) ∧ R32 (J8 548 x11) ∧ (if p3 < (J8 548 x11) then K15 0 J8 L6 else K25 J8 L6)))) → K7 x4 J5 L6) → ∀ K33 : zM → yM → Prop, (∀ (J31 : zM) (L32 : yM), (K7 1 J31 L32) → K33 J31 L32) → R32 r3 ∧ (if r3 = 0 then R32 p2 ∧ (if p2 < 0 then K33 J1 L2 else ((0 : Int) ≤ p1 ∧ p1 < 2) ∧ R32 (J1 547 p1) ∧ (if p2 < (J1 547 p1) then ((0 : Int) ≤ p1 ∧ p1 < 2) ∧ R32 ((J1 547 p1) - 100) ∧ (if p2 < ((J1 547 p1) - 100) then K33 J1 L2 else K7 0 J1 L2) else K33 J1 L2)) else K33 J1 L2))
set_option maxHeartbeats 4000000 in
set_option maxRecDepth 100000 in
theorem v_X12_gotOctet {b : Nat} {dC : Nat → ClassId} {dI : Nat → Nat → Nat} {cA : Nat → ClassId} {ts : Nat → Nat} {l : Launch} {n : Nat} {R : Nat → Nat → Option Nat} {al : Bool} (hn : 552 ≤ n) (hR : xRk R) {p1 : Int} {p2 : Int} {p3 : Int}  {J : zM} {L : yM} {Q : Int → zM → yM → Prop} (h : w_X12_gotOctet p1 p2 p3 J L Q) : xCn (xGm b dC dI cA ts) l mX12_gotOctet [.ref 491, .int (oI p1), .int (oI p2), .int (oI p3)] al (n, R, zi J, li L) 0 0 (zQ1 n R Q) (fun _ _ => False) := by
  refine xCn.ofJ (by decide) (Nat.le_of_ble_eq_true rfl) ?_
  show xJ _ _ _ _ _ _ _ _ _ 0 [(0, .ref 491), (1, .int (oI p1)), (2, .int (oI p2)), (3, .int (oI p3))] [] _ _ _ _ _
  unfold w_X12_gotOctet at h
  refine xr_aload_n (xd dX12_gotOctet 0 rfl) 0 rfl ?_
  refine xr_iload_n (xd dX12_gotOctet 1 rfl) 1 rfl ?_
  refine xr_callS mX12_noSide 1 [.int (oI p1)] (xd dX12_gotOctet 2 rfl) l12_565 kX12_noSide rfl rfl (by decide) (Nat.le_of_ble_eq_true rfl) (v_X12_noSide hn hR  h) (by decide) (by decide) (fun r_ M_ h_ => ?_) (fun _ _ h_ => h_.elim)
  obtain ⟨r3, J1, L2, rfl, rfl, h⟩ := h_
  show xJ _ _ _ _ _ _ _ _ _ 5 [(0, .ref 491), (1, .int (oI p1)), (2, .int (oI p2)), (3, .int (oI p3))] [.int (oI r3), .ref 491] _ _ _ (zi J1) (li L2)
  replace h := h (fun (x4 : Int) (J5 : zM) (L6 : yM) => xJ (xGm b dC dI cA ts) l mX12_gotOctet 0 0 (zQ1 n R Q) (fun _ _ => False) 0 0 40 [(0, .ref 491), (1, .int (oI p1)), (2, .int (oI p2)), (3, .int (oI p3))] [.int (oI x4), .ref 491] al n R (zi J5) (li L6)) (by
    intro x4 J5 L6 h
    show xJ _ _ _ _ _ _ _ _ _ 40 [(0, .ref 491), (1, .int (oI p1)), (2, .int (oI p2)), (3, .int (oI p3))] [.int (oI x4), .ref 491] _ _ _ _ _
    obtain ⟨J8, e_J8⟩ : ∃ z_ : zM, z_ = zs J5 491 0 x4 := ⟨_, rfl⟩
    replace h := h J8 e_J8
    refine zr_putI 12 0 0 rfl e_J8 (xd dX12_gotOctet 23 rfl) f12_200 (by decide) (by decide) (lt552 hn (by decide)) kd_491 (Or.inl rfl) rfl rfl (fun _ => rfl) ?_
    refine xr_aload_n (xd dX12_gotOctet 24 rfl) 0 rfl ?_
    refine zr_getI 12 0 0 rfl (xd dX12_gotOctet 25 rfl) f12_200 (by decide) (by decide) (lt552 hn (by decide)) kd_491 rfl ?_
    obtain ⟨o9, h⟩ := h
    refine zr_if_le 52 (xd dX12_gotOctet 26 rfl) (by decide) o9 (fun c10 => ?_) (fun c10 => ?_)
    · replace h := ifn h c10
      refine xr_bipush (v := oI 100) (xd dX12_gotOctet 29 rfl) (by decide) ?_
      refine xr_iload_n (xd dX12_gotOctet 30 rfl) 1 rfl ?_
      refine zr_imul (xd dX12_gotOctet 31 rfl) ?_
      refine xr_iload_n (xd dX12_gotOctet 32 rfl) 2 rfl ?_
      refine xr_bipush (v := oI 100) (xd dX12_gotOctet 33 rfl) (by decide) ?_
      refine zr_irem (xd dX12_gotOctet 34 rfl) (by decide) (by decide) ?_
      refine zr_iadd (xd dX12_gotOctet 35 rfl) ?_
      obtain ⟨x11, e_x11⟩ : ∃ z_ : Int, z_ = ((100 * p1) + (zrem p2 100)) := ⟨_, rfl⟩
      replace h := h x11 e_x11
      refine zr_nm e_x11 ?_
      refine xr_istore [(0, .ref 491), (1, .int (oI p1)), (2, .int (oI p2)), (3, .int (oI p3)), (4, .int (oI x11))] (xd dX12_gotOctet 36 rfl) (by decide) rfl ?_
      refine xr_aload_n (xd dX12_gotOctet 37 rfl) 0 rfl ?_
      refine xr_iload_n (xd dX12_gotOctet 38 rfl) 3 rfl ?_
      refine xr_iconst (v := oI (-1)) (xd dX12_gotOctet 39 rfl) (by decide) ?_
      replace h := h (fun (x12 : Int) (J13 : zM) (L14 : yM) => xJ (xGm b dC dI cA ts) l mX12_gotOctet 0 0 (zQ1 n R Q) (fun _ _ => False) 0 0 85 [(0, .ref 491), (3, .int (oI p3)), (4, .int (oI x11))] [.int (oI x12), .ref 491] al n R (zi J13) (li L14)) (by
        intro x12 J13 L14 h
        show xJ _ _ _ _ _ _ _ _ _ 85 [(0, .ref 491), (3, .int (oI p3)), (4, .int (oI x11))] [.int (oI x12), .ref 491] _ _ _ _ _
        obtain ⟨J16, e_J16⟩ : ∃ z_ : zM, z_ = zs J13 491 0 x12 := ⟨_, rfl⟩
        replace h := h J16 e_J16
        refine zr_putI 12 0 0 rfl e_J16 (xd dX12_gotOctet 50 rfl) f12_200 (by decide) (by decide) (lt552 hn (by decide)) kd_491 (Or.inl rfl) rfl rfl (fun _ => rfl) ?_
        refine xr_aload_n (xd dX12_gotOctet 51 rfl) 0 rfl ?_
        refine zr_getI 12 0 0 rfl (xd dX12_gotOctet 52 rfl) f12_200 (by decide) (by decide) (lt552 hn (by decide)) kd_491 rfl ?_
        obtain ⟨o17, h⟩ := h
        refine zr_if_le 97 (xd dX12_gotOctet 53 rfl) (by decide) o17 (fun c18 => ?_) (fun c18 => ?_)
        · replace h := ifn h c18
          refine xr_iload_n (xd dX12_gotOctet 56 rfl) 1 rfl ?_
          refine xr_iconst (v := oI (-1)) (xd dX12_gotOctet 57 rfl) (by decide) ?_
          obtain ⟨o19, h⟩ := h
          refine zr_icmp_ne 112 (xd dX12_gotOctet 58 rfl) (by decide) o19 (by decide) (fun c20 => ?_) (fun c20 => ?_)
          · replace h := ifn h c20
            refine xr_aload_n (xd dX12_gotOctet 64 rfl) 0 rfl ?_
            refine xr_getR (b := 549) 12 68 (xd dX12_gotOctet 65 rfl) f12_184 (by decide) (by decide) (lt552 hn (by decide)) kd_491 rfl (r_491_68 hR) ?_
            refine xr_bipush (v := oI 60) (xd dX12_gotOctet 66 rfl) (by decide) ?_
            refine xr_iload (xd dX12_gotOctet 67 rfl) 2 rfl ?_
            refine zr_imul (xd dX12_gotOctet 68 rfl) ?_
            refine xr_iload_n (xd dX12_gotOctet 69 rfl) 1 rfl ?_
            refine zr_iadd (xd dX12_gotOctet 70 rfl) ?_
            obtain ⟨o21, h⟩ := h
            refine zr_iaload (xd dX12_gotOctet 71 rfl) (lt552 hn (by decide)) kd_549 ln_549 (by decide) o21 ?_
            exact xr_iret (xd dX12_gotOctet 72 rfl) rfl (by decide) (by decide) (fun _ => rfl) ⟨_, _, _, rfl, rfl, h⟩
          · replace h := ifp h c20
            refine xr_aload_n (xd dX12_gotOctet 59 rfl) 0 rfl ?_
            refine xr_getR (b := 548) 12 67 (xd dX12_gotOctet 60 rfl) f12_181 (by decide) (by decide) (lt552 hn (by decide)) kd_491 rfl (r_491_67 hR) ?_
            refine xr_iload (xd dX12_gotOctet 61 rfl) 2 rfl ?_
            obtain ⟨o22, h⟩ := h
            refine zr_iaload (xd dX12_gotOctet 62 rfl) (lt552 hn (by decide)) kd_548 ln_548 (by decide) o22 ?_
            refine xr_goto 124 (xd dX12_gotOctet 63 rfl) (by decide) ?_
            exact xr_iret (xd dX12_gotOctet 72 rfl) rfl (by decide) (by decide) (fun _ => rfl) ⟨_, _, _, rfl, rfl, h⟩
        · replace h := ifp h c18
          refine xr_iconst (v := oI 0) (xd dX12_gotOctet 54 rfl) (by decide) ?_
          exact xr_iret (xd dX12_gotOctet 55 rfl) rfl (by decide) (by decide) (fun _ => rfl) ⟨_, _, _, rfl, rfl, h⟩)
      replace h := h (fun (J23 : zM) (L24 : yM) => xJ (xGm b dC dI cA ts) l mX12_gotOctet 0 0 (zQ1 n R Q) (fun _ _ => False) 0 0 80 [(0, .ref 491), (3, .int (oI p3)), (4, .int (oI x11))] [.ref 491] al n R (zi J23) (li L24)) (by
        intro J23 L24 h
        show xJ _ _ _ _ _ _ _ _ _ 80 [(0, .ref 491), (3, .int (oI p3)), (4, .int (oI x11))] [.ref 491] _ _ _ _ _
        refine xr_iconst (v := oI 1) (xd dX12_gotOctet 47 rfl) (by decide) ?_
        refine xr_goto 85 (xd dX12_gotOctet 48 rfl) (by decide) ?_
        exact h)
      obtain ⟨o26, h⟩ := h
      refine zr_icmp_lt 80 (xd dX12_gotOctet 40 rfl) (by decide) o26 (by decide) (fun c27 => ?_) (fun c27 => ?_)
      · replace h := ifp h c27
        refine xJ.pick (ls' := [(0, .ref 491), (3, .int (oI p3)), (4, .int (oI x11))]) [0, 3, 4] rfl ?_
        exact h
      · replace h := ifn h c27
        refine xr_iload_n (xd dX12_gotOctet 41 rfl) 3 rfl ?_
        refine xr_aload_n (xd dX12_gotOctet 42 rfl) 0 rfl ?_
        refine xr_getR (b := 548) 12 67 (xd dX12_gotOctet 43 rfl) f12_181 (by decide) (by decide) (lt552 hn (by decide)) kd_491 rfl (r_491_67 hR) ?_
        refine xr_iload (xd dX12_gotOctet 44 rfl) 4 rfl ?_
        obtain ⟨o28, h⟩ := h
        refine zr_iaload (xd dX12_gotOctet 45 rfl) (lt552 hn (by decide)) kd_548 ln_548 (by decide) o28 ?_
        obtain ⟨o29, h⟩ := h
        refine zr_icmp_lt 84 (xd dX12_gotOctet 46 rfl) (by decide) o26 o29 (fun c30 => ?_) (fun c30 => ?_)
        · replace h := ifp h c30
          refine xr_iconst (v := oI 0) (xd dX12_gotOctet 49 rfl) (by decide) ?_
          refine xJ.pick (ls' := [(0, .ref 491), (3, .int (oI p3)), (4, .int (oI x11))]) [0, 3, 4] rfl ?_
          exact h
        · replace h := ifn h c30
          refine xJ.pick (ls' := [(0, .ref 491), (3, .int (oI p3)), (4, .int (oI x11))]) [0, 3, 4] rfl ?_
          exact h
    · replace h := ifp h c10
      refine xr_iconst (v := oI 0) (xd dX12_gotOctet 27 rfl) (by decide) ?_
      exact xr_iret (xd dX12_gotOctet 28 rfl) rfl (by decide) (by decide) (fun _ => rfl) ⟨_, _, _, rfl, rfl, h⟩)
  replace h := h (fun (J31 : zM) (L32 : yM) => xJ (xGm b dC dI cA ts) l mX12_gotOctet 0 0 (zQ1 n R Q) (fun _ _ => False) 0 0 35 [(0, .ref 491), (1, .int (oI p1)), (2, .int (oI p2)), (3, .int (oI p3))] [.ref 491] al n R (zi J31) (li L32)) (by
    intro J31 L32 h
    show xJ _ _ _ _ _ _ _ _ _ 35 [(0, .ref 491), (1, .int (oI p1)), (2, .int (oI p2)), (3, .int (oI p3))] [.ref 491] _ _ _ _ _
    refine xr_iconst (v := oI 1) (xd dX12_gotOctet 20 rfl) (by decide) ?_
    refine xr_goto 40 (xd dX12_gotOctet 21 rfl) (by decide) ?_
    exact h)
  obtain ⟨o34, h⟩ := h
  refine zr_if_ne 35 (xd dX12_gotOctet 3 rfl) (by decide) o34 (fun c35 => ?_) (fun c35 => ?_)
  · replace h := ifn h c35
    exact h
  · replace h := ifp h c35
    refine xr_iload_n (xd dX12_gotOctet 4 rfl) 2 rfl ?_
    obtain ⟨o36, h⟩ := h
    refine zr_if_lt 35 (xd dX12_gotOctet 5 rfl) (by decide) o36 (fun c37 => ?_) (fun c37 => ?_)
    · replace h := ifp h c37
      exact h
    · replace h := ifn h c37
      refine xr_iload_n (xd dX12_gotOctet 6 rfl) 2 rfl ?_
      refine xr_aload_n (xd dX12_gotOctet 7 rfl) 0 rfl ?_
      refine xr_getR (b := 547) 12 66 (xd dX12_gotOctet 8 rfl) f12_178 (by decide) (by decide) (lt552 hn (by decide)) kd_491 rfl (r_491_66 hR) ?_
      refine xr_iload_n (xd dX12_gotOctet 9 rfl) 1 rfl ?_
      obtain ⟨o38, h⟩ := h
      refine zr_iaload (xd dX12_gotOctet 10 rfl) (lt552 hn (by decide)) kd_547 ln_547 (by decide) o38 ?_
      obtain ⟨o39, h⟩ := h
      refine zr_icmp_ge 35 (xd dX12_gotOctet 11 rfl) (by decide) o36 o39 (fun c40 => ?_) (fun c40 => ?_)
      · replace h := ifn h c40
        exact h
      · replace h := ifp h c40
        refine xr_iload_n (xd dX12_gotOctet 12 rfl) 2 rfl ?_
        refine xr_aload_n (xd dX12_gotOctet 13 rfl) 0 rfl ?_
        refine xr_getR (b := 547) 12 66 (xd dX12_gotOctet 14 rfl) f12_178 (by decide) (by decide) (lt552 hn (by decide)) kd_491 rfl (r_491_66 hR) ?_
        refine xr_iload_n (xd dX12_gotOctet 15 rfl) 1 rfl ?_
        obtain ⟨o41, h⟩ := h
        refine zr_iaload (xd dX12_gotOctet 16 rfl) (lt552 hn (by decide)) kd_547 ln_547 (by decide) o41 ?_
        refine xr_bipush (v := oI 100) (xd dX12_gotOctet 17 rfl) (by decide) ?_
        refine zr_isub (xd dX12_gotOctet 18 rfl) ?_
        obtain ⟨o42, h⟩ := h
        refine zr_icmp_ge 39 (xd dX12_gotOctet 19 rfl) (by decide) o36 o42 (fun c43 => ?_) (fun c43 => ?_)
        · replace h := ifn h c43
          refine xr_iconst (v := oI 0) (xd dX12_gotOctet 22 rfl) (by decide) ?_
          exact h
        · replace h := ifp h c43
          exact h
def w_X12_secret (p1 : Int) (p2 : Int) (p3 : Int) (J : zM) (L : yM) (Q : Int → zM → yM → Prop) : Prop := w_X12_noSide p1 J L (fun r3 J1 L2 => ∀ K7 : Int → zM → yM → Prop, (∀ (x4 : Int) (J5 : zM) (L6 : yM), (∀ J8 : zM, J8 = zs J5 491 0 x4 → R32 (J8 491 0) ∧ (if 0 < (J8 491 0) then Q 0 J8 L6 else ∀ K14 : Int → zM → yM → Prop, (∀ (x11 : Int) (J12 : zM) (L13 : yM), (∀ K18 : Int → zM → yM → Prop, (∀ (x15 : Int) (J16 : zM) (L17 : yM), (R32 x11 ∧ (if x11 = 0 then Q (-1) J16 L17 else ((0 : Int) ≤ (((1024 * p1) + x15) + p3) ∧ (((1024 * p1) + x15) + p3) < 2048) ∧ Q (J16 492 (((1024 * p1) + x15) + p3)) J16 L17)) → K18 x15 J16 L17) → R32 p2 ∧ (if p2 = 4 then K18 64 J12 L13 else (if p2 = 5 then K18 96 J12 L13 else K18 (128 + (32 * p2)) J12 L13))) → K14 x11 J12 L13) → ∀ K27 : zM → yM → Prop, (∀ (J25 : zM) (L26 : yM), (((0 : Int) ≤ p1 ∧ p1 < 2) ∧ K14 (J25 507 p1) J25 L26) → K27 J25 L26) → R32 p2 ∧ (if p2 = 2 then K27 J8 L6 else (if p2 = 3 then K27 J8 L6 else ((0 : Int) ≤ p1 ∧ p1 < 2) ∧ K14 (J8 506 p1) J8 L6)))) → K7 x4 J5 L6) → ∀ K35 : zM → yM → Prop, (∀ (J33 : zM) (L34 : yM), (K7 1 J33 L34) → K35 J33 L34) → R32 r3 ∧ (if r3 = 0 then R32 p2 ∧ (if p2 < 0 then K35 J1 L2 else (if 5 < p2 then K35 J1 L2 else R32 p3 ∧ (if p3 < 0 then K35 J1 L2 else (if 31 < p3 then K35 J1 L2 else K7 0 J1 L2)))) else K35 J1 L2))
set_option maxHeartbeats 4000000 in
set_option maxRecDepth 100000 in
theorem v_X12_secret {b : Nat} {dC : Nat → ClassId} {dI : Nat → Nat → Nat} {cA : Nat → ClassId} {ts : Nat → Nat} {l : Launch} {n : Nat} {R : Nat → Nat → Option Nat} {al : Bool} (hn : 552 ≤ n) (hR : xRk R) {p1 : Int} {p2 : Int} {p3 : Int}  {J : zM} {L : yM} {Q : Int → zM → yM → Prop} (h : w_X12_secret p1 p2 p3 J L Q) : xCn (xGm b dC dI cA ts) l mX12_secret [.ref 491, .int (oI p1), .int (oI p2), .int (oI p3)] al (n, R, zi J, li L) 0 0 (zQ1 n R Q) (fun _ _ => False) := by
  refine xCn.ofJ (by decide) (Nat.le_of_ble_eq_true rfl) ?_
  show xJ _ _ _ _ _ _ _ _ _ 0 [(0, .ref 491), (1, .int (oI p1)), (2, .int (oI p2)), (3, .int (oI p3))] [] _ _ _ _ _
  unfold w_X12_secret at h
  refine xr_aload_n (xd dX12_secret 0 rfl) 0 rfl ?_
  refine xr_iload_n (xd dX12_secret 1 rfl) 1 rfl ?_
  refine xr_callS mX12_noSide 1 [.int (oI p1)] (xd dX12_secret 2 rfl) l12_565 kX12_noSide rfl rfl (by decide) (Nat.le_of_ble_eq_true rfl) (v_X12_noSide hn hR  h) (by decide) (by decide) (fun r_ M_ h_ => ?_) (fun _ _ h_ => h_.elim)
  obtain ⟨r3, J1, L2, rfl, rfl, h⟩ := h_
  show xJ _ _ _ _ _ _ _ _ _ 5 [(0, .ref 491), (1, .int (oI p1)), (2, .int (oI p2)), (3, .int (oI p3))] [.int (oI r3), .ref 491] _ _ _ (zi J1) (li L2)
  replace h := h (fun (x4 : Int) (J5 : zM) (L6 : yM) => xJ (xGm b dC dI cA ts) l mX12_secret 0 0 (zQ1 n R Q) (fun _ _ => False) 0 0 32 [(0, .ref 491), (1, .int (oI p1)), (2, .int (oI p2)), (3, .int (oI p3))] [.int (oI x4), .ref 491] al n R (zi J5) (li L6)) (by
    intro x4 J5 L6 h
    show xJ _ _ _ _ _ _ _ _ _ 32 [(0, .ref 491), (1, .int (oI p1)), (2, .int (oI p2)), (3, .int (oI p3))] [.int (oI x4), .ref 491] _ _ _ _ _
    obtain ⟨J8, e_J8⟩ : ∃ z_ : zM, z_ = zs J5 491 0 x4 := ⟨_, rfl⟩
    replace h := h J8 e_J8
    refine zr_putI 12 0 0 rfl e_J8 (xd dX12_secret 17 rfl) f12_200 (by decide) (by decide) (lt552 hn (by decide)) kd_491 (Or.inl rfl) rfl rfl (fun _ => rfl) ?_
    refine xr_aload_n (xd dX12_secret 18 rfl) 0 rfl ?_
    refine zr_getI 12 0 0 rfl (xd dX12_secret 19 rfl) f12_200 (by decide) (by decide) (lt552 hn (by decide)) kd_491 rfl ?_
    obtain ⟨o9, h⟩ := h
    refine zr_if_le 44 (xd dX12_secret 20 rfl) (by decide) o9 (fun c10 => ?_) (fun c10 => ?_)
    · replace h := ifn h c10
      refine xr_iload_n (xd dX12_secret 23 rfl) 2 rfl ?_
      refine xr_iconst (v := oI 2) (xd dX12_secret 24 rfl) (by decide) ?_
      replace h := h (fun (x11 : Int) (J12 : zM) (L13 : yM) => xJ (xGm b dC dI cA ts) l mX12_secret 0 0 (zQ1 n R Q) (fun _ _ => False) 0 0 69 [(0, .ref 491), (1, .int (oI p1)), (2, .int (oI p2)), (3, .int (oI p3))] [.int (oI x11)] al n R (zi J12) (li L13)) (by
        intro x11 J12 L13 h
        show xJ _ _ _ _ _ _ _ _ _ 69 [(0, .ref 491), (1, .int (oI p1)), (2, .int (oI p2)), (3, .int (oI p3))] [.int (oI x11)] _ _ _ _ _
        refine xr_istore [(0, .ref 491), (1, .int (oI p1)), (2, .int (oI p2)), (3, .int (oI p3)), (4, .int (oI x11))] (xd dX12_secret 38 rfl) (by decide) rfl ?_
        refine xr_iload_n (xd dX12_secret 39 rfl) 2 rfl ?_
        refine xr_iconst (v := oI 4) (xd dX12_secret 40 rfl) (by decide) ?_
        replace h := h (fun (x15 : Int) (J16 : zM) (L17 : yM) => xJ (xGm b dC dI cA ts) l mX12_secret 0 0 (zQ1 n R Q) (fun _ _ => False) 0 0 99 [(0, .ref 491), (1, .int (oI p1)), (3, .int (oI p3)), (4, .int (oI x11))] [.int (oI x15)] al n R (zi J16) (li L17)) (by
          intro x15 J16 L17 h
          show xJ _ _ _ _ _ _ _ _ _ 99 [(0, .ref 491), (1, .int (oI p1)), (3, .int (oI p3)), (4, .int (oI x11))] [.int (oI x15)] _ _ _ _ _
          refine xr_istore [(0, .ref 491), (1, .int (oI p1)), (3, .int (oI p3)), (4, .int (oI x11)), (5, .int (oI x15))] (xd dX12_secret 54 rfl) (by decide) rfl ?_
          refine xr_iload (xd dX12_secret 55 rfl) 3 rfl ?_
          obtain ⟨o19, h⟩ := h
          refine zr_if_eq 124 (xd dX12_secret 56 rfl) (by decide) o19 (fun c20 => ?_) (fun c20 => ?_)
          · replace h := ifp h c20
            refine xr_iconst (v := oI (-1)) (xd dX12_secret 68 rfl) (by decide) ?_
            exact xr_iret (xd dX12_secret 69 rfl) rfl (by decide) (by decide) (fun _ => rfl) ⟨_, _, _, rfl, rfl, h⟩
          · replace h := ifn h c20
            refine xr_aload_n (xd dX12_secret 57 rfl) 0 rfl ?_
            refine xr_getR (b := 492) 12 5 (xd dX12_secret 58 rfl) f12_7 (by decide) (by decide) (lt552 hn (by decide)) kd_491 rfl (r_491_5 hR) ?_
            refine xr_sipush (v := oI 1024) (xd dX12_secret 59 rfl) (by decide) ?_
            refine xr_iload_n (xd dX12_secret 60 rfl) 1 rfl ?_
            refine zr_imul (xd dX12_secret 61 rfl) ?_
            refine xr_iload (xd dX12_secret 62 rfl) 4 rfl ?_
            refine zr_iadd (xd dX12_secret 63 rfl) ?_
            refine xr_iload_n (xd dX12_secret 64 rfl) 2 rfl ?_
            refine zr_iadd (xd dX12_secret 65 rfl) ?_
            obtain ⟨o21, h⟩ := h
            refine zr_iaload (xd dX12_secret 66 rfl) (lt552 hn (by decide)) kd_492 ln_492 (by decide) o21 ?_
            refine xr_goto 125 (xd dX12_secret 67 rfl) (by decide) ?_
            exact xr_iret (xd dX12_secret 69 rfl) rfl (by decide) (by decide) (fun _ => rfl) ⟨_, _, _, rfl, rfl, h⟩)
        obtain ⟨o22, h⟩ := h
        refine zr_icmp_ne 81 (xd dX12_secret 41 rfl) (by decide) o22 (by decide) (fun c23 => ?_) (fun c23 => ?_)
        · replace h := ifn h c23
          refine xr_iload_n (xd dX12_secret 44 rfl) 2 rfl ?_
          refine xr_iconst (v := oI 5) (xd dX12_secret 45 rfl) (by decide) ?_
          refine zr_icmp_ne 91 (xd dX12_secret 46 rfl) (by decide) o22 (by decide) (fun c24 => ?_) (fun c24 => ?_)
          · replace h := ifn h c24
            refine xr_sipush (v := oI 128) (xd dX12_secret 49 rfl) (by decide) ?_
            refine xr_bipush (v := oI 32) (xd dX12_secret 50 rfl) (by decide) ?_
            refine xr_iload_n (xd dX12_secret 51 rfl) 2 rfl ?_
            refine zr_imul (xd dX12_secret 52 rfl) ?_
            refine zr_iadd (xd dX12_secret 53 rfl) ?_
            refine xJ.pick (ls' := [(0, .ref 491), (1, .int (oI p1)), (3, .int (oI p3)), (4, .int (oI x11))]) [0, 1, 3, 4] rfl ?_
            exact h
          · replace h := ifp h c24
            refine xr_bipush (v := oI 96) (xd dX12_secret 47 rfl) (by decide) ?_
            refine xr_goto 99 (xd dX12_secret 48 rfl) (by decide) ?_
            refine xJ.pick (ls' := [(0, .ref 491), (1, .int (oI p1)), (3, .int (oI p3)), (4, .int (oI x11))]) [0, 1, 3, 4] rfl ?_
            exact h
        · replace h := ifp h c23
          refine xr_bipush (v := oI 64) (xd dX12_secret 42 rfl) (by decide) ?_
          refine xr_goto 99 (xd dX12_secret 43 rfl) (by decide) ?_
          refine xJ.pick (ls' := [(0, .ref 491), (1, .int (oI p1)), (3, .int (oI p3)), (4, .int (oI x11))]) [0, 1, 3, 4] rfl ?_
          exact h)
      replace h := h (fun (J25 : zM) (L26 : yM) => xJ (xGm b dC dI cA ts) l mX12_secret 0 0 (zQ1 n R Q) (fun _ _ => False) 0 0 54 [(0, .ref 491), (1, .int (oI p1)), (2, .int (oI p2)), (3, .int (oI p3))] [] al n R (zi J25) (li L26)) (by
        intro J25 L26 h
        show xJ _ _ _ _ _ _ _ _ _ 54 [(0, .ref 491), (1, .int (oI p1)), (2, .int (oI p2)), (3, .int (oI p3))] [] _ _ _ _ _
        refine xr_aload_n (xd dX12_secret 29 rfl) 0 rfl ?_
        refine xr_getR (b := 507) 12 23 (xd dX12_secret 30 rfl) f12_57 (by decide) (by decide) (lt552 hn (by decide)) kd_491 rfl (r_491_23 hR) ?_
        refine xr_iload_n (xd dX12_secret 31 rfl) 1 rfl ?_
        obtain ⟨o28, h⟩ := h
        refine zr_zaload (xd dX12_secret 32 rfl) (lt552 hn (by decide)) kd_507 ln_507 (by decide) o28 ?_
        refine xr_goto 69 (xd dX12_secret 33 rfl) (by decide) ?_
        exact h)
      obtain ⟨o29, h⟩ := h
      refine zr_icmp_eq 54 (xd dX12_secret 25 rfl) (by decide) o29 (by decide) (fun c30 => ?_) (fun c30 => ?_)
      · replace h := ifp h c30
        exact h
      · replace h := ifn h c30
        refine xr_iload_n (xd dX12_secret 26 rfl) 2 rfl ?_
        refine xr_iconst (v := oI 3) (xd dX12_secret 27 rfl) (by decide) ?_
        refine zr_icmp_ne 63 (xd dX12_secret 28 rfl) (by decide) o29 (by decide) (fun c31 => ?_) (fun c31 => ?_)
        · replace h := ifn h c31
          refine xr_aload_n (xd dX12_secret 34 rfl) 0 rfl ?_
          refine xr_getR (b := 506) 12 22 (xd dX12_secret 35 rfl) f12_53 (by decide) (by decide) (lt552 hn (by decide)) kd_491 rfl (r_491_22 hR) ?_
          refine xr_iload_n (xd dX12_secret 36 rfl) 1 rfl ?_
          obtain ⟨o32, h⟩ := h
          refine zr_zaload (xd dX12_secret 37 rfl) (lt552 hn (by decide)) kd_506 ln_506 (by decide) o32 ?_
          exact h
        · replace h := ifp h c31
          exact h
    · replace h := ifp h c10
      refine xr_iconst (v := oI 0) (xd dX12_secret 21 rfl) (by decide) ?_
      exact xr_iret (xd dX12_secret 22 rfl) rfl (by decide) (by decide) (fun _ => rfl) ⟨_, _, _, rfl, rfl, h⟩)
  replace h := h (fun (J33 : zM) (L34 : yM) => xJ (xGm b dC dI cA ts) l mX12_secret 0 0 (zQ1 n R Q) (fun _ _ => False) 0 0 27 [(0, .ref 491), (1, .int (oI p1)), (2, .int (oI p2)), (3, .int (oI p3))] [.ref 491] al n R (zi J33) (li L34)) (by
    intro J33 L34 h
    show xJ _ _ _ _ _ _ _ _ _ 27 [(0, .ref 491), (1, .int (oI p1)), (2, .int (oI p2)), (3, .int (oI p3))] [.ref 491] _ _ _ _ _
    refine xr_iconst (v := oI 1) (xd dX12_secret 14 rfl) (by decide) ?_
    refine xr_goto 32 (xd dX12_secret 15 rfl) (by decide) ?_
    exact h)
  obtain ⟨o36, h⟩ := h
  refine zr_if_ne 27 (xd dX12_secret 3 rfl) (by decide) o36 (fun c37 => ?_) (fun c37 => ?_)
  · replace h := ifn h c37
    exact h
  · replace h := ifp h c37
    refine xr_iload_n (xd dX12_secret 4 rfl) 2 rfl ?_
    obtain ⟨o38, h⟩ := h
    refine zr_if_lt 27 (xd dX12_secret 5 rfl) (by decide) o38 (fun c39 => ?_) (fun c39 => ?_)
    · replace h := ifp h c39
      exact h
    · replace h := ifn h c39
      refine xr_iload_n (xd dX12_secret 6 rfl) 2 rfl ?_
      refine xr_iconst (v := oI 5) (xd dX12_secret 7 rfl) (by decide) ?_
      refine zr_icmp_gt 27 (xd dX12_secret 8 rfl) (by decide) o38 (by decide) (fun c40 => ?_) (fun c40 => ?_)
      · replace h := ifp h c40
        exact h
      · replace h := ifn h c40
        refine xr_iload_n (xd dX12_secret 9 rfl) 3 rfl ?_
        obtain ⟨o41, h⟩ := h
        refine zr_if_lt 27 (xd dX12_secret 10 rfl) (by decide) o41 (fun c42 => ?_) (fun c42 => ?_)
        · replace h := ifp h c42
          exact h
        · replace h := ifn h c42
          refine xr_iload_n (xd dX12_secret 11 rfl) 3 rfl ?_
          refine xr_bipush (v := oI 31) (xd dX12_secret 12 rfl) (by decide) ?_
          refine zr_icmp_le 31 (xd dX12_secret 13 rfl) (by decide) o41 (by decide) (fun c43 => ?_) (fun c43 => ?_)
          · replace h := ifn h c43
            refine xr_iconst (v := oI 0) (xd dX12_secret 16 rfl) (by decide) ?_
            exact h
          · replace h := ifp h c43
            exact h
def w_X12_told (p1 : Int) (p2 : Int) (J : zM) (L : yM) (Q : Int → zM → yM → Prop) : Prop := w_X12_noSide p1 J L (fun r3 J1 L2 => ∀ K7 : Int → zM → yM → Prop, (∀ (x4 : Int) (J5 : zM) (L6 : yM), (∀ J8 : zM, J8 = zs J5 491 0 x4 → R32 (J8 491 0) ∧ (if 0 < (J8 491 0) then Q 0 J8 L6 else R32 p2 ∧ (if p2 = 5 then ((0 : Int) ≤ p1 ∧ p1 < 2) ∧ Q (J8 512 p1) J8 L6 else (if p2 = 6 then ((0 : Int) ≤ p1 ∧ p1 < 2) ∧ Q (J8 527 p1) J8 L6 else (if p2 = 7 then w_X12_hasTimer p1 J8 L6 (fun r19 J17 L18 => R32 r19 ∧ (if r19 = 0 then Q 0 J17 L18 else ((0 : Int) ≤ p1 ∧ p1 < 2) ∧ Q (J17 524 p1) J17 L18)) else (if p2 = 8 then ((0 : Int) ≤ p1 ∧ p1 < 2) ∧ Q (J8 538 p1) J8 L6 else (if p2 = 9 then ((0 : Int) ≤ p1 ∧ p1 < 2) ∧ R32 (J8 539 p1) ∧ (if (J8 539 p1) = 0 then Q 0 J8 L6 else Q 1 J8 L6) else (if p2 = 10 then ((0 : Int) ≤ p1 ∧ p1 < 2) ∧ Q (J8 530 p1) J8 L6 else (if p2 = 11 then ((0 : Int) ≤ p1 ∧ p1 < 2) ∧ Q (J8 535 p1) J8 L6 else (if p2 = 12 then ((0 : Int) ≤ p1 ∧ p1 < 2) ∧ R32 (J8 534 p1) ∧ (if (J8 534 p1) = 4 then Q 0 J8 L6 else w_X12_left p1 J8 L6 (fun r39 J37 L38 => Q r39 J37 L38)) else ((0 : Int) ≤ ((10 * p1) + p2) ∧ ((10 * p1) + p2) < 20) ∧ Q (J8 537 ((10 * p1) + p2)) J8 L6)))))))))) → K7 x4 J5 L6) → ∀ K43 : zM → yM → Prop, (∀ (J41 : zM) (L42 : yM), (K7 1 J41 L42) → K43 J41 L42) → R32 r3 ∧ (if r3 = 0 then R32 p2 ∧ (if p2 < 0 then K43 J1 L2 else (if 12 < p2 then K43 J1 L2 else K7 0 J1 L2)) else K43 J1 L2))
set_option maxHeartbeats 4000000 in
set_option maxRecDepth 100000 in
theorem v_X12_told {b : Nat} {dC : Nat → ClassId} {dI : Nat → Nat → Nat} {cA : Nat → ClassId} {ts : Nat → Nat} {l : Launch} {n : Nat} {R : Nat → Nat → Option Nat} {al : Bool} (hn : 552 ≤ n) (hR : xRk R) {p1 : Int} {p2 : Int}  {J : zM} {L : yM} {Q : Int → zM → yM → Prop} (h : w_X12_told p1 p2 J L Q) : xCn (xGm b dC dI cA ts) l mX12_told [.ref 491, .int (oI p1), .int (oI p2)] al (n, R, zi J, li L) 0 0 (zQ1 n R Q) (fun _ _ => False) := by
  refine xCn.ofJ (by decide) (Nat.le_of_ble_eq_true rfl) ?_
  show xJ _ _ _ _ _ _ _ _ _ 0 [(0, .ref 491), (1, .int (oI p1)), (2, .int (oI p2))] [] _ _ _ _ _
  unfold w_X12_told at h
  refine xr_aload_n (xd dX12_told 0 rfl) 0 rfl ?_
  refine xr_iload_n (xd dX12_told 1 rfl) 1 rfl ?_
  refine xr_callS mX12_noSide 1 [.int (oI p1)] (xd dX12_told 2 rfl) l12_565 kX12_noSide rfl rfl (by decide) (Nat.le_of_ble_eq_true rfl) (v_X12_noSide hn hR  h) (by decide) (by decide) (fun r_ M_ h_ => ?_) (fun _ _ h_ => h_.elim)
  obtain ⟨r3, J1, L2, rfl, rfl, h⟩ := h_
  show xJ _ _ _ _ _ _ _ _ _ 5 [(0, .ref 491), (1, .int (oI p1)), (2, .int (oI p2))] [.int (oI r3), .ref 491] _ _ _ (zi J1) (li L2)
  replace h := h (fun (x4 : Int) (J5 : zM) (L6 : yM) => xJ (xGm b dC dI cA ts) l mX12_told 0 0 (zQ1 n R Q) (fun _ _ => False) 0 0 23 [(0, .ref 491), (1, .int (oI p1)), (2, .int (oI p2))] [.int (oI x4), .ref 491] al n R (zi J5) (li L6)) (by
    intro x4 J5 L6 h
    show xJ _ _ _ _ _ _ _ _ _ 23 [(0, .ref 491), (1, .int (oI p1)), (2, .int (oI p2))] [.int (oI x4), .ref 491] _ _ _ _ _
    obtain ⟨J8, e_J8⟩ : ∃ z_ : zM, z_ = zs J5 491 0 x4 := ⟨_, rfl⟩
    replace h := h J8 e_J8
    refine zr_putI 12 0 0 rfl e_J8 (xd dX12_told 12 rfl) f12_200 (by decide) (by decide) (lt552 hn (by decide)) kd_491 (Or.inl rfl) rfl rfl (fun _ => rfl) ?_
    refine xr_aload_n (xd dX12_told 13 rfl) 0 rfl ?_
    refine zr_getI 12 0 0 rfl (xd dX12_told 14 rfl) f12_200 (by decide) (by decide) (lt552 hn (by decide)) kd_491 rfl ?_
    obtain ⟨o9, h⟩ := h
    refine zr_if_le 35 (xd dX12_told 15 rfl) (by decide) o9 (fun c10 => ?_) (fun c10 => ?_)
    · replace h := ifn h c10
      refine xr_iload_n (xd dX12_told 18 rfl) 2 rfl ?_
      obtain ⟨o11, h⟩ := h
      by_cases c12 : p2 = 5
      · replace h := ifp h c12
        refine zr_tab (off := 48) 84 (xd dX12_told 19 rfl) o11 (by rw [c12]; rfl) (by decide) (by decide) ?_
        refine xr_aload_n (xd dX12_told 20 rfl) 0 rfl ?_
        refine xr_getR (b := 512) 12 28 (xd dX12_told 21 rfl) f12_73 (by decide) (by decide) (lt552 hn (by decide)) kd_491 rfl (r_491_28 hR) ?_
        refine xr_iload_n (xd dX12_told 22 rfl) 1 rfl ?_
        obtain ⟨o13, h⟩ := h
        refine zr_iaload (xd dX12_told 23 rfl) (lt552 hn (by decide)) kd_512 ln_512 (by decide) o13 ?_
        exact xr_iret (xd dX12_told 24 rfl) rfl (by decide) (by decide) (fun _ => rfl) ⟨_, _, _, rfl, rfl, h⟩
      replace h := ifn h c12
      by_cases c14 : p2 = 6
      · replace h := ifp h c14
        refine zr_tab (off := 55) 91 (xd dX12_told 19 rfl) o11 (by rw [c14]; rfl) (by decide) (by decide) ?_
        refine xr_aload_n (xd dX12_told 25 rfl) 0 rfl ?_
        refine xr_getR (b := 527) 12 45 (xd dX12_told 26 rfl) f12_118 (by decide) (by decide) (lt552 hn (by decide)) kd_491 rfl (r_491_45 hR) ?_
        refine xr_iload_n (xd dX12_told 27 rfl) 1 rfl ?_
        obtain ⟨o15, h⟩ := h
        refine zr_iaload (xd dX12_told 28 rfl) (lt552 hn (by decide)) kd_527 ln_527 (by decide) o15 ?_
        exact xr_iret (xd dX12_told 29 rfl) rfl (by decide) (by decide) (fun _ => rfl) ⟨_, _, _, rfl, rfl, h⟩
      replace h := ifn h c14
      by_cases c16 : p2 = 7
      · replace h := ifp h c16
        refine zr_tab (off := 62) 98 (xd dX12_told 19 rfl) o11 (by rw [c16]; rfl) (by decide) (by decide) ?_
        refine xr_aload_n (xd dX12_told 30 rfl) 0 rfl ?_
        refine xr_iload_n (xd dX12_told 31 rfl) 1 rfl ?_
        refine xr_callV mX12_hasTimer 1 [.int (oI p1)] (xd dX12_told 32 rfl) l12_513 kX12_hasTimer rfl (lt552 hn (by decide)) kd_491 (by decide) rfl (by decide) (Nat.le_of_ble_eq_true rfl) (v_X12_hasTimer hn hR  h) (by decide) (by decide) (fun r_ M_ h_ => ?_) (fun _ _ h_ => h_.elim)
        obtain ⟨r19, J17, L18, rfl, rfl, h⟩ := h_
        show xJ _ _ _ _ _ _ _ _ _ 103 [(0, .ref 491), (1, .int (oI p1)), (2, .int (oI p2))] [.int (oI r19)] _ _ _ (zi J17) (li L18)
        obtain ⟨o20, h⟩ := h
        refine zr_if_eq 115 (xd dX12_told 33 rfl) (by decide) o20 (fun c21 => ?_) (fun c21 => ?_)
        · replace h := ifp h c21
          refine xr_iconst (v := oI 0) (xd dX12_told 39 rfl) (by decide) ?_
          exact xr_iret (xd dX12_told 40 rfl) rfl (by decide) (by decide) (fun _ => rfl) ⟨_, _, _, rfl, rfl, h⟩
        · replace h := ifn h c21
          refine xr_aload_n (xd dX12_told 34 rfl) 0 rfl ?_
          refine xr_getR (b := 524) 12 42 (xd dX12_told 35 rfl) f12_109 (by decide) (by decide) (lt552 hn (by decide)) kd_491 rfl (r_491_42 hR) ?_
          refine xr_iload_n (xd dX12_told 36 rfl) 1 rfl ?_
          obtain ⟨o22, h⟩ := h
          refine zr_iaload (xd dX12_told 37 rfl) (lt552 hn (by decide)) kd_524 ln_524 (by decide) o22 ?_
          refine xr_goto 116 (xd dX12_told 38 rfl) (by decide) ?_
          exact xr_iret (xd dX12_told 40 rfl) rfl (by decide) (by decide) (fun _ => rfl) ⟨_, _, _, rfl, rfl, h⟩
      replace h := ifn h c16
      by_cases c23 : p2 = 8
      · replace h := ifp h c23
        refine zr_tab (off := 81) 117 (xd dX12_told 19 rfl) o11 (by rw [c23]; rfl) (by decide) (by decide) ?_
        refine xr_aload_n (xd dX12_told 41 rfl) 0 rfl ?_
        refine xr_getR (b := 538) 12 56 (xd dX12_told 42 rfl) f12_151 (by decide) (by decide) (lt552 hn (by decide)) kd_491 rfl (r_491_56 hR) ?_
        refine xr_iload_n (xd dX12_told 43 rfl) 1 rfl ?_
        obtain ⟨o24, h⟩ := h
        refine zr_iaload (xd dX12_told 44 rfl) (lt552 hn (by decide)) kd_538 ln_538 (by decide) o24 ?_
        exact xr_iret (xd dX12_told 45 rfl) rfl (by decide) (by decide) (fun _ => rfl) ⟨_, _, _, rfl, rfl, h⟩
      replace h := ifn h c23
      by_cases c25 : p2 = 9
      · replace h := ifp h c25
        refine zr_tab (off := 88) 124 (xd dX12_told 19 rfl) o11 (by rw [c25]; rfl) (by decide) (by decide) ?_
        refine xr_aload_n (xd dX12_told 46 rfl) 0 rfl ?_
        refine xr_getR (b := 539) 12 57 (xd dX12_told 47 rfl) f12_154 (by decide) (by decide) (lt552 hn (by decide)) kd_491 rfl (r_491_57 hR) ?_
        refine xr_iload_n (xd dX12_told 48 rfl) 1 rfl ?_
        obtain ⟨o26, h⟩ := h
        refine zr_zaload (xd dX12_told 49 rfl) (lt552 hn (by decide)) kd_539 ln_539 (by decide) o26 ?_
        obtain ⟨o27, h⟩ := h
        refine zr_if_eq 137 (xd dX12_told 50 rfl) (by decide) o27 (fun c28 => ?_) (fun c28 => ?_)
        · replace h := ifp h c28
          refine xr_iconst (v := oI 0) (xd dX12_told 53 rfl) (by decide) ?_
          exact xr_iret (xd dX12_told 54 rfl) rfl (by decide) (by decide) (fun _ => rfl) ⟨_, _, _, rfl, rfl, h⟩
        · replace h := ifn h c28
          refine xr_iconst (v := oI 1) (xd dX12_told 51 rfl) (by decide) ?_
          refine xr_goto 138 (xd dX12_told 52 rfl) (by decide) ?_
          exact xr_iret (xd dX12_told 54 rfl) rfl (by decide) (by decide) (fun _ => rfl) ⟨_, _, _, rfl, rfl, h⟩
      replace h := ifn h c25
      by_cases c29 : p2 = 10
      · replace h := ifp h c29
        refine zr_tab (off := 103) 139 (xd dX12_told 19 rfl) o11 (by rw [c29]; rfl) (by decide) (by decide) ?_
        refine xr_aload_n (xd dX12_told 55 rfl) 0 rfl ?_
        refine xr_getR (b := 530) 12 48 (xd dX12_told 56 rfl) f12_127 (by decide) (by decide) (lt552 hn (by decide)) kd_491 rfl (r_491_48 hR) ?_
        refine xr_iload_n (xd dX12_told 57 rfl) 1 rfl ?_
        obtain ⟨o30, h⟩ := h
        refine zr_iaload (xd dX12_told 58 rfl) (lt552 hn (by decide)) kd_530 ln_530 (by decide) o30 ?_
        exact xr_iret (xd dX12_told 59 rfl) rfl (by decide) (by decide) (fun _ => rfl) ⟨_, _, _, rfl, rfl, h⟩
      replace h := ifn h c29
      by_cases c31 : p2 = 11
      · replace h := ifp h c31
        refine zr_tab (off := 110) 146 (xd dX12_told 19 rfl) o11 (by rw [c31]; rfl) (by decide) (by decide) ?_
        refine xr_aload_n (xd dX12_told 60 rfl) 0 rfl ?_
        refine xr_getR (b := 535) 12 53 (xd dX12_told 61 rfl) f12_142 (by decide) (by decide) (lt552 hn (by decide)) kd_491 rfl (r_491_53 hR) ?_
        refine xr_iload_n (xd dX12_told 62 rfl) 1 rfl ?_
        obtain ⟨o32, h⟩ := h
        refine zr_iaload (xd dX12_told 63 rfl) (lt552 hn (by decide)) kd_535 ln_535 (by decide) o32 ?_
        exact xr_iret (xd dX12_told 64 rfl) rfl (by decide) (by decide) (fun _ => rfl) ⟨_, _, _, rfl, rfl, h⟩
      replace h := ifn h c31
      by_cases c33 : p2 = 12
      · replace h := ifp h c33
        refine zr_tab (off := 117) 153 (xd dX12_told 19 rfl) o11 (by rw [c33]; rfl) (by decide) (by decide) ?_
        refine xr_aload_n (xd dX12_told 65 rfl) 0 rfl ?_
        refine xr_getR (b := 534) 12 52 (xd dX12_told 66 rfl) f12_139 (by decide) (by decide) (lt552 hn (by decide)) kd_491 rfl (r_491_52 hR) ?_
        refine xr_iload_n (xd dX12_told 67 rfl) 1 rfl ?_
        obtain ⟨o34, h⟩ := h
        refine zr_iaload (xd dX12_told 68 rfl) (lt552 hn (by decide)) kd_534 ln_534 (by decide) o34 ?_
        refine xr_iconst (v := oI 4) (xd dX12_told 69 rfl) (by decide) ?_
        obtain ⟨o35, h⟩ := h
        refine zr_icmp_ne 167 (xd dX12_told 70 rfl) (by decide) o35 (by decide) (fun c36 => ?_) (fun c36 => ?_)
        · replace h := ifn h c36
          refine xr_aload_n (xd dX12_told 73 rfl) 0 rfl ?_
          refine xr_iload_n (xd dX12_told 74 rfl) 1 rfl ?_
          refine xr_callV mX12_left 1 [.int (oI p1)] (xd dX12_told 75 rfl) l12_516 kX12_left rfl (lt552 hn (by decide)) kd_491 (by decide) rfl (by decide) (Nat.le_of_ble_eq_true rfl) (v_X12_left hn hR  h) (by decide) (by decide) (fun r_ M_ h_ => ?_) (fun _ _ h_ => h_.elim)
          obtain ⟨r39, J37, L38, rfl, rfl, h⟩ := h_
          show xJ _ _ _ _ _ _ _ _ _ 172 [(0, .ref 491), (1, .int (oI p1)), (2, .int (oI p2))] [.int (oI r39)] _ _ _ (zi J37) (li L38)
          exact xr_iret (xd dX12_told 76 rfl) rfl (by decide) (by decide) (fun _ => rfl) ⟨_, _, _, rfl, rfl, h⟩
        · replace h := ifp h c36
          refine xr_iconst (v := oI 0) (xd dX12_told 71 rfl) (by decide) ?_
          refine xr_goto 172 (xd dX12_told 72 rfl) (by decide) ?_
          exact xr_iret (xd dX12_told 76 rfl) rfl (by decide) (by decide) (fun _ => rfl) ⟨_, _, _, rfl, rfl, h⟩
      replace h := ifn h c33
      refine zr_tab (off := 137) 173 (xd dX12_told 19 rfl) o11 (by unfold tabOff; split <;> first | rfl | (exfalso; omega)) (by decide) (by decide) ?_
      refine xr_aload_n (xd dX12_told 77 rfl) 0 rfl ?_
      refine xr_getR (b := 537) 12 55 (xd dX12_told 78 rfl) f12_148 (by decide) (by decide) (lt552 hn (by decide)) kd_491 rfl (r_491_55 hR) ?_
      refine xr_bipush (v := oI 10) (xd dX12_told 79 rfl) (by decide) ?_
      refine xr_iload_n (xd dX12_told 80 rfl) 1 rfl ?_
      refine zr_imul (xd dX12_told 81 rfl) ?_
      refine xr_iload_n (xd dX12_told 82 rfl) 2 rfl ?_
      refine zr_iadd (xd dX12_told 83 rfl) ?_
      obtain ⟨o40, h⟩ := h
      refine zr_iaload (xd dX12_told 84 rfl) (lt552 hn (by decide)) kd_537 ln_537 (by decide) o40 ?_
      exact xr_iret (xd dX12_told 85 rfl) rfl (by decide) (by decide) (fun _ => rfl) ⟨_, _, _, rfl, rfl, h⟩
    · replace h := ifp h c10
      refine xr_iconst (v := oI 0) (xd dX12_told 16 rfl) (by decide) ?_
      exact xr_iret (xd dX12_told 17 rfl) rfl (by decide) (by decide) (fun _ => rfl) ⟨_, _, _, rfl, rfl, h⟩)
  replace h := h (fun (J41 : zM) (L42 : yM) => xJ (xGm b dC dI cA ts) l mX12_told 0 0 (zQ1 n R Q) (fun _ _ => False) 0 0 18 [(0, .ref 491), (1, .int (oI p1)), (2, .int (oI p2))] [.ref 491] al n R (zi J41) (li L42)) (by
    intro J41 L42 h
    show xJ _ _ _ _ _ _ _ _ _ 18 [(0, .ref 491), (1, .int (oI p1)), (2, .int (oI p2))] [.ref 491] _ _ _ _ _
    refine xr_iconst (v := oI 1) (xd dX12_told 9 rfl) (by decide) ?_
    refine xr_goto 23 (xd dX12_told 10 rfl) (by decide) ?_
    exact h)
  obtain ⟨o44, h⟩ := h
  refine zr_if_ne 18 (xd dX12_told 3 rfl) (by decide) o44 (fun c45 => ?_) (fun c45 => ?_)
  · replace h := ifn h c45
    exact h
  · replace h := ifp h c45
    refine xr_iload_n (xd dX12_told 4 rfl) 2 rfl ?_
    obtain ⟨o46, h⟩ := h
    refine zr_if_lt 18 (xd dX12_told 5 rfl) (by decide) o46 (fun c47 => ?_) (fun c47 => ?_)
    · replace h := ifp h c47
      exact h
    · replace h := ifn h c47
      refine xr_iload_n (xd dX12_told 6 rfl) 2 rfl ?_
      refine xr_bipush (v := oI 12) (xd dX12_told 7 rfl) (by decide) ?_
      refine zr_icmp_le 22 (xd dX12_told 8 rfl) (by decide) o46 (by decide) (fun c48 => ?_) (fun c48 => ?_)
      · replace h := ifn h c48
        refine xr_iconst (v := oI 0) (xd dX12_told 11 rfl) (by decide) ?_
        exact h
      · replace h := ifp h c48
        exact h
