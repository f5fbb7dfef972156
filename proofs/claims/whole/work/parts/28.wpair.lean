def w_X11_startAnew (p1 : Int) (p2 : Int) (J : zM) (L : yM) (Q : zM → yM → Prop) : Prop := w_X4_empty 11 J L (fun J2 L3 => w_X4_empty 75 J2 L3 (fun J5 L6 => ∀ K11 : Int → zM → yM → Prop, (∀ (x8 : Int) (J9 : zM) (L10 : yM), (w_X8_startAnew 139 p2 0 x8 J9 L10 (fun J12 L13 => ∀ K18 : Int → zM → yM → Prop, (∀ (x15 : Int) (J16 : zM) (L17 : yM), (∀ K22 : Int → zM → yM → Prop, (∀ (x19 : Int) (J20 : zM) (L21 : yM), (w_X8_startAnew 315 p2 x15 x19 J20 L21 (fun J23 L24 => ∀ J25 : zM, J25 = zs J23 0 4 0 → ∀ J26 : zM, J26 = zs J25 0 5 0 → Q J26 L24)) → K22 x19 J20 L21) → (if (zand p1 4) = 0 then K22 0 J16 L17 else K22 1 J16 L17)) → K18 x15 J16 L17) → (if (zand p1 1) = 0 then K18 0 J12 L13 else K18 1 J12 L13))) → K11 x8 J9 L10) → (if (zand p1 2) = 0 then K11 0 J5 L6 else K11 1 J5 L6)))
set_option maxHeartbeats 4000000 in
set_option maxRecDepth 100000 in
theorem v_X11_startAnew {b : Nat} {dC : Nat → ClassId} {dI : Nat → Nat → Nat} {cA : Nat → ClassId} {ts : Nat → Nat} {l : Launch} {n : Nat} {R : Nat → Nat → Option Nat} {al : Bool} (hn : 491 ≤ n) (hR : xRk R) {p1 : Int} {p2 : Int}  {J : zM} {L : yM} {Q : zM → yM → Prop} (h : w_X11_startAnew p1 p2 J L Q) : xCn (xGm b dC dI cA ts) l mX11_startAnew [.ref 0, .int (oI p1), .int (oI p2)] al (n, R, zi J, li L) 0 0 (zQ0 n R Q) (fun _ _ => False) := by
  refine xCn.ofJ (by decide) (Nat.le_of_ble_eq_true rfl) ?_
  show xJ _ _ _ _ _ _ _ _ _ 0 [(0, .ref 0), (1, .int (oI p1)), (2, .int (oI p2))] [] _ _ _ _ _
  unfold w_X11_startAnew at h
  refine xr_aload_n (xd dX11_startAnew 0 rfl) 0 rfl ?_
  refine xr_getR (b := 1) 11 0 (xd dX11_startAnew 1 rfl) f11_11 (by decide) (by decide) (lt491 hn (by decide)) kd_0 rfl (r_0_0 hR) ?_
  refine xr_iconst (v := oI 0) (xd dX11_startAnew 2 rfl) (by decide) ?_
  refine zr_aaload (b := 11) 4 (xd dX11_startAnew 3 rfl) (lt491 hn (by decide)) (by decide) (by decide) kd_1 ln_1 (by decide) ⟨by decide, by decide⟩ (r_1_0 hR) ?_
  refine xr_callV mX4_empty 0 [] (xd dX11_startAnew 4 rfl) l11_214 kX4_empty rfl (lt491 hn (rows_lt0 (Or.inl rfl : iRows 11))) (rows_kd (Or.inl rfl : iRows 11)).1 (by decide) rfl (by decide) (Nat.le_of_ble_eq_true rfl) (v_X4_empty hn hR (Or.inl rfl : iRows 11) h) (by decide) (by decide) (fun r_ M_ h_ => ?_) (fun _ _ h_ => h_.elim)
  obtain ⟨J2, L3, rfl, rfl, h⟩ := h_
  show xJ _ _ _ _ _ _ _ _ _ 9 [(0, .ref 0), (1, .int (oI p1)), (2, .int (oI p2))] [] _ _ _ (zi J2) (li L3)
  refine xr_aload_n (xd dX11_startAnew 5 rfl) 0 rfl ?_
  refine xr_getR (b := 1) 11 0 (xd dX11_startAnew 6 rfl) f11_11 (by decide) (by decide) (lt491 hn (by decide)) kd_0 rfl (r_0_0 hR) ?_
  refine xr_iconst (v := oI 1) (xd dX11_startAnew 7 rfl) (by decide) ?_
  refine zr_aaload (b := 75) 4 (xd dX11_startAnew 8 rfl) (lt491 hn (by decide)) (by decide) (by decide) kd_1 ln_1 (by decide) ⟨by decide, by decide⟩ (r_1_1 hR) ?_
  refine xr_callV mX4_empty 0 [] (xd dX11_startAnew 9 rfl) l11_214 kX4_empty rfl (lt491 hn (rows_lt0 (Or.inr (Or.inl rfl) : iRows 75))) (rows_kd (Or.inr (Or.inl rfl) : iRows 75)).1 (by decide) rfl (by decide) (Nat.le_of_ble_eq_true rfl) (v_X4_empty hn hR (Or.inr (Or.inl rfl) : iRows 75) h) (by decide) (by decide) (fun r_ M_ h_ => ?_) (fun _ _ h_ => h_.elim)
  obtain ⟨J5, L6, rfl, rfl, h⟩ := h_
  show xJ _ _ _ _ _ _ _ _ _ 18 [(0, .ref 0), (1, .int (oI p1)), (2, .int (oI p2))] [] _ _ _ (zi J5) (li L6)
  refine xr_aload_n (xd dX11_startAnew 10 rfl) 0 rfl ?_
  refine xr_getR (b := 2) 11 1 (xd dX11_startAnew 11 rfl) f11_17 (by decide) (by decide) (lt491 hn (by decide)) kd_0 rfl (r_0_1 hR) ?_
  refine xr_iconst (v := oI 0) (xd dX11_startAnew 12 rfl) (by decide) ?_
  refine zr_aaload (b := 139) 5 (xd dX11_startAnew 13 rfl) (lt491 hn (by decide)) (by decide) (by decide) kd_2 ln_2 (by decide) ⟨by decide, by decide⟩ (r_2_0 hR) ?_
  refine xr_iload_n (xd dX11_startAnew 14 rfl) 2 rfl ?_
  refine xr_iconst (v := oI 0) (xd dX11_startAnew 15 rfl) (by decide) ?_
  refine xr_iload_n (xd dX11_startAnew 16 rfl) 1 rfl ?_
  refine xr_iconst (v := oI 2) (xd dX11_startAnew 17 rfl) (by decide) ?_
  refine zr_iand (xd dX11_startAnew 18 rfl) ?_
  replace h := h (fun (x8 : Int) (J9 : zM) (L10 : yM) => xJ (xGm b dC dI cA ts) l mX11_startAnew 0 0 (zQ0 n R Q) (fun _ _ => False) 0 0 37 [(0, .ref 0), (1, .int (oI p1)), (2, .int (oI p2))] [.int (oI x8), .int (oI 0), .int (oI p2), .ref 139] al n R (zi J9) (li L10)) (by
    intro x8 J9 L10 h
    show xJ _ _ _ _ _ _ _ _ _ 37 [(0, .ref 0), (1, .int (oI p1)), (2, .int (oI p2))] [.int (oI x8), .int (oI 0), .int (oI p2), .ref 139] _ _ _ _ _
    refine xr_callV mX8_startAnew 3 [.int (oI p2), .int (oI 0), .int (oI x8)] (xd dX11_startAnew 23 rfl) l11_217 kX8_startAnew rfl (lt491 hn (by decide)) (kdS_0 (Or.inl rfl : iSide 139)) (by decide) rfl (by decide) (Nat.le_of_ble_eq_true rfl) (v_X8_startAnew hn hR (Or.inl rfl : iSide 139) h) (by decide) (by decide) (fun r_ M_ h_ => ?_) (fun _ _ h_ => h_.elim)
    obtain ⟨J12, L13, rfl, rfl, h⟩ := h_
    show xJ _ _ _ _ _ _ _ _ _ 40 [(0, .ref 0), (1, .int (oI p1)), (2, .int (oI p2))] [] _ _ _ (zi J12) (li L13)
    refine xr_aload_n (xd dX11_startAnew 24 rfl) 0 rfl ?_
    refine xr_getR (b := 2) 11 1 (xd dX11_startAnew 25 rfl) f11_17 (by decide) (by decide) (lt491 hn (by decide)) kd_0 rfl (r_0_1 hR) ?_
    refine xr_iconst (v := oI 1) (xd dX11_startAnew 26 rfl) (by decide) ?_
    refine zr_aaload (b := 315) 5 (xd dX11_startAnew 27 rfl) (lt491 hn (by decide)) (by decide) (by decide) kd_2 ln_2 (by decide) ⟨by decide, by decide⟩ (r_2_1 hR) ?_
    refine xr_iload_n (xd dX11_startAnew 28 rfl) 2 rfl ?_
    refine xr_iload_n (xd dX11_startAnew 29 rfl) 1 rfl ?_
    refine xr_iconst (v := oI 1) (xd dX11_startAnew 30 rfl) (by decide) ?_
    refine zr_iand (xd dX11_startAnew 31 rfl) ?_
    replace h := h (fun (x15 : Int) (J16 : zM) (L17 : yM) => xJ (xGm b dC dI cA ts) l mX11_startAnew 0 0 (zQ0 n R Q) (fun _ _ => False) 0 0 58 [(0, .ref 0), (1, .int (oI p1))] [.int (oI x15), .int (oI p2), .ref 315] al n R (zi J16) (li L17)) (by
      intro x15 J16 L17 h
      show xJ _ _ _ _ _ _ _ _ _ 58 [(0, .ref 0), (1, .int (oI p1))] [.int (oI x15), .int (oI p2), .ref 315] _ _ _ _ _
      refine xr_iload_n (xd dX11_startAnew 36 rfl) 1 rfl ?_
      refine xr_iconst (v := oI 4) (xd dX11_startAnew 37 rfl) (by decide) ?_
      refine zr_iand (xd dX11_startAnew 38 rfl) ?_
      replace h := h (fun (x19 : Int) (J20 : zM) (L21 : yM) => xJ (xGm b dC dI cA ts) l mX11_startAnew 0 0 (zQ0 n R Q) (fun _ _ => False) 0 0 69 [(0, .ref 0)] [.int (oI x19), .int (oI x15), .int (oI p2), .ref 315] al n R (zi J20) (li L21)) (by
        intro x19 J20 L21 h
        show xJ _ _ _ _ _ _ _ _ _ 69 [(0, .ref 0)] [.int (oI x19), .int (oI x15), .int (oI p2), .ref 315] _ _ _ _ _
        refine xr_callV mX8_startAnew 3 [.int (oI p2), .int (oI x15), .int (oI x19)] (xd dX11_startAnew 43 rfl) l11_217 kX8_startAnew rfl (lt491 hn (by decide)) (kdS_0 (Or.inr rfl : iSide 315)) (by decide) rfl (by decide) (Nat.le_of_ble_eq_true rfl) (v_X8_startAnew hn hR (Or.inr rfl : iSide 315) h) (by decide) (by decide) (fun r_ M_ h_ => ?_) (fun _ _ h_ => h_.elim)
        obtain ⟨J23, L24, rfl, rfl, h⟩ := h_
        show xJ _ _ _ _ _ _ _ _ _ 72 [(0, .ref 0)] [] _ _ _ (zi J23) (li L24)
        refine xr_aload_n (xd dX11_startAnew 44 rfl) 0 rfl ?_
        refine xr_iconst (v := oI 0) (xd dX11_startAnew 45 rfl) (by decide) ?_
        obtain ⟨J25, e_J25⟩ : ∃ z_ : zM, z_ = zs J23 0 4 0 := ⟨_, rfl⟩
        replace h := h J25 e_J25
        refine zr_putI 11 4 4 rfl e_J25 (xd dX11_startAnew 46 rfl) f11_81 (by decide) (by decide) (lt491 hn (by decide)) kd_0 (Or.inl rfl) rfl rfl (fun _ => rfl) ?_
        refine xr_aload_n (xd dX11_startAnew 47 rfl) 0 rfl ?_
        refine xr_iconst (v := oI 0) (xd dX11_startAnew 48 rfl) (by decide) ?_
        obtain ⟨J26, e_J26⟩ : ∃ z_ : zM, z_ = zs J25 0 5 0 := ⟨_, rfl⟩
        replace h := h J26 e_J26
        refine zr_putI 11 5 5 rfl e_J26 (xd dX11_startAnew 49 rfl) f11_140 (by decide) (by decide) (lt491 hn (by decide)) kd_0 (Or.inl rfl) rfl rfl (fun _ => rfl) ?_
        exact xr_vret (xd dX11_startAnew 50 rfl) rfl (by decide) (by decide) (fun _ => rfl) ⟨_, _, rfl, rfl, h⟩)
      refine zr_if_eq 68 (xd dX11_startAnew 39 rfl) (by decide) (R32_of _) (fun c27 => ?_) (fun c27 => ?_)
      · replace h := ifp h c27
        refine xr_iconst (v := oI 0) (xd dX11_startAnew 42 rfl) (by decide) ?_
        refine xJ.pick (ls' := [(0, .ref 0)]) [0] rfl ?_
        exact h
      · replace h := ifn h c27
        refine xr_iconst (v := oI 1) (xd dX11_startAnew 40 rfl) (by decide) ?_
        refine xr_goto 69 (xd dX11_startAnew 41 rfl) (by decide) ?_
        refine xJ.pick (ls' := [(0, .ref 0)]) [0] rfl ?_
        exact h)
    refine zr_if_eq 57 (xd dX11_startAnew 32 rfl) (by decide) (R32_of _) (fun c28 => ?_) (fun c28 => ?_)
    · replace h := ifp h c28
      refine xr_iconst (v := oI 0) (xd dX11_startAnew 35 rfl) (by decide) ?_
      refine xJ.pick (ls' := [(0, .ref 0), (1, .int (oI p1))]) [0, 1] rfl ?_
      exact h
    · replace h := ifn h c28
      refine xr_iconst (v := oI 1) (xd dX11_startAnew 33 rfl) (by decide) ?_
      refine xr_goto 58 (xd dX11_startAnew 34 rfl) (by decide) ?_
      refine xJ.pick (ls' := [(0, .ref 0), (1, .int (oI p1))]) [0, 1] rfl ?_
      exact h)
  refine zr_if_eq 36 (xd dX11_startAnew 19 rfl) (by decide) (R32_of _) (fun c29 => ?_) (fun c29 => ?_)
  · replace h := ifp h c29
    refine xr_iconst (v := oI 0) (xd dX11_startAnew 22 rfl) (by decide) ?_
    exact h
  · replace h := ifn h c29
    refine xr_iconst (v := oI 1) (xd dX11_startAnew 20 rfl) (by decide) ?_
    refine xr_goto 37 (xd dX11_startAnew 21 rfl) (by decide) ?_
    exact h
def w_X11_make (p1 : Int) (p2 : Int) (J : zM) (L : yM) (Q : zM → yM → Prop) (X : String → zM → yM → Prop) : Prop := R32 p1 ∧ (if p1 < 0 then X "java/lang/IllegalArgumentException" J L else (if 7 < p1 then X "java/lang/IllegalArgumentException" J L else R32 p2 ∧ (if p2 < 100 then X "java/lang/IllegalArgumentException" J L else (if 500 < p2 then X "java/lang/IllegalArgumentException" J L else w_X11_startAnew p1 p2 J L (fun J7 L8 => Q J7 L8)))))
set_option maxHeartbeats 4000000 in
set_option maxRecDepth 100000 in
theorem v_X11_make {b : Nat} {dC : Nat → ClassId} {dI : Nat → Nat → Nat} {cA : Nat → ClassId} {ts : Nat → Nat} {l : Launch} {n : Nat} {R : Nat → Nat → Option Nat} (hst : l.stackTraces = false) (hn : 491 ≤ n) (hR : xRk R) {p1 : Int} {p2 : Int}  {J : zM} {L : yM} {Q : zM → yM → Prop} {X : String → zM → yM → Prop} (h : w_X11_make p1 p2 J L Q X) : xCn (xGm b dC dI cA ts) l mX11_make [.ref 0, .int (oI p1), .int (oI p2)] false (n, R, zi J, li L) 1 6 (zQ0 n R Q) (zQx n R X) := by
  refine xCn.ofJ (by decide) (Nat.le_of_ble_eq_true rfl) ?_
  show xJ _ _ _ _ _ _ _ _ _ 0 [(0, .ref 0), (1, .int (oI p1)), (2, .int (oI p2))] [] _ _ _ _ _
  unfold w_X11_make at h
  refine xr_iload_n (xd dX11_make 0 rfl) 1 rfl ?_
  obtain ⟨o1, h⟩ := h
  refine zr_if_lt 10 (xd dX11_make 1 rfl) (by decide) o1 (fun c2 => ?_) (fun c2 => ?_)
  · replace h := ifp h c2
    exact xr_throw hst 0 kT_11_44_48 (by decide) rfl (xd dX11_make 5 rfl) (xd dX11_make 6 rfl) (xd dX11_make 7 rfl) (xd dX11_make 8 rfl) (xd dX11_make 9 rfl) (Nat.le_of_ble_eq_true rfl |> fun q => ⟨q, Nat.le_of_ble_eq_true rfl⟩) (by decide) (by decide) ⟨_, _, rfl, h⟩
  · replace h := ifn h c2
    refine xr_iload_n (xd dX11_make 2 rfl) 1 rfl ?_
    refine xr_bipush (v := oI 7) (xd dX11_make 3 rfl) (by decide) ?_
    refine zr_icmp_le 20 (xd dX11_make 4 rfl) (by decide) o1 (by decide) (fun c3 => ?_) (fun c3 => ?_)
    · replace h := ifn h c3
      refine xr_iload_n (xd dX11_make 10 rfl) 2 rfl ?_
      refine xr_bipush (v := oI 100) (xd dX11_make 11 rfl) (by decide) ?_
      obtain ⟨o4, h⟩ := h
      refine zr_icmp_lt 33 (xd dX11_make 12 rfl) (by decide) o4 (by decide) (fun c5 => ?_) (fun c5 => ?_)
      · replace h := ifp h c5
        exact xr_throw hst 1 kT_11_44_48 (by decide) rfl (xd dX11_make 16 rfl) (xd dX11_make 17 rfl) (xd dX11_make 18 rfl) (xd dX11_make 19 rfl) (xd dX11_make 20 rfl) (Nat.le_of_ble_eq_true rfl |> fun q => ⟨q, Nat.le_of_ble_eq_true rfl⟩) (by decide) (by decide) ⟨_, _, rfl, h⟩
      · replace h := ifn h c5
        refine xr_iload_n (xd dX11_make 13 rfl) 2 rfl ?_
        refine xr_sipush (v := oI 500) (xd dX11_make 14 rfl) (by decide) ?_
        refine zr_icmp_le 43 (xd dX11_make 15 rfl) (by decide) o4 (by decide) (fun c6 => ?_) (fun c6 => ?_)
        · replace h := ifn h c6
          refine xr_aload_n (xd dX11_make 21 rfl) 0 rfl ?_
          refine xr_iload_n (xd dX11_make 22 rfl) 1 rfl ?_
          refine xr_iload_n (xd dX11_make 23 rfl) 2 rfl ?_
          refine xr_callV mX11_startAnew 2 [.int (oI p1), .int (oI p2)] (xd dX11_make 24 rfl) l11_41 kX11_startAnew rfl (lt491 hn (by decide)) kd_0 (by decide) rfl (by decide) (Nat.le_of_ble_eq_true rfl) (v_X11_startAnew hn hR  h) (by decide) (by decide) (fun r_ M_ h_ => ?_) (fun _ _ h_ => h_.elim)
          obtain ⟨J7, L8, rfl, rfl, h⟩ := h_
          show xJ _ _ _ _ _ _ _ _ _ 49 [(0, .ref 0), (1, .int (oI p1)), (2, .int (oI p2))] [] _ _ _ (zi J7) (li L8)
          exact xr_vret (xd dX11_make 25 rfl) rfl (by decide) (by decide) (fun q => by cases q) ⟨_, _, rfl, rfl, h⟩
        · replace h := ifp h c6
          exact xr_throw hst 1 kT_11_44_48 (by decide) rfl (xd dX11_make 16 rfl) (xd dX11_make 17 rfl) (xd dX11_make 18 rfl) (xd dX11_make 19 rfl) (xd dX11_make 20 rfl) (Nat.le_of_ble_eq_true rfl |> fun q => ⟨q, Nat.le_of_ble_eq_true rfl⟩) (by decide) (by decide) ⟨_, _, rfl, h⟩
    · replace h := ifp h c3
      exact xr_throw hst 0 kT_11_44_48 (by decide) rfl (xd dX11_make 5 rfl) (xd dX11_make 6 rfl) (xd dX11_make 7 rfl) (xd dX11_make 8 rfl) (xd dX11_make 9 rfl) (Nat.le_of_ble_eq_true rfl |> fun q => ⟨q, Nat.le_of_ble_eq_true rfl⟩) (by decide) (by decide) ⟨_, _, rfl, h⟩
def w_X11_checkSide (p1 : Int) (J : zM) (L : yM) (Q : zM → yM → Prop) (X : String → zM → yM → Prop) : Prop := R32 p1 ∧ (if p1 = 0 then Q J L else (if p1 = 1 then Q J L else X "java/lang/IndexOutOfBoundsException" J L))
set_option maxHeartbeats 4000000 in
set_option maxRecDepth 100000 in
theorem v_X11_checkSide {b : Nat} {dC : Nat → ClassId} {dI : Nat → Nat → Nat} {cA : Nat → ClassId} {ts : Nat → Nat} {l : Launch} {n : Nat} {R : Nat → Nat → Option Nat} (hst : l.stackTraces = false) (hn : 491 ≤ n) (hR : xRk R) {p1 : Int}  {J : zM} {L : yM} {Q : zM → yM → Prop} {X : String → zM → yM → Prop} (h : w_X11_checkSide p1 J L Q X) : xCn (xGm b dC dI cA ts) l mX11_checkSide [.ref 0, .int (oI p1)] false (n, R, zi J, li L) 1 6 (zQ0 n R Q) (zQx n R X) := by
  refine xCn.ofJ (by decide) (Nat.le_of_ble_eq_true rfl) ?_
  show xJ _ _ _ _ _ _ _ _ _ 0 [(0, .ref 0), (1, .int (oI p1))] [] _ _ _ _ _
  unfold w_X11_checkSide at h
  refine xr_iload_n (xd dX11_checkSide 0 rfl) 1 rfl ?_
  obtain ⟨o1, h⟩ := h
  refine zr_if_eq 19 (xd dX11_checkSide 1 rfl) (by decide) o1 (fun c2 => ?_) (fun c2 => ?_)
  · replace h := ifp h c2
    exact xr_vret (xd dX11_checkSide 10 rfl) rfl (by decide) (by decide) (fun q => by cases q) ⟨_, _, rfl, rfl, h⟩
  · replace h := ifn h c2
    refine xr_iload_n (xd dX11_checkSide 2 rfl) 1 rfl ?_
    refine xr_iconst (v := oI 1) (xd dX11_checkSide 3 rfl) (by decide) ?_
    refine zr_icmp_eq 19 (xd dX11_checkSide 4 rfl) (by decide) o1 (by decide) (fun c3 => ?_) (fun c3 => ?_)
    · replace h := ifp h c3
      exact xr_vret (xd dX11_checkSide 10 rfl) rfl (by decide) (by decide) (fun q => by cases q) ⟨_, _, rfl, rfl, h⟩
    · replace h := ifn h c3
      exact xr_throw hst 2 kT_11_187_191 (by decide) rfl (xd dX11_checkSide 5 rfl) (xd dX11_checkSide 6 rfl) (xd dX11_checkSide 7 rfl) (xd dX11_checkSide 8 rfl) (xd dX11_checkSide 9 rfl) (Nat.le_of_ble_eq_true rfl |> fun q => ⟨q, Nat.le_of_ble_eq_true rfl⟩) (by decide) (by decide) ⟨_, _, rfl, h⟩
def w_X11_checkNotBegun  (J : zM) (L : yM) (Q : zM → yM → Prop) (X : String → zM → yM → Prop) : Prop := R32 (J 139 12) ∧ (if (J 139 12) = 0 then Q J L else X "java/lang/IllegalStateException" J L)
set_option maxHeartbeats 4000000 in
set_option maxRecDepth 100000 in
theorem v_X11_checkNotBegun {b : Nat} {dC : Nat → ClassId} {dI : Nat → Nat → Nat} {cA : Nat → ClassId} {ts : Nat → Nat} {l : Launch} {n : Nat} {R : Nat → Nat → Option Nat} (hst : l.stackTraces = false) (hn : 491 ≤ n) (hR : xRk R)   {J : zM} {L : yM} {Q : zM → yM → Prop} {X : String → zM → yM → Prop} (h : w_X11_checkNotBegun  J L Q X) : xCn (xGm b dC dI cA ts) l mX11_checkNotBegun [.ref 0] false (n, R, zi J, li L) 1 6 (zQ0 n R Q) (zQx n R X) := by
  refine xCn.ofJ (by decide) (Nat.le_of_ble_eq_true rfl) ?_
  show xJ _ _ _ _ _ _ _ _ _ 0 [(0, .ref 0)] [] _ _ _ _ _
  unfold w_X11_checkNotBegun at h
  refine xr_aload_n (xd dX11_checkNotBegun 0 rfl) 0 rfl ?_
  refine xr_getR (b := 2) 11 1 (xd dX11_checkNotBegun 1 rfl) f11_17 (by decide) (by decide) (lt491 hn (by decide)) kd_0 rfl (r_0_1 hR) ?_
  refine xr_iconst (v := oI 0) (xd dX11_checkNotBegun 2 rfl) (by decide) ?_
  refine zr_aaload (b := 139) 5 (xd dX11_checkNotBegun 3 rfl) (lt491 hn (by decide)) (by decide) (by decide) kd_2 ln_2 (by decide) ⟨by decide, by decide⟩ (r_2_0 hR) ?_
  refine zr_getI 8 12 12 rfl (xd dX11_checkNotBegun 4 rfl) f11_134 (by decide) (by decide) (lt491 hn (by decide)) (kdS_0 (Or.inl rfl : iSide 139)) rfl ?_
  obtain ⟨o2, h⟩ := h
  refine zr_if_eq 23 (xd dX11_checkNotBegun 5 rfl) (by decide) o2 (fun c3 => ?_) (fun c3 => ?_)
  · replace h := ifp h c3
    exact xr_vret (xd dX11_checkNotBegun 11 rfl) rfl (by decide) (by decide) (fun q => by cases q) ⟨_, _, rfl, rfl, h⟩
  · replace h := ifn h c3
    exact xr_throwW hst 3 kT_11_258_262 (by decide) rfl (xd dX11_checkNotBegun 6 rfl) (xd dX11_checkNotBegun 7 rfl) (xd dX11_checkNotBegun 8 rfl) (xd dX11_checkNotBegun 9 rfl) (xd dX11_checkNotBegun 10 rfl) (Nat.le_of_ble_eq_true rfl |> fun q => ⟨q, Nat.le_of_ble_eq_true rfl⟩) (by decide) (by decide) ⟨_, _, rfl, h⟩
def w_X11_key (p1 : Int) (p2 : Int64) (p3 : Int64) (J : zM) (L : yM) (Q : zM → yM → Prop) (X : String → zM → yM → Prop) : Prop := w_X11_checkSide p1 J L (fun J1 L2 => w_X11_checkNotBegun J1 L2 (fun J3 L4 => ((0 : Int) ≤ p1 ∧ p1 < 2) ∧ w_X11_putLong p2 ((sd p1) + 2) 0 J3 L4 (fun J7 L8 => ((0 : Int) ≤ p1 ∧ p1 < 2) ∧ w_X11_putLong p3 ((sd p1) + 2) 8 J7 L8 (fun J11 L12 => Q J11 L12))) X) X
set_option maxHeartbeats 4000000 in
set_option maxRecDepth 100000 in
theorem v_X11_key {b : Nat} {dC : Nat → ClassId} {dI : Nat → Nat → Nat} {cA : Nat → ClassId} {ts : Nat → Nat} {l : Launch} {n : Nat} {R : Nat → Nat → Option Nat} (hst : l.stackTraces = false) (hn : 491 ≤ n) (hR : xRk R) {p1 : Int} {p2 : Int64} {p3 : Int64}  {J : zM} {L : yM} {Q : zM → yM → Prop} {X : String → zM → yM → Prop} (h : w_X11_key p1 p2 p3 J L Q X) : xCn (xGm b dC dI cA ts) l mX11_key [.ref 0, .int (oI p1), .long p2, .long p3] false (n, R, zi J, li L) 2 12 (zQ0 n R Q) (zQx n R X) := by
  refine xCn.ofJ (by decide) (Nat.le_of_ble_eq_true rfl) ?_
  show xJ _ _ _ _ _ _ _ _ _ 0 [(0, .ref 0), (1, .int (oI p1)), (2, .long p2), (4, .long p3)] [] _ _ _ _ _
  unfold w_X11_key at h
  refine xr_aload_n (xd dX11_key 0 rfl) 0 rfl ?_
  refine xr_iload_n (xd dX11_key 1 rfl) 1 rfl ?_
  refine xr_callV mX11_checkSide 1 [.int (oI p1)] (xd dX11_key 2 rfl) l11_53 kX11_checkSide rfl (lt491 hn (by decide)) kd_0 (by decide) rfl (by decide) (Nat.le_of_ble_eq_true rfl) (v_X11_checkSide hst hn hR  h) (by decide) (by decide) (fun r_ M_ h_ => ?_) (fun _ _ h_ => h_)
  obtain ⟨J1, L2, rfl, rfl, h⟩ := h_
  show xJ _ _ _ _ _ _ _ _ _ 5 [(0, .ref 0), (1, .int (oI p1)), (2, .long p2), (4, .long p3)] [] _ _ _ (zi J1) (li L2)
  refine xr_aload_n (xd dX11_key 3 rfl) 0 rfl ?_
  refine xr_callV mX11_checkNotBegun 0 [] (xd dX11_key 4 rfl) l11_57 kX11_checkNotBegun rfl (lt491 hn (by decide)) kd_0 (by decide) rfl (by decide) (Nat.le_of_ble_eq_true rfl) (v_X11_checkNotBegun hst hn hR  h) (by decide) (by decide) (fun r_ M_ h_ => ?_) (fun _ _ h_ => h_)
  obtain ⟨J3, L4, rfl, rfl, h⟩ := h_
  show xJ _ _ _ _ _ _ _ _ _ 9 [(0, .ref 0), (1, .int (oI p1)), (2, .long p2), (4, .long p3)] [] _ _ _ (zi J3) (li L4)
  refine xr_lload_n (xd dX11_key 5 rfl) 2 rfl ?_
  refine xr_aload_n (xd dX11_key 6 rfl) 0 rfl ?_
  refine xr_getR (b := 2) 11 1 (xd dX11_key 7 rfl) f11_17 (by decide) (by decide) (lt491 hn (by decide)) kd_0 rfl (r_0_1 hR) ?_
  refine xr_iload_n (xd dX11_key 8 rfl) 1 rfl ?_
  obtain ⟨o5, h⟩ := h
  refine zr_aaload (b := (sd p1)) 5 (xd dX11_key 9 rfl) (lt491 hn (by decide)) (by decide) (by decide) kd_2 ln_2 (by decide) o5 (sdI hR o5) ?_
  refine xr_getR (b := ((sd p1) + 1)) 8 1 (xd dX11_key 10 rfl) f11_60 (by decide) (by decide) (lt491 hn (ltS0 (sd_he o5))) (kdS_0 (sd_he o5)) rfl (rS_0_1 hR (sd_he o5)) ?_
  refine xr_getR (b := ((sd p1) + 2)) 9 0 (xd dX11_key 11 rfl) f11_64 (by decide) (by decide) (lt491 hn (ltS (sd_he o5) (by decide))) (kdS_1 (sd_he o5)) rfl (rS_1_0 hR (sd_he o5)) ?_
  refine xr_iconst (v := oI 0) (xd dX11_key 12 rfl) (by decide) ?_
  refine xr_callS mX11_putLong 3 [.long p2, .ref ((sd p1) + 2), .int (oI 0)] (xd dX11_key 13 rfl) l11_69 kX11_putLong rfl rfl (by decide) (Nat.le_of_ble_eq_true rfl) (v_X11_putLong hn hR (za_mk (kdS_2 (sd_he o5)) (ltS (sd_he o5) (by decide))) h) (by decide) (by decide) (fun r_ M_ h_ => ?_) (fun _ _ h_ => h_.elim)
  obtain ⟨J7, L8, rfl, rfl, h⟩ := h_
  show xJ _ _ _ _ _ _ _ _ _ 26 [(0, .ref 0), (1, .int (oI p1)), (2, .long p2), (4, .long p3)] [] _ _ _ (zi J7) (li L8)
  refine xr_lload (xd dX11_key 14 rfl) 3 rfl ?_
  refine xr_aload_n (xd dX11_key 15 rfl) 0 rfl ?_
  refine xr_getR (b := 2) 11 1 (xd dX11_key 16 rfl) f11_17 (by decide) (by decide) (lt491 hn (by decide)) kd_0 rfl (r_0_1 hR) ?_
  refine xr_iload_n (xd dX11_key 17 rfl) 1 rfl ?_
  obtain ⟨o9, h⟩ := h
  refine zr_aaload (b := (sd p1)) 5 (xd dX11_key 18 rfl) (lt491 hn (by decide)) (by decide) (by decide) kd_2 ln_2 (by decide) o9 (sdI hR o9) ?_
  refine xr_getR (b := ((sd p1) + 1)) 8 1 (xd dX11_key 19 rfl) f11_60 (by decide) (by decide) (lt491 hn (ltS0 (sd_he o9))) (kdS_0 (sd_he o9)) rfl (rS_0_1 hR (sd_he o9)) ?_
  refine xr_getR (b := ((sd p1) + 2)) 9 0 (xd dX11_key 20 rfl) f11_64 (by decide) (by decide) (lt491 hn (ltS (sd_he o9) (by decide))) (kdS_1 (sd_he o9)) rfl (rS_1_0 hR (sd_he o9)) ?_
  refine xr_bipush (v := oI 8) (xd dX11_key 21 rfl) (by decide) ?_
  refine xr_callS mX11_putLong 3 [.long p3, .ref ((sd p1) + 2), .int (oI 8)] (xd dX11_key 22 rfl) l11_69 kX11_putLong rfl rfl (by decide) (Nat.le_of_ble_eq_true rfl) (v_X11_putLong hn hR (za_mk (kdS_2 (sd_he o9)) (ltS (sd_he o9) (by decide))) h) (by decide) (by decide) (fun r_ M_ h_ => ?_) (fun _ _ h_ => h_.elim)
  obtain ⟨J11, L12, rfl, rfl, h⟩ := h_
  show xJ _ _ _ _ _ _ _ _ _ 45 [(0, .ref 0), (1, .int (oI p1)), (2, .long p2), (4, .long p3)] [] _ _ _ (zi J11) (li L12)
  exact xr_vret (xd dX11_key 23 rfl) rfl (by decide) (by decide) (fun q => by cases q) ⟨_, _, rfl, rfl, h⟩
def w_X11_name (p1 : Int) (p2 : Int64) (p3 : Int64) (J : zM) (L : yM) (Q : zM → yM → Prop) (X : String → zM → yM → Prop) : Prop := w_X11_checkSide p1 J L (fun J1 L2 => w_X11_checkNotBegun J1 L2 (fun J3 L4 => ((0 : Int) ≤ p1 ∧ p1 < 2) ∧ w_X11_putLong p2 ((sd p1) + 3) 0 J3 L4 (fun J7 L8 => ((0 : Int) ≤ p1 ∧ p1 < 2) ∧ w_X11_putLong p3 ((sd p1) + 4) 0 J7 L8 (fun J11 L12 => Q J11 L12))) X) X
set_option maxHeartbeats 4000000 in
set_option maxRecDepth 100000 in
theorem v_X11_name {b : Nat} {dC : Nat → ClassId} {dI : Nat → Nat → Nat} {cA : Nat → ClassId} {ts : Nat → Nat} {l : Launch} {n : Nat} {R : Nat → Nat → Option Nat} (hst : l.stackTraces = false) (hn : 491 ≤ n) (hR : xRk R) {p1 : Int} {p2 : Int64} {p3 : Int64}  {J : zM} {L : yM} {Q : zM → yM → Prop} {X : String → zM → yM → Prop} (h : w_X11_name p1 p2 p3 J L Q X) : xCn (xGm b dC dI cA ts) l mX11_name [.ref 0, .int (oI p1), .long p2, .long p3] false (n, R, zi J, li L) 2 12 (zQ0 n R Q) (zQx n R X) := by
  refine xCn.ofJ (by decide) (Nat.le_of_ble_eq_true rfl) ?_
  show xJ _ _ _ _ _ _ _ _ _ 0 [(0, .ref 0), (1, .int (oI p1)), (2, .long p2), (4, .long p3)] [] _ _ _ _ _
  unfold w_X11_name at h
  refine xr_aload_n (xd dX11_name 0 rfl) 0 rfl ?_
  refine xr_iload_n (xd dX11_name 1 rfl) 1 rfl ?_
  refine xr_callV mX11_checkSide 1 [.int (oI p1)] (xd dX11_name 2 rfl) l11_53 kX11_checkSide rfl (lt491 hn (by decide)) kd_0 (by decide) rfl (by decide) (Nat.le_of_ble_eq_true rfl) (v_X11_checkSide hst hn hR  h) (by decide) (by decide) (fun r_ M_ h_ => ?_) (fun _ _ h_ => h_)
  obtain ⟨J1, L2, rfl, rfl, h⟩ := h_
  show xJ _ _ _ _ _ _ _ _ _ 5 [(0, .ref 0), (1, .int (oI p1)), (2, .long p2), (4, .long p3)] [] _ _ _ (zi J1) (li L2)
  refine xr_aload_n (xd dX11_name 3 rfl) 0 rfl ?_
  refine xr_callV mX11_checkNotBegun 0 [] (xd dX11_name 4 rfl) l11_57 kX11_checkNotBegun rfl (lt491 hn (by decide)) kd_0 (by decide) rfl (by decide) (Nat.le_of_ble_eq_true rfl) (v_X11_checkNotBegun hst hn hR  h) (by decide) (by decide) (fun r_ M_ h_ => ?_) (fun _ _ h_ => h_)
  obtain ⟨J3, L4, rfl, rfl, h⟩ := h_
  show xJ _ _ _ _ _ _ _ _ _ 9 [(0, .ref 0), (1, .int (oI p1)), (2, .long p2), (4, .long p3)] [] _ _ _ (zi J3) (li L4)
  refine xr_lload_n (xd dX11_name 5 rfl) 2 rfl ?_
  refine xr_aload_n (xd dX11_name 6 rfl) 0 rfl ?_
  refine xr_getR (b := 2) 11 1 (xd dX11_name 7 rfl) f11_17 (by decide) (by decide) (lt491 hn (by decide)) kd_0 rfl (r_0_1 hR) ?_
  refine xr_iload_n (xd dX11_name 8 rfl) 1 rfl ?_
  obtain ⟨o5, h⟩ := h
  refine zr_aaload (b := (sd p1)) 5 (xd dX11_name 9 rfl) (lt491 hn (by decide)) (by decide) (by decide) kd_2 ln_2 (by decide) o5 (sdI hR o5) ?_
  refine xr_getR (b := ((sd p1) + 1)) 8 1 (xd dX11_name 10 rfl) f11_60 (by decide) (by decide) (lt491 hn (ltS0 (sd_he o5))) (kdS_0 (sd_he o5)) rfl (rS_0_1 hR (sd_he o5)) ?_
  refine xr_getR (b := ((sd p1) + 3)) 9 1 (xd dX11_name 11 rfl) f11_73 (by decide) (by decide) (lt491 hn (ltS (sd_he o5) (by decide))) (kdS_1 (sd_he o5)) rfl (rS_1_1 hR (sd_he o5)) ?_
  refine xr_iconst (v := oI 0) (xd dX11_name 12 rfl) (by decide) ?_
  refine xr_callS mX11_putLong 3 [.long p2, .ref ((sd p1) + 3), .int (oI 0)] (xd dX11_name 13 rfl) l11_69 kX11_putLong rfl rfl (by decide) (Nat.le_of_ble_eq_true rfl) (v_X11_putLong hn hR (za_mk (kdS_3 (sd_he o5)) (ltS (sd_he o5) (by decide))) h) (by decide) (by decide) (fun r_ M_ h_ => ?_) (fun _ _ h_ => h_.elim)
  obtain ⟨J7, L8, rfl, rfl, h⟩ := h_
  show xJ _ _ _ _ _ _ _ _ _ 26 [(0, .ref 0), (1, .int (oI p1)), (2, .long p2), (4, .long p3)] [] _ _ _ (zi J7) (li L8)
  refine xr_lload (xd dX11_name 14 rfl) 3 rfl ?_
  refine xr_aload_n (xd dX11_name 15 rfl) 0 rfl ?_
  refine xr_getR (b := 2) 11 1 (xd dX11_name 16 rfl) f11_17 (by decide) (by decide) (lt491 hn (by decide)) kd_0 rfl (r_0_1 hR) ?_
  refine xr_iload_n (xd dX11_name 17 rfl) 1 rfl ?_
  obtain ⟨o9, h⟩ := h
  refine zr_aaload (b := (sd p1)) 5 (xd dX11_name 18 rfl) (lt491 hn (by decide)) (by decide) (by decide) kd_2 ln_2 (by decide) o9 (sdI hR o9) ?_
  refine xr_getR (b := ((sd p1) + 1)) 8 1 (xd dX11_name 19 rfl) f11_60 (by decide) (by decide) (lt491 hn (ltS0 (sd_he o9))) (kdS_0 (sd_he o9)) rfl (rS_0_1 hR (sd_he o9)) ?_
  refine xr_getR (b := ((sd p1) + 4)) 9 2 (xd dX11_name 20 rfl) f11_76 (by decide) (by decide) (lt491 hn (ltS (sd_he o9) (by decide))) (kdS_1 (sd_he o9)) rfl (rS_1_2 hR (sd_he o9)) ?_
  refine xr_iconst (v := oI 0) (xd dX11_name 21 rfl) (by decide) ?_
  refine xr_callS mX11_putLong 3 [.long p3, .ref ((sd p1) + 4), .int (oI 0)] (xd dX11_name 22 rfl) l11_69 kX11_putLong rfl rfl (by decide) (Nat.le_of_ble_eq_true rfl) (v_X11_putLong hn hR (za_mk (kdS_4 (sd_he o9)) (ltS (sd_he o9) (by decide))) h) (by decide) (by decide) (fun r_ M_ h_ => ?_) (fun _ _ h_ => h_.elim)
  obtain ⟨J11, L12, rfl, rfl, h⟩ := h_
  show xJ _ _ _ _ _ _ _ _ _ 44 [(0, .ref 0), (1, .int (oI p1)), (2, .long p2), (4, .long p3)] [] _ _ _ (zi J11) (li L12)
  exact xr_vret (xd dX11_name 23 rfl) rfl (by decide) (by decide) (fun q => by cases q) ⟨_, _, rfl, rfl, h⟩
def w_X11_draft (p1 : Int) (p2 : Int64) (J : zM) (L : yM) (Q : Int → zM → yM → Prop) (X : String → zM → yM → Prop) : Prop := R32 p1 ∧ (if p1 < 1 then X "java/lang/IllegalArgumentException" J L else (if 8 < p1 then X "java/lang/IllegalArgumentException" J L else R32 ((J 0 4) + p1) ∧ (if 500 < ((J 0 4) + p1) then X "java/lang/IllegalArgumentException" J L else zl_z (fun K6 x7 J8 L9 => R32 x7 ∧ R32 p1 ∧ (if x7 < p1 then ((0 : Int) ≤ ((J8 0 4) + x7) ∧ ((J8 0 4) + x7) < 500) ∧ ∀ J15 : zM, J15 = zs J8 5 ((J8 0 4) + x7) (zand (zl2i (yush p2 (8 * x7))) 255) → K6 (x7 + 1) J15 L9 else ∀ J13 : zM, J13 = zs J8 0 4 ((J8 0 4) + p1) → Q (J13 0 4) J13 L9)) 0 J L)))
set_option maxHeartbeats 4000000 in
set_option maxRecDepth 100000 in
theorem v_X11_draft {b : Nat} {dC : Nat → ClassId} {dI : Nat → Nat → Nat} {cA : Nat → ClassId} {ts : Nat → Nat} {l : Launch} {n : Nat} {R : Nat → Nat → Option Nat} (hst : l.stackTraces = false) (hn : 491 ≤ n) (hR : xRk R) {p1 : Int} {p2 : Int64}  {J : zM} {L : yM} {Q : Int → zM → yM → Prop} {X : String → zM → yM → Prop} (h : w_X11_draft p1 p2 J L Q X) : xCn (xGm b dC dI cA ts) l mX11_draft [.ref 0, .int (oI p1), .long p2] false (n, R, zi J, li L) 1 6 (zQ1 n R Q) (zQx n R X) := by
  refine xCn.ofJ (by decide) (Nat.le_of_ble_eq_true rfl) ?_
  show xJ _ _ _ _ _ _ _ _ _ 0 [(0, .ref 0), (1, .int (oI p1)), (2, .long p2)] [] _ _ _ _ _
  unfold w_X11_draft at h
  refine xr_iload_n (xd dX11_draft 0 rfl) 1 rfl ?_
  refine xr_iconst (v := oI 1) (xd dX11_draft 1 rfl) (by decide) ?_
  obtain ⟨o1, h⟩ := h
  refine zr_icmp_lt 11 (xd dX11_draft 2 rfl) (by decide) o1 (by decide) (fun c2 => ?_) (fun c2 => ?_)
  · replace h := ifp h c2
    exact xr_throw hst 4 kT_11_44_48 (by decide) rfl (xd dX11_draft 6 rfl) (xd dX11_draft 7 rfl) (xd dX11_draft 8 rfl) (xd dX11_draft 9 rfl) (xd dX11_draft 10 rfl) (Nat.le_of_ble_eq_true rfl |> fun q => ⟨q, Nat.le_of_ble_eq_true rfl⟩) (by decide) (by decide) ⟨_, _, rfl, h⟩
  · replace h := ifn h c2
    refine xr_iload_n (xd dX11_draft 3 rfl) 1 rfl ?_
    refine xr_bipush (v := oI 8) (xd dX11_draft 4 rfl) (by decide) ?_
    refine zr_icmp_le 21 (xd dX11_draft 5 rfl) (by decide) o1 (by decide) (fun c3 => ?_) (fun c3 => ?_)
    · replace h := ifn h c3
      refine xr_aload_n (xd dX11_draft 11 rfl) 0 rfl ?_
      refine zr_getI 11 4 4 rfl (xd dX11_draft 12 rfl) f11_81 (by decide) (by decide) (lt491 hn (by decide)) kd_0 rfl ?_
      refine xr_iload_n (xd dX11_draft 13 rfl) 1 rfl ?_
      refine zr_iadd (xd dX11_draft 14 rfl) ?_
      refine xr_sipush (v := oI 500) (xd dX11_draft 15 rfl) (by decide) ?_
      obtain ⟨o4, h⟩ := h
      refine zr_icmp_le 43 (xd dX11_draft 16 rfl) (by decide) o4 (by decide) (fun c5 => ?_) (fun c5 => ?_)
      · replace h := ifn h c5
        refine xr_iconst (v := oI 0) (xd dX11_draft 22 rfl) (by decide) ?_
        refine xr_istore [(0, .ref 0), (1, .int (oI p1)), (2, .long p2), (4, .int (oI 0))] (xd dX11_draft 23 rfl) (by decide) rfl ?_
        refine h (fun x7 J8 L9 => xJ (xGm b dC dI cA ts) l mX11_draft 1 6 (zQ1 n R Q) (zQx n R X) 0 0 46 [(0, .ref 0), (1, .int (oI p1)), (2, .long p2), (4, .int (oI x7))] [] false n R (zi J8) (li L9)) ?_
        intro x7 J8 L9 h
        show xJ _ _ _ _ _ _ _ _ _ 46 [(0, .ref 0), (1, .int (oI p1)), (2, .long p2), (4, .int (oI x7))] [] _ _ _ _ _
        refine xr_iload (xd dX11_draft 24 rfl) 3 rfl ?_
        refine xr_iload_n (xd dX11_draft 25 rfl) 1 rfl ?_
        obtain ⟨o10, h⟩ := h
        obtain ⟨o11, h⟩ := h
        refine zr_icmp_ge 82 (xd dX11_draft 26 rfl) (by decide) o10 o11 (fun c12 => ?_) (fun c12 => ?_)
        · replace h := ifn h c12
          refine xr_aload_n (xd dX11_draft 44 rfl) 0 rfl ?_
          refine xr_dup (xd dX11_draft 45 rfl) rfl ?_
          refine zr_getI 11 4 4 rfl (xd dX11_draft 46 rfl) f11_81 (by decide) (by decide) (lt491 hn (by decide)) kd_0 rfl ?_
          refine xr_iload_n (xd dX11_draft 47 rfl) 1 rfl ?_
          refine zr_iadd (xd dX11_draft 48 rfl) ?_
          obtain ⟨J13, e_J13⟩ : ∃ z_ : zM, z_ = zs J8 0 4 ((J8 0 4) + p1) := ⟨_, rfl⟩
          replace h := h J13 e_J13
          refine zr_putI 11 4 4 rfl e_J13 (xd dX11_draft 49 rfl) f11_81 (by decide) (by decide) (lt491 hn (by decide)) kd_0 (Or.inl rfl) rfl rfl (fun _ => rfl) ?_
          refine xr_aload_n (xd dX11_draft 50 rfl) 0 rfl ?_
          refine zr_getI 11 4 4 rfl (xd dX11_draft 51 rfl) f11_81 (by decide) (by decide) (lt491 hn (by decide)) kd_0 rfl ?_
          exact xr_iret (xd dX11_draft 52 rfl) rfl (by decide) (by decide) (fun q => by cases q) ⟨_, _, _, rfl, rfl, h⟩
        · replace h := ifp h c12
          refine xr_aload_n (xd dX11_draft 27 rfl) 0 rfl ?_
          refine xr_getR (b := 5) 11 3 (xd dX11_draft 28 rfl) f11_28 (by decide) (by decide) (lt491 hn (by decide)) kd_0 rfl (r_0_3 hR) ?_
          refine xr_aload_n (xd dX11_draft 29 rfl) 0 rfl ?_
          refine zr_getI 11 4 4 rfl (xd dX11_draft 30 rfl) f11_81 (by decide) (by decide) (lt491 hn (by decide)) kd_0 rfl ?_
          refine xr_iload (xd dX11_draft 31 rfl) 3 rfl ?_
          refine zr_iadd (xd dX11_draft 32 rfl) ?_
          refine xr_lload_n (xd dX11_draft 33 rfl) 2 rfl ?_
          refine xr_bipush (v := oI 8) (xd dX11_draft 34 rfl) (by decide) ?_
          refine xr_iload (xd dX11_draft 35 rfl) 3 rfl ?_
          refine zr_imul (xd dX11_draft 36 rfl) ?_
          refine zr_lushr (xd dX11_draft 37 rfl) ?_
          refine zr_l2i (xd dX11_draft 38 rfl) ?_
          refine xr_sipush (v := oI 255) (xd dX11_draft 39 rfl) (by decide) ?_
          refine zr_iand (xd dX11_draft 40 rfl) ?_
          obtain ⟨o14, h⟩ := h
          obtain ⟨J15, e_J15⟩ : ∃ z_ : zM, z_ = zs J8 5 ((J8 0 4) + x7) (zand (zl2i (yush p2 (8 * x7))) 255) := ⟨_, rfl⟩
          replace h := h J15 e_J15
          refine zr_iastore e_J15 (xd dX11_draft 41 rfl) (lt491 hn (by decide)) kd_5 ln_5 (by decide) o14 ?_
          refine zr_iinc [(0, .ref 0), (1, .int (oI p1)), (2, .long p2), (4, .int (oI (x7 + 1)))] (xd dX11_draft 42 rfl) 3 rfl (by decide) rfl ?_
          refine xr_goto 46 (xd dX11_draft 43 rfl) (by decide) ?_
          exact h
      · replace h := ifp h c5
        exact xr_throw hst 5 kT_11_44_48 (by decide) rfl (xd dX11_draft 17 rfl) (xd dX11_draft 18 rfl) (xd dX11_draft 19 rfl) (xd dX11_draft 20 rfl) (xd dX11_draft 21 rfl) (Nat.le_of_ble_eq_true rfl |> fun q => ⟨q, Nat.le_of_ble_eq_true rfl⟩) (by decide) (by decide) ⟨_, _, rfl, h⟩
    · replace h := ifp h c3
      exact xr_throw hst 4 kT_11_44_48 (by decide) rfl (xd dX11_draft 6 rfl) (xd dX11_draft 7 rfl) (xd dX11_draft 8 rfl) (xd dX11_draft 9 rfl) (xd dX11_draft 10 rfl) (Nat.le_of_ble_eq_true rfl |> fun q => ⟨q, Nat.le_of_ble_eq_true rfl⟩) (by decide) (by decide) ⟨_, _, rfl, h⟩
def w_X11_greet  (J : zM) (L : yM) (Q : Int → zM → yM → Prop) (X : String → zM → yM → Prop) : Prop := w_X11_checkNotBegun J L (fun J1 L2 => R32 (J1 0 4) ∧ (if 150 < (J1 0 4) then X "java/lang/IllegalArgumentException" J1 L2 else ((0 : Int) ≤ 0 ∧ (0 : Int) ≤ 0 ∧ (0 : Int) ≤ (J1 0 4) ∧ (0 + (J1 0 4) : Int) ≤ 500 ∧ (0 + (J1 0 4) : Int) ≤ 150) ∧ ∀ J7 : zM, J7 = zcp J1 5 0 320 0 (J1 0 4) → ∀ J8 : zM, J8 = zs J7 316 4 (J7 0 4) → ∀ J9 : zM, J9 = zs J8 0 4 0 → Q (J9 316 4) J9 L2)) X
set_option maxHeartbeats 4000000 in
set_option maxRecDepth 100000 in
theorem v_X11_greet {b : Nat} {dC : Nat → ClassId} {dI : Nat → Nat → Nat} {cA : Nat → ClassId} {ts : Nat → Nat} {l : Launch} {n : Nat} {R : Nat → Nat → Option Nat} (hst : l.stackTraces = false) (hn : 491 ≤ n) (hR : xRk R)   {J : zM} {L : yM} {Q : Int → zM → yM → Prop} {X : String → zM → yM → Prop} (h : w_X11_greet  J L Q X) : xCn (xGm b dC dI cA ts) l mX11_greet [.ref 0] false (n, R, zi J, li L) 2 12 (zQ1 n R Q) (zQx n R X) := by
  refine xCn.ofJ (by decide) (Nat.le_of_ble_eq_true rfl) ?_
  show xJ _ _ _ _ _ _ _ _ _ 0 [(0, .ref 0)] [] _ _ _ _ _
  unfold w_X11_greet at h
  refine xr_aload_n (xd dX11_greet 0 rfl) 0 rfl ?_
  refine xr_callV mX11_checkNotBegun 0 [] (xd dX11_greet 1 rfl) l11_57 kX11_checkNotBegun rfl (lt491 hn (by decide)) kd_0 (by decide) rfl (by decide) (Nat.le_of_ble_eq_true rfl) (v_X11_checkNotBegun hst hn hR  h) (by decide) (by decide) (fun r_ M_ h_ => ?_) (fun _ _ h_ => h_)
  obtain ⟨J1, L2, rfl, rfl, h⟩ := h_
  show xJ _ _ _ _ _ _ _ _ _ 4 [(0, .ref 0)] [] _ _ _ (zi J1) (li L2)
  refine xr_aload_n (xd dX11_greet 2 rfl) 0 rfl ?_
  refine zr_getI 11 4 4 rfl (xd dX11_greet 3 rfl) f11_81 (by decide) (by decide) (lt491 hn (by decide)) kd_0 rfl ?_
  refine xr_sipush (v := oI 150) (xd dX11_greet 4 rfl) (by decide) ?_
  obtain ⟨o3, h⟩ := h
  refine zr_icmp_le 24 (xd dX11_greet 5 rfl) (by decide) o3 (by decide) (fun c4 => ?_) (fun c4 => ?_)
  · replace h := ifn h c4
    refine xr_aload_n (xd dX11_greet 11 rfl) 0 rfl ?_
    refine xr_getR (b := 2) 11 1 (xd dX11_greet 12 rfl) f11_17 (by decide) (by decide) (lt491 hn (by decide)) kd_0 rfl (r_0_1 hR) ?_
    refine xr_iconst (v := oI 1) (xd dX11_greet 13 rfl) (by decide) ?_
    refine zr_aaload (b := 315) 5 (xd dX11_greet 14 rfl) (lt491 hn (by decide)) (by decide) (by decide) kd_2 ln_2 (by decide) ⟨by decide, by decide⟩ (r_2_1 hR) ?_
    refine xr_getR (b := 316) 8 1 (xd dX11_greet 15 rfl) f11_60 (by decide) (by decide) (lt491 hn (by decide)) (kdS_0 (Or.inr rfl : iSide 315)) rfl (rS_0_1 hR (Or.inr rfl : iSide 315)) ?_
    refine xr_astore_n [(0, .ref 0), (1, .ref 316)] (xd dX11_greet 16 rfl) rfl (by decide) rfl ?_
    refine xr_aload_n (xd dX11_greet 17 rfl) 0 rfl ?_
    refine xr_getR (b := 5) 11 3 (xd dX11_greet 18 rfl) f11_28 (by decide) (by decide) (lt491 hn (by decide)) kd_0 rfl (r_0_3 hR) ?_
    refine xr_iconst (v := oI 0) (xd dX11_greet 19 rfl) (by decide) ?_
    refine xr_aload_n (xd dX11_greet 20 rfl) 1 rfl ?_
    refine xr_getR (b := 320) 9 3 (xd dX11_greet 21 rfl) f11_89 (by decide) (by decide) (lt491 hn (by decide)) (kdS_1 (Or.inr rfl : iSide 315)) rfl (rS_1_3 hR (Or.inr rfl : iSide 315)) ?_
    refine xr_iconst (v := oI 0) (xd dX11_greet 22 rfl) (by decide) ?_
    refine xr_aload_n (xd dX11_greet 23 rfl) 0 rfl ?_
    refine zr_getI 11 4 4 rfl (xd dX11_greet 24 rfl) f11_81 (by decide) (by decide) (lt491 hn (by decide)) kd_0 rfl ?_
    obtain ⟨o6, h⟩ := h
    obtain ⟨J7, e_J7⟩ : ∃ z_ : zM, z_ = zcp J1 5 0 320 0 (J1 0 4) := ⟨_, rfl⟩
    replace h := h J7 e_J7
    refine zr_acopy e_J7 (xd dX11_greet 25 rfl) l11_92 (lt491 hn (by decide)) kd_5 ln_5 (by decide) (lt491 hn (by decide)) (kdS_5 (Or.inr rfl : iSide 315)) (lnS_5 (Or.inr rfl : iSide 315)) (by decide) o6.1 o6.2.1 o6.2.2.1 o6.2.2.2.1 o6.2.2.2.2 ⟨Nat.le_of_ble_eq_true rfl, Nat.le_of_ble_eq_true rfl⟩ ?_
    refine xr_aload_n (xd dX11_greet 26 rfl) 1 rfl ?_
    refine xr_aload_n (xd dX11_greet 27 rfl) 0 rfl ?_
    refine zr_getI 11 4 4 rfl (xd dX11_greet 28 rfl) f11_81 (by decide) (by decide) (lt491 hn (by decide)) kd_0 rfl ?_
    obtain ⟨J8, e_J8⟩ : ∃ z_ : zM, z_ = zs J7 316 4 (J7 0 4) := ⟨_, rfl⟩
    replace h := h J8 e_J8
    refine zr_putI 9 4 4 rfl e_J8 (xd dX11_greet 29 rfl) f11_98 (by decide) (by decide) (lt491 hn (by decide)) (kdS_1 (Or.inr rfl : iSide 315)) (Or.inl rfl) rfl rfl (fun _ => rfl) ?_
    refine xr_aload_n (xd dX11_greet 30 rfl) 0 rfl ?_
    refine xr_iconst (v := oI 0) (xd dX11_greet 31 rfl) (by decide) ?_
    obtain ⟨J9, e_J9⟩ : ∃ z_ : zM, z_ = zs J8 0 4 0 := ⟨_, rfl⟩
    replace h := h J9 e_J9
    refine zr_putI 11 4 4 rfl e_J9 (xd dX11_greet 32 rfl) f11_81 (by decide) (by decide) (lt491 hn (by decide)) kd_0 (Or.inl rfl) rfl rfl (fun _ => rfl) ?_
    refine xr_aload_n (xd dX11_greet 33 rfl) 1 rfl ?_
    refine zr_getI 9 4 4 rfl (xd dX11_greet 34 rfl) f11_98 (by decide) (by decide) (lt491 hn (by decide)) (kdS_1 (Or.inr rfl : iSide 315)) rfl ?_
    exact xr_iret (xd dX11_greet 35 rfl) rfl (by decide) (by decide) (fun q => by cases q) ⟨_, _, _, rfl, rfl, h⟩
  · replace h := ifp h c4
    exact xr_throw hst 6 kT_11_44_48 (by decide) rfl (xd dX11_greet 6 rfl) (xd dX11_greet 7 rfl) (xd dX11_greet 8 rfl) (xd dX11_greet 9 rfl) (xd dX11_greet 10 rfl) (Nat.le_of_ble_eq_true rfl |> fun q => ⟨q, Nat.le_of_ble_eq_true rfl⟩) (by decide) (by decide) ⟨_, _, rfl, h⟩
def w_X11_begin  (J : zM) (L : yM) (Q : Int → zM → yM → Prop) (X : String → zM → yM → Prop) : Prop := w_X11_checkNotBegun J L (fun J1 L2 => ∀ x4 : Int, x4 = (J1 307 8) → w_X8_drawHello 139 J1 L2 (fun J5 L6 => w_X8_composeHello 139 0 J5 L6 (fun J7 L8 => w_X8_startFlight 139 J7 L8 (fun J9 L10 => w_X8_sendFlight 139 J9 L10 (fun J11 L12 => Q ((J11 307 8) - x4) J11 L12))))) X
set_option maxHeartbeats 4000000 in
set_option maxRecDepth 100000 in
theorem v_X11_begin {b : Nat} {dC : Nat → ClassId} {dI : Nat → Nat → Nat} {cA : Nat → ClassId} {ts : Nat → Nat} {l : Launch} {n : Nat} {R : Nat → Nat → Option Nat} (hst : l.stackTraces = false) (hn : 491 ≤ n) (hR : xRk R)   {J : zM} {L : yM} {Q : Int → zM → yM → Prop} {X : String → zM → yM → Prop} (h : w_X11_begin  J L Q X) : xCn (xGm b dC dI cA ts) l mX11_begin [.ref 0] false (n, R, zi J, li L) 1 6 (zQ1 n R Q) (zQx n R X) := by
  refine xCn.ofJ (by decide) (Nat.le_of_ble_eq_true rfl) ?_
  show xJ _ _ _ _ _ _ _ _ _ 0 [(0, .ref 0)] [] _ _ _ _ _
  unfold w_X11_begin at h
  refine xr_aload_n (xd dX11_begin 0 rfl) 0 rfl ?_
  refine xr_callV mX11_checkNotBegun 0 [] (xd dX11_begin 1 rfl) l11_57 kX11_checkNotBegun rfl (lt491 hn (by decide)) kd_0 (by decide) rfl (by decide) (Nat.le_of_ble_eq_true rfl) (v_X11_checkNotBegun hst hn hR  h) (by decide) (by decide) (fun r_ M_ h_ => ?_) (fun _ _ h_ => h_)
  obtain ⟨J1, L2, rfl, rfl, h⟩ := h_
  show xJ _ _ _ _ _ _ _ _ _ 4 [(0, .ref 0)] [] _ _ _ (zi J1) (li L2)
  refine xr_aload_n (xd dX11_begin 2 rfl) 0 rfl ?_
  refine xr_getR (b := 2) 11 1 (xd dX11_begin 3 rfl) f11_17 (by decide) (by decide) (lt491 hn (by decide)) kd_0 rfl (r_0_1 hR) ?_
  refine xr_iconst (v := oI 0) (xd dX11_begin 4 rfl) (by decide) ?_
  refine zr_aaload (b := 139) 5 (xd dX11_begin 5 rfl) (lt491 hn (by decide)) (by decide) (by decide) kd_2 ln_2 (by decide) ⟨by decide, by decide⟩ (r_2_0 hR) ?_
  refine xr_astore_n [(0, .ref 0), (1, .ref 139)] (xd dX11_begin 6 rfl) rfl (by decide) rfl ?_
  refine xr_aload_n (xd dX11_begin 7 rfl) 1 rfl ?_
  refine xr_getR (b := 307) 8 3 (xd dX11_begin 8 rfl) f11_101 (by decide) (by decide) (lt491 hn (by decide)) (kdS_0 (Or.inl rfl : iSide 139)) rfl (rS_0_3 hR (Or.inl rfl : iSide 139)) ?_
  refine zr_getI 6 8 8 rfl (xd dX11_begin 9 rfl) f11_105 (by decide) (by decide) (lt491 hn (by decide)) (kdS_168 (Or.inl rfl : iSide 139)) rfl ?_
  obtain ⟨x4, e_x4⟩ : ∃ z_ : Int, z_ = (J1 307 8) := ⟨_, rfl⟩
  replace h := h x4 e_x4
  refine zr_nm e_x4 ?_
  refine xr_istore_n [(0, .ref 0), (1, .ref 139), (2, .int (oI x4))] (xd dX11_begin 10 rfl) rfl (by decide) rfl ?_
  refine xr_aload_n (xd dX11_begin 11 rfl) 1 rfl ?_
  refine xr_callV mX8_drawHello 0 [] (xd dX11_begin 12 rfl) l11_110 kX8_drawHello rfl (lt491 hn (by decide)) (kdS_0 (Or.inl rfl : iSide 139)) (by decide) rfl (by decide) (Nat.le_of_ble_eq_true rfl) (v_X8_drawHello hn hR (Or.inl rfl : iSide 139) h) (by decide) (by decide) (fun r_ M_ h_ => ?_) (fun _ _ h_ => h_.elim)
  obtain ⟨J5, L6, rfl, rfl, h⟩ := h_
  show xJ _ _ _ _ _ _ _ _ _ 23 [(0, .ref 0), (1, .ref 139), (2, .int (oI x4))] [] _ _ _ (zi J5) (li L6)
  refine xr_aload_n (xd dX11_begin 13 rfl) 1 rfl ?_
  refine xr_iconst (v := oI 0) (xd dX11_begin 14 rfl) (by decide) ?_
  refine xr_callV mX8_composeHello 1 [.int (oI 0)] (xd dX11_begin 15 rfl) l11_113 kX8_composeHello rfl (lt491 hn (by decide)) (kdS_0 (Or.inl rfl : iSide 139)) (by decide) rfl (by decide) (Nat.le_of_ble_eq_true rfl) (v_X8_composeHello hn hR (Or.inl rfl : iSide 139) h) (by decide) (by decide) (fun r_ M_ h_ => ?_) (fun _ _ h_ => h_.elim)
  obtain ⟨J7, L8, rfl, rfl, h⟩ := h_
  show xJ _ _ _ _ _ _ _ _ _ 28 [(0, .ref 0), (1, .ref 139), (2, .int (oI x4))] [] _ _ _ (zi J7) (li L8)
  refine xr_aload_n (xd dX11_begin 16 rfl) 1 rfl ?_
  refine xr_callV mX8_startFlight 0 [] (xd dX11_begin 17 rfl) l11_116 kX8_startFlight rfl (lt491 hn (by decide)) (kdS_0 (Or.inl rfl : iSide 139)) (by decide) rfl (by decide) (Nat.le_of_ble_eq_true rfl) (v_X8_startFlight hn hR (Or.inl rfl : iSide 139) h) (by decide) (by decide) (fun r_ M_ h_ => ?_) (fun _ _ h_ => h_.elim)
  obtain ⟨J9, L10, rfl, rfl, h⟩ := h_
  show xJ _ _ _ _ _ _ _ _ _ 32 [(0, .ref 0), (1, .ref 139), (2, .int (oI x4))] [] _ _ _ (zi J9) (li L10)
  refine xr_aload_n (xd dX11_begin 18 rfl) 1 rfl ?_
  refine xr_callV mX8_sendFlight 0 [] (xd dX11_begin 19 rfl) l11_119 kX8_sendFlight rfl (lt491 hn (by decide)) (kdS_0 (Or.inl rfl : iSide 139)) (by decide) rfl (by decide) (Nat.le_of_ble_eq_true rfl) (v_X8_sendFlight hn hR (Or.inl rfl : iSide 139) h) (by decide) (by decide) (fun r_ M_ h_ => ?_) (fun _ _ h_ => h_.elim)
  obtain ⟨J11, L12, rfl, rfl, h⟩ := h_
  show xJ _ _ _ _ _ _ _ _ _ 36 [(0, .ref 0), (1, .ref 139), (2, .int (oI x4))] [] _ _ _ (zi J11) (li L12)
  refine xr_aload_n (xd dX11_begin 20 rfl) 1 rfl ?_
  refine xr_getR (b := 307) 8 3 (xd dX11_begin 21 rfl) f11_101 (by decide) (by decide) (lt491 hn (by decide)) (kdS_0 (Or.inl rfl : iSide 139)) rfl (rS_0_3 hR (Or.inl rfl : iSide 139)) ?_
  refine zr_getI 6 8 8 rfl (xd dX11_begin 22 rfl) f11_105 (by decide) (by decide) (lt491 hn (by decide)) (kdS_168 (Or.inl rfl : iSide 139)) rfl ?_
  refine xr_iload_n (xd dX11_begin 23 rfl) 2 rfl ?_
  refine zr_isub (xd dX11_begin 24 rfl) ?_
  exact xr_iret (xd dX11_begin 25 rfl) rfl (by decide) (by decide) (fun q => by cases q) ⟨_, _, _, rfl, rfl, h⟩
def w_X11_checkOpen (p1 : Int) (J : zM) (L : yM) (Q : zM → yM → Prop) (X : String → zM → yM → Prop) : Prop := ((0 : Int) ≤ p1 ∧ p1 < 2) ∧ R32 (J (sd p1) 12) ∧ (if (J (sd p1) 12) = 2 then Q J L else X "java/lang/IllegalStateException" J L)
set_option maxHeartbeats 4000000 in
set_option maxRecDepth 100000 in
theorem v_X11_checkOpen {b : Nat} {dC : Nat → ClassId} {dI : Nat → Nat → Nat} {cA : Nat → ClassId} {ts : Nat → Nat} {l : Launch} {n : Nat} {R : Nat → Nat → Option Nat} (hst : l.stackTraces = false) (hn : 491 ≤ n) (hR : xRk R) {p1 : Int}  {J : zM} {L : yM} {Q : zM → yM → Prop} {X : String → zM → yM → Prop} (h : w_X11_checkOpen p1 J L Q X) : xCn (xGm b dC dI cA ts) l mX11_checkOpen [.ref 0, .int (oI p1)] false (n, R, zi J, li L) 1 6 (zQ0 n R Q) (zQx n R X) := by
  refine xCn.ofJ (by decide) (Nat.le_of_ble_eq_true rfl) ?_
  show xJ _ _ _ _ _ _ _ _ _ 0 [(0, .ref 0), (1, .int (oI p1))] [] _ _ _ _ _
  unfold w_X11_checkOpen at h
  refine xr_aload_n (xd dX11_checkOpen 0 rfl) 0 rfl ?_
  refine xr_getR (b := 2) 11 1 (xd dX11_checkOpen 1 rfl) f11_17 (by decide) (by decide) (lt491 hn (by decide)) kd_0 rfl (r_0_1 hR) ?_
  refine xr_iload_n (xd dX11_checkOpen 2 rfl) 1 rfl ?_
  obtain ⟨o1, h⟩ := h
  refine zr_aaload (b := (sd p1)) 5 (xd dX11_checkOpen 3 rfl) (lt491 hn (by decide)) (by decide) (by decide) kd_2 ln_2 (by decide) o1 (sdI hR o1) ?_
  refine zr_getI 8 12 12 rfl (xd dX11_checkOpen 4 rfl) f11_134 (by decide) (by decide) (lt491 hn (ltS0 (sd_he o1))) (kdS_0 (sd_he o1)) rfl ?_
  refine xr_iconst (v := oI 2) (xd dX11_checkOpen 5 rfl) (by decide) ?_
  obtain ⟨o3, h⟩ := h
  refine zr_icmp_eq 24 (xd dX11_checkOpen 6 rfl) (by decide) o3 (by decide) (fun c4 => ?_) (fun c4 => ?_)
  · replace h := ifp h c4
    exact xr_vret (xd dX11_checkOpen 12 rfl) rfl (by decide) (by decide) (fun q => by cases q) ⟨_, _, rfl, rfl, h⟩
  · replace h := ifn h c4
    exact xr_throwW hst 8 kT_11_258_262 (by decide) rfl (xd dX11_checkOpen 7 rfl) (xd dX11_checkOpen 8 rfl) (xd dX11_checkOpen 9 rfl) (xd dX11_checkOpen 10 rfl) (xd dX11_checkOpen 11 rfl) (Nat.le_of_ble_eq_true rfl |> fun q => ⟨q, Nat.le_of_ble_eq_true rfl⟩) (by decide) (by decide) ⟨_, _, rfl, h⟩
def w_X11_write (p1 : Int) (J : zM) (L : yM) (Q : Int → zM → yM → Prop) (X : String → zM → yM → Prop) : Prop := w_X11_checkSide p1 J L (fun J1 L2 => w_X11_checkOpen p1 J1 L2 (fun J3 L4 => R32 (J3 0 4) ∧ (if (J3 0 4) < 1 then X "java/lang/IllegalArgumentException" J3 L4 else (if 60 < (J3 0 4) then X "java/lang/IllegalArgumentException" J3 L4 else ((0 : Int) ≤ p1 ∧ p1 < 2) ∧ w_X8_sendData (sd p1) 5 (J3 0 4) J3 L4 (fun r12 J10 L11 => R32 r12 ∧ (if r12 = (-1) then Q r12 J10 L11 else ∀ J15 : zM, J15 = zs J10 0 4 0 → Q r12 J15 L11))))) X) X
set_option maxHeartbeats 4000000 in
set_option maxRecDepth 100000 in
theorem v_X11_write {b : Nat} {dC : Nat → ClassId} {dI : Nat → Nat → Nat} {cA : Nat → ClassId} {ts : Nat → Nat} {l : Launch} {n : Nat} {R : Nat → Nat → Option Nat} (hst : l.stackTraces = false) (hn : 491 ≤ n) (hR : xRk R) {p1 : Int}  {J : zM} {L : yM} {Q : Int → zM → yM → Prop} {X : String → zM → yM → Prop} (h : w_X11_write p1 J L Q X) : xCn (xGm b dC dI cA ts) l mX11_write [.ref 0, .int (oI p1)] false (n, R, zi J, li L) 3 18 (zQ1 n R Q) (zQx n R X) := by
  refine xCn.ofJ (by decide) (Nat.le_of_ble_eq_true rfl) ?_
  show xJ _ _ _ _ _ _ _ _ _ 0 [(0, .ref 0), (1, .int (oI p1))] [] _ _ _ _ _
  unfold w_X11_write at h
  refine xr_aload_n (xd dX11_write 0 rfl) 0 rfl ?_
  refine xr_iload_n (xd dX11_write 1 rfl) 1 rfl ?_
  refine xr_callV mX11_checkSide 1 [.int (oI p1)] (xd dX11_write 2 rfl) l11_53 kX11_checkSide rfl (lt491 hn (by decide)) kd_0 (by decide) rfl (by decide) (Nat.le_of_ble_eq_true rfl) (v_X11_checkSide hst hn hR  h) (by decide) (by decide) (fun r_ M_ h_ => ?_) (fun _ _ h_ => h_)
  obtain ⟨J1, L2, rfl, rfl, h⟩ := h_
  show xJ _ _ _ _ _ _ _ _ _ 5 [(0, .ref 0), (1, .int (oI p1))] [] _ _ _ (zi J1) (li L2)
  refine xr_aload_n (xd dX11_write 3 rfl) 0 rfl ?_
  refine xr_iload_n (xd dX11_write 4 rfl) 1 rfl ?_
  refine xr_callV mX11_checkOpen 1 [.int (oI p1)] (xd dX11_write 5 rfl) l11_122 kX11_checkOpen rfl (lt491 hn (by decide)) kd_0 (by decide) rfl (by decide) (Nat.le_of_ble_eq_true rfl) (v_X11_checkOpen hst hn hR  h) (by decide) (by decide) (fun r_ M_ h_ => ?_) (fun _ _ h_ => h_)
  obtain ⟨J3, L4, rfl, rfl, h⟩ := h_
  show xJ _ _ _ _ _ _ _ _ _ 10 [(0, .ref 0), (1, .int (oI p1))] [] _ _ _ (zi J3) (li L4)
  refine xr_aload_n (xd dX11_write 6 rfl) 0 rfl ?_
  refine zr_getI 11 4 4 rfl (xd dX11_write 7 rfl) f11_81 (by decide) (by decide) (lt491 hn (by decide)) kd_0 rfl ?_
  refine xr_iconst (v := oI 1) (xd dX11_write 8 rfl) (by decide) ?_
  obtain ⟨o5, h⟩ := h
  refine zr_icmp_lt 27 (xd dX11_write 9 rfl) (by decide) o5 (by decide) (fun c6 => ?_) (fun c6 => ?_)
  · replace h := ifp h c6
    exact xr_throw hst 9 kT_11_44_48 (by decide) rfl (xd dX11_write 14 rfl) (xd dX11_write 15 rfl) (xd dX11_write 16 rfl) (xd dX11_write 17 rfl) (xd dX11_write 18 rfl) (Nat.le_of_ble_eq_true rfl |> fun q => ⟨q, Nat.le_of_ble_eq_true rfl⟩) (by decide) (by decide) ⟨_, _, rfl, h⟩
  · replace h := ifn h c6
    refine xr_aload_n (xd dX11_write 10 rfl) 0 rfl ?_
    refine zr_getI 11 4 4 rfl (xd dX11_write 11 rfl) f11_81 (by decide) (by decide) (lt491 hn (by decide)) kd_0 rfl ?_
    refine xr_bipush (v := oI 60) (xd dX11_write 12 rfl) (by decide) ?_
    refine zr_icmp_le 37 (xd dX11_write 13 rfl) (by decide) o5 (by decide) (fun c7 => ?_) (fun c7 => ?_)
    · replace h := ifn h c7
      refine xr_aload_n (xd dX11_write 19 rfl) 0 rfl ?_
      refine xr_getR (b := 2) 11 1 (xd dX11_write 20 rfl) f11_17 (by decide) (by decide) (lt491 hn (by decide)) kd_0 rfl (r_0_1 hR) ?_
      refine xr_iload_n (xd dX11_write 21 rfl) 1 rfl ?_
      obtain ⟨o8, h⟩ := h
      refine zr_aaload (b := (sd p1)) 5 (xd dX11_write 22 rfl) (lt491 hn (by decide)) (by decide) (by decide) kd_2 ln_2 (by decide) o8 (sdI hR o8) ?_
      refine xr_aload_n (xd dX11_write 23 rfl) 0 rfl ?_
      refine xr_getR (b := 5) 11 3 (xd dX11_write 24 rfl) f11_28 (by decide) (by decide) (lt491 hn (by decide)) kd_0 rfl (r_0_3 hR) ?_
      refine xr_aload_n (xd dX11_write 25 rfl) 0 rfl ?_
      refine zr_getI 11 4 4 rfl (xd dX11_write 26 rfl) f11_81 (by decide) (by decide) (lt491 hn (by decide)) kd_0 rfl ?_
      refine xr_callV mX8_sendData 2 [.ref 5, .int (oI (J3 0 4))] (xd dX11_write 27 rfl) l11_127 kX8_sendData rfl (lt491 hn (ltS0 (sd_he o8))) (kdS_0 (sd_he o8)) (by decide) rfl (by decide) (Nat.le_of_ble_eq_true rfl) (v_X8_sendData hn hR (sd_he o8) (za_mk kd_5 (by decide)) h) (by decide) (by decide) (fun r_ M_ h_ => ?_) (fun _ _ h_ => h_.elim)
      obtain ⟨r12, J10, L11, rfl, rfl, h⟩ := h_
      show xJ _ _ _ _ _ _ _ _ _ 54 [(0, .ref 0), (1, .int (oI p1))] [.int (oI r12)] _ _ _ (zi J10) (li L11)
      refine xr_istore_n [(0, .ref 0), (1, .int (oI p1)), (2, .int (oI r12))] (xd dX11_write 28 rfl) rfl (by decide) rfl ?_
      refine xr_iload_n (xd dX11_write 29 rfl) 2 rfl ?_
      refine xr_iconst (v := oI (-1)) (xd dX11_write 30 rfl) (by decide) ?_
      obtain ⟨o13, h⟩ := h
      refine zr_icmp_eq 65 (xd dX11_write 31 rfl) (by decide) o13 (by decide) (fun c14 => ?_) (fun c14 => ?_)
      · replace h := ifp h c14
        refine xr_iload_n (xd dX11_write 35 rfl) 2 rfl ?_
        exact xr_iret (xd dX11_write 36 rfl) rfl (by decide) (by decide) (fun q => by cases q) ⟨_, _, _, rfl, rfl, h⟩
      · replace h := ifn h c14
        refine xr_aload_n (xd dX11_write 32 rfl) 0 rfl ?_
        refine xr_iconst (v := oI 0) (xd dX11_write 33 rfl) (by decide) ?_
        obtain ⟨J15, e_J15⟩ : ∃ z_ : zM, z_ = zs J10 0 4 0 := ⟨_, rfl⟩
        replace h := h J15 e_J15
        refine zr_putI 11 4 4 rfl e_J15 (xd dX11_write 34 rfl) f11_81 (by decide) (by decide) (lt491 hn (by decide)) kd_0 (Or.inl rfl) rfl rfl (fun _ => rfl) ?_
        refine xr_iload_n (xd dX11_write 35 rfl) 2 rfl ?_
        exact xr_iret (xd dX11_write 36 rfl) rfl (by decide) (by decide) (fun q => by cases q) ⟨_, _, _, rfl, rfl, h⟩
    · replace h := ifp h c7
      exact xr_throw hst 9 kT_11_44_48 (by decide) rfl (xd dX11_write 14 rfl) (xd dX11_write 15 rfl) (xd dX11_write 16 rfl) (xd dX11_write 17 rfl) (xd dX11_write 18 rfl) (Nat.le_of_ble_eq_true rfl |> fun q => ⟨q, Nat.le_of_ble_eq_true rfl⟩) (by decide) (by decide) ⟨_, _, rfl, h⟩
def w_X11_close (p1 : Int) (J : zM) (L : yM) (Q : zM → yM → Prop) (X : String → zM → yM → Prop) : Prop := w_X11_checkSide p1 J L (fun J1 L2 => w_X11_checkOpen p1 J1 L2 (fun J3 L4 => ((0 : Int) ≤ p1 ∧ p1 < 2) ∧ w_X8_sendAlert (sd p1) 0 J3 L4 (fun J7 L8 => ((0 : Int) ≤ p1 ∧ p1 < 2) ∧ ∀ J11 : zM, J11 = zs J7 (sd p1) 12 3 → Q J11 L8)) X) X
set_option maxHeartbeats 4000000 in
set_option maxRecDepth 100000 in
theorem v_X11_close {b : Nat} {dC : Nat → ClassId} {dI : Nat → Nat → Nat} {cA : Nat → ClassId} {ts : Nat → Nat} {l : Launch} {n : Nat} {R : Nat → Nat → Option Nat} (hst : l.stackTraces = false) (hn : 491 ≤ n) (hR : xRk R) {p1 : Int}  {J : zM} {L : yM} {Q : zM → yM → Prop} {X : String → zM → yM → Prop} (h : w_X11_close p1 J L Q X) : xCn (xGm b dC dI cA ts) l mX11_close [.ref 0, .int (oI p1)] false (n, R, zi J, li L) 2 12 (zQ0 n R Q) (zQx n R X) := by
  refine xCn.ofJ (by decide) (Nat.le_of_ble_eq_true rfl) ?_
  show xJ _ _ _ _ _ _ _ _ _ 0 [(0, .ref 0), (1, .int (oI p1))] [] _ _ _ _ _
  unfold w_X11_close at h
  refine xr_aload_n (xd dX11_close 0 rfl) 0 rfl ?_
  refine xr_iload_n (xd dX11_close 1 rfl) 1 rfl ?_
  refine xr_callV mX11_checkSide 1 [.int (oI p1)] (xd dX11_close 2 rfl) l11_53 kX11_checkSide rfl (lt491 hn (by decide)) kd_0 (by decide) rfl (by decide) (Nat.le_of_ble_eq_true rfl) (v_X11_checkSide hst hn hR  h) (by decide) (by decide) (fun r_ M_ h_ => ?_) (fun _ _ h_ => h_)
  obtain ⟨J1, L2, rfl, rfl, h⟩ := h_
  show xJ _ _ _ _ _ _ _ _ _ 5 [(0, .ref 0), (1, .int (oI p1))] [] _ _ _ (zi J1) (li L2)
  refine xr_aload_n (xd dX11_close 3 rfl) 0 rfl ?_
  refine xr_iload_n (xd dX11_close 4 rfl) 1 rfl ?_
  refine xr_callV mX11_checkOpen 1 [.int (oI p1)] (xd dX11_close 5 rfl) l11_122 kX11_checkOpen rfl (lt491 hn (by decide)) kd_0 (by decide) rfl (by decide) (Nat.le_of_ble_eq_true rfl) (v_X11_checkOpen hst hn hR  h) (by decide) (by decide) (fun r_ M_ h_ => ?_) (fun _ _ h_ => h_)
  obtain ⟨J3, L4, rfl, rfl, h⟩ := h_
  show xJ _ _ _ _ _ _ _ _ _ 10 [(0, .ref 0), (1, .int (oI p1))] [] _ _ _ (zi J3) (li L4)
  refine xr_aload_n (xd dX11_close 6 rfl) 0 rfl ?_
  refine xr_getR (b := 2) 11 1 (xd dX11_close 7 rfl) f11_17 (by decide) (by decide) (lt491 hn (by decide)) kd_0 rfl (r_0_1 hR) ?_
  refine xr_iload_n (xd dX11_close 8 rfl) 1 rfl ?_
  obtain ⟨o5, h⟩ := h
  refine zr_aaload (b := (sd p1)) 5 (xd dX11_close 9 rfl) (lt491 hn (by decide)) (by decide) (by decide) kd_2 ln_2 (by decide) o5 (sdI hR o5) ?_
  refine xr_iconst (v := oI 0) (xd dX11_close 10 rfl) (by decide) ?_
  refine xr_callV mX8_sendAlert 1 [.int (oI 0)] (xd dX11_close 11 rfl) l11_131 kX8_sendAlert rfl (lt491 hn (ltS0 (sd_he o5))) (kdS_0 (sd_he o5)) (by decide) rfl (by decide) (Nat.le_of_ble_eq_true rfl) (v_X8_sendAlert hn hR (sd_he o5) h) (by decide) (by decide) (fun r_ M_ h_ => ?_) (fun _ _ h_ => h_.elim)
  obtain ⟨J7, L8, rfl, rfl, h⟩ := h_
  show xJ _ _ _ _ _ _ _ _ _ 20 [(0, .ref 0), (1, .int (oI p1))] [] _ _ _ (zi J7) (li L8)
  refine xr_aload_n (xd dX11_close 12 rfl) 0 rfl ?_
  refine xr_getR (b := 2) 11 1 (xd dX11_close 13 rfl) f11_17 (by decide) (by decide) (lt491 hn (by decide)) kd_0 rfl (r_0_1 hR) ?_
  refine xr_iload_n (xd dX11_close 14 rfl) 1 rfl ?_
  obtain ⟨o9, h⟩ := h
  refine zr_aaload (b := (sd p1)) 5 (xd dX11_close 15 rfl) (lt491 hn (by decide)) (by decide) (by decide) kd_2 ln_2 (by decide) o9 (sdI hR o9) ?_
  refine xr_iconst (v := oI 3) (xd dX11_close 16 rfl) (by decide) ?_
  obtain ⟨J11, e_J11⟩ : ∃ z_ : zM, z_ = zs J7 (sd p1) 12 3 := ⟨_, rfl⟩
  replace h := h J11 e_J11
  refine zr_putI 8 12 12 rfl e_J11 (xd dX11_close 17 rfl) f11_134 (by decide) (by decide) (lt491 hn (ltS0 (sd_he o9))) (kdS_0 (sd_he o9)) (Or.inl rfl) rfl rfl (fun _ => rfl) ?_
  exact xr_vret (xd dX11_close 18 rfl) rfl (by decide) (by decide) (fun q => by cases q) ⟨_, _, rfl, rfl, h⟩
def w_X11_passTick  (J : zM) (L : yM) (Q : zM → yM → Prop) : Prop := ∀ J1 : zM, J1 = zs J 0 5 ((J 0 5) + 1) → w_X8_passTick 139 (J1 0 5) J1 L (fun J3 L4 => w_X8_passTick 315 (J3 0 5) J3 L4 (fun J6 L7 => Q J6 L7))
set_option maxHeartbeats 4000000 in
set_option maxRecDepth 100000 in
theorem v_X11_passTick {b : Nat} {dC : Nat → ClassId} {dI : Nat → Nat → Nat} {cA : Nat → ClassId} {ts : Nat → Nat} {l : Launch} {n : Nat} {R : Nat → Nat → Option Nat} {al : Bool} (hn : 491 ≤ n) (hR : xRk R)   {J : zM} {L : yM} {Q : zM → yM → Prop} (h : w_X11_passTick  J L Q) : xCn (xGm b dC dI cA ts) l mX11_passTick [.ref 0] al (n, R, zi J, li L) 0 0 (zQ0 n R Q) (fun _ _ => False) := by
  refine xCn.ofJ (by decide) (Nat.le_of_ble_eq_true rfl) ?_
  show xJ _ _ _ _ _ _ _ _ _ 0 [(0, .ref 0)] [] _ _ _ _ _
  unfold w_X11_passTick at h
  refine xr_aload_n (xd dX11_passTick 0 rfl) 0 rfl ?_
  refine xr_dup (xd dX11_passTick 1 rfl) rfl ?_
  refine zr_getI 11 5 5 rfl (xd dX11_passTick 2 rfl) f11_140 (by decide) (by decide) (lt491 hn (by decide)) kd_0 rfl ?_
  refine xr_iconst (v := oI 1) (xd dX11_passTick 3 rfl) (by decide) ?_
  refine zr_iadd (xd dX11_passTick 4 rfl) ?_
  obtain ⟨J1, e_J1⟩ : ∃ z_ : zM, z_ = zs J 0 5 ((J 0 5) + 1) := ⟨_, rfl⟩
  replace h := h J1 e_J1
  refine zr_putI 11 5 5 rfl e_J1 (xd dX11_passTick 5 rfl) f11_140 (by decide) (by decide) (lt491 hn (by decide)) kd_0 (Or.inl rfl) rfl rfl (fun _ => rfl) ?_
  refine xr_aload_n (xd dX11_passTick 6 rfl) 0 rfl ?_
  refine xr_getR (b := 2) 11 1 (xd dX11_passTick 7 rfl) f11_17 (by decide) (by decide) (lt491 hn (by decide)) kd_0 rfl (r_0_1 hR) ?_
  refine xr_iconst (v := oI 0) (xd dX11_passTick 8 rfl) (by decide) ?_
  refine zr_aaload (b := 139) 5 (xd dX11_passTick 9 rfl) (lt491 hn (by decide)) (by decide) (by decide) kd_2 ln_2 (by decide) ⟨by decide, by decide⟩ (r_2_0 hR) ?_
  refine xr_aload_n (xd dX11_passTick 10 rfl) 0 rfl ?_
  refine zr_getI 11 5 5 rfl (xd dX11_passTick 11 rfl) f11_140 (by decide) (by decide) (lt491 hn (by decide)) kd_0 rfl ?_
  refine xr_callV mX8_passTick 1 [.int (oI (J1 0 5))] (xd dX11_passTick 12 rfl) l11_220 kX8_passTick rfl (lt491 hn (by decide)) (kdS_0 (Or.inl rfl : iSide 139)) (by decide) rfl (by decide) (Nat.le_of_ble_eq_true rfl) (v_X8_passTick hn hR (Or.inl rfl : iSide 139) h) (by decide) (by decide) (fun r_ M_ h_ => ?_) (fun _ _ h_ => h_.elim)
  obtain ⟨J3, L4, rfl, rfl, h⟩ := h_
  show xJ _ _ _ _ _ _ _ _ _ 23 [(0, .ref 0)] [] _ _ _ (zi J3) (li L4)
  refine xr_aload_n (xd dX11_passTick 13 rfl) 0 rfl ?_
  refine xr_getR (b := 2) 11 1 (xd dX11_passTick 14 rfl) f11_17 (by decide) (by decide) (lt491 hn (by decide)) kd_0 rfl (r_0_1 hR) ?_
  refine xr_iconst (v := oI 1) (xd dX11_passTick 15 rfl) (by decide) ?_
  refine zr_aaload (b := 315) 5 (xd dX11_passTick 16 rfl) (lt491 hn (by decide)) (by decide) (by decide) kd_2 ln_2 (by decide) ⟨by decide, by decide⟩ (r_2_1 hR) ?_
  refine xr_aload_n (xd dX11_passTick 17 rfl) 0 rfl ?_
  refine zr_getI 11 5 5 rfl (xd dX11_passTick 18 rfl) f11_140 (by decide) (by decide) (lt491 hn (by decide)) kd_0 rfl ?_
  refine xr_callV mX8_passTick 1 [.int (oI (J3 0 5))] (xd dX11_passTick 19 rfl) l11_220 kX8_passTick rfl (lt491 hn (by decide)) (kdS_0 (Or.inr rfl : iSide 315)) (by decide) rfl (by decide) (Nat.le_of_ble_eq_true rfl) (v_X8_passTick hn hR (Or.inr rfl : iSide 315) h) (by decide) (by decide) (fun r_ M_ h_ => ?_) (fun _ _ h_ => h_.elim)
  obtain ⟨J6, L7, rfl, rfl, h⟩ := h_
  show xJ _ _ _ _ _ _ _ _ _ 36 [(0, .ref 0)] [] _ _ _ (zi J6) (li L7)
  exact xr_vret (xd dX11_passTick 20 rfl) rfl (by decide) (by decide) (fun _ => rfl) ⟨_, _, rfl, rfl, h⟩
def w_X11_tick  (J : zM) (L : yM) (Q : Int → zM → yM → Prop) : Prop := w_X11_passTick J L (fun J1 L2 => Q (J1 0 5) J1 L2)
set_option maxHeartbeats 4000000 in
set_option maxRecDepth 100000 in
theorem v_X11_tick {b : Nat} {dC : Nat → ClassId} {dI : Nat → Nat → Nat} {cA : Nat → ClassId} {ts : Nat → Nat} {l : Launch} {n : Nat} {R : Nat → Nat → Option Nat} {al : Bool} (hn : 491 ≤ n) (hR : xRk R)   {J : zM} {L : yM} {Q : Int → zM → yM → Prop} (h : w_X11_tick  J L Q) : xCn (xGm b dC dI cA ts) l mX11_tick [.ref 0] al (n, R, zi J, li L) 0 0 (zQ1 n R Q) (fun _ _ => False) := by
  refine xCn.ofJ (by decide) (Nat.le_of_ble_eq_true rfl) ?_
  show xJ _ _ _ _ _ _ _ _ _ 0 [(0, .ref 0)] [] _ _ _ _ _
  unfold w_X11_tick at h
  refine xr_aload_n (xd dX11_tick 0 rfl) 0 rfl ?_
  refine xr_callV mX11_passTick 0 [] (xd dX11_tick 1 rfl) l11_137 kX11_passTick rfl (lt491 hn (by decide)) kd_0 (by decide) rfl (by decide) (Nat.le_of_ble_eq_true rfl) (v_X11_passTick hn hR  h) (by decide) (by decide) (fun r_ M_ h_ => ?_) (fun _ _ h_ => h_.elim)
  obtain ⟨J1, L2, rfl, rfl, h⟩ := h_
  show xJ _ _ _ _ _ _ _ _ _ 4 [(0, .ref 0)] [] _ _ _ (zi J1) (li L2)
  refine xr_aload_n (xd dX11_tick 2 rfl) 0 rfl ?_
  refine zr_getI 11 5 5 rfl (xd dX11_tick 3 rfl) f11_140 (by decide) (by decide) (lt491 hn (by decide)) kd_0 rfl ?_
  exact xr_iret (xd dX11_tick 4 rfl) rfl (by decide) (by decide) (fun _ => rfl) ⟨_, _, _, rfl, rfl, h⟩
def w_X11_net (p1 : Int) (J : zM) (L : yM) (Q : Int → zM → yM → Prop) (X : String → zM → yM → Prop) : Prop := w_X11_checkSide p1 J L (fun J1 L2 => ((0 : Int) ≤ p1 ∧ p1 < 2) ∧ Q (J1 (nt p1) 5) J1 L2) X
set_option maxHeartbeats 4000000 in
set_option maxRecDepth 100000 in
theorem v_X11_net {b : Nat} {dC : Nat → ClassId} {dI : Nat → Nat → Nat} {cA : Nat → ClassId} {ts : Nat → Nat} {l : Launch} {n : Nat} {R : Nat → Nat → Option Nat} (hst : l.stackTraces = false) (hn : 491 ≤ n) (hR : xRk R) {p1 : Int}  {J : zM} {L : yM} {Q : Int → zM → yM → Prop} {X : String → zM → yM → Prop} (h : w_X11_net p1 J L Q X) : xCn (xGm b dC dI cA ts) l mX11_net [.ref 0, .int (oI p1)] false (n, R, zi J, li L) 1 6 (zQ1 n R Q) (zQx n R X) := by
  refine xCn.ofJ (by decide) (Nat.le_of_ble_eq_true rfl) ?_
  show xJ _ _ _ _ _ _ _ _ _ 0 [(0, .ref 0), (1, .int (oI p1))] [] _ _ _ _ _
  unfold w_X11_net at h
  refine xr_aload_n (xd dX11_net 0 rfl) 0 rfl ?_
  refine xr_iload_n (xd dX11_net 1 rfl) 1 rfl ?_
  refine xr_callV mX11_checkSide 1 [.int (oI p1)] (xd dX11_net 2 rfl) l11_53 kX11_checkSide rfl (lt491 hn (by decide)) kd_0 (by decide) rfl (by decide) (Nat.le_of_ble_eq_true rfl) (v_X11_checkSide hst hn hR  h) (by decide) (by decide) (fun r_ M_ h_ => ?_) (fun _ _ h_ => h_)
  obtain ⟨J1, L2, rfl, rfl, h⟩ := h_
  show xJ _ _ _ _ _ _ _ _ _ 5 [(0, .ref 0), (1, .int (oI p1))] [] _ _ _ (zi J1) (li L2)
  refine xr_aload_n (xd dX11_net 3 rfl) 0 rfl ?_
  refine xr_getR (b := 1) 11 0 (xd dX11_net 4 rfl) f11_11 (by decide) (by decide) (lt491 hn (by decide)) kd_0 rfl (r_0_0 hR) ?_
  refine xr_iload_n (xd dX11_net 5 rfl) 1 rfl ?_
  obtain ⟨o3, h⟩ := h
  refine zr_aaload (b := (nt p1)) 4 (xd dX11_net 6 rfl) (lt491 hn (by decide)) (by decide) (by decide) kd_1 ln_1 (by decide) o3 (ntI hR o3) ?_
  refine zr_getI 4 5 5 rfl (xd dX11_net 7 rfl) f11_143 (by decide) (by decide) (lt491 hn (rows_lt0 (nt_hr o3))) (rows_kd (nt_hr o3)).1 rfl ?_
  exact xr_iret (xd dX11_net 8 rfl) rfl (by decide) (by decide) (fun q => by cases q) ⟨_, _, _, rfl, rfl, h⟩
def w_X11_checkDatagram (p1 : Int) (p2 : Int) (J : zM) (L : yM) (Q : zM → yM → Prop) (X : String → zM → yM → Prop) : Prop := w_X11_checkSide p1 J L (fun J1 L2 => R32 p2 ∧ (if p2 < 0 then X "java/lang/IndexOutOfBoundsException" J1 L2 else ((0 : Int) ≤ p1 ∧ p1 < 2) ∧ R32 (J1 (nt p1) 5) ∧ (if p2 < (J1 (nt p1) 5) then Q J1 L2 else X "java/lang/IndexOutOfBoundsException" J1 L2))) X
set_option maxHeartbeats 4000000 in
set_option maxRecDepth 100000 in
theorem v_X11_checkDatagram {b : Nat} {dC : Nat → ClassId} {dI : Nat → Nat → Nat} {cA : Nat → ClassId} {ts : Nat → Nat} {l : Launch} {n : Nat} {R : Nat → Nat → Option Nat} (hst : l.stackTraces = false) (hn : 491 ≤ n) (hR : xRk R) {p1 : Int} {p2 : Int}  {J : zM} {L : yM} {Q : zM → yM → Prop} {X : String → zM → yM → Prop} (h : w_X11_checkDatagram p1 p2 J L Q X) : xCn (xGm b dC dI cA ts) l mX11_checkDatagram [.ref 0, .int (oI p1), .int (oI p2)] false (n, R, zi J, li L) 2 12 (zQ0 n R Q) (zQx n R X) := by
  refine xCn.ofJ (by decide) (Nat.le_of_ble_eq_true rfl) ?_
  show xJ _ _ _ _ _ _ _ _ _ 0 [(0, .ref 0), (1, .int (oI p1)), (2, .int (oI p2))] [] _ _ _ _ _
  unfold w_X11_checkDatagram at h
  refine xr_aload_n (xd dX11_checkDatagram 0 rfl) 0 rfl ?_
  refine xr_iload_n (xd dX11_checkDatagram 1 rfl) 1 rfl ?_
  refine xr_callV mX11_checkSide 1 [.int (oI p1)] (xd dX11_checkDatagram 2 rfl) l11_53 kX11_checkSide rfl (lt491 hn (by decide)) kd_0 (by decide) rfl (by decide) (Nat.le_of_ble_eq_true rfl) (v_X11_checkSide hst hn hR  h) (by decide) (by decide) (fun r_ M_ h_ => ?_) (fun _ _ h_ => h_)
  obtain ⟨J1, L2, rfl, rfl, h⟩ := h_
  show xJ _ _ _ _ _ _ _ _ _ 5 [(0, .ref 0), (1, .int (oI p1)), (2, .int (oI p2))] [] _ _ _ (zi J1) (li L2)
  refine xr_iload_n (xd dX11_checkDatagram 3 rfl) 2 rfl ?_
  obtain ⟨o3, h⟩ := h
  refine zr_if_lt 22 (xd dX11_checkDatagram 4 rfl) (by decide) o3 (fun c4 => ?_) (fun c4 => ?_)
  · replace h := ifp h c4
    exact xr_throwW hst 10 kT_11_187_191 (by decide) rfl (xd dX11_checkDatagram 12 rfl) (xd dX11_checkDatagram 13 rfl) (xd dX11_checkDatagram 14 rfl) (xd dX11_checkDatagram 15 rfl) (xd dX11_checkDatagram 16 rfl) (Nat.le_of_ble_eq_true rfl |> fun q => ⟨q, Nat.le_of_ble_eq_true rfl⟩) (by decide) (by decide) ⟨_, _, rfl, h⟩
  · replace h := ifn h c4
    refine xr_iload_n (xd dX11_checkDatagram 5 rfl) 2 rfl ?_
    refine xr_aload_n (xd dX11_checkDatagram 6 rfl) 0 rfl ?_
    refine xr_getR (b := 1) 11 0 (xd dX11_checkDatagram 7 rfl) f11_11 (by decide) (by decide) (lt491 hn (by decide)) kd_0 rfl (r_0_0 hR) ?_
    refine xr_iload_n (xd dX11_checkDatagram 8 rfl) 1 rfl ?_
    obtain ⟨o5, h⟩ := h
    refine zr_aaload (b := (nt p1)) 4 (xd dX11_checkDatagram 9 rfl) (lt491 hn (by decide)) (by decide) (by decide) kd_1 ln_1 (by decide) o5 (ntI hR o5) ?_
    refine zr_getI 4 5 5 rfl (xd dX11_checkDatagram 10 rfl) f11_143 (by decide) (by decide) (lt491 hn (rows_lt0 (nt_hr o5))) (rows_kd (nt_hr o5)).1 rfl ?_
    obtain ⟨o7, h⟩ := h
    refine zr_icmp_lt 33 (xd dX11_checkDatagram 11 rfl) (by decide) o3 o7 (fun c8 => ?_) (fun c8 => ?_)
    · replace h := ifp h c8
      exact xr_vret (xd dX11_checkDatagram 17 rfl) rfl (by decide) (by decide) (fun q => by cases q) ⟨_, _, rfl, rfl, h⟩
    · replace h := ifn h c8
      exact xr_throwW hst 10 kT_11_187_191 (by decide) rfl (xd dX11_checkDatagram 12 rfl) (xd dX11_checkDatagram 13 rfl) (xd dX11_checkDatagram 14 rfl) (xd dX11_checkDatagram 15 rfl) (xd dX11_checkDatagram 16 rfl) (Nat.le_of_ble_eq_true rfl |> fun q => ⟨q, Nat.le_of_ble_eq_true rfl⟩) (by decide) (by decide) ⟨_, _, rfl, h⟩
def w_X11_size (p1 : Int) (p2 : Int) (J : zM) (L : yM) (Q : Int → zM → yM → Prop) (X : String → zM → yM → Prop) : Prop := w_X11_checkDatagram p1 p2 J L (fun J1 L2 => ((0 : Int) ≤ p1 ∧ p1 < 2) ∧ w_X4_lengthOf (nt p1) p2 J1 L2 (fun r7 J5 L6 => Q r7 J5 L6)) X
set_option maxHeartbeats 4000000 in
set_option maxRecDepth 100000 in
theorem v_X11_size {b : Nat} {dC : Nat → ClassId} {dI : Nat → Nat → Nat} {cA : Nat → ClassId} {ts : Nat → Nat} {l : Launch} {n : Nat} {R : Nat → Nat → Option Nat} (hst : l.stackTraces = false) (hn : 491 ≤ n) (hR : xRk R) {p1 : Int} {p2 : Int}  {J : zM} {L : yM} {Q : Int → zM → yM → Prop} {X : String → zM → yM → Prop} (h : w_X11_size p1 p2 J L Q X) : xCn (xGm b dC dI cA ts) l mX11_size [.ref 0, .int (oI p1), .int (oI p2)] false (n, R, zi J, li L) 2 12 (zQ1 n R Q) (zQx n R X) := by
  refine xCn.ofJ (by decide) (Nat.le_of_ble_eq_true rfl) ?_
  show xJ _ _ _ _ _ _ _ _ _ 0 [(0, .ref 0), (1, .int (oI p1)), (2, .int (oI p2))] [] _ _ _ _ _
  unfold w_X11_size at h
  refine xr_aload_n (xd dX11_size 0 rfl) 0 rfl ?_
  refine xr_iload_n (xd dX11_size 1 rfl) 1 rfl ?_
  refine xr_iload_n (xd dX11_size 2 rfl) 2 rfl ?_
  refine xr_callV mX11_checkDatagram 2 [.int (oI p1), .int (oI p2)] (xd dX11_size 3 rfl) l11_146 kX11_checkDatagram rfl (lt491 hn (by decide)) kd_0 (by decide) rfl (by decide) (Nat.le_of_ble_eq_true rfl) (v_X11_checkDatagram hst hn hR  h) (by decide) (by decide) (fun r_ M_ h_ => ?_) (fun _ _ h_ => h_)
  obtain ⟨J1, L2, rfl, rfl, h⟩ := h_
  show xJ _ _ _ _ _ _ _ _ _ 6 [(0, .ref 0), (1, .int (oI p1)), (2, .int (oI p2))] [] _ _ _ (zi J1) (li L2)
  refine xr_aload_n (xd dX11_size 4 rfl) 0 rfl ?_
  refine xr_getR (b := 1) 11 0 (xd dX11_size 5 rfl) f11_11 (by decide) (by decide) (lt491 hn (by decide)) kd_0 rfl (r_0_0 hR) ?_
  refine xr_iload_n (xd dX11_size 6 rfl) 1 rfl ?_
  obtain ⟨o3, h⟩ := h
  refine zr_aaload (b := (nt p1)) 4 (xd dX11_size 7 rfl) (lt491 hn (by decide)) (by decide) (by decide) kd_1 ln_1 (by decide) o3 (ntI hR o3) ?_
  refine xr_iload_n (xd dX11_size 8 rfl) 2 rfl ?_
  refine xr_callV mX4_lengthOf 1 [.int (oI p2)] (xd dX11_size 9 rfl) l11_149 kX4_lengthOf rfl (lt491 hn (rows_lt0 (nt_hr o3))) (rows_kd (nt_hr o3)).1 (by decide) rfl (by decide) (Nat.le_of_ble_eq_true rfl) (v_X4_lengthOf hn hR (nt_hr o3) h) (by decide) (by decide) (fun r_ M_ h_ => ?_) (fun _ _ h_ => h_.elim)
  obtain ⟨r7, J5, L6, rfl, rfl, h⟩ := h_
  show xJ _ _ _ _ _ _ _ _ _ 16 [(0, .ref 0), (1, .int (oI p1)), (2, .int (oI p2))] [.int (oI r7)] _ _ _ (zi J5) (li L6)
  exact xr_iret (xd dX11_size 10 rfl) rfl (by decide) (by decide) (fun q => by cases q) ⟨_, _, _, rfl, rfl, h⟩
def w_X11_checkOctet (p1 : Int) (p2 : Int) (p3 : Int) (J : zM) (L : yM) (Q : zM → yM → Prop) (X : String → zM → yM → Prop) : Prop := w_X11_checkDatagram p1 p2 J L (fun J1 L2 => R32 p3 ∧ (if p3 < 0 then X "java/lang/IndexOutOfBoundsException" J1 L2 else ((0 : Int) ≤ p1 ∧ p1 < 2) ∧ w_X4_lengthOf (nt p1) p2 J1 L2 (fun r9 J7 L8 => R32 p3 ∧ R32 r9 ∧ (if p3 < r9 then Q J7 L8 else X "java/lang/IndexOutOfBoundsException" J7 L8)))) X
set_option maxHeartbeats 4000000 in
set_option maxRecDepth 100000 in
theorem v_X11_checkOctet {b : Nat} {dC : Nat → ClassId} {dI : Nat → Nat → Nat} {cA : Nat → ClassId} {ts : Nat → Nat} {l : Launch} {n : Nat} {R : Nat → Nat → Option Nat} (hst : l.stackTraces = false) (hn : 491 ≤ n) (hR : xRk R) {p1 : Int} {p2 : Int} {p3 : Int}  {J : zM} {L : yM} {Q : zM → yM → Prop} {X : String → zM → yM → Prop} (h : w_X11_checkOctet p1 p2 p3 J L Q X) : xCn (xGm b dC dI cA ts) l mX11_checkOctet [.ref 0, .int (oI p1), .int (oI p2), .int (oI p3)] false (n, R, zi J, li L) 3 18 (zQ0 n R Q) (zQx n R X) := by
  refine xCn.ofJ (by decide) (Nat.le_of_ble_eq_true rfl) ?_
  show xJ _ _ _ _ _ _ _ _ _ 0 [(0, .ref 0), (1, .int (oI p1)), (2, .int (oI p2)), (3, .int (oI p3))] [] _ _ _ _ _
  unfold w_X11_checkOctet at h
  refine xr_aload_n (xd dX11_checkOctet 0 rfl) 0 rfl ?_
  refine xr_iload_n (xd dX11_checkOctet 1 rfl) 1 rfl ?_
  refine xr_iload_n (xd dX11_checkOctet 2 rfl) 2 rfl ?_
  refine xr_callV mX11_checkDatagram 2 [.int (oI p1), .int (oI p2)] (xd dX11_checkOctet 3 rfl) l11_146 kX11_checkDatagram rfl (lt491 hn (by decide)) kd_0 (by decide) rfl (by decide) (Nat.le_of_ble_eq_true rfl) (v_X11_checkDatagram hst hn hR  h) (by decide) (by decide) (fun r_ M_ h_ => ?_) (fun _ _ h_ => h_)
  obtain ⟨J1, L2, rfl, rfl, h⟩ := h_
  show xJ _ _ _ _ _ _ _ _ _ 6 [(0, .ref 0), (1, .int (oI p1)), (2, .int (oI p2)), (3, .int (oI p3))] [] _ _ _ (zi J1) (li L2)
  refine xr_iload_n (xd dX11_checkOctet 4 rfl) 3 rfl ?_
  obtain ⟨o3, h⟩ := h
  refine zr_if_lt 24 (xd dX11_checkOctet 5 rfl) (by decide) o3 (fun c4 => ?_) (fun c4 => ?_)
  · replace h := ifp h c4
    exact xr_throw hst 11 kT_11_187_191 (by decide) rfl (xd dX11_checkOctet 14 rfl) (xd dX11_checkOctet 15 rfl) (xd dX11_checkOctet 16 rfl) (xd dX11_checkOctet 17 rfl) (xd dX11_checkOctet 18 rfl) (Nat.le_of_ble_eq_true rfl |> fun q => ⟨q, Nat.le_of_ble_eq_true rfl⟩) (by decide) (by decide) ⟨_, _, rfl, h⟩
  · replace h := ifn h c4
    refine xr_iload_n (xd dX11_checkOctet 6 rfl) 3 rfl ?_
    refine xr_aload_n (xd dX11_checkOctet 7 rfl) 0 rfl ?_
    refine xr_getR (b := 1) 11 0 (xd dX11_checkOctet 8 rfl) f11_11 (by decide) (by decide) (lt491 hn (by decide)) kd_0 rfl (r_0_0 hR) ?_
    refine xr_iload_n (xd dX11_checkOctet 9 rfl) 1 rfl ?_
    obtain ⟨o5, h⟩ := h
    refine zr_aaload (b := (nt p1)) 4 (xd dX11_checkOctet 10 rfl) (lt491 hn (by decide)) (by decide) (by decide) kd_1 ln_1 (by decide) o5 (ntI hR o5) ?_
    refine xr_iload_n (xd dX11_checkOctet 11 rfl) 2 rfl ?_
    refine xr_callV mX4_lengthOf 1 [.int (oI p2)] (xd dX11_checkOctet 12 rfl) l11_149 kX4_lengthOf rfl (lt491 hn (rows_lt0 (nt_hr o5))) (rows_kd (nt_hr o5)).1 (by decide) rfl (by decide) (Nat.le_of_ble_eq_true rfl) (v_X4_lengthOf hn hR (nt_hr o5) h) (by decide) (by decide) (fun r_ M_ h_ => ?_) (fun _ _ h_ => h_.elim)
    obtain ⟨r9, J7, L8, rfl, rfl, h⟩ := h_
    show xJ _ _ _ _ _ _ _ _ _ 21 [(0, .ref 0), (1, .int (oI p1)), (2, .int (oI p2)), (3, .int (oI p3))] [.int (oI r9), .int (oI p3)] _ _ _ (zi J7) (li L8)
    obtain ⟨o10, h⟩ := h
    obtain ⟨o11, h⟩ := h
    refine zr_icmp_lt 34 (xd dX11_checkOctet 13 rfl) (by decide) o10 o11 (fun c12 => ?_) (fun c12 => ?_)
    · replace h := ifp h c12
      exact xr_vret (xd dX11_checkOctet 19 rfl) rfl (by decide) (by decide) (fun q => by cases q) ⟨_, _, rfl, rfl, h⟩
    · replace h := ifn h c12
      exact xr_throw hst 11 kT_11_187_191 (by decide) rfl (xd dX11_checkOctet 14 rfl) (xd dX11_checkOctet 15 rfl) (xd dX11_checkOctet 16 rfl) (xd dX11_checkOctet 17 rfl) (xd dX11_checkOctet 18 rfl) (Nat.le_of_ble_eq_true rfl |> fun q => ⟨q, Nat.le_of_ble_eq_true rfl⟩) (by decide) (by decide) ⟨_, _, rfl, h⟩
def w_X11_octet (p1 : Int) (p2 : Int) (p3 : Int) (J : zM) (L : yM) (Q : Int → zM → yM → Prop) (X : String → zM → yM → Prop) : Prop := w_X11_checkOctet p1 p2 p3 J L (fun J1 L2 => ((0 : Int) ≤ p1 ∧ p1 < 2) ∧ w_X4_octetOf (nt p1) p2 p3 J1 L2 (fun r7 J5 L6 => Q r7 J5 L6)) X
set_option maxHeartbeats 4000000 in
set_option maxRecDepth 100000 in
theorem v_X11_octet {b : Nat} {dC : Nat → ClassId} {dI : Nat → Nat → Nat} {cA : Nat → ClassId} {ts : Nat → Nat} {l : Launch} {n : Nat} {R : Nat → Nat → Option Nat} (hst : l.stackTraces = false) (hn : 491 ≤ n) (hR : xRk R) {p1 : Int} {p2 : Int} {p3 : Int}  {J : zM} {L : yM} {Q : Int → zM → yM → Prop} {X : String → zM → yM → Prop} (h : w_X11_octet p1 p2 p3 J L Q X) : xCn (xGm b dC dI cA ts) l mX11_octet [.ref 0, .int (oI p1), .int (oI p2), .int (oI p3)] false (n, R, zi J, li L) 3 18 (zQ1 n R Q) (zQx n R X) := by
  refine xCn.ofJ (by decide) (Nat.le_of_ble_eq_true rfl) ?_
  show xJ _ _ _ _ _ _ _ _ _ 0 [(0, .ref 0), (1, .int (oI p1)), (2, .int (oI p2)), (3, .int (oI p3))] [] _ _ _ _ _
  unfold w_X11_octet at h
  refine xr_aload_n (xd dX11_octet 0 rfl) 0 rfl ?_
  refine xr_iload_n (xd dX11_octet 1 rfl) 1 rfl ?_
  refine xr_iload_n (xd dX11_octet 2 rfl) 2 rfl ?_
  refine xr_iload_n (xd dX11_octet 3 rfl) 3 rfl ?_
  refine xr_callV mX11_checkOctet 3 [.int (oI p1), .int (oI p2), .int (oI p3)] (xd dX11_octet 4 rfl) l11_153 kX11_checkOctet rfl (lt491 hn (by decide)) kd_0 (by decide) rfl (by decide) (Nat.le_of_ble_eq_true rfl) (v_X11_checkOctet hst hn hR  h) (by decide) (by decide) (fun r_ M_ h_ => ?_) (fun _ _ h_ => h_)
  obtain ⟨J1, L2, rfl, rfl, h⟩ := h_
  show xJ _ _ _ _ _ _ _ _ _ 7 [(0, .ref 0), (1, .int (oI p1)), (2, .int (oI p2)), (3, .int (oI p3))] [] _ _ _ (zi J1) (li L2)
  refine xr_aload_n (xd dX11_octet 5 rfl) 0 rfl ?_
  refine xr_getR (b := 1) 11 0 (xd dX11_octet 6 rfl) f11_11 (by decide) (by decide) (lt491 hn (by decide)) kd_0 rfl (r_0_0 hR) ?_
  refine xr_iload_n (xd dX11_octet 7 rfl) 1 rfl ?_
  obtain ⟨o3, h⟩ := h
  refine zr_aaload (b := (nt p1)) 4 (xd dX11_octet 8 rfl) (lt491 hn (by decide)) (by decide) (by decide) kd_1 ln_1 (by decide) o3 (ntI hR o3) ?_
  refine xr_iload_n (xd dX11_octet 9 rfl) 2 rfl ?_
  refine xr_iload_n (xd dX11_octet 10 rfl) 3 rfl ?_
  refine xr_callV mX4_octetOf 2 [.int (oI p2), .int (oI p3)] (xd dX11_octet 11 rfl) l11_157 kX4_octetOf rfl (lt491 hn (rows_lt0 (nt_hr o3))) (rows_kd (nt_hr o3)).1 (by decide) rfl (by decide) (Nat.le_of_ble_eq_true rfl) (v_X4_octetOf hn hR (nt_hr o3) h) (by decide) (by decide) (fun r_ M_ h_ => ?_) (fun _ _ h_ => h_.elim)
  obtain ⟨r7, J5, L6, rfl, rfl, h⟩ := h_
  show xJ _ _ _ _ _ _ _ _ _ 18 [(0, .ref 0), (1, .int (oI p1)), (2, .int (oI p2)), (3, .int (oI p3))] [.int (oI r7)] _ _ _ (zi J5) (li L6)
  exact xr_iret (xd dX11_octet 12 rfl) rfl (by decide) (by decide) (fun q => by cases q) ⟨_, _, _, rfl, rfl, h⟩
def w_X11_come (p1 : Int) (p2 : Int) (J : zM) (L : yM) (Q : Int → zM → yM → Prop) : Prop := ((0 : Int) ≤ p1 ∧ p1 < 2) ∧ ((0 : Int) ≤ p1 ∧ p1 < 2) ∧ w_X1_load (nt p1) p2 J L (fun J5 L6 => ((0 : Int) ≤ p1 ∧ p1 < 2) ∧ w_X4_drop (nt p1) p2 J5 L6 (fun J9 L10 => zl_zz (fun K11 x12 x13 J14 L15 => R32 x13 ∧ (if x13 < 100 then w_X1_hasMore J14 L15 (fun r20 J18 L19 => R32 r20 ∧ (if r20 = 0 then Q x12 J18 L19 else R32 (J18 (sd p1) 12) ∧ (if (J18 (sd p1) 12) = 4 then Q x12 J18 L19 else w_X1_cutRecord J18 L19 (fun r27 J25 L26 => R32 r27 ∧ (if r27 = 0 then ∀ J57 : zM, J57 = zs J25 ((sd p1) + 37) 0 ((J25 ((sd p1) + 37) 0) + 1) → Q x12 J57 L26 else w_X8_opens (sd p1) J25 L26 (fun r32 J30 L31 => ∀ K36 : Int → zM → yM → Prop, (∀ (x33 : Int) (J34 : zM) (L35 : yM), (K11 x33 (x13 + 1) J34 L35) → K36 x33 J34 L35) → R32 r32 ∧ (if r32 = 0 then K36 x12 J30 L31 else w_X8_hear (sd p1) J30 L31 (fun r41 J39 L40 => w_X8_act (sd p1) r41 J39 L40 (fun J42 L43 => zl_z (fun K44 x45 J46 L47 => R32 x45 ∧ (if x45 < 5 then w_X8_hasNext (sd p1) J46 L47 (fun r52 J50 L51 => R32 r52 ∧ (if r52 = 0 then K36 (x12 + 1) J50 L51 else w_X8_takeNext (sd p1) J50 L51 (fun J55 L56 => K44 (x45 + 1) J55 L56))) else K36 (x12 + 1) J46 L47)) 0 J42 L43))))))))) else Q x12 J14 L15)) 0 0 J9 L10))
set_option maxHeartbeats 4000000 in
set_option maxRecDepth 100000 in
theorem v_X11_come {b : Nat} {dC : Nat → ClassId} {dI : Nat → Nat → Nat} {cA : Nat → ClassId} {ts : Nat → Nat} {l : Launch} {n : Nat} {R : Nat → Nat → Option Nat} {al : Bool} (hn : 491 ≤ n) (hR : xRk R) {p1 : Int} {p2 : Int}  {J : zM} {L : yM} {Q : Int → zM → yM → Prop} (h : w_X11_come p1 p2 J L Q) : xCn (xGm b dC dI cA ts) l mX11_come [.ref 0, .int (oI p1), .int (oI p2)] al (n, R, zi J, li L) 0 0 (zQ1 n R Q) (fun _ _ => False) := by
  refine xCn.ofJ (by decide) (Nat.le_of_ble_eq_true rfl) ?_
  show xJ _ _ _ _ _ _ _ _ _ 0 [(0, .ref 0), (1, .int (oI p1)), (2, .int (oI p2))] [] _ _ _ _ _
  unfold w_X11_come at h
  refine xr_aload_n (xd dX11_come 0 rfl) 0 rfl ?_
  refine xr_getR (b := 2) 11 1 (xd dX11_come 1 rfl) f11_17 (by decide) (by decide) (lt491 hn (by decide)) kd_0 rfl (r_0_1 hR) ?_
  refine xr_iload_n (xd dX11_come 2 rfl) 1 rfl ?_
  obtain ⟨o1, h⟩ := h
  refine zr_aaload (b := (sd p1)) 5 (xd dX11_come 3 rfl) (lt491 hn (by decide)) (by decide) (by decide) kd_2 ln_2 (by decide) o1 (sdI hR o1) ?_
  refine xr_astore_n [(0, .ref 0), (1, .int (oI p1)), (2, .int (oI p2)), (3, .ref (sd p1))] (xd dX11_come 4 rfl) rfl (by decide) rfl ?_
  refine xr_aload_n (xd dX11_come 5 rfl) 0 rfl ?_
  refine xr_getR (b := 3) 11 2 (xd dX11_come 6 rfl) f11_24 (by decide) (by decide) (lt491 hn (by decide)) kd_0 rfl (r_0_2 hR) ?_
  refine xr_aload_n (xd dX11_come 7 rfl) 0 rfl ?_
  refine xr_getR (b := 1) 11 0 (xd dX11_come 8 rfl) f11_11 (by decide) (by decide) (lt491 hn (by decide)) kd_0 rfl (r_0_0 hR) ?_
  refine xr_iload_n (xd dX11_come 9 rfl) 1 rfl ?_
  obtain ⟨o3, h⟩ := h
  refine zr_aaload (b := (nt p1)) 4 (xd dX11_come 10 rfl) (lt491 hn (by decide)) (by decide) (by decide) kd_1 ln_1 (by decide) o3 (ntI hR o3) ?_
  refine xr_iload_n (xd dX11_come 11 rfl) 2 rfl ?_
  refine xr_callV mX1_load 2 [.ref (nt p1), .int (oI p2)] (xd dX11_come 12 rfl) l11_222 kX1_load rfl (lt491 hn (by decide)) kd_3 (by decide) rfl (by decide) (Nat.le_of_ble_eq_true rfl) (v_X1_load hn hR (nt_hr o3) h) (by decide) (by decide) (fun r_ M_ h_ => ?_) (fun _ _ h_ => h_.elim)
  obtain ⟨J5, L6, rfl, rfl, h⟩ := h_
  show xJ _ _ _ _ _ _ _ _ _ 21 [(0, .ref 0), (1, .int (oI p1)), (2, .int (oI p2)), (3, .ref (sd p1))] [] _ _ _ (zi J5) (li L6)
  refine xr_aload_n (xd dX11_come 13 rfl) 0 rfl ?_
  refine xr_getR (b := 1) 11 0 (xd dX11_come 14 rfl) f11_11 (by decide) (by decide) (lt491 hn (by decide)) kd_0 rfl (r_0_0 hR) ?_
  refine xr_iload_n (xd dX11_come 15 rfl) 1 rfl ?_
  obtain ⟨o7, h⟩ := h
  refine zr_aaload (b := (nt p1)) 4 (xd dX11_come 16 rfl) (lt491 hn (by decide)) (by decide) (by decide) kd_1 ln_1 (by decide) o7 (ntI hR o7) ?_
  refine xr_iload_n (xd dX11_come 17 rfl) 2 rfl ?_
  refine xr_callV mX4_drop 1 [.int (oI p2)] (xd dX11_come 18 rfl) l11_164 kX4_drop rfl (lt491 hn (rows_lt0 (nt_hr o7))) (rows_kd (nt_hr o7)).1 (by decide) rfl (by decide) (Nat.le_of_ble_eq_true rfl) (v_X4_drop hn hR (nt_hr o7) h) (by decide) (by decide) (fun r_ M_ h_ => ?_) (fun _ _ h_ => h_.elim)
  obtain ⟨J9, L10, rfl, rfl, h⟩ := h_
  show xJ _ _ _ _ _ _ _ _ _ 31 [(0, .ref 0), (1, .int (oI p1)), (2, .int (oI p2)), (3, .ref (sd p1))] [] _ _ _ (zi J9) (li L10)
  refine xr_iconst (v := oI 0) (xd dX11_come 19 rfl) (by decide) ?_
  refine xr_istore [(0, .ref 0), (1, .int (oI p1)), (2, .int (oI p2)), (3, .ref (sd p1)), (4, .int (oI 0))] (xd dX11_come 20 rfl) (by decide) rfl ?_
  refine xr_iconst (v := oI 0) (xd dX11_come 21 rfl) (by decide) ?_
  refine xr_istore [(0, .ref 0), (1, .int (oI p1)), (2, .int (oI p2)), (3, .ref (sd p1)), (4, .int (oI 0)), (5, .int (oI 0))] (xd dX11_come 22 rfl) (by decide) rfl ?_
  refine xJ.pick (ls' := [(0, .ref 0), (3, .ref (sd p1)), (4, .int (oI 0)), (5, .int (oI 0))]) [0, 3, 4, 5] rfl ?_
  refine h (fun x12 x13 J14 L15 => xJ (xGm b dC dI cA ts) l mX11_come 0 0 (zQ1 n R Q) (fun _ _ => False) 0 0 37 [(0, .ref 0), (3, .ref (sd p1)), (4, .int (oI x12)), (5, .int (oI x13))] [] al n R (zi J14) (li L15)) ?_
  intro x12 x13 J14 L15 h
  show xJ _ _ _ _ _ _ _ _ _ 37 [(0, .ref 0), (3, .ref (sd p1)), (4, .int (oI x12)), (5, .int (oI x13))] [] _ _ _ _ _
  refine xr_iload (xd dX11_come 23 rfl) 3 rfl ?_
  refine xr_bipush (v := oI 100) (xd dX11_come 24 rfl) (by decide) ?_
  obtain ⟨o16, h⟩ := h
  refine zr_icmp_ge 147 (xd dX11_come 25 rfl) (by decide) o16 (by decide) (fun c17 => ?_) (fun c17 => ?_)
  · replace h := ifn h c17
    refine xr_iload (xd dX11_come 76 rfl) 2 rfl ?_
    exact xr_iret (xd dX11_come 77 rfl) rfl (by decide) (by decide) (fun _ => rfl) ⟨_, _, _, rfl, rfl, h⟩
  · replace h := ifp h c17
    refine xr_aload_n (xd dX11_come 26 rfl) 0 rfl ?_
    refine xr_getR (b := 3) 11 2 (xd dX11_come 27 rfl) f11_24 (by decide) (by decide) (lt491 hn (by decide)) kd_0 rfl (r_0_2 hR) ?_
    refine xr_callV mX1_hasMore 0 [] (xd dX11_come 28 rfl) l11_226 kX1_hasMore rfl (lt491 hn (by decide)) kd_3 (by decide) rfl (by decide) (Nat.le_of_ble_eq_true rfl) (v_X1_hasMore hn hR  h) (by decide) (by decide) (fun r_ M_ h_ => ?_) (fun _ _ h_ => h_.elim)
    obtain ⟨r20, J18, L19, rfl, rfl, h⟩ := h_
    show xJ _ _ _ _ _ _ _ _ _ 51 [(0, .ref 0), (3, .ref (sd p1)), (4, .int (oI x12)), (5, .int (oI x13))] [.int (oI r20)] _ _ _ (zi J18) (li L19)
    obtain ⟨o21, h⟩ := h
    refine zr_if_eq 147 (xd dX11_come 29 rfl) (by decide) o21 (fun c22 => ?_) (fun c22 => ?_)
    · replace h := ifp h c22
      refine xr_iload (xd dX11_come 76 rfl) 2 rfl ?_
      exact xr_iret (xd dX11_come 77 rfl) rfl (by decide) (by decide) (fun _ => rfl) ⟨_, _, _, rfl, rfl, h⟩
    · replace h := ifn h c22
      refine xr_aload_n (xd dX11_come 30 rfl) 1 rfl ?_
      refine zr_getI 8 12 12 rfl (xd dX11_come 31 rfl) f11_134 (by decide) (by decide) (lt491 hn (ltS0 (sd_he o1))) (kdS_0 (sd_he o1)) rfl ?_
      refine xr_iconst (v := oI 4) (xd dX11_come 32 rfl) (by decide) ?_
      obtain ⟨o23, h⟩ := h
      refine zr_icmp_eq 147 (xd dX11_come 33 rfl) (by decide) o23 (by decide) (fun c24 => ?_) (fun c24 => ?_)
      · replace h := ifp h c24
        refine xr_iload (xd dX11_come 76 rfl) 2 rfl ?_
        exact xr_iret (xd dX11_come 77 rfl) rfl (by decide) (by decide) (fun _ => rfl) ⟨_, _, _, rfl, rfl, h⟩
      · replace h := ifn h c24
        refine xr_aload_n (xd dX11_come 34 rfl) 0 rfl ?_
        refine xr_getR (b := 3) 11 2 (xd dX11_come 35 rfl) f11_24 (by decide) (by decide) (lt491 hn (by decide)) kd_0 rfl (r_0_2 hR) ?_
        refine xr_callV mX1_cutRecord 0 [] (xd dX11_come 36 rfl) l11_230 kX1_cutRecord rfl (lt491 hn (by decide)) kd_3 (by decide) rfl (by decide) (Nat.le_of_ble_eq_true rfl) (v_X1_cutRecord hn hR  h) (by decide) (by decide) (fun r_ M_ h_ => ?_) (fun _ _ h_ => h_.elim)
        obtain ⟨r27, J25, L26, rfl, rfl, h⟩ := h_
        show xJ _ _ _ _ _ _ _ _ _ 69 [(0, .ref 0), (3, .ref (sd p1)), (4, .int (oI x12)), (5, .int (oI x13))] [.int (oI r27)] _ _ _ (zi J25) (li L26)
        obtain ⟨o28, h⟩ := h
        refine zr_if_ne 85 (xd dX11_come 37 rfl) (by decide) o28 (fun c29 => ?_) (fun c29 => ?_)
        · replace h := ifn h c29
          refine xr_aload_n (xd dX11_come 48 rfl) 1 rfl ?_
          refine xr_aload_n (xd dX11_come 49 rfl) 0 rfl ?_
          refine xr_getR (b := 3) 11 2 (xd dX11_come 50 rfl) f11_24 (by decide) (by decide) (lt491 hn (by decide)) kd_0 rfl (r_0_2 hR) ?_
          refine xr_callV mX8_opens 1 [.ref 3] (xd dX11_come 51 rfl) l11_236 kX8_opens rfl (lt491 hn (ltS0 (sd_he o1))) (kdS_0 (sd_he o1)) (by decide) rfl (by decide) (Nat.le_of_ble_eq_true rfl) (v_X8_opens hn hR (sd_he o1) h) (by decide) (by decide) (fun r_ M_ h_ => ?_) (fun _ _ h_ => h_.elim)
          obtain ⟨r32, J30, L31, rfl, rfl, h⟩ := h_
          show xJ _ _ _ _ _ _ _ _ _ 93 [(0, .ref 0), (3, .ref (sd p1)), (4, .int (oI x12)), (5, .int (oI x13))] [.int (oI r32)] _ _ _ (zi J30) (li L31)
          replace h := h (fun (x33 : Int) (J34 : zM) (L35 : yM) => xJ (xGm b dC dI cA ts) l mX11_come 0 0 (zQ1 n R Q) (fun _ _ => False) 0 0 141 [(0, .ref 0), (3, .ref (sd p1)), (4, .int (oI x33)), (5, .int (oI x13))] [] al n R (zi J34) (li L35)) (by
            intro x33 J34 L35 h
            show xJ _ _ _ _ _ _ _ _ _ 141 [(0, .ref 0), (3, .ref (sd p1)), (4, .int (oI x33)), (5, .int (oI x13))] [] _ _ _ _ _
            refine zr_iinc [(0, .ref 0), (3, .ref (sd p1)), (4, .int (oI x33)), (5, .int (oI (x13 + 1)))] (xd dX11_come 74 rfl) 3 rfl (by decide) rfl ?_
            refine xr_goto 37 (xd dX11_come 75 rfl) (by decide) ?_
            exact h)
          obtain ⟨o37, h⟩ := h
          refine zr_if_eq 141 (xd dX11_come 52 rfl) (by decide) o37 (fun c38 => ?_) (fun c38 => ?_)
          · replace h := ifp h c38
            exact h
          · replace h := ifn h c38
            refine zr_iinc [(0, .ref 0), (3, .ref (sd p1)), (4, .int (oI (x12 + 1))), (5, .int (oI x13))] (xd dX11_come 53 rfl) 2 rfl (by decide) rfl ?_
            refine xr_aload_n (xd dX11_come 54 rfl) 1 rfl ?_
            refine xr_aload_n (xd dX11_come 55 rfl) 1 rfl ?_
            refine xr_aload_n (xd dX11_come 56 rfl) 0 rfl ?_
            refine xr_getR (b := 3) 11 2 (xd dX11_come 57 rfl) f11_24 (by decide) (by decide) (lt491 hn (by decide)) kd_0 rfl (r_0_2 hR) ?_
            refine xr_callV mX8_hear 1 [.ref 3] (xd dX11_come 58 rfl) l11_240 kX8_hear rfl (lt491 hn (ltS0 (sd_he o1))) (kdS_0 (sd_he o1)) (by decide) rfl (by decide) (Nat.le_of_ble_eq_true rfl) (v_X8_hear hn hR (sd_he o1) h) (by decide) (by decide) (fun r_ M_ h_ => ?_) (fun _ _ h_ => h_.elim)
            obtain ⟨r41, J39, L40, rfl, rfl, h⟩ := h_
            show xJ _ _ _ _ _ _ _ _ _ 108 [(0, .ref 0), (3, .ref (sd p1)), (4, .int (oI (x12 + 1))), (5, .int (oI x13))] [.int (oI r41), .ref (sd p1)] _ _ _ (zi J39) (li L40)
            refine xr_aload_n (xd dX11_come 59 rfl) 0 rfl ?_
            refine xr_getR (b := 3) 11 2 (xd dX11_come 60 rfl) f11_24 (by decide) (by decide) (lt491 hn (by decide)) kd_0 rfl (r_0_2 hR) ?_
            refine xr_callV mX8_act 2 [.int (oI r41), .ref 3] (xd dX11_come 61 rfl) l11_244 kX8_act rfl (lt491 hn (ltS0 (sd_he o1))) (kdS_0 (sd_he o1)) (by decide) rfl (by decide) (Nat.le_of_ble_eq_true rfl) (v_X8_act hn hR (sd_he o1) h) (by decide) (by decide) (fun r_ M_ h_ => ?_) (fun _ _ h_ => h_.elim)
            obtain ⟨J42, L43, rfl, rfl, h⟩ := h_
            show xJ _ _ _ _ _ _ _ _ _ 115 [(0, .ref 0), (3, .ref (sd p1)), (4, .int (oI (x12 + 1))), (5, .int (oI x13))] [] _ _ _ (zi J42) (li L43)
            refine xr_iconst (v := oI 0) (xd dX11_come 62 rfl) (by decide) ?_
            refine xr_istore [(0, .ref 0), (3, .ref (sd p1)), (4, .int (oI (x12 + 1))), (5, .int (oI x13)), (6, .int (oI 0))] (xd dX11_come 63 rfl) (by decide) rfl ?_
            refine h (fun x45 J46 L47 => xJ (xGm b dC dI cA ts) l mX11_come 0 0 (zQ1 n R Q) (fun _ _ => False) 0 0 118 [(0, .ref 0), (3, .ref (sd p1)), (4, .int (oI (x12 + 1))), (5, .int (oI x13)), (6, .int (oI x45))] [] al n R (zi J46) (li L47)) ?_
            intro x45 J46 L47 h
            show xJ _ _ _ _ _ _ _ _ _ 118 [(0, .ref 0), (3, .ref (sd p1)), (4, .int (oI (x12 + 1))), (5, .int (oI x13)), (6, .int (oI x45))] [] _ _ _ _ _
            refine xr_iload (xd dX11_come 64 rfl) 4 rfl ?_
            refine xr_iconst (v := oI 5) (xd dX11_come 65 rfl) (by decide) ?_
            obtain ⟨o48, h⟩ := h
            refine zr_icmp_ge 141 (xd dX11_come 66 rfl) (by decide) o48 (by decide) (fun c49 => ?_) (fun c49 => ?_)
            · replace h := ifn h c49
              refine xJ.pick (ls' := [(0, .ref 0), (3, .ref (sd p1)), (4, .int (oI (x12 + 1))), (5, .int (oI x13))]) [0, 1, 2, 3] rfl ?_
              exact h
            · replace h := ifp h c49
              refine xr_aload_n (xd dX11_come 67 rfl) 1 rfl ?_
              refine xr_callV mX8_hasNext 0 [] (xd dX11_come 68 rfl) l11_248 kX8_hasNext rfl (lt491 hn (ltS0 (sd_he o1))) (kdS_0 (sd_he o1)) (by decide) rfl (by decide) (Nat.le_of_ble_eq_true rfl) (v_X8_hasNext hn hR (sd_he o1) h) (by decide) (by decide) (fun r_ M_ h_ => ?_) (fun _ _ h_ => h_.elim)
              obtain ⟨r52, J50, L51, rfl, rfl, h⟩ := h_
              show xJ _ _ _ _ _ _ _ _ _ 128 [(0, .ref 0), (3, .ref (sd p1)), (4, .int (oI (x12 + 1))), (5, .int (oI x13)), (6, .int (oI x45))] [.int (oI r52)] _ _ _ (zi J50) (li L51)
              obtain ⟨o53, h⟩ := h
              refine zr_if_eq 141 (xd dX11_come 69 rfl) (by decide) o53 (fun c54 => ?_) (fun c54 => ?_)
              · replace h := ifp h c54
                refine xJ.pick (ls' := [(0, .ref 0), (3, .ref (sd p1)), (4, .int (oI (x12 + 1))), (5, .int (oI x13))]) [0, 1, 2, 3] rfl ?_
                exact h
              · replace h := ifn h c54
                refine xr_aload_n (xd dX11_come 70 rfl) 1 rfl ?_
                refine xr_callV mX8_takeNext 0 [] (xd dX11_come 71 rfl) l11_251 kX8_takeNext rfl (lt491 hn (ltS0 (sd_he o1))) (kdS_0 (sd_he o1)) (by decide) rfl (by decide) (Nat.le_of_ble_eq_true rfl) (v_X8_takeNext hn hR (sd_he o1) h) (by decide) (by decide) (fun r_ M_ h_ => ?_) (fun _ _ h_ => h_.elim)
                obtain ⟨J55, L56, rfl, rfl, h⟩ := h_
                show xJ _ _ _ _ _ _ _ _ _ 135 [(0, .ref 0), (3, .ref (sd p1)), (4, .int (oI (x12 + 1))), (5, .int (oI x13)), (6, .int (oI x45))] [] _ _ _ (zi J55) (li L56)
                refine zr_iinc [(0, .ref 0), (3, .ref (sd p1)), (4, .int (oI (x12 + 1))), (5, .int (oI x13)), (6, .int (oI (x45 + 1)))] (xd dX11_come 72 rfl) 4 rfl (by decide) rfl ?_
                refine xr_goto 118 (xd dX11_come 73 rfl) (by decide) ?_
                exact h
        · replace h := ifp h c29
          refine xr_aload_n (xd dX11_come 38 rfl) 1 rfl ?_
          refine xr_getR (b := ((sd p1) + 37)) 8 8 (xd dX11_come 39 rfl) f11_233 (by decide) (by decide) (lt491 hn (ltS0 (sd_he o1))) (kdS_0 (sd_he o1)) rfl (rS_0_8 hR (sd_he o1)) ?_
          refine xr_iconst (v := oI 0) (xd dX11_come 40 rfl) (by decide) ?_
          refine xr_dup2 (xd dX11_come 41 rfl) rfl rfl ?_
          refine zr_iaload (xd dX11_come 42 rfl) (lt491 hn (ltS (sd_he o1) (by decide))) (kdS_37 (sd_he o1)) (lnS_37 (sd_he o1)) (by decide) ⟨by decide, by decide⟩ ?_
          refine xr_iconst (v := oI 1) (xd dX11_come 43 rfl) (by decide) ?_
          refine zr_iadd (xd dX11_come 44 rfl) ?_
          obtain ⟨J57, e_J57⟩ : ∃ z_ : zM, z_ = zs J25 ((sd p1) + 37) 0 ((J25 ((sd p1) + 37) 0) + 1) := ⟨_, rfl⟩
          replace h := h J57 e_J57
          refine zr_iastore e_J57 (xd dX11_come 45 rfl) (lt491 hn (ltS (sd_he o1) (by decide))) (kdS_37 (sd_he o1)) (lnS_37 (sd_he o1)) (by decide) ⟨by decide, by decide⟩ ?_
          refine xr_iload (xd dX11_come 46 rfl) 2 rfl ?_
          exact xr_iret (xd dX11_come 47 rfl) rfl (by decide) (by decide) (fun _ => rfl) ⟨_, _, _, rfl, rfl, h⟩
def w_X11_deliver (p1 : Int) (p2 : Int) (J : zM) (L : yM) (Q : Int → zM → yM → Prop) (X : String → zM → yM → Prop) : Prop := w_X11_checkDatagram p1 p2 J L (fun J1 L2 => w_X11_come p1 p2 J1 L2 (fun r5 J3 L4 => Q r5 J3 L4)) X
set_option maxHeartbeats 4000000 in
set_option maxRecDepth 100000 in
theorem v_X11_deliver {b : Nat} {dC : Nat → ClassId} {dI : Nat → Nat → Nat} {cA : Nat → ClassId} {ts : Nat → Nat} {l : Launch} {n : Nat} {R : Nat → Nat → Option Nat} (hst : l.stackTraces = false) (hn : 491 ≤ n) (hR : xRk R) {p1 : Int} {p2 : Int}  {J : zM} {L : yM} {Q : Int → zM → yM → Prop} {X : String → zM → yM → Prop} (h : w_X11_deliver p1 p2 J L Q X) : xCn (xGm b dC dI cA ts) l mX11_deliver [.ref 0, .int (oI p1), .int (oI p2)] false (n, R, zi J, li L) 2 12 (zQ1 n R Q) (zQx n R X) := by
  refine xCn.ofJ (by decide) (Nat.le_of_ble_eq_true rfl) ?_
  show xJ _ _ _ _ _ _ _ _ _ 0 [(0, .ref 0), (1, .int (oI p1)), (2, .int (oI p2))] [] _ _ _ _ _
  unfold w_X11_deliver at h
  refine xr_aload_n (xd dX11_deliver 0 rfl) 0 rfl ?_
  refine xr_iload_n (xd dX11_deliver 1 rfl) 1 rfl ?_
  refine xr_iload_n (xd dX11_deliver 2 rfl) 2 rfl ?_
  refine xr_callV mX11_checkDatagram 2 [.int (oI p1), .int (oI p2)] (xd dX11_deliver 3 rfl) l11_146 kX11_checkDatagram rfl (lt491 hn (by decide)) kd_0 (by decide) rfl (by decide) (Nat.le_of_ble_eq_true rfl) (v_X11_checkDatagram hst hn hR  h) (by decide) (by decide) (fun r_ M_ h_ => ?_) (fun _ _ h_ => h_)
  obtain ⟨J1, L2, rfl, rfl, h⟩ := h_
  show xJ _ _ _ _ _ _ _ _ _ 6 [(0, .ref 0), (1, .int (oI p1)), (2, .int (oI p2))] [] _ _ _ (zi J1) (li L2)
  refine xr_aload_n (xd dX11_deliver 4 rfl) 0 rfl ?_
  refine xr_iload_n (xd dX11_deliver 5 rfl) 1 rfl ?_
  refine xr_iload_n (xd dX11_deliver 6 rfl) 2 rfl ?_
  refine xr_callV mX11_come 2 [.int (oI p1), .int (oI p2)] (xd dX11_deliver 7 rfl) l11_161 kX11_come rfl (lt491 hn (by decide)) kd_0 (by decide) rfl (by decide) (Nat.le_of_ble_eq_true rfl) (v_X11_come hn hR  h) (by decide) (by decide) (fun r_ M_ h_ => ?_) (fun _ _ h_ => h_.elim)
  obtain ⟨r5, J3, L4, rfl, rfl, h⟩ := h_
  show xJ _ _ _ _ _ _ _ _ _ 12 [(0, .ref 0), (1, .int (oI p1)), (2, .int (oI p2))] [.int (oI r5)] _ _ _ (zi J3) (li L4)
  exact xr_iret (xd dX11_deliver 8 rfl) rfl (by decide) (by decide) (fun q => by cases q) ⟨_, _, _, rfl, rfl, h⟩
def w_X11_lose (p1 : Int) (p2 : Int) (J : zM) (L : yM) (Q : Int → zM → yM → Prop) (X : String → zM → yM → Prop) : Prop := w_X11_checkDatagram p1 p2 J L (fun J1 L2 => ((0 : Int) ≤ p1 ∧ p1 < 2) ∧ w_X4_drop (nt p1) p2 J1 L2 (fun J5 L6 => ((0 : Int) ≤ p1 ∧ p1 < 2) ∧ Q (J5 (nt p1) 5) J5 L6)) X
set_option maxHeartbeats 4000000 in
set_option maxRecDepth 100000 in
theorem v_X11_lose {b : Nat} {dC : Nat → ClassId} {dI : Nat → Nat → Nat} {cA : Nat → ClassId} {ts : Nat → Nat} {l : Launch} {n : Nat} {R : Nat → Nat → Option Nat} (hst : l.stackTraces = false) (hn : 491 ≤ n) (hR : xRk R) {p1 : Int} {p2 : Int}  {J : zM} {L : yM} {Q : Int → zM → yM → Prop} {X : String → zM → yM → Prop} (h : w_X11_lose p1 p2 J L Q X) : xCn (xGm b dC dI cA ts) l mX11_lose [.ref 0, .int (oI p1), .int (oI p2)] false (n, R, zi J, li L) 2 12 (zQ1 n R Q) (zQx n R X) := by
  refine xCn.ofJ (by decide) (Nat.le_of_ble_eq_true rfl) ?_
  show xJ _ _ _ _ _ _ _ _ _ 0 [(0, .ref 0), (1, .int (oI p1)), (2, .int (oI p2))] [] _ _ _ _ _
  unfold w_X11_lose at h
  refine xr_aload_n (xd dX11_lose 0 rfl) 0 rfl ?_
  refine xr_iload_n (xd dX11_lose 1 rfl) 1 rfl ?_
  refine xr_iload_n (xd dX11_lose 2 rfl) 2 rfl ?_
  refine xr_callV mX11_checkDatagram 2 [.int (oI p1), .int (oI p2)] (xd dX11_lose 3 rfl) l11_146 kX11_checkDatagram rfl (lt491 hn (by decide)) kd_0 (by decide) rfl (by decide) (Nat.le_of_ble_eq_true rfl) (v_X11_checkDatagram hst hn hR  h) (by decide) (by decide) (fun r_ M_ h_ => ?_) (fun _ _ h_ => h_)
  obtain ⟨J1, L2, rfl, rfl, h⟩ := h_
  show xJ _ _ _ _ _ _ _ _ _ 6 [(0, .ref 0), (1, .int (oI p1)), (2, .int (oI p2))] [] _ _ _ (zi J1) (li L2)
  refine xr_aload_n (xd dX11_lose 4 rfl) 0 rfl ?_
  refine xr_getR (b := 1) 11 0 (xd dX11_lose 5 rfl) f11_11 (by decide) (by decide) (lt491 hn (by decide)) kd_0 rfl (r_0_0 hR) ?_
  refine xr_iload_n (xd dX11_lose 6 rfl) 1 rfl ?_
  obtain ⟨o3, h⟩ := h
  refine zr_aaload (b := (nt p1)) 4 (xd dX11_lose 7 rfl) (lt491 hn (by decide)) (by decide) (by decide) kd_1 ln_1 (by decide) o3 (ntI hR o3) ?_
  refine xr_iload_n (xd dX11_lose 8 rfl) 2 rfl ?_
  refine xr_callV mX4_drop 1 [.int (oI p2)] (xd dX11_lose 9 rfl) l11_164 kX4_drop rfl (lt491 hn (rows_lt0 (nt_hr o3))) (rows_kd (nt_hr o3)).1 (by decide) rfl (by decide) (Nat.le_of_ble_eq_true rfl) (v_X4_drop hn hR (nt_hr o3) h) (by decide) (by decide) (fun r_ M_ h_ => ?_) (fun _ _ h_ => h_.elim)
  obtain ⟨J5, L6, rfl, rfl, h⟩ := h_
  show xJ _ _ _ _ _ _ _ _ _ 16 [(0, .ref 0), (1, .int (oI p1)), (2, .int (oI p2))] [] _ _ _ (zi J5) (li L6)
  refine xr_aload_n (xd dX11_lose 10 rfl) 0 rfl ?_
  refine xr_getR (b := 1) 11 0 (xd dX11_lose 11 rfl) f11_11 (by decide) (by decide) (lt491 hn (by decide)) kd_0 rfl (r_0_0 hR) ?_
  refine xr_iload_n (xd dX11_lose 12 rfl) 1 rfl ?_
  obtain ⟨o7, h⟩ := h
  refine zr_aaload (b := (nt p1)) 4 (xd dX11_lose 13 rfl) (lt491 hn (by decide)) (by decide) (by decide) kd_1 ln_1 (by decide) o7 (ntI hR o7) ?_
  refine zr_getI 4 5 5 rfl (xd dX11_lose 14 rfl) f11_143 (by decide) (by decide) (lt491 hn (rows_lt0 (nt_hr o7))) (rows_kd (nt_hr o7)).1 rfl ?_
  exact xr_iret (xd dX11_lose 15 rfl) rfl (by decide) (by decide) (fun q => by cases q) ⟨_, _, _, rfl, rfl, h⟩
def w_X11_twice (p1 : Int) (p2 : Int) (J : zM) (L : yM) (Q : Int → zM → yM → Prop) (X : String → zM → yM → Prop) : Prop := w_X11_checkDatagram p1 p2 J L (fun J1 L2 => ((0 : Int) ≤ p1 ∧ p1 < 2) ∧ w_X4_addCopy (nt p1) p2 J1 L2 (fun r7 J5 L6 => R32 r7 ∧ (if r7 = 0 then Q (-1) J5 L6 else ((0 : Int) ≤ p1 ∧ p1 < 2) ∧ Q (J5 (nt p1) 5) J5 L6))) X
set_option maxHeartbeats 4000000 in
set_option maxRecDepth 100000 in
theorem v_X11_twice {b : Nat} {dC : Nat → ClassId} {dI : Nat → Nat → Nat} {cA : Nat → ClassId} {ts : Nat → Nat} {l : Launch} {n : Nat} {R : Nat → Nat → Option Nat} (hst : l.stackTraces = false) (hn : 491 ≤ n) (hR : xRk R) {p1 : Int} {p2 : Int}  {J : zM} {L : yM} {Q : Int → zM → yM → Prop} {X : String → zM → yM → Prop} (h : w_X11_twice p1 p2 J L Q X) : xCn (xGm b dC dI cA ts) l mX11_twice [.ref 0, .int (oI p1), .int (oI p2)] false (n, R, zi J, li L) 2 12 (zQ1 n R Q) (zQx n R X) := by
  refine xCn.ofJ (by decide) (Nat.le_of_ble_eq_true rfl) ?_
  show xJ _ _ _ _ _ _ _ _ _ 0 [(0, .ref 0), (1, .int (oI p1)), (2, .int (oI p2))] [] _ _ _ _ _
  unfold w_X11_twice at h
  refine xr_aload_n (xd dX11_twice 0 rfl) 0 rfl ?_
  refine xr_iload_n (xd dX11_twice 1 rfl) 1 rfl ?_
  refine xr_iload_n (xd dX11_twice 2 rfl) 2 rfl ?_
  refine xr_callV mX11_checkDatagram 2 [.int (oI p1), .int (oI p2)] (xd dX11_twice 3 rfl) l11_146 kX11_checkDatagram rfl (lt491 hn (by decide)) kd_0 (by decide) rfl (by decide) (Nat.le_of_ble_eq_true rfl) (v_X11_checkDatagram hst hn hR  h) (by decide) (by decide) (fun r_ M_ h_ => ?_) (fun _ _ h_ => h_)
  obtain ⟨J1, L2, rfl, rfl, h⟩ := h_
  show xJ _ _ _ _ _ _ _ _ _ 6 [(0, .ref 0), (1, .int (oI p1)), (2, .int (oI p2))] [] _ _ _ (zi J1) (li L2)
  refine xr_aload_n (xd dX11_twice 4 rfl) 0 rfl ?_
  refine xr_getR (b := 1) 11 0 (xd dX11_twice 5 rfl) f11_11 (by decide) (by decide) (lt491 hn (by decide)) kd_0 rfl (r_0_0 hR) ?_
  refine xr_iload_n (xd dX11_twice 6 rfl) 1 rfl ?_
  obtain ⟨o3, h⟩ := h
  refine zr_aaload (b := (nt p1)) 4 (xd dX11_twice 7 rfl) (lt491 hn (by decide)) (by decide) (by decide) kd_1 ln_1 (by decide) o3 (ntI hR o3) ?_
  refine xr_iload_n (xd dX11_twice 8 rfl) 2 rfl ?_
  refine xr_callV mX4_addCopy 1 [.int (oI p2)] (xd dX11_twice 9 rfl) l11_167 kX4_addCopy rfl (lt491 hn (rows_lt0 (nt_hr o3))) (rows_kd (nt_hr o3)).1 (by decide) rfl (by decide) (Nat.le_of_ble_eq_true rfl) (v_X4_addCopy hn hR (nt_hr o3) h) (by decide) (by decide) (fun r_ M_ h_ => ?_) (fun _ _ h_ => h_.elim)
  obtain ⟨r7, J5, L6, rfl, rfl, h⟩ := h_
  show xJ _ _ _ _ _ _ _ _ _ 16 [(0, .ref 0), (1, .int (oI p1)), (2, .int (oI p2))] [.int (oI r7)] _ _ _ (zi J5) (li L6)
  obtain ⟨o8, h⟩ := h
  refine zr_if_eq 31 (xd dX11_twice 10 rfl) (by decide) o8 (fun c9 => ?_) (fun c9 => ?_)
  · replace h := ifp h c9
    refine xr_iconst (v := oI (-1)) (xd dX11_twice 17 rfl) (by decide) ?_
    exact xr_iret (xd dX11_twice 18 rfl) rfl (by decide) (by decide) (fun q => by cases q) ⟨_, _, _, rfl, rfl, h⟩
  · replace h := ifn h c9
    refine xr_aload_n (xd dX11_twice 11 rfl) 0 rfl ?_
    refine xr_getR (b := 1) 11 0 (xd dX11_twice 12 rfl) f11_11 (by decide) (by decide) (lt491 hn (by decide)) kd_0 rfl (r_0_0 hR) ?_
    refine xr_iload_n (xd dX11_twice 13 rfl) 1 rfl ?_
    obtain ⟨o10, h⟩ := h
    refine zr_aaload (b := (nt p1)) 4 (xd dX11_twice 14 rfl) (lt491 hn (by decide)) (by decide) (by decide) kd_1 ln_1 (by decide) o10 (ntI hR o10) ?_
    refine zr_getI 4 5 5 rfl (xd dX11_twice 15 rfl) f11_143 (by decide) (by decide) (lt491 hn (rows_lt0 (nt_hr o10))) (rows_kd (nt_hr o10)).1 rfl ?_
    refine xr_goto 32 (xd dX11_twice 16 rfl) (by decide) ?_
    exact xr_iret (xd dX11_twice 18 rfl) rfl (by decide) (by decide) (fun q => by cases q) ⟨_, _, _, rfl, rfl, h⟩
def w_X11_forge (p1 : Int) (p2 : Int) (p3 : Int) (p4 : Int) (J : zM) (L : yM) (Q : Int → zM → yM → Prop) (X : String → zM → yM → Prop) : Prop := w_X11_checkOctet p1 p2 p3 J L (fun J1 L2 => ((0 : Int) ≤ p1 ∧ p1 < 2) ∧ w_X4_turnOctet (nt p1) p2 p3 p4 J1 L2 (fun J5 L6 => ((0 : Int) ≤ p1 ∧ p1 < 2) ∧ w_X4_octetOf (nt p1) p2 p3 J5 L6 (fun r11 J9 L10 => Q r11 J9 L10))) X
set_option maxHeartbeats 4000000 in
set_option maxRecDepth 100000 in
theorem v_X11_forge {b : Nat} {dC : Nat → ClassId} {dI : Nat → Nat → Nat} {cA : Nat → ClassId} {ts : Nat → Nat} {l : Launch} {n : Nat} {R : Nat → Nat → Option Nat} (hst : l.stackTraces = false) (hn : 491 ≤ n) (hR : xRk R) {p1 : Int} {p2 : Int} {p3 : Int} {p4 : Int}  {J : zM} {L : yM} {Q : Int → zM → yM → Prop} {X : String → zM → yM → Prop} (h : w_X11_forge p1 p2 p3 p4 J L Q X) : xCn (xGm b dC dI cA ts) l mX11_forge [.ref 0, .int (oI p1), .int (oI p2), .int (oI p3), .int (oI p4)] false (n, R, zi J, li L) 3 18 (zQ1 n R Q) (zQx n R X) := by
  refine xCn.ofJ (by decide) (Nat.le_of_ble_eq_true rfl) ?_
  show xJ _ _ _ _ _ _ _ _ _ 0 [(0, .ref 0), (1, .int (oI p1)), (2, .int (oI p2)), (3, .int (oI p3)), (4, .int (oI p4))] [] _ _ _ _ _
  unfold w_X11_forge at h
  refine xr_aload_n (xd dX11_forge 0 rfl) 0 rfl ?_
  refine xr_iload_n (xd dX11_forge 1 rfl) 1 rfl ?_
  refine xr_iload_n (xd dX11_forge 2 rfl) 2 rfl ?_
  refine xr_iload_n (xd dX11_forge 3 rfl) 3 rfl ?_
  refine xr_callV mX11_checkOctet 3 [.int (oI p1), .int (oI p2), .int (oI p3)] (xd dX11_forge 4 rfl) l11_153 kX11_checkOctet rfl (lt491 hn (by decide)) kd_0 (by decide) rfl (by decide) (Nat.le_of_ble_eq_true rfl) (v_X11_checkOctet hst hn hR  h) (by decide) (by decide) (fun r_ M_ h_ => ?_) (fun _ _ h_ => h_)
  obtain ⟨J1, L2, rfl, rfl, h⟩ := h_
  show xJ _ _ _ _ _ _ _ _ _ 7 [(0, .ref 0), (1, .int (oI p1)), (2, .int (oI p2)), (3, .int (oI p3)), (4, .int (oI p4))] [] _ _ _ (zi J1) (li L2)
  refine xr_aload_n (xd dX11_forge 5 rfl) 0 rfl ?_
  refine xr_getR (b := 1) 11 0 (xd dX11_forge 6 rfl) f11_11 (by decide) (by decide) (lt491 hn (by decide)) kd_0 rfl (r_0_0 hR) ?_
  refine xr_iload_n (xd dX11_forge 7 rfl) 1 rfl ?_
  obtain ⟨o3, h⟩ := h
  refine zr_aaload (b := (nt p1)) 4 (xd dX11_forge 8 rfl) (lt491 hn (by decide)) (by decide) (by decide) kd_1 ln_1 (by decide) o3 (ntI hR o3) ?_
  refine xr_iload_n (xd dX11_forge 9 rfl) 2 rfl ?_
  refine xr_iload_n (xd dX11_forge 10 rfl) 3 rfl ?_
  refine xr_iload (xd dX11_forge 11 rfl) 4 rfl ?_
  refine xr_callV mX4_turnOctet 3 [.int (oI p2), .int (oI p3), .int (oI p4)] (xd dX11_forge 12 rfl) l11_171 kX4_turnOctet rfl (lt491 hn (rows_lt0 (nt_hr o3))) (rows_kd (nt_hr o3)).1 (by decide) rfl (by decide) (Nat.le_of_ble_eq_true rfl) (v_X4_turnOctet hn hR (nt_hr o3) h) (by decide) (by decide) (fun r_ M_ h_ => ?_) (fun _ _ h_ => h_.elim)
  obtain ⟨J5, L6, rfl, rfl, h⟩ := h_
  show xJ _ _ _ _ _ _ _ _ _ 20 [(0, .ref 0), (1, .int (oI p1)), (2, .int (oI p2)), (3, .int (oI p3)), (4, .int (oI p4))] [] _ _ _ (zi J5) (li L6)
  refine xr_aload_n (xd dX11_forge 13 rfl) 0 rfl ?_
  refine xr_getR (b := 1) 11 0 (xd dX11_forge 14 rfl) f11_11 (by decide) (by decide) (lt491 hn (by decide)) kd_0 rfl (r_0_0 hR) ?_
  refine xr_iload_n (xd dX11_forge 15 rfl) 1 rfl ?_
  obtain ⟨o7, h⟩ := h
  refine zr_aaload (b := (nt p1)) 4 (xd dX11_forge 16 rfl) (lt491 hn (by decide)) (by decide) (by decide) kd_1 ln_1 (by decide) o7 (ntI hR o7) ?_
  refine xr_iload_n (xd dX11_forge 17 rfl) 2 rfl ?_
  refine xr_iload_n (xd dX11_forge 18 rfl) 3 rfl ?_
  refine xr_callV mX4_octetOf 2 [.int (oI p2), .int (oI p3)] (xd dX11_forge 19 rfl) l11_157 kX4_octetOf rfl (lt491 hn (rows_lt0 (nt_hr o7))) (rows_kd (nt_hr o7)).1 (by decide) rfl (by decide) (Nat.le_of_ble_eq_true rfl) (v_X4_octetOf hn hR (nt_hr o7) h) (by decide) (by decide) (fun r_ M_ h_ => ?_) (fun _ _ h_ => h_.elim)
  obtain ⟨r11, J9, L10, rfl, rfl, h⟩ := h_
  show xJ _ _ _ _ _ _ _ _ _ 31 [(0, .ref 0), (1, .int (oI p1)), (2, .int (oI p2)), (3, .int (oI p3)), (4, .int (oI p4))] [.int (oI r11)] _ _ _ (zi J9) (li L10)
  exact xr_iret (xd dX11_forge 20 rfl) rfl (by decide) (by decide) (fun q => by cases q) ⟨_, _, _, rfl, rfl, h⟩
def w_X11_inject (p1 : Int) (J : zM) (L : yM) (Q : Int → zM → yM → Prop) (X : String → zM → yM → Prop) : Prop := w_X11_checkSide p1 J L (fun J1 L2 => R32 (J1 0 4) ∧ (if (J1 0 4) = 0 then Q (-1) J1 L2 else ((0 : Int) ≤ p1 ∧ p1 < 2) ∧ w_X4_add (nt p1) 5 (J1 0 4) J1 L2 (fun r9 J7 L8 => R32 r9 ∧ (if r9 = 0 then Q (-1) J7 L8 else ∀ J12 : zM, J12 = zs J7 0 4 0 → ((0 : Int) ≤ p1 ∧ p1 < 2) ∧ Q (J12 (nt p1) 5) J12 L8)))) X
set_option maxHeartbeats 4000000 in
set_option maxRecDepth 100000 in
theorem v_X11_inject {b : Nat} {dC : Nat → ClassId} {dI : Nat → Nat → Nat} {cA : Nat → ClassId} {ts : Nat → Nat} {l : Launch} {n : Nat} {R : Nat → Nat → Option Nat} (hst : l.stackTraces = false) (hn : 491 ≤ n) (hR : xRk R) {p1 : Int}  {J : zM} {L : yM} {Q : Int → zM → yM → Prop} {X : String → zM → yM → Prop} (h : w_X11_inject p1 J L Q X) : xCn (xGm b dC dI cA ts) l mX11_inject [.ref 0, .int (oI p1)] false (n, R, zi J, li L) 1 6 (zQ1 n R Q) (zQx n R X) := by
  refine xCn.ofJ (by decide) (Nat.le_of_ble_eq_true rfl) ?_
  show xJ _ _ _ _ _ _ _ _ _ 0 [(0, .ref 0), (1, .int (oI p1))] [] _ _ _ _ _
  unfold w_X11_inject at h
  refine xr_aload_n (xd dX11_inject 0 rfl) 0 rfl ?_
  refine xr_iload_n (xd dX11_inject 1 rfl) 1 rfl ?_
  refine xr_callV mX11_checkSide 1 [.int (oI p1)] (xd dX11_inject 2 rfl) l11_53 kX11_checkSide rfl (lt491 hn (by decide)) kd_0 (by decide) rfl (by decide) (Nat.le_of_ble_eq_true rfl) (v_X11_checkSide hst hn hR  h) (by decide) (by decide) (fun r_ M_ h_ => ?_) (fun _ _ h_ => h_)
  obtain ⟨J1, L2, rfl, rfl, h⟩ := h_
  show xJ _ _ _ _ _ _ _ _ _ 5 [(0, .ref 0), (1, .int (oI p1))] [] _ _ _ (zi J1) (li L2)
  refine xr_aload_n (xd dX11_inject 3 rfl) 0 rfl ?_
  refine zr_getI 11 4 4 rfl (xd dX11_inject 4 rfl) f11_81 (by decide) (by decide) (lt491 hn (by decide)) kd_0 rfl ?_
  obtain ⟨o3, h⟩ := h
  refine zr_if_eq 32 (xd dX11_inject 5 rfl) (by decide) o3 (fun c4 => ?_) (fun c4 => ?_)
  · replace h := ifp h c4
    refine xr_iconst (v := oI (-1)) (xd dX11_inject 16 rfl) (by decide) ?_
    exact xr_iret (xd dX11_inject 17 rfl) rfl (by decide) (by decide) (fun q => by cases q) ⟨_, _, _, rfl, rfl, h⟩
  · replace h := ifn h c4
    refine xr_aload_n (xd dX11_inject 6 rfl) 0 rfl ?_
    refine xr_getR (b := 1) 11 0 (xd dX11_inject 7 rfl) f11_11 (by decide) (by decide) (lt491 hn (by decide)) kd_0 rfl (r_0_0 hR) ?_
    refine xr_iload_n (xd dX11_inject 8 rfl) 1 rfl ?_
    obtain ⟨o5, h⟩ := h
    refine zr_aaload (b := (nt p1)) 4 (xd dX11_inject 9 rfl) (lt491 hn (by decide)) (by decide) (by decide) kd_1 ln_1 (by decide) o5 (ntI hR o5) ?_
    refine xr_aload_n (xd dX11_inject 10 rfl) 0 rfl ?_
    refine xr_getR (b := 5) 11 3 (xd dX11_inject 11 rfl) f11_28 (by decide) (by decide) (lt491 hn (by decide)) kd_0 rfl (r_0_3 hR) ?_
    refine xr_aload_n (xd dX11_inject 12 rfl) 0 rfl ?_
    refine zr_getI 11 4 4 rfl (xd dX11_inject 13 rfl) f11_81 (by decide) (by decide) (lt491 hn (by decide)) kd_0 rfl ?_
    refine xr_callV mX4_add 2 [.ref 5, .int (oI (J1 0 4))] (xd dX11_inject 14 rfl) l11_174 kX4_add rfl (lt491 hn (rows_lt0 (nt_hr o5))) (rows_kd (nt_hr o5)).1 (by decide) rfl (by decide) (Nat.le_of_ble_eq_true rfl) (v_X4_add hn hR (nt_hr o5) (za_mk kd_5 (by decide)) h) (by decide) (by decide) (fun r_ M_ h_ => ?_) (fun _ _ h_ => h_.elim)
    obtain ⟨r9, J7, L8, rfl, rfl, h⟩ := h_
    show xJ _ _ _ _ _ _ _ _ _ 29 [(0, .ref 0), (1, .int (oI p1))] [.int (oI r9)] _ _ _ (zi J7) (li L8)
    obtain ⟨o10, h⟩ := h
    refine zr_if_ne 34 (xd dX11_inject 15 rfl) (by decide) o10 (fun c11 => ?_) (fun c11 => ?_)
    · replace h := ifn h c11
      refine xr_aload_n (xd dX11_inject 18 rfl) 0 rfl ?_
      refine xr_iconst (v := oI 0) (xd dX11_inject 19 rfl) (by decide) ?_
      obtain ⟨J12, e_J12⟩ : ∃ z_ : zM, z_ = zs J7 0 4 0 := ⟨_, rfl⟩
      replace h := h J12 e_J12
      refine zr_putI 11 4 4 rfl e_J12 (xd dX11_inject 20 rfl) f11_81 (by decide) (by decide) (lt491 hn (by decide)) kd_0 (Or.inl rfl) rfl rfl (fun _ => rfl) ?_
      refine xr_aload_n (xd dX11_inject 21 rfl) 0 rfl ?_
      refine xr_getR (b := 1) 11 0 (xd dX11_inject 22 rfl) f11_11 (by decide) (by decide) (lt491 hn (by decide)) kd_0 rfl (r_0_0 hR) ?_
      refine xr_iload_n (xd dX11_inject 23 rfl) 1 rfl ?_
      obtain ⟨o13, h⟩ := h
      refine zr_aaload (b := (nt p1)) 4 (xd dX11_inject 24 rfl) (lt491 hn (by decide)) (by decide) (by decide) kd_1 ln_1 (by decide) o13 (ntI hR o13) ?_
      refine zr_getI 4 5 5 rfl (xd dX11_inject 25 rfl) f11_143 (by decide) (by decide) (lt491 hn (rows_lt0 (nt_hr o13))) (rows_kd (nt_hr o13)).1 rfl ?_
      exact xr_iret (xd dX11_inject 26 rfl) rfl (by decide) (by decide) (fun q => by cases q) ⟨_, _, _, rfl, rfl, h⟩
    · replace h := ifp h c11
      refine xr_iconst (v := oI (-1)) (xd dX11_inject 16 rfl) (by decide) ?_
      exact xr_iret (xd dX11_inject 17 rfl) rfl (by decide) (by decide) (fun q => by cases q) ⟨_, _, _, rfl, rfl, h⟩
def w_X11_run (p1 : Int) (J : zM) (L : yM) (Q : Int → zM → yM → Prop) (X : String → zM → yM → Prop) : Prop := R32 p1 ∧ (if p1 < 0 then X "java/lang/IllegalArgumentException" J L else (if 100 < p1 then X "java/lang/IllegalArgumentException" J L else zl_zz (fun K4 x5 x6 J7 L8 => R32 x6 ∧ R32 p1 ∧ (if x6 < p1 then zl_zz (fun K12 x13 x14 J15 L16 => R32 x14 ∧ (if x14 < 0 then w_X11_passTick J15 L16 (fun J19 L20 => K4 x13 (x6 + 1) J19 L20) else ((0 : Int) ≤ x14 ∧ x14 < 2) ∧ ∀ x23 : Int, x23 = (J15 (nt x14) 5) → zl_zz (fun K24 x25 x26 J27 L28 => ∀ K31 : zM → yM → Prop, (∀ (J29 : zM) (L30 : yM), (K12 x25 (x14 + (-1)) J29 L30) → K31 J29 L30) → R32 x26 ∧ R32 x23 ∧ (if x26 < x23 then ((0 : Int) ≤ x14 ∧ x14 < 2) ∧ R32 (J27 (nt x14) 5) ∧ (if 0 < (J27 (nt x14) 5) then w_X11_come x14 0 J27 L28 (fun r41 J39 L40 => K24 (x25 + 1) (x26 + 1) J39 L40) else K31 J27 L28) else K31 J27 L28)) x13 0 J15 L16)) x5 1 J7 L8 else Q x5 J7 L8)) 0 0 J L))
set_option maxHeartbeats 4000000 in
set_option maxRecDepth 100000 in
theorem v_X11_run {b : Nat} {dC : Nat → ClassId} {dI : Nat → Nat → Nat} {cA : Nat → ClassId} {ts : Nat → Nat} {l : Launch} {n : Nat} {R : Nat → Nat → Option Nat} (hst : l.stackTraces = false) (hn : 491 ≤ n) (hR : xRk R) {p1 : Int}  {J : zM} {L : yM} {Q : Int → zM → yM → Prop} {X : String → zM → yM → Prop} (h : w_X11_run p1 J L Q X) : xCn (xGm b dC dI cA ts) l mX11_run [.ref 0, .int (oI p1)] false (n, R, zi J, li L) 1 6 (zQ1 n R Q) (zQx n R X) := by
  refine xCn.ofJ (by decide) (Nat.le_of_ble_eq_true rfl) ?_
  show xJ _ _ _ _ _ _ _ _ _ 0 [(0, .ref 0), (1, .int (oI p1))] [] _ _ _ _ _
  unfold w_X11_run at h
  refine xr_iload_n (xd dX11_run 0 rfl) 1 rfl ?_
  obtain ⟨o1, h⟩ := h
  refine zr_if_lt 10 (xd dX11_run 1 rfl) (by decide) o1 (fun c2 => ?_) (fun c2 => ?_)
  · replace h := ifp h c2
    exact xr_throw hst 20 kT_11_44_48 (by decide) rfl (xd dX11_run 5 rfl) (xd dX11_run 6 rfl) (xd dX11_run 7 rfl) (xd dX11_run 8 rfl) (xd dX11_run 9 rfl) (Nat.le_of_ble_eq_true rfl |> fun q => ⟨q, Nat.le_of_ble_eq_true rfl⟩) (by decide) (by decide) ⟨_, _, rfl, h⟩
  · replace h := ifn h c2
    refine xr_iload_n (xd dX11_run 2 rfl) 1 rfl ?_
    refine xr_bipush (v := oI 100) (xd dX11_run 3 rfl) (by decide) ?_
    refine zr_icmp_le 20 (xd dX11_run 4 rfl) (by decide) o1 (by decide) (fun c3 => ?_) (fun c3 => ?_)
    · replace h := ifn h c3
      refine xr_iconst (v := oI 0) (xd dX11_run 10 rfl) (by decide) ?_
      refine xr_istore_n [(0, .ref 0), (1, .int (oI p1)), (2, .int (oI 0))] (xd dX11_run 11 rfl) rfl (by decide) rfl ?_
      refine xr_iconst (v := oI 0) (xd dX11_run 12 rfl) (by decide) ?_
      refine xr_istore_n [(0, .ref 0), (1, .int (oI p1)), (2, .int (oI 0)), (3, .int (oI 0))] (xd dX11_run 13 rfl) rfl (by decide) rfl ?_
      refine h (fun x5 x6 J7 L8 => xJ (xGm b dC dI cA ts) l mX11_run 1 6 (zQ1 n R Q) (zQx n R X) 0 0 24 [(0, .ref 0), (1, .int (oI p1)), (2, .int (oI x5)), (3, .int (oI x6))] [] false n R (zi J7) (li L8)) ?_
      intro x5 x6 J7 L8 h
      show xJ _ _ _ _ _ _ _ _ _ 24 [(0, .ref 0), (1, .int (oI p1)), (2, .int (oI x5)), (3, .int (oI x6))] [] _ _ _ _ _
      refine xr_iload_n (xd dX11_run 14 rfl) 3 rfl ?_
      refine xr_iload_n (xd dX11_run 15 rfl) 1 rfl ?_
      obtain ⟨o9, h⟩ := h
      obtain ⟨o10, h⟩ := h
      refine zr_icmp_ge 105 (xd dX11_run 16 rfl) (by decide) o9 o10 (fun c11 => ?_) (fun c11 => ?_)
      · replace h := ifn h c11
        refine xr_iload_n (xd dX11_run 52 rfl) 2 rfl ?_
        exact xr_iret (xd dX11_run 53 rfl) rfl (by decide) (by decide) (fun q => by cases q) ⟨_, _, _, rfl, rfl, h⟩
      · replace h := ifp h c11
        refine xr_iconst (v := oI 1) (xd dX11_run 17 rfl) (by decide) ?_
        refine xr_istore [(0, .ref 0), (1, .int (oI p1)), (2, .int (oI x5)), (3, .int (oI x6)), (4, .int (oI 1))] (xd dX11_run 18 rfl) (by decide) rfl ?_
        refine h (fun x13 x14 J15 L16 => xJ (xGm b dC dI cA ts) l mX11_run 1 6 (zQ1 n R Q) (zQx n R X) 0 0 32 [(0, .ref 0), (1, .int (oI p1)), (2, .int (oI x13)), (3, .int (oI x6)), (4, .int (oI x14))] [] false n R (zi J15) (li L16)) ?_
        intro x13 x14 J15 L16 h
        show xJ _ _ _ _ _ _ _ _ _ 32 [(0, .ref 0), (1, .int (oI p1)), (2, .int (oI x13)), (3, .int (oI x6)), (4, .int (oI x14))] [] _ _ _ _ _
        refine xr_iload (xd dX11_run 19 rfl) 4 rfl ?_
        obtain ⟨o17, h⟩ := h
        refine zr_if_lt 95 (xd dX11_run 20 rfl) (by decide) o17 (fun c18 => ?_) (fun c18 => ?_)
        · replace h := ifp h c18
          refine xr_aload_n (xd dX11_run 48 rfl) 0 rfl ?_
          refine xr_callV mX11_passTick 0 [] (xd dX11_run 49 rfl) l11_137 kX11_passTick rfl (lt491 hn (by decide)) kd_0 (by decide) rfl (by decide) (Nat.le_of_ble_eq_true rfl) (v_X11_passTick hn hR  h) (by decide) (by decide) (fun r_ M_ h_ => ?_) (fun _ _ h_ => h_.elim)
          obtain ⟨J19, L20, rfl, rfl, h⟩ := h_
          show xJ _ _ _ _ _ _ _ _ _ 99 [(0, .ref 0), (1, .int (oI p1)), (2, .int (oI x13)), (3, .int (oI x6)), (4, .int (oI x14))] [] _ _ _ (zi J19) (li L20)
          refine zr_iinc [(0, .ref 0), (1, .int (oI p1)), (2, .int (oI x13)), (3, .int (oI (x6 + 1))), (4, .int (oI x14))] (xd dX11_run 50 rfl) 3 rfl (by decide) rfl ?_
          refine xr_goto 24 (xd dX11_run 51 rfl) (by decide) ?_
          refine xJ.pick (ls' := [(0, .ref 0), (1, .int (oI p1)), (2, .int (oI x13)), (3, .int (oI (x6 + 1)))]) [0, 1, 2, 3] rfl ?_
          exact h
        · replace h := ifn h c18
          refine xr_aload_n (xd dX11_run 21 rfl) 0 rfl ?_
          refine xr_getR (b := 1) 11 0 (xd dX11_run 22 rfl) f11_11 (by decide) (by decide) (lt491 hn (by decide)) kd_0 rfl (r_0_0 hR) ?_
          refine xr_iload (xd dX11_run 23 rfl) 4 rfl ?_
          obtain ⟨o21, h⟩ := h
          refine zr_aaload (b := (nt x14)) 4 (xd dX11_run 24 rfl) (lt491 hn (by decide)) (by decide) (by decide) kd_1 ln_1 (by decide) o21 (ntI hR o21) ?_
          refine zr_getI 4 5 5 rfl (xd dX11_run 25 rfl) f11_143 (by decide) (by decide) (lt491 hn (rows_lt0 (nt_hr o21))) (rows_kd (nt_hr o21)).1 rfl ?_
          obtain ⟨x23, e_x23⟩ : ∃ z_ : Int, z_ = (J15 (nt x14) 5) := ⟨_, rfl⟩
          replace h := h x23 e_x23
          refine zr_nm e_x23 ?_
          refine xr_istore [(0, .ref 0), (1, .int (oI p1)), (2, .int (oI x13)), (3, .int (oI x6)), (4, .int (oI x14)), (5, .int (oI x23))] (xd dX11_run 26 rfl) (by decide) rfl ?_
          refine xr_iconst (v := oI 0) (xd dX11_run 27 rfl) (by decide) ?_
          refine xr_istore [(0, .ref 0), (1, .int (oI p1)), (2, .int (oI x13)), (3, .int (oI x6)), (4, .int (oI x14)), (5, .int (oI x23)), (6, .int (oI 0))] (xd dX11_run 28 rfl) (by decide) rfl ?_
          refine h (fun x25 x26 J27 L28 => xJ (xGm b dC dI cA ts) l mX11_run 1 6 (zQ1 n R Q) (zQx n R X) 0 0 52 [(0, .ref 0), (1, .int (oI p1)), (2, .int (oI x25)), (3, .int (oI x6)), (4, .int (oI x14)), (5, .int (oI x23)), (6, .int (oI x26))] [] false n R (zi J27) (li L28)) ?_
          intro x25 x26 J27 L28 h
          show xJ _ _ _ _ _ _ _ _ _ 52 [(0, .ref 0), (1, .int (oI p1)), (2, .int (oI x25)), (3, .int (oI x6)), (4, .int (oI x14)), (5, .int (oI x23)), (6, .int (oI x26))] [] _ _ _ _ _
          refine xr_iload (xd dX11_run 29 rfl) 6 rfl ?_
          refine xr_iload (xd dX11_run 30 rfl) 5 rfl ?_
          replace h := h (fun (J29 : zM) (L30 : yM) => xJ (xGm b dC dI cA ts) l mX11_run 1 6 (zQ1 n R Q) (zQx n R X) 0 0 89 [(0, .ref 0), (1, .int (oI p1)), (2, .int (oI x25)), (3, .int (oI x6)), (4, .int (oI x14))] [] false n R (zi J29) (li L30)) (by
            intro J29 L30 h
            show xJ _ _ _ _ _ _ _ _ _ 89 [(0, .ref 0), (1, .int (oI p1)), (2, .int (oI x25)), (3, .int (oI x6)), (4, .int (oI x14))] [] _ _ _ _ _
            refine zr_iinc [(0, .ref 0), (1, .int (oI p1)), (2, .int (oI x25)), (3, .int (oI x6)), (4, .int (oI (x14 + (-1))))] (xd dX11_run 46 rfl) 4 rfl (by decide) rfl ?_
            refine xr_goto 32 (xd dX11_run 47 rfl) (by decide) ?_
            exact h)
          obtain ⟨o32, h⟩ := h
          obtain ⟨o33, h⟩ := h
          refine zr_icmp_ge 89 (xd dX11_run 31 rfl) (by decide) o32 o33 (fun c34 => ?_) (fun c34 => ?_)
          · replace h := ifn h c34
            refine xJ.pick (ls' := [(0, .ref 0), (1, .int (oI p1)), (2, .int (oI x25)), (3, .int (oI x6)), (4, .int (oI x14))]) [0, 1, 2, 3, 4] rfl ?_
            exact h
          · replace h := ifp h c34
            refine xr_aload_n (xd dX11_run 32 rfl) 0 rfl ?_
            refine xr_getR (b := 1) 11 0 (xd dX11_run 33 rfl) f11_11 (by decide) (by decide) (lt491 hn (by decide)) kd_0 rfl (r_0_0 hR) ?_
            refine xr_iload (xd dX11_run 34 rfl) 4 rfl ?_
            obtain ⟨o35, h⟩ := h
            refine zr_aaload (b := (nt x14)) 4 (xd dX11_run 35 rfl) (lt491 hn (by decide)) (by decide) (by decide) kd_1 ln_1 (by decide) o35 (ntI hR o35) ?_
            refine zr_getI 4 5 5 rfl (xd dX11_run 36 rfl) f11_143 (by decide) (by decide) (lt491 hn (rows_lt0 (nt_hr o35))) (rows_kd (nt_hr o35)).1 rfl ?_
            obtain ⟨o37, h⟩ := h
            refine zr_if_le 89 (xd dX11_run 37 rfl) (by decide) o37 (fun c38 => ?_) (fun c38 => ?_)
            · replace h := ifn h c38
              refine xJ.pick (ls' := [(0, .ref 0), (1, .int (oI p1)), (2, .int (oI x25)), (3, .int (oI x6)), (4, .int (oI x14))]) [0, 1, 2, 3, 4] rfl ?_
              exact h
            · replace h := ifp h c38
              refine xr_aload_n (xd dX11_run 38 rfl) 0 rfl ?_
              refine xr_iload (xd dX11_run 39 rfl) 4 rfl ?_
              refine xr_iconst (v := oI 0) (xd dX11_run 40 rfl) (by decide) ?_
              refine xr_callV mX11_come 2 [.int (oI x14), .int (oI 0)] (xd dX11_run 41 rfl) l11_161 kX11_come rfl (lt491 hn (by decide)) kd_0 (by decide) rfl (by decide) (Nat.le_of_ble_eq_true rfl) (v_X11_come hn hR  h) (by decide) (by decide) (fun r_ M_ h_ => ?_) (fun _ _ h_ => h_.elim)
              obtain ⟨r41, J39, L40, rfl, rfl, h⟩ := h_
              show xJ _ _ _ _ _ _ _ _ _ 79 [(0, .ref 0), (1, .int (oI p1)), (2, .int (oI x25)), (3, .int (oI x6)), (4, .int (oI x14)), (5, .int (oI x23)), (6, .int (oI x26))] [.int (oI r41)] _ _ _ (zi J39) (li L40)
              refine xr_pop (xd dX11_run 42 rfl) rfl ?_
              refine zr_iinc [(0, .ref 0), (1, .int (oI p1)), (2, .int (oI (x25 + 1))), (3, .int (oI x6)), (4, .int (oI x14)), (5, .int (oI x23)), (6, .int (oI x26))] (xd dX11_run 43 rfl) 2 rfl (by decide) rfl ?_
              refine zr_iinc [(0, .ref 0), (1, .int (oI p1)), (2, .int (oI (x25 + 1))), (3, .int (oI x6)), (4, .int (oI x14)), (5, .int (oI x23)), (6, .int (oI (x26 + 1)))] (xd dX11_run 44 rfl) 6 rfl (by decide) rfl ?_
              refine xr_goto 52 (xd dX11_run 45 rfl) (by decide) ?_
              exact h
    · replace h := ifp h c3
      exact xr_throw hst 20 kT_11_44_48 (by decide) rfl (xd dX11_run 5 rfl) (xd dX11_run 6 rfl) (xd dX11_run 7 rfl) (xd dX11_run 8 rfl) (xd dX11_run 9 rfl) (Nat.le_of_ble_eq_true rfl |> fun q => ⟨q, Nat.le_of_ble_eq_true rfl⟩) (by decide) (by decide) ⟨_, _, rfl, h⟩
def w_X11_state (p1 : Int) (J : zM) (L : yM) (Q : Int → zM → yM → Prop) (X : String → zM → yM → Prop) : Prop := w_X11_checkSide p1 J L (fun J1 L2 => ((0 : Int) ≤ p1 ∧ p1 < 2) ∧ Q (J1 (sd p1) 12) J1 L2) X
set_option maxHeartbeats 4000000 in
set_option maxRecDepth 100000 in
theorem v_X11_state {b : Nat} {dC : Nat → ClassId} {dI : Nat → Nat → Nat} {cA : Nat → ClassId} {ts : Nat → Nat} {l : Launch} {n : Nat} {R : Nat → Nat → Option Nat} (hst : l.stackTraces = false) (hn : 491 ≤ n) (hR : xRk R) {p1 : Int}  {J : zM} {L : yM} {Q : Int → zM → yM → Prop} {X : String → zM → yM → Prop} (h : w_X11_state p1 J L Q X) : xCn (xGm b dC dI cA ts) l mX11_state [.ref 0, .int (oI p1)] false (n, R, zi J, li L) 1 6 (zQ1 n R Q) (zQx n R X) := by
  refine xCn.ofJ (by decide) (Nat.le_of_ble_eq_true rfl) ?_
  show xJ _ _ _ _ _ _ _ _ _ 0 [(0, .ref 0), (1, .int (oI p1))] [] _ _ _ _ _
  unfold w_X11_state at h
  refine xr_aload_n (xd dX11_state 0 rfl) 0 rfl ?_
  refine xr_iload_n (xd dX11_state 1 rfl) 1 rfl ?_
  refine xr_callV mX11_checkSide 1 [.int (oI p1)] (xd dX11_state 2 rfl) l11_53 kX11_checkSide rfl (lt491 hn (by decide)) kd_0 (by decide) rfl (by decide) (Nat.le_of_ble_eq_true rfl) (v_X11_checkSide hst hn hR  h) (by decide) (by decide) (fun r_ M_ h_ => ?_) (fun _ _ h_ => h_)
  obtain ⟨J1, L2, rfl, rfl, h⟩ := h_
  show xJ _ _ _ _ _ _ _ _ _ 5 [(0, .ref 0), (1, .int (oI p1))] [] _ _ _ (zi J1) (li L2)
  refine xr_aload_n (xd dX11_state 3 rfl) 0 rfl ?_
  refine xr_getR (b := 2) 11 1 (xd dX11_state 4 rfl) f11_17 (by decide) (by decide) (lt491 hn (by decide)) kd_0 rfl (r_0_1 hR) ?_
  refine xr_iload_n (xd dX11_state 5 rfl) 1 rfl ?_
  obtain ⟨o3, h⟩ := h
  refine zr_aaload (b := (sd p1)) 5 (xd dX11_state 6 rfl) (lt491 hn (by decide)) (by decide) (by decide) kd_2 ln_2 (by decide) o3 (sdI hR o3) ?_
  refine zr_getI 8 12 12 rfl (xd dX11_state 7 rfl) f11_134 (by decide) (by decide) (lt491 hn (ltS0 (sd_he o3))) (kdS_0 (sd_he o3)) rfl ?_
  exact xr_iret (xd dX11_state 8 rfl) rfl (by decide) (by decide) (fun q => by cases q) ⟨_, _, _, rfl, rfl, h⟩
def w_X11_got (p1 : Int) (J : zM) (L : yM) (Q : Int → zM → yM → Prop) (X : String → zM → yM → Prop) : Prop := w_X11_checkSide p1 J L (fun J1 L2 => ((0 : Int) ≤ p1 ∧ p1 < 2) ∧ Q (J1 (sd p1) 17) J1 L2) X
set_option maxHeartbeats 4000000 in
set_option maxRecDepth 100000 in
theorem v_X11_got {b : Nat} {dC : Nat → ClassId} {dI : Nat → Nat → Nat} {cA : Nat → ClassId} {ts : Nat → Nat} {l : Launch} {n : Nat} {R : Nat → Nat → Option Nat} (hst : l.stackTraces = false) (hn : 491 ≤ n) (hR : xRk R) {p1 : Int}  {J : zM} {L : yM} {Q : Int → zM → yM → Prop} {X : String → zM → yM → Prop} (h : w_X11_got p1 J L Q X) : xCn (xGm b dC dI cA ts) l mX11_got [.ref 0, .int (oI p1)] false (n, R, zi J, li L) 1 6 (zQ1 n R Q) (zQx n R X) := by
  refine xCn.ofJ (by decide) (Nat.le_of_ble_eq_true rfl) ?_
  show xJ _ _ _ _ _ _ _ _ _ 0 [(0, .ref 0), (1, .int (oI p1))] [] _ _ _ _ _
  unfold w_X11_got at h
  refine xr_aload_n (xd dX11_got 0 rfl) 0 rfl ?_
  refine xr_iload_n (xd dX11_got 1 rfl) 1 rfl ?_
  refine xr_callV mX11_checkSide 1 [.int (oI p1)] (xd dX11_got 2 rfl) l11_53 kX11_checkSide rfl (lt491 hn (by decide)) kd_0 (by decide) rfl (by decide) (Nat.le_of_ble_eq_true rfl) (v_X11_checkSide hst hn hR  h) (by decide) (by decide) (fun r_ M_ h_ => ?_) (fun _ _ h_ => h_)
  obtain ⟨J1, L2, rfl, rfl, h⟩ := h_
  show xJ _ _ _ _ _ _ _ _ _ 5 [(0, .ref 0), (1, .int (oI p1))] [] _ _ _ (zi J1) (li L2)
  refine xr_aload_n (xd dX11_got 3 rfl) 0 rfl ?_
  refine xr_getR (b := 2) 11 1 (xd dX11_got 4 rfl) f11_17 (by decide) (by decide) (lt491 hn (by decide)) kd_0 rfl (r_0_1 hR) ?_
  refine xr_iload_n (xd dX11_got 5 rfl) 1 rfl ?_
  obtain ⟨o3, h⟩ := h
  refine zr_aaload (b := (sd p1)) 5 (xd dX11_got 6 rfl) (lt491 hn (by decide)) (by decide) (by decide) kd_2 ln_2 (by decide) o3 (sdI hR o3) ?_
  refine zr_getI 8 17 17 rfl (xd dX11_got 7 rfl) f11_180 (by decide) (by decide) (lt491 hn (ltS0 (sd_he o3))) (kdS_0 (sd_he o3)) rfl ?_
  exact xr_iret (xd dX11_got 8 rfl) rfl (by decide) (by decide) (fun q => by cases q) ⟨_, _, _, rfl, rfl, h⟩
def w_X11_gotOctet (p1 : Int) (p2 : Int) (p3 : Int) (J : zM) (L : yM) (Q : Int → zM → yM → Prop) (X : String → zM → yM → Prop) : Prop := w_X11_checkSide p1 J L (fun J1 L2 => ((0 : Int) ≤ p1 ∧ p1 < 2) ∧ ((0 : Int) ≤ p1 ∧ p1 < 2) ∧ ∀ x7 : Int, x7 = ((J1 (sd p1) 17) - (J1 ((sd p1) + 38) 5)) → R32 p2 ∧ R32 x7 ∧ (if p2 < x7 then X "java/lang/IndexOutOfBoundsException" J1 L2 else ((0 : Int) ≤ p1 ∧ p1 < 2) ∧ R32 (J1 (sd p1) 17) ∧ (if p2 < (J1 (sd p1) 17) then R32 p3 ∧ (if p3 = (-1) then w_X4_lengthOf ((sd p1) + 38) (p2 - x7) J1 L2 (fun r29 J27 L28 => Q r29 J27 L28) else (if p3 < 0 then X "java/lang/IndexOutOfBoundsException" J1 L2 else w_X4_lengthOf ((sd p1) + 38) (p2 - x7) J1 L2 (fun r20 J18 L19 => R32 p3 ∧ R32 r20 ∧ (if p3 < r20 then w_X4_octetOf ((sd p1) + 38) (p2 - x7) p3 J18 L19 (fun r26 J24 L25 => Q r26 J24 L25) else X "java/lang/IndexOutOfBoundsException" J18 L19)))) else X "java/lang/IndexOutOfBoundsException" J1 L2))) X
set_option maxHeartbeats 4000000 in
set_option maxRecDepth 100000 in
theorem v_X11_gotOctet {b : Nat} {dC : Nat → ClassId} {dI : Nat → Nat → Nat} {cA : Nat → ClassId} {ts : Nat → Nat} {l : Launch} {n : Nat} {R : Nat → Nat → Option Nat} (hst : l.stackTraces = false) (hn : 491 ≤ n) (hR : xRk R) {p1 : Int} {p2 : Int} {p3 : Int}  {J : zM} {L : yM} {Q : Int → zM → yM → Prop} {X : String → zM → yM → Prop} (h : w_X11_gotOctet p1 p2 p3 J L Q X) : xCn (xGm b dC dI cA ts) l mX11_gotOctet [.ref 0, .int (oI p1), .int (oI p2), .int (oI p3)] false (n, R, zi J, li L) 2 12 (zQ1 n R Q) (zQx n R X) := by
  refine xCn.ofJ (by decide) (Nat.le_of_ble_eq_true rfl) ?_
  show xJ _ _ _ _ _ _ _ _ _ 0 [(0, .ref 0), (1, .int (oI p1)), (2, .int (oI p2)), (3, .int (oI p3))] [] _ _ _ _ _
  unfold w_X11_gotOctet at h
  refine xr_aload_n (xd dX11_gotOctet 0 rfl) 0 rfl ?_
  refine xr_iload_n (xd dX11_gotOctet 1 rfl) 1 rfl ?_
  refine xr_callV mX11_checkSide 1 [.int (oI p1)] (xd dX11_gotOctet 2 rfl) l11_53 kX11_checkSide rfl (lt491 hn (by decide)) kd_0 (by decide) rfl (by decide) (Nat.le_of_ble_eq_true rfl) (v_X11_checkSide hst hn hR  h) (by decide) (by decide) (fun r_ M_ h_ => ?_) (fun _ _ h_ => h_)
  obtain ⟨J1, L2, rfl, rfl, h⟩ := h_
  show xJ _ _ _ _ _ _ _ _ _ 5 [(0, .ref 0), (1, .int (oI p1)), (2, .int (oI p2)), (3, .int (oI p3))] [] _ _ _ (zi J1) (li L2)
  refine xr_aload_n (xd dX11_gotOctet 3 rfl) 0 rfl ?_
  refine xr_getR (b := 2) 11 1 (xd dX11_gotOctet 4 rfl) f11_17 (by decide) (by decide) (lt491 hn (by decide)) kd_0 rfl (r_0_1 hR) ?_
  refine xr_iload_n (xd dX11_gotOctet 5 rfl) 1 rfl ?_
  obtain ⟨o3, h⟩ := h
  refine zr_aaload (b := (sd p1)) 5 (xd dX11_gotOctet 6 rfl) (lt491 hn (by decide)) (by decide) (by decide) kd_2 ln_2 (by decide) o3 (sdI hR o3) ?_
  refine xr_getR (b := ((sd p1) + 38)) 8 9 (xd dX11_gotOctet 7 rfl) f11_183 (by decide) (by decide) (lt491 hn (ltS0 (sd_he o3))) (kdS_0 (sd_he o3)) rfl (rS_0_9 hR (sd_he o3)) ?_
  refine xr_astore [(0, .ref 0), (1, .int (oI p1)), (2, .int (oI p2)), (3, .int (oI p3)), (4, .ref ((sd p1) + 38))] (xd dX11_gotOctet 8 rfl) (by decide) rfl ?_
  refine xr_aload_n (xd dX11_gotOctet 9 rfl) 0 rfl ?_
  refine xr_getR (b := 2) 11 1 (xd dX11_gotOctet 10 rfl) f11_17 (by decide) (by decide) (lt491 hn (by decide)) kd_0 rfl (r_0_1 hR) ?_
  refine xr_iload_n (xd dX11_gotOctet 11 rfl) 1 rfl ?_
  obtain ⟨o5, h⟩ := h
  refine zr_aaload (b := (sd p1)) 5 (xd dX11_gotOctet 12 rfl) (lt491 hn (by decide)) (by decide) (by decide) kd_2 ln_2 (by decide) o5 (sdI hR o5) ?_
  refine zr_getI 8 17 17 rfl (xd dX11_gotOctet 13 rfl) f11_180 (by decide) (by decide) (lt491 hn (ltS0 (sd_he o5))) (kdS_0 (sd_he o5)) rfl ?_
  refine xr_aload (xd dX11_gotOctet 14 rfl) 4 rfl ?_
  refine zr_getI 4 5 5 rfl (xd dX11_gotOctet 15 rfl) f11_143 (by decide) (by decide) (lt491 hn (rows_lt0 (wr_hr (sd_he o3)))) (rows_kd (wr_hr (sd_he o3))).1 rfl ?_
  refine zr_isub (xd dX11_gotOctet 16 rfl) ?_
  obtain ⟨x7, e_x7⟩ : ∃ z_ : Int, z_ = ((J1 (sd p1) 17) - (J1 ((sd p1) + 38) 5)) := ⟨_, rfl⟩
  replace h := h x7 e_x7
  refine zr_nm e_x7 ?_
  refine xr_istore [(0, .ref 0), (1, .int (oI p1)), (2, .int (oI p2)), (3, .int (oI p3)), (4, .ref ((sd p1) + 38)), (5, .int (oI x7))] (xd dX11_gotOctet 17 rfl) (by decide) rfl ?_
  refine xr_iload_n (xd dX11_gotOctet 18 rfl) 2 rfl ?_
  refine xr_iload (xd dX11_gotOctet 19 rfl) 5 rfl ?_
  obtain ⟨o8, h⟩ := h
  obtain ⟨o9, h⟩ := h
  refine zr_icmp_lt 52 (xd dX11_gotOctet 20 rfl) (by decide) o8 o9 (fun c10 => ?_) (fun c10 => ?_)
  · replace h := ifp h c10
    exact xr_throw hst 21 kT_11_187_191 (by decide) rfl (xd dX11_gotOctet 28 rfl) (xd dX11_gotOctet 29 rfl) (xd dX11_gotOctet 30 rfl) (xd dX11_gotOctet 31 rfl) (xd dX11_gotOctet 32 rfl) (Nat.le_of_ble_eq_true rfl |> fun q => ⟨q, Nat.le_of_ble_eq_true rfl⟩) (by decide) (by decide) ⟨_, _, rfl, h⟩
  · replace h := ifn h c10
    refine xr_iload_n (xd dX11_gotOctet 21 rfl) 2 rfl ?_
    refine xr_aload_n (xd dX11_gotOctet 22 rfl) 0 rfl ?_
    refine xr_getR (b := 2) 11 1 (xd dX11_gotOctet 23 rfl) f11_17 (by decide) (by decide) (lt491 hn (by decide)) kd_0 rfl (r_0_1 hR) ?_
    refine xr_iload_n (xd dX11_gotOctet 24 rfl) 1 rfl ?_
    obtain ⟨o11, h⟩ := h
    refine zr_aaload (b := (sd p1)) 5 (xd dX11_gotOctet 25 rfl) (lt491 hn (by decide)) (by decide) (by decide) kd_2 ln_2 (by decide) o11 (sdI hR o11) ?_
    refine zr_getI 8 17 17 rfl (xd dX11_gotOctet 26 rfl) f11_180 (by decide) (by decide) (lt491 hn (ltS0 (sd_he o11))) (kdS_0 (sd_he o11)) rfl ?_
    obtain ⟨o13, h⟩ := h
    refine zr_icmp_lt 62 (xd dX11_gotOctet 27 rfl) (by decide) o8 o13 (fun c14 => ?_) (fun c14 => ?_)
    · replace h := ifp h c14
      refine xr_iload_n (xd dX11_gotOctet 33 rfl) 3 rfl ?_
      refine xr_iconst (v := oI (-1)) (xd dX11_gotOctet 34 rfl) (by decide) ?_
      obtain ⟨o15, h⟩ := h
      refine zr_icmp_ne 77 (xd dX11_gotOctet 35 rfl) (by decide) o15 (by decide) (fun c16 => ?_) (fun c16 => ?_)
      · replace h := ifn h c16
        refine xr_iload_n (xd dX11_gotOctet 42 rfl) 3 rfl ?_
        refine zr_if_lt 94 (xd dX11_gotOctet 43 rfl) (by decide) o15 (fun c17 => ?_) (fun c17 => ?_)
        · replace h := ifp h c17
          exact xr_throw hst 11 kT_11_187_191 (by decide) rfl (xd dX11_gotOctet 51 rfl) (xd dX11_gotOctet 52 rfl) (xd dX11_gotOctet 53 rfl) (xd dX11_gotOctet 54 rfl) (xd dX11_gotOctet 55 rfl) (Nat.le_of_ble_eq_true rfl |> fun q => ⟨q, Nat.le_of_ble_eq_true rfl⟩) (by decide) (by decide) ⟨_, _, rfl, h⟩
        · replace h := ifn h c17
          refine xr_iload_n (xd dX11_gotOctet 44 rfl) 3 rfl ?_
          refine xr_aload (xd dX11_gotOctet 45 rfl) 4 rfl ?_
          refine xr_iload_n (xd dX11_gotOctet 46 rfl) 2 rfl ?_
          refine xr_iload (xd dX11_gotOctet 47 rfl) 5 rfl ?_
          refine zr_isub (xd dX11_gotOctet 48 rfl) ?_
          refine xr_callV mX4_lengthOf 1 [.int (oI (p2 - x7))] (xd dX11_gotOctet 49 rfl) l11_149 kX4_lengthOf rfl (lt491 hn (rows_lt0 (wr_hr (sd_he o3)))) (rows_kd (wr_hr (sd_he o3))).1 (by decide) rfl (by decide) (Nat.le_of_ble_eq_true rfl) (v_X4_lengthOf hn hR (wr_hr (sd_he o3)) h) (by decide) (by decide) (fun r_ M_ h_ => ?_) (fun _ _ h_ => h_.elim)
          obtain ⟨r20, J18, L19, rfl, rfl, h⟩ := h_
          show xJ _ _ _ _ _ _ _ _ _ 91 [(0, .ref 0), (1, .int (oI p1)), (2, .int (oI p2)), (3, .int (oI p3)), (4, .ref ((sd p1) + 38)), (5, .int (oI x7))] [.int (oI r20), .int (oI p3)] _ _ _ (zi J18) (li L19)
          obtain ⟨o21, h⟩ := h
          obtain ⟨o22, h⟩ := h
          refine zr_icmp_lt 104 (xd dX11_gotOctet 50 rfl) (by decide) o21 o22 (fun c23 => ?_) (fun c23 => ?_)
          · replace h := ifp h c23
            refine xr_aload (xd dX11_gotOctet 56 rfl) 4 rfl ?_
            refine xr_iload_n (xd dX11_gotOctet 57 rfl) 2 rfl ?_
            refine xr_iload (xd dX11_gotOctet 58 rfl) 5 rfl ?_
            refine zr_isub (xd dX11_gotOctet 59 rfl) ?_
            refine xr_iload_n (xd dX11_gotOctet 60 rfl) 3 rfl ?_
            refine xr_callV mX4_octetOf 2 [.int (oI (p2 - x7)), .int (oI p3)] (xd dX11_gotOctet 61 rfl) l11_157 kX4_octetOf rfl (lt491 hn (rows_lt0 (wr_hr (sd_he o3)))) (rows_kd (wr_hr (sd_he o3))).1 (by decide) rfl (by decide) (Nat.le_of_ble_eq_true rfl) (v_X4_octetOf hn hR (wr_hr (sd_he o3)) h) (by decide) (by decide) (fun r_ M_ h_ => ?_) (fun _ _ h_ => h_.elim)
            obtain ⟨r26, J24, L25, rfl, rfl, h⟩ := h_
            show xJ _ _ _ _ _ _ _ _ _ 114 [(0, .ref 0), (1, .int (oI p1)), (2, .int (oI p2)), (3, .int (oI p3)), (4, .ref ((sd p1) + 38)), (5, .int (oI x7))] [.int (oI r26)] _ _ _ (zi J24) (li L25)
            exact xr_iret (xd dX11_gotOctet 62 rfl) rfl (by decide) (by decide) (fun q => by cases q) ⟨_, _, _, rfl, rfl, h⟩
          · replace h := ifn h c23
            exact xr_throw hst 11 kT_11_187_191 (by decide) rfl (xd dX11_gotOctet 51 rfl) (xd dX11_gotOctet 52 rfl) (xd dX11_gotOctet 53 rfl) (xd dX11_gotOctet 54 rfl) (xd dX11_gotOctet 55 rfl) (Nat.le_of_ble_eq_true rfl |> fun q => ⟨q, Nat.le_of_ble_eq_true rfl⟩) (by decide) (by decide) ⟨_, _, rfl, h⟩
      · replace h := ifp h c16
        refine xr_aload (xd dX11_gotOctet 36 rfl) 4 rfl ?_
        refine xr_iload_n (xd dX11_gotOctet 37 rfl) 2 rfl ?_
        refine xr_iload (xd dX11_gotOctet 38 rfl) 5 rfl ?_
        refine zr_isub (xd dX11_gotOctet 39 rfl) ?_
        refine xr_callV mX4_lengthOf 1 [.int (oI (p2 - x7))] (xd dX11_gotOctet 40 rfl) l11_149 kX4_lengthOf rfl (lt491 hn (rows_lt0 (wr_hr (sd_he o3)))) (rows_kd (wr_hr (sd_he o3))).1 (by decide) rfl (by decide) (Nat.le_of_ble_eq_true rfl) (v_X4_lengthOf hn hR (wr_hr (sd_he o3)) h) (by decide) (by decide) (fun r_ M_ h_ => ?_) (fun _ _ h_ => h_.elim)
        obtain ⟨r29, J27, L28, rfl, rfl, h⟩ := h_
        show xJ _ _ _ _ _ _ _ _ _ 76 [(0, .ref 0), (1, .int (oI p1)), (2, .int (oI p2)), (3, .int (oI p3)), (4, .ref ((sd p1) + 38)), (5, .int (oI x7))] [.int (oI r29)] _ _ _ (zi J27) (li L28)
        exact xr_iret (xd dX11_gotOctet 41 rfl) rfl (by decide) (by decide) (fun q => by cases q) ⟨_, _, _, rfl, rfl, h⟩
    · replace h := ifn h c14
      exact xr_throw hst 21 kT_11_187_191 (by decide) rfl (xd dX11_gotOctet 28 rfl) (xd dX11_gotOctet 29 rfl) (xd dX11_gotOctet 30 rfl) (xd dX11_gotOctet 31 rfl) (xd dX11_gotOctet 32 rfl) (Nat.le_of_ble_eq_true rfl |> fun q => ⟨q, Nat.le_of_ble_eq_true rfl⟩) (by decide) (by decide) ⟨_, _, rfl, h⟩
def w_X11_secret (p1 : Int) (p2 : Int) (p3 : Int) (J : zM) (L : yM) (Q : Int → zM → yM → Prop) (X : String → zM → yM → Prop) : Prop := w_X11_checkSide p1 J L (fun J1 L2 => R32 p2 ∧ (if p2 < 0 then X "java/lang/IndexOutOfBoundsException" J1 L2 else (if 5 < p2 then X "java/lang/IndexOutOfBoundsException" J1 L2 else R32 p3 ∧ (if p3 < 0 then X "java/lang/IndexOutOfBoundsException" J1 L2 else (if p3 < 32 then ((0 : Int) ≤ p1 ∧ p1 < 2) ∧ ∀ K14 : Int → zM → yM → Prop, (∀ (x11 : Int) (J12 : zM) (L13 : yM), (R32 (J12 ((sd p1) + 144) 11) ∧ R32 x11 ∧ (if (J12 ((sd p1) + 144) 11) < x11 then Q (-1) J12 L13 else ((0 : Int) ≤ p2 ∧ p2 < 6) ∧ ((0 : Int) ≤ p3 ∧ p3 < 32) ∧ Q (J12 ((sd p1) + 146 + (p2).toNat) p3) J12 L13)) → K14 x11 J12 L13) → ∀ K23 : zM → yM → Prop, (∀ (J21 : zM) (L22 : yM), (K14 3 J21 L22) → K23 J21 L22) → (if p2 = 2 then K23 J1 L2 else (if p2 = 3 then K23 J1 L2 else K14 2 J1 L2)) else X "java/lang/IndexOutOfBoundsException" J1 L2))))) X
set_option maxHeartbeats 4000000 in
set_option maxRecDepth 100000 in
theorem v_X11_secret {b : Nat} {dC : Nat → ClassId} {dI : Nat → Nat → Nat} {cA : Nat → ClassId} {ts : Nat → Nat} {l : Launch} {n : Nat} {R : Nat → Nat → Option Nat} (hst : l.stackTraces = false) (hn : 491 ≤ n) (hR : xRk R) {p1 : Int} {p2 : Int} {p3 : Int}  {J : zM} {L : yM} {Q : Int → zM → yM → Prop} {X : String → zM → yM → Prop} (h : w_X11_secret p1 p2 p3 J L Q X) : xCn (xGm b dC dI cA ts) l mX11_secret [.ref 0, .int (oI p1), .int (oI p2), .int (oI p3)] false (n, R, zi J, li L) 2 12 (zQ1 n R Q) (zQx n R X) := by
  refine xCn.ofJ (by decide) (Nat.le_of_ble_eq_true rfl) ?_
  show xJ _ _ _ _ _ _ _ _ _ 0 [(0, .ref 0), (1, .int (oI p1)), (2, .int (oI p2)), (3, .int (oI p3))] [] _ _ _ _ _
  unfold w_X11_secret at h
  refine xr_aload_n (xd dX11_secret 0 rfl) 0 rfl ?_
  refine xr_iload_n (xd dX11_secret 1 rfl) 1 rfl ?_
  refine xr_callV mX11_checkSide 1 [.int (oI p1)] (xd dX11_secret 2 rfl) l11_53 kX11_checkSide rfl (lt491 hn (by decide)) kd_0 (by decide) rfl (by decide) (Nat.le_of_ble_eq_true rfl) (v_X11_checkSide hst hn hR  h) (by decide) (by decide) (fun r_ M_ h_ => ?_) (fun _ _ h_ => h_)
  obtain ⟨J1, L2, rfl, rfl, h⟩ := h_
  show xJ _ _ _ _ _ _ _ _ _ 5 [(0, .ref 0), (1, .int (oI p1)), (2, .int (oI p2)), (3, .int (oI p3))] [] _ _ _ (zi J1) (li L2)
  refine xr_iload_n (xd dX11_secret 3 rfl) 2 rfl ?_
  obtain ⟨o3, h⟩ := h
  refine zr_if_lt 24 (xd dX11_secret 4 rfl) (by decide) o3 (fun c4 => ?_) (fun c4 => ?_)
  · replace h := ifp h c4
    exact xr_throw hst 22 kT_11_187_191 (by decide) rfl (xd dX11_secret 13 rfl) (xd dX11_secret 14 rfl) (xd dX11_secret 15 rfl) (xd dX11_secret 16 rfl) (xd dX11_secret 17 rfl) (Nat.le_of_ble_eq_true rfl |> fun q => ⟨q, Nat.le_of_ble_eq_true rfl⟩) (by decide) (by decide) ⟨_, _, rfl, h⟩
  · replace h := ifn h c4
    refine xr_iload_n (xd dX11_secret 5 rfl) 2 rfl ?_
    refine xr_iconst (v := oI 5) (xd dX11_secret 6 rfl) (by decide) ?_
    refine zr_icmp_gt 24 (xd dX11_secret 7 rfl) (by decide) o3 (by decide) (fun c5 => ?_) (fun c5 => ?_)
    · replace h := ifp h c5
      exact xr_throw hst 22 kT_11_187_191 (by decide) rfl (xd dX11_secret 13 rfl) (xd dX11_secret 14 rfl) (xd dX11_secret 15 rfl) (xd dX11_secret 16 rfl) (xd dX11_secret 17 rfl) (Nat.le_of_ble_eq_true rfl |> fun q => ⟨q, Nat.le_of_ble_eq_true rfl⟩) (by decide) (by decide) ⟨_, _, rfl, h⟩
    · replace h := ifn h c5
      refine xr_iload_n (xd dX11_secret 8 rfl) 3 rfl ?_
      obtain ⟨o6, h⟩ := h
      refine zr_if_lt 24 (xd dX11_secret 9 rfl) (by decide) o6 (fun c7 => ?_) (fun c7 => ?_)
      · replace h := ifp h c7
        exact xr_throw hst 22 kT_11_187_191 (by decide) rfl (xd dX11_secret 13 rfl) (xd dX11_secret 14 rfl) (xd dX11_secret 15 rfl) (xd dX11_secret 16 rfl) (xd dX11_secret 17 rfl) (Nat.le_of_ble_eq_true rfl |> fun q => ⟨q, Nat.le_of_ble_eq_true rfl⟩) (by decide) (by decide) ⟨_, _, rfl, h⟩
      · replace h := ifn h c7
        refine xr_iload_n (xd dX11_secret 10 rfl) 3 rfl ?_
        refine xr_bipush (v := oI 32) (xd dX11_secret 11 rfl) (by decide) ?_
        refine zr_icmp_lt 34 (xd dX11_secret 12 rfl) (by decide) o6 (by decide) (fun c8 => ?_) (fun c8 => ?_)
        · replace h := ifp h c8
          refine xr_aload_n (xd dX11_secret 18 rfl) 0 rfl ?_
          refine xr_getR (b := 2) 11 1 (xd dX11_secret 19 rfl) f11_17 (by decide) (by decide) (lt491 hn (by decide)) kd_0 rfl (r_0_1 hR) ?_
          refine xr_iload_n (xd dX11_secret 20 rfl) 1 rfl ?_
          obtain ⟨o9, h⟩ := h
          refine zr_aaload (b := (sd p1)) 5 (xd dX11_secret 21 rfl) (lt491 hn (by decide)) (by decide) (by decide) kd_2 ln_2 (by decide) o9 (sdI hR o9) ?_
          refine xr_getR (b := ((sd p1) + 144)) 8 2 (xd dX11_secret 22 rfl) f11_196 (by decide) (by decide) (lt491 hn (ltS0 (sd_he o9))) (kdS_0 (sd_he o9)) rfl (rS_0_2 hR (sd_he o9)) ?_
          refine xr_astore [(0, .ref 0), (1, .int (oI p1)), (2, .int (oI p2)), (3, .int (oI p3)), (4, .ref ((sd p1) + 144))] (xd dX11_secret 23 rfl) (by decide) rfl ?_
          refine xr_iload_n (xd dX11_secret 24 rfl) 2 rfl ?_
          refine xr_iconst (v := oI 2) (xd dX11_secret 25 rfl) (by decide) ?_
          replace h := h (fun (x11 : Int) (J12 : zM) (L13 : yM) => xJ (xGm b dC dI cA ts) l mX11_secret 2 12 (zQ1 n R Q) (zQx n R X) 1 6 60 [(2, .int (oI p2)), (3, .int (oI p3)), (4, .ref ((sd p1) + 144))] [.int (oI x11)] false n R (zi J12) (li L13)) (by
            intro x11 J12 L13 h
            show xJ _ _ _ _ _ _ _ _ _ 60 [(2, .int (oI p2)), (3, .int (oI p3)), (4, .ref ((sd p1) + 144))] [.int (oI x11)] _ _ _ _ _
            refine xr_istore [(2, .int (oI p2)), (3, .int (oI p3)), (4, .ref ((sd p1) + 144)), (5, .int (oI x11))] (xd dX11_secret 33 rfl) (by decide) rfl ?_
            refine xr_aload (xd dX11_secret 34 rfl) 2 rfl ?_
            refine zr_getI 5 11 11 rfl (xd dX11_secret 35 rfl) f11_200 (by decide) (by decide) (lt491 hn (ltS (sd_he o9) (by decide))) (kdS_144 (sd_he o9)) rfl ?_
            refine xr_iload (xd dX11_secret 36 rfl) 3 rfl ?_
            obtain ⟨o15, h⟩ := h
            obtain ⟨o16, h⟩ := h
            refine zr_icmp_lt 84 (xd dX11_secret 37 rfl) (by decide) o15 o16 (fun c17 => ?_) (fun c17 => ?_)
            · replace h := ifp h c17
              refine xr_iconst (v := oI (-1)) (xd dX11_secret 45 rfl) (by decide) ?_
              exact xr_iret (xd dX11_secret 46 rfl) rfl (by decide) (by decide) (fun q => by cases q) ⟨_, _, _, rfl, rfl, h⟩
            · replace h := ifn h c17
              refine xr_aload (xd dX11_secret 38 rfl) 2 rfl ?_
              refine xr_getR (b := ((sd p1) + 145)) 5 1 (xd dX11_secret 39 rfl) f11_205 (by decide) (by decide) (lt491 hn (ltS (sd_he o9) (by decide))) (kdS_144 (sd_he o9)) rfl (rS_144_1 hR (sd_he o9)) ?_
              refine xr_iload_n (xd dX11_secret 40 rfl) 0 rfl ?_
              obtain ⟨o18, h⟩ := h
              have f19 := famS_145 hR (sd_he o9) o18
              refine zr_aaload (b := ((sd p1) + 146 + (p2).toNat)) 3 (xd dX11_secret 41 rfl) (lt491 hn (ltS (sd_he o9) (by decide))) (by decide) (by decide) (kdS_145 (sd_he o9)) (lnS_145 (sd_he o9)) (by decide) o18 f19.1 ?_
              refine xr_iload_n (xd dX11_secret 42 rfl) 1 rfl ?_
              obtain ⟨o20, h⟩ := h
              refine zr_iaload (xd dX11_secret 43 rfl) (lt491 hn f19.2.1.2) f19.2.1.1 f19.2.2 (by decide) o20 ?_
              refine xr_goto 85 (xd dX11_secret 44 rfl) (by decide) ?_
              exact xr_iret (xd dX11_secret 46 rfl) rfl (by decide) (by decide) (fun q => by cases q) ⟨_, _, _, rfl, rfl, h⟩)
          replace h := h (fun (J21 : zM) (L22 : yM) => xJ (xGm b dC dI cA ts) l mX11_secret 2 12 (zQ1 n R Q) (zQx n R X) 1 6 55 [(2, .int (oI p2)), (3, .int (oI p3)), (4, .ref ((sd p1) + 144))] [] false n R (zi J21) (li L22)) (by
            intro J21 L22 h
            show xJ _ _ _ _ _ _ _ _ _ 55 [(2, .int (oI p2)), (3, .int (oI p3)), (4, .ref ((sd p1) + 144))] [] _ _ _ _ _
            refine xr_iconst (v := oI 3) (xd dX11_secret 30 rfl) (by decide) ?_
            refine xr_goto 60 (xd dX11_secret 31 rfl) (by decide) ?_
            exact h)
          refine zr_icmp_eq 55 (xd dX11_secret 26 rfl) (by decide) o3 (by decide) (fun c24 => ?_) (fun c24 => ?_)
          · replace h := ifp h c24
            refine xJ.pick (ls' := [(2, .int (oI p2)), (3, .int (oI p3)), (4, .ref ((sd p1) + 144))]) [2, 3, 4] rfl ?_
            exact h
          · replace h := ifn h c24
            refine xr_iload_n (xd dX11_secret 27 rfl) 2 rfl ?_
            refine xr_iconst (v := oI 3) (xd dX11_secret 28 rfl) (by decide) ?_
            refine zr_icmp_ne 59 (xd dX11_secret 29 rfl) (by decide) o3 (by decide) (fun c25 => ?_) (fun c25 => ?_)
            · replace h := ifn h c25
              refine xr_iconst (v := oI 2) (xd dX11_secret 32 rfl) (by decide) ?_
              refine xJ.pick (ls' := [(2, .int (oI p2)), (3, .int (oI p3)), (4, .ref ((sd p1) + 144))]) [2, 3, 4] rfl ?_
              exact h
            · replace h := ifp h c25
              refine xJ.pick (ls' := [(2, .int (oI p2)), (3, .int (oI p3)), (4, .ref ((sd p1) + 144))]) [2, 3, 4] rfl ?_
              exact h
        · replace h := ifn h c8
          exact xr_throw hst 22 kT_11_187_191 (by decide) rfl (xd dX11_secret 13 rfl) (xd dX11_secret 14 rfl) (xd dX11_secret 15 rfl) (xd dX11_secret 16 rfl) (xd dX11_secret 17 rfl) (Nat.le_of_ble_eq_true rfl |> fun q => ⟨q, Nat.le_of_ble_eq_true rfl⟩) (by decide) (by decide) ⟨_, _, rfl, h⟩
def w_X11_told (p1 : Int) (p2 : Int) (J : zM) (L : yM) (Q : Int → zM → yM → Prop) (X : String → zM → yM → Prop) : Prop := w_X11_checkSide p1 J L (fun J1 L2 => R32 p2 ∧ (if p2 < 0 then X "java/lang/IndexOutOfBoundsException" J1 L2 else (if p2 < 13 then ((0 : Int) ≤ p1 ∧ p1 < 2) ∧ w_X8_tellOf (sd p1) p2 J1 L2 (fun r10 J8 L9 => Q r10 J8 L9) else X "java/lang/IndexOutOfBoundsException" J1 L2))) X
set_option maxHeartbeats 4000000 in
set_option maxRecDepth 100000 in
theorem v_X11_told {b : Nat} {dC : Nat → ClassId} {dI : Nat → Nat → Nat} {cA : Nat → ClassId} {ts : Nat → Nat} {l : Launch} {n : Nat} {R : Nat → Nat → Option Nat} (hst : l.stackTraces = false) (hn : 491 ≤ n) (hR : xRk R) {p1 : Int} {p2 : Int}  {J : zM} {L : yM} {Q : Int → zM → yM → Prop} {X : String → zM → yM → Prop} (h : w_X11_told p1 p2 J L Q X) : xCn (xGm b dC dI cA ts) l mX11_told [.ref 0, .int (oI p1), .int (oI p2)] false (n, R, zi J, li L) 2 12 (zQ1 n R Q) (zQx n R X) := by
  refine xCn.ofJ (by decide) (Nat.le_of_ble_eq_true rfl) ?_
  show xJ _ _ _ _ _ _ _ _ _ 0 [(0, .ref 0), (1, .int (oI p1)), (2, .int (oI p2))] [] _ _ _ _ _
  unfold w_X11_told at h
  refine xr_aload_n (xd dX11_told 0 rfl) 0 rfl ?_
  refine xr_iload_n (xd dX11_told 1 rfl) 1 rfl ?_
  refine xr_callV mX11_checkSide 1 [.int (oI p1)] (xd dX11_told 2 rfl) l11_53 kX11_checkSide rfl (lt491 hn (by decide)) kd_0 (by decide) rfl (by decide) (Nat.le_of_ble_eq_true rfl) (v_X11_checkSide hst hn hR  h) (by decide) (by decide) (fun r_ M_ h_ => ?_) (fun _ _ h_ => h_)
  obtain ⟨J1, L2, rfl, rfl, h⟩ := h_
  show xJ _ _ _ _ _ _ _ _ _ 5 [(0, .ref 0), (1, .int (oI p1)), (2, .int (oI p2))] [] _ _ _ (zi J1) (li L2)
  refine xr_iload_n (xd dX11_told 3 rfl) 2 rfl ?_
  obtain ⟨o3, h⟩ := h
  refine zr_if_lt 15 (xd dX11_told 4 rfl) (by decide) o3 (fun c4 => ?_) (fun c4 => ?_)
  · replace h := ifp h c4
    exact xr_throw hst 23 kT_11_187_191 (by decide) rfl (xd dX11_told 8 rfl) (xd dX11_told 9 rfl) (xd dX11_told 10 rfl) (xd dX11_told 11 rfl) (xd dX11_told 12 rfl) (Nat.le_of_ble_eq_true rfl |> fun q => ⟨q, Nat.le_of_ble_eq_true rfl⟩) (by decide) (by decide) ⟨_, _, rfl, h⟩
  · replace h := ifn h c4
    refine xr_iload_n (xd dX11_told 5 rfl) 2 rfl ?_
    refine xr_bipush (v := oI 13) (xd dX11_told 6 rfl) (by decide) ?_
    refine zr_icmp_lt 25 (xd dX11_told 7 rfl) (by decide) o3 (by decide) (fun c5 => ?_) (fun c5 => ?_)
    · replace h := ifp h c5
      refine xr_aload_n (xd dX11_told 13 rfl) 0 rfl ?_
      refine xr_getR (b := 2) 11 1 (xd dX11_told 14 rfl) f11_17 (by decide) (by decide) (lt491 hn (by decide)) kd_0 rfl (r_0_1 hR) ?_
      refine xr_iload_n (xd dX11_told 15 rfl) 1 rfl ?_
      obtain ⟨o6, h⟩ := h
      refine zr_aaload (b := (sd p1)) 5 (xd dX11_told 16 rfl) (lt491 hn (by decide)) (by decide) (by decide) kd_2 ln_2 (by decide) o6 (sdI hR o6) ?_
      refine xr_iload_n (xd dX11_told 17 rfl) 2 rfl ?_
      refine xr_callV mX8_tellOf 1 [.int (oI p2)] (xd dX11_told 18 rfl) l11_211 kX8_tellOf rfl (lt491 hn (ltS0 (sd_he o6))) (kdS_0 (sd_he o6)) (by decide) rfl (by decide) (Nat.le_of_ble_eq_true rfl) (v_X8_tellOf hn hR (sd_he o6) h) (by decide) (by decide) (fun r_ M_ h_ => ?_) (fun _ _ h_ => h_.elim)
      obtain ⟨r10, J8, L9, rfl, rfl, h⟩ := h_
      show xJ _ _ _ _ _ _ _ _ _ 35 [(0, .ref 0), (1, .int (oI p1)), (2, .int (oI p2))] [.int (oI r10)] _ _ _ (zi J8) (li L9)
      exact xr_iret (xd dX11_told 19 rfl) rfl (by decide) (by decide) (fun q => by cases q) ⟨_, _, _, rfl, rfl, h⟩
    · replace h := ifn h c5
      exact xr_throw hst 23 kT_11_187_191 (by decide) rfl (xd dX11_told 8 rfl) (xd dX11_told 9 rfl) (xd dX11_told 10 rfl) (xd dX11_told 11 rfl) (xd dX11_told 12 rfl) (Nat.le_of_ble_eq_true rfl |> fun q => ⟨q, Nat.le_of_ble_eq_true rfl⟩) (by decide) (by decide) ⟨_, _, rfl, h⟩
