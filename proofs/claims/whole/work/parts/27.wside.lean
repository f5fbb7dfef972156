def w_X8_startAnew (e : Nat) (p1 : Int) (p2 : Int) (p3 : Int) (J : zM) (L : yM) (Q : zM → yM → Prop) : Prop := w_X9_startAnew e p1 p2 p3 J L (fun J1 L2 => w_X5_startAnew e J1 L2 (fun J3 L4 => w_X6_startAnew e p1 J3 L4 (fun J5 L6 => w_X2_startAnew e J5 L6 (fun J7 L8 => w_X3_startAnew e J7 L8 (fun J9 L10 => w_X0_startAnew e J9 L10 (fun J11 L12 => zl_z (fun K13 x14 J15 L16 => R32 x14 ∧ (if x14 < 4 then ((0 : Int) ≤ x14 ∧ x14 < 4) ∧ w_X10_startAnew (e + 172 + (x14).toNat) J15 L16 (fun J45 L46 => K13 (x14 + 1) J45 L46) else zl_z (fun K19 x20 J21 L22 => R32 x20 ∧ (if x20 < 5 then ((0 : Int) ≤ x20 ∧ x20 < 5) ∧ ∀ J42 : zM, J42 = zs J21 (e + 37) x20 0 → K19 (x20 + 1) J42 L22 else w_X4_empty (e + 38) J21 L22 (fun J25 L26 => ∀ J27 : zM, J27 = zs J25 e 12 0 → ∀ K31 : Int → zM → yM → Prop, (∀ (x28 : Int) (J29 : zM) (L30 : yM), (∀ J32 : zM, J32 = zs J29 e 13 x28 → ∀ J33 : zM, J33 = zs J32 e 14 0 → ∀ J34 : zM, J34 = zs J33 e 15 (-1) → ∀ J35 : zM, J35 = zs J34 e 16 0 → ∀ J36 : zM, J36 = zs J35 e 17 0 → ∀ J37 : zM, J37 = zs J36 e 18 0 → ∀ J38 : zM, J38 = zs J37 e 19 0 → Q J38 L30) → K31 x28 J29 L30) → R32 (J27 e 0) ∧ (if (J27 e 0) = 0 then K31 2 J27 L26 else K31 20 J27 L26)))) 0 J15 L16)) 0 J11 L12))))))
set_option maxHeartbeats 4000000 in
set_option maxRecDepth 100000 in
theorem v_X8_startAnew {b : Nat} {dC : Nat → ClassId} {dI : Nat → Nat → Nat} {cA : Nat → ClassId} {ts : Nat → Nat} {l : Launch} {n : Nat} {R : Nat → Nat → Option Nat} {al : Bool} (hn : 491 ≤ n) (hR : xRk R) {e : Nat} {p1 : Int} {p2 : Int} {p3 : Int} (he : iSide e) {J : zM} {L : yM} {Q : zM → yM → Prop} (h : w_X8_startAnew e p1 p2 p3 J L Q) : xCn (xGm b dC dI cA ts) l mX8_startAnew [.ref e, .int (oI p1), .int (oI p2), .int (oI p3)] al (n, R, zi J, li L) 0 0 (zQ0 n R Q) (fun _ _ => False) := by
  refine xCn.ofJ (by decide) (Nat.le_of_ble_eq_true rfl) ?_
  show xJ _ _ _ _ _ _ _ _ _ 0 [(0, .ref e), (1, .int (oI p1)), (2, .int (oI p2)), (3, .int (oI p3))] [] _ _ _ _ _
  unfold w_X8_startAnew at h
  refine xr_aload_n (xd dX8_startAnew 0 rfl) 0 rfl ?_
  refine xr_getR (b := (e + 1)) 8 1 (xd dX8_startAnew 1 rfl) f8_12 (by decide) (by decide) (lt491 hn (ltS0 he)) (kdS_0 he) rfl (rS_0_1 hR he) ?_
  refine xr_iload_n (xd dX8_startAnew 2 rfl) 1 rfl ?_
  refine xr_iload_n (xd dX8_startAnew 3 rfl) 2 rfl ?_
  refine xr_iload_n (xd dX8_startAnew 4 rfl) 3 rfl ?_
  refine xr_callV mX9_startAnew 3 [.int (oI p1), .int (oI p2), .int (oI p3)] (xd dX8_startAnew 5 rfl) l8_87 kX9_startAnew rfl (lt491 hn (ltS he (by decide))) (kdS_1 he) (by decide) rfl (by decide) (Nat.le_of_ble_eq_true rfl) (v_X9_startAnew hn hR he h) (by decide) (by decide) (fun r_ M_ h_ => ?_) (fun _ _ h_ => h_.elim)
  obtain ⟨J1, L2, rfl, rfl, h⟩ := h_
  show xJ _ _ _ _ _ _ _ _ _ 10 [(0, .ref e), (1, .int (oI p1)), (2, .int (oI p2)), (3, .int (oI p3))] [] _ _ _ (zi J1) (li L2)
  refine xr_aload_n (xd dX8_startAnew 6 rfl) 0 rfl ?_
  refine xr_getR (b := (e + 144)) 8 2 (xd dX8_startAnew 7 rfl) f8_73 (by decide) (by decide) (lt491 hn (ltS0 he)) (kdS_0 he) rfl (rS_0_2 hR he) ?_
  refine xr_callV mX5_startAnew 0 [] (xd dX8_startAnew 8 rfl) l8_91 kX5_startAnew rfl (lt491 hn (ltS he (by decide))) (kdS_144 he) (by decide) rfl (by decide) (Nat.le_of_ble_eq_true rfl) (v_X5_startAnew hn hR he h) (by decide) (by decide) (fun r_ M_ h_ => ?_) (fun _ _ h_ => h_.elim)
  obtain ⟨J3, L4, rfl, rfl, h⟩ := h_
  show xJ _ _ _ _ _ _ _ _ _ 17 [(0, .ref e), (1, .int (oI p1)), (2, .int (oI p2)), (3, .int (oI p3))] [] _ _ _ (zi J3) (li L4)
  refine xr_aload_n (xd dX8_startAnew 9 rfl) 0 rfl ?_
  refine xr_getR (b := (e + 168)) 8 3 (xd dX8_startAnew 10 rfl) f8_82 (by decide) (by decide) (lt491 hn (ltS0 he)) (kdS_0 he) rfl (rS_0_3 hR he) ?_
  refine xr_iload_n (xd dX8_startAnew 11 rfl) 1 rfl ?_
  refine xr_callV mX6_startAnew 1 [.int (oI p1)] (xd dX8_startAnew 12 rfl) l8_93 kX6_startAnew rfl (lt491 hn (ltS he (by decide))) (kdS_168 he) (by decide) rfl (by decide) (Nat.le_of_ble_eq_true rfl) (v_X6_startAnew hn hR he h) (by decide) (by decide) (fun r_ M_ h_ => ?_) (fun _ _ h_ => h_.elim)
  obtain ⟨J5, L6, rfl, rfl, h⟩ := h_
  show xJ _ _ _ _ _ _ _ _ _ 25 [(0, .ref e), (1, .int (oI p1)), (2, .int (oI p2)), (3, .int (oI p3))] [] _ _ _ (zi J5) (li L6)
  refine xr_aload_n (xd dX8_startAnew 13 rfl) 0 rfl ?_
  refine xr_getR (b := (e + 8)) 8 4 (xd dX8_startAnew 14 rfl) f8_21 (by decide) (by decide) (lt491 hn (ltS0 he)) (kdS_0 he) rfl (rS_0_4 hR he) ?_
  refine xr_callV mX2_startAnew 0 [] (xd dX8_startAnew 15 rfl) l8_96 kX2_startAnew rfl (lt491 hn (ltS he (by decide))) (kdS_8 he) (by decide) rfl (by decide) (Nat.le_of_ble_eq_true rfl) (v_X2_startAnew hn hR he h) (by decide) (by decide) (fun r_ M_ h_ => ?_) (fun _ _ h_ => h_.elim)
  obtain ⟨J7, L8, rfl, rfl, h⟩ := h_
  show xJ _ _ _ _ _ _ _ _ _ 32 [(0, .ref e), (1, .int (oI p1)), (2, .int (oI p2)), (3, .int (oI p3))] [] _ _ _ (zi J7) (li L8)
  refine xr_aload_n (xd dX8_startAnew 16 rfl) 0 rfl ?_
  refine xr_getR (b := (e + 17)) 8 5 (xd dX8_startAnew 17 rfl) f8_28 (by decide) (by decide) (lt491 hn (ltS0 he)) (kdS_0 he) rfl (rS_0_5 hR he) ?_
  refine xr_callV mX3_startAnew 0 [] (xd dX8_startAnew 18 rfl) l8_97 kX3_startAnew rfl (lt491 hn (ltS he (by decide))) (kdS_17 he) (by decide) rfl (by decide) (Nat.le_of_ble_eq_true rfl) (v_X3_startAnew hn hR he h) (by decide) (by decide) (fun r_ M_ h_ => ?_) (fun _ _ h_ => h_.elim)
  obtain ⟨J9, L10, rfl, rfl, h⟩ := h_
  show xJ _ _ _ _ _ _ _ _ _ 39 [(0, .ref e), (1, .int (oI p1)), (2, .int (oI p2)), (3, .int (oI p3))] [] _ _ _ (zi J9) (li L10)
  refine xr_aload_n (xd dX8_startAnew 19 rfl) 0 rfl ?_
  refine xr_getR (b := (e + 33)) 8 6 (xd dX8_startAnew 20 rfl) f8_35 (by decide) (by decide) (lt491 hn (ltS0 he)) (kdS_0 he) rfl (rS_0_6 hR he) ?_
  refine xr_callV mX0_startAnew 0 [] (xd dX8_startAnew 21 rfl) l8_98 kX0_startAnew rfl (lt491 hn (ltS he (by decide))) (kdS_33 he) (by decide) rfl (by decide) (Nat.le_of_ble_eq_true rfl) (v_X0_startAnew hn hR he h) (by decide) (by decide) (fun r_ M_ h_ => ?_) (fun _ _ h_ => h_.elim)
  obtain ⟨J11, L12, rfl, rfl, h⟩ := h_
  show xJ _ _ _ _ _ _ _ _ _ 46 [(0, .ref e), (1, .int (oI p1)), (2, .int (oI p2)), (3, .int (oI p3))] [] _ _ _ (zi J11) (li L12)
  refine xr_iconst (v := oI 0) (xd dX8_startAnew 22 rfl) (by decide) ?_
  refine xr_istore [(0, .ref e), (1, .int (oI p1)), (2, .int (oI p2)), (3, .int (oI p3)), (4, .int (oI 0))] (xd dX8_startAnew 23 rfl) (by decide) rfl ?_
  refine xJ.pick (ls' := [(0, .ref e), (4, .int (oI 0))]) [0, 4] rfl ?_
  refine h (fun x14 J15 L16 => xJ (xGm b dC dI cA ts) l mX8_startAnew 0 0 (zQ0 n R Q) (fun _ _ => False) 0 0 49 [(0, .ref e), (4, .int (oI x14))] [] al n R (zi J15) (li L16)) ?_
  intro x14 J15 L16 h
  show xJ _ _ _ _ _ _ _ _ _ 49 [(0, .ref e), (4, .int (oI x14))] [] _ _ _ _ _
  refine xr_iload (xd dX8_startAnew 24 rfl) 1 rfl ?_
  refine xr_aload_n (xd dX8_startAnew 25 rfl) 0 rfl ?_
  refine xr_getR (b := (e + 36)) 8 7 (xd dX8_startAnew 26 rfl) f8_41 (by decide) (by decide) (lt491 hn (ltS0 he)) (kdS_0 he) rfl (rS_0_7 hR he) ?_
  refine zr_alen (v := 4) 6 (xd dX8_startAnew 27 rfl) (lt491 hn (ltS he (by decide))) (by decide) (kdS_36 he) (lnS_36 he) rfl ?_
  obtain ⟨o17, h⟩ := h
  refine zr_icmp_ge 75 (xd dX8_startAnew 28 rfl) (by decide) o17 (by decide) (fun c18 => ?_) (fun c18 => ?_)
  · replace h := ifn h c18
    refine xr_iconst (v := oI 0) (xd dX8_startAnew 36 rfl) (by decide) ?_
    refine xr_istore [(0, .ref e), (4, .int (oI 0))] (xd dX8_startAnew 37 rfl) (by decide) rfl ?_
    refine h (fun x20 J21 L22 => xJ (xGm b dC dI cA ts) l mX8_startAnew 0 0 (zQ0 n R Q) (fun _ _ => False) 0 0 78 [(0, .ref e), (4, .int (oI x20))] [] al n R (zi J21) (li L22)) ?_
    intro x20 J21 L22 h
    show xJ _ _ _ _ _ _ _ _ _ 78 [(0, .ref e), (4, .int (oI x20))] [] _ _ _ _ _
    refine xr_iload (xd dX8_startAnew 38 rfl) 1 rfl ?_
    refine xr_aload_n (xd dX8_startAnew 39 rfl) 0 rfl ?_
    refine xr_getR (b := (e + 37)) 8 8 (xd dX8_startAnew 40 rfl) f8_45 (by decide) (by decide) (lt491 hn (ltS0 he)) (kdS_0 he) rfl (rS_0_8 hR he) ?_
    refine zr_alen (v := 5) 0 (xd dX8_startAnew 41 rfl) (lt491 hn (ltS he (by decide))) (by decide) (kdS_37 he) (lnS_37 he) rfl ?_
    obtain ⟨o23, h⟩ := h
    refine zr_icmp_ge 102 (xd dX8_startAnew 42 rfl) (by decide) o23 (by decide) (fun c24 => ?_) (fun c24 => ?_)
    · replace h := ifn h c24
      refine xr_aload_n (xd dX8_startAnew 50 rfl) 0 rfl ?_
      refine xr_getR (b := (e + 38)) 8 9 (xd dX8_startAnew 51 rfl) f8_54 (by decide) (by decide) (lt491 hn (ltS0 he)) (kdS_0 he) rfl (rS_0_9 hR he) ?_
      refine xr_callV mX4_empty 0 [] (xd dX8_startAnew 52 rfl) l8_100 kX4_empty rfl (lt491 hn (rows_lt0 (wr_hr he))) (rows_kd (wr_hr he)).1 (by decide) rfl (by decide) (Nat.le_of_ble_eq_true rfl) (v_X4_empty hn hR (wr_hr he) h) (by decide) (by decide) (fun r_ M_ h_ => ?_) (fun _ _ h_ => h_.elim)
      obtain ⟨J25, L26, rfl, rfl, h⟩ := h_
      show xJ _ _ _ _ _ _ _ _ _ 109 [(0, .ref e), (4, .int (oI x20))] [] _ _ _ (zi J25) (li L26)
      refine xr_aload_n (xd dX8_startAnew 53 rfl) 0 rfl ?_
      refine xr_iconst (v := oI 0) (xd dX8_startAnew 54 rfl) (by decide) ?_
      obtain ⟨J27, e_J27⟩ : ∃ z_ : zM, z_ = zs J25 e 12 0 := ⟨_, rfl⟩
      replace h := h J27 e_J27
      refine zr_putI 8 12 12 rfl e_J27 (xd dX8_startAnew 55 rfl) f8_103 (by decide) (by decide) (lt491 hn (ltS0 he)) (kdS_0 he) (Or.inl rfl) rfl rfl (fun _ => rfl) ?_
      refine xr_aload_n (xd dX8_startAnew 56 rfl) 0 rfl ?_
      refine xr_aload_n (xd dX8_startAnew 57 rfl) 0 rfl ?_
      refine zr_getI 8 0 0 rfl (xd dX8_startAnew 58 rfl) f8_64 (by decide) (by decide) (lt491 hn (ltS0 he)) (kdS_0 he) rfl ?_
      replace h := h (fun (x28 : Int) (J29 : zM) (L30 : yM) => xJ (xGm b dC dI cA ts) l mX8_startAnew 0 0 (zQ0 n R Q) (fun _ _ => False) 0 0 128 [(0, .ref e)] [.int (oI x28), .ref e] al n R (zi J29) (li L30)) (by
        intro x28 J29 L30 h
        show xJ _ _ _ _ _ _ _ _ _ 128 [(0, .ref e)] [.int (oI x28), .ref e] _ _ _ _ _
        obtain ⟨J32, e_J32⟩ : ∃ z_ : zM, z_ = zs J29 e 13 x28 := ⟨_, rfl⟩
        replace h := h J32 e_J32
        refine zr_putI 8 13 13 rfl e_J32 (xd dX8_startAnew 63 rfl) f8_106 (by decide) (by decide) (lt491 hn (ltS0 he)) (kdS_0 he) (Or.inl rfl) rfl rfl (fun _ => rfl) ?_
        refine xr_aload_n (xd dX8_startAnew 64 rfl) 0 rfl ?_
        refine xr_iconst (v := oI 0) (xd dX8_startAnew 65 rfl) (by decide) ?_
        obtain ⟨J33, e_J33⟩ : ∃ z_ : zM, z_ = zs J32 e 14 0 := ⟨_, rfl⟩
        replace h := h J33 e_J33
        refine zr_putI 8 14 14 rfl e_J33 (xd dX8_startAnew 66 rfl) f8_109 (by decide) (by decide) (lt491 hn (ltS0 he)) (kdS_0 he) (Or.inl rfl) rfl rfl (fun _ => rfl) ?_
        refine xr_aload_n (xd dX8_startAnew 67 rfl) 0 rfl ?_
        refine xr_iconst (v := oI (-1)) (xd dX8_startAnew 68 rfl) (by decide) ?_
        obtain ⟨J34, e_J34⟩ : ∃ z_ : zM, z_ = zs J33 e 15 (-1) := ⟨_, rfl⟩
        replace h := h J34 e_J34
        refine zr_putI 8 15 15 rfl e_J34 (xd dX8_startAnew 69 rfl) f8_112 (by decide) (by decide) (lt491 hn (ltS0 he)) (kdS_0 he) (Or.inl rfl) rfl rfl (fun _ => rfl) ?_
        refine xr_aload_n (xd dX8_startAnew 70 rfl) 0 rfl ?_
        refine xr_iconst (v := oI 0) (xd dX8_startAnew 71 rfl) (by decide) ?_
        obtain ⟨J35, e_J35⟩ : ∃ z_ : zM, z_ = zs J34 e 16 0 := ⟨_, rfl⟩
        replace h := h J35 e_J35
        refine zr_putI 8 16 16 rfl e_J35 (xd dX8_startAnew 72 rfl) f8_115 (by decide) (by decide) (lt491 hn (ltS0 he)) (kdS_0 he) (Or.inl rfl) rfl rfl (fun _ => rfl) ?_
        refine xr_aload_n (xd dX8_startAnew 73 rfl) 0 rfl ?_
        refine xr_iconst (v := oI 0) (xd dX8_startAnew 74 rfl) (by decide) ?_
        obtain ⟨J36, e_J36⟩ : ∃ z_ : zM, z_ = zs J35 e 17 0 := ⟨_, rfl⟩
        replace h := h J36 e_J36
        refine zr_putI 8 17 17 rfl e_J36 (xd dX8_startAnew 75 rfl) f8_118 (by decide) (by decide) (lt491 hn (ltS0 he)) (kdS_0 he) (Or.inl rfl) rfl rfl (fun _ => rfl) ?_
        refine xr_aload_n (xd dX8_startAnew 76 rfl) 0 rfl ?_
        refine xr_iconst (v := oI 0) (xd dX8_startAnew 77 rfl) (by decide) ?_
        obtain ⟨J37, e_J37⟩ : ∃ z_ : zM, z_ = zs J36 e 18 0 := ⟨_, rfl⟩
        replace h := h J37 e_J37
        refine zr_putI 8 18 18 rfl e_J37 (xd dX8_startAnew 78 rfl) f8_121 (by decide) (by decide) (lt491 hn (ltS0 he)) (kdS_0 he) (Or.inl rfl) rfl rfl (fun _ => rfl) ?_
        refine xr_aload_n (xd dX8_startAnew 79 rfl) 0 rfl ?_
        refine xr_iconst (v := oI 0) (xd dX8_startAnew 80 rfl) (by decide) ?_
        obtain ⟨J38, e_J38⟩ : ∃ z_ : zM, z_ = zs J37 e 19 0 := ⟨_, rfl⟩
        replace h := h J38 e_J38
        refine zr_putI 8 19 19 rfl e_J38 (xd dX8_startAnew 81 rfl) f8_124 (by decide) (by decide) (lt491 hn (ltS0 he)) (kdS_0 he) (Or.inl rfl) rfl rfl (fun _ => rfl) ?_
        exact xr_vret (xd dX8_startAnew 82 rfl) rfl (by decide) (by decide) (fun _ => rfl) ⟨_, _, rfl, rfl, h⟩)
      obtain ⟨o39, h⟩ := h
      refine zr_if_ne 126 (xd dX8_startAnew 59 rfl) (by decide) o39 (fun c40 => ?_) (fun c40 => ?_)
      · replace h := ifn h c40
        refine xr_bipush (v := oI 20) (xd dX8_startAnew 62 rfl) (by decide) ?_
        refine xJ.pick (ls' := [(0, .ref e)]) [0] rfl ?_
        exact h
      · replace h := ifp h c40
        refine xr_iconst (v := oI 2) (xd dX8_startAnew 60 rfl) (by decide) ?_
        refine xr_goto 128 (xd dX8_startAnew 61 rfl) (by decide) ?_
        refine xJ.pick (ls' := [(0, .ref e)]) [0] rfl ?_
        exact h
    · replace h := ifp h c24
      refine xr_aload_n (xd dX8_startAnew 43 rfl) 0 rfl ?_
      refine xr_getR (b := (e + 37)) 8 8 (xd dX8_startAnew 44 rfl) f8_45 (by decide) (by decide) (lt491 hn (ltS0 he)) (kdS_0 he) rfl (rS_0_8 hR he) ?_
      refine xr_iload (xd dX8_startAnew 45 rfl) 1 rfl ?_
      refine xr_iconst (v := oI 0) (xd dX8_startAnew 46 rfl) (by decide) ?_
      obtain ⟨o41, h⟩ := h
      obtain ⟨J42, e_J42⟩ : ∃ z_ : zM, z_ = zs J21 (e + 37) x20 0 := ⟨_, rfl⟩
      replace h := h J42 e_J42
      refine zr_iastore e_J42 (xd dX8_startAnew 47 rfl) (lt491 hn (ltS he (by decide))) (kdS_37 he) (lnS_37 he) (by decide) o41 ?_
      refine zr_iinc [(0, .ref e), (4, .int (oI (x20 + 1)))] (xd dX8_startAnew 48 rfl) 1 rfl (by decide) rfl ?_
      refine xr_goto 78 (xd dX8_startAnew 49 rfl) (by decide) ?_
      exact h
  · replace h := ifp h c18
    refine xr_aload_n (xd dX8_startAnew 29 rfl) 0 rfl ?_
    refine xr_getR (b := (e + 36)) 8 7 (xd dX8_startAnew 30 rfl) f8_41 (by decide) (by decide) (lt491 hn (ltS0 he)) (kdS_0 he) rfl (rS_0_7 hR he) ?_
    refine xr_iload (xd dX8_startAnew 31 rfl) 1 rfl ?_
    obtain ⟨o43, h⟩ := h
    have f44 := famS_36 hR he o43
    refine zr_aaload (b := (e + 172 + (x14).toNat)) 6 (xd dX8_startAnew 32 rfl) (lt491 hn (ltS he (by decide))) (by decide) (by decide) (kdS_36 he) (lnS_36 he) (by decide) o43 f44.1 ?_
    refine xr_callV mX10_startAnew 0 [] (xd dX8_startAnew 33 rfl) l8_99 kX10_startAnew rfl (lt491 hn f44.2.1.2) f44.2.1.1 (by decide) rfl (by decide) (Nat.le_of_ble_eq_true rfl) (v_X10_startAnew hn hR f44.2.1 h) (by decide) (by decide) (fun r_ M_ h_ => ?_) (fun _ _ h_ => h_.elim)
    obtain ⟨J45, L46, rfl, rfl, h⟩ := h_
    show xJ _ _ _ _ _ _ _ _ _ 69 [(0, .ref e), (4, .int (oI x14))] [] _ _ _ (zi J45) (li L46)
    refine zr_iinc [(0, .ref e), (4, .int (oI (x14 + 1)))] (xd dX8_startAnew 34 rfl) 1 rfl (by decide) rfl ?_
    refine xr_goto 49 (xd dX8_startAnew 35 rfl) (by decide) ?_
    exact h
def w_X8_tellOf (e : Nat) (p1 : Int) (J : zM) (L : yM) (Q : Int → zM → yM → Prop) : Prop := R32 p1 ∧ (if p1 = 5 then Q (J (e + 168) 8) J L else (if p1 = 6 then Q (J e 18) J L else (if p1 = 7 then R32 (J (e + 8) 13) ∧ (if (J (e + 8) 13) = 0 then Q 0 J L else Q (J (e + 8) 10) J L) else (if p1 = 8 then Q (J e 15) J L else (if p1 = 9 then Q (J e 16) J L else (if p1 = 10 then Q (J (e + 33) 2) J L else (if p1 = 11 then Q (J e 14) J L else (if p1 = 12 then R32 (J (e + 8) 13) ∧ (if (J (e + 8) 13) = 0 then Q 0 J L else w_X2_notAcked e J L (fun r16 J14 L15 => Q r16 J14 L15)) else (if p1 < 0 then Q (-1) J L else (if p1 < 5 then ((0 : Int) ≤ p1 ∧ p1 < 5) ∧ Q (J (e + 37) p1) J L else Q (-1) J L))))))))))
set_option maxHeartbeats 4000000 in
set_option maxRecDepth 100000 in
theorem v_X8_tellOf {b : Nat} {dC : Nat → ClassId} {dI : Nat → Nat → Nat} {cA : Nat → ClassId} {ts : Nat → Nat} {l : Launch} {n : Nat} {R : Nat → Nat → Option Nat} {al : Bool} (hn : 491 ≤ n) (hR : xRk R) {e : Nat} {p1 : Int} (he : iSide e) {J : zM} {L : yM} {Q : Int → zM → yM → Prop} (h : w_X8_tellOf e p1 J L Q) : xCn (xGm b dC dI cA ts) l mX8_tellOf [.ref e, .int (oI p1)] al (n, R, zi J, li L) 0 0 (zQ1 n R Q) (fun _ _ => False) := by
  refine xCn.ofJ (by decide) (Nat.le_of_ble_eq_true rfl) ?_
  show xJ _ _ _ _ _ _ _ _ _ 0 [(0, .ref e), (1, .int (oI p1))] [] _ _ _ _ _
  unfold w_X8_tellOf at h
  refine xr_iload_n (xd dX8_tellOf 0 rfl) 1 rfl ?_
  obtain ⟨o1, h⟩ := h
  by_cases c2 : p1 = 5
  · replace h := ifp h c2
    refine zr_tab (off := 47) 48 (xd dX8_tellOf 1 rfl) o1 (by rw [c2]; rfl) (by decide) (by decide) ?_
    refine xr_aload_n (xd dX8_tellOf 2 rfl) 0 rfl ?_
    refine xr_getR (b := (e + 168)) 8 3 (xd dX8_tellOf 3 rfl) f8_82 (by decide) (by decide) (lt491 hn (ltS0 he)) (kdS_0 he) rfl (rS_0_3 hR he) ?_
    refine zr_getI 6 8 8 rfl (xd dX8_tellOf 4 rfl) f8_127 (by decide) (by decide) (lt491 hn (ltS he (by decide))) (kdS_168 he) rfl ?_
    exact xr_iret (xd dX8_tellOf 5 rfl) rfl (by decide) (by decide) (fun _ => rfl) ⟨_, _, _, rfl, rfl, h⟩
  replace h := ifn h c2
  by_cases c3 : p1 = 6
  · replace h := ifp h c3
    refine zr_tab (off := 55) 56 (xd dX8_tellOf 1 rfl) o1 (by rw [c3]; rfl) (by decide) (by decide) ?_
    refine xr_aload_n (xd dX8_tellOf 6 rfl) 0 rfl ?_
    refine zr_getI 8 18 18 rfl (xd dX8_tellOf 7 rfl) f8_121 (by decide) (by decide) (lt491 hn (ltS0 he)) (kdS_0 he) rfl ?_
    exact xr_iret (xd dX8_tellOf 8 rfl) rfl (by decide) (by decide) (fun _ => rfl) ⟨_, _, _, rfl, rfl, h⟩
  replace h := ifn h c3
  by_cases c4 : p1 = 7
  · replace h := ifp h c4
    refine zr_tab (off := 60) 61 (xd dX8_tellOf 1 rfl) o1 (by rw [c4]; rfl) (by decide) (by decide) ?_
    refine xr_aload_n (xd dX8_tellOf 9 rfl) 0 rfl ?_
    refine xr_getR (b := (e + 8)) 8 4 (xd dX8_tellOf 10 rfl) f8_21 (by decide) (by decide) (lt491 hn (ltS0 he)) (kdS_0 he) rfl (rS_0_4 hR he) ?_
    refine zr_getI 2 13 13 rfl (xd dX8_tellOf 11 rfl) f8_130 (by decide) (by decide) (lt491 hn (ltS he (by decide))) (kdS_8 he) rfl ?_
    obtain ⟨o5, h⟩ := h
    refine zr_if_eq 81 (xd dX8_tellOf 12 rfl) (by decide) o5 (fun c6 => ?_) (fun c6 => ?_)
    · replace h := ifp h c6
      refine xr_iconst (v := oI 0) (xd dX8_tellOf 17 rfl) (by decide) ?_
      exact xr_iret (xd dX8_tellOf 18 rfl) rfl (by decide) (by decide) (fun _ => rfl) ⟨_, _, _, rfl, rfl, h⟩
    · replace h := ifn h c6
      refine xr_aload_n (xd dX8_tellOf 13 rfl) 0 rfl ?_
      refine xr_getR (b := (e + 8)) 8 4 (xd dX8_tellOf 14 rfl) f8_21 (by decide) (by decide) (lt491 hn (ltS0 he)) (kdS_0 he) rfl (rS_0_4 hR he) ?_
      refine zr_getI 2 10 10 rfl (xd dX8_tellOf 15 rfl) f8_134 (by decide) (by decide) (lt491 hn (ltS he (by decide))) (kdS_8 he) rfl ?_
      refine xr_goto 82 (xd dX8_tellOf 16 rfl) (by decide) ?_
      exact xr_iret (xd dX8_tellOf 18 rfl) rfl (by decide) (by decide) (fun _ => rfl) ⟨_, _, _, rfl, rfl, h⟩
  replace h := ifn h c4
  by_cases c7 : p1 = 8
  · replace h := ifp h c7
    refine zr_tab (off := 82) 83 (xd dX8_tellOf 1 rfl) o1 (by rw [c7]; rfl) (by decide) (by decide) ?_
    refine xr_aload_n (xd dX8_tellOf 19 rfl) 0 rfl ?_
    refine zr_getI 8 15 15 rfl (xd dX8_tellOf 20 rfl) f8_112 (by decide) (by decide) (lt491 hn (ltS0 he)) (kdS_0 he) rfl ?_
    exact xr_iret (xd dX8_tellOf 21 rfl) rfl (by decide) (by decide) (fun _ => rfl) ⟨_, _, _, rfl, rfl, h⟩
  replace h := ifn h c7
  by_cases c8 : p1 = 9
  · replace h := ifp h c8
    refine zr_tab (off := 87) 88 (xd dX8_tellOf 1 rfl) o1 (by rw [c8]; rfl) (by decide) (by decide) ?_
    refine xr_aload_n (xd dX8_tellOf 22 rfl) 0 rfl ?_
    refine zr_getI 8 16 16 rfl (xd dX8_tellOf 23 rfl) f8_115 (by decide) (by decide) (lt491 hn (ltS0 he)) (kdS_0 he) rfl ?_
    exact xr_iret (xd dX8_tellOf 24 rfl) rfl (by decide) (by decide) (fun _ => rfl) ⟨_, _, _, rfl, rfl, h⟩
  replace h := ifn h c8
  by_cases c9 : p1 = 10
  · replace h := ifp h c9
    refine zr_tab (off := 92) 93 (xd dX8_tellOf 1 rfl) o1 (by rw [c9]; rfl) (by decide) (by decide) ?_
    refine xr_aload_n (xd dX8_tellOf 25 rfl) 0 rfl ?_
    refine xr_getR (b := (e + 33)) 8 6 (xd dX8_tellOf 26 rfl) f8_35 (by decide) (by decide) (lt491 hn (ltS0 he)) (kdS_0 he) rfl (rS_0_6 hR he) ?_
    refine zr_getI 0 2 2 rfl (xd dX8_tellOf 27 rfl) f8_137 (by decide) (by decide) (lt491 hn (ltS he (by decide))) (kdS_33 he) rfl ?_
    exact xr_iret (xd dX8_tellOf 28 rfl) rfl (by decide) (by decide) (fun _ => rfl) ⟨_, _, _, rfl, rfl, h⟩
  replace h := ifn h c9
  by_cases c10 : p1 = 11
  · replace h := ifp h c10
    refine zr_tab (off := 100) 101 (xd dX8_tellOf 1 rfl) o1 (by rw [c10]; rfl) (by decide) (by decide) ?_
    refine xr_aload_n (xd dX8_tellOf 29 rfl) 0 rfl ?_
    refine zr_getI 8 14 14 rfl (xd dX8_tellOf 30 rfl) f8_109 (by decide) (by decide) (lt491 hn (ltS0 he)) (kdS_0 he) rfl ?_
    exact xr_iret (xd dX8_tellOf 31 rfl) rfl (by decide) (by decide) (fun _ => rfl) ⟨_, _, _, rfl, rfl, h⟩
  replace h := ifn h c10
  by_cases c11 : p1 = 12
  · replace h := ifp h c11
    refine zr_tab (off := 105) 106 (xd dX8_tellOf 1 rfl) o1 (by rw [c11]; rfl) (by decide) (by decide) ?_
    refine xr_aload_n (xd dX8_tellOf 32 rfl) 0 rfl ?_
    refine xr_getR (b := (e + 8)) 8 4 (xd dX8_tellOf 33 rfl) f8_21 (by decide) (by decide) (lt491 hn (ltS0 he)) (kdS_0 he) rfl (rS_0_4 hR he) ?_
    refine zr_getI 2 13 13 rfl (xd dX8_tellOf 34 rfl) f8_130 (by decide) (by decide) (lt491 hn (ltS he (by decide))) (kdS_8 he) rfl ?_
    obtain ⟨o12, h⟩ := h
    refine zr_if_eq 126 (xd dX8_tellOf 35 rfl) (by decide) o12 (fun c13 => ?_) (fun c13 => ?_)
    · replace h := ifp h c13
      refine xr_iconst (v := oI 0) (xd dX8_tellOf 40 rfl) (by decide) ?_
      exact xr_iret (xd dX8_tellOf 41 rfl) rfl (by decide) (by decide) (fun _ => rfl) ⟨_, _, _, rfl, rfl, h⟩
    · replace h := ifn h c13
      refine xr_aload_n (xd dX8_tellOf 36 rfl) 0 rfl ?_
      refine xr_getR (b := (e + 8)) 8 4 (xd dX8_tellOf 37 rfl) f8_21 (by decide) (by decide) (lt491 hn (ltS0 he)) (kdS_0 he) rfl (rS_0_4 hR he) ?_
      refine xr_callV mX2_notAcked 0 [] (xd dX8_tellOf 38 rfl) l8_140 kX2_notAcked rfl (lt491 hn (ltS he (by decide))) (kdS_8 he) (by decide) rfl (by decide) (Nat.le_of_ble_eq_true rfl) (v_X2_notAcked hn hR he h) (by decide) (by decide) (fun r_ M_ h_ => ?_) (fun _ _ h_ => h_.elim)
      obtain ⟨r16, J14, L15, rfl, rfl, h⟩ := h_
      show xJ _ _ _ _ _ _ _ _ _ 123 [(0, .ref e), (1, .int (oI p1))] [.int (oI r16)] _ _ _ (zi J14) (li L15)
      refine xr_goto 127 (xd dX8_tellOf 39 rfl) (by decide) ?_
      exact xr_iret (xd dX8_tellOf 41 rfl) rfl (by decide) (by decide) (fun _ => rfl) ⟨_, _, _, rfl, rfl, h⟩
  replace h := ifn h c11
  refine zr_tab (off := 127) 128 (xd dX8_tellOf 1 rfl) o1 (by unfold tabOff; split <;> first | rfl | (exfalso; omega)) (by decide) (by decide) ?_
  refine xr_iload_n (xd dX8_tellOf 42 rfl) 1 rfl ?_
  refine zr_if_lt 150 (xd dX8_tellOf 43 rfl) (by decide) o1 (fun c17 => ?_) (fun c17 => ?_)
  · replace h := ifp h c17
    refine xr_iconst (v := oI (-1)) (xd dX8_tellOf 54 rfl) (by decide) ?_
    exact xr_iret (xd dX8_tellOf 55 rfl) rfl (by decide) (by decide) (fun _ => rfl) ⟨_, _, _, rfl, rfl, h⟩
  · replace h := ifn h c17
    refine xr_iload_n (xd dX8_tellOf 44 rfl) 1 rfl ?_
    refine xr_aload_n (xd dX8_tellOf 45 rfl) 0 rfl ?_
    refine xr_getR (b := (e + 37)) 8 8 (xd dX8_tellOf 46 rfl) f8_45 (by decide) (by decide) (lt491 hn (ltS0 he)) (kdS_0 he) rfl (rS_0_8 hR he) ?_
    refine zr_alen (v := 5) 0 (xd dX8_tellOf 47 rfl) (lt491 hn (ltS he (by decide))) (by decide) (kdS_37 he) (lnS_37 he) rfl ?_
    refine zr_icmp_ge 150 (xd dX8_tellOf 48 rfl) (by decide) o1 (by decide) (fun c18 => ?_) (fun c18 => ?_)
    · replace h := ifn h c18
      refine xr_iconst (v := oI (-1)) (xd dX8_tellOf 54 rfl) (by decide) ?_
      exact xr_iret (xd dX8_tellOf 55 rfl) rfl (by decide) (by decide) (fun _ => rfl) ⟨_, _, _, rfl, rfl, h⟩
    · replace h := ifp h c18
      refine xr_aload_n (xd dX8_tellOf 49 rfl) 0 rfl ?_
      refine xr_getR (b := (e + 37)) 8 8 (xd dX8_tellOf 50 rfl) f8_45 (by decide) (by decide) (lt491 hn (ltS0 he)) (kdS_0 he) rfl (rS_0_8 hR he) ?_
      refine xr_iload_n (xd dX8_tellOf 51 rfl) 1 rfl ?_
      obtain ⟨o19, h⟩ := h
      refine zr_iaload (xd dX8_tellOf 52 rfl) (lt491 hn (ltS he (by decide))) (kdS_37 he) (lnS_37 he) (by decide) o19 ?_
      refine xr_goto 151 (xd dX8_tellOf 53 rfl) (by decide) ?_
      exact xr_iret (xd dX8_tellOf 55 rfl) rfl (by decide) (by decide) (fun _ => rfl) ⟨_, _, _, rfl, rfl, h⟩
def w_X8_isOpen (e : Nat) (J : zM) (L : yM) (Q : Int → zM → yM → Prop) : Prop := R32 (J e 12) ∧ (if (J e 12) = 2 then Q 1 J L else (if (J e 12) = 3 then Q 1 J L else Q 0 J L))
set_option maxHeartbeats 4000000 in
set_option maxRecDepth 100000 in
theorem v_X8_isOpen {b : Nat} {dC : Nat → ClassId} {dI : Nat → Nat → Nat} {cA : Nat → ClassId} {ts : Nat → Nat} {l : Launch} {n : Nat} {R : Nat → Nat → Option Nat} {al : Bool} (hn : 491 ≤ n) (hR : xRk R) {e : Nat} (he : iSide e) {J : zM} {L : yM} {Q : Int → zM → yM → Prop} (h : w_X8_isOpen e J L Q) : xCn (xGm b dC dI cA ts) l mX8_isOpen [.ref e] al (n, R, zi J, li L) 0 0 (zQ1 n R Q) (fun _ _ => False) := by
  refine xCn.ofJ (by decide) (Nat.le_of_ble_eq_true rfl) ?_
  show xJ _ _ _ _ _ _ _ _ _ 0 [(0, .ref e)] [] _ _ _ _ _
  unfold w_X8_isOpen at h
  refine xr_aload_n (xd dX8_isOpen 0 rfl) 0 rfl ?_
  refine zr_getI 8 12 12 rfl (xd dX8_isOpen 1 rfl) f8_103 (by decide) (by decide) (lt491 hn (ltS0 he)) (kdS_0 he) rfl ?_
  refine xr_iconst (v := oI 2) (xd dX8_isOpen 2 rfl) (by decide) ?_
  obtain ⟨o1, h⟩ := h
  refine zr_icmp_eq 16 (xd dX8_isOpen 3 rfl) (by decide) o1 (by decide) (fun c2 => ?_) (fun c2 => ?_)
  · replace h := ifp h c2
    refine xr_iconst (v := oI 1) (xd dX8_isOpen 8 rfl) (by decide) ?_
    refine xr_goto 21 (xd dX8_isOpen 9 rfl) (by decide) ?_
    exact xr_zret (xd dX8_isOpen 11 rfl) rfl (zret_b (Or.inr rfl)) (by decide) (by decide) (fun _ => rfl) ⟨_, _, _, rfl, rfl, h⟩
  · replace h := ifn h c2
    refine xr_aload_n (xd dX8_isOpen 4 rfl) 0 rfl ?_
    refine zr_getI 8 12 12 rfl (xd dX8_isOpen 5 rfl) f8_103 (by decide) (by decide) (lt491 hn (ltS0 he)) (kdS_0 he) rfl ?_
    refine xr_iconst (v := oI 3) (xd dX8_isOpen 6 rfl) (by decide) ?_
    refine zr_icmp_ne 20 (xd dX8_isOpen 7 rfl) (by decide) o1 (by decide) (fun c3 => ?_) (fun c3 => ?_)
    · replace h := ifn h c3
      refine xr_iconst (v := oI 0) (xd dX8_isOpen 10 rfl) (by decide) ?_
      exact xr_zret (xd dX8_isOpen 11 rfl) rfl (zret_b (Or.inl rfl)) (by decide) (by decide) (fun _ => rfl) ⟨_, _, _, rfl, rfl, h⟩
    · replace h := ifp h c3
      refine xr_iconst (v := oI 1) (xd dX8_isOpen 8 rfl) (by decide) ?_
      refine xr_goto 21 (xd dX8_isOpen 9 rfl) (by decide) ?_
      exact xr_zret (xd dX8_isOpen 11 rfl) rfl (zret_b (Or.inr rfl)) (by decide) (by decide) (fun _ => rfl) ⟨_, _, _, rfl, rfl, h⟩
def w_X8_sendAcks (e : Nat) (J : zM) (L : yM) (Q : zM → yM → Prop) : Prop := R32 (J (e + 33) 2) ∧ (if 0 < (J (e + 33) 2) then w_X0_putInto e (e + 170) J L (fun r5 J3 L4 => w_X6_putRecord e (J3 (e + 144) 11) 26 r5 J3 L4 (fun r8 J6 L7 => w_X6_flush e J6 L7 (fun J9 L10 => Q J9 L10))) else Q J L)
set_option maxHeartbeats 4000000 in
set_option maxRecDepth 100000 in
theorem v_X8_sendAcks {b : Nat} {dC : Nat → ClassId} {dI : Nat → Nat → Nat} {cA : Nat → ClassId} {ts : Nat → Nat} {l : Launch} {n : Nat} {R : Nat → Nat → Option Nat} {al : Bool} (hn : 491 ≤ n) (hR : xRk R) {e : Nat} (he : iSide e) {J : zM} {L : yM} {Q : zM → yM → Prop} (h : w_X8_sendAcks e J L Q) : xCn (xGm b dC dI cA ts) l mX8_sendAcks [.ref e] al (n, R, zi J, li L) 0 0 (zQ0 n R Q) (fun _ _ => False) := by
  refine xCn.ofJ (by decide) (Nat.le_of_ble_eq_true rfl) ?_
  show xJ _ _ _ _ _ _ _ _ _ 0 [(0, .ref e)] [] _ _ _ _ _
  unfold w_X8_sendAcks at h
  refine xr_aload_n (xd dX8_sendAcks 0 rfl) 0 rfl ?_
  refine xr_getR (b := (e + 33)) 8 6 (xd dX8_sendAcks 1 rfl) f8_35 (by decide) (by decide) (lt491 hn (ltS0 he)) (kdS_0 he) rfl (rS_0_6 hR he) ?_
  refine zr_getI 0 2 2 rfl (xd dX8_sendAcks 2 rfl) f8_137 (by decide) (by decide) (lt491 hn (ltS he (by decide))) (kdS_33 he) rfl ?_
  obtain ⟨o1, h⟩ := h
  refine zr_if_le 50 (xd dX8_sendAcks 3 rfl) (by decide) o1 (fun c2 => ?_) (fun c2 => ?_)
  · replace h := ifn h c2
    exact xr_vret (xd dX8_sendAcks 23 rfl) rfl (by decide) (by decide) (fun _ => rfl) ⟨_, _, rfl, rfl, h⟩
  · replace h := ifp h c2
    refine xr_aload_n (xd dX8_sendAcks 4 rfl) 0 rfl ?_
    refine xr_getR (b := (e + 33)) 8 6 (xd dX8_sendAcks 5 rfl) f8_35 (by decide) (by decide) (lt491 hn (ltS0 he)) (kdS_0 he) rfl (rS_0_6 hR he) ?_
    refine xr_aload_n (xd dX8_sendAcks 6 rfl) 0 rfl ?_
    refine xr_getR (b := (e + 168)) 8 3 (xd dX8_sendAcks 7 rfl) f8_82 (by decide) (by decide) (lt491 hn (ltS0 he)) (kdS_0 he) rfl (rS_0_3 hR he) ?_
    refine xr_getR (b := (e + 170)) 6 4 (xd dX8_sendAcks 8 rfl) f8_368 (by decide) (by decide) (lt491 hn (ltS he (by decide))) (kdS_168 he) rfl (rS_168_4 hR he) ?_
    refine xr_callV mX0_putInto 1 [.ref (e + 170)] (xd dX8_sendAcks 9 rfl) l8_522 kX0_putInto rfl (lt491 hn (ltS he (by decide))) (kdS_33 he) (by decide) rfl (by decide) (Nat.le_of_ble_eq_true rfl) (v_X0_putInto hn hR he (za_mk (kdS_170 he) (ltS he (by decide))) h) (by decide) (by decide) (fun r_ M_ h_ => ?_) (fun _ _ h_ => h_.elim)
    obtain ⟨r5, J3, L4, rfl, rfl, h⟩ := h_
    show xJ _ _ _ _ _ _ _ _ _ 24 [(0, .ref e)] [.int (oI r5)] _ _ _ (zi J3) (li L4)
    refine xr_istore_n [(0, .ref e), (1, .int (oI r5))] (xd dX8_sendAcks 10 rfl) rfl (by decide) rfl ?_
    refine xr_aload_n (xd dX8_sendAcks 11 rfl) 0 rfl ?_
    refine xr_getR (b := (e + 168)) 8 3 (xd dX8_sendAcks 12 rfl) f8_82 (by decide) (by decide) (lt491 hn (ltS0 he)) (kdS_0 he) rfl (rS_0_3 hR he) ?_
    refine xr_aload_n (xd dX8_sendAcks 13 rfl) 0 rfl ?_
    refine xr_getR (b := (e + 144)) 8 2 (xd dX8_sendAcks 14 rfl) f8_73 (by decide) (by decide) (lt491 hn (ltS0 he)) (kdS_0 he) rfl (rS_0_2 hR he) ?_
    refine zr_getI 5 11 11 rfl (xd dX8_sendAcks 15 rfl) f8_190 (by decide) (by decide) (lt491 hn (ltS he (by decide))) (kdS_144 he) rfl ?_
    refine xr_bipush (v := oI 26) (xd dX8_sendAcks 16 rfl) (by decide) ?_
    refine xr_iload_n (xd dX8_sendAcks 17 rfl) 1 rfl ?_
    refine xr_callV mX6_putRecord 3 [.int (oI (J3 (e + 144) 11)), .int (oI 26), .int (oI r5)] (xd dX8_sendAcks 18 rfl) l8_377 kX6_putRecord rfl (lt491 hn (ltS he (by decide))) (kdS_168 he) (by decide) rfl (by decide) (Nat.le_of_ble_eq_true rfl) (v_X6_putRecord hn hR he h) (by decide) (by decide) (fun r_ M_ h_ => ?_) (fun _ _ h_ => h_.elim)
    obtain ⟨r8, J6, L7, rfl, rfl, h⟩ := h_
    show xJ _ _ _ _ _ _ _ _ _ 42 [(0, .ref e), (1, .int (oI r5))] [.int (oI r8)] _ _ _ (zi J6) (li L7)
    refine xr_pop (xd dX8_sendAcks 19 rfl) rfl ?_
    refine xr_aload_n (xd dX8_sendAcks 20 rfl) 0 rfl ?_
    refine xr_getR (b := (e + 168)) 8 3 (xd dX8_sendAcks 21 rfl) f8_82 (by decide) (by decide) (lt491 hn (ltS0 he)) (kdS_0 he) rfl (rS_0_3 hR he) ?_
    refine xr_callV mX6_flush 0 [] (xd dX8_sendAcks 22 rfl) l8_381 kX6_flush rfl (lt491 hn (ltS he (by decide))) (kdS_168 he) (by decide) rfl (by decide) (Nat.le_of_ble_eq_true rfl) (v_X6_flush hn hR he h) (by decide) (by decide) (fun r_ M_ h_ => ?_) (fun _ _ h_ => h_.elim)
    obtain ⟨J9, L10, rfl, rfl, h⟩ := h_
    show xJ _ _ _ _ _ _ _ _ _ 50 [(0, .ref e), (1, .int (oI r5))] [] _ _ _ (zi J9) (li L10)
    exact xr_vret (xd dX8_sendAcks 23 rfl) rfl (by decide) (by decide) (fun _ => rfl) ⟨_, _, rfl, rfl, h⟩
def w_X8_die (e : Nat) (J : zM) (L : yM) (Q : zM → yM → Prop) : Prop := ∀ J1 : zM, J1 = zs J e 12 4 → ∀ J2 : zM, J2 = zs J1 (e + 8) 13 0 → Q J2 L
set_option maxHeartbeats 4000000 in
set_option maxRecDepth 100000 in
theorem v_X8_die {b : Nat} {dC : Nat → ClassId} {dI : Nat → Nat → Nat} {cA : Nat → ClassId} {ts : Nat → Nat} {l : Launch} {n : Nat} {R : Nat → Nat → Option Nat} {al : Bool} (hn : 491 ≤ n) (hR : xRk R) {e : Nat} (he : iSide e) {J : zM} {L : yM} {Q : zM → yM → Prop} (h : w_X8_die e J L Q) : xCn (xGm b dC dI cA ts) l mX8_die [.ref e] al (n, R, zi J, li L) 0 0 (zQ0 n R Q) (fun _ _ => False) := by
  refine xCn.ofJ (by decide) (Nat.le_of_ble_eq_true rfl) ?_
  show xJ _ _ _ _ _ _ _ _ _ 0 [(0, .ref e)] [] _ _ _ _ _
  unfold w_X8_die at h
  refine xr_aload_n (xd dX8_die 0 rfl) 0 rfl ?_
  refine xr_iconst (v := oI 4) (xd dX8_die 1 rfl) (by decide) ?_
  obtain ⟨J1, e_J1⟩ : ∃ z_ : zM, z_ = zs J e 12 4 := ⟨_, rfl⟩
  replace h := h J1 e_J1
  refine zr_putI 8 12 12 rfl e_J1 (xd dX8_die 2 rfl) f8_103 (by decide) (by decide) (lt491 hn (ltS0 he)) (kdS_0 he) (Or.inl rfl) rfl rfl (fun _ => rfl) ?_
  refine xr_aload_n (xd dX8_die 3 rfl) 0 rfl ?_
  refine xr_getR (b := (e + 8)) 8 4 (xd dX8_die 4 rfl) f8_21 (by decide) (by decide) (lt491 hn (ltS0 he)) (kdS_0 he) rfl (rS_0_4 hR he) ?_
  refine xr_iconst (v := oI 0) (xd dX8_die 5 rfl) (by decide) ?_
  obtain ⟨J2, e_J2⟩ : ∃ z_ : zM, z_ = zs J1 (e + 8) 13 0 := ⟨_, rfl⟩
  replace h := h J2 e_J2
  refine zr_putI 2 13 13 rfl e_J2 (xd dX8_die 6 rfl) f8_130 (by decide) (by decide) (lt491 hn (ltS he (by decide))) (kdS_8 he) (Or.inl rfl) (zret_b (Or.inl rfl)) (fits_b (Or.inl rfl)) (fun _ => rfl) ?_
  exact xr_vret (xd dX8_die 7 rfl) rfl (by decide) (by decide) (fun _ => rfl) ⟨_, _, rfl, rfl, h⟩
def w_X8_countAgain (e : Nat) (J : zM) (L : yM) (Q : zM → yM → Prop) : Prop := ∀ J1 : zM, J1 = zs J (e + 8) 12 ((J (e + 8) 12) + 1) → ∀ J2 : zM, J2 = zs J1 e 18 ((J1 e 18) + 1) → Q J2 L
set_option maxHeartbeats 4000000 in
set_option maxRecDepth 100000 in
theorem v_X8_countAgain {b : Nat} {dC : Nat → ClassId} {dI : Nat → Nat → Nat} {cA : Nat → ClassId} {ts : Nat → Nat} {l : Launch} {n : Nat} {R : Nat → Nat → Option Nat} {al : Bool} (hn : 491 ≤ n) (hR : xRk R) {e : Nat} (he : iSide e) {J : zM} {L : yM} {Q : zM → yM → Prop} (h : w_X8_countAgain e J L Q) : xCn (xGm b dC dI cA ts) l mX8_countAgain [.ref e] al (n, R, zi J, li L) 0 0 (zQ0 n R Q) (fun _ _ => False) := by
  refine xCn.ofJ (by decide) (Nat.le_of_ble_eq_true rfl) ?_
  show xJ _ _ _ _ _ _ _ _ _ 0 [(0, .ref e)] [] _ _ _ _ _
  unfold w_X8_countAgain at h
  refine xr_aload_n (xd dX8_countAgain 0 rfl) 0 rfl ?_
  refine xr_getR (b := (e + 8)) 8 4 (xd dX8_countAgain 1 rfl) f8_21 (by decide) (by decide) (lt491 hn (ltS0 he)) (kdS_0 he) rfl (rS_0_4 hR he) ?_
  refine xr_dup (xd dX8_countAgain 2 rfl) rfl ?_
  refine zr_getI 2 12 12 rfl (xd dX8_countAgain 3 rfl) f8_153 (by decide) (by decide) (lt491 hn (ltS he (by decide))) (kdS_8 he) rfl ?_
  refine xr_iconst (v := oI 1) (xd dX8_countAgain 4 rfl) (by decide) ?_
  refine zr_iadd (xd dX8_countAgain 5 rfl) ?_
  obtain ⟨J1, e_J1⟩ : ∃ z_ : zM, z_ = zs J (e + 8) 12 ((J (e + 8) 12) + 1) := ⟨_, rfl⟩
  replace h := h J1 e_J1
  refine zr_putI 2 12 12 rfl e_J1 (xd dX8_countAgain 6 rfl) f8_153 (by decide) (by decide) (lt491 hn (ltS he (by decide))) (kdS_8 he) (Or.inl rfl) rfl rfl (fun _ => rfl) ?_
  refine xr_aload_n (xd dX8_countAgain 7 rfl) 0 rfl ?_
  refine xr_dup (xd dX8_countAgain 8 rfl) rfl ?_
  refine zr_getI 8 18 18 rfl (xd dX8_countAgain 9 rfl) f8_121 (by decide) (by decide) (lt491 hn (ltS0 he)) (kdS_0 he) rfl ?_
  refine xr_iconst (v := oI 1) (xd dX8_countAgain 10 rfl) (by decide) ?_
  refine zr_iadd (xd dX8_countAgain 11 rfl) ?_
  obtain ⟨J2, e_J2⟩ : ∃ z_ : zM, z_ = zs J1 e 18 ((J1 e 18) + 1) := ⟨_, rfl⟩
  replace h := h J2 e_J2
  refine zr_putI 8 18 18 rfl e_J2 (xd dX8_countAgain 12 rfl) f8_121 (by decide) (by decide) (lt491 hn (ltS0 he)) (kdS_0 he) (Or.inl rfl) rfl rfl (fun _ => rfl) ?_
  exact xr_vret (xd dX8_countAgain 13 rfl) rfl (by decide) (by decide) (fun _ => rfl) ⟨_, _, rfl, rfl, h⟩
def w_X8_putFragmentHead (e : Nat) (p1 : Int) (p2 : Int) (p3 : Int) (p4 : Int) (p5 : Int) (J : zM) (L : yM) (Q : zM → yM → Prop) : Prop := ∀ J1 : zM, J1 = zs J (e + 170) 0 p1 → ∀ J2 : zM, J2 = zs J1 (e + 170) 1 (zush p2 8) → ∀ J3 : zM, J3 = zs J2 (e + 170) 2 (zand p2 255) → ∀ J4 : zM, J4 = zs J3 (e + 170) 3 p3 → ∀ J5 : zM, J5 = zs J4 (e + 170) 4 (zush p4 8) → ∀ J6 : zM, J6 = zs J5 (e + 170) 5 (zand p4 255) → ∀ J7 : zM, J7 = zs J6 (e + 170) 6 (zush p5 8) → ∀ J8 : zM, J8 = zs J7 (e + 170) 7 (zand p5 255) → Q J8 L
set_option maxHeartbeats 4000000 in
set_option maxRecDepth 100000 in
theorem v_X8_putFragmentHead {b : Nat} {dC : Nat → ClassId} {dI : Nat → Nat → Nat} {cA : Nat → ClassId} {ts : Nat → Nat} {l : Launch} {n : Nat} {R : Nat → Nat → Option Nat} {al : Bool} (hn : 491 ≤ n) (hR : xRk R) {e : Nat} {p1 : Int} {p2 : Int} {p3 : Int} {p4 : Int} {p5 : Int} (he : iSide e) {J : zM} {L : yM} {Q : zM → yM → Prop} (h : w_X8_putFragmentHead e p1 p2 p3 p4 p5 J L Q) : xCn (xGm b dC dI cA ts) l mX8_putFragmentHead [.ref e, .int (oI p1), .int (oI p2), .int (oI p3), .int (oI p4), .int (oI p5)] al (n, R, zi J, li L) 0 0 (zQ0 n R Q) (fun _ _ => False) := by
  refine xCn.ofJ (by decide) (Nat.le_of_ble_eq_true rfl) ?_
  show xJ _ _ _ _ _ _ _ _ _ 0 [(0, .ref e), (1, .int (oI p1)), (2, .int (oI p2)), (3, .int (oI p3)), (4, .int (oI p4)), (5, .int (oI p5))] [] _ _ _ _ _
  unfold w_X8_putFragmentHead at h
  refine xr_aload_n (xd dX8_putFragmentHead 0 rfl) 0 rfl ?_
  refine xr_getR (b := (e + 168)) 8 3 (xd dX8_putFragmentHead 1 rfl) f8_82 (by decide) (by decide) (lt491 hn (ltS0 he)) (kdS_0 he) rfl (rS_0_3 hR he) ?_
  refine xr_getR (b := (e + 170)) 6 4 (xd dX8_putFragmentHead 2 rfl) f8_368 (by decide) (by decide) (lt491 hn (ltS he (by decide))) (kdS_168 he) rfl (rS_168_4 hR he) ?_
  refine xr_astore [(0, .ref e), (1, .int (oI p1)), (2, .int (oI p2)), (3, .int (oI p3)), (4, .int (oI p4)), (5, .int (oI p5)), (6, .ref (e + 170))] (xd dX8_putFragmentHead 3 rfl) (by decide) rfl ?_
  refine xr_aload (xd dX8_putFragmentHead 4 rfl) 6 rfl ?_
  refine xr_iconst (v := oI 0) (xd dX8_putFragmentHead 5 rfl) (by decide) ?_
  refine xr_iload_n (xd dX8_putFragmentHead 6 rfl) 1 rfl ?_
  obtain ⟨J1, e_J1⟩ : ∃ z_ : zM, z_ = zs J (e + 170) 0 p1 := ⟨_, rfl⟩
  replace h := h J1 e_J1
  refine zr_iastore e_J1 (xd dX8_putFragmentHead 7 rfl) (lt491 hn (ltS he (by decide))) (kdS_170 he) (lnS_170 he) (by decide) ⟨by decide, by decide⟩ ?_
  refine xr_aload (xd dX8_putFragmentHead 8 rfl) 6 rfl ?_
  refine xr_iconst (v := oI 1) (xd dX8_putFragmentHead 9 rfl) (by decide) ?_
  refine xr_iload_n (xd dX8_putFragmentHead 10 rfl) 2 rfl ?_
  refine xr_bipush (v := oI 8) (xd dX8_putFragmentHead 11 rfl) (by decide) ?_
  refine zr_iushr (xd dX8_putFragmentHead 12 rfl) ?_
  obtain ⟨J2, e_J2⟩ : ∃ z_ : zM, z_ = zs J1 (e + 170) 1 (zush p2 8) := ⟨_, rfl⟩
  replace h := h J2 e_J2
  refine zr_iastore e_J2 (xd dX8_putFragmentHead 13 rfl) (lt491 hn (ltS he (by decide))) (kdS_170 he) (lnS_170 he) (by decide) ⟨by decide, by decide⟩ ?_
  refine xr_aload (xd dX8_putFragmentHead 14 rfl) 6 rfl ?_
  refine xr_iconst (v := oI 2) (xd dX8_putFragmentHead 15 rfl) (by decide) ?_
  refine xr_iload_n (xd dX8_putFragmentHead 16 rfl) 2 rfl ?_
  refine xr_sipush (v := oI 255) (xd dX8_putFragmentHead 17 rfl) (by decide) ?_
  refine zr_iand (xd dX8_putFragmentHead 18 rfl) ?_
  obtain ⟨J3, e_J3⟩ : ∃ z_ : zM, z_ = zs J2 (e + 170) 2 (zand p2 255) := ⟨_, rfl⟩
  replace h := h J3 e_J3
  refine zr_iastore e_J3 (xd dX8_putFragmentHead 19 rfl) (lt491 hn (ltS he (by decide))) (kdS_170 he) (lnS_170 he) (by decide) ⟨by decide, by decide⟩ ?_
  refine xr_aload (xd dX8_putFragmentHead 20 rfl) 6 rfl ?_
  refine xr_iconst (v := oI 3) (xd dX8_putFragmentHead 21 rfl) (by decide) ?_
  refine xr_iload_n (xd dX8_putFragmentHead 22 rfl) 3 rfl ?_
  obtain ⟨J4, e_J4⟩ : ∃ z_ : zM, z_ = zs J3 (e + 170) 3 p3 := ⟨_, rfl⟩
  replace h := h J4 e_J4
  refine zr_iastore e_J4 (xd dX8_putFragmentHead 23 rfl) (lt491 hn (ltS he (by decide))) (kdS_170 he) (lnS_170 he) (by decide) ⟨by decide, by decide⟩ ?_
  refine xr_aload (xd dX8_putFragmentHead 24 rfl) 6 rfl ?_
  refine xr_iconst (v := oI 4) (xd dX8_putFragmentHead 25 rfl) (by decide) ?_
  refine xr_iload (xd dX8_putFragmentHead 26 rfl) 4 rfl ?_
  refine xr_bipush (v := oI 8) (xd dX8_putFragmentHead 27 rfl) (by decide) ?_
  refine zr_iushr (xd dX8_putFragmentHead 28 rfl) ?_
  obtain ⟨J5, e_J5⟩ : ∃ z_ : zM, z_ = zs J4 (e + 170) 4 (zush p4 8) := ⟨_, rfl⟩
  replace h := h J5 e_J5
  refine zr_iastore e_J5 (xd dX8_putFragmentHead 29 rfl) (lt491 hn (ltS he (by decide))) (kdS_170 he) (lnS_170 he) (by decide) ⟨by decide, by decide⟩ ?_
  refine xr_aload (xd dX8_putFragmentHead 30 rfl) 6 rfl ?_
  refine xr_iconst (v := oI 5) (xd dX8_putFragmentHead 31 rfl) (by decide) ?_
  refine xr_iload (xd dX8_putFragmentHead 32 rfl) 4 rfl ?_
  refine xr_sipush (v := oI 255) (xd dX8_putFragmentHead 33 rfl) (by decide) ?_
  refine zr_iand (xd dX8_putFragmentHead 34 rfl) ?_
  obtain ⟨J6, e_J6⟩ : ∃ z_ : zM, z_ = zs J5 (e + 170) 5 (zand p4 255) := ⟨_, rfl⟩
  replace h := h J6 e_J6
  refine zr_iastore e_J6 (xd dX8_putFragmentHead 35 rfl) (lt491 hn (ltS he (by decide))) (kdS_170 he) (lnS_170 he) (by decide) ⟨by decide, by decide⟩ ?_
  refine xr_aload (xd dX8_putFragmentHead 36 rfl) 6 rfl ?_
  refine xr_bipush (v := oI 6) (xd dX8_putFragmentHead 37 rfl) (by decide) ?_
  refine xr_iload (xd dX8_putFragmentHead 38 rfl) 5 rfl ?_
  refine xr_bipush (v := oI 8) (xd dX8_putFragmentHead 39 rfl) (by decide) ?_
  refine zr_iushr (xd dX8_putFragmentHead 40 rfl) ?_
  obtain ⟨J7, e_J7⟩ : ∃ z_ : zM, z_ = zs J6 (e + 170) 6 (zush p5 8) := ⟨_, rfl⟩
  replace h := h J7 e_J7
  refine zr_iastore e_J7 (xd dX8_putFragmentHead 41 rfl) (lt491 hn (ltS he (by decide))) (kdS_170 he) (lnS_170 he) (by decide) ⟨by decide, by decide⟩ ?_
  refine xr_aload (xd dX8_putFragmentHead 42 rfl) 6 rfl ?_
  refine xr_bipush (v := oI 7) (xd dX8_putFragmentHead 43 rfl) (by decide) ?_
  refine xr_iload (xd dX8_putFragmentHead 44 rfl) 5 rfl ?_
  refine xr_sipush (v := oI 255) (xd dX8_putFragmentHead 45 rfl) (by decide) ?_
  refine zr_iand (xd dX8_putFragmentHead 46 rfl) ?_
  obtain ⟨J8, e_J8⟩ : ∃ z_ : zM, z_ = zs J7 (e + 170) 7 (zand p5 255) := ⟨_, rfl⟩
  replace h := h J8 e_J8
  refine zr_iastore e_J8 (xd dX8_putFragmentHead 47 rfl) (lt491 hn (ltS he (by decide))) (kdS_170 he) (lnS_170 he) (by decide) ⟨by decide, by decide⟩ ?_
  exact xr_vret (xd dX8_putFragmentHead 48 rfl) rfl (by decide) (by decide) (fun _ => rfl) ⟨_, _, rfl, rfl, h⟩
def w_X8_putFragment (e : Nat) (p1 : Int) (p2 : Int) (p3 : Int) (J : zM) (L : yM) (Q : zM → yM → Prop) : Prop := ((0 : Int) ≤ p1 ∧ p1 < 4) ∧ ∀ x2 : Int, x2 = (J (e + 13) p1) → ((0 : Int) ≤ (p1 + 1) ∧ (p1 + 1) < 4) ∧ ∀ x4 : Int, x4 = ((J (e + 13) (p1 + 1)) - x2) → ((0 : Int) ≤ p1 ∧ p1 < 3) ∧ ((0 : Int) ≤ p1 ∧ p1 < 3) ∧ w_X8_putFragmentHead e (J (e + 11) p1) x4 (J (e + 12) p1) (p2 - x2) p3 J L (fun J7 L8 => ((0 : Int) ≤ p2 ∧ (0 : Int) ≤ 8 ∧ (0 : Int) ≤ p3 ∧ (p2 + p3 : Int) ≤ 204 ∧ (8 + p3 : Int) ≤ 500) ∧ ∀ J10 : zM, J10 = zcp J7 (e + 9) p2 (e + 170) 8 p3 → Q J10 L8)
set_option maxHeartbeats 4000000 in
set_option maxRecDepth 100000 in
theorem v_X8_putFragment {b : Nat} {dC : Nat → ClassId} {dI : Nat → Nat → Nat} {cA : Nat → ClassId} {ts : Nat → Nat} {l : Launch} {n : Nat} {R : Nat → Nat → Option Nat} {al : Bool} (hn : 491 ≤ n) (hR : xRk R) {e : Nat} {p1 : Int} {p2 : Int} {p3 : Int} (he : iSide e) {J : zM} {L : yM} {Q : zM → yM → Prop} (h : w_X8_putFragment e p1 p2 p3 J L Q) : xCn (xGm b dC dI cA ts) l mX8_putFragment [.ref e, .int (oI p1), .int (oI p2), .int (oI p3)] al (n, R, zi J, li L) 0 0 (zQ0 n R Q) (fun _ _ => False) := by
  refine xCn.ofJ (by decide) (Nat.le_of_ble_eq_true rfl) ?_
  show xJ _ _ _ _ _ _ _ _ _ 0 [(0, .ref e), (1, .int (oI p1)), (2, .int (oI p2)), (3, .int (oI p3))] [] _ _ _ _ _
  unfold w_X8_putFragment at h
  refine xr_aload_n (xd dX8_putFragment 0 rfl) 0 rfl ?_
  refine xr_getR (b := (e + 8)) 8 4 (xd dX8_putFragment 1 rfl) f8_21 (by decide) (by decide) (lt491 hn (ltS0 he)) (kdS_0 he) rfl (rS_0_4 hR he) ?_
  refine xr_getR (b := (e + 13)) 2 4 (xd dX8_putFragment 2 rfl) f8_514 (by decide) (by decide) (lt491 hn (ltS he (by decide))) (kdS_8 he) rfl (rS_8_4 hR he) ?_
  refine xr_iload_n (xd dX8_putFragment 3 rfl) 1 rfl ?_
  obtain ⟨o1, h⟩ := h
  refine zr_iaload (xd dX8_putFragment 4 rfl) (lt491 hn (ltS he (by decide))) (kdS_13 he) (lnS_13 he) (by decide) o1 ?_
  obtain ⟨x2, e_x2⟩ : ∃ z_ : Int, z_ = (J (e + 13) p1) := ⟨_, rfl⟩
  replace h := h x2 e_x2
  refine zr_nm e_x2 ?_
  refine xr_istore [(0, .ref e), (1, .int (oI p1)), (2, .int (oI p2)), (3, .int (oI p3)), (4, .int (oI x2))] (xd dX8_putFragment 5 rfl) (by decide) rfl ?_
  refine xr_aload_n (xd dX8_putFragment 6 rfl) 0 rfl ?_
  refine xr_getR (b := (e + 8)) 8 4 (xd dX8_putFragment 7 rfl) f8_21 (by decide) (by decide) (lt491 hn (ltS0 he)) (kdS_0 he) rfl (rS_0_4 hR he) ?_
  refine xr_getR (b := (e + 13)) 2 4 (xd dX8_putFragment 8 rfl) f8_514 (by decide) (by decide) (lt491 hn (ltS he (by decide))) (kdS_8 he) rfl (rS_8_4 hR he) ?_
  refine xr_iload_n (xd dX8_putFragment 9 rfl) 1 rfl ?_
  refine xr_iconst (v := oI 1) (xd dX8_putFragment 10 rfl) (by decide) ?_
  refine zr_iadd (xd dX8_putFragment 11 rfl) ?_
  obtain ⟨o3, h⟩ := h
  refine zr_iaload (xd dX8_putFragment 12 rfl) (lt491 hn (ltS he (by decide))) (kdS_13 he) (lnS_13 he) (by decide) o3 ?_
  refine xr_iload (xd dX8_putFragment 13 rfl) 4 rfl ?_
  refine zr_isub (xd dX8_putFragment 14 rfl) ?_
  obtain ⟨x4, e_x4⟩ : ∃ z_ : Int, z_ = ((J (e + 13) (p1 + 1)) - x2) := ⟨_, rfl⟩
  replace h := h x4 e_x4
  refine zr_nm e_x4 ?_
  refine xr_istore [(0, .ref e), (1, .int (oI p1)), (2, .int (oI p2)), (3, .int (oI p3)), (4, .int (oI x2)), (5, .int (oI x4))] (xd dX8_putFragment 15 rfl) (by decide) rfl ?_
  refine xr_aload_n (xd dX8_putFragment 16 rfl) 0 rfl ?_
  refine xr_aload_n (xd dX8_putFragment 17 rfl) 0 rfl ?_
  refine xr_getR (b := (e + 8)) 8 4 (xd dX8_putFragment 18 rfl) f8_21 (by decide) (by decide) (lt491 hn (ltS0 he)) (kdS_0 he) rfl (rS_0_4 hR he) ?_
  refine xr_getR (b := (e + 11)) 2 2 (xd dX8_putFragment 19 rfl) f8_497 (by decide) (by decide) (lt491 hn (ltS he (by decide))) (kdS_8 he) rfl (rS_8_2 hR he) ?_
  refine xr_iload_n (xd dX8_putFragment 20 rfl) 1 rfl ?_
  obtain ⟨o5, h⟩ := h
  refine zr_iaload (xd dX8_putFragment 21 rfl) (lt491 hn (ltS he (by decide))) (kdS_11 he) (lnS_11 he) (by decide) o5 ?_
  refine xr_iload (xd dX8_putFragment 22 rfl) 5 rfl ?_
  refine xr_aload_n (xd dX8_putFragment 23 rfl) 0 rfl ?_
  refine xr_getR (b := (e + 8)) 8 4 (xd dX8_putFragment 24 rfl) f8_21 (by decide) (by decide) (lt491 hn (ltS0 he)) (kdS_0 he) rfl (rS_0_4 hR he) ?_
  refine xr_getR (b := (e + 12)) 2 3 (xd dX8_putFragment 25 rfl) f8_517 (by decide) (by decide) (lt491 hn (ltS he (by decide))) (kdS_8 he) rfl (rS_8_3 hR he) ?_
  refine xr_iload_n (xd dX8_putFragment 26 rfl) 1 rfl ?_
  obtain ⟨o6, h⟩ := h
  refine zr_iaload (xd dX8_putFragment 27 rfl) (lt491 hn (ltS he (by decide))) (kdS_12 he) (lnS_12 he) (by decide) o6 ?_
  refine xr_iload_n (xd dX8_putFragment 28 rfl) 2 rfl ?_
  refine xr_iload (xd dX8_putFragment 29 rfl) 4 rfl ?_
  refine zr_isub (xd dX8_putFragment 30 rfl) ?_
  refine xr_iload_n (xd dX8_putFragment 31 rfl) 3 rfl ?_
  refine xr_callV mX8_putFragmentHead 5 [.int (oI (J (e + 11) p1)), .int (oI x4), .int (oI (J (e + 12) p1)), .int (oI (p2 - x2)), .int (oI p3)] (xd dX8_putFragment 32 rfl) l8_364 kX8_putFragmentHead rfl (lt491 hn (ltS0 he)) (kdS_0 he) (by decide) rfl (by decide) (Nat.le_of_ble_eq_true rfl) (v_X8_putFragmentHead hn hR he h) (by decide) (by decide) (fun r_ M_ h_ => ?_) (fun _ _ h_ => h_.elim)
  obtain ⟨J7, L8, rfl, rfl, h⟩ := h_
  show xJ _ _ _ _ _ _ _ _ _ 56 [(0, .ref e), (1, .int (oI p1)), (2, .int (oI p2)), (3, .int (oI p3)), (4, .int (oI x2)), (5, .int (oI x4))] [] _ _ _ (zi J7) (li L8)
  refine xr_aload_n (xd dX8_putFragment 33 rfl) 0 rfl ?_
  refine xr_getR (b := (e + 8)) 8 4 (xd dX8_putFragment 34 rfl) f8_21 (by decide) (by decide) (lt491 hn (ltS0 he)) (kdS_0 he) rfl (rS_0_4 hR he) ?_
  refine xr_getR (b := (e + 9)) 2 0 (xd dX8_putFragment 35 rfl) f8_520 (by decide) (by decide) (lt491 hn (ltS he (by decide))) (kdS_8 he) rfl (rS_8_0 hR he) ?_
  refine xr_iload_n (xd dX8_putFragment 36 rfl) 2 rfl ?_
  refine xr_aload_n (xd dX8_putFragment 37 rfl) 0 rfl ?_
  refine xr_getR (b := (e + 168)) 8 3 (xd dX8_putFragment 38 rfl) f8_82 (by decide) (by decide) (lt491 hn (ltS0 he)) (kdS_0 he) rfl (rS_0_3 hR he) ?_
  refine xr_getR (b := (e + 170)) 6 4 (xd dX8_putFragment 39 rfl) f8_368 (by decide) (by decide) (lt491 hn (ltS he (by decide))) (kdS_168 he) rfl (rS_168_4 hR he) ?_
  refine xr_bipush (v := oI 8) (xd dX8_putFragment 40 rfl) (by decide) ?_
  refine xr_iload_n (xd dX8_putFragment 41 rfl) 3 rfl ?_
  obtain ⟨o9, h⟩ := h
  obtain ⟨J10, e_J10⟩ : ∃ z_ : zM, z_ = zcp J7 (e + 9) p2 (e + 170) 8 p3 := ⟨_, rfl⟩
  replace h := h J10 e_J10
  refine zr_acopy e_J10 (xd dX8_putFragment 42 rfl) l8_371 (lt491 hn (ltS he (by decide))) (kdS_9 he) (lnS_9 he) (by decide) (lt491 hn (ltS he (by decide))) (kdS_170 he) (lnS_170 he) (by decide) o9.1 o9.2.1 o9.2.2.1 o9.2.2.2.1 o9.2.2.2.2 ⟨Nat.le_of_ble_eq_true rfl, Nat.le_of_ble_eq_true rfl⟩ ?_
  exact xr_vret (xd dX8_putFragment 43 rfl) rfl (by decide) (by decide) (fun _ => rfl) ⟨_, _, rfl, rfl, h⟩
def w_X8_sendFlight (e : Nat) (J : zM) (L : yM) (Q : zM → yM → Prop) : Prop := w_X2_end e J L (fun r3 J1 L2 => zl_zz (fun K4 x5 x6 J7 L8 => ∀ K11 : zM → yM → Prop, (∀ (J9 : zM) (L10 : yM), (w_X6_flush e J9 L10 (fun J12 L13 => ∀ J14 : zM, J14 = zs J12 (e + 8) 11 (J12 e 19) → Q J14 L13)) → K11 J9 L10) → R32 x6 ∧ (if x6 < 408 then R32 x5 ∧ R32 r3 ∧ (if x5 < r3 then w_X2_messageAt e x5 J7 L8 (fun r22 J20 L21 => ((0 : Int) ≤ r22 ∧ r22 < 3) ∧ w_X11_epochOfKind (J20 (e + 11) r22) J20 L21 (fun r26 J24 L25 => w_X6_roomFor e r26 J24 L25 (fun r29 J27 L28 => w_X2_openRun e x5 r22 (r29 - 8) J27 L28 (fun r32 J30 L31 => ∀ K36 : Int → zM → yM → Prop, (∀ (x33 : Int) (J34 : zM) (L35 : yM), (K4 x33 (x6 + 1) J34 L35) → K36 x33 J34 L35) → R32 r32 ∧ (if 0 < r32 then w_X8_putFragment e r22 x5 r32 J30 L31 (fun J44 L45 => w_X6_putRecord e r26 22 (8 + r32) J44 L45 (fun r48 J46 L47 => w_X2_log e r26 r48 x5 (x5 + r32) J46 L47 (fun J49 L50 => ∀ x51 : Int, x51 = (x5 + r32) → K36 x51 J49 L50))) else ((0 : Int) ≤ x5 ∧ x5 < 204) ∧ R32 (J30 (e + 10) x5) ∧ (if (J30 (e + 10) x5) = 0 then w_X6_flush e J30 L31 (fun J42 L43 => K36 x5 J42 L43) else K36 (x5 + 1) J30 L31)))))) else K11 J7 L8) else K11 J7 L8)) 0 0 J1 L2)
set_option maxHeartbeats 4000000 in
set_option maxRecDepth 100000 in
theorem v_X8_sendFlight {b : Nat} {dC : Nat → ClassId} {dI : Nat → Nat → Nat} {cA : Nat → ClassId} {ts : Nat → Nat} {l : Launch} {n : Nat} {R : Nat → Nat → Option Nat} {al : Bool} (hn : 491 ≤ n) (hR : xRk R) {e : Nat} (he : iSide e) {J : zM} {L : yM} {Q : zM → yM → Prop} (h : w_X8_sendFlight e J L Q) : xCn (xGm b dC dI cA ts) l mX8_sendFlight [.ref e] al (n, R, zi J, li L) 0 0 (zQ0 n R Q) (fun _ _ => False) := by
  refine xCn.ofJ (by decide) (Nat.le_of_ble_eq_true rfl) ?_
  show xJ _ _ _ _ _ _ _ _ _ 0 [(0, .ref e)] [] _ _ _ _ _
  unfold w_X8_sendFlight at h
  refine xr_iconst (v := oI 0) (xd dX8_sendFlight 0 rfl) (by decide) ?_
  refine xr_istore_n [(0, .ref e), (1, .int (oI 0))] (xd dX8_sendFlight 1 rfl) rfl (by decide) rfl ?_
  refine xr_aload_n (xd dX8_sendFlight 2 rfl) 0 rfl ?_
  refine xr_getR (b := (e + 8)) 8 4 (xd dX8_sendFlight 3 rfl) f8_21 (by decide) (by decide) (lt491 hn (ltS0 he)) (kdS_0 he) rfl (rS_0_4 hR he) ?_
  refine xr_callV mX2_end 0 [] (xd dX8_sendFlight 4 rfl) l8_491 kX2_end rfl (lt491 hn (ltS he (by decide))) (kdS_8 he) (by decide) rfl (by decide) (Nat.le_of_ble_eq_true rfl) (v_X2_end hn hR he h) (by decide) (by decide) (fun r_ M_ h_ => ?_) (fun _ _ h_ => h_.elim)
  obtain ⟨r3, J1, L2, rfl, rfl, h⟩ := h_
  show xJ _ _ _ _ _ _ _ _ _ 9 [(0, .ref e), (1, .int (oI 0))] [.int (oI r3)] _ _ _ (zi J1) (li L2)
  refine xr_istore_n [(0, .ref e), (1, .int (oI 0)), (2, .int (oI r3))] (xd dX8_sendFlight 5 rfl) rfl (by decide) rfl ?_
  refine xr_iconst (v := oI 0) (xd dX8_sendFlight 6 rfl) (by decide) ?_
  refine xr_istore_n [(0, .ref e), (1, .int (oI 0)), (2, .int (oI r3)), (3, .int (oI 0))] (xd dX8_sendFlight 7 rfl) rfl (by decide) rfl ?_
  refine h (fun x5 x6 J7 L8 => xJ (xGm b dC dI cA ts) l mX8_sendFlight 0 0 (zQ0 n R Q) (fun _ _ => False) 0 0 12 [(0, .ref e), (1, .int (oI x5)), (2, .int (oI r3)), (3, .int (oI x6))] [] al n R (zi J7) (li L8)) ?_
  intro x5 x6 J7 L8 h
  show xJ _ _ _ _ _ _ _ _ _ 12 [(0, .ref e), (1, .int (oI x5)), (2, .int (oI r3)), (3, .int (oI x6))] [] _ _ _ _ _
  refine xr_iload_n (xd dX8_sendFlight 8 rfl) 3 rfl ?_
  refine xr_sipush (v := oI 408) (xd dX8_sendFlight 9 rfl) (by decide) ?_
  replace h := h (fun (J9 : zM) (L10 : yM) => xJ (xGm b dC dI cA ts) l mX8_sendFlight 0 0 (zQ0 n R Q) (fun _ _ => False) 0 0 160 [(0, .ref e)] [] al n R (zi J9) (li L10)) (by
    intro J9 L10 h
    show xJ _ _ _ _ _ _ _ _ _ 160 [(0, .ref e)] [] _ _ _ _ _
    refine xr_aload_n (xd dX8_sendFlight 81 rfl) 0 rfl ?_
    refine xr_getR (b := (e + 168)) 8 3 (xd dX8_sendFlight 82 rfl) f8_82 (by decide) (by decide) (lt491 hn (ltS0 he)) (kdS_0 he) rfl (rS_0_3 hR he) ?_
    refine xr_callV mX6_flush 0 [] (xd dX8_sendFlight 83 rfl) l8_381 kX6_flush rfl (lt491 hn (ltS he (by decide))) (kdS_168 he) (by decide) rfl (by decide) (Nat.le_of_ble_eq_true rfl) (v_X6_flush hn hR he h) (by decide) (by decide) (fun r_ M_ h_ => ?_) (fun _ _ h_ => h_.elim)
    obtain ⟨J12, L13, rfl, rfl, h⟩ := h_
    show xJ _ _ _ _ _ _ _ _ _ 167 [(0, .ref e)] [] _ _ _ (zi J12) (li L13)
    refine xr_aload_n (xd dX8_sendFlight 84 rfl) 0 rfl ?_
    refine xr_getR (b := (e + 8)) 8 4 (xd dX8_sendFlight 85 rfl) f8_21 (by decide) (by decide) (lt491 hn (ltS0 he)) (kdS_0 he) rfl (rS_0_4 hR he) ?_
    refine xr_aload_n (xd dX8_sendFlight 86 rfl) 0 rfl ?_
    refine zr_getI 8 19 19 rfl (xd dX8_sendFlight 87 rfl) f8_124 (by decide) (by decide) (lt491 hn (ltS0 he)) (kdS_0 he) rfl ?_
    obtain ⟨J14, e_J14⟩ : ∃ z_ : zM, z_ = zs J12 (e + 8) 11 (J12 e 19) := ⟨_, rfl⟩
    replace h := h J14 e_J14
    refine zr_putI 2 11 11 rfl e_J14 (xd dX8_sendFlight 88 rfl) f8_150 (by decide) (by decide) (lt491 hn (ltS he (by decide))) (kdS_8 he) (Or.inl rfl) rfl rfl (fun _ => rfl) ?_
    exact xr_vret (xd dX8_sendFlight 89 rfl) rfl (by decide) (by decide) (fun _ => rfl) ⟨_, _, rfl, rfl, h⟩)
  obtain ⟨o15, h⟩ := h
  refine zr_icmp_ge 160 (xd dX8_sendFlight 10 rfl) (by decide) o15 (by decide) (fun c16 => ?_) (fun c16 => ?_)
  · replace h := ifn h c16
    refine xJ.pick (ls' := [(0, .ref e)]) [0] rfl ?_
    exact h
  · replace h := ifp h c16
    refine xr_iload_n (xd dX8_sendFlight 11 rfl) 1 rfl ?_
    refine xr_iload_n (xd dX8_sendFlight 12 rfl) 2 rfl ?_
    obtain ⟨o17, h⟩ := h
    obtain ⟨o18, h⟩ := h
    refine zr_icmp_ge 160 (xd dX8_sendFlight 13 rfl) (by decide) o17 o18 (fun c19 => ?_) (fun c19 => ?_)
    · replace h := ifn h c19
      refine xJ.pick (ls' := [(0, .ref e)]) [0] rfl ?_
      exact h
    · replace h := ifp h c19
      refine xr_aload_n (xd dX8_sendFlight 14 rfl) 0 rfl ?_
      refine xr_getR (b := (e + 8)) 8 4 (xd dX8_sendFlight 15 rfl) f8_21 (by decide) (by decide) (lt491 hn (ltS0 he)) (kdS_0 he) rfl (rS_0_4 hR he) ?_
      refine xr_iload_n (xd dX8_sendFlight 16 rfl) 1 rfl ?_
      refine xr_callV mX2_messageAt 1 [.int (oI x5)] (xd dX8_sendFlight 17 rfl) l8_494 kX2_messageAt rfl (lt491 hn (ltS he (by decide))) (kdS_8 he) (by decide) rfl (by decide) (Nat.le_of_ble_eq_true rfl) (v_X2_messageAt hn hR he h) (by decide) (by decide) (fun r_ M_ h_ => ?_) (fun _ _ h_ => h_.elim)
      obtain ⟨r22, J20, L21, rfl, rfl, h⟩ := h_
      show xJ _ _ _ _ _ _ _ _ _ 32 [(0, .ref e), (1, .int (oI x5)), (2, .int (oI r3)), (3, .int (oI x6))] [.int (oI r22)] _ _ _ (zi J20) (li L21)
      refine xr_istore [(0, .ref e), (1, .int (oI x5)), (2, .int (oI r3)), (3, .int (oI x6)), (4, .int (oI r22))] (xd dX8_sendFlight 18 rfl) (by decide) rfl ?_
      refine xr_aload_n (xd dX8_sendFlight 19 rfl) 0 rfl ?_
      refine xr_getR (b := (e + 8)) 8 4 (xd dX8_sendFlight 20 rfl) f8_21 (by decide) (by decide) (lt491 hn (ltS0 he)) (kdS_0 he) rfl (rS_0_4 hR he) ?_
      refine xr_getR (b := (e + 11)) 2 2 (xd dX8_sendFlight 21 rfl) f8_497 (by decide) (by decide) (lt491 hn (ltS he (by decide))) (kdS_8 he) rfl (rS_8_2 hR he) ?_
      refine xr_iload (xd dX8_sendFlight 22 rfl) 4 rfl ?_
      obtain ⟨o23, h⟩ := h
      refine zr_iaload (xd dX8_sendFlight 23 rfl) (lt491 hn (ltS he (by decide))) (kdS_11 he) (lnS_11 he) (by decide) o23 ?_
      refine xr_callSN mX11_epochOfKind 1 [.int (oI (J20 (e + 11) r22))] (xd dX8_sendFlight 24 rfl) n8_293 kX11_epochOfKind rfl (by decide) (Nat.le_of_ble_eq_true rfl) (v_X11_epochOfKind hn hR  h) (by decide) (by decide) (fun r_ M_ h_ => ?_)
      obtain ⟨r26, J24, L25, rfl, rfl, h⟩ := h_
      show xJ _ _ _ _ _ _ _ _ _ 47 [(0, .ref e), (1, .int (oI x5)), (2, .int (oI r3)), (3, .int (oI x6)), (4, .int (oI r22))] [.int (oI r26)] _ _ _ (zi J24) (li L25)
      refine xr_istore [(0, .ref e), (1, .int (oI x5)), (2, .int (oI r3)), (3, .int (oI x6)), (4, .int (oI r22)), (5, .int (oI r26))] (xd dX8_sendFlight 25 rfl) (by decide) rfl ?_
      refine xr_aload_n (xd dX8_sendFlight 26 rfl) 0 rfl ?_
      refine xr_getR (b := (e + 8)) 8 4 (xd dX8_sendFlight 27 rfl) f8_21 (by decide) (by decide) (lt491 hn (ltS0 he)) (kdS_0 he) rfl (rS_0_4 hR he) ?_
      refine xr_iload_n (xd dX8_sendFlight 28 rfl) 1 rfl ?_
      refine xr_iload (xd dX8_sendFlight 29 rfl) 4 rfl ?_
      refine xr_aload_n (xd dX8_sendFlight 30 rfl) 0 rfl ?_
      refine xr_getR (b := (e + 168)) 8 3 (xd dX8_sendFlight 31 rfl) f8_82 (by decide) (by decide) (lt491 hn (ltS0 he)) (kdS_0 he) rfl (rS_0_3 hR he) ?_
      refine xr_iload (xd dX8_sendFlight 32 rfl) 5 rfl ?_
      refine xr_callV mX6_roomFor 1 [.int (oI r26)] (xd dX8_sendFlight 33 rfl) l8_498 kX6_roomFor rfl (lt491 hn (ltS he (by decide))) (kdS_168 he) (by decide) rfl (by decide) (Nat.le_of_ble_eq_true rfl) (v_X6_roomFor hn hR he h) (by decide) (by decide) (fun r_ M_ h_ => ?_) (fun _ _ h_ => h_.elim)
      obtain ⟨r29, J27, L28, rfl, rfl, h⟩ := h_
      show xJ _ _ _ _ _ _ _ _ _ 65 [(0, .ref e), (1, .int (oI x5)), (2, .int (oI r3)), (3, .int (oI x6)), (4, .int (oI r22)), (5, .int (oI r26))] [.int (oI r29), .int (oI r22), .int (oI x5), .ref (e + 8)] _ _ _ (zi J27) (li L28)
      refine xr_bipush (v := oI 8) (xd dX8_sendFlight 34 rfl) (by decide) ?_
      refine zr_isub (xd dX8_sendFlight 35 rfl) ?_
      refine xr_callV mX2_openRun 3 [.int (oI x5), .int (oI r22), .int (oI (r29 - 8))] (xd dX8_sendFlight 36 rfl) l8_501 kX2_openRun rfl (lt491 hn (ltS he (by decide))) (kdS_8 he) (by decide) rfl (by decide) (Nat.le_of_ble_eq_true rfl) (v_X2_openRun hn hR he h) (by decide) (by decide) (fun r_ M_ h_ => ?_) (fun _ _ h_ => h_.elim)
      obtain ⟨r32, J30, L31, rfl, rfl, h⟩ := h_
      show xJ _ _ _ _ _ _ _ _ _ 71 [(0, .ref e), (1, .int (oI x5)), (2, .int (oI r3)), (3, .int (oI x6)), (4, .int (oI r22)), (5, .int (oI r26))] [.int (oI r32)] _ _ _ (zi J30) (li L31)
      refine xr_istore [(0, .ref e), (1, .int (oI x5)), (2, .int (oI r3)), (3, .int (oI x6)), (4, .int (oI r22)), (5, .int (oI r26)), (6, .int (oI r32))] (xd dX8_sendFlight 37 rfl) (by decide) rfl ?_
      refine xr_iload (xd dX8_sendFlight 38 rfl) 6 rfl ?_
      replace h := h (fun (x33 : Int) (J34 : zM) (L35 : yM) => xJ (xGm b dC dI cA ts) l mX8_sendFlight 0 0 (zQ0 n R Q) (fun _ _ => False) 0 0 154 [(0, .ref e), (1, .int (oI x33)), (2, .int (oI r3)), (3, .int (oI x6))] [] al n R (zi J34) (li L35)) (by
        intro x33 J34 L35 h
        show xJ _ _ _ _ _ _ _ _ _ 154 [(0, .ref e), (1, .int (oI x33)), (2, .int (oI r3)), (3, .int (oI x6))] [] _ _ _ _ _
        refine zr_iinc [(0, .ref e), (1, .int (oI x33)), (2, .int (oI r3)), (3, .int (oI (x6 + 1)))] (xd dX8_sendFlight 79 rfl) 3 rfl (by decide) rfl ?_
        refine xr_goto 12 (xd dX8_sendFlight 80 rfl) (by decide) ?_
        exact h)
      obtain ⟨o37, h⟩ := h
      refine zr_if_le 129 (xd dX8_sendFlight 39 rfl) (by decide) o37 (fun c38 => ?_) (fun c38 => ?_)
      · replace h := ifn h c38
        refine xr_aload_n (xd dX8_sendFlight 68 rfl) 0 rfl ?_
        refine xr_getR (b := (e + 8)) 8 4 (xd dX8_sendFlight 69 rfl) f8_21 (by decide) (by decide) (lt491 hn (ltS0 he)) (kdS_0 he) rfl (rS_0_4 hR he) ?_
        refine xr_getR (b := (e + 10)) 2 1 (xd dX8_sendFlight 70 rfl) f8_511 (by decide) (by decide) (lt491 hn (ltS he (by decide))) (kdS_8 he) rfl (rS_8_1 hR he) ?_
        refine xr_iload_n (xd dX8_sendFlight 71 rfl) 1 rfl ?_
        obtain ⟨o39, h⟩ := h
        refine zr_iaload (xd dX8_sendFlight 72 rfl) (lt491 hn (ltS he (by decide))) (kdS_10 he) (lnS_10 he) (by decide) o39 ?_
        obtain ⟨o40, h⟩ := h
        refine zr_if_eq 147 (xd dX8_sendFlight 73 rfl) (by decide) o40 (fun c41 => ?_) (fun c41 => ?_)
        · replace h := ifp h c41
          refine xr_aload_n (xd dX8_sendFlight 76 rfl) 0 rfl ?_
          refine xr_getR (b := (e + 168)) 8 3 (xd dX8_sendFlight 77 rfl) f8_82 (by decide) (by decide) (lt491 hn (ltS0 he)) (kdS_0 he) rfl (rS_0_3 hR he) ?_
          refine xr_callV mX6_flush 0 [] (xd dX8_sendFlight 78 rfl) l8_381 kX6_flush rfl (lt491 hn (ltS he (by decide))) (kdS_168 he) (by decide) rfl (by decide) (Nat.le_of_ble_eq_true rfl) (v_X6_flush hn hR he h) (by decide) (by decide) (fun r_ M_ h_ => ?_) (fun _ _ h_ => h_.elim)
          obtain ⟨J42, L43, rfl, rfl, h⟩ := h_
          show xJ _ _ _ _ _ _ _ _ _ 154 [(0, .ref e), (1, .int (oI x5)), (2, .int (oI r3)), (3, .int (oI x6)), (4, .int (oI r22)), (5, .int (oI r26)), (6, .int (oI r32))] [] _ _ _ (zi J42) (li L43)
          refine xJ.pick (ls' := [(0, .ref e), (1, .int (oI x5)), (2, .int (oI r3)), (3, .int (oI x6))]) [0, 1, 2, 3] rfl ?_
          exact h
        · replace h := ifn h c41
          refine zr_iinc [(0, .ref e), (1, .int (oI (x5 + 1))), (2, .int (oI r3)), (3, .int (oI x6)), (4, .int (oI r22)), (5, .int (oI r26)), (6, .int (oI r32))] (xd dX8_sendFlight 74 rfl) 1 rfl (by decide) rfl ?_
          refine xr_goto 154 (xd dX8_sendFlight 75 rfl) (by decide) ?_
          refine xJ.pick (ls' := [(0, .ref e), (1, .int (oI (x5 + 1))), (2, .int (oI r3)), (3, .int (oI x6))]) [0, 1, 2, 3] rfl ?_
          exact h
      · replace h := ifp h c38
        refine xr_aload_n (xd dX8_sendFlight 40 rfl) 0 rfl ?_
        refine xr_iload (xd dX8_sendFlight 41 rfl) 4 rfl ?_
        refine xr_iload_n (xd dX8_sendFlight 42 rfl) 1 rfl ?_
        refine xr_iload (xd dX8_sendFlight 43 rfl) 6 rfl ?_
        refine xr_callV mX8_putFragment 3 [.int (oI r22), .int (oI x5), .int (oI r32)] (xd dX8_sendFlight 44 rfl) l8_504 kX8_putFragment rfl (lt491 hn (ltS0 he)) (kdS_0 he) (by decide) rfl (by decide) (Nat.le_of_ble_eq_true rfl) (v_X8_putFragment hn hR he h) (by decide) (by decide) (fun r_ M_ h_ => ?_) (fun _ _ h_ => h_.elim)
        obtain ⟨J44, L45, rfl, rfl, h⟩ := h_
        show xJ _ _ _ _ _ _ _ _ _ 87 [(0, .ref e), (1, .int (oI x5)), (2, .int (oI r3)), (3, .int (oI x6)), (4, .int (oI r22)), (5, .int (oI r26)), (6, .int (oI r32))] [] _ _ _ (zi J44) (li L45)
        refine xr_aload_n (xd dX8_sendFlight 45 rfl) 0 rfl ?_
        refine xr_getR (b := (e + 168)) 8 3 (xd dX8_sendFlight 46 rfl) f8_82 (by decide) (by decide) (lt491 hn (ltS0 he)) (kdS_0 he) rfl (rS_0_3 hR he) ?_
        refine xr_iload (xd dX8_sendFlight 47 rfl) 5 rfl ?_
        refine xr_bipush (v := oI 22) (xd dX8_sendFlight 48 rfl) (by decide) ?_
        refine xr_bipush (v := oI 8) (xd dX8_sendFlight 49 rfl) (by decide) ?_
        refine xr_iload (xd dX8_sendFlight 50 rfl) 6 rfl ?_
        refine zr_iadd (xd dX8_sendFlight 51 rfl) ?_
        refine xr_callV mX6_putRecord 3 [.int (oI r26), .int (oI 22), .int (oI (8 + r32))] (xd dX8_sendFlight 52 rfl) l8_377 kX6_putRecord rfl (lt491 hn (ltS he (by decide))) (kdS_168 he) (by decide) rfl (by decide) (Nat.le_of_ble_eq_true rfl) (v_X6_putRecord hn hR he h) (by decide) (by decide) (fun r_ M_ h_ => ?_) (fun _ _ h_ => h_.elim)
        obtain ⟨r48, J46, L47, rfl, rfl, h⟩ := h_
        show xJ _ _ _ _ _ _ _ _ _ 103 [(0, .ref e), (1, .int (oI x5)), (2, .int (oI r3)), (3, .int (oI x6)), (4, .int (oI r22)), (5, .int (oI r26)), (6, .int (oI r32))] [.int (oI r48)] _ _ _ (zi J46) (li L47)
        refine xr_istore [(0, .ref e), (1, .int (oI x5)), (2, .int (oI r3)), (3, .int (oI x6)), (4, .int (oI r22)), (5, .int (oI r26)), (6, .int (oI r32)), (7, .int (oI r48))] (xd dX8_sendFlight 53 rfl) (by decide) rfl ?_
        refine xr_aload_n (xd dX8_sendFlight 54 rfl) 0 rfl ?_
        refine xr_getR (b := (e + 8)) 8 4 (xd dX8_sendFlight 55 rfl) f8_21 (by decide) (by decide) (lt491 hn (ltS0 he)) (kdS_0 he) rfl (rS_0_4 hR he) ?_
        refine xr_iload (xd dX8_sendFlight 56 rfl) 5 rfl ?_
        refine xr_iload (xd dX8_sendFlight 57 rfl) 7 rfl ?_
        refine xr_iload_n (xd dX8_sendFlight 58 rfl) 1 rfl ?_
        refine xr_iload_n (xd dX8_sendFlight 59 rfl) 1 rfl ?_
        refine xr_iload (xd dX8_sendFlight 60 rfl) 6 rfl ?_
        refine zr_iadd (xd dX8_sendFlight 61 rfl) ?_
        refine xr_callV mX2_log 4 [.int (oI r26), .int (oI r48), .int (oI x5), .int (oI (x5 + r32))] (xd dX8_sendFlight 62 rfl) l8_507 kX2_log rfl (lt491 hn (ltS he (by decide))) (kdS_8 he) (by decide) rfl (by decide) (Nat.le_of_ble_eq_true rfl) (v_X2_log hn hR he h) (by decide) (by decide) (fun r_ M_ h_ => ?_) (fun _ _ h_ => h_.elim)
        obtain ⟨J49, L50, rfl, rfl, h⟩ := h_
        show xJ _ _ _ _ _ _ _ _ _ 121 [(0, .ref e), (1, .int (oI x5)), (2, .int (oI r3)), (3, .int (oI x6)), (4, .int (oI r22)), (5, .int (oI r26)), (6, .int (oI r32)), (7, .int (oI r48))] [] _ _ _ (zi J49) (li L50)
        refine xr_iload_n (xd dX8_sendFlight 63 rfl) 1 rfl ?_
        refine xr_iload (xd dX8_sendFlight 64 rfl) 6 rfl ?_
        refine zr_iadd (xd dX8_sendFlight 65 rfl) ?_
        obtain ⟨x51, e_x51⟩ : ∃ z_ : Int, z_ = (x5 + r32) := ⟨_, rfl⟩
        replace h := h x51 e_x51
        refine zr_nm e_x51 ?_
        refine xr_istore_n [(0, .ref e), (1, .int (oI x51)), (2, .int (oI r3)), (3, .int (oI x6)), (4, .int (oI r22)), (5, .int (oI r26)), (6, .int (oI r32)), (7, .int (oI r48))] (xd dX8_sendFlight 66 rfl) rfl (by decide) rfl ?_
        refine xr_goto 154 (xd dX8_sendFlight 67 rfl) (by decide) ?_
        refine xJ.pick (ls' := [(0, .ref e), (1, .int (oI x51)), (2, .int (oI r3)), (3, .int (oI x6))]) [0, 1, 2, 3] rfl ?_
        exact h
def w_X8_passTick (e : Nat) (p1 : Int) (J : zM) (L : yM) (Q : zM → yM → Prop) : Prop := ∀ J1 : zM, J1 = zs J e 19 p1 → ∀ K4 : zM → yM → Prop, (∀ (J2 : zM) (L3 : yM), (R32 (J2 (e + 8) 13) ∧ (if (J2 (e + 8) 13) = 0 then Q J2 L3 else R32 ((J2 e 19) - (J2 (e + 8) 11)) ∧ R32 (J2 (e + 8) 10) ∧ (if ((J2 e 19) - (J2 (e + 8) 11)) = (J2 (e + 8) 10) then R32 (J2 (e + 8) 12) ∧ (if (J2 (e + 8) 12) < 8 then R32 (2 * (J2 (e + 8) 10)) ∧ ∀ J13 : zM, J13 = zs J2 (e + 8) 10 (min (2 * (J2 (e + 8) 10)) 32) → w_X8_countAgain e J13 L3 (fun J14 L15 => w_X8_sendFlight e J14 L15 (fun J16 L17 => Q J16 L17)) else w_X8_die e J2 L3 (fun J18 L19 => Q J18 L19)) else Q J2 L3))) → K4 J2 L3) → R32 (J1 e 12) ∧ (if (J1 e 12) = 1 then R32 ((J1 e 19) - (J1 (e + 33) 3)) ∧ (if ((J1 e 19) - (J1 (e + 33) 3)) = 2 then w_X8_sendAcks e J1 L (fun J24 L25 => K4 J24 L25) else K4 J1 L) else K4 J1 L)
set_option maxHeartbeats 4000000 in
set_option maxRecDepth 100000 in
theorem v_X8_passTick {b : Nat} {dC : Nat → ClassId} {dI : Nat → Nat → Nat} {cA : Nat → ClassId} {ts : Nat → Nat} {l : Launch} {n : Nat} {R : Nat → Nat → Option Nat} {al : Bool} (hn : 491 ≤ n) (hR : xRk R) {e : Nat} {p1 : Int} (he : iSide e) {J : zM} {L : yM} {Q : zM → yM → Prop} (h : w_X8_passTick e p1 J L Q) : xCn (xGm b dC dI cA ts) l mX8_passTick [.ref e, .int (oI p1)] al (n, R, zi J, li L) 0 0 (zQ0 n R Q) (fun _ _ => False) := by
  refine xCn.ofJ (by decide) (Nat.le_of_ble_eq_true rfl) ?_
  show xJ _ _ _ _ _ _ _ _ _ 0 [(0, .ref e), (1, .int (oI p1))] [] _ _ _ _ _
  unfold w_X8_passTick at h
  refine xr_aload_n (xd dX8_passTick 0 rfl) 0 rfl ?_
  refine xr_iload_n (xd dX8_passTick 1 rfl) 1 rfl ?_
  obtain ⟨J1, e_J1⟩ : ∃ z_ : zM, z_ = zs J e 19 p1 := ⟨_, rfl⟩
  replace h := h J1 e_J1
  refine zr_putI 8 19 19 rfl e_J1 (xd dX8_passTick 2 rfl) f8_124 (by decide) (by decide) (lt491 hn (ltS0 he)) (kdS_0 he) (Or.inl rfl) rfl rfl (fun _ => rfl) ?_
  refine xr_aload_n (xd dX8_passTick 3 rfl) 0 rfl ?_
  refine zr_getI 8 12 12 rfl (xd dX8_passTick 4 rfl) f8_103 (by decide) (by decide) (lt491 hn (ltS0 he)) (kdS_0 he) rfl ?_
  refine xr_iconst (v := oI 1) (xd dX8_passTick 5 rfl) (by decide) ?_
  replace h := h (fun (J2 : zM) (L3 : yM) => xJ (xGm b dC dI cA ts) l mX8_passTick 0 0 (zQ0 n R Q) (fun _ _ => False) 0 0 33 [(0, .ref e)] [] al n R (zi J2) (li L3)) (by
    intro J2 L3 h
    show xJ _ _ _ _ _ _ _ _ _ 33 [(0, .ref e)] [] _ _ _ _ _
    refine xr_aload_n (xd dX8_passTick 17 rfl) 0 rfl ?_
    refine xr_getR (b := (e + 8)) 8 4 (xd dX8_passTick 18 rfl) f8_21 (by decide) (by decide) (lt491 hn (ltS0 he)) (kdS_0 he) rfl (rS_0_4 hR he) ?_
    refine zr_getI 2 13 13 rfl (xd dX8_passTick 19 rfl) f8_130 (by decide) (by decide) (lt491 hn (ltS he (by decide))) (kdS_8 he) rfl ?_
    obtain ⟨o5, h⟩ := h
    refine zr_if_eq 113 (xd dX8_passTick 20 rfl) (by decide) o5 (fun c6 => ?_) (fun c6 => ?_)
    · replace h := ifp h c6
      exact xr_vret (xd dX8_passTick 53 rfl) rfl (by decide) (by decide) (fun _ => rfl) ⟨_, _, rfl, rfl, h⟩
    · replace h := ifn h c6
      refine xr_aload_n (xd dX8_passTick 21 rfl) 0 rfl ?_
      refine zr_getI 8 19 19 rfl (xd dX8_passTick 22 rfl) f8_124 (by decide) (by decide) (lt491 hn (ltS0 he)) (kdS_0 he) rfl ?_
      refine xr_aload_n (xd dX8_passTick 23 rfl) 0 rfl ?_
      refine xr_getR (b := (e + 8)) 8 4 (xd dX8_passTick 24 rfl) f8_21 (by decide) (by decide) (lt491 hn (ltS0 he)) (kdS_0 he) rfl (rS_0_4 hR he) ?_
      refine zr_getI 2 11 11 rfl (xd dX8_passTick 25 rfl) f8_150 (by decide) (by decide) (lt491 hn (ltS he (by decide))) (kdS_8 he) rfl ?_
      refine zr_isub (xd dX8_passTick 26 rfl) ?_
      refine xr_aload_n (xd dX8_passTick 27 rfl) 0 rfl ?_
      refine xr_getR (b := (e + 8)) 8 4 (xd dX8_passTick 28 rfl) f8_21 (by decide) (by decide) (lt491 hn (ltS0 he)) (kdS_0 he) rfl (rS_0_4 hR he) ?_
      refine zr_getI 2 10 10 rfl (xd dX8_passTick 29 rfl) f8_134 (by decide) (by decide) (lt491 hn (ltS he (by decide))) (kdS_8 he) rfl ?_
      obtain ⟨o7, h⟩ := h
      obtain ⟨o8, h⟩ := h
      refine zr_icmp_ne 113 (xd dX8_passTick 30 rfl) (by decide) o7 o8 (fun c9 => ?_) (fun c9 => ?_)
      · replace h := ifn h c9
        exact xr_vret (xd dX8_passTick 53 rfl) rfl (by decide) (by decide) (fun _ => rfl) ⟨_, _, rfl, rfl, h⟩
      · replace h := ifp h c9
        refine xr_aload_n (xd dX8_passTick 31 rfl) 0 rfl ?_
        refine xr_getR (b := (e + 8)) 8 4 (xd dX8_passTick 32 rfl) f8_21 (by decide) (by decide) (lt491 hn (ltS0 he)) (kdS_0 he) rfl (rS_0_4 hR he) ?_
        refine zr_getI 2 12 12 rfl (xd dX8_passTick 33 rfl) f8_153 (by decide) (by decide) (lt491 hn (ltS he (by decide))) (kdS_8 he) rfl ?_
        refine xr_bipush (v := oI 8) (xd dX8_passTick 34 rfl) (by decide) ?_
        obtain ⟨o10, h⟩ := h
        refine zr_icmp_lt 84 (xd dX8_passTick 35 rfl) (by decide) o10 (by decide) (fun c11 => ?_) (fun c11 => ?_)
        · replace h := ifp h c11
          refine xr_aload_n (xd dX8_passTick 39 rfl) 0 rfl ?_
          refine xr_getR (b := (e + 8)) 8 4 (xd dX8_passTick 40 rfl) f8_21 (by decide) (by decide) (lt491 hn (ltS0 he)) (kdS_0 he) rfl (rS_0_4 hR he) ?_
          refine xr_iconst (v := oI 2) (xd dX8_passTick 41 rfl) (by decide) ?_
          refine xr_aload_n (xd dX8_passTick 42 rfl) 0 rfl ?_
          refine xr_getR (b := (e + 8)) 8 4 (xd dX8_passTick 43 rfl) f8_21 (by decide) (by decide) (lt491 hn (ltS0 he)) (kdS_0 he) rfl (rS_0_4 hR he) ?_
          refine zr_getI 2 10 10 rfl (xd dX8_passTick 44 rfl) f8_134 (by decide) (by decide) (lt491 hn (ltS he (by decide))) (kdS_8 he) rfl ?_
          refine zr_imul (xd dX8_passTick 45 rfl) ?_
          refine xr_bipush (v := oI 32) (xd dX8_passTick 46 rfl) (by decide) ?_
          obtain ⟨o12, h⟩ := h
          refine zr_min (xd dX8_passTick 47 rfl) l8_159 kmin ⟨Nat.le_of_ble_eq_true rfl, Nat.le_of_ble_eq_true rfl⟩ (by decide) (by decide) o12 (by decide) ?_
          obtain ⟨J13, e_J13⟩ : ∃ z_ : zM, z_ = zs J2 (e + 8) 10 (min (2 * (J2 (e + 8) 10)) 32) := ⟨_, rfl⟩
          replace h := h J13 e_J13
          refine zr_putI 2 10 10 rfl e_J13 (xd dX8_passTick 48 rfl) f8_134 (by decide) (by decide) (lt491 hn (ltS he (by decide))) (kdS_8 he) (Or.inl rfl) rfl rfl (fun _ => rfl) ?_
          refine xr_aload_n (xd dX8_passTick 49 rfl) 0 rfl ?_
          refine xr_callV mX8_countAgain 0 [] (xd dX8_passTick 50 rfl) l8_165 kX8_countAgain rfl (lt491 hn (ltS0 he)) (kdS_0 he) (by decide) rfl (by decide) (Nat.le_of_ble_eq_true rfl) (v_X8_countAgain hn hR he h) (by decide) (by decide) (fun r_ M_ h_ => ?_) (fun _ _ h_ => h_.elim)
          obtain ⟨J14, L15, rfl, rfl, h⟩ := h_
          show xJ _ _ _ _ _ _ _ _ _ 109 [(0, .ref e)] [] _ _ _ (zi J14) (li L15)
          refine xr_aload_n (xd dX8_passTick 51 rfl) 0 rfl ?_
          refine xr_callV mX8_sendFlight 0 [] (xd dX8_passTick 52 rfl) l8_168 kX8_sendFlight rfl (lt491 hn (ltS0 he)) (kdS_0 he) (by decide) rfl (by decide) (Nat.le_of_ble_eq_true rfl) (v_X8_sendFlight hn hR he h) (by decide) (by decide) (fun r_ M_ h_ => ?_) (fun _ _ h_ => h_.elim)
          obtain ⟨J16, L17, rfl, rfl, h⟩ := h_
          show xJ _ _ _ _ _ _ _ _ _ 113 [(0, .ref e)] [] _ _ _ (zi J16) (li L17)
          exact xr_vret (xd dX8_passTick 53 rfl) rfl (by decide) (by decide) (fun _ => rfl) ⟨_, _, rfl, rfl, h⟩
        · replace h := ifn h c11
          refine xr_aload_n (xd dX8_passTick 36 rfl) 0 rfl ?_
          refine xr_callV mX8_die 0 [] (xd dX8_passTick 37 rfl) l8_156 kX8_die rfl (lt491 hn (ltS0 he)) (kdS_0 he) (by decide) rfl (by decide) (Nat.le_of_ble_eq_true rfl) (v_X8_die hn hR he h) (by decide) (by decide) (fun r_ M_ h_ => ?_) (fun _ _ h_ => h_.elim)
          obtain ⟨J18, L19, rfl, rfl, h⟩ := h_
          show xJ _ _ _ _ _ _ _ _ _ 81 [(0, .ref e)] [] _ _ _ (zi J18) (li L19)
          refine xr_goto 113 (xd dX8_passTick 38 rfl) (by decide) ?_
          exact xr_vret (xd dX8_passTick 53 rfl) rfl (by decide) (by decide) (fun _ => rfl) ⟨_, _, rfl, rfl, h⟩)
  obtain ⟨o20, h⟩ := h
  refine zr_icmp_ne 33 (xd dX8_passTick 6 rfl) (by decide) o20 (by decide) (fun c21 => ?_) (fun c21 => ?_)
  · replace h := ifn h c21
    refine xJ.pick (ls' := [(0, .ref e)]) [0] rfl ?_
    exact h
  · replace h := ifp h c21
    refine xr_aload_n (xd dX8_passTick 7 rfl) 0 rfl ?_
    refine zr_getI 8 19 19 rfl (xd dX8_passTick 8 rfl) f8_124 (by decide) (by decide) (lt491 hn (ltS0 he)) (kdS_0 he) rfl ?_
    refine xr_aload_n (xd dX8_passTick 9 rfl) 0 rfl ?_
    refine xr_getR (b := (e + 33)) 8 6 (xd dX8_passTick 10 rfl) f8_35 (by decide) (by decide) (lt491 hn (ltS0 he)) (kdS_0 he) rfl (rS_0_6 hR he) ?_
    refine zr_getI 0 3 3 rfl (xd dX8_passTick 11 rfl) f8_144 (by decide) (by decide) (lt491 hn (ltS he (by decide))) (kdS_33 he) rfl ?_
    refine zr_isub (xd dX8_passTick 12 rfl) ?_
    refine xr_iconst (v := oI 2) (xd dX8_passTick 13 rfl) (by decide) ?_
    obtain ⟨o22, h⟩ := h
    refine zr_icmp_ne 33 (xd dX8_passTick 14 rfl) (by decide) o22 (by decide) (fun c23 => ?_) (fun c23 => ?_)
    · replace h := ifn h c23
      refine xJ.pick (ls' := [(0, .ref e)]) [0] rfl ?_
      exact h
    · replace h := ifp h c23
      refine xr_aload_n (xd dX8_passTick 15 rfl) 0 rfl ?_
      refine xr_callV mX8_sendAcks 0 [] (xd dX8_passTick 16 rfl) l8_147 kX8_sendAcks rfl (lt491 hn (ltS0 he)) (kdS_0 he) (by decide) rfl (by decide) (Nat.le_of_ble_eq_true rfl) (v_X8_sendAcks hn hR he h) (by decide) (by decide) (fun r_ M_ h_ => ?_) (fun _ _ h_ => h_.elim)
      obtain ⟨J24, L25, rfl, rfl, h⟩ := h_
      show xJ _ _ _ _ _ _ _ _ _ 33 [(0, .ref e), (1, .int (oI p1))] [] _ _ _ (zi J24) (li L25)
      refine xJ.pick (ls' := [(0, .ref e)]) [0] rfl ?_
      exact h
def w_X8_refusal (e : Nat) (J : zM) (L : yM) (Q : Int → zM → yM → Prop) : Prop := R32 (J 3 4) ∧ (if (J 3 4) = 0 then w_X10_refuses (e + 172) (J 3 6) J L (fun r57 J55 L56 => R32 r57 ∧ (if r57 = 0 then Q 4 J55 L56 else Q 2 J55 L56)) else R32 (J (e + 144) 11) ∧ (if (J (e + 144) 11) < (J 3 4) then Q 1 J L else R32 (J 3 8) ∧ (if (J 3 8) < 9 then Q 3 J L else w_X5_whichKey e (J 3 4) (1 - (J e 0)) J L (fun r9 J7 L8 => w_X1_tagAt J7 L8 (fun r12 J10 L11 => w_X5_maskOf e 4 r12 r9 J10 L11 (fun r15 J13 L14 => w_X1_unmask r15 J13 L14 (fun J16 L17 => ((0 : Int) ≤ (J16 3 4) ∧ (J16 3 4) < 4) ∧ w_X10_refuses (e + 172 + ((J16 3 4)).toNat) (J16 3 6) J16 L17 (fun r22 J20 L21 => R32 r22 ∧ (if r22 = 0 then w_X1_sealedMany J20 L21 (fun r27 J25 L26 => w_X5_tagOf e 4 (J20 3 2) r9 r27 J25 L26 (fun r30 J28 L29 => w_X1_tagAt J28 L29 (fun r33 J31 L32 => za r30 ∧ w_X11_sameOctets r30 0 4 r33 8 J31 L32 (fun r37 J35 L36 => R32 r37 ∧ (if r37 = 0 then Q 3 J35 L36 else w_X1_sealedMany J35 L36 (fun r42 J40 L41 => w_X5_veil e 4 (J35 3 2) r9 r42 J40 L41 (fun J43 L44 => w_X1_takeType J43 L44 (fun J45 L46 => R32 (J45 3 5) ∧ (if (J45 3 5) = 23 then w_X8_isOpen e J45 L46 (fun r51 J49 L50 => R32 r51 ∧ (if r51 = 0 then Q 1 J49 L50 else Q 4 J49 L50)) else Q 4 J45 L46))))))))) else Q 2 J20 L21)))))))))
set_option maxHeartbeats 4000000 in
set_option maxRecDepth 100000 in
theorem v_X8_refusal {b : Nat} {dC : Nat → ClassId} {dI : Nat → Nat → Nat} {cA : Nat → ClassId} {ts : Nat → Nat} {l : Launch} {n : Nat} {R : Nat → Nat → Option Nat} {al : Bool} (hn : 491 ≤ n) (hR : xRk R) {e : Nat} (he : iSide e) {J : zM} {L : yM} {Q : Int → zM → yM → Prop} (h : w_X8_refusal e J L Q) : xCn (xGm b dC dI cA ts) l mX8_refusal [.ref e, .ref 3] al (n, R, zi J, li L) 0 0 (zQ1 n R Q) (fun _ _ => False) := by
  refine xCn.ofJ (by decide) (Nat.le_of_ble_eq_true rfl) ?_
  show xJ _ _ _ _ _ _ _ _ _ 0 [(0, .ref e), (1, .ref 3)] [] _ _ _ _ _
  unfold w_X8_refusal at h
  refine xr_aload_n (xd dX8_refusal 0 rfl) 1 rfl ?_
  refine zr_getI 1 4 4 rfl (xd dX8_refusal 1 rfl) f8_175 (by decide) (by decide) (lt491 hn (by decide)) kd_3 rfl ?_
  obtain ⟨o1, h⟩ := h
  refine zr_if_ne 29 (xd dX8_refusal 2 rfl) (by decide) o1 (fun c2 => ?_) (fun c2 => ?_)
  · replace h := ifn h c2
    refine xr_aload_n (xd dX8_refusal 15 rfl) 0 rfl ?_
    refine xr_getR (b := (e + 144)) 8 2 (xd dX8_refusal 16 rfl) f8_73 (by decide) (by decide) (lt491 hn (ltS0 he)) (kdS_0 he) rfl (rS_0_2 hR he) ?_
    refine zr_getI 5 11 11 rfl (xd dX8_refusal 17 rfl) f8_190 (by decide) (by decide) (lt491 hn (ltS he (by decide))) (kdS_144 he) rfl ?_
    refine xr_aload_n (xd dX8_refusal 18 rfl) 1 rfl ?_
    refine zr_getI 1 4 4 rfl (xd dX8_refusal 19 rfl) f8_175 (by decide) (by decide) (lt491 hn (by decide)) kd_3 rfl ?_
    obtain ⟨o3, h⟩ := h
    refine zr_icmp_ge 45 (xd dX8_refusal 20 rfl) (by decide) o3 o1 (fun c4 => ?_) (fun c4 => ?_)
    · replace h := ifn h c4
      refine xr_aload_n (xd dX8_refusal 23 rfl) 1 rfl ?_
      refine zr_getI 1 8 8 rfl (xd dX8_refusal 24 rfl) f8_191 (by decide) (by decide) (lt491 hn (by decide)) kd_3 rfl ?_
      refine xr_bipush (v := oI 9) (xd dX8_refusal 25 rfl) (by decide) ?_
      obtain ⟨o5, h⟩ := h
      refine zr_icmp_ge 56 (xd dX8_refusal 26 rfl) (by decide) o5 (by decide) (fun c6 => ?_) (fun c6 => ?_)
      · replace h := ifn h c6
        refine xr_aload_n (xd dX8_refusal 29 rfl) 0 rfl ?_
        refine xr_getR (b := (e + 144)) 8 2 (xd dX8_refusal 30 rfl) f8_73 (by decide) (by decide) (lt491 hn (ltS0 he)) (kdS_0 he) rfl (rS_0_2 hR he) ?_
        refine xr_aload_n (xd dX8_refusal 31 rfl) 1 rfl ?_
        refine zr_getI 1 4 4 rfl (xd dX8_refusal 32 rfl) f8_175 (by decide) (by decide) (lt491 hn (by decide)) kd_3 rfl ?_
        refine xr_iconst (v := oI 1) (xd dX8_refusal 33 rfl) (by decide) ?_
        refine xr_aload_n (xd dX8_refusal 34 rfl) 0 rfl ?_
        refine zr_getI 8 0 0 rfl (xd dX8_refusal 35 rfl) f8_64 (by decide) (by decide) (lt491 hn (ltS0 he)) (kdS_0 he) rfl ?_
        refine zr_isub (xd dX8_refusal 36 rfl) ?_
        refine xr_callV mX5_whichKey 2 [.int (oI (J 3 4)), .int (oI (1 - (J e 0)))] (xd dX8_refusal 37 rfl) l8_194 kX5_whichKey rfl (lt491 hn (ltS he (by decide))) (kdS_144 he) (by decide) rfl (by decide) (Nat.le_of_ble_eq_true rfl) (v_X5_whichKey hn hR he h) (by decide) (by decide) (fun r_ M_ h_ => ?_) (fun _ _ h_ => h_.elim)
        obtain ⟨r9, J7, L8, rfl, rfl, h⟩ := h_
        show xJ _ _ _ _ _ _ _ _ _ 73 [(0, .ref e), (1, .ref 3)] [.int (oI r9)] _ _ _ (zi J7) (li L8)
        refine xr_istore_n [(0, .ref e), (1, .ref 3), (2, .int (oI r9))] (xd dX8_refusal 38 rfl) rfl (by decide) rfl ?_
        refine xr_aload_n (xd dX8_refusal 39 rfl) 1 rfl ?_
        refine xr_aload_n (xd dX8_refusal 40 rfl) 0 rfl ?_
        refine xr_getR (b := (e + 144)) 8 2 (xd dX8_refusal 41 rfl) f8_73 (by decide) (by decide) (lt491 hn (ltS0 he)) (kdS_0 he) rfl (rS_0_2 hR he) ?_
        refine xr_aload_n (xd dX8_refusal 42 rfl) 1 rfl ?_
        refine xr_getR (b := 4) 1 0 (xd dX8_refusal 43 rfl) f8_197 (by decide) (by decide) (lt491 hn (by decide)) kd_3 rfl (r_3_0 hR) ?_
        refine xr_aload_n (xd dX8_refusal 44 rfl) 1 rfl ?_
        refine xr_callV mX1_tagAt 0 [] (xd dX8_refusal 45 rfl) l8_200 kX1_tagAt rfl (lt491 hn (by decide)) kd_3 (by decide) rfl (by decide) (Nat.le_of_ble_eq_true rfl) (v_X1_tagAt hn hR  h) (by decide) (by decide) (fun r_ M_ h_ => ?_) (fun _ _ h_ => h_.elim)
        obtain ⟨r12, J10, L11, rfl, rfl, h⟩ := h_
        show xJ _ _ _ _ _ _ _ _ _ 87 [(0, .ref e), (1, .ref 3), (2, .int (oI r9))] [.int (oI r12), .ref 4, .ref (e + 144), .ref 3] _ _ _ (zi J10) (li L11)
        refine xr_iload_n (xd dX8_refusal 46 rfl) 2 rfl ?_
        refine xr_callV mX5_maskOf 3 [.ref 4, .int (oI r12), .int (oI r9)] (xd dX8_refusal 47 rfl) l8_203 kX5_maskOf rfl (lt491 hn (ltS he (by decide))) (kdS_144 he) (by decide) rfl (by decide) (Nat.le_of_ble_eq_true rfl) (v_X5_maskOf hn hR he (za_mk kd_4 (by decide)) h) (by decide) (by decide) (fun r_ M_ h_ => ?_) (fun _ _ h_ => h_.elim)
        obtain ⟨r15, J13, L14, rfl, rfl, h⟩ := h_
        show xJ _ _ _ _ _ _ _ _ _ 91 [(0, .ref e), (1, .ref 3), (2, .int (oI r9))] [.int (oI r15), .ref 3] _ _ _ (zi J13) (li L14)
        refine xr_callV mX1_unmask 1 [.int (oI r15)] (xd dX8_refusal 48 rfl) l8_207 kX1_unmask rfl (lt491 hn (by decide)) kd_3 (by decide) rfl (by decide) (Nat.le_of_ble_eq_true rfl) (v_X1_unmask hn hR  h) (by decide) (by decide) (fun r_ M_ h_ => ?_) (fun _ _ h_ => h_.elim)
        obtain ⟨J16, L17, rfl, rfl, h⟩ := h_
        show xJ _ _ _ _ _ _ _ _ _ 94 [(0, .ref e), (1, .ref 3), (2, .int (oI r9))] [] _ _ _ (zi J16) (li L17)
        refine xr_aload_n (xd dX8_refusal 49 rfl) 0 rfl ?_
        refine xr_getR (b := (e + 36)) 8 7 (xd dX8_refusal 50 rfl) f8_41 (by decide) (by decide) (lt491 hn (ltS0 he)) (kdS_0 he) rfl (rS_0_7 hR he) ?_
        refine xr_aload_n (xd dX8_refusal 51 rfl) 1 rfl ?_
        refine zr_getI 1 4 4 rfl (xd dX8_refusal 52 rfl) f8_175 (by decide) (by decide) (lt491 hn (by decide)) kd_3 rfl ?_
        obtain ⟨o18, h⟩ := h
        have f19 := famS_36 hR he o18
        refine zr_aaload (b := (e + 172 + ((J16 3 4)).toNat)) 6 (xd dX8_refusal 53 rfl) (lt491 hn (ltS he (by decide))) (by decide) (by decide) (kdS_36 he) (lnS_36 he) (by decide) o18 f19.1 ?_
        refine xr_aload_n (xd dX8_refusal 54 rfl) 1 rfl ?_
        refine zr_getI 1 6 6 rfl (xd dX8_refusal 55 rfl) f8_180 (by decide) (by decide) (lt491 hn (by decide)) kd_3 rfl ?_
        refine xr_callV mX10_refuses 1 [.int (oI (J16 3 6))] (xd dX8_refusal 56 rfl) l8_186 kX10_refuses rfl (lt491 hn f19.2.1.2) f19.2.1.1 (by decide) rfl (by decide) (Nat.le_of_ble_eq_true rfl) (v_X10_refuses hn hR f19.2.1 h) (by decide) (by decide) (fun r_ M_ h_ => ?_) (fun _ _ h_ => h_.elim)
        obtain ⟨r22, J20, L21, rfl, rfl, h⟩ := h_
        show xJ _ _ _ _ _ _ _ _ _ 110 [(0, .ref e), (1, .ref 3), (2, .int (oI r9))] [.int (oI r22)] _ _ _ (zi J20) (li L21)
        obtain ⟨o23, h⟩ := h
        refine zr_if_eq 115 (xd dX8_refusal 57 rfl) (by decide) o23 (fun c24 => ?_) (fun c24 => ?_)
        · replace h := ifp h c24
          refine xr_aload_n (xd dX8_refusal 60 rfl) 0 rfl ?_
          refine xr_getR (b := (e + 144)) 8 2 (xd dX8_refusal 61 rfl) f8_73 (by decide) (by decide) (lt491 hn (ltS0 he)) (kdS_0 he) rfl (rS_0_2 hR he) ?_
          refine xr_aload_n (xd dX8_refusal 62 rfl) 1 rfl ?_
          refine xr_getR (b := 4) 1 0 (xd dX8_refusal 63 rfl) f8_197 (by decide) (by decide) (lt491 hn (by decide)) kd_3 rfl (r_3_0 hR) ?_
          refine xr_aload_n (xd dX8_refusal 64 rfl) 1 rfl ?_
          refine zr_getI 1 2 2 rfl (xd dX8_refusal 65 rfl) f8_210 (by decide) (by decide) (lt491 hn (by decide)) kd_3 rfl ?_
          refine xr_iload_n (xd dX8_refusal 66 rfl) 2 rfl ?_
          refine xr_aload_n (xd dX8_refusal 67 rfl) 1 rfl ?_
          refine xr_callV mX1_sealedMany 0 [] (xd dX8_refusal 68 rfl) l8_213 kX1_sealedMany rfl (lt491 hn (by decide)) kd_3 (by decide) rfl (by decide) (Nat.le_of_ble_eq_true rfl) (v_X1_sealedMany hn hR  h) (by decide) (by decide) (fun r_ M_ h_ => ?_) (fun _ _ h_ => h_.elim)
          obtain ⟨r27, J25, L26, rfl, rfl, h⟩ := h_
          show xJ _ _ _ _ _ _ _ _ _ 132 [(0, .ref e), (1, .ref 3), (2, .int (oI r9))] [.int (oI r27), .int (oI r9), .int (oI (J20 3 2)), .ref 4, .ref (e + 144)] _ _ _ (zi J25) (li L26)
          refine xr_callV mX5_tagOf 4 [.ref 4, .int (oI (J20 3 2)), .int (oI r9), .int (oI r27)] (xd dX8_refusal 69 rfl) l8_216 kX5_tagOf rfl (lt491 hn (ltS he (by decide))) (kdS_144 he) (by decide) rfl (by decide) (Nat.le_of_ble_eq_true rfl) (v_X5_tagOf hn hR he (za_mk kd_4 (by decide)) h) (by decide) (by decide) (fun r_ M_ h_ => ?_) (fun _ _ h_ => h_.elim)
          obtain ⟨r30, J28, L29, rfl, rfl, h⟩ := h_
          show xJ _ _ _ _ _ _ _ _ _ 135 [(0, .ref e), (1, .ref 3), (2, .int (oI r9))] [.ref r30] _ _ _ (zi J28) (li L29)
          refine xr_astore_n [(0, .ref e), (1, .ref 3), (2, .int (oI r9)), (3, .ref r30)] (xd dX8_refusal 70 rfl) rfl (by decide) rfl ?_
          refine xr_aload_n (xd dX8_refusal 71 rfl) 3 rfl ?_
          refine xr_iconst (v := oI 0) (xd dX8_refusal 72 rfl) (by decide) ?_
          refine xr_aload_n (xd dX8_refusal 73 rfl) 1 rfl ?_
          refine xr_getR (b := 4) 1 0 (xd dX8_refusal 74 rfl) f8_197 (by decide) (by decide) (lt491 hn (by decide)) kd_3 rfl (r_3_0 hR) ?_
          refine xr_aload_n (xd dX8_refusal 75 rfl) 1 rfl ?_
          refine xr_callV mX1_tagAt 0 [] (xd dX8_refusal 76 rfl) l8_200 kX1_tagAt rfl (lt491 hn (by decide)) kd_3 (by decide) rfl (by decide) (Nat.le_of_ble_eq_true rfl) (v_X1_tagAt hn hR  h) (by decide) (by decide) (fun r_ M_ h_ => ?_) (fun _ _ h_ => h_.elim)
          obtain ⟨r33, J31, L32, rfl, rfl, h⟩ := h_
          show xJ _ _ _ _ _ _ _ _ _ 146 [(0, .ref e), (1, .ref 3), (2, .int (oI r9)), (3, .ref r30)] [.int (oI r33), .ref 4, .int (oI 0), .ref r30] _ _ _ (zi J31) (li L32)
          refine xr_bipush (v := oI 8) (xd dX8_refusal 77 rfl) (by decide) ?_
          obtain ⟨o34, h⟩ := h
          refine xr_callSN mX11_sameOctets 5 [.ref r30, .int (oI 0), .ref 4, .int (oI r33), .int (oI 8)] (xd dX8_refusal 78 rfl) n8_220 kX11_sameOctets rfl (by decide) (Nat.le_of_ble_eq_true rfl) (v_X11_sameOctets hn hR (za_mk o34.1 o34.2) (za_mk kd_4 (by decide)) h) (by decide) (by decide) (fun r_ M_ h_ => ?_)
          obtain ⟨r37, J35, L36, rfl, rfl, h⟩ := h_
          show xJ _ _ _ _ _ _ _ _ _ 151 [(0, .ref e), (1, .ref 3), (2, .int (oI r9)), (3, .ref r30)] [.int (oI r37)] _ _ _ (zi J35) (li L36)
          obtain ⟨o38, h⟩ := h
          refine zr_if_ne 156 (xd dX8_refusal 79 rfl) (by decide) o38 (fun c39 => ?_) (fun c39 => ?_)
          · replace h := ifn h c39
            refine xr_aload_n (xd dX8_refusal 82 rfl) 0 rfl ?_
            refine xr_getR (b := (e + 144)) 8 2 (xd dX8_refusal 83 rfl) f8_73 (by decide) (by decide) (lt491 hn (ltS0 he)) (kdS_0 he) rfl (rS_0_2 hR he) ?_
            refine xr_aload_n (xd dX8_refusal 84 rfl) 1 rfl ?_
            refine xr_getR (b := 4) 1 0 (xd dX8_refusal 85 rfl) f8_197 (by decide) (by decide) (lt491 hn (by decide)) kd_3 rfl (r_3_0 hR) ?_
            refine xr_aload_n (xd dX8_refusal 86 rfl) 1 rfl ?_
            refine zr_getI 1 2 2 rfl (xd dX8_refusal 87 rfl) f8_210 (by decide) (by decide) (lt491 hn (by decide)) kd_3 rfl ?_
            refine xr_iload_n (xd dX8_refusal 88 rfl) 2 rfl ?_
            refine xr_aload_n (xd dX8_refusal 89 rfl) 1 rfl ?_
            refine xr_callV mX1_sealedMany 0 [] (xd dX8_refusal 90 rfl) l8_213 kX1_sealedMany rfl (lt491 hn (by decide)) kd_3 (by decide) rfl (by decide) (Nat.le_of_ble_eq_true rfl) (v_X1_sealedMany hn hR  h) (by decide) (by decide) (fun r_ M_ h_ => ?_) (fun _ _ h_ => h_.elim)
            obtain ⟨r42, J40, L41, rfl, rfl, h⟩ := h_
            show xJ _ _ _ _ _ _ _ _ _ 173 [(0, .ref e), (1, .ref 3), (2, .int (oI r9)), (3, .ref r30)] [.int (oI r42), .int (oI r9), .int (oI (J35 3 2)), .ref 4, .ref (e + 144)] _ _ _ (zi J40) (li L41)
            refine xr_callV mX5_veil 4 [.ref 4, .int (oI (J35 3 2)), .int (oI r9), .int (oI r42)] (xd dX8_refusal 91 rfl) l8_224 kX5_veil rfl (lt491 hn (ltS he (by decide))) (kdS_144 he) (by decide) rfl (by decide) (Nat.le_of_ble_eq_true rfl) (v_X5_veil hn hR he (za_mk kd_4 (by decide)) h) (by decide) (by decide) (fun r_ M_ h_ => ?_) (fun _ _ h_ => h_.elim)
            obtain ⟨J43, L44, rfl, rfl, h⟩ := h_
            show xJ _ _ _ _ _ _ _ _ _ 176 [(0, .ref e), (1, .ref 3), (2, .int (oI r9)), (3, .ref r30)] [] _ _ _ (zi J43) (li L44)
            refine xr_aload_n (xd dX8_refusal 92 rfl) 1 rfl ?_
            refine xr_callV mX1_takeType 0 [] (xd dX8_refusal 93 rfl) l8_228 kX1_takeType rfl (lt491 hn (by decide)) kd_3 (by decide) rfl (by decide) (Nat.le_of_ble_eq_true rfl) (v_X1_takeType hn hR  h) (by decide) (by decide) (fun r_ M_ h_ => ?_) (fun _ _ h_ => h_.elim)
            obtain ⟨J45, L46, rfl, rfl, h⟩ := h_
            show xJ _ _ _ _ _ _ _ _ _ 180 [(0, .ref e), (1, .ref 3), (2, .int (oI r9)), (3, .ref r30)] [] _ _ _ (zi J45) (li L46)
            refine xr_aload_n (xd dX8_refusal 94 rfl) 1 rfl ?_
            refine zr_getI 1 5 5 rfl (xd dX8_refusal 95 rfl) f8_231 (by decide) (by decide) (lt491 hn (by decide)) kd_3 rfl ?_
            refine xr_bipush (v := oI 23) (xd dX8_refusal 96 rfl) (by decide) ?_
            obtain ⟨o47, h⟩ := h
            refine zr_icmp_ne 200 (xd dX8_refusal 97 rfl) (by decide) o47 (by decide) (fun c48 => ?_) (fun c48 => ?_)
            · replace h := ifn h c48
              refine xr_iconst (v := oI 4) (xd dX8_refusal 103 rfl) (by decide) ?_
              exact xr_iret (xd dX8_refusal 104 rfl) rfl (by decide) (by decide) (fun _ => rfl) ⟨_, _, _, rfl, rfl, h⟩
            · replace h := ifp h c48
              refine xr_aload_n (xd dX8_refusal 98 rfl) 0 rfl ?_
              refine xr_callV mX8_isOpen 0 [] (xd dX8_refusal 99 rfl) l8_234 kX8_isOpen rfl (lt491 hn (ltS0 he)) (kdS_0 he) (by decide) rfl (by decide) (Nat.le_of_ble_eq_true rfl) (v_X8_isOpen hn hR he h) (by decide) (by decide) (fun r_ M_ h_ => ?_) (fun _ _ h_ => h_.elim)
              obtain ⟨r51, J49, L50, rfl, rfl, h⟩ := h_
              show xJ _ _ _ _ _ _ _ _ _ 193 [(0, .ref e), (1, .ref 3), (2, .int (oI r9)), (3, .ref r30)] [.int (oI r51)] _ _ _ (zi J49) (li L50)
              obtain ⟨o52, h⟩ := h
              refine zr_if_ne 200 (xd dX8_refusal 100 rfl) (by decide) o52 (fun c53 => ?_) (fun c53 => ?_)
              · replace h := ifn h c53
                refine xr_iconst (v := oI 4) (xd dX8_refusal 103 rfl) (by decide) ?_
                exact xr_iret (xd dX8_refusal 104 rfl) rfl (by decide) (by decide) (fun _ => rfl) ⟨_, _, _, rfl, rfl, h⟩
              · replace h := ifp h c53
                refine xr_iconst (v := oI 1) (xd dX8_refusal 101 rfl) (by decide) ?_
                refine xr_goto 201 (xd dX8_refusal 102 rfl) (by decide) ?_
                exact xr_iret (xd dX8_refusal 104 rfl) rfl (by decide) (by decide) (fun _ => rfl) ⟨_, _, _, rfl, rfl, h⟩
          · replace h := ifp h c39
            refine xr_iconst (v := oI 3) (xd dX8_refusal 80 rfl) (by decide) ?_
            exact xr_iret (xd dX8_refusal 81 rfl) rfl (by decide) (by decide) (fun _ => rfl) ⟨_, _, _, rfl, rfl, h⟩
        · replace h := ifn h c24
          refine xr_iconst (v := oI 2) (xd dX8_refusal 58 rfl) (by decide) ?_
          exact xr_iret (xd dX8_refusal 59 rfl) rfl (by decide) (by decide) (fun _ => rfl) ⟨_, _, _, rfl, rfl, h⟩
      · replace h := ifp h c6
        refine xr_iconst (v := oI 3) (xd dX8_refusal 27 rfl) (by decide) ?_
        exact xr_iret (xd dX8_refusal 28 rfl) rfl (by decide) (by decide) (fun _ => rfl) ⟨_, _, _, rfl, rfl, h⟩
    · replace h := ifp h c4
      refine xr_iconst (v := oI 1) (xd dX8_refusal 21 rfl) (by decide) ?_
      exact xr_iret (xd dX8_refusal 22 rfl) rfl (by decide) (by decide) (fun _ => rfl) ⟨_, _, _, rfl, rfl, h⟩
  · replace h := ifp h c2
    refine xr_aload_n (xd dX8_refusal 3 rfl) 0 rfl ?_
    refine xr_getR (b := (e + 36)) 8 7 (xd dX8_refusal 4 rfl) f8_41 (by decide) (by decide) (lt491 hn (ltS0 he)) (kdS_0 he) rfl (rS_0_7 hR he) ?_
    refine xr_iconst (v := oI 0) (xd dX8_refusal 5 rfl) (by decide) ?_
    refine zr_aaload (b := (e + 172)) 6 (xd dX8_refusal 6 rfl) (lt491 hn (ltS he (by decide))) (by decide) (by decide) (kdS_36 he) (lnS_36 he) (by decide) ⟨by decide, by decide⟩ (famS_36 hR he (i := 0) ⟨by decide, by decide⟩).1 ?_
    refine xr_aload_n (xd dX8_refusal 7 rfl) 1 rfl ?_
    refine zr_getI 1 6 6 rfl (xd dX8_refusal 8 rfl) f8_180 (by decide) (by decide) (lt491 hn (by decide)) kd_3 rfl ?_
    refine xr_callV mX10_refuses 1 [.int (oI (J 3 6))] (xd dX8_refusal 9 rfl) l8_186 kX10_refuses rfl (lt491 hn (famS_36 hR he (i := 0) ⟨by decide, by decide⟩).2.1.2) (famS_36 hR he (i := 0) ⟨by decide, by decide⟩).2.1.1 (by decide) rfl (by decide) (Nat.le_of_ble_eq_true rfl) (v_X10_refuses hn hR (famS_36 hR he (i := 0) ⟨by decide, by decide⟩).2.1 h) (by decide) (by decide) (fun r_ M_ h_ => ?_) (fun _ _ h_ => h_.elim)
    obtain ⟨r57, J55, L56, rfl, rfl, h⟩ := h_
    show xJ _ _ _ _ _ _ _ _ _ 20 [(0, .ref e), (1, .ref 3)] [.int (oI r57)] _ _ _ (zi J55) (li L56)
    obtain ⟨o58, h⟩ := h
    refine zr_if_eq 27 (xd dX8_refusal 10 rfl) (by decide) o58 (fun c59 => ?_) (fun c59 => ?_)
    · replace h := ifp h c59
      refine xr_iconst (v := oI 4) (xd dX8_refusal 13 rfl) (by decide) ?_
      exact xr_iret (xd dX8_refusal 14 rfl) rfl (by decide) (by decide) (fun _ => rfl) ⟨_, _, _, rfl, rfl, h⟩
    · replace h := ifn h c59
      refine xr_iconst (v := oI 2) (xd dX8_refusal 11 rfl) (by decide) ?_
      refine xr_goto 28 (xd dX8_refusal 12 rfl) (by decide) ?_
      exact xr_iret (xd dX8_refusal 14 rfl) rfl (by decide) (by decide) (fun _ => rfl) ⟨_, _, _, rfl, rfl, h⟩
def w_X8_opens (e : Nat) (J : zM) (L : yM) (Q : Int → zM → yM → Prop) : Prop := w_X8_refusal e J L (fun r3 J1 L2 => ∀ K6 : zM → yM → Prop, (∀ (J4 : zM) (L5 : yM), (((0 : Int) ≤ r3 ∧ r3 < 5) ∧ ((0 : Int) ≤ r3 ∧ r3 < 5) ∧ ∀ J9 : zM, J9 = zs J4 (e + 37) r3 ((J4 (e + 37) r3) + 1) → R32 r3 ∧ (if r3 = 4 then Q 1 J9 L5 else Q 0 J9 L5)) → K6 J4 L5) → R32 r3 ∧ (if r3 = 4 then ((0 : Int) ≤ (J1 3 4) ∧ (J1 3 4) < 4) ∧ w_X10_mark (e + 172 + ((J1 3 4)).toNat) (J1 3 6) J1 L2 (fun J16 L17 => K6 J16 L17) else K6 J1 L2))
set_option maxHeartbeats 4000000 in
set_option maxRecDepth 100000 in
theorem v_X8_opens {b : Nat} {dC : Nat → ClassId} {dI : Nat → Nat → Nat} {cA : Nat → ClassId} {ts : Nat → Nat} {l : Launch} {n : Nat} {R : Nat → Nat → Option Nat} {al : Bool} (hn : 491 ≤ n) (hR : xRk R) {e : Nat} (he : iSide e) {J : zM} {L : yM} {Q : Int → zM → yM → Prop} (h : w_X8_opens e J L Q) : xCn (xGm b dC dI cA ts) l mX8_opens [.ref e, .ref 3] al (n, R, zi J, li L) 0 0 (zQ1 n R Q) (fun _ _ => False) := by
  refine xCn.ofJ (by decide) (Nat.le_of_ble_eq_true rfl) ?_
  show xJ _ _ _ _ _ _ _ _ _ 0 [(0, .ref e), (1, .ref 3)] [] _ _ _ _ _
  unfold w_X8_opens at h
  refine xr_aload_n (xd dX8_opens 0 rfl) 0 rfl ?_
  refine xr_aload_n (xd dX8_opens 1 rfl) 1 rfl ?_
  refine xr_callV mX8_refusal 1 [.ref 3] (xd dX8_opens 2 rfl) l8_171 kX8_refusal rfl (lt491 hn (ltS0 he)) (kdS_0 he) (by decide) rfl (by decide) (Nat.le_of_ble_eq_true rfl) (v_X8_refusal hn hR he h) (by decide) (by decide) (fun r_ M_ h_ => ?_) (fun _ _ h_ => h_.elim)
  obtain ⟨r3, J1, L2, rfl, rfl, h⟩ := h_
  show xJ _ _ _ _ _ _ _ _ _ 5 [(0, .ref e), (1, .ref 3)] [.int (oI r3)] _ _ _ (zi J1) (li L2)
  refine xr_istore_n [(0, .ref e), (1, .ref 3), (2, .int (oI r3))] (xd dX8_opens 3 rfl) rfl (by decide) rfl ?_
  refine xr_iload_n (xd dX8_opens 4 rfl) 2 rfl ?_
  refine xr_iconst (v := oI 4) (xd dX8_opens 5 rfl) (by decide) ?_
  replace h := h (fun (J4 : zM) (L5 : yM) => xJ (xGm b dC dI cA ts) l mX8_opens 0 0 (zQ1 n R Q) (fun _ _ => False) 0 0 27 [(0, .ref e), (2, .int (oI r3))] [] al n R (zi J4) (li L5)) (by
    intro J4 L5 h
    show xJ _ _ _ _ _ _ _ _ _ 27 [(0, .ref e), (2, .int (oI r3))] [] _ _ _ _ _
    refine xr_aload_n (xd dX8_opens 15 rfl) 0 rfl ?_
    refine xr_getR (b := (e + 37)) 8 8 (xd dX8_opens 16 rfl) f8_45 (by decide) (by decide) (lt491 hn (ltS0 he)) (kdS_0 he) rfl (rS_0_8 hR he) ?_
    refine xr_iload_n (xd dX8_opens 17 rfl) 1 rfl ?_
    refine xr_dup2 (xd dX8_opens 18 rfl) rfl rfl ?_
    obtain ⟨o7, h⟩ := h
    refine zr_iaload (xd dX8_opens 19 rfl) (lt491 hn (ltS he (by decide))) (kdS_37 he) (lnS_37 he) (by decide) o7 ?_
    refine xr_iconst (v := oI 1) (xd dX8_opens 20 rfl) (by decide) ?_
    refine zr_iadd (xd dX8_opens 21 rfl) ?_
    obtain ⟨o8, h⟩ := h
    obtain ⟨J9, e_J9⟩ : ∃ z_ : zM, z_ = zs J4 (e + 37) r3 ((J4 (e + 37) r3) + 1) := ⟨_, rfl⟩
    replace h := h J9 e_J9
    refine zr_iastore e_J9 (xd dX8_opens 22 rfl) (lt491 hn (ltS he (by decide))) (kdS_37 he) (lnS_37 he) (by decide) o8 ?_
    refine xr_iload_n (xd dX8_opens 23 rfl) 1 rfl ?_
    refine xr_iconst (v := oI 4) (xd dX8_opens 24 rfl) (by decide) ?_
    obtain ⟨o10, h⟩ := h
    refine zr_icmp_ne 46 (xd dX8_opens 25 rfl) (by decide) o10 (by decide) (fun c11 => ?_) (fun c11 => ?_)
    · replace h := ifn h c11
      refine xr_iconst (v := oI 0) (xd dX8_opens 28 rfl) (by decide) ?_
      exact xr_zret (xd dX8_opens 29 rfl) rfl (zret_b (Or.inl rfl)) (by decide) (by decide) (fun _ => rfl) ⟨_, _, _, rfl, rfl, h⟩
    · replace h := ifp h c11
      refine xr_iconst (v := oI 1) (xd dX8_opens 26 rfl) (by decide) ?_
      refine xr_goto 47 (xd dX8_opens 27 rfl) (by decide) ?_
      exact xr_zret (xd dX8_opens 29 rfl) rfl (zret_b (Or.inr rfl)) (by decide) (by decide) (fun _ => rfl) ⟨_, _, _, rfl, rfl, h⟩)
  obtain ⟨o12, h⟩ := h
  refine zr_icmp_ne 27 (xd dX8_opens 6 rfl) (by decide) o12 (by decide) (fun c13 => ?_) (fun c13 => ?_)
  · replace h := ifn h c13
    refine xJ.pick (ls' := [(0, .ref e), (2, .int (oI r3))]) [0, 2] rfl ?_
    exact h
  · replace h := ifp h c13
    refine xr_aload_n (xd dX8_opens 7 rfl) 0 rfl ?_
    refine xr_getR (b := (e + 36)) 8 7 (xd dX8_opens 8 rfl) f8_41 (by decide) (by decide) (lt491 hn (ltS0 he)) (kdS_0 he) rfl (rS_0_7 hR he) ?_
    refine xr_aload_n (xd dX8_opens 9 rfl) 1 rfl ?_
    refine zr_getI 1 4 4 rfl (xd dX8_opens 10 rfl) f8_175 (by decide) (by decide) (lt491 hn (by decide)) kd_3 rfl ?_
    obtain ⟨o14, h⟩ := h
    have f15 := famS_36 hR he o14
    refine zr_aaload (b := (e + 172 + ((J1 3 4)).toNat)) 6 (xd dX8_opens 11 rfl) (lt491 hn (ltS he (by decide))) (by decide) (by decide) (kdS_36 he) (lnS_36 he) (by decide) o14 f15.1 ?_
    refine xr_aload_n (xd dX8_opens 12 rfl) 1 rfl ?_
    refine zr_getI 1 6 6 rfl (xd dX8_opens 13 rfl) f8_180 (by decide) (by decide) (lt491 hn (by decide)) kd_3 rfl ?_
    refine xr_callV mX10_mark 1 [.int (oI (J1 3 6))] (xd dX8_opens 14 rfl) l8_183 kX10_mark rfl (lt491 hn f15.2.1.2) f15.2.1.1 (by decide) rfl (by decide) (Nat.le_of_ble_eq_true rfl) (v_X10_mark hn hR f15.2.1 h) (by decide) (by decide) (fun r_ M_ h_ => ?_) (fun _ _ h_ => h_.elim)
    obtain ⟨J16, L17, rfl, rfl, h⟩ := h_
    show xJ _ _ _ _ _ _ _ _ _ 27 [(0, .ref e), (1, .ref 3), (2, .int (oI r3))] [] _ _ _ (zi J16) (li L17)
    refine xJ.pick (ls' := [(0, .ref e), (2, .int (oI r3))]) [0, 2] rfl ?_
    exact h
def w_X8_isSound (e : Nat) (J : zM) (L : yM) (Q : Int → zM → yM → Prop) : Prop := ∀ K4 : Int → zM → yM → Prop, (∀ (x1 : Int) (J2 : zM) (L3 : yM), (R32 x1 ∧ (if x1 = 0 then Q 0 J2 L3 else w_X11_epochOfKind (J2 3 9) J2 L3 (fun r9 J7 L8 => R32 (J2 3 4) ∧ R32 r9 ∧ (if (J2 3 4) = r9 then Q 1 J7 L8 else Q 0 J7 L8)))) → K4 x1 J2 L3) → R32 (J 3 9) ∧ (if (J 3 9) = 1 then ∀ K18 : Int → zM → yM → Prop, (∀ (x15 : Int) (J16 : zM) (L17 : yM), (K4 x15 J16 L17) → K18 x15 J16 L17) → ∀ K21 : zM → yM → Prop, (∀ (J19 : zM) (L20 : yM), (K18 0 J19 L20) → K21 J19 L20) → R32 (J e 0) ∧ (if (J e 0) = 1 then R32 (J 3 13) ∧ R32 (J 3 10) ∧ (if (J 3 13) = (J 3 10) then R32 (J 3 11) ∧ (if 1 < (J 3 11) then K21 J L else ∀ K31 : zM → yM → Prop, (∀ (J29 : zM) (L30 : yM), (K18 1 J29 L30) → K31 J29 L30) → (if (J 3 10) = 61 then K31 J L else (if (J 3 10) = 77 then K31 J L else K21 J L))) else K21 J L) else K21 J L) else (if (J 3 9) = 2 then ∀ K38 : Int → zM → yM → Prop, (∀ (x35 : Int) (J36 : zM) (L37 : yM), (K4 x35 J36 L37) → K38 x35 J36 L37) → ∀ K41 : zM → yM → Prop, (∀ (J39 : zM) (L40 : yM), (K38 0 J39 L40) → K41 J39 L40) → R32 (J e 0) ∧ (if (J e 0) = 0 then R32 (J 3 10) ∧ (if (J 3 10) = 20 then K38 1 J L else K41 J L) else K41 J L) else (if (J 3 9) = 6 then ∀ K50 : Int → zM → yM → Prop, (∀ (x47 : Int) (J48 : zM) (L49 : yM), (K4 x47 J48 L49) → K50 x47 J48 L49) → ∀ K53 : zM → yM → Prop, (∀ (J51 : zM) (L52 : yM), (K50 0 J51 L52) → K53 J51 L52) → R32 (J e 0) ∧ (if (J e 0) = 0 then R32 (J 3 10) ∧ (if (J 3 10) = 16 then K50 1 J L else K53 J L) else K53 J L) else (if (J 3 9) = 8 then ∀ K62 : Int → zM → yM → Prop, (∀ (x59 : Int) (J60 : zM) (L61 : yM), (K4 x59 J60 L61) → K62 x59 J60 L61) → ∀ K65 : zM → yM → Prop, (∀ (J63 : zM) (L64 : yM), (K62 0 J63 L64) → K65 J63 L64) → R32 (J e 0) ∧ (if (J e 0) = 0 then R32 (J 3 10) ∧ (if (J 3 10) < 2 then K65 J L else (if 152 < (J 3 10) then K65 J L else K62 1 J L)) else K65 J L) else (if (J 3 9) = 20 then ∀ K75 : Int → zM → yM → Prop, (∀ (x72 : Int) (J73 : zM) (L74 : yM), (K4 x72 J73 L74) → K75 x72 J73 L74) → R32 (J 3 10) ∧ (if (J 3 10) = 32 then K75 1 J L else K75 0 J L) else K4 0 J L)))))
set_option maxHeartbeats 4000000 in
set_option maxRecDepth 100000 in
theorem v_X8_isSound {b : Nat} {dC : Nat → ClassId} {dI : Nat → Nat → Nat} {cA : Nat → ClassId} {ts : Nat → Nat} {l : Launch} {n : Nat} {R : Nat → Nat → Option Nat} {al : Bool} (hn : 491 ≤ n) (hR : xRk R) {e : Nat} (he : iSide e) {J : zM} {L : yM} {Q : Int → zM → yM → Prop} (h : w_X8_isSound e J L Q) : xCn (xGm b dC dI cA ts) l mX8_isSound [.ref e, .ref 3] al (n, R, zi J, li L) 0 0 (zQ1 n R Q) (fun _ _ => False) := by
  refine xCn.ofJ (by decide) (Nat.le_of_ble_eq_true rfl) ?_
  show xJ _ _ _ _ _ _ _ _ _ 0 [(0, .ref e), (1, .ref 3)] [] _ _ _ _ _
  unfold w_X8_isSound at h
  refine xr_aload_n (xd dX8_isSound 0 rfl) 1 rfl ?_
  refine zr_getI 1 9 9 rfl (xd dX8_isSound 1 rfl) f8_281 (by decide) (by decide) (lt491 hn (by decide)) kd_3 rfl ?_
  replace h := h (fun (x1 : Int) (J2 : zM) (L3 : yM) => xJ (xGm b dC dI cA ts) l mX8_isSound 0 0 (zQ1 n R Q) (fun _ _ => False) 0 0 214 [(1, .ref 3), (2, .int (oI x1))] [] al n R (zi J2) (li L3)) (by
    intro x1 J2 L3 h
    show xJ _ _ _ _ _ _ _ _ _ 214 [(1, .ref 3), (2, .int (oI x1))] [] _ _ _ _ _
    refine xr_iload_n (xd dX8_isSound 80 rfl) 1 rfl ?_
    obtain ⟨o5, h⟩ := h
    refine zr_if_eq 236 (xd dX8_isSound 81 rfl) (by decide) o5 (fun c6 => ?_) (fun c6 => ?_)
    · replace h := ifp h c6
      refine xr_iconst (v := oI 0) (xd dX8_isSound 90 rfl) (by decide) ?_
      exact xr_zret (xd dX8_isSound 91 rfl) rfl (zret_b (Or.inl rfl)) (by decide) (by decide) (fun _ => rfl) ⟨_, _, _, rfl, rfl, h⟩
    · replace h := ifn h c6
      refine xr_aload_n (xd dX8_isSound 82 rfl) 0 rfl ?_
      refine zr_getI 1 4 4 rfl (xd dX8_isSound 83 rfl) f8_175 (by decide) (by decide) (lt491 hn (by decide)) kd_3 rfl ?_
      refine xr_aload_n (xd dX8_isSound 84 rfl) 0 rfl ?_
      refine zr_getI 1 9 9 rfl (xd dX8_isSound 85 rfl) f8_281 (by decide) (by decide) (lt491 hn (by decide)) kd_3 rfl ?_
      refine xr_callSN mX11_epochOfKind 1 [.int (oI (J2 3 9))] (xd dX8_isSound 86 rfl) n8_293 kX11_epochOfKind rfl (by decide) (Nat.le_of_ble_eq_true rfl) (v_X11_epochOfKind hn hR  h) (by decide) (by decide) (fun r_ M_ h_ => ?_)
      obtain ⟨r9, J7, L8, rfl, rfl, h⟩ := h_
      show xJ _ _ _ _ _ _ _ _ _ 229 [(1, .ref 3), (2, .int (oI x1))] [.int (oI r9), .int (oI (J2 3 4))] _ _ _ (zi J7) (li L8)
      obtain ⟨o10, h⟩ := h
      obtain ⟨o11, h⟩ := h
      refine zr_icmp_ne 236 (xd dX8_isSound 87 rfl) (by decide) o10 o11 (fun c12 => ?_) (fun c12 => ?_)
      · replace h := ifn h c12
        refine xr_iconst (v := oI 0) (xd dX8_isSound 90 rfl) (by decide) ?_
        exact xr_zret (xd dX8_isSound 91 rfl) rfl (zret_b (Or.inl rfl)) (by decide) (by decide) (fun _ => rfl) ⟨_, _, _, rfl, rfl, h⟩
      · replace h := ifp h c12
        refine xr_iconst (v := oI 1) (xd dX8_isSound 88 rfl) (by decide) ?_
        refine xr_goto 237 (xd dX8_isSound 89 rfl) (by decide) ?_
        exact xr_zret (xd dX8_isSound 91 rfl) rfl (zret_b (Or.inr rfl)) (by decide) (by decide) (fun _ => rfl) ⟨_, _, _, rfl, rfl, h⟩)
  obtain ⟨o13, h⟩ := h
  by_cases c14 : (J 3 9) = 1
  · replace h := ifp h c14
    refine zr_lookup (off := 52) 56 (xd dX8_isSound 2 rfl) (by decide) o13 (by rw [c14]; rfl) (by decide) ?_
    refine xr_aload_n (xd dX8_isSound 3 rfl) 0 rfl ?_
    refine zr_getI 8 0 0 rfl (xd dX8_isSound 4 rfl) f8_64 (by decide) (by decide) (lt491 hn (ltS0 he)) (kdS_0 he) rfl ?_
    refine xr_iconst (v := oI 1) (xd dX8_isSound 5 rfl) (by decide) ?_
    replace h := h (fun (x15 : Int) (J16 : zM) (L17 : yM) => xJ (xGm b dC dI cA ts) l mX8_isSound 0 0 (zQ1 n R Q) (fun _ _ => False) 0 0 106 [(1, .ref 3)] [.int (oI x15)] al n R (zi J16) (li L17)) (by
      intro x15 J16 L17 h
      show xJ _ _ _ _ _ _ _ _ _ 106 [(1, .ref 3)] [.int (oI x15)] _ _ _ _ _
      refine xr_istore_n [(1, .ref 3), (2, .int (oI x15))] (xd dX8_isSound 27 rfl) rfl (by decide) rfl ?_
      refine xr_goto 214 (xd dX8_isSound 28 rfl) (by decide) ?_
      exact h)
    replace h := h (fun (J19 : zM) (L20 : yM) => xJ (xGm b dC dI cA ts) l mX8_isSound 0 0 (zQ1 n R Q) (fun _ _ => False) 0 0 105 [(1, .ref 3)] [] al n R (zi J19) (li L20)) (by
      intro J19 L20 h
      show xJ _ _ _ _ _ _ _ _ _ 105 [(1, .ref 3)] [] _ _ _ _ _
      refine xr_iconst (v := oI 0) (xd dX8_isSound 26 rfl) (by decide) ?_
      exact h)
    obtain ⟨o22, h⟩ := h
    refine zr_icmp_ne 105 (xd dX8_isSound 6 rfl) (by decide) o22 (by decide) (fun c23 => ?_) (fun c23 => ?_)
    · replace h := ifn h c23
      refine xJ.pick (ls' := [(1, .ref 3)]) [1] rfl ?_
      exact h
    · replace h := ifp h c23
      refine xr_aload_n (xd dX8_isSound 7 rfl) 1 rfl ?_
      refine zr_getI 1 13 13 rfl (xd dX8_isSound 8 rfl) f8_284 (by decide) (by decide) (lt491 hn (by decide)) kd_3 rfl ?_
      refine xr_aload_n (xd dX8_isSound 9 rfl) 1 rfl ?_
      refine zr_getI 1 10 10 rfl (xd dX8_isSound 10 rfl) f8_287 (by decide) (by decide) (lt491 hn (by decide)) kd_3 rfl ?_
      obtain ⟨o24, h⟩ := h
      obtain ⟨o25, h⟩ := h
      refine zr_icmp_ne 105 (xd dX8_isSound 11 rfl) (by decide) o24 o25 (fun c26 => ?_) (fun c26 => ?_)
      · replace h := ifn h c26
        refine xJ.pick (ls' := [(1, .ref 3)]) [1] rfl ?_
        exact h
      · replace h := ifp h c26
        refine xr_aload_n (xd dX8_isSound 12 rfl) 1 rfl ?_
        refine zr_getI 1 11 11 rfl (xd dX8_isSound 13 rfl) f8_290 (by decide) (by decide) (lt491 hn (by decide)) kd_3 rfl ?_
        refine xr_iconst (v := oI 1) (xd dX8_isSound 14 rfl) (by decide) ?_
        obtain ⟨o27, h⟩ := h
        refine zr_icmp_gt 105 (xd dX8_isSound 15 rfl) (by decide) o27 (by decide) (fun c28 => ?_) (fun c28 => ?_)
        · replace h := ifp h c28
          refine xJ.pick (ls' := [(1, .ref 3)]) [1] rfl ?_
          exact h
        · replace h := ifn h c28
          refine xr_aload_n (xd dX8_isSound 16 rfl) 1 rfl ?_
          refine zr_getI 1 10 10 rfl (xd dX8_isSound 17 rfl) f8_287 (by decide) (by decide) (lt491 hn (by decide)) kd_3 rfl ?_
          refine xr_bipush (v := oI 61) (xd dX8_isSound 18 rfl) (by decide) ?_
          replace h := h (fun (J29 : zM) (L30 : yM) => xJ (xGm b dC dI cA ts) l mX8_isSound 0 0 (zQ1 n R Q) (fun _ _ => False) 0 0 101 [(1, .ref 3)] [] al n R (zi J29) (li L30)) (by
            intro J29 L30 h
            show xJ _ _ _ _ _ _ _ _ _ 101 [(1, .ref 3)] [] _ _ _ _ _
            refine xr_iconst (v := oI 1) (xd dX8_isSound 24 rfl) (by decide) ?_
            refine xr_goto 106 (xd dX8_isSound 25 rfl) (by decide) ?_
            exact h)
          refine zr_icmp_eq 101 (xd dX8_isSound 19 rfl) (by decide) o25 (by decide) (fun c32 => ?_) (fun c32 => ?_)
          · replace h := ifp h c32
            refine xJ.pick (ls' := [(1, .ref 3)]) [1] rfl ?_
            exact h
          · replace h := ifn h c32
            refine xr_aload_n (xd dX8_isSound 20 rfl) 1 rfl ?_
            refine zr_getI 1 10 10 rfl (xd dX8_isSound 21 rfl) f8_287 (by decide) (by decide) (lt491 hn (by decide)) kd_3 rfl ?_
            refine xr_bipush (v := oI 77) (xd dX8_isSound 22 rfl) (by decide) ?_
            refine zr_icmp_ne 105 (xd dX8_isSound 23 rfl) (by decide) o25 (by decide) (fun c33 => ?_) (fun c33 => ?_)
            · replace h := ifn h c33
              refine xJ.pick (ls' := [(1, .ref 3)]) [1] rfl ?_
              exact h
            · replace h := ifp h c33
              refine xJ.pick (ls' := [(1, .ref 3)]) [1] rfl ?_
              exact h
  replace h := ifn h c14
  by_cases c34 : (J 3 9) = 2
  · replace h := ifp h c34
    refine zr_lookup (off := 131) 135 (xd dX8_isSound 2 rfl) (by decide) o13 (by rw [c34]; rfl) (by decide) ?_
    refine xr_aload_n (xd dX8_isSound 41 rfl) 0 rfl ?_
    refine zr_getI 8 0 0 rfl (xd dX8_isSound 42 rfl) f8_64 (by decide) (by decide) (lt491 hn (ltS0 he)) (kdS_0 he) rfl ?_
    replace h := h (fun (x35 : Int) (J36 : zM) (L37 : yM) => xJ (xGm b dC dI cA ts) l mX8_isSound 0 0 (zQ1 n R Q) (fun _ _ => False) 0 0 156 [(1, .ref 3)] [.int (oI x35)] al n R (zi J36) (li L37)) (by
      intro x35 J36 L37 h
      show xJ _ _ _ _ _ _ _ _ _ 156 [(1, .ref 3)] [.int (oI x35)] _ _ _ _ _
      refine xr_istore_n [(1, .ref 3), (2, .int (oI x35))] (xd dX8_isSound 51 rfl) rfl (by decide) rfl ?_
      refine xr_goto 214 (xd dX8_isSound 52 rfl) (by decide) ?_
      exact h)
    replace h := h (fun (J39 : zM) (L40 : yM) => xJ (xGm b dC dI cA ts) l mX8_isSound 0 0 (zQ1 n R Q) (fun _ _ => False) 0 0 155 [(1, .ref 3)] [] al n R (zi J39) (li L40)) (by
      intro J39 L40 h
      show xJ _ _ _ _ _ _ _ _ _ 155 [(1, .ref 3)] [] _ _ _ _ _
      refine xr_iconst (v := oI 0) (xd dX8_isSound 50 rfl) (by decide) ?_
      exact h)
    obtain ⟨o42, h⟩ := h
    refine zr_if_ne 155 (xd dX8_isSound 43 rfl) (by decide) o42 (fun c43 => ?_) (fun c43 => ?_)
    · replace h := ifn h c43
      refine xJ.pick (ls' := [(1, .ref 3)]) [1] rfl ?_
      exact h
    · replace h := ifp h c43
      refine xr_aload_n (xd dX8_isSound 44 rfl) 1 rfl ?_
      refine zr_getI 1 10 10 rfl (xd dX8_isSound 45 rfl) f8_287 (by decide) (by decide) (lt491 hn (by decide)) kd_3 rfl ?_
      refine xr_bipush (v := oI 20) (xd dX8_isSound 46 rfl) (by decide) ?_
      obtain ⟨o44, h⟩ := h
      refine zr_icmp_ne 155 (xd dX8_isSound 47 rfl) (by decide) o44 (by decide) (fun c45 => ?_) (fun c45 => ?_)
      · replace h := ifn h c45
        refine xJ.pick (ls' := [(1, .ref 3)]) [1] rfl ?_
        exact h
      · replace h := ifp h c45
        refine xr_iconst (v := oI 1) (xd dX8_isSound 48 rfl) (by decide) ?_
        refine xr_goto 156 (xd dX8_isSound 49 rfl) (by decide) ?_
        refine xJ.pick (ls' := [(1, .ref 3)]) [1] rfl ?_
        exact h
  replace h := ifn h c34
  by_cases c46 : (J 3 9) = 6
  · replace h := ifp h c46
    refine zr_lookup (off := 106) 110 (xd dX8_isSound 2 rfl) (by decide) o13 (by rw [c46]; rfl) (by decide) ?_
    refine xr_aload_n (xd dX8_isSound 29 rfl) 0 rfl ?_
    refine zr_getI 8 0 0 rfl (xd dX8_isSound 30 rfl) f8_64 (by decide) (by decide) (lt491 hn (ltS0 he)) (kdS_0 he) rfl ?_
    replace h := h (fun (x47 : Int) (J48 : zM) (L49 : yM) => xJ (xGm b dC dI cA ts) l mX8_isSound 0 0 (zQ1 n R Q) (fun _ _ => False) 0 0 131 [(1, .ref 3)] [.int (oI x47)] al n R (zi J48) (li L49)) (by
      intro x47 J48 L49 h
      show xJ _ _ _ _ _ _ _ _ _ 131 [(1, .ref 3)] [.int (oI x47)] _ _ _ _ _
      refine xr_istore_n [(1, .ref 3), (2, .int (oI x47))] (xd dX8_isSound 39 rfl) rfl (by decide) rfl ?_
      refine xr_goto 214 (xd dX8_isSound 40 rfl) (by decide) ?_
      exact h)
    replace h := h (fun (J51 : zM) (L52 : yM) => xJ (xGm b dC dI cA ts) l mX8_isSound 0 0 (zQ1 n R Q) (fun _ _ => False) 0 0 130 [(1, .ref 3)] [] al n R (zi J51) (li L52)) (by
      intro J51 L52 h
      show xJ _ _ _ _ _ _ _ _ _ 130 [(1, .ref 3)] [] _ _ _ _ _
      refine xr_iconst (v := oI 0) (xd dX8_isSound 38 rfl) (by decide) ?_
      exact h)
    obtain ⟨o54, h⟩ := h
    refine zr_if_ne 130 (xd dX8_isSound 31 rfl) (by decide) o54 (fun c55 => ?_) (fun c55 => ?_)
    · replace h := ifn h c55
      refine xJ.pick (ls' := [(1, .ref 3)]) [1] rfl ?_
      exact h
    · replace h := ifp h c55
      refine xr_aload_n (xd dX8_isSound 32 rfl) 1 rfl ?_
      refine zr_getI 1 10 10 rfl (xd dX8_isSound 33 rfl) f8_287 (by decide) (by decide) (lt491 hn (by decide)) kd_3 rfl ?_
      refine xr_bipush (v := oI 16) (xd dX8_isSound 34 rfl) (by decide) ?_
      obtain ⟨o56, h⟩ := h
      refine zr_icmp_ne 130 (xd dX8_isSound 35 rfl) (by decide) o56 (by decide) (fun c57 => ?_) (fun c57 => ?_)
      · replace h := ifn h c57
        refine xJ.pick (ls' := [(1, .ref 3)]) [1] rfl ?_
        exact h
      · replace h := ifp h c57
        refine xr_iconst (v := oI 1) (xd dX8_isSound 36 rfl) (by decide) ?_
        refine xr_goto 131 (xd dX8_isSound 37 rfl) (by decide) ?_
        refine xJ.pick (ls' := [(1, .ref 3)]) [1] rfl ?_
        exact h
  replace h := ifn h c46
  by_cases c58 : (J 3 9) = 8
  · replace h := ifp h c58
    refine zr_lookup (off := 156) 160 (xd dX8_isSound 2 rfl) (by decide) o13 (by rw [c58]; rfl) (by decide) ?_
    refine xr_aload_n (xd dX8_isSound 53 rfl) 0 rfl ?_
    refine zr_getI 8 0 0 rfl (xd dX8_isSound 54 rfl) f8_64 (by decide) (by decide) (lt491 hn (ltS0 he)) (kdS_0 he) rfl ?_
    replace h := h (fun (x59 : Int) (J60 : zM) (L61 : yM) => xJ (xGm b dC dI cA ts) l mX8_isSound 0 0 (zQ1 n R Q) (fun _ _ => False) 0 0 190 [(1, .ref 3)] [.int (oI x59)] al n R (zi J60) (li L61)) (by
      intro x59 J60 L61 h
      show xJ _ _ _ _ _ _ _ _ _ 190 [(1, .ref 3)] [.int (oI x59)] _ _ _ _ _
      refine xr_istore_n [(1, .ref 3), (2, .int (oI x59))] (xd dX8_isSound 67 rfl) rfl (by decide) rfl ?_
      refine xr_goto 214 (xd dX8_isSound 68 rfl) (by decide) ?_
      exact h)
    replace h := h (fun (J63 : zM) (L64 : yM) => xJ (xGm b dC dI cA ts) l mX8_isSound 0 0 (zQ1 n R Q) (fun _ _ => False) 0 0 189 [(1, .ref 3)] [] al n R (zi J63) (li L64)) (by
      intro J63 L64 h
      show xJ _ _ _ _ _ _ _ _ _ 189 [(1, .ref 3)] [] _ _ _ _ _
      refine xr_iconst (v := oI 0) (xd dX8_isSound 66 rfl) (by decide) ?_
      exact h)
    obtain ⟨o66, h⟩ := h
    refine zr_if_ne 189 (xd dX8_isSound 55 rfl) (by decide) o66 (fun c67 => ?_) (fun c67 => ?_)
    · replace h := ifn h c67
      refine xJ.pick (ls' := [(1, .ref 3)]) [1] rfl ?_
      exact h
    · replace h := ifp h c67
      refine xr_aload_n (xd dX8_isSound 56 rfl) 1 rfl ?_
      refine zr_getI 1 10 10 rfl (xd dX8_isSound 57 rfl) f8_287 (by decide) (by decide) (lt491 hn (by decide)) kd_3 rfl ?_
      refine xr_iconst (v := oI 2) (xd dX8_isSound 58 rfl) (by decide) ?_
      obtain ⟨o68, h⟩ := h
      refine zr_icmp_lt 189 (xd dX8_isSound 59 rfl) (by decide) o68 (by decide) (fun c69 => ?_) (fun c69 => ?_)
      · replace h := ifp h c69
        refine xJ.pick (ls' := [(1, .ref 3)]) [1] rfl ?_
        exact h
      · replace h := ifn h c69
        refine xr_aload_n (xd dX8_isSound 60 rfl) 1 rfl ?_
        refine zr_getI 1 10 10 rfl (xd dX8_isSound 61 rfl) f8_287 (by decide) (by decide) (lt491 hn (by decide)) kd_3 rfl ?_
        refine xr_sipush (v := oI 152) (xd dX8_isSound 62 rfl) (by decide) ?_
        refine zr_icmp_gt 189 (xd dX8_isSound 63 rfl) (by decide) o68 (by decide) (fun c70 => ?_) (fun c70 => ?_)
        · replace h := ifp h c70
          refine xJ.pick (ls' := [(1, .ref 3)]) [1] rfl ?_
          exact h
        · replace h := ifn h c70
          refine xr_iconst (v := oI 1) (xd dX8_isSound 64 rfl) (by decide) ?_
          refine xr_goto 190 (xd dX8_isSound 65 rfl) (by decide) ?_
          refine xJ.pick (ls' := [(1, .ref 3)]) [1] rfl ?_
          exact h
  replace h := ifn h c58
  by_cases c71 : (J 3 9) = 20
  · replace h := ifp h c71
    refine zr_lookup (off := 190) 194 (xd dX8_isSound 2 rfl) (by decide) o13 (by rw [c71]; rfl) (by decide) ?_
    refine xr_aload_n (xd dX8_isSound 69 rfl) 1 rfl ?_
    refine zr_getI 1 10 10 rfl (xd dX8_isSound 70 rfl) f8_287 (by decide) (by decide) (lt491 hn (by decide)) kd_3 rfl ?_
    refine xr_bipush (v := oI 32) (xd dX8_isSound 71 rfl) (by decide) ?_
    replace h := h (fun (x72 : Int) (J73 : zM) (L74 : yM) => xJ (xGm b dC dI cA ts) l mX8_isSound 0 0 (zQ1 n R Q) (fun _ _ => False) 0 0 208 [(1, .ref 3)] [.int (oI x72)] al n R (zi J73) (li L74)) (by
      intro x72 J73 L74 h
      show xJ _ _ _ _ _ _ _ _ _ 208 [(1, .ref 3)] [.int (oI x72)] _ _ _ _ _
      refine xr_istore_n [(1, .ref 3), (2, .int (oI x72))] (xd dX8_isSound 76 rfl) rfl (by decide) rfl ?_
      refine xr_goto 214 (xd dX8_isSound 77 rfl) (by decide) ?_
      exact h)
    obtain ⟨o76, h⟩ := h
    refine zr_icmp_ne 207 (xd dX8_isSound 72 rfl) (by decide) o76 (by decide) (fun c77 => ?_) (fun c77 => ?_)
    · replace h := ifn h c77
      refine xr_iconst (v := oI 0) (xd dX8_isSound 75 rfl) (by decide) ?_
      refine xJ.pick (ls' := [(1, .ref 3)]) [1] rfl ?_
      exact h
    · replace h := ifp h c77
      refine xr_iconst (v := oI 1) (xd dX8_isSound 73 rfl) (by decide) ?_
      refine xr_goto 208 (xd dX8_isSound 74 rfl) (by decide) ?_
      refine xJ.pick (ls' := [(1, .ref 3)]) [1] rfl ?_
      exact h
  replace h := ifn h c71
  refine zr_lookup (off := 208) 212 (xd dX8_isSound 2 rfl) (by decide) o13 (lookD (by simp; omega)) (by decide) ?_
  refine xr_iconst (v := oI 0) (xd dX8_isSound 78 rfl) (by decide) ?_
  refine xr_istore_n [(0, .ref e), (1, .ref 3), (2, .int (oI 0))] (xd dX8_isSound 79 rfl) rfl (by decide) rfl ?_
  refine xJ.pick (ls' := [(1, .ref 3), (2, .int (oI 0))]) [1, 2] rfl ?_
  exact h
def w_X8_isToKeep (e : Nat) (J : zM) (L : yM) (Q : Int → zM → yM → Prop) : Prop := R32 (J e 12) ∧ (if (J e 12) = 1 then R32 (J 3 11) ∧ R32 (J e 14) ∧ (if (J 3 11) < (J e 14) then Q 0 J L else R32 ((J e 14) + 5) ∧ (if (J 3 11) < ((J e 14) + 5) then Q 1 J L else Q 0 J L)) else Q 0 J L)
set_option maxHeartbeats 4000000 in
set_option maxRecDepth 100000 in
theorem v_X8_isToKeep {b : Nat} {dC : Nat → ClassId} {dI : Nat → Nat → Nat} {cA : Nat → ClassId} {ts : Nat → Nat} {l : Launch} {n : Nat} {R : Nat → Nat → Option Nat} {al : Bool} (hn : 491 ≤ n) (hR : xRk R) {e : Nat} (he : iSide e) {J : zM} {L : yM} {Q : Int → zM → yM → Prop} (h : w_X8_isToKeep e J L Q) : xCn (xGm b dC dI cA ts) l mX8_isToKeep [.ref e, .ref 3] al (n, R, zi J, li L) 0 0 (zQ1 n R Q) (fun _ _ => False) := by
  refine xCn.ofJ (by decide) (Nat.le_of_ble_eq_true rfl) ?_
  show xJ _ _ _ _ _ _ _ _ _ 0 [(0, .ref e), (1, .ref 3)] [] _ _ _ _ _
  unfold w_X8_isToKeep at h
  refine xr_aload_n (xd dX8_isToKeep 0 rfl) 0 rfl ?_
  refine zr_getI 8 12 12 rfl (xd dX8_isToKeep 1 rfl) f8_103 (by decide) (by decide) (lt491 hn (ltS0 he)) (kdS_0 he) rfl ?_
  refine xr_iconst (v := oI 1) (xd dX8_isToKeep 2 rfl) (by decide) ?_
  obtain ⟨o1, h⟩ := h
  refine zr_icmp_ne 36 (xd dX8_isToKeep 3 rfl) (by decide) o1 (by decide) (fun c2 => ?_) (fun c2 => ?_)
  · replace h := ifn h c2
    refine xr_iconst (v := oI 0) (xd dX8_isToKeep 18 rfl) (by decide) ?_
    exact xr_zret (xd dX8_isToKeep 19 rfl) rfl (zret_b (Or.inl rfl)) (by decide) (by decide) (fun _ => rfl) ⟨_, _, _, rfl, rfl, h⟩
  · replace h := ifp h c2
    refine xr_aload_n (xd dX8_isToKeep 4 rfl) 1 rfl ?_
    refine zr_getI 1 11 11 rfl (xd dX8_isToKeep 5 rfl) f8_290 (by decide) (by decide) (lt491 hn (by decide)) kd_3 rfl ?_
    refine xr_aload_n (xd dX8_isToKeep 6 rfl) 0 rfl ?_
    refine zr_getI 8 14 14 rfl (xd dX8_isToKeep 7 rfl) f8_109 (by decide) (by decide) (lt491 hn (ltS0 he)) (kdS_0 he) rfl ?_
    obtain ⟨o3, h⟩ := h
    obtain ⟨o4, h⟩ := h
    refine zr_icmp_lt 36 (xd dX8_isToKeep 8 rfl) (by decide) o3 o4 (fun c5 => ?_) (fun c5 => ?_)
    · replace h := ifp h c5
      refine xr_iconst (v := oI 0) (xd dX8_isToKeep 18 rfl) (by decide) ?_
      exact xr_zret (xd dX8_isToKeep 19 rfl) rfl (zret_b (Or.inl rfl)) (by decide) (by decide) (fun _ => rfl) ⟨_, _, _, rfl, rfl, h⟩
    · replace h := ifn h c5
      refine xr_aload_n (xd dX8_isToKeep 9 rfl) 1 rfl ?_
      refine zr_getI 1 11 11 rfl (xd dX8_isToKeep 10 rfl) f8_290 (by decide) (by decide) (lt491 hn (by decide)) kd_3 rfl ?_
      refine xr_aload_n (xd dX8_isToKeep 11 rfl) 0 rfl ?_
      refine zr_getI 8 14 14 rfl (xd dX8_isToKeep 12 rfl) f8_109 (by decide) (by decide) (lt491 hn (ltS0 he)) (kdS_0 he) rfl ?_
      refine xr_iconst (v := oI 5) (xd dX8_isToKeep 13 rfl) (by decide) ?_
      refine zr_iadd (xd dX8_isToKeep 14 rfl) ?_
      obtain ⟨o6, h⟩ := h
      refine zr_icmp_ge 36 (xd dX8_isToKeep 15 rfl) (by decide) o3 o6 (fun c7 => ?_) (fun c7 => ?_)
      · replace h := ifn h c7
        refine xr_iconst (v := oI 0) (xd dX8_isToKeep 18 rfl) (by decide) ?_
        exact xr_zret (xd dX8_isToKeep 19 rfl) rfl (zret_b (Or.inl rfl)) (by decide) (by decide) (fun _ => rfl) ⟨_, _, _, rfl, rfl, h⟩
      · replace h := ifp h c7
        refine xr_iconst (v := oI 1) (xd dX8_isToKeep 16 rfl) (by decide) ?_
        refine xr_goto 37 (xd dX8_isToKeep 17 rfl) (by decide) ?_
        exact xr_zret (xd dX8_isToKeep 19 rfl) rfl (zret_b (Or.inr rfl)) (by decide) (by decide) (fun _ => rfl) ⟨_, _, _, rfl, rfl, h⟩
def w_X8_agreesWithKept (e : Nat) (J : zM) (L : yM) (Q : Int → zM → yM → Prop) : Prop := w_X3_agrees e (J 3 11) (J 3 9) (J 3 10) J L (fun r3 J1 L2 => B01 r3 ∧ Q r3 J1 L2)
set_option maxHeartbeats 4000000 in
set_option maxRecDepth 100000 in
theorem v_X8_agreesWithKept {b : Nat} {dC : Nat → ClassId} {dI : Nat → Nat → Nat} {cA : Nat → ClassId} {ts : Nat → Nat} {l : Launch} {n : Nat} {R : Nat → Nat → Option Nat} {al : Bool} (hn : 491 ≤ n) (hR : xRk R) {e : Nat} (he : iSide e) {J : zM} {L : yM} {Q : Int → zM → yM → Prop} (h : w_X8_agreesWithKept e J L Q) : xCn (xGm b dC dI cA ts) l mX8_agreesWithKept [.ref e, .ref 3] al (n, R, zi J, li L) 0 0 (zQ1 n R Q) (fun _ _ => False) := by
  refine xCn.ofJ (by decide) (Nat.le_of_ble_eq_true rfl) ?_
  show xJ _ _ _ _ _ _ _ _ _ 0 [(0, .ref e), (1, .ref 3)] [] _ _ _ _ _
  unfold w_X8_agreesWithKept at h
  refine xr_aload_n (xd dX8_agreesWithKept 0 rfl) 0 rfl ?_
  refine xr_getR (b := (e + 17)) 8 5 (xd dX8_agreesWithKept 1 rfl) f8_28 (by decide) (by decide) (lt491 hn (ltS0 he)) (kdS_0 he) rfl (rS_0_5 hR he) ?_
  refine xr_aload_n (xd dX8_agreesWithKept 2 rfl) 1 rfl ?_
  refine zr_getI 1 11 11 rfl (xd dX8_agreesWithKept 3 rfl) f8_290 (by decide) (by decide) (lt491 hn (by decide)) kd_3 rfl ?_
  refine xr_aload_n (xd dX8_agreesWithKept 4 rfl) 1 rfl ?_
  refine zr_getI 1 9 9 rfl (xd dX8_agreesWithKept 5 rfl) f8_281 (by decide) (by decide) (lt491 hn (by decide)) kd_3 rfl ?_
  refine xr_aload_n (xd dX8_agreesWithKept 6 rfl) 1 rfl ?_
  refine zr_getI 1 10 10 rfl (xd dX8_agreesWithKept 7 rfl) f8_287 (by decide) (by decide) (lt491 hn (by decide)) kd_3 rfl ?_
  refine xr_callV mX3_agrees 3 [.int (oI (J 3 11)), .int (oI (J 3 9)), .int (oI (J 3 10))] (xd dX8_agreesWithKept 8 rfl) l8_296 kX3_agrees rfl (lt491 hn (ltS he (by decide))) (kdS_17 he) (by decide) rfl (by decide) (Nat.le_of_ble_eq_true rfl) (v_X3_agrees hn hR he h) (by decide) (by decide) (fun r_ M_ h_ => ?_) (fun _ _ h_ => h_.elim)
  obtain ⟨r3, J1, L2, rfl, rfl, h⟩ := h_
  show xJ _ _ _ _ _ _ _ _ _ 19 [(0, .ref e), (1, .ref 3)] [.int (oI r3)] _ _ _ (zi J1) (li L2)
  obtain ⟨o4, h⟩ := h
  exact xr_zret (xd dX8_agreesWithKept 9 rfl) rfl (zret_b o4) (by decide) (by decide) (fun _ => rfl) ⟨_, _, _, rfl, rfl, h⟩
def w_X8_hearFragment (e : Nat) (J : zM) (L : yM) (Q : Int → zM → yM → Prop) : Prop := R32 (J e 12) ∧ (if (J e 12) = 0 then R32 (J e 0) ∧ (if (J e 0) = 1 then Q 1 J L else Q 0 J L) else w_X0_add e (J 3 4) (J 3 6) (J e 19) J L (fun J3 L4 => w_X8_isToKeep e J3 L4 (fun r7 J5 L6 => ∀ K10 : zM → yM → Prop, (∀ (J8 : zM) (L9 : yM), (R32 (J8 3 11) ∧ R32 (J8 e 14) ∧ (if (J8 3 11) < (J8 e 14) then ∀ K16 : zM → yM → Prop, (∀ (J14 : zM) (L15 : yM), (∀ K20 : Int → zM → yM → Prop, (∀ (x17 : Int) (J18 : zM) (L19 : yM), (∀ K24 : Int → zM → yM → Prop, (∀ (x21 : Int) (J22 : zM) (L23 : yM), (R32 x17 ∧ (if x17 = 0 then Q 0 J22 L23 else R32 x21 ∧ (if x21 = 0 then Q 0 J22 L23 else Q 2 J22 L23))) → K24 x21 J22 L23) → ∀ K31 : zM → yM → Prop, (∀ (J29 : zM) (L30 : yM), (K24 0 J29 L30) → K31 J29 L30) → R32 (J18 (e + 8) 13) ∧ (if (J18 (e + 8) 13) = 0 then K31 J18 L19 else R32 (J18 (e + 8) 12) ∧ (if (J18 (e + 8) 12) < 8 then R32 (J18 e 19) ∧ R32 (J18 (e + 8) 11) ∧ (if (J18 (e + 8) 11) < (J18 e 19) then K24 1 J18 L19 else K31 J18 L19) else K31 J18 L19))) → K20 x17 J18 L19) → R32 (J14 e 0) ∧ (if (J14 e 0) = 1 then R32 (J14 3 9) ∧ (if (J14 3 9) = 1 then K20 1 J14 L15 else K20 0 J14 L15) else w_X8_isOpen e J14 L15 (fun r43 J41 L42 => K20 r43 J41 L42))) → K16 J14 L15) → R32 (J8 e 0) ∧ (if (J8 e 0) = 1 then w_X8_isOpen e J8 L9 (fun r50 J48 L49 => R32 r50 ∧ (if r50 = 0 then K16 J48 L49 else Q 3 J48 L49)) else K16 J8 L9) else Q 0 J8 L9)) → K10 J8 L9) → R32 r7 ∧ (if r7 = 0 then K10 J5 L6 else w_X3_keep e J5 L6 (fun J55 L56 => K10 J55 L56)))))
set_option maxHeartbeats 4000000 in
set_option maxRecDepth 100000 in
theorem v_X8_hearFragment {b : Nat} {dC : Nat → ClassId} {dI : Nat → Nat → Nat} {cA : Nat → ClassId} {ts : Nat → Nat} {l : Launch} {n : Nat} {R : Nat → Nat → Option Nat} {al : Bool} (hn : 491 ≤ n) (hR : xRk R) {e : Nat} (he : iSide e) {J : zM} {L : yM} {Q : Int → zM → yM → Prop} (h : w_X8_hearFragment e J L Q) : xCn (xGm b dC dI cA ts) l mX8_hearFragment [.ref e, .ref 3] al (n, R, zi J, li L) 0 0 (zQ1 n R Q) (fun _ _ => False) := by
  refine xCn.ofJ (by decide) (Nat.le_of_ble_eq_true rfl) ?_
  show xJ _ _ _ _ _ _ _ _ _ 0 [(0, .ref e), (1, .ref 3)] [] _ _ _ _ _
  unfold w_X8_hearFragment at h
  refine xr_aload_n (xd dX8_hearFragment 0 rfl) 0 rfl ?_
  refine zr_getI 8 12 12 rfl (xd dX8_hearFragment 1 rfl) f8_103 (by decide) (by decide) (lt491 hn (ltS0 he)) (kdS_0 he) rfl ?_
  obtain ⟨o1, h⟩ := h
  refine zr_if_ne 21 (xd dX8_hearFragment 2 rfl) (by decide) o1 (fun c2 => ?_) (fun c2 => ?_)
  · replace h := ifn h c2
    refine xr_aload_n (xd dX8_hearFragment 11 rfl) 0 rfl ?_
    refine xr_getR (b := (e + 33)) 8 6 (xd dX8_hearFragment 12 rfl) f8_35 (by decide) (by decide) (lt491 hn (ltS0 he)) (kdS_0 he) rfl (rS_0_6 hR he) ?_
    refine xr_aload_n (xd dX8_hearFragment 13 rfl) 1 rfl ?_
    refine zr_getI 1 4 4 rfl (xd dX8_hearFragment 14 rfl) f8_175 (by decide) (by decide) (lt491 hn (by decide)) kd_3 rfl ?_
    refine xr_aload_n (xd dX8_hearFragment 15 rfl) 1 rfl ?_
    refine zr_getI 1 6 6 rfl (xd dX8_hearFragment 16 rfl) f8_180 (by decide) (by decide) (lt491 hn (by decide)) kd_3 rfl ?_
    refine xr_aload_n (xd dX8_hearFragment 17 rfl) 0 rfl ?_
    refine zr_getI 8 19 19 rfl (xd dX8_hearFragment 18 rfl) f8_124 (by decide) (by decide) (lt491 hn (ltS0 he)) (kdS_0 he) rfl ?_
    refine xr_callV mX0_add 3 [.int (oI (J 3 4)), .int (oI (J 3 6)), .int (oI (J e 19))] (xd dX8_hearFragment 19 rfl) l8_300 kX0_add rfl (lt491 hn (ltS he (by decide))) (kdS_33 he) (by decide) rfl (by decide) (Nat.le_of_ble_eq_true rfl) (v_X0_add hn hR he h) (by decide) (by decide) (fun r_ M_ h_ => ?_) (fun _ _ h_ => h_.elim)
    obtain ⟨J3, L4, rfl, rfl, h⟩ := h_
    show xJ _ _ _ _ _ _ _ _ _ 40 [(0, .ref e), (1, .ref 3)] [] _ _ _ (zi J3) (li L4)
    refine xr_aload_n (xd dX8_hearFragment 20 rfl) 0 rfl ?_
    refine xr_aload_n (xd dX8_hearFragment 21 rfl) 1 rfl ?_
    refine xr_callV mX8_isToKeep 1 [.ref 3] (xd dX8_hearFragment 22 rfl) l8_245 kX8_isToKeep rfl (lt491 hn (ltS0 he)) (kdS_0 he) (by decide) rfl (by decide) (Nat.le_of_ble_eq_true rfl) (v_X8_isToKeep hn hR he h) (by decide) (by decide) (fun r_ M_ h_ => ?_) (fun _ _ h_ => h_.elim)
    obtain ⟨r7, J5, L6, rfl, rfl, h⟩ := h_
    show xJ _ _ _ _ _ _ _ _ _ 45 [(0, .ref e), (1, .ref 3)] [.int (oI r7)] _ _ _ (zi J5) (li L6)
    replace h := h (fun (J8 : zM) (L9 : yM) => xJ (xGm b dC dI cA ts) l mX8_hearFragment 0 0 (zQ1 n R Q) (fun _ _ => False) 0 0 56 [(0, .ref e), (1, .ref 3)] [] al n R (zi J8) (li L9)) (by
      intro J8 L9 h
      show xJ _ _ _ _ _ _ _ _ _ 56 [(0, .ref e), (1, .ref 3)] [] _ _ _ _ _
      refine xr_aload_n (xd dX8_hearFragment 28 rfl) 1 rfl ?_
      refine zr_getI 1 11 11 rfl (xd dX8_hearFragment 29 rfl) f8_290 (by decide) (by decide) (lt491 hn (by decide)) kd_3 rfl ?_
      refine xr_aload_n (xd dX8_hearFragment 30 rfl) 0 rfl ?_
      refine zr_getI 8 14 14 rfl (xd dX8_hearFragment 31 rfl) f8_109 (by decide) (by decide) (lt491 hn (ltS0 he)) (kdS_0 he) rfl ?_
      obtain ⟨o11, h⟩ := h
      obtain ⟨o12, h⟩ := h
      refine zr_icmp_lt 69 (xd dX8_hearFragment 32 rfl) (by decide) o11 o12 (fun c13 => ?_) (fun c13 => ?_)
      · replace h := ifp h c13
        refine xr_aload_n (xd dX8_hearFragment 35 rfl) 0 rfl ?_
        refine zr_getI 8 0 0 rfl (xd dX8_hearFragment 36 rfl) f8_64 (by decide) (by decide) (lt491 hn (ltS0 he)) (kdS_0 he) rfl ?_
        refine xr_iconst (v := oI 1) (xd dX8_hearFragment 37 rfl) (by decide) ?_
        replace h := h (fun (J14 : zM) (L15 : yM) => xJ (xGm b dC dI cA ts) l mX8_hearFragment 0 0 (zQ1 n R Q) (fun _ _ => False) 0 0 86 [(0, .ref e), (1, .ref 3)] [] al n R (zi J14) (li L15)) (by
          intro J14 L15 h
          show xJ _ _ _ _ _ _ _ _ _ 86 [(0, .ref e), (1, .ref 3)] [] _ _ _ _ _
          refine xr_aload_n (xd dX8_hearFragment 44 rfl) 0 rfl ?_
          refine zr_getI 8 0 0 rfl (xd dX8_hearFragment 45 rfl) f8_64 (by decide) (by decide) (lt491 hn (ltS0 he)) (kdS_0 he) rfl ?_
          refine xr_iconst (v := oI 1) (xd dX8_hearFragment 46 rfl) (by decide) ?_
          replace h := h (fun (x17 : Int) (J18 : zM) (L19 : yM) => xJ (xGm b dC dI cA ts) l mX8_hearFragment 0 0 (zQ1 n R Q) (fun _ _ => False) 0 0 114 [(0, .ref e)] [.int (oI x17)] al n R (zi J18) (li L19)) (by
            intro x17 J18 L19 h
            show xJ _ _ _ _ _ _ _ _ _ 114 [(0, .ref e)] [.int (oI x17)] _ _ _ _ _
            refine xr_istore_n [(0, .ref e), (2, .int (oI x17))] (xd dX8_hearFragment 58 rfl) rfl (by decide) rfl ?_
            refine xr_aload_n (xd dX8_hearFragment 59 rfl) 0 rfl ?_
            refine xr_getR (b := (e + 8)) 8 4 (xd dX8_hearFragment 60 rfl) f8_21 (by decide) (by decide) (lt491 hn (ltS0 he)) (kdS_0 he) rfl (rS_0_4 hR he) ?_
            refine zr_getI 2 13 13 rfl (xd dX8_hearFragment 61 rfl) f8_130 (by decide) (by decide) (lt491 hn (ltS he (by decide))) (kdS_8 he) rfl ?_
            replace h := h (fun (x21 : Int) (J22 : zM) (L23 : yM) => xJ (xGm b dC dI cA ts) l mX8_hearFragment 0 0 (zQ1 n R Q) (fun _ _ => False) 0 0 156 [(2, .int (oI x17))] [.int (oI x21)] al n R (zi J22) (li L23)) (by
              intro x21 J22 L23 h
              show xJ _ _ _ _ _ _ _ _ _ 156 [(2, .int (oI x17))] [.int (oI x21)] _ _ _ _ _
              refine xr_istore_n [(2, .int (oI x17)), (3, .int (oI x21))] (xd dX8_hearFragment 77 rfl) rfl (by decide) rfl ?_
              refine xr_iload_n (xd dX8_hearFragment 78 rfl) 0 rfl ?_
              obtain ⟨o25, h⟩ := h
              refine zr_if_eq 169 (xd dX8_hearFragment 79 rfl) (by decide) o25 (fun c26 => ?_) (fun c26 => ?_)
              · replace h := ifp h c26
                refine xr_iconst (v := oI 0) (xd dX8_hearFragment 84 rfl) (by decide) ?_
                exact xr_iret (xd dX8_hearFragment 85 rfl) rfl (by decide) (by decide) (fun _ => rfl) ⟨_, _, _, rfl, rfl, h⟩
              · replace h := ifn h c26
                refine xr_iload_n (xd dX8_hearFragment 80 rfl) 1 rfl ?_
                obtain ⟨o27, h⟩ := h
                refine zr_if_eq 169 (xd dX8_hearFragment 81 rfl) (by decide) o27 (fun c28 => ?_) (fun c28 => ?_)
                · replace h := ifp h c28
                  refine xr_iconst (v := oI 0) (xd dX8_hearFragment 84 rfl) (by decide) ?_
                  exact xr_iret (xd dX8_hearFragment 85 rfl) rfl (by decide) (by decide) (fun _ => rfl) ⟨_, _, _, rfl, rfl, h⟩
                · replace h := ifn h c28
                  refine xr_iconst (v := oI 2) (xd dX8_hearFragment 82 rfl) (by decide) ?_
                  refine xr_goto 170 (xd dX8_hearFragment 83 rfl) (by decide) ?_
                  exact xr_iret (xd dX8_hearFragment 85 rfl) rfl (by decide) (by decide) (fun _ => rfl) ⟨_, _, _, rfl, rfl, h⟩)
            replace h := h (fun (J29 : zM) (L30 : yM) => xJ (xGm b dC dI cA ts) l mX8_hearFragment 0 0 (zQ1 n R Q) (fun _ _ => False) 0 0 155 [(2, .int (oI x17))] [] al n R (zi J29) (li L30)) (by
              intro J29 L30 h
              show xJ _ _ _ _ _ _ _ _ _ 155 [(2, .int (oI x17))] [] _ _ _ _ _
              refine xr_iconst (v := oI 0) (xd dX8_hearFragment 76 rfl) (by decide) ?_
              exact h)
            obtain ⟨o32, h⟩ := h
            refine zr_if_eq 155 (xd dX8_hearFragment 62 rfl) (by decide) o32 (fun c33 => ?_) (fun c33 => ?_)
            · replace h := ifp h c33
              refine xJ.pick (ls' := [(2, .int (oI x17))]) [1] rfl ?_
              exact h
            · replace h := ifn h c33
              refine xr_aload_n (xd dX8_hearFragment 63 rfl) 0 rfl ?_
              refine xr_getR (b := (e + 8)) 8 4 (xd dX8_hearFragment 64 rfl) f8_21 (by decide) (by decide) (lt491 hn (ltS0 he)) (kdS_0 he) rfl (rS_0_4 hR he) ?_
              refine zr_getI 2 12 12 rfl (xd dX8_hearFragment 65 rfl) f8_153 (by decide) (by decide) (lt491 hn (ltS he (by decide))) (kdS_8 he) rfl ?_
              refine xr_bipush (v := oI 8) (xd dX8_hearFragment 66 rfl) (by decide) ?_
              obtain ⟨o34, h⟩ := h
              refine zr_icmp_ge 155 (xd dX8_hearFragment 67 rfl) (by decide) o34 (by decide) (fun c35 => ?_) (fun c35 => ?_)
              · replace h := ifn h c35
                refine xJ.pick (ls' := [(2, .int (oI x17))]) [1] rfl ?_
                exact h
              · replace h := ifp h c35
                refine xr_aload_n (xd dX8_hearFragment 68 rfl) 0 rfl ?_
                refine zr_getI 8 19 19 rfl (xd dX8_hearFragment 69 rfl) f8_124 (by decide) (by decide) (lt491 hn (ltS0 he)) (kdS_0 he) rfl ?_
                refine xr_aload_n (xd dX8_hearFragment 70 rfl) 0 rfl ?_
                refine xr_getR (b := (e + 8)) 8 4 (xd dX8_hearFragment 71 rfl) f8_21 (by decide) (by decide) (lt491 hn (ltS0 he)) (kdS_0 he) rfl (rS_0_4 hR he) ?_
                refine zr_getI 2 11 11 rfl (xd dX8_hearFragment 72 rfl) f8_150 (by decide) (by decide) (lt491 hn (ltS he (by decide))) (kdS_8 he) rfl ?_
                obtain ⟨o36, h⟩ := h
                obtain ⟨o37, h⟩ := h
                refine zr_icmp_le 155 (xd dX8_hearFragment 73 rfl) (by decide) o36 o37 (fun c38 => ?_) (fun c38 => ?_)
                · replace h := ifn h c38
                  refine xJ.pick (ls' := [(2, .int (oI x17))]) [1] rfl ?_
                  exact h
                · replace h := ifp h c38
                  refine xr_iconst (v := oI 1) (xd dX8_hearFragment 74 rfl) (by decide) ?_
                  refine xr_goto 156 (xd dX8_hearFragment 75 rfl) (by decide) ?_
                  refine xJ.pick (ls' := [(2, .int (oI x17))]) [1] rfl ?_
                  exact h)
          obtain ⟨o39, h⟩ := h
          refine zr_icmp_ne 110 (xd dX8_hearFragment 47 rfl) (by decide) o39 (by decide) (fun c40 => ?_) (fun c40 => ?_)
          · replace h := ifn h c40
            refine xr_aload_n (xd dX8_hearFragment 56 rfl) 0 rfl ?_
            refine xr_callV mX8_isOpen 0 [] (xd dX8_hearFragment 57 rfl) l8_234 kX8_isOpen rfl (lt491 hn (ltS0 he)) (kdS_0 he) (by decide) rfl (by decide) (Nat.le_of_ble_eq_true rfl) (v_X8_isOpen hn hR he h) (by decide) (by decide) (fun r_ M_ h_ => ?_) (fun _ _ h_ => h_.elim)
            obtain ⟨r43, J41, L42, rfl, rfl, h⟩ := h_
            show xJ _ _ _ _ _ _ _ _ _ 114 [(0, .ref e), (1, .ref 3)] [.int (oI r43)] _ _ _ (zi J41) (li L42)
            refine xJ.pick (ls' := [(0, .ref e)]) [0] rfl ?_
            exact h
          · replace h := ifp h c40
            refine xr_aload_n (xd dX8_hearFragment 48 rfl) 1 rfl ?_
            refine zr_getI 1 9 9 rfl (xd dX8_hearFragment 49 rfl) f8_281 (by decide) (by decide) (lt491 hn (by decide)) kd_3 rfl ?_
            refine xr_iconst (v := oI 1) (xd dX8_hearFragment 50 rfl) (by decide) ?_
            obtain ⟨o44, h⟩ := h
            refine zr_icmp_ne 106 (xd dX8_hearFragment 51 rfl) (by decide) o44 (by decide) (fun c45 => ?_) (fun c45 => ?_)
            · replace h := ifn h c45
              refine xr_iconst (v := oI 0) (xd dX8_hearFragment 54 rfl) (by decide) ?_
              refine xr_goto 114 (xd dX8_hearFragment 55 rfl) (by decide) ?_
              refine xJ.pick (ls' := [(0, .ref e)]) [0] rfl ?_
              exact h
            · replace h := ifp h c45
              refine xr_iconst (v := oI 1) (xd dX8_hearFragment 52 rfl) (by decide) ?_
              refine xr_goto 114 (xd dX8_hearFragment 53 rfl) (by decide) ?_
              refine xJ.pick (ls' := [(0, .ref e)]) [0] rfl ?_
              exact h)
        obtain ⟨o46, h⟩ := h
        refine zr_icmp_ne 86 (xd dX8_hearFragment 38 rfl) (by decide) o46 (by decide) (fun c47 => ?_) (fun c47 => ?_)
        · replace h := ifn h c47
          exact h
        · replace h := ifp h c47
          refine xr_aload_n (xd dX8_hearFragment 39 rfl) 0 rfl ?_
          refine xr_callV mX8_isOpen 0 [] (xd dX8_hearFragment 40 rfl) l8_234 kX8_isOpen rfl (lt491 hn (ltS0 he)) (kdS_0 he) (by decide) rfl (by decide) (Nat.le_of_ble_eq_true rfl) (v_X8_isOpen hn hR he h) (by decide) (by decide) (fun r_ M_ h_ => ?_) (fun _ _ h_ => h_.elim)
          obtain ⟨r50, J48, L49, rfl, rfl, h⟩ := h_
          show xJ _ _ _ _ _ _ _ _ _ 81 [(0, .ref e), (1, .ref 3)] [.int (oI r50)] _ _ _ (zi J48) (li L49)
          obtain ⟨o51, h⟩ := h
          refine zr_if_eq 86 (xd dX8_hearFragment 41 rfl) (by decide) o51 (fun c52 => ?_) (fun c52 => ?_)
          · replace h := ifp h c52
            exact h
          · replace h := ifn h c52
            refine xr_iconst (v := oI 3) (xd dX8_hearFragment 42 rfl) (by decide) ?_
            exact xr_iret (xd dX8_hearFragment 43 rfl) rfl (by decide) (by decide) (fun _ => rfl) ⟨_, _, _, rfl, rfl, h⟩
      · replace h := ifn h c13
        refine xr_iconst (v := oI 0) (xd dX8_hearFragment 33 rfl) (by decide) ?_
        exact xr_iret (xd dX8_hearFragment 34 rfl) rfl (by decide) (by decide) (fun _ => rfl) ⟨_, _, _, rfl, rfl, h⟩)
    obtain ⟨o53, h⟩ := h
    refine zr_if_eq 56 (xd dX8_hearFragment 23 rfl) (by decide) o53 (fun c54 => ?_) (fun c54 => ?_)
    · replace h := ifp h c54
      exact h
    · replace h := ifn h c54
      refine xr_aload_n (xd dX8_hearFragment 24 rfl) 0 rfl ?_
      refine xr_getR (b := (e + 17)) 8 5 (xd dX8_hearFragment 25 rfl) f8_28 (by decide) (by decide) (lt491 hn (ltS0 he)) (kdS_0 he) rfl (rS_0_5 hR he) ?_
      refine xr_aload_n (xd dX8_hearFragment 26 rfl) 1 rfl ?_
      refine xr_callV mX3_keep 1 [.ref 3] (xd dX8_hearFragment 27 rfl) l8_303 kX3_keep rfl (lt491 hn (ltS he (by decide))) (kdS_17 he) (by decide) rfl (by decide) (Nat.le_of_ble_eq_true rfl) (v_X3_keep hn hR he h) (by decide) (by decide) (fun r_ M_ h_ => ?_) (fun _ _ h_ => h_.elim)
      obtain ⟨J55, L56, rfl, rfl, h⟩ := h_
      show xJ _ _ _ _ _ _ _ _ _ 56 [(0, .ref e), (1, .ref 3)] [] _ _ _ (zi J55) (li L56)
      exact h
  · replace h := ifp h c2
    refine xr_aload_n (xd dX8_hearFragment 3 rfl) 0 rfl ?_
    refine zr_getI 8 0 0 rfl (xd dX8_hearFragment 4 rfl) f8_64 (by decide) (by decide) (lt491 hn (ltS0 he)) (kdS_0 he) rfl ?_
    refine xr_iconst (v := oI 1) (xd dX8_hearFragment 5 rfl) (by decide) ?_
    obtain ⟨o57, h⟩ := h
    refine zr_icmp_ne 19 (xd dX8_hearFragment 6 rfl) (by decide) o57 (by decide) (fun c58 => ?_) (fun c58 => ?_)
    · replace h := ifn h c58
      refine xr_iconst (v := oI 0) (xd dX8_hearFragment 9 rfl) (by decide) ?_
      exact xr_iret (xd dX8_hearFragment 10 rfl) rfl (by decide) (by decide) (fun _ => rfl) ⟨_, _, _, rfl, rfl, h⟩
    · replace h := ifp h c58
      refine xr_iconst (v := oI 1) (xd dX8_hearFragment 7 rfl) (by decide) ?_
      refine xr_goto 20 (xd dX8_hearFragment 8 rfl) (by decide) ?_
      exact xr_iret (xd dX8_hearFragment 10 rfl) rfl (by decide) (by decide) (fun _ => rfl) ⟨_, _, _, rfl, rfl, h⟩
def w_X8_noteAlert (e : Nat) (p1 : Int) (J : zM) (L : yM) (Q : zM → yM → Prop) : Prop := R32 (J e 15) ∧ (if (J e 15) = (-1) then R32 p1 ∧ (if p1 = 0 then Q J L else ∀ J5 : zM, J5 = zs J e 15 p1 → Q J5 L) else Q J L)
set_option maxHeartbeats 4000000 in
set_option maxRecDepth 100000 in
theorem v_X8_noteAlert {b : Nat} {dC : Nat → ClassId} {dI : Nat → Nat → Nat} {cA : Nat → ClassId} {ts : Nat → Nat} {l : Launch} {n : Nat} {R : Nat → Nat → Option Nat} {al : Bool} (hn : 491 ≤ n) (hR : xRk R) {e : Nat} {p1 : Int} (he : iSide e) {J : zM} {L : yM} {Q : zM → yM → Prop} (h : w_X8_noteAlert e p1 J L Q) : xCn (xGm b dC dI cA ts) l mX8_noteAlert [.ref e, .int (oI p1)] al (n, R, zi J, li L) 0 0 (zQ0 n R Q) (fun _ _ => False) := by
  refine xCn.ofJ (by decide) (Nat.le_of_ble_eq_true rfl) ?_
  show xJ _ _ _ _ _ _ _ _ _ 0 [(0, .ref e), (1, .int (oI p1))] [] _ _ _ _ _
  unfold w_X8_noteAlert at h
  refine xr_aload_n (xd dX8_noteAlert 0 rfl) 0 rfl ?_
  refine zr_getI 8 15 15 rfl (xd dX8_noteAlert 1 rfl) f8_112 (by decide) (by decide) (lt491 hn (ltS0 he)) (kdS_0 he) rfl ?_
  refine xr_iconst (v := oI (-1)) (xd dX8_noteAlert 2 rfl) (by decide) ?_
  obtain ⟨o1, h⟩ := h
  refine zr_icmp_ne 17 (xd dX8_noteAlert 3 rfl) (by decide) o1 (by decide) (fun c2 => ?_) (fun c2 => ?_)
  · replace h := ifn h c2
    exact xr_vret (xd dX8_noteAlert 9 rfl) rfl (by decide) (by decide) (fun _ => rfl) ⟨_, _, rfl, rfl, h⟩
  · replace h := ifp h c2
    refine xr_iload_n (xd dX8_noteAlert 4 rfl) 1 rfl ?_
    obtain ⟨o3, h⟩ := h
    refine zr_if_eq 17 (xd dX8_noteAlert 5 rfl) (by decide) o3 (fun c4 => ?_) (fun c4 => ?_)
    · replace h := ifp h c4
      exact xr_vret (xd dX8_noteAlert 9 rfl) rfl (by decide) (by decide) (fun _ => rfl) ⟨_, _, rfl, rfl, h⟩
    · replace h := ifn h c4
      refine xr_aload_n (xd dX8_noteAlert 6 rfl) 0 rfl ?_
      refine xr_iload_n (xd dX8_noteAlert 7 rfl) 1 rfl ?_
      obtain ⟨J5, e_J5⟩ : ∃ z_ : zM, z_ = zs J e 15 p1 := ⟨_, rfl⟩
      replace h := h J5 e_J5
      refine zr_putI 8 15 15 rfl e_J5 (xd dX8_noteAlert 8 rfl) f8_112 (by decide) (by decide) (lt491 hn (ltS0 he)) (kdS_0 he) (Or.inl rfl) rfl rfl (fun _ => rfl) ?_
      exact xr_vret (xd dX8_noteAlert 9 rfl) rfl (by decide) (by decide) (fun _ => rfl) ⟨_, _, rfl, rfl, h⟩
def w_X8_hearAlert (e : Nat) (J : zM) (L : yM) (Q : Int → zM → yM → Prop) : Prop := R32 (J 3 8) ∧ (if (J 3 8) = 1 then ∀ K5 : zM → yM → Prop, (∀ (J3 : zM) (L4 : yM), (w_X1_contentOctet 0 J3 L4 (fun r8 J6 L7 => R32 r8 ∧ (if r8 = 0 then ∀ J15 : zM, J15 = zs J6 e 16 1 → Q 1 J15 L7 else w_X8_noteAlert e r8 J6 L7 (fun J11 L12 => w_X8_die e J11 L12 (fun J13 L14 => Q 1 J13 L14))))) → K5 J3 L4) → R32 (J 3 4) ∧ (if (J 3 4) = 0 then R32 (J (e + 144) 11) ∧ (if 0 < (J (e + 144) 11) then Q 1 J L else K5 J L) else K5 J L) else Q 0 J L)
set_option maxHeartbeats 4000000 in
set_option maxRecDepth 100000 in
theorem v_X8_hearAlert {b : Nat} {dC : Nat → ClassId} {dI : Nat → Nat → Nat} {cA : Nat → ClassId} {ts : Nat → Nat} {l : Launch} {n : Nat} {R : Nat → Nat → Option Nat} {al : Bool} (hn : 491 ≤ n) (hR : xRk R) {e : Nat} (he : iSide e) {J : zM} {L : yM} {Q : Int → zM → yM → Prop} (h : w_X8_hearAlert e J L Q) : xCn (xGm b dC dI cA ts) l mX8_hearAlert [.ref e, .ref 3] al (n, R, zi J, li L) 0 0 (zQ1 n R Q) (fun _ _ => False) := by
  refine xCn.ofJ (by decide) (Nat.le_of_ble_eq_true rfl) ?_
  show xJ _ _ _ _ _ _ _ _ _ 0 [(0, .ref e), (1, .ref 3)] [] _ _ _ _ _
  unfold w_X8_hearAlert at h
  refine xr_aload_n (xd dX8_hearAlert 0 rfl) 1 rfl ?_
  refine zr_getI 1 8 8 rfl (xd dX8_hearAlert 1 rfl) f8_191 (by decide) (by decide) (lt491 hn (by decide)) kd_3 rfl ?_
  refine xr_iconst (v := oI 1) (xd dX8_hearAlert 2 rfl) (by decide) ?_
  obtain ⟨o1, h⟩ := h
  refine zr_icmp_eq 10 (xd dX8_hearAlert 3 rfl) (by decide) o1 (by decide) (fun c2 => ?_) (fun c2 => ?_)
  · replace h := ifp h c2
    refine xr_aload_n (xd dX8_hearAlert 6 rfl) 1 rfl ?_
    refine zr_getI 1 4 4 rfl (xd dX8_hearAlert 7 rfl) f8_175 (by decide) (by decide) (lt491 hn (by decide)) kd_3 rfl ?_
    replace h := h (fun (J3 : zM) (L4 : yM) => xJ (xGm b dC dI cA ts) l mX8_hearAlert 0 0 (zQ1 n R Q) (fun _ _ => False) 0 0 29 [(0, .ref e), (1, .ref 3)] [] al n R (zi J3) (li L4)) (by
      intro J3 L4 h
      show xJ _ _ _ _ _ _ _ _ _ 29 [(0, .ref e), (1, .ref 3)] [] _ _ _ _ _
      refine xr_aload_n (xd dX8_hearAlert 15 rfl) 1 rfl ?_
      refine xr_iconst (v := oI 0) (xd dX8_hearAlert 16 rfl) (by decide) ?_
      refine xr_callV mX1_contentOctet 1 [.int (oI 0)] (xd dX8_hearAlert 17 rfl) l8_263 kX1_contentOctet rfl (lt491 hn (by decide)) kd_3 (by decide) rfl (by decide) (Nat.le_of_ble_eq_true rfl) (v_X1_contentOctet hn hR  h) (by decide) (by decide) (fun r_ M_ h_ => ?_) (fun _ _ h_ => h_.elim)
      obtain ⟨r8, J6, L7, rfl, rfl, h⟩ := h_
      show xJ _ _ _ _ _ _ _ _ _ 34 [(0, .ref e), (1, .ref 3)] [.int (oI r8)] _ _ _ (zi J6) (li L7)
      refine xr_istore_n [(0, .ref e), (1, .ref 3), (2, .int (oI r8))] (xd dX8_hearAlert 18 rfl) rfl (by decide) rfl ?_
      refine xr_iload_n (xd dX8_hearAlert 19 rfl) 2 rfl ?_
      obtain ⟨o9, h⟩ := h
      refine zr_if_ne 47 (xd dX8_hearAlert 20 rfl) (by decide) o9 (fun c10 => ?_) (fun c10 => ?_)
      · replace h := ifn h c10
        refine xr_aload_n (xd dX8_hearAlert 25 rfl) 0 rfl ?_
        refine xr_iload_n (xd dX8_hearAlert 26 rfl) 2 rfl ?_
        refine xr_callV mX8_noteAlert 1 [.int (oI r8)] (xd dX8_hearAlert 27 rfl) l8_267 kX8_noteAlert rfl (lt491 hn (ltS0 he)) (kdS_0 he) (by decide) rfl (by decide) (Nat.le_of_ble_eq_true rfl) (v_X8_noteAlert hn hR he h) (by decide) (by decide) (fun r_ M_ h_ => ?_) (fun _ _ h_ => h_.elim)
        obtain ⟨J11, L12, rfl, rfl, h⟩ := h_
        show xJ _ _ _ _ _ _ _ _ _ 52 [(0, .ref e), (1, .ref 3), (2, .int (oI r8))] [] _ _ _ (zi J11) (li L12)
        refine xr_aload_n (xd dX8_hearAlert 28 rfl) 0 rfl ?_
        refine xr_callV mX8_die 0 [] (xd dX8_hearAlert 29 rfl) l8_156 kX8_die rfl (lt491 hn (ltS0 he)) (kdS_0 he) (by decide) rfl (by decide) (Nat.le_of_ble_eq_true rfl) (v_X8_die hn hR he h) (by decide) (by decide) (fun r_ M_ h_ => ?_) (fun _ _ h_ => h_.elim)
        obtain ⟨J13, L14, rfl, rfl, h⟩ := h_
        show xJ _ _ _ _ _ _ _ _ _ 56 [(0, .ref e), (1, .ref 3), (2, .int (oI r8))] [] _ _ _ (zi J13) (li L14)
        refine xr_iconst (v := oI 1) (xd dX8_hearAlert 30 rfl) (by decide) ?_
        exact xr_zret (xd dX8_hearAlert 31 rfl) rfl (zret_b (Or.inr rfl)) (by decide) (by decide) (fun _ => rfl) ⟨_, _, _, rfl, rfl, h⟩
      · replace h := ifp h c10
        refine xr_aload_n (xd dX8_hearAlert 21 rfl) 0 rfl ?_
        refine xr_iconst (v := oI 1) (xd dX8_hearAlert 22 rfl) (by decide) ?_
        obtain ⟨J15, e_J15⟩ : ∃ z_ : zM, z_ = zs J6 e 16 1 := ⟨_, rfl⟩
        replace h := h J15 e_J15
        refine zr_putI 8 16 16 rfl e_J15 (xd dX8_hearAlert 23 rfl) f8_115 (by decide) (by decide) (lt491 hn (ltS0 he)) (kdS_0 he) (Or.inl rfl) rfl rfl (fun _ => rfl) ?_
        refine xr_goto 56 (xd dX8_hearAlert 24 rfl) (by decide) ?_
        refine xr_iconst (v := oI 1) (xd dX8_hearAlert 30 rfl) (by decide) ?_
        exact xr_zret (xd dX8_hearAlert 31 rfl) rfl (zret_b (Or.inr rfl)) (by decide) (by decide) (fun _ => rfl) ⟨_, _, _, rfl, rfl, h⟩)
    obtain ⟨o16, h⟩ := h
    refine zr_if_ne 29 (xd dX8_hearAlert 8 rfl) (by decide) o16 (fun c17 => ?_) (fun c17 => ?_)
    · replace h := ifn h c17
      exact h
    · replace h := ifp h c17
      refine xr_aload_n (xd dX8_hearAlert 9 rfl) 0 rfl ?_
      refine xr_getR (b := (e + 144)) 8 2 (xd dX8_hearAlert 10 rfl) f8_73 (by decide) (by decide) (lt491 hn (ltS0 he)) (kdS_0 he) rfl (rS_0_2 hR he) ?_
      refine zr_getI 5 11 11 rfl (xd dX8_hearAlert 11 rfl) f8_190 (by decide) (by decide) (lt491 hn (ltS he (by decide))) (kdS_144 he) rfl ?_
      obtain ⟨o18, h⟩ := h
      refine zr_if_le 29 (xd dX8_hearAlert 12 rfl) (by decide) o18 (fun c19 => ?_) (fun c19 => ?_)
      · replace h := ifn h c19
        exact h
      · replace h := ifp h c19
        refine xr_iconst (v := oI 1) (xd dX8_hearAlert 13 rfl) (by decide) ?_
        exact xr_zret (xd dX8_hearAlert 14 rfl) rfl (zret_b (Or.inr rfl)) (by decide) (by decide) (fun _ => rfl) ⟨_, _, _, rfl, rfl, h⟩
  · replace h := ifn h c2
    refine xr_iconst (v := oI 0) (xd dX8_hearAlert 4 rfl) (by decide) ?_
    exact xr_zret (xd dX8_hearAlert 5 rfl) rfl (zret_b (Or.inl rfl)) (by decide) (by decide) (fun _ => rfl) ⟨_, _, _, rfl, rfl, h⟩
def w_X8_hearAck (e : Nat) (J : zM) (L : yM) (Q : Int → zM → yM → Prop) : Prop := (if (zrem (J 3 8) 3) = 0 then zl_z (fun K2 x3 J4 L5 => R32 x3 ∧ R32 (J4 3 8) ∧ (if x3 < (J4 3 8) then w_X1_contentOctet x3 J4 L5 (fun r19 J17 L18 => ∀ K22 : zM → yM → Prop, (∀ (J20 : zM) (L21 : yM), (K2 (x3 + 3) J20 L21) → K22 J20 L21) → R32 r19 ∧ R32 (J17 3 4) ∧ (if (J17 3 4) < r19 then K22 J17 L18 else w_X1_contentOctet (x3 + 1) J17 L18 (fun r28 J26 L27 => w_X1_contentOctet (x3 + 2) J26 L27 (fun r31 J29 L30 => w_X2_ackRecord e r19 (zor (zshl r28 8) r31) J29 L30 (fun J32 L33 => K22 J32 L33))))) else R32 (J4 (e + 8) 13) ∧ (if (J4 (e + 8) 13) = 0 then Q 1 J4 L5 else w_X2_notAcked e J4 L5 (fun r13 J11 L12 => R32 r13 ∧ (if r13 = 0 then ∀ J16 : zM, J16 = zs J11 (e + 8) 13 0 → Q 1 J16 L12 else Q 1 J11 L12))))) 0 J L else Q 0 J L)
set_option maxHeartbeats 4000000 in
set_option maxRecDepth 100000 in
theorem v_X8_hearAck {b : Nat} {dC : Nat → ClassId} {dI : Nat → Nat → Nat} {cA : Nat → ClassId} {ts : Nat → Nat} {l : Launch} {n : Nat} {R : Nat → Nat → Option Nat} {al : Bool} (hn : 491 ≤ n) (hR : xRk R) {e : Nat} (he : iSide e) {J : zM} {L : yM} {Q : Int → zM → yM → Prop} (h : w_X8_hearAck e J L Q) : xCn (xGm b dC dI cA ts) l mX8_hearAck [.ref e, .ref 3] al (n, R, zi J, li L) 0 0 (zQ1 n R Q) (fun _ _ => False) := by
  refine xCn.ofJ (by decide) (Nat.le_of_ble_eq_true rfl) ?_
  show xJ _ _ _ _ _ _ _ _ _ 0 [(0, .ref e), (1, .ref 3)] [] _ _ _ _ _
  unfold w_X8_hearAck at h
  refine xr_aload_n (xd dX8_hearAck 0 rfl) 1 rfl ?_
  refine zr_getI 1 8 8 rfl (xd dX8_hearAck 1 rfl) f8_191 (by decide) (by decide) (lt491 hn (by decide)) kd_3 rfl ?_
  refine xr_iconst (v := oI 3) (xd dX8_hearAck 2 rfl) (by decide) ?_
  refine zr_irem (xd dX8_hearAck 3 rfl) (by decide) (by decide) ?_
  refine zr_if_eq 11 (xd dX8_hearAck 4 rfl) (by decide) (R32_of _) (fun c1 => ?_) (fun c1 => ?_)
  · replace h := ifp h c1
    refine xr_iconst (v := oI 0) (xd dX8_hearAck 7 rfl) (by decide) ?_
    refine xr_istore_n [(0, .ref e), (1, .ref 3), (2, .int (oI 0))] (xd dX8_hearAck 8 rfl) rfl (by decide) rfl ?_
    refine h (fun x3 J4 L5 => xJ (xGm b dC dI cA ts) l mX8_hearAck 0 0 (zQ1 n R Q) (fun _ _ => False) 0 0 13 [(0, .ref e), (1, .ref 3), (2, .int (oI x3))] [] al n R (zi J4) (li L5)) ?_
    intro x3 J4 L5 h
    show xJ _ _ _ _ _ _ _ _ _ 13 [(0, .ref e), (1, .ref 3), (2, .int (oI x3))] [] _ _ _ _ _
    refine xr_iload_n (xd dX8_hearAck 9 rfl) 2 rfl ?_
    refine xr_aload_n (xd dX8_hearAck 10 rfl) 1 rfl ?_
    refine zr_getI 1 8 8 rfl (xd dX8_hearAck 11 rfl) f8_191 (by decide) (by decide) (lt491 hn (by decide)) kd_3 rfl ?_
    obtain ⟨o6, h⟩ := h
    obtain ⟨o7, h⟩ := h
    refine zr_icmp_ge 67 (xd dX8_hearAck 12 rfl) (by decide) o6 o7 (fun c8 => ?_) (fun c8 => ?_)
    · replace h := ifn h c8
      refine xr_aload_n (xd dX8_hearAck 40 rfl) 0 rfl ?_
      refine xr_getR (b := (e + 8)) 8 4 (xd dX8_hearAck 41 rfl) f8_21 (by decide) (by decide) (lt491 hn (ltS0 he)) (kdS_0 he) rfl (rS_0_4 hR he) ?_
      refine zr_getI 2 13 13 rfl (xd dX8_hearAck 42 rfl) f8_130 (by decide) (by decide) (lt491 hn (ltS he (by decide))) (kdS_8 he) rfl ?_
      obtain ⟨o9, h⟩ := h
      refine zr_if_eq 95 (xd dX8_hearAck 43 rfl) (by decide) o9 (fun c10 => ?_) (fun c10 => ?_)
      · replace h := ifp h c10
        refine xr_iconst (v := oI 1) (xd dX8_hearAck 52 rfl) (by decide) ?_
        exact xr_zret (xd dX8_hearAck 53 rfl) rfl (zret_b (Or.inr rfl)) (by decide) (by decide) (fun _ => rfl) ⟨_, _, _, rfl, rfl, h⟩
      · replace h := ifn h c10
        refine xr_aload_n (xd dX8_hearAck 44 rfl) 0 rfl ?_
        refine xr_getR (b := (e + 8)) 8 4 (xd dX8_hearAck 45 rfl) f8_21 (by decide) (by decide) (lt491 hn (ltS0 he)) (kdS_0 he) rfl (rS_0_4 hR he) ?_
        refine xr_callV mX2_notAcked 0 [] (xd dX8_hearAck 46 rfl) l8_140 kX2_notAcked rfl (lt491 hn (ltS he (by decide))) (kdS_8 he) (by decide) rfl (by decide) (Nat.le_of_ble_eq_true rfl) (v_X2_notAcked hn hR he h) (by decide) (by decide) (fun r_ M_ h_ => ?_) (fun _ _ h_ => h_.elim)
        obtain ⟨r13, J11, L12, rfl, rfl, h⟩ := h_
        show xJ _ _ _ _ _ _ _ _ _ 84 [(0, .ref e), (1, .ref 3), (2, .int (oI x3))] [.int (oI r13)] _ _ _ (zi J11) (li L12)
        obtain ⟨o14, h⟩ := h
        refine zr_if_ne 95 (xd dX8_hearAck 47 rfl) (by decide) o14 (fun c15 => ?_) (fun c15 => ?_)
        · replace h := ifn h c15
          refine xr_iconst (v := oI 1) (xd dX8_hearAck 52 rfl) (by decide) ?_
          exact xr_zret (xd dX8_hearAck 53 rfl) rfl (zret_b (Or.inr rfl)) (by decide) (by decide) (fun _ => rfl) ⟨_, _, _, rfl, rfl, h⟩
        · replace h := ifp h c15
          refine xr_aload_n (xd dX8_hearAck 48 rfl) 0 rfl ?_
          refine xr_getR (b := (e + 8)) 8 4 (xd dX8_hearAck 49 rfl) f8_21 (by decide) (by decide) (lt491 hn (ltS0 he)) (kdS_0 he) rfl (rS_0_4 hR he) ?_
          refine xr_iconst (v := oI 0) (xd dX8_hearAck 50 rfl) (by decide) ?_
          obtain ⟨J16, e_J16⟩ : ∃ z_ : zM, z_ = zs J11 (e + 8) 13 0 := ⟨_, rfl⟩
          replace h := h J16 e_J16
          refine zr_putI 2 13 13 rfl e_J16 (xd dX8_hearAck 51 rfl) f8_130 (by decide) (by decide) (lt491 hn (ltS he (by decide))) (kdS_8 he) (Or.inl rfl) (zret_b (Or.inl rfl)) (fits_b (Or.inl rfl)) (fun _ => rfl) ?_
          refine xr_iconst (v := oI 1) (xd dX8_hearAck 52 rfl) (by decide) ?_
          exact xr_zret (xd dX8_hearAck 53 rfl) rfl (zret_b (Or.inr rfl)) (by decide) (by decide) (fun _ => rfl) ⟨_, _, _, rfl, rfl, h⟩
    · replace h := ifp h c8
      refine xr_aload_n (xd dX8_hearAck 13 rfl) 1 rfl ?_
      refine xr_iload_n (xd dX8_hearAck 14 rfl) 2 rfl ?_
      refine xr_callV mX1_contentOctet 1 [.int (oI x3)] (xd dX8_hearAck 15 rfl) l8_263 kX1_contentOctet rfl (lt491 hn (by decide)) kd_3 (by decide) rfl (by decide) (Nat.le_of_ble_eq_true rfl) (v_X1_contentOctet hn hR  h) (by decide) (by decide) (fun r_ M_ h_ => ?_) (fun _ _ h_ => h_.elim)
      obtain ⟨r19, J17, L18, rfl, rfl, h⟩ := h_
      show xJ _ _ _ _ _ _ _ _ _ 26 [(0, .ref e), (1, .ref 3), (2, .int (oI x3))] [.int (oI r19)] _ _ _ (zi J17) (li L18)
      refine xr_istore_n [(0, .ref e), (1, .ref 3), (2, .int (oI x3)), (3, .int (oI r19))] (xd dX8_hearAck 16 rfl) rfl (by decide) rfl ?_
      refine xr_iload_n (xd dX8_hearAck 17 rfl) 3 rfl ?_
      refine xr_aload_n (xd dX8_hearAck 18 rfl) 1 rfl ?_
      refine zr_getI 1 4 4 rfl (xd dX8_hearAck 19 rfl) f8_175 (by decide) (by decide) (lt491 hn (by decide)) kd_3 rfl ?_
      replace h := h (fun (J20 : zM) (L21 : yM) => xJ (xGm b dC dI cA ts) l mX8_hearAck 0 0 (zQ1 n R Q) (fun _ _ => False) 0 0 61 [(0, .ref e), (1, .ref 3), (2, .int (oI x3))] [] al n R (zi J20) (li L21)) (by
        intro J20 L21 h
        show xJ _ _ _ _ _ _ _ _ _ 61 [(0, .ref e), (1, .ref 3), (2, .int (oI x3))] [] _ _ _ _ _
        refine zr_iinc [(0, .ref e), (1, .ref 3), (2, .int (oI (x3 + 3)))] (xd dX8_hearAck 38 rfl) 2 rfl (by decide) rfl ?_
        refine xr_goto 13 (xd dX8_hearAck 39 rfl) (by decide) ?_
        exact h)
      obtain ⟨o23, h⟩ := h
      obtain ⟨o24, h⟩ := h
      refine zr_icmp_gt 61 (xd dX8_hearAck 20 rfl) (by decide) o23 o24 (fun c25 => ?_) (fun c25 => ?_)
      · replace h := ifp h c25
        refine xJ.pick (ls' := [(0, .ref e), (1, .ref 3), (2, .int (oI x3))]) [0, 1, 2] rfl ?_
        exact h
      · replace h := ifn h c25
        refine xr_aload_n (xd dX8_hearAck 21 rfl) 0 rfl ?_
        refine xr_getR (b := (e + 8)) 8 4 (xd dX8_hearAck 22 rfl) f8_21 (by decide) (by decide) (lt491 hn (ltS0 he)) (kdS_0 he) rfl (rS_0_4 hR he) ?_
        refine xr_iload_n (xd dX8_hearAck 23 rfl) 3 rfl ?_
        refine xr_aload_n (xd dX8_hearAck 24 rfl) 1 rfl ?_
        refine xr_iload_n (xd dX8_hearAck 25 rfl) 2 rfl ?_
        refine xr_iconst (v := oI 1) (xd dX8_hearAck 26 rfl) (by decide) ?_
        refine zr_iadd (xd dX8_hearAck 27 rfl) ?_
        refine xr_callV mX1_contentOctet 1 [.int (oI (x3 + 1))] (xd dX8_hearAck 28 rfl) l8_263 kX1_contentOctet rfl (lt491 hn (by decide)) kd_3 (by decide) rfl (by decide) (Nat.le_of_ble_eq_true rfl) (v_X1_contentOctet hn hR  h) (by decide) (by decide) (fun r_ M_ h_ => ?_) (fun _ _ h_ => h_.elim)
        obtain ⟨r28, J26, L27, rfl, rfl, h⟩ := h_
        show xJ _ _ _ _ _ _ _ _ _ 47 [(0, .ref e), (1, .ref 3), (2, .int (oI x3)), (3, .int (oI r19))] [.int (oI r28), .int (oI r19), .ref (e + 8)] _ _ _ (zi J26) (li L27)
        refine xr_bipush (v := oI 8) (xd dX8_hearAck 29 rfl) (by decide) ?_
        refine zr_ishl (xd dX8_hearAck 30 rfl) ?_
        refine xr_aload_n (xd dX8_hearAck 31 rfl) 1 rfl ?_
        refine xr_iload_n (xd dX8_hearAck 32 rfl) 2 rfl ?_
        refine xr_iconst (v := oI 2) (xd dX8_hearAck 33 rfl) (by decide) ?_
        refine zr_iadd (xd dX8_hearAck 34 rfl) ?_
        refine xr_callV mX1_contentOctet 1 [.int (oI (x3 + 2))] (xd dX8_hearAck 35 rfl) l8_263 kX1_contentOctet rfl (lt491 hn (by decide)) kd_3 (by decide) rfl (by decide) (Nat.le_of_ble_eq_true rfl) (v_X1_contentOctet hn hR  h) (by decide) (by decide) (fun r_ M_ h_ => ?_) (fun _ _ h_ => h_.elim)
        obtain ⟨r31, J29, L30, rfl, rfl, h⟩ := h_
        show xJ _ _ _ _ _ _ _ _ _ 57 [(0, .ref e), (1, .ref 3), (2, .int (oI x3)), (3, .int (oI r19))] [.int (oI r31), .int (oI (zshl r28 8)), .int (oI r19), .ref (e + 8)] _ _ _ (zi J29) (li L30)
        refine zr_ior (xd dX8_hearAck 36 rfl) ?_
        refine xr_callV mX2_ackRecord 2 [.int (oI r19), .int (oI (zor (zshl r28 8) r31))] (xd dX8_hearAck 37 rfl) l8_270 kX2_ackRecord rfl (lt491 hn (ltS he (by decide))) (kdS_8 he) (by decide) rfl (by decide) (Nat.le_of_ble_eq_true rfl) (v_X2_ackRecord hn hR he h) (by decide) (by decide) (fun r_ M_ h_ => ?_) (fun _ _ h_ => h_.elim)
        obtain ⟨J32, L33, rfl, rfl, h⟩ := h_
        show xJ _ _ _ _ _ _ _ _ _ 61 [(0, .ref e), (1, .ref 3), (2, .int (oI x3)), (3, .int (oI r19))] [] _ _ _ (zi J32) (li L33)
        refine xJ.pick (ls' := [(0, .ref e), (1, .ref 3), (2, .int (oI x3))]) [0, 1, 2] rfl ?_
        exact h
  · replace h := ifn h c1
    refine xr_iconst (v := oI 0) (xd dX8_hearAck 5 rfl) (by decide) ?_
    exact xr_zret (xd dX8_hearAck 6 rfl) rfl (zret_b (Or.inl rfl)) (by decide) (by decide) (fun _ => rfl) ⟨_, _, _, rfl, rfl, h⟩
def w_X8_hearData (e : Nat) (J : zM) (L : yM) (Q : Int → zM → yM → Prop) : Prop := R32 (J 3 4) ∧ (if (J 3 4) = 3 then R32 (J 3 8) ∧ (if (J 3 8) < 1 then Q 0 J L else (if 60 < (J 3 8) then Q 0 J L else zl_z (fun K6 x7 J8 L9 => R32 x7 ∧ R32 (J8 3 8) ∧ (if x7 < (J8 3 8) then w_X1_contentOctet x7 J8 L9 (fun r27 J25 L26 => ((0 : Int) ≤ x7 ∧ x7 < 152) ∧ ∀ J29 : zM, J29 = zs J25 (e + 142) x7 r27 → K6 (x7 + 1) J29 L26) else ∀ K15 : zM → yM → Prop, (∀ (J13 : zM) (L14 : yM), (w_X4_add (e + 38) (e + 142) (J13 3 8) J13 L14 (fun r18 J16 L17 => ∀ J19 : zM, J19 = zs J16 e 17 ((J16 e 17) + 1) → ∀ J20 : zM, J20 = zs J19 (e + 8) 13 0 → Q 1 J20 L17)) → K15 J13 L14) → R32 (J8 (e + 38) 5) ∧ (if (J8 (e + 38) 5) = 100 then w_X4_drop (e + 38) 0 J8 L9 (fun J23 L24 => K15 J23 L24) else K15 J8 L9))) 0 J L)) else Q 0 J L)
set_option maxHeartbeats 4000000 in
set_option maxRecDepth 100000 in
theorem v_X8_hearData {b : Nat} {dC : Nat → ClassId} {dI : Nat → Nat → Nat} {cA : Nat → ClassId} {ts : Nat → Nat} {l : Launch} {n : Nat} {R : Nat → Nat → Option Nat} {al : Bool} (hn : 491 ≤ n) (hR : xRk R) {e : Nat} (he : iSide e) {J : zM} {L : yM} {Q : Int → zM → yM → Prop} (h : w_X8_hearData e J L Q) : xCn (xGm b dC dI cA ts) l mX8_hearData [.ref e, .ref 3] al (n, R, zi J, li L) 0 0 (zQ1 n R Q) (fun _ _ => False) := by
  refine xCn.ofJ (by decide) (Nat.le_of_ble_eq_true rfl) ?_
  show xJ _ _ _ _ _ _ _ _ _ 0 [(0, .ref e), (1, .ref 3)] [] _ _ _ _ _
  unfold w_X8_hearData at h
  refine xr_aload_n (xd dX8_hearData 0 rfl) 1 rfl ?_
  refine zr_getI 1 4 4 rfl (xd dX8_hearData 1 rfl) f8_175 (by decide) (by decide) (lt491 hn (by decide)) kd_3 rfl ?_
  refine xr_iconst (v := oI 3) (xd dX8_hearData 2 rfl) (by decide) ?_
  obtain ⟨o1, h⟩ := h
  refine zr_icmp_ne 25 (xd dX8_hearData 3 rfl) (by decide) o1 (by decide) (fun c2 => ?_) (fun c2 => ?_)
  · replace h := ifn h c2
    refine xr_iconst (v := oI 0) (xd dX8_hearData 12 rfl) (by decide) ?_
    exact xr_zret (xd dX8_hearData 13 rfl) rfl (zret_b (Or.inl rfl)) (by decide) (by decide) (fun _ => rfl) ⟨_, _, _, rfl, rfl, h⟩
  · replace h := ifp h c2
    refine xr_aload_n (xd dX8_hearData 4 rfl) 1 rfl ?_
    refine zr_getI 1 8 8 rfl (xd dX8_hearData 5 rfl) f8_191 (by decide) (by decide) (lt491 hn (by decide)) kd_3 rfl ?_
    refine xr_iconst (v := oI 1) (xd dX8_hearData 6 rfl) (by decide) ?_
    obtain ⟨o3, h⟩ := h
    refine zr_icmp_lt 25 (xd dX8_hearData 7 rfl) (by decide) o3 (by decide) (fun c4 => ?_) (fun c4 => ?_)
    · replace h := ifp h c4
      refine xr_iconst (v := oI 0) (xd dX8_hearData 12 rfl) (by decide) ?_
      exact xr_zret (xd dX8_hearData 13 rfl) rfl (zret_b (Or.inl rfl)) (by decide) (by decide) (fun _ => rfl) ⟨_, _, _, rfl, rfl, h⟩
    · replace h := ifn h c4
      refine xr_aload_n (xd dX8_hearData 8 rfl) 1 rfl ?_
      refine zr_getI 1 8 8 rfl (xd dX8_hearData 9 rfl) f8_191 (by decide) (by decide) (lt491 hn (by decide)) kd_3 rfl ?_
      refine xr_bipush (v := oI 60) (xd dX8_hearData 10 rfl) (by decide) ?_
      refine zr_icmp_le 27 (xd dX8_hearData 11 rfl) (by decide) o3 (by decide) (fun c5 => ?_) (fun c5 => ?_)
      · replace h := ifn h c5
        refine xr_iconst (v := oI 0) (xd dX8_hearData 14 rfl) (by decide) ?_
        refine xr_istore_n [(0, .ref e), (1, .ref 3), (2, .int (oI 0))] (xd dX8_hearData 15 rfl) rfl (by decide) rfl ?_
        refine h (fun x7 J8 L9 => xJ (xGm b dC dI cA ts) l mX8_hearData 0 0 (zQ1 n R Q) (fun _ _ => False) 0 0 29 [(0, .ref e), (1, .ref 3), (2, .int (oI x7))] [] al n R (zi J8) (li L9)) ?_
        intro x7 J8 L9 h
        show xJ _ _ _ _ _ _ _ _ _ 29 [(0, .ref e), (1, .ref 3), (2, .int (oI x7))] [] _ _ _ _ _
        refine xr_iload_n (xd dX8_hearData 16 rfl) 2 rfl ?_
        refine xr_aload_n (xd dX8_hearData 17 rfl) 1 rfl ?_
        refine zr_getI 1 8 8 rfl (xd dX8_hearData 18 rfl) f8_191 (by decide) (by decide) (lt491 hn (by decide)) kd_3 rfl ?_
        obtain ⟨o10, h⟩ := h
        obtain ⟨o11, h⟩ := h
        refine zr_icmp_ge 54 (xd dX8_hearData 19 rfl) (by decide) o10 o11 (fun c12 => ?_) (fun c12 => ?_)
        · replace h := ifn h c12
          refine xr_aload_n (xd dX8_hearData 29 rfl) 0 rfl ?_
          refine xr_getR (b := (e + 38)) 8 9 (xd dX8_hearData 30 rfl) f8_54 (by decide) (by decide) (lt491 hn (ltS0 he)) (kdS_0 he) rfl (rS_0_9 hR he) ?_
          refine zr_getI 4 5 5 rfl (xd dX8_hearData 31 rfl) f8_273 (by decide) (by decide) (lt491 hn (rows_lt0 (wr_hr he))) (rows_kd (wr_hr he)).1 rfl ?_
          refine xr_bipush (v := oI 100) (xd dX8_hearData 32 rfl) (by decide) ?_
          replace h := h (fun (J13 : zM) (L14 : yM) => xJ (xGm b dC dI cA ts) l mX8_hearData 0 0 (zQ1 n R Q) (fun _ _ => False) 0 0 74 [(0, .ref e), (1, .ref 3)] [] al n R (zi J13) (li L14)) (by
            intro J13 L14 h
            show xJ _ _ _ _ _ _ _ _ _ 74 [(0, .ref e), (1, .ref 3)] [] _ _ _ _ _
            refine xr_aload_n (xd dX8_hearData 38 rfl) 0 rfl ?_
            refine xr_getR (b := (e + 38)) 8 9 (xd dX8_hearData 39 rfl) f8_54 (by decide) (by decide) (lt491 hn (ltS0 he)) (kdS_0 he) rfl (rS_0_9 hR he) ?_
            refine xr_aload_n (xd dX8_hearData 40 rfl) 0 rfl ?_
            refine xr_getR (b := (e + 142)) 8 10 (xd dX8_hearData 41 rfl) f8_58 (by decide) (by decide) (lt491 hn (ltS0 he)) (kdS_0 he) rfl (rS_0_10 hR he) ?_
            refine xr_aload_n (xd dX8_hearData 42 rfl) 1 rfl ?_
            refine zr_getI 1 8 8 rfl (xd dX8_hearData 43 rfl) f8_191 (by decide) (by decide) (lt491 hn (by decide)) kd_3 rfl ?_
            refine xr_callV mX4_add 2 [.ref (e + 142), .int (oI (J13 3 8))] (xd dX8_hearData 44 rfl) l8_277 kX4_add rfl (lt491 hn (rows_lt0 (wr_hr he))) (rows_kd (wr_hr he)).1 (by decide) rfl (by decide) (Nat.le_of_ble_eq_true rfl) (v_X4_add hn hR (wr_hr he) (za_mk (kdS_142 he) (ltS he (by decide))) h) (by decide) (by decide) (fun r_ M_ h_ => ?_) (fun _ _ h_ => h_.elim)
            obtain ⟨r18, J16, L17, rfl, rfl, h⟩ := h_
            show xJ _ _ _ _ _ _ _ _ _ 89 [(0, .ref e), (1, .ref 3)] [.int (oI r18)] _ _ _ (zi J16) (li L17)
            refine xr_pop (xd dX8_hearData 45 rfl) rfl ?_
            refine xr_aload_n (xd dX8_hearData 46 rfl) 0 rfl ?_
            refine xr_dup (xd dX8_hearData 47 rfl) rfl ?_
            refine zr_getI 8 17 17 rfl (xd dX8_hearData 48 rfl) f8_118 (by decide) (by decide) (lt491 hn (ltS0 he)) (kdS_0 he) rfl ?_
            refine xr_iconst (v := oI 1) (xd dX8_hearData 49 rfl) (by decide) ?_
            refine zr_iadd (xd dX8_hearData 50 rfl) ?_
            obtain ⟨J19, e_J19⟩ : ∃ z_ : zM, z_ = zs J16 e 17 ((J16 e 17) + 1) := ⟨_, rfl⟩
            replace h := h J19 e_J19
            refine zr_putI 8 17 17 rfl e_J19 (xd dX8_hearData 51 rfl) f8_118 (by decide) (by decide) (lt491 hn (ltS0 he)) (kdS_0 he) (Or.inl rfl) rfl rfl (fun _ => rfl) ?_
            refine xr_aload_n (xd dX8_hearData 52 rfl) 0 rfl ?_
            refine xr_getR (b := (e + 8)) 8 4 (xd dX8_hearData 53 rfl) f8_21 (by decide) (by decide) (lt491 hn (ltS0 he)) (kdS_0 he) rfl (rS_0_4 hR he) ?_
            refine xr_iconst (v := oI 0) (xd dX8_hearData 54 rfl) (by decide) ?_
            obtain ⟨J20, e_J20⟩ : ∃ z_ : zM, z_ = zs J19 (e + 8) 13 0 := ⟨_, rfl⟩
            replace h := h J20 e_J20
            refine zr_putI 2 13 13 rfl e_J20 (xd dX8_hearData 55 rfl) f8_130 (by decide) (by decide) (lt491 hn (ltS he (by decide))) (kdS_8 he) (Or.inl rfl) (zret_b (Or.inl rfl)) (fits_b (Or.inl rfl)) (fun _ => rfl) ?_
            refine xr_iconst (v := oI 1) (xd dX8_hearData 56 rfl) (by decide) ?_
            exact xr_zret (xd dX8_hearData 57 rfl) rfl (zret_b (Or.inr rfl)) (by decide) (by decide) (fun _ => rfl) ⟨_, _, _, rfl, rfl, h⟩)
          obtain ⟨o21, h⟩ := h
          refine zr_icmp_ne 74 (xd dX8_hearData 33 rfl) (by decide) o21 (by decide) (fun c22 => ?_) (fun c22 => ?_)
          · replace h := ifn h c22
            refine xJ.pick (ls' := [(0, .ref e), (1, .ref 3)]) [0, 1] rfl ?_
            exact h
          · replace h := ifp h c22
            refine xr_aload_n (xd dX8_hearData 34 rfl) 0 rfl ?_
            refine xr_getR (b := (e + 38)) 8 9 (xd dX8_hearData 35 rfl) f8_54 (by decide) (by decide) (lt491 hn (ltS0 he)) (kdS_0 he) rfl (rS_0_9 hR he) ?_
            refine xr_iconst (v := oI 0) (xd dX8_hearData 36 rfl) (by decide) ?_
            refine xr_callV mX4_drop 1 [.int (oI 0)] (xd dX8_hearData 37 rfl) l8_274 kX4_drop rfl (lt491 hn (rows_lt0 (wr_hr he))) (rows_kd (wr_hr he)).1 (by decide) rfl (by decide) (Nat.le_of_ble_eq_true rfl) (v_X4_drop hn hR (wr_hr he) h) (by decide) (by decide) (fun r_ M_ h_ => ?_) (fun _ _ h_ => h_.elim)
            obtain ⟨J23, L24, rfl, rfl, h⟩ := h_
            show xJ _ _ _ _ _ _ _ _ _ 74 [(0, .ref e), (1, .ref 3), (2, .int (oI x7))] [] _ _ _ (zi J23) (li L24)
            refine xJ.pick (ls' := [(0, .ref e), (1, .ref 3)]) [0, 1] rfl ?_
            exact h
        · replace h := ifp h c12
          refine xr_aload_n (xd dX8_hearData 20 rfl) 0 rfl ?_
          refine xr_getR (b := (e + 142)) 8 10 (xd dX8_hearData 21 rfl) f8_58 (by decide) (by decide) (lt491 hn (ltS0 he)) (kdS_0 he) rfl (rS_0_10 hR he) ?_
          refine xr_iload_n (xd dX8_hearData 22 rfl) 2 rfl ?_
          refine xr_aload_n (xd dX8_hearData 23 rfl) 1 rfl ?_
          refine xr_iload_n (xd dX8_hearData 24 rfl) 2 rfl ?_
          refine xr_callV mX1_contentOctet 1 [.int (oI x7)] (xd dX8_hearData 25 rfl) l8_263 kX1_contentOctet rfl (lt491 hn (by decide)) kd_3 (by decide) rfl (by decide) (Nat.le_of_ble_eq_true rfl) (v_X1_contentOctet hn hR  h) (by decide) (by decide) (fun r_ M_ h_ => ?_) (fun _ _ h_ => h_.elim)
          obtain ⟨r27, J25, L26, rfl, rfl, h⟩ := h_
          show xJ _ _ _ _ _ _ _ _ _ 47 [(0, .ref e), (1, .ref 3), (2, .int (oI x7))] [.int (oI r27), .int (oI x7), .ref (e + 142)] _ _ _ (zi J25) (li L26)
          obtain ⟨o28, h⟩ := h
          obtain ⟨J29, e_J29⟩ : ∃ z_ : zM, z_ = zs J25 (e + 142) x7 r27 := ⟨_, rfl⟩
          replace h := h J29 e_J29
          refine zr_iastore e_J29 (xd dX8_hearData 26 rfl) (lt491 hn (ltS he (by decide))) (kdS_142 he) (lnS_142 he) (by decide) o28 ?_
          refine zr_iinc [(0, .ref e), (1, .ref 3), (2, .int (oI (x7 + 1)))] (xd dX8_hearData 27 rfl) 2 rfl (by decide) rfl ?_
          refine xr_goto 29 (xd dX8_hearData 28 rfl) (by decide) ?_
          exact h
      · replace h := ifp h c5
        refine xr_iconst (v := oI 0) (xd dX8_hearData 12 rfl) (by decide) ?_
        exact xr_zret (xd dX8_hearData 13 rfl) rfl (zret_b (Or.inl rfl)) (by decide) (by decide) (fun _ => rfl) ⟨_, _, _, rfl, rfl, h⟩
def w_X8_hear (e : Nat) (J : zM) (L : yM) (Q : Int → zM → yM → Prop) : Prop := ∀ K5 : Int → Int → zM → yM → Prop, (∀ (x1 : Int) (x2 : Int) (J3 : zM) (L4 : yM), (R32 x1 ∧ (if x1 = 0 then ∀ J8 : zM, J8 = zs J3 (e + 37) 0 ((J3 (e + 37) 0) + 1) → Q x2 J8 L4 else Q x2 J3 L4)) → K5 x1 x2 J3 L4) → ∀ K11 : zM → yM → Prop, (∀ (J9 : zM) (L10 : yM), (K5 0 0 J9 L10) → K11 J9 L10) → R32 (J 3 5) ∧ (if (J 3 5) = 21 then w_X8_hearAlert e J L (fun r16 J14 L15 => K5 r16 0 J14 L15) else (if (J 3 5) = 22 then w_X1_readFragment J L (fun r20 J18 L19 => ∀ K24 : Int → zM → yM → Prop, (∀ (x21 : Int) (J22 : zM) (L23 : yM), (∀ K28 : Int → zM → yM → Prop, (∀ (x25 : Int) (J26 : zM) (L27 : yM), (K5 x21 x25 J26 L27) → K28 x25 J26 L27) → R32 x21 ∧ (if x21 = 0 then K28 0 J22 L23 else w_X8_hearFragment e J22 L23 (fun r33 J31 L32 => K28 r33 J31 L32))) → K24 x21 J22 L23) → ∀ K36 : zM → yM → Prop, (∀ (J34 : zM) (L35 : yM), (K24 0 J34 L35) → K36 J34 L35) → R32 r20 ∧ (if r20 = 0 then K36 J18 L19 else w_X8_isSound e J18 L19 (fun r41 J39 L40 => R32 r41 ∧ (if r41 = 0 then K36 J39 L40 else w_X8_isToKeep e J39 L40 (fun r46 J44 L45 => ∀ K49 : zM → yM → Prop, (∀ (J47 : zM) (L48 : yM), (K24 1 J47 L48) → K49 J47 L48) → R32 r46 ∧ (if r46 = 0 then K49 J44 L45 else w_X8_agreesWithKept e J44 L45 (fun r54 J52 L53 => R32 r54 ∧ (if r54 = 0 then K36 J52 L53 else K49 J52 L53)))))))) else (if (J 3 5) = 23 then w_X8_hearData e J L (fun r60 J58 L59 => K5 r60 0 J58 L59) else (if (J 3 5) = 26 then w_X8_hearAck e J L (fun r64 J62 L63 => K5 r64 0 J62 L63) else K11 J L))))
set_option maxHeartbeats 4000000 in
set_option maxRecDepth 100000 in
theorem v_X8_hear {b : Nat} {dC : Nat → ClassId} {dI : Nat → Nat → Nat} {cA : Nat → ClassId} {ts : Nat → Nat} {l : Launch} {n : Nat} {R : Nat → Nat → Option Nat} {al : Bool} (hn : 491 ≤ n) (hR : xRk R) {e : Nat} (he : iSide e) {J : zM} {L : yM} {Q : Int → zM → yM → Prop} (h : w_X8_hear e J L Q) : xCn (xGm b dC dI cA ts) l mX8_hear [.ref e, .ref 3] al (n, R, zi J, li L) 0 0 (zQ1 n R Q) (fun _ _ => False) := by
  refine xCn.ofJ (by decide) (Nat.le_of_ble_eq_true rfl) ?_
  show xJ _ _ _ _ _ _ _ _ _ 0 [(0, .ref e), (1, .ref 3)] [] _ _ _ _ _
  unfold w_X8_hear at h
  refine xr_iconst (v := oI 0) (xd dX8_hear 0 rfl) (by decide) ?_
  refine xr_istore_n [(0, .ref e), (1, .ref 3), (3, .int (oI 0))] (xd dX8_hear 1 rfl) rfl (by decide) rfl ?_
  refine xr_aload_n (xd dX8_hear 2 rfl) 1 rfl ?_
  refine zr_getI 1 5 5 rfl (xd dX8_hear 3 rfl) f8_231 (by decide) (by decide) (lt491 hn (by decide)) kd_3 rfl ?_
  replace h := h (fun (x1 : Int) (x2 : Int) (J3 : zM) (L4 : yM) => xJ (xGm b dC dI cA ts) l mX8_hear 0 0 (zQ1 n R Q) (fun _ _ => False) 0 0 127 [(0, .ref e), (2, .int (oI x1)), (3, .int (oI x2))] [] al n R (zi J3) (li L4)) (by
    intro x1 x2 J3 L4 h
    show xJ _ _ _ _ _ _ _ _ _ 127 [(0, .ref e), (2, .int (oI x1)), (3, .int (oI x2))] [] _ _ _ _ _
    refine xr_iload_n (xd dX8_hear 50 rfl) 1 rfl ?_
    obtain ⟨o6, h⟩ := h
    refine zr_if_ne 141 (xd dX8_hear 51 rfl) (by decide) o6 (fun c7 => ?_) (fun c7 => ?_)
    · replace h := ifn h c7
      refine xr_iload_n (xd dX8_hear 60 rfl) 2 rfl ?_
      exact xr_iret (xd dX8_hear 61 rfl) rfl (by decide) (by decide) (fun _ => rfl) ⟨_, _, _, rfl, rfl, h⟩
    · replace h := ifp h c7
      refine xr_aload_n (xd dX8_hear 52 rfl) 0 rfl ?_
      refine xr_getR (b := (e + 37)) 8 8 (xd dX8_hear 53 rfl) f8_45 (by decide) (by decide) (lt491 hn (ltS0 he)) (kdS_0 he) rfl (rS_0_8 hR he) ?_
      refine xr_iconst (v := oI 0) (xd dX8_hear 54 rfl) (by decide) ?_
      refine xr_dup2 (xd dX8_hear 55 rfl) rfl rfl ?_
      refine zr_iaload (xd dX8_hear 56 rfl) (lt491 hn (ltS he (by decide))) (kdS_37 he) (lnS_37 he) (by decide) ⟨by decide, by decide⟩ ?_
      refine xr_iconst (v := oI 1) (xd dX8_hear 57 rfl) (by decide) ?_
      refine zr_iadd (xd dX8_hear 58 rfl) ?_
      obtain ⟨J8, e_J8⟩ : ∃ z_ : zM, z_ = zs J3 (e + 37) 0 ((J3 (e + 37) 0) + 1) := ⟨_, rfl⟩
      replace h := h J8 e_J8
      refine zr_iastore e_J8 (xd dX8_hear 59 rfl) (lt491 hn (ltS he (by decide))) (kdS_37 he) (lnS_37 he) (by decide) ⟨by decide, by decide⟩ ?_
      refine xr_iload_n (xd dX8_hear 60 rfl) 2 rfl ?_
      exact xr_iret (xd dX8_hear 61 rfl) rfl (by decide) (by decide) (fun _ => rfl) ⟨_, _, _, rfl, rfl, h⟩)
  replace h := h (fun (J9 : zM) (L10 : yM) => xJ (xGm b dC dI cA ts) l mX8_hear 0 0 (zQ1 n R Q) (fun _ _ => False) 0 0 125 [(0, .ref e), (3, .int (oI 0))] [] al n R (zi J9) (li L10)) (by
    intro J9 L10 h
    show xJ _ _ _ _ _ _ _ _ _ 125 [(0, .ref e), (3, .int (oI 0))] [] _ _ _ _ _
    refine xr_iconst (v := oI 0) (xd dX8_hear 48 rfl) (by decide) ?_
    refine xr_istore_n [(0, .ref e), (2, .int (oI 0)), (3, .int (oI 0))] (xd dX8_hear 49 rfl) rfl (by decide) rfl ?_
    exact h)
  obtain ⟨o12, h⟩ := h
  by_cases c13 : (J 3 5) = 21
  · replace h := ifp h c13
    refine zr_tab (off := 92) 98 (xd dX8_hear 4 rfl) o12 (by rw [c13]; rfl) (by decide) (by decide) ?_
    refine xr_aload_n (xd dX8_hear 33 rfl) 0 rfl ?_
    refine xr_aload_n (xd dX8_hear 34 rfl) 1 rfl ?_
    refine xr_callV mX8_hearAlert 1 [.ref 3] (xd dX8_hear 35 rfl) l8_254 kX8_hearAlert rfl (lt491 hn (ltS0 he)) (kdS_0 he) (by decide) rfl (by decide) (Nat.le_of_ble_eq_true rfl) (v_X8_hearAlert hn hR he h) (by decide) (by decide) (fun r_ M_ h_ => ?_) (fun _ _ h_ => h_.elim)
    obtain ⟨r16, J14, L15, rfl, rfl, h⟩ := h_
    show xJ _ _ _ _ _ _ _ _ _ 103 [(0, .ref e), (1, .ref 3), (3, .int (oI 0))] [.int (oI r16)] _ _ _ (zi J14) (li L15)
    refine xr_istore_n [(0, .ref e), (1, .ref 3), (2, .int (oI r16)), (3, .int (oI 0))] (xd dX8_hear 36 rfl) rfl (by decide) rfl ?_
    refine xr_goto 127 (xd dX8_hear 37 rfl) (by decide) ?_
    refine xJ.pick (ls' := [(0, .ref e), (2, .int (oI r16)), (3, .int (oI 0))]) [0, 2, 3] rfl ?_
    exact h
  replace h := ifn h c13
  by_cases c17 : (J 3 5) = 22
  · replace h := ifp h c17
    refine zr_tab (off := 38) 44 (xd dX8_hear 4 rfl) o12 (by rw [c17]; rfl) (by decide) (by decide) ?_
    refine xr_aload_n (xd dX8_hear 5 rfl) 1 rfl ?_
    refine xr_callV mX1_readFragment 0 [] (xd dX8_hear 6 rfl) l8_238 kX1_readFragment rfl (lt491 hn (by decide)) kd_3 (by decide) rfl (by decide) (Nat.le_of_ble_eq_true rfl) (v_X1_readFragment hn hR  h) (by decide) (by decide) (fun r_ M_ h_ => ?_) (fun _ _ h_ => h_.elim)
    obtain ⟨r20, J18, L19, rfl, rfl, h⟩ := h_
    show xJ _ _ _ _ _ _ _ _ _ 48 [(0, .ref e), (1, .ref 3), (3, .int (oI 0))] [.int (oI r20)] _ _ _ (zi J18) (li L19)
    replace h := h (fun (x21 : Int) (J22 : zM) (L23 : yM) => xJ (xGm b dC dI cA ts) l mX8_hear 0 0 (zQ1 n R Q) (fun _ _ => False) 0 0 80 [(0, .ref e), (1, .ref 3)] [.int (oI x21)] al n R (zi J22) (li L23)) (by
      intro x21 J22 L23 h
      show xJ _ _ _ _ _ _ _ _ _ 80 [(0, .ref e), (1, .ref 3)] [.int (oI x21)] _ _ _ _ _
      refine xr_istore_n [(0, .ref e), (1, .ref 3), (2, .int (oI x21))] (xd dX8_hear 23 rfl) rfl (by decide) rfl ?_
      refine xr_iload_n (xd dX8_hear 24 rfl) 2 rfl ?_
      replace h := h (fun (x25 : Int) (J26 : zM) (L27 : yM) => xJ (xGm b dC dI cA ts) l mX8_hear 0 0 (zQ1 n R Q) (fun _ _ => False) 0 0 94 [(0, .ref e), (2, .int (oI x21))] [.int (oI x25)] al n R (zi J26) (li L27)) (by
        intro x25 J26 L27 h
        show xJ _ _ _ _ _ _ _ _ _ 94 [(0, .ref e), (2, .int (oI x21))] [.int (oI x25)] _ _ _ _ _
        refine xr_istore_n [(0, .ref e), (2, .int (oI x21)), (3, .int (oI x25))] (xd dX8_hear 31 rfl) rfl (by decide) rfl ?_
        refine xr_goto 127 (xd dX8_hear 32 rfl) (by decide) ?_
        exact h)
      obtain ⟨o29, h⟩ := h
      refine zr_if_eq 93 (xd dX8_hear 25 rfl) (by decide) o29 (fun c30 => ?_) (fun c30 => ?_)
      · replace h := ifp h c30
        refine xr_iconst (v := oI 0) (xd dX8_hear 30 rfl) (by decide) ?_
        refine xJ.pick (ls' := [(0, .ref e), (2, .int (oI x21))]) [0, 2] rfl ?_
        exact h
      · replace h := ifn h c30
        refine xr_aload_n (xd dX8_hear 26 rfl) 0 rfl ?_
        refine xr_aload_n (xd dX8_hear 27 rfl) 1 rfl ?_
        refine xr_callV mX8_hearFragment 1 [.ref 3] (xd dX8_hear 28 rfl) l8_251 kX8_hearFragment rfl (lt491 hn (ltS0 he)) (kdS_0 he) (by decide) rfl (by decide) (Nat.le_of_ble_eq_true rfl) (v_X8_hearFragment hn hR he h) (by decide) (by decide) (fun r_ M_ h_ => ?_) (fun _ _ h_ => h_.elim)
        obtain ⟨r33, J31, L32, rfl, rfl, h⟩ := h_
        show xJ _ _ _ _ _ _ _ _ _ 90 [(0, .ref e), (1, .ref 3), (2, .int (oI x21))] [.int (oI r33)] _ _ _ (zi J31) (li L32)
        refine xr_goto 94 (xd dX8_hear 29 rfl) (by decide) ?_
        refine xJ.pick (ls' := [(0, .ref e), (2, .int (oI x21))]) [0, 2] rfl ?_
        exact h)
    replace h := h (fun (J34 : zM) (L35 : yM) => xJ (xGm b dC dI cA ts) l mX8_hear 0 0 (zQ1 n R Q) (fun _ _ => False) 0 0 79 [(0, .ref e), (1, .ref 3)] [] al n R (zi J34) (li L35)) (by
      intro J34 L35 h
      show xJ _ _ _ _ _ _ _ _ _ 79 [(0, .ref e), (1, .ref 3)] [] _ _ _ _ _
      refine xr_iconst (v := oI 0) (xd dX8_hear 22 rfl) (by decide) ?_
      exact h)
    obtain ⟨o37, h⟩ := h
    refine zr_if_eq 79 (xd dX8_hear 7 rfl) (by decide) o37 (fun c38 => ?_) (fun c38 => ?_)
    · replace h := ifp h c38
      refine xJ.pick (ls' := [(0, .ref e), (1, .ref 3)]) [0, 1] rfl ?_
      exact h
    · replace h := ifn h c38
      refine xr_aload_n (xd dX8_hear 8 rfl) 0 rfl ?_
      refine xr_aload_n (xd dX8_hear 9 rfl) 1 rfl ?_
      refine xr_callV mX8_isSound 1 [.ref 3] (xd dX8_hear 10 rfl) l8_241 kX8_isSound rfl (lt491 hn (ltS0 he)) (kdS_0 he) (by decide) rfl (by decide) (Nat.le_of_ble_eq_true rfl) (v_X8_isSound hn hR he h) (by decide) (by decide) (fun r_ M_ h_ => ?_) (fun _ _ h_ => h_.elim)
      obtain ⟨r41, J39, L40, rfl, rfl, h⟩ := h_
      show xJ _ _ _ _ _ _ _ _ _ 56 [(0, .ref e), (1, .ref 3), (3, .int (oI 0))] [.int (oI r41)] _ _ _ (zi J39) (li L40)
      obtain ⟨o42, h⟩ := h
      refine zr_if_eq 79 (xd dX8_hear 11 rfl) (by decide) o42 (fun c43 => ?_) (fun c43 => ?_)
      · replace h := ifp h c43
        refine xJ.pick (ls' := [(0, .ref e), (1, .ref 3)]) [0, 1] rfl ?_
        exact h
      · replace h := ifn h c43
        refine xr_aload_n (xd dX8_hear 12 rfl) 0 rfl ?_
        refine xr_aload_n (xd dX8_hear 13 rfl) 1 rfl ?_
        refine xr_callV mX8_isToKeep 1 [.ref 3] (xd dX8_hear 14 rfl) l8_245 kX8_isToKeep rfl (lt491 hn (ltS0 he)) (kdS_0 he) (by decide) rfl (by decide) (Nat.le_of_ble_eq_true rfl) (v_X8_isToKeep hn hR he h) (by decide) (by decide) (fun r_ M_ h_ => ?_) (fun _ _ h_ => h_.elim)
        obtain ⟨r46, J44, L45, rfl, rfl, h⟩ := h_
        show xJ _ _ _ _ _ _ _ _ _ 64 [(0, .ref e), (1, .ref 3), (3, .int (oI 0))] [.int (oI r46)] _ _ _ (zi J44) (li L45)
        replace h := h (fun (J47 : zM) (L48 : yM) => xJ (xGm b dC dI cA ts) l mX8_hear 0 0 (zQ1 n R Q) (fun _ _ => False) 0 0 75 [(0, .ref e), (1, .ref 3)] [] al n R (zi J47) (li L48)) (by
          intro J47 L48 h
          show xJ _ _ _ _ _ _ _ _ _ 75 [(0, .ref e), (1, .ref 3)] [] _ _ _ _ _
          refine xr_iconst (v := oI 1) (xd dX8_hear 20 rfl) (by decide) ?_
          refine xr_goto 80 (xd dX8_hear 21 rfl) (by decide) ?_
          exact h)
        obtain ⟨o50, h⟩ := h
        refine zr_if_eq 75 (xd dX8_hear 15 rfl) (by decide) o50 (fun c51 => ?_) (fun c51 => ?_)
        · replace h := ifp h c51
          refine xJ.pick (ls' := [(0, .ref e), (1, .ref 3)]) [0, 1] rfl ?_
          exact h
        · replace h := ifn h c51
          refine xr_aload_n (xd dX8_hear 16 rfl) 0 rfl ?_
          refine xr_aload_n (xd dX8_hear 17 rfl) 1 rfl ?_
          refine xr_callV mX8_agreesWithKept 1 [.ref 3] (xd dX8_hear 18 rfl) l8_248 kX8_agreesWithKept rfl (lt491 hn (ltS0 he)) (kdS_0 he) (by decide) rfl (by decide) (Nat.le_of_ble_eq_true rfl) (v_X8_agreesWithKept hn hR he h) (by decide) (by decide) (fun r_ M_ h_ => ?_) (fun _ _ h_ => h_.elim)
          obtain ⟨r54, J52, L53, rfl, rfl, h⟩ := h_
          show xJ _ _ _ _ _ _ _ _ _ 72 [(0, .ref e), (1, .ref 3), (3, .int (oI 0))] [.int (oI r54)] _ _ _ (zi J52) (li L53)
          obtain ⟨o55, h⟩ := h
          refine zr_if_eq 79 (xd dX8_hear 19 rfl) (by decide) o55 (fun c56 => ?_) (fun c56 => ?_)
          · replace h := ifp h c56
            refine xJ.pick (ls' := [(0, .ref e), (1, .ref 3)]) [0, 1] rfl ?_
            exact h
          · replace h := ifn h c56
            refine xJ.pick (ls' := [(0, .ref e), (1, .ref 3)]) [0, 1] rfl ?_
            exact h
  replace h := ifn h c17
  by_cases c57 : (J 3 5) = 23
  · replace h := ifp h c57
    refine zr_tab (off := 110) 116 (xd dX8_hear 4 rfl) o12 (by rw [c57]; rfl) (by decide) (by decide) ?_
    refine xr_aload_n (xd dX8_hear 43 rfl) 0 rfl ?_
    refine xr_aload_n (xd dX8_hear 44 rfl) 1 rfl ?_
    refine xr_callV mX8_hearData 1 [.ref 3] (xd dX8_hear 45 rfl) l8_260 kX8_hearData rfl (lt491 hn (ltS0 he)) (kdS_0 he) (by decide) rfl (by decide) (Nat.le_of_ble_eq_true rfl) (v_X8_hearData hn hR he h) (by decide) (by decide) (fun r_ M_ h_ => ?_) (fun _ _ h_ => h_.elim)
    obtain ⟨r60, J58, L59, rfl, rfl, h⟩ := h_
    show xJ _ _ _ _ _ _ _ _ _ 121 [(0, .ref e), (1, .ref 3), (3, .int (oI 0))] [.int (oI r60)] _ _ _ (zi J58) (li L59)
    refine xr_istore_n [(0, .ref e), (1, .ref 3), (2, .int (oI r60)), (3, .int (oI 0))] (xd dX8_hear 46 rfl) rfl (by decide) rfl ?_
    refine xr_goto 127 (xd dX8_hear 47 rfl) (by decide) ?_
    refine xJ.pick (ls' := [(0, .ref e), (2, .int (oI r60)), (3, .int (oI 0))]) [0, 2, 3] rfl ?_
    exact h
  replace h := ifn h c57
  by_cases c61 : (J 3 5) = 26
  · replace h := ifp h c61
    refine zr_tab (off := 101) 107 (xd dX8_hear 4 rfl) o12 (by rw [c61]; rfl) (by decide) (by decide) ?_
    refine xr_aload_n (xd dX8_hear 38 rfl) 0 rfl ?_
    refine xr_aload_n (xd dX8_hear 39 rfl) 1 rfl ?_
    refine xr_callV mX8_hearAck 1 [.ref 3] (xd dX8_hear 40 rfl) l8_257 kX8_hearAck rfl (lt491 hn (ltS0 he)) (kdS_0 he) (by decide) rfl (by decide) (Nat.le_of_ble_eq_true rfl) (v_X8_hearAck hn hR he h) (by decide) (by decide) (fun r_ M_ h_ => ?_) (fun _ _ h_ => h_.elim)
    obtain ⟨r64, J62, L63, rfl, rfl, h⟩ := h_
    show xJ _ _ _ _ _ _ _ _ _ 112 [(0, .ref e), (1, .ref 3), (3, .int (oI 0))] [.int (oI r64)] _ _ _ (zi J62) (li L63)
    refine xr_istore_n [(0, .ref e), (1, .ref 3), (2, .int (oI r64)), (3, .int (oI 0))] (xd dX8_hear 41 rfl) rfl (by decide) rfl ?_
    refine xr_goto 127 (xd dX8_hear 42 rfl) (by decide) ?_
    refine xJ.pick (ls' := [(0, .ref e), (2, .int (oI r64)), (3, .int (oI 0))]) [0, 2, 3] rfl ?_
    exact h
  replace h := ifn h c61
  refine zr_tab (off := 119) 125 (xd dX8_hear 4 rfl) o12 (by unfold tabOff; split <;> first | rfl | (exfalso; omega) | (rcases (show (J 3 5) = 24 ∨ (J 3 5) = 25 by omega) with q | q <;> rw [q] <;> rfl)) (by decide) (by decide) ?_
  refine xJ.pick (ls' := [(0, .ref e), (3, .int (oI 0))]) [0, 2] rfl ?_
  exact h
def w_X8_cookieInto (e : Nat) (p2 : Nat) (J : zM) (L : yM) (Q : zM → yM → Prop) : Prop := w_X7_clear J L (fun J1 L2 => w_X7_putAll 4 (J1 3 14) 16 J1 L2 (fun J3 L4 => w_X7_macInto (e + 4) p2 J3 L4 (fun J5 L6 => Q J5 L6)))
set_option maxHeartbeats 4000000 in
set_option maxRecDepth 100000 in
theorem v_X8_cookieInto {b : Nat} {dC : Nat → ClassId} {dI : Nat → Nat → Nat} {cA : Nat → ClassId} {ts : Nat → Nat} {l : Launch} {n : Nat} {R : Nat → Nat → Option Nat} {al : Bool} (hn : 491 ≤ n) (hR : xRk R) {e : Nat} {p2 : Nat} (he : iSide e) (h_p2 : za p2) {J : zM} {L : yM} {Q : zM → yM → Prop} (h : w_X8_cookieInto e p2 J L Q) : xCn (xGm b dC dI cA ts) l mX8_cookieInto [.ref e, .ref 3, .ref p2] al (n, R, zi J, li L) 0 0 (zQ0 n R Q) (fun _ _ => False) := by
  refine xCn.ofJ (by decide) (Nat.le_of_ble_eq_true rfl) ?_
  show xJ _ _ _ _ _ _ _ _ _ 0 [(0, .ref e), (1, .ref 3), (2, .ref p2)] [] _ _ _ _ _
  unfold w_X8_cookieInto at h
  refine xr_aload_n (xd dX8_cookieInto 0 rfl) 0 rfl ?_
  refine xr_getR (b := (e + 144)) 8 2 (xd dX8_cookieInto 1 rfl) f8_73 (by decide) (by decide) (lt491 hn (ltS0 he)) (kdS_0 he) rfl (rS_0_2 hR he) ?_
  refine xr_getR (b := 6) 5 0 (xd dX8_cookieInto 2 rfl) f8_346 (by decide) (by decide) (lt491 hn (ltS he (by decide))) (kdS_144 he) rfl (rS_144_0 hR he) ?_
  refine xr_astore_n [(0, .ref e), (1, .ref 3), (2, .ref p2), (3, .ref 6)] (xd dX8_cookieInto 3 rfl) rfl (by decide) rfl ?_
  refine xr_aload_n (xd dX8_cookieInto 4 rfl) 3 rfl ?_
  refine xr_callV mX7_clear 0 [] (xd dX8_cookieInto 5 rfl) l8_350 kX7_clear rfl (lt491 hn (by decide)) kd_6 (by decide) rfl (by decide) (Nat.le_of_ble_eq_true rfl) (v_X7_clear hn hR  h) (by decide) (by decide) (fun r_ M_ h_ => ?_) (fun _ _ h_ => h_.elim)
  obtain ⟨J1, L2, rfl, rfl, h⟩ := h_
  show xJ _ _ _ _ _ _ _ _ _ 12 [(0, .ref e), (1, .ref 3), (2, .ref p2), (3, .ref 6)] [] _ _ _ (zi J1) (li L2)
  refine xr_aload_n (xd dX8_cookieInto 6 rfl) 3 rfl ?_
  refine xr_aload_n (xd dX8_cookieInto 7 rfl) 1 rfl ?_
  refine xr_getR (b := 4) 1 0 (xd dX8_cookieInto 8 rfl) f8_197 (by decide) (by decide) (lt491 hn (by decide)) kd_3 rfl (r_3_0 hR) ?_
  refine xr_aload_n (xd dX8_cookieInto 9 rfl) 1 rfl ?_
  refine zr_getI 1 14 14 rfl (xd dX8_cookieInto 10 rfl) f8_322 (by decide) (by decide) (lt491 hn (by decide)) kd_3 rfl ?_
  refine xr_bipush (v := oI 16) (xd dX8_cookieInto 11 rfl) (by decide) ?_
  refine xr_callV mX7_putAll 3 [.ref 4, .int (oI (J1 3 14)), .int (oI 16)] (xd dX8_cookieInto 12 rfl) l8_355 kX7_putAll rfl (lt491 hn (by decide)) kd_6 (by decide) rfl (by decide) (Nat.le_of_ble_eq_true rfl) (v_X7_putAll hn hR (za_mk kd_4 (by decide)) h) (by decide) (by decide) (fun r_ M_ h_ => ?_) (fun _ _ h_ => h_.elim)
  obtain ⟨J3, L4, rfl, rfl, h⟩ := h_
  show xJ _ _ _ _ _ _ _ _ _ 26 [(0, .ref e), (1, .ref 3), (2, .ref p2), (3, .ref 6)] [] _ _ _ (zi J3) (li L4)
  refine xr_aload_n (xd dX8_cookieInto 13 rfl) 3 rfl ?_
  refine xr_aload_n (xd dX8_cookieInto 14 rfl) 0 rfl ?_
  refine xr_getR (b := (e + 1)) 8 1 (xd dX8_cookieInto 15 rfl) f8_12 (by decide) (by decide) (lt491 hn (ltS0 he)) (kdS_0 he) rfl (rS_0_1 hR he) ?_
  refine xr_getR (b := (e + 4)) 9 2 (xd dX8_cookieInto 16 rfl) f8_358 (by decide) (by decide) (lt491 hn (ltS he (by decide))) (kdS_1 he) rfl (rS_1_2 hR he) ?_
  refine xr_aload_n (xd dX8_cookieInto 17 rfl) 2 rfl ?_
  refine xr_callV mX7_macInto 2 [.ref (e + 4), .ref p2] (xd dX8_cookieInto 18 rfl) l8_361 kX7_macInto rfl (lt491 hn (by decide)) kd_6 (by decide) rfl (by decide) (Nat.le_of_ble_eq_true rfl) (v_X7_macInto hn hR (za_mk (kdS_4 he) (ltS he (by decide))) (za_mk h_p2.1 h_p2.2) h) (by decide) (by decide) (fun r_ M_ h_ => ?_) (fun _ _ h_ => h_.elim)
  obtain ⟨J5, L6, rfl, rfl, h⟩ := h_
  show xJ _ _ _ _ _ _ _ _ _ 38 [(0, .ref e), (1, .ref 3), (2, .ref p2), (3, .ref 6)] [] _ _ _ (zi J5) (li L6)
  exact xr_vret (xd dX8_cookieInto 19 rfl) rfl (by decide) (by decide) (fun _ => rfl) ⟨_, _, rfl, rfl, h⟩
def w_X8_judgeHello (e : Nat) (J : zM) (L : yM) (Q : Int → zM → yM → Prop) : Prop := ((0 : Int) ≤ ((J 3 14) + 16) ∧ ((J 3 14) + 16) < 500) ∧ ∀ x2 : Int, x2 = (J 4 ((J 3 14) + 16)) → R32 x2 ∧ R32 ((J 3 10) - 61) ∧ (if x2 = ((J 3 10) - 61) then ∀ K8 : zM → yM → Prop, (∀ (J6 : zM) (L7 : yM), (∀ x9 : Int, x9 = (((J6 3 14) + (J6 3 10)) - 32) → w_X11_sameOctets (e + 3) 0 4 (x9 - 8) 8 J6 L7 (fun r12 J10 L11 => R32 r12 ∧ (if r12 = 0 then Q 40 J10 L11 else w_X5_startWithHello e 4 (J10 3 14) (J10 3 10) J10 L11 (fun J15 L16 => w_X5_binderInto e (e + 2) (e + 143) J15 L16 (fun J17 L18 => w_X11_sameOctets (e + 143) 0 4 x9 32 J17 L18 (fun r21 J19 L20 => R32 r21 ∧ (if r21 = 0 then Q 51 J19 L20 else Q 0 J19 L20))))))) → K8 J6 L7) → R32 (J (e + 1) 5) ∧ (if (J (e + 1) 5) = 0 then K8 J L else w_X8_cookieInto e (e + 143) J L (fun J26 L27 => ∀ x28 : Int, x28 = (((J26 3 14) + 16) + 1) → R32 x2 ∧ (if x2 = 0 then Q 1000 J26 L27 else w_X11_sameOctets (e + 143) 0 4 x28 16 J26 L27 (fun r33 J31 L32 => R32 r33 ∧ (if r33 = 0 then Q 1000 J31 L32 else K8 J31 L32))))) else Q 10 J L)
set_option maxHeartbeats 4000000 in
set_option maxRecDepth 100000 in
theorem v_X8_judgeHello {b : Nat} {dC : Nat → ClassId} {dI : Nat → Nat → Nat} {cA : Nat → ClassId} {ts : Nat → Nat} {l : Launch} {n : Nat} {R : Nat → Nat → Option Nat} {al : Bool} (hn : 491 ≤ n) (hR : xRk R) {e : Nat} (he : iSide e) {J : zM} {L : yM} {Q : Int → zM → yM → Prop} (h : w_X8_judgeHello e J L Q) : xCn (xGm b dC dI cA ts) l mX8_judgeHello [.ref e, .ref 3] al (n, R, zi J, li L) 0 0 (zQ1 n R Q) (fun _ _ => False) := by
  refine xCn.ofJ (by decide) (Nat.le_of_ble_eq_true rfl) ?_
  show xJ _ _ _ _ _ _ _ _ _ 0 [(0, .ref e), (1, .ref 3)] [] _ _ _ _ _
  unfold w_X8_judgeHello at h
  refine xr_aload_n (xd dX8_judgeHello 0 rfl) 1 rfl ?_
  refine xr_getR (b := 4) 1 0 (xd dX8_judgeHello 1 rfl) f8_197 (by decide) (by decide) (lt491 hn (by decide)) kd_3 rfl (r_3_0 hR) ?_
  refine xr_aload_n (xd dX8_judgeHello 2 rfl) 1 rfl ?_
  refine zr_getI 1 14 14 rfl (xd dX8_judgeHello 3 rfl) f8_322 (by decide) (by decide) (lt491 hn (by decide)) kd_3 rfl ?_
  refine xr_bipush (v := oI 16) (xd dX8_judgeHello 4 rfl) (by decide) ?_
  refine zr_iadd (xd dX8_judgeHello 5 rfl) ?_
  obtain ⟨o1, h⟩ := h
  refine zr_iaload (xd dX8_judgeHello 6 rfl) (lt491 hn (by decide)) kd_4 ln_4 (by decide) o1 ?_
  obtain ⟨x2, e_x2⟩ : ∃ z_ : Int, z_ = (J 4 ((J 3 14) + 16)) := ⟨_, rfl⟩
  replace h := h x2 e_x2
  refine zr_nm e_x2 ?_
  refine xr_istore_n [(0, .ref e), (1, .ref 3), (2, .int (oI x2))] (xd dX8_judgeHello 7 rfl) rfl (by decide) rfl ?_
  refine xr_iload_n (xd dX8_judgeHello 8 rfl) 2 rfl ?_
  refine xr_aload_n (xd dX8_judgeHello 9 rfl) 1 rfl ?_
  refine zr_getI 1 10 10 rfl (xd dX8_judgeHello 10 rfl) f8_287 (by decide) (by decide) (lt491 hn (by decide)) kd_3 rfl ?_
  refine xr_bipush (v := oI 61) (xd dX8_judgeHello 11 rfl) (by decide) ?_
  refine zr_isub (xd dX8_judgeHello 12 rfl) ?_
  obtain ⟨o3, h⟩ := h
  obtain ⟨o4, h⟩ := h
  refine zr_icmp_eq 27 (xd dX8_judgeHello 13 rfl) (by decide) o3 o4 (fun c5 => ?_) (fun c5 => ?_)
  · replace h := ifp h c5
    refine xr_aload_n (xd dX8_judgeHello 16 rfl) 0 rfl ?_
    refine xr_getR (b := (e + 1)) 8 1 (xd dX8_judgeHello 17 rfl) f8_12 (by decide) (by decide) (lt491 hn (ltS0 he)) (kdS_0 he) rfl (rS_0_1 hR he) ?_
    refine zr_getI 9 5 5 rfl (xd dX8_judgeHello 18 rfl) f8_325 (by decide) (by decide) (lt491 hn (ltS he (by decide))) (kdS_1 he) rfl ?_
    replace h := h (fun (J6 : zM) (L7 : yM) => xJ (xGm b dC dI cA ts) l mX8_judgeHello 0 0 (zQ1 n R Q) (fun _ _ => False) 0 0 82 [(0, .ref e), (1, .ref 3)] [] al n R (zi J6) (li L7)) (by
      intro J6 L7 h
      show xJ _ _ _ _ _ _ _ _ _ 82 [(0, .ref e), (1, .ref 3)] [] _ _ _ _ _
      refine xr_aload_n (xd dX8_judgeHello 45 rfl) 1 rfl ?_
      refine zr_getI 1 14 14 rfl (xd dX8_judgeHello 46 rfl) f8_322 (by decide) (by decide) (lt491 hn (by decide)) kd_3 rfl ?_
      refine xr_aload_n (xd dX8_judgeHello 47 rfl) 1 rfl ?_
      refine zr_getI 1 10 10 rfl (xd dX8_judgeHello 48 rfl) f8_287 (by decide) (by decide) (lt491 hn (by decide)) kd_3 rfl ?_
      refine zr_iadd (xd dX8_judgeHello 49 rfl) ?_
      refine xr_bipush (v := oI 32) (xd dX8_judgeHello 50 rfl) (by decide) ?_
      refine zr_isub (xd dX8_judgeHello 51 rfl) ?_
      obtain ⟨x9, e_x9⟩ : ∃ z_ : Int, z_ = (((J6 3 14) + (J6 3 10)) - 32) := ⟨_, rfl⟩
      replace h := h x9 e_x9
      refine zr_nm e_x9 ?_
      refine xr_istore_n [(0, .ref e), (1, .ref 3), (3, .int (oI x9))] (xd dX8_judgeHello 52 rfl) rfl (by decide) rfl ?_
      refine xr_aload_n (xd dX8_judgeHello 53 rfl) 0 rfl ?_
      refine xr_getR (b := (e + 1)) 8 1 (xd dX8_judgeHello 54 rfl) f8_12 (by decide) (by decide) (lt491 hn (ltS0 he)) (kdS_0 he) rfl (rS_0_1 hR he) ?_
      refine xr_getR (b := (e + 3)) 9 1 (xd dX8_judgeHello 55 rfl) f8_332 (by decide) (by decide) (lt491 hn (ltS he (by decide))) (kdS_1 he) rfl (rS_1_1 hR he) ?_
      refine xr_iconst (v := oI 0) (xd dX8_judgeHello 56 rfl) (by decide) ?_
      refine xr_aload_n (xd dX8_judgeHello 57 rfl) 1 rfl ?_
      refine xr_getR (b := 4) 1 0 (xd dX8_judgeHello 58 rfl) f8_197 (by decide) (by decide) (lt491 hn (by decide)) kd_3 rfl (r_3_0 hR) ?_
      refine xr_iload_n (xd dX8_judgeHello 59 rfl) 2 rfl ?_
      refine xr_bipush (v := oI 8) (xd dX8_judgeHello 60 rfl) (by decide) ?_
      refine zr_isub (xd dX8_judgeHello 61 rfl) ?_
      refine xr_bipush (v := oI 8) (xd dX8_judgeHello 62 rfl) (by decide) ?_
      refine xr_callSN mX11_sameOctets 5 [.ref (e + 3), .int (oI 0), .ref 4, .int (oI (x9 - 8)), .int (oI 8)] (xd dX8_judgeHello 63 rfl) n8_220 kX11_sameOctets rfl (by decide) (Nat.le_of_ble_eq_true rfl) (v_X11_sameOctets hn hR (za_mk (kdS_3 he) (ltS he (by decide))) (za_mk kd_4 (by decide)) h) (by decide) (by decide) (fun r_ M_ h_ => ?_)
      obtain ⟨r12, J10, L11, rfl, rfl, h⟩ := h_
      show xJ _ _ _ _ _ _ _ _ _ 116 [(0, .ref e), (1, .ref 3), (3, .int (oI x9))] [.int (oI r12)] _ _ _ (zi J10) (li L11)
      obtain ⟨o13, h⟩ := h
      refine zr_if_ne 122 (xd dX8_judgeHello 64 rfl) (by decide) o13 (fun c14 => ?_) (fun c14 => ?_)
      · replace h := ifn h c14
        refine xr_aload_n (xd dX8_judgeHello 67 rfl) 0 rfl ?_
        refine xr_getR (b := (e + 144)) 8 2 (xd dX8_judgeHello 68 rfl) f8_73 (by decide) (by decide) (lt491 hn (ltS0 he)) (kdS_0 he) rfl (rS_0_2 hR he) ?_
        refine xr_aload_n (xd dX8_judgeHello 69 rfl) 1 rfl ?_
        refine xr_getR (b := 4) 1 0 (xd dX8_judgeHello 70 rfl) f8_197 (by decide) (by decide) (lt491 hn (by decide)) kd_3 rfl (r_3_0 hR) ?_
        refine xr_aload_n (xd dX8_judgeHello 71 rfl) 1 rfl ?_
        refine zr_getI 1 14 14 rfl (xd dX8_judgeHello 72 rfl) f8_322 (by decide) (by decide) (lt491 hn (by decide)) kd_3 rfl ?_
        refine xr_aload_n (xd dX8_judgeHello 73 rfl) 1 rfl ?_
        refine zr_getI 1 10 10 rfl (xd dX8_judgeHello 74 rfl) f8_287 (by decide) (by decide) (lt491 hn (by decide)) kd_3 rfl ?_
        refine xr_callV mX5_startWithHello 3 [.ref 4, .int (oI (J10 3 14)), .int (oI (J10 3 10))] (xd dX8_judgeHello 75 rfl) l8_335 kX5_startWithHello rfl (lt491 hn (ltS he (by decide))) (kdS_144 he) (by decide) rfl (by decide) (Nat.le_of_ble_eq_true rfl) (v_X5_startWithHello hn hR he (za_mk kd_4 (by decide)) h) (by decide) (by decide) (fun r_ M_ h_ => ?_) (fun _ _ h_ => h_.elim)
        obtain ⟨J15, L16, rfl, rfl, h⟩ := h_
        show xJ _ _ _ _ _ _ _ _ _ 141 [(0, .ref e), (1, .ref 3), (3, .int (oI x9))] [] _ _ _ (zi J15) (li L16)
        refine xr_aload_n (xd dX8_judgeHello 76 rfl) 0 rfl ?_
        refine xr_getR (b := (e + 144)) 8 2 (xd dX8_judgeHello 77 rfl) f8_73 (by decide) (by decide) (lt491 hn (ltS0 he)) (kdS_0 he) rfl (rS_0_2 hR he) ?_
        refine xr_aload_n (xd dX8_judgeHello 78 rfl) 0 rfl ?_
        refine xr_getR (b := (e + 1)) 8 1 (xd dX8_judgeHello 79 rfl) f8_12 (by decide) (by decide) (lt491 hn (ltS0 he)) (kdS_0 he) rfl (rS_0_1 hR he) ?_
        refine xr_getR (b := (e + 2)) 9 0 (xd dX8_judgeHello 80 rfl) f8_339 (by decide) (by decide) (lt491 hn (ltS he (by decide))) (kdS_1 he) rfl (rS_1_0 hR he) ?_
        refine xr_aload_n (xd dX8_judgeHello 81 rfl) 0 rfl ?_
        refine xr_getR (b := (e + 143)) 8 11 (xd dX8_judgeHello 82 rfl) f8_61 (by decide) (by decide) (lt491 hn (ltS0 he)) (kdS_0 he) rfl (rS_0_11 hR he) ?_
        refine xr_callV mX5_binderInto 2 [.ref (e + 2), .ref (e + 143)] (xd dX8_judgeHello 83 rfl) l8_342 kX5_binderInto rfl (lt491 hn (ltS he (by decide))) (kdS_144 he) (by decide) rfl (by decide) (Nat.le_of_ble_eq_true rfl) (v_X5_binderInto hn hR he (za_mk (kdS_2 he) (ltS he (by decide))) (za_mk (kdS_143 he) (ltS he (by decide))) h) (by decide) (by decide) (fun r_ M_ h_ => ?_) (fun _ _ h_ => h_.elim)
        obtain ⟨J17, L18, rfl, rfl, h⟩ := h_
        show xJ _ _ _ _ _ _ _ _ _ 159 [(0, .ref e), (1, .ref 3), (3, .int (oI x9))] [] _ _ _ (zi J17) (li L18)
        refine xr_aload_n (xd dX8_judgeHello 84 rfl) 0 rfl ?_
        refine xr_getR (b := (e + 143)) 8 11 (xd dX8_judgeHello 85 rfl) f8_61 (by decide) (by decide) (lt491 hn (ltS0 he)) (kdS_0 he) rfl (rS_0_11 hR he) ?_
        refine xr_iconst (v := oI 0) (xd dX8_judgeHello 86 rfl) (by decide) ?_
        refine xr_aload_n (xd dX8_judgeHello 87 rfl) 1 rfl ?_
        refine xr_getR (b := 4) 1 0 (xd dX8_judgeHello 88 rfl) f8_197 (by decide) (by decide) (lt491 hn (by decide)) kd_3 rfl (r_3_0 hR) ?_
        refine xr_iload_n (xd dX8_judgeHello 89 rfl) 2 rfl ?_
        refine xr_bipush (v := oI 32) (xd dX8_judgeHello 90 rfl) (by decide) ?_
        refine xr_callSN mX11_sameOctets 5 [.ref (e + 143), .int (oI 0), .ref 4, .int (oI x9), .int (oI 32)] (xd dX8_judgeHello 91 rfl) n8_220 kX11_sameOctets rfl (by decide) (Nat.le_of_ble_eq_true rfl) (v_X11_sameOctets hn hR (za_mk (kdS_143 he) (ltS he (by decide))) (za_mk kd_4 (by decide)) h) (by decide) (by decide) (fun r_ M_ h_ => ?_)
        obtain ⟨r21, J19, L20, rfl, rfl, h⟩ := h_
        show xJ _ _ _ _ _ _ _ _ _ 174 [(0, .ref e), (1, .ref 3), (3, .int (oI x9))] [.int (oI r21)] _ _ _ (zi J19) (li L20)
        obtain ⟨o22, h⟩ := h
        refine zr_if_eq 181 (xd dX8_judgeHello 92 rfl) (by decide) o22 (fun c23 => ?_) (fun c23 => ?_)
        · replace h := ifp h c23
          refine xr_bipush (v := oI 51) (xd dX8_judgeHello 95 rfl) (by decide) ?_
          exact xr_iret (xd dX8_judgeHello 96 rfl) rfl (by decide) (by decide) (fun _ => rfl) ⟨_, _, _, rfl, rfl, h⟩
        · replace h := ifn h c23
          refine xr_iconst (v := oI 0) (xd dX8_judgeHello 93 rfl) (by decide) ?_
          refine xr_goto 183 (xd dX8_judgeHello 94 rfl) (by decide) ?_
          exact xr_iret (xd dX8_judgeHello 96 rfl) rfl (by decide) (by decide) (fun _ => rfl) ⟨_, _, _, rfl, rfl, h⟩
      · replace h := ifp h c14
        refine xr_bipush (v := oI 40) (xd dX8_judgeHello 65 rfl) (by decide) ?_
        exact xr_iret (xd dX8_judgeHello 66 rfl) rfl (by decide) (by decide) (fun _ => rfl) ⟨_, _, _, rfl, rfl, h⟩)
    obtain ⟨o24, h⟩ := h
    refine zr_if_eq 82 (xd dX8_judgeHello 19 rfl) (by decide) o24 (fun c25 => ?_) (fun c25 => ?_)
    · replace h := ifp h c25
      refine xJ.pick (ls' := [(0, .ref e), (1, .ref 3)]) [0, 1] rfl ?_
      exact h
    · replace h := ifn h c25
      refine xr_aload_n (xd dX8_judgeHello 20 rfl) 0 rfl ?_
      refine xr_aload_n (xd dX8_judgeHello 21 rfl) 1 rfl ?_
      refine xr_aload_n (xd dX8_judgeHello 22 rfl) 0 rfl ?_
      refine xr_getR (b := (e + 143)) 8 11 (xd dX8_judgeHello 23 rfl) f8_61 (by decide) (by decide) (lt491 hn (ltS0 he)) (kdS_0 he) rfl (rS_0_11 hR he) ?_
      refine xr_callV mX8_cookieInto 2 [.ref 3, .ref (e + 143)] (xd dX8_judgeHello 24 rfl) l8_328 kX8_cookieInto rfl (lt491 hn (ltS0 he)) (kdS_0 he) (by decide) rfl (by decide) (Nat.le_of_ble_eq_true rfl) (v_X8_cookieInto hn hR he (za_mk (kdS_143 he) (ltS he (by decide))) h) (by decide) (by decide) (fun r_ M_ h_ => ?_) (fun _ _ h_ => h_.elim)
      obtain ⟨J26, L27, rfl, rfl, h⟩ := h_
      show xJ _ _ _ _ _ _ _ _ _ 46 [(0, .ref e), (1, .ref 3), (2, .int (oI x2))] [] _ _ _ (zi J26) (li L27)
      refine xr_aload_n (xd dX8_judgeHello 25 rfl) 1 rfl ?_
      refine zr_getI 1 14 14 rfl (xd dX8_judgeHello 26 rfl) f8_322 (by decide) (by decide) (lt491 hn (by decide)) kd_3 rfl ?_
      refine xr_bipush (v := oI 16) (xd dX8_judgeHello 27 rfl) (by decide) ?_
      refine zr_iadd (xd dX8_judgeHello 28 rfl) ?_
      refine xr_iconst (v := oI 1) (xd dX8_judgeHello 29 rfl) (by decide) ?_
      refine zr_iadd (xd dX8_judgeHello 30 rfl) ?_
      obtain ⟨x28, e_x28⟩ : ∃ z_ : Int, z_ = (((J26 3 14) + 16) + 1) := ⟨_, rfl⟩
      replace h := h x28 e_x28
      refine zr_nm e_x28 ?_
      refine xr_istore_n [(0, .ref e), (1, .ref 3), (2, .int (oI x2)), (3, .int (oI x28))] (xd dX8_judgeHello 31 rfl) rfl (by decide) rfl ?_
      refine xr_iload_n (xd dX8_judgeHello 32 rfl) 2 rfl ?_
      obtain ⟨o29, h⟩ := h
      refine zr_if_eq 78 (xd dX8_judgeHello 33 rfl) (by decide) o29 (fun c30 => ?_) (fun c30 => ?_)
      · replace h := ifp h c30
        refine xr_sipush (v := oI 1000) (xd dX8_judgeHello 43 rfl) (by decide) ?_
        exact xr_iret (xd dX8_judgeHello 44 rfl) rfl (by decide) (by decide) (fun _ => rfl) ⟨_, _, _, rfl, rfl, h⟩
      · replace h := ifn h c30
        refine xr_aload_n (xd dX8_judgeHello 34 rfl) 0 rfl ?_
        refine xr_getR (b := (e + 143)) 8 11 (xd dX8_judgeHello 35 rfl) f8_61 (by decide) (by decide) (lt491 hn (ltS0 he)) (kdS_0 he) rfl (rS_0_11 hR he) ?_
        refine xr_iconst (v := oI 0) (xd dX8_judgeHello 36 rfl) (by decide) ?_
        refine xr_aload_n (xd dX8_judgeHello 37 rfl) 1 rfl ?_
        refine xr_getR (b := 4) 1 0 (xd dX8_judgeHello 38 rfl) f8_197 (by decide) (by decide) (lt491 hn (by decide)) kd_3 rfl (r_3_0 hR) ?_
        refine xr_iload_n (xd dX8_judgeHello 39 rfl) 3 rfl ?_
        refine xr_bipush (v := oI 16) (xd dX8_judgeHello 40 rfl) (by decide) ?_
        refine xr_callSN mX11_sameOctets 5 [.ref (e + 143), .int (oI 0), .ref 4, .int (oI x28), .int (oI 16)] (xd dX8_judgeHello 41 rfl) n8_220 kX11_sameOctets rfl (by decide) (Nat.le_of_ble_eq_true rfl) (v_X11_sameOctets hn hR (za_mk (kdS_143 he) (ltS he (by decide))) (za_mk kd_4 (by decide)) h) (by decide) (by decide) (fun r_ M_ h_ => ?_)
        obtain ⟨r33, J31, L32, rfl, rfl, h⟩ := h_
        show xJ _ _ _ _ _ _ _ _ _ 75 [(0, .ref e), (1, .ref 3), (2, .int (oI x2)), (3, .int (oI x28))] [.int (oI r33)] _ _ _ (zi J31) (li L32)
        obtain ⟨o34, h⟩ := h
        refine zr_if_ne 82 (xd dX8_judgeHello 42 rfl) (by decide) o34 (fun c35 => ?_) (fun c35 => ?_)
        · replace h := ifn h c35
          refine xJ.pick (ls' := [(0, .ref e), (1, .ref 3)]) [0, 1] rfl ?_
          exact h
        · replace h := ifp h c35
          refine xr_sipush (v := oI 1000) (xd dX8_judgeHello 43 rfl) (by decide) ?_
          exact xr_iret (xd dX8_judgeHello 44 rfl) rfl (by decide) (by decide) (fun _ => rfl) ⟨_, _, _, rfl, rfl, h⟩
  · replace h := ifn h c5
    refine xr_bipush (v := oI 10) (xd dX8_judgeHello 14 rfl) (by decide) ?_
    exact xr_iret (xd dX8_judgeHello 15 rfl) rfl (by decide) (by decide) (fun _ => rfl) ⟨_, _, _, rfl, rfl, h⟩
def w_X8_sendRetry (e : Nat) (J : zM) (L : yM) (Q : zM → yM → Prop) : Prop := w_X8_putFragmentHead e 6 16 (J 3 11) 0 16 J L (fun J1 L2 => ((0 : Int) ≤ 0 ∧ (0 : Int) ≤ 8 ∧ (0 : Int) ≤ 16 ∧ (0 + 16 : Int) ≤ 32 ∧ (8 + 16 : Int) ≤ 500) ∧ ∀ J4 : zM, J4 = zcp J1 (e + 143) 0 (e + 170) 8 16 → w_X6_putRecord e 0 22 24 J4 L2 (fun r7 J5 L6 => w_X6_flush e J5 L6 (fun J8 L9 => Q J8 L9)))
set_option maxHeartbeats 4000000 in
set_option maxRecDepth 100000 in
theorem v_X8_sendRetry {b : Nat} {dC : Nat → ClassId} {dI : Nat → Nat → Nat} {cA : Nat → ClassId} {ts : Nat → Nat} {l : Launch} {n : Nat} {R : Nat → Nat → Option Nat} {al : Bool} (hn : 491 ≤ n) (hR : xRk R) {e : Nat} (he : iSide e) {J : zM} {L : yM} {Q : zM → yM → Prop} (h : w_X8_sendRetry e J L Q) : xCn (xGm b dC dI cA ts) l mX8_sendRetry [.ref e, .ref 3] al (n, R, zi J, li L) 0 0 (zQ0 n R Q) (fun _ _ => False) := by
  refine xCn.ofJ (by decide) (Nat.le_of_ble_eq_true rfl) ?_
  show xJ _ _ _ _ _ _ _ _ _ 0 [(0, .ref e), (1, .ref 3)] [] _ _ _ _ _
  unfold w_X8_sendRetry at h
  refine xr_aload_n (xd dX8_sendRetry 0 rfl) 0 rfl ?_
  refine xr_bipush (v := oI 6) (xd dX8_sendRetry 1 rfl) (by decide) ?_
  refine xr_bipush (v := oI 16) (xd dX8_sendRetry 2 rfl) (by decide) ?_
  refine xr_aload_n (xd dX8_sendRetry 3 rfl) 1 rfl ?_
  refine zr_getI 1 11 11 rfl (xd dX8_sendRetry 4 rfl) f8_290 (by decide) (by decide) (lt491 hn (by decide)) kd_3 rfl ?_
  refine xr_iconst (v := oI 0) (xd dX8_sendRetry 5 rfl) (by decide) ?_
  refine xr_bipush (v := oI 16) (xd dX8_sendRetry 6 rfl) (by decide) ?_
  refine xr_callV mX8_putFragmentHead 5 [.int (oI 6), .int (oI 16), .int (oI (J 3 11)), .int (oI 0), .int (oI 16)] (xd dX8_sendRetry 7 rfl) l8_364 kX8_putFragmentHead rfl (lt491 hn (ltS0 he)) (kdS_0 he) (by decide) rfl (by decide) (Nat.le_of_ble_eq_true rfl) (v_X8_putFragmentHead hn hR he h) (by decide) (by decide) (fun r_ M_ h_ => ?_) (fun _ _ h_ => h_.elim)
  obtain ⟨J1, L2, rfl, rfl, h⟩ := h_
  show xJ _ _ _ _ _ _ _ _ _ 15 [(0, .ref e), (1, .ref 3)] [] _ _ _ (zi J1) (li L2)
  refine xr_aload_n (xd dX8_sendRetry 8 rfl) 0 rfl ?_
  refine xr_getR (b := (e + 143)) 8 11 (xd dX8_sendRetry 9 rfl) f8_61 (by decide) (by decide) (lt491 hn (ltS0 he)) (kdS_0 he) rfl (rS_0_11 hR he) ?_
  refine xr_iconst (v := oI 0) (xd dX8_sendRetry 10 rfl) (by decide) ?_
  refine xr_aload_n (xd dX8_sendRetry 11 rfl) 0 rfl ?_
  refine xr_getR (b := (e + 168)) 8 3 (xd dX8_sendRetry 12 rfl) f8_82 (by decide) (by decide) (lt491 hn (ltS0 he)) (kdS_0 he) rfl (rS_0_3 hR he) ?_
  refine xr_getR (b := (e + 170)) 6 4 (xd dX8_sendRetry 13 rfl) f8_368 (by decide) (by decide) (lt491 hn (ltS he (by decide))) (kdS_168 he) rfl (rS_168_4 hR he) ?_
  refine xr_bipush (v := oI 8) (xd dX8_sendRetry 14 rfl) (by decide) ?_
  refine xr_bipush (v := oI 16) (xd dX8_sendRetry 15 rfl) (by decide) ?_
  obtain ⟨o3, h⟩ := h
  obtain ⟨J4, e_J4⟩ : ∃ z_ : zM, z_ = zcp J1 (e + 143) 0 (e + 170) 8 16 := ⟨_, rfl⟩
  replace h := h J4 e_J4
  refine zr_acopy e_J4 (xd dX8_sendRetry 16 rfl) l8_371 (lt491 hn (ltS he (by decide))) (kdS_143 he) (lnS_143 he) (by decide) (lt491 hn (ltS he (by decide))) (kdS_170 he) (lnS_170 he) (by decide) o3.1 o3.2.1 o3.2.2.1 o3.2.2.2.1 o3.2.2.2.2 ⟨Nat.le_of_ble_eq_true rfl, Nat.le_of_ble_eq_true rfl⟩ ?_
  refine xr_aload_n (xd dX8_sendRetry 17 rfl) 0 rfl ?_
  refine xr_getR (b := (e + 168)) 8 3 (xd dX8_sendRetry 18 rfl) f8_82 (by decide) (by decide) (lt491 hn (ltS0 he)) (kdS_0 he) rfl (rS_0_3 hR he) ?_
  refine xr_iconst (v := oI 0) (xd dX8_sendRetry 19 rfl) (by decide) ?_
  refine xr_bipush (v := oI 22) (xd dX8_sendRetry 20 rfl) (by decide) ?_
  refine xr_bipush (v := oI 24) (xd dX8_sendRetry 21 rfl) (by decide) ?_
  refine xr_callV mX6_putRecord 3 [.int (oI 0), .int (oI 22), .int (oI 24)] (xd dX8_sendRetry 22 rfl) l8_377 kX6_putRecord rfl (lt491 hn (ltS he (by decide))) (kdS_168 he) (by decide) rfl (by decide) (Nat.le_of_ble_eq_true rfl) (v_X6_putRecord hn hR he h) (by decide) (by decide) (fun r_ M_ h_ => ?_) (fun _ _ h_ => h_.elim)
  obtain ⟨r7, J5, L6, rfl, rfl, h⟩ := h_
  show xJ _ _ _ _ _ _ _ _ _ 46 [(0, .ref e), (1, .ref 3)] [.int (oI r7)] _ _ _ (zi J5) (li L6)
  refine xr_pop (xd dX8_sendRetry 23 rfl) rfl ?_
  refine xr_aload_n (xd dX8_sendRetry 24 rfl) 0 rfl ?_
  refine xr_getR (b := (e + 168)) 8 3 (xd dX8_sendRetry 25 rfl) f8_82 (by decide) (by decide) (lt491 hn (ltS0 he)) (kdS_0 he) rfl (rS_0_3 hR he) ?_
  refine xr_callV mX6_flush 0 [] (xd dX8_sendRetry 26 rfl) l8_381 kX6_flush rfl (lt491 hn (ltS he (by decide))) (kdS_168 he) (by decide) rfl (by decide) (Nat.le_of_ble_eq_true rfl) (v_X6_flush hn hR he h) (by decide) (by decide) (fun r_ M_ h_ => ?_) (fun _ _ h_ => h_.elim)
  obtain ⟨J8, L9, rfl, rfl, h⟩ := h_
  show xJ _ _ _ _ _ _ _ _ _ 54 [(0, .ref e), (1, .ref 3)] [] _ _ _ (zi J8) (li L9)
  exact xr_vret (xd dX8_sendRetry 27 rfl) rfl (by decide) (by decide) (fun _ => rfl) ⟨_, _, rfl, rfl, h⟩
def w_X8_sendAlert (e : Nat) (p1 : Int) (J : zM) (L : yM) (Q : zM → yM → Prop) : Prop := w_X8_noteAlert e p1 J L (fun J1 L2 => ∀ J3 : zM, J3 = zs J1 (e + 170) 0 p1 → w_X6_putRecord e (J3 (e + 144) 11) 21 1 J3 L2 (fun r6 J4 L5 => w_X6_flush e J4 L5 (fun J7 L8 => Q J7 L8)))
set_option maxHeartbeats 4000000 in
set_option maxRecDepth 100000 in
theorem v_X8_sendAlert {b : Nat} {dC : Nat → ClassId} {dI : Nat → Nat → Nat} {cA : Nat → ClassId} {ts : Nat → Nat} {l : Launch} {n : Nat} {R : Nat → Nat → Option Nat} {al : Bool} (hn : 491 ≤ n) (hR : xRk R) {e : Nat} {p1 : Int} (he : iSide e) {J : zM} {L : yM} {Q : zM → yM → Prop} (h : w_X8_sendAlert e p1 J L Q) : xCn (xGm b dC dI cA ts) l mX8_sendAlert [.ref e, .int (oI p1)] al (n, R, zi J, li L) 0 0 (zQ0 n R Q) (fun _ _ => False) := by
  refine xCn.ofJ (by decide) (Nat.le_of_ble_eq_true rfl) ?_
  show xJ _ _ _ _ _ _ _ _ _ 0 [(0, .ref e), (1, .int (oI p1))] [] _ _ _ _ _
  unfold w_X8_sendAlert at h
  refine xr_aload_n (xd dX8_sendAlert 0 rfl) 0 rfl ?_
  refine xr_iload_n (xd dX8_sendAlert 1 rfl) 1 rfl ?_
  refine xr_callV mX8_noteAlert 1 [.int (oI p1)] (xd dX8_sendAlert 2 rfl) l8_267 kX8_noteAlert rfl (lt491 hn (ltS0 he)) (kdS_0 he) (by decide) rfl (by decide) (Nat.le_of_ble_eq_true rfl) (v_X8_noteAlert hn hR he h) (by decide) (by decide) (fun r_ M_ h_ => ?_) (fun _ _ h_ => h_.elim)
  obtain ⟨J1, L2, rfl, rfl, h⟩ := h_
  show xJ _ _ _ _ _ _ _ _ _ 5 [(0, .ref e), (1, .int (oI p1))] [] _ _ _ (zi J1) (li L2)
  refine xr_aload_n (xd dX8_sendAlert 3 rfl) 0 rfl ?_
  refine xr_getR (b := (e + 168)) 8 3 (xd dX8_sendAlert 4 rfl) f8_82 (by decide) (by decide) (lt491 hn (ltS0 he)) (kdS_0 he) rfl (rS_0_3 hR he) ?_
  refine xr_getR (b := (e + 170)) 6 4 (xd dX8_sendAlert 5 rfl) f8_368 (by decide) (by decide) (lt491 hn (ltS he (by decide))) (kdS_168 he) rfl (rS_168_4 hR he) ?_
  refine xr_iconst (v := oI 0) (xd dX8_sendAlert 6 rfl) (by decide) ?_
  refine xr_iload_n (xd dX8_sendAlert 7 rfl) 1 rfl ?_
  obtain ⟨J3, e_J3⟩ : ∃ z_ : zM, z_ = zs J1 (e + 170) 0 p1 := ⟨_, rfl⟩
  replace h := h J3 e_J3
  refine zr_iastore e_J3 (xd dX8_sendAlert 8 rfl) (lt491 hn (ltS he (by decide))) (kdS_170 he) (lnS_170 he) (by decide) ⟨by decide, by decide⟩ ?_
  refine xr_aload_n (xd dX8_sendAlert 9 rfl) 0 rfl ?_
  refine xr_getR (b := (e + 168)) 8 3 (xd dX8_sendAlert 10 rfl) f8_82 (by decide) (by decide) (lt491 hn (ltS0 he)) (kdS_0 he) rfl (rS_0_3 hR he) ?_
  refine xr_aload_n (xd dX8_sendAlert 11 rfl) 0 rfl ?_
  refine xr_getR (b := (e + 144)) 8 2 (xd dX8_sendAlert 12 rfl) f8_73 (by decide) (by decide) (lt491 hn (ltS0 he)) (kdS_0 he) rfl (rS_0_2 hR he) ?_
  refine zr_getI 5 11 11 rfl (xd dX8_sendAlert 13 rfl) f8_190 (by decide) (by decide) (lt491 hn (ltS he (by decide))) (kdS_144 he) rfl ?_
  refine xr_bipush (v := oI 21) (xd dX8_sendAlert 14 rfl) (by decide) ?_
  refine xr_iconst (v := oI 1) (xd dX8_sendAlert 15 rfl) (by decide) ?_
  refine xr_callV mX6_putRecord 3 [.int (oI (J3 (e + 144) 11)), .int (oI 21), .int (oI 1)] (xd dX8_sendAlert 16 rfl) l8_377 kX6_putRecord rfl (lt491 hn (ltS he (by decide))) (kdS_168 he) (by decide) rfl (by decide) (Nat.le_of_ble_eq_true rfl) (v_X6_putRecord hn hR he h) (by decide) (by decide) (fun r_ M_ h_ => ?_) (fun _ _ h_ => h_.elim)
  obtain ⟨r6, J4, L5, rfl, rfl, h⟩ := h_
  show xJ _ _ _ _ _ _ _ _ _ 32 [(0, .ref e), (1, .int (oI p1))] [.int (oI r6)] _ _ _ (zi J4) (li L5)
  refine xr_pop (xd dX8_sendAlert 17 rfl) rfl ?_
  refine xr_aload_n (xd dX8_sendAlert 18 rfl) 0 rfl ?_
  refine xr_getR (b := (e + 168)) 8 3 (xd dX8_sendAlert 19 rfl) f8_82 (by decide) (by decide) (lt491 hn (ltS0 he)) (kdS_0 he) rfl (rS_0_3 hR he) ?_
  refine xr_callV mX6_flush 0 [] (xd dX8_sendAlert 20 rfl) l8_381 kX6_flush rfl (lt491 hn (ltS he (by decide))) (kdS_168 he) (by decide) rfl (by decide) (Nat.le_of_ble_eq_true rfl) (v_X6_flush hn hR he h) (by decide) (by decide) (fun r_ M_ h_ => ?_) (fun _ _ h_ => h_.elim)
  obtain ⟨J7, L8, rfl, rfl, h⟩ := h_
  show xJ _ _ _ _ _ _ _ _ _ 40 [(0, .ref e), (1, .int (oI p1))] [] _ _ _ (zi J7) (li L8)
  exact xr_vret (xd dX8_sendAlert 21 rfl) rfl (by decide) (by decide) (fun _ => rfl) ⟨_, _, rfl, rfl, h⟩
def w_X8_addToFlight (e : Nat) (p1 : Int) (p2 : Int) (p3 : Int) (J : zM) (L : yM) (Q : zM → yM → Prop) : Prop := w_X2_addMessage e p1 p2 (e + 142) p3 J L (fun J1 L2 => w_X5_addMessage e p1 (e + 142) 0 p3 J1 L2 (fun J3 L4 => Q J3 L4))
set_option maxHeartbeats 4000000 in
set_option maxRecDepth 100000 in
theorem v_X8_addToFlight {b : Nat} {dC : Nat → ClassId} {dI : Nat → Nat → Nat} {cA : Nat → ClassId} {ts : Nat → Nat} {l : Launch} {n : Nat} {R : Nat → Nat → Option Nat} {al : Bool} (hn : 491 ≤ n) (hR : xRk R) {e : Nat} {p1 : Int} {p2 : Int} {p3 : Int} (he : iSide e) {J : zM} {L : yM} {Q : zM → yM → Prop} (h : w_X8_addToFlight e p1 p2 p3 J L Q) : xCn (xGm b dC dI cA ts) l mX8_addToFlight [.ref e, .int (oI p1), .int (oI p2), .int (oI p3)] al (n, R, zi J, li L) 0 0 (zQ0 n R Q) (fun _ _ => False) := by
  refine xCn.ofJ (by decide) (Nat.le_of_ble_eq_true rfl) ?_
  show xJ _ _ _ _ _ _ _ _ _ 0 [(0, .ref e), (1, .int (oI p1)), (2, .int (oI p2)), (3, .int (oI p3))] [] _ _ _ _ _
  unfold w_X8_addToFlight at h
  refine xr_aload_n (xd dX8_addToFlight 0 rfl) 0 rfl ?_
  refine xr_getR (b := (e + 8)) 8 4 (xd dX8_addToFlight 1 rfl) f8_21 (by decide) (by decide) (lt491 hn (ltS0 he)) (kdS_0 he) rfl (rS_0_4 hR he) ?_
  refine xr_iload_n (xd dX8_addToFlight 2 rfl) 1 rfl ?_
  refine xr_iload_n (xd dX8_addToFlight 3 rfl) 2 rfl ?_
  refine xr_aload_n (xd dX8_addToFlight 4 rfl) 0 rfl ?_
  refine xr_getR (b := (e + 142)) 8 10 (xd dX8_addToFlight 5 rfl) f8_58 (by decide) (by decide) (lt491 hn (ltS0 he)) (kdS_0 he) rfl (rS_0_10 hR he) ?_
  refine xr_iload_n (xd dX8_addToFlight 6 rfl) 3 rfl ?_
  refine xr_callV mX2_addMessage 4 [.int (oI p1), .int (oI p2), .ref (e + 142), .int (oI p3)] (xd dX8_addToFlight 7 rfl) l8_439 kX2_addMessage rfl (lt491 hn (ltS he (by decide))) (kdS_8 he) (by decide) rfl (by decide) (Nat.le_of_ble_eq_true rfl) (v_X2_addMessage hn hR he (za_mk (kdS_142 he) (ltS he (by decide))) h) (by decide) (by decide) (fun r_ M_ h_ => ?_) (fun _ _ h_ => h_.elim)
  obtain ⟨J1, L2, rfl, rfl, h⟩ := h_
  show xJ _ _ _ _ _ _ _ _ _ 14 [(0, .ref e), (1, .int (oI p1)), (2, .int (oI p2)), (3, .int (oI p3))] [] _ _ _ (zi J1) (li L2)
  refine xr_aload_n (xd dX8_addToFlight 8 rfl) 0 rfl ?_
  refine xr_getR (b := (e + 144)) 8 2 (xd dX8_addToFlight 9 rfl) f8_73 (by decide) (by decide) (lt491 hn (ltS0 he)) (kdS_0 he) rfl (rS_0_2 hR he) ?_
  refine xr_iload_n (xd dX8_addToFlight 10 rfl) 1 rfl ?_
  refine xr_aload_n (xd dX8_addToFlight 11 rfl) 0 rfl ?_
  refine xr_getR (b := (e + 142)) 8 10 (xd dX8_addToFlight 12 rfl) f8_58 (by decide) (by decide) (lt491 hn (ltS0 he)) (kdS_0 he) rfl (rS_0_10 hR he) ?_
  refine xr_iconst (v := oI 0) (xd dX8_addToFlight 13 rfl) (by decide) ?_
  refine xr_iload_n (xd dX8_addToFlight 14 rfl) 3 rfl ?_
  refine xr_callV mX5_addMessage 4 [.int (oI p1), .ref (e + 142), .int (oI 0), .int (oI p3)] (xd dX8_addToFlight 15 rfl) l8_443 kX5_addMessage rfl (lt491 hn (ltS he (by decide))) (kdS_144 he) (by decide) rfl (by decide) (Nat.le_of_ble_eq_true rfl) (v_X5_addMessage hn hR he (za_mk (kdS_142 he) (ltS he (by decide))) h) (by decide) (by decide) (fun r_ M_ h_ => ?_) (fun _ _ h_ => h_.elim)
  obtain ⟨J3, L4, rfl, rfl, h⟩ := h_
  show xJ _ _ _ _ _ _ _ _ _ 28 [(0, .ref e), (1, .int (oI p1)), (2, .int (oI p2)), (3, .int (oI p3))] [] _ _ _ (zi J3) (li L4)
  exact xr_vret (xd dX8_addToFlight 16 rfl) rfl (by decide) (by decide) (fun _ => rfl) ⟨_, _, rfl, rfl, h⟩
def w_X8_composeAnswer (e : Nat) (J : zM) (L : yM) (Q : zM → yM → Prop) : Prop := w_X11_wordAt 4 ((((J 3 14) + (J 3 10)) - 32) - 12) J L (fun r3 J1 L2 => w_X9_drawRandom e (J1 e 0) (e + 143) J1 L2 (fun J4 L5 => ∀ K8 : zM → yM → Prop, (∀ (J6 : zM) (L7 : yM), (∀ K12 : Int → zM → yM → Prop, (∀ (x9 : Int) (J10 : zM) (L11 : yM), (w_X2_startAnew e J10 L11 (fun J13 L14 => ((0 : Int) ≤ 0 ∧ (0 : Int) ≤ 0 ∧ (0 : Int) ≤ 16 ∧ (0 + 16 : Int) ≤ 16 ∧ (0 + 16 : Int) ≤ 152) ∧ ∀ J16 : zM, J16 = zcp J13 (e + 6) 0 (e + 142) 0 16 → w_X11_putWord (J16 (e + 1) 12) (e + 142) 16 J16 L14 (fun J17 L18 => w_X8_addToFlight e 2 (J17 3 11) 20 J17 L18 (fun J19 L20 => w_X5_enterHandshake e (e + 2) x9 J19 L20 (fun J21 L22 => ∀ J23 : zM, J23 = zs J21 (e + 142) 0 (zush (J21 (e + 1) 7) 8) → ∀ J24 : zM, J24 = zs J23 (e + 142) 1 (zand (J23 (e + 1) 7) 255) → ((0 : Int) ≤ 0 ∧ (0 : Int) ≤ 2 ∧ (0 : Int) ≤ (J24 (e + 1) 4) ∧ (0 + (J24 (e + 1) 4) : Int) ≤ 150 ∧ (2 + (J24 (e + 1) 4) : Int) ≤ 152) ∧ ∀ J26 : zM, J26 = zcp J24 (e + 5) 0 (e + 142) 2 (J24 (e + 1) 4) → w_X8_addToFlight e 8 ((J26 3 11) + 1) (2 + (J26 (e + 1) 4)) J26 L22 (fun J27 L28 => w_X5_finishedInto e 1 (e + 142) J27 L28 (fun J29 L30 => w_X8_addToFlight e 20 ((J29 3 11) + 2) 32 J29 L30 (fun J31 L32 => w_X5_enterData e J31 L32 (fun J33 L34 => ∀ J35 : zM, J35 = zs J33 e 14 ((J33 3 11) + 1) → ∀ J36 : zM, J36 = zs J35 e 12 1 → Q J36 L34))))))))) → K12 x9 J10 L11) → R32 (J6 (e + 1) 12) ∧ (if (J6 (e + 1) 12) = 0 then K12 0 J6 L7 else w_X11_power r3 (L7 (e + 1) 13) J6 L7 (fun r41 J39 L40 => K12 (zl2i r41) J39 L40))) → K8 J6 L7) → (if (zcmp r3 0) = 0 then K8 J4 L5 else R32 (J4 (e + 1) 6) ∧ (if (J4 (e + 1) 6) = 0 then K8 J4 L5 else w_X9_drawShare e (J4 e 0) (e + 143) J4 L5 (fun J45 L46 => K8 J45 L46)))))
set_option maxHeartbeats 4000000 in
set_option maxRecDepth 100000 in
theorem v_X8_composeAnswer {b : Nat} {dC : Nat → ClassId} {dI : Nat → Nat → Nat} {cA : Nat → ClassId} {ts : Nat → Nat} {l : Launch} {n : Nat} {R : Nat → Nat → Option Nat} {al : Bool} (hn : 491 ≤ n) (hR : xRk R) {e : Nat} (he : iSide e) {J : zM} {L : yM} {Q : zM → yM → Prop} (h : w_X8_composeAnswer e J L Q) : xCn (xGm b dC dI cA ts) l mX8_composeAnswer [.ref e, .ref 3] al (n, R, zi J, li L) 0 0 (zQ0 n R Q) (fun _ _ => False) := by
  refine xCn.ofJ (by decide) (Nat.le_of_ble_eq_true rfl) ?_
  show xJ _ _ _ _ _ _ _ _ _ 0 [(0, .ref e), (1, .ref 3)] [] _ _ _ _ _
  unfold w_X8_composeAnswer at h
  refine xr_aload_n (xd dX8_composeAnswer 0 rfl) 1 rfl ?_
  refine xr_getR (b := 4) 1 0 (xd dX8_composeAnswer 1 rfl) f8_197 (by decide) (by decide) (lt491 hn (by decide)) kd_3 rfl (r_3_0 hR) ?_
  refine xr_aload_n (xd dX8_composeAnswer 2 rfl) 1 rfl ?_
  refine zr_getI 1 14 14 rfl (xd dX8_composeAnswer 3 rfl) f8_322 (by decide) (by decide) (lt491 hn (by decide)) kd_3 rfl ?_
  refine xr_aload_n (xd dX8_composeAnswer 4 rfl) 1 rfl ?_
  refine zr_getI 1 10 10 rfl (xd dX8_composeAnswer 5 rfl) f8_287 (by decide) (by decide) (lt491 hn (by decide)) kd_3 rfl ?_
  refine zr_iadd (xd dX8_composeAnswer 6 rfl) ?_
  refine xr_bipush (v := oI 32) (xd dX8_composeAnswer 7 rfl) (by decide) ?_
  refine zr_isub (xd dX8_composeAnswer 8 rfl) ?_
  refine xr_bipush (v := oI 12) (xd dX8_composeAnswer 9 rfl) (by decide) ?_
  refine zr_isub (xd dX8_composeAnswer 10 rfl) ?_
  refine xr_callSN mX11_wordAt 2 [.ref 4, .int (oI ((((J 3 14) + (J 3 10)) - 32) - 12))] (xd dX8_composeAnswer 11 rfl) n8_384 kX11_wordAt rfl (by decide) (Nat.le_of_ble_eq_true rfl) (v_X11_wordAt hn hR (za_mk kd_4 (by decide)) h) (by decide) (by decide) (fun r_ M_ h_ => ?_)
  obtain ⟨r3, J1, L2, rfl, rfl, h⟩ := h_
  show xJ _ _ _ _ _ _ _ _ _ 22 [(0, .ref e), (1, .ref 3)] [.long r3] _ _ _ (zi J1) (li L2)
  refine xr_lstore_n [(0, .ref e), (1, .ref 3), (2, .long r3)] (xd dX8_composeAnswer 12 rfl) rfl (by decide) rfl ?_
  refine xr_aload_n (xd dX8_composeAnswer 13 rfl) 0 rfl ?_
  refine xr_getR (b := (e + 1)) 8 1 (xd dX8_composeAnswer 14 rfl) f8_12 (by decide) (by decide) (lt491 hn (ltS0 he)) (kdS_0 he) rfl (rS_0_1 hR he) ?_
  refine xr_aload_n (xd dX8_composeAnswer 15 rfl) 0 rfl ?_
  refine xr_getR (b := (e + 144)) 8 2 (xd dX8_composeAnswer 16 rfl) f8_73 (by decide) (by decide) (lt491 hn (ltS0 he)) (kdS_0 he) rfl (rS_0_2 hR he) ?_
  refine xr_getR (b := 6) 5 0 (xd dX8_composeAnswer 17 rfl) f8_346 (by decide) (by decide) (lt491 hn (ltS he (by decide))) (kdS_144 he) rfl (rS_144_0 hR he) ?_
  refine xr_aload_n (xd dX8_composeAnswer 18 rfl) 0 rfl ?_
  refine zr_getI 8 0 0 rfl (xd dX8_composeAnswer 19 rfl) f8_64 (by decide) (by decide) (lt491 hn (ltS0 he)) (kdS_0 he) rfl ?_
  refine xr_aload_n (xd dX8_composeAnswer 20 rfl) 0 rfl ?_
  refine xr_getR (b := (e + 143)) 8 11 (xd dX8_composeAnswer 21 rfl) f8_61 (by decide) (by decide) (lt491 hn (ltS0 he)) (kdS_0 he) rfl (rS_0_11 hR he) ?_
  refine xr_callV mX9_drawRandom 3 [.ref 6, .int (oI (J1 e 0)), .ref (e + 143)] (xd dX8_composeAnswer 22 rfl) l8_388 kX9_drawRandom rfl (lt491 hn (ltS he (by decide))) (kdS_1 he) (by decide) rfl (by decide) (Nat.le_of_ble_eq_true rfl) (v_X9_drawRandom hn hR he (za_mk (kdS_143 he) (ltS he (by decide))) h) (by decide) (by decide) (fun r_ M_ h_ => ?_) (fun _ _ h_ => h_.elim)
  obtain ⟨J4, L5, rfl, rfl, h⟩ := h_
  show xJ _ _ _ _ _ _ _ _ _ 45 [(0, .ref e), (1, .ref 3), (2, .long r3)] [] _ _ _ (zi J4) (li L5)
  refine xr_lload_n (xd dX8_composeAnswer 23 rfl) 2 rfl ?_
  refine xr_lconst (v := 0) (xd dX8_composeAnswer 24 rfl) (by decide) ?_
  refine zr_lcmp (xd dX8_composeAnswer 25 rfl) ?_
  replace h := h (fun (J6 : zM) (L7 : yM) => xJ (xGm b dC dI cA ts) l mX8_composeAnswer 0 0 (zQ0 n R Q) (fun _ _ => False) 0 0 83 [(0, .ref e), (1, .ref 3), (2, .long r3)] [] al n R (zi J6) (li L7)) (by
    intro J6 L7 h
    show xJ _ _ _ _ _ _ _ _ _ 83 [(0, .ref e), (1, .ref 3), (2, .long r3)] [] _ _ _ _ _
    refine xr_aload_n (xd dX8_composeAnswer 41 rfl) 0 rfl ?_
    refine xr_getR (b := (e + 1)) 8 1 (xd dX8_composeAnswer 42 rfl) f8_12 (by decide) (by decide) (lt491 hn (ltS0 he)) (kdS_0 he) rfl (rS_0_1 hR he) ?_
    refine zr_getI 9 12 12 rfl (xd dX8_composeAnswer 43 rfl) f8_398 (by decide) (by decide) (lt491 hn (ltS he (by decide))) (kdS_1 he) rfl ?_
    replace h := h (fun (x9 : Int) (J10 : zM) (L11 : yM) => xJ (xGm b dC dI cA ts) l mX8_composeAnswer 0 0 (zQ0 n R Q) (fun _ _ => False) 0 0 109 [(0, .ref e), (1, .ref 3)] [.int (oI x9)] al n R (zi J10) (li L11)) (by
      intro x9 J10 L11 h
      show xJ _ _ _ _ _ _ _ _ _ 109 [(0, .ref e), (1, .ref 3)] [.int (oI x9)] _ _ _ _ _
      refine xr_istore [(0, .ref e), (1, .ref 3), (4, .int (oI x9))] (xd dX8_composeAnswer 53 rfl) (by decide) rfl ?_
      refine xr_aload_n (xd dX8_composeAnswer 54 rfl) 0 rfl ?_
      refine xr_getR (b := (e + 8)) 8 4 (xd dX8_composeAnswer 55 rfl) f8_21 (by decide) (by decide) (lt491 hn (ltS0 he)) (kdS_0 he) rfl (rS_0_4 hR he) ?_
      refine xr_callV mX2_startAnew 0 [] (xd dX8_composeAnswer 56 rfl) l8_96 kX2_startAnew rfl (lt491 hn (ltS he (by decide))) (kdS_8 he) (by decide) rfl (by decide) (Nat.le_of_ble_eq_true rfl) (v_X2_startAnew hn hR he h) (by decide) (by decide) (fun r_ M_ h_ => ?_) (fun _ _ h_ => h_.elim)
      obtain ⟨J13, L14, rfl, rfl, h⟩ := h_
      show xJ _ _ _ _ _ _ _ _ _ 118 [(0, .ref e), (1, .ref 3), (4, .int (oI x9))] [] _ _ _ (zi J13) (li L14)
      refine xr_aload_n (xd dX8_composeAnswer 57 rfl) 0 rfl ?_
      refine xr_getR (b := (e + 1)) 8 1 (xd dX8_composeAnswer 58 rfl) f8_12 (by decide) (by decide) (lt491 hn (ltS0 he)) (kdS_0 he) rfl (rS_0_1 hR he) ?_
      refine xr_getR (b := (e + 6)) 9 9 (xd dX8_composeAnswer 59 rfl) f8_409 (by decide) (by decide) (lt491 hn (ltS he (by decide))) (kdS_1 he) rfl (rS_1_9 hR he) ?_
      refine xr_iconst (v := oI 0) (xd dX8_composeAnswer 60 rfl) (by decide) ?_
      refine xr_aload_n (xd dX8_composeAnswer 61 rfl) 0 rfl ?_
      refine xr_getR (b := (e + 142)) 8 10 (xd dX8_composeAnswer 62 rfl) f8_58 (by decide) (by decide) (lt491 hn (ltS0 he)) (kdS_0 he) rfl (rS_0_10 hR he) ?_
      refine xr_iconst (v := oI 0) (xd dX8_composeAnswer 63 rfl) (by decide) ?_
      refine xr_bipush (v := oI 16) (xd dX8_composeAnswer 64 rfl) (by decide) ?_
      obtain ⟨o15, h⟩ := h
      obtain ⟨J16, e_J16⟩ : ∃ z_ : zM, z_ = zcp J13 (e + 6) 0 (e + 142) 0 16 := ⟨_, rfl⟩
      replace h := h J16 e_J16
      refine zr_acopy e_J16 (xd dX8_composeAnswer 65 rfl) l8_371 (lt491 hn (ltS he (by decide))) (kdS_6 he) (lnS_6 he) (by decide) (lt491 hn (ltS he (by decide))) (kdS_142 he) (lnS_142 he) (by decide) o15.1 o15.2.1 o15.2.2.1 o15.2.2.2.1 o15.2.2.2.2 ⟨Nat.le_of_ble_eq_true rfl, Nat.le_of_ble_eq_true rfl⟩ ?_
      refine xr_aload_n (xd dX8_composeAnswer 66 rfl) 0 rfl ?_
      refine xr_getR (b := (e + 1)) 8 1 (xd dX8_composeAnswer 67 rfl) f8_12 (by decide) (by decide) (lt491 hn (ltS0 he)) (kdS_0 he) rfl (rS_0_1 hR he) ?_
      refine zr_getI 9 12 12 rfl (xd dX8_composeAnswer 68 rfl) f8_398 (by decide) (by decide) (lt491 hn (ltS he (by decide))) (kdS_1 he) rfl ?_
      refine xr_aload_n (xd dX8_composeAnswer 69 rfl) 0 rfl ?_
      refine xr_getR (b := (e + 142)) 8 10 (xd dX8_composeAnswer 70 rfl) f8_58 (by decide) (by decide) (lt491 hn (ltS0 he)) (kdS_0 he) rfl (rS_0_10 hR he) ?_
      refine xr_bipush (v := oI 16) (xd dX8_composeAnswer 71 rfl) (by decide) ?_
      refine xr_callSN mX11_putWord 3 [.int (oI (J16 (e + 1) 12)), .ref (e + 142), .int (oI 16)] (xd dX8_composeAnswer 72 rfl) n8_412 kX11_putWord rfl (by decide) (Nat.le_of_ble_eq_true rfl) (v_X11_putWord hn hR (za_mk (kdS_142 he) (ltS he (by decide))) h) (by decide) (by decide) (fun r_ M_ h_ => ?_)
      obtain ⟨J17, L18, rfl, rfl, h⟩ := h_
      show xJ _ _ _ _ _ _ _ _ _ 152 [(0, .ref e), (1, .ref 3), (4, .int (oI x9))] [] _ _ _ (zi J17) (li L18)
      refine xr_aload_n (xd dX8_composeAnswer 73 rfl) 0 rfl ?_
      refine xr_iconst (v := oI 2) (xd dX8_composeAnswer 74 rfl) (by decide) ?_
      refine xr_aload_n (xd dX8_composeAnswer 75 rfl) 1 rfl ?_
      refine zr_getI 1 11 11 rfl (xd dX8_composeAnswer 76 rfl) f8_290 (by decide) (by decide) (lt491 hn (by decide)) kd_3 rfl ?_
      refine xr_bipush (v := oI 20) (xd dX8_composeAnswer 77 rfl) (by decide) ?_
      refine xr_callV mX8_addToFlight 3 [.int (oI 2), .int (oI (J17 3 11)), .int (oI 20)] (xd dX8_composeAnswer 78 rfl) l8_416 kX8_addToFlight rfl (lt491 hn (ltS0 he)) (kdS_0 he) (by decide) rfl (by decide) (Nat.le_of_ble_eq_true rfl) (v_X8_addToFlight hn hR he h) (by decide) (by decide) (fun r_ M_ h_ => ?_) (fun _ _ h_ => h_.elim)
      obtain ⟨J19, L20, rfl, rfl, h⟩ := h_
      show xJ _ _ _ _ _ _ _ _ _ 163 [(0, .ref e), (1, .ref 3), (4, .int (oI x9))] [] _ _ _ (zi J19) (li L20)
      refine xr_aload_n (xd dX8_composeAnswer 79 rfl) 0 rfl ?_
      refine xr_getR (b := (e + 144)) 8 2 (xd dX8_composeAnswer 80 rfl) f8_73 (by decide) (by decide) (lt491 hn (ltS0 he)) (kdS_0 he) rfl (rS_0_2 hR he) ?_
      refine xr_aload_n (xd dX8_composeAnswer 81 rfl) 0 rfl ?_
      refine xr_getR (b := (e + 1)) 8 1 (xd dX8_composeAnswer 82 rfl) f8_12 (by decide) (by decide) (lt491 hn (ltS0 he)) (kdS_0 he) rfl (rS_0_1 hR he) ?_
      refine xr_getR (b := (e + 2)) 9 0 (xd dX8_composeAnswer 83 rfl) f8_339 (by decide) (by decide) (lt491 hn (ltS he (by decide))) (kdS_1 he) rfl (rS_1_0 hR he) ?_
      refine xr_iload (xd dX8_composeAnswer 84 rfl) 2 rfl ?_
      refine xr_callV mX5_enterHandshake 2 [.ref (e + 2), .int (oI x9)] (xd dX8_composeAnswer 85 rfl) l8_419 kX5_enterHandshake rfl (lt491 hn (ltS he (by decide))) (kdS_144 he) (by decide) rfl (by decide) (Nat.le_of_ble_eq_true rfl) (v_X5_enterHandshake hn hR he (za_mk (kdS_2 he) (ltS he (by decide))) h) (by decide) (by decide) (fun r_ M_ h_ => ?_) (fun _ _ h_ => h_.elim)
      obtain ⟨J21, L22, rfl, rfl, h⟩ := h_
      show xJ _ _ _ _ _ _ _ _ _ 179 [(0, .ref e), (1, .ref 3), (4, .int (oI x9))] [] _ _ _ (zi J21) (li L22)
      refine xr_aload_n (xd dX8_composeAnswer 86 rfl) 0 rfl ?_
      refine xr_getR (b := (e + 142)) 8 10 (xd dX8_composeAnswer 87 rfl) f8_58 (by decide) (by decide) (lt491 hn (ltS0 he)) (kdS_0 he) rfl (rS_0_10 hR he) ?_
      refine xr_iconst (v := oI 0) (xd dX8_composeAnswer 88 rfl) (by decide) ?_
      refine xr_aload_n (xd dX8_composeAnswer 89 rfl) 0 rfl ?_
      refine xr_getR (b := (e + 1)) 8 1 (xd dX8_composeAnswer 90 rfl) f8_12 (by decide) (by decide) (lt491 hn (ltS0 he)) (kdS_0 he) rfl (rS_0_1 hR he) ?_
      refine zr_getI 9 7 7 rfl (xd dX8_composeAnswer 91 rfl) f8_423 (by decide) (by decide) (lt491 hn (ltS he (by decide))) (kdS_1 he) rfl ?_
      refine xr_bipush (v := oI 8) (xd dX8_composeAnswer 92 rfl) (by decide) ?_
      refine zr_iushr (xd dX8_composeAnswer 93 rfl) ?_
      obtain ⟨J23, e_J23⟩ : ∃ z_ : zM, z_ = zs J21 (e + 142) 0 (zush (J21 (e + 1) 7) 8) := ⟨_, rfl⟩
      replace h := h J23 e_J23
      refine zr_iastore e_J23 (xd dX8_composeAnswer 94 rfl) (lt491 hn (ltS he (by decide))) (kdS_142 he) (lnS_142 he) (by decide) ⟨by decide, by decide⟩ ?_
      refine xr_aload_n (xd dX8_composeAnswer 95 rfl) 0 rfl ?_
      refine xr_getR (b := (e + 142)) 8 10 (xd dX8_composeAnswer 96 rfl) f8_58 (by decide) (by decide) (lt491 hn (ltS0 he)) (kdS_0 he) rfl (rS_0_10 hR he) ?_
      refine xr_iconst (v := oI 1) (xd dX8_composeAnswer 97 rfl) (by decide) ?_
      refine xr_aload_n (xd dX8_composeAnswer 98 rfl) 0 rfl ?_
      refine xr_getR (b := (e + 1)) 8 1 (xd dX8_composeAnswer 99 rfl) f8_12 (by decide) (by decide) (lt491 hn (ltS0 he)) (kdS_0 he) rfl (rS_0_1 hR he) ?_
      refine zr_getI 9 7 7 rfl (xd dX8_composeAnswer 100 rfl) f8_423 (by decide) (by decide) (lt491 hn (ltS he (by decide))) (kdS_1 he) rfl ?_
      refine xr_sipush (v := oI 255) (xd dX8_composeAnswer 101 rfl) (by decide) ?_
      refine zr_iand (xd dX8_composeAnswer 102 rfl) ?_
      obtain ⟨J24, e_J24⟩ : ∃ z_ : zM, z_ = zs J23 (e + 142) 1 (zand (J23 (e + 1) 7) 255) := ⟨_, rfl⟩
      replace h := h J24 e_J24
      refine zr_iastore e_J24 (xd dX8_composeAnswer 103 rfl) (lt491 hn (ltS he (by decide))) (kdS_142 he) (lnS_142 he) (by decide) ⟨by decide, by decide⟩ ?_
      refine xr_aload_n (xd dX8_composeAnswer 104 rfl) 0 rfl ?_
      refine xr_getR (b := (e + 1)) 8 1 (xd dX8_composeAnswer 105 rfl) f8_12 (by decide) (by decide) (lt491 hn (ltS0 he)) (kdS_0 he) rfl (rS_0_1 hR he) ?_
      refine xr_getR (b := (e + 5)) 9 3 (xd dX8_composeAnswer 106 rfl) f8_426 (by decide) (by decide) (lt491 hn (ltS he (by decide))) (kdS_1 he) rfl (rS_1_3 hR he) ?_
      refine xr_iconst (v := oI 0) (xd dX8_composeAnswer 107 rfl) (by decide) ?_
      refine xr_aload_n (xd dX8_composeAnswer 108 rfl) 0 rfl ?_
      refine xr_getR (b := (e + 142)) 8 10 (xd dX8_composeAnswer 109 rfl) f8_58 (by decide) (by decide) (lt491 hn (ltS0 he)) (kdS_0 he) rfl (rS_0_10 hR he) ?_
      refine xr_iconst (v := oI 2) (xd dX8_composeAnswer 110 rfl) (by decide) ?_
      refine xr_aload_n (xd dX8_composeAnswer 111 rfl) 0 rfl ?_
      refine xr_getR (b := (e + 1)) 8 1 (xd dX8_composeAnswer 112 rfl) f8_12 (by decide) (by decide) (lt491 hn (ltS0 he)) (kdS_0 he) rfl (rS_0_1 hR he) ?_
      refine zr_getI 9 4 4 rfl (xd dX8_composeAnswer 113 rfl) f8_429 (by decide) (by decide) (lt491 hn (ltS he (by decide))) (kdS_1 he) rfl ?_
      obtain ⟨o25, h⟩ := h
      obtain ⟨J26, e_J26⟩ : ∃ z_ : zM, z_ = zcp J24 (e + 5) 0 (e + 142) 2 (J24 (e + 1) 4) := ⟨_, rfl⟩
      replace h := h J26 e_J26
      refine zr_acopy e_J26 (xd dX8_composeAnswer 114 rfl) l8_371 (lt491 hn (ltS he (by decide))) (kdS_5 he) (lnS_5 he) (by decide) (lt491 hn (ltS he (by decide))) (kdS_142 he) (lnS_142 he) (by decide) o25.1 o25.2.1 o25.2.2.1 o25.2.2.2.1 o25.2.2.2.2 ⟨Nat.le_of_ble_eq_true rfl, Nat.le_of_ble_eq_true rfl⟩ ?_
      refine xr_aload_n (xd dX8_composeAnswer 115 rfl) 0 rfl ?_
      refine xr_bipush (v := oI 8) (xd dX8_composeAnswer 116 rfl) (by decide) ?_
      refine xr_aload_n (xd dX8_composeAnswer 117 rfl) 1 rfl ?_
      refine zr_getI 1 11 11 rfl (xd dX8_composeAnswer 118 rfl) f8_290 (by decide) (by decide) (lt491 hn (by decide)) kd_3 rfl ?_
      refine xr_iconst (v := oI 1) (xd dX8_composeAnswer 119 rfl) (by decide) ?_
      refine zr_iadd (xd dX8_composeAnswer 120 rfl) ?_
      refine xr_iconst (v := oI 2) (xd dX8_composeAnswer 121 rfl) (by decide) ?_
      refine xr_aload_n (xd dX8_composeAnswer 122 rfl) 0 rfl ?_
      refine xr_getR (b := (e + 1)) 8 1 (xd dX8_composeAnswer 123 rfl) f8_12 (by decide) (by decide) (lt491 hn (ltS0 he)) (kdS_0 he) rfl (rS_0_1 hR he) ?_
      refine zr_getI 9 4 4 rfl (xd dX8_composeAnswer 124 rfl) f8_429 (by decide) (by decide) (lt491 hn (ltS he (by decide))) (kdS_1 he) rfl ?_
      refine zr_iadd (xd dX8_composeAnswer 125 rfl) ?_
      refine xr_callV mX8_addToFlight 3 [.int (oI 8), .int (oI ((J26 3 11) + 1)), .int (oI (2 + (J26 (e + 1) 4)))] (xd dX8_composeAnswer 126 rfl) l8_416 kX8_addToFlight rfl (lt491 hn (ltS0 he)) (kdS_0 he) (by decide) rfl (by decide) (Nat.le_of_ble_eq_true rfl) (v_X8_addToFlight hn hR he h) (by decide) (by decide) (fun r_ M_ h_ => ?_) (fun _ _ h_ => h_.elim)
      obtain ⟨J27, L28, rfl, rfl, h⟩ := h_
      show xJ _ _ _ _ _ _ _ _ _ 256 [(0, .ref e), (1, .ref 3), (4, .int (oI x9))] [] _ _ _ (zi J27) (li L28)
      refine xr_aload_n (xd dX8_composeAnswer 127 rfl) 0 rfl ?_
      refine xr_getR (b := (e + 144)) 8 2 (xd dX8_composeAnswer 128 rfl) f8_73 (by decide) (by decide) (lt491 hn (ltS0 he)) (kdS_0 he) rfl (rS_0_2 hR he) ?_
      refine xr_iconst (v := oI 1) (xd dX8_composeAnswer 129 rfl) (by decide) ?_
      refine xr_aload_n (xd dX8_composeAnswer 130 rfl) 0 rfl ?_
      refine xr_getR (b := (e + 142)) 8 10 (xd dX8_composeAnswer 131 rfl) f8_58 (by decide) (by decide) (lt491 hn (ltS0 he)) (kdS_0 he) rfl (rS_0_10 hR he) ?_
      refine xr_callV mX5_finishedInto 2 [.int (oI 1), .ref (e + 142)] (xd dX8_composeAnswer 132 rfl) l8_432 kX5_finishedInto rfl (lt491 hn (ltS he (by decide))) (kdS_144 he) (by decide) rfl (by decide) (Nat.le_of_ble_eq_true rfl) (v_X5_finishedInto hn hR he (za_mk (kdS_142 he) (ltS he (by decide))) h) (by decide) (by decide) (fun r_ M_ h_ => ?_) (fun _ _ h_ => h_.elim)
      obtain ⟨J29, L30, rfl, rfl, h⟩ := h_
      show xJ _ _ _ _ _ _ _ _ _ 268 [(0, .ref e), (1, .ref 3), (4, .int (oI x9))] [] _ _ _ (zi J29) (li L30)
      refine xr_aload_n (xd dX8_composeAnswer 133 rfl) 0 rfl ?_
      refine xr_bipush (v := oI 20) (xd dX8_composeAnswer 134 rfl) (by decide) ?_
      refine xr_aload_n (xd dX8_composeAnswer 135 rfl) 1 rfl ?_
      refine zr_getI 1 11 11 rfl (xd dX8_composeAnswer 136 rfl) f8_290 (by decide) (by decide) (lt491 hn (by decide)) kd_3 rfl ?_
      refine xr_iconst (v := oI 2) (xd dX8_composeAnswer 137 rfl) (by decide) ?_
      refine zr_iadd (xd dX8_composeAnswer 138 rfl) ?_
      refine xr_bipush (v := oI 32) (xd dX8_composeAnswer 139 rfl) (by decide) ?_
      refine xr_callV mX8_addToFlight 3 [.int (oI 20), .int (oI ((J29 3 11) + 2)), .int (oI 32)] (xd dX8_composeAnswer 140 rfl) l8_416 kX8_addToFlight rfl (lt491 hn (ltS0 he)) (kdS_0 he) (by decide) rfl (by decide) (Nat.le_of_ble_eq_true rfl) (v_X8_addToFlight hn hR he h) (by decide) (by decide) (fun r_ M_ h_ => ?_) (fun _ _ h_ => h_.elim)
      obtain ⟨J31, L32, rfl, rfl, h⟩ := h_
      show xJ _ _ _ _ _ _ _ _ _ 282 [(0, .ref e), (1, .ref 3), (4, .int (oI x9))] [] _ _ _ (zi J31) (li L32)
      refine xr_aload_n (xd dX8_composeAnswer 141 rfl) 0 rfl ?_
      refine xr_getR (b := (e + 144)) 8 2 (xd dX8_composeAnswer 142 rfl) f8_73 (by decide) (by decide) (lt491 hn (ltS0 he)) (kdS_0 he) rfl (rS_0_2 hR he) ?_
      refine xr_callV mX5_enterData 0 [] (xd dX8_composeAnswer 143 rfl) l8_436 kX5_enterData rfl (lt491 hn (ltS he (by decide))) (kdS_144 he) (by decide) rfl (by decide) (Nat.le_of_ble_eq_true rfl) (v_X5_enterData hn hR he h) (by decide) (by decide) (fun r_ M_ h_ => ?_) (fun _ _ h_ => h_.elim)
      obtain ⟨J33, L34, rfl, rfl, h⟩ := h_
      show xJ _ _ _ _ _ _ _ _ _ 289 [(0, .ref e), (1, .ref 3), (4, .int (oI x9))] [] _ _ _ (zi J33) (li L34)
      refine xr_aload_n (xd dX8_composeAnswer 144 rfl) 0 rfl ?_
      refine xr_aload_n (xd dX8_composeAnswer 145 rfl) 1 rfl ?_
      refine zr_getI 1 11 11 rfl (xd dX8_composeAnswer 146 rfl) f8_290 (by decide) (by decide) (lt491 hn (by decide)) kd_3 rfl ?_
      refine xr_iconst (v := oI 1) (xd dX8_composeAnswer 147 rfl) (by decide) ?_
      refine zr_iadd (xd dX8_composeAnswer 148 rfl) ?_
      obtain ⟨J35, e_J35⟩ : ∃ z_ : zM, z_ = zs J33 e 14 ((J33 3 11) + 1) := ⟨_, rfl⟩
      replace h := h J35 e_J35
      refine zr_putI 8 14 14 rfl e_J35 (xd dX8_composeAnswer 149 rfl) f8_109 (by decide) (by decide) (lt491 hn (ltS0 he)) (kdS_0 he) (Or.inl rfl) rfl rfl (fun _ => rfl) ?_
      refine xr_aload_n (xd dX8_composeAnswer 150 rfl) 0 rfl ?_
      refine xr_iconst (v := oI 1) (xd dX8_composeAnswer 151 rfl) (by decide) ?_
      obtain ⟨J36, e_J36⟩ : ∃ z_ : zM, z_ = zs J35 e 12 1 := ⟨_, rfl⟩
      replace h := h J36 e_J36
      refine zr_putI 8 12 12 rfl e_J36 (xd dX8_composeAnswer 152 rfl) f8_103 (by decide) (by decide) (lt491 hn (ltS0 he)) (kdS_0 he) (Or.inl rfl) rfl rfl (fun _ => rfl) ?_
      exact xr_vret (xd dX8_composeAnswer 153 rfl) rfl (by decide) (by decide) (fun _ => rfl) ⟨_, _, rfl, rfl, h⟩)
    obtain ⟨o37, h⟩ := h
    refine zr_if_ne 97 (xd dX8_composeAnswer 44 rfl) (by decide) o37 (fun c38 => ?_) (fun c38 => ?_)
    · replace h := ifn h c38
      refine xr_lload_n (xd dX8_composeAnswer 47 rfl) 2 rfl ?_
      refine xr_aload_n (xd dX8_composeAnswer 48 rfl) 0 rfl ?_
      refine xr_getR (b := (e + 1)) 8 1 (xd dX8_composeAnswer 49 rfl) f8_12 (by decide) (by decide) (lt491 hn (ltS0 he)) (kdS_0 he) rfl (rS_0_1 hR he) ?_
      refine zr_getL 9 13 13 rfl (xd dX8_composeAnswer 50 rfl) f8_401 (by decide) (by decide) (lt491 hn (ltS he (by decide))) (kdS_1 he) rfl ?_
      refine xr_callSN mX11_power 2 [.long r3, .long (L7 (e + 1) 13)] (xd dX8_composeAnswer 51 rfl) n8_405 kX11_power rfl (by decide) (Nat.le_of_ble_eq_true rfl) (v_X11_power hn hR  h) (by decide) (by decide) (fun r_ M_ h_ => ?_)
      obtain ⟨r41, J39, L40, rfl, rfl, h⟩ := h_
      show xJ _ _ _ _ _ _ _ _ _ 108 [(0, .ref e), (1, .ref 3), (2, .long r3)] [.long r41] _ _ _ (zi J39) (li L40)
      refine zr_l2i (xd dX8_composeAnswer 52 rfl) ?_
      refine xJ.pick (ls' := [(0, .ref e), (1, .ref 3)]) [0, 1] rfl ?_
      exact h
    · replace h := ifp h c38
      refine xr_iconst (v := oI 0) (xd dX8_composeAnswer 45 rfl) (by decide) ?_
      refine xr_goto 109 (xd dX8_composeAnswer 46 rfl) (by decide) ?_
      refine xJ.pick (ls' := [(0, .ref e), (1, .ref 3)]) [0, 1] rfl ?_
      exact h)
  refine zr_if_eq 83 (xd dX8_composeAnswer 26 rfl) (by decide) (R32_of _) (fun c42 => ?_) (fun c42 => ?_)
  · replace h := ifp h c42
    exact h
  · replace h := ifn h c42
    refine xr_aload_n (xd dX8_composeAnswer 27 rfl) 0 rfl ?_
    refine xr_getR (b := (e + 1)) 8 1 (xd dX8_composeAnswer 28 rfl) f8_12 (by decide) (by decide) (lt491 hn (ltS0 he)) (kdS_0 he) rfl (rS_0_1 hR he) ?_
    refine zr_getI 9 6 6 rfl (xd dX8_composeAnswer 29 rfl) f8_392 (by decide) (by decide) (lt491 hn (ltS he (by decide))) (kdS_1 he) rfl ?_
    obtain ⟨o43, h⟩ := h
    refine zr_if_eq 83 (xd dX8_composeAnswer 30 rfl) (by decide) o43 (fun c44 => ?_) (fun c44 => ?_)
    · replace h := ifp h c44
      exact h
    · replace h := ifn h c44
      refine xr_aload_n (xd dX8_composeAnswer 31 rfl) 0 rfl ?_
      refine xr_getR (b := (e + 1)) 8 1 (xd dX8_composeAnswer 32 rfl) f8_12 (by decide) (by decide) (lt491 hn (ltS0 he)) (kdS_0 he) rfl (rS_0_1 hR he) ?_
      refine xr_aload_n (xd dX8_composeAnswer 33 rfl) 0 rfl ?_
      refine xr_getR (b := (e + 144)) 8 2 (xd dX8_composeAnswer 34 rfl) f8_73 (by decide) (by decide) (lt491 hn (ltS0 he)) (kdS_0 he) rfl (rS_0_2 hR he) ?_
      refine xr_getR (b := 6) 5 0 (xd dX8_composeAnswer 35 rfl) f8_346 (by decide) (by decide) (lt491 hn (ltS he (by decide))) (kdS_144 he) rfl (rS_144_0 hR he) ?_
      refine xr_aload_n (xd dX8_composeAnswer 36 rfl) 0 rfl ?_
      refine zr_getI 8 0 0 rfl (xd dX8_composeAnswer 37 rfl) f8_64 (by decide) (by decide) (lt491 hn (ltS0 he)) (kdS_0 he) rfl ?_
      refine xr_aload_n (xd dX8_composeAnswer 38 rfl) 0 rfl ?_
      refine xr_getR (b := (e + 143)) 8 11 (xd dX8_composeAnswer 39 rfl) f8_61 (by decide) (by decide) (lt491 hn (ltS0 he)) (kdS_0 he) rfl (rS_0_11 hR he) ?_
      refine xr_callV mX9_drawShare 3 [.ref 6, .int (oI (J4 e 0)), .ref (e + 143)] (xd dX8_composeAnswer 40 rfl) l8_395 kX9_drawShare rfl (lt491 hn (ltS he (by decide))) (kdS_1 he) (by decide) rfl (by decide) (Nat.le_of_ble_eq_true rfl) (v_X9_drawShare hn hR he (za_mk (kdS_143 he) (ltS he (by decide))) h) (by decide) (by decide) (fun r_ M_ h_ => ?_) (fun _ _ h_ => h_.elim)
      obtain ⟨J45, L46, rfl, rfl, h⟩ := h_
      show xJ _ _ _ _ _ _ _ _ _ 83 [(0, .ref e), (1, .ref 3), (2, .long r3)] [] _ _ _ (zi J45) (li L46)
      exact h
def w_X8_startFlight (e : Nat) (J : zM) (L : yM) (Q : zM → yM → Prop) : Prop := w_X0_startAnew e J L (fun J1 L2 => w_X2_sentFirst e (J1 e 19) J1 L2 (fun J3 L4 => Q J3 L4))
set_option maxHeartbeats 4000000 in
set_option maxRecDepth 100000 in
theorem v_X8_startFlight {b : Nat} {dC : Nat → ClassId} {dI : Nat → Nat → Nat} {cA : Nat → ClassId} {ts : Nat → Nat} {l : Launch} {n : Nat} {R : Nat → Nat → Option Nat} {al : Bool} (hn : 491 ≤ n) (hR : xRk R) {e : Nat} (he : iSide e) {J : zM} {L : yM} {Q : zM → yM → Prop} (h : w_X8_startFlight e J L Q) : xCn (xGm b dC dI cA ts) l mX8_startFlight [.ref e] al (n, R, zi J, li L) 0 0 (zQ0 n R Q) (fun _ _ => False) := by
  refine xCn.ofJ (by decide) (Nat.le_of_ble_eq_true rfl) ?_
  show xJ _ _ _ _ _ _ _ _ _ 0 [(0, .ref e)] [] _ _ _ _ _
  unfold w_X8_startFlight at h
  refine xr_aload_n (xd dX8_startFlight 0 rfl) 0 rfl ?_
  refine xr_getR (b := (e + 33)) 8 6 (xd dX8_startFlight 1 rfl) f8_35 (by decide) (by decide) (lt491 hn (ltS0 he)) (kdS_0 he) rfl (rS_0_6 hR he) ?_
  refine xr_callV mX0_startAnew 0 [] (xd dX8_startFlight 2 rfl) l8_98 kX0_startAnew rfl (lt491 hn (ltS he (by decide))) (kdS_33 he) (by decide) rfl (by decide) (Nat.le_of_ble_eq_true rfl) (v_X0_startAnew hn hR he h) (by decide) (by decide) (fun r_ M_ h_ => ?_) (fun _ _ h_ => h_.elim)
  obtain ⟨J1, L2, rfl, rfl, h⟩ := h_
  show xJ _ _ _ _ _ _ _ _ _ 7 [(0, .ref e)] [] _ _ _ (zi J1) (li L2)
  refine xr_aload_n (xd dX8_startFlight 3 rfl) 0 rfl ?_
  refine xr_getR (b := (e + 8)) 8 4 (xd dX8_startFlight 4 rfl) f8_21 (by decide) (by decide) (lt491 hn (ltS0 he)) (kdS_0 he) rfl (rS_0_4 hR he) ?_
  refine xr_aload_n (xd dX8_startFlight 5 rfl) 0 rfl ?_
  refine zr_getI 8 19 19 rfl (xd dX8_startFlight 6 rfl) f8_124 (by decide) (by decide) (lt491 hn (ltS0 he)) (kdS_0 he) rfl ?_
  refine xr_callV mX2_sentFirst 1 [.int (oI (J1 e 19))] (xd dX8_startFlight 7 rfl) l8_488 kX2_sentFirst rfl (lt491 hn (ltS he (by decide))) (kdS_8 he) (by decide) rfl (by decide) (Nat.le_of_ble_eq_true rfl) (v_X2_sentFirst hn hR he h) (by decide) (by decide) (fun r_ M_ h_ => ?_) (fun _ _ h_ => h_.elim)
  obtain ⟨J3, L4, rfl, rfl, h⟩ := h_
  show xJ _ _ _ _ _ _ _ _ _ 18 [(0, .ref e)] [] _ _ _ (zi J3) (li L4)
  exact xr_vret (xd dX8_startFlight 8 rfl) rfl (by decide) (by decide) (fun _ => rfl) ⟨_, _, rfl, rfl, h⟩
def w_X8_act (e : Nat) (p1 : Int) (J : zM) (L : yM) (Q : zM → yM → Prop) : Prop := R32 p1 ∧ (if p1 = 3 then w_X8_sendAcks e J L (fun J25 L26 => Q J25 L26) else (if p1 = 2 then w_X8_countAgain e J L (fun J21 L22 => w_X8_sendFlight e J21 L22 (fun J23 L24 => Q J23 L24)) else (if p1 = 1 then w_X8_judgeHello e J L (fun r7 J5 L6 => R32 r7 ∧ (if r7 = 1000 then w_X8_sendRetry e J5 L6 (fun J19 L20 => Q J19 L20) else (if r7 = 0 then w_X8_composeAnswer e J5 L6 (fun J11 L12 => w_X8_startFlight e J11 L12 (fun J13 L14 => w_X8_sendFlight e J13 L14 (fun J15 L16 => Q J15 L16))) else w_X8_sendAlert e r7 J5 L6 (fun J17 L18 => Q J17 L18)))) else Q J L)))
set_option maxHeartbeats 4000000 in
set_option maxRecDepth 100000 in
theorem v_X8_act {b : Nat} {dC : Nat → ClassId} {dI : Nat → Nat → Nat} {cA : Nat → ClassId} {ts : Nat → Nat} {l : Launch} {n : Nat} {R : Nat → Nat → Option Nat} {al : Bool} (hn : 491 ≤ n) (hR : xRk R) {e : Nat} {p1 : Int} (he : iSide e) {J : zM} {L : yM} {Q : zM → yM → Prop} (h : w_X8_act e p1 J L Q) : xCn (xGm b dC dI cA ts) l mX8_act [.ref e, .int (oI p1), .ref 3] al (n, R, zi J, li L) 0 0 (zQ0 n R Q) (fun _ _ => False) := by
  refine xCn.ofJ (by decide) (Nat.le_of_ble_eq_true rfl) ?_
  show xJ _ _ _ _ _ _ _ _ _ 0 [(0, .ref e), (1, .int (oI p1)), (2, .ref 3)] [] _ _ _ _ _
  unfold w_X8_act at h
  refine xr_iload_n (xd dX8_act 0 rfl) 1 rfl ?_
  refine xr_iconst (v := oI 3) (xd dX8_act 1 rfl) (by decide) ?_
  obtain ⟨o1, h⟩ := h
  refine zr_icmp_ne 12 (xd dX8_act 2 rfl) (by decide) o1 (by decide) (fun c2 => ?_) (fun c2 => ?_)
  · replace h := ifn h c2
    refine xr_iload_n (xd dX8_act 6 rfl) 1 rfl ?_
    refine xr_iconst (v := oI 2) (xd dX8_act 7 rfl) (by decide) ?_
    refine zr_icmp_ne 28 (xd dX8_act 8 rfl) (by decide) o1 (by decide) (fun c3 => ?_) (fun c3 => ?_)
    · replace h := ifn h c3
      refine xr_iload_n (xd dX8_act 14 rfl) 1 rfl ?_
      refine xr_iconst (v := oI 1) (xd dX8_act 15 rfl) (by decide) ?_
      refine zr_icmp_ne 79 (xd dX8_act 16 rfl) (by decide) o1 (by decide) (fun c4 => ?_) (fun c4 => ?_)
      · replace h := ifn h c4
        exact xr_vret (xd dX8_act 41 rfl) rfl (by decide) (by decide) (fun _ => rfl) ⟨_, _, rfl, rfl, h⟩
      · replace h := ifp h c4
        refine xr_aload_n (xd dX8_act 17 rfl) 0 rfl ?_
        refine xr_aload_n (xd dX8_act 18 rfl) 2 rfl ?_
        refine xr_callV mX8_judgeHello 1 [.ref 3] (xd dX8_act 19 rfl) l8_307 kX8_judgeHello rfl (lt491 hn (ltS0 he)) (kdS_0 he) (by decide) rfl (by decide) (Nat.le_of_ble_eq_true rfl) (v_X8_judgeHello hn hR he h) (by decide) (by decide) (fun r_ M_ h_ => ?_) (fun _ _ h_ => h_.elim)
        obtain ⟨r7, J5, L6, rfl, rfl, h⟩ := h_
        show xJ _ _ _ _ _ _ _ _ _ 38 [(0, .ref e), (1, .int (oI p1)), (2, .ref 3)] [.int (oI r7)] _ _ _ (zi J5) (li L6)
        refine xr_istore_n [(0, .ref e), (1, .int (oI p1)), (2, .ref 3), (3, .int (oI r7))] (xd dX8_act 20 rfl) rfl (by decide) rfl ?_
        refine xr_iload_n (xd dX8_act 21 rfl) 3 rfl ?_
        refine xr_sipush (v := oI 1000) (xd dX8_act 22 rfl) (by decide) ?_
        obtain ⟨o8, h⟩ := h
        refine zr_icmp_ne 54 (xd dX8_act 23 rfl) (by decide) o8 (by decide) (fun c9 => ?_) (fun c9 => ?_)
        · replace h := ifn h c9
          refine xr_iload_n (xd dX8_act 28 rfl) 3 rfl ?_
          refine zr_if_eq 66 (xd dX8_act 29 rfl) (by decide) o8 (fun c10 => ?_) (fun c10 => ?_)
          · replace h := ifp h c10
            refine xr_aload_n (xd dX8_act 34 rfl) 0 rfl ?_
            refine xr_aload_n (xd dX8_act 35 rfl) 2 rfl ?_
            refine xr_callV mX8_composeAnswer 1 [.ref 3] (xd dX8_act 36 rfl) l8_316 kX8_composeAnswer rfl (lt491 hn (ltS0 he)) (kdS_0 he) (by decide) rfl (by decide) (Nat.le_of_ble_eq_true rfl) (v_X8_composeAnswer hn hR he h) (by decide) (by decide) (fun r_ M_ h_ => ?_) (fun _ _ h_ => h_.elim)
            obtain ⟨J11, L12, rfl, rfl, h⟩ := h_
            show xJ _ _ _ _ _ _ _ _ _ 71 [(0, .ref e), (1, .int (oI p1)), (2, .ref 3), (3, .int (oI r7))] [] _ _ _ (zi J11) (li L12)
            refine xr_aload_n (xd dX8_act 37 rfl) 0 rfl ?_
            refine xr_callV mX8_startFlight 0 [] (xd dX8_act 38 rfl) l8_319 kX8_startFlight rfl (lt491 hn (ltS0 he)) (kdS_0 he) (by decide) rfl (by decide) (Nat.le_of_ble_eq_true rfl) (v_X8_startFlight hn hR he h) (by decide) (by decide) (fun r_ M_ h_ => ?_) (fun _ _ h_ => h_.elim)
            obtain ⟨J13, L14, rfl, rfl, h⟩ := h_
            show xJ _ _ _ _ _ _ _ _ _ 75 [(0, .ref e), (1, .int (oI p1)), (2, .ref 3), (3, .int (oI r7))] [] _ _ _ (zi J13) (li L14)
            refine xr_aload_n (xd dX8_act 39 rfl) 0 rfl ?_
            refine xr_callV mX8_sendFlight 0 [] (xd dX8_act 40 rfl) l8_168 kX8_sendFlight rfl (lt491 hn (ltS0 he)) (kdS_0 he) (by decide) rfl (by decide) (Nat.le_of_ble_eq_true rfl) (v_X8_sendFlight hn hR he h) (by decide) (by decide) (fun r_ M_ h_ => ?_) (fun _ _ h_ => h_.elim)
            obtain ⟨J15, L16, rfl, rfl, h⟩ := h_
            show xJ _ _ _ _ _ _ _ _ _ 79 [(0, .ref e), (1, .int (oI p1)), (2, .ref 3), (3, .int (oI r7))] [] _ _ _ (zi J15) (li L16)
            exact xr_vret (xd dX8_act 41 rfl) rfl (by decide) (by decide) (fun _ => rfl) ⟨_, _, rfl, rfl, h⟩
          · replace h := ifn h c10
            refine xr_aload_n (xd dX8_act 30 rfl) 0 rfl ?_
            refine xr_iload_n (xd dX8_act 31 rfl) 3 rfl ?_
            refine xr_callV mX8_sendAlert 1 [.int (oI r7)] (xd dX8_act 32 rfl) l8_313 kX8_sendAlert rfl (lt491 hn (ltS0 he)) (kdS_0 he) (by decide) rfl (by decide) (Nat.le_of_ble_eq_true rfl) (v_X8_sendAlert hn hR he h) (by decide) (by decide) (fun r_ M_ h_ => ?_) (fun _ _ h_ => h_.elim)
            obtain ⟨J17, L18, rfl, rfl, h⟩ := h_
            show xJ _ _ _ _ _ _ _ _ _ 63 [(0, .ref e), (1, .int (oI p1)), (2, .ref 3), (3, .int (oI r7))] [] _ _ _ (zi J17) (li L18)
            refine xr_goto 79 (xd dX8_act 33 rfl) (by decide) ?_
            exact xr_vret (xd dX8_act 41 rfl) rfl (by decide) (by decide) (fun _ => rfl) ⟨_, _, rfl, rfl, h⟩
        · replace h := ifp h c9
          refine xr_aload_n (xd dX8_act 24 rfl) 0 rfl ?_
          refine xr_aload_n (xd dX8_act 25 rfl) 2 rfl ?_
          refine xr_callV mX8_sendRetry 1 [.ref 3] (xd dX8_act 26 rfl) l8_310 kX8_sendRetry rfl (lt491 hn (ltS0 he)) (kdS_0 he) (by decide) rfl (by decide) (Nat.le_of_ble_eq_true rfl) (v_X8_sendRetry hn hR he h) (by decide) (by decide) (fun r_ M_ h_ => ?_) (fun _ _ h_ => h_.elim)
          obtain ⟨J19, L20, rfl, rfl, h⟩ := h_
          show xJ _ _ _ _ _ _ _ _ _ 51 [(0, .ref e), (1, .int (oI p1)), (2, .ref 3), (3, .int (oI r7))] [] _ _ _ (zi J19) (li L20)
          refine xr_goto 79 (xd dX8_act 27 rfl) (by decide) ?_
          exact xr_vret (xd dX8_act 41 rfl) rfl (by decide) (by decide) (fun _ => rfl) ⟨_, _, rfl, rfl, h⟩
    · replace h := ifp h c3
      refine xr_aload_n (xd dX8_act 9 rfl) 0 rfl ?_
      refine xr_callV mX8_countAgain 0 [] (xd dX8_act 10 rfl) l8_165 kX8_countAgain rfl (lt491 hn (ltS0 he)) (kdS_0 he) (by decide) rfl (by decide) (Nat.le_of_ble_eq_true rfl) (v_X8_countAgain hn hR he h) (by decide) (by decide) (fun r_ M_ h_ => ?_) (fun _ _ h_ => h_.elim)
      obtain ⟨J21, L22, rfl, rfl, h⟩ := h_
      show xJ _ _ _ _ _ _ _ _ _ 21 [(0, .ref e), (1, .int (oI p1)), (2, .ref 3)] [] _ _ _ (zi J21) (li L22)
      refine xr_aload_n (xd dX8_act 11 rfl) 0 rfl ?_
      refine xr_callV mX8_sendFlight 0 [] (xd dX8_act 12 rfl) l8_168 kX8_sendFlight rfl (lt491 hn (ltS0 he)) (kdS_0 he) (by decide) rfl (by decide) (Nat.le_of_ble_eq_true rfl) (v_X8_sendFlight hn hR he h) (by decide) (by decide) (fun r_ M_ h_ => ?_) (fun _ _ h_ => h_.elim)
      obtain ⟨J23, L24, rfl, rfl, h⟩ := h_
      show xJ _ _ _ _ _ _ _ _ _ 25 [(0, .ref e), (1, .int (oI p1)), (2, .ref 3)] [] _ _ _ (zi J23) (li L24)
      refine xr_goto 79 (xd dX8_act 13 rfl) (by decide) ?_
      exact xr_vret (xd dX8_act 41 rfl) rfl (by decide) (by decide) (fun _ => rfl) ⟨_, _, rfl, rfl, h⟩
  · replace h := ifp h c2
    refine xr_aload_n (xd dX8_act 3 rfl) 0 rfl ?_
    refine xr_callV mX8_sendAcks 0 [] (xd dX8_act 4 rfl) l8_147 kX8_sendAcks rfl (lt491 hn (ltS0 he)) (kdS_0 he) (by decide) rfl (by decide) (Nat.le_of_ble_eq_true rfl) (v_X8_sendAcks hn hR he h) (by decide) (by decide) (fun r_ M_ h_ => ?_) (fun _ _ h_ => h_.elim)
    obtain ⟨J25, L26, rfl, rfl, h⟩ := h_
    show xJ _ _ _ _ _ _ _ _ _ 9 [(0, .ref e), (1, .int (oI p1)), (2, .ref 3)] [] _ _ _ (zi J25) (li L26)
    refine xr_goto 79 (xd dX8_act 5 rfl) (by decide) ?_
    exact xr_vret (xd dX8_act 41 rfl) rfl (by decide) (by decide) (fun _ => rfl) ⟨_, _, rfl, rfl, h⟩
def w_X8_drawHello (e : Nat) (J : zM) (L : yM) (Q : zM → yM → Prop) : Prop := w_X9_drawRandom e (J e 0) (e + 143) J L (fun J1 L2 => ∀ K5 : zM → yM → Prop, (∀ (J3 : zM) (L4 : yM), (∀ J6 : zM, J6 = zs J3 e 12 1 → Q J6 L4) → K5 J3 L4) → R32 (J1 (e + 1) 6) ∧ (if (J1 (e + 1) 6) = 0 then K5 J1 L2 else w_X9_drawShare e (J1 e 0) (e + 143) J1 L2 (fun J9 L10 => K5 J9 L10)))
set_option maxHeartbeats 4000000 in
set_option maxRecDepth 100000 in
theorem v_X8_drawHello {b : Nat} {dC : Nat → ClassId} {dI : Nat → Nat → Nat} {cA : Nat → ClassId} {ts : Nat → Nat} {l : Launch} {n : Nat} {R : Nat → Nat → Option Nat} {al : Bool} (hn : 491 ≤ n) (hR : xRk R) {e : Nat} (he : iSide e) {J : zM} {L : yM} {Q : zM → yM → Prop} (h : w_X8_drawHello e J L Q) : xCn (xGm b dC dI cA ts) l mX8_drawHello [.ref e] al (n, R, zi J, li L) 0 0 (zQ0 n R Q) (fun _ _ => False) := by
  refine xCn.ofJ (by decide) (Nat.le_of_ble_eq_true rfl) ?_
  show xJ _ _ _ _ _ _ _ _ _ 0 [(0, .ref e)] [] _ _ _ _ _
  unfold w_X8_drawHello at h
  refine xr_aload_n (xd dX8_drawHello 0 rfl) 0 rfl ?_
  refine xr_getR (b := (e + 1)) 8 1 (xd dX8_drawHello 1 rfl) f8_12 (by decide) (by decide) (lt491 hn (ltS0 he)) (kdS_0 he) rfl (rS_0_1 hR he) ?_
  refine xr_aload_n (xd dX8_drawHello 2 rfl) 0 rfl ?_
  refine xr_getR (b := (e + 144)) 8 2 (xd dX8_drawHello 3 rfl) f8_73 (by decide) (by decide) (lt491 hn (ltS0 he)) (kdS_0 he) rfl (rS_0_2 hR he) ?_
  refine xr_getR (b := 6) 5 0 (xd dX8_drawHello 4 rfl) f8_346 (by decide) (by decide) (lt491 hn (ltS he (by decide))) (kdS_144 he) rfl (rS_144_0 hR he) ?_
  refine xr_aload_n (xd dX8_drawHello 5 rfl) 0 rfl ?_
  refine zr_getI 8 0 0 rfl (xd dX8_drawHello 6 rfl) f8_64 (by decide) (by decide) (lt491 hn (ltS0 he)) (kdS_0 he) rfl ?_
  refine xr_aload_n (xd dX8_drawHello 7 rfl) 0 rfl ?_
  refine xr_getR (b := (e + 143)) 8 11 (xd dX8_drawHello 8 rfl) f8_61 (by decide) (by decide) (lt491 hn (ltS0 he)) (kdS_0 he) rfl (rS_0_11 hR he) ?_
  refine xr_callV mX9_drawRandom 3 [.ref 6, .int (oI (J e 0)), .ref (e + 143)] (xd dX8_drawHello 9 rfl) l8_388 kX9_drawRandom rfl (lt491 hn (ltS he (by decide))) (kdS_1 he) (by decide) rfl (by decide) (Nat.le_of_ble_eq_true rfl) (v_X9_drawRandom hn hR he (za_mk (kdS_143 he) (ltS he (by decide))) h) (by decide) (by decide) (fun r_ M_ h_ => ?_) (fun _ _ h_ => h_.elim)
  obtain ⟨J1, L2, rfl, rfl, h⟩ := h_
  show xJ _ _ _ _ _ _ _ _ _ 22 [(0, .ref e)] [] _ _ _ (zi J1) (li L2)
  refine xr_aload_n (xd dX8_drawHello 10 rfl) 0 rfl ?_
  refine xr_getR (b := (e + 1)) 8 1 (xd dX8_drawHello 11 rfl) f8_12 (by decide) (by decide) (lt491 hn (ltS0 he)) (kdS_0 he) rfl (rS_0_1 hR he) ?_
  refine zr_getI 9 6 6 rfl (xd dX8_drawHello 12 rfl) f8_392 (by decide) (by decide) (lt491 hn (ltS he (by decide))) (kdS_1 he) rfl ?_
  replace h := h (fun (J3 : zM) (L4 : yM) => xJ (xGm b dC dI cA ts) l mX8_drawHello 0 0 (zQ0 n R Q) (fun _ _ => False) 0 0 54 [(0, .ref e)] [] al n R (zi J3) (li L4)) (by
    intro J3 L4 h
    show xJ _ _ _ _ _ _ _ _ _ 54 [(0, .ref e)] [] _ _ _ _ _
    refine xr_aload_n (xd dX8_drawHello 24 rfl) 0 rfl ?_
    refine xr_iconst (v := oI 1) (xd dX8_drawHello 25 rfl) (by decide) ?_
    obtain ⟨J6, e_J6⟩ : ∃ z_ : zM, z_ = zs J3 e 12 1 := ⟨_, rfl⟩
    replace h := h J6 e_J6
    refine zr_putI 8 12 12 rfl e_J6 (xd dX8_drawHello 26 rfl) f8_103 (by decide) (by decide) (lt491 hn (ltS0 he)) (kdS_0 he) (Or.inl rfl) rfl rfl (fun _ => rfl) ?_
    exact xr_vret (xd dX8_drawHello 27 rfl) rfl (by decide) (by decide) (fun _ => rfl) ⟨_, _, rfl, rfl, h⟩)
  obtain ⟨o7, h⟩ := h
  refine zr_if_eq 54 (xd dX8_drawHello 13 rfl) (by decide) o7 (fun c8 => ?_) (fun c8 => ?_)
  · replace h := ifp h c8
    exact h
  · replace h := ifn h c8
    refine xr_aload_n (xd dX8_drawHello 14 rfl) 0 rfl ?_
    refine xr_getR (b := (e + 1)) 8 1 (xd dX8_drawHello 15 rfl) f8_12 (by decide) (by decide) (lt491 hn (ltS0 he)) (kdS_0 he) rfl (rS_0_1 hR he) ?_
    refine xr_aload_n (xd dX8_drawHello 16 rfl) 0 rfl ?_
    refine xr_getR (b := (e + 144)) 8 2 (xd dX8_drawHello 17 rfl) f8_73 (by decide) (by decide) (lt491 hn (ltS0 he)) (kdS_0 he) rfl (rS_0_2 hR he) ?_
    refine xr_getR (b := 6) 5 0 (xd dX8_drawHello 18 rfl) f8_346 (by decide) (by decide) (lt491 hn (ltS he (by decide))) (kdS_144 he) rfl (rS_144_0 hR he) ?_
    refine xr_aload_n (xd dX8_drawHello 19 rfl) 0 rfl ?_
    refine zr_getI 8 0 0 rfl (xd dX8_drawHello 20 rfl) f8_64 (by decide) (by decide) (lt491 hn (ltS0 he)) (kdS_0 he) rfl ?_
    refine xr_aload_n (xd dX8_drawHello 21 rfl) 0 rfl ?_
    refine xr_getR (b := (e + 143)) 8 11 (xd dX8_drawHello 22 rfl) f8_61 (by decide) (by decide) (lt491 hn (ltS0 he)) (kdS_0 he) rfl (rS_0_11 hR he) ?_
    refine xr_callV mX9_drawShare 3 [.ref 6, .int (oI (J1 e 0)), .ref (e + 143)] (xd dX8_drawHello 23 rfl) l8_395 kX9_drawShare rfl (lt491 hn (ltS he (by decide))) (kdS_1 he) (by decide) rfl (by decide) (Nat.le_of_ble_eq_true rfl) (v_X9_drawShare hn hR he (za_mk (kdS_143 he) (ltS he (by decide))) h) (by decide) (by decide) (fun r_ M_ h_ => ?_) (fun _ _ h_ => h_.elim)
    obtain ⟨J9, L10, rfl, rfl, h⟩ := h_
    show xJ _ _ _ _ _ _ _ _ _ 54 [(0, .ref e)] [] _ _ _ (zi J9) (li L10)
    exact h
def w_X8_composeHello (e : Nat) (p1 : Int) (J : zM) (L : yM) (Q : zM → yM → Prop) : Prop := ∀ x1 : Int, x1 = (J (e + 1) 11) → ∀ x2 : Int, x2 = (61 + x1) → ((0 : Int) ≤ 0 ∧ (0 : Int) ≤ 0 ∧ (0 : Int) ≤ 16 ∧ (0 + 16 : Int) ≤ 16 ∧ (0 + 16 : Int) ≤ 152) ∧ ∀ J4 : zM, J4 = zcp J (e + 6) 0 (e + 142) 0 16 → ∀ J5 : zM, J5 = zs J4 (e + 142) 16 x1 → ((0 : Int) ≤ 0 ∧ (0 : Int) ≤ 17 ∧ (0 : Int) ≤ x1 ∧ (0 + x1 : Int) ≤ 16 ∧ (17 + x1 : Int) ≤ 152) ∧ ∀ J7 : zM, J7 = zcp J5 (e + 7) 0 (e + 142) 17 x1 → w_X11_putWord (J7 (e + 1) 12) (e + 142) (17 + x1) J7 L (fun J8 L9 => ((0 : Int) ≤ 0 ∧ (0 : Int) ≤ (21 + x1) ∧ (0 : Int) ≤ 8 ∧ (0 + 8 : Int) ≤ 8 ∧ ((21 + x1) + 8 : Int) ≤ 152) ∧ ∀ J11 : zM, J11 = zcp J8 (e + 3) 0 (e + 142) (21 + x1) 8 → w_X5_startWithHello e (e + 142) 0 x2 J11 L9 (fun J12 L13 => w_X5_binderInto e (e + 2) (e + 143) J12 L13 (fun J14 L15 => w_X5_setBinder e (e + 143) J14 L15 (fun J16 L17 => ((0 : Int) ≤ 0 ∧ (0 : Int) ≤ (x2 - 32) ∧ (0 : Int) ≤ 32 ∧ (0 + 32 : Int) ≤ 32 ∧ ((x2 - 32) + 32 : Int) ≤ 152) ∧ ∀ J19 : zM, J19 = zcp J16 (e + 143) 0 (e + 142) (x2 - 32) 32 → w_X2_startAnew e J19 L17 (fun J20 L21 => w_X2_addMessage e 1 p1 (e + 142) x2 J20 L21 (fun J22 L23 => ∀ J24 : zM, J24 = zs J22 (e + 1) 14 p1 → Q J24 L23))))))
set_option maxHeartbeats 4000000 in
set_option maxRecDepth 100000 in
theorem v_X8_composeHello {b : Nat} {dC : Nat → ClassId} {dI : Nat → Nat → Nat} {cA : Nat → ClassId} {ts : Nat → Nat} {l : Launch} {n : Nat} {R : Nat → Nat → Option Nat} {al : Bool} (hn : 491 ≤ n) (hR : xRk R) {e : Nat} {p1 : Int} (he : iSide e) {J : zM} {L : yM} {Q : zM → yM → Prop} (h : w_X8_composeHello e p1 J L Q) : xCn (xGm b dC dI cA ts) l mX8_composeHello [.ref e, .int (oI p1)] al (n, R, zi J, li L) 0 0 (zQ0 n R Q) (fun _ _ => False) := by
  refine xCn.ofJ (by decide) (Nat.le_of_ble_eq_true rfl) ?_
  show xJ _ _ _ _ _ _ _ _ _ 0 [(0, .ref e), (1, .int (oI p1))] [] _ _ _ _ _
  unfold w_X8_composeHello at h
  refine xr_aload_n (xd dX8_composeHello 0 rfl) 0 rfl ?_
  refine xr_getR (b := (e + 1)) 8 1 (xd dX8_composeHello 1 rfl) f8_12 (by decide) (by decide) (lt491 hn (ltS0 he)) (kdS_0 he) rfl (rS_0_1 hR he) ?_
  refine zr_getI 9 11 11 rfl (xd dX8_composeHello 2 rfl) f8_446 (by decide) (by decide) (lt491 hn (ltS he (by decide))) (kdS_1 he) rfl ?_
  obtain ⟨x1, e_x1⟩ : ∃ z_ : Int, z_ = (J (e + 1) 11) := ⟨_, rfl⟩
  replace h := h x1 e_x1
  refine zr_nm e_x1 ?_
  refine xr_istore_n [(0, .ref e), (1, .int (oI p1)), (2, .int (oI x1))] (xd dX8_composeHello 3 rfl) rfl (by decide) rfl ?_
  refine xr_bipush (v := oI 61) (xd dX8_composeHello 4 rfl) (by decide) ?_
  refine xr_iload_n (xd dX8_composeHello 5 rfl) 2 rfl ?_
  refine zr_iadd (xd dX8_composeHello 6 rfl) ?_
  obtain ⟨x2, e_x2⟩ : ∃ z_ : Int, z_ = (61 + x1) := ⟨_, rfl⟩
  replace h := h x2 e_x2
  refine zr_nm e_x2 ?_
  refine xr_istore_n [(0, .ref e), (1, .int (oI p1)), (2, .int (oI x1)), (3, .int (oI x2))] (xd dX8_composeHello 7 rfl) rfl (by decide) rfl ?_
  refine xr_aload_n (xd dX8_composeHello 8 rfl) 0 rfl ?_
  refine xr_getR (b := (e + 1)) 8 1 (xd dX8_composeHello 9 rfl) f8_12 (by decide) (by decide) (lt491 hn (ltS0 he)) (kdS_0 he) rfl (rS_0_1 hR he) ?_
  refine xr_getR (b := (e + 6)) 9 9 (xd dX8_composeHello 10 rfl) f8_409 (by decide) (by decide) (lt491 hn (ltS he (by decide))) (kdS_1 he) rfl (rS_1_9 hR he) ?_
  refine xr_iconst (v := oI 0) (xd dX8_composeHello 11 rfl) (by decide) ?_
  refine xr_aload_n (xd dX8_composeHello 12 rfl) 0 rfl ?_
  refine xr_getR (b := (e + 142)) 8 10 (xd dX8_composeHello 13 rfl) f8_58 (by decide) (by decide) (lt491 hn (ltS0 he)) (kdS_0 he) rfl (rS_0_10 hR he) ?_
  refine xr_iconst (v := oI 0) (xd dX8_composeHello 14 rfl) (by decide) ?_
  refine xr_bipush (v := oI 16) (xd dX8_composeHello 15 rfl) (by decide) ?_
  obtain ⟨o3, h⟩ := h
  obtain ⟨J4, e_J4⟩ : ∃ z_ : zM, z_ = zcp J (e + 6) 0 (e + 142) 0 16 := ⟨_, rfl⟩
  replace h := h J4 e_J4
  refine zr_acopy e_J4 (xd dX8_composeHello 16 rfl) l8_371 (lt491 hn (ltS he (by decide))) (kdS_6 he) (lnS_6 he) (by decide) (lt491 hn (ltS he (by decide))) (kdS_142 he) (lnS_142 he) (by decide) o3.1 o3.2.1 o3.2.2.1 o3.2.2.2.1 o3.2.2.2.2 ⟨Nat.le_of_ble_eq_true rfl, Nat.le_of_ble_eq_true rfl⟩ ?_
  refine xr_aload_n (xd dX8_composeHello 17 rfl) 0 rfl ?_
  refine xr_getR (b := (e + 142)) 8 10 (xd dX8_composeHello 18 rfl) f8_58 (by decide) (by decide) (lt491 hn (ltS0 he)) (kdS_0 he) rfl (rS_0_10 hR he) ?_
  refine xr_bipush (v := oI 16) (xd dX8_composeHello 19 rfl) (by decide) ?_
  refine xr_iload_n (xd dX8_composeHello 20 rfl) 2 rfl ?_
  obtain ⟨J5, e_J5⟩ : ∃ z_ : zM, z_ = zs J4 (e + 142) 16 x1 := ⟨_, rfl⟩
  replace h := h J5 e_J5
  refine zr_iastore e_J5 (xd dX8_composeHello 21 rfl) (lt491 hn (ltS he (by decide))) (kdS_142 he) (lnS_142 he) (by decide) ⟨by decide, by decide⟩ ?_
  refine xr_aload_n (xd dX8_composeHello 22 rfl) 0 rfl ?_
  refine xr_getR (b := (e + 1)) 8 1 (xd dX8_composeHello 23 rfl) f8_12 (by decide) (by decide) (lt491 hn (ltS0 he)) (kdS_0 he) rfl (rS_0_1 hR he) ?_
  refine xr_getR (b := (e + 7)) 9 10 (xd dX8_composeHello 24 rfl) f8_449 (by decide) (by decide) (lt491 hn (ltS he (by decide))) (kdS_1 he) rfl (rS_1_10 hR he) ?_
  refine xr_iconst (v := oI 0) (xd dX8_composeHello 25 rfl) (by decide) ?_
  refine xr_aload_n (xd dX8_composeHello 26 rfl) 0 rfl ?_
  refine xr_getR (b := (e + 142)) 8 10 (xd dX8_composeHello 27 rfl) f8_58 (by decide) (by decide) (lt491 hn (ltS0 he)) (kdS_0 he) rfl (rS_0_10 hR he) ?_
  refine xr_bipush (v := oI 17) (xd dX8_composeHello 28 rfl) (by decide) ?_
  refine xr_iload_n (xd dX8_composeHello 29 rfl) 2 rfl ?_
  obtain ⟨o6, h⟩ := h
  obtain ⟨J7, e_J7⟩ : ∃ z_ : zM, z_ = zcp J5 (e + 7) 0 (e + 142) 17 x1 := ⟨_, rfl⟩
  replace h := h J7 e_J7
  refine zr_acopy e_J7 (xd dX8_composeHello 30 rfl) l8_371 (lt491 hn (ltS he (by decide))) (kdS_7 he) (lnS_7 he) (by decide) (lt491 hn (ltS he (by decide))) (kdS_142 he) (lnS_142 he) (by decide) o6.1 o6.2.1 o6.2.2.1 o6.2.2.2.1 o6.2.2.2.2 ⟨Nat.le_of_ble_eq_true rfl, Nat.le_of_ble_eq_true rfl⟩ ?_
  refine xr_aload_n (xd dX8_composeHello 31 rfl) 0 rfl ?_
  refine xr_getR (b := (e + 1)) 8 1 (xd dX8_composeHello 32 rfl) f8_12 (by decide) (by decide) (lt491 hn (ltS0 he)) (kdS_0 he) rfl (rS_0_1 hR he) ?_
  refine zr_getI 9 12 12 rfl (xd dX8_composeHello 33 rfl) f8_398 (by decide) (by decide) (lt491 hn (ltS he (by decide))) (kdS_1 he) rfl ?_
  refine xr_aload_n (xd dX8_composeHello 34 rfl) 0 rfl ?_
  refine xr_getR (b := (e + 142)) 8 10 (xd dX8_composeHello 35 rfl) f8_58 (by decide) (by decide) (lt491 hn (ltS0 he)) (kdS_0 he) rfl (rS_0_10 hR he) ?_
  refine xr_bipush (v := oI 17) (xd dX8_composeHello 36 rfl) (by decide) ?_
  refine xr_iload_n (xd dX8_composeHello 37 rfl) 2 rfl ?_
  refine zr_iadd (xd dX8_composeHello 38 rfl) ?_
  refine xr_callSN mX11_putWord 3 [.int (oI (J7 (e + 1) 12)), .ref (e + 142), .int (oI (17 + x1))] (xd dX8_composeHello 39 rfl) n8_412 kX11_putWord rfl (by decide) (Nat.le_of_ble_eq_true rfl) (v_X11_putWord hn hR (za_mk (kdS_142 he) (ltS he (by decide))) h) (by decide) (by decide) (fun r_ M_ h_ => ?_)
  obtain ⟨J8, L9, rfl, rfl, h⟩ := h_
  show xJ _ _ _ _ _ _ _ _ _ 75 [(0, .ref e), (1, .int (oI p1)), (2, .int (oI x1)), (3, .int (oI x2))] [] _ _ _ (zi J8) (li L9)
  refine xr_aload_n (xd dX8_composeHello 40 rfl) 0 rfl ?_
  refine xr_getR (b := (e + 1)) 8 1 (xd dX8_composeHello 41 rfl) f8_12 (by decide) (by decide) (lt491 hn (ltS0 he)) (kdS_0 he) rfl (rS_0_1 hR he) ?_
  refine xr_getR (b := (e + 3)) 9 1 (xd dX8_composeHello 42 rfl) f8_332 (by decide) (by decide) (lt491 hn (ltS he (by decide))) (kdS_1 he) rfl (rS_1_1 hR he) ?_
  refine xr_iconst (v := oI 0) (xd dX8_composeHello 43 rfl) (by decide) ?_
  refine xr_aload_n (xd dX8_composeHello 44 rfl) 0 rfl ?_
  refine xr_getR (b := (e + 142)) 8 10 (xd dX8_composeHello 45 rfl) f8_58 (by decide) (by decide) (lt491 hn (ltS0 he)) (kdS_0 he) rfl (rS_0_10 hR he) ?_
  refine xr_bipush (v := oI 21) (xd dX8_composeHello 46 rfl) (by decide) ?_
  refine xr_iload_n (xd dX8_composeHello 47 rfl) 2 rfl ?_
  refine zr_iadd (xd dX8_composeHello 48 rfl) ?_
  refine xr_bipush (v := oI 8) (xd dX8_composeHello 49 rfl) (by decide) ?_
  obtain ⟨o10, h⟩ := h
  obtain ⟨J11, e_J11⟩ : ∃ z_ : zM, z_ = zcp J8 (e + 3) 0 (e + 142) (21 + x1) 8 := ⟨_, rfl⟩
  replace h := h J11 e_J11
  refine zr_acopy e_J11 (xd dX8_composeHello 50 rfl) l8_371 (lt491 hn (ltS he (by decide))) (kdS_3 he) (lnS_3 he) (by decide) (lt491 hn (ltS he (by decide))) (kdS_142 he) (lnS_142 he) (by decide) o10.1 o10.2.1 o10.2.2.1 o10.2.2.2.1 o10.2.2.2.2 ⟨Nat.le_of_ble_eq_true rfl, Nat.le_of_ble_eq_true rfl⟩ ?_
  refine xr_aload_n (xd dX8_composeHello 51 rfl) 0 rfl ?_
  refine xr_getR (b := (e + 144)) 8 2 (xd dX8_composeHello 52 rfl) f8_73 (by decide) (by decide) (lt491 hn (ltS0 he)) (kdS_0 he) rfl (rS_0_2 hR he) ?_
  refine xr_aload_n (xd dX8_composeHello 53 rfl) 0 rfl ?_
  refine xr_getR (b := (e + 142)) 8 10 (xd dX8_composeHello 54 rfl) f8_58 (by decide) (by decide) (lt491 hn (ltS0 he)) (kdS_0 he) rfl (rS_0_10 hR he) ?_
  refine xr_iconst (v := oI 0) (xd dX8_composeHello 55 rfl) (by decide) ?_
  refine xr_iload_n (xd dX8_composeHello 56 rfl) 3 rfl ?_
  refine xr_callV mX5_startWithHello 3 [.ref (e + 142), .int (oI 0), .int (oI x2)] (xd dX8_composeHello 57 rfl) l8_335 kX5_startWithHello rfl (lt491 hn (ltS he (by decide))) (kdS_144 he) (by decide) rfl (by decide) (Nat.le_of_ble_eq_true rfl) (v_X5_startWithHello hn hR he (za_mk (kdS_142 he) (ltS he (by decide))) h) (by decide) (by decide) (fun r_ M_ h_ => ?_) (fun _ _ h_ => h_.elim)
  obtain ⟨J12, L13, rfl, rfl, h⟩ := h_
  show xJ _ _ _ _ _ _ _ _ _ 109 [(0, .ref e), (1, .int (oI p1)), (2, .int (oI x1)), (3, .int (oI x2))] [] _ _ _ (zi J12) (li L13)
  refine xr_aload_n (xd dX8_composeHello 58 rfl) 0 rfl ?_
  refine xr_getR (b := (e + 144)) 8 2 (xd dX8_composeHello 59 rfl) f8_73 (by decide) (by decide) (lt491 hn (ltS0 he)) (kdS_0 he) rfl (rS_0_2 hR he) ?_
  refine xr_aload_n (xd dX8_composeHello 60 rfl) 0 rfl ?_
  refine xr_getR (b := (e + 1)) 8 1 (xd dX8_composeHello 61 rfl) f8_12 (by decide) (by decide) (lt491 hn (ltS0 he)) (kdS_0 he) rfl (rS_0_1 hR he) ?_
  refine xr_getR (b := (e + 2)) 9 0 (xd dX8_composeHello 62 rfl) f8_339 (by decide) (by decide) (lt491 hn (ltS he (by decide))) (kdS_1 he) rfl (rS_1_0 hR he) ?_
  refine xr_aload_n (xd dX8_composeHello 63 rfl) 0 rfl ?_
  refine xr_getR (b := (e + 143)) 8 11 (xd dX8_composeHello 64 rfl) f8_61 (by decide) (by decide) (lt491 hn (ltS0 he)) (kdS_0 he) rfl (rS_0_11 hR he) ?_
  refine xr_callV mX5_binderInto 2 [.ref (e + 2), .ref (e + 143)] (xd dX8_composeHello 65 rfl) l8_342 kX5_binderInto rfl (lt491 hn (ltS he (by decide))) (kdS_144 he) (by decide) rfl (by decide) (Nat.le_of_ble_eq_true rfl) (v_X5_binderInto hn hR he (za_mk (kdS_2 he) (ltS he (by decide))) (za_mk (kdS_143 he) (ltS he (by decide))) h) (by decide) (by decide) (fun r_ M_ h_ => ?_) (fun _ _ h_ => h_.elim)
  obtain ⟨J14, L15, rfl, rfl, h⟩ := h_
  show xJ _ _ _ _ _ _ _ _ _ 127 [(0, .ref e), (1, .int (oI p1)), (2, .int (oI x1)), (3, .int (oI x2))] [] _ _ _ (zi J14) (li L15)
  refine xr_aload_n (xd dX8_composeHello 66 rfl) 0 rfl ?_
  refine xr_getR (b := (e + 144)) 8 2 (xd dX8_composeHello 67 rfl) f8_73 (by decide) (by decide) (lt491 hn (ltS0 he)) (kdS_0 he) rfl (rS_0_2 hR he) ?_
  refine xr_aload_n (xd dX8_composeHello 68 rfl) 0 rfl ?_
  refine xr_getR (b := (e + 143)) 8 11 (xd dX8_composeHello 69 rfl) f8_61 (by decide) (by decide) (lt491 hn (ltS0 he)) (kdS_0 he) rfl (rS_0_11 hR he) ?_
  refine xr_callV mX5_setBinder 1 [.ref (e + 143)] (xd dX8_composeHello 70 rfl) l8_452 kX5_setBinder rfl (lt491 hn (ltS he (by decide))) (kdS_144 he) (by decide) rfl (by decide) (Nat.le_of_ble_eq_true rfl) (v_X5_setBinder hn hR he (za_mk (kdS_143 he) (ltS he (by decide))) h) (by decide) (by decide) (fun r_ M_ h_ => ?_) (fun _ _ h_ => h_.elim)
  obtain ⟨J16, L17, rfl, rfl, h⟩ := h_
  show xJ _ _ _ _ _ _ _ _ _ 138 [(0, .ref e), (1, .int (oI p1)), (2, .int (oI x1)), (3, .int (oI x2))] [] _ _ _ (zi J16) (li L17)
  refine xr_aload_n (xd dX8_composeHello 71 rfl) 0 rfl ?_
  refine xr_getR (b := (e + 143)) 8 11 (xd dX8_composeHello 72 rfl) f8_61 (by decide) (by decide) (lt491 hn (ltS0 he)) (kdS_0 he) rfl (rS_0_11 hR he) ?_
  refine xr_iconst (v := oI 0) (xd dX8_composeHello 73 rfl) (by decide) ?_
  refine xr_aload_n (xd dX8_composeHello 74 rfl) 0 rfl ?_
  refine xr_getR (b := (e + 142)) 8 10 (xd dX8_composeHello 75 rfl) f8_58 (by decide) (by decide) (lt491 hn (ltS0 he)) (kdS_0 he) rfl (rS_0_10 hR he) ?_
  refine xr_iload_n (xd dX8_composeHello 76 rfl) 3 rfl ?_
  refine xr_bipush (v := oI 32) (xd dX8_composeHello 77 rfl) (by decide) ?_
  refine zr_isub (xd dX8_composeHello 78 rfl) ?_
  refine xr_bipush (v := oI 32) (xd dX8_composeHello 79 rfl) (by decide) ?_
  obtain ⟨o18, h⟩ := h
  obtain ⟨J19, e_J19⟩ : ∃ z_ : zM, z_ = zcp J16 (e + 143) 0 (e + 142) (x2 - 32) 32 := ⟨_, rfl⟩
  replace h := h J19 e_J19
  refine zr_acopy e_J19 (xd dX8_composeHello 80 rfl) l8_371 (lt491 hn (ltS he (by decide))) (kdS_143 he) (lnS_143 he) (by decide) (lt491 hn (ltS he (by decide))) (kdS_142 he) (lnS_142 he) (by decide) o18.1 o18.2.1 o18.2.2.1 o18.2.2.2.1 o18.2.2.2.2 ⟨Nat.le_of_ble_eq_true rfl, Nat.le_of_ble_eq_true rfl⟩ ?_
  refine xr_aload_n (xd dX8_composeHello 81 rfl) 0 rfl ?_
  refine xr_getR (b := (e + 8)) 8 4 (xd dX8_composeHello 82 rfl) f8_21 (by decide) (by decide) (lt491 hn (ltS0 he)) (kdS_0 he) rfl (rS_0_4 hR he) ?_
  refine xr_callV mX2_startAnew 0 [] (xd dX8_composeHello 83 rfl) l8_96 kX2_startAnew rfl (lt491 hn (ltS he (by decide))) (kdS_8 he) (by decide) rfl (by decide) (Nat.le_of_ble_eq_true rfl) (v_X2_startAnew hn hR he h) (by decide) (by decide) (fun r_ M_ h_ => ?_) (fun _ _ h_ => h_.elim)
  obtain ⟨J20, L21, rfl, rfl, h⟩ := h_
  show xJ _ _ _ _ _ _ _ _ _ 163 [(0, .ref e), (1, .int (oI p1)), (2, .int (oI x1)), (3, .int (oI x2))] [] _ _ _ (zi J20) (li L21)
  refine xr_aload_n (xd dX8_composeHello 84 rfl) 0 rfl ?_
  refine xr_getR (b := (e + 8)) 8 4 (xd dX8_composeHello 85 rfl) f8_21 (by decide) (by decide) (lt491 hn (ltS0 he)) (kdS_0 he) rfl (rS_0_4 hR he) ?_
  refine xr_iconst (v := oI 1) (xd dX8_composeHello 86 rfl) (by decide) ?_
  refine xr_iload_n (xd dX8_composeHello 87 rfl) 1 rfl ?_
  refine xr_aload_n (xd dX8_composeHello 88 rfl) 0 rfl ?_
  refine xr_getR (b := (e + 142)) 8 10 (xd dX8_composeHello 89 rfl) f8_58 (by decide) (by decide) (lt491 hn (ltS0 he)) (kdS_0 he) rfl (rS_0_10 hR he) ?_
  refine xr_iload_n (xd dX8_composeHello 90 rfl) 3 rfl ?_
  refine xr_callV mX2_addMessage 4 [.int (oI 1), .int (oI p1), .ref (e + 142), .int (oI x2)] (xd dX8_composeHello 91 rfl) l8_439 kX2_addMessage rfl (lt491 hn (ltS he (by decide))) (kdS_8 he) (by decide) rfl (by decide) (Nat.le_of_ble_eq_true rfl) (v_X2_addMessage hn hR he (za_mk (kdS_142 he) (ltS he (by decide))) h) (by decide) (by decide) (fun r_ M_ h_ => ?_) (fun _ _ h_ => h_.elim)
  obtain ⟨J22, L23, rfl, rfl, h⟩ := h_
  show xJ _ _ _ _ _ _ _ _ _ 177 [(0, .ref e), (1, .int (oI p1)), (2, .int (oI x1)), (3, .int (oI x2))] [] _ _ _ (zi J22) (li L23)
  refine xr_aload_n (xd dX8_composeHello 92 rfl) 0 rfl ?_
  refine xr_getR (b := (e + 1)) 8 1 (xd dX8_composeHello 93 rfl) f8_12 (by decide) (by decide) (lt491 hn (ltS0 he)) (kdS_0 he) rfl (rS_0_1 hR he) ?_
  refine xr_iload_n (xd dX8_composeHello 94 rfl) 1 rfl ?_
  obtain ⟨J24, e_J24⟩ : ∃ z_ : zM, z_ = zs J22 (e + 1) 14 p1 := ⟨_, rfl⟩
  replace h := h J24 e_J24
  refine zr_putI 9 14 14 rfl e_J24 (xd dX8_composeHello 95 rfl) f8_456 (by decide) (by decide) (lt491 hn (ltS he (by decide))) (kdS_1 he) (Or.inl rfl) rfl rfl (fun _ => rfl) ?_
  exact xr_vret (xd dX8_composeHello 96 rfl) rfl (by decide) (by decide) (fun _ => rfl) ⟨_, _, rfl, rfl, h⟩
def w_X8_hasNext (e : Nat) (J : zM) (L : yM) (Q : Int → zM → yM → Prop) : Prop := R32 (J e 12) ∧ (if (J e 12) = 1 then w_X3_isWhole e (J e 14) J L (fun r5 J3 L4 => R32 r5 ∧ (if r5 = 0 then Q 0 J3 L4 else Q 1 J3 L4)) else Q 0 J L)
set_option maxHeartbeats 4000000 in
set_option maxRecDepth 100000 in
theorem v_X8_hasNext {b : Nat} {dC : Nat → ClassId} {dI : Nat → Nat → Nat} {cA : Nat → ClassId} {ts : Nat → Nat} {l : Launch} {n : Nat} {R : Nat → Nat → Option Nat} {al : Bool} (hn : 491 ≤ n) (hR : xRk R) {e : Nat} (he : iSide e) {J : zM} {L : yM} {Q : Int → zM → yM → Prop} (h : w_X8_hasNext e J L Q) : xCn (xGm b dC dI cA ts) l mX8_hasNext [.ref e] al (n, R, zi J, li L) 0 0 (zQ1 n R Q) (fun _ _ => False) := by
  refine xCn.ofJ (by decide) (Nat.le_of_ble_eq_true rfl) ?_
  show xJ _ _ _ _ _ _ _ _ _ 0 [(0, .ref e)] [] _ _ _ _ _
  unfold w_X8_hasNext at h
  refine xr_aload_n (xd dX8_hasNext 0 rfl) 0 rfl ?_
  refine zr_getI 8 12 12 rfl (xd dX8_hasNext 1 rfl) f8_103 (by decide) (by decide) (lt491 hn (ltS0 he)) (kdS_0 he) rfl ?_
  refine xr_iconst (v := oI 1) (xd dX8_hasNext 2 rfl) (by decide) ?_
  obtain ⟨o1, h⟩ := h
  refine zr_icmp_ne 26 (xd dX8_hasNext 3 rfl) (by decide) o1 (by decide) (fun c2 => ?_) (fun c2 => ?_)
  · replace h := ifn h c2
    refine xr_iconst (v := oI 0) (xd dX8_hasNext 12 rfl) (by decide) ?_
    exact xr_zret (xd dX8_hasNext 13 rfl) rfl (zret_b (Or.inl rfl)) (by decide) (by decide) (fun _ => rfl) ⟨_, _, _, rfl, rfl, h⟩
  · replace h := ifp h c2
    refine xr_aload_n (xd dX8_hasNext 4 rfl) 0 rfl ?_
    refine xr_getR (b := (e + 17)) 8 5 (xd dX8_hasNext 5 rfl) f8_28 (by decide) (by decide) (lt491 hn (ltS0 he)) (kdS_0 he) rfl (rS_0_5 hR he) ?_
    refine xr_aload_n (xd dX8_hasNext 6 rfl) 0 rfl ?_
    refine zr_getI 8 14 14 rfl (xd dX8_hasNext 7 rfl) f8_109 (by decide) (by decide) (lt491 hn (ltS0 he)) (kdS_0 he) rfl ?_
    refine xr_callV mX3_isWhole 1 [.int (oI (J e 14))] (xd dX8_hasNext 8 rfl) l8_459 kX3_isWhole rfl (lt491 hn (ltS he (by decide))) (kdS_17 he) (by decide) rfl (by decide) (Nat.le_of_ble_eq_true rfl) (v_X3_isWhole hn hR he h) (by decide) (by decide) (fun r_ M_ h_ => ?_) (fun _ _ h_ => h_.elim)
    obtain ⟨r5, J3, L4, rfl, rfl, h⟩ := h_
    show xJ _ _ _ _ _ _ _ _ _ 19 [(0, .ref e)] [.int (oI r5)] _ _ _ (zi J3) (li L4)
    obtain ⟨o6, h⟩ := h
    refine zr_if_eq 26 (xd dX8_hasNext 9 rfl) (by decide) o6 (fun c7 => ?_) (fun c7 => ?_)
    · replace h := ifp h c7
      refine xr_iconst (v := oI 0) (xd dX8_hasNext 12 rfl) (by decide) ?_
      exact xr_zret (xd dX8_hasNext 13 rfl) rfl (zret_b (Or.inl rfl)) (by decide) (by decide) (fun _ => rfl) ⟨_, _, _, rfl, rfl, h⟩
    · replace h := ifn h c7
      refine xr_iconst (v := oI 1) (xd dX8_hasNext 10 rfl) (by decide) ?_
      refine xr_goto 27 (xd dX8_hasNext 11 rfl) (by decide) ?_
      exact xr_zret (xd dX8_hasNext 13 rfl) rfl (zret_b (Or.inr rfl)) (by decide) (by decide) (fun _ => rfl) ⟨_, _, _, rfl, rfl, h⟩
def w_X8_takeRetry (e : Nat) (p1 : Nat) (J : zM) (L : yM) (Q : zM → yM → Prop) : Prop := ((0 : Int) ≤ 0 ∧ (0 : Int) ≤ 0 ∧ (0 : Int) ≤ 16 ∧ (0 + 16 : Int) ≤ (ln0 p1 : Int) ∧ (0 + 16 : Int) ≤ 16) ∧ ∀ J2 : zM, J2 = zcp J p1 0 (e + 7) 0 16 → ∀ J3 : zM, J3 = zs J2 (e + 1) 11 16 → Q J3 L
set_option maxHeartbeats 4000000 in
set_option maxRecDepth 100000 in
theorem v_X8_takeRetry {b : Nat} {dC : Nat → ClassId} {dI : Nat → Nat → Nat} {cA : Nat → ClassId} {ts : Nat → Nat} {l : Launch} {n : Nat} {R : Nat → Nat → Option Nat} {al : Bool} (hn : 491 ≤ n) (hR : xRk R) {e : Nat} {p1 : Nat} (he : iSide e) (h_p1 : za p1) {J : zM} {L : yM} {Q : zM → yM → Prop} (h : w_X8_takeRetry e p1 J L Q) : xCn (xGm b dC dI cA ts) l mX8_takeRetry [.ref e, .ref p1] al (n, R, zi J, li L) 0 0 (zQ0 n R Q) (fun _ _ => False) := by
  refine xCn.ofJ (by decide) (Nat.le_of_ble_eq_true rfl) ?_
  show xJ _ _ _ _ _ _ _ _ _ 0 [(0, .ref e), (1, .ref p1)] [] _ _ _ _ _
  unfold w_X8_takeRetry at h
  refine xr_aload_n (xd dX8_takeRetry 0 rfl) 1 rfl ?_
  refine xr_iconst (v := oI 0) (xd dX8_takeRetry 1 rfl) (by decide) ?_
  refine xr_aload_n (xd dX8_takeRetry 2 rfl) 0 rfl ?_
  refine xr_getR (b := (e + 1)) 8 1 (xd dX8_takeRetry 3 rfl) f8_12 (by decide) (by decide) (lt491 hn (ltS0 he)) (kdS_0 he) rfl (rS_0_1 hR he) ?_
  refine xr_getR (b := (e + 7)) 9 10 (xd dX8_takeRetry 4 rfl) f8_449 (by decide) (by decide) (lt491 hn (ltS he (by decide))) (kdS_1 he) rfl (rS_1_10 hR he) ?_
  refine xr_iconst (v := oI 0) (xd dX8_takeRetry 5 rfl) (by decide) ?_
  refine xr_bipush (v := oI 16) (xd dX8_takeRetry 6 rfl) (by decide) ?_
  obtain ⟨o1, h⟩ := h
  obtain ⟨J2, e_J2⟩ : ∃ z_ : zM, z_ = zcp J p1 0 (e + 7) 0 16 := ⟨_, rfl⟩
  replace h := h J2 e_J2
  refine zr_acopy e_J2 (xd dX8_takeRetry 7 rfl) l8_371 (lt491 hn h_p1.2) h_p1.1 rfl (ln0_lt p1) (lt491 hn (ltS he (by decide))) (kdS_7 he) (lnS_7 he) (by decide) o1.1 o1.2.1 o1.2.2.1 o1.2.2.2.1 o1.2.2.2.2 ⟨Nat.le_of_ble_eq_true rfl, Nat.le_of_ble_eq_true rfl⟩ ?_
  refine xr_aload_n (xd dX8_takeRetry 8 rfl) 0 rfl ?_
  refine xr_getR (b := (e + 1)) 8 1 (xd dX8_takeRetry 9 rfl) f8_12 (by decide) (by decide) (lt491 hn (ltS0 he)) (kdS_0 he) rfl (rS_0_1 hR he) ?_
  refine xr_bipush (v := oI 16) (xd dX8_takeRetry 10 rfl) (by decide) ?_
  obtain ⟨J3, e_J3⟩ : ∃ z_ : zM, z_ = zs J2 (e + 1) 11 16 := ⟨_, rfl⟩
  replace h := h J3 e_J3
  refine zr_putI 9 11 11 rfl e_J3 (xd dX8_takeRetry 11 rfl) f8_446 (by decide) (by decide) (lt491 hn (ltS he (by decide))) (kdS_1 he) (Or.inl rfl) rfl rfl (fun _ => rfl) ?_
  exact xr_vret (xd dX8_takeRetry 12 rfl) rfl (by decide) (by decide) (fun _ => rfl) ⟨_, _, rfl, rfl, h⟩
def w_X8_takeAnswer (e : Nat) (p1 : Nat) (J : zM) (L : yM) (Q : Int → zM → yM → Prop) : Prop := w_X11_wordAt p1 16 J L (fun r3 J1 L2 => ∀ J4 : zM, J4 = zs J1 (e + 8) 13 0 → ∀ K7 : zM → yM → Prop, (∀ (J5 : zM) (L6 : yM), (∀ K11 : Int → zM → yM → Prop, (∀ (x8 : Int) (J9 : zM) (L10 : yM), (w_X5_addMessage e 2 p1 0 20 J9 L10 (fun J12 L13 => w_X5_enterHandshake e (e + 2) x8 J12 L13 (fun J14 L15 => ∀ J16 : zM, J16 = zs J14 e 13 8 → Q 0 J16 L15))) → K11 x8 J9 L10) → (if (zcmp r3 0) = 0 then K11 0 J5 L6 else w_X11_power r3 (L6 (e + 1) 13) J5 L6 (fun r20 J18 L19 => K11 (zl2i r20) J18 L19))) → K7 J5 L6) → (if (zcmp r3 0) = 0 then K7 J4 L2 else R32 (J4 (e + 1) 6) ∧ (if (J4 (e + 1) 6) = 0 then Q 47 J4 L2 else K7 J4 L2)))
set_option maxHeartbeats 4000000 in
set_option maxRecDepth 100000 in
theorem v_X8_takeAnswer {b : Nat} {dC : Nat → ClassId} {dI : Nat → Nat → Nat} {cA : Nat → ClassId} {ts : Nat → Nat} {l : Launch} {n : Nat} {R : Nat → Nat → Option Nat} {al : Bool} (hn : 491 ≤ n) (hR : xRk R) {e : Nat} {p1 : Nat} (he : iSide e) (h_p1 : za p1) {J : zM} {L : yM} {Q : Int → zM → yM → Prop} (h : w_X8_takeAnswer e p1 J L Q) : xCn (xGm b dC dI cA ts) l mX8_takeAnswer [.ref e, .ref p1] al (n, R, zi J, li L) 0 0 (zQ1 n R Q) (fun _ _ => False) := by
  refine xCn.ofJ (by decide) (Nat.le_of_ble_eq_true rfl) ?_
  show xJ _ _ _ _ _ _ _ _ _ 0 [(0, .ref e), (1, .ref p1)] [] _ _ _ _ _
  unfold w_X8_takeAnswer at h
  refine xr_aload_n (xd dX8_takeAnswer 0 rfl) 1 rfl ?_
  refine xr_bipush (v := oI 16) (xd dX8_takeAnswer 1 rfl) (by decide) ?_
  refine xr_callSN mX11_wordAt 2 [.ref p1, .int (oI 16)] (xd dX8_takeAnswer 2 rfl) n8_384 kX11_wordAt rfl (by decide) (Nat.le_of_ble_eq_true rfl) (v_X11_wordAt hn hR (za_mk h_p1.1 h_p1.2) h) (by decide) (by decide) (fun r_ M_ h_ => ?_)
  obtain ⟨r3, J1, L2, rfl, rfl, h⟩ := h_
  show xJ _ _ _ _ _ _ _ _ _ 6 [(0, .ref e), (1, .ref p1)] [.long r3] _ _ _ (zi J1) (li L2)
  refine xr_lstore_n [(0, .ref e), (1, .ref p1), (2, .long r3)] (xd dX8_takeAnswer 3 rfl) rfl (by decide) rfl ?_
  refine xr_aload_n (xd dX8_takeAnswer 4 rfl) 0 rfl ?_
  refine xr_getR (b := (e + 8)) 8 4 (xd dX8_takeAnswer 5 rfl) f8_21 (by decide) (by decide) (lt491 hn (ltS0 he)) (kdS_0 he) rfl (rS_0_4 hR he) ?_
  refine xr_iconst (v := oI 0) (xd dX8_takeAnswer 6 rfl) (by decide) ?_
  obtain ⟨J4, e_J4⟩ : ∃ z_ : zM, z_ = zs J1 (e + 8) 13 0 := ⟨_, rfl⟩
  replace h := h J4 e_J4
  refine zr_putI 2 13 13 rfl e_J4 (xd dX8_takeAnswer 7 rfl) f8_130 (by decide) (by decide) (lt491 hn (ltS he (by decide))) (kdS_8 he) (Or.inl rfl) (zret_b (Or.inl rfl)) (fits_b (Or.inl rfl)) (fun _ => rfl) ?_
  refine xr_lload_n (xd dX8_takeAnswer 8 rfl) 2 rfl ?_
  refine xr_lconst (v := 0) (xd dX8_takeAnswer 9 rfl) (by decide) ?_
  refine zr_lcmp (xd dX8_takeAnswer 10 rfl) ?_
  replace h := h (fun (J5 : zM) (L6 : yM) => xJ (xGm b dC dI cA ts) l mX8_takeAnswer 0 0 (zQ1 n R Q) (fun _ _ => False) 0 0 34 [(0, .ref e), (1, .ref p1), (2, .long r3)] [] al n R (zi J5) (li L6)) (by
    intro J5 L6 h
    show xJ _ _ _ _ _ _ _ _ _ 34 [(0, .ref e), (1, .ref p1), (2, .long r3)] [] _ _ _ _ _
    refine xr_lload_n (xd dX8_takeAnswer 18 rfl) 2 rfl ?_
    refine xr_lconst (v := 0) (xd dX8_takeAnswer 19 rfl) (by decide) ?_
    refine zr_lcmp (xd dX8_takeAnswer 20 rfl) ?_
    replace h := h (fun (x8 : Int) (J9 : zM) (L10 : yM) => xJ (xGm b dC dI cA ts) l mX8_takeAnswer 0 0 (zQ1 n R Q) (fun _ _ => False) 0 0 56 [(0, .ref e), (1, .ref p1)] [.int (oI x8)] al n R (zi J9) (li L10)) (by
      intro x8 J9 L10 h
      show xJ _ _ _ _ _ _ _ _ _ 56 [(0, .ref e), (1, .ref p1)] [.int (oI x8)] _ _ _ _ _
      refine xr_istore [(0, .ref e), (1, .ref p1), (4, .int (oI x8))] (xd dX8_takeAnswer 30 rfl) (by decide) rfl ?_
      refine xr_aload_n (xd dX8_takeAnswer 31 rfl) 0 rfl ?_
      refine xr_getR (b := (e + 144)) 8 2 (xd dX8_takeAnswer 32 rfl) f8_73 (by decide) (by decide) (lt491 hn (ltS0 he)) (kdS_0 he) rfl (rS_0_2 hR he) ?_
      refine xr_iconst (v := oI 2) (xd dX8_takeAnswer 33 rfl) (by decide) ?_
      refine xr_aload_n (xd dX8_takeAnswer 34 rfl) 1 rfl ?_
      refine xr_iconst (v := oI 0) (xd dX8_takeAnswer 35 rfl) (by decide) ?_
      refine xr_bipush (v := oI 20) (xd dX8_takeAnswer 36 rfl) (by decide) ?_
      refine xr_callV mX5_addMessage 4 [.int (oI 2), .ref p1, .int (oI 0), .int (oI 20)] (xd dX8_takeAnswer 37 rfl) l8_443 kX5_addMessage rfl (lt491 hn (ltS he (by decide))) (kdS_144 he) (by decide) rfl (by decide) (Nat.le_of_ble_eq_true rfl) (v_X5_addMessage hn hR he (za_mk h_p1.1 h_p1.2) h) (by decide) (by decide) (fun r_ M_ h_ => ?_) (fun _ _ h_ => h_.elim)
      obtain ⟨J12, L13, rfl, rfl, h⟩ := h_
      show xJ _ _ _ _ _ _ _ _ _ 70 [(0, .ref e), (1, .ref p1), (4, .int (oI x8))] [] _ _ _ (zi J12) (li L13)
      refine xr_aload_n (xd dX8_takeAnswer 38 rfl) 0 rfl ?_
      refine xr_getR (b := (e + 144)) 8 2 (xd dX8_takeAnswer 39 rfl) f8_73 (by decide) (by decide) (lt491 hn (ltS0 he)) (kdS_0 he) rfl (rS_0_2 hR he) ?_
      refine xr_aload_n (xd dX8_takeAnswer 40 rfl) 0 rfl ?_
      refine xr_getR (b := (e + 1)) 8 1 (xd dX8_takeAnswer 41 rfl) f8_12 (by decide) (by decide) (lt491 hn (ltS0 he)) (kdS_0 he) rfl (rS_0_1 hR he) ?_
      refine xr_getR (b := (e + 2)) 9 0 (xd dX8_takeAnswer 42 rfl) f8_339 (by decide) (by decide) (lt491 hn (ltS he (by decide))) (kdS_1 he) rfl (rS_1_0 hR he) ?_
      refine xr_iload (xd dX8_takeAnswer 43 rfl) 2 rfl ?_
      refine xr_callV mX5_enterHandshake 2 [.ref (e + 2), .int (oI x8)] (xd dX8_takeAnswer 44 rfl) l8_419 kX5_enterHandshake rfl (lt491 hn (ltS he (by decide))) (kdS_144 he) (by decide) rfl (by decide) (Nat.le_of_ble_eq_true rfl) (v_X5_enterHandshake hn hR he (za_mk (kdS_2 he) (ltS he (by decide))) h) (by decide) (by decide) (fun r_ M_ h_ => ?_) (fun _ _ h_ => h_.elim)
      obtain ⟨J14, L15, rfl, rfl, h⟩ := h_
      show xJ _ _ _ _ _ _ _ _ _ 86 [(0, .ref e), (1, .ref p1), (4, .int (oI x8))] [] _ _ _ (zi J14) (li L15)
      refine xr_aload_n (xd dX8_takeAnswer 45 rfl) 0 rfl ?_
      refine xr_bipush (v := oI 8) (xd dX8_takeAnswer 46 rfl) (by decide) ?_
      obtain ⟨J16, e_J16⟩ : ∃ z_ : zM, z_ = zs J14 e 13 8 := ⟨_, rfl⟩
      replace h := h J16 e_J16
      refine zr_putI 8 13 13 rfl e_J16 (xd dX8_takeAnswer 47 rfl) f8_106 (by decide) (by decide) (lt491 hn (ltS0 he)) (kdS_0 he) (Or.inl rfl) rfl rfl (fun _ => rfl) ?_
      refine xr_iconst (v := oI 0) (xd dX8_takeAnswer 48 rfl) (by decide) ?_
      exact xr_iret (xd dX8_takeAnswer 49 rfl) rfl (by decide) (by decide) (fun _ => rfl) ⟨_, _, _, rfl, rfl, h⟩)
    refine zr_if_ne 44 (xd dX8_takeAnswer 21 rfl) (by decide) (R32_of _) (fun c17 => ?_) (fun c17 => ?_)
    · replace h := ifn h c17
      refine xr_lload_n (xd dX8_takeAnswer 24 rfl) 2 rfl ?_
      refine xr_aload_n (xd dX8_takeAnswer 25 rfl) 0 rfl ?_
      refine xr_getR (b := (e + 1)) 8 1 (xd dX8_takeAnswer 26 rfl) f8_12 (by decide) (by decide) (lt491 hn (ltS0 he)) (kdS_0 he) rfl (rS_0_1 hR he) ?_
      refine zr_getL 9 13 13 rfl (xd dX8_takeAnswer 27 rfl) f8_401 (by decide) (by decide) (lt491 hn (ltS he (by decide))) (kdS_1 he) rfl ?_
      refine xr_callSN mX11_power 2 [.long r3, .long (L6 (e + 1) 13)] (xd dX8_takeAnswer 28 rfl) n8_405 kX11_power rfl (by decide) (Nat.le_of_ble_eq_true rfl) (v_X11_power hn hR  h) (by decide) (by decide) (fun r_ M_ h_ => ?_)
      obtain ⟨r20, J18, L19, rfl, rfl, h⟩ := h_
      show xJ _ _ _ _ _ _ _ _ _ 55 [(0, .ref e), (1, .ref p1), (2, .long r3)] [.long r20] _ _ _ (zi J18) (li L19)
      refine zr_l2i (xd dX8_takeAnswer 29 rfl) ?_
      refine xJ.pick (ls' := [(0, .ref e), (1, .ref p1)]) [0, 1] rfl ?_
      exact h
    · replace h := ifp h c17
      refine xr_iconst (v := oI 0) (xd dX8_takeAnswer 22 rfl) (by decide) ?_
      refine xr_goto 56 (xd dX8_takeAnswer 23 rfl) (by decide) ?_
      refine xJ.pick (ls' := [(0, .ref e), (1, .ref p1)]) [0, 1] rfl ?_
      exact h)
  refine zr_if_eq 34 (xd dX8_takeAnswer 11 rfl) (by decide) (R32_of _) (fun c21 => ?_) (fun c21 => ?_)
  · replace h := ifp h c21
    exact h
  · replace h := ifn h c21
    refine xr_aload_n (xd dX8_takeAnswer 12 rfl) 0 rfl ?_
    refine xr_getR (b := (e + 1)) 8 1 (xd dX8_takeAnswer 13 rfl) f8_12 (by decide) (by decide) (lt491 hn (ltS0 he)) (kdS_0 he) rfl (rS_0_1 hR he) ?_
    refine zr_getI 9 6 6 rfl (xd dX8_takeAnswer 14 rfl) f8_392 (by decide) (by decide) (lt491 hn (ltS he (by decide))) (kdS_1 he) rfl ?_
    obtain ⟨o22, h⟩ := h
    refine zr_if_ne 34 (xd dX8_takeAnswer 15 rfl) (by decide) o22 (fun c23 => ?_) (fun c23 => ?_)
    · replace h := ifn h c23
      exact h
    · replace h := ifp h c23
      refine xr_bipush (v := oI 47) (xd dX8_takeAnswer 16 rfl) (by decide) ?_
      exact xr_iret (xd dX8_takeAnswer 17 rfl) rfl (by decide) (by decide) (fun _ => rfl) ⟨_, _, _, rfl, rfl, h⟩
def w_X8_takeFinished (e : Nat) (p1 : Nat) (J : zM) (L : yM) (Q : Int → zM → yM → Prop) : Prop := w_X5_finishedInto e (1 - (J e 0)) (e + 143) J L (fun J1 L2 => w_X11_sameOctets (e + 143) 0 p1 0 32 J1 L2 (fun r5 J3 L4 => R32 r5 ∧ (if r5 = 0 then Q 51 J3 L4 else ∀ K10 : zM → yM → Prop, (∀ (J8 : zM) (L9 : yM), (∀ J11 : zM, J11 = zs J8 e 12 2 → Q 0 J11 L9) → K10 J8 L9) → R32 (J3 e 0) ∧ (if (J3 e 0) = 0 then w_X5_addMessage e 20 p1 0 32 J3 L4 (fun J15 L16 => w_X5_enterData e J15 L16 (fun J17 L18 => w_X5_finishedInto e 0 (e + 142) J17 L18 (fun J19 L20 => w_X2_startAnew e J19 L20 (fun J21 L22 => w_X2_addMessage e 20 ((J21 (e + 1) 14) + 1) (e + 142) 32 J21 L22 (fun J23 L24 => K10 J23 L24))))) else ∀ J14 : zM, J14 = zs J3 (e + 8) 13 0 → K10 J14 L4))))
set_option maxHeartbeats 4000000 in
set_option maxRecDepth 100000 in
theorem v_X8_takeFinished {b : Nat} {dC : Nat → ClassId} {dI : Nat → Nat → Nat} {cA : Nat → ClassId} {ts : Nat → Nat} {l : Launch} {n : Nat} {R : Nat → Nat → Option Nat} {al : Bool} (hn : 491 ≤ n) (hR : xRk R) {e : Nat} {p1 : Nat} (he : iSide e) (h_p1 : za p1) {J : zM} {L : yM} {Q : Int → zM → yM → Prop} (h : w_X8_takeFinished e p1 J L Q) : xCn (xGm b dC dI cA ts) l mX8_takeFinished [.ref e, .ref p1] al (n, R, zi J, li L) 0 0 (zQ1 n R Q) (fun _ _ => False) := by
  refine xCn.ofJ (by decide) (Nat.le_of_ble_eq_true rfl) ?_
  show xJ _ _ _ _ _ _ _ _ _ 0 [(0, .ref e), (1, .ref p1)] [] _ _ _ _ _
  unfold w_X8_takeFinished at h
  refine xr_aload_n (xd dX8_takeFinished 0 rfl) 0 rfl ?_
  refine xr_getR (b := (e + 144)) 8 2 (xd dX8_takeFinished 1 rfl) f8_73 (by decide) (by decide) (lt491 hn (ltS0 he)) (kdS_0 he) rfl (rS_0_2 hR he) ?_
  refine xr_iconst (v := oI 1) (xd dX8_takeFinished 2 rfl) (by decide) ?_
  refine xr_aload_n (xd dX8_takeFinished 3 rfl) 0 rfl ?_
  refine zr_getI 8 0 0 rfl (xd dX8_takeFinished 4 rfl) f8_64 (by decide) (by decide) (lt491 hn (ltS0 he)) (kdS_0 he) rfl ?_
  refine zr_isub (xd dX8_takeFinished 5 rfl) ?_
  refine xr_aload_n (xd dX8_takeFinished 6 rfl) 0 rfl ?_
  refine xr_getR (b := (e + 143)) 8 11 (xd dX8_takeFinished 7 rfl) f8_61 (by decide) (by decide) (lt491 hn (ltS0 he)) (kdS_0 he) rfl (rS_0_11 hR he) ?_
  refine xr_callV mX5_finishedInto 2 [.int (oI (1 - (J e 0))), .ref (e + 143)] (xd dX8_takeFinished 8 rfl) l8_432 kX5_finishedInto rfl (lt491 hn (ltS he (by decide))) (kdS_144 he) (by decide) rfl (by decide) (Nat.le_of_ble_eq_true rfl) (v_X5_finishedInto hn hR he (za_mk (kdS_143 he) (ltS he (by decide))) h) (by decide) (by decide) (fun r_ M_ h_ => ?_) (fun _ _ h_ => h_.elim)
  obtain ⟨J1, L2, rfl, rfl, h⟩ := h_
  show xJ _ _ _ _ _ _ _ _ _ 17 [(0, .ref e), (1, .ref p1)] [] _ _ _ (zi J1) (li L2)
  refine xr_aload_n (xd dX8_takeFinished 9 rfl) 0 rfl ?_
  refine xr_getR (b := (e + 143)) 8 11 (xd dX8_takeFinished 10 rfl) f8_61 (by decide) (by decide) (lt491 hn (ltS0 he)) (kdS_0 he) rfl (rS_0_11 hR he) ?_
  refine xr_iconst (v := oI 0) (xd dX8_takeFinished 11 rfl) (by decide) ?_
  refine xr_aload_n (xd dX8_takeFinished 12 rfl) 1 rfl ?_
  refine xr_iconst (v := oI 0) (xd dX8_takeFinished 13 rfl) (by decide) ?_
  refine xr_bipush (v := oI 32) (xd dX8_takeFinished 14 rfl) (by decide) ?_
  refine xr_callSN mX11_sameOctets 5 [.ref (e + 143), .int (oI 0), .ref p1, .int (oI 0), .int (oI 32)] (xd dX8_takeFinished 15 rfl) n8_220 kX11_sameOctets rfl (by decide) (Nat.le_of_ble_eq_true rfl) (v_X11_sameOctets hn hR (za_mk (kdS_143 he) (ltS he (by decide))) (za_mk h_p1.1 h_p1.2) h) (by decide) (by decide) (fun r_ M_ h_ => ?_)
  obtain ⟨r5, J3, L4, rfl, rfl, h⟩ := h_
  show xJ _ _ _ _ _ _ _ _ _ 29 [(0, .ref e), (1, .ref p1)] [.int (oI r5)] _ _ _ (zi J3) (li L4)
  obtain ⟨o6, h⟩ := h
  refine zr_if_ne 35 (xd dX8_takeFinished 16 rfl) (by decide) o6 (fun c7 => ?_) (fun c7 => ?_)
  · replace h := ifn h c7
    refine xr_aload_n (xd dX8_takeFinished 19 rfl) 0 rfl ?_
    refine zr_getI 8 0 0 rfl (xd dX8_takeFinished 20 rfl) f8_64 (by decide) (by decide) (lt491 hn (ltS0 he)) (kdS_0 he) rfl ?_
    replace h := h (fun (J8 : zM) (L9 : yM) => xJ (xGm b dC dI cA ts) l mX8_takeFinished 0 0 (zQ1 n R Q) (fun _ _ => False) 0 0 116 [(0, .ref e)] [] al n R (zi J8) (li L9)) (by
      intro J8 L9 h
      show xJ _ _ _ _ _ _ _ _ _ 116 [(0, .ref e)] [] _ _ _ _ _
      refine xr_aload_n (xd dX8_takeFinished 58 rfl) 0 rfl ?_
      refine xr_iconst (v := oI 2) (xd dX8_takeFinished 59 rfl) (by decide) ?_
      obtain ⟨J11, e_J11⟩ : ∃ z_ : zM, z_ = zs J8 e 12 2 := ⟨_, rfl⟩
      replace h := h J11 e_J11
      refine zr_putI 8 12 12 rfl e_J11 (xd dX8_takeFinished 60 rfl) f8_103 (by decide) (by decide) (lt491 hn (ltS0 he)) (kdS_0 he) (Or.inl rfl) rfl rfl (fun _ => rfl) ?_
      refine xr_iconst (v := oI 0) (xd dX8_takeFinished 61 rfl) (by decide) ?_
      exact xr_iret (xd dX8_takeFinished 62 rfl) rfl (by decide) (by decide) (fun _ => rfl) ⟨_, _, _, rfl, rfl, h⟩)
    obtain ⟨o12, h⟩ := h
    refine zr_if_ne 108 (xd dX8_takeFinished 21 rfl) (by decide) o12 (fun c13 => ?_) (fun c13 => ?_)
    · replace h := ifn h c13
      refine xr_aload_n (xd dX8_takeFinished 54 rfl) 0 rfl ?_
      refine xr_getR (b := (e + 8)) 8 4 (xd dX8_takeFinished 55 rfl) f8_21 (by decide) (by decide) (lt491 hn (ltS0 he)) (kdS_0 he) rfl (rS_0_4 hR he) ?_
      refine xr_iconst (v := oI 0) (xd dX8_takeFinished 56 rfl) (by decide) ?_
      obtain ⟨J14, e_J14⟩ : ∃ z_ : zM, z_ = zs J3 (e + 8) 13 0 := ⟨_, rfl⟩
      replace h := h J14 e_J14
      refine zr_putI 2 13 13 rfl e_J14 (xd dX8_takeFinished 57 rfl) f8_130 (by decide) (by decide) (lt491 hn (ltS he (by decide))) (kdS_8 he) (Or.inl rfl) (zret_b (Or.inl rfl)) (fits_b (Or.inl rfl)) (fun _ => rfl) ?_
      refine xJ.pick (ls' := [(0, .ref e)]) [0] rfl ?_
      exact h
    · replace h := ifp h c13
      refine xr_aload_n (xd dX8_takeFinished 22 rfl) 0 rfl ?_
      refine xr_getR (b := (e + 144)) 8 2 (xd dX8_takeFinished 23 rfl) f8_73 (by decide) (by decide) (lt491 hn (ltS0 he)) (kdS_0 he) rfl (rS_0_2 hR he) ?_
      refine xr_bipush (v := oI 20) (xd dX8_takeFinished 24 rfl) (by decide) ?_
      refine xr_aload_n (xd dX8_takeFinished 25 rfl) 1 rfl ?_
      refine xr_iconst (v := oI 0) (xd dX8_takeFinished 26 rfl) (by decide) ?_
      refine xr_bipush (v := oI 32) (xd dX8_takeFinished 27 rfl) (by decide) ?_
      refine xr_callV mX5_addMessage 4 [.int (oI 20), .ref p1, .int (oI 0), .int (oI 32)] (xd dX8_takeFinished 28 rfl) l8_443 kX5_addMessage rfl (lt491 hn (ltS he (by decide))) (kdS_144 he) (by decide) rfl (by decide) (Nat.le_of_ble_eq_true rfl) (v_X5_addMessage hn hR he (za_mk h_p1.1 h_p1.2) h) (by decide) (by decide) (fun r_ M_ h_ => ?_) (fun _ _ h_ => h_.elim)
      obtain ⟨J15, L16, rfl, rfl, h⟩ := h_
      show xJ _ _ _ _ _ _ _ _ _ 55 [(0, .ref e), (1, .ref p1)] [] _ _ _ (zi J15) (li L16)
      refine xr_aload_n (xd dX8_takeFinished 29 rfl) 0 rfl ?_
      refine xr_getR (b := (e + 144)) 8 2 (xd dX8_takeFinished 30 rfl) f8_73 (by decide) (by decide) (lt491 hn (ltS0 he)) (kdS_0 he) rfl (rS_0_2 hR he) ?_
      refine xr_callV mX5_enterData 0 [] (xd dX8_takeFinished 31 rfl) l8_436 kX5_enterData rfl (lt491 hn (ltS he (by decide))) (kdS_144 he) (by decide) rfl (by decide) (Nat.le_of_ble_eq_true rfl) (v_X5_enterData hn hR he h) (by decide) (by decide) (fun r_ M_ h_ => ?_) (fun _ _ h_ => h_.elim)
      obtain ⟨J17, L18, rfl, rfl, h⟩ := h_
      show xJ _ _ _ _ _ _ _ _ _ 62 [(0, .ref e), (1, .ref p1)] [] _ _ _ (zi J17) (li L18)
      refine xr_aload_n (xd dX8_takeFinished 32 rfl) 0 rfl ?_
      refine xr_getR (b := (e + 144)) 8 2 (xd dX8_takeFinished 33 rfl) f8_73 (by decide) (by decide) (lt491 hn (ltS0 he)) (kdS_0 he) rfl (rS_0_2 hR he) ?_
      refine xr_iconst (v := oI 0) (xd dX8_takeFinished 34 rfl) (by decide) ?_
      refine xr_aload_n (xd dX8_takeFinished 35 rfl) 0 rfl ?_
      refine xr_getR (b := (e + 142)) 8 10 (xd dX8_takeFinished 36 rfl) f8_58 (by decide) (by decide) (lt491 hn (ltS0 he)) (kdS_0 he) rfl (rS_0_10 hR he) ?_
      refine xr_callV mX5_finishedInto 2 [.int (oI 0), .ref (e + 142)] (xd dX8_takeFinished 37 rfl) l8_432 kX5_finishedInto rfl (lt491 hn (ltS he (by decide))) (kdS_144 he) (by decide) rfl (by decide) (Nat.le_of_ble_eq_true rfl) (v_X5_finishedInto hn hR he (za_mk (kdS_142 he) (ltS he (by decide))) h) (by decide) (by decide) (fun r_ M_ h_ => ?_) (fun _ _ h_ => h_.elim)
      obtain ⟨J19, L20, rfl, rfl, h⟩ := h_
      show xJ _ _ _ _ _ _ _ _ _ 74 [(0, .ref e), (1, .ref p1)] [] _ _ _ (zi J19) (li L20)
      refine xr_aload_n (xd dX8_takeFinished 38 rfl) 0 rfl ?_
      refine xr_getR (b := (e + 8)) 8 4 (xd dX8_takeFinished 39 rfl) f8_21 (by decide) (by decide) (lt491 hn (ltS0 he)) (kdS_0 he) rfl (rS_0_4 hR he) ?_
      refine xr_callV mX2_startAnew 0 [] (xd dX8_takeFinished 40 rfl) l8_96 kX2_startAnew rfl (lt491 hn (ltS he (by decide))) (kdS_8 he) (by decide) rfl (by decide) (Nat.le_of_ble_eq_true rfl) (v_X2_startAnew hn hR he h) (by decide) (by decide) (fun r_ M_ h_ => ?_) (fun _ _ h_ => h_.elim)
      obtain ⟨J21, L22, rfl, rfl, h⟩ := h_
      show xJ _ _ _ _ _ _ _ _ _ 81 [(0, .ref e), (1, .ref p1)] [] _ _ _ (zi J21) (li L22)
      refine xr_aload_n (xd dX8_takeFinished 41 rfl) 0 rfl ?_
      refine xr_getR (b := (e + 8)) 8 4 (xd dX8_takeFinished 42 rfl) f8_21 (by decide) (by decide) (lt491 hn (ltS0 he)) (kdS_0 he) rfl (rS_0_4 hR he) ?_
      refine xr_bipush (v := oI 20) (xd dX8_takeFinished 43 rfl) (by decide) ?_
      refine xr_aload_n (xd dX8_takeFinished 44 rfl) 0 rfl ?_
      refine xr_getR (b := (e + 1)) 8 1 (xd dX8_takeFinished 45 rfl) f8_12 (by decide) (by decide) (lt491 hn (ltS0 he)) (kdS_0 he) rfl (rS_0_1 hR he) ?_
      refine zr_getI 9 14 14 rfl (xd dX8_takeFinished 46 rfl) f8_456 (by decide) (by decide) (lt491 hn (ltS he (by decide))) (kdS_1 he) rfl ?_
      refine xr_iconst (v := oI 1) (xd dX8_takeFinished 47 rfl) (by decide) ?_
      refine zr_iadd (xd dX8_takeFinished 48 rfl) ?_
      refine xr_aload_n (xd dX8_takeFinished 49 rfl) 0 rfl ?_
      refine xr_getR (b := (e + 142)) 8 10 (xd dX8_takeFinished 50 rfl) f8_58 (by decide) (by decide) (lt491 hn (ltS0 he)) (kdS_0 he) rfl (rS_0_10 hR he) ?_
      refine xr_bipush (v := oI 32) (xd dX8_takeFinished 51 rfl) (by decide) ?_
      refine xr_callV mX2_addMessage 4 [.int (oI 20), .int (oI ((J21 (e + 1) 14) + 1)), .ref (e + 142), .int (oI 32)] (xd dX8_takeFinished 52 rfl) l8_439 kX2_addMessage rfl (lt491 hn (ltS he (by decide))) (kdS_8 he) (by decide) rfl (by decide) (Nat.le_of_ble_eq_true rfl) (v_X2_addMessage hn hR he (za_mk (kdS_142 he) (ltS he (by decide))) h) (by decide) (by decide) (fun r_ M_ h_ => ?_) (fun _ _ h_ => h_.elim)
      obtain ⟨J23, L24, rfl, rfl, h⟩ := h_
      show xJ _ _ _ _ _ _ _ _ _ 105 [(0, .ref e), (1, .ref p1)] [] _ _ _ (zi J23) (li L24)
      refine xr_goto 116 (xd dX8_takeFinished 53 rfl) (by decide) ?_
      refine xJ.pick (ls' := [(0, .ref e)]) [0] rfl ?_
      exact h
  · replace h := ifp h c7
    refine xr_bipush (v := oI 51) (xd dX8_takeFinished 17 rfl) (by decide) ?_
    exact xr_iret (xd dX8_takeFinished 18 rfl) rfl (by decide) (by decide) (fun _ => rfl) ⟨_, _, _, rfl, rfl, h⟩
def w_X8_takeNext (e : Nat) (J : zM) (L : yM) (Q : zM → yM → Prop) : Prop := ∀ x1 : Int, x1 = (zrem (J e 14) 5) → ((0 : Int) ≤ x1 ∧ x1 < 5) ∧ ∀ x3 : Int, x3 = (J (e + 18) x1) → ((0 : Int) ≤ x1 ∧ x1 < 5) ∧ ((0 : Int) ≤ x1 ∧ x1 < 5) ∧ ∀ x7 : Int, x7 = (J (e + 19) x1) → w_X3_free e (J e 14) J L (fun J8 L9 => ∀ J10 : zM, J10 = zs J8 e 14 ((J8 e 14) + 1) → ∀ K14 : Int → zM → yM → Prop, (∀ (x11 : Int) (J12 : zM) (L13 : yM), (R32 x11 ∧ (if x11 = 0 then ∀ K19 : zM → yM → Prop, (∀ (J17 : zM) (L18 : yM), (R32 (J17 e 12) ∧ (if (J17 e 12) = 2 then w_X8_sendAcks e J17 L18 (fun J22 L23 => Q J22 L23) else Q J17 L18)) → K19 J17 L18) → R32 (J12 e 12) ∧ (if (J12 e 12) = 2 then R32 (J12 e 0) ∧ (if (J12 e 0) = 0 then w_X8_startFlight e J12 L13 (fun J28 L29 => w_X8_sendFlight e J28 L29 (fun J30 L31 => Q J30 L31)) else K19 J12 L13) else K19 J12 L13) else w_X8_sendAlert e x11 J12 L13 (fun J32 L33 => w_X8_die e J32 L33 (fun J34 L35 => Q J34 L35)))) → K14 x11 J12 L13) → ∀ K38 : zM → yM → Prop, (∀ (J36 : zM) (L37 : yM), (R32 x3 ∧ R32 (J36 e 13) ∧ (if x3 = (J36 e 13) then (if x3 = 2 then w_X8_takeAnswer e (e + 22 + (x1).toNat) J36 L37 (fun r52 J50 L51 => K14 r52 J50 L51) else (if x3 = 8 then w_X5_addMessage e 8 (e + 22 + (x1).toNat) 0 x7 J36 L37 (fun J47 L48 => ∀ J49 : zM, J49 = zs J47 e 13 20 → K14 0 J49 L48) else w_X8_takeFinished e (e + 22 + (x1).toNat) J36 L37 (fun r46 J44 L45 => K14 r46 J44 L45))) else K14 10 J36 L37)) → K38 J36 L37) → R32 x3 ∧ (if x3 = 6 then R32 (J10 e 13) ∧ (if (J10 e 13) = 2 then R32 (J10 (e + 1) 11) ∧ (if (J10 (e + 1) 11) = 0 then w_X8_takeRetry e (e + 22 + (x1).toNat) J10 L9 (fun J59 L60 => w_X8_composeHello e ((J59 (e + 1) 14) + 1) J59 L60 (fun J61 L62 => w_X8_startFlight e J61 L62 (fun J63 L64 => w_X8_sendFlight e J63 L64 (fun J65 L66 => K14 0 J65 L66)))) else K38 J10 L9) else K38 J10 L9) else K38 J10 L9))
set_option maxHeartbeats 4000000 in
set_option maxRecDepth 100000 in
theorem v_X8_takeNext {b : Nat} {dC : Nat → ClassId} {dI : Nat → Nat → Nat} {cA : Nat → ClassId} {ts : Nat → Nat} {l : Launch} {n : Nat} {R : Nat → Nat → Option Nat} {al : Bool} (hn : 491 ≤ n) (hR : xRk R) {e : Nat} (he : iSide e) {J : zM} {L : yM} {Q : zM → yM → Prop} (h : w_X8_takeNext e J L Q) : xCn (xGm b dC dI cA ts) l mX8_takeNext [.ref e] al (n, R, zi J, li L) 0 0 (zQ0 n R Q) (fun _ _ => False) := by
  refine xCn.ofJ (by decide) (Nat.le_of_ble_eq_true rfl) ?_
  show xJ _ _ _ _ _ _ _ _ _ 0 [(0, .ref e)] [] _ _ _ _ _
  unfold w_X8_takeNext at h
  refine xr_aload_n (xd dX8_takeNext 0 rfl) 0 rfl ?_
  refine zr_getI 8 14 14 rfl (xd dX8_takeNext 1 rfl) f8_109 (by decide) (by decide) (lt491 hn (ltS0 he)) (kdS_0 he) rfl ?_
  refine xr_iconst (v := oI 5) (xd dX8_takeNext 2 rfl) (by decide) ?_
  refine zr_irem (xd dX8_takeNext 3 rfl) (by decide) (by decide) ?_
  obtain ⟨x1, e_x1⟩ : ∃ z_ : Int, z_ = (zrem (J e 14) 5) := ⟨_, rfl⟩
  replace h := h x1 e_x1
  refine zr_nm e_x1 ?_
  refine xr_istore_n [(0, .ref e), (1, .int (oI x1))] (xd dX8_takeNext 4 rfl) rfl (by decide) rfl ?_
  refine xr_aload_n (xd dX8_takeNext 5 rfl) 0 rfl ?_
  refine xr_getR (b := (e + 17)) 8 5 (xd dX8_takeNext 6 rfl) f8_28 (by decide) (by decide) (lt491 hn (ltS0 he)) (kdS_0 he) rfl (rS_0_5 hR he) ?_
  refine xr_getR (b := (e + 18)) 3 0 (xd dX8_takeNext 7 rfl) f8_462 (by decide) (by decide) (lt491 hn (ltS he (by decide))) (kdS_17 he) rfl (rS_17_0 hR he) ?_
  refine xr_iload_n (xd dX8_takeNext 8 rfl) 1 rfl ?_
  obtain ⟨o2, h⟩ := h
  refine zr_iaload (xd dX8_takeNext 9 rfl) (lt491 hn (ltS he (by decide))) (kdS_18 he) (lnS_18 he) (by decide) o2 ?_
  obtain ⟨x3, e_x3⟩ : ∃ z_ : Int, z_ = (J (e + 18) x1) := ⟨_, rfl⟩
  replace h := h x3 e_x3
  refine zr_nm e_x3 ?_
  refine xr_istore_n [(0, .ref e), (1, .int (oI x1)), (2, .int (oI x3))] (xd dX8_takeNext 10 rfl) rfl (by decide) rfl ?_
  refine xr_aload_n (xd dX8_takeNext 11 rfl) 0 rfl ?_
  refine xr_getR (b := (e + 17)) 8 5 (xd dX8_takeNext 12 rfl) f8_28 (by decide) (by decide) (lt491 hn (ltS0 he)) (kdS_0 he) rfl (rS_0_5 hR he) ?_
  refine xr_getR (b := (e + 21)) 3 3 (xd dX8_takeNext 13 rfl) f8_465 (by decide) (by decide) (lt491 hn (ltS he (by decide))) (kdS_17 he) rfl (rS_17_3 hR he) ?_
  refine xr_iload_n (xd dX8_takeNext 14 rfl) 1 rfl ?_
  obtain ⟨o4, h⟩ := h
  have f5 := famS_21 hR he o4
  refine zr_aaload (b := (e + 22 + (x1).toNat)) 3 (xd dX8_takeNext 15 rfl) (lt491 hn (ltS he (by decide))) (by decide) (by decide) (kdS_21 he) (lnS_21 he) (by decide) o4 f5.1 ?_
  refine xr_astore_n [(0, .ref e), (1, .int (oI x1)), (2, .int (oI x3)), (3, .ref (e + 22 + (x1).toNat))] (xd dX8_takeNext 16 rfl) rfl (by decide) rfl ?_
  refine xr_aload_n (xd dX8_takeNext 17 rfl) 0 rfl ?_
  refine xr_getR (b := (e + 17)) 8 5 (xd dX8_takeNext 18 rfl) f8_28 (by decide) (by decide) (lt491 hn (ltS0 he)) (kdS_0 he) rfl (rS_0_5 hR he) ?_
  refine xr_getR (b := (e + 19)) 3 1 (xd dX8_takeNext 19 rfl) f8_469 (by decide) (by decide) (lt491 hn (ltS he (by decide))) (kdS_17 he) rfl (rS_17_1 hR he) ?_
  refine xr_iload_n (xd dX8_takeNext 20 rfl) 1 rfl ?_
  obtain ⟨o6, h⟩ := h
  refine zr_iaload (xd dX8_takeNext 21 rfl) (lt491 hn (ltS he (by decide))) (kdS_19 he) (lnS_19 he) (by decide) o6 ?_
  obtain ⟨x7, e_x7⟩ : ∃ z_ : Int, z_ = (J (e + 19) x1) := ⟨_, rfl⟩
  replace h := h x7 e_x7
  refine zr_nm e_x7 ?_
  refine xr_istore [(0, .ref e), (1, .int (oI x1)), (2, .int (oI x3)), (3, .ref (e + 22 + (x1).toNat)), (4, .int (oI x7))] (xd dX8_takeNext 22 rfl) (by decide) rfl ?_
  refine xr_aload_n (xd dX8_takeNext 23 rfl) 0 rfl ?_
  refine xr_getR (b := (e + 17)) 8 5 (xd dX8_takeNext 24 rfl) f8_28 (by decide) (by decide) (lt491 hn (ltS0 he)) (kdS_0 he) rfl (rS_0_5 hR he) ?_
  refine xr_aload_n (xd dX8_takeNext 25 rfl) 0 rfl ?_
  refine zr_getI 8 14 14 rfl (xd dX8_takeNext 26 rfl) f8_109 (by decide) (by decide) (lt491 hn (ltS0 he)) (kdS_0 he) rfl ?_
  refine xr_callV mX3_free 1 [.int (oI (J e 14))] (xd dX8_takeNext 27 rfl) l8_472 kX3_free rfl (lt491 hn (ltS he (by decide))) (kdS_17 he) (by decide) rfl (by decide) (Nat.le_of_ble_eq_true rfl) (v_X3_free hn hR he h) (by decide) (by decide) (fun r_ M_ h_ => ?_) (fun _ _ h_ => h_.elim)
  obtain ⟨J8, L9, rfl, rfl, h⟩ := h_
  show xJ _ _ _ _ _ _ _ _ _ 49 [(0, .ref e), (1, .int (oI x1)), (2, .int (oI x3)), (3, .ref (e + 22 + (x1).toNat)), (4, .int (oI x7))] [] _ _ _ (zi J8) (li L9)
  refine xr_aload_n (xd dX8_takeNext 28 rfl) 0 rfl ?_
  refine xr_dup (xd dX8_takeNext 29 rfl) rfl ?_
  refine zr_getI 8 14 14 rfl (xd dX8_takeNext 30 rfl) f8_109 (by decide) (by decide) (lt491 hn (ltS0 he)) (kdS_0 he) rfl ?_
  refine xr_iconst (v := oI 1) (xd dX8_takeNext 31 rfl) (by decide) ?_
  refine zr_iadd (xd dX8_takeNext 32 rfl) ?_
  obtain ⟨J10, e_J10⟩ : ∃ z_ : zM, z_ = zs J8 e 14 ((J8 e 14) + 1) := ⟨_, rfl⟩
  replace h := h J10 e_J10
  refine zr_putI 8 14 14 rfl e_J10 (xd dX8_takeNext 33 rfl) f8_109 (by decide) (by decide) (lt491 hn (ltS0 he)) (kdS_0 he) (Or.inl rfl) rfl rfl (fun _ => rfl) ?_
  refine xr_iconst (v := oI 0) (xd dX8_takeNext 34 rfl) (by decide) ?_
  refine xr_istore [(0, .ref e), (1, .int (oI x1)), (2, .int (oI x3)), (3, .ref (e + 22 + (x1).toNat)), (4, .int (oI x7)), (5, .int (oI 0))] (xd dX8_takeNext 35 rfl) (by decide) rfl ?_
  refine xr_iload_n (xd dX8_takeNext 36 rfl) 2 rfl ?_
  refine xr_bipush (v := oI 6) (xd dX8_takeNext 37 rfl) (by decide) ?_
  replace h := h (fun (x11 : Int) (J12 : zM) (L13 : yM) => xJ (xGm b dC dI cA ts) l mX8_takeNext 0 0 (zQ0 n R Q) (fun _ _ => False) 0 0 180 [(0, .ref e), (5, .int (oI x11))] [] al n R (zi J12) (li L13)) (by
    intro x11 J12 L13 h
    show xJ _ _ _ _ _ _ _ _ _ 180 [(0, .ref e), (5, .int (oI x11))] [] _ _ _ _ _
    refine xr_iload (xd dX8_takeNext 95 rfl) 1 rfl ?_
    obtain ⟨o15, h⟩ := h
    refine zr_if_eq 198 (xd dX8_takeNext 96 rfl) (by decide) o15 (fun c16 => ?_) (fun c16 => ?_)
    · replace h := ifp h c16
      refine xr_aload_n (xd dX8_takeNext 103 rfl) 0 rfl ?_
      refine zr_getI 8 12 12 rfl (xd dX8_takeNext 104 rfl) f8_103 (by decide) (by decide) (lt491 hn (ltS0 he)) (kdS_0 he) rfl ?_
      refine xr_iconst (v := oI 2) (xd dX8_takeNext 105 rfl) (by decide) ?_
      replace h := h (fun (J17 : zM) (L18 : yM) => xJ (xGm b dC dI cA ts) l mX8_takeNext 0 0 (zQ0 n R Q) (fun _ _ => False) 0 0 224 [(0, .ref e)] [] al n R (zi J17) (li L18)) (by
        intro J17 L18 h
        show xJ _ _ _ _ _ _ _ _ _ 224 [(0, .ref e)] [] _ _ _ _ _
        refine xr_aload_n (xd dX8_takeNext 115 rfl) 0 rfl ?_
        refine zr_getI 8 12 12 rfl (xd dX8_takeNext 116 rfl) f8_103 (by decide) (by decide) (lt491 hn (ltS0 he)) (kdS_0 he) rfl ?_
        refine xr_iconst (v := oI 2) (xd dX8_takeNext 117 rfl) (by decide) ?_
        obtain ⟨o20, h⟩ := h
        refine zr_icmp_ne 236 (xd dX8_takeNext 118 rfl) (by decide) o20 (by decide) (fun c21 => ?_) (fun c21 => ?_)
        · replace h := ifn h c21
          exact xr_vret (xd dX8_takeNext 121 rfl) rfl (by decide) (by decide) (fun _ => rfl) ⟨_, _, rfl, rfl, h⟩
        · replace h := ifp h c21
          refine xr_aload_n (xd dX8_takeNext 119 rfl) 0 rfl ?_
          refine xr_callV mX8_sendAcks 0 [] (xd dX8_takeNext 120 rfl) l8_147 kX8_sendAcks rfl (lt491 hn (ltS0 he)) (kdS_0 he) (by decide) rfl (by decide) (Nat.le_of_ble_eq_true rfl) (v_X8_sendAcks hn hR he h) (by decide) (by decide) (fun r_ M_ h_ => ?_) (fun _ _ h_ => h_.elim)
          obtain ⟨J22, L23, rfl, rfl, h⟩ := h_
          show xJ _ _ _ _ _ _ _ _ _ 236 [(0, .ref e)] [] _ _ _ (zi J22) (li L23)
          exact xr_vret (xd dX8_takeNext 121 rfl) rfl (by decide) (by decide) (fun _ => rfl) ⟨_, _, rfl, rfl, h⟩)
      obtain ⟨o24, h⟩ := h
      refine zr_icmp_ne 224 (xd dX8_takeNext 106 rfl) (by decide) o24 (by decide) (fun c25 => ?_) (fun c25 => ?_)
      · replace h := ifn h c25
        refine xJ.pick (ls' := [(0, .ref e)]) [0] rfl ?_
        exact h
      · replace h := ifp h c25
        refine xr_aload_n (xd dX8_takeNext 107 rfl) 0 rfl ?_
        refine zr_getI 8 0 0 rfl (xd dX8_takeNext 108 rfl) f8_64 (by decide) (by decide) (lt491 hn (ltS0 he)) (kdS_0 he) rfl ?_
        obtain ⟨o26, h⟩ := h
        refine zr_if_ne 224 (xd dX8_takeNext 109 rfl) (by decide) o26 (fun c27 => ?_) (fun c27 => ?_)
        · replace h := ifn h c27
          refine xJ.pick (ls' := [(0, .ref e)]) [0] rfl ?_
          exact h
        · replace h := ifp h c27
          refine xr_aload_n (xd dX8_takeNext 110 rfl) 0 rfl ?_
          refine xr_callV mX8_startFlight 0 [] (xd dX8_takeNext 111 rfl) l8_319 kX8_startFlight rfl (lt491 hn (ltS0 he)) (kdS_0 he) (by decide) rfl (by decide) (Nat.le_of_ble_eq_true rfl) (v_X8_startFlight hn hR he h) (by decide) (by decide) (fun r_ M_ h_ => ?_) (fun _ _ h_ => h_.elim)
          obtain ⟨J28, L29, rfl, rfl, h⟩ := h_
          show xJ _ _ _ _ _ _ _ _ _ 217 [(0, .ref e), (5, .int (oI x11))] [] _ _ _ (zi J28) (li L29)
          refine xr_aload_n (xd dX8_takeNext 112 rfl) 0 rfl ?_
          refine xr_callV mX8_sendFlight 0 [] (xd dX8_takeNext 113 rfl) l8_168 kX8_sendFlight rfl (lt491 hn (ltS0 he)) (kdS_0 he) (by decide) rfl (by decide) (Nat.le_of_ble_eq_true rfl) (v_X8_sendFlight hn hR he h) (by decide) (by decide) (fun r_ M_ h_ => ?_) (fun _ _ h_ => h_.elim)
          obtain ⟨J30, L31, rfl, rfl, h⟩ := h_
          show xJ _ _ _ _ _ _ _ _ _ 221 [(0, .ref e), (5, .int (oI x11))] [] _ _ _ (zi J30) (li L31)
          refine xr_goto 236 (xd dX8_takeNext 114 rfl) (by decide) ?_
          exact xr_vret (xd dX8_takeNext 121 rfl) rfl (by decide) (by decide) (fun _ => rfl) ⟨_, _, rfl, rfl, h⟩
    · replace h := ifn h c16
      refine xr_aload_n (xd dX8_takeNext 97 rfl) 0 rfl ?_
      refine xr_iload (xd dX8_takeNext 98 rfl) 1 rfl ?_
      refine xr_callV mX8_sendAlert 1 [.int (oI x11)] (xd dX8_takeNext 99 rfl) l8_313 kX8_sendAlert rfl (lt491 hn (ltS0 he)) (kdS_0 he) (by decide) rfl (by decide) (Nat.le_of_ble_eq_true rfl) (v_X8_sendAlert hn hR he h) (by decide) (by decide) (fun r_ M_ h_ => ?_) (fun _ _ h_ => h_.elim)
      obtain ⟨J32, L33, rfl, rfl, h⟩ := h_
      show xJ _ _ _ _ _ _ _ _ _ 191 [(0, .ref e), (5, .int (oI x11))] [] _ _ _ (zi J32) (li L33)
      refine xr_aload_n (xd dX8_takeNext 100 rfl) 0 rfl ?_
      refine xr_callV mX8_die 0 [] (xd dX8_takeNext 101 rfl) l8_156 kX8_die rfl (lt491 hn (ltS0 he)) (kdS_0 he) (by decide) rfl (by decide) (Nat.le_of_ble_eq_true rfl) (v_X8_die hn hR he h) (by decide) (by decide) (fun r_ M_ h_ => ?_) (fun _ _ h_ => h_.elim)
      obtain ⟨J34, L35, rfl, rfl, h⟩ := h_
      show xJ _ _ _ _ _ _ _ _ _ 195 [(0, .ref e), (5, .int (oI x11))] [] _ _ _ (zi J34) (li L35)
      refine xr_goto 236 (xd dX8_takeNext 102 rfl) (by decide) ?_
      exact xr_vret (xd dX8_takeNext 121 rfl) rfl (by decide) (by decide) (fun _ => rfl) ⟨_, _, rfl, rfl, h⟩)
  replace h := h (fun (J36 : zM) (L37 : yM) => xJ (xGm b dC dI cA ts) l mX8_takeNext 0 0 (zQ0 n R Q) (fun _ _ => False) 0 0 115 [(0, .ref e), (2, .int (oI x3)), (3, .ref (e + 22 + (x1).toNat)), (4, .int (oI x7)), (5, .int (oI 0))] [] al n R (zi J36) (li L37)) (by
    intro J36 L37 h
    show xJ _ _ _ _ _ _ _ _ _ 115 [(0, .ref e), (2, .int (oI x3)), (3, .ref (e + 22 + (x1).toNat)), (4, .int (oI x7)), (5, .int (oI 0))] [] _ _ _ _ _
    refine xr_iload_n (xd dX8_takeNext 62 rfl) 1 rfl ?_
    refine xr_aload_n (xd dX8_takeNext 63 rfl) 0 rfl ?_
    refine zr_getI 8 13 13 rfl (xd dX8_takeNext 64 rfl) f8_106 (by decide) (by decide) (lt491 hn (ltS0 he)) (kdS_0 he) rfl ?_
    obtain ⟨o39, h⟩ := h
    obtain ⟨o40, h⟩ := h
    refine zr_icmp_eq 130 (xd dX8_takeNext 65 rfl) (by decide) o39 o40 (fun c41 => ?_) (fun c41 => ?_)
    · replace h := ifp h c41
      refine xr_iload_n (xd dX8_takeNext 69 rfl) 1 rfl ?_
      refine xr_iconst (v := oI 2) (xd dX8_takeNext 70 rfl) (by decide) ?_
      refine zr_icmp_ne 145 (xd dX8_takeNext 71 rfl) (by decide) o39 (by decide) (fun c42 => ?_) (fun c42 => ?_)
      · replace h := ifn h c42
        refine xr_iload_n (xd dX8_takeNext 77 rfl) 1 rfl ?_
        refine xr_bipush (v := oI 8) (xd dX8_takeNext 78 rfl) (by decide) ?_
        refine zr_icmp_ne 173 (xd dX8_takeNext 79 rfl) (by decide) o39 (by decide) (fun c43 => ?_) (fun c43 => ?_)
        · replace h := ifn h c43
          refine xr_aload_n (xd dX8_takeNext 91 rfl) 0 rfl ?_
          refine xr_aload_n (xd dX8_takeNext 92 rfl) 2 rfl ?_
          refine xr_callV mX8_takeFinished 1 [.ref (e + 22 + (x1).toNat)] (xd dX8_takeNext 93 rfl) l8_485 kX8_takeFinished rfl (lt491 hn (ltS0 he)) (kdS_0 he) (by decide) rfl (by decide) (Nat.le_of_ble_eq_true rfl) (v_X8_takeFinished hn hR he (za_mk f5.2.1.1 f5.2.1.2) h) (by decide) (by decide) (fun r_ M_ h_ => ?_) (fun _ _ h_ => h_.elim)
          obtain ⟨r46, J44, L45, rfl, rfl, h⟩ := h_
          show xJ _ _ _ _ _ _ _ _ _ 178 [(0, .ref e), (2, .int (oI x3)), (3, .ref (e + 22 + (x1).toNat)), (4, .int (oI x7)), (5, .int (oI 0))] [.int (oI r46)] _ _ _ (zi J44) (li L45)
          refine xr_istore [(0, .ref e), (2, .int (oI x3)), (3, .ref (e + 22 + (x1).toNat)), (4, .int (oI x7)), (5, .int (oI r46))] (xd dX8_takeNext 94 rfl) (by decide) rfl ?_
          refine xJ.pick (ls' := [(0, .ref e), (5, .int (oI r46))]) [0, 4] rfl ?_
          exact h
        · replace h := ifp h c43
          refine xr_aload_n (xd dX8_takeNext 80 rfl) 0 rfl ?_
          refine xr_getR (b := (e + 144)) 8 2 (xd dX8_takeNext 81 rfl) f8_73 (by decide) (by decide) (lt491 hn (ltS0 he)) (kdS_0 he) rfl (rS_0_2 hR he) ?_
          refine xr_bipush (v := oI 8) (xd dX8_takeNext 82 rfl) (by decide) ?_
          refine xr_aload_n (xd dX8_takeNext 83 rfl) 2 rfl ?_
          refine xr_iconst (v := oI 0) (xd dX8_takeNext 84 rfl) (by decide) ?_
          refine xr_iload (xd dX8_takeNext 85 rfl) 3 rfl ?_
          refine xr_callV mX5_addMessage 4 [.int (oI 8), .ref (e + 22 + (x1).toNat), .int (oI 0), .int (oI x7)] (xd dX8_takeNext 86 rfl) l8_443 kX5_addMessage rfl (lt491 hn (ltS he (by decide))) (kdS_144 he) (by decide) rfl (by decide) (Nat.le_of_ble_eq_true rfl) (v_X5_addMessage hn hR he (za_mk f5.2.1.1 f5.2.1.2) h) (by decide) (by decide) (fun r_ M_ h_ => ?_) (fun _ _ h_ => h_.elim)
          obtain ⟨J47, L48, rfl, rfl, h⟩ := h_
          show xJ _ _ _ _ _ _ _ _ _ 164 [(0, .ref e), (2, .int (oI x3)), (3, .ref (e + 22 + (x1).toNat)), (4, .int (oI x7)), (5, .int (oI 0))] [] _ _ _ (zi J47) (li L48)
          refine xr_aload_n (xd dX8_takeNext 87 rfl) 0 rfl ?_
          refine xr_bipush (v := oI 20) (xd dX8_takeNext 88 rfl) (by decide) ?_
          obtain ⟨J49, e_J49⟩ : ∃ z_ : zM, z_ = zs J47 e 13 20 := ⟨_, rfl⟩
          replace h := h J49 e_J49
          refine zr_putI 8 13 13 rfl e_J49 (xd dX8_takeNext 89 rfl) f8_106 (by decide) (by decide) (lt491 hn (ltS0 he)) (kdS_0 he) (Or.inl rfl) rfl rfl (fun _ => rfl) ?_
          refine xr_goto 180 (xd dX8_takeNext 90 rfl) (by decide) ?_
          refine xJ.pick (ls' := [(0, .ref e), (5, .int (oI 0))]) [0, 4] rfl ?_
          exact h
      · replace h := ifp h c42
        refine xr_aload_n (xd dX8_takeNext 72 rfl) 0 rfl ?_
        refine xr_aload_n (xd dX8_takeNext 73 rfl) 2 rfl ?_
        refine xr_callV mX8_takeAnswer 1 [.ref (e + 22 + (x1).toNat)] (xd dX8_takeNext 74 rfl) l8_481 kX8_takeAnswer rfl (lt491 hn (ltS0 he)) (kdS_0 he) (by decide) rfl (by decide) (Nat.le_of_ble_eq_true rfl) (v_X8_takeAnswer hn hR he (za_mk f5.2.1.1 f5.2.1.2) h) (by decide) (by decide) (fun r_ M_ h_ => ?_) (fun _ _ h_ => h_.elim)
        obtain ⟨r52, J50, L51, rfl, rfl, h⟩ := h_
        show xJ _ _ _ _ _ _ _ _ _ 140 [(0, .ref e), (2, .int (oI x3)), (3, .ref (e + 22 + (x1).toNat)), (4, .int (oI x7)), (5, .int (oI 0))] [.int (oI r52)] _ _ _ (zi J50) (li L51)
        refine xr_istore [(0, .ref e), (2, .int (oI x3)), (3, .ref (e + 22 + (x1).toNat)), (4, .int (oI x7)), (5, .int (oI r52))] (xd dX8_takeNext 75 rfl) (by decide) rfl ?_
        refine xr_goto 180 (xd dX8_takeNext 76 rfl) (by decide) ?_
        refine xJ.pick (ls' := [(0, .ref e), (5, .int (oI r52))]) [0, 4] rfl ?_
        exact h
    · replace h := ifn h c41
      refine xr_bipush (v := oI 10) (xd dX8_takeNext 66 rfl) (by decide) ?_
      refine xr_istore [(0, .ref e), (2, .int (oI x3)), (3, .ref (e + 22 + (x1).toNat)), (4, .int (oI x7)), (5, .int (oI 10))] (xd dX8_takeNext 67 rfl) (by decide) rfl ?_
      refine xr_goto 180 (xd dX8_takeNext 68 rfl) (by decide) ?_
      refine xJ.pick (ls' := [(0, .ref e), (5, .int (oI 10))]) [0, 4] rfl ?_
      exact h)
  obtain ⟨o53, h⟩ := h
  refine zr_icmp_ne 115 (xd dX8_takeNext 38 rfl) (by decide) o53 (by decide) (fun c54 => ?_) (fun c54 => ?_)
  · replace h := ifn h c54
    refine xJ.pick (ls' := [(0, .ref e), (2, .int (oI x3)), (3, .ref (e + 22 + (x1).toNat)), (4, .int (oI x7)), (5, .int (oI 0))]) [0, 2, 3, 4, 5] rfl ?_
    exact h
  · replace h := ifp h c54
    refine xr_aload_n (xd dX8_takeNext 39 rfl) 0 rfl ?_
    refine zr_getI 8 13 13 rfl (xd dX8_takeNext 40 rfl) f8_106 (by decide) (by decide) (lt491 hn (ltS0 he)) (kdS_0 he) rfl ?_
    refine xr_iconst (v := oI 2) (xd dX8_takeNext 41 rfl) (by decide) ?_
    obtain ⟨o55, h⟩ := h
    refine zr_icmp_ne 115 (xd dX8_takeNext 42 rfl) (by decide) o55 (by decide) (fun c56 => ?_) (fun c56 => ?_)
    · replace h := ifn h c56
      refine xJ.pick (ls' := [(0, .ref e), (2, .int (oI x3)), (3, .ref (e + 22 + (x1).toNat)), (4, .int (oI x7)), (5, .int (oI 0))]) [0, 2, 3, 4, 5] rfl ?_
      exact h
    · replace h := ifp h c56
      refine xr_aload_n (xd dX8_takeNext 43 rfl) 0 rfl ?_
      refine xr_getR (b := (e + 1)) 8 1 (xd dX8_takeNext 44 rfl) f8_12 (by decide) (by decide) (lt491 hn (ltS0 he)) (kdS_0 he) rfl (rS_0_1 hR he) ?_
      refine zr_getI 9 11 11 rfl (xd dX8_takeNext 45 rfl) f8_446 (by decide) (by decide) (lt491 hn (ltS he (by decide))) (kdS_1 he) rfl ?_
      obtain ⟨o57, h⟩ := h
      refine zr_if_ne 115 (xd dX8_takeNext 46 rfl) (by decide) o57 (fun c58 => ?_) (fun c58 => ?_)
      · replace h := ifn h c58
        refine xJ.pick (ls' := [(0, .ref e), (2, .int (oI x3)), (3, .ref (e + 22 + (x1).toNat)), (4, .int (oI x7)), (5, .int (oI 0))]) [0, 2, 3, 4, 5] rfl ?_
        exact h
      · replace h := ifp h c58
        refine xr_aload_n (xd dX8_takeNext 47 rfl) 0 rfl ?_
        refine xr_aload_n (xd dX8_takeNext 48 rfl) 3 rfl ?_
        refine xr_callV mX8_takeRetry 1 [.ref (e + 22 + (x1).toNat)] (xd dX8_takeNext 49 rfl) l8_475 kX8_takeRetry rfl (lt491 hn (ltS0 he)) (kdS_0 he) (by decide) rfl (by decide) (Nat.le_of_ble_eq_true rfl) (v_X8_takeRetry hn hR he (za_mk f5.2.1.1 f5.2.1.2) h) (by decide) (by decide) (fun r_ M_ h_ => ?_) (fun _ _ h_ => h_.elim)
        obtain ⟨J59, L60, rfl, rfl, h⟩ := h_
        show xJ _ _ _ _ _ _ _ _ _ 91 [(0, .ref e), (1, .int (oI x1)), (2, .int (oI x3)), (3, .ref (e + 22 + (x1).toNat)), (4, .int (oI x7)), (5, .int (oI 0))] [] _ _ _ (zi J59) (li L60)
        refine xr_aload_n (xd dX8_takeNext 50 rfl) 0 rfl ?_
        refine xr_aload_n (xd dX8_takeNext 51 rfl) 0 rfl ?_
        refine xr_getR (b := (e + 1)) 8 1 (xd dX8_takeNext 52 rfl) f8_12 (by decide) (by decide) (lt491 hn (ltS0 he)) (kdS_0 he) rfl (rS_0_1 hR he) ?_
        refine zr_getI 9 14 14 rfl (xd dX8_takeNext 53 rfl) f8_456 (by decide) (by decide) (lt491 hn (ltS he (by decide))) (kdS_1 he) rfl ?_
        refine xr_iconst (v := oI 1) (xd dX8_takeNext 54 rfl) (by decide) ?_
        refine zr_iadd (xd dX8_takeNext 55 rfl) ?_
        refine xr_callV mX8_composeHello 1 [.int (oI ((J59 (e + 1) 14) + 1))] (xd dX8_takeNext 56 rfl) l8_478 kX8_composeHello rfl (lt491 hn (ltS0 he)) (kdS_0 he) (by decide) rfl (by decide) (Nat.le_of_ble_eq_true rfl) (v_X8_composeHello hn hR he h) (by decide) (by decide) (fun r_ M_ h_ => ?_) (fun _ _ h_ => h_.elim)
        obtain ⟨J61, L62, rfl, rfl, h⟩ := h_
        show xJ _ _ _ _ _ _ _ _ _ 104 [(0, .ref e), (1, .int (oI x1)), (2, .int (oI x3)), (3, .ref (e + 22 + (x1).toNat)), (4, .int (oI x7)), (5, .int (oI 0))] [] _ _ _ (zi J61) (li L62)
        refine xr_aload_n (xd dX8_takeNext 57 rfl) 0 rfl ?_
        refine xr_callV mX8_startFlight 0 [] (xd dX8_takeNext 58 rfl) l8_319 kX8_startFlight rfl (lt491 hn (ltS0 he)) (kdS_0 he) (by decide) rfl (by decide) (Nat.le_of_ble_eq_true rfl) (v_X8_startFlight hn hR he h) (by decide) (by decide) (fun r_ M_ h_ => ?_) (fun _ _ h_ => h_.elim)
        obtain ⟨J63, L64, rfl, rfl, h⟩ := h_
        show xJ _ _ _ _ _ _ _ _ _ 108 [(0, .ref e), (1, .int (oI x1)), (2, .int (oI x3)), (3, .ref (e + 22 + (x1).toNat)), (4, .int (oI x7)), (5, .int (oI 0))] [] _ _ _ (zi J63) (li L64)
        refine xr_aload_n (xd dX8_takeNext 59 rfl) 0 rfl ?_
        refine xr_callV mX8_sendFlight 0 [] (xd dX8_takeNext 60 rfl) l8_168 kX8_sendFlight rfl (lt491 hn (ltS0 he)) (kdS_0 he) (by decide) rfl (by decide) (Nat.le_of_ble_eq_true rfl) (v_X8_sendFlight hn hR he h) (by decide) (by decide) (fun r_ M_ h_ => ?_) (fun _ _ h_ => h_.elim)
        obtain ⟨J65, L66, rfl, rfl, h⟩ := h_
        show xJ _ _ _ _ _ _ _ _ _ 112 [(0, .ref e), (1, .int (oI x1)), (2, .int (oI x3)), (3, .ref (e + 22 + (x1).toNat)), (4, .int (oI x7)), (5, .int (oI 0))] [] _ _ _ (zi J65) (li L66)
        refine xr_goto 180 (xd dX8_takeNext 61 rfl) (by decide) ?_
        refine xJ.pick (ls' := [(0, .ref e), (5, .int (oI 0))]) [0, 5] rfl ?_
        exact h
def w_X8_sendData (e : Nat) (p1 : Nat) (p2 : Int) (J : zM) (L : yM) (Q : Int → zM → yM → Prop) : Prop := R32 p2 ∧ (if p2 < 1 then Q (-1) J L else (if 60 < p2 then Q (-1) J L else R32 (ln0 p1 : Int) ∧ (if (ln0 p1 : Int) < p2 then Q (-1) J L else ((0 : Int) ≤ 0 ∧ (0 : Int) ≤ 0 ∧ (0 : Int) ≤ p2 ∧ (0 + p2 : Int) ≤ (ln0 p1 : Int) ∧ (0 + p2 : Int) ≤ 500) ∧ ∀ J7 : zM, J7 = zcp J p1 0 (e + 170) 0 p2 → w_X6_putRecord e 3 23 p2 J7 L (fun r10 J8 L9 => w_X6_flush e J8 L9 (fun J11 L12 => Q r10 J11 L12)))))
set_option maxHeartbeats 4000000 in
set_option maxRecDepth 100000 in
theorem v_X8_sendData {b : Nat} {dC : Nat → ClassId} {dI : Nat → Nat → Nat} {cA : Nat → ClassId} {ts : Nat → Nat} {l : Launch} {n : Nat} {R : Nat → Nat → Option Nat} {al : Bool} (hn : 491 ≤ n) (hR : xRk R) {e : Nat} {p1 : Nat} {p2 : Int} (he : iSide e) (h_p1 : za p1) {J : zM} {L : yM} {Q : Int → zM → yM → Prop} (h : w_X8_sendData e p1 p2 J L Q) : xCn (xGm b dC dI cA ts) l mX8_sendData [.ref e, .ref p1, .int (oI p2)] al (n, R, zi J, li L) 0 0 (zQ1 n R Q) (fun _ _ => False) := by
  refine xCn.ofJ (by decide) (Nat.le_of_ble_eq_true rfl) ?_
  show xJ _ _ _ _ _ _ _ _ _ 0 [(0, .ref e), (1, .ref p1), (2, .int (oI p2))] [] _ _ _ _ _
  unfold w_X8_sendData at h
  refine xr_iload_n (xd dX8_sendData 0 rfl) 2 rfl ?_
  refine xr_iconst (v := oI 1) (xd dX8_sendData 1 rfl) (by decide) ?_
  obtain ⟨o1, h⟩ := h
  refine zr_icmp_lt 17 (xd dX8_sendData 2 rfl) (by decide) o1 (by decide) (fun c2 => ?_) (fun c2 => ?_)
  · replace h := ifp h c2
    refine xr_iconst (v := oI (-1)) (xd dX8_sendData 10 rfl) (by decide) ?_
    exact xr_iret (xd dX8_sendData 11 rfl) rfl (by decide) (by decide) (fun _ => rfl) ⟨_, _, _, rfl, rfl, h⟩
  · replace h := ifn h c2
    refine xr_iload_n (xd dX8_sendData 3 rfl) 2 rfl ?_
    refine xr_bipush (v := oI 60) (xd dX8_sendData 4 rfl) (by decide) ?_
    refine zr_icmp_gt 17 (xd dX8_sendData 5 rfl) (by decide) o1 (by decide) (fun c3 => ?_) (fun c3 => ?_)
    · replace h := ifp h c3
      refine xr_iconst (v := oI (-1)) (xd dX8_sendData 10 rfl) (by decide) ?_
      exact xr_iret (xd dX8_sendData 11 rfl) rfl (by decide) (by decide) (fun _ => rfl) ⟨_, _, _, rfl, rfl, h⟩
    · replace h := ifn h c3
      refine xr_iload_n (xd dX8_sendData 6 rfl) 2 rfl ?_
      refine xr_aload_n (xd dX8_sendData 7 rfl) 1 rfl ?_
      refine zr_alen (v := (ln0 p1 : Int)) 0 (xd dX8_sendData 8 rfl) (lt491 hn h_p1.2) (by decide) h_p1.1 rfl rfl ?_
      obtain ⟨o4, h⟩ := h
      refine zr_icmp_le 19 (xd dX8_sendData 9 rfl) (by decide) o1 o4 (fun c5 => ?_) (fun c5 => ?_)
      · replace h := ifn h c5
        refine xr_aload_n (xd dX8_sendData 12 rfl) 1 rfl ?_
        refine xr_iconst (v := oI 0) (xd dX8_sendData 13 rfl) (by decide) ?_
        refine xr_aload_n (xd dX8_sendData 14 rfl) 0 rfl ?_
        refine xr_getR (b := (e + 168)) 8 3 (xd dX8_sendData 15 rfl) f8_82 (by decide) (by decide) (lt491 hn (ltS0 he)) (kdS_0 he) rfl (rS_0_3 hR he) ?_
        refine xr_getR (b := (e + 170)) 6 4 (xd dX8_sendData 16 rfl) f8_368 (by decide) (by decide) (lt491 hn (ltS he (by decide))) (kdS_168 he) rfl (rS_168_4 hR he) ?_
        refine xr_iconst (v := oI 0) (xd dX8_sendData 17 rfl) (by decide) ?_
        refine xr_iload_n (xd dX8_sendData 18 rfl) 2 rfl ?_
        obtain ⟨o6, h⟩ := h
        obtain ⟨J7, e_J7⟩ : ∃ z_ : zM, z_ = zcp J p1 0 (e + 170) 0 p2 := ⟨_, rfl⟩
        replace h := h J7 e_J7
        refine zr_acopy e_J7 (xd dX8_sendData 19 rfl) l8_371 (lt491 hn h_p1.2) h_p1.1 rfl (ln0_lt p1) (lt491 hn (ltS he (by decide))) (kdS_170 he) (lnS_170 he) (by decide) o6.1 o6.2.1 o6.2.2.1 o6.2.2.2.1 o6.2.2.2.2 ⟨Nat.le_of_ble_eq_true rfl, Nat.le_of_ble_eq_true rfl⟩ ?_
        refine xr_aload_n (xd dX8_sendData 20 rfl) 0 rfl ?_
        refine xr_getR (b := (e + 168)) 8 3 (xd dX8_sendData 21 rfl) f8_82 (by decide) (by decide) (lt491 hn (ltS0 he)) (kdS_0 he) rfl (rS_0_3 hR he) ?_
        refine xr_iconst (v := oI 3) (xd dX8_sendData 22 rfl) (by decide) ?_
        refine xr_bipush (v := oI 23) (xd dX8_sendData 23 rfl) (by decide) ?_
        refine xr_iload_n (xd dX8_sendData 24 rfl) 2 rfl ?_
        refine xr_callV mX6_putRecord 3 [.int (oI 3), .int (oI 23), .int (oI p2)] (xd dX8_sendData 25 rfl) l8_377 kX6_putRecord rfl (lt491 hn (ltS he (by decide))) (kdS_168 he) (by decide) rfl (by decide) (Nat.le_of_ble_eq_true rfl) (v_X6_putRecord hn hR he h) (by decide) (by decide) (fun r_ M_ h_ => ?_) (fun _ _ h_ => h_.elim)
        obtain ⟨r10, J8, L9, rfl, rfl, h⟩ := h_
        show xJ _ _ _ _ _ _ _ _ _ 44 [(0, .ref e), (1, .ref p1), (2, .int (oI p2))] [.int (oI r10)] _ _ _ (zi J8) (li L9)
        refine xr_istore_n [(0, .ref e), (1, .ref p1), (2, .int (oI p2)), (3, .int (oI r10))] (xd dX8_sendData 26 rfl) rfl (by decide) rfl ?_
        refine xr_aload_n (xd dX8_sendData 27 rfl) 0 rfl ?_
        refine xr_getR (b := (e + 168)) 8 3 (xd dX8_sendData 28 rfl) f8_82 (by decide) (by decide) (lt491 hn (ltS0 he)) (kdS_0 he) rfl (rS_0_3 hR he) ?_
        refine xr_callV mX6_flush 0 [] (xd dX8_sendData 29 rfl) l8_381 kX6_flush rfl (lt491 hn (ltS he (by decide))) (kdS_168 he) (by decide) rfl (by decide) (Nat.le_of_ble_eq_true rfl) (v_X6_flush hn hR he h) (by decide) (by decide) (fun r_ M_ h_ => ?_) (fun _ _ h_ => h_.elim)
        obtain ⟨J11, L12, rfl, rfl, h⟩ := h_
        show xJ _ _ _ _ _ _ _ _ _ 52 [(0, .ref e), (1, .ref p1), (2, .int (oI p2)), (3, .int (oI r10))] [] _ _ _ (zi J11) (li L12)
        refine xr_iload_n (xd dX8_sendData 30 rfl) 3 rfl ?_
        exact xr_iret (xd dX8_sendData 31 rfl) rfl (by decide) (by decide) (fun _ => rfl) ⟨_, _, _, rfl, rfl, h⟩
      · replace h := ifp h c5
        refine xr_iconst (v := oI (-1)) (xd dX8_sendData 10 rfl) (by decide) ?_
        exact xr_iret (xd dX8_sendData 11 rfl) rfl (by decide) (by decide) (fun _ => rfl) ⟨_, _, _, rfl, rfl, h⟩
