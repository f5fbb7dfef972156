set_option maxHeartbeats 4000000 in
set_option maxRecDepth 100000 in
theorem lc_close {b : Nat} {dC : Nat → ClassId} {dI : Nat → Nat → Nat} {cA : Nat → ClassId} {ts : Nat → Nat} {l : Launch} {R : Nat → Nat → Option Nat} (hst : l.stackTraces = false) (hR : xRk R) {Qv : Option Value → xM → Prop} {i N c0 s0 : Nat} (hN : ts 91 = N) (hN4 : N ≤ 384) (hi : i + 6 ≤ N) (hc : c0 + 3 ≤ 600128) (hs : s0 + 18 ≤ 7301098) {bd : Int} (hb : 0 ≤ bd ∧ bd + 1300000 ≤ 2000000000) {J : zM} {L : yM} (h : PB bd J L) (kk : ∀ (J' : zM) (L' : yM), PB (bd + 1300000) J' L' → xJ (xGm b dC dI cA ts) l mL_law 600128 7301098 Qv (fun _ _ => False) (c0 + 3) (s0 + 18) 1689 (lsL i) [] false 553 R (zi J') (li L')) : xJ (xGm b dC dI cA ts) l mL_law 600128 7301098 Qv (fun _ _ => False) c0 s0 688 (lsL i) [] false 553 R (zi J) (li L) := by
  refine xr_aload_n (xd dL_c_close 0 rfl) 1 rfl ?_
  refine xr_aload_n (xd dL_c_close 1 rfl) 0 rfl ?_
  refine xr_iload (xd dL_c_close 2 rfl) 4 rfl ?_
  refine xr_iconst (v := nI 1) (xd dL_c_close 3 rfl) (by decide) ?_
  refine xr_iadd (xd dL_c_close 4 rfl) ?_
  refine xr_eqi (nI (i + 1)) (nI_add _ _) ?_
  refine xr_sld (xd dL_c_close 5 rfl) (show i + 1 < ts 91 by omega) (show ts 91 < 2 ^ 31 by omega) ?_
  refine xr_callH (st := []) mL_close hL_close 2 [.ref 0, .int (xsc (xGm b dC dI cA ts) (i + 1))] (xd dL_c_close 6 rfl) (xt_5 (j := 76) (by decide +kernel) (by decide +kernel)) kL_close rfl ⟨by decide, by decide⟩ (Nat.le_of_ble_eq_true rfl) (wr_close hst hR hb h) (by omega) (by omega) (fun v M q => ?_)
  obtain ⟨k, J1, L1, hk, rfl, rfl, hq⟩ := q
  show xJ (xGm b dC dI cA ts) l mL_law 600128 7301098 Qv (fun _ _ => False) (c0 + 2) (s0 + 12) 698 (lsL i) [.int (nI k)] false 553 R (zi J1) (li L1)
  refine xr_istore (i := 5) [(0, .ref 1000090), (1, .ref 0), (2, .ref 491), (3, .ref 552), (4, .int (nI i)), (5, .int (nI k))] (xd dL_c_close 7 rfl) (by decide) rfl ?_
  have hw := hq
  refine xr_aload_n (xd dL_c_close 8 rfl) 2 rfl ?_
  refine xr_aload_n (xd dL_c_close 9 rfl) 0 rfl ?_
  refine xr_iload (xd dL_c_close 10 rfl) 4 rfl ?_
  refine xr_iconst (v := nI 1) (xd dL_c_close 11 rfl) (by decide) ?_
  refine xr_iadd (xd dL_c_close 12 rfl) ?_
  refine xr_eqi (nI (i + 1)) (nI_add _ _) ?_
  refine xr_sld (xd dL_c_close 13 rfl) (show i + 1 < ts 91 by omega) (show ts 91 < 2 ^ 31 by omega) ?_
  have c2 := v_X12_close (b := b) (dC := dC) (dI := dI) (cA := cA) (ts := ts) (l := l) (n := 553) (al := false) (by decide) hR hw
  simp only [oI_of] at c2
  refine xr_callV (st := []) mX12_close 1 [.int (xsc (xGm b dC dI cA ts) (i + 1))] (b := 491) (cl := 12) (xd dL_c_close 14 rfl) (xt_9 (j := 141) (by decide +kernel) (by decide +kernel)) kX12_close rfl (by decide) kd_491' (by decide) rfl ⟨by decide, by decide⟩ (Nat.le_of_ble_eq_true rfl) c2 (by omega) (by omega) (fun v M q => ?_) (fun _ _ h => h.elim)
  obtain ⟨J2, L2, rfl, rfl, hT, -, hP⟩ := q
  show xJ (xGm b dC dI cA ts) l mL_law 600128 7301098 Qv (fun _ _ => False) (c0 + 2 + 0) (s0 + 12 + 0) 710 [(0, .ref 1000090), (1, .ref 0), (2, .ref 491), (3, .ref 552), (4, .int (nI i)), (5, .int (nI k))] [] false 553 R (zi J2) (li L2)
  refine xr_aload_n (xd dL_c_close 15 rfl) 2 rfl ?_
  refine xr_callV (st := []) mX12_thrown 0 [] (b := 491) (cl := 12) (xd dL_c_close 16 rfl) (xt_7 (j := 228) (by decide +kernel) (by decide +kernel)) kX12_thrown rfl (by decide) kd_491' (by decide) rfl ⟨by decide, by decide⟩ (Nat.le_of_ble_eq_true rfl) (v_X12_thrown (al := false) (by decide) hR (show w_X12_thrown J2 L2 (fun r J3 L3 => r = J2 491 0 ∧ J3 = J2 ∧ L3 = L2) from ⟨rfl, rfl, rfl⟩)) (by omega) (by omega) (fun v M q => ?_) (fun _ _ h => h.elim)
  obtain ⟨r, J3, L3, rfl, rfl, rfl, rfl, rfl⟩ := q
  rw [hT]
  show xJ (xGm b dC dI cA ts) l mL_law 600128 7301098 Qv (fun _ _ => False) (c0 + 2 + 0 + 0) (s0 + 12 + 0 + 0) 714 [(0, .ref 1000090), (1, .ref 0), (2, .ref 491), (3, .ref 552), (4, .int (nI i)), (5, .int (nI k))] [.int (nI k)] false 553 R (zi J3) (li L3)
  refine xr_iload (xd dL_c_close 17 rfl) 5 rfl ?_
  refine xr_icmp_eq 721 (xd dL_c_close 18 rfl) (by decide) (fun _ => ?_) (fun c => absurd rfl c)
  refine xr_goto 1689 (xd dL_c_close 21 rfl) (by decide) ?_
  exact xJ.sub (lsL i) (fun q hq => lsL_1 hq) (xJ.wid (by omega) (by omega) (kk J3 L3 (hP.mono (by omega))))
set_option maxHeartbeats 4000000 in
set_option maxRecDepth 100000 in
theorem lc_tick {b : Nat} {dC : Nat → ClassId} {dI : Nat → Nat → Nat} {cA : Nat → ClassId} {ts : Nat → Nat} {l : Launch} {R : Nat → Nat → Option Nat} (hst : l.stackTraces = false) (hR : xRk R) {Qv : Option Value → xM → Prop} {i N c0 s0 : Nat} (hN : ts 91 = N) (hN4 : N ≤ 384) (hi : i + 6 ≤ N) (hc : c0 + 3 ≤ 600128) (hs : s0 + 18 ≤ 7301098) {bd : Int} (hb : 0 ≤ bd ∧ bd + 1300000 ≤ 2000000000) {J : zM} {L : yM} (h : PB bd J L) (kk : ∀ (J' : zM) (L' : yM), PB (bd + 1300000) J' L' → xJ (xGm b dC dI cA ts) l mL_law 600128 7301098 Qv (fun _ _ => False) (c0 + 3) (s0 + 18) 1689 (lsL i) [] false 553 R (zi J') (li L')) : xJ (xGm b dC dI cA ts) l mL_law 600128 7301098 Qv (fun _ _ => False) c0 s0 724 (lsL i) [] false 553 R (zi J) (li L) := by
  refine xr_aload_n (xd dL_c_tick 0 rfl) 1 rfl ?_
  have c1 := v_X11_tick (b := b) (dC := dC) (dI := dI) (cA := cA) (ts := ts) (l := l) (n := 553) (al := false) (by decide) hR (call_tick h (by omega))
  refine xr_callV (st := []) mX11_tick 0 [] (b := 0) (cl := 11) (xd dL_c_tick 1 rfl) (xt_3 (j := 92) (by decide +kernel) (by decide +kernel)) kX11_tick rfl (by decide) kd_0 (by decide) rfl ⟨by decide, by decide⟩ (Nat.le_of_ble_eq_true rfl) c1 (by omega) (by omega) (fun v M q => ?_) (fun _ _ h => h.elim)
  obtain ⟨y, J1, L1, rfl, rfl, hq⟩ := q
  show xJ (xGm b dC dI cA ts) l mL_law 600128 7301098 Qv (fun _ _ => False) (c0 + 0) (s0 + 0) 728 (lsL i) [.int (oI y)] false 553 R (zi J1) (li L1)
  refine xr_aload_n (xd dL_c_tick 2 rfl) 2 rfl ?_
  have c2 := v_X12_tick (b := b) (dC := dC) (dI := dI) (cA := cA) (ts := ts) (l := l) (n := 553) (al := false) (by decide) hR hq
  refine xr_callV (st := [.int (oI y)]) mX12_tick 0 [] (b := 491) (cl := 12) (xd dL_c_tick 3 rfl) (xt_8 (j := 144) (by decide +kernel) (by decide +kernel)) kX12_tick rfl (by decide) kd_491' (by decide) rfl ⟨by decide, by decide⟩ (Nat.le_of_ble_eq_true rfl) c2 (by omega) (by omega) (fun v M q => ?_) (fun _ _ h => h.elim)
  obtain ⟨y2, J2, L2, rfl, rfl, hy, hP⟩ := q
  subst hy
  show xJ (xGm b dC dI cA ts) l mL_law 600128 7301098 Qv (fun _ _ => False) (c0 + 0 + 0) (s0 + 0 + 0) 732 (lsL i) [.int (oI y2), .int (oI y2)] false 553 R (zi J2) (li L2)
  refine xr_icmp_eq 1689 (xd dL_c_tick 4 rfl) (by decide) (fun _ => ?_) (fun c => absurd rfl c)
  exact xJ.wid (by omega) (by omega) (kk J2 L2 (hP.mono (by omega)))
set_option maxHeartbeats 4000000 in
set_option maxRecDepth 100000 in
theorem lc_net {b : Nat} {dC : Nat → ClassId} {dI : Nat → Nat → Nat} {cA : Nat → ClassId} {ts : Nat → Nat} {l : Launch} {R : Nat → Nat → Option Nat} (hst : l.stackTraces = false) (hR : xRk R) {Qv : Option Value → xM → Prop} {i N c0 s0 : Nat} (hN : ts 91 = N) (hN4 : N ≤ 384) (hi : i + 6 ≤ N) (hc : c0 + 3 ≤ 600128) (hs : s0 + 18 ≤ 7301098) {bd : Int} (hb : 0 ≤ bd ∧ bd + 1300000 ≤ 2000000000) {J : zM} {L : yM} (h : PB bd J L) (kk : ∀ (J' : zM) (L' : yM), PB (bd + 1300000) J' L' → xJ (xGm b dC dI cA ts) l mL_law 600128 7301098 Qv (fun _ _ => False) (c0 + 3) (s0 + 18) 1689 (lsL i) [] false 553 R (zi J') (li L')) : xJ (xGm b dC dI cA ts) l mL_law 600128 7301098 Qv (fun _ _ => False) c0 s0 737 (lsL i) [] false 553 R (zi J) (li L) := by
  refine xr_aload_n (xd dL_c_net 0 rfl) 1 rfl ?_
  refine xr_aload_n (xd dL_c_net 1 rfl) 0 rfl ?_
  refine xr_iload (xd dL_c_net 2 rfl) 4 rfl ?_
  refine xr_iconst (v := nI 1) (xd dL_c_net 3 rfl) (by decide) ?_
  refine xr_iadd (xd dL_c_net 4 rfl) ?_
  refine xr_eqi (nI (i + 1)) (nI_add _ _) ?_
  refine xr_sld (xd dL_c_net 5 rfl) (show i + 1 < ts 91 by omega) (show ts 91 < 2 ^ 31 by omega) ?_
  refine xr_aload_n (xd dL_c_net 6 rfl) 3 rfl ?_
  refine xr_callH (st := []) mL_net hL_net 3 [.ref 0, .int (xsc (xGm b dC dI cA ts) (i + 1)), .ref 552] (xd dL_c_net 7 rfl) (xt_5 (j := 91) (by decide +kernel) (by decide +kernel)) kL_net rfl ⟨by decide, by decide⟩ (Nat.le_of_ble_eq_true rfl) (wr_net hst hR hb h) (by omega) (by omega) (fun v M q => ?_)
  obtain ⟨k, J1, L1, hk, rfl, rfl, hq⟩ := q
  show xJ (xGm b dC dI cA ts) l mL_law 600128 7301098 Qv (fun _ _ => False) (c0 + 1) (s0 + 6) 748 (lsL i) [.int (nI k)] false 553 R (zi J1) (li L1)
  refine xr_istore (i := 5) [(0, .ref 1000090), (1, .ref 0), (2, .ref 491), (3, .ref 552), (4, .int (nI i)), (5, .int (nI k))] (xd dL_c_net 8 rfl) (by decide) rfl ?_
  rcases hq with ⟨rfl, y0, hy0, hw⟩ | ⟨hk0, hw⟩
  · skip
    refine xr_aload_n (xd dL_c_net 9 rfl) 2 rfl ?_
    refine xr_aload_n (xd dL_c_net 10 rfl) 0 rfl ?_
    refine xr_iload (xd dL_c_net 11 rfl) 4 rfl ?_
    refine xr_iconst (v := nI 1) (xd dL_c_net 12 rfl) (by decide) ?_
    refine xr_iadd (xd dL_c_net 13 rfl) ?_
    refine xr_eqi (nI (i + 1)) (nI_add _ _) ?_
    refine xr_sld (xd dL_c_net 14 rfl) (show i + 1 < ts 91 by omega) (show ts 91 < 2 ^ 31 by omega) ?_
    have c2 := v_X12_net (b := b) (dC := dC) (dI := dI) (cA := cA) (ts := ts) (l := l) (n := 553) (al := false) (by decide) hR hw
    simp only [oI_of] at c2
    refine xr_callV (st := []) mX12_net 1 [.int (xsc (xGm b dC dI cA ts) (i + 1))] (b := 491) (cl := 12) (xd dL_c_net 15 rfl) (xt_9 (j := 145) (by decide +kernel) (by decide +kernel)) kX12_net rfl (by decide) kd_491' (by decide) rfl ⟨by decide, by decide⟩ (Nat.le_of_ble_eq_true rfl) c2 (by omega) (by omega) (fun v M q => ?_) (fun _ _ h => h.elim)
    obtain ⟨b2, J2, L2, rfl, rfl, hT, ⟨hy, hL⟩, hP⟩ := q
    show xJ (xGm b dC dI cA ts) l mL_law 600128 7301098 Qv (fun _ _ => False) (c0 + 1 + 0) (s0 + 6 + 0) 760 [(0, .ref 1000090), (1, .ref 0), (2, .ref 491), (3, .ref 552), (4, .int (nI i)), (5, .int (nI 0))] [.int (oI b2)] false 553 R (zi J2) (li L2)
    refine xr_istore (i := 6) [(0, .ref 1000090), (1, .ref 0), (2, .ref 491), (3, .ref 552), (4, .int (nI i)), (5, .int (nI 0)), (6, .int (oI b2))] (xd dL_c_net 16 rfl) (by decide) rfl ?_
    refine xr_aload_n (xd dL_c_net 17 rfl) 2 rfl ?_
    refine xr_callV (st := []) mX12_thrown 0 [] (b := 491) (cl := 12) (xd dL_c_net 18 rfl) (xt_7 (j := 228) (by decide +kernel) (by decide +kernel)) kX12_thrown rfl (by decide) kd_491' (by decide) rfl ⟨by decide, by decide⟩ (Nat.le_of_ble_eq_true rfl) (v_X12_thrown (al := false) (by decide) hR (show w_X12_thrown J2 L2 (fun r J3 L3 => r = J2 491 0 ∧ J3 = J2 ∧ L3 = L2) from ⟨rfl, rfl, rfl⟩)) (by omega) (by omega) (fun v M q => ?_) (fun _ _ h => h.elim)
    obtain ⟨r, J3, L3, rfl, rfl, rfl, rfl, rfl⟩ := q
    rw [hT]
    show xJ (xGm b dC dI cA ts) l mL_law 600128 7301098 Qv (fun _ _ => False) (c0 + 1 + 0 + 0) (s0 + 6 + 0 + 0) 766 [(0, .ref 1000090), (1, .ref 0), (2, .ref 491), (3, .ref 552), (4, .int (nI i)), (5, .int (nI 0)), (6, .int (oI b2))] [.int (nI 0)] false 553 R (zi J3) (li L3)
    refine xr_iload (xd dL_c_net 19 rfl) 5 rfl ?_
    refine xr_icmp_eq 773 (xd dL_c_net 20 rfl) (by decide) (fun _ => ?_) (fun c => absurd rfl c)
    refine xr_iload (xd dL_c_net 23 rfl) 5 rfl ?_
    refine xr_if_ne 790 (xd dL_c_net 24 rfl) (by decide) (fun c => absurd rfl c) (fun _ => ?_)
    refine xr_aload_n (xd dL_c_net 25 rfl) 3 rfl ?_
    refine xr_iconst (v := nI 0) (xd dL_c_net 26 rfl) (by decide) ?_
    refine xr_laload (x := (oI b2).toInt64) (xd dL_c_net 27 rfl) (by decide) kd_552 (by rw [show xln (xGm b dC dI cA ts) 552 = 1 from ln_552]; exact nI_in (by decide) (by decide)) (by rw [hy]; refine out_eq (L := L3) ?_; rw [hL]; exact hy0) ?_
    refine xr_iload (xd dL_c_net 28 rfl) 6 rfl ?_
    refine xr_i2l (xd dL_c_net 29 rfl) ?_
    refine xr_lcmp (xd dL_c_net 30 rfl) ?_
    refine xr_if_eq 790 (xd dL_c_net 31 rfl) (by decide) (fun _ => ?_) (fun c => absurd (cmp_self _) c)
    refine xr_goto 1689 (xd dL_c_net 34 rfl) (by decide) ?_
    exact xJ.sub (lsL i) (fun q hq => lsL_2 hq) (xJ.wid (by omega) (by omega) (kk J3 L3 (hP.mono (by omega))))
  · skip
    refine xr_aload_n (xd dL_c_net 9 rfl) 2 rfl ?_
    refine xr_aload_n (xd dL_c_net 10 rfl) 0 rfl ?_
    refine xr_iload (xd dL_c_net 11 rfl) 4 rfl ?_
    refine xr_iconst (v := nI 1) (xd dL_c_net 12 rfl) (by decide) ?_
    refine xr_iadd (xd dL_c_net 13 rfl) ?_
    refine xr_eqi (nI (i + 1)) (nI_add _ _) ?_
    refine xr_sld (xd dL_c_net 14 rfl) (show i + 1 < ts 91 by omega) (show ts 91 < 2 ^ 31 by omega) ?_
    have c2 := v_X12_net (b := b) (dC := dC) (dI := dI) (cA := cA) (ts := ts) (l := l) (n := 553) (al := false) (by decide) hR hw
    simp only [oI_of] at c2
    refine xr_callV (st := []) mX12_net 1 [.int (xsc (xGm b dC dI cA ts) (i + 1))] (b := 491) (cl := 12) (xd dL_c_net 15 rfl) (xt_9 (j := 145) (by decide +kernel) (by decide +kernel)) kX12_net rfl (by decide) kd_491' (by decide) rfl ⟨by decide, by decide⟩ (Nat.le_of_ble_eq_true rfl) c2 (by omega) (by omega) (fun v M q => ?_) (fun _ _ h => h.elim)
    obtain ⟨b2, J2, L2, rfl, rfl, hT, -, hP⟩ := q
    show xJ (xGm b dC dI cA ts) l mL_law 600128 7301098 Qv (fun _ _ => False) (c0 + 1 + 0) (s0 + 6 + 0) 760 [(0, .ref 1000090), (1, .ref 0), (2, .ref 491), (3, .ref 552), (4, .int (nI i)), (5, .int (nI k))] [.int (oI b2)] false 553 R (zi J2) (li L2)
    refine xr_istore (i := 6) [(0, .ref 1000090), (1, .ref 0), (2, .ref 491), (3, .ref 552), (4, .int (nI i)), (5, .int (nI k)), (6, .int (oI b2))] (xd dL_c_net 16 rfl) (by decide) rfl ?_
    refine xr_aload_n (xd dL_c_net 17 rfl) 2 rfl ?_
    refine xr_callV (st := []) mX12_thrown 0 [] (b := 491) (cl := 12) (xd dL_c_net 18 rfl) (xt_7 (j := 228) (by decide +kernel) (by decide +kernel)) kX12_thrown rfl (by decide) kd_491' (by decide) rfl ⟨by decide, by decide⟩ (Nat.le_of_ble_eq_true rfl) (v_X12_thrown (al := false) (by decide) hR (show w_X12_thrown J2 L2 (fun r J3 L3 => r = J2 491 0 ∧ J3 = J2 ∧ L3 = L2) from ⟨rfl, rfl, rfl⟩)) (by omega) (by omega) (fun v M q => ?_) (fun _ _ h => h.elim)
    obtain ⟨r, J3, L3, rfl, rfl, rfl, rfl, rfl⟩ := q
    rw [hT]
    show xJ (xGm b dC dI cA ts) l mL_law 600128 7301098 Qv (fun _ _ => False) (c0 + 1 + 0 + 0) (s0 + 6 + 0 + 0) 766 [(0, .ref 1000090), (1, .ref 0), (2, .ref 491), (3, .ref 552), (4, .int (nI i)), (5, .int (nI k)), (6, .int (oI b2))] [.int (nI k)] false 553 R (zi J3) (li L3)
    refine xr_iload (xd dL_c_net 19 rfl) 5 rfl ?_
    refine xr_icmp_eq 773 (xd dL_c_net 20 rfl) (by decide) (fun _ => ?_) (fun c => absurd rfl c)
    refine xr_iload (xd dL_c_net 23 rfl) 5 rfl ?_
    refine xr_if_ne 790 (xd dL_c_net 24 rfl) (by decide) (fun _ => ?_) (fun c => absurd c (nI_ne0 (by omega) (by omega)))
    refine xr_goto 1689 (xd dL_c_net 34 rfl) (by decide) ?_
    exact xJ.sub (lsL i) (fun q hq => lsL_2 hq) (xJ.wid (by omega) (by omega) (kk J3 L3 (hP.mono (by omega))))
set_option maxHeartbeats 4000000 in
set_option maxRecDepth 100000 in
theorem lc_size {b : Nat} {dC : Nat → ClassId} {dI : Nat → Nat → Nat} {cA : Nat → ClassId} {ts : Nat → Nat} {l : Launch} {R : Nat → Nat → Option Nat} (hst : l.stackTraces = false) (hR : xRk R) {Qv : Option Value → xM → Prop} {i N c0 s0 : Nat} (hN : ts 91 = N) (hN4 : N ≤ 384) (hi : i + 6 ≤ N) (hc : c0 + 3 ≤ 600128) (hs : s0 + 18 ≤ 7301098) {bd : Int} (hb : 0 ≤ bd ∧ bd + 1300000 ≤ 2000000000) {J : zM} {L : yM} (h : PB bd J L) (kk : ∀ (J' : zM) (L' : yM), PB (bd + 1300000) J' L' → xJ (xGm b dC dI cA ts) l mL_law 600128 7301098 Qv (fun _ _ => False) (c0 + 3) (s0 + 18) 1689 (lsL i) [] false 553 R (zi J') (li L')) : xJ (xGm b dC dI cA ts) l mL_law 600128 7301098 Qv (fun _ _ => False) c0 s0 793 (lsL i) [] false 553 R (zi J) (li L) := by
  refine xr_aload_n (xd dL_c_size 0 rfl) 1 rfl ?_
  refine xr_aload_n (xd dL_c_size 1 rfl) 0 rfl ?_
  refine xr_iload (xd dL_c_size 2 rfl) 4 rfl ?_
  refine xr_iconst (v := nI 1) (xd dL_c_size 3 rfl) (by decide) ?_
  refine xr_iadd (xd dL_c_size 4 rfl) ?_
  refine xr_eqi (nI (i + 1)) (nI_add _ _) ?_
  refine xr_sld (xd dL_c_size 5 rfl) (show i + 1 < ts 91 by omega) (show ts 91 < 2 ^ 31 by omega) ?_
  refine xr_aload_n (xd dL_c_size 6 rfl) 0 rfl ?_
  refine xr_iload (xd dL_c_size 7 rfl) 4 rfl ?_
  refine xr_iconst (v := nI 2) (xd dL_c_size 8 rfl) (by decide) ?_
  refine xr_iadd (xd dL_c_size 9 rfl) ?_
  refine xr_eqi (nI (i + 2)) (nI_add _ _) ?_
  refine xr_sld (xd dL_c_size 10 rfl) (show i + 2 < ts 91 by omega) (show ts 91 < 2 ^ 31 by omega) ?_
  refine xr_aload_n (xd dL_c_size 11 rfl) 3 rfl ?_
  refine xr_callH (st := []) mL_size hL_size 4 [.ref 0, .int (xsc (xGm b dC dI cA ts) (i + 1)), .int (xsc (xGm b dC dI cA ts) (i + 2)), .ref 552] (xd dL_c_size 12 rfl) (xt_5 (j := 98) (by decide +kernel) (by decide +kernel)) kL_size rfl ⟨by decide, by decide⟩ (Nat.le_of_ble_eq_true rfl) (wr_size hst hR hb h) (by omega) (by omega) (fun v M q => ?_)
  obtain ⟨k, J1, L1, hk, rfl, rfl, hq⟩ := q
  show xJ (xGm b dC dI cA ts) l mL_law 600128 7301098 Qv (fun _ _ => False) (c0 + 2) (s0 + 12) 810 (lsL i) [.int (nI k)] false 553 R (zi J1) (li L1)
  refine xr_istore (i := 5) [(0, .ref 1000090), (1, .ref 0), (2, .ref 491), (3, .ref 552), (4, .int (nI i)), (5, .int (nI k))] (xd dL_c_size 13 rfl) (by decide) rfl ?_
  rcases hq with ⟨rfl, y0, hy0, hw⟩ | ⟨hk0, hw⟩
  · skip
    refine xr_aload_n (xd dL_c_size 14 rfl) 2 rfl ?_
    refine xr_aload_n (xd dL_c_size 15 rfl) 0 rfl ?_
    refine xr_iload (xd dL_c_size 16 rfl) 4 rfl ?_
    refine xr_iconst (v := nI 1) (xd dL_c_size 17 rfl) (by decide) ?_
    refine xr_iadd (xd dL_c_size 18 rfl) ?_
    refine xr_eqi (nI (i + 1)) (nI_add _ _) ?_
    refine xr_sld (xd dL_c_size 19 rfl) (show i + 1 < ts 91 by omega) (show ts 91 < 2 ^ 31 by omega) ?_
    refine xr_aload_n (xd dL_c_size 20 rfl) 0 rfl ?_
    refine xr_iload (xd dL_c_size 21 rfl) 4 rfl ?_
    refine xr_iconst (v := nI 2) (xd dL_c_size 22 rfl) (by decide) ?_
    refine xr_iadd (xd dL_c_size 23 rfl) ?_
    refine xr_eqi (nI (i + 2)) (nI_add _ _) ?_
    refine xr_sld (xd dL_c_size 24 rfl) (show i + 2 < ts 91 by omega) (show ts 91 < 2 ^ 31 by omega) ?_
    have c2 := v_X12_size (b := b) (dC := dC) (dI := dI) (cA := cA) (ts := ts) (l := l) (n := 553) (al := false) (by decide) hR hw
    simp only [oI_of] at c2
    refine xr_callV (st := []) mX12_size 2 [.int (xsc (xGm b dC dI cA ts) (i + 1)), .int (xsc (xGm b dC dI cA ts) (i + 2))] (b := 491) (cl := 12) (xd dL_c_size 25 rfl) (xt_9 (j := 149) (by decide +kernel) (by decide +kernel)) kX12_size rfl (by decide) kd_491' (by decide) rfl ⟨by decide, by decide⟩ (Nat.le_of_ble_eq_true rfl) c2 (by omega) (by omega) (fun v M q => ?_) (fun _ _ h => h.elim)
    obtain ⟨b2, J2, L2, rfl, rfl, hT, ⟨hy, hL⟩, hP⟩ := q
    show xJ (xGm b dC dI cA ts) l mL_law 600128 7301098 Qv (fun _ _ => False) (c0 + 2 + 0) (s0 + 12 + 0) 828 [(0, .ref 1000090), (1, .ref 0), (2, .ref 491), (3, .ref 552), (4, .int (nI i)), (5, .int (nI 0))] [.int (oI b2)] false 553 R (zi J2) (li L2)
    refine xr_istore (i := 6) [(0, .ref 1000090), (1, .ref 0), (2, .ref 491), (3, .ref 552), (4, .int (nI i)), (5, .int (nI 0)), (6, .int (oI b2))] (xd dL_c_size 26 rfl) (by decide) rfl ?_
    refine xr_aload_n (xd dL_c_size 27 rfl) 2 rfl ?_
    refine xr_callV (st := []) mX12_thrown 0 [] (b := 491) (cl := 12) (xd dL_c_size 28 rfl) (xt_7 (j := 228) (by decide +kernel) (by decide +kernel)) kX12_thrown rfl (by decide) kd_491' (by decide) rfl ⟨by decide, by decide⟩ (Nat.le_of_ble_eq_true rfl) (v_X12_thrown (al := false) (by decide) hR (show w_X12_thrown J2 L2 (fun r J3 L3 => r = J2 491 0 ∧ J3 = J2 ∧ L3 = L2) from ⟨rfl, rfl, rfl⟩)) (by omega) (by omega) (fun v M q => ?_) (fun _ _ h => h.elim)
    obtain ⟨r, J3, L3, rfl, rfl, rfl, rfl, rfl⟩ := q
    rw [hT]
    show xJ (xGm b dC dI cA ts) l mL_law 600128 7301098 Qv (fun _ _ => False) (c0 + 2 + 0 + 0) (s0 + 12 + 0 + 0) 834 [(0, .ref 1000090), (1, .ref 0), (2, .ref 491), (3, .ref 552), (4, .int (nI i)), (5, .int (nI 0)), (6, .int (oI b2))] [.int (nI 0)] false 553 R (zi J3) (li L3)
    refine xr_iload (xd dL_c_size 29 rfl) 5 rfl ?_
    refine xr_icmp_eq 841 (xd dL_c_size 30 rfl) (by decide) (fun _ => ?_) (fun c => absurd rfl c)
    refine xr_iload (xd dL_c_size 33 rfl) 5 rfl ?_
    refine xr_if_ne 858 (xd dL_c_size 34 rfl) (by decide) (fun c => absurd rfl c) (fun _ => ?_)
    refine xr_aload_n (xd dL_c_size 35 rfl) 3 rfl ?_
    refine xr_iconst (v := nI 0) (xd dL_c_size 36 rfl) (by decide) ?_
    refine xr_laload (x := (oI b2).toInt64) (xd dL_c_size 37 rfl) (by decide) kd_552 (by rw [show xln (xGm b dC dI cA ts) 552 = 1 from ln_552]; exact nI_in (by decide) (by decide)) (by rw [hy]; refine out_eq (L := L3) ?_; rw [hL]; exact hy0) ?_
    refine xr_iload (xd dL_c_size 38 rfl) 6 rfl ?_
    refine xr_i2l (xd dL_c_size 39 rfl) ?_
    refine xr_lcmp (xd dL_c_size 40 rfl) ?_
    refine xr_if_eq 858 (xd dL_c_size 41 rfl) (by decide) (fun _ => ?_) (fun c => absurd (cmp_self _) c)
    refine xr_goto 1689 (xd dL_c_size 44 rfl) (by decide) ?_
    exact xJ.sub (lsL i) (fun q hq => lsL_2 hq) (xJ.wid (by omega) (by omega) (kk J3 L3 (hP.mono (by omega))))
  · skip
    refine xr_aload_n (xd dL_c_size 14 rfl) 2 rfl ?_
    refine xr_aload_n (xd dL_c_size 15 rfl) 0 rfl ?_
    refine xr_iload (xd dL_c_size 16 rfl) 4 rfl ?_
    refine xr_iconst (v := nI 1) (xd dL_c_size 17 rfl) (by decide) ?_
    refine xr_iadd (xd dL_c_size 18 rfl) ?_
    refine xr_eqi (nI (i + 1)) (nI_add _ _) ?_
    refine xr_sld (xd dL_c_size 19 rfl) (show i + 1 < ts 91 by omega) (show ts 91 < 2 ^ 31 by omega) ?_
    refine xr_aload_n (xd dL_c_size 20 rfl) 0 rfl ?_
    refine xr_iload (xd dL_c_size 21 rfl) 4 rfl ?_
    refine xr_iconst (v := nI 2) (xd dL_c_size 22 rfl) (by decide) ?_
    refine xr_iadd (xd dL_c_size 23 rfl) ?_
    refine xr_eqi (nI (i + 2)) (nI_add _ _) ?_
    refine xr_sld (xd dL_c_size 24 rfl) (show i + 2 < ts 91 by omega) (show ts 91 < 2 ^ 31 by omega) ?_
    have c2 := v_X12_size (b := b) (dC := dC) (dI := dI) (cA := cA) (ts := ts) (l := l) (n := 553) (al := false) (by decide) hR hw
    simp only [oI_of] at c2
    refine xr_callV (st := []) mX12_size 2 [.int (xsc (xGm b dC dI cA ts) (i + 1)), .int (xsc (xGm b dC dI cA ts) (i + 2))] (b := 491) (cl := 12) (xd dL_c_size 25 rfl) (xt_9 (j := 149) (by decide +kernel) (by decide +kernel)) kX12_size rfl (by decide) kd_491' (by decide) rfl ⟨by decide, by decide⟩ (Nat.le_of_ble_eq_true rfl) c2 (by omega) (by omega) (fun v M q => ?_) (fun _ _ h => h.elim)
    obtain ⟨b2, J2, L2, rfl, rfl, hT, -, hP⟩ := q
    show xJ (xGm b dC dI cA ts) l mL_law 600128 7301098 Qv (fun _ _ => False) (c0 + 2 + 0) (s0 + 12 + 0) 828 [(0, .ref 1000090), (1, .ref 0), (2, .ref 491), (3, .ref 552), (4, .int (nI i)), (5, .int (nI k))] [.int (oI b2)] false 553 R (zi J2) (li L2)
    refine xr_istore (i := 6) [(0, .ref 1000090), (1, .ref 0), (2, .ref 491), (3, .ref 552), (4, .int (nI i)), (5, .int (nI k)), (6, .int (oI b2))] (xd dL_c_size 26 rfl) (by decide) rfl ?_
    refine xr_aload_n (xd dL_c_size 27 rfl) 2 rfl ?_
    refine xr_callV (st := []) mX12_thrown 0 [] (b := 491) (cl := 12) (xd dL_c_size 28 rfl) (xt_7 (j := 228) (by decide +kernel) (by decide +kernel)) kX12_thrown rfl (by decide) kd_491' (by decide) rfl ⟨by decide, by decide⟩ (Nat.le_of_ble_eq_true rfl) (v_X12_thrown (al := false) (by decide) hR (show w_X12_thrown J2 L2 (fun r J3 L3 => r = J2 491 0 ∧ J3 = J2 ∧ L3 = L2) from ⟨rfl, rfl, rfl⟩)) (by omega) (by omega) (fun v M q => ?_) (fun _ _ h => h.elim)
    obtain ⟨r, J3, L3, rfl, rfl, rfl, rfl, rfl⟩ := q
    rw [hT]
    show xJ (xGm b dC dI cA ts) l mL_law 600128 7301098 Qv (fun _ _ => False) (c0 + 2 + 0 + 0) (s0 + 12 + 0 + 0) 834 [(0, .ref 1000090), (1, .ref 0), (2, .ref 491), (3, .ref 552), (4, .int (nI i)), (5, .int (nI k)), (6, .int (oI b2))] [.int (nI k)] false 553 R (zi J3) (li L3)
    refine xr_iload (xd dL_c_size 29 rfl) 5 rfl ?_
    refine xr_icmp_eq 841 (xd dL_c_size 30 rfl) (by decide) (fun _ => ?_) (fun c => absurd rfl c)
    refine xr_iload (xd dL_c_size 33 rfl) 5 rfl ?_
    refine xr_if_ne 858 (xd dL_c_size 34 rfl) (by decide) (fun _ => ?_) (fun c => absurd c (nI_ne0 (by omega) (by omega)))
    refine xr_goto 1689 (xd dL_c_size 44 rfl) (by decide) ?_
    exact xJ.sub (lsL i) (fun q hq => lsL_2 hq) (xJ.wid (by omega) (by omega) (kk J3 L3 (hP.mono (by omega))))
set_option maxHeartbeats 4000000 in
set_option maxRecDepth 100000 in
theorem lc_octet {b : Nat} {dC : Nat → ClassId} {dI : Nat → Nat → Nat} {cA : Nat → ClassId} {ts : Nat → Nat} {l : Launch} {R : Nat → Nat → Option Nat} (hst : l.stackTraces = false) (hR : xRk R) {Qv : Option Value → xM → Prop} {i N c0 s0 : Nat} (hN : ts 91 = N) (hN4 : N ≤ 384) (hi : i + 6 ≤ N) (hc : c0 + 3 ≤ 600128) (hs : s0 + 18 ≤ 7301098) {bd : Int} (hb : 0 ≤ bd ∧ bd + 1300000 ≤ 2000000000) {J : zM} {L : yM} (h : PB bd J L) (kk : ∀ (J' : zM) (L' : yM), PB (bd + 1300000) J' L' → xJ (xGm b dC dI cA ts) l mL_law 600128 7301098 Qv (fun _ _ => False) (c0 + 3) (s0 + 18) 1689 (lsL i) [] false 553 R (zi J') (li L')) : xJ (xGm b dC dI cA ts) l mL_law 600128 7301098 Qv (fun _ _ => False) c0 s0 861 (lsL i) [] false 553 R (zi J) (li L) := by
  refine xr_aload_n (xd dL_c_octet 0 rfl) 1 rfl ?_
  refine xr_aload_n (xd dL_c_octet 1 rfl) 0 rfl ?_
  refine xr_iload (xd dL_c_octet 2 rfl) 4 rfl ?_
  refine xr_iconst (v := nI 1) (xd dL_c_octet 3 rfl) (by decide) ?_
  refine xr_iadd (xd dL_c_octet 4 rfl) ?_
  refine xr_eqi (nI (i + 1)) (nI_add _ _) ?_
  refine xr_sld (xd dL_c_octet 5 rfl) (show i + 1 < ts 91 by omega) (show ts 91 < 2 ^ 31 by omega) ?_
  refine xr_aload_n (xd dL_c_octet 6 rfl) 0 rfl ?_
  refine xr_iload (xd dL_c_octet 7 rfl) 4 rfl ?_
  refine xr_iconst (v := nI 2) (xd dL_c_octet 8 rfl) (by decide) ?_
  refine xr_iadd (xd dL_c_octet 9 rfl) ?_
  refine xr_eqi (nI (i + 2)) (nI_add _ _) ?_
  refine xr_sld (xd dL_c_octet 10 rfl) (show i + 2 < ts 91 by omega) (show ts 91 < 2 ^ 31 by omega) ?_
  refine xr_aload_n (xd dL_c_octet 11 rfl) 0 rfl ?_
  refine xr_iload (xd dL_c_octet 12 rfl) 4 rfl ?_
  refine xr_iconst (v := nI 3) (xd dL_c_octet 13 rfl) (by decide) ?_
  refine xr_iadd (xd dL_c_octet 14 rfl) ?_
  refine xr_eqi (nI (i + 3)) (nI_add _ _) ?_
  refine xr_sld (xd dL_c_octet 15 rfl) (show i + 3 < ts 91 by omega) (show ts 91 < 2 ^ 31 by omega) ?_
  refine xr_aload_n (xd dL_c_octet 16 rfl) 3 rfl ?_
  refine xr_callH (st := []) mL_octet hL_octet 5 [.ref 0, .int (xsc (xGm b dC dI cA ts) (i + 1)), .int (xsc (xGm b dC dI cA ts) (i + 2)), .int (xsc (xGm b dC dI cA ts) (i + 3)), .ref 552] (xd dL_c_octet 17 rfl) (xt_5 (j := 114) (by decide +kernel) (by decide +kernel)) kL_octet rfl ⟨by decide, by decide⟩ (Nat.le_of_ble_eq_true rfl) (wr_octet hst hR hb h) (by omega) (by omega) (fun v M q => ?_)
  obtain ⟨k, J1, L1, hk, rfl, rfl, hq⟩ := q
  show xJ (xGm b dC dI cA ts) l mL_law 600128 7301098 Qv (fun _ _ => False) (c0 + 3) (s0 + 18) 884 (lsL i) [.int (nI k)] false 553 R (zi J1) (li L1)
  refine xr_istore (i := 5) [(0, .ref 1000090), (1, .ref 0), (2, .ref 491), (3, .ref 552), (4, .int (nI i)), (5, .int (nI k))] (xd dL_c_octet 18 rfl) (by decide) rfl ?_
  rcases hq with ⟨rfl, y0, hy0, hw⟩ | ⟨hk0, hw⟩
  · skip
    refine xr_aload_n (xd dL_c_octet 19 rfl) 2 rfl ?_
    refine xr_aload_n (xd dL_c_octet 20 rfl) 0 rfl ?_
    refine xr_iload (xd dL_c_octet 21 rfl) 4 rfl ?_
    refine xr_iconst (v := nI 1) (xd dL_c_octet 22 rfl) (by decide) ?_
    refine xr_iadd (xd dL_c_octet 23 rfl) ?_
    refine xr_eqi (nI (i + 1)) (nI_add _ _) ?_
    refine xr_sld (xd dL_c_octet 24 rfl) (show i + 1 < ts 91 by omega) (show ts 91 < 2 ^ 31 by omega) ?_
    refine xr_aload_n (xd dL_c_octet 25 rfl) 0 rfl ?_
    refine xr_iload (xd dL_c_octet 26 rfl) 4 rfl ?_
    refine xr_iconst (v := nI 2) (xd dL_c_octet 27 rfl) (by decide) ?_
    refine xr_iadd (xd dL_c_octet 28 rfl) ?_
    refine xr_eqi (nI (i + 2)) (nI_add _ _) ?_
    refine xr_sld (xd dL_c_octet 29 rfl) (show i + 2 < ts 91 by omega) (show ts 91 < 2 ^ 31 by omega) ?_
    refine xr_aload_n (xd dL_c_octet 30 rfl) 0 rfl ?_
    refine xr_iload (xd dL_c_octet 31 rfl) 4 rfl ?_
    refine xr_iconst (v := nI 3) (xd dL_c_octet 32 rfl) (by decide) ?_
    refine xr_iadd (xd dL_c_octet 33 rfl) ?_
    refine xr_eqi (nI (i + 3)) (nI_add _ _) ?_
    refine xr_sld (xd dL_c_octet 34 rfl) (show i + 3 < ts 91 by omega) (show ts 91 < 2 ^ 31 by omega) ?_
    have c2 := v_X12_octet (b := b) (dC := dC) (dI := dI) (cA := cA) (ts := ts) (l := l) (n := 553) (al := false) (by decide) hR hw
    simp only [oI_of] at c2
    refine xr_callV (st := []) mX12_octet 3 [.int (xsc (xGm b dC dI cA ts) (i + 1)), .int (xsc (xGm b dC dI cA ts) (i + 2)), .int (xsc (xGm b dC dI cA ts) (i + 3))] (b := 491) (cl := 12) (xd dL_c_octet 35 rfl) (xt_9 (j := 157) (by decide +kernel) (by decide +kernel)) kX12_octet rfl (by decide) kd_491' (by decide) rfl ⟨by decide, by decide⟩ (Nat.le_of_ble_eq_true rfl) c2 (by omega) (by omega) (fun v M q => ?_) (fun _ _ h => h.elim)
    obtain ⟨b2, J2, L2, rfl, rfl, hT, ⟨hy, hL⟩, hP⟩ := q
    show xJ (xGm b dC dI cA ts) l mL_law 600128 7301098 Qv (fun _ _ => False) (c0 + 3 + 0) (s0 + 18 + 0) 908 [(0, .ref 1000090), (1, .ref 0), (2, .ref 491), (3, .ref 552), (4, .int (nI i)), (5, .int (nI 0))] [.int (oI b2)] false 553 R (zi J2) (li L2)
    refine xr_istore (i := 6) [(0, .ref 1000090), (1, .ref 0), (2, .ref 491), (3, .ref 552), (4, .int (nI i)), (5, .int (nI 0)), (6, .int (oI b2))] (xd dL_c_octet 36 rfl) (by decide) rfl ?_
    refine xr_aload_n (xd dL_c_octet 37 rfl) 2 rfl ?_
    refine xr_callV (st := []) mX12_thrown 0 [] (b := 491) (cl := 12) (xd dL_c_octet 38 rfl) (xt_7 (j := 228) (by decide +kernel) (by decide +kernel)) kX12_thrown rfl (by decide) kd_491' (by decide) rfl ⟨by decide, by decide⟩ (Nat.le_of_ble_eq_true rfl) (v_X12_thrown (al := false) (by decide) hR (show w_X12_thrown J2 L2 (fun r J3 L3 => r = J2 491 0 ∧ J3 = J2 ∧ L3 = L2) from ⟨rfl, rfl, rfl⟩)) (by omega) (by omega) (fun v M q => ?_) (fun _ _ h => h.elim)
    obtain ⟨r, J3, L3, rfl, rfl, rfl, rfl, rfl⟩ := q
    rw [hT]
    show xJ (xGm b dC dI cA ts) l mL_law 600128 7301098 Qv (fun _ _ => False) (c0 + 3 + 0 + 0) (s0 + 18 + 0 + 0) 914 [(0, .ref 1000090), (1, .ref 0), (2, .ref 491), (3, .ref 552), (4, .int (nI i)), (5, .int (nI 0)), (6, .int (oI b2))] [.int (nI 0)] false 553 R (zi J3) (li L3)
    refine xr_iload (xd dL_c_octet 39 rfl) 5 rfl ?_
    refine xr_icmp_eq 921 (xd dL_c_octet 40 rfl) (by decide) (fun _ => ?_) (fun c => absurd rfl c)
    refine xr_iload (xd dL_c_octet 43 rfl) 5 rfl ?_
    refine xr_if_ne 938 (xd dL_c_octet 44 rfl) (by decide) (fun c => absurd rfl c) (fun _ => ?_)
    refine xr_aload_n (xd dL_c_octet 45 rfl) 3 rfl ?_
    refine xr_iconst (v := nI 0) (xd dL_c_octet 46 rfl) (by decide) ?_
    refine xr_laload (x := (oI b2).toInt64) (xd dL_c_octet 47 rfl) (by decide) kd_552 (by rw [show xln (xGm b dC dI cA ts) 552 = 1 from ln_552]; exact nI_in (by decide) (by decide)) (by rw [hy]; refine out_eq (L := L3) ?_; rw [hL]; exact hy0) ?_
    refine xr_iload (xd dL_c_octet 48 rfl) 6 rfl ?_
    refine xr_i2l (xd dL_c_octet 49 rfl) ?_
    refine xr_lcmp (xd dL_c_octet 50 rfl) ?_
    refine xr_if_eq 938 (xd dL_c_octet 51 rfl) (by decide) (fun _ => ?_) (fun c => absurd (cmp_self _) c)
    refine xr_goto 1689 (xd dL_c_octet 54 rfl) (by decide) ?_
    exact xJ.sub (lsL i) (fun q hq => lsL_2 hq) (xJ.wid (by omega) (by omega) (kk J3 L3 (hP.mono (by omega))))
  · skip
    refine xr_aload_n (xd dL_c_octet 19 rfl) 2 rfl ?_
    refine xr_aload_n (xd dL_c_octet 20 rfl) 0 rfl ?_
    refine xr_iload (xd dL_c_octet 21 rfl) 4 rfl ?_
    refine xr_iconst (v := nI 1) (xd dL_c_octet 22 rfl) (by decide) ?_
    refine xr_iadd (xd dL_c_octet 23 rfl) ?_
    refine xr_eqi (nI (i + 1)) (nI_add _ _) ?_
    refine xr_sld (xd dL_c_octet 24 rfl) (show i + 1 < ts 91 by omega) (show ts 91 < 2 ^ 31 by omega) ?_
    refine xr_aload_n (xd dL_c_octet 25 rfl) 0 rfl ?_
    refine xr_iload (xd dL_c_octet 26 rfl) 4 rfl ?_
    refine xr_iconst (v := nI 2) (xd dL_c_octet 27 rfl) (by decide) ?_
    refine xr_iadd (xd dL_c_octet 28 rfl) ?_
    refine xr_eqi (nI (i + 2)) (nI_add _ _) ?_
    refine xr_sld (xd dL_c_octet 29 rfl) (show i + 2 < ts 91 by omega) (show ts 91 < 2 ^ 31 by omega) ?_
    refine xr_aload_n (xd dL_c_octet 30 rfl) 0 rfl ?_
    refine xr_iload (xd dL_c_octet 31 rfl) 4 rfl ?_
    refine xr_iconst (v := nI 3) (xd dL_c_octet 32 rfl) (by decide) ?_
    refine xr_iadd (xd dL_c_octet 33 rfl) ?_
    refine xr_eqi (nI (i + 3)) (nI_add _ _) ?_
    refine xr_sld (xd dL_c_octet 34 rfl) (show i + 3 < ts 91 by omega) (show ts 91 < 2 ^ 31 by omega) ?_
    have c2 := v_X12_octet (b := b) (dC := dC) (dI := dI) (cA := cA) (ts := ts) (l := l) (n := 553) (al := false) (by decide) hR hw
    simp only [oI_of] at c2
    refine xr_callV (st := []) mX12_octet 3 [.int (xsc (xGm b dC dI cA ts) (i + 1)), .int (xsc (xGm b dC dI cA ts) (i + 2)), .int (xsc (xGm b dC dI cA ts) (i + 3))] (b := 491) (cl := 12) (xd dL_c_octet 35 rfl) (xt_9 (j := 157) (by decide +kernel) (by decide +kernel)) kX12_octet rfl (by decide) kd_491' (by decide) rfl ⟨by decide, by decide⟩ (Nat.le_of_ble_eq_true rfl) c2 (by omega) (by omega) (fun v M q => ?_) (fun _ _ h => h.elim)
    obtain ⟨b2, J2, L2, rfl, rfl, hT, -, hP⟩ := q
    show xJ (xGm b dC dI cA ts) l mL_law 600128 7301098 Qv (fun _ _ => False) (c0 + 3 + 0) (s0 + 18 + 0) 908 [(0, .ref 1000090), (1, .ref 0), (2, .ref 491), (3, .ref 552), (4, .int (nI i)), (5, .int (nI k))] [.int (oI b2)] false 553 R (zi J2) (li L2)
    refine xr_istore (i := 6) [(0, .ref 1000090), (1, .ref 0), (2, .ref 491), (3, .ref 552), (4, .int (nI i)), (5, .int (nI k)), (6, .int (oI b2))] (xd dL_c_octet 36 rfl) (by decide) rfl ?_
    refine xr_aload_n (xd dL_c_octet 37 rfl) 2 rfl ?_
    refine xr_callV (st := []) mX12_thrown 0 [] (b := 491) (cl := 12) (xd dL_c_octet 38 rfl) (xt_7 (j := 228) (by decide +kernel) (by decide +kernel)) kX12_thrown rfl (by decide) kd_491' (by decide) rfl ⟨by decide, by decide⟩ (Nat.le_of_ble_eq_true rfl) (v_X12_thrown (al := false) (by decide) hR (show w_X12_thrown J2 L2 (fun r J3 L3 => r = J2 491 0 ∧ J3 = J2 ∧ L3 = L2) from ⟨rfl, rfl, rfl⟩)) (by omega) (by omega) (fun v M q => ?_) (fun _ _ h => h.elim)
    obtain ⟨r, J3, L3, rfl, rfl, rfl, rfl, rfl⟩ := q
    rw [hT]
    show xJ (xGm b dC dI cA ts) l mL_law 600128 7301098 Qv (fun _ _ => False) (c0 + 3 + 0 + 0) (s0 + 18 + 0 + 0) 914 [(0, .ref 1000090), (1, .ref 0), (2, .ref 491), (3, .ref 552), (4, .int (nI i)), (5, .int (nI k)), (6, .int (oI b2))] [.int (nI k)] false 553 R (zi J3) (li L3)
    refine xr_iload (xd dL_c_octet 39 rfl) 5 rfl ?_
    refine xr_icmp_eq 921 (xd dL_c_octet 40 rfl) (by decide) (fun _ => ?_) (fun c => absurd rfl c)
    refine xr_iload (xd dL_c_octet 43 rfl) 5 rfl ?_
    refine xr_if_ne 938 (xd dL_c_octet 44 rfl) (by decide) (fun _ => ?_) (fun c => absurd c (nI_ne0 (by omega) (by omega)))
    refine xr_goto 1689 (xd dL_c_octet 54 rfl) (by decide) ?_
    exact xJ.sub (lsL i) (fun q hq => lsL_2 hq) (xJ.wid (by omega) (by omega) (kk J3 L3 (hP.mono (by omega))))
set_option maxHeartbeats 4000000 in
set_option maxRecDepth 100000 in
theorem lc_deliver {b : Nat} {dC : Nat → ClassId} {dI : Nat → Nat → Nat} {cA : Nat → ClassId} {ts : Nat → Nat} {l : Launch} {R : Nat → Nat → Option Nat} (hst : l.stackTraces = false) (hR : xRk R) {Qv : Option Value → xM → Prop} {i N c0 s0 : Nat} (hN : ts 91 = N) (hN4 : N ≤ 384) (hi : i + 6 ≤ N) (hc : c0 + 3 ≤ 600128) (hs : s0 + 18 ≤ 7301098) {bd : Int} (hb : 0 ≤ bd ∧ bd + 1300000 ≤ 2000000000) {J : zM} {L : yM} (h : PB bd J L) (kk : ∀ (J' : zM) (L' : yM), PB (bd + 1300000) J' L' → xJ (xGm b dC dI cA ts) l mL_law 600128 7301098 Qv (fun _ _ => False) (c0 + 3) (s0 + 18) 1689 (lsL i) [] false 553 R (zi J') (li L')) : xJ (xGm b dC dI cA ts) l mL_law 600128 7301098 Qv (fun _ _ => False) c0 s0 941 (lsL i) [] false 553 R (zi J) (li L) := by
  refine xr_aload_n (xd dL_c_deliver 0 rfl) 1 rfl ?_
  refine xr_aload_n (xd dL_c_deliver 1 rfl) 0 rfl ?_
  refine xr_iload (xd dL_c_deliver 2 rfl) 4 rfl ?_
  refine xr_iconst (v := nI 1) (xd dL_c_deliver 3 rfl) (by decide) ?_
  refine xr_iadd (xd dL_c_deliver 4 rfl) ?_
  refine xr_eqi (nI (i + 1)) (nI_add _ _) ?_
  refine xr_sld (xd dL_c_deliver 5 rfl) (show i + 1 < ts 91 by omega) (show ts 91 < 2 ^ 31 by omega) ?_
  refine xr_aload_n (xd dL_c_deliver 6 rfl) 0 rfl ?_
  refine xr_iload (xd dL_c_deliver 7 rfl) 4 rfl ?_
  refine xr_iconst (v := nI 2) (xd dL_c_deliver 8 rfl) (by decide) ?_
  refine xr_iadd (xd dL_c_deliver 9 rfl) ?_
  refine xr_eqi (nI (i + 2)) (nI_add _ _) ?_
  refine xr_sld (xd dL_c_deliver 10 rfl) (show i + 2 < ts 91 by omega) (show ts 91 < 2 ^ 31 by omega) ?_
  refine xr_aload_n (xd dL_c_deliver 11 rfl) 3 rfl ?_
  refine xr_callH (st := []) mL_deliver hL_deliver 4 [.ref 0, .int (xsc (xGm b dC dI cA ts) (i + 1)), .int (xsc (xGm b dC dI cA ts) (i + 2)), .ref 552] (xd dL_c_deliver 12 rfl) (xt_5 (j := 131) (by decide +kernel) (by decide +kernel)) kL_deliver rfl ⟨by decide, by decide⟩ (Nat.le_of_ble_eq_true rfl) (wr_deliver hst hR hb h) (by omega) (by omega) (fun v M q => ?_)
  obtain ⟨k, J1, L1, hk, rfl, rfl, hq⟩ := q
  show xJ (xGm b dC dI cA ts) l mL_law 600128 7301098 Qv (fun _ _ => False) (c0 + 2) (s0 + 12) 958 (lsL i) [.int (nI k)] false 553 R (zi J1) (li L1)
  refine xr_istore (i := 5) [(0, .ref 1000090), (1, .ref 0), (2, .ref 491), (3, .ref 552), (4, .int (nI i)), (5, .int (nI k))] (xd dL_c_deliver 13 rfl) (by decide) rfl ?_
  rcases hq with ⟨rfl, y0, hy0, hw⟩ | ⟨hk0, hw⟩
  · skip
    refine xr_aload_n (xd dL_c_deliver 14 rfl) 2 rfl ?_
    refine xr_aload_n (xd dL_c_deliver 15 rfl) 0 rfl ?_
    refine xr_iload (xd dL_c_deliver 16 rfl) 4 rfl ?_
    refine xr_iconst (v := nI 1) (xd dL_c_deliver 17 rfl) (by decide) ?_
    refine xr_iadd (xd dL_c_deliver 18 rfl) ?_
    refine xr_eqi (nI (i + 1)) (nI_add _ _) ?_
    refine xr_sld (xd dL_c_deliver 19 rfl) (show i + 1 < ts 91 by omega) (show ts 91 < 2 ^ 31 by omega) ?_
    refine xr_aload_n (xd dL_c_deliver 20 rfl) 0 rfl ?_
    refine xr_iload (xd dL_c_deliver 21 rfl) 4 rfl ?_
    refine xr_iconst (v := nI 2) (xd dL_c_deliver 22 rfl) (by decide) ?_
    refine xr_iadd (xd dL_c_deliver 23 rfl) ?_
    refine xr_eqi (nI (i + 2)) (nI_add _ _) ?_
    refine xr_sld (xd dL_c_deliver 24 rfl) (show i + 2 < ts 91 by omega) (show ts 91 < 2 ^ 31 by omega) ?_
    have c2 := v_X12_deliver (b := b) (dC := dC) (dI := dI) (cA := cA) (ts := ts) (l := l) (n := 553) (al := false) (by decide) hR hw
    simp only [oI_of] at c2
    refine xr_callV (st := []) mX12_deliver 2 [.int (xsc (xGm b dC dI cA ts) (i + 1)), .int (xsc (xGm b dC dI cA ts) (i + 2))] (b := 491) (cl := 12) (xd dL_c_deliver 25 rfl) (xt_9 (j := 165) (by decide +kernel) (by decide +kernel)) kX12_deliver rfl (by decide) kd_491' (by decide) rfl ⟨by decide, by decide⟩ (Nat.le_of_ble_eq_true rfl) c2 (by omega) (by omega) (fun v M q => ?_) (fun _ _ h => h.elim)
    obtain ⟨b2, J2, L2, rfl, rfl, hT, ⟨hy, hL⟩, hP⟩ := q
    show xJ (xGm b dC dI cA ts) l mL_law 600128 7301098 Qv (fun _ _ => False) (c0 + 2 + 0) (s0 + 12 + 0) 976 [(0, .ref 1000090), (1, .ref 0), (2, .ref 491), (3, .ref 552), (4, .int (nI i)), (5, .int (nI 0))] [.int (oI b2)] false 553 R (zi J2) (li L2)
    refine xr_istore (i := 6) [(0, .ref 1000090), (1, .ref 0), (2, .ref 491), (3, .ref 552), (4, .int (nI i)), (5, .int (nI 0)), (6, .int (oI b2))] (xd dL_c_deliver 26 rfl) (by decide) rfl ?_
    refine xr_aload_n (xd dL_c_deliver 27 rfl) 2 rfl ?_
    refine xr_callV (st := []) mX12_thrown 0 [] (b := 491) (cl := 12) (xd dL_c_deliver 28 rfl) (xt_7 (j := 228) (by decide +kernel) (by decide +kernel)) kX12_thrown rfl (by decide) kd_491' (by decide) rfl ⟨by decide, by decide⟩ (Nat.le_of_ble_eq_true rfl) (v_X12_thrown (al := false) (by decide) hR (show w_X12_thrown J2 L2 (fun r J3 L3 => r = J2 491 0 ∧ J3 = J2 ∧ L3 = L2) from ⟨rfl, rfl, rfl⟩)) (by omega) (by omega) (fun v M q => ?_) (fun _ _ h => h.elim)
    obtain ⟨r, J3, L3, rfl, rfl, rfl, rfl, rfl⟩ := q
    rw [hT]
    show xJ (xGm b dC dI cA ts) l mL_law 600128 7301098 Qv (fun _ _ => False) (c0 + 2 + 0 + 0) (s0 + 12 + 0 + 0) 982 [(0, .ref 1000090), (1, .ref 0), (2, .ref 491), (3, .ref 552), (4, .int (nI i)), (5, .int (nI 0)), (6, .int (oI b2))] [.int (nI 0)] false 553 R (zi J3) (li L3)
    refine xr_iload (xd dL_c_deliver 29 rfl) 5 rfl ?_
    refine xr_icmp_eq 989 (xd dL_c_deliver 30 rfl) (by decide) (fun _ => ?_) (fun c => absurd rfl c)
    refine xr_iload (xd dL_c_deliver 33 rfl) 5 rfl ?_
    refine xr_if_ne 1006 (xd dL_c_deliver 34 rfl) (by decide) (fun c => absurd rfl c) (fun _ => ?_)
    refine xr_aload_n (xd dL_c_deliver 35 rfl) 3 rfl ?_
    refine xr_iconst (v := nI 0) (xd dL_c_deliver 36 rfl) (by decide) ?_
    refine xr_laload (x := (oI b2).toInt64) (xd dL_c_deliver 37 rfl) (by decide) kd_552 (by rw [show xln (xGm b dC dI cA ts) 552 = 1 from ln_552]; exact nI_in (by decide) (by decide)) (by rw [hy]; refine out_eq (L := L3) ?_; rw [hL]; exact hy0) ?_
    refine xr_iload (xd dL_c_deliver 38 rfl) 6 rfl ?_
    refine xr_i2l (xd dL_c_deliver 39 rfl) ?_
    refine xr_lcmp (xd dL_c_deliver 40 rfl) ?_
    refine xr_if_eq 1006 (xd dL_c_deliver 41 rfl) (by decide) (fun _ => ?_) (fun c => absurd (cmp_self _) c)
    refine xr_goto 1689 (xd dL_c_deliver 44 rfl) (by decide) ?_
    exact xJ.sub (lsL i) (fun q hq => lsL_2 hq) (xJ.wid (by omega) (by omega) (kk J3 L3 (hP.mono (by omega))))
  · skip
    refine xr_aload_n (xd dL_c_deliver 14 rfl) 2 rfl ?_
    refine xr_aload_n (xd dL_c_deliver 15 rfl) 0 rfl ?_
    refine xr_iload (xd dL_c_deliver 16 rfl) 4 rfl ?_
    refine xr_iconst (v := nI 1) (xd dL_c_deliver 17 rfl) (by decide) ?_
    refine xr_iadd (xd dL_c_deliver 18 rfl) ?_
    refine xr_eqi (nI (i + 1)) (nI_add _ _) ?_
    refine xr_sld (xd dL_c_deliver 19 rfl) (show i + 1 < ts 91 by omega) (show ts 91 < 2 ^ 31 by omega) ?_
    refine xr_aload_n (xd dL_c_deliver 20 rfl) 0 rfl ?_
    refine xr_iload (xd dL_c_deliver 21 rfl) 4 rfl ?_
    refine xr_iconst (v := nI 2) (xd dL_c_deliver 22 rfl) (by decide) ?_
    refine xr_iadd (xd dL_c_deliver 23 rfl) ?_
    refine xr_eqi (nI (i + 2)) (nI_add _ _) ?_
    refine xr_sld (xd dL_c_deliver 24 rfl) (show i + 2 < ts 91 by omega) (show ts 91 < 2 ^ 31 by omega) ?_
    have c2 := v_X12_deliver (b := b) (dC := dC) (dI := dI) (cA := cA) (ts := ts) (l := l) (n := 553) (al := false) (by decide) hR hw
    simp only [oI_of] at c2
    refine xr_callV (st := []) mX12_deliver 2 [.int (xsc (xGm b dC dI cA ts) (i + 1)), .int (xsc (xGm b dC dI cA ts) (i + 2))] (b := 491) (cl := 12) (xd dL_c_deliver 25 rfl) (xt_9 (j := 165) (by decide +kernel) (by decide +kernel)) kX12_deliver rfl (by decide) kd_491' (by decide) rfl ⟨by decide, by decide⟩ (Nat.le_of_ble_eq_true rfl) c2 (by omega) (by omega) (fun v M q => ?_) (fun _ _ h => h.elim)
    obtain ⟨b2, J2, L2, rfl, rfl, hT, -, hP⟩ := q
    show xJ (xGm b dC dI cA ts) l mL_law 600128 7301098 Qv (fun _ _ => False) (c0 + 2 + 0) (s0 + 12 + 0) 976 [(0, .ref 1000090), (1, .ref 0), (2, .ref 491), (3, .ref 552), (4, .int (nI i)), (5, .int (nI k))] [.int (oI b2)] false 553 R (zi J2) (li L2)
    refine xr_istore (i := 6) [(0, .ref 1000090), (1, .ref 0), (2, .ref 491), (3, .ref 552), (4, .int (nI i)), (5, .int (nI k)), (6, .int (oI b2))] (xd dL_c_deliver 26 rfl) (by decide) rfl ?_
    refine xr_aload_n (xd dL_c_deliver 27 rfl) 2 rfl ?_
    refine xr_callV (st := []) mX12_thrown 0 [] (b := 491) (cl := 12) (xd dL_c_deliver 28 rfl) (xt_7 (j := 228) (by decide +kernel) (by decide +kernel)) kX12_thrown rfl (by decide) kd_491' (by decide) rfl ⟨by decide, by decide⟩ (Nat.le_of_ble_eq_true rfl) (v_X12_thrown (al := false) (by decide) hR (show w_X12_thrown J2 L2 (fun r J3 L3 => r = J2 491 0 ∧ J3 = J2 ∧ L3 = L2) from ⟨rfl, rfl, rfl⟩)) (by omega) (by omega) (fun v M q => ?_) (fun _ _ h => h.elim)
    obtain ⟨r, J3, L3, rfl, rfl, rfl, rfl, rfl⟩ := q
    rw [hT]
    show xJ (xGm b dC dI cA ts) l mL_law 600128 7301098 Qv (fun _ _ => False) (c0 + 2 + 0 + 0) (s0 + 12 + 0 + 0) 982 [(0, .ref 1000090), (1, .ref 0), (2, .ref 491), (3, .ref 552), (4, .int (nI i)), (5, .int (nI k)), (6, .int (oI b2))] [.int (nI k)] false 553 R (zi J3) (li L3)
    refine xr_iload (xd dL_c_deliver 29 rfl) 5 rfl ?_
    refine xr_icmp_eq 989 (xd dL_c_deliver 30 rfl) (by decide) (fun _ => ?_) (fun c => absurd rfl c)
    refine xr_iload (xd dL_c_deliver 33 rfl) 5 rfl ?_
    refine xr_if_ne 1006 (xd dL_c_deliver 34 rfl) (by decide) (fun _ => ?_) (fun c => absurd c (nI_ne0 (by omega) (by omega)))
    refine xr_goto 1689 (xd dL_c_deliver 44 rfl) (by decide) ?_
    exact xJ.sub (lsL i) (fun q hq => lsL_2 hq) (xJ.wid (by omega) (by omega) (kk J3 L3 (hP.mono (by omega))))
set_option maxHeartbeats 4000000 in
set_option maxRecDepth 100000 in
theorem lc_lose {b : Nat} {dC : Nat → ClassId} {dI : Nat → Nat → Nat} {cA : Nat → ClassId} {ts : Nat → Nat} {l : Launch} {R : Nat → Nat → Option Nat} (hst : l.stackTraces = false) (hR : xRk R) {Qv : Option Value → xM → Prop} {i N c0 s0 : Nat} (hN : ts 91 = N) (hN4 : N ≤ 384) (hi : i + 6 ≤ N) (hc : c0 + 3 ≤ 600128) (hs : s0 + 18 ≤ 7301098) {bd : Int} (hb : 0 ≤ bd ∧ bd + 1300000 ≤ 2000000000) {J : zM} {L : yM} (h : PB bd J L) (kk : ∀ (J' : zM) (L' : yM), PB (bd + 1300000) J' L' → xJ (xGm b dC dI cA ts) l mL_law 600128 7301098 Qv (fun _ _ => False) (c0 + 3) (s0 + 18) 1689 (lsL i) [] false 553 R (zi J') (li L')) : xJ (xGm b dC dI cA ts) l mL_law 600128 7301098 Qv (fun _ _ => False) c0 s0 1009 (lsL i) [] false 553 R (zi J) (li L) := by
  refine xr_aload_n (xd dL_c_lose 0 rfl) 1 rfl ?_
  refine xr_aload_n (xd dL_c_lose 1 rfl) 0 rfl ?_
  refine xr_iload (xd dL_c_lose 2 rfl) 4 rfl ?_
  refine xr_iconst (v := nI 1) (xd dL_c_lose 3 rfl) (by decide) ?_
  refine xr_iadd (xd dL_c_lose 4 rfl) ?_
  refine xr_eqi (nI (i + 1)) (nI_add _ _) ?_
  refine xr_sld (xd dL_c_lose 5 rfl) (show i + 1 < ts 91 by omega) (show ts 91 < 2 ^ 31 by omega) ?_
  refine xr_aload_n (xd dL_c_lose 6 rfl) 0 rfl ?_
  refine xr_iload (xd dL_c_lose 7 rfl) 4 rfl ?_
  refine xr_iconst (v := nI 2) (xd dL_c_lose 8 rfl) (by decide) ?_
  refine xr_iadd (xd dL_c_lose 9 rfl) ?_
  refine xr_eqi (nI (i + 2)) (nI_add _ _) ?_
  refine xr_sld (xd dL_c_lose 10 rfl) (show i + 2 < ts 91 by omega) (show ts 91 < 2 ^ 31 by omega) ?_
  refine xr_aload_n (xd dL_c_lose 11 rfl) 3 rfl ?_
  refine xr_callH (st := []) mL_lose hL_lose 4 [.ref 0, .int (xsc (xGm b dC dI cA ts) (i + 1)), .int (xsc (xGm b dC dI cA ts) (i + 2)), .ref 552] (xd dL_c_lose 12 rfl) (xt_6 (j := 124) (by decide +kernel) (by decide +kernel)) kL_lose rfl ⟨by decide, by decide⟩ (Nat.le_of_ble_eq_true rfl) (wr_lose hst hR hb h) (by omega) (by omega) (fun v M q => ?_)
  obtain ⟨k, J1, L1, hk, rfl, rfl, hq⟩ := q
  show xJ (xGm b dC dI cA ts) l mL_law 600128 7301098 Qv (fun _ _ => False) (c0 + 2) (s0 + 12) 1026 (lsL i) [.int (nI k)] false 553 R (zi J1) (li L1)
  refine xr_istore (i := 5) [(0, .ref 1000090), (1, .ref 0), (2, .ref 491), (3, .ref 552), (4, .int (nI i)), (5, .int (nI k))] (xd dL_c_lose 13 rfl) (by decide) rfl ?_
  rcases hq with ⟨rfl, y0, hy0, hw⟩ | ⟨hk0, hw⟩
  · skip
    refine xr_aload_n (xd dL_c_lose 14 rfl) 2 rfl ?_
    refine xr_aload_n (xd dL_c_lose 15 rfl) 0 rfl ?_
    refine xr_iload (xd dL_c_lose 16 rfl) 4 rfl ?_
    refine xr_iconst (v := nI 1) (xd dL_c_lose 17 rfl) (by decide) ?_
    refine xr_iadd (xd dL_c_lose 18 rfl) ?_
    refine xr_eqi (nI (i + 1)) (nI_add _ _) ?_
    refine xr_sld (xd dL_c_lose 19 rfl) (show i + 1 < ts 91 by omega) (show ts 91 < 2 ^ 31 by omega) ?_
    refine xr_aload_n (xd dL_c_lose 20 rfl) 0 rfl ?_
    refine xr_iload (xd dL_c_lose 21 rfl) 4 rfl ?_
    refine xr_iconst (v := nI 2) (xd dL_c_lose 22 rfl) (by decide) ?_
    refine xr_iadd (xd dL_c_lose 23 rfl) ?_
    refine xr_eqi (nI (i + 2)) (nI_add _ _) ?_
    refine xr_sld (xd dL_c_lose 24 rfl) (show i + 2 < ts 91 by omega) (show ts 91 < 2 ^ 31 by omega) ?_
    have c2 := v_X12_lose (b := b) (dC := dC) (dI := dI) (cA := cA) (ts := ts) (l := l) (n := 553) (al := false) (by decide) hR hw
    simp only [oI_of] at c2
    refine xr_callV (st := []) mX12_lose 2 [.int (xsc (xGm b dC dI cA ts) (i + 1)), .int (xsc (xGm b dC dI cA ts) (i + 2))] (b := 491) (cl := 12) (xd dL_c_lose 25 rfl) (xt_9 (j := 169) (by decide +kernel) (by decide +kernel)) kX12_lose rfl (by decide) kd_491' (by decide) rfl ⟨by decide, by decide⟩ (Nat.le_of_ble_eq_true rfl) c2 (by omega) (by omega) (fun v M q => ?_) (fun _ _ h => h.elim)
    obtain ⟨b2, J2, L2, rfl, rfl, hT, ⟨hy, hL⟩, hP⟩ := q
    show xJ (xGm b dC dI cA ts) l mL_law 600128 7301098 Qv (fun _ _ => False) (c0 + 2 + 0) (s0 + 12 + 0) 1044 [(0, .ref 1000090), (1, .ref 0), (2, .ref 491), (3, .ref 552), (4, .int (nI i)), (5, .int (nI 0))] [.int (oI b2)] false 553 R (zi J2) (li L2)
    refine xr_istore (i := 6) [(0, .ref 1000090), (1, .ref 0), (2, .ref 491), (3, .ref 552), (4, .int (nI i)), (5, .int (nI 0)), (6, .int (oI b2))] (xd dL_c_lose 26 rfl) (by decide) rfl ?_
    refine xr_aload_n (xd dL_c_lose 27 rfl) 2 rfl ?_
    refine xr_callV (st := []) mX12_thrown 0 [] (b := 491) (cl := 12) (xd dL_c_lose 28 rfl) (xt_7 (j := 228) (by decide +kernel) (by decide +kernel)) kX12_thrown rfl (by decide) kd_491' (by decide) rfl ⟨by decide, by decide⟩ (Nat.le_of_ble_eq_true rfl) (v_X12_thrown (al := false) (by decide) hR (show w_X12_thrown J2 L2 (fun r J3 L3 => r = J2 491 0 ∧ J3 = J2 ∧ L3 = L2) from ⟨rfl, rfl, rfl⟩)) (by omega) (by omega) (fun v M q => ?_) (fun _ _ h => h.elim)
    obtain ⟨r, J3, L3, rfl, rfl, rfl, rfl, rfl⟩ := q
    rw [hT]
    show xJ (xGm b dC dI cA ts) l mL_law 600128 7301098 Qv (fun _ _ => False) (c0 + 2 + 0 + 0) (s0 + 12 + 0 + 0) 1050 [(0, .ref 1000090), (1, .ref 0), (2, .ref 491), (3, .ref 552), (4, .int (nI i)), (5, .int (nI 0)), (6, .int (oI b2))] [.int (nI 0)] false 553 R (zi J3) (li L3)
    refine xr_iload (xd dL_c_lose 29 rfl) 5 rfl ?_
    refine xr_icmp_eq 1057 (xd dL_c_lose 30 rfl) (by decide) (fun _ => ?_) (fun c => absurd rfl c)
    refine xr_iload (xd dL_c_lose 33 rfl) 5 rfl ?_
    refine xr_if_ne 1074 (xd dL_c_lose 34 rfl) (by decide) (fun c => absurd rfl c) (fun _ => ?_)
    refine xr_aload_n (xd dL_c_lose 35 rfl) 3 rfl ?_
    refine xr_iconst (v := nI 0) (xd dL_c_lose 36 rfl) (by decide) ?_
    refine xr_laload (x := (oI b2).toInt64) (xd dL_c_lose 37 rfl) (by decide) kd_552 (by rw [show xln (xGm b dC dI cA ts) 552 = 1 from ln_552]; exact nI_in (by decide) (by decide)) (by rw [hy]; refine out_eq (L := L3) ?_; rw [hL]; exact hy0) ?_
    refine xr_iload (xd dL_c_lose 38 rfl) 6 rfl ?_
    refine xr_i2l (xd dL_c_lose 39 rfl) ?_
    refine xr_lcmp (xd dL_c_lose 40 rfl) ?_
    refine xr_if_eq 1074 (xd dL_c_lose 41 rfl) (by decide) (fun _ => ?_) (fun c => absurd (cmp_self _) c)
    refine xr_goto 1689 (xd dL_c_lose 44 rfl) (by decide) ?_
    exact xJ.sub (lsL i) (fun q hq => lsL_2 hq) (xJ.wid (by omega) (by omega) (kk J3 L3 (hP.mono (by omega))))
  · skip
    refine xr_aload_n (xd dL_c_lose 14 rfl) 2 rfl ?_
    refine xr_aload_n (xd dL_c_lose 15 rfl) 0 rfl ?_
    refine xr_iload (xd dL_c_lose 16 rfl) 4 rfl ?_
    refine xr_iconst (v := nI 1) (xd dL_c_lose 17 rfl) (by decide) ?_
    refine xr_iadd (xd dL_c_lose 18 rfl) ?_
    refine xr_eqi (nI (i + 1)) (nI_add _ _) ?_
    refine xr_sld (xd dL_c_lose 19 rfl) (show i + 1 < ts 91 by omega) (show ts 91 < 2 ^ 31 by omega) ?_
    refine xr_aload_n (xd dL_c_lose 20 rfl) 0 rfl ?_
    refine xr_iload (xd dL_c_lose 21 rfl) 4 rfl ?_
    refine xr_iconst (v := nI 2) (xd dL_c_lose 22 rfl) (by decide) ?_
    refine xr_iadd (xd dL_c_lose 23 rfl) ?_
    refine xr_eqi (nI (i + 2)) (nI_add _ _) ?_
    refine xr_sld (xd dL_c_lose 24 rfl) (show i + 2 < ts 91 by omega) (show ts 91 < 2 ^ 31 by omega) ?_
    have c2 := v_X12_lose (b := b) (dC := dC) (dI := dI) (cA := cA) (ts := ts) (l := l) (n := 553) (al := false) (by decide) hR hw
    simp only [oI_of] at c2
    refine xr_callV (st := []) mX12_lose 2 [.int (xsc (xGm b dC dI cA ts) (i + 1)), .int (xsc (xGm b dC dI cA ts) (i + 2))] (b := 491) (cl := 12) (xd dL_c_lose 25 rfl) (xt_9 (j := 169) (by decide +kernel) (by decide +kernel)) kX12_lose rfl (by decide) kd_491' (by decide) rfl ⟨by decide, by decide⟩ (Nat.le_of_ble_eq_true rfl) c2 (by omega) (by omega) (fun v M q => ?_) (fun _ _ h => h.elim)
    obtain ⟨b2, J2, L2, rfl, rfl, hT, -, hP⟩ := q
    show xJ (xGm b dC dI cA ts) l mL_law 600128 7301098 Qv (fun _ _ => False) (c0 + 2 + 0) (s0 + 12 + 0) 1044 [(0, .ref 1000090), (1, .ref 0), (2, .ref 491), (3, .ref 552), (4, .int (nI i)), (5, .int (nI k))] [.int (oI b2)] false 553 R (zi J2) (li L2)
    refine xr_istore (i := 6) [(0, .ref 1000090), (1, .ref 0), (2, .ref 491), (3, .ref 552), (4, .int (nI i)), (5, .int (nI k)), (6, .int (oI b2))] (xd dL_c_lose 26 rfl) (by decide) rfl ?_
    refine xr_aload_n (xd dL_c_lose 27 rfl) 2 rfl ?_
    refine xr_callV (st := []) mX12_thrown 0 [] (b := 491) (cl := 12) (xd dL_c_lose 28 rfl) (xt_7 (j := 228) (by decide +kernel) (by decide +kernel)) kX12_thrown rfl (by decide) kd_491' (by decide) rfl ⟨by decide, by decide⟩ (Nat.le_of_ble_eq_true rfl) (v_X12_thrown (al := false) (by decide) hR (show w_X12_thrown J2 L2 (fun r J3 L3 => r = J2 491 0 ∧ J3 = J2 ∧ L3 = L2) from ⟨rfl, rfl, rfl⟩)) (by omega) (by omega) (fun v M q => ?_) (fun _ _ h => h.elim)
    obtain ⟨r, J3, L3, rfl, rfl, rfl, rfl, rfl⟩ := q
    rw [hT]
    show xJ (xGm b dC dI cA ts) l mL_law 600128 7301098 Qv (fun _ _ => False) (c0 + 2 + 0 + 0) (s0 + 12 + 0 + 0) 1050 [(0, .ref 1000090), (1, .ref 0), (2, .ref 491), (3, .ref 552), (4, .int (nI i)), (5, .int (nI k)), (6, .int (oI b2))] [.int (nI k)] false 553 R (zi J3) (li L3)
    refine xr_iload (xd dL_c_lose 29 rfl) 5 rfl ?_
    refine xr_icmp_eq 1057 (xd dL_c_lose 30 rfl) (by decide) (fun _ => ?_) (fun c => absurd rfl c)
    refine xr_iload (xd dL_c_lose 33 rfl) 5 rfl ?_
    refine xr_if_ne 1074 (xd dL_c_lose 34 rfl) (by decide) (fun _ => ?_) (fun c => absurd c (nI_ne0 (by omega) (by omega)))
    refine xr_goto 1689 (xd dL_c_lose 44 rfl) (by decide) ?_
    exact xJ.sub (lsL i) (fun q hq => lsL_2 hq) (xJ.wid (by omega) (by omega) (kk J3 L3 (hP.mono (by omega))))
set_option maxHeartbeats 4000000 in
set_option maxRecDepth 100000 in
theorem lc_twice {b : Nat} {dC : Nat → ClassId} {dI : Nat → Nat → Nat} {cA : Nat → ClassId} {ts : Nat → Nat} {l : Launch} {R : Nat → Nat → Option Nat} (hst : l.stackTraces = false) (hR : xRk R) {Qv : Option Value → xM → Prop} {i N c0 s0 : Nat} (hN : ts 91 = N) (hN4 : N ≤ 384) (hi : i + 6 ≤ N) (hc : c0 + 3 ≤ 600128) (hs : s0 + 18 ≤ 7301098) {bd : Int} (hb : 0 ≤ bd ∧ bd + 1300000 ≤ 2000000000) {J : zM} {L : yM} (h : PB bd J L) (kk : ∀ (J' : zM) (L' : yM), PB (bd + 1300000) J' L' → xJ (xGm b dC dI cA ts) l mL_law 600128 7301098 Qv (fun _ _ => False) (c0 + 3) (s0 + 18) 1689 (lsL i) [] false 553 R (zi J') (li L')) : xJ (xGm b dC dI cA ts) l mL_law 600128 7301098 Qv (fun _ _ => False) c0 s0 1077 (lsL i) [] false 553 R (zi J) (li L) := by
  refine xr_aload_n (xd dL_c_twice 0 rfl) 1 rfl ?_
  refine xr_aload_n (xd dL_c_twice 1 rfl) 0 rfl ?_
  refine xr_iload (xd dL_c_twice 2 rfl) 4 rfl ?_
  refine xr_iconst (v := nI 1) (xd dL_c_twice 3 rfl) (by decide) ?_
  refine xr_iadd (xd dL_c_twice 4 rfl) ?_
  refine xr_eqi (nI (i + 1)) (nI_add _ _) ?_
  refine xr_sld (xd dL_c_twice 5 rfl) (show i + 1 < ts 91 by omega) (show ts 91 < 2 ^ 31 by omega) ?_
  refine xr_aload_n (xd dL_c_twice 6 rfl) 0 rfl ?_
  refine xr_iload (xd dL_c_twice 7 rfl) 4 rfl ?_
  refine xr_iconst (v := nI 2) (xd dL_c_twice 8 rfl) (by decide) ?_
  refine xr_iadd (xd dL_c_twice 9 rfl) ?_
  refine xr_eqi (nI (i + 2)) (nI_add _ _) ?_
  refine xr_sld (xd dL_c_twice 10 rfl) (show i + 2 < ts 91 by omega) (show ts 91 < 2 ^ 31 by omega) ?_
  refine xr_aload_n (xd dL_c_twice 11 rfl) 3 rfl ?_
  refine xr_callH (st := []) mL_twice hL_twice 4 [.ref 0, .int (xsc (xGm b dC dI cA ts) (i + 1)), .int (xsc (xGm b dC dI cA ts) (i + 2)), .ref 552] (xd dL_c_twice 12 rfl) (xt_6 (j := 131) (by decide +kernel) (by decide +kernel)) kL_twice rfl ⟨by decide, by decide⟩ (Nat.le_of_ble_eq_true rfl) (wr_twice hst hR hb h) (by omega) (by omega) (fun v M q => ?_)
  obtain ⟨k, J1, L1, hk, rfl, rfl, hq⟩ := q
  show xJ (xGm b dC dI cA ts) l mL_law 600128 7301098 Qv (fun _ _ => False) (c0 + 2) (s0 + 12) 1094 (lsL i) [.int (nI k)] false 553 R (zi J1) (li L1)
  refine xr_istore (i := 5) [(0, .ref 1000090), (1, .ref 0), (2, .ref 491), (3, .ref 552), (4, .int (nI i)), (5, .int (nI k))] (xd dL_c_twice 13 rfl) (by decide) rfl ?_
  rcases hq with ⟨rfl, y0, hy0, hw⟩ | ⟨hk0, hw⟩
  · skip
    refine xr_aload_n (xd dL_c_twice 14 rfl) 2 rfl ?_
    refine xr_aload_n (xd dL_c_twice 15 rfl) 0 rfl ?_
    refine xr_iload (xd dL_c_twice 16 rfl) 4 rfl ?_
    refine xr_iconst (v := nI 1) (xd dL_c_twice 17 rfl) (by decide) ?_
    refine xr_iadd (xd dL_c_twice 18 rfl) ?_
    refine xr_eqi (nI (i + 1)) (nI_add _ _) ?_
    refine xr_sld (xd dL_c_twice 19 rfl) (show i + 1 < ts 91 by omega) (show ts 91 < 2 ^ 31 by omega) ?_
    refine xr_aload_n (xd dL_c_twice 20 rfl) 0 rfl ?_
    refine xr_iload (xd dL_c_twice 21 rfl) 4 rfl ?_
    refine xr_iconst (v := nI 2) (xd dL_c_twice 22 rfl) (by decide) ?_
    refine xr_iadd (xd dL_c_twice 23 rfl) ?_
    refine xr_eqi (nI (i + 2)) (nI_add _ _) ?_
    refine xr_sld (xd dL_c_twice 24 rfl) (show i + 2 < ts 91 by omega) (show ts 91 < 2 ^ 31 by omega) ?_
    have c2 := v_X12_twice (b := b) (dC := dC) (dI := dI) (cA := cA) (ts := ts) (l := l) (n := 553) (al := false) (by decide) hR hw
    simp only [oI_of] at c2
    refine xr_callV (st := []) mX12_twice 2 [.int (xsc (xGm b dC dI cA ts) (i + 1)), .int (xsc (xGm b dC dI cA ts) (i + 2))] (b := 491) (cl := 12) (xd dL_c_twice 25 rfl) (xt_9 (j := 173) (by decide +kernel) (by decide +kernel)) kX12_twice rfl (by decide) kd_491' (by decide) rfl ⟨by decide, by decide⟩ (Nat.le_of_ble_eq_true rfl) c2 (by omega) (by omega) (fun v M q => ?_) (fun _ _ h => h.elim)
    obtain ⟨b2, J2, L2, rfl, rfl, hT, ⟨hy, hL⟩, hP⟩ := q
    show xJ (xGm b dC dI cA ts) l mL_law 600128 7301098 Qv (fun _ _ => False) (c0 + 2 + 0) (s0 + 12 + 0) 1112 [(0, .ref 1000090), (1, .ref 0), (2, .ref 491), (3, .ref 552), (4, .int (nI i)), (5, .int (nI 0))] [.int (oI b2)] false 553 R (zi J2) (li L2)
    refine xr_istore (i := 6) [(0, .ref 1000090), (1, .ref 0), (2, .ref 491), (3, .ref 552), (4, .int (nI i)), (5, .int (nI 0)), (6, .int (oI b2))] (xd dL_c_twice 26 rfl) (by decide) rfl ?_
    refine xr_aload_n (xd dL_c_twice 27 rfl) 2 rfl ?_
    refine xr_callV (st := []) mX12_thrown 0 [] (b := 491) (cl := 12) (xd dL_c_twice 28 rfl) (xt_7 (j := 228) (by decide +kernel) (by decide +kernel)) kX12_thrown rfl (by decide) kd_491' (by decide) rfl ⟨by decide, by decide⟩ (Nat.le_of_ble_eq_true rfl) (v_X12_thrown (al := false) (by decide) hR (show w_X12_thrown J2 L2 (fun r J3 L3 => r = J2 491 0 ∧ J3 = J2 ∧ L3 = L2) from ⟨rfl, rfl, rfl⟩)) (by omega) (by omega) (fun v M q => ?_) (fun _ _ h => h.elim)
    obtain ⟨r, J3, L3, rfl, rfl, rfl, rfl, rfl⟩ := q
    rw [hT]
    show xJ (xGm b dC dI cA ts) l mL_law 600128 7301098 Qv (fun _ _ => False) (c0 + 2 + 0 + 0) (s0 + 12 + 0 + 0) 1118 [(0, .ref 1000090), (1, .ref 0), (2, .ref 491), (3, .ref 552), (4, .int (nI i)), (5, .int (nI 0)), (6, .int (oI b2))] [.int (nI 0)] false 553 R (zi J3) (li L3)
    refine xr_iload (xd dL_c_twice 29 rfl) 5 rfl ?_
    refine xr_icmp_eq 1125 (xd dL_c_twice 30 rfl) (by decide) (fun _ => ?_) (fun c => absurd rfl c)
    refine xr_iload (xd dL_c_twice 33 rfl) 5 rfl ?_
    refine xr_if_ne 1142 (xd dL_c_twice 34 rfl) (by decide) (fun c => absurd rfl c) (fun _ => ?_)
    refine xr_aload_n (xd dL_c_twice 35 rfl) 3 rfl ?_
    refine xr_iconst (v := nI 0) (xd dL_c_twice 36 rfl) (by decide) ?_
    refine xr_laload (x := (oI b2).toInt64) (xd dL_c_twice 37 rfl) (by decide) kd_552 (by rw [show xln (xGm b dC dI cA ts) 552 = 1 from ln_552]; exact nI_in (by decide) (by decide)) (by rw [hy]; refine out_eq (L := L3) ?_; rw [hL]; exact hy0) ?_
    refine xr_iload (xd dL_c_twice 38 rfl) 6 rfl ?_
    refine xr_i2l (xd dL_c_twice 39 rfl) ?_
    refine xr_lcmp (xd dL_c_twice 40 rfl) ?_
    refine xr_if_eq 1142 (xd dL_c_twice 41 rfl) (by decide) (fun _ => ?_) (fun c => absurd (cmp_self _) c)
    refine xr_goto 1689 (xd dL_c_twice 44 rfl) (by decide) ?_
    exact xJ.sub (lsL i) (fun q hq => lsL_2 hq) (xJ.wid (by omega) (by omega) (kk J3 L3 (hP.mono (by omega))))
  · skip
    refine xr_aload_n (xd dL_c_twice 14 rfl) 2 rfl ?_
    refine xr_aload_n (xd dL_c_twice 15 rfl) 0 rfl ?_
    refine xr_iload (xd dL_c_twice 16 rfl) 4 rfl ?_
    refine xr_iconst (v := nI 1) (xd dL_c_twice 17 rfl) (by decide) ?_
    refine xr_iadd (xd dL_c_twice 18 rfl) ?_
    refine xr_eqi (nI (i + 1)) (nI_add _ _) ?_
    refine xr_sld (xd dL_c_twice 19 rfl) (show i + 1 < ts 91 by omega) (show ts 91 < 2 ^ 31 by omega) ?_
    refine xr_aload_n (xd dL_c_twice 20 rfl) 0 rfl ?_
    refine xr_iload (xd dL_c_twice 21 rfl) 4 rfl ?_
    refine xr_iconst (v := nI 2) (xd dL_c_twice 22 rfl) (by decide) ?_
    refine xr_iadd (xd dL_c_twice 23 rfl) ?_
    refine xr_eqi (nI (i + 2)) (nI_add _ _) ?_
    refine xr_sld (xd dL_c_twice 24 rfl) (show i + 2 < ts 91 by omega) (show ts 91 < 2 ^ 31 by omega) ?_
    have c2 := v_X12_twice (b := b) (dC := dC) (dI := dI) (cA := cA) (ts := ts) (l := l) (n := 553) (al := false) (by decide) hR hw
    simp only [oI_of] at c2
    refine xr_callV (st := []) mX12_twice 2 [.int (xsc (xGm b dC dI cA ts) (i + 1)), .int (xsc (xGm b dC dI cA ts) (i + 2))] (b := 491) (cl := 12) (xd dL_c_twice 25 rfl) (xt_9 (j := 173) (by decide +kernel) (by decide +kernel)) kX12_twice rfl (by decide) kd_491' (by decide) rfl ⟨by decide, by decide⟩ (Nat.le_of_ble_eq_true rfl) c2 (by omega) (by omega) (fun v M q => ?_) (fun _ _ h => h.elim)
    obtain ⟨b2, J2, L2, rfl, rfl, hT, -, hP⟩ := q
    show xJ (xGm b dC dI cA ts) l mL_law 600128 7301098 Qv (fun _ _ => False) (c0 + 2 + 0) (s0 + 12 + 0) 1112 [(0, .ref 1000090), (1, .ref 0), (2, .ref 491), (3, .ref 552), (4, .int (nI i)), (5, .int (nI k))] [.int (oI b2)] false 553 R (zi J2) (li L2)
    refine xr_istore (i := 6) [(0, .ref 1000090), (1, .ref 0), (2, .ref 491), (3, .ref 552), (4, .int (nI i)), (5, .int (nI k)), (6, .int (oI b2))] (xd dL_c_twice 26 rfl) (by decide) rfl ?_
    refine xr_aload_n (xd dL_c_twice 27 rfl) 2 rfl ?_
    refine xr_callV (st := []) mX12_thrown 0 [] (b := 491) (cl := 12) (xd dL_c_twice 28 rfl) (xt_7 (j := 228) (by decide +kernel) (by decide +kernel)) kX12_thrown rfl (by decide) kd_491' (by decide) rfl ⟨by decide, by decide⟩ (Nat.le_of_ble_eq_true rfl) (v_X12_thrown (al := false) (by decide) hR (show w_X12_thrown J2 L2 (fun r J3 L3 => r = J2 491 0 ∧ J3 = J2 ∧ L3 = L2) from ⟨rfl, rfl, rfl⟩)) (by omega) (by omega) (fun v M q => ?_) (fun _ _ h => h.elim)
    obtain ⟨r, J3, L3, rfl, rfl, rfl, rfl, rfl⟩ := q
    rw [hT]
    show xJ (xGm b dC dI cA ts) l mL_law 600128 7301098 Qv (fun _ _ => False) (c0 + 2 + 0 + 0) (s0 + 12 + 0 + 0) 1118 [(0, .ref 1000090), (1, .ref 0), (2, .ref 491), (3, .ref 552), (4, .int (nI i)), (5, .int (nI k)), (6, .int (oI b2))] [.int (nI k)] false 553 R (zi J3) (li L3)
    refine xr_iload (xd dL_c_twice 29 rfl) 5 rfl ?_
    refine xr_icmp_eq 1125 (xd dL_c_twice 30 rfl) (by decide) (fun _ => ?_) (fun c => absurd rfl c)
    refine xr_iload (xd dL_c_twice 33 rfl) 5 rfl ?_
    refine xr_if_ne 1142 (xd dL_c_twice 34 rfl) (by decide) (fun _ => ?_) (fun c => absurd c (nI_ne0 (by omega) (by omega)))
    refine xr_goto 1689 (xd dL_c_twice 44 rfl) (by decide) ?_
    exact xJ.sub (lsL i) (fun q hq => lsL_2 hq) (xJ.wid (by omega) (by omega) (kk J3 L3 (hP.mono (by omega))))
