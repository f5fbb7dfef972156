set_option maxHeartbeats 4000000 in
set_option maxRecDepth 100000 in
theorem lc_forge {b : Nat} {dC : Nat → ClassId} {dI : Nat → Nat → Nat} {cA : Nat → ClassId} {ts : Nat → Nat} {l : Launch} {R : Nat → Nat → Option Nat} (hst : l.stackTraces = false) (hR : xRk R) {Qv : Option Value → xM → Prop} {i N c0 s0 : Nat} (hN : ts 91 = N) (hN4 : N ≤ 384) (hi : i + 6 ≤ N) (hc : c0 + 3 ≤ 600128) (hs : s0 + 18 ≤ 7301098) {bd : Int} (hb : 0 ≤ bd ∧ bd + 1300000 ≤ 2000000000) {J : zM} {L : yM} (h : PB bd J L) (kk : ∀ (J' : zM) (L' : yM), PB (bd + 1300000) J' L' → xJ (xGm b dC dI cA ts) l mL_law 600128 7301098 Qv (fun _ _ => False) (c0 + 3) (s0 + 18) 1689 (lsL i) [] false 553 R (zi J') (li L')) : xJ (xGm b dC dI cA ts) l mL_law 600128 7301098 Qv (fun _ _ => False) c0 s0 1145 (lsL i) [] false 553 R (zi J) (li L) := by
  refine xr_aload_n (xd dL_c_forge 0 rfl) 1 rfl ?_
  refine xr_aload_n (xd dL_c_forge 1 rfl) 0 rfl ?_
  refine xr_iload (xd dL_c_forge 2 rfl) 4 rfl ?_
  refine xr_iconst (v := nI 1) (xd dL_c_forge 3 rfl) (by decide) ?_
  refine xr_iadd (xd dL_c_forge 4 rfl) ?_
  refine xr_eqi (nI (i + 1)) (nI_add _ _) ?_
  refine xr_sld (xd dL_c_forge 5 rfl) (show i + 1 < ts 91 by omega) (show ts 91 < 2 ^ 31 by omega) ?_
  refine xr_aload_n (xd dL_c_forge 6 rfl) 0 rfl ?_
  refine xr_iload (xd dL_c_forge 7 rfl) 4 rfl ?_
  refine xr_iconst (v := nI 2) (xd dL_c_forge 8 rfl) (by decide) ?_
  refine xr_iadd (xd dL_c_forge 9 rfl) ?_
  refine xr_eqi (nI (i + 2)) (nI_add _ _) ?_
  refine xr_sld (xd dL_c_forge 10 rfl) (show i + 2 < ts 91 by omega) (show ts 91 < 2 ^ 31 by omega) ?_
  refine xr_aload_n (xd dL_c_forge 11 rfl) 0 rfl ?_
  refine xr_iload (xd dL_c_forge 12 rfl) 4 rfl ?_
  refine xr_iconst (v := nI 3) (xd dL_c_forge 13 rfl) (by decide) ?_
  refine xr_iadd (xd dL_c_forge 14 rfl) ?_
  refine xr_eqi (nI (i + 3)) (nI_add _ _) ?_
  refine xr_sld (xd dL_c_forge 15 rfl) (show i + 3 < ts 91 by omega) (show ts 91 < 2 ^ 31 by omega) ?_
  refine xr_aload_n (xd dL_c_forge 16 rfl) 0 rfl ?_
  refine xr_iload (xd dL_c_forge 17 rfl) 4 rfl ?_
  refine xr_iconst (v := nI 4) (xd dL_c_forge 18 rfl) (by decide) ?_
  refine xr_iadd (xd dL_c_forge 19 rfl) ?_
  refine xr_eqi (nI (i + 4)) (nI_add _ _) ?_
  refine xr_sld (xd dL_c_forge 20 rfl) (show i + 4 < ts 91 by omega) (show ts 91 < 2 ^ 31 by omega) ?_
  refine xr_aload_n (xd dL_c_forge 21 rfl) 3 rfl ?_
  refine xr_callH (st := []) mL_forge hL_forge 6 [.ref 0, .int (xsc (xGm b dC dI cA ts) (i + 1)), .int (xsc (xGm b dC dI cA ts) (i + 2)), .int (xsc (xGm b dC dI cA ts) (i + 3)), .int (xsc (xGm b dC dI cA ts) (i + 4)), .ref 552] (xd dL_c_forge 22 rfl) (xt_6 (j := 143) (by decide +kernel) (by decide +kernel)) kL_forge rfl ⟨by decide, by decide⟩ (Nat.le_of_ble_eq_true rfl) (wr_forge hst hR hb h) (by omega) (by omega) (fun v M q => ?_)
  obtain ⟨k, J1, L1, hk, rfl, rfl, hq⟩ := q
  show xJ (xGm b dC dI cA ts) l mL_law 600128 7301098 Qv (fun _ _ => False) (c0 + 3) (s0 + 18) 1174 (lsL i) [.int (nI k)] false 553 R (zi J1) (li L1)
  refine xr_istore (i := 5) [(0, .ref 1000090), (1, .ref 0), (2, .ref 491), (3, .ref 552), (4, .int (nI i)), (5, .int (nI k))] (xd dL_c_forge 23 rfl) (by decide) rfl ?_
  rcases hq with ⟨rfl, y0, hy0, hw⟩ | ⟨hk0, hw⟩
  · skip
    refine xr_aload_n (xd dL_c_forge 24 rfl) 2 rfl ?_
    refine xr_aload_n (xd dL_c_forge 25 rfl) 0 rfl ?_
    refine xr_iload (xd dL_c_forge 26 rfl) 4 rfl ?_
    refine xr_iconst (v := nI 1) (xd dL_c_forge 27 rfl) (by decide) ?_
    refine xr_iadd (xd dL_c_forge 28 rfl) ?_
    refine xr_eqi (nI (i + 1)) (nI_add _ _) ?_
    refine xr_sld (xd dL_c_forge 29 rfl) (show i + 1 < ts 91 by omega) (show ts 91 < 2 ^ 31 by omega) ?_
    refine xr_aload_n (xd dL_c_forge 30 rfl) 0 rfl ?_
    refine xr_iload (xd dL_c_forge 31 rfl) 4 rfl ?_
    refine xr_iconst (v := nI 2) (xd dL_c_forge 32 rfl) (by decide) ?_
    refine xr_iadd (xd dL_c_forge 33 rfl) ?_
    refine xr_eqi (nI (i + 2)) (nI_add _ _) ?_
    refine xr_sld (xd dL_c_forge 34 rfl) (show i + 2 < ts 91 by omega) (show ts 91 < 2 ^ 31 by omega) ?_
    refine xr_aload_n (xd dL_c_forge 35 rfl) 0 rfl ?_
    refine xr_iload (xd dL_c_forge 36 rfl) 4 rfl ?_
    refine xr_iconst (v := nI 3) (xd dL_c_forge 37 rfl) (by decide) ?_
    refine xr_iadd (xd dL_c_forge 38 rfl) ?_
    refine xr_eqi (nI (i + 3)) (nI_add _ _) ?_
    refine xr_sld (xd dL_c_forge 39 rfl) (show i + 3 < ts 91 by omega) (show ts 91 < 2 ^ 31 by omega) ?_
    refine xr_aload_n (xd dL_c_forge 40 rfl) 0 rfl ?_
    refine xr_iload (xd dL_c_forge 41 rfl) 4 rfl ?_
    refine xr_iconst (v := nI 4) (xd dL_c_forge 42 rfl) (by decide) ?_
    refine xr_iadd (xd dL_c_forge 43 rfl) ?_
    refine xr_eqi (nI (i + 4)) (nI_add _ _) ?_
    refine xr_sld (xd dL_c_forge 44 rfl) (show i + 4 < ts 91 by omega) (show ts 91 < 2 ^ 31 by omega) ?_
    have c2 := v_X12_forge (b := b) (dC := dC) (dI := dI) (cA := cA) (ts := ts) (l := l) (n := 553) (al := false) (by decide) hR hw
    simp only [oI_of] at c2
    refine xr_callV (st := []) mX12_forge 4 [.int (xsc (xGm b dC dI cA ts) (i + 1)), .int (xsc (xGm b dC dI cA ts) (i + 2)), .int (xsc (xGm b dC dI cA ts) (i + 3)), .int (xsc (xGm b dC dI cA ts) (i + 4))] (b := 491) (cl := 12) (xd dL_c_forge 45 rfl) (xt_9 (j := 177) (by decide +kernel) (by decide +kernel)) kX12_forge rfl (by decide) kd_491' (by decide) rfl ⟨by decide, by decide⟩ (Nat.le_of_ble_eq_true rfl) c2 (by omega) (by omega) (fun v M q => ?_) (fun _ _ h => h.elim)
    obtain ⟨b2, J2, L2, rfl, rfl, hT, ⟨hy, hL⟩, hP⟩ := q
    show xJ (xGm b dC dI cA ts) l mL_law 600128 7301098 Qv (fun _ _ => False) (c0 + 3 + 0) (s0 + 18 + 0) 1204 [(0, .ref 1000090), (1, .ref 0), (2, .ref 491), (3, .ref 552), (4, .int (nI i)), (5, .int (nI 0))] [.int (oI b2)] false 553 R (zi J2) (li L2)
    refine xr_istore (i := 6) [(0, .ref 1000090), (1, .ref 0), (2, .ref 491), (3, .ref 552), (4, .int (nI i)), (5, .int (nI 0)), (6, .int (oI b2))] (xd dL_c_forge 46 rfl) (by decide) rfl ?_
    refine xr_aload_n (xd dL_c_forge 47 rfl) 2 rfl ?_
    refine xr_callV (st := []) mX12_thrown 0 [] (b := 491) (cl := 12) (xd dL_c_forge 48 rfl) (xt_7 (j := 228) (by decide +kernel) (by decide +kernel)) kX12_thrown rfl (by decide) kd_491' (by decide) rfl ⟨by decide, by decide⟩ (Nat.le_of_ble_eq_true rfl) (v_X12_thrown (al := false) (by decide) hR (show w_X12_thrown J2 L2 (fun r J3 L3 => r = J2 491 0 ∧ J3 = J2 ∧ L3 = L2) from ⟨rfl, rfl, rfl⟩)) (by omega) (by omega) (fun v M q => ?_) (fun _ _ h => h.elim)
    obtain ⟨r, J3, L3, rfl, rfl, rfl, rfl, rfl⟩ := q
    rw [hT]
    show xJ (xGm b dC dI cA ts) l mL_law 600128 7301098 Qv (fun _ _ => False) (c0 + 3 + 0 + 0) (s0 + 18 + 0 + 0) 1210 [(0, .ref 1000090), (1, .ref 0), (2, .ref 491), (3, .ref 552), (4, .int (nI i)), (5, .int (nI 0)), (6, .int (oI b2))] [.int (nI 0)] false 553 R (zi J3) (li L3)
    refine xr_iload (xd dL_c_forge 49 rfl) 5 rfl ?_
    refine xr_icmp_eq 1217 (xd dL_c_forge 50 rfl) (by decide) (fun _ => ?_) (fun c => absurd rfl c)
    refine xr_iload (xd dL_c_forge 53 rfl) 5 rfl ?_
    refine xr_if_ne 1234 (xd dL_c_forge 54 rfl) (by decide) (fun c => absurd rfl c) (fun _ => ?_)
    refine xr_aload_n (xd dL_c_forge 55 rfl) 3 rfl ?_
    refine xr_iconst (v := nI 0) (xd dL_c_forge 56 rfl) (by decide) ?_
    refine xr_laload (x := (oI b2).toInt64) (xd dL_c_forge 57 rfl) (by decide) kd_552 (by rw [show xln (xGm b dC dI cA ts) 552 = 1 from ln_552]; exact nI_in (by decide) (by decide)) (by rw [hy]; refine out_eq (L := L3) ?_; rw [hL]; exact hy0) ?_
    refine xr_iload (xd dL_c_forge 58 rfl) 6 rfl ?_
    refine xr_i2l (xd dL_c_forge 59 rfl) ?_
    refine xr_lcmp (xd dL_c_forge 60 rfl) ?_
    refine xr_if_eq 1234 (xd dL_c_forge 61 rfl) (by decide) (fun _ => ?_) (fun c => absurd (cmp_self _) c)
    refine xr_goto 1689 (xd dL_c_forge 64 rfl) (by decide) ?_
    exact xJ.sub (lsL i) (fun q hq => lsL_2 hq) (xJ.wid (by omega) (by omega) (kk J3 L3 (hP.mono (by omega))))
  · skip
    refine xr_aload_n (xd dL_c_forge 24 rfl) 2 rfl ?_
    refine xr_aload_n (xd dL_c_forge 25 rfl) 0 rfl ?_
    refine xr_iload (xd dL_c_forge 26 rfl) 4 rfl ?_
    refine xr_iconst (v := nI 1) (xd dL_c_forge 27 rfl) (by decide) ?_
    refine xr_iadd (xd dL_c_forge 28 rfl) ?_
    refine xr_eqi (nI (i + 1)) (nI_add _ _) ?_
    refine xr_sld (xd dL_c_forge 29 rfl) (show i + 1 < ts 91 by omega) (show ts 91 < 2 ^ 31 by omega) ?_
    refine xr_aload_n (xd dL_c_forge 30 rfl) 0 rfl ?_
    refine xr_iload (xd dL_c_forge 31 rfl) 4 rfl ?_
    refine xr_iconst (v := nI 2) (xd dL_c_forge 32 rfl) (by decide) ?_
    refine xr_iadd (xd dL_c_forge 33 rfl) ?_
    refine xr_eqi (nI (i + 2)) (nI_add _ _) ?_
    refine xr_sld (xd dL_c_forge 34 rfl) (show i + 2 < ts 91 by omega) (show ts 91 < 2 ^ 31 by omega) ?_
    refine xr_aload_n (xd dL_c_forge 35 rfl) 0 rfl ?_
    refine xr_iload (xd dL_c_forge 36 rfl) 4 rfl ?_
    refine xr_iconst (v := nI 3) (xd dL_c_forge 37 rfl) (by decide) ?_
    refine xr_iadd (xd dL_c_forge 38 rfl) ?_
    refine xr_eqi (nI (i + 3)) (nI_add _ _) ?_
    refine xr_sld (xd dL_c_forge 39 rfl) (show i + 3 < ts 91 by omega) (show ts 91 < 2 ^ 31 by omega) ?_
    refine xr_aload_n (xd dL_c_forge 40 rfl) 0 rfl ?_
    refine xr_iload (xd dL_c_forge 41 rfl) 4 rfl ?_
    refine xr_iconst (v := nI 4) (xd dL_c_forge 42 rfl) (by decide) ?_
    refine xr_iadd (xd dL_c_forge 43 rfl) ?_
    refine xr_eqi (nI (i + 4)) (nI_add _ _) ?_
    refine xr_sld (xd dL_c_forge 44 rfl) (show i + 4 < ts 91 by omega) (show ts 91 < 2 ^ 31 by omega) ?_
    have c2 := v_X12_forge (b := b) (dC := dC) (dI := dI) (cA := cA) (ts := ts) (l := l) (n := 553) (al := false) (by decide) hR hw
    simp only [oI_of] at c2
    refine xr_callV (st := []) mX12_forge 4 [.int (xsc (xGm b dC dI cA ts) (i + 1)), .int (xsc (xGm b dC dI cA ts) (i + 2)), .int (xsc (xGm b dC dI cA ts) (i + 3)), .int (xsc (xGm b dC dI cA ts) (i + 4))] (b := 491) (cl := 12) (xd dL_c_forge 45 rfl) (xt_9 (j := 177) (by decide +kernel) (by decide +kernel)) kX12_forge rfl (by decide) kd_491' (by decide) rfl ⟨by decide, by decide⟩ (Nat.le_of_ble_eq_true rfl) c2 (by omega) (by omega) (fun v M q => ?_) (fun _ _ h => h.elim)
    obtain ⟨b2, J2, L2, rfl, rfl, hT, -, hP⟩ := q
    show xJ (xGm b dC dI cA ts) l mL_law 600128 7301098 Qv (fun _ _ => False) (c0 + 3 + 0) (s0 + 18 + 0) 1204 [(0, .ref 1000090), (1, .ref 0), (2, .ref 491), (3, .ref 552), (4, .int (nI i)), (5, .int (nI k))] [.int (oI b2)] false 553 R (zi J2) (li L2)
    refine xr_istore (i := 6) [(0, .ref 1000090), (1, .ref 0), (2, .ref 491), (3, .ref 552), (4, .int (nI i)), (5, .int (nI k)), (6, .int (oI b2))] (xd dL_c_forge 46 rfl) (by decide) rfl ?_
    refine xr_aload_n (xd dL_c_forge 47 rfl) 2 rfl ?_
    refine xr_callV (st := []) mX12_thrown 0 [] (b := 491) (cl := 12) (xd dL_c_forge 48 rfl) (xt_7 (j := 228) (by decide +kernel) (by decide +kernel)) kX12_thrown rfl (by decide) kd_491' (by decide) rfl ⟨by decide, by decide⟩ (Nat.le_of_ble_eq_true rfl) (v_X12_thrown (al := false) (by decide) hR (show w_X12_thrown J2 L2 (fun r J3 L3 => r = J2 491 0 ∧ J3 = J2 ∧ L3 = L2) from ⟨rfl, rfl, rfl⟩)) (by omega) (by omega) (fun v M q => ?_) (fun _ _ h => h.elim)
    obtain ⟨r, J3, L3, rfl, rfl, rfl, rfl, rfl⟩ := q
    rw [hT]
    show xJ (xGm b dC dI cA ts) l mL_law 600128 7301098 Qv (fun _ _ => False) (c0 + 3 + 0 + 0) (s0 + 18 + 0 + 0) 1210 [(0, .ref 1000090), (1, .ref 0), (2, .ref 491), (3, .ref 552), (4, .int (nI i)), (5, .int (nI k)), (6, .int (oI b2))] [.int (nI k)] false 553 R (zi J3) (li L3)
    refine xr_iload (xd dL_c_forge 49 rfl) 5 rfl ?_
    refine xr_icmp_eq 1217 (xd dL_c_forge 50 rfl) (by decide) (fun _ => ?_) (fun c => absurd rfl c)
    refine xr_iload (xd dL_c_forge 53 rfl) 5 rfl ?_
    refine xr_if_ne 1234 (xd dL_c_forge 54 rfl) (by decide) (fun _ => ?_) (fun c => absurd c (nI_ne0 (by omega) (by omega)))
    refine xr_goto 1689 (xd dL_c_forge 64 rfl) (by decide) ?_
    exact xJ.sub (lsL i) (fun q hq => lsL_2 hq) (xJ.wid (by omega) (by omega) (kk J3 L3 (hP.mono (by omega))))
set_option maxHeartbeats 4000000 in
set_option maxRecDepth 100000 in
theorem lc_inject {b : Nat} {dC : Nat → ClassId} {dI : Nat → Nat → Nat} {cA : Nat → ClassId} {ts : Nat → Nat} {l : Launch} {R : Nat → Nat → Option Nat} (hst : l.stackTraces = false) (hR : xRk R) {Qv : Option Value → xM → Prop} {i N c0 s0 : Nat} (hN : ts 91 = N) (hN4 : N ≤ 384) (hi : i + 6 ≤ N) (hc : c0 + 3 ≤ 600128) (hs : s0 + 18 ≤ 7301098) {bd : Int} (hb : 0 ≤ bd ∧ bd + 1300000 ≤ 2000000000) {J : zM} {L : yM} (h : PB bd J L) (kk : ∀ (J' : zM) (L' : yM), PB (bd + 1300000) J' L' → xJ (xGm b dC dI cA ts) l mL_law 600128 7301098 Qv (fun _ _ => False) (c0 + 3) (s0 + 18) 1689 (lsL i) [] false 553 R (zi J') (li L')) : xJ (xGm b dC dI cA ts) l mL_law 600128 7301098 Qv (fun _ _ => False) c0 s0 1237 (lsL i) [] false 553 R (zi J) (li L) := by
  refine xr_aload_n (xd dL_c_inject 0 rfl) 1 rfl ?_
  refine xr_aload_n (xd dL_c_inject 1 rfl) 0 rfl ?_
  refine xr_iload (xd dL_c_inject 2 rfl) 4 rfl ?_
  refine xr_iconst (v := nI 1) (xd dL_c_inject 3 rfl) (by decide) ?_
  refine xr_iadd (xd dL_c_inject 4 rfl) ?_
  refine xr_eqi (nI (i + 1)) (nI_add _ _) ?_
  refine xr_sld (xd dL_c_inject 5 rfl) (show i + 1 < ts 91 by omega) (show ts 91 < 2 ^ 31 by omega) ?_
  refine xr_aload_n (xd dL_c_inject 6 rfl) 3 rfl ?_
  refine xr_callH (st := []) mL_inject hL_inject 3 [.ref 0, .int (xsc (xGm b dC dI cA ts) (i + 1)), .ref 552] (xd dL_c_inject 7 rfl) (xt_6 (j := 154) (by decide +kernel) (by decide +kernel)) kL_inject rfl ⟨by decide, by decide⟩ (Nat.le_of_ble_eq_true rfl) (wr_inject hst hR hb h) (by omega) (by omega) (fun v M q => ?_)
  obtain ⟨k, J1, L1, hk, rfl, rfl, hq⟩ := q
  show xJ (xGm b dC dI cA ts) l mL_law 600128 7301098 Qv (fun _ _ => False) (c0 + 1) (s0 + 6) 1248 (lsL i) [.int (nI k)] false 553 R (zi J1) (li L1)
  refine xr_istore (i := 5) [(0, .ref 1000090), (1, .ref 0), (2, .ref 491), (3, .ref 552), (4, .int (nI i)), (5, .int (nI k))] (xd dL_c_inject 8 rfl) (by decide) rfl ?_
  rcases hq with ⟨rfl, y0, hy0, hw⟩ | ⟨hk0, hw⟩
  · skip
    refine xr_aload_n (xd dL_c_inject 9 rfl) 2 rfl ?_
    refine xr_aload_n (xd dL_c_inject 10 rfl) 0 rfl ?_
    refine xr_iload (xd dL_c_inject 11 rfl) 4 rfl ?_
    refine xr_iconst (v := nI 1) (xd dL_c_inject 12 rfl) (by decide) ?_
    refine xr_iadd (xd dL_c_inject 13 rfl) ?_
    refine xr_eqi (nI (i + 1)) (nI_add _ _) ?_
    refine xr_sld (xd dL_c_inject 14 rfl) (show i + 1 < ts 91 by omega) (show ts 91 < 2 ^ 31 by omega) ?_
    have c2 := v_X12_inject (b := b) (dC := dC) (dI := dI) (cA := cA) (ts := ts) (l := l) (n := 553) (al := false) (by decide) hR hw
    simp only [oI_of] at c2
    refine xr_callV (st := []) mX12_inject 1 [.int (xsc (xGm b dC dI cA ts) (i + 1))] (b := 491) (cl := 12) (xd dL_c_inject 15 rfl) (xt_9 (j := 181) (by decide +kernel) (by decide +kernel)) kX12_inject rfl (by decide) kd_491' (by decide) rfl ⟨by decide, by decide⟩ (Nat.le_of_ble_eq_true rfl) c2 (by omega) (by omega) (fun v M q => ?_) (fun _ _ h => h.elim)
    obtain ⟨b2, J2, L2, rfl, rfl, hT, ⟨hy, hL⟩, hP⟩ := q
    show xJ (xGm b dC dI cA ts) l mL_law 600128 7301098 Qv (fun _ _ => False) (c0 + 1 + 0) (s0 + 6 + 0) 1260 [(0, .ref 1000090), (1, .ref 0), (2, .ref 491), (3, .ref 552), (4, .int (nI i)), (5, .int (nI 0))] [.int (oI b2)] false 553 R (zi J2) (li L2)
    refine xr_istore (i := 6) [(0, .ref 1000090), (1, .ref 0), (2, .ref 491), (3, .ref 552), (4, .int (nI i)), (5, .int (nI 0)), (6, .int (oI b2))] (xd dL_c_inject 16 rfl) (by decide) rfl ?_
    refine xr_aload_n (xd dL_c_inject 17 rfl) 2 rfl ?_
    refine xr_callV (st := []) mX12_thrown 0 [] (b := 491) (cl := 12) (xd dL_c_inject 18 rfl) (xt_7 (j := 228) (by decide +kernel) (by decide +kernel)) kX12_thrown rfl (by decide) kd_491' (by decide) rfl ⟨by decide, by decide⟩ (Nat.le_of_ble_eq_true rfl) (v_X12_thrown (al := false) (by decide) hR (show w_X12_thrown J2 L2 (fun r J3 L3 => r = J2 491 0 ∧ J3 = J2 ∧ L3 = L2) from ⟨rfl, rfl, rfl⟩)) (by omega) (by omega) (fun v M q => ?_) (fun _ _ h => h.elim)
    obtain ⟨r, J3, L3, rfl, rfl, rfl, rfl, rfl⟩ := q
    rw [hT]
    show xJ (xGm b dC dI cA ts) l mL_law 600128 7301098 Qv (fun _ _ => False) (c0 + 1 + 0 + 0) (s0 + 6 + 0 + 0) 1266 [(0, .ref 1000090), (1, .ref 0), (2, .ref 491), (3, .ref 552), (4, .int (nI i)), (5, .int (nI 0)), (6, .int (oI b2))] [.int (nI 0)] false 553 R (zi J3) (li L3)
    refine xr_iload (xd dL_c_inject 19 rfl) 5 rfl ?_
    refine xr_icmp_eq 1273 (xd dL_c_inject 20 rfl) (by decide) (fun _ => ?_) (fun c => absurd rfl c)
    refine xr_iload (xd dL_c_inject 23 rfl) 5 rfl ?_
    refine xr_if_ne 1290 (xd dL_c_inject 24 rfl) (by decide) (fun c => absurd rfl c) (fun _ => ?_)
    refine xr_aload_n (xd dL_c_inject 25 rfl) 3 rfl ?_
    refine xr_iconst (v := nI 0) (xd dL_c_inject 26 rfl) (by decide) ?_
    refine xr_laload (x := (oI b2).toInt64) (xd dL_c_inject 27 rfl) (by decide) kd_552 (by rw [show xln (xGm b dC dI cA ts) 552 = 1 from ln_552]; exact nI_in (by decide) (by decide)) (by rw [hy]; refine out_eq (L := L3) ?_; rw [hL]; exact hy0) ?_
    refine xr_iload (xd dL_c_inject 28 rfl) 6 rfl ?_
    refine xr_i2l (xd dL_c_inject 29 rfl) ?_
    refine xr_lcmp (xd dL_c_inject 30 rfl) ?_
    refine xr_if_eq 1290 (xd dL_c_inject 31 rfl) (by decide) (fun _ => ?_) (fun c => absurd (cmp_self _) c)
    refine xr_goto 1689 (xd dL_c_inject 34 rfl) (by decide) ?_
    exact xJ.sub (lsL i) (fun q hq => lsL_2 hq) (xJ.wid (by omega) (by omega) (kk J3 L3 (hP.mono (by omega))))
  · skip
    refine xr_aload_n (xd dL_c_inject 9 rfl) 2 rfl ?_
    refine xr_aload_n (xd dL_c_inject 10 rfl) 0 rfl ?_
    refine xr_iload (xd dL_c_inject 11 rfl) 4 rfl ?_
    refine xr_iconst (v := nI 1) (xd dL_c_inject 12 rfl) (by decide) ?_
    refine xr_iadd (xd dL_c_inject 13 rfl) ?_
    refine xr_eqi (nI (i + 1)) (nI_add _ _) ?_
    refine xr_sld (xd dL_c_inject 14 rfl) (show i + 1 < ts 91 by omega) (show ts 91 < 2 ^ 31 by omega) ?_
    have c2 := v_X12_inject (b := b) (dC := dC) (dI := dI) (cA := cA) (ts := ts) (l := l) (n := 553) (al := false) (by decide) hR hw
    simp only [oI_of] at c2
    refine xr_callV (st := []) mX12_inject 1 [.int (xsc (xGm b dC dI cA ts) (i + 1))] (b := 491) (cl := 12) (xd dL_c_inject 15 rfl) (xt_9 (j := 181) (by decide +kernel) (by decide +kernel)) kX12_inject rfl (by decide) kd_491' (by decide) rfl ⟨by decide, by decide⟩ (Nat.le_of_ble_eq_true rfl) c2 (by omega) (by omega) (fun v M q => ?_) (fun _ _ h => h.elim)
    obtain ⟨b2, J2, L2, rfl, rfl, hT, -, hP⟩ := q
    show xJ (xGm b dC dI cA ts) l mL_law 600128 7301098 Qv (fun _ _ => False) (c0 + 1 + 0) (s0 + 6 + 0) 1260 [(0, .ref 1000090), (1, .ref 0), (2, .ref 491), (3, .ref 552), (4, .int (nI i)), (5, .int (nI k))] [.int (oI b2)] false 553 R (zi J2) (li L2)
    refine xr_istore (i := 6) [(0, .ref 1000090), (1, .ref 0), (2, .ref 491), (3, .ref 552), (4, .int (nI i)), (5, .int (nI k)), (6, .int (oI b2))] (xd dL_c_inject 16 rfl) (by decide) rfl ?_
    refine xr_aload_n (xd dL_c_inject 17 rfl) 2 rfl ?_
    refine xr_callV (st := []) mX12_thrown 0 [] (b := 491) (cl := 12) (xd dL_c_inject 18 rfl) (xt_7 (j := 228) (by decide +kernel) (by decide +kernel)) kX12_thrown rfl (by decide) kd_491' (by decide) rfl ⟨by decide, by decide⟩ (Nat.le_of_ble_eq_true rfl) (v_X12_thrown (al := false) (by decide) hR (show w_X12_thrown J2 L2 (fun r J3 L3 => r = J2 491 0 ∧ J3 = J2 ∧ L3 = L2) from ⟨rfl, rfl, rfl⟩)) (by omega) (by omega) (fun v M q => ?_) (fun _ _ h => h.elim)
    obtain ⟨r, J3, L3, rfl, rfl, rfl, rfl, rfl⟩ := q
    rw [hT]
    show xJ (xGm b dC dI cA ts) l mL_law 600128 7301098 Qv (fun _ _ => False) (c0 + 1 + 0 + 0) (s0 + 6 + 0 + 0) 1266 [(0, .ref 1000090), (1, .ref 0), (2, .ref 491), (3, .ref 552), (4, .int (nI i)), (5, .int (nI k)), (6, .int (oI b2))] [.int (nI k)] false 553 R (zi J3) (li L3)
    refine xr_iload (xd dL_c_inject 19 rfl) 5 rfl ?_
    refine xr_icmp_eq 1273 (xd dL_c_inject 20 rfl) (by decide) (fun _ => ?_) (fun c => absurd rfl c)
    refine xr_iload (xd dL_c_inject 23 rfl) 5 rfl ?_
    refine xr_if_ne 1290 (xd dL_c_inject 24 rfl) (by decide) (fun _ => ?_) (fun c => absurd c (nI_ne0 (by omega) (by omega)))
    refine xr_goto 1689 (xd dL_c_inject 34 rfl) (by decide) ?_
    exact xJ.sub (lsL i) (fun q hq => lsL_2 hq) (xJ.wid (by omega) (by omega) (kk J3 L3 (hP.mono (by omega))))
set_option maxHeartbeats 4000000 in
set_option maxRecDepth 100000 in
theorem lc_run {b : Nat} {dC : Nat → ClassId} {dI : Nat → Nat → Nat} {cA : Nat → ClassId} {ts : Nat → Nat} {l : Launch} {R : Nat → Nat → Option Nat} (hst : l.stackTraces = false) (hR : xRk R) {Qv : Option Value → xM → Prop} {i N c0 s0 : Nat} (hN : ts 91 = N) (hN4 : N ≤ 384) (hi : i + 6 ≤ N) (hc : c0 + 3 ≤ 600128) (hs : s0 + 18 ≤ 7301098) {bd : Int} (hb : 0 ≤ bd ∧ bd + 1300000 ≤ 2000000000) {J : zM} {L : yM} (h : PB bd J L) (kk : ∀ (J' : zM) (L' : yM), PB (bd + 1300000) J' L' → xJ (xGm b dC dI cA ts) l mL_law 600128 7301098 Qv (fun _ _ => False) (c0 + 3) (s0 + 18) 1689 (lsL i) [] false 553 R (zi J') (li L')) : xJ (xGm b dC dI cA ts) l mL_law 600128 7301098 Qv (fun _ _ => False) c0 s0 1293 (lsL i) [] false 553 R (zi J) (li L) := by
  refine xr_aload_n (xd dL_c_run 0 rfl) 1 rfl ?_
  refine xr_aload_n (xd dL_c_run 1 rfl) 0 rfl ?_
  refine xr_iload (xd dL_c_run 2 rfl) 4 rfl ?_
  refine xr_iconst (v := nI 1) (xd dL_c_run 3 rfl) (by decide) ?_
  refine xr_iadd (xd dL_c_run 4 rfl) ?_
  refine xr_eqi (nI (i + 1)) (nI_add _ _) ?_
  refine xr_sld (xd dL_c_run 5 rfl) (show i + 1 < ts 91 by omega) (show ts 91 < 2 ^ 31 by omega) ?_
  refine xr_aload_n (xd dL_c_run 6 rfl) 3 rfl ?_
  refine xr_callH (st := []) mL_run hL_run 3 [.ref 0, .int (xsc (xGm b dC dI cA ts) (i + 1)), .ref 552] (xd dL_c_run 7 rfl) (xt_6 (j := 162) (by decide +kernel) (by decide +kernel)) kL_run rfl ⟨by decide, by decide⟩ (Nat.le_of_ble_eq_true rfl) (wr_run hst hR hb h) (by omega) (by omega) (fun v M q => ?_)
  obtain ⟨k, J1, L1, hk, rfl, rfl, hq⟩ := q
  show xJ (xGm b dC dI cA ts) l mL_law 600128 7301098 Qv (fun _ _ => False) (c0 + 1) (s0 + 6) 1304 (lsL i) [.int (nI k)] false 553 R (zi J1) (li L1)
  refine xr_istore (i := 5) [(0, .ref 1000090), (1, .ref 0), (2, .ref 491), (3, .ref 552), (4, .int (nI i)), (5, .int (nI k))] (xd dL_c_run 8 rfl) (by decide) rfl ?_
  rcases hq with ⟨rfl, y0, hy0, hw⟩ | ⟨hk0, hw⟩
  · skip
    refine xr_aload_n (xd dL_c_run 9 rfl) 2 rfl ?_
    refine xr_aload_n (xd dL_c_run 10 rfl) 0 rfl ?_
    refine xr_iload (xd dL_c_run 11 rfl) 4 rfl ?_
    refine xr_iconst (v := nI 1) (xd dL_c_run 12 rfl) (by decide) ?_
    refine xr_iadd (xd dL_c_run 13 rfl) ?_
    refine xr_eqi (nI (i + 1)) (nI_add _ _) ?_
    refine xr_sld (xd dL_c_run 14 rfl) (show i + 1 < ts 91 by omega) (show ts 91 < 2 ^ 31 by omega) ?_
    have c2 := v_X12_run (b := b) (dC := dC) (dI := dI) (cA := cA) (ts := ts) (l := l) (n := 553) (al := false) (by decide) hR hw
    simp only [oI_of] at c2
    refine xr_callV (st := []) mX12_run 1 [.int (xsc (xGm b dC dI cA ts) (i + 1))] (b := 491) (cl := 12) (xd dL_c_run 15 rfl) (xt_8 (j := 172) (by decide +kernel) (by decide +kernel)) kX12_run rfl (by decide) kd_491' (by decide) rfl ⟨by decide, by decide⟩ (Nat.le_of_ble_eq_true rfl) c2 (by omega) (by omega) (fun v M q => ?_) (fun _ _ h => h.elim)
    obtain ⟨b2, J2, L2, rfl, rfl, hT, ⟨hy, hL⟩, hP⟩ := q
    show xJ (xGm b dC dI cA ts) l mL_law 600128 7301098 Qv (fun _ _ => False) (c0 + 1 + 0) (s0 + 6 + 0) 1316 [(0, .ref 1000090), (1, .ref 0), (2, .ref 491), (3, .ref 552), (4, .int (nI i)), (5, .int (nI 0))] [.int (oI b2)] false 553 R (zi J2) (li L2)
    refine xr_istore (i := 6) [(0, .ref 1000090), (1, .ref 0), (2, .ref 491), (3, .ref 552), (4, .int (nI i)), (5, .int (nI 0)), (6, .int (oI b2))] (xd dL_c_run 16 rfl) (by decide) rfl ?_
    refine xr_aload_n (xd dL_c_run 17 rfl) 2 rfl ?_
    refine xr_callV (st := []) mX12_thrown 0 [] (b := 491) (cl := 12) (xd dL_c_run 18 rfl) (xt_7 (j := 228) (by decide +kernel) (by decide +kernel)) kX12_thrown rfl (by decide) kd_491' (by decide) rfl ⟨by decide, by decide⟩ (Nat.le_of_ble_eq_true rfl) (v_X12_thrown (al := false) (by decide) hR (show w_X12_thrown J2 L2 (fun r J3 L3 => r = J2 491 0 ∧ J3 = J2 ∧ L3 = L2) from ⟨rfl, rfl, rfl⟩)) (by omega) (by omega) (fun v M q => ?_) (fun _ _ h => h.elim)
    obtain ⟨r, J3, L3, rfl, rfl, rfl, rfl, rfl⟩ := q
    rw [hT]
    show xJ (xGm b dC dI cA ts) l mL_law 600128 7301098 Qv (fun _ _ => False) (c0 + 1 + 0 + 0) (s0 + 6 + 0 + 0) 1322 [(0, .ref 1000090), (1, .ref 0), (2, .ref 491), (3, .ref 552), (4, .int (nI i)), (5, .int (nI 0)), (6, .int (oI b2))] [.int (nI 0)] false 553 R (zi J3) (li L3)
    refine xr_iload (xd dL_c_run 19 rfl) 5 rfl ?_
    refine xr_icmp_eq 1329 (xd dL_c_run 20 rfl) (by decide) (fun _ => ?_) (fun c => absurd rfl c)
    refine xr_iload (xd dL_c_run 23 rfl) 5 rfl ?_
    refine xr_if_ne 1346 (xd dL_c_run 24 rfl) (by decide) (fun c => absurd rfl c) (fun _ => ?_)
    refine xr_aload_n (xd dL_c_run 25 rfl) 3 rfl ?_
    refine xr_iconst (v := nI 0) (xd dL_c_run 26 rfl) (by decide) ?_
    refine xr_laload (x := (oI b2).toInt64) (xd dL_c_run 27 rfl) (by decide) kd_552 (by rw [show xln (xGm b dC dI cA ts) 552 = 1 from ln_552]; exact nI_in (by decide) (by decide)) (by rw [hy]; refine out_eq (L := L3) ?_; rw [hL]; exact hy0) ?_
    refine xr_iload (xd dL_c_run 28 rfl) 6 rfl ?_
    refine xr_i2l (xd dL_c_run 29 rfl) ?_
    refine xr_lcmp (xd dL_c_run 30 rfl) ?_
    refine xr_if_eq 1346 (xd dL_c_run 31 rfl) (by decide) (fun _ => ?_) (fun c => absurd (cmp_self _) c)
    refine xr_goto 1689 (xd dL_c_run 34 rfl) (by decide) ?_
    exact xJ.sub (lsL i) (fun q hq => lsL_2 hq) (xJ.wid (by omega) (by omega) (kk J3 L3 (hP.mono (by omega))))
  · skip
    refine xr_aload_n (xd dL_c_run 9 rfl) 2 rfl ?_
    refine xr_aload_n (xd dL_c_run 10 rfl) 0 rfl ?_
    refine xr_iload (xd dL_c_run 11 rfl) 4 rfl ?_
    refine xr_iconst (v := nI 1) (xd dL_c_run 12 rfl) (by decide) ?_
    refine xr_iadd (xd dL_c_run 13 rfl) ?_
    refine xr_eqi (nI (i + 1)) (nI_add _ _) ?_
    refine xr_sld (xd dL_c_run 14 rfl) (show i + 1 < ts 91 by omega) (show ts 91 < 2 ^ 31 by omega) ?_
    have c2 := v_X12_run (b := b) (dC := dC) (dI := dI) (cA := cA) (ts := ts) (l := l) (n := 553) (al := false) (by decide) hR hw
    simp only [oI_of] at c2
    refine xr_callV (st := []) mX12_run 1 [.int (xsc (xGm b dC dI cA ts) (i + 1))] (b := 491) (cl := 12) (xd dL_c_run 15 rfl) (xt_8 (j := 172) (by decide +kernel) (by decide +kernel)) kX12_run rfl (by decide) kd_491' (by decide) rfl ⟨by decide, by decide⟩ (Nat.le_of_ble_eq_true rfl) c2 (by omega) (by omega) (fun v M q => ?_) (fun _ _ h => h.elim)
    obtain ⟨b2, J2, L2, rfl, rfl, hT, -, hP⟩ := q
    show xJ (xGm b dC dI cA ts) l mL_law 600128 7301098 Qv (fun _ _ => False) (c0 + 1 + 0) (s0 + 6 + 0) 1316 [(0, .ref 1000090), (1, .ref 0), (2, .ref 491), (3, .ref 552), (4, .int (nI i)), (5, .int (nI k))] [.int (oI b2)] false 553 R (zi J2) (li L2)
    refine xr_istore (i := 6) [(0, .ref 1000090), (1, .ref 0), (2, .ref 491), (3, .ref 552), (4, .int (nI i)), (5, .int (nI k)), (6, .int (oI b2))] (xd dL_c_run 16 rfl) (by decide) rfl ?_
    refine xr_aload_n (xd dL_c_run 17 rfl) 2 rfl ?_
    refine xr_callV (st := []) mX12_thrown 0 [] (b := 491) (cl := 12) (xd dL_c_run 18 rfl) (xt_7 (j := 228) (by decide +kernel) (by decide +kernel)) kX12_thrown rfl (by decide) kd_491' (by decide) rfl ⟨by decide, by decide⟩ (Nat.le_of_ble_eq_true rfl) (v_X12_thrown (al := false) (by decide) hR (show w_X12_thrown J2 L2 (fun r J3 L3 => r = J2 491 0 ∧ J3 = J2 ∧ L3 = L2) from ⟨rfl, rfl, rfl⟩)) (by omega) (by omega) (fun v M q => ?_) (fun _ _ h => h.elim)
    obtain ⟨r, J3, L3, rfl, rfl, rfl, rfl, rfl⟩ := q
    rw [hT]
    show xJ (xGm b dC dI cA ts) l mL_law 600128 7301098 Qv (fun _ _ => False) (c0 + 1 + 0 + 0) (s0 + 6 + 0 + 0) 1322 [(0, .ref 1000090), (1, .ref 0), (2, .ref 491), (3, .ref 552), (4, .int (nI i)), (5, .int (nI k)), (6, .int (oI b2))] [.int (nI k)] false 553 R (zi J3) (li L3)
    refine xr_iload (xd dL_c_run 19 rfl) 5 rfl ?_
    refine xr_icmp_eq 1329 (xd dL_c_run 20 rfl) (by decide) (fun _ => ?_) (fun c => absurd rfl c)
    refine xr_iload (xd dL_c_run 23 rfl) 5 rfl ?_
    refine xr_if_ne 1346 (xd dL_c_run 24 rfl) (by decide) (fun _ => ?_) (fun c => absurd c (nI_ne0 (by omega) (by omega)))
    refine xr_goto 1689 (xd dL_c_run 34 rfl) (by decide) ?_
    exact xJ.sub (lsL i) (fun q hq => lsL_2 hq) (xJ.wid (by omega) (by omega) (kk J3 L3 (hP.mono (by omega))))
set_option maxHeartbeats 4000000 in
set_option maxRecDepth 100000 in
theorem lc_state {b : Nat} {dC : Nat → ClassId} {dI : Nat → Nat → Nat} {cA : Nat → ClassId} {ts : Nat → Nat} {l : Launch} {R : Nat → Nat → Option Nat} (hst : l.stackTraces = false) (hR : xRk R) {Qv : Option Value → xM → Prop} {i N c0 s0 : Nat} (hN : ts 91 = N) (hN4 : N ≤ 384) (hi : i + 6 ≤ N) (hc : c0 + 3 ≤ 600128) (hs : s0 + 18 ≤ 7301098) {bd : Int} (hb : 0 ≤ bd ∧ bd + 1300000 ≤ 2000000000) {J : zM} {L : yM} (h : PB bd J L) (kk : ∀ (J' : zM) (L' : yM), PB (bd + 1300000) J' L' → xJ (xGm b dC dI cA ts) l mL_law 600128 7301098 Qv (fun _ _ => False) (c0 + 3) (s0 + 18) 1689 (lsL i) [] false 553 R (zi J') (li L')) : xJ (xGm b dC dI cA ts) l mL_law 600128 7301098 Qv (fun _ _ => False) c0 s0 1349 (lsL i) [] false 553 R (zi J) (li L) := by
  refine xr_aload_n (xd dL_c_state 0 rfl) 1 rfl ?_
  refine xr_aload_n (xd dL_c_state 1 rfl) 0 rfl ?_
  refine xr_iload (xd dL_c_state 2 rfl) 4 rfl ?_
  refine xr_iconst (v := nI 1) (xd dL_c_state 3 rfl) (by decide) ?_
  refine xr_iadd (xd dL_c_state 4 rfl) ?_
  refine xr_eqi (nI (i + 1)) (nI_add _ _) ?_
  refine xr_sld (xd dL_c_state 5 rfl) (show i + 1 < ts 91 by omega) (show ts 91 < 2 ^ 31 by omega) ?_
  refine xr_aload_n (xd dL_c_state 6 rfl) 3 rfl ?_
  refine xr_callH (st := []) mL_state hL_state 3 [.ref 0, .int (xsc (xGm b dC dI cA ts) (i + 1)), .ref 552] (xd dL_c_state 7 rfl) (xt_6 (j := 170) (by decide +kernel) (by decide +kernel)) kL_state rfl ⟨by decide, by decide⟩ (Nat.le_of_ble_eq_true rfl) (wr_state hst hR hb h) (by omega) (by omega) (fun v M q => ?_)
  obtain ⟨k, J1, L1, hk, rfl, rfl, hq⟩ := q
  show xJ (xGm b dC dI cA ts) l mL_law 600128 7301098 Qv (fun _ _ => False) (c0 + 1) (s0 + 6) 1360 (lsL i) [.int (nI k)] false 553 R (zi J1) (li L1)
  refine xr_istore (i := 5) [(0, .ref 1000090), (1, .ref 0), (2, .ref 491), (3, .ref 552), (4, .int (nI i)), (5, .int (nI k))] (xd dL_c_state 8 rfl) (by decide) rfl ?_
  rcases hq with ⟨rfl, y0, hy0, hw⟩ | ⟨hk0, hw⟩
  · skip
    refine xr_aload_n (xd dL_c_state 9 rfl) 2 rfl ?_
    refine xr_aload_n (xd dL_c_state 10 rfl) 0 rfl ?_
    refine xr_iload (xd dL_c_state 11 rfl) 4 rfl ?_
    refine xr_iconst (v := nI 1) (xd dL_c_state 12 rfl) (by decide) ?_
    refine xr_iadd (xd dL_c_state 13 rfl) ?_
    refine xr_eqi (nI (i + 1)) (nI_add _ _) ?_
    refine xr_sld (xd dL_c_state 14 rfl) (show i + 1 < ts 91 by omega) (show ts 91 < 2 ^ 31 by omega) ?_
    have c2 := v_X12_state (b := b) (dC := dC) (dI := dI) (cA := cA) (ts := ts) (l := l) (n := 553) (al := false) (by decide) hR hw
    simp only [oI_of] at c2
    refine xr_callV (st := []) mX12_state 1 [.int (xsc (xGm b dC dI cA ts) (i + 1))] (b := 491) (cl := 12) (xd dL_c_state 15 rfl) (xt_9 (j := 185) (by decide +kernel) (by decide +kernel)) kX12_state rfl (by decide) kd_491' (by decide) rfl ⟨by decide, by decide⟩ (Nat.le_of_ble_eq_true rfl) c2 (by omega) (by omega) (fun v M q => ?_) (fun _ _ h => h.elim)
    obtain ⟨b2, J2, L2, rfl, rfl, hT, ⟨hy, hL⟩, hP⟩ := q
    show xJ (xGm b dC dI cA ts) l mL_law 600128 7301098 Qv (fun _ _ => False) (c0 + 1 + 0) (s0 + 6 + 0) 1372 [(0, .ref 1000090), (1, .ref 0), (2, .ref 491), (3, .ref 552), (4, .int (nI i)), (5, .int (nI 0))] [.int (oI b2)] false 553 R (zi J2) (li L2)
    refine xr_istore (i := 6) [(0, .ref 1000090), (1, .ref 0), (2, .ref 491), (3, .ref 552), (4, .int (nI i)), (5, .int (nI 0)), (6, .int (oI b2))] (xd dL_c_state 16 rfl) (by decide) rfl ?_
    refine xr_aload_n (xd dL_c_state 17 rfl) 2 rfl ?_
    refine xr_callV (st := []) mX12_thrown 0 [] (b := 491) (cl := 12) (xd dL_c_state 18 rfl) (xt_7 (j := 228) (by decide +kernel) (by decide +kernel)) kX12_thrown rfl (by decide) kd_491' (by decide) rfl ⟨by decide, by decide⟩ (Nat.le_of_ble_eq_true rfl) (v_X12_thrown (al := false) (by decide) hR (show w_X12_thrown J2 L2 (fun r J3 L3 => r = J2 491 0 ∧ J3 = J2 ∧ L3 = L2) from ⟨rfl, rfl, rfl⟩)) (by omega) (by omega) (fun v M q => ?_) (fun _ _ h => h.elim)
    obtain ⟨r, J3, L3, rfl, rfl, rfl, rfl, rfl⟩ := q
    rw [hT]
    show xJ (xGm b dC dI cA ts) l mL_law 600128 7301098 Qv (fun _ _ => False) (c0 + 1 + 0 + 0) (s0 + 6 + 0 + 0) 1378 [(0, .ref 1000090), (1, .ref 0), (2, .ref 491), (3, .ref 552), (4, .int (nI i)), (5, .int (nI 0)), (6, .int (oI b2))] [.int (nI 0)] false 553 R (zi J3) (li L3)
    refine xr_iload (xd dL_c_state 19 rfl) 5 rfl ?_
    refine xr_icmp_eq 1385 (xd dL_c_state 20 rfl) (by decide) (fun _ => ?_) (fun c => absurd rfl c)
    refine xr_iload (xd dL_c_state 23 rfl) 5 rfl ?_
    refine xr_if_ne 1402 (xd dL_c_state 24 rfl) (by decide) (fun c => absurd rfl c) (fun _ => ?_)
    refine xr_aload_n (xd dL_c_state 25 rfl) 3 rfl ?_
    refine xr_iconst (v := nI 0) (xd dL_c_state 26 rfl) (by decide) ?_
    refine xr_laload (x := (oI b2).toInt64) (xd dL_c_state 27 rfl) (by decide) kd_552 (by rw [show xln (xGm b dC dI cA ts) 552 = 1 from ln_552]; exact nI_in (by decide) (by decide)) (by rw [hy]; refine out_eq (L := L3) ?_; rw [hL]; exact hy0) ?_
    refine xr_iload (xd dL_c_state 28 rfl) 6 rfl ?_
    refine xr_i2l (xd dL_c_state 29 rfl) ?_
    refine xr_lcmp (xd dL_c_state 30 rfl) ?_
    refine xr_if_eq 1402 (xd dL_c_state 31 rfl) (by decide) (fun _ => ?_) (fun c => absurd (cmp_self _) c)
    refine xr_goto 1689 (xd dL_c_state 34 rfl) (by decide) ?_
    exact xJ.sub (lsL i) (fun q hq => lsL_2 hq) (xJ.wid (by omega) (by omega) (kk J3 L3 (hP.mono (by omega))))
  · skip
    refine xr_aload_n (xd dL_c_state 9 rfl) 2 rfl ?_
    refine xr_aload_n (xd dL_c_state 10 rfl) 0 rfl ?_
    refine xr_iload (xd dL_c_state 11 rfl) 4 rfl ?_
    refine xr_iconst (v := nI 1) (xd dL_c_state 12 rfl) (by decide) ?_
    refine xr_iadd (xd dL_c_state 13 rfl) ?_
    refine xr_eqi (nI (i + 1)) (nI_add _ _) ?_
    refine xr_sld (xd dL_c_state 14 rfl) (show i + 1 < ts 91 by omega) (show ts 91 < 2 ^ 31 by omega) ?_
    have c2 := v_X12_state (b := b) (dC := dC) (dI := dI) (cA := cA) (ts := ts) (l := l) (n := 553) (al := false) (by decide) hR hw
    simp only [oI_of] at c2
    refine xr_callV (st := []) mX12_state 1 [.int (xsc (xGm b dC dI cA ts) (i + 1))] (b := 491) (cl := 12) (xd dL_c_state 15 rfl) (xt_9 (j := 185) (by decide +kernel) (by decide +kernel)) kX12_state rfl (by decide) kd_491' (by decide) rfl ⟨by decide, by decide⟩ (Nat.le_of_ble_eq_true rfl) c2 (by omega) (by omega) (fun v M q => ?_) (fun _ _ h => h.elim)
    obtain ⟨b2, J2, L2, rfl, rfl, hT, -, hP⟩ := q
    show xJ (xGm b dC dI cA ts) l mL_law 600128 7301098 Qv (fun _ _ => False) (c0 + 1 + 0) (s0 + 6 + 0) 1372 [(0, .ref 1000090), (1, .ref 0), (2, .ref 491), (3, .ref 552), (4, .int (nI i)), (5, .int (nI k))] [.int (oI b2)] false 553 R (zi J2) (li L2)
    refine xr_istore (i := 6) [(0, .ref 1000090), (1, .ref 0), (2, .ref 491), (3, .ref 552), (4, .int (nI i)), (5, .int (nI k)), (6, .int (oI b2))] (xd dL_c_state 16 rfl) (by decide) rfl ?_
    refine xr_aload_n (xd dL_c_state 17 rfl) 2 rfl ?_
    refine xr_callV (st := []) mX12_thrown 0 [] (b := 491) (cl := 12) (xd dL_c_state 18 rfl) (xt_7 (j := 228) (by decide +kernel) (by decide +kernel)) kX12_thrown rfl (by decide) kd_491' (by decide) rfl ⟨by decide, by decide⟩ (Nat.le_of_ble_eq_true rfl) (v_X12_thrown (al := false) (by decide) hR (show w_X12_thrown J2 L2 (fun r J3 L3 => r = J2 491 0 ∧ J3 = J2 ∧ L3 = L2) from ⟨rfl, rfl, rfl⟩)) (by omega) (by omega) (fun v M q => ?_) (fun _ _ h => h.elim)
    obtain ⟨r, J3, L3, rfl, rfl, rfl, rfl, rfl⟩ := q
    rw [hT]
    show xJ (xGm b dC dI cA ts) l mL_law 600128 7301098 Qv (fun _ _ => False) (c0 + 1 + 0 + 0) (s0 + 6 + 0 + 0) 1378 [(0, .ref 1000090), (1, .ref 0), (2, .ref 491), (3, .ref 552), (4, .int (nI i)), (5, .int (nI k)), (6, .int (oI b2))] [.int (nI k)] false 553 R (zi J3) (li L3)
    refine xr_iload (xd dL_c_state 19 rfl) 5 rfl ?_
    refine xr_icmp_eq 1385 (xd dL_c_state 20 rfl) (by decide) (fun _ => ?_) (fun c => absurd rfl c)
    refine xr_iload (xd dL_c_state 23 rfl) 5 rfl ?_
    refine xr_if_ne 1402 (xd dL_c_state 24 rfl) (by decide) (fun _ => ?_) (fun c => absurd c (nI_ne0 (by omega) (by omega)))
    refine xr_goto 1689 (xd dL_c_state 34 rfl) (by decide) ?_
    exact xJ.sub (lsL i) (fun q hq => lsL_2 hq) (xJ.wid (by omega) (by omega) (kk J3 L3 (hP.mono (by omega))))
set_option maxHeartbeats 4000000 in
set_option maxRecDepth 100000 in
theorem lc_got {b : Nat} {dC : Nat → ClassId} {dI : Nat → Nat → Nat} {cA : Nat → ClassId} {ts : Nat → Nat} {l : Launch} {R : Nat → Nat → Option Nat} (hst : l.stackTraces = false) (hR : xRk R) {Qv : Option Value → xM → Prop} {i N c0 s0 : Nat} (hN : ts 91 = N) (hN4 : N ≤ 384) (hi : i + 6 ≤ N) (hc : c0 + 3 ≤ 600128) (hs : s0 + 18 ≤ 7301098) {bd : Int} (hb : 0 ≤ bd ∧ bd + 1300000 ≤ 2000000000) {J : zM} {L : yM} (h : PB bd J L) (kk : ∀ (J' : zM) (L' : yM), PB (bd + 1300000) J' L' → xJ (xGm b dC dI cA ts) l mL_law 600128 7301098 Qv (fun _ _ => False) (c0 + 3) (s0 + 18) 1689 (lsL i) [] false 553 R (zi J') (li L')) : xJ (xGm b dC dI cA ts) l mL_law 600128 7301098 Qv (fun _ _ => False) c0 s0 1405 (lsL i) [] false 553 R (zi J) (li L) := by
  refine xr_aload_n (xd dL_c_got 0 rfl) 1 rfl ?_
  refine xr_aload_n (xd dL_c_got 1 rfl) 0 rfl ?_
  refine xr_iload (xd dL_c_got 2 rfl) 4 rfl ?_
  refine xr_iconst (v := nI 1) (xd dL_c_got 3 rfl) (by decide) ?_
  refine xr_iadd (xd dL_c_got 4 rfl) ?_
  refine xr_eqi (nI (i + 1)) (nI_add _ _) ?_
  refine xr_sld (xd dL_c_got 5 rfl) (show i + 1 < ts 91 by omega) (show ts 91 < 2 ^ 31 by omega) ?_
  refine xr_aload_n (xd dL_c_got 6 rfl) 3 rfl ?_
  refine xr_callH (st := []) mL_got hL_got 3 [.ref 0, .int (xsc (xGm b dC dI cA ts) (i + 1)), .ref 552] (xd dL_c_got 7 rfl) (xt_6 (j := 177) (by decide +kernel) (by decide +kernel)) kL_got rfl ⟨by decide, by decide⟩ (Nat.le_of_ble_eq_true rfl) (wr_got hst hR hb h) (by omega) (by omega) (fun v M q => ?_)
  obtain ⟨k, J1, L1, hk, rfl, rfl, hq⟩ := q
  show xJ (xGm b dC dI cA ts) l mL_law 600128 7301098 Qv (fun _ _ => False) (c0 + 1) (s0 + 6) 1416 (lsL i) [.int (nI k)] false 553 R (zi J1) (li L1)
  refine xr_istore (i := 5) [(0, .ref 1000090), (1, .ref 0), (2, .ref 491), (3, .ref 552), (4, .int (nI i)), (5, .int (nI k))] (xd dL_c_got 8 rfl) (by decide) rfl ?_
  rcases hq with ⟨rfl, y0, hy0, hw⟩ | ⟨hk0, hw⟩
  · skip
    refine xr_aload_n (xd dL_c_got 9 rfl) 2 rfl ?_
    refine xr_aload_n (xd dL_c_got 10 rfl) 0 rfl ?_
    refine xr_iload (xd dL_c_got 11 rfl) 4 rfl ?_
    refine xr_iconst (v := nI 1) (xd dL_c_got 12 rfl) (by decide) ?_
    refine xr_iadd (xd dL_c_got 13 rfl) ?_
    refine xr_eqi (nI (i + 1)) (nI_add _ _) ?_
    refine xr_sld (xd dL_c_got 14 rfl) (show i + 1 < ts 91 by omega) (show ts 91 < 2 ^ 31 by omega) ?_
    have c2 := v_X12_got (b := b) (dC := dC) (dI := dI) (cA := cA) (ts := ts) (l := l) (n := 553) (al := false) (by decide) hR hw
    simp only [oI_of] at c2
    refine xr_callV (st := []) mX12_got 1 [.int (xsc (xGm b dC dI cA ts) (i + 1))] (b := 491) (cl := 12) (xd dL_c_got 15 rfl) (xt_9 (j := 189) (by decide +kernel) (by decide +kernel)) kX12_got rfl (by decide) kd_491' (by decide) rfl ⟨by decide, by decide⟩ (Nat.le_of_ble_eq_true rfl) c2 (by omega) (by omega) (fun v M q => ?_) (fun _ _ h => h.elim)
    obtain ⟨b2, J2, L2, rfl, rfl, hT, ⟨hy, hL⟩, hP⟩ := q
    show xJ (xGm b dC dI cA ts) l mL_law 600128 7301098 Qv (fun _ _ => False) (c0 + 1 + 0) (s0 + 6 + 0) 1428 [(0, .ref 1000090), (1, .ref 0), (2, .ref 491), (3, .ref 552), (4, .int (nI i)), (5, .int (nI 0))] [.int (oI b2)] false 553 R (zi J2) (li L2)
    refine xr_istore (i := 6) [(0, .ref 1000090), (1, .ref 0), (2, .ref 491), (3, .ref 552), (4, .int (nI i)), (5, .int (nI 0)), (6, .int (oI b2))] (xd dL_c_got 16 rfl) (by decide) rfl ?_
    refine xr_aload_n (xd dL_c_got 17 rfl) 2 rfl ?_
    refine xr_callV (st := []) mX12_thrown 0 [] (b := 491) (cl := 12) (xd dL_c_got 18 rfl) (xt_7 (j := 228) (by decide +kernel) (by decide +kernel)) kX12_thrown rfl (by decide) kd_491' (by decide) rfl ⟨by decide, by decide⟩ (Nat.le_of_ble_eq_true rfl) (v_X12_thrown (al := false) (by decide) hR (show w_X12_thrown J2 L2 (fun r J3 L3 => r = J2 491 0 ∧ J3 = J2 ∧ L3 = L2) from ⟨rfl, rfl, rfl⟩)) (by omega) (by omega) (fun v M q => ?_) (fun _ _ h => h.elim)
    obtain ⟨r, J3, L3, rfl, rfl, rfl, rfl, rfl⟩ := q
    rw [hT]
    show xJ (xGm b dC dI cA ts) l mL_law 600128 7301098 Qv (fun _ _ => False) (c0 + 1 + 0 + 0) (s0 + 6 + 0 + 0) 1434 [(0, .ref 1000090), (1, .ref 0), (2, .ref 491), (3, .ref 552), (4, .int (nI i)), (5, .int (nI 0)), (6, .int (oI b2))] [.int (nI 0)] false 553 R (zi J3) (li L3)
    refine xr_iload (xd dL_c_got 19 rfl) 5 rfl ?_
    refine xr_icmp_eq 1441 (xd dL_c_got 20 rfl) (by decide) (fun _ => ?_) (fun c => absurd rfl c)
    refine xr_iload (xd dL_c_got 23 rfl) 5 rfl ?_
    refine xr_if_ne 1458 (xd dL_c_got 24 rfl) (by decide) (fun c => absurd rfl c) (fun _ => ?_)
    refine xr_aload_n (xd dL_c_got 25 rfl) 3 rfl ?_
    refine xr_iconst (v := nI 0) (xd dL_c_got 26 rfl) (by decide) ?_
    refine xr_laload (x := (oI b2).toInt64) (xd dL_c_got 27 rfl) (by decide) kd_552 (by rw [show xln (xGm b dC dI cA ts) 552 = 1 from ln_552]; exact nI_in (by decide) (by decide)) (by rw [hy]; refine out_eq (L := L3) ?_; rw [hL]; exact hy0) ?_
    refine xr_iload (xd dL_c_got 28 rfl) 6 rfl ?_
    refine xr_i2l (xd dL_c_got 29 rfl) ?_
    refine xr_lcmp (xd dL_c_got 30 rfl) ?_
    refine xr_if_eq 1458 (xd dL_c_got 31 rfl) (by decide) (fun _ => ?_) (fun c => absurd (cmp_self _) c)
    refine xr_goto 1689 (xd dL_c_got 34 rfl) (by decide) ?_
    exact xJ.sub (lsL i) (fun q hq => lsL_2 hq) (xJ.wid (by omega) (by omega) (kk J3 L3 (hP.mono (by omega))))
  · skip
    refine xr_aload_n (xd dL_c_got 9 rfl) 2 rfl ?_
    refine xr_aload_n (xd dL_c_got 10 rfl) 0 rfl ?_
    refine xr_iload (xd dL_c_got 11 rfl) 4 rfl ?_
    refine xr_iconst (v := nI 1) (xd dL_c_got 12 rfl) (by decide) ?_
    refine xr_iadd (xd dL_c_got 13 rfl) ?_
    refine xr_eqi (nI (i + 1)) (nI_add _ _) ?_
    refine xr_sld (xd dL_c_got 14 rfl) (show i + 1 < ts 91 by omega) (show ts 91 < 2 ^ 31 by omega) ?_
    have c2 := v_X12_got (b := b) (dC := dC) (dI := dI) (cA := cA) (ts := ts) (l := l) (n := 553) (al := false) (by decide) hR hw
    simp only [oI_of] at c2
    refine xr_callV (st := []) mX12_got 1 [.int (xsc (xGm b dC dI cA ts) (i + 1))] (b := 491) (cl := 12) (xd dL_c_got 15 rfl) (xt_9 (j := 189) (by decide +kernel) (by decide +kernel)) kX12_got rfl (by decide) kd_491' (by decide) rfl ⟨by decide, by decide⟩ (Nat.le_of_ble_eq_true rfl) c2 (by omega) (by omega) (fun v M q => ?_) (fun _ _ h => h.elim)
    obtain ⟨b2, J2, L2, rfl, rfl, hT, -, hP⟩ := q
    show xJ (xGm b dC dI cA ts) l mL_law 600128 7301098 Qv (fun _ _ => False) (c0 + 1 + 0) (s0 + 6 + 0) 1428 [(0, .ref 1000090), (1, .ref 0), (2, .ref 491), (3, .ref 552), (4, .int (nI i)), (5, .int (nI k))] [.int (oI b2)] false 553 R (zi J2) (li L2)
    refine xr_istore (i := 6) [(0, .ref 1000090), (1, .ref 0), (2, .ref 491), (3, .ref 552), (4, .int (nI i)), (5, .int (nI k)), (6, .int (oI b2))] (xd dL_c_got 16 rfl) (by decide) rfl ?_
    refine xr_aload_n (xd dL_c_got 17 rfl) 2 rfl ?_
    refine xr_callV (st := []) mX12_thrown 0 [] (b := 491) (cl := 12) (xd dL_c_got 18 rfl) (xt_7 (j := 228) (by decide +kernel) (by decide +kernel)) kX12_thrown rfl (by decide) kd_491' (by decide) rfl ⟨by decide, by decide⟩ (Nat.le_of_ble_eq_true rfl) (v_X12_thrown (al := false) (by decide) hR (show w_X12_thrown J2 L2 (fun r J3 L3 => r = J2 491 0 ∧ J3 = J2 ∧ L3 = L2) from ⟨rfl, rfl, rfl⟩)) (by omega) (by omega) (fun v M q => ?_) (fun _ _ h => h.elim)
    obtain ⟨r, J3, L3, rfl, rfl, rfl, rfl, rfl⟩ := q
    rw [hT]
    show xJ (xGm b dC dI cA ts) l mL_law 600128 7301098 Qv (fun _ _ => False) (c0 + 1 + 0 + 0) (s0 + 6 + 0 + 0) 1434 [(0, .ref 1000090), (1, .ref 0), (2, .ref 491), (3, .ref 552), (4, .int (nI i)), (5, .int (nI k)), (6, .int (oI b2))] [.int (nI k)] false 553 R (zi J3) (li L3)
    refine xr_iload (xd dL_c_got 19 rfl) 5 rfl ?_
    refine xr_icmp_eq 1441 (xd dL_c_got 20 rfl) (by decide) (fun _ => ?_) (fun c => absurd rfl c)
    refine xr_iload (xd dL_c_got 23 rfl) 5 rfl ?_
    refine xr_if_ne 1458 (xd dL_c_got 24 rfl) (by decide) (fun _ => ?_) (fun c => absurd c (nI_ne0 (by omega) (by omega)))
    refine xr_goto 1689 (xd dL_c_got 34 rfl) (by decide) ?_
    exact xJ.sub (lsL i) (fun q hq => lsL_2 hq) (xJ.wid (by omega) (by omega) (kk J3 L3 (hP.mono (by omega))))
set_option maxHeartbeats 4000000 in
set_option maxRecDepth 100000 in
theorem lc_gotOctet {b : Nat} {dC : Nat → ClassId} {dI : Nat → Nat → Nat} {cA : Nat → ClassId} {ts : Nat → Nat} {l : Launch} {R : Nat → Nat → Option Nat} (hst : l.stackTraces = false) (hR : xRk R) {Qv : Option Value → xM → Prop} {i N c0 s0 : Nat} (hN : ts 91 = N) (hN4 : N ≤ 384) (hi : i + 6 ≤ N) (hc : c0 + 3 ≤ 600128) (hs : s0 + 18 ≤ 7301098) {bd : Int} (hb : 0 ≤ bd ∧ bd + 1300000 ≤ 2000000000) {J : zM} {L : yM} (h : PB bd J L) (kk : ∀ (J' : zM) (L' : yM), PB (bd + 1300000) J' L' → xJ (xGm b dC dI cA ts) l mL_law 600128 7301098 Qv (fun _ _ => False) (c0 + 3) (s0 + 18) 1689 (lsL i) [] false 553 R (zi J') (li L')) : xJ (xGm b dC dI cA ts) l mL_law 600128 7301098 Qv (fun _ _ => False) c0 s0 1461 (lsL i) [] false 553 R (zi J) (li L) := by
  refine xr_aload_n (xd dL_c_gotOctet 0 rfl) 1 rfl ?_
  refine xr_aload_n (xd dL_c_gotOctet 1 rfl) 0 rfl ?_
  refine xr_iload (xd dL_c_gotOctet 2 rfl) 4 rfl ?_
  refine xr_iconst (v := nI 1) (xd dL_c_gotOctet 3 rfl) (by decide) ?_
  refine xr_iadd (xd dL_c_gotOctet 4 rfl) ?_
  refine xr_eqi (nI (i + 1)) (nI_add _ _) ?_
  refine xr_sld (xd dL_c_gotOctet 5 rfl) (show i + 1 < ts 91 by omega) (show ts 91 < 2 ^ 31 by omega) ?_
  refine xr_aload_n (xd dL_c_gotOctet 6 rfl) 0 rfl ?_
  refine xr_iload (xd dL_c_gotOctet 7 rfl) 4 rfl ?_
  refine xr_iconst (v := nI 2) (xd dL_c_gotOctet 8 rfl) (by decide) ?_
  refine xr_iadd (xd dL_c_gotOctet 9 rfl) ?_
  refine xr_eqi (nI (i + 2)) (nI_add _ _) ?_
  refine xr_sld (xd dL_c_gotOctet 10 rfl) (show i + 2 < ts 91 by omega) (show ts 91 < 2 ^ 31 by omega) ?_
  refine xr_aload_n (xd dL_c_gotOctet 11 rfl) 0 rfl ?_
  refine xr_iload (xd dL_c_gotOctet 12 rfl) 4 rfl ?_
  refine xr_iconst (v := nI 3) (xd dL_c_gotOctet 13 rfl) (by decide) ?_
  refine xr_iadd (xd dL_c_gotOctet 14 rfl) ?_
  refine xr_eqi (nI (i + 3)) (nI_add _ _) ?_
  refine xr_sld (xd dL_c_gotOctet 15 rfl) (show i + 3 < ts 91 by omega) (show ts 91 < 2 ^ 31 by omega) ?_
  refine xr_aload_n (xd dL_c_gotOctet 16 rfl) 3 rfl ?_
  refine xr_callH (st := []) mL_gotOctet hL_gotOctet 5 [.ref 0, .int (xsc (xGm b dC dI cA ts) (i + 1)), .int (xsc (xGm b dC dI cA ts) (i + 2)), .int (xsc (xGm b dC dI cA ts) (i + 3)), .ref 552] (xd dL_c_gotOctet 17 rfl) (xt_6 (j := 184) (by decide +kernel) (by decide +kernel)) kL_gotOctet rfl ⟨by decide, by decide⟩ (Nat.le_of_ble_eq_true rfl) (wr_gotOctet hst hR hb h) (by omega) (by omega) (fun v M q => ?_)
  obtain ⟨k, J1, L1, hk, rfl, rfl, hq⟩ := q
  show xJ (xGm b dC dI cA ts) l mL_law 600128 7301098 Qv (fun _ _ => False) (c0 + 2) (s0 + 12) 1484 (lsL i) [.int (nI k)] false 553 R (zi J1) (li L1)
  refine xr_istore (i := 5) [(0, .ref 1000090), (1, .ref 0), (2, .ref 491), (3, .ref 552), (4, .int (nI i)), (5, .int (nI k))] (xd dL_c_gotOctet 18 rfl) (by decide) rfl ?_
  rcases hq with ⟨rfl, y0, hy0, hw⟩ | ⟨hk0, hw⟩
  · skip
    refine xr_aload_n (xd dL_c_gotOctet 19 rfl) 2 rfl ?_
    refine xr_aload_n (xd dL_c_gotOctet 20 rfl) 0 rfl ?_
    refine xr_iload (xd dL_c_gotOctet 21 rfl) 4 rfl ?_
    refine xr_iconst (v := nI 1) (xd dL_c_gotOctet 22 rfl) (by decide) ?_
    refine xr_iadd (xd dL_c_gotOctet 23 rfl) ?_
    refine xr_eqi (nI (i + 1)) (nI_add _ _) ?_
    refine xr_sld (xd dL_c_gotOctet 24 rfl) (show i + 1 < ts 91 by omega) (show ts 91 < 2 ^ 31 by omega) ?_
    refine xr_aload_n (xd dL_c_gotOctet 25 rfl) 0 rfl ?_
    refine xr_iload (xd dL_c_gotOctet 26 rfl) 4 rfl ?_
    refine xr_iconst (v := nI 2) (xd dL_c_gotOctet 27 rfl) (by decide) ?_
    refine xr_iadd (xd dL_c_gotOctet 28 rfl) ?_
    refine xr_eqi (nI (i + 2)) (nI_add _ _) ?_
    refine xr_sld (xd dL_c_gotOctet 29 rfl) (show i + 2 < ts 91 by omega) (show ts 91 < 2 ^ 31 by omega) ?_
    refine xr_aload_n (xd dL_c_gotOctet 30 rfl) 0 rfl ?_
    refine xr_iload (xd dL_c_gotOctet 31 rfl) 4 rfl ?_
    refine xr_iconst (v := nI 3) (xd dL_c_gotOctet 32 rfl) (by decide) ?_
    refine xr_iadd (xd dL_c_gotOctet 33 rfl) ?_
    refine xr_eqi (nI (i + 3)) (nI_add _ _) ?_
    refine xr_sld (xd dL_c_gotOctet 34 rfl) (show i + 3 < ts 91 by omega) (show ts 91 < 2 ^ 31 by omega) ?_
    have c2 := v_X12_gotOctet (b := b) (dC := dC) (dI := dI) (cA := cA) (ts := ts) (l := l) (n := 553) (al := false) (by decide) hR hw
    simp only [oI_of] at c2
    refine xr_callV (st := []) mX12_gotOctet 3 [.int (xsc (xGm b dC dI cA ts) (i + 1)), .int (xsc (xGm b dC dI cA ts) (i + 2)), .int (xsc (xGm b dC dI cA ts) (i + 3))] (b := 491) (cl := 12) (xd dL_c_gotOctet 35 rfl) (xt_9 (j := 193) (by decide +kernel) (by decide +kernel)) kX12_gotOctet rfl (by decide) kd_491' (by decide) rfl ⟨by decide, by decide⟩ (Nat.le_of_ble_eq_true rfl) c2 (by omega) (by omega) (fun v M q => ?_) (fun _ _ h => h.elim)
    obtain ⟨b2, J2, L2, rfl, rfl, hT, ⟨hy, hL⟩, hP⟩ := q
    show xJ (xGm b dC dI cA ts) l mL_law 600128 7301098 Qv (fun _ _ => False) (c0 + 2 + 0) (s0 + 12 + 0) 1508 [(0, .ref 1000090), (1, .ref 0), (2, .ref 491), (3, .ref 552), (4, .int (nI i)), (5, .int (nI 0))] [.int (oI b2)] false 553 R (zi J2) (li L2)
    refine xr_istore (i := 6) [(0, .ref 1000090), (1, .ref 0), (2, .ref 491), (3, .ref 552), (4, .int (nI i)), (5, .int (nI 0)), (6, .int (oI b2))] (xd dL_c_gotOctet 36 rfl) (by decide) rfl ?_
    refine xr_aload_n (xd dL_c_gotOctet 37 rfl) 2 rfl ?_
    refine xr_callV (st := []) mX12_thrown 0 [] (b := 491) (cl := 12) (xd dL_c_gotOctet 38 rfl) (xt_7 (j := 228) (by decide +kernel) (by decide +kernel)) kX12_thrown rfl (by decide) kd_491' (by decide) rfl ⟨by decide, by decide⟩ (Nat.le_of_ble_eq_true rfl) (v_X12_thrown (al := false) (by decide) hR (show w_X12_thrown J2 L2 (fun r J3 L3 => r = J2 491 0 ∧ J3 = J2 ∧ L3 = L2) from ⟨rfl, rfl, rfl⟩)) (by omega) (by omega) (fun v M q => ?_) (fun _ _ h => h.elim)
    obtain ⟨r, J3, L3, rfl, rfl, rfl, rfl, rfl⟩ := q
    rw [hT]
    show xJ (xGm b dC dI cA ts) l mL_law 600128 7301098 Qv (fun _ _ => False) (c0 + 2 + 0 + 0) (s0 + 12 + 0 + 0) 1514 [(0, .ref 1000090), (1, .ref 0), (2, .ref 491), (3, .ref 552), (4, .int (nI i)), (5, .int (nI 0)), (6, .int (oI b2))] [.int (nI 0)] false 553 R (zi J3) (li L3)
    refine xr_iload (xd dL_c_gotOctet 39 rfl) 5 rfl ?_
    refine xr_icmp_eq 1521 (xd dL_c_gotOctet 40 rfl) (by decide) (fun _ => ?_) (fun c => absurd rfl c)
    refine xr_iload (xd dL_c_gotOctet 43 rfl) 5 rfl ?_
    refine xr_if_ne 1538 (xd dL_c_gotOctet 44 rfl) (by decide) (fun c => absurd rfl c) (fun _ => ?_)
    refine xr_aload_n (xd dL_c_gotOctet 45 rfl) 3 rfl ?_
    refine xr_iconst (v := nI 0) (xd dL_c_gotOctet 46 rfl) (by decide) ?_
    refine xr_laload (x := (oI b2).toInt64) (xd dL_c_gotOctet 47 rfl) (by decide) kd_552 (by rw [show xln (xGm b dC dI cA ts) 552 = 1 from ln_552]; exact nI_in (by decide) (by decide)) (by rw [hy]; refine out_eq (L := L3) ?_; rw [hL]; exact hy0) ?_
    refine xr_iload (xd dL_c_gotOctet 48 rfl) 6 rfl ?_
    refine xr_i2l (xd dL_c_gotOctet 49 rfl) ?_
    refine xr_lcmp (xd dL_c_gotOctet 50 rfl) ?_
    refine xr_if_eq 1538 (xd dL_c_gotOctet 51 rfl) (by decide) (fun _ => ?_) (fun c => absurd (cmp_self _) c)
    refine xr_goto 1689 (xd dL_c_gotOctet 54 rfl) (by decide) ?_
    exact xJ.sub (lsL i) (fun q hq => lsL_2 hq) (xJ.wid (by omega) (by omega) (kk J3 L3 (hP.mono (by omega))))
  · skip
    refine xr_aload_n (xd dL_c_gotOctet 19 rfl) 2 rfl ?_
    refine xr_aload_n (xd dL_c_gotOctet 20 rfl) 0 rfl ?_
    refine xr_iload (xd dL_c_gotOctet 21 rfl) 4 rfl ?_
    refine xr_iconst (v := nI 1) (xd dL_c_gotOctet 22 rfl) (by decide) ?_
    refine xr_iadd (xd dL_c_gotOctet 23 rfl) ?_
    refine xr_eqi (nI (i + 1)) (nI_add _ _) ?_
    refine xr_sld (xd dL_c_gotOctet 24 rfl) (show i + 1 < ts 91 by omega) (show ts 91 < 2 ^ 31 by omega) ?_
    refine xr_aload_n (xd dL_c_gotOctet 25 rfl) 0 rfl ?_
    refine xr_iload (xd dL_c_gotOctet 26 rfl) 4 rfl ?_
    refine xr_iconst (v := nI 2) (xd dL_c_gotOctet 27 rfl) (by decide) ?_
    refine xr_iadd (xd dL_c_gotOctet 28 rfl) ?_
    refine xr_eqi (nI (i + 2)) (nI_add _ _) ?_
    refine xr_sld (xd dL_c_gotOctet 29 rfl) (show i + 2 < ts 91 by omega) (show ts 91 < 2 ^ 31 by omega) ?_
    refine xr_aload_n (xd dL_c_gotOctet 30 rfl) 0 rfl ?_
    refine xr_iload (xd dL_c_gotOctet 31 rfl) 4 rfl ?_
    refine xr_iconst (v := nI 3) (xd dL_c_gotOctet 32 rfl) (by decide) ?_
    refine xr_iadd (xd dL_c_gotOctet 33 rfl) ?_
    refine xr_eqi (nI (i + 3)) (nI_add _ _) ?_
    refine xr_sld (xd dL_c_gotOctet 34 rfl) (show i + 3 < ts 91 by omega) (show ts 91 < 2 ^ 31 by omega) ?_
    have c2 := v_X12_gotOctet (b := b) (dC := dC) (dI := dI) (cA := cA) (ts := ts) (l := l) (n := 553) (al := false) (by decide) hR hw
    simp only [oI_of] at c2
    refine xr_callV (st := []) mX12_gotOctet 3 [.int (xsc (xGm b dC dI cA ts) (i + 1)), .int (xsc (xGm b dC dI cA ts) (i + 2)), .int (xsc (xGm b dC dI cA ts) (i + 3))] (b := 491) (cl := 12) (xd dL_c_gotOctet 35 rfl) (xt_9 (j := 193) (by decide +kernel) (by decide +kernel)) kX12_gotOctet rfl (by decide) kd_491' (by decide) rfl ⟨by decide, by decide⟩ (Nat.le_of_ble_eq_true rfl) c2 (by omega) (by omega) (fun v M q => ?_) (fun _ _ h => h.elim)
    obtain ⟨b2, J2, L2, rfl, rfl, hT, -, hP⟩ := q
    show xJ (xGm b dC dI cA ts) l mL_law 600128 7301098 Qv (fun _ _ => False) (c0 + 2 + 0) (s0 + 12 + 0) 1508 [(0, .ref 1000090), (1, .ref 0), (2, .ref 491), (3, .ref 552), (4, .int (nI i)), (5, .int (nI k))] [.int (oI b2)] false 553 R (zi J2) (li L2)
    refine xr_istore (i := 6) [(0, .ref 1000090), (1, .ref 0), (2, .ref 491), (3, .ref 552), (4, .int (nI i)), (5, .int (nI k)), (6, .int (oI b2))] (xd dL_c_gotOctet 36 rfl) (by decide) rfl ?_
    refine xr_aload_n (xd dL_c_gotOctet 37 rfl) 2 rfl ?_
    refine xr_callV (st := []) mX12_thrown 0 [] (b := 491) (cl := 12) (xd dL_c_gotOctet 38 rfl) (xt_7 (j := 228) (by decide +kernel) (by decide +kernel)) kX12_thrown rfl (by decide) kd_491' (by decide) rfl ⟨by decide, by decide⟩ (Nat.le_of_ble_eq_true rfl) (v_X12_thrown (al := false) (by decide) hR (show w_X12_thrown J2 L2 (fun r J3 L3 => r = J2 491 0 ∧ J3 = J2 ∧ L3 = L2) from ⟨rfl, rfl, rfl⟩)) (by omega) (by omega) (fun v M q => ?_) (fun _ _ h => h.elim)
    obtain ⟨r, J3, L3, rfl, rfl, rfl, rfl, rfl⟩ := q
    rw [hT]
    show xJ (xGm b dC dI cA ts) l mL_law 600128 7301098 Qv (fun _ _ => False) (c0 + 2 + 0 + 0) (s0 + 12 + 0 + 0) 1514 [(0, .ref 1000090), (1, .ref 0), (2, .ref 491), (3, .ref 552), (4, .int (nI i)), (5, .int (nI k)), (6, .int (oI b2))] [.int (nI k)] false 553 R (zi J3) (li L3)
    refine xr_iload (xd dL_c_gotOctet 39 rfl) 5 rfl ?_
    refine xr_icmp_eq 1521 (xd dL_c_gotOctet 40 rfl) (by decide) (fun _ => ?_) (fun c => absurd rfl c)
    refine xr_iload (xd dL_c_gotOctet 43 rfl) 5 rfl ?_
    refine xr_if_ne 1538 (xd dL_c_gotOctet 44 rfl) (by decide) (fun _ => ?_) (fun c => absurd c (nI_ne0 (by omega) (by omega)))
    refine xr_goto 1689 (xd dL_c_gotOctet 54 rfl) (by decide) ?_
    exact xJ.sub (lsL i) (fun q hq => lsL_2 hq) (xJ.wid (by omega) (by omega) (kk J3 L3 (hP.mono (by omega))))
set_option maxHeartbeats 4000000 in
set_option maxRecDepth 100000 in
theorem lc_secret {b : Nat} {dC : Nat → ClassId} {dI : Nat → Nat → Nat} {cA : Nat → ClassId} {ts : Nat → Nat} {l : Launch} {R : Nat → Nat → Option Nat} (hst : l.stackTraces = false) (hR : xRk R) {Qv : Option Value → xM → Prop} {i N c0 s0 : Nat} (hN : ts 91 = N) (hN4 : N ≤ 384) (hi : i + 6 ≤ N) (hc : c0 + 3 ≤ 600128) (hs : s0 + 18 ≤ 7301098) {bd : Int} (hb : 0 ≤ bd ∧ bd + 1300000 ≤ 2000000000) {J : zM} {L : yM} (h : PB bd J L) (kk : ∀ (J' : zM) (L' : yM), PB (bd + 1300000) J' L' → xJ (xGm b dC dI cA ts) l mL_law 600128 7301098 Qv (fun _ _ => False) (c0 + 3) (s0 + 18) 1689 (lsL i) [] false 553 R (zi J') (li L')) : xJ (xGm b dC dI cA ts) l mL_law 600128 7301098 Qv (fun _ _ => False) c0 s0 1541 (lsL i) [] false 553 R (zi J) (li L) := by
  refine xr_aload_n (xd dL_c_secret 0 rfl) 1 rfl ?_
  refine xr_aload_n (xd dL_c_secret 1 rfl) 0 rfl ?_
  refine xr_iload (xd dL_c_secret 2 rfl) 4 rfl ?_
  refine xr_iconst (v := nI 1) (xd dL_c_secret 3 rfl) (by decide) ?_
  refine xr_iadd (xd dL_c_secret 4 rfl) ?_
  refine xr_eqi (nI (i + 1)) (nI_add _ _) ?_
  refine xr_sld (xd dL_c_secret 5 rfl) (show i + 1 < ts 91 by omega) (show ts 91 < 2 ^ 31 by omega) ?_
  refine xr_aload_n (xd dL_c_secret 6 rfl) 0 rfl ?_
  refine xr_iload (xd dL_c_secret 7 rfl) 4 rfl ?_
  refine xr_iconst (v := nI 2) (xd dL_c_secret 8 rfl) (by decide) ?_
  refine xr_iadd (xd dL_c_secret 9 rfl) ?_
  refine xr_eqi (nI (i + 2)) (nI_add _ _) ?_
  refine xr_sld (xd dL_c_secret 10 rfl) (show i + 2 < ts 91 by omega) (show ts 91 < 2 ^ 31 by omega) ?_
  refine xr_aload_n (xd dL_c_secret 11 rfl) 0 rfl ?_
  refine xr_iload (xd dL_c_secret 12 rfl) 4 rfl ?_
  refine xr_iconst (v := nI 3) (xd dL_c_secret 13 rfl) (by decide) ?_
  refine xr_iadd (xd dL_c_secret 14 rfl) ?_
  refine xr_eqi (nI (i + 3)) (nI_add _ _) ?_
  refine xr_sld (xd dL_c_secret 15 rfl) (show i + 3 < ts 91 by omega) (show ts 91 < 2 ^ 31 by omega) ?_
  refine xr_aload_n (xd dL_c_secret 16 rfl) 3 rfl ?_
  refine xr_callH (st := []) mL_secret hL_secret 5 [.ref 0, .int (xsc (xGm b dC dI cA ts) (i + 1)), .int (xsc (xGm b dC dI cA ts) (i + 2)), .int (xsc (xGm b dC dI cA ts) (i + 3)), .ref 552] (xd dL_c_secret 17 rfl) (xt_6 (j := 192) (by decide +kernel) (by decide +kernel)) kL_secret rfl ⟨by decide, by decide⟩ (Nat.le_of_ble_eq_true rfl) (wr_secret hst hR hb h) (by omega) (by omega) (fun v M q => ?_)
  obtain ⟨k, J1, L1, hk, rfl, rfl, hq⟩ := q
  show xJ (xGm b dC dI cA ts) l mL_law 600128 7301098 Qv (fun _ _ => False) (c0 + 2) (s0 + 12) 1564 (lsL i) [.int (nI k)] false 553 R (zi J1) (li L1)
  refine xr_istore (i := 5) [(0, .ref 1000090), (1, .ref 0), (2, .ref 491), (3, .ref 552), (4, .int (nI i)), (5, .int (nI k))] (xd dL_c_secret 18 rfl) (by decide) rfl ?_
  rcases hq with ⟨rfl, y0, hy0, hw⟩ | ⟨hk0, hw⟩
  · skip
    refine xr_aload_n (xd dL_c_secret 19 rfl) 2 rfl ?_
    refine xr_aload_n (xd dL_c_secret 20 rfl) 0 rfl ?_
    refine xr_iload (xd dL_c_secret 21 rfl) 4 rfl ?_
    refine xr_iconst (v := nI 1) (xd dL_c_secret 22 rfl) (by decide) ?_
    refine xr_iadd (xd dL_c_secret 23 rfl) ?_
    refine xr_eqi (nI (i + 1)) (nI_add _ _) ?_
    refine xr_sld (xd dL_c_secret 24 rfl) (show i + 1 < ts 91 by omega) (show ts 91 < 2 ^ 31 by omega) ?_
    refine xr_aload_n (xd dL_c_secret 25 rfl) 0 rfl ?_
    refine xr_iload (xd dL_c_secret 26 rfl) 4 rfl ?_
    refine xr_iconst (v := nI 2) (xd dL_c_secret 27 rfl) (by decide) ?_
    refine xr_iadd (xd dL_c_secret 28 rfl) ?_
    refine xr_eqi (nI (i + 2)) (nI_add _ _) ?_
    refine xr_sld (xd dL_c_secret 29 rfl) (show i + 2 < ts 91 by omega) (show ts 91 < 2 ^ 31 by omega) ?_
    refine xr_aload_n (xd dL_c_secret 30 rfl) 0 rfl ?_
    refine xr_iload (xd dL_c_secret 31 rfl) 4 rfl ?_
    refine xr_iconst (v := nI 3) (xd dL_c_secret 32 rfl) (by decide) ?_
    refine xr_iadd (xd dL_c_secret 33 rfl) ?_
    refine xr_eqi (nI (i + 3)) (nI_add _ _) ?_
    refine xr_sld (xd dL_c_secret 34 rfl) (show i + 3 < ts 91 by omega) (show ts 91 < 2 ^ 31 by omega) ?_
    have c2 := v_X12_secret (b := b) (dC := dC) (dI := dI) (cA := cA) (ts := ts) (l := l) (n := 553) (al := false) (by decide) hR hw
    simp only [oI_of] at c2
    refine xr_callV (st := []) mX12_secret 3 [.int (xsc (xGm b dC dI cA ts) (i + 1)), .int (xsc (xGm b dC dI cA ts) (i + 2)), .int (xsc (xGm b dC dI cA ts) (i + 3))] (b := 491) (cl := 12) (xd dL_c_secret 35 rfl) (xt_9 (j := 197) (by decide +kernel) (by decide +kernel)) kX12_secret rfl (by decide) kd_491' (by decide) rfl ⟨by decide, by decide⟩ (Nat.le_of_ble_eq_true rfl) c2 (by omega) (by omega) (fun v M q => ?_) (fun _ _ h => h.elim)
    obtain ⟨b2, J2, L2, rfl, rfl, hT, ⟨hy, hL⟩, hP⟩ := q
    show xJ (xGm b dC dI cA ts) l mL_law 600128 7301098 Qv (fun _ _ => False) (c0 + 2 + 0) (s0 + 12 + 0) 1588 [(0, .ref 1000090), (1, .ref 0), (2, .ref 491), (3, .ref 552), (4, .int (nI i)), (5, .int (nI 0))] [.int (oI b2)] false 553 R (zi J2) (li L2)
    refine xr_istore (i := 6) [(0, .ref 1000090), (1, .ref 0), (2, .ref 491), (3, .ref 552), (4, .int (nI i)), (5, .int (nI 0)), (6, .int (oI b2))] (xd dL_c_secret 36 rfl) (by decide) rfl ?_
    refine xr_aload_n (xd dL_c_secret 37 rfl) 2 rfl ?_
    refine xr_callV (st := []) mX12_thrown 0 [] (b := 491) (cl := 12) (xd dL_c_secret 38 rfl) (xt_7 (j := 228) (by decide +kernel) (by decide +kernel)) kX12_thrown rfl (by decide) kd_491' (by decide) rfl ⟨by decide, by decide⟩ (Nat.le_of_ble_eq_true rfl) (v_X12_thrown (al := false) (by decide) hR (show w_X12_thrown J2 L2 (fun r J3 L3 => r = J2 491 0 ∧ J3 = J2 ∧ L3 = L2) from ⟨rfl, rfl, rfl⟩)) (by omega) (by omega) (fun v M q => ?_) (fun _ _ h => h.elim)
    obtain ⟨r, J3, L3, rfl, rfl, rfl, rfl, rfl⟩ := q
    rw [hT]
    show xJ (xGm b dC dI cA ts) l mL_law 600128 7301098 Qv (fun _ _ => False) (c0 + 2 + 0 + 0) (s0 + 12 + 0 + 0) 1594 [(0, .ref 1000090), (1, .ref 0), (2, .ref 491), (3, .ref 552), (4, .int (nI i)), (5, .int (nI 0)), (6, .int (oI b2))] [.int (nI 0)] false 553 R (zi J3) (li L3)
    refine xr_iload (xd dL_c_secret 39 rfl) 5 rfl ?_
    refine xr_icmp_eq 1601 (xd dL_c_secret 40 rfl) (by decide) (fun _ => ?_) (fun c => absurd rfl c)
    refine xr_iload (xd dL_c_secret 43 rfl) 5 rfl ?_
    refine xr_if_ne 1618 (xd dL_c_secret 44 rfl) (by decide) (fun c => absurd rfl c) (fun _ => ?_)
    refine xr_aload_n (xd dL_c_secret 45 rfl) 3 rfl ?_
    refine xr_iconst (v := nI 0) (xd dL_c_secret 46 rfl) (by decide) ?_
    refine xr_laload (x := (oI b2).toInt64) (xd dL_c_secret 47 rfl) (by decide) kd_552 (by rw [show xln (xGm b dC dI cA ts) 552 = 1 from ln_552]; exact nI_in (by decide) (by decide)) (by rw [hy]; refine out_eq (L := L3) ?_; rw [hL]; exact hy0) ?_
    refine xr_iload (xd dL_c_secret 48 rfl) 6 rfl ?_
    refine xr_i2l (xd dL_c_secret 49 rfl) ?_
    refine xr_lcmp (xd dL_c_secret 50 rfl) ?_
    refine xr_if_eq 1618 (xd dL_c_secret 51 rfl) (by decide) (fun _ => ?_) (fun c => absurd (cmp_self _) c)
    refine xr_goto 1689 (xd dL_c_secret 54 rfl) (by decide) ?_
    exact xJ.sub (lsL i) (fun q hq => lsL_2 hq) (xJ.wid (by omega) (by omega) (kk J3 L3 (hP.mono (by omega))))
  · skip
    refine xr_aload_n (xd dL_c_secret 19 rfl) 2 rfl ?_
    refine xr_aload_n (xd dL_c_secret 20 rfl) 0 rfl ?_
    refine xr_iload (xd dL_c_secret 21 rfl) 4 rfl ?_
    refine xr_iconst (v := nI 1) (xd dL_c_secret 22 rfl) (by decide) ?_
    refine xr_iadd (xd dL_c_secret 23 rfl) ?_
    refine xr_eqi (nI (i + 1)) (nI_add _ _) ?_
    refine xr_sld (xd dL_c_secret 24 rfl) (show i + 1 < ts 91 by omega) (show ts 91 < 2 ^ 31 by omega) ?_
    refine xr_aload_n (xd dL_c_secret 25 rfl) 0 rfl ?_
    refine xr_iload (xd dL_c_secret 26 rfl) 4 rfl ?_
    refine xr_iconst (v := nI 2) (xd dL_c_secret 27 rfl) (by decide) ?_
    refine xr_iadd (xd dL_c_secret 28 rfl) ?_
    refine xr_eqi (nI (i + 2)) (nI_add _ _) ?_
    refine xr_sld (xd dL_c_secret 29 rfl) (show i + 2 < ts 91 by omega) (show ts 91 < 2 ^ 31 by omega) ?_
    refine xr_aload_n (xd dL_c_secret 30 rfl) 0 rfl ?_
    refine xr_iload (xd dL_c_secret 31 rfl) 4 rfl ?_
    refine xr_iconst (v := nI 3) (xd dL_c_secret 32 rfl) (by decide) ?_
    refine xr_iadd (xd dL_c_secret 33 rfl) ?_
    refine xr_eqi (nI (i + 3)) (nI_add _ _) ?_
    refine xr_sld (xd dL_c_secret 34 rfl) (show i + 3 < ts 91 by omega) (show ts 91 < 2 ^ 31 by omega) ?_
    have c2 := v_X12_secret (b := b) (dC := dC) (dI := dI) (cA := cA) (ts := ts) (l := l) (n := 553) (al := false) (by decide) hR hw
    simp only [oI_of] at c2
    refine xr_callV (st := []) mX12_secret 3 [.int (xsc (xGm b dC dI cA ts) (i + 1)), .int (xsc (xGm b dC dI cA ts) (i + 2)), .int (xsc (xGm b dC dI cA ts) (i + 3))] (b := 491) (cl := 12) (xd dL_c_secret 35 rfl) (xt_9 (j := 197) (by decide +kernel) (by decide +kernel)) kX12_secret rfl (by decide) kd_491' (by decide) rfl ⟨by decide, by decide⟩ (Nat.le_of_ble_eq_true rfl) c2 (by omega) (by omega) (fun v M q => ?_) (fun _ _ h => h.elim)
    obtain ⟨b2, J2, L2, rfl, rfl, hT, -, hP⟩ := q
    show xJ (xGm b dC dI cA ts) l mL_law 600128 7301098 Qv (fun _ _ => False) (c0 + 2 + 0) (s0 + 12 + 0) 1588 [(0, .ref 1000090), (1, .ref 0), (2, .ref 491), (3, .ref 552), (4, .int (nI i)), (5, .int (nI k))] [.int (oI b2)] false 553 R (zi J2) (li L2)
    refine xr_istore (i := 6) [(0, .ref 1000090), (1, .ref 0), (2, .ref 491), (3, .ref 552), (4, .int (nI i)), (5, .int (nI k)), (6, .int (oI b2))] (xd dL_c_secret 36 rfl) (by decide) rfl ?_
    refine xr_aload_n (xd dL_c_secret 37 rfl) 2 rfl ?_
    refine xr_callV (st := []) mX12_thrown 0 [] (b := 491) (cl := 12) (xd dL_c_secret 38 rfl) (xt_7 (j := 228) (by decide +kernel) (by decide +kernel)) kX12_thrown rfl (by decide) kd_491' (by decide) rfl ⟨by decide, by decide⟩ (Nat.le_of_ble_eq_true rfl) (v_X12_thrown (al := false) (by decide) hR (show w_X12_thrown J2 L2 (fun r J3 L3 => r = J2 491 0 ∧ J3 = J2 ∧ L3 = L2) from ⟨rfl, rfl, rfl⟩)) (by omega) (by omega) (fun v M q => ?_) (fun _ _ h => h.elim)
    obtain ⟨r, J3, L3, rfl, rfl, rfl, rfl, rfl⟩ := q
    rw [hT]
    show xJ (xGm b dC dI cA ts) l mL_law 600128 7301098 Qv (fun _ _ => False) (c0 + 2 + 0 + 0) (s0 + 12 + 0 + 0) 1594 [(0, .ref 1000090), (1, .ref 0), (2, .ref 491), (3, .ref 552), (4, .int (nI i)), (5, .int (nI k)), (6, .int (oI b2))] [.int (nI k)] false 553 R (zi J3) (li L3)
    refine xr_iload (xd dL_c_secret 39 rfl) 5 rfl ?_
    refine xr_icmp_eq 1601 (xd dL_c_secret 40 rfl) (by decide) (fun _ => ?_) (fun c => absurd rfl c)
    refine xr_iload (xd dL_c_secret 43 rfl) 5 rfl ?_
    refine xr_if_ne 1618 (xd dL_c_secret 44 rfl) (by decide) (fun _ => ?_) (fun c => absurd c (nI_ne0 (by omega) (by omega)))
    refine xr_goto 1689 (xd dL_c_secret 54 rfl) (by decide) ?_
    exact xJ.sub (lsL i) (fun q hq => lsL_2 hq) (xJ.wid (by omega) (by omega) (kk J3 L3 (hP.mono (by omega))))
set_option maxHeartbeats 4000000 in
set_option maxRecDepth 100000 in
theorem lc_told {b : Nat} {dC : Nat → ClassId} {dI : Nat → Nat → Nat} {cA : Nat → ClassId} {ts : Nat → Nat} {l : Launch} {R : Nat → Nat → Option Nat} (hst : l.stackTraces = false) (hR : xRk R) {Qv : Option Value → xM → Prop} {i N c0 s0 : Nat} (hN : ts 91 = N) (hN4 : N ≤ 384) (hi : i + 6 ≤ N) (hc : c0 + 3 ≤ 600128) (hs : s0 + 18 ≤ 7301098) {bd : Int} (hb : 0 ≤ bd ∧ bd + 1300000 ≤ 2000000000) {J : zM} {L : yM} (h : PB bd J L) (kk : ∀ (J' : zM) (L' : yM), PB (bd + 1300000) J' L' → xJ (xGm b dC dI cA ts) l mL_law 600128 7301098 Qv (fun _ _ => False) (c0 + 3) (s0 + 18) 1689 (lsL i) [] false 553 R (zi J') (li L')) : xJ (xGm b dC dI cA ts) l mL_law 600128 7301098 Qv (fun _ _ => False) c0 s0 1621 (lsL i) [] false 553 R (zi J) (li L) := by
  refine xr_aload_n (xd dL_c_told 0 rfl) 1 rfl ?_
  refine xr_aload_n (xd dL_c_told 1 rfl) 0 rfl ?_
  refine xr_iload (xd dL_c_told 2 rfl) 4 rfl ?_
  refine xr_iconst (v := nI 1) (xd dL_c_told 3 rfl) (by decide) ?_
  refine xr_iadd (xd dL_c_told 4 rfl) ?_
  refine xr_eqi (nI (i + 1)) (nI_add _ _) ?_
  refine xr_sld (xd dL_c_told 5 rfl) (show i + 1 < ts 91 by omega) (show ts 91 < 2 ^ 31 by omega) ?_
  refine xr_aload_n (xd dL_c_told 6 rfl) 0 rfl ?_
  refine xr_iload (xd dL_c_told 7 rfl) 4 rfl ?_
  refine xr_iconst (v := nI 2) (xd dL_c_told 8 rfl) (by decide) ?_
  refine xr_iadd (xd dL_c_told 9 rfl) ?_
  refine xr_eqi (nI (i + 2)) (nI_add _ _) ?_
  refine xr_sld (xd dL_c_told 10 rfl) (show i + 2 < ts 91 by omega) (show ts 91 < 2 ^ 31 by omega) ?_
  refine xr_aload_n (xd dL_c_told 11 rfl) 3 rfl ?_
  refine xr_callH (st := []) mL_told hL_told 4 [.ref 0, .int (xsc (xGm b dC dI cA ts) (i + 1)), .int (xsc (xGm b dC dI cA ts) (i + 2)), .ref 552] (xd dL_c_told 12 rfl) (xt_6 (j := 200) (by decide +kernel) (by decide +kernel)) kL_told rfl ⟨by decide, by decide⟩ (Nat.le_of_ble_eq_true rfl) (wr_told hst hR hb h) (by omega) (by omega) (fun v M q => ?_)
  obtain ⟨k, J1, L1, hk, rfl, rfl, hq⟩ := q
  show xJ (xGm b dC dI cA ts) l mL_law 600128 7301098 Qv (fun _ _ => False) (c0 + 2) (s0 + 12) 1638 (lsL i) [.int (nI k)] false 553 R (zi J1) (li L1)
  refine xr_istore (i := 5) [(0, .ref 1000090), (1, .ref 0), (2, .ref 491), (3, .ref 552), (4, .int (nI i)), (5, .int (nI k))] (xd dL_c_told 13 rfl) (by decide) rfl ?_
  rcases hq with ⟨rfl, y0, hy0, hw⟩ | ⟨hk0, hw⟩
  · skip
    refine xr_aload_n (xd dL_c_told 14 rfl) 2 rfl ?_
    refine xr_aload_n (xd dL_c_told 15 rfl) 0 rfl ?_
    refine xr_iload (xd dL_c_told 16 rfl) 4 rfl ?_
    refine xr_iconst (v := nI 1) (xd dL_c_told 17 rfl) (by decide) ?_
    refine xr_iadd (xd dL_c_told 18 rfl) ?_
    refine xr_eqi (nI (i + 1)) (nI_add _ _) ?_
    refine xr_sld (xd dL_c_told 19 rfl) (show i + 1 < ts 91 by omega) (show ts 91 < 2 ^ 31 by omega) ?_
    refine xr_aload_n (xd dL_c_told 20 rfl) 0 rfl ?_
    refine xr_iload (xd dL_c_told 21 rfl) 4 rfl ?_
    refine xr_iconst (v := nI 2) (xd dL_c_told 22 rfl) (by decide) ?_
    refine xr_iadd (xd dL_c_told 23 rfl) ?_
    refine xr_eqi (nI (i + 2)) (nI_add _ _) ?_
    refine xr_sld (xd dL_c_told 24 rfl) (show i + 2 < ts 91 by omega) (show ts 91 < 2 ^ 31 by omega) ?_
    have c2 := v_X12_told (b := b) (dC := dC) (dI := dI) (cA := cA) (ts := ts) (l := l) (n := 553) (al := false) (by decide) hR hw
    simp only [oI_of] at c2
    refine xr_callV (st := []) mX12_told 2 [.int (xsc (xGm b dC dI cA ts) (i + 1)), .int (xsc (xGm b dC dI cA ts) (i + 2))] (b := 491) (cl := 12) (xd dL_c_told 25 rfl) (xt_9 (j := 201) (by decide +kernel) (by decide +kernel)) kX12_told rfl (by decide) kd_491' (by decide) rfl ⟨by decide, by decide⟩ (Nat.le_of_ble_eq_true rfl) c2 (by omega) (by omega) (fun v M q => ?_) (fun _ _ h => h.elim)
    obtain ⟨b2, J2, L2, rfl, rfl, hT, ⟨hy, hL⟩, hP⟩ := q
    show xJ (xGm b dC dI cA ts) l mL_law 600128 7301098 Qv (fun _ _ => False) (c0 + 2 + 0) (s0 + 12 + 0) 1656 [(0, .ref 1000090), (1, .ref 0), (2, .ref 491), (3, .ref 552), (4, .int (nI i)), (5, .int (nI 0))] [.int (oI b2)] false 553 R (zi J2) (li L2)
    refine xr_istore (i := 6) [(0, .ref 1000090), (1, .ref 0), (2, .ref 491), (3, .ref 552), (4, .int (nI i)), (5, .int (nI 0)), (6, .int (oI b2))] (xd dL_c_told 26 rfl) (by decide) rfl ?_
    refine xr_aload_n (xd dL_c_told 27 rfl) 2 rfl ?_
    refine xr_callV (st := []) mX12_thrown 0 [] (b := 491) (cl := 12) (xd dL_c_told 28 rfl) (xt_7 (j := 228) (by decide +kernel) (by decide +kernel)) kX12_thrown rfl (by decide) kd_491' (by decide) rfl ⟨by decide, by decide⟩ (Nat.le_of_ble_eq_true rfl) (v_X12_thrown (al := false) (by decide) hR (show w_X12_thrown J2 L2 (fun r J3 L3 => r = J2 491 0 ∧ J3 = J2 ∧ L3 = L2) from ⟨rfl, rfl, rfl⟩)) (by omega) (by omega) (fun v M q => ?_) (fun _ _ h => h.elim)
    obtain ⟨r, J3, L3, rfl, rfl, rfl, rfl, rfl⟩ := q
    rw [hT]
    show xJ (xGm b dC dI cA ts) l mL_law 600128 7301098 Qv (fun _ _ => False) (c0 + 2 + 0 + 0) (s0 + 12 + 0 + 0) 1662 [(0, .ref 1000090), (1, .ref 0), (2, .ref 491), (3, .ref 552), (4, .int (nI i)), (5, .int (nI 0)), (6, .int (oI b2))] [.int (nI 0)] false 553 R (zi J3) (li L3)
    refine xr_iload (xd dL_c_told 29 rfl) 5 rfl ?_
    refine xr_icmp_eq 1669 (xd dL_c_told 30 rfl) (by decide) (fun _ => ?_) (fun c => absurd rfl c)
    refine xr_iload (xd dL_c_told 33 rfl) 5 rfl ?_
    refine xr_if_ne 1686 (xd dL_c_told 34 rfl) (by decide) (fun c => absurd rfl c) (fun _ => ?_)
    refine xr_aload_n (xd dL_c_told 35 rfl) 3 rfl ?_
    refine xr_iconst (v := nI 0) (xd dL_c_told 36 rfl) (by decide) ?_
    refine xr_laload (x := (oI b2).toInt64) (xd dL_c_told 37 rfl) (by decide) kd_552 (by rw [show xln (xGm b dC dI cA ts) 552 = 1 from ln_552]; exact nI_in (by decide) (by decide)) (by rw [hy]; refine out_eq (L := L3) ?_; rw [hL]; exact hy0) ?_
    refine xr_iload (xd dL_c_told 38 rfl) 6 rfl ?_
    refine xr_i2l (xd dL_c_told 39 rfl) ?_
    refine xr_lcmp (xd dL_c_told 40 rfl) ?_
    refine xr_if_eq 1686 (xd dL_c_told 41 rfl) (by decide) (fun _ => ?_) (fun c => absurd (cmp_self _) c)
    refine xr_goto 1689 (xd dL_c_told 44 rfl) (by decide) ?_
    exact xJ.sub (lsL i) (fun q hq => lsL_2 hq) (xJ.wid (by omega) (by omega) (kk J3 L3 (hP.mono (by omega))))
  · skip
    refine xr_aload_n (xd dL_c_told 14 rfl) 2 rfl ?_
    refine xr_aload_n (xd dL_c_told 15 rfl) 0 rfl ?_
    refine xr_iload (xd dL_c_told 16 rfl) 4 rfl ?_
    refine xr_iconst (v := nI 1) (xd dL_c_told 17 rfl) (by decide) ?_
    refine xr_iadd (xd dL_c_told 18 rfl) ?_
    refine xr_eqi (nI (i + 1)) (nI_add _ _) ?_
    refine xr_sld (xd dL_c_told 19 rfl) (show i + 1 < ts 91 by omega) (show ts 91 < 2 ^ 31 by omega) ?_
    refine xr_aload_n (xd dL_c_told 20 rfl) 0 rfl ?_
    refine xr_iload (xd dL_c_told 21 rfl) 4 rfl ?_
    refine xr_iconst (v := nI 2) (xd dL_c_told 22 rfl) (by decide) ?_
    refine xr_iadd (xd dL_c_told 23 rfl) ?_
    refine xr_eqi (nI (i + 2)) (nI_add _ _) ?_
    refine xr_sld (xd dL_c_told 24 rfl) (show i + 2 < ts 91 by omega) (show ts 91 < 2 ^ 31 by omega) ?_
    have c2 := v_X12_told (b := b) (dC := dC) (dI := dI) (cA := cA) (ts := ts) (l := l) (n := 553) (al := false) (by decide) hR hw
    simp only [oI_of] at c2
    refine xr_callV (st := []) mX12_told 2 [.int (xsc (xGm b dC dI cA ts) (i + 1)), .int (xsc (xGm b dC dI cA ts) (i + 2))] (b := 491) (cl := 12) (xd dL_c_told 25 rfl) (xt_9 (j := 201) (by decide +kernel) (by decide +kernel)) kX12_told rfl (by decide) kd_491' (by decide) rfl ⟨by decide, by decide⟩ (Nat.le_of_ble_eq_true rfl) c2 (by omega) (by omega) (fun v M q => ?_) (fun _ _ h => h.elim)
    obtain ⟨b2, J2, L2, rfl, rfl, hT, -, hP⟩ := q
    show xJ (xGm b dC dI cA ts) l mL_law 600128 7301098 Qv (fun _ _ => False) (c0 + 2 + 0) (s0 + 12 + 0) 1656 [(0, .ref 1000090), (1, .ref 0), (2, .ref 491), (3, .ref 552), (4, .int (nI i)), (5, .int (nI k))] [.int (oI b2)] false 553 R (zi J2) (li L2)
    refine xr_istore (i := 6) [(0, .ref 1000090), (1, .ref 0), (2, .ref 491), (3, .ref 552), (4, .int (nI i)), (5, .int (nI k)), (6, .int (oI b2))] (xd dL_c_told 26 rfl) (by decide) rfl ?_
    refine xr_aload_n (xd dL_c_told 27 rfl) 2 rfl ?_
    refine xr_callV (st := []) mX12_thrown 0 [] (b := 491) (cl := 12) (xd dL_c_told 28 rfl) (xt_7 (j := 228) (by decide +kernel) (by decide +kernel)) kX12_thrown rfl (by decide) kd_491' (by decide) rfl ⟨by decide, by decide⟩ (Nat.le_of_ble_eq_true rfl) (v_X12_thrown (al := false) (by decide) hR (show w_X12_thrown J2 L2 (fun r J3 L3 => r = J2 491 0 ∧ J3 = J2 ∧ L3 = L2) from ⟨rfl, rfl, rfl⟩)) (by omega) (by omega) (fun v M q => ?_) (fun _ _ h => h.elim)
    obtain ⟨r, J3, L3, rfl, rfl, rfl, rfl, rfl⟩ := q
    rw [hT]
    show xJ (xGm b dC dI cA ts) l mL_law 600128 7301098 Qv (fun _ _ => False) (c0 + 2 + 0 + 0) (s0 + 12 + 0 + 0) 1662 [(0, .ref 1000090), (1, .ref 0), (2, .ref 491), (3, .ref 552), (4, .int (nI i)), (5, .int (nI k)), (6, .int (oI b2))] [.int (nI k)] false 553 R (zi J3) (li L3)
    refine xr_iload (xd dL_c_told 29 rfl) 5 rfl ?_
    refine xr_icmp_eq 1669 (xd dL_c_told 30 rfl) (by decide) (fun _ => ?_) (fun c => absurd rfl c)
    refine xr_iload (xd dL_c_told 33 rfl) 5 rfl ?_
    refine xr_if_ne 1686 (xd dL_c_told 34 rfl) (by decide) (fun _ => ?_) (fun c => absurd c (nI_ne0 (by omega) (by omega)))
    refine xr_goto 1689 (xd dL_c_told 44 rfl) (by decide) ?_
    exact xJ.sub (lsL i) (fun q hq => lsL_2 hq) (xJ.wid (by omega) (by omega) (kk J3 L3 (hP.mono (by omega))))
