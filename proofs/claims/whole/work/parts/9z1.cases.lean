abbrev lsL (i : Nat) : List (Nat × Value) := [(0, .ref 1000090), (1, .ref 0), (2, .ref 491), (3, .ref 552), (4, .int (nI i))]
theorem lsL_1 {i : Nat} {v : Value} {q : Nat × Value} (h : q ∈ lsL i) : q ∈ ([(0, .ref 1000090), (1, .ref 0), (2, .ref 491), (3, .ref 552), (4, .int (nI i)), (5, v)] : List (Nat × Value)) := List.mem_append_left [(5, v)] h
theorem lsL_2 {i : Nat} {v w : Value} {q : Nat × Value} (h : q ∈ lsL i) : q ∈ ([(0, .ref 1000090), (1, .ref 0), (2, .ref 491), (3, .ref 552), (4, .int (nI i)), (5, v), (6, w)] : List (Nat × Value)) := List.mem_append_left [(5, v), (6, w)] h
theorem kd_491' : kd0 491 = 12 := by decide +kernel
theorem i2n {a b : Int32} (h : a = b) : ¬ ¬ a = b := fun q => q h
theorem out_eq {L : yM} {y : Int} (h : L 552 0 = zi2l y) : li L 552 (nI 0).toNatClampNeg = (oI y).toInt64 := h
theorem cmp_self (x : Int64) : lg_cmp x x = 0 := by simp [lg_cmp]
set_option maxHeartbeats 4000000 in
set_option maxRecDepth 100000 in
theorem lc_make {b : Nat} {dC : Nat → ClassId} {dI : Nat → Nat → Nat} {cA : Nat → ClassId} {ts : Nat → Nat} {l : Launch} {R : Nat → Nat → Option Nat} (hst : l.stackTraces = false) (hR : xRk R) {Qv : Option Value → xM → Prop} {i N c0 s0 : Nat} (hN : ts 91 = N) (hN4 : N ≤ 384) (hi : i + 6 ≤ N) (hc : c0 + 3 ≤ 600128) (hs : s0 + 18 ≤ 7301098) {bd : Int} (hb : 0 ≤ bd ∧ bd + 1300000 ≤ 2000000000) {J : zM} {L : yM} (h : PB bd J L) (kk : ∀ (J' : zM) (L' : yM), PB (bd + 1300000) J' L' → xJ (xGm b dC dI cA ts) l mL_law 600128 7301098 Qv (fun _ _ => False) (c0 + 3) (s0 + 18) 1689 (lsL i) [] false 553 R (zi J') (li L')) : xJ (xGm b dC dI cA ts) l mL_law 600128 7301098 Qv (fun _ _ => False) c0 s0 148 (lsL i) [] false 553 R (zi J) (li L) := by
  refine xr_aload_n (xd dL_c_make 0 rfl) 1 rfl ?_
  refine xr_aload_n (xd dL_c_make 1 rfl) 0 rfl ?_
  refine xr_iload (xd dL_c_make 2 rfl) 4 rfl ?_
  refine xr_iconst (v := nI 1) (xd dL_c_make 3 rfl) (by decide) ?_
  refine xr_iadd (xd dL_c_make 4 rfl) ?_
  refine xr_eqi (nI (i + 1)) (nI_add _ _) ?_
  refine xr_sld (xd dL_c_make 5 rfl) (show i + 1 < ts 91 by omega) (show ts 91 < 2 ^ 31 by omega) ?_
  refine xr_aload_n (xd dL_c_make 6 rfl) 0 rfl ?_
  refine xr_iload (xd dL_c_make 7 rfl) 4 rfl ?_
  refine xr_iconst (v := nI 2) (xd dL_c_make 8 rfl) (by decide) ?_
  refine xr_iadd (xd dL_c_make 9 rfl) ?_
  refine xr_eqi (nI (i + 2)) (nI_add _ _) ?_
  refine xr_sld (xd dL_c_make 10 rfl) (show i + 2 < ts 91 by omega) (show ts 91 < 2 ^ 31 by omega) ?_
  refine xr_callH (st := []) mL_make hL_make 3 [.ref 0, .int (xsc (xGm b dC dI cA ts) (i + 1)), .int (xsc (xGm b dC dI cA ts) (i + 2))] (xd dL_c_make 11 rfl) (xt_3 (j := 238) (by decide +kernel) (by decide +kernel)) kL_make rfl ⟨by decide, by decide⟩ (Nat.le_of_ble_eq_true rfl) (wr_make hst hR hb h) (by omega) (by omega) (fun v M q => ?_)
  obtain ⟨k, J1, L1, hk, rfl, rfl, hq⟩ := q
  show xJ (xGm b dC dI cA ts) l mL_law 600128 7301098 Qv (fun _ _ => False) (c0 + 1) (s0 + 6) 164 (lsL i) [.int (nI k)] false 553 R (zi J1) (li L1)
  refine xr_istore (i := 5) [(0, .ref 1000090), (1, .ref 0), (2, .ref 491), (3, .ref 552), (4, .int (nI i)), (5, .int (nI k))] (xd dL_c_make 12 rfl) (by decide) rfl ?_
  have hw := hq
  refine xr_aload_n (xd dL_c_make 13 rfl) 2 rfl ?_
  refine xr_aload_n (xd dL_c_make 14 rfl) 0 rfl ?_
  refine xr_iload (xd dL_c_make 15 rfl) 4 rfl ?_
  refine xr_iconst (v := nI 1) (xd dL_c_make 16 rfl) (by decide) ?_
  refine xr_iadd (xd dL_c_make 17 rfl) ?_
  refine xr_eqi (nI (i + 1)) (nI_add _ _) ?_
  refine xr_sld (xd dL_c_make 18 rfl) (show i + 1 < ts 91 by omega) (show ts 91 < 2 ^ 31 by omega) ?_
  refine xr_aload_n (xd dL_c_make 19 rfl) 0 rfl ?_
  refine xr_iload (xd dL_c_make 20 rfl) 4 rfl ?_
  refine xr_iconst (v := nI 2) (xd dL_c_make 21 rfl) (by decide) ?_
  refine xr_iadd (xd dL_c_make 22 rfl) ?_
  refine xr_eqi (nI (i + 2)) (nI_add _ _) ?_
  refine xr_sld (xd dL_c_make 23 rfl) (show i + 2 < ts 91 by omega) (show ts 91 < 2 ^ 31 by omega) ?_
  have c2 := v_X12_make (b := b) (dC := dC) (dI := dI) (cA := cA) (ts := ts) (l := l) (n := 553) (al := false) (by decide) hR hw
  simp only [oI_of] at c2
  refine xr_callV (st := []) mX12_make 2 [.int (xsc (xGm b dC dI cA ts) (i + 1)), .int (xsc (xGm b dC dI cA ts) (i + 2))] (b := 491) (cl := 12) (xd dL_c_make 24 rfl) (xt_7 (j := 232) (by decide +kernel) (by decide +kernel)) kX12_make rfl (by decide) kd_491' (by decide) rfl ⟨by decide, by decide⟩ (Nat.le_of_ble_eq_true rfl) c2 (by omega) (by omega) (fun v M q => ?_) (fun _ _ h => h.elim)
  obtain ⟨J2, L2, rfl, rfl, hT, -, hP⟩ := q
  show xJ (xGm b dC dI cA ts) l mL_law 600128 7301098 Qv (fun _ _ => False) (c0 + 1 + 0) (s0 + 6 + 0) 182 [(0, .ref 1000090), (1, .ref 0), (2, .ref 491), (3, .ref 552), (4, .int (nI i)), (5, .int (nI k))] [] false 553 R (zi J2) (li L2)
  refine xr_aload_n (xd dL_c_make 25 rfl) 2 rfl ?_
  refine xr_callV (st := []) mX12_thrown 0 [] (b := 491) (cl := 12) (xd dL_c_make 26 rfl) (xt_7 (j := 228) (by decide +kernel) (by decide +kernel)) kX12_thrown rfl (by decide) kd_491' (by decide) rfl ⟨by decide, by decide⟩ (Nat.le_of_ble_eq_true rfl) (v_X12_thrown (al := false) (by decide) hR (show w_X12_thrown J2 L2 (fun r J3 L3 => r = J2 491 0 ∧ J3 = J2 ∧ L3 = L2) from ⟨rfl, rfl, rfl⟩)) (by omega) (by omega) (fun v M q => ?_) (fun _ _ h => h.elim)
  obtain ⟨r, J3, L3, rfl, rfl, rfl, rfl, rfl⟩ := q
  rw [hT]
  show xJ (xGm b dC dI cA ts) l mL_law 600128 7301098 Qv (fun _ _ => False) (c0 + 1 + 0 + 0) (s0 + 6 + 0 + 0) 186 [(0, .ref 1000090), (1, .ref 0), (2, .ref 491), (3, .ref 552), (4, .int (nI i)), (5, .int (nI k))] [.int (nI k)] false 553 R (zi J3) (li L3)
  refine xr_iload (xd dL_c_make 27 rfl) 5 rfl ?_
  refine xr_icmp_eq 193 (xd dL_c_make 28 rfl) (by decide) (fun _ => ?_) (fun c => absurd rfl c)
  refine xr_goto 1689 (xd dL_c_make 31 rfl) (by decide) ?_
  exact xJ.sub (lsL i) (fun q hq => lsL_1 hq) (xJ.wid (by omega) (by omega) (kk J3 L3 (hP.mono (by omega))))
set_option maxHeartbeats 4000000 in
set_option maxRecDepth 100000 in
theorem lc_key {b : Nat} {dC : Nat → ClassId} {dI : Nat → Nat → Nat} {cA : Nat → ClassId} {ts : Nat → Nat} {l : Launch} {R : Nat → Nat → Option Nat} (hst : l.stackTraces = false) (hR : xRk R) {Qv : Option Value → xM → Prop} {i N c0 s0 : Nat} (hN : ts 91 = N) (hN4 : N ≤ 384) (hi : i + 6 ≤ N) (hc : c0 + 3 ≤ 600128) (hs : s0 + 18 ≤ 7301098) {bd : Int} (hb : 0 ≤ bd ∧ bd + 1300000 ≤ 2000000000) {J : zM} {L : yM} (h : PB bd J L) (kk : ∀ (J' : zM) (L' : yM), PB (bd + 1300000) J' L' → xJ (xGm b dC dI cA ts) l mL_law 600128 7301098 Qv (fun _ _ => False) (c0 + 3) (s0 + 18) 1689 (lsL i) [] false 553 R (zi J') (li L')) : xJ (xGm b dC dI cA ts) l mL_law 600128 7301098 Qv (fun _ _ => False) c0 s0 196 (lsL i) [] false 553 R (zi J) (li L) := by
  refine xr_aload_n (xd dL_c_key 0 rfl) 1 rfl ?_
  refine xr_aload_n (xd dL_c_key 1 rfl) 0 rfl ?_
  refine xr_iload (xd dL_c_key 2 rfl) 4 rfl ?_
  refine xr_iconst (v := nI 1) (xd dL_c_key 3 rfl) (by decide) ?_
  refine xr_iadd (xd dL_c_key 4 rfl) ?_
  refine xr_eqi (nI (i + 1)) (nI_add _ _) ?_
  refine xr_sld (xd dL_c_key 5 rfl) (show i + 1 < ts 91 by omega) (show ts 91 < 2 ^ 31 by omega) ?_
  refine xr_aload_n (xd dL_c_key 6 rfl) 0 rfl ?_
  refine xr_iload (xd dL_c_key 7 rfl) 4 rfl ?_
  refine xr_iconst (v := nI 2) (xd dL_c_key 8 rfl) (by decide) ?_
  refine xr_iadd (xd dL_c_key 9 rfl) ?_
  refine xr_eqi (nI (i + 2)) (nI_add _ _) ?_
  refine xr_sld (xd dL_c_key 10 rfl) (show i + 2 < ts 91 by omega) (show ts 91 < 2 ^ 31 by omega) ?_
  refine xr_i2l (xd dL_c_key 11 rfl) ?_
  refine xr_bipush (v := 32) (xd dL_c_key 12 rfl) (by decide) ?_
  refine xr_lshl (xd dL_c_key 13 rfl) ?_
  refine xr_aload_n (xd dL_c_key 14 rfl) 0 rfl ?_
  refine xr_iload (xd dL_c_key 15 rfl) 4 rfl ?_
  refine xr_iconst (v := nI 3) (xd dL_c_key 16 rfl) (by decide) ?_
  refine xr_iadd (xd dL_c_key 17 rfl) ?_
  refine xr_eqi (nI (i + 3)) (nI_add _ _) ?_
  refine xr_sld (xd dL_c_key 18 rfl) (show i + 3 < ts 91 by omega) (show ts 91 < 2 ^ 31 by omega) ?_
  refine xr_i2l (xd dL_c_key 19 rfl) ?_
  refine xr_ldc2_w (v := 4294967295) (xd dL_c_key 20 rfl) (xt_9 (j := 205) (by decide +kernel) (by decide +kernel)) ?_
  refine xr_land (xd dL_c_key 21 rfl) ?_
  refine xr_lor (xd dL_c_key 22 rfl) ?_
  refine xr_aload_n (xd dL_c_key 23 rfl) 0 rfl ?_
  refine xr_iload (xd dL_c_key 24 rfl) 4 rfl ?_
  refine xr_iconst (v := nI 4) (xd dL_c_key 25 rfl) (by decide) ?_
  refine xr_iadd (xd dL_c_key 26 rfl) ?_
  refine xr_eqi (nI (i + 4)) (nI_add _ _) ?_
  refine xr_sld (xd dL_c_key 27 rfl) (show i + 4 < ts 91 by omega) (show ts 91 < 2 ^ 31 by omega) ?_
  refine xr_i2l (xd dL_c_key 28 rfl) ?_
  refine xr_bipush (v := 32) (xd dL_c_key 29 rfl) (by decide) ?_
  refine xr_lshl (xd dL_c_key 30 rfl) ?_
  refine xr_aload_n (xd dL_c_key 31 rfl) 0 rfl ?_
  refine xr_iload (xd dL_c_key 32 rfl) 4 rfl ?_
  refine xr_iconst (v := nI 5) (xd dL_c_key 33 rfl) (by decide) ?_
  refine xr_iadd (xd dL_c_key 34 rfl) ?_
  refine xr_eqi (nI (i + 5)) (nI_add _ _) ?_
  refine xr_sld (xd dL_c_key 35 rfl) (show i + 5 < ts 91 by omega) (show ts 91 < 2 ^ 31 by omega) ?_
  refine xr_i2l (xd dL_c_key 36 rfl) ?_
  refine xr_ldc2_w (v := 4294967295) (xd dL_c_key 37 rfl) (xt_9 (j := 205) (by decide +kernel) (by decide +kernel)) ?_
  refine xr_land (xd dL_c_key 38 rfl) ?_
  refine xr_lor (xd dL_c_key 39 rfl) ?_
  refine xr_callH (st := []) mL_key hL_key 4 [.ref 0, .int (xsc (xGm b dC dI cA ts) (i + 1)), .long (((xsc (xGm b dC dI cA ts) (i + 2)).toInt64 <<< ((32 : Int32).toInt64 &&& 63)) ||| (((xsc (xGm b dC dI cA ts) (i + 3)).toInt64) &&& 4294967295)), .long (((xsc (xGm b dC dI cA ts) (i + 4)).toInt64 <<< ((32 : Int32).toInt64 &&& 63)) ||| (((xsc (xGm b dC dI cA ts) (i + 5)).toInt64) &&& 4294967295))] (xd dL_c_key 40 rfl) (xt_4 (j := 75) (by decide +kernel) (by decide +kernel)) kL_key rfl ⟨by decide, by decide⟩ (Nat.le_of_ble_eq_true rfl) (wr_key hst hR hb h) (by omega) (by omega) (fun v M q => ?_)
  obtain ⟨k, J1, L1, hk, rfl, rfl, hq⟩ := q
  show xJ (xGm b dC dI cA ts) l mL_law 600128 7301098 Qv (fun _ _ => False) (c0 + 2) (s0 + 12) 250 (lsL i) [.int (nI k)] false 553 R (zi J1) (li L1)
  refine xr_istore (i := 5) [(0, .ref 1000090), (1, .ref 0), (2, .ref 491), (3, .ref 552), (4, .int (nI i)), (5, .int (nI k))] (xd dL_c_key 41 rfl) (by decide) rfl ?_
  have hw := hq
  refine xr_aload_n (xd dL_c_key 42 rfl) 2 rfl ?_
  refine xr_aload_n (xd dL_c_key 43 rfl) 0 rfl ?_
  refine xr_iload (xd dL_c_key 44 rfl) 4 rfl ?_
  refine xr_iconst (v := nI 1) (xd dL_c_key 45 rfl) (by decide) ?_
  refine xr_iadd (xd dL_c_key 46 rfl) ?_
  refine xr_eqi (nI (i + 1)) (nI_add _ _) ?_
  refine xr_sld (xd dL_c_key 47 rfl) (show i + 1 < ts 91 by omega) (show ts 91 < 2 ^ 31 by omega) ?_
  refine xr_aload_n (xd dL_c_key 48 rfl) 0 rfl ?_
  refine xr_iload (xd dL_c_key 49 rfl) 4 rfl ?_
  refine xr_iconst (v := nI 2) (xd dL_c_key 50 rfl) (by decide) ?_
  refine xr_iadd (xd dL_c_key 51 rfl) ?_
  refine xr_eqi (nI (i + 2)) (nI_add _ _) ?_
  refine xr_sld (xd dL_c_key 52 rfl) (show i + 2 < ts 91 by omega) (show ts 91 < 2 ^ 31 by omega) ?_
  refine xr_i2l (xd dL_c_key 53 rfl) ?_
  refine xr_bipush (v := 32) (xd dL_c_key 54 rfl) (by decide) ?_
  refine xr_lshl (xd dL_c_key 55 rfl) ?_
  refine xr_aload_n (xd dL_c_key 56 rfl) 0 rfl ?_
  refine xr_iload (xd dL_c_key 57 rfl) 4 rfl ?_
  refine xr_iconst (v := nI 3) (xd dL_c_key 58 rfl) (by decide) ?_
  refine xr_iadd (xd dL_c_key 59 rfl) ?_
  refine xr_eqi (nI (i + 3)) (nI_add _ _) ?_
  refine xr_sld (xd dL_c_key 60 rfl) (show i + 3 < ts 91 by omega) (show ts 91 < 2 ^ 31 by omega) ?_
  refine xr_i2l (xd dL_c_key 61 rfl) ?_
  refine xr_ldc2_w (v := 4294967295) (xd dL_c_key 62 rfl) (xt_9 (j := 205) (by decide +kernel) (by decide +kernel)) ?_
  refine xr_land (xd dL_c_key 63 rfl) ?_
  refine xr_lor (xd dL_c_key 64 rfl) ?_
  refine xr_aload_n (xd dL_c_key 65 rfl) 0 rfl ?_
  refine xr_iload (xd dL_c_key 66 rfl) 4 rfl ?_
  refine xr_iconst (v := nI 4) (xd dL_c_key 67 rfl) (by decide) ?_
  refine xr_iadd (xd dL_c_key 68 rfl) ?_
  refine xr_eqi (nI (i + 4)) (nI_add _ _) ?_
  refine xr_sld (xd dL_c_key 69 rfl) (show i + 4 < ts 91 by omega) (show ts 91 < 2 ^ 31 by omega) ?_
  refine xr_i2l (xd dL_c_key 70 rfl) ?_
  refine xr_bipush (v := 32) (xd dL_c_key 71 rfl) (by decide) ?_
  refine xr_lshl (xd dL_c_key 72 rfl) ?_
  refine xr_aload_n (xd dL_c_key 73 rfl) 0 rfl ?_
  refine xr_iload (xd dL_c_key 74 rfl) 4 rfl ?_
  refine xr_iconst (v := nI 5) (xd dL_c_key 75 rfl) (by decide) ?_
  refine xr_iadd (xd dL_c_key 76 rfl) ?_
  refine xr_eqi (nI (i + 5)) (nI_add _ _) ?_
  refine xr_sld (xd dL_c_key 77 rfl) (show i + 5 < ts 91 by omega) (show ts 91 < 2 ^ 31 by omega) ?_
  refine xr_i2l (xd dL_c_key 78 rfl) ?_
  refine xr_ldc2_w (v := 4294967295) (xd dL_c_key 79 rfl) (xt_9 (j := 205) (by decide +kernel) (by decide +kernel)) ?_
  refine xr_land (xd dL_c_key 80 rfl) ?_
  refine xr_lor (xd dL_c_key 81 rfl) ?_
  have c2 := v_X12_key (b := b) (dC := dC) (dI := dI) (cA := cA) (ts := ts) (l := l) (n := 553) (al := false) (by decide) hR hw
  simp only [oI_of] at c2
  refine xr_callV (st := []) mX12_key 3 [.int (xsc (xGm b dC dI cA ts) (i + 1)), .long (((xsc (xGm b dC dI cA ts) (i + 2)).toInt64 <<< ((32 : Int32).toInt64 &&& 63)) ||| (((xsc (xGm b dC dI cA ts) (i + 3)).toInt64) &&& 4294967295)), .long (((xsc (xGm b dC dI cA ts) (i + 4)).toInt64 <<< ((32 : Int32).toInt64 &&& 63)) ||| (((xsc (xGm b dC dI cA ts) (i + 5)).toInt64) &&& 4294967295))] (b := 491) (cl := 12) (xd dL_c_key 82 rfl) (xt_9 (j := 118) (by decide +kernel) (by decide +kernel)) kX12_key rfl (by decide) kd_491' (by decide) rfl ⟨by decide, by decide⟩ (Nat.le_of_ble_eq_true rfl) c2 (by omega) (by omega) (fun v M q => ?_) (fun _ _ h => h.elim)
  obtain ⟨J2, L2, rfl, rfl, hT, -, hP⟩ := q
  show xJ (xGm b dC dI cA ts) l mL_law 600128 7301098 Qv (fun _ _ => False) (c0 + 2 + 0) (s0 + 12 + 0) 306 [(0, .ref 1000090), (1, .ref 0), (2, .ref 491), (3, .ref 552), (4, .int (nI i)), (5, .int (nI k))] [] false 553 R (zi J2) (li L2)
  refine xr_aload_n (xd dL_c_key 83 rfl) 2 rfl ?_
  refine xr_callV (st := []) mX12_thrown 0 [] (b := 491) (cl := 12) (xd dL_c_key 84 rfl) (xt_7 (j := 228) (by decide +kernel) (by decide +kernel)) kX12_thrown rfl (by decide) kd_491' (by decide) rfl ⟨by decide, by decide⟩ (Nat.le_of_ble_eq_true rfl) (v_X12_thrown (al := false) (by decide) hR (show w_X12_thrown J2 L2 (fun r J3 L3 => r = J2 491 0 ∧ J3 = J2 ∧ L3 = L2) from ⟨rfl, rfl, rfl⟩)) (by omega) (by omega) (fun v M q => ?_) (fun _ _ h => h.elim)
  obtain ⟨r, J3, L3, rfl, rfl, rfl, rfl, rfl⟩ := q
  rw [hT]
  show xJ (xGm b dC dI cA ts) l mL_law 600128 7301098 Qv (fun _ _ => False) (c0 + 2 + 0 + 0) (s0 + 12 + 0 + 0) 310 [(0, .ref 1000090), (1, .ref 0), (2, .ref 491), (3, .ref 552), (4, .int (nI i)), (5, .int (nI k))] [.int (nI k)] false 553 R (zi J3) (li L3)
  refine xr_iload (xd dL_c_key 85 rfl) 5 rfl ?_
  refine xr_icmp_eq 317 (xd dL_c_key 86 rfl) (by decide) (fun _ => ?_) (fun c => absurd rfl c)
  refine xr_goto 1689 (xd dL_c_key 89 rfl) (by decide) ?_
  exact xJ.sub (lsL i) (fun q hq => lsL_1 hq) (xJ.wid (by omega) (by omega) (kk J3 L3 (hP.mono (by omega))))
set_option maxHeartbeats 4000000 in
set_option maxRecDepth 100000 in
theorem lc_name {b : Nat} {dC : Nat → ClassId} {dI : Nat → Nat → Nat} {cA : Nat → ClassId} {ts : Nat → Nat} {l : Launch} {R : Nat → Nat → Option Nat} (hst : l.stackTraces = false) (hR : xRk R) {Qv : Option Value → xM → Prop} {i N c0 s0 : Nat} (hN : ts 91 = N) (hN4 : N ≤ 384) (hi : i + 6 ≤ N) (hc : c0 + 3 ≤ 600128) (hs : s0 + 18 ≤ 7301098) {bd : Int} (hb : 0 ≤ bd ∧ bd + 1300000 ≤ 2000000000) {J : zM} {L : yM} (h : PB bd J L) (kk : ∀ (J' : zM) (L' : yM), PB (bd + 1300000) J' L' → xJ (xGm b dC dI cA ts) l mL_law 600128 7301098 Qv (fun _ _ => False) (c0 + 3) (s0 + 18) 1689 (lsL i) [] false 553 R (zi J') (li L')) : xJ (xGm b dC dI cA ts) l mL_law 600128 7301098 Qv (fun _ _ => False) c0 s0 320 (lsL i) [] false 553 R (zi J) (li L) := by
  refine xr_aload_n (xd dL_c_name 0 rfl) 1 rfl ?_
  refine xr_aload_n (xd dL_c_name 1 rfl) 0 rfl ?_
  refine xr_iload (xd dL_c_name 2 rfl) 4 rfl ?_
  refine xr_iconst (v := nI 1) (xd dL_c_name 3 rfl) (by decide) ?_
  refine xr_iadd (xd dL_c_name 4 rfl) ?_
  refine xr_eqi (nI (i + 1)) (nI_add _ _) ?_
  refine xr_sld (xd dL_c_name 5 rfl) (show i + 1 < ts 91 by omega) (show ts 91 < 2 ^ 31 by omega) ?_
  refine xr_aload_n (xd dL_c_name 6 rfl) 0 rfl ?_
  refine xr_iload (xd dL_c_name 7 rfl) 4 rfl ?_
  refine xr_iconst (v := nI 2) (xd dL_c_name 8 rfl) (by decide) ?_
  refine xr_iadd (xd dL_c_name 9 rfl) ?_
  refine xr_eqi (nI (i + 2)) (nI_add _ _) ?_
  refine xr_sld (xd dL_c_name 10 rfl) (show i + 2 < ts 91 by omega) (show ts 91 < 2 ^ 31 by omega) ?_
  refine xr_i2l (xd dL_c_name 11 rfl) ?_
  refine xr_bipush (v := 32) (xd dL_c_name 12 rfl) (by decide) ?_
  refine xr_lshl (xd dL_c_name 13 rfl) ?_
  refine xr_aload_n (xd dL_c_name 14 rfl) 0 rfl ?_
  refine xr_iload (xd dL_c_name 15 rfl) 4 rfl ?_
  refine xr_iconst (v := nI 3) (xd dL_c_name 16 rfl) (by decide) ?_
  refine xr_iadd (xd dL_c_name 17 rfl) ?_
  refine xr_eqi (nI (i + 3)) (nI_add _ _) ?_
  refine xr_sld (xd dL_c_name 18 rfl) (show i + 3 < ts 91 by omega) (show ts 91 < 2 ^ 31 by omega) ?_
  refine xr_i2l (xd dL_c_name 19 rfl) ?_
  refine xr_ldc2_w (v := 4294967295) (xd dL_c_name 20 rfl) (xt_9 (j := 205) (by decide +kernel) (by decide +kernel)) ?_
  refine xr_land (xd dL_c_name 21 rfl) ?_
  refine xr_lor (xd dL_c_name 22 rfl) ?_
  refine xr_aload_n (xd dL_c_name 23 rfl) 0 rfl ?_
  refine xr_iload (xd dL_c_name 24 rfl) 4 rfl ?_
  refine xr_iconst (v := nI 4) (xd dL_c_name 25 rfl) (by decide) ?_
  refine xr_iadd (xd dL_c_name 26 rfl) ?_
  refine xr_eqi (nI (i + 4)) (nI_add _ _) ?_
  refine xr_sld (xd dL_c_name 27 rfl) (show i + 4 < ts 91 by omega) (show ts 91 < 2 ^ 31 by omega) ?_
  refine xr_i2l (xd dL_c_name 28 rfl) ?_
  refine xr_bipush (v := 32) (xd dL_c_name 29 rfl) (by decide) ?_
  refine xr_lshl (xd dL_c_name 30 rfl) ?_
  refine xr_aload_n (xd dL_c_name 31 rfl) 0 rfl ?_
  refine xr_iload (xd dL_c_name 32 rfl) 4 rfl ?_
  refine xr_iconst (v := nI 5) (xd dL_c_name 33 rfl) (by decide) ?_
  refine xr_iadd (xd dL_c_name 34 rfl) ?_
  refine xr_eqi (nI (i + 5)) (nI_add _ _) ?_
  refine xr_sld (xd dL_c_name 35 rfl) (show i + 5 < ts 91 by omega) (show ts 91 < 2 ^ 31 by omega) ?_
  refine xr_i2l (xd dL_c_name 36 rfl) ?_
  refine xr_ldc2_w (v := 4294967295) (xd dL_c_name 37 rfl) (xt_9 (j := 205) (by decide +kernel) (by decide +kernel)) ?_
  refine xr_land (xd dL_c_name 38 rfl) ?_
  refine xr_lor (xd dL_c_name 39 rfl) ?_
  refine xr_callH (st := []) mL_name hL_name 4 [.ref 0, .int (xsc (xGm b dC dI cA ts) (i + 1)), .long (((xsc (xGm b dC dI cA ts) (i + 2)).toInt64 <<< ((32 : Int32).toInt64 &&& 63)) ||| (((xsc (xGm b dC dI cA ts) (i + 3)).toInt64) &&& 4294967295)), .long (((xsc (xGm b dC dI cA ts) (i + 4)).toInt64 <<< ((32 : Int32).toInt64 &&& 63)) ||| (((xsc (xGm b dC dI cA ts) (i + 5)).toInt64) &&& 4294967295))] (xd dL_c_name 40 rfl) (xt_4 (j := 125) (by decide +kernel) (by decide +kernel)) kL_name rfl ⟨by decide, by decide⟩ (Nat.le_of_ble_eq_true rfl) (wr_name hst hR hb h) (by omega) (by omega) (fun v M q => ?_)
  obtain ⟨k, J1, L1, hk, rfl, rfl, hq⟩ := q
  show xJ (xGm b dC dI cA ts) l mL_law 600128 7301098 Qv (fun _ _ => False) (c0 + 2) (s0 + 12) 374 (lsL i) [.int (nI k)] false 553 R (zi J1) (li L1)
  refine xr_istore (i := 5) [(0, .ref 1000090), (1, .ref 0), (2, .ref 491), (3, .ref 552), (4, .int (nI i)), (5, .int (nI k))] (xd dL_c_name 41 rfl) (by decide) rfl ?_
  have hw := hq
  refine xr_aload_n (xd dL_c_name 42 rfl) 2 rfl ?_
  refine xr_aload_n (xd dL_c_name 43 rfl) 0 rfl ?_
  refine xr_iload (xd dL_c_name 44 rfl) 4 rfl ?_
  refine xr_iconst (v := nI 1) (xd dL_c_name 45 rfl) (by decide) ?_
  refine xr_iadd (xd dL_c_name 46 rfl) ?_
  refine xr_eqi (nI (i + 1)) (nI_add _ _) ?_
  refine xr_sld (xd dL_c_name 47 rfl) (show i + 1 < ts 91 by omega) (show ts 91 < 2 ^ 31 by omega) ?_
  refine xr_aload_n (xd dL_c_name 48 rfl) 0 rfl ?_
  refine xr_iload (xd dL_c_name 49 rfl) 4 rfl ?_
  refine xr_iconst (v := nI 2) (xd dL_c_name 50 rfl) (by decide) ?_
  refine xr_iadd (xd dL_c_name 51 rfl) ?_
  refine xr_eqi (nI (i + 2)) (nI_add _ _) ?_
  refine xr_sld (xd dL_c_name 52 rfl) (show i + 2 < ts 91 by omega) (show ts 91 < 2 ^ 31 by omega) ?_
  refine xr_i2l (xd dL_c_name 53 rfl) ?_
  refine xr_bipush (v := 32) (xd dL_c_name 54 rfl) (by decide) ?_
  refine xr_lshl (xd dL_c_name 55 rfl) ?_
  refine xr_aload_n (xd dL_c_name 56 rfl) 0 rfl ?_
  refine xr_iload (xd dL_c_name 57 rfl) 4 rfl ?_
  refine xr_iconst (v := nI 3) (xd dL_c_name 58 rfl) (by decide) ?_
  refine xr_iadd (xd dL_c_name 59 rfl) ?_
  refine xr_eqi (nI (i + 3)) (nI_add _ _) ?_
  refine xr_sld (xd dL_c_name 60 rfl) (show i + 3 < ts 91 by omega) (show ts 91 < 2 ^ 31 by omega) ?_
  refine xr_i2l (xd dL_c_name 61 rfl) ?_
  refine xr_ldc2_w (v := 4294967295) (xd dL_c_name 62 rfl) (xt_9 (j := 205) (by decide +kernel) (by decide +kernel)) ?_
  refine xr_land (xd dL_c_name 63 rfl) ?_
  refine xr_lor (xd dL_c_name 64 rfl) ?_
  refine xr_aload_n (xd dL_c_name 65 rfl) 0 rfl ?_
  refine xr_iload (xd dL_c_name 66 rfl) 4 rfl ?_
  refine xr_iconst (v := nI 4) (xd dL_c_name 67 rfl) (by decide) ?_
  refine xr_iadd (xd dL_c_name 68 rfl) ?_
  refine xr_eqi (nI (i + 4)) (nI_add _ _) ?_
  refine xr_sld (xd dL_c_name 69 rfl) (show i + 4 < ts 91 by omega) (show ts 91 < 2 ^ 31 by omega) ?_
  refine xr_i2l (xd dL_c_name 70 rfl) ?_
  refine xr_bipush (v := 32) (xd dL_c_name 71 rfl) (by decide) ?_
  refine xr_lshl (xd dL_c_name 72 rfl) ?_
  refine xr_aload_n (xd dL_c_name 73 rfl) 0 rfl ?_
  refine xr_iload (xd dL_c_name 74 rfl) 4 rfl ?_
  refine xr_iconst (v := nI 5) (xd dL_c_name 75 rfl) (by decide) ?_
  refine xr_iadd (xd dL_c_name 76 rfl) ?_
  refine xr_eqi (nI (i + 5)) (nI_add _ _) ?_
  refine xr_sld (xd dL_c_name 77 rfl) (show i + 5 < ts 91 by omega) (show ts 91 < 2 ^ 31 by omega) ?_
  refine xr_i2l (xd dL_c_name 78 rfl) ?_
  refine xr_ldc2_w (v := 4294967295) (xd dL_c_name 79 rfl) (xt_9 (j := 205) (by decide +kernel) (by decide +kernel)) ?_
  refine xr_land (xd dL_c_name 80 rfl) ?_
  refine xr_lor (xd dL_c_name 81 rfl) ?_
  have c2 := v_X12_name (b := b) (dC := dC) (dI := dI) (cA := cA) (ts := ts) (l := l) (n := 553) (al := false) (by decide) hR hw
  simp only [oI_of] at c2
  refine xr_callV (st := []) mX12_name 3 [.int (xsc (xGm b dC dI cA ts) (i + 1)), .long (((xsc (xGm b dC dI cA ts) (i + 2)).toInt64 <<< ((32 : Int32).toInt64 &&& 63)) ||| (((xsc (xGm b dC dI cA ts) (i + 3)).toInt64) &&& 4294967295)), .long (((xsc (xGm b dC dI cA ts) (i + 4)).toInt64 <<< ((32 : Int32).toInt64 &&& 63)) ||| (((xsc (xGm b dC dI cA ts) (i + 5)).toInt64) &&& 4294967295))] (b := 491) (cl := 12) (xd dL_c_name 82 rfl) (xt_9 (j := 125) (by decide +kernel) (by decide +kernel)) kX12_name rfl (by decide) kd_491' (by decide) rfl ⟨by decide, by decide⟩ (Nat.le_of_ble_eq_true rfl) c2 (by omega) (by omega) (fun v M q => ?_) (fun _ _ h => h.elim)
  obtain ⟨J2, L2, rfl, rfl, hT, -, hP⟩ := q
  show xJ (xGm b dC dI cA ts) l mL_law 600128 7301098 Qv (fun _ _ => False) (c0 + 2 + 0) (s0 + 12 + 0) 430 [(0, .ref 1000090), (1, .ref 0), (2, .ref 491), (3, .ref 552), (4, .int (nI i)), (5, .int (nI k))] [] false 553 R (zi J2) (li L2)
  refine xr_aload_n (xd dL_c_name 83 rfl) 2 rfl ?_
  refine xr_callV (st := []) mX12_thrown 0 [] (b := 491) (cl := 12) (xd dL_c_name 84 rfl) (xt_7 (j := 228) (by decide +kernel) (by decide +kernel)) kX12_thrown rfl (by decide) kd_491' (by decide) rfl ⟨by decide, by decide⟩ (Nat.le_of_ble_eq_true rfl) (v_X12_thrown (al := false) (by decide) hR (show w_X12_thrown J2 L2 (fun r J3 L3 => r = J2 491 0 ∧ J3 = J2 ∧ L3 = L2) from ⟨rfl, rfl, rfl⟩)) (by omega) (by omega) (fun v M q => ?_) (fun _ _ h => h.elim)
  obtain ⟨r, J3, L3, rfl, rfl, rfl, rfl, rfl⟩ := q
  rw [hT]
  show xJ (xGm b dC dI cA ts) l mL_law 600128 7301098 Qv (fun _ _ => False) (c0 + 2 + 0 + 0) (s0 + 12 + 0 + 0) 434 [(0, .ref 1000090), (1, .ref 0), (2, .ref 491), (3, .ref 552), (4, .int (nI i)), (5, .int (nI k))] [.int (nI k)] false 553 R (zi J3) (li L3)
  refine xr_iload (xd dL_c_name 85 rfl) 5 rfl ?_
  refine xr_icmp_eq 441 (xd dL_c_name 86 rfl) (by decide) (fun _ => ?_) (fun c => absurd rfl c)
  refine xr_goto 1689 (xd dL_c_name 89 rfl) (by decide) ?_
  exact xJ.sub (lsL i) (fun q hq => lsL_1 hq) (xJ.wid (by omega) (by omega) (kk J3 L3 (hP.mono (by omega))))
set_option maxHeartbeats 4000000 in
set_option maxRecDepth 100000 in
theorem lc_draft {b : Nat} {dC : Nat → ClassId} {dI : Nat → Nat → Nat} {cA : Nat → ClassId} {ts : Nat → Nat} {l : Launch} {R : Nat → Nat → Option Nat} (hst : l.stackTraces = false) (hR : xRk R) {Qv : Option Value → xM → Prop} {i N c0 s0 : Nat} (hN : ts 91 = N) (hN4 : N ≤ 384) (hi : i + 6 ≤ N) (hc : c0 + 3 ≤ 600128) (hs : s0 + 18 ≤ 7301098) {bd : Int} (hb : 0 ≤ bd ∧ bd + 1300000 ≤ 2000000000) {J : zM} {L : yM} (h : PB bd J L) (kk : ∀ (J' : zM) (L' : yM), PB (bd + 1300000) J' L' → xJ (xGm b dC dI cA ts) l mL_law 600128 7301098 Qv (fun _ _ => False) (c0 + 3) (s0 + 18) 1689 (lsL i) [] false 553 R (zi J') (li L')) : xJ (xGm b dC dI cA ts) l mL_law 600128 7301098 Qv (fun _ _ => False) c0 s0 444 (lsL i) [] false 553 R (zi J) (li L) := by
  refine xr_aload_n (xd dL_c_draft 0 rfl) 1 rfl ?_
  refine xr_aload_n (xd dL_c_draft 1 rfl) 0 rfl ?_
  refine xr_iload (xd dL_c_draft 2 rfl) 4 rfl ?_
  refine xr_iconst (v := nI 1) (xd dL_c_draft 3 rfl) (by decide) ?_
  refine xr_iadd (xd dL_c_draft 4 rfl) ?_
  refine xr_eqi (nI (i + 1)) (nI_add _ _) ?_
  refine xr_sld (xd dL_c_draft 5 rfl) (show i + 1 < ts 91 by omega) (show ts 91 < 2 ^ 31 by omega) ?_
  refine xr_aload_n (xd dL_c_draft 6 rfl) 0 rfl ?_
  refine xr_iload (xd dL_c_draft 7 rfl) 4 rfl ?_
  refine xr_iconst (v := nI 2) (xd dL_c_draft 8 rfl) (by decide) ?_
  refine xr_iadd (xd dL_c_draft 9 rfl) ?_
  refine xr_eqi (nI (i + 2)) (nI_add _ _) ?_
  refine xr_sld (xd dL_c_draft 10 rfl) (show i + 2 < ts 91 by omega) (show ts 91 < 2 ^ 31 by omega) ?_
  refine xr_i2l (xd dL_c_draft 11 rfl) ?_
  refine xr_bipush (v := 32) (xd dL_c_draft 12 rfl) (by decide) ?_
  refine xr_lshl (xd dL_c_draft 13 rfl) ?_
  refine xr_aload_n (xd dL_c_draft 14 rfl) 0 rfl ?_
  refine xr_iload (xd dL_c_draft 15 rfl) 4 rfl ?_
  refine xr_iconst (v := nI 3) (xd dL_c_draft 16 rfl) (by decide) ?_
  refine xr_iadd (xd dL_c_draft 17 rfl) ?_
  refine xr_eqi (nI (i + 3)) (nI_add _ _) ?_
  refine xr_sld (xd dL_c_draft 18 rfl) (show i + 3 < ts 91 by omega) (show ts 91 < 2 ^ 31 by omega) ?_
  refine xr_i2l (xd dL_c_draft 19 rfl) ?_
  refine xr_ldc2_w (v := 4294967295) (xd dL_c_draft 20 rfl) (xt_9 (j := 205) (by decide +kernel) (by decide +kernel)) ?_
  refine xr_land (xd dL_c_draft 21 rfl) ?_
  refine xr_lor (xd dL_c_draft 22 rfl) ?_
  refine xr_aload_n (xd dL_c_draft 23 rfl) 3 rfl ?_
  refine xr_callH (st := []) mL_draft hL_draft 4 [.ref 0, .int (xsc (xGm b dC dI cA ts) (i + 1)), .long (((xsc (xGm b dC dI cA ts) (i + 2)).toInt64 <<< ((32 : Int32).toInt64 &&& 63)) ||| (((xsc (xGm b dC dI cA ts) (i + 3)).toInt64) &&& 4294967295)), .ref 552] (xd dL_c_draft 24 rfl) (xt_4 (j := 132) (by decide +kernel) (by decide +kernel)) kL_draft rfl ⟨by decide, by decide⟩ (Nat.le_of_ble_eq_true rfl) (wr_draft hst hR hb h) (by omega) (by omega) (fun v M q => ?_)
  obtain ⟨k, J1, L1, hk, rfl, rfl, hq⟩ := q
  show xJ (xGm b dC dI cA ts) l mL_law 600128 7301098 Qv (fun _ _ => False) (c0 + 1) (s0 + 6) 477 (lsL i) [.int (nI k)] false 553 R (zi J1) (li L1)
  refine xr_istore (i := 5) [(0, .ref 1000090), (1, .ref 0), (2, .ref 491), (3, .ref 552), (4, .int (nI i)), (5, .int (nI k))] (xd dL_c_draft 25 rfl) (by decide) rfl ?_
  rcases hq with ⟨rfl, y0, hy0, hw⟩ | ⟨hk0, hw⟩
  · skip
    refine xr_aload_n (xd dL_c_draft 26 rfl) 2 rfl ?_
    refine xr_aload_n (xd dL_c_draft 27 rfl) 0 rfl ?_
    refine xr_iload (xd dL_c_draft 28 rfl) 4 rfl ?_
    refine xr_iconst (v := nI 1) (xd dL_c_draft 29 rfl) (by decide) ?_
    refine xr_iadd (xd dL_c_draft 30 rfl) ?_
    refine xr_eqi (nI (i + 1)) (nI_add _ _) ?_
    refine xr_sld (xd dL_c_draft 31 rfl) (show i + 1 < ts 91 by omega) (show ts 91 < 2 ^ 31 by omega) ?_
    refine xr_aload_n (xd dL_c_draft 32 rfl) 0 rfl ?_
    refine xr_iload (xd dL_c_draft 33 rfl) 4 rfl ?_
    refine xr_iconst (v := nI 2) (xd dL_c_draft 34 rfl) (by decide) ?_
    refine xr_iadd (xd dL_c_draft 35 rfl) ?_
    refine xr_eqi (nI (i + 2)) (nI_add _ _) ?_
    refine xr_sld (xd dL_c_draft 36 rfl) (show i + 2 < ts 91 by omega) (show ts 91 < 2 ^ 31 by omega) ?_
    refine xr_i2l (xd dL_c_draft 37 rfl) ?_
    refine xr_bipush (v := 32) (xd dL_c_draft 38 rfl) (by decide) ?_
    refine xr_lshl (xd dL_c_draft 39 rfl) ?_
    refine xr_aload_n (xd dL_c_draft 40 rfl) 0 rfl ?_
    refine xr_iload (xd dL_c_draft 41 rfl) 4 rfl ?_
    refine xr_iconst (v := nI 3) (xd dL_c_draft 42 rfl) (by decide) ?_
    refine xr_iadd (xd dL_c_draft 43 rfl) ?_
    refine xr_eqi (nI (i + 3)) (nI_add _ _) ?_
    refine xr_sld (xd dL_c_draft 44 rfl) (show i + 3 < ts 91 by omega) (show ts 91 < 2 ^ 31 by omega) ?_
    refine xr_i2l (xd dL_c_draft 45 rfl) ?_
    refine xr_ldc2_w (v := 4294967295) (xd dL_c_draft 46 rfl) (xt_9 (j := 205) (by decide +kernel) (by decide +kernel)) ?_
    refine xr_land (xd dL_c_draft 47 rfl) ?_
    refine xr_lor (xd dL_c_draft 48 rfl) ?_
    have c2 := v_X12_draft (b := b) (dC := dC) (dI := dI) (cA := cA) (ts := ts) (l := l) (n := 553) (al := false) (by decide) hR hw
    simp only [oI_of] at c2
    refine xr_callV (st := []) mX12_draft 2 [.int (xsc (xGm b dC dI cA ts) (i + 1)), .long (((xsc (xGm b dC dI cA ts) (i + 2)).toInt64 <<< ((32 : Int32).toInt64 &&& 63)) ||| (((xsc (xGm b dC dI cA ts) (i + 3)).toInt64) &&& 4294967295))] (b := 491) (cl := 12) (xd dL_c_draft 49 rfl) (xt_9 (j := 129) (by decide +kernel) (by decide +kernel)) kX12_draft rfl (by decide) kd_491' (by decide) rfl ⟨by decide, by decide⟩ (Nat.le_of_ble_eq_true rfl) c2 (by omega) (by omega) (fun v M q => ?_) (fun _ _ h => h.elim)
    obtain ⟨b2, J2, L2, rfl, rfl, hT, ⟨hy, hL⟩, hP⟩ := q
    show xJ (xGm b dC dI cA ts) l mL_law 600128 7301098 Qv (fun _ _ => False) (c0 + 1 + 0) (s0 + 6 + 0) 511 [(0, .ref 1000090), (1, .ref 0), (2, .ref 491), (3, .ref 552), (4, .int (nI i)), (5, .int (nI 0))] [.int (oI b2)] false 553 R (zi J2) (li L2)
    refine xr_istore (i := 6) [(0, .ref 1000090), (1, .ref 0), (2, .ref 491), (3, .ref 552), (4, .int (nI i)), (5, .int (nI 0)), (6, .int (oI b2))] (xd dL_c_draft 50 rfl) (by decide) rfl ?_
    refine xr_aload_n (xd dL_c_draft 51 rfl) 2 rfl ?_
    refine xr_callV (st := []) mX12_thrown 0 [] (b := 491) (cl := 12) (xd dL_c_draft 52 rfl) (xt_7 (j := 228) (by decide +kernel) (by decide +kernel)) kX12_thrown rfl (by decide) kd_491' (by decide) rfl ⟨by decide, by decide⟩ (Nat.le_of_ble_eq_true rfl) (v_X12_thrown (al := false) (by decide) hR (show w_X12_thrown J2 L2 (fun r J3 L3 => r = J2 491 0 ∧ J3 = J2 ∧ L3 = L2) from ⟨rfl, rfl, rfl⟩)) (by omega) (by omega) (fun v M q => ?_) (fun _ _ h => h.elim)
    obtain ⟨r, J3, L3, rfl, rfl, rfl, rfl, rfl⟩ := q
    rw [hT]
    show xJ (xGm b dC dI cA ts) l mL_law 600128 7301098 Qv (fun _ _ => False) (c0 + 1 + 0 + 0) (s0 + 6 + 0 + 0) 517 [(0, .ref 1000090), (1, .ref 0), (2, .ref 491), (3, .ref 552), (4, .int (nI i)), (5, .int (nI 0)), (6, .int (oI b2))] [.int (nI 0)] false 553 R (zi J3) (li L3)
    refine xr_iload (xd dL_c_draft 53 rfl) 5 rfl ?_
    refine xr_icmp_eq 524 (xd dL_c_draft 54 rfl) (by decide) (fun _ => ?_) (fun c => absurd rfl c)
    refine xr_iload (xd dL_c_draft 57 rfl) 5 rfl ?_
    refine xr_if_ne 541 (xd dL_c_draft 58 rfl) (by decide) (fun c => absurd rfl c) (fun _ => ?_)
    refine xr_aload_n (xd dL_c_draft 59 rfl) 3 rfl ?_
    refine xr_iconst (v := nI 0) (xd dL_c_draft 60 rfl) (by decide) ?_
    refine xr_laload (x := (oI b2).toInt64) (xd dL_c_draft 61 rfl) (by decide) kd_552 (by rw [show xln (xGm b dC dI cA ts) 552 = 1 from ln_552]; exact nI_in (by decide) (by decide)) (by rw [hy]; refine out_eq (L := L3) ?_; rw [hL]; exact hy0) ?_
    refine xr_iload (xd dL_c_draft 62 rfl) 6 rfl ?_
    refine xr_i2l (xd dL_c_draft 63 rfl) ?_
    refine xr_lcmp (xd dL_c_draft 64 rfl) ?_
    refine xr_if_eq 541 (xd dL_c_draft 65 rfl) (by decide) (fun _ => ?_) (fun c => absurd (cmp_self _) c)
    refine xr_goto 1689 (xd dL_c_draft 68 rfl) (by decide) ?_
    exact xJ.sub (lsL i) (fun q hq => lsL_2 hq) (xJ.wid (by omega) (by omega) (kk J3 L3 (hP.mono (by omega))))
  · skip
    refine xr_aload_n (xd dL_c_draft 26 rfl) 2 rfl ?_
    refine xr_aload_n (xd dL_c_draft 27 rfl) 0 rfl ?_
    refine xr_iload (xd dL_c_draft 28 rfl) 4 rfl ?_
    refine xr_iconst (v := nI 1) (xd dL_c_draft 29 rfl) (by decide) ?_
    refine xr_iadd (xd dL_c_draft 30 rfl) ?_
    refine xr_eqi (nI (i + 1)) (nI_add _ _) ?_
    refine xr_sld (xd dL_c_draft 31 rfl) (show i + 1 < ts 91 by omega) (show ts 91 < 2 ^ 31 by omega) ?_
    refine xr_aload_n (xd dL_c_draft 32 rfl) 0 rfl ?_
    refine xr_iload (xd dL_c_draft 33 rfl) 4 rfl ?_
    refine xr_iconst (v := nI 2) (xd dL_c_draft 34 rfl) (by decide) ?_
    refine xr_iadd (xd dL_c_draft 35 rfl) ?_
    refine xr_eqi (nI (i + 2)) (nI_add _ _) ?_
    refine xr_sld (xd dL_c_draft 36 rfl) (show i + 2 < ts 91 by omega) (show ts 91 < 2 ^ 31 by omega) ?_
    refine xr_i2l (xd dL_c_draft 37 rfl) ?_
    refine xr_bipush (v := 32) (xd dL_c_draft 38 rfl) (by decide) ?_
    refine xr_lshl (xd dL_c_draft 39 rfl) ?_
    refine xr_aload_n (xd dL_c_draft 40 rfl) 0 rfl ?_
    refine xr_iload (xd dL_c_draft 41 rfl) 4 rfl ?_
    refine xr_iconst (v := nI 3) (xd dL_c_draft 42 rfl) (by decide) ?_
    refine xr_iadd (xd dL_c_draft 43 rfl) ?_
    refine xr_eqi (nI (i + 3)) (nI_add _ _) ?_
    refine xr_sld (xd dL_c_draft 44 rfl) (show i + 3 < ts 91 by omega) (show ts 91 < 2 ^ 31 by omega) ?_
    refine xr_i2l (xd dL_c_draft 45 rfl) ?_
    refine xr_ldc2_w (v := 4294967295) (xd dL_c_draft 46 rfl) (xt_9 (j := 205) (by decide +kernel) (by decide +kernel)) ?_
    refine xr_land (xd dL_c_draft 47 rfl) ?_
    refine xr_lor (xd dL_c_draft 48 rfl) ?_
    have c2 := v_X12_draft (b := b) (dC := dC) (dI := dI) (cA := cA) (ts := ts) (l := l) (n := 553) (al := false) (by decide) hR hw
    simp only [oI_of] at c2
    refine xr_callV (st := []) mX12_draft 2 [.int (xsc (xGm b dC dI cA ts) (i + 1)), .long (((xsc (xGm b dC dI cA ts) (i + 2)).toInt64 <<< ((32 : Int32).toInt64 &&& 63)) ||| (((xsc (xGm b dC dI cA ts) (i + 3)).toInt64) &&& 4294967295))] (b := 491) (cl := 12) (xd dL_c_draft 49 rfl) (xt_9 (j := 129) (by decide +kernel) (by decide +kernel)) kX12_draft rfl (by decide) kd_491' (by decide) rfl ⟨by decide, by decide⟩ (Nat.le_of_ble_eq_true rfl) c2 (by omega) (by omega) (fun v M q => ?_) (fun _ _ h => h.elim)
    obtain ⟨b2, J2, L2, rfl, rfl, hT, -, hP⟩ := q
    show xJ (xGm b dC dI cA ts) l mL_law 600128 7301098 Qv (fun _ _ => False) (c0 + 1 + 0) (s0 + 6 + 0) 511 [(0, .ref 1000090), (1, .ref 0), (2, .ref 491), (3, .ref 552), (4, .int (nI i)), (5, .int (nI k))] [.int (oI b2)] false 553 R (zi J2) (li L2)
    refine xr_istore (i := 6) [(0, .ref 1000090), (1, .ref 0), (2, .ref 491), (3, .ref 552), (4, .int (nI i)), (5, .int (nI k)), (6, .int (oI b2))] (xd dL_c_draft 50 rfl) (by decide) rfl ?_
    refine xr_aload_n (xd dL_c_draft 51 rfl) 2 rfl ?_
    refine xr_callV (st := []) mX12_thrown 0 [] (b := 491) (cl := 12) (xd dL_c_draft 52 rfl) (xt_7 (j := 228) (by decide +kernel) (by decide +kernel)) kX12_thrown rfl (by decide) kd_491' (by decide) rfl ⟨by decide, by decide⟩ (Nat.le_of_ble_eq_true rfl) (v_X12_thrown (al := false) (by decide) hR (show w_X12_thrown J2 L2 (fun r J3 L3 => r = J2 491 0 ∧ J3 = J2 ∧ L3 = L2) from ⟨rfl, rfl, rfl⟩)) (by omega) (by omega) (fun v M q => ?_) (fun _ _ h => h.elim)
    obtain ⟨r, J3, L3, rfl, rfl, rfl, rfl, rfl⟩ := q
    rw [hT]
    show xJ (xGm b dC dI cA ts) l mL_law 600128 7301098 Qv (fun _ _ => False) (c0 + 1 + 0 + 0) (s0 + 6 + 0 + 0) 517 [(0, .ref 1000090), (1, .ref 0), (2, .ref 491), (3, .ref 552), (4, .int (nI i)), (5, .int (nI k)), (6, .int (oI b2))] [.int (nI k)] false 553 R (zi J3) (li L3)
    refine xr_iload (xd dL_c_draft 53 rfl) 5 rfl ?_
    refine xr_icmp_eq 524 (xd dL_c_draft 54 rfl) (by decide) (fun _ => ?_) (fun c => absurd rfl c)
    refine xr_iload (xd dL_c_draft 57 rfl) 5 rfl ?_
    refine xr_if_ne 541 (xd dL_c_draft 58 rfl) (by decide) (fun _ => ?_) (fun c => absurd c (nI_ne0 (by omega) (by omega)))
    refine xr_goto 1689 (xd dL_c_draft 68 rfl) (by decide) ?_
    exact xJ.sub (lsL i) (fun q hq => lsL_2 hq) (xJ.wid (by omega) (by omega) (kk J3 L3 (hP.mono (by omega))))
set_option maxHeartbeats 4000000 in
set_option maxRecDepth 100000 in
theorem lc_greet {b : Nat} {dC : Nat → ClassId} {dI : Nat → Nat → Nat} {cA : Nat → ClassId} {ts : Nat → Nat} {l : Launch} {R : Nat → Nat → Option Nat} (hst : l.stackTraces = false) (hR : xRk R) {Qv : Option Value → xM → Prop} {i N c0 s0 : Nat} (hN : ts 91 = N) (hN4 : N ≤ 384) (hi : i + 6 ≤ N) (hc : c0 + 3 ≤ 600128) (hs : s0 + 18 ≤ 7301098) {bd : Int} (hb : 0 ≤ bd ∧ bd + 1300000 ≤ 2000000000) {J : zM} {L : yM} (h : PB bd J L) (kk : ∀ (J' : zM) (L' : yM), PB (bd + 1300000) J' L' → xJ (xGm b dC dI cA ts) l mL_law 600128 7301098 Qv (fun _ _ => False) (c0 + 3) (s0 + 18) 1689 (lsL i) [] false 553 R (zi J') (li L')) : xJ (xGm b dC dI cA ts) l mL_law 600128 7301098 Qv (fun _ _ => False) c0 s0 544 (lsL i) [] false 553 R (zi J) (li L) := by
  refine xr_aload_n (xd dL_c_greet 0 rfl) 1 rfl ?_
  refine xr_aload_n (xd dL_c_greet 1 rfl) 3 rfl ?_
  refine xr_callH (st := []) mL_greet hL_greet 2 [.ref 0, .ref 552] (xd dL_c_greet 2 rfl) (xt_4 (j := 141) (by decide +kernel) (by decide +kernel)) kL_greet rfl ⟨by decide, by decide⟩ (Nat.le_of_ble_eq_true rfl) (wr_greet hst hR hb h) (by omega) (by omega) (fun v M q => ?_)
  obtain ⟨k, J1, L1, hk, rfl, rfl, hq⟩ := q
  show xJ (xGm b dC dI cA ts) l mL_law 600128 7301098 Qv (fun _ _ => False) (c0 + 2) (s0 + 12) 549 (lsL i) [.int (nI k)] false 553 R (zi J1) (li L1)
  refine xr_istore (i := 5) [(0, .ref 1000090), (1, .ref 0), (2, .ref 491), (3, .ref 552), (4, .int (nI i)), (5, .int (nI k))] (xd dL_c_greet 3 rfl) (by decide) rfl ?_
  rcases hq with ⟨rfl, y0, hy0, hw⟩ | ⟨hk0, hw⟩
  · skip
    refine xr_aload_n (xd dL_c_greet 4 rfl) 2 rfl ?_
    have c2 := v_X12_greet (b := b) (dC := dC) (dI := dI) (cA := cA) (ts := ts) (l := l) (n := 553) (al := false) (by decide) hR hw
    refine xr_callV (st := []) mX12_greet 0 [] (b := 491) (cl := 12) (xd dL_c_greet 5 rfl) (xt_9 (j := 133) (by decide +kernel) (by decide +kernel)) kX12_greet rfl (by decide) kd_491' (by decide) rfl ⟨by decide, by decide⟩ (Nat.le_of_ble_eq_true rfl) c2 (by omega) (by omega) (fun v M q => ?_) (fun _ _ h => h.elim)
    obtain ⟨b2, J2, L2, rfl, rfl, hT, ⟨hy, hL⟩, hP⟩ := q
    show xJ (xGm b dC dI cA ts) l mL_law 600128 7301098 Qv (fun _ _ => False) (c0 + 2 + 0) (s0 + 12 + 0) 555 [(0, .ref 1000090), (1, .ref 0), (2, .ref 491), (3, .ref 552), (4, .int (nI i)), (5, .int (nI 0))] [.int (oI b2)] false 553 R (zi J2) (li L2)
    refine xr_istore (i := 6) [(0, .ref 1000090), (1, .ref 0), (2, .ref 491), (3, .ref 552), (4, .int (nI i)), (5, .int (nI 0)), (6, .int (oI b2))] (xd dL_c_greet 6 rfl) (by decide) rfl ?_
    refine xr_aload_n (xd dL_c_greet 7 rfl) 2 rfl ?_
    refine xr_callV (st := []) mX12_thrown 0 [] (b := 491) (cl := 12) (xd dL_c_greet 8 rfl) (xt_7 (j := 228) (by decide +kernel) (by decide +kernel)) kX12_thrown rfl (by decide) kd_491' (by decide) rfl ⟨by decide, by decide⟩ (Nat.le_of_ble_eq_true rfl) (v_X12_thrown (al := false) (by decide) hR (show w_X12_thrown J2 L2 (fun r J3 L3 => r = J2 491 0 ∧ J3 = J2 ∧ L3 = L2) from ⟨rfl, rfl, rfl⟩)) (by omega) (by omega) (fun v M q => ?_) (fun _ _ h => h.elim)
    obtain ⟨r, J3, L3, rfl, rfl, rfl, rfl, rfl⟩ := q
    rw [hT]
    show xJ (xGm b dC dI cA ts) l mL_law 600128 7301098 Qv (fun _ _ => False) (c0 + 2 + 0 + 0) (s0 + 12 + 0 + 0) 561 [(0, .ref 1000090), (1, .ref 0), (2, .ref 491), (3, .ref 552), (4, .int (nI i)), (5, .int (nI 0)), (6, .int (oI b2))] [.int (nI 0)] false 553 R (zi J3) (li L3)
    refine xr_iload (xd dL_c_greet 9 rfl) 5 rfl ?_
    refine xr_icmp_eq 568 (xd dL_c_greet 10 rfl) (by decide) (fun _ => ?_) (fun c => absurd rfl c)
    refine xr_iload (xd dL_c_greet 13 rfl) 5 rfl ?_
    refine xr_if_ne 585 (xd dL_c_greet 14 rfl) (by decide) (fun c => absurd rfl c) (fun _ => ?_)
    refine xr_aload_n (xd dL_c_greet 15 rfl) 3 rfl ?_
    refine xr_iconst (v := nI 0) (xd dL_c_greet 16 rfl) (by decide) ?_
    refine xr_laload (x := (oI b2).toInt64) (xd dL_c_greet 17 rfl) (by decide) kd_552 (by rw [show xln (xGm b dC dI cA ts) 552 = 1 from ln_552]; exact nI_in (by decide) (by decide)) (by rw [hy]; refine out_eq (L := L3) ?_; rw [hL]; exact hy0) ?_
    refine xr_iload (xd dL_c_greet 18 rfl) 6 rfl ?_
    refine xr_i2l (xd dL_c_greet 19 rfl) ?_
    refine xr_lcmp (xd dL_c_greet 20 rfl) ?_
    refine xr_if_eq 585 (xd dL_c_greet 21 rfl) (by decide) (fun _ => ?_) (fun c => absurd (cmp_self _) c)
    refine xr_goto 1689 (xd dL_c_greet 24 rfl) (by decide) ?_
    exact xJ.sub (lsL i) (fun q hq => lsL_2 hq) (xJ.wid (by omega) (by omega) (kk J3 L3 (hP.mono (by omega))))
  · skip
    refine xr_aload_n (xd dL_c_greet 4 rfl) 2 rfl ?_
    have c2 := v_X12_greet (b := b) (dC := dC) (dI := dI) (cA := cA) (ts := ts) (l := l) (n := 553) (al := false) (by decide) hR hw
    refine xr_callV (st := []) mX12_greet 0 [] (b := 491) (cl := 12) (xd dL_c_greet 5 rfl) (xt_9 (j := 133) (by decide +kernel) (by decide +kernel)) kX12_greet rfl (by decide) kd_491' (by decide) rfl ⟨by decide, by decide⟩ (Nat.le_of_ble_eq_true rfl) c2 (by omega) (by omega) (fun v M q => ?_) (fun _ _ h => h.elim)
    obtain ⟨b2, J2, L2, rfl, rfl, hT, -, hP⟩ := q
    show xJ (xGm b dC dI cA ts) l mL_law 600128 7301098 Qv (fun _ _ => False) (c0 + 2 + 0) (s0 + 12 + 0) 555 [(0, .ref 1000090), (1, .ref 0), (2, .ref 491), (3, .ref 552), (4, .int (nI i)), (5, .int (nI k))] [.int (oI b2)] false 553 R (zi J2) (li L2)
    refine xr_istore (i := 6) [(0, .ref 1000090), (1, .ref 0), (2, .ref 491), (3, .ref 552), (4, .int (nI i)), (5, .int (nI k)), (6, .int (oI b2))] (xd dL_c_greet 6 rfl) (by decide) rfl ?_
    refine xr_aload_n (xd dL_c_greet 7 rfl) 2 rfl ?_
    refine xr_callV (st := []) mX12_thrown 0 [] (b := 491) (cl := 12) (xd dL_c_greet 8 rfl) (xt_7 (j := 228) (by decide +kernel) (by decide +kernel)) kX12_thrown rfl (by decide) kd_491' (by decide) rfl ⟨by decide, by decide⟩ (Nat.le_of_ble_eq_true rfl) (v_X12_thrown (al := false) (by decide) hR (show w_X12_thrown J2 L2 (fun r J3 L3 => r = J2 491 0 ∧ J3 = J2 ∧ L3 = L2) from ⟨rfl, rfl, rfl⟩)) (by omega) (by omega) (fun v M q => ?_) (fun _ _ h => h.elim)
    obtain ⟨r, J3, L3, rfl, rfl, rfl, rfl, rfl⟩ := q
    rw [hT]
    show xJ (xGm b dC dI cA ts) l mL_law 600128 7301098 Qv (fun _ _ => False) (c0 + 2 + 0 + 0) (s0 + 12 + 0 + 0) 561 [(0, .ref 1000090), (1, .ref 0), (2, .ref 491), (3, .ref 552), (4, .int (nI i)), (5, .int (nI k)), (6, .int (oI b2))] [.int (nI k)] false 553 R (zi J3) (li L3)
    refine xr_iload (xd dL_c_greet 9 rfl) 5 rfl ?_
    refine xr_icmp_eq 568 (xd dL_c_greet 10 rfl) (by decide) (fun _ => ?_) (fun c => absurd rfl c)
    refine xr_iload (xd dL_c_greet 13 rfl) 5 rfl ?_
    refine xr_if_ne 585 (xd dL_c_greet 14 rfl) (by decide) (fun _ => ?_) (fun c => absurd c (nI_ne0 (by omega) (by omega)))
    refine xr_goto 1689 (xd dL_c_greet 24 rfl) (by decide) ?_
    exact xJ.sub (lsL i) (fun q hq => lsL_2 hq) (xJ.wid (by omega) (by omega) (kk J3 L3 (hP.mono (by omega))))
set_option maxHeartbeats 4000000 in
set_option maxRecDepth 100000 in
theorem lc_begin {b : Nat} {dC : Nat → ClassId} {dI : Nat → Nat → Nat} {cA : Nat → ClassId} {ts : Nat → Nat} {l : Launch} {R : Nat → Nat → Option Nat} (hst : l.stackTraces = false) (hR : xRk R) {Qv : Option Value → xM → Prop} {i N c0 s0 : Nat} (hN : ts 91 = N) (hN4 : N ≤ 384) (hi : i + 6 ≤ N) (hc : c0 + 3 ≤ 600128) (hs : s0 + 18 ≤ 7301098) {bd : Int} (hb : 0 ≤ bd ∧ bd + 1300000 ≤ 2000000000) {J : zM} {L : yM} (h : PB bd J L) (kk : ∀ (J' : zM) (L' : yM), PB (bd + 1300000) J' L' → xJ (xGm b dC dI cA ts) l mL_law 600128 7301098 Qv (fun _ _ => False) (c0 + 3) (s0 + 18) 1689 (lsL i) [] false 553 R (zi J') (li L')) : xJ (xGm b dC dI cA ts) l mL_law 600128 7301098 Qv (fun _ _ => False) c0 s0 588 (lsL i) [] false 553 R (zi J) (li L) := by
  refine xr_aload_n (xd dL_c_begin 0 rfl) 1 rfl ?_
  refine xr_aload_n (xd dL_c_begin 1 rfl) 3 rfl ?_
  refine xr_callH (st := []) mL_begin hL_begin 2 [.ref 0, .ref 552] (xd dL_c_begin 2 rfl) (xt_4 (j := 150) (by decide +kernel) (by decide +kernel)) kL_begin rfl ⟨by decide, by decide⟩ (Nat.le_of_ble_eq_true rfl) (wr_begin hst hR hb h) (by omega) (by omega) (fun v M q => ?_)
  obtain ⟨k, J1, L1, hk, rfl, rfl, hq⟩ := q
  show xJ (xGm b dC dI cA ts) l mL_law 600128 7301098 Qv (fun _ _ => False) (c0 + 1) (s0 + 6) 593 (lsL i) [.int (nI k)] false 553 R (zi J1) (li L1)
  refine xr_istore (i := 5) [(0, .ref 1000090), (1, .ref 0), (2, .ref 491), (3, .ref 552), (4, .int (nI i)), (5, .int (nI k))] (xd dL_c_begin 3 rfl) (by decide) rfl ?_
  rcases hq with ⟨rfl, y0, hy0, hw⟩ | ⟨hk0, hw⟩
  · skip
    refine xr_aload_n (xd dL_c_begin 4 rfl) 2 rfl ?_
    have c2 := v_X12_begin (b := b) (dC := dC) (dI := dI) (cA := cA) (ts := ts) (l := l) (n := 553) (al := false) (by decide) hR hw
    refine xr_callV (st := []) mX12_begin 0 [] (b := 491) (cl := 12) (xd dL_c_begin 5 rfl) (xt_7 (j := 236) (by decide +kernel) (by decide +kernel)) kX12_begin rfl (by decide) kd_491' (by decide) rfl ⟨by decide, by decide⟩ (Nat.le_of_ble_eq_true rfl) c2 (by omega) (by omega) (fun v M q => ?_) (fun _ _ h => h.elim)
    obtain ⟨b2, J2, L2, rfl, rfl, hT, ⟨hy, hL⟩, hP⟩ := q
    show xJ (xGm b dC dI cA ts) l mL_law 600128 7301098 Qv (fun _ _ => False) (c0 + 1 + 0) (s0 + 6 + 0) 599 [(0, .ref 1000090), (1, .ref 0), (2, .ref 491), (3, .ref 552), (4, .int (nI i)), (5, .int (nI 0))] [.int (oI b2)] false 553 R (zi J2) (li L2)
    refine xr_istore (i := 6) [(0, .ref 1000090), (1, .ref 0), (2, .ref 491), (3, .ref 552), (4, .int (nI i)), (5, .int (nI 0)), (6, .int (oI b2))] (xd dL_c_begin 6 rfl) (by decide) rfl ?_
    refine xr_aload_n (xd dL_c_begin 7 rfl) 2 rfl ?_
    refine xr_callV (st := []) mX12_thrown 0 [] (b := 491) (cl := 12) (xd dL_c_begin 8 rfl) (xt_7 (j := 228) (by decide +kernel) (by decide +kernel)) kX12_thrown rfl (by decide) kd_491' (by decide) rfl ⟨by decide, by decide⟩ (Nat.le_of_ble_eq_true rfl) (v_X12_thrown (al := false) (by decide) hR (show w_X12_thrown J2 L2 (fun r J3 L3 => r = J2 491 0 ∧ J3 = J2 ∧ L3 = L2) from ⟨rfl, rfl, rfl⟩)) (by omega) (by omega) (fun v M q => ?_) (fun _ _ h => h.elim)
    obtain ⟨r, J3, L3, rfl, rfl, rfl, rfl, rfl⟩ := q
    rw [hT]
    show xJ (xGm b dC dI cA ts) l mL_law 600128 7301098 Qv (fun _ _ => False) (c0 + 1 + 0 + 0) (s0 + 6 + 0 + 0) 605 [(0, .ref 1000090), (1, .ref 0), (2, .ref 491), (3, .ref 552), (4, .int (nI i)), (5, .int (nI 0)), (6, .int (oI b2))] [.int (nI 0)] false 553 R (zi J3) (li L3)
    refine xr_iload (xd dL_c_begin 9 rfl) 5 rfl ?_
    refine xr_icmp_eq 612 (xd dL_c_begin 10 rfl) (by decide) (fun _ => ?_) (fun c => absurd rfl c)
    refine xr_iload (xd dL_c_begin 13 rfl) 5 rfl ?_
    refine xr_if_ne 629 (xd dL_c_begin 14 rfl) (by decide) (fun c => absurd rfl c) (fun _ => ?_)
    refine xr_aload_n (xd dL_c_begin 15 rfl) 3 rfl ?_
    refine xr_iconst (v := nI 0) (xd dL_c_begin 16 rfl) (by decide) ?_
    refine xr_laload (x := (oI b2).toInt64) (xd dL_c_begin 17 rfl) (by decide) kd_552 (by rw [show xln (xGm b dC dI cA ts) 552 = 1 from ln_552]; exact nI_in (by decide) (by decide)) (by rw [hy]; refine out_eq (L := L3) ?_; rw [hL]; exact hy0) ?_
    refine xr_iload (xd dL_c_begin 18 rfl) 6 rfl ?_
    refine xr_i2l (xd dL_c_begin 19 rfl) ?_
    refine xr_lcmp (xd dL_c_begin 20 rfl) ?_
    refine xr_if_eq 629 (xd dL_c_begin 21 rfl) (by decide) (fun _ => ?_) (fun c => absurd (cmp_self _) c)
    refine xr_goto 1689 (xd dL_c_begin 24 rfl) (by decide) ?_
    exact xJ.sub (lsL i) (fun q hq => lsL_2 hq) (xJ.wid (by omega) (by omega) (kk J3 L3 (hP.mono (by omega))))
  · skip
    refine xr_aload_n (xd dL_c_begin 4 rfl) 2 rfl ?_
    have c2 := v_X12_begin (b := b) (dC := dC) (dI := dI) (cA := cA) (ts := ts) (l := l) (n := 553) (al := false) (by decide) hR hw
    refine xr_callV (st := []) mX12_begin 0 [] (b := 491) (cl := 12) (xd dL_c_begin 5 rfl) (xt_7 (j := 236) (by decide +kernel) (by decide +kernel)) kX12_begin rfl (by decide) kd_491' (by decide) rfl ⟨by decide, by decide⟩ (Nat.le_of_ble_eq_true rfl) c2 (by omega) (by omega) (fun v M q => ?_) (fun _ _ h => h.elim)
    obtain ⟨b2, J2, L2, rfl, rfl, hT, -, hP⟩ := q
    show xJ (xGm b dC dI cA ts) l mL_law 600128 7301098 Qv (fun _ _ => False) (c0 + 1 + 0) (s0 + 6 + 0) 599 [(0, .ref 1000090), (1, .ref 0), (2, .ref 491), (3, .ref 552), (4, .int (nI i)), (5, .int (nI k))] [.int (oI b2)] false 553 R (zi J2) (li L2)
    refine xr_istore (i := 6) [(0, .ref 1000090), (1, .ref 0), (2, .ref 491), (3, .ref 552), (4, .int (nI i)), (5, .int (nI k)), (6, .int (oI b2))] (xd dL_c_begin 6 rfl) (by decide) rfl ?_
    refine xr_aload_n (xd dL_c_begin 7 rfl) 2 rfl ?_
    refine xr_callV (st := []) mX12_thrown 0 [] (b := 491) (cl := 12) (xd dL_c_begin 8 rfl) (xt_7 (j := 228) (by decide +kernel) (by decide +kernel)) kX12_thrown rfl (by decide) kd_491' (by decide) rfl ⟨by decide, by decide⟩ (Nat.le_of_ble_eq_true rfl) (v_X12_thrown (al := false) (by decide) hR (show w_X12_thrown J2 L2 (fun r J3 L3 => r = J2 491 0 ∧ J3 = J2 ∧ L3 = L2) from ⟨rfl, rfl, rfl⟩)) (by omega) (by omega) (fun v M q => ?_) (fun _ _ h => h.elim)
    obtain ⟨r, J3, L3, rfl, rfl, rfl, rfl, rfl⟩ := q
    rw [hT]
    show xJ (xGm b dC dI cA ts) l mL_law 600128 7301098 Qv (fun _ _ => False) (c0 + 1 + 0 + 0) (s0 + 6 + 0 + 0) 605 [(0, .ref 1000090), (1, .ref 0), (2, .ref 491), (3, .ref 552), (4, .int (nI i)), (5, .int (nI k)), (6, .int (oI b2))] [.int (nI k)] false 553 R (zi J3) (li L3)
    refine xr_iload (xd dL_c_begin 9 rfl) 5 rfl ?_
    refine xr_icmp_eq 612 (xd dL_c_begin 10 rfl) (by decide) (fun _ => ?_) (fun c => absurd rfl c)
    refine xr_iload (xd dL_c_begin 13 rfl) 5 rfl ?_
    refine xr_if_ne 629 (xd dL_c_begin 14 rfl) (by decide) (fun _ => ?_) (fun c => absurd c (nI_ne0 (by omega) (by omega)))
    refine xr_goto 1689 (xd dL_c_begin 24 rfl) (by decide) ?_
    exact xJ.sub (lsL i) (fun q hq => lsL_2 hq) (xJ.wid (by omega) (by omega) (kk J3 L3 (hP.mono (by omega))))
set_option maxHeartbeats 4000000 in
set_option maxRecDepth 100000 in
theorem lc_write {b : Nat} {dC : Nat → ClassId} {dI : Nat → Nat → Nat} {cA : Nat → ClassId} {ts : Nat → Nat} {l : Launch} {R : Nat → Nat → Option Nat} (hst : l.stackTraces = false) (hR : xRk R) {Qv : Option Value → xM → Prop} {i N c0 s0 : Nat} (hN : ts 91 = N) (hN4 : N ≤ 384) (hi : i + 6 ≤ N) (hc : c0 + 3 ≤ 600128) (hs : s0 + 18 ≤ 7301098) {bd : Int} (hb : 0 ≤ bd ∧ bd + 1300000 ≤ 2000000000) {J : zM} {L : yM} (h : PB bd J L) (kk : ∀ (J' : zM) (L' : yM), PB (bd + 1300000) J' L' → xJ (xGm b dC dI cA ts) l mL_law 600128 7301098 Qv (fun _ _ => False) (c0 + 3) (s0 + 18) 1689 (lsL i) [] false 553 R (zi J') (li L')) : xJ (xGm b dC dI cA ts) l mL_law 600128 7301098 Qv (fun _ _ => False) c0 s0 632 (lsL i) [] false 553 R (zi J) (li L) := by
  refine xr_aload_n (xd dL_c_write 0 rfl) 1 rfl ?_
  refine xr_aload_n (xd dL_c_write 1 rfl) 0 rfl ?_
  refine xr_iload (xd dL_c_write 2 rfl) 4 rfl ?_
  refine xr_iconst (v := nI 1) (xd dL_c_write 3 rfl) (by decide) ?_
  refine xr_iadd (xd dL_c_write 4 rfl) ?_
  refine xr_eqi (nI (i + 1)) (nI_add _ _) ?_
  refine xr_sld (xd dL_c_write 5 rfl) (show i + 1 < ts 91 by omega) (show ts 91 < 2 ^ 31 by omega) ?_
  refine xr_aload_n (xd dL_c_write 6 rfl) 3 rfl ?_
  refine xr_callH (st := []) mL_write hL_write 3 [.ref 0, .int (xsc (xGm b dC dI cA ts) (i + 1)), .ref 552] (xd dL_c_write 7 rfl) (xt_5 (j := 59) (by decide +kernel) (by decide +kernel)) kL_write rfl ⟨by decide, by decide⟩ (Nat.le_of_ble_eq_true rfl) (wr_write hst hR hb h) (by omega) (by omega) (fun v M q => ?_)
  obtain ⟨k, J1, L1, hk, rfl, rfl, hq⟩ := q
  show xJ (xGm b dC dI cA ts) l mL_law 600128 7301098 Qv (fun _ _ => False) (c0 + 3) (s0 + 18) 643 (lsL i) [.int (nI k)] false 553 R (zi J1) (li L1)
  refine xr_istore (i := 5) [(0, .ref 1000090), (1, .ref 0), (2, .ref 491), (3, .ref 552), (4, .int (nI i)), (5, .int (nI k))] (xd dL_c_write 8 rfl) (by decide) rfl ?_
  rcases hq with ⟨rfl, y0, hy0, hw⟩ | ⟨hk0, hw⟩
  · skip
    refine xr_aload_n (xd dL_c_write 9 rfl) 2 rfl ?_
    refine xr_aload_n (xd dL_c_write 10 rfl) 0 rfl ?_
    refine xr_iload (xd dL_c_write 11 rfl) 4 rfl ?_
    refine xr_iconst (v := nI 1) (xd dL_c_write 12 rfl) (by decide) ?_
    refine xr_iadd (xd dL_c_write 13 rfl) ?_
    refine xr_eqi (nI (i + 1)) (nI_add _ _) ?_
    refine xr_sld (xd dL_c_write 14 rfl) (show i + 1 < ts 91 by omega) (show ts 91 < 2 ^ 31 by omega) ?_
    have c2 := v_X12_write (b := b) (dC := dC) (dI := dI) (cA := cA) (ts := ts) (l := l) (n := 553) (al := false) (by decide) hR hw
    simp only [oI_of] at c2
    refine xr_callV (st := []) mX12_write 1 [.int (xsc (xGm b dC dI cA ts) (i + 1))] (b := 491) (cl := 12) (xd dL_c_write 15 rfl) (xt_9 (j := 137) (by decide +kernel) (by decide +kernel)) kX12_write rfl (by decide) kd_491' (by decide) rfl ⟨by decide, by decide⟩ (Nat.le_of_ble_eq_true rfl) c2 (by omega) (by omega) (fun v M q => ?_) (fun _ _ h => h.elim)
    obtain ⟨b2, J2, L2, rfl, rfl, hT, ⟨hy, hL⟩, hP⟩ := q
    show xJ (xGm b dC dI cA ts) l mL_law 600128 7301098 Qv (fun _ _ => False) (c0 + 3 + 0) (s0 + 18 + 0) 655 [(0, .ref 1000090), (1, .ref 0), (2, .ref 491), (3, .ref 552), (4, .int (nI i)), (5, .int (nI 0))] [.int (oI b2)] false 553 R (zi J2) (li L2)
    refine xr_istore (i := 6) [(0, .ref 1000090), (1, .ref 0), (2, .ref 491), (3, .ref 552), (4, .int (nI i)), (5, .int (nI 0)), (6, .int (oI b2))] (xd dL_c_write 16 rfl) (by decide) rfl ?_
    refine xr_aload_n (xd dL_c_write 17 rfl) 2 rfl ?_
    refine xr_callV (st := []) mX12_thrown 0 [] (b := 491) (cl := 12) (xd dL_c_write 18 rfl) (xt_7 (j := 228) (by decide +kernel) (by decide +kernel)) kX12_thrown rfl (by decide) kd_491' (by decide) rfl ⟨by decide, by decide⟩ (Nat.le_of_ble_eq_true rfl) (v_X12_thrown (al := false) (by decide) hR (show w_X12_thrown J2 L2 (fun r J3 L3 => r = J2 491 0 ∧ J3 = J2 ∧ L3 = L2) from ⟨rfl, rfl, rfl⟩)) (by omega) (by omega) (fun v M q => ?_) (fun _ _ h => h.elim)
    obtain ⟨r, J3, L3, rfl, rfl, rfl, rfl, rfl⟩ := q
    rw [hT]
    show xJ (xGm b dC dI cA ts) l mL_law 600128 7301098 Qv (fun _ _ => False) (c0 + 3 + 0 + 0) (s0 + 18 + 0 + 0) 661 [(0, .ref 1000090), (1, .ref 0), (2, .ref 491), (3, .ref 552), (4, .int (nI i)), (5, .int (nI 0)), (6, .int (oI b2))] [.int (nI 0)] false 553 R (zi J3) (li L3)
    refine xr_iload (xd dL_c_write 19 rfl) 5 rfl ?_
    refine xr_icmp_eq 668 (xd dL_c_write 20 rfl) (by decide) (fun _ => ?_) (fun c => absurd rfl c)
    refine xr_iload (xd dL_c_write 23 rfl) 5 rfl ?_
    refine xr_if_ne 685 (xd dL_c_write 24 rfl) (by decide) (fun c => absurd rfl c) (fun _ => ?_)
    refine xr_aload_n (xd dL_c_write 25 rfl) 3 rfl ?_
    refine xr_iconst (v := nI 0) (xd dL_c_write 26 rfl) (by decide) ?_
    refine xr_laload (x := (oI b2).toInt64) (xd dL_c_write 27 rfl) (by decide) kd_552 (by rw [show xln (xGm b dC dI cA ts) 552 = 1 from ln_552]; exact nI_in (by decide) (by decide)) (by rw [hy]; refine out_eq (L := L3) ?_; rw [hL]; exact hy0) ?_
    refine xr_iload (xd dL_c_write 28 rfl) 6 rfl ?_
    refine xr_i2l (xd dL_c_write 29 rfl) ?_
    refine xr_lcmp (xd dL_c_write 30 rfl) ?_
    refine xr_if_eq 685 (xd dL_c_write 31 rfl) (by decide) (fun _ => ?_) (fun c => absurd (cmp_self _) c)
    refine xr_goto 1689 (xd dL_c_write 34 rfl) (by decide) ?_
    exact xJ.sub (lsL i) (fun q hq => lsL_2 hq) (xJ.wid (by omega) (by omega) (kk J3 L3 (hP.mono (by omega))))
  · skip
    refine xr_aload_n (xd dL_c_write 9 rfl) 2 rfl ?_
    refine xr_aload_n (xd dL_c_write 10 rfl) 0 rfl ?_
    refine xr_iload (xd dL_c_write 11 rfl) 4 rfl ?_
    refine xr_iconst (v := nI 1) (xd dL_c_write 12 rfl) (by decide) ?_
    refine xr_iadd (xd dL_c_write 13 rfl) ?_
    refine xr_eqi (nI (i + 1)) (nI_add _ _) ?_
    refine xr_sld (xd dL_c_write 14 rfl) (show i + 1 < ts 91 by omega) (show ts 91 < 2 ^ 31 by omega) ?_
    have c2 := v_X12_write (b := b) (dC := dC) (dI := dI) (cA := cA) (ts := ts) (l := l) (n := 553) (al := false) (by decide) hR hw
    simp only [oI_of] at c2
    refine xr_callV (st := []) mX12_write 1 [.int (xsc (xGm b dC dI cA ts) (i + 1))] (b := 491) (cl := 12) (xd dL_c_write 15 rfl) (xt_9 (j := 137) (by decide +kernel) (by decide +kernel)) kX12_write rfl (by decide) kd_491' (by decide) rfl ⟨by decide, by decide⟩ (Nat.le_of_ble_eq_true rfl) c2 (by omega) (by omega) (fun v M q => ?_) (fun _ _ h => h.elim)
    obtain ⟨b2, J2, L2, rfl, rfl, hT, -, hP⟩ := q
    show xJ (xGm b dC dI cA ts) l mL_law 600128 7301098 Qv (fun _ _ => False) (c0 + 3 + 0) (s0 + 18 + 0) 655 [(0, .ref 1000090), (1, .ref 0), (2, .ref 491), (3, .ref 552), (4, .int (nI i)), (5, .int (nI k))] [.int (oI b2)] false 553 R (zi J2) (li L2)
    refine xr_istore (i := 6) [(0, .ref 1000090), (1, .ref 0), (2, .ref 491), (3, .ref 552), (4, .int (nI i)), (5, .int (nI k)), (6, .int (oI b2))] (xd dL_c_write 16 rfl) (by decide) rfl ?_
    refine xr_aload_n (xd dL_c_write 17 rfl) 2 rfl ?_
    refine xr_callV (st := []) mX12_thrown 0 [] (b := 491) (cl := 12) (xd dL_c_write 18 rfl) (xt_7 (j := 228) (by decide +kernel) (by decide +kernel)) kX12_thrown rfl (by decide) kd_491' (by decide) rfl ⟨by decide, by decide⟩ (Nat.le_of_ble_eq_true rfl) (v_X12_thrown (al := false) (by decide) hR (show w_X12_thrown J2 L2 (fun r J3 L3 => r = J2 491 0 ∧ J3 = J2 ∧ L3 = L2) from ⟨rfl, rfl, rfl⟩)) (by omega) (by omega) (fun v M q => ?_) (fun _ _ h => h.elim)
    obtain ⟨r, J3, L3, rfl, rfl, rfl, rfl, rfl⟩ := q
    rw [hT]
    show xJ (xGm b dC dI cA ts) l mL_law 600128 7301098 Qv (fun _ _ => False) (c0 + 3 + 0 + 0) (s0 + 18 + 0 + 0) 661 [(0, .ref 1000090), (1, .ref 0), (2, .ref 491), (3, .ref 552), (4, .int (nI i)), (5, .int (nI k)), (6, .int (oI b2))] [.int (nI k)] false 553 R (zi J3) (li L3)
    refine xr_iload (xd dL_c_write 19 rfl) 5 rfl ?_
    refine xr_icmp_eq 668 (xd dL_c_write 20 rfl) (by decide) (fun _ => ?_) (fun c => absurd rfl c)
    refine xr_iload (xd dL_c_write 23 rfl) 5 rfl ?_
    refine xr_if_ne 685 (xd dL_c_write 24 rfl) (by decide) (fun _ => ?_) (fun c => absurd c (nI_ne0 (by omega) (by omega)))
    refine xr_goto 1689 (xd dL_c_write 34 rfl) (by decide) ?_
    exact xJ.sub (lsL i) (fun q hq => lsL_2 hq) (xJ.wid (by omega) (by omega) (kk J3 L3 (hP.mono (by omega))))
