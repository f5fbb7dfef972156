/-! the roots that the model makes its words of -/
def w_X12_isPrime (p1 : Int) (J : zM) (L : yM) (Q : Int → zM → yM → Prop) : Prop := zl_zz (fun K1 x2 x3 J4 L5 => R32 x3 ∧ R32 p1 ∧ (if x3 < p1 then R32 x2 ∧ (if x2 = 0 then B01 x2 ∧ Q x2 J4 L5 else (R32 x3 ∧ x3 ≠ 0) ∧ ∀ K17 : Int → zM → yM → Prop, (∀ (x14 : Int) (J15 : zM) (L16 : yM), (K1 x14 (x3 + 1) J15 L16) → K17 x14 J15 L16) → (if (zrem p1 x3) = 0 then K17 0 J4 L5 else K17 1 J4 L5)) else B01 x2 ∧ Q x2 J4 L5)) 1 2 J L
set_option maxHeartbeats 4000000 in
set_option maxRecDepth 100000 in
theorem v_X12_isPrime {b : Nat} {dC : Nat → ClassId} {dI : Nat → Nat → Nat} {cA : Nat → ClassId} {ts : Nat → Nat} {l : Launch} {n : Nat} {R : Nat → Nat → Option Nat} {al : Bool} (hn : 552 ≤ n) (hR : xRk R) {p1 : Int}  {J : zM} {L : yM} {Q : Int → zM → yM → Prop} (h : w_X12_isPrime p1 J L Q) : xCn (xGm b dC dI cA ts) l mX12_isPrime [.int (oI p1)] al (n, R, zi J, li L) 0 0 (zQ1 n R Q) (fun _ _ => False) := by
  refine xCn.ofJ (by decide) (Nat.le_of_ble_eq_true rfl) ?_
  show xJ _ _ _ _ _ _ _ _ _ 0 [(0, .int (oI p1))] [] _ _ _ _ _
  unfold w_X12_isPrime at h
  refine xr_iconst (v := oI 1) (xd dX12_isPrime 0 rfl) (by decide) ?_
  refine xr_istore_n [(0, .int (oI p1)), (1, .int (oI 1))] (xd dX12_isPrime 1 rfl) rfl (by decide) rfl ?_
  refine xr_iconst (v := oI 2) (xd dX12_isPrime 2 rfl) (by decide) ?_
  refine xr_istore_n [(0, .int (oI p1)), (1, .int (oI 1)), (2, .int (oI 2))] (xd dX12_isPrime 3 rfl) rfl (by decide) rfl ?_
  refine h (fun x2 x3 J4 L5 => xJ (xGm b dC dI cA ts) l mX12_isPrime 0 0 (zQ1 n R Q) (fun _ _ => False) 0 0 4 [(0, .int (oI p1)), (1, .int (oI x2)), (2, .int (oI x3))] [] al n R (zi J4) (li L5)) ?_
  intro x2 x3 J4 L5 h
  show xJ _ _ _ _ _ _ _ _ _ 4 [(0, .int (oI p1)), (1, .int (oI x2)), (2, .int (oI x3))] [] _ _ _ _ _
  refine xr_iload_n (xd dX12_isPrime 4 rfl) 2 rfl ?_
  refine xr_iload_n (xd dX12_isPrime 5 rfl) 0 rfl ?_
  obtain ⟨o6, h⟩ := h
  obtain ⟨o7, h⟩ := h
  refine zr_icmp_ge 31 (xd dX12_isPrime 6 rfl) (by decide) o6 o7 (fun c8 => ?_) (fun c8 => ?_)
  · replace h := ifn h c8
    refine xr_iload_n (xd dX12_isPrime 19 rfl) 1 rfl ?_
    obtain ⟨o9, h⟩ := h
    exact xr_zret (xd dX12_isPrime 20 rfl) rfl (zret_b o9) (by decide) (by decide) (fun _ => rfl) ⟨_, _, _, rfl, rfl, h⟩
  · replace h := ifp h c8
    refine xr_iload_n (xd dX12_isPrime 7 rfl) 1 rfl ?_
    obtain ⟨o10, h⟩ := h
    refine zr_if_eq 31 (xd dX12_isPrime 8 rfl) (by decide) o10 (fun c11 => ?_) (fun c11 => ?_)
    · replace h := ifp h c11
      refine xr_iload_n (xd dX12_isPrime 19 rfl) 1 rfl ?_
      obtain ⟨o12, h⟩ := h
      exact xr_zret (xd dX12_isPrime 20 rfl) rfl (zret_b o12) (by decide) (by decide) (fun _ => rfl) ⟨_, _, _, rfl, rfl, h⟩
    · replace h := ifn h c11
      refine xr_iload_n (xd dX12_isPrime 9 rfl) 0 rfl ?_
      refine xr_iload_n (xd dX12_isPrime 10 rfl) 2 rfl ?_
      obtain ⟨o13, h⟩ := h
      refine zr_irem (xd dX12_isPrime 11 rfl) o13.1 o13.2 ?_
      replace h := h (fun (x14 : Int) (J15 : zM) (L16 : yM) => xJ (xGm b dC dI cA ts) l mX12_isPrime 0 0 (zQ1 n R Q) (fun _ _ => False) 0 0 24 [(0, .int (oI p1)), (2, .int (oI x3))] [.int (oI x14)] al n R (zi J15) (li L16)) (by
        intro x14 J15 L16 h
        show xJ _ _ _ _ _ _ _ _ _ 24 [(0, .int (oI p1)), (2, .int (oI x3))] [.int (oI x14)] _ _ _ _ _
        refine xr_istore_n [(0, .int (oI p1)), (1, .int (oI x14)), (2, .int (oI x3))] (xd dX12_isPrime 16 rfl) rfl (by decide) rfl ?_
        refine zr_iinc [(0, .int (oI p1)), (1, .int (oI x14)), (2, .int (oI (x3 + 1)))] (xd dX12_isPrime 17 rfl) 2 rfl (by decide) rfl ?_
        refine xr_goto 4 (xd dX12_isPrime 18 rfl) (by decide) ?_
        exact h)
      refine zr_if_eq 23 (xd dX12_isPrime 12 rfl) (by decide) (R32_of _) (fun c18 => ?_) (fun c18 => ?_)
      · replace h := ifp h c18
        refine xr_iconst (v := oI 0) (xd dX12_isPrime 15 rfl) (by decide) ?_
        refine xJ.pick (ls' := [(0, .int (oI p1)), (2, .int (oI x3))]) [0, 2] rfl ?_
        exact h
      · replace h := ifn h c18
        refine xr_iconst (v := oI 1) (xd dX12_isPrime 13 rfl) (by decide) ?_
        refine xr_goto 24 (xd dX12_isPrime 14 rfl) (by decide) ?_
        refine xJ.pick (ls' := [(0, .int (oI p1)), (2, .int (oI x3))]) [0, 2] rfl ?_
        exact h
def w_X12_squareFits (p1 : Int64) (p2 : Int64) (p3 : Int64) (J : zM) (L : yM) (Q : Int → zM → yM → Prop) : Prop := ∀ x1 : Int64, x1 = (p3 * p3) → (if (zcmp (((2 * p2) * p3) + (yush x1 32)) (yshl (p1 - (p2 * p2)) 32)) < 0 then Q 1 J L else Q 0 J L)
set_option maxHeartbeats 4000000 in
set_option maxRecDepth 100000 in
theorem v_X12_squareFits {b : Nat} {dC : Nat → ClassId} {dI : Nat → Nat → Nat} {cA : Nat → ClassId} {ts : Nat → Nat} {l : Launch} {n : Nat} {R : Nat → Nat → Option Nat} {al : Bool} (hn : 552 ≤ n) (hR : xRk R) {p1 : Int64} {p2 : Int64} {p3 : Int64}  {J : zM} {L : yM} {Q : Int → zM → yM → Prop} (h : w_X12_squareFits p1 p2 p3 J L Q) : xCn (xGm b dC dI cA ts) l mX12_squareFits [.long p1, .long p2, .long p3] al (n, R, zi J, li L) 0 0 (zQ1 n R Q) (fun _ _ => False) := by
  refine xCn.ofJ (by decide) (Nat.le_of_ble_eq_true rfl) ?_
  show xJ _ _ _ _ _ _ _ _ _ 0 [(0, .long p1), (2, .long p2), (4, .long p3)] [] _ _ _ _ _
  unfold w_X12_squareFits at h
  refine xr_lload (xd dX12_squareFits 0 rfl) 2 rfl ?_
  refine xr_lload (xd dX12_squareFits 1 rfl) 2 rfl ?_
  refine xr_lmul (xd dX12_squareFits 2 rfl) ?_
  obtain ⟨x1, e_x1⟩ : ∃ z_ : Int64, z_ = (p3 * p3) := ⟨_, rfl⟩
  replace h := h x1 e_x1
  refine zr_nml e_x1 ?_
  refine xr_lstore [(0, .long p1), (2, .long p2), (4, .long p3), (6, .long x1)] (xd dX12_squareFits 3 rfl) (by decide) rfl ?_
  refine xr_ldc2_w (v := 2) (xd dX12_squareFits 4 rfl) q12_204 ?_
  refine xr_lload_n (xd dX12_squareFits 5 rfl) 1 rfl ?_
  refine xr_lmul (xd dX12_squareFits 6 rfl) ?_
  refine xr_lload (xd dX12_squareFits 7 rfl) 2 rfl ?_
  refine xr_lmul (xd dX12_squareFits 8 rfl) ?_
  refine xr_lload (xd dX12_squareFits 9 rfl) 3 rfl ?_
  refine xr_bipush (v := oI 32) (xd dX12_squareFits 10 rfl) (by decide) ?_
  refine zr_lushr (xd dX12_squareFits 11 rfl) ?_
  refine xr_ladd (xd dX12_squareFits 12 rfl) ?_
  refine xr_lload_n (xd dX12_squareFits 13 rfl) 0 rfl ?_
  refine xr_lload_n (xd dX12_squareFits 14 rfl) 1 rfl ?_
  refine xr_lload_n (xd dX12_squareFits 15 rfl) 1 rfl ?_
  refine xr_lmul (xd dX12_squareFits 16 rfl) ?_
  refine xr_lsub (xd dX12_squareFits 17 rfl) ?_
  refine xr_bipush (v := oI 32) (xd dX12_squareFits 18 rfl) (by decide) ?_
  refine zr_lshl (xd dX12_squareFits 19 rfl) ?_
  refine zr_lcmp (xd dX12_squareFits 20 rfl) ?_
  refine zr_if_ge 37 (xd dX12_squareFits 21 rfl) (by decide) (R32_of _) (fun c2 => ?_) (fun c2 => ?_)
  · replace h := ifn h c2
    refine xr_iconst (v := oI 0) (xd dX12_squareFits 24 rfl) (by decide) ?_
    exact xr_zret (xd dX12_squareFits 25 rfl) rfl (zret_b (Or.inl rfl)) (by decide) (by decide) (fun _ => rfl) ⟨_, _, _, rfl, rfl, h⟩
  · replace h := ifp h c2
    refine xr_iconst (v := oI 1) (xd dX12_squareFits 22 rfl) (by decide) ?_
    refine xr_goto 38 (xd dX12_squareFits 23 rfl) (by decide) ?_
    exact xr_zret (xd dX12_squareFits 25 rfl) rfl (zret_b (Or.inr rfl)) (by decide) (by decide) (fun _ => rfl) ⟨_, _, _, rfl, rfl, h⟩
def w_X12_cubeFits (p1 : Int64) (p2 : Int64) (p3 : Int64) (J : zM) (L : yM) (Q : Int → zM → yM → Prop) : Prop := ∀ x1 : Int64, x1 = (p3 * p3) → ∀ x2 : Int64, x2 = (yush x1 32) → ∀ x3 : Int64, x3 = (x1 &&& 4294967295) → ∀ x4 : Int64, x4 = (p3 * x2) → ∀ x5 : Int64, x5 = (yush ((((3 * p2) * x3) + (x4 &&& 4294967295)) + (yush (p3 * x3) 32)) 32) → (if (zcmp ((((((3 * p2) * p2) * p3) + ((3 * p2) * x2)) + (yush x4 32)) + x5) (yshl (p1 - ((p2 * p2) * p2)) 32)) < 0 then Q 1 J L else Q 0 J L)
set_option maxHeartbeats 4000000 in
set_option maxRecDepth 100000 in
theorem v_X12_cubeFits {b : Nat} {dC : Nat → ClassId} {dI : Nat → Nat → Nat} {cA : Nat → ClassId} {ts : Nat → Nat} {l : Launch} {n : Nat} {R : Nat → Nat → Option Nat} {al : Bool} (hn : 552 ≤ n) (hR : xRk R) {p1 : Int64} {p2 : Int64} {p3 : Int64}  {J : zM} {L : yM} {Q : Int → zM → yM → Prop} (h : w_X12_cubeFits p1 p2 p3 J L Q) : xCn (xGm b dC dI cA ts) l mX12_cubeFits [.long p1, .long p2, .long p3] al (n, R, zi J, li L) 0 0 (zQ1 n R Q) (fun _ _ => False) := by
  refine xCn.ofJ (by decide) (Nat.le_of_ble_eq_true rfl) ?_
  show xJ _ _ _ _ _ _ _ _ _ 0 [(0, .long p1), (2, .long p2), (4, .long p3)] [] _ _ _ _ _
  unfold w_X12_cubeFits at h
  refine xr_lload (xd dX12_cubeFits 0 rfl) 2 rfl ?_
  refine xr_lload (xd dX12_cubeFits 1 rfl) 2 rfl ?_
  refine xr_lmul (xd dX12_cubeFits 2 rfl) ?_
  obtain ⟨x1, e_x1⟩ : ∃ z_ : Int64, z_ = (p3 * p3) := ⟨_, rfl⟩
  replace h := h x1 e_x1
  refine zr_nml e_x1 ?_
  refine xr_lstore [(0, .long p1), (2, .long p2), (4, .long p3), (6, .long x1)] (xd dX12_cubeFits 3 rfl) (by decide) rfl ?_
  refine xr_lload (xd dX12_cubeFits 4 rfl) 3 rfl ?_
  refine xr_bipush (v := oI 32) (xd dX12_cubeFits 5 rfl) (by decide) ?_
  refine zr_lushr (xd dX12_cubeFits 6 rfl) ?_
  obtain ⟨x2, e_x2⟩ : ∃ z_ : Int64, z_ = (yush x1 32) := ⟨_, rfl⟩
  replace h := h x2 e_x2
  refine zr_nml e_x2 ?_
  refine xr_lstore [(0, .long p1), (2, .long p2), (4, .long p3), (6, .long x1), (8, .long x2)] (xd dX12_cubeFits 7 rfl) (by decide) rfl ?_
  refine xr_lload (xd dX12_cubeFits 8 rfl) 3 rfl ?_
  refine xr_ldc2_w (v := 4294967295) (xd dX12_cubeFits 9 rfl) q12_206 ?_
  refine xr_land (xd dX12_cubeFits 10 rfl) ?_
  obtain ⟨x3, e_x3⟩ : ∃ z_ : Int64, z_ = (x1 &&& 4294967295) := ⟨_, rfl⟩
  replace h := h x3 e_x3
  refine zr_nml e_x3 ?_
  refine xr_lstore [(0, .long p1), (2, .long p2), (4, .long p3), (6, .long x1), (8, .long x2), (10, .long x3)] (xd dX12_cubeFits 11 rfl) (by decide) rfl ?_
  refine xr_lload (xd dX12_cubeFits 12 rfl) 2 rfl ?_
  refine xr_lload (xd dX12_cubeFits 13 rfl) 4 rfl ?_
  refine xr_lmul (xd dX12_cubeFits 14 rfl) ?_
  obtain ⟨x4, e_x4⟩ : ∃ z_ : Int64, z_ = (p3 * x2) := ⟨_, rfl⟩
  replace h := h x4 e_x4
  refine zr_nml e_x4 ?_
  refine xr_lstore [(0, .long p1), (2, .long p2), (4, .long p3), (6, .long x1), (8, .long x2), (10, .long x3), (12, .long x4)] (xd dX12_cubeFits 15 rfl) (by decide) rfl ?_
  refine xr_ldc2_w (v := 3) (xd dX12_cubeFits 16 rfl) q12_208 ?_
  refine xr_lload_n (xd dX12_cubeFits 17 rfl) 1 rfl ?_
  refine xr_lmul (xd dX12_cubeFits 18 rfl) ?_
  refine xr_lload (xd dX12_cubeFits 19 rfl) 5 rfl ?_
  refine xr_lmul (xd dX12_cubeFits 20 rfl) ?_
  refine xr_lload (xd dX12_cubeFits 21 rfl) 6 rfl ?_
  refine xr_ldc2_w (v := 4294967295) (xd dX12_cubeFits 22 rfl) q12_206 ?_
  refine xr_land (xd dX12_cubeFits 23 rfl) ?_
  refine xr_ladd (xd dX12_cubeFits 24 rfl) ?_
  refine xr_lload (xd dX12_cubeFits 25 rfl) 2 rfl ?_
  refine xr_lload (xd dX12_cubeFits 26 rfl) 5 rfl ?_
  refine xr_lmul (xd dX12_cubeFits 27 rfl) ?_
  refine xr_bipush (v := oI 32) (xd dX12_cubeFits 28 rfl) (by decide) ?_
  refine zr_lushr (xd dX12_cubeFits 29 rfl) ?_
  refine xr_ladd (xd dX12_cubeFits 30 rfl) ?_
  refine xr_bipush (v := oI 32) (xd dX12_cubeFits 31 rfl) (by decide) ?_
  refine zr_lushr (xd dX12_cubeFits 32 rfl) ?_
  obtain ⟨x5, e_x5⟩ : ∃ z_ : Int64, z_ = (yush ((((3 * p2) * x3) + (x4 &&& 4294967295)) + (yush (p3 * x3) 32)) 32) := ⟨_, rfl⟩
  replace h := h x5 e_x5
  refine zr_nml e_x5 ?_
  refine xr_lstore [(0, .long p1), (2, .long p2), (4, .long p3), (6, .long x1), (8, .long x2), (10, .long x3), (12, .long x4), (14, .long x5)] (xd dX12_cubeFits 33 rfl) (by decide) rfl ?_
  refine xr_ldc2_w (v := 3) (xd dX12_cubeFits 34 rfl) q12_208 ?_
  refine xr_lload_n (xd dX12_cubeFits 35 rfl) 1 rfl ?_
  refine xr_lmul (xd dX12_cubeFits 36 rfl) ?_
  refine xr_lload_n (xd dX12_cubeFits 37 rfl) 1 rfl ?_
  refine xr_lmul (xd dX12_cubeFits 38 rfl) ?_
  refine xr_lload (xd dX12_cubeFits 39 rfl) 2 rfl ?_
  refine xr_lmul (xd dX12_cubeFits 40 rfl) ?_
  refine xr_ldc2_w (v := 3) (xd dX12_cubeFits 41 rfl) q12_208 ?_
  refine xr_lload_n (xd dX12_cubeFits 42 rfl) 1 rfl ?_
  refine xr_lmul (xd dX12_cubeFits 43 rfl) ?_
  refine xr_lload (xd dX12_cubeFits 44 rfl) 4 rfl ?_
  refine xr_lmul (xd dX12_cubeFits 45 rfl) ?_
  refine xr_ladd (xd dX12_cubeFits 46 rfl) ?_
  refine xr_lload (xd dX12_cubeFits 47 rfl) 6 rfl ?_
  refine xr_bipush (v := oI 32) (xd dX12_cubeFits 48 rfl) (by decide) ?_
  refine zr_lushr (xd dX12_cubeFits 49 rfl) ?_
  refine xr_ladd (xd dX12_cubeFits 50 rfl) ?_
  refine xr_lload (xd dX12_cubeFits 51 rfl) 7 rfl ?_
  refine xr_ladd (xd dX12_cubeFits 52 rfl) ?_
  refine xr_lload_n (xd dX12_cubeFits 53 rfl) 0 rfl ?_
  refine xr_lload_n (xd dX12_cubeFits 54 rfl) 1 rfl ?_
  refine xr_lload_n (xd dX12_cubeFits 55 rfl) 1 rfl ?_
  refine xr_lmul (xd dX12_cubeFits 56 rfl) ?_
  refine xr_lload_n (xd dX12_cubeFits 57 rfl) 1 rfl ?_
  refine xr_lmul (xd dX12_cubeFits 58 rfl) ?_
  refine xr_lsub (xd dX12_cubeFits 59 rfl) ?_
  refine xr_bipush (v := oI 32) (xd dX12_cubeFits 60 rfl) (by decide) ?_
  refine zr_lshl (xd dX12_cubeFits 61 rfl) ?_
  refine zr_lcmp (xd dX12_cubeFits 62 rfl) ?_
  refine zr_if_ge 104 (xd dX12_cubeFits 63 rfl) (by decide) (R32_of _) (fun c6 => ?_) (fun c6 => ?_)
  · replace h := ifn h c6
    refine xr_iconst (v := oI 0) (xd dX12_cubeFits 66 rfl) (by decide) ?_
    exact xr_zret (xd dX12_cubeFits 67 rfl) rfl (zret_b (Or.inl rfl)) (by decide) (by decide) (fun _ => rfl) ⟨_, _, _, rfl, rfl, h⟩
  · replace h := ifp h c6
    refine xr_iconst (v := oI 1) (xd dX12_cubeFits 64 rfl) (by decide) ?_
    refine xr_goto 105 (xd dX12_cubeFits 65 rfl) (by decide) ?_
    exact xr_zret (xd dX12_cubeFits 67 rfl) rfl (zret_b (Or.inr rfl)) (by decide) (by decide) (fun _ => rfl) ⟨_, _, _, rfl, rfl, h⟩
def w_X12_root (p1 : Int64) (p2 : Int) (J : zM) (L : yM) (Q : Int → zM → yM → Prop) : Prop := zl_l (fun K1 x2 J3 L4 => ∀ K7 : zM → yM → Prop, (∀ (J5 : zM) (L6 : yM), (zl_lz (fun K8 x9 x10 J11 L12 => R32 x10 ∧ (if x10 < 0 then Q (zl2i x9) J11 L12 else ∀ x15 : Int64, x15 = (x9 ||| (yshl 1 x10)) → ∀ K19 : Int64 → zM → yM → Prop, (∀ (x16 : Int64) (J17 : zM) (L18 : yM), (K8 x16 (x10 + (-1)) J17 L18) → K19 x16 J17 L18) → ∀ K22 : zM → yM → Prop, (∀ (J20 : zM) (L21 : yM), (K19 x15 J20 L21) → K22 J20 L21) → R32 p2 ∧ (if p2 = 0 then w_X12_squareFits p1 x2 x15 J11 L12 (fun r27 J25 L26 => R32 r27 ∧ (if r27 = 0 then K19 x9 J25 L26 else K22 J25 L26)) else w_X12_cubeFits p1 x2 x15 J11 L12 (fun r32 J30 L31 => R32 r32 ∧ (if r32 = 0 then K19 x9 J30 L31 else K22 J30 L31))))) 0 31 J5 L6) → K7 J5 L6) → ∀ K37 : zM → yM → Prop, (∀ (J35 : zM) (L36 : yM), (∀ x38 : Int64, x38 = (x2 + 1) → K1 x38 J35 L36) → K37 J35 L36) → R32 p2 ∧ (if p2 = 0 then (if 0 < (zcmp ((x2 + 1) * (x2 + 1)) p1) then K7 J3 L4 else K37 J3 L4) else (if 0 < (zcmp (((x2 + 1) * (x2 + 1)) * (x2 + 1)) p1) then K7 J3 L4 else K37 J3 L4))) 1 J L
set_option maxHeartbeats 4000000 in
set_option maxRecDepth 100000 in
theorem v_X12_root {b : Nat} {dC : Nat → ClassId} {dI : Nat → Nat → Nat} {cA : Nat → ClassId} {ts : Nat → Nat} {l : Launch} {n : Nat} {R : Nat → Nat → Option Nat} {al : Bool} (hn : 552 ≤ n) (hR : xRk R) {p1 : Int64} {p2 : Int}  {J : zM} {L : yM} {Q : Int → zM → yM → Prop} (h : w_X12_root p1 p2 J L Q) : xCn (xGm b dC dI cA ts) l mX12_root [.long p1, .int (oI p2)] al (n, R, zi J, li L) 0 0 (zQ1 n R Q) (fun _ _ => False) := by
  refine xCn.ofJ (by decide) (Nat.le_of_ble_eq_true rfl) ?_
  show xJ _ _ _ _ _ _ _ _ _ 0 [(0, .long p1), (2, .int (oI p2))] [] _ _ _ _ _
  unfold w_X12_root at h
  refine xr_lconst (v := 1) (xd dX12_root 0 rfl) (by decide) ?_
  refine xr_lstore_n [(0, .long p1), (2, .int (oI p2)), (3, .long 1)] (xd dX12_root 1 rfl) rfl (by decide) rfl ?_
  refine h (fun x2 J3 L4 => xJ (xGm b dC dI cA ts) l mX12_root 0 0 (zQ1 n R Q) (fun _ _ => False) 0 0 2 [(0, .long p1), (2, .int (oI p2)), (3, .long x2)] [] al n R (zi J3) (li L4)) ?_
  intro x2 J3 L4 h
  show xJ _ _ _ _ _ _ _ _ _ 2 [(0, .long p1), (2, .int (oI p2)), (3, .long x2)] [] _ _ _ _ _
  refine xr_iload_n (xd dX12_root 2 rfl) 1 rfl ?_
  replace h := h (fun (J5 : zM) (L6 : yM) => xJ (xGm b dC dI cA ts) l mX12_root 0 0 (zQ1 n R Q) (fun _ _ => False) 0 0 44 [(0, .long p1), (2, .int (oI p2)), (3, .long x2)] [] al n R (zi J5) (li L6)) (by
    intro J5 L6 h
    show xJ _ _ _ _ _ _ _ _ _ 44 [(0, .long p1), (2, .int (oI p2)), (3, .long x2)] [] _ _ _ _ _
    refine xr_lconst (v := 0) (xd dX12_root 34 rfl) (by decide) ?_
    refine xr_lstore [(0, .long p1), (2, .int (oI p2)), (3, .long x2), (5, .long 0)] (xd dX12_root 35 rfl) (by decide) rfl ?_
    refine xr_bipush (v := oI 31) (xd dX12_root 36 rfl) (by decide) ?_
    refine xr_istore [(0, .long p1), (2, .int (oI p2)), (3, .long x2), (5, .long 0), (7, .int (oI 31))] (xd dX12_root 37 rfl) (by decide) rfl ?_
    refine h (fun x9 x10 J11 L12 => xJ (xGm b dC dI cA ts) l mX12_root 0 0 (zQ1 n R Q) (fun _ _ => False) 0 0 51 [(0, .long p1), (2, .int (oI p2)), (3, .long x2), (5, .long x9), (7, .int (oI x10))] [] al n R (zi J11) (li L12)) ?_
    intro x9 x10 J11 L12 h
    show xJ _ _ _ _ _ _ _ _ _ 51 [(0, .long p1), (2, .int (oI p2)), (3, .long x2), (5, .long x9), (7, .int (oI x10))] [] _ _ _ _ _
    refine xr_iload (xd dX12_root 38 rfl) 4 rfl ?_
    obtain ⟨o13, h⟩ := h
    refine zr_if_lt 102 (xd dX12_root 39 rfl) (by decide) o13 (fun c14 => ?_) (fun c14 => ?_)
    · replace h := ifp h c14
      refine xr_lload (xd dX12_root 63 rfl) 3 rfl ?_
      refine zr_l2i (xd dX12_root 64 rfl) ?_
      exact xr_iret (xd dX12_root 65 rfl) rfl (by decide) (by decide) (fun _ => rfl) ⟨_, _, _, rfl, rfl, h⟩
    · replace h := ifn h c14
      refine xr_lload (xd dX12_root 40 rfl) 3 rfl ?_
      refine xr_lconst (v := 1) (xd dX12_root 41 rfl) (by decide) ?_
      refine xr_iload (xd dX12_root 42 rfl) 4 rfl ?_
      refine zr_lshl (xd dX12_root 43 rfl) ?_
      refine xr_lor (xd dX12_root 44 rfl) ?_
      obtain ⟨x15, e_x15⟩ : ∃ z_ : Int64, z_ = (x9 ||| (yshl 1 x10)) := ⟨_, rfl⟩
      replace h := h x15 e_x15
      refine zr_nml e_x15 ?_
      refine xr_lstore [(0, .long p1), (2, .int (oI p2)), (3, .long x2), (5, .long x9), (7, .int (oI x10)), (8, .long x15)] (xd dX12_root 45 rfl) (by decide) rfl ?_
      refine xr_iload_n (xd dX12_root 46 rfl) 1 rfl ?_
      replace h := h (fun (x16 : Int64) (J17 : zM) (L18 : yM) => xJ (xGm b dC dI cA ts) l mX12_root 0 0 (zQ1 n R Q) (fun _ _ => False) 0 0 96 [(0, .long p1), (2, .int (oI p2)), (3, .long x2), (5, .long x16), (7, .int (oI x10))] [] al n R (zi J17) (li L18)) (by
        intro x16 J17 L18 h
        show xJ _ _ _ _ _ _ _ _ _ 96 [(0, .long p1), (2, .int (oI p2)), (3, .long x2), (5, .long x16), (7, .int (oI x10))] [] _ _ _ _ _
        refine zr_iinc [(0, .long p1), (2, .int (oI p2)), (3, .long x2), (5, .long x16), (7, .int (oI (x10 + (-1))))] (xd dX12_root 61 rfl) 4 rfl (by decide) rfl ?_
        refine xr_goto 51 (xd dX12_root 62 rfl) (by decide) ?_
        exact h)
      replace h := h (fun (J20 : zM) (L21 : yM) => xJ (xGm b dC dI cA ts) l mX12_root 0 0 (zQ1 n R Q) (fun _ _ => False) 0 0 92 [(0, .long p1), (2, .int (oI p2)), (3, .long x2), (7, .int (oI x10)), (8, .long x15)] [] al n R (zi J20) (li L21)) (by
        intro J20 L21 h
        show xJ _ _ _ _ _ _ _ _ _ 92 [(0, .long p1), (2, .int (oI p2)), (3, .long x2), (7, .int (oI x10)), (8, .long x15)] [] _ _ _ _ _
        refine xr_lload (xd dX12_root 59 rfl) 4 rfl ?_
        refine xr_lstore [(0, .long p1), (2, .int (oI p2)), (3, .long x2), (5, .long x15), (7, .int (oI x10)), (8, .long x15)] (xd dX12_root 60 rfl) (by decide) rfl ?_
        refine xJ.pick (ls' := [(0, .long p1), (2, .int (oI p2)), (3, .long x2), (5, .long x15), (7, .int (oI x10))]) [0, 1, 2, 3, 4] rfl ?_
        exact h)
      obtain ⟨o23, h⟩ := h
      refine zr_if_eq 82 (xd dX12_root 47 rfl) (by decide) o23 (fun c24 => ?_) (fun c24 => ?_)
      · replace h := ifp h c24
        refine xr_lload_n (xd dX12_root 54 rfl) 0 rfl ?_
        refine xr_lload_n (xd dX12_root 55 rfl) 2 rfl ?_
        refine xr_lload (xd dX12_root 56 rfl) 5 rfl ?_
        refine xr_callS mX12_squareFits 3 [.long p1, .long x2, .long x15] (xd dX12_root 57 rfl) l12_214 kX12_squareFits rfl rfl (by decide) (Nat.le_of_ble_eq_true rfl) (v_X12_squareFits hn hR  h) (by decide) (by decide) (fun r_ M_ h_ => ?_) (fun _ _ h_ => h_.elim)
        obtain ⟨r27, J25, L26, rfl, rfl, h⟩ := h_
        show xJ _ _ _ _ _ _ _ _ _ 89 [(0, .long p1), (2, .int (oI p2)), (3, .long x2), (5, .long x9), (7, .int (oI x10)), (8, .long x15)] [.int (oI r27)] _ _ _ (zi J25) (li L26)
        obtain ⟨o28, h⟩ := h
        refine zr_if_eq 96 (xd dX12_root 58 rfl) (by decide) o28 (fun c29 => ?_) (fun c29 => ?_)
        · replace h := ifp h c29
          refine xJ.pick (ls' := [(0, .long p1), (2, .int (oI p2)), (3, .long x2), (5, .long x9), (7, .int (oI x10))]) [0, 1, 2, 3, 4] rfl ?_
          exact h
        · replace h := ifn h c29
          refine xJ.pick (ls' := [(0, .long p1), (2, .int (oI p2)), (3, .long x2), (7, .int (oI x10)), (8, .long x15)]) [0, 1, 2, 4, 5] rfl ?_
          exact h
      · replace h := ifn h c24
        refine xr_lload_n (xd dX12_root 48 rfl) 0 rfl ?_
        refine xr_lload_n (xd dX12_root 49 rfl) 2 rfl ?_
        refine xr_lload (xd dX12_root 50 rfl) 5 rfl ?_
        refine xr_callS mX12_cubeFits 3 [.long p1, .long x2, .long x15] (xd dX12_root 51 rfl) l12_210 kX12_cubeFits rfl rfl (by decide) (Nat.le_of_ble_eq_true rfl) (v_X12_cubeFits hn hR  h) (by decide) (by decide) (fun r_ M_ h_ => ?_) (fun _ _ h_ => h_.elim)
        obtain ⟨r32, J30, L31, rfl, rfl, h⟩ := h_
        show xJ _ _ _ _ _ _ _ _ _ 76 [(0, .long p1), (2, .int (oI p2)), (3, .long x2), (5, .long x9), (7, .int (oI x10)), (8, .long x15)] [.int (oI r32)] _ _ _ (zi J30) (li L31)
        obtain ⟨o33, h⟩ := h
        refine zr_if_eq 96 (xd dX12_root 52 rfl) (by decide) o33 (fun c34 => ?_) (fun c34 => ?_)
        · replace h := ifp h c34
          refine xJ.pick (ls' := [(0, .long p1), (2, .int (oI p2)), (3, .long x2), (5, .long x9), (7, .int (oI x10))]) [0, 1, 2, 3, 4] rfl ?_
          exact h
        · replace h := ifn h c34
          refine xr_goto 92 (xd dX12_root 53 rfl) (by decide) ?_
          refine xJ.pick (ls' := [(0, .long p1), (2, .int (oI p2)), (3, .long x2), (7, .int (oI x10)), (8, .long x15)]) [0, 1, 2, 4, 5] rfl ?_
          exact h)
  replace h := h (fun (J35 : zM) (L36 : yM) => xJ (xGm b dC dI cA ts) l mX12_root 0 0 (zQ1 n R Q) (fun _ _ => False) 0 0 37 [(0, .long p1), (2, .int (oI p2)), (3, .long x2)] [] al n R (zi J35) (li L36)) (by
    intro J35 L36 h
    show xJ _ _ _ _ _ _ _ _ _ 37 [(0, .long p1), (2, .int (oI p2)), (3, .long x2)] [] _ _ _ _ _
    refine xr_lload_n (xd dX12_root 29 rfl) 2 rfl ?_
    refine xr_lconst (v := 1) (xd dX12_root 30 rfl) (by decide) ?_
    refine xr_ladd (xd dX12_root 31 rfl) ?_
    obtain ⟨x38, e_x38⟩ : ∃ z_ : Int64, z_ = (x2 + 1) := ⟨_, rfl⟩
    replace h := h x38 e_x38
    refine zr_nml e_x38 ?_
    refine xr_lstore_n [(0, .long p1), (2, .int (oI p2)), (3, .long x38)] (xd dX12_root 32 rfl) rfl (by decide) rfl ?_
    refine xr_goto 2 (xd dX12_root 33 rfl) (by decide) ?_
    exact h)
  obtain ⟨o39, h⟩ := h
  refine zr_if_eq 25 (xd dX12_root 3 rfl) (by decide) o39 (fun c40 => ?_) (fun c40 => ?_)
  · replace h := ifp h c40
    refine xr_lload_n (xd dX12_root 19 rfl) 2 rfl ?_
    refine xr_lconst (v := 1) (xd dX12_root 20 rfl) (by decide) ?_
    refine xr_ladd (xd dX12_root 21 rfl) ?_
    refine xr_lload_n (xd dX12_root 22 rfl) 2 rfl ?_
    refine xr_lconst (v := 1) (xd dX12_root 23 rfl) (by decide) ?_
    refine xr_ladd (xd dX12_root 24 rfl) ?_
    refine xr_lmul (xd dX12_root 25 rfl) ?_
    refine xr_lload_n (xd dX12_root 26 rfl) 0 rfl ?_
    refine zr_lcmp (xd dX12_root 27 rfl) ?_
    refine zr_if_gt 44 (xd dX12_root 28 rfl) (by decide) (R32_of _) (fun c41 => ?_) (fun c41 => ?_)
    · replace h := ifp h c41
      exact h
    · replace h := ifn h c41
      exact h
  · replace h := ifn h c40
    refine xr_lload_n (xd dX12_root 4 rfl) 2 rfl ?_
    refine xr_lconst (v := 1) (xd dX12_root 5 rfl) (by decide) ?_
    refine xr_ladd (xd dX12_root 6 rfl) ?_
    refine xr_lload_n (xd dX12_root 7 rfl) 2 rfl ?_
    refine xr_lconst (v := 1) (xd dX12_root 8 rfl) (by decide) ?_
    refine xr_ladd (xd dX12_root 9 rfl) ?_
    refine xr_lmul (xd dX12_root 10 rfl) ?_
    refine xr_lload_n (xd dX12_root 11 rfl) 2 rfl ?_
    refine xr_lconst (v := 1) (xd dX12_root 12 rfl) (by decide) ?_
    refine xr_ladd (xd dX12_root 13 rfl) ?_
    refine xr_lmul (xd dX12_root 14 rfl) ?_
    refine xr_lload_n (xd dX12_root 15 rfl) 0 rfl ?_
    refine zr_lcmp (xd dX12_root 16 rfl) ?_
    refine zr_if_gt 44 (xd dX12_root 17 rfl) (by decide) (R32_of _) (fun c42 => ?_) (fun c42 => ?_)
    · replace h := ifp h c42
      exact h
    · replace h := ifn h c42
      refine xr_goto 37 (xd dX12_root 18 rfl) (by decide) ?_
      exact h
def w_X12_roots  (J : zM) (L : yM) (Q : zM → yM → Prop) : Prop := zl_zz (fun K1 x2 x3 J4 L5 => R32 x2 ∧ (if x2 < 64 then w_X12_isPrime x3 J4 L5 (fun r10 J8 L9 => ∀ K14 : Int → zM → yM → Prop, (∀ (x11 : Int) (J12 : zM) (L13 : yM), (K1 x11 (x3 + 1) J12 L13) → K14 x11 J12 L13) → R32 r10 ∧ (if r10 = 0 then K14 x2 J8 L9 else w_X12_root (zi2l x3) 1 J8 L9 (fun r19 J17 L18 => ((0 : Int) ≤ x2 ∧ x2 < 64) ∧ ∀ J21 : zM, J21 = zs J17 496 x2 r19 → ∀ K24 : zM → yM → Prop, (∀ (J22 : zM) (L23 : yM), (K14 (x2 + 1) J22 L23) → K24 J22 L23) → R32 x2 ∧ (if x2 < 8 then w_X12_root (zi2l x3) 0 J21 L18 (fun r29 J27 L28 => ((0 : Int) ≤ x2 ∧ x2 < 8) ∧ ∀ J31 : zM, J31 = zs J27 495 x2 r29 → K24 J31 L28) else K24 J21 L18)))) else Q J4 L5)) 0 2 J L
set_option maxHeartbeats 4000000 in
set_option maxRecDepth 100000 in
theorem v_X12_roots {b : Nat} {dC : Nat → ClassId} {dI : Nat → Nat → Nat} {cA : Nat → ClassId} {ts : Nat → Nat} {l : Launch} {n : Nat} {R : Nat → Nat → Option Nat} {al : Bool} (hn : 552 ≤ n) (hR : xRk R)   {J : zM} {L : yM} {Q : zM → yM → Prop} (h : w_X12_roots  J L Q) : xCn (xGm b dC dI cA ts) l mX12_roots [.ref 491] al (n, R, zi J, li L) 0 0 (zQ0 n R Q) (fun _ _ => False) := by
  refine xCn.ofJ (by decide) (Nat.le_of_ble_eq_true rfl) ?_
  show xJ _ _ _ _ _ _ _ _ _ 0 [(0, .ref 491)] [] _ _ _ _ _
  unfold w_X12_roots at h
  refine xr_iconst (v := oI 0) (xd dX12_roots 0 rfl) (by decide) ?_
  refine xr_istore_n [(0, .ref 491), (1, .int (oI 0))] (xd dX12_roots 1 rfl) rfl (by decide) rfl ?_
  refine xr_iconst (v := oI 2) (xd dX12_roots 2 rfl) (by decide) ?_
  refine xr_istore_n [(0, .ref 491), (1, .int (oI 0)), (2, .int (oI 2))] (xd dX12_roots 3 rfl) rfl (by decide) rfl ?_
  refine h (fun x2 x3 J4 L5 => xJ (xGm b dC dI cA ts) l mX12_roots 0 0 (zQ0 n R Q) (fun _ _ => False) 0 0 4 [(0, .ref 491), (1, .int (oI x2)), (2, .int (oI x3))] [] al n R (zi J4) (li L5)) ?_
  intro x2 x3 J4 L5 h
  show xJ _ _ _ _ _ _ _ _ _ 4 [(0, .ref 491), (1, .int (oI x2)), (2, .int (oI x3))] [] _ _ _ _ _
  refine xr_iload_n (xd dX12_roots 4 rfl) 1 rfl ?_
  refine xr_bipush (v := oI 64) (xd dX12_roots 5 rfl) (by decide) ?_
  obtain ⟨o6, h⟩ := h
  refine zr_icmp_ge 56 (xd dX12_roots 6 rfl) (by decide) o6 (by decide) (fun c7 => ?_) (fun c7 => ?_)
  · replace h := ifn h c7
    exact xr_vret (xd dX12_roots 32 rfl) rfl (by decide) (by decide) (fun _ => rfl) ⟨_, _, rfl, rfl, h⟩
  · replace h := ifp h c7
    refine xr_iload_n (xd dX12_roots 7 rfl) 2 rfl ?_
    refine xr_callS mX12_isPrime 1 [.int (oI x3)] (xd dX12_roots 8 rfl) l12_217 kX12_isPrime rfl rfl (by decide) (Nat.le_of_ble_eq_true rfl) (v_X12_isPrime hn hR  h) (by decide) (by decide) (fun r_ M_ h_ => ?_) (fun _ _ h_ => h_.elim)
    obtain ⟨r10, J8, L9, rfl, rfl, h⟩ := h_
    show xJ _ _ _ _ _ _ _ _ _ 14 [(0, .ref 491), (1, .int (oI x2)), (2, .int (oI x3))] [.int (oI r10)] _ _ _ (zi J8) (li L9)
    replace h := h (fun (x11 : Int) (J12 : zM) (L13 : yM) => xJ (xGm b dC dI cA ts) l mX12_roots 0 0 (zQ0 n R Q) (fun _ _ => False) 0 0 50 [(0, .ref 491), (1, .int (oI x11)), (2, .int (oI x3))] [] al n R (zi J12) (li L13)) (by
      intro x11 J12 L13 h
      show xJ _ _ _ _ _ _ _ _ _ 50 [(0, .ref 491), (1, .int (oI x11)), (2, .int (oI x3))] [] _ _ _ _ _
      refine zr_iinc [(0, .ref 491), (1, .int (oI x11)), (2, .int (oI (x3 + 1)))] (xd dX12_roots 30 rfl) 2 rfl (by decide) rfl ?_
      refine xr_goto 4 (xd dX12_roots 31 rfl) (by decide) ?_
      exact h)
    obtain ⟨o15, h⟩ := h
    refine zr_if_eq 50 (xd dX12_roots 9 rfl) (by decide) o15 (fun c16 => ?_) (fun c16 => ?_)
    · replace h := ifp h c16
      exact h
    · replace h := ifn h c16
      refine xr_aload_n (xd dX12_roots 10 rfl) 0 rfl ?_
      refine xr_getR (b := 496) 12 11 (xd dX12_roots 11 rfl) f12_22 (by decide) (by decide) (lt552 hn (by decide)) kd_491 rfl (r_491_11 hR) ?_
      refine xr_iload_n (xd dX12_roots 12 rfl) 1 rfl ?_
      refine xr_iload_n (xd dX12_roots 13 rfl) 2 rfl ?_
      refine zr_i2l (xd dX12_roots 14 rfl) ?_
      refine xr_iconst (v := oI 1) (xd dX12_roots 15 rfl) (by decide) ?_
      refine xr_callS mX12_root 2 [.long (zi2l x3), .int (oI 1)] (xd dX12_roots 16 rfl) l12_221 kX12_root rfl rfl (by decide) (Nat.le_of_ble_eq_true rfl) (v_X12_root hn hR  h) (by decide) (by decide) (fun r_ M_ h_ => ?_) (fun _ _ h_ => h_.elim)
      obtain ⟨r19, J17, L18, rfl, rfl, h⟩ := h_
      show xJ _ _ _ _ _ _ _ _ _ 28 [(0, .ref 491), (1, .int (oI x2)), (2, .int (oI x3))] [.int (oI r19), .int (oI x2), .ref 496] _ _ _ (zi J17) (li L18)
      obtain ⟨o20, h⟩ := h
      obtain ⟨J21, e_J21⟩ : ∃ z_ : zM, z_ = zs J17 496 x2 r19 := ⟨_, rfl⟩
      replace h := h J21 e_J21
      refine zr_iastore e_J21 (xd dX12_roots 17 rfl) (lt552 hn (by decide)) kd_496 ln_496 (by decide) o20 ?_
      refine xr_iload_n (xd dX12_roots 18 rfl) 1 rfl ?_
      refine xr_bipush (v := oI 8) (xd dX12_roots 19 rfl) (by decide) ?_
      replace h := h (fun (J22 : zM) (L23 : yM) => xJ (xGm b dC dI cA ts) l mX12_roots 0 0 (zQ0 n R Q) (fun _ _ => False) 0 0 47 [(0, .ref 491), (1, .int (oI x2)), (2, .int (oI x3))] [] al n R (zi J22) (li L23)) (by
        intro J22 L23 h
        show xJ _ _ _ _ _ _ _ _ _ 47 [(0, .ref 491), (1, .int (oI x2)), (2, .int (oI x3))] [] _ _ _ _ _
        refine zr_iinc [(0, .ref 491), (1, .int (oI (x2 + 1))), (2, .int (oI x3))] (xd dX12_roots 29 rfl) 1 rfl (by decide) rfl ?_
        exact h)
      obtain ⟨o25, h⟩ := h
      refine zr_icmp_ge 47 (xd dX12_roots 20 rfl) (by decide) o25 (by decide) (fun c26 => ?_) (fun c26 => ?_)
      · replace h := ifn h c26
        exact h
      · replace h := ifp h c26
        refine xr_aload_n (xd dX12_roots 21 rfl) 0 rfl ?_
        refine xr_getR (b := 495) 12 10 (xd dX12_roots 22 rfl) f12_19 (by decide) (by decide) (lt552 hn (by decide)) kd_491 rfl (r_491_10 hR) ?_
        refine xr_iload_n (xd dX12_roots 23 rfl) 1 rfl ?_
        refine xr_iload_n (xd dX12_roots 24 rfl) 2 rfl ?_
        refine zr_i2l (xd dX12_roots 25 rfl) ?_
        refine xr_iconst (v := oI 0) (xd dX12_roots 26 rfl) (by decide) ?_
        refine xr_callS mX12_root 2 [.long (zi2l x3), .int (oI 0)] (xd dX12_roots 27 rfl) l12_221 kX12_root rfl rfl (by decide) (Nat.le_of_ble_eq_true rfl) (v_X12_root hn hR  h) (by decide) (by decide) (fun r_ M_ h_ => ?_) (fun _ _ h_ => h_.elim)
        obtain ⟨r29, J27, L28, rfl, rfl, h⟩ := h_
        show xJ _ _ _ _ _ _ _ _ _ 46 [(0, .ref 491), (1, .int (oI x2)), (2, .int (oI x3))] [.int (oI r29), .int (oI x2), .ref 495] _ _ _ (zi J27) (li L28)
        obtain ⟨o30, h⟩ := h
        obtain ⟨J31, e_J31⟩ : ∃ z_ : zM, z_ = zs J27 495 x2 r29 := ⟨_, rfl⟩
        replace h := h J31 e_J31
        refine zr_iastore e_J31 (xd dX12_roots 28 rfl) (lt552 hn (by decide)) kd_495 ln_495 (by decide) o30 ?_
        exact h
