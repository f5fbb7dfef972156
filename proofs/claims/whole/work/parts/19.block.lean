set_option maxHeartbeats 4000000 in
set_option maxRecDepth 100000 in
/-- turned(v, by) -/
theorem c_turned {b : Nat} {dC : Nat → ClassId} {dI : Nat → Nat → Nat} {cA : Nat → ClassId} {ts : Nat → Nat} {l : Launch} {al : Bool} {n : Nat} {R : Nat → Nat → Option Nat} {L : Nat → Nat → Int64} {v k : Int32} {I : Nat → Nat → Int32} : xCn (xGm b dC dI cA ts) l mX12_turned [.int v, .int k] al (n, R, I, L) 0 0 (fun r M => r = some (.int (ro v k (32 - k))) ∧ M = (n, R, I, L)) (fun _ _ => False) := by
  refine xCn.ofJ (by decide) (Nat.le_of_ble_eq_true rfl) ?_
  show xJ _ _ _ _ _ _ _ _ _ 0 [(0, .int v), (1, .int k)] [] _ _ _ _ _
  refine xr_iload_n (xd dX12_turned 0 rfl) 0 rfl ?_
  refine xr_iload_n (xd dX12_turned 1 rfl) 1 rfl ?_
  refine xr_iushr (xd dX12_turned 2 rfl) ?_
  refine xr_iload_n (xd dX12_turned 3 rfl) 0 rfl ?_
  refine xr_bipush (v := nI 32) (xd dX12_turned 4 rfl) (by decide) ?_
  refine xr_iload_n (xd dX12_turned 5 rfl) 1 rfl ?_
  refine xr_isub (xd dX12_turned 6 rfl) ?_
  refine xr_ishl (xd dX12_turned 7 rfl) ?_
  refine xr_ior (xd dX12_turned 8 rfl) ?_
  refine xr_iret (xd dX12_turned 9 rfl) rfl (Nat.zero_le _) (Nat.zero_le _) (fun _ => rfl) ?_
  exact ⟨rfl, rfl⟩
set_option maxHeartbeats 4000000 in
set_option maxRecDepth 100000 in
theorem blk_l1 {b : Nat} {dC : Nat → ClassId} {dI : Nat → Nat → Nat} {cA : Nat → ClassId} {ts : Nat → Nat} {l : Launch} {al : Bool} {n : Nat} {R : Nat → Nat → Option Nat} {L : Nat → Nat → Int64} (hn : 552 ≤ n) (hR : xRk R) {at_ : Nat} (hat : at_ + 64 ≤ 1400) {I0 : Nat → Nat → Int32} {Qv : Option Value → xM → Prop} {Qx : String → xM → Prop} : ∀ (k t : Nat) (I : Nat → Nat → Int32), t + k = 16 → (xFr [499] [] I0 I ∧ ∀ j, j < t → I 499 j = hwd (fun i => I0 497 (at_ + i)) j) → (∀ I' : Nat → Nat → Int32, (xFr [499] [] I0 I' ∧ ∀ j, j < 16 → I' 499 j = hwd (fun i => I0 497 (at_ + i)) j) → xJ (xGm b dC dI cA ts) l mX12_block 0 0 Qv Qx 0 0 68 [(0, .ref 491), (1, .int (nI at_)), (2, .int (nI 16))] [] al n R I' L) → xJ (xGm b dC dI cA ts) l mX12_block 0 0 Qv Qx 0 0 2 [(0, .ref 491), (1, .int (nI at_)), (2, .int (nI t))] [] al n R I L := by
  intro k
  induction k with
  | zero =>
    intro t I ht hI hx
    refine xr_iload_n (xd dX12_block 2 rfl) 2 rfl ?_
    refine xr_bipush (v := nI 16) (xd dX12_block 3 rfl) (by decide) ?_
    refine xr_icmpN_ge 68 (xd dX12_block 4 rfl) (by decide) (by omega) (by omega) (fun c5 => ?_) (fun c5 => ?_)
    · skip
      have hz : t = 16 := by omega
      subst hz
      exact hx I hI
    · skip
      exact absurd c5 (by omega)
  | succ k ih =>
    intro t I ht hI hx
    refine xr_iload_n (xd dX12_block 2 rfl) 2 rfl ?_
    refine xr_bipush (v := nI 16) (xd dX12_block 3 rfl) (by decide) ?_
    refine xr_icmpN_ge 68 (xd dX12_block 4 rfl) (by decide) (by omega) (by omega) (fun c5 => ?_) (fun c5 => ?_)
    · skip
      exact absurd c5 (by omega)
    · skip
      refine xr_iload_n (xd dX12_block 5 rfl) 1 rfl ?_
      refine xr_iconst (v := nI 4) (xd dX12_block 6 rfl) (by decide) ?_
      refine xr_iload_n (xd dX12_block 7 rfl) 2 rfl ?_
      refine xr_imul (xd dX12_block 8 rfl) ?_
      refine xr_eqi (nI (4 * t)) (pk_mul _ _) ?_
      refine xr_iadd (xd dX12_block 9 rfl) ?_
      refine xr_eqi (nI (at_ + (4 * t))) (nI_add _ _) ?_
      refine xr_istore_n [(0, .ref 491), (1, .int (nI at_)), (2, .int (nI t)), (3, .int (nI (at_ + (4 * t))))] (xd dX12_block 10 rfl) rfl (by decide) rfl ?_
      refine xr_aload_n (xd dX12_block 11 rfl) 0 rfl ?_
      refine xr_getR (b := 499) 12 15 (xd dX12_block 12 rfl) f12_31 (by decide) (by decide) (by omega) kd_491 rfl (r_491_15 hR) ?_
      refine xr_iload_n (xd dX12_block 13 rfl) 2 rfl ?_
      refine xr_aload_n (xd dX12_block 14 rfl) 0 rfl ?_
      refine xr_getR (b := 497) 12 12 (xd dX12_block 15 rfl) f12_25 (by decide) (by decide) (by omega) kd_491 rfl (r_491_12 hR) ?_
      refine xr_iload_n (xd dX12_block 16 rfl) 3 rfl ?_
      obtain ⟨x1, e_x1⟩ : ∃ z_ : Int32, z_ = I 497 (at_ + (4 * t)) := ⟨_, rfl⟩
      refine xr_ialoadN (x := x1) (xd dX12_block 17 rfl) (by omega) kd_497 ln_497 (by omega) (by omega) e_x1.symm ?_
      refine xr_bipush (v := nI 24) (xd dX12_block 18 rfl) (by decide) ?_
      refine xr_ishl (xd dX12_block 19 rfl) ?_
      refine xr_aload_n (xd dX12_block 20 rfl) 0 rfl ?_
      refine xr_getR (b := 497) 12 12 (xd dX12_block 21 rfl) f12_25 (by decide) (by decide) (by omega) kd_491 rfl (r_491_12 hR) ?_
      refine xr_iload_n (xd dX12_block 22 rfl) 3 rfl ?_
      refine xr_iconst (v := nI 1) (xd dX12_block 23 rfl) (by decide) ?_
      refine xr_iadd (xd dX12_block 24 rfl) ?_
      refine xr_eqi (nI (at_ + (4 * t) + 1)) (nI_add _ _) ?_
      obtain ⟨x2, e_x2⟩ : ∃ z_ : Int32, z_ = I 497 (at_ + (4 * t) + 1) := ⟨_, rfl⟩
      refine xr_ialoadN (x := x2) (xd dX12_block 25 rfl) (by omega) kd_497 ln_497 (by omega) (by omega) e_x2.symm ?_
      refine xr_bipush (v := nI 16) (xd dX12_block 26 rfl) (by decide) ?_
      refine xr_ishl (xd dX12_block 27 rfl) ?_
      refine xr_ior (xd dX12_block 28 rfl) ?_
      refine xr_aload_n (xd dX12_block 29 rfl) 0 rfl ?_
      refine xr_getR (b := 497) 12 12 (xd dX12_block 30 rfl) f12_25 (by decide) (by decide) (by omega) kd_491 rfl (r_491_12 hR) ?_
      refine xr_iload_n (xd dX12_block 31 rfl) 3 rfl ?_
      refine xr_iconst (v := nI 2) (xd dX12_block 32 rfl) (by decide) ?_
      refine xr_iadd (xd dX12_block 33 rfl) ?_
      refine xr_eqi (nI (at_ + (4 * t) + 2)) (nI_add _ _) ?_
      obtain ⟨x3, e_x3⟩ : ∃ z_ : Int32, z_ = I 497 (at_ + (4 * t) + 2) := ⟨_, rfl⟩
      refine xr_ialoadN (x := x3) (xd dX12_block 34 rfl) (by omega) kd_497 ln_497 (by omega) (by omega) e_x3.symm ?_
      refine xr_bipush (v := nI 8) (xd dX12_block 35 rfl) (by decide) ?_
      refine xr_ishl (xd dX12_block 36 rfl) ?_
      refine xr_ior (xd dX12_block 37 rfl) ?_
      refine xr_aload_n (xd dX12_block 38 rfl) 0 rfl ?_
      refine xr_getR (b := 497) 12 12 (xd dX12_block 39 rfl) f12_25 (by decide) (by decide) (by omega) kd_491 rfl (r_491_12 hR) ?_
      refine xr_iload_n (xd dX12_block 40 rfl) 3 rfl ?_
      refine xr_iconst (v := nI 3) (xd dX12_block 41 rfl) (by decide) ?_
      refine xr_iadd (xd dX12_block 42 rfl) ?_
      refine xr_eqi (nI (at_ + (4 * t) + 3)) (nI_add _ _) ?_
      obtain ⟨x4, e_x4⟩ : ∃ z_ : Int32, z_ = I 497 (at_ + (4 * t) + 3) := ⟨_, rfl⟩
      refine xr_ialoadN (x := x4) (xd dX12_block 43 rfl) (by omega) kd_497 ln_497 (by omega) (by omega) e_x4.symm ?_
      refine xr_ior (xd dX12_block 44 rfl) ?_
      obtain ⟨I5, e_I5⟩ : ∃ z_ : Nat → Nat → Int32, z_ = xu I 499 t ((((x1 <<< (24 &&& 31)) ||| (x2 <<< (16 &&& 31))) ||| (x3 <<< (8 &&& 31))) ||| x4) := ⟨_, rfl⟩
      refine xr_iastoreN (I' := I5) e_I5 (xd dX12_block 45 rfl) (by omega) kd_499 ln_499 (by omega) (by omega) ?_
      refine xr_iinc (v := nI (t + 1)) [(0, .ref 491), (1, .int (nI at_)), (2, .int (nI (t + 1))), (3, .int (nI (at_ + (4 * t))))] (xd dX12_block 46 rfl) 2 rfl (nI_inc _) (by decide) rfl ?_
      refine xr_goto 2 (xd dX12_block 47 rfl) (by decide) ?_
      refine xJ.pick [0, 1, 2] rfl ?_
      refine ih (t + 1) I5 (by omega) ?_ hx
      obtain ⟨q1, q2⟩ := hI
      have hF : xFr [499] [] I I5 := by rw [e_I5]; exact xFr.u (Or.inl (by simp))
      have hB1 : I 497 = I0 497 := q1.row (by simp) (by simp)
      refine ⟨q1.tr hF, fun j hj => ?_⟩
      by_cases hjt : j = t
      · subst hjt
        rw [e_I5, xu_s, e_x1, e_x2, e_x3, e_x4, hB1]
        simp only [hwd, Nat.add_assoc]
      · rw [e_I5, xu_n I _ (Or.inr hjt)]
        exact q2 j (by omega)
set_option maxHeartbeats 4000000 in
set_option maxRecDepth 100000 in
theorem blk_l2 {b : Nat} {dC : Nat → ClassId} {dI : Nat → Nat → Nat} {cA : Nat → ClassId} {ts : Nat → Nat} {l : Launch} {al : Bool} {n : Nat} {R : Nat → Nat → Option Nat} {L : Nat → Nat → Int64} (hn : 552 ≤ n) (hR : xRk R) {at_ : Nat} (hat : at_ + 64 ≤ 1400) {I0 : Nat → Nat → Int32} {f : Nat → Int32} {Qv : Option Value → xM → Prop} {Qx : String → xM → Prop} : ∀ (k t : Nat) (I : Nat → Nat → Int32), t + k = 48 → (xFr [499] [] I0 I ∧ ∀ j, j < 16 + t → I 499 j = hW f t j) → (∀ I' : Nat → Nat → Int32, (xFr [499] [] I0 I' ∧ ∀ j, j < 16 + 48 → I' 499 j = hW f 48 j) → xJ (xGm b dC dI cA ts) l mX12_block 0 0 Qv Qx 0 0 168 [(0, .ref 491), (1, .int (nI at_)), (2, .int (nI (16 + 48)))] [] al n R I' L) → xJ (xGm b dC dI cA ts) l mX12_block 0 0 Qv Qx 0 0 71 [(0, .ref 491), (1, .int (nI at_)), (2, .int (nI (16 + t)))] [] al n R I L := by
  intro k
  induction k with
  | zero =>
    intro t I ht hI hx
    refine xr_iload_n (xd dX12_block 50 rfl) 2 rfl ?_
    refine xr_bipush (v := nI 64) (xd dX12_block 51 rfl) (by decide) ?_
    refine xr_icmpN_ge 168 (xd dX12_block 52 rfl) (by decide) (by omega) (by omega) (fun c74 => ?_) (fun c74 => ?_)
    · skip
      have hz : t = 48 := by omega
      subst hz
      exact hx I hI
    · skip
      exact absurd c74 (by omega)
  | succ k ih =>
    intro t I ht hI hx
    refine xr_iload_n (xd dX12_block 50 rfl) 2 rfl ?_
    refine xr_bipush (v := nI 64) (xd dX12_block 51 rfl) (by decide) ?_
    refine xr_icmpN_ge 168 (xd dX12_block 52 rfl) (by decide) (by omega) (by omega) (fun c74 => ?_) (fun c74 => ?_)
    · skip
      exact absurd c74 (by omega)
    · skip
      refine xr_aload_n (xd dX12_block 53 rfl) 0 rfl ?_
      refine xr_getR (b := 499) 12 15 (xd dX12_block 54 rfl) f12_31 (by decide) (by decide) (by omega) kd_491 rfl (r_491_15 hR) ?_
      refine xr_iload_n (xd dX12_block 55 rfl) 2 rfl ?_
      refine xr_bipush (v := nI 15) (xd dX12_block 56 rfl) (by decide) ?_
      refine xr_isub (xd dX12_block 57 rfl) ?_
      refine xr_eqi (nI (t + 1)) ((pk_sub (by omega)).trans (congrArg nI (by omega))) ?_
      obtain ⟨x1, e_x1⟩ : ∃ z_ : Int32, z_ = I 499 (t + 1) := ⟨_, rfl⟩
      refine xr_ialoadN (x := x1) (xd dX12_block 58 rfl) (by omega) kd_499 ln_499 (by omega) (by omega) e_x1.symm ?_
      refine xr_istore_n [(0, .ref 491), (1, .int (nI at_)), (2, .int (nI (16 + t))), (3, .int x1)] (xd dX12_block 59 rfl) rfl (by decide) rfl ?_
      refine xr_aload_n (xd dX12_block 60 rfl) 0 rfl ?_
      refine xr_getR (b := 499) 12 15 (xd dX12_block 61 rfl) f12_31 (by decide) (by decide) (by omega) kd_491 rfl (r_491_15 hR) ?_
      refine xr_iload_n (xd dX12_block 62 rfl) 2 rfl ?_
      refine xr_iconst (v := nI 2) (xd dX12_block 63 rfl) (by decide) ?_
      refine xr_isub (xd dX12_block 64 rfl) ?_
      refine xr_eqi (nI (t + 14)) ((pk_sub (by omega)).trans (congrArg nI (by omega))) ?_
      obtain ⟨x2, e_x2⟩ : ∃ z_ : Int32, z_ = I 499 (t + 14) := ⟨_, rfl⟩
      refine xr_ialoadN (x := x2) (xd dX12_block 65 rfl) (by omega) kd_499 ln_499 (by omega) (by omega) e_x2.symm ?_
      refine xr_istore [(0, .ref 491), (1, .int (nI at_)), (2, .int (nI (16 + t))), (3, .int x1), (4, .int x2)] (xd dX12_block 66 rfl) (by decide) rfl ?_
      refine xr_aload_n (xd dX12_block 67 rfl) 0 rfl ?_
      refine xr_getR (b := 499) 12 15 (xd dX12_block 68 rfl) f12_31 (by decide) (by decide) (by omega) kd_491 rfl (r_491_15 hR) ?_
      refine xr_iload_n (xd dX12_block 69 rfl) 2 rfl ?_
      refine xr_aload_n (xd dX12_block 70 rfl) 0 rfl ?_
      refine xr_getR (b := 499) 12 15 (xd dX12_block 71 rfl) f12_31 (by decide) (by decide) (by omega) kd_491 rfl (r_491_15 hR) ?_
      refine xr_iload_n (xd dX12_block 72 rfl) 2 rfl ?_
      refine xr_bipush (v := nI 16) (xd dX12_block 73 rfl) (by decide) ?_
      refine xr_isub (xd dX12_block 74 rfl) ?_
      refine xr_eqi (nI t) ((pk_sub (by omega)).trans (congrArg nI (by omega))) ?_
      obtain ⟨x3, e_x3⟩ : ∃ z_ : Int32, z_ = I 499 t := ⟨_, rfl⟩
      refine xr_ialoadN (x := x3) (xd dX12_block 75 rfl) (by omega) kd_499 ln_499 (by omega) (by omega) e_x3.symm ?_
      refine xr_iload_n (xd dX12_block 76 rfl) 3 rfl ?_
      refine xr_bipush (v := nI 7) (xd dX12_block 77 rfl) (by decide) ?_
      refine xr_callS mX12_turned 2 [.int x1, .int (nI 7)] (xd dX12_block 78 rfl) l12_225 kX12_turned rfl rfl (by decide) (Nat.le_of_ble_eq_true rfl) (c_turned (v := x1) (k := nI 7) (I := I)) (Nat.le_refl _) (Nat.le_refl _) (fun r_ M_ h_ => ?_) (fun _ _ h_ => h_.elim)
      obtain ⟨rfl, rfl⟩ := h_
      show xJ _ _ _ _ _ _ _ _ _ 117 [(0, .ref 491), (1, .int (nI at_)), (2, .int (nI (16 + t))), (3, .int x1), (4, .int x2)] [.int (ro x1 (nI 7) (32 - nI 7)), .int x3, .int (nI (16 + t)), .ref 499] _ _ _ I L
      refine xr_eqi (ro x1 7 25) rfl ?_
      refine xr_iload_n (xd dX12_block 79 rfl) 3 rfl ?_
      refine xr_bipush (v := nI 18) (xd dX12_block 80 rfl) (by decide) ?_
      refine xr_callS mX12_turned 2 [.int x1, .int (nI 18)] (xd dX12_block 81 rfl) l12_225 kX12_turned rfl rfl (by decide) (Nat.le_of_ble_eq_true rfl) (c_turned (v := x1) (k := nI 18) (I := I)) (Nat.le_refl _) (Nat.le_refl _) (fun r_ M_ h_ => ?_) (fun _ _ h_ => h_.elim)
      obtain ⟨rfl, rfl⟩ := h_
      show xJ _ _ _ _ _ _ _ _ _ 123 [(0, .ref 491), (1, .int (nI at_)), (2, .int (nI (16 + t))), (3, .int x1), (4, .int x2)] [.int (ro x1 (nI 18) (32 - nI 18)), .int (ro x1 7 25), .int x3, .int (nI (16 + t)), .ref 499] _ _ _ I L
      refine xr_eqi (ro x1 18 14) rfl ?_
      refine xr_ixor (xd dX12_block 82 rfl) ?_
      refine xr_iload_n (xd dX12_block 83 rfl) 3 rfl ?_
      refine xr_iconst (v := nI 3) (xd dX12_block 84 rfl) (by decide) ?_
      refine xr_iushr (xd dX12_block 85 rfl) ?_
      refine xr_ixor (xd dX12_block 86 rfl) ?_
      refine xr_iadd (xd dX12_block 87 rfl) ?_
      refine xr_aload_n (xd dX12_block 88 rfl) 0 rfl ?_
      refine xr_getR (b := 499) 12 15 (xd dX12_block 89 rfl) f12_31 (by decide) (by decide) (by omega) kd_491 rfl (r_491_15 hR) ?_
      refine xr_iload_n (xd dX12_block 90 rfl) 2 rfl ?_
      refine xr_bipush (v := nI 7) (xd dX12_block 91 rfl) (by decide) ?_
      refine xr_isub (xd dX12_block 92 rfl) ?_
      refine xr_eqi (nI (t + 9)) ((pk_sub (by omega)).trans (congrArg nI (by omega))) ?_
      obtain ⟨x6, e_x6⟩ : ∃ z_ : Int32, z_ = I 499 (t + 9) := ⟨_, rfl⟩
      refine xr_ialoadN (x := x6) (xd dX12_block 93 rfl) (by omega) kd_499 ln_499 (by omega) (by omega) e_x6.symm ?_
      refine xr_iadd (xd dX12_block 94 rfl) ?_
      refine xr_iload (xd dX12_block 95 rfl) 4 rfl ?_
      refine xr_bipush (v := nI 17) (xd dX12_block 96 rfl) (by decide) ?_
      refine xr_callS mX12_turned 2 [.int x2, .int (nI 17)] (xd dX12_block 97 rfl) l12_225 kX12_turned rfl rfl (by decide) (Nat.le_of_ble_eq_true rfl) (c_turned (v := x2) (k := nI 17) (I := I)) (Nat.le_refl _) (Nat.le_refl _) (fun r_ M_ h_ => ?_) (fun _ _ h_ => h_.elim)
      obtain ⟨rfl, rfl⟩ := h_
      show xJ _ _ _ _ _ _ _ _ _ 146 [(0, .ref 491), (1, .int (nI at_)), (2, .int (nI (16 + t))), (3, .int x1), (4, .int x2)] [.int (ro x2 (nI 17) (32 - nI 17)), .int ((x3 + (((ro x1 7 25) ^^^ (ro x1 18 14)) ^^^ (us x1 3))) + x6), .int (nI (16 + t)), .ref 499] _ _ _ I L
      refine xr_eqi (ro x2 17 15) rfl ?_
      refine xr_iload (xd dX12_block 98 rfl) 4 rfl ?_
      refine xr_bipush (v := nI 19) (xd dX12_block 99 rfl) (by decide) ?_
      refine xr_callS mX12_turned 2 [.int x2, .int (nI 19)] (xd dX12_block 100 rfl) l12_225 kX12_turned rfl rfl (by decide) (Nat.le_of_ble_eq_true rfl) (c_turned (v := x2) (k := nI 19) (I := I)) (Nat.le_refl _) (Nat.le_refl _) (fun r_ M_ h_ => ?_) (fun _ _ h_ => h_.elim)
      obtain ⟨rfl, rfl⟩ := h_
      show xJ _ _ _ _ _ _ _ _ _ 153 [(0, .ref 491), (1, .int (nI at_)), (2, .int (nI (16 + t))), (3, .int x1), (4, .int x2)] [.int (ro x2 (nI 19) (32 - nI 19)), .int (ro x2 17 15), .int ((x3 + (((ro x1 7 25) ^^^ (ro x1 18 14)) ^^^ (us x1 3))) + x6), .int (nI (16 + t)), .ref 499] _ _ _ I L
      refine xr_eqi (ro x2 19 13) rfl ?_
      refine xr_ixor (xd dX12_block 101 rfl) ?_
      refine xr_iload (xd dX12_block 102 rfl) 4 rfl ?_
      refine xr_bipush (v := nI 10) (xd dX12_block 103 rfl) (by decide) ?_
      refine xr_iushr (xd dX12_block 104 rfl) ?_
      refine xr_ixor (xd dX12_block 105 rfl) ?_
      refine xr_iadd (xd dX12_block 106 rfl) ?_
      obtain ⟨I9, e_I9⟩ : ∃ z_ : Nat → Nat → Int32, z_ = xu I 499 (16 + t) (((x3 + (((ro x1 7 25) ^^^ (ro x1 18 14)) ^^^ (us x1 3))) + x6) + (((ro x2 17 15) ^^^ (ro x2 19 13)) ^^^ (us x2 10))) := ⟨_, rfl⟩
      refine xr_iastoreN (I' := I9) e_I9 (xd dX12_block 107 rfl) (by omega) kd_499 ln_499 (by omega) (by omega) ?_
      refine xr_iinc (v := nI (16 + t + 1)) [(0, .ref 491), (1, .int (nI at_)), (2, .int (nI (16 + t + 1))), (3, .int x1), (4, .int x2)] (xd dX12_block 108 rfl) 2 rfl (nI_inc _) (by decide) rfl ?_
      refine xr_goto 71 (xd dX12_block 109 rfl) (by decide) ?_
      refine xJ.pick [0, 1, 2] rfl ?_
      refine ih (t + 1) I9 (by omega) ?_ hx
      obtain ⟨q1, q2⟩ := hI
      have hF : xFr [499] [] I I9 := by rw [e_I9]; exact xFr.u (Or.inl (by simp))
      refine ⟨q1.tr hF, fun j hj => ?_⟩
      by_cases hjt : j = 16 + t
      · subst hjt
        rw [e_I9, xu_s]
        show _ = (if 16 + t = 16 + t then _ else _)
        rw [if_pos rfl, ← q2 t (by omega), ← q2 (t + 1) (by omega), ← q2 (t + 9) (by omega), ← q2 (t + 14) (by omega), e_x1, e_x2, e_x3, e_x6]
        rfl
      · rw [e_I9, xu_n I _ (Or.inr hjt), q2 j (by omega)]
        exact (hW_lo f t j (by omega)).symm
set_option maxHeartbeats 4000000 in
set_option maxRecDepth 100000 in
theorem blk_l3 {b : Nat} {dC : Nat → ClassId} {dI : Nat → Nat → Nat} {cA : Nat → ClassId} {ts : Nat → Nat} {l : Launch} {al : Bool} {n : Nat} {R : Nat → Nat → Option Nat} {L : Nat → Nat → Int64} (hn : 552 ≤ n) (hR : xRk R) {at_ : Nat} (hat : at_ + 64 ≤ 1400) {Qv : Option Value → xM → Prop} {Qx : String → xM → Prop} {w : Nat → Int32} {q : h8} {I : Nat → Nat → Int32} (hC : ∀ t, t < 64 → I 496 t = xK64.getD t 0) (hw : ∀ j, j < 64 → I 499 j = w j) (hx : ∀ a1 a2 a3 a4 a5 a6 a7 a8 : Int32, (a1, a2, a3, a4, a5, a6, a7, a8) = hrs w q 64 → xJ (xGm b dC dI cA ts) l mX12_block 0 0 Qv Qx 0 0 375 [(0, .ref 491), (1, .int (nI at_)), (2, .int a1), (3, .int a2), (4, .int a3), (5, .int a4), (6, .int a5), (7, .int a6), (8, .int a7), (9, .int a8), (10, .int (nI 64))] [] al n R I L) : ∀ (r t : Nat) (a1 a2 a3 a4 a5 a6 a7 a8 : Int32), t + r = 64 → (a1, a2, a3, a4, a5, a6, a7, a8) = hrs w q t → xJ (xGm b dC dI cA ts) l mX12_block 0 0 Qv Qx 0 0 235 [(0, .ref 491), (1, .int (nI at_)), (2, .int a1), (3, .int a2), (4, .int a3), (5, .int a4), (6, .int a5), (7, .int a6), (8, .int a7), (9, .int a8), (10, .int (nI t))] [] al n R I L := by
  intro r
  induction r with
  | zero =>
    intro t a1 a2 a3 a4 a5 a6 a7 a8 ht hq
    refine xr_iload (xd dX12_block 152 rfl) 10 rfl ?_
    refine xr_bipush (v := nI 64) (xd dX12_block 153 rfl) (by decide) ?_
    refine xr_icmpN_ge 375 (xd dX12_block 154 rfl) (by decide) (by omega) (by omega) (fun c239 => ?_) (fun c239 => ?_)
    · skip
      have h64 : t = 64 := by omega
      subst h64
      exact hx a1 a2 a3 a4 a5 a6 a7 a8 hq
    · skip
      exact absurd c239 (by omega)
  | succ r ih =>
    intro t a1 a2 a3 a4 a5 a6 a7 a8 ht hq
    refine xr_iload (xd dX12_block 152 rfl) 10 rfl ?_
    refine xr_bipush (v := nI 64) (xd dX12_block 153 rfl) (by decide) ?_
    refine xr_icmpN_ge 375 (xd dX12_block 154 rfl) (by decide) (by omega) (by omega) (fun c239 => ?_) (fun c239 => ?_)
    · skip
      exact absurd c239 (by omega)
    · skip
      refine xr_iload (xd dX12_block 155 rfl) 9 rfl ?_
      refine xr_iload (xd dX12_block 156 rfl) 6 rfl ?_
      refine xr_bipush (v := nI 6) (xd dX12_block 157 rfl) (by decide) ?_
      refine xr_callS mX12_turned 2 [.int a5, .int (nI 6)] (xd dX12_block 158 rfl) l12_225 kX12_turned rfl rfl (by decide) (Nat.le_of_ble_eq_true rfl) (c_turned (v := a5) (k := nI 6) (I := I)) (Nat.le_refl _) (Nat.le_refl _) (fun r_ M_ h_ => ?_) (fun _ _ h_ => h_.elim)
      obtain ⟨rfl, rfl⟩ := h_
      show xJ _ _ _ _ _ _ _ _ _ 251 [(0, .ref 491), (1, .int (nI at_)), (2, .int a1), (3, .int a2), (4, .int a3), (5, .int a4), (6, .int a5), (7, .int a6), (8, .int a7), (9, .int a8), (10, .int (nI t))] [.int (ro a5 (nI 6) (32 - nI 6)), .int a8] _ _ _ I L
      refine xr_eqi (ro a5 6 26) rfl ?_
      refine xr_iload (xd dX12_block 159 rfl) 6 rfl ?_
      refine xr_bipush (v := nI 11) (xd dX12_block 160 rfl) (by decide) ?_
      refine xr_callS mX12_turned 2 [.int a5, .int (nI 11)] (xd dX12_block 161 rfl) l12_225 kX12_turned rfl rfl (by decide) (Nat.le_of_ble_eq_true rfl) (c_turned (v := a5) (k := nI 11) (I := I)) (Nat.le_refl _) (Nat.le_refl _) (fun r_ M_ h_ => ?_) (fun _ _ h_ => h_.elim)
      obtain ⟨rfl, rfl⟩ := h_
      show xJ _ _ _ _ _ _ _ _ _ 258 [(0, .ref 491), (1, .int (nI at_)), (2, .int a1), (3, .int a2), (4, .int a3), (5, .int a4), (6, .int a5), (7, .int a6), (8, .int a7), (9, .int a8), (10, .int (nI t))] [.int (ro a5 (nI 11) (32 - nI 11)), .int (ro a5 6 26), .int a8] _ _ _ I L
      refine xr_eqi (ro a5 11 21) rfl ?_
      refine xr_ixor (xd dX12_block 162 rfl) ?_
      refine xr_iload (xd dX12_block 163 rfl) 6 rfl ?_
      refine xr_bipush (v := nI 25) (xd dX12_block 164 rfl) (by decide) ?_
      refine xr_callS mX12_turned 2 [.int a5, .int (nI 25)] (xd dX12_block 165 rfl) l12_225 kX12_turned rfl rfl (by decide) (Nat.le_of_ble_eq_true rfl) (c_turned (v := a5) (k := nI 25) (I := I)) (Nat.le_refl _) (Nat.le_refl _) (fun r_ M_ h_ => ?_) (fun _ _ h_ => h_.elim)
      obtain ⟨rfl, rfl⟩ := h_
      show xJ _ _ _ _ _ _ _ _ _ 266 [(0, .ref 491), (1, .int (nI at_)), (2, .int a1), (3, .int a2), (4, .int a3), (5, .int a4), (6, .int a5), (7, .int a6), (8, .int a7), (9, .int a8), (10, .int (nI t))] [.int (ro a5 (nI 25) (32 - nI 25)), .int ((ro a5 6 26) ^^^ (ro a5 11 21)), .int a8] _ _ _ I L
      refine xr_eqi (ro a5 25 7) rfl ?_
      refine xr_ixor (xd dX12_block 166 rfl) ?_
      refine xr_iadd (xd dX12_block 167 rfl) ?_
      refine xr_iload (xd dX12_block 168 rfl) 6 rfl ?_
      refine xr_iload (xd dX12_block 169 rfl) 7 rfl ?_
      refine xr_iand (xd dX12_block 170 rfl) ?_
      refine xr_iload (xd dX12_block 171 rfl) 6 rfl ?_
      refine xr_iconst (v := (-1)) (xd dX12_block 172 rfl) (by decide) ?_
      refine xr_ixor (xd dX12_block 173 rfl) ?_
      refine xr_iload (xd dX12_block 174 rfl) 8 rfl ?_
      refine xr_iand (xd dX12_block 175 rfl) ?_
      refine xr_ixor (xd dX12_block 176 rfl) ?_
      refine xr_iadd (xd dX12_block 177 rfl) ?_
      refine xr_aload_n (xd dX12_block 178 rfl) 0 rfl ?_
      refine xr_getR (b := 496) 12 11 (xd dX12_block 179 rfl) f12_22 (by decide) (by decide) (by omega) kd_491 rfl (r_491_11 hR) ?_
      refine xr_iload (xd dX12_block 180 rfl) 10 rfl ?_
      obtain ⟨x4, e_x4⟩ : ∃ z_ : Int32, z_ = I 496 t := ⟨_, rfl⟩
      refine xr_ialoadN (x := x4) (xd dX12_block 181 rfl) (by omega) kd_496 ln_496 (by omega) (by omega) e_x4.symm ?_
      refine xr_iadd (xd dX12_block 182 rfl) ?_
      refine xr_aload_n (xd dX12_block 183 rfl) 0 rfl ?_
      refine xr_getR (b := 499) 12 15 (xd dX12_block 184 rfl) f12_31 (by decide) (by decide) (by omega) kd_491 rfl (r_491_15 hR) ?_
      refine xr_iload (xd dX12_block 185 rfl) 10 rfl ?_
      obtain ⟨x5, e_x5⟩ : ∃ z_ : Int32, z_ = I 499 t := ⟨_, rfl⟩
      refine xr_ialoadN (x := x5) (xd dX12_block 186 rfl) (by omega) kd_499 ln_499 (by omega) (by omega) e_x5.symm ?_
      refine xr_iadd (xd dX12_block 187 rfl) ?_
      refine xr_topi (fun x6 e_x6 => ?_)
      refine xr_istore [(0, .ref 491), (1, .int (nI at_)), (2, .int a1), (3, .int a2), (4, .int a3), (5, .int a4), (6, .int a5), (7, .int a6), (8, .int a7), (9, .int a8), (10, .int (nI t)), (11, .int x6)] (xd dX12_block 188 rfl) (by decide) rfl ?_
      refine xr_iload_n (xd dX12_block 189 rfl) 2 rfl ?_
      refine xr_iconst (v := nI 2) (xd dX12_block 190 rfl) (by decide) ?_
      refine xr_callS mX12_turned 2 [.int a1, .int (nI 2)] (xd dX12_block 191 rfl) l12_225 kX12_turned rfl rfl (by decide) (Nat.le_of_ble_eq_true rfl) (c_turned (v := a1) (k := nI 2) (I := I)) (Nat.le_refl _) (Nat.le_refl _) (fun r_ M_ h_ => ?_) (fun _ _ h_ => h_.elim)
      obtain ⟨rfl, rfl⟩ := h_
      show xJ _ _ _ _ _ _ _ _ _ 305 [(0, .ref 491), (1, .int (nI at_)), (2, .int a1), (3, .int a2), (4, .int a3), (5, .int a4), (6, .int a5), (7, .int a6), (8, .int a7), (9, .int a8), (10, .int (nI t)), (11, .int x6)] [.int (ro a1 (nI 2) (32 - nI 2))] _ _ _ I L
      refine xr_eqi (ro a1 2 30) rfl ?_
      refine xr_iload_n (xd dX12_block 192 rfl) 2 rfl ?_
      refine xr_bipush (v := nI 13) (xd dX12_block 193 rfl) (by decide) ?_
      refine xr_callS mX12_turned 2 [.int a1, .int (nI 13)] (xd dX12_block 194 rfl) l12_225 kX12_turned rfl rfl (by decide) (Nat.le_of_ble_eq_true rfl) (c_turned (v := a1) (k := nI 13) (I := I)) (Nat.le_refl _) (Nat.le_refl _) (fun r_ M_ h_ => ?_) (fun _ _ h_ => h_.elim)
      obtain ⟨rfl, rfl⟩ := h_
      show xJ _ _ _ _ _ _ _ _ _ 311 [(0, .ref 491), (1, .int (nI at_)), (2, .int a1), (3, .int a2), (4, .int a3), (5, .int a4), (6, .int a5), (7, .int a6), (8, .int a7), (9, .int a8), (10, .int (nI t)), (11, .int x6)] [.int (ro a1 (nI 13) (32 - nI 13)), .int (ro a1 2 30)] _ _ _ I L
      refine xr_eqi (ro a1 13 19) rfl ?_
      refine xr_ixor (xd dX12_block 195 rfl) ?_
      refine xr_iload_n (xd dX12_block 196 rfl) 2 rfl ?_
      refine xr_bipush (v := nI 22) (xd dX12_block 197 rfl) (by decide) ?_
      refine xr_callS mX12_turned 2 [.int a1, .int (nI 22)] (xd dX12_block 198 rfl) l12_225 kX12_turned rfl rfl (by decide) (Nat.le_of_ble_eq_true rfl) (c_turned (v := a1) (k := nI 22) (I := I)) (Nat.le_refl _) (Nat.le_refl _) (fun r_ M_ h_ => ?_) (fun _ _ h_ => h_.elim)
      obtain ⟨rfl, rfl⟩ := h_
      show xJ _ _ _ _ _ _ _ _ _ 318 [(0, .ref 491), (1, .int (nI at_)), (2, .int a1), (3, .int a2), (4, .int a3), (5, .int a4), (6, .int a5), (7, .int a6), (8, .int a7), (9, .int a8), (10, .int (nI t)), (11, .int x6)] [.int (ro a1 (nI 22) (32 - nI 22)), .int ((ro a1 2 30) ^^^ (ro a1 13 19))] _ _ _ I L
      refine xr_eqi (ro a1 22 10) rfl ?_
      refine xr_ixor (xd dX12_block 199 rfl) ?_
      refine xr_iload_n (xd dX12_block 200 rfl) 2 rfl ?_
      refine xr_iload_n (xd dX12_block 201 rfl) 3 rfl ?_
      refine xr_iand (xd dX12_block 202 rfl) ?_
      refine xr_iload_n (xd dX12_block 203 rfl) 2 rfl ?_
      refine xr_iload (xd dX12_block 204 rfl) 4 rfl ?_
      refine xr_iand (xd dX12_block 205 rfl) ?_
      refine xr_ixor (xd dX12_block 206 rfl) ?_
      refine xr_iload_n (xd dX12_block 207 rfl) 3 rfl ?_
      refine xr_iload (xd dX12_block 208 rfl) 4 rfl ?_
      refine xr_iand (xd dX12_block 209 rfl) ?_
      refine xr_ixor (xd dX12_block 210 rfl) ?_
      refine xr_iadd (xd dX12_block 211 rfl) ?_
      refine xr_topi (fun x10 e_x10 => ?_)
      refine xr_istore [(0, .ref 491), (1, .int (nI at_)), (2, .int a1), (3, .int a2), (4, .int a3), (5, .int a4), (6, .int a5), (7, .int a6), (8, .int a7), (9, .int a8), (10, .int (nI t)), (11, .int x6), (12, .int x10)] (xd dX12_block 212 rfl) (by decide) rfl ?_
      refine xr_iload (xd dX12_block 213 rfl) 8 rfl ?_
      refine xr_istore [(0, .ref 491), (1, .int (nI at_)), (2, .int a1), (3, .int a2), (4, .int a3), (5, .int a4), (6, .int a5), (7, .int a6), (8, .int a7), (9, .int a7), (10, .int (nI t)), (11, .int x6), (12, .int x10)] (xd dX12_block 214 rfl) (by decide) rfl ?_
      refine xr_iload (xd dX12_block 215 rfl) 7 rfl ?_
      refine xr_istore [(0, .ref 491), (1, .int (nI at_)), (2, .int a1), (3, .int a2), (4, .int a3), (5, .int a4), (6, .int a5), (7, .int a6), (8, .int a6), (9, .int a7), (10, .int (nI t)), (11, .int x6), (12, .int x10)] (xd dX12_block 216 rfl) (by decide) rfl ?_
      refine xr_iload (xd dX12_block 217 rfl) 6 rfl ?_
      refine xr_istore [(0, .ref 491), (1, .int (nI at_)), (2, .int a1), (3, .int a2), (4, .int a3), (5, .int a4), (6, .int a5), (7, .int a5), (8, .int a6), (9, .int a7), (10, .int (nI t)), (11, .int x6), (12, .int x10)] (xd dX12_block 218 rfl) (by decide) rfl ?_
      refine xr_iload (xd dX12_block 219 rfl) 5 rfl ?_
      refine xr_iload (xd dX12_block 220 rfl) 11 rfl ?_
      refine xr_iadd (xd dX12_block 221 rfl) ?_
      refine xr_topi (fun x11 e_x11 => ?_)
      refine xr_istore [(0, .ref 491), (1, .int (nI at_)), (2, .int a1), (3, .int a2), (4, .int a3), (5, .int a4), (6, .int x11), (7, .int a5), (8, .int a6), (9, .int a7), (10, .int (nI t)), (11, .int x6), (12, .int x10)] (xd dX12_block 222 rfl) (by decide) rfl ?_
      refine xr_iload (xd dX12_block 223 rfl) 4 rfl ?_
      refine xr_istore [(0, .ref 491), (1, .int (nI at_)), (2, .int a1), (3, .int a2), (4, .int a3), (5, .int a3), (6, .int x11), (7, .int a5), (8, .int a6), (9, .int a7), (10, .int (nI t)), (11, .int x6), (12, .int x10)] (xd dX12_block 224 rfl) (by decide) rfl ?_
      refine xr_iload_n (xd dX12_block 225 rfl) 3 rfl ?_
      refine xr_istore [(0, .ref 491), (1, .int (nI at_)), (2, .int a1), (3, .int a2), (4, .int a2), (5, .int a3), (6, .int x11), (7, .int a5), (8, .int a6), (9, .int a7), (10, .int (nI t)), (11, .int x6), (12, .int x10)] (xd dX12_block 226 rfl) (by decide) rfl ?_
      refine xr_iload_n (xd dX12_block 227 rfl) 2 rfl ?_
      refine xr_istore_n [(0, .ref 491), (1, .int (nI at_)), (2, .int a1), (3, .int a1), (4, .int a2), (5, .int a3), (6, .int x11), (7, .int a5), (8, .int a6), (9, .int a7), (10, .int (nI t)), (11, .int x6), (12, .int x10)] (xd dX12_block 228 rfl) rfl (by decide) rfl ?_
      refine xr_iload (xd dX12_block 229 rfl) 11 rfl ?_
      refine xr_iload (xd dX12_block 230 rfl) 12 rfl ?_
      refine xr_iadd (xd dX12_block 231 rfl) ?_
      refine xr_topi (fun x12 e_x12 => ?_)
      refine xr_istore_n [(0, .ref 491), (1, .int (nI at_)), (2, .int x12), (3, .int a1), (4, .int a2), (5, .int a3), (6, .int x11), (7, .int a5), (8, .int a6), (9, .int a7), (10, .int (nI t)), (11, .int x6), (12, .int x10)] (xd dX12_block 232 rfl) rfl (by decide) rfl ?_
      refine xr_iinc (v := nI (t + 1)) [(0, .ref 491), (1, .int (nI at_)), (2, .int x12), (3, .int a1), (4, .int a2), (5, .int a3), (6, .int x11), (7, .int a5), (8, .int a6), (9, .int a7), (10, .int (nI (t + 1))), (11, .int x6), (12, .int x10)] (xd dX12_block 233 rfl) 10 rfl (nI_inc _) (by decide) rfl ?_
      refine xr_goto 235 (xd dX12_block 234 rfl) (by decide) ?_
      refine xJ.pick [0, 1, 2, 3, 4, 5, 6, 7, 8, 9, 10] rfl ?_
      refine ih (t + 1) x12 a1 a2 a3 x11 a5 a6 a7 (by omega) ?_
      rw [show hrs w q (t + 1) = hrd (hrs w q t) (xK64.getD t 0) (w t) from rfl, ← hq, ← hw t (by omega), ← hC t (by omega)]
      subst e_x4; subst e_x5; subst e_x6; subst e_x10; subst e_x11; subst e_x12
      rfl
set_option maxHeartbeats 4000000 in
set_option maxRecDepth 100000 in
/-- block(at) -/
theorem c_block {b : Nat} {dC : Nat → ClassId} {dI : Nat → Nat → Nat} {cA : Nat → ClassId} {ts : Nat → Nat} {l : Launch} {al : Bool} {n : Nat} {R : Nat → Nat → Option Nat} {L : Nat → Nat → Int64} (hn : 552 ≤ n) (hR : xRk R) {at_ : Nat} (hat : at_ + 64 ≤ 1400) {I : Nat → Nat → Int32} (hC : ∀ t, t < 64 → I 496 t = xK64.getD t 0) : xCn (xGm b dC dI cA ts) l mX12_block [.ref 491, .int (nI at_)] al (n, R, I, L) 0 0 (fun v M => v = none ∧ ∃ I' : Nat → Nat → Int32, M = (n, R, I', L) ∧ xFr [498, 499] [] I I' ∧ ∀ i, i < 8 → I' 498 i = hcmp (I 498) (fun j => I 497 (at_ + j)) i) (fun _ _ => False) := by
  refine xCn.ofJ (by decide) (Nat.le_of_ble_eq_true rfl) ?_
  show xJ _ _ _ _ _ _ _ _ _ 0 [(0, .ref 491), (1, .int (nI at_))] [] _ _ _ _ _
  refine xr_iconst (v := nI 0) (xd dX12_block 0 rfl) (by decide) ?_
  refine xr_istore_n [(0, .ref 491), (1, .int (nI at_)), (2, .int (nI 0))] (xd dX12_block 1 rfl) rfl (by decide) rfl ?_
  refine blk_l1 hn hR hat (I0 := I) 16 0 I (by omega) ⟨xFr.rf, fun j hj => absurd hj (by omega)⟩ (fun I1 h1 => ?_)
  refine xr_bipush (v := nI 16) (xd dX12_block 48 rfl) (by decide) ?_
  refine xr_istore_n [(0, .ref 491), (1, .int (nI at_)), (2, .int (nI 16))] (xd dX12_block 49 rfl) rfl (by decide) rfl ?_
  refine blk_l2 hn hR hat (I0 := I1) (f := fun j => I 497 (at_ + j)) 48 0 I1 (by omega) ⟨xFr.rf, fun j hj => h1.2 j (by omega)⟩ (fun I2 h2 => ?_)
  have h9 : ∀ j, I2 498 j = I 498 j := fun j => ((h1.1.tr h2.1) 498 j (by simp) (by simp))
  have hC2 : ∀ t, t < 64 → I2 496 t = xK64.getD t 0 := fun t ht => by rw [(h1.1.tr h2.1) 496 t (by simp) (by simp)]; exact hC t ht
  refine xr_aload_n (xd dX12_block 110 rfl) 0 rfl ?_
  refine xr_getR (b := 498) 12 14 (xd dX12_block 111 rfl) f12_28 (by decide) (by decide) (by omega) kd_491 rfl (r_491_14 hR) ?_
  refine xr_iconst (v := nI 0) (xd dX12_block 112 rfl) (by decide) ?_
  obtain ⟨x1, e_x1⟩ : ∃ z_ : Int32, z_ = I2 498 0 := ⟨_, rfl⟩
  refine xr_ialoadN (x := x1) (xd dX12_block 113 rfl) (by omega) kd_498 ln_498 (by omega) (by omega) e_x1.symm ?_
  refine xr_istore_n [(0, .ref 491), (1, .int (nI at_)), (2, .int x1)] (xd dX12_block 114 rfl) rfl (by decide) rfl ?_
  refine xr_aload_n (xd dX12_block 115 rfl) 0 rfl ?_
  refine xr_getR (b := 498) 12 14 (xd dX12_block 116 rfl) f12_28 (by decide) (by decide) (by omega) kd_491 rfl (r_491_14 hR) ?_
  refine xr_iconst (v := nI 1) (xd dX12_block 117 rfl) (by decide) ?_
  obtain ⟨x2, e_x2⟩ : ∃ z_ : Int32, z_ = I2 498 1 := ⟨_, rfl⟩
  refine xr_ialoadN (x := x2) (xd dX12_block 118 rfl) (by omega) kd_498 ln_498 (by omega) (by omega) e_x2.symm ?_
  refine xr_istore_n [(0, .ref 491), (1, .int (nI at_)), (2, .int x1), (3, .int x2)] (xd dX12_block 119 rfl) rfl (by decide) rfl ?_
  refine xr_aload_n (xd dX12_block 120 rfl) 0 rfl ?_
  refine xr_getR (b := 498) 12 14 (xd dX12_block 121 rfl) f12_28 (by decide) (by decide) (by omega) kd_491 rfl (r_491_14 hR) ?_
  refine xr_iconst (v := nI 2) (xd dX12_block 122 rfl) (by decide) ?_
  obtain ⟨x3, e_x3⟩ : ∃ z_ : Int32, z_ = I2 498 2 := ⟨_, rfl⟩
  refine xr_ialoadN (x := x3) (xd dX12_block 123 rfl) (by omega) kd_498 ln_498 (by omega) (by omega) e_x3.symm ?_
  refine xr_istore [(0, .ref 491), (1, .int (nI at_)), (2, .int x1), (3, .int x2), (4, .int x3)] (xd dX12_block 124 rfl) (by decide) rfl ?_
  refine xr_aload_n (xd dX12_block 125 rfl) 0 rfl ?_
  refine xr_getR (b := 498) 12 14 (xd dX12_block 126 rfl) f12_28 (by decide) (by decide) (by omega) kd_491 rfl (r_491_14 hR) ?_
  refine xr_iconst (v := nI 3) (xd dX12_block 127 rfl) (by decide) ?_
  obtain ⟨x4, e_x4⟩ : ∃ z_ : Int32, z_ = I2 498 3 := ⟨_, rfl⟩
  refine xr_ialoadN (x := x4) (xd dX12_block 128 rfl) (by omega) kd_498 ln_498 (by omega) (by omega) e_x4.symm ?_
  refine xr_istore [(0, .ref 491), (1, .int (nI at_)), (2, .int x1), (3, .int x2), (4, .int x3), (5, .int x4)] (xd dX12_block 129 rfl) (by decide) rfl ?_
  refine xr_aload_n (xd dX12_block 130 rfl) 0 rfl ?_
  refine xr_getR (b := 498) 12 14 (xd dX12_block 131 rfl) f12_28 (by decide) (by decide) (by omega) kd_491 rfl (r_491_14 hR) ?_
  refine xr_iconst (v := nI 4) (xd dX12_block 132 rfl) (by decide) ?_
  obtain ⟨x5, e_x5⟩ : ∃ z_ : Int32, z_ = I2 498 4 := ⟨_, rfl⟩
  refine xr_ialoadN (x := x5) (xd dX12_block 133 rfl) (by omega) kd_498 ln_498 (by omega) (by omega) e_x5.symm ?_
  refine xr_istore [(0, .ref 491), (1, .int (nI at_)), (2, .int x1), (3, .int x2), (4, .int x3), (5, .int x4), (6, .int x5)] (xd dX12_block 134 rfl) (by decide) rfl ?_
  refine xr_aload_n (xd dX12_block 135 rfl) 0 rfl ?_
  refine xr_getR (b := 498) 12 14 (xd dX12_block 136 rfl) f12_28 (by decide) (by decide) (by omega) kd_491 rfl (r_491_14 hR) ?_
  refine xr_iconst (v := nI 5) (xd dX12_block 137 rfl) (by decide) ?_
  obtain ⟨x6, e_x6⟩ : ∃ z_ : Int32, z_ = I2 498 5 := ⟨_, rfl⟩
  refine xr_ialoadN (x := x6) (xd dX12_block 138 rfl) (by omega) kd_498 ln_498 (by omega) (by omega) e_x6.symm ?_
  refine xr_istore [(0, .ref 491), (1, .int (nI at_)), (2, .int x1), (3, .int x2), (4, .int x3), (5, .int x4), (6, .int x5), (7, .int x6)] (xd dX12_block 139 rfl) (by decide) rfl ?_
  refine xr_aload_n (xd dX12_block 140 rfl) 0 rfl ?_
  refine xr_getR (b := 498) 12 14 (xd dX12_block 141 rfl) f12_28 (by decide) (by decide) (by omega) kd_491 rfl (r_491_14 hR) ?_
  refine xr_bipush (v := nI 6) (xd dX12_block 142 rfl) (by decide) ?_
  obtain ⟨x7, e_x7⟩ : ∃ z_ : Int32, z_ = I2 498 6 := ⟨_, rfl⟩
  refine xr_ialoadN (x := x7) (xd dX12_block 143 rfl) (by omega) kd_498 ln_498 (by omega) (by omega) e_x7.symm ?_
  refine xr_istore [(0, .ref 491), (1, .int (nI at_)), (2, .int x1), (3, .int x2), (4, .int x3), (5, .int x4), (6, .int x5), (7, .int x6), (8, .int x7)] (xd dX12_block 144 rfl) (by decide) rfl ?_
  refine xr_aload_n (xd dX12_block 145 rfl) 0 rfl ?_
  refine xr_getR (b := 498) 12 14 (xd dX12_block 146 rfl) f12_28 (by decide) (by decide) (by omega) kd_491 rfl (r_491_14 hR) ?_
  refine xr_bipush (v := nI 7) (xd dX12_block 147 rfl) (by decide) ?_
  obtain ⟨x8, e_x8⟩ : ∃ z_ : Int32, z_ = I2 498 7 := ⟨_, rfl⟩
  refine xr_ialoadN (x := x8) (xd dX12_block 148 rfl) (by omega) kd_498 ln_498 (by omega) (by omega) e_x8.symm ?_
  refine xr_istore [(0, .ref 491), (1, .int (nI at_)), (2, .int x1), (3, .int x2), (4, .int x3), (5, .int x4), (6, .int x5), (7, .int x6), (8, .int x7), (9, .int x8)] (xd dX12_block 149 rfl) (by decide) rfl ?_
  refine xr_iconst (v := nI 0) (xd dX12_block 150 rfl) (by decide) ?_
  refine xr_istore [(0, .ref 491), (1, .int (nI at_)), (2, .int x1), (3, .int x2), (4, .int x3), (5, .int x4), (6, .int x5), (7, .int x6), (8, .int x7), (9, .int x8), (10, .int (nI 0))] (xd dX12_block 151 rfl) (by decide) rfl ?_
  refine blk_l3 hn hR hat (w := hW (fun j => I 497 (at_ + j)) 48) (q := hst (I 498)) (I := I2) hC2 (fun j hj => h2.2 j (by omega)) (fun a1 a2 a3 a4 a5 a6 a7 a8 hq => ?_) 64 0 x1 x2 x3 x4 x5 x6 x7 x8 (by omega) ?_
  rotate_left
  · subst e_x1; subst e_x2; subst e_x3; subst e_x4; subst e_x5; subst e_x6; subst e_x7; subst e_x8
    simp only [h9]
    rfl
  refine xr_aload_n (xd dX12_block 235 rfl) 0 rfl ?_
  refine xr_getR (b := 498) 12 14 (xd dX12_block 236 rfl) f12_28 (by decide) (by decide) (by omega) kd_491 rfl (r_491_14 hR) ?_
  refine xr_iconst (v := nI 0) (xd dX12_block 237 rfl) (by decide) ?_
  refine xr_dup2 (xd dX12_block 238 rfl) rfl rfl ?_
  obtain ⟨x9, e_x9⟩ : ∃ z_ : Int32, z_ = I2 498 0 := ⟨_, rfl⟩
  refine xr_ialoadN (x := x9) (xd dX12_block 239 rfl) (by omega) kd_498 ln_498 (by omega) (by omega) e_x9.symm ?_
  refine xr_iload_n (xd dX12_block 240 rfl) 2 rfl ?_
  refine xr_iadd (xd dX12_block 241 rfl) ?_
  obtain ⟨I10, e_I10⟩ : ∃ z_ : Nat → Nat → Int32, z_ = xu I2 498 0 (x9 + a1) := ⟨_, rfl⟩
  refine xr_iastoreN (I' := I10) e_I10 (xd dX12_block 242 rfl) (by omega) kd_498 ln_498 (by omega) (by omega) ?_
  refine xr_aload_n (xd dX12_block 243 rfl) 0 rfl ?_
  refine xr_getR (b := 498) 12 14 (xd dX12_block 244 rfl) f12_28 (by decide) (by decide) (by omega) kd_491 rfl (r_491_14 hR) ?_
  refine xr_iconst (v := nI 1) (xd dX12_block 245 rfl) (by decide) ?_
  refine xr_dup2 (xd dX12_block 246 rfl) rfl rfl ?_
  obtain ⟨x11, e_x11⟩ : ∃ z_ : Int32, z_ = I10 498 1 := ⟨_, rfl⟩
  refine xr_ialoadN (x := x11) (xd dX12_block 247 rfl) (by omega) kd_498 ln_498 (by omega) (by omega) e_x11.symm ?_
  refine xr_iload_n (xd dX12_block 248 rfl) 3 rfl ?_
  refine xr_iadd (xd dX12_block 249 rfl) ?_
  obtain ⟨I12, e_I12⟩ : ∃ z_ : Nat → Nat → Int32, z_ = xu I10 498 1 (x11 + a2) := ⟨_, rfl⟩
  refine xr_iastoreN (I' := I12) e_I12 (xd dX12_block 250 rfl) (by omega) kd_498 ln_498 (by omega) (by omega) ?_
  refine xr_aload_n (xd dX12_block 251 rfl) 0 rfl ?_
  refine xr_getR (b := 498) 12 14 (xd dX12_block 252 rfl) f12_28 (by decide) (by decide) (by omega) kd_491 rfl (r_491_14 hR) ?_
  refine xr_iconst (v := nI 2) (xd dX12_block 253 rfl) (by decide) ?_
  refine xr_dup2 (xd dX12_block 254 rfl) rfl rfl ?_
  obtain ⟨x13, e_x13⟩ : ∃ z_ : Int32, z_ = I12 498 2 := ⟨_, rfl⟩
  refine xr_ialoadN (x := x13) (xd dX12_block 255 rfl) (by omega) kd_498 ln_498 (by omega) (by omega) e_x13.symm ?_
  refine xr_iload (xd dX12_block 256 rfl) 4 rfl ?_
  refine xr_iadd (xd dX12_block 257 rfl) ?_
  obtain ⟨I14, e_I14⟩ : ∃ z_ : Nat → Nat → Int32, z_ = xu I12 498 2 (x13 + a3) := ⟨_, rfl⟩
  refine xr_iastoreN (I' := I14) e_I14 (xd dX12_block 258 rfl) (by omega) kd_498 ln_498 (by omega) (by omega) ?_
  refine xr_aload_n (xd dX12_block 259 rfl) 0 rfl ?_
  refine xr_getR (b := 498) 12 14 (xd dX12_block 260 rfl) f12_28 (by decide) (by decide) (by omega) kd_491 rfl (r_491_14 hR) ?_
  refine xr_iconst (v := nI 3) (xd dX12_block 261 rfl) (by decide) ?_
  refine xr_dup2 (xd dX12_block 262 rfl) rfl rfl ?_
  obtain ⟨x15, e_x15⟩ : ∃ z_ : Int32, z_ = I14 498 3 := ⟨_, rfl⟩
  refine xr_ialoadN (x := x15) (xd dX12_block 263 rfl) (by omega) kd_498 ln_498 (by omega) (by omega) e_x15.symm ?_
  refine xr_iload (xd dX12_block 264 rfl) 5 rfl ?_
  refine xr_iadd (xd dX12_block 265 rfl) ?_
  obtain ⟨I16, e_I16⟩ : ∃ z_ : Nat → Nat → Int32, z_ = xu I14 498 3 (x15 + a4) := ⟨_, rfl⟩
  refine xr_iastoreN (I' := I16) e_I16 (xd dX12_block 266 rfl) (by omega) kd_498 ln_498 (by omega) (by omega) ?_
  refine xr_aload_n (xd dX12_block 267 rfl) 0 rfl ?_
  refine xr_getR (b := 498) 12 14 (xd dX12_block 268 rfl) f12_28 (by decide) (by decide) (by omega) kd_491 rfl (r_491_14 hR) ?_
  refine xr_iconst (v := nI 4) (xd dX12_block 269 rfl) (by decide) ?_
  refine xr_dup2 (xd dX12_block 270 rfl) rfl rfl ?_
  obtain ⟨x17, e_x17⟩ : ∃ z_ : Int32, z_ = I16 498 4 := ⟨_, rfl⟩
  refine xr_ialoadN (x := x17) (xd dX12_block 271 rfl) (by omega) kd_498 ln_498 (by omega) (by omega) e_x17.symm ?_
  refine xr_iload (xd dX12_block 272 rfl) 6 rfl ?_
  refine xr_iadd (xd dX12_block 273 rfl) ?_
  obtain ⟨I18, e_I18⟩ : ∃ z_ : Nat → Nat → Int32, z_ = xu I16 498 4 (x17 + a5) := ⟨_, rfl⟩
  refine xr_iastoreN (I' := I18) e_I18 (xd dX12_block 274 rfl) (by omega) kd_498 ln_498 (by omega) (by omega) ?_
  refine xr_aload_n (xd dX12_block 275 rfl) 0 rfl ?_
  refine xr_getR (b := 498) 12 14 (xd dX12_block 276 rfl) f12_28 (by decide) (by decide) (by omega) kd_491 rfl (r_491_14 hR) ?_
  refine xr_iconst (v := nI 5) (xd dX12_block 277 rfl) (by decide) ?_
  refine xr_dup2 (xd dX12_block 278 rfl) rfl rfl ?_
  obtain ⟨x19, e_x19⟩ : ∃ z_ : Int32, z_ = I18 498 5 := ⟨_, rfl⟩
  refine xr_ialoadN (x := x19) (xd dX12_block 279 rfl) (by omega) kd_498 ln_498 (by omega) (by omega) e_x19.symm ?_
  refine xr_iload (xd dX12_block 280 rfl) 7 rfl ?_
  refine xr_iadd (xd dX12_block 281 rfl) ?_
  obtain ⟨I20, e_I20⟩ : ∃ z_ : Nat → Nat → Int32, z_ = xu I18 498 5 (x19 + a6) := ⟨_, rfl⟩
  refine xr_iastoreN (I' := I20) e_I20 (xd dX12_block 282 rfl) (by omega) kd_498 ln_498 (by omega) (by omega) ?_
  refine xr_aload_n (xd dX12_block 283 rfl) 0 rfl ?_
  refine xr_getR (b := 498) 12 14 (xd dX12_block 284 rfl) f12_28 (by decide) (by decide) (by omega) kd_491 rfl (r_491_14 hR) ?_
  refine xr_bipush (v := nI 6) (xd dX12_block 285 rfl) (by decide) ?_
  refine xr_dup2 (xd dX12_block 286 rfl) rfl rfl ?_
  obtain ⟨x21, e_x21⟩ : ∃ z_ : Int32, z_ = I20 498 6 := ⟨_, rfl⟩
  refine xr_ialoadN (x := x21) (xd dX12_block 287 rfl) (by omega) kd_498 ln_498 (by omega) (by omega) e_x21.symm ?_
  refine xr_iload (xd dX12_block 288 rfl) 8 rfl ?_
  refine xr_iadd (xd dX12_block 289 rfl) ?_
  obtain ⟨I22, e_I22⟩ : ∃ z_ : Nat → Nat → Int32, z_ = xu I20 498 6 (x21 + a7) := ⟨_, rfl⟩
  refine xr_iastoreN (I' := I22) e_I22 (xd dX12_block 290 rfl) (by omega) kd_498 ln_498 (by omega) (by omega) ?_
  refine xr_aload_n (xd dX12_block 291 rfl) 0 rfl ?_
  refine xr_getR (b := 498) 12 14 (xd dX12_block 292 rfl) f12_28 (by decide) (by decide) (by omega) kd_491 rfl (r_491_14 hR) ?_
  refine xr_bipush (v := nI 7) (xd dX12_block 293 rfl) (by decide) ?_
  refine xr_dup2 (xd dX12_block 294 rfl) rfl rfl ?_
  obtain ⟨x23, e_x23⟩ : ∃ z_ : Int32, z_ = I22 498 7 := ⟨_, rfl⟩
  refine xr_ialoadN (x := x23) (xd dX12_block 295 rfl) (by omega) kd_498 ln_498 (by omega) (by omega) e_x23.symm ?_
  refine xr_iload (xd dX12_block 296 rfl) 9 rfl ?_
  refine xr_iadd (xd dX12_block 297 rfl) ?_
  obtain ⟨I24, e_I24⟩ : ∃ z_ : Nat → Nat → Int32, z_ = xu I22 498 7 (x23 + a8) := ⟨_, rfl⟩
  refine xr_iastoreN (I' := I24) e_I24 (xd dX12_block 298 rfl) (by omega) kd_498 ln_498 (by omega) (by omega) ?_
  refine xr_vret (xd dX12_block 299 rfl) rfl (Nat.zero_le _) (Nat.zero_le _) (fun _ => rfl) ?_
  refine ⟨rfl, I24, rfl, ?_, ?_⟩
  · refine xFr.tr ((h1.1.tr h2.1).mono (by simp) (by simp)) ?_
    rw [e_I24, e_I22, e_I20, e_I18, e_I16, e_I14, e_I12, e_I10]
    exact (((((((xFr.u (Or.inl (by simp))).tr (xFr.u (Or.inl (by simp)))).tr (xFr.u (Or.inl (by simp)))).tr (xFr.u (Or.inl (by simp)))).tr (xFr.u (Or.inl (by simp)))).tr (xFr.u (Or.inl (by simp)))).tr (xFr.u (Or.inl (by simp)))).tr (xFr.u (Or.inl (by simp)))
  · intro i hi
    have hq' : hcmp (I 498) (fun j => I 497 (at_ + j)) = hadd (I 498) (a1, a2, a3, a4, a5, a6, a7, a8) := by rw [hq]; rfl
    rw [hq']
    subst e_x1; subst e_x2; subst e_x3; subst e_x4; subst e_x5; subst e_x6; subst e_x7; subst e_x8; subst e_x9; subst e_x11; subst e_x13; subst e_x15; subst e_x17; subst e_x19; subst e_x21; subst e_x23
    subst e_I10 e_I12 e_I14 e_I16 e_I18 e_I20 e_I22 e_I24
    rcases (show i = 0 ∨ i = 1 ∨ i = 2 ∨ i = 3 ∨ i = 4 ∨ i = 5 ∨ i = 6 ∨ i = 7 by omega) with rfl | rfl | rfl | rfl | rfl | rfl | rfl | rfl <;> simp [xu, hadd, h9]
