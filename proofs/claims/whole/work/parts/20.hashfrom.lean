set_option maxHeartbeats 4000000 in
set_option maxRecDepth 100000 in
theorem hf_l1 {b : Nat} {dC : Nat → ClassId} {dI : Nat → Nat → Nat} {cA : Nat → ClassId} {ts : Nat → Nat} {l : Launch} {al : Bool} {n : Nat} {R : Nat → Nat → Option Nat} {L : Nat → Nat → Int64} (hn : 552 ≤ n) (hR : xRk R) {fr le la : Nat} (hfe : fr ≤ le) (hle : le ≤ 1300) (hla : la = fr + (le - fr + 72) / 64 * 64) {I0 : Nat → Nat → Int32} {Qv : Option Value → xM → Prop} {Qx : String → xM → Prop} : ∀ (k t : Nat) (I : Nat → Nat → Int32), t + k = (la - 8) → le < t → (xFr [497] [] I0 I ∧ (∀ j, j < le → I 497 j = I0 497 j) ∧ I 497 le = 128 ∧ ∀ j, le < j → j < t → I 497 j = 0) → (∀ I' : Nat → Nat → Int32, (xFr [497] [] I0 I' ∧ (∀ j, j < le → I' 497 j = I0 497 j) ∧ I' 497 le = 128 ∧ ∀ j, le < j → j < (la - 8) → I' 497 j = 0) → xJ (xGm b dC dI cA ts) l mX12_hashFrom 0 0 Qv Qx 0 0 51 [(0, .ref 491), (1, .int (nI fr)), (2, .int (nI (8 * (le - fr)))), (3, .int (nI (la - 8)))] [] al n R I' L) → xJ (xGm b dC dI cA ts) l mX12_hashFrom 0 0 Qv Qx 0 0 27 [(0, .ref 491), (1, .int (nI fr)), (2, .int (nI (8 * (le - fr)))), (3, .int (nI t))] [] al n R I L := by
  intro k
  induction k with
  | zero =>
    intro t I ht hlt hI hx
    refine xr_iload_n (xd dX12_hashFrom 16 rfl) 3 rfl ?_
    refine xr_iload_n (xd dX12_hashFrom 17 rfl) 1 rfl ?_
    refine xr_isub (xd dX12_hashFrom 18 rfl) ?_
    refine xr_eqi (nI (t - fr)) (pk_sub (by omega)) ?_
    refine xr_bipush (v := nI 64) (xd dX12_hashFrom 19 rfl) (by decide) ?_
    refine xr_irem (xd dX12_hashFrom 20 rfl) (by decide) ?_
    refine xr_eqi (nI ((t - fr) % 64)) (pk_rem (by omega) (by omega) (by omega)) ?_
    refine xr_bipush (v := nI 56) (xd dX12_hashFrom 21 rfl) (by decide) ?_
    refine xr_icmpN_eq 51 (xd dX12_hashFrom 22 rfl) (by decide) (by omega) (by omega) (fun c35 => ?_) (fun c35 => ?_)
    · skip
      have hz : t = (la - 8) := by omega
      subst hz
      exact hx I hI
    · skip
      exact absurd c35 (by omega)
  | succ k ih =>
    intro t I ht hlt hI hx
    refine xr_iload_n (xd dX12_hashFrom 16 rfl) 3 rfl ?_
    refine xr_iload_n (xd dX12_hashFrom 17 rfl) 1 rfl ?_
    refine xr_isub (xd dX12_hashFrom 18 rfl) ?_
    refine xr_eqi (nI (t - fr)) (pk_sub (by omega)) ?_
    refine xr_bipush (v := nI 64) (xd dX12_hashFrom 19 rfl) (by decide) ?_
    refine xr_irem (xd dX12_hashFrom 20 rfl) (by decide) ?_
    refine xr_eqi (nI ((t - fr) % 64)) (pk_rem (by omega) (by omega) (by omega)) ?_
    refine xr_bipush (v := nI 56) (xd dX12_hashFrom 21 rfl) (by decide) ?_
    refine xr_icmpN_eq 51 (xd dX12_hashFrom 22 rfl) (by decide) (by omega) (by omega) (fun c35 => ?_) (fun c35 => ?_)
    · skip
      exact absurd c35 (by omega)
    · skip
      refine xr_aload_n (xd dX12_hashFrom 23 rfl) 0 rfl ?_
      refine xr_getR (b := 497) 12 12 (xd dX12_hashFrom 24 rfl) f12_25 (by decide) (by decide) (by omega) kd_491 rfl (r_491_12 hR) ?_
      refine xr_iload_n (xd dX12_hashFrom 25 rfl) 3 rfl ?_
      refine xr_iconst (v := nI 0) (xd dX12_hashFrom 26 rfl) (by decide) ?_
      obtain ⟨I1, e_I1⟩ : ∃ z_ : Nat → Nat → Int32, z_ = xu I 497 t 0 := ⟨_, rfl⟩
      refine xr_iastoreN (I' := I1) e_I1 (xd dX12_hashFrom 27 rfl) (by omega) kd_497 ln_497 (by omega) (by omega) ?_
      refine xr_iinc (v := nI (t + 1)) [(0, .ref 491), (1, .int (nI fr)), (2, .int (nI (8 * (le - fr)))), (3, .int (nI (t + 1)))] (xd dX12_hashFrom 28 rfl) 3 rfl (nI_inc _) (by decide) rfl ?_
      refine xr_goto 27 (xd dX12_hashFrom 29 rfl) (by decide) ?_
      refine xJ.pick [0, 1, 2, 3] rfl ?_
      refine ih (t + 1) I1 (by omega) (by omega) ?_ hx
      obtain ⟨q1, q2, q3, q4⟩ := hI
      have hF : xFr [497] [] I I1 := by rw [e_I1]; exact xFr.u (Or.inl (by simp))
      refine ⟨q1.tr hF, fun j hj => ?_, ?_, fun j hj hj2 => ?_⟩
      · rw [e_I1, xu_n I _ (Or.inr (by omega))]
        exact q2 j hj
      · rw [e_I1, xu_n I _ (Or.inr (by omega))]
        exact q3
      · by_cases hjt : j = t
        · subst hjt
          rw [e_I1, xu_s]
        · rw [e_I1, xu_n I _ (Or.inr (by omega))]
          exact q4 j hj (by omega)
set_option maxHeartbeats 4000000 in
set_option maxRecDepth 100000 in
theorem hf_l2 {b : Nat} {dC : Nat → ClassId} {dI : Nat → Nat → Nat} {cA : Nat → ClassId} {ts : Nat → Nat} {l : Launch} {al : Bool} {n : Nat} {R : Nat → Nat → Option Nat} {L : Nat → Nat → Int64} (hn : 552 ≤ n) (hR : xRk R) {fr le la : Nat} (hfe : fr ≤ le) (hle : le ≤ 1300) (hla : la = fr + (le - fr + 72) / 64 * 64) {I0 : Nat → Nat → Int32} {Qv : Option Value → xM → Prop} {Qx : String → xM → Prop} : ∀ (k t : Nat) (I : Nat → Nat → Int32), t + k = 4 → (xFr [497] [] I0 I ∧ (∀ j, j < le → I 497 j = I0 497 j) ∧ I 497 le = 128 ∧ (∀ j, le < j → j < la - 8 + t → j < la - 4 → I 497 j = 0) ∧ ∀ j, j < t → I 497 (la - 8 + 4 + j) = us (nI ((le - fr) * 8)) (nI (24 - 8 * j)) &&& 255) → (∀ I' : Nat → Nat → Int32, (xFr [497] [] I0 I' ∧ (∀ j, j < le → I' 497 j = I0 497 j) ∧ I' 497 le = 128 ∧ (∀ j, le < j → j < la - 8 + 4 → j < la - 4 → I' 497 j = 0) ∧ ∀ j, j < 4 → I' 497 (la - 8 + 4 + j) = us (nI ((le - fr) * 8)) (nI (24 - 8 * j)) &&& 255) → xJ (xGm b dC dI cA ts) l mX12_hashFrom 0 0 Qv Qx 0 0 101 [(0, .ref 491), (1, .int (nI fr)), (2, .int (nI (8 * (le - fr)))), (3, .int (nI (la - 8))), (4, .int (nI 4))] [] al n R I' L) → xJ (xGm b dC dI cA ts) l mX12_hashFrom 0 0 Qv Qx 0 0 54 [(0, .ref 491), (1, .int (nI fr)), (2, .int (nI (8 * (le - fr)))), (3, .int (nI (la - 8))), (4, .int (nI t))] [] al n R I L := by
  intro k
  induction k with
  | zero =>
    intro t I ht hI hx
    refine xr_iload (xd dX12_hashFrom 32 rfl) 4 rfl ?_
    refine xr_iconst (v := nI 4) (xd dX12_hashFrom 33 rfl) (by decide) ?_
    refine xr_icmpN_ge 101 (xd dX12_hashFrom 34 rfl) (by decide) (by omega) (by omega) (fun c57 => ?_) (fun c57 => ?_)
    · skip
      have hz : t = 4 := by omega
      subst hz
      exact hx I hI
    · skip
      exact absurd c57 (by omega)
  | succ k ih =>
    intro t I ht hI hx
    refine xr_iload (xd dX12_hashFrom 32 rfl) 4 rfl ?_
    refine xr_iconst (v := nI 4) (xd dX12_hashFrom 33 rfl) (by decide) ?_
    refine xr_icmpN_ge 101 (xd dX12_hashFrom 34 rfl) (by decide) (by omega) (by omega) (fun c57 => ?_) (fun c57 => ?_)
    · skip
      exact absurd c57 (by omega)
    · skip
      refine xr_aload_n (xd dX12_hashFrom 35 rfl) 0 rfl ?_
      refine xr_getR (b := 497) 12 12 (xd dX12_hashFrom 36 rfl) f12_25 (by decide) (by decide) (by omega) kd_491 rfl (r_491_12 hR) ?_
      refine xr_iload_n (xd dX12_hashFrom 37 rfl) 3 rfl ?_
      refine xr_iload (xd dX12_hashFrom 38 rfl) 4 rfl ?_
      refine xr_iadd (xd dX12_hashFrom 39 rfl) ?_
      refine xr_eqi (nI ((la - 8) + t)) (nI_add _ _) ?_
      refine xr_iconst (v := nI 0) (xd dX12_hashFrom 40 rfl) (by decide) ?_
      obtain ⟨I1, e_I1⟩ : ∃ z_ : Nat → Nat → Int32, z_ = xu I 497 ((la - 8) + t) 0 := ⟨_, rfl⟩
      refine xr_iastoreN (I' := I1) e_I1 (xd dX12_hashFrom 41 rfl) (by omega) kd_497 ln_497 (by omega) (by omega) ?_
      refine xr_aload_n (xd dX12_hashFrom 42 rfl) 0 rfl ?_
      refine xr_getR (b := 497) 12 12 (xd dX12_hashFrom 43 rfl) f12_25 (by decide) (by decide) (by omega) kd_491 rfl (r_491_12 hR) ?_
      refine xr_iload_n (xd dX12_hashFrom 44 rfl) 3 rfl ?_
      refine xr_iconst (v := nI 4) (xd dX12_hashFrom 45 rfl) (by decide) ?_
      refine xr_iadd (xd dX12_hashFrom 46 rfl) ?_
      refine xr_eqi (nI ((la - 8) + 4)) (nI_add _ _) ?_
      refine xr_iload (xd dX12_hashFrom 47 rfl) 4 rfl ?_
      refine xr_iadd (xd dX12_hashFrom 48 rfl) ?_
      refine xr_eqi (nI ((la - 8) + 4 + t)) (nI_add _ _) ?_
      refine xr_iload_n (xd dX12_hashFrom 49 rfl) 2 rfl ?_
      refine xr_bipush (v := nI 24) (xd dX12_hashFrom 50 rfl) (by decide) ?_
      refine xr_bipush (v := nI 8) (xd dX12_hashFrom 51 rfl) (by decide) ?_
      refine xr_iload (xd dX12_hashFrom 52 rfl) 4 rfl ?_
      refine xr_imul (xd dX12_hashFrom 53 rfl) ?_
      refine xr_eqi (nI (8 * t)) (pk_mul _ _) ?_
      refine xr_isub (xd dX12_hashFrom 54 rfl) ?_
      refine xr_eqi (nI (24 - (8 * t))) (pk_sub (by omega)) ?_
      refine xr_ishr (xd dX12_hashFrom 55 rfl) ?_
      refine xr_sipush (v := nI 255) (xd dX12_hashFrom 56 rfl) (by decide) ?_
      refine xr_iand (xd dX12_hashFrom 57 rfl) ?_
      obtain ⟨I2, e_I2⟩ : ∃ z_ : Nat → Nat → Int32, z_ = xu I1 497 ((la - 8) + 4 + t) (((nI (8 * (le - fr))) >>> ((nI (24 - (8 * t))) &&& 31)) &&& 255) := ⟨_, rfl⟩
      refine xr_iastoreN (I' := I2) e_I2 (xd dX12_hashFrom 58 rfl) (by omega) kd_497 ln_497 (by omega) (by omega) ?_
      refine xr_iinc (v := nI (t + 1)) [(0, .ref 491), (1, .int (nI fr)), (2, .int (nI (8 * (le - fr)))), (3, .int (nI (la - 8))), (4, .int (nI (t + 1)))] (xd dX12_hashFrom 59 rfl) 4 rfl (nI_inc _) (by decide) rfl ?_
      refine xr_goto 54 (xd dX12_hashFrom 60 rfl) (by decide) ?_
      refine xJ.pick [0, 1, 2, 3, 4] rfl ?_
      refine ih (t + 1) I2 (by omega) ?_ hx
      obtain ⟨q1, q2, q3, q4, q5⟩ := hI
      have hF1 : xFr [497] [] I I1 := by rw [e_I1]; exact xFr.u (Or.inl (by simp))
      have hF2 : xFr [497] [] I1 I2 := by rw [e_I2]; exact xFr.u (Or.inl (by simp))
      refine ⟨q1.tr (hF1.tr hF2), fun j hj => ?_, ?_, fun j hj hj2 hj3 => ?_, fun j hj => ?_⟩
      · rw [e_I2, xu_n _ _ (Or.inr (by omega)), e_I1, xu_n _ _ (Or.inr (by omega))]
        exact q2 j hj
      · rw [e_I2, xu_n _ _ (Or.inr (by omega)), e_I1, xu_n _ _ (Or.inr (by omega))]
        exact q3
      · rw [e_I2, xu_n _ _ (Or.inr (by omega)), e_I1]
        by_cases hjt : j = la - 8 + t
        · rw [hjt, xu_s]
        · rw [xu_n _ _ (Or.inr hjt)]
          exact q4 j hj (by omega) hj3
      · by_cases hjt : j = t
        · subst hjt
          rw [e_I2, xu_s, sh8 _ (by omega), Nat.mul_comm 8 (le - fr)]
        · rw [e_I2, xu_n _ _ (Or.inr (by omega)), e_I1, xu_n _ _ (Or.inr (by omega))]
          exact q5 j (by omega)
set_option maxHeartbeats 4000000 in
set_option maxRecDepth 100000 in
theorem hf_l3 {b : Nat} {dC : Nat → ClassId} {dI : Nat → Nat → Nat} {cA : Nat → ClassId} {ts : Nat → Nat} {l : Launch} {al : Bool} {n : Nat} {R : Nat → Nat → Option Nat} {L : Nat → Nat → Int64} (hn : 552 ≤ n) (hR : xRk R) {fr le la : Nat} (hfe : fr ≤ le) (hle : le ≤ 1300) (hla : la = fr + (le - fr + 72) / 64 * 64) {I0 : Nat → Nat → Int32} (hF1 : ∀ i, i < 8 → I0 495 i = xF8.getD i 0) {Qv : Option Value → xM → Prop} {Qx : String → xM → Prop} : ∀ (k t : Nat) (I : Nat → Nat → Int32), t + k = 8 → (xFr [498] [] I0 I ∧ ∀ j, j < t → I 498 j = hF8 j) → (∀ I' : Nat → Nat → Int32, (xFr [498] [] I0 I' ∧ ∀ j, j < 8 → I' 498 j = hF8 j) → xJ (xGm b dC dI cA ts) l mX12_hashFrom 0 0 Qv Qx 0 0 131 [(0, .ref 491), (1, .int (nI fr)), (2, .int (nI (8 * (le - fr)))), (3, .int (nI (la - 8))), (4, .int (nI 8))] [] al n R I' L) → xJ (xGm b dC dI cA ts) l mX12_hashFrom 0 0 Qv Qx 0 0 104 [(0, .ref 491), (1, .int (nI fr)), (2, .int (nI (8 * (le - fr)))), (3, .int (nI (la - 8))), (4, .int (nI t))] [] al n R I L := by
  intro k
  induction k with
  | zero =>
    intro t I ht hI hx
    refine xr_iload (xd dX12_hashFrom 63 rfl) 4 rfl ?_
    refine xr_bipush (v := nI 8) (xd dX12_hashFrom 64 rfl) (by decide) ?_
    refine xr_icmpN_ge 131 (xd dX12_hashFrom 65 rfl) (by decide) (by omega) (by omega) (fun c108 => ?_) (fun c108 => ?_)
    · skip
      have hz : t = 8 := by omega
      subst hz
      exact hx I hI
    · skip
      exact absurd c108 (by omega)
  | succ k ih =>
    intro t I ht hI hx
    refine xr_iload (xd dX12_hashFrom 63 rfl) 4 rfl ?_
    refine xr_bipush (v := nI 8) (xd dX12_hashFrom 64 rfl) (by decide) ?_
    refine xr_icmpN_ge 131 (xd dX12_hashFrom 65 rfl) (by decide) (by omega) (by omega) (fun c108 => ?_) (fun c108 => ?_)
    · skip
      exact absurd c108 (by omega)
    · skip
      refine xr_aload_n (xd dX12_hashFrom 66 rfl) 0 rfl ?_
      refine xr_getR (b := 498) 12 14 (xd dX12_hashFrom 67 rfl) f12_28 (by decide) (by decide) (by omega) kd_491 rfl (r_491_14 hR) ?_
      refine xr_iload (xd dX12_hashFrom 68 rfl) 4 rfl ?_
      refine xr_aload_n (xd dX12_hashFrom 69 rfl) 0 rfl ?_
      refine xr_getR (b := 495) 12 10 (xd dX12_hashFrom 70 rfl) f12_19 (by decide) (by decide) (by omega) kd_491 rfl (r_491_10 hR) ?_
      refine xr_iload (xd dX12_hashFrom 71 rfl) 4 rfl ?_
      obtain ⟨x1, e_x1⟩ : ∃ z_ : Int32, z_ = I 495 t := ⟨_, rfl⟩
      refine xr_ialoadN (x := x1) (xd dX12_hashFrom 72 rfl) (by omega) kd_495 ln_495 (by omega) (by omega) e_x1.symm ?_
      obtain ⟨I2, e_I2⟩ : ∃ z_ : Nat → Nat → Int32, z_ = xu I 498 t x1 := ⟨_, rfl⟩
      refine xr_iastoreN (I' := I2) e_I2 (xd dX12_hashFrom 73 rfl) (by omega) kd_498 ln_498 (by omega) (by omega) ?_
      refine xr_iinc (v := nI (t + 1)) [(0, .ref 491), (1, .int (nI fr)), (2, .int (nI (8 * (le - fr)))), (3, .int (nI (la - 8))), (4, .int (nI (t + 1)))] (xd dX12_hashFrom 74 rfl) 4 rfl (nI_inc _) (by decide) rfl ?_
      refine xr_goto 104 (xd dX12_hashFrom 75 rfl) (by decide) ?_
      refine xJ.pick [0, 1, 2, 3, 4] rfl ?_
      refine ih (t + 1) I2 (by omega) ?_ hx
      obtain ⟨q1, q2⟩ := hI
      have hF : xFr [498] [] I I2 := by rw [e_I2]; exact xFr.u (Or.inl (by simp))
      refine ⟨q1.tr hF, fun j hj => ?_⟩
      by_cases hjt : j = t
      · subst hjt
        rw [e_I2, xu_s, e_x1, q1 495 j (by simp) (by simp), hF1 j (by omega)]
        rfl
      · rw [e_I2, xu_n I _ (Or.inr hjt)]
        exact q2 j (by omega)
set_option maxHeartbeats 4000000 in
set_option maxRecDepth 100000 in
theorem hf_l4 {b : Nat} {dC : Nat → ClassId} {dI : Nat → Nat → Nat} {cA : Nat → ClassId} {ts : Nat → Nat} {l : Launch} {al : Bool} {n : Nat} {R : Nat → Nat → Option Nat} {L : Nat → Nat → Int64} (hn : 552 ≤ n) (hR : xRk R) {fr le la : Nat} (hfe : fr ≤ le) (hle : le ≤ 1300) (hla : la = fr + (le - fr + 72) / 64 * 64) {nb : Nat} (hnb : la = fr + 64 * nb) {I0 : Nat → Nat → Int32} (hC : ∀ t, t < 64 → I0 496 t = xK64.getD t 0) {Qv : Option Value → xM → Prop} {Qx : String → xM → Prop} : ∀ (k t : Nat) (I : Nat → Nat → Int32), t + k = nb → (xFr [498, 499] [] I0 I ∧ ∀ i, i < 8 → I 498 i = hblk (fun j => I0 497 (fr + j)) t i) → (∀ I' : Nat → Nat → Int32, (xFr [498, 499] [] I0 I' ∧ ∀ i, i < 8 → I' 498 i = hblk (fun j => I0 497 (fr + j)) nb i) → xJ (xGm b dC dI cA ts) l mX12_hashFrom 0 0 Qv Qx 0 0 155 [(0, .ref 491), (1, .int (nI fr)), (2, .int (nI (8 * (le - fr)))), (3, .int (nI (la - 8))), (4, .int (nI (fr + 64 * nb)))] [] al n R I' L) → xJ (xGm b dC dI cA ts) l mX12_hashFrom 0 0 Qv Qx 0 0 134 [(0, .ref 491), (1, .int (nI fr)), (2, .int (nI (8 * (le - fr)))), (3, .int (nI (la - 8))), (4, .int (nI (fr + 64 * t)))] [] al n R I L := by
  intro k
  induction k with
  | zero =>
    intro t I ht hI hx
    refine xr_iload (xd dX12_hashFrom 78 rfl) 4 rfl ?_
    refine xr_iload_n (xd dX12_hashFrom 79 rfl) 3 rfl ?_
    refine xr_bipush (v := nI 8) (xd dX12_hashFrom 80 rfl) (by decide) ?_
    refine xr_iadd (xd dX12_hashFrom 81 rfl) ?_
    refine xr_eqi (nI la) ((nI_add _ _).trans (congrArg nI (by omega))) ?_
    refine xr_icmpN_ge 155 (xd dX12_hashFrom 82 rfl) (by decide) (by omega) (by omega) (fun c140 => ?_) (fun c140 => ?_)
    · skip
      have hz : t = nb := by omega
      subst hz
      exact hx I hI
    · skip
      exact absurd c140 (by omega)
  | succ k ih =>
    intro t I ht hI hx
    refine xr_iload (xd dX12_hashFrom 78 rfl) 4 rfl ?_
    refine xr_iload_n (xd dX12_hashFrom 79 rfl) 3 rfl ?_
    refine xr_bipush (v := nI 8) (xd dX12_hashFrom 80 rfl) (by decide) ?_
    refine xr_iadd (xd dX12_hashFrom 81 rfl) ?_
    refine xr_eqi (nI la) ((nI_add _ _).trans (congrArg nI (by omega))) ?_
    refine xr_icmpN_ge 155 (xd dX12_hashFrom 82 rfl) (by decide) (by omega) (by omega) (fun c140 => ?_) (fun c140 => ?_)
    · skip
      exact absurd c140 (by omega)
    · skip
      refine xr_aload_n (xd dX12_hashFrom 83 rfl) 0 rfl ?_
      refine xr_iload (xd dX12_hashFrom 84 rfl) 4 rfl ?_
      refine xr_callV mX12_block 1 [.int (nI (fr + 64 * t))] (xd dX12_hashFrom 85 rfl) l12_232 kX12_block rfl (by omega) kd_491 (by decide) rfl (by decide) (Nat.le_of_ble_eq_true rfl) (c_block hn hR (at_ := fr + 64 * t) (I := I) (by omega) (fun u hu => by rw [hI.1 496 u (by simp) (by simp)]; exact hC u hu)) (Nat.le_refl _) (Nat.le_refl _) (fun r_ M_ h_ => ?_) (fun _ _ h_ => h_.elim)
      obtain ⟨rfl, I1, rfl, hF_, h9_⟩ := h_
      show xJ _ _ _ _ _ _ _ _ _ 149 [(0, .ref 491), (1, .int (nI fr)), (2, .int (nI (8 * (le - fr)))), (3, .int (nI (la - 8))), (4, .int (nI (fr + 64 * t)))] [] _ _ _ I1 L
      refine xr_iinc (v := nI (fr + 64 * (t + 1))) [(0, .ref 491), (1, .int (nI fr)), (2, .int (nI (8 * (le - fr)))), (3, .int (nI (la - 8))), (4, .int (nI (fr + 64 * (t + 1))))] (xd dX12_hashFrom 86 rfl) 4 rfl ((nI_add _ 64).trans (congrArg nI (by omega))) (by decide) rfl ?_
      refine xr_goto 134 (xd dX12_hashFrom 87 rfl) (by decide) ?_
      refine xJ.pick [0, 1, 2, 3, 4] rfl ?_
      refine ih (t + 1) I1 (by omega) ?_ hx
      obtain ⟨q1, q2⟩ := hI
      refine ⟨q1.tr hF_, fun i hi => ?_⟩
      rw [h9_ i hi]
      refine hcmp_congr q2 (fun j hj => ?_) i hi
      rw [q1 497 _ (by simp) (by simp), Nat.add_assoc]
set_option maxHeartbeats 4000000 in
set_option maxRecDepth 100000 in
theorem hf_l5 {b : Nat} {dC : Nat → ClassId} {dI : Nat → Nat → Nat} {cA : Nat → ClassId} {ts : Nat → Nat} {l : Launch} {al : Bool} {n : Nat} {R : Nat → Nat → Option Nat} {L : Nat → Nat → Int64} (hn : 552 ≤ n) (hR : xRk R) {fr le la : Nat} (hfe : fr ≤ le) (hle : le ≤ 1300) (hla : la = fr + (le - fr + 72) / 64 * 64) {I0 : Nat → Nat → Int32} {Qv : Option Value → xM → Prop} {Qx : String → xM → Prop} : ∀ (k t : Nat) (I : Nat → Nat → Int32), t + k = 32 → (xFr [500] [] I0 I ∧ (∀ j, j < t → I 500 j = hdig (I0 498) j) ∧ ∀ j, t ≤ j → I 500 j = I0 500 j) → (∀ I' : Nat → Nat → Int32, (xFr [500] [] I0 I' ∧ (∀ j, j < 32 → I' 500 j = hdig (I0 498) j) ∧ ∀ j, 32 ≤ j → I' 500 j = I0 500 j) → xJ (xGm b dC dI cA ts) l mX12_hashFrom 0 0 Qv Qx 0 0 202 [(0, .ref 491), (1, .int (nI fr)), (2, .int (nI (8 * (le - fr)))), (3, .int (nI (la - 8))), (4, .int (nI 32))] [] al n R I' L) → xJ (xGm b dC dI cA ts) l mX12_hashFrom 0 0 Qv Qx 0 0 158 [(0, .ref 491), (1, .int (nI fr)), (2, .int (nI (8 * (le - fr)))), (3, .int (nI (la - 8))), (4, .int (nI t))] [] al n R I L := by
  intro k
  induction k with
  | zero =>
    intro t I ht hI hx
    refine xr_iload (xd dX12_hashFrom 90 rfl) 4 rfl ?_
    refine xr_bipush (v := nI 32) (xd dX12_hashFrom 91 rfl) (by decide) ?_
    refine xr_icmpN_ge 202 (xd dX12_hashFrom 92 rfl) (by decide) (by omega) (by omega) (fun c162 => ?_) (fun c162 => ?_)
    · skip
      have hz : t = 32 := by omega
      subst hz
      exact hx I hI
    · skip
      exact absurd c162 (by omega)
  | succ k ih =>
    intro t I ht hI hx
    refine xr_iload (xd dX12_hashFrom 90 rfl) 4 rfl ?_
    refine xr_bipush (v := nI 32) (xd dX12_hashFrom 91 rfl) (by decide) ?_
    refine xr_icmpN_ge 202 (xd dX12_hashFrom 92 rfl) (by decide) (by omega) (by omega) (fun c162 => ?_) (fun c162 => ?_)
    · skip
      exact absurd c162 (by omega)
    · skip
      refine xr_aload_n (xd dX12_hashFrom 93 rfl) 0 rfl ?_
      refine xr_getR (b := 500) 12 16 (xd dX12_hashFrom 94 rfl) f12_34 (by decide) (by decide) (by omega) kd_491 rfl (r_491_16 hR) ?_
      refine xr_iload (xd dX12_hashFrom 95 rfl) 4 rfl ?_
      refine xr_aload_n (xd dX12_hashFrom 96 rfl) 0 rfl ?_
      refine xr_getR (b := 498) 12 14 (xd dX12_hashFrom 97 rfl) f12_28 (by decide) (by decide) (by omega) kd_491 rfl (r_491_14 hR) ?_
      refine xr_iload (xd dX12_hashFrom 98 rfl) 4 rfl ?_
      refine xr_iconst (v := nI 4) (xd dX12_hashFrom 99 rfl) (by decide) ?_
      refine xr_idiv (xd dX12_hashFrom 100 rfl) (by decide) ?_
      refine xr_eqi (nI (t / 4)) (pk_div (by omega) (by omega) (by omega)) ?_
      obtain ⟨x1, e_x1⟩ : ∃ z_ : Int32, z_ = I 498 (t / 4) := ⟨_, rfl⟩
      refine xr_ialoadN (x := x1) (xd dX12_hashFrom 101 rfl) (by omega) kd_498 ln_498 (by omega) (by omega) e_x1.symm ?_
      refine xr_bipush (v := nI 24) (xd dX12_hashFrom 102 rfl) (by decide) ?_
      refine xr_iload (xd dX12_hashFrom 103 rfl) 4 rfl ?_
      refine xr_iconst (v := nI 4) (xd dX12_hashFrom 104 rfl) (by decide) ?_
      refine xr_irem (xd dX12_hashFrom 105 rfl) (by decide) ?_
      refine xr_eqi (nI (t % 4)) (pk_rem (by omega) (by omega) (by omega)) ?_
      refine xr_bipush (v := nI 8) (xd dX12_hashFrom 106 rfl) (by decide) ?_
      refine xr_imul (xd dX12_hashFrom 107 rfl) ?_
      refine xr_eqi (nI ((t % 4) * 8)) (pk_mul _ _) ?_
      refine xr_isub (xd dX12_hashFrom 108 rfl) ?_
      refine xr_eqi (nI (24 - ((t % 4) * 8))) (pk_sub (by omega)) ?_
      refine xr_ishr (xd dX12_hashFrom 109 rfl) ?_
      refine xr_sipush (v := nI 255) (xd dX12_hashFrom 110 rfl) (by decide) ?_
      refine xr_iand (xd dX12_hashFrom 111 rfl) ?_
      obtain ⟨I2, e_I2⟩ : ∃ z_ : Nat → Nat → Int32, z_ = xu I 500 t ((x1 >>> ((nI (24 - ((t % 4) * 8))) &&& 31)) &&& 255) := ⟨_, rfl⟩
      refine xr_iastoreN (I' := I2) e_I2 (xd dX12_hashFrom 112 rfl) (by omega) kd_500 ln_500 (by omega) (by omega) ?_
      refine xr_iinc (v := nI (t + 1)) [(0, .ref 491), (1, .int (nI fr)), (2, .int (nI (8 * (le - fr)))), (3, .int (nI (la - 8))), (4, .int (nI (t + 1)))] (xd dX12_hashFrom 113 rfl) 4 rfl (nI_inc _) (by decide) rfl ?_
      refine xr_goto 158 (xd dX12_hashFrom 114 rfl) (by decide) ?_
      refine xJ.pick [0, 1, 2, 3, 4] rfl ?_
      refine ih (t + 1) I2 (by omega) ?_ hx
      obtain ⟨q1, q2, q3⟩ := hI
      have hF : xFr [500] [] I I2 := by rw [e_I2]; exact xFr.u (Or.inl (by simp))
      refine ⟨q1.tr hF, fun j hj => ?_, fun j hj => ?_⟩
      · by_cases hjt : j = t
        · subst hjt
          rw [e_I2, xu_s, e_x1, q1 498 _ (by simp) (by simp), sh8 _ (by omega), Nat.mul_comm (j % 4) 8]
          rfl
        · rw [e_I2, xu_n I _ (Or.inr hjt)]
          exact q2 j (by omega)
      · rw [e_I2, xu_n I _ (Or.inr (by omega))]
        exact q3 j (by omega)
set_option maxHeartbeats 4000000 in
set_option maxRecDepth 100000 in
/-- hashFrom(from): HASH of the text from there on -/
theorem c_hashFrom {b : Nat} {dC : Nat → ClassId} {dI : Nat → Nat → Nat} {cA : Nat → ClassId} {ts : Nat → Nat} {l : Launch} {al : Bool} {n : Nat} {R : Nat → Nat → Option Nat} {L : Nat → Nat → Int64} (hn : 552 ≤ n) (hR : xRk R) {fr le : Nat} (hfe : fr ≤ le) (hle : le ≤ 1300) {I : Nat → Nat → Int32} (hl : I 491 13 = nI le) (hC : ∀ t, t < 64 → I 496 t = xK64.getD t 0) (hF1 : ∀ i, i < 8 → I 495 i = xF8.getD i 0) : xCn (xGm b dC dI cA ts) l mX12_hashFrom [.ref 491, .int (nI fr)] al (n, R, I, L) 0 0 (fun v M => v = none ∧ ∃ I' : Nat → Nat → Int32, M = (n, R, I', L) ∧ xFr [497, 498, 499, 500] [] I I' ∧ ∀ i, i < 32 → I' 500 i = hsh (fun j => I 497 (fr + j)) (le - fr) i) (fun _ _ => False) := by
  refine xCn.ofJ (by decide) (Nat.le_of_ble_eq_true rfl) ?_
  show xJ _ _ _ _ _ _ _ _ _ 0 [(0, .ref 491), (1, .int (nI fr))] [] _ _ _ _ _
  obtain ⟨la, hla⟩ : ∃ z_ : Nat, z_ = fr + (le - fr + 72) / 64 * 64 := ⟨_, rfl⟩
  have hend9 : hend (le - fr) = la - fr := by unfold hend; omega
  refine xr_bipush (v := nI 8) (xd dX12_hashFrom 0 rfl) (by decide) ?_
  refine xr_aload_n (xd dX12_hashFrom 1 rfl) 0 rfl ?_
  refine xr_getI (x := nI le) 12 13 (xd dX12_hashFrom 2 rfl) f12_229 (by decide) (by decide) (by omega) kd_491 rfl hl ?_
  refine xr_iload_n (xd dX12_hashFrom 3 rfl) 1 rfl ?_
  refine xr_isub (xd dX12_hashFrom 4 rfl) ?_
  refine xr_eqi (nI (le - fr)) (pk_sub (by omega)) ?_
  refine xr_imul (xd dX12_hashFrom 5 rfl) ?_
  refine xr_eqi (nI (8 * (le - fr))) (pk_mul _ _) ?_
  refine xr_istore_n [(0, .ref 491), (1, .int (nI fr)), (2, .int (nI (8 * (le - fr))))] (xd dX12_hashFrom 6 rfl) rfl (by decide) rfl ?_
  refine xr_aload_n (xd dX12_hashFrom 7 rfl) 0 rfl ?_
  refine xr_getI (x := nI le) 12 13 (xd dX12_hashFrom 8 rfl) f12_229 (by decide) (by decide) (by omega) kd_491 rfl hl ?_
  refine xr_istore_n [(0, .ref 491), (1, .int (nI fr)), (2, .int (nI (8 * (le - fr)))), (3, .int (nI le))] (xd dX12_hashFrom 9 rfl) rfl (by decide) rfl ?_
  refine xr_aload_n (xd dX12_hashFrom 10 rfl) 0 rfl ?_
  refine xr_getR (b := 497) 12 12 (xd dX12_hashFrom 11 rfl) f12_25 (by decide) (by decide) (by omega) kd_491 rfl (r_491_12 hR) ?_
  refine xr_iload_n (xd dX12_hashFrom 12 rfl) 3 rfl ?_
  refine xr_sipush (v := nI 128) (xd dX12_hashFrom 13 rfl) (by decide) ?_
  obtain ⟨I1, e_I1⟩ : ∃ z_ : Nat → Nat → Int32, z_ = xu I 497 le 128 := ⟨_, rfl⟩
  refine xr_iastoreN (I' := I1) e_I1 (xd dX12_hashFrom 14 rfl) (by omega) kd_497 ln_497 (by omega) (by omega) ?_
  refine xr_iinc (v := nI (le + 1)) [(0, .ref 491), (1, .int (nI fr)), (2, .int (nI (8 * (le - fr)))), (3, .int (nI (le + 1)))] (xd dX12_hashFrom 15 rfl) 3 rfl (nI_inc _) (by decide) rfl ?_
  refine hf_l1 hn hR hfe hle hla (I0 := I) (la - 8 - (le + 1)) (le + 1) I1 (by omega) (by omega) ⟨?_, fun j hj => ?_, ?_, fun j hj hj2 => absurd hj2 (by omega)⟩ (fun I2 h2 => ?_)
  · rw [e_I1]; exact xFr.u (Or.inl (by simp))
  · rw [e_I1, xu_n I _ (Or.inr (by omega))]
  · rw [e_I1, xu_s]
  refine xr_iconst (v := nI 0) (xd dX12_hashFrom 30 rfl) (by decide) ?_
  refine xr_istore [(0, .ref 491), (1, .int (nI fr)), (2, .int (nI (8 * (le - fr)))), (3, .int (nI (la - 8))), (4, .int (nI 0))] (xd dX12_hashFrom 31 rfl) (by decide) rfl ?_
  refine hf_l2 hn hR hfe hle hla (I0 := I) 4 0 I2 (by omega) ⟨h2.1, h2.2.1, h2.2.2.1, fun j hj hj2 _ => h2.2.2.2 j hj (by omega), fun j hj => absurd hj (by omega)⟩ (fun I3 h3 => ?_)
  refine xr_iconst (v := nI 0) (xd dX12_hashFrom 61 rfl) (by decide) ?_
  refine xr_istore [(0, .ref 491), (1, .int (nI fr)), (2, .int (nI (8 * (le - fr)))), (3, .int (nI (la - 8))), (4, .int (nI 0))] (xd dX12_hashFrom 62 rfl) (by decide) rfl ?_
  refine hf_l3 hn hR hfe hle hla (I0 := I3) (fun i hi => by rw [h3.1 495 i (by simp) (by simp)]; exact hF1 i hi) 8 0 I3 (by omega) ⟨xFr.rf, fun j hj => absurd hj (by omega)⟩ (fun I4 h4 => ?_)
  refine xr_iload_n (xd dX12_hashFrom 76 rfl) 1 rfl ?_
  refine xr_istore [(0, .ref 491), (1, .int (nI fr)), (2, .int (nI (8 * (le - fr)))), (3, .int (nI (la - 8))), (4, .int (nI fr))] (xd dX12_hashFrom 77 rfl) (by decide) rfl ?_
  refine hf_l4 hn hR hfe hle hla (nb := (la - fr) / 64) (by omega) (I0 := I4) (fun t ht => by rw [h4.1 496 t (by simp) (by simp), h3.1 496 t (by simp) (by simp)]; exact hC t ht) ((la - fr) / 64) 0 I4 (by omega) ⟨xFr.rf, h4.2⟩ (fun I5 h5 => ?_)
  refine xr_iconst (v := nI 0) (xd dX12_hashFrom 88 rfl) (by decide) ?_
  refine xr_istore [(0, .ref 491), (1, .int (nI fr)), (2, .int (nI (8 * (le - fr)))), (3, .int (nI (la - 8))), (4, .int (nI 0))] (xd dX12_hashFrom 89 rfl) (by decide) rfl ?_
  refine hf_l5 hn hR hfe hle hla (I0 := I5) 32 0 I5 (by omega) ⟨xFr.rf, fun j hj => absurd hj (by omega), fun _ _ => rfl⟩ (fun I6 h6 => ?_)
  refine xr_vret (xd dX12_hashFrom 115 rfl) rfl (Nat.zero_le _) (Nat.zero_le _) (fun _ => rfl) ?_
  refine ⟨rfl, I6, rfl, ?_, fun i hi => ?_⟩
  · exact (h3.1.mono (by simp) (by simp)).tr ((h4.1.mono (by simp) (by simp)).tr ((h5.1.mono (by simp) (by simp)).tr (h6.1.mono (by simp) (by simp))))
  · rw [h6.2.1 i hi]
    refine hdig_congr (fun q hq => ?_) hi
    rw [h5.2 q hq, show hend (le - fr) / 64 = (la - fr) / 64 by rw [hend9]]
    refine hblk_congr _ (fun j hj => ?_) q hq
    rw [h4.1 497 _ (by simp) (by simp)]
    obtain ⟨q1, q2, q3, q4, q5⟩ := h3
    unfold hpad
    rw [hend9]
    by_cases e1 : j < le - fr
    · rw [if_pos e1]
      exact q2 _ (by omega)
    · rw [if_neg e1]
      by_cases e2 : j = le - fr
      · rw [if_pos e2, show fr + j = le by omega]
        exact q3
      · rw [if_neg e2]
        by_cases e3 : j < la - fr - 4
        · rw [if_pos e3]
          exact q4 _ (by omega) (by omega) (by omega)
        · rw [if_neg e3]
          have h9 := q5 (j - (la - fr - 4)) (by omega)
          rw [show la - 8 + 4 + (j - (la - fr - 4)) = fr + j by omega] at h9
          exact h9
