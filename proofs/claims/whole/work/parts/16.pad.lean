set_option maxHeartbeats 4000000 in
set_option maxRecDepth 100000 in
theorem pad_l1 {b : Nat} {dC : Nat → ClassId} {dI : Nat → Nat → Nat} {cA : Nat → ClassId} {ts : Nat → Nat} {l : Launch} {al : Bool} {n : Nat} {R : Nat → Nat → Option Nat} {L : Nat → Nat → Int64} (hn : 491 ≤ n) (hR : xRk R) {B NB fr en la : Nat} {I0 : Nat → Nat → Int32} (hB : B < n) (hkB : kd0 B = 13) (hlB : ln0 B = NB) (hNB : NB < 100000) (hfe : fr ≤ en) (hla : la = fr + (en - fr + 72) / 64 * 64) (hle : la ≤ NB) (hlo : en + 1 ≤ la - 4) {Qv : Option Value → xM → Prop} {Qx : String → xM → Prop} : ∀ (k t : Nat) (I : Nat → Nat → Int32), t + k = (la - 4) → en < t → (xFr [B] [] I0 I ∧ (∀ j, j < en → I B j = I0 B j) ∧ I B en = 128 ∧ ∀ j, en < j → j < t → I B j = 0) → (∀ I' : Nat → Nat → Int32, (xFr [B] [] I0 I' ∧ (∀ j, j < en → I' B j = I0 B j) ∧ I' B en = 128 ∧ ∀ j, en < j → j < (la - 4) → I' B j = 0) → xJ (xGm b dC dI cA ts) l mX7_pad 0 0 Qv Qx 0 0 61 [(0, .ref 6), (1, .ref B), (2, .int (nI fr)), (3, .int (nI en)), (4, .int (nI la)), (5, .int (nI (la - 4)))] [] al n R I' L) → xJ (xGm b dC dI cA ts) l mX7_pad 0 0 Qv Qx 0 0 41 [(0, .ref 6), (1, .ref B), (2, .int (nI fr)), (3, .int (nI en)), (4, .int (nI la)), (5, .int (nI t))] [] al n R I L := by
  intro k
  induction k with
  | zero =>
    intro t I ht hen hI hx
    refine xr_iload (xd dX7_pad 30 rfl) 5 rfl ?_
    refine xr_iload (xd dX7_pad 31 rfl) 4 rfl ?_
    refine xr_iconst (v := nI 4) (xd dX7_pad 32 rfl) (by decide) ?_
    refine xr_isub (xd dX7_pad 33 rfl) ?_
    refine xr_eqi (nI (la - 4)) (pk_sub (by omega)) ?_
    refine xr_icmpN_ge 61 (xd dX7_pad 34 rfl) (by decide) (by omega) (by omega) (fun c47 => ?_) (fun c47 => ?_)
    · skip
      have hz : t = (la - 4) := by omega
      subst hz
      exact hx I hI
    · skip
      exact absurd c47 (by omega)
  | succ k ih =>
    intro t I ht hen hI hx
    refine xr_iload (xd dX7_pad 30 rfl) 5 rfl ?_
    refine xr_iload (xd dX7_pad 31 rfl) 4 rfl ?_
    refine xr_iconst (v := nI 4) (xd dX7_pad 32 rfl) (by decide) ?_
    refine xr_isub (xd dX7_pad 33 rfl) ?_
    refine xr_eqi (nI (la - 4)) (pk_sub (by omega)) ?_
    refine xr_icmpN_ge 61 (xd dX7_pad 34 rfl) (by decide) (by omega) (by omega) (fun c47 => ?_) (fun c47 => ?_)
    · skip
      exact absurd c47 (by omega)
    · skip
      refine xr_aload_n (xd dX7_pad 35 rfl) 1 rfl ?_
      refine xr_iload (xd dX7_pad 36 rfl) 5 rfl ?_
      refine xr_iconst (v := nI 0) (xd dX7_pad 37 rfl) (by decide) ?_
      obtain ⟨I1, e_I1⟩ : ∃ z_ : Nat → Nat → Int32, z_ = xu I B t 0 := ⟨_, rfl⟩
      refine xr_iastoreN (I' := I1) e_I1 (xd dX7_pad 38 rfl) (by omega) hkB hlB (by omega) (by omega) ?_
      refine xr_iinc (v := nI (t + 1)) [(0, .ref 6), (1, .ref B), (2, .int (nI fr)), (3, .int (nI en)), (4, .int (nI la)), (5, .int (nI (t + 1)))] (xd dX7_pad 39 rfl) 5 rfl (nI_inc _) (by decide) rfl ?_
      refine xr_goto 41 (xd dX7_pad 40 rfl) (by decide) ?_
      refine xJ.pick [0, 1, 2, 3, 4, 5] rfl ?_
      refine ih (t + 1) I1 (by omega) (by omega) ?_ hx
      obtain ⟨q1, q2, q3, q4⟩ := hI
      have hF : xFr [B] [] I I1 := by rw [e_I1]; exact xFr.u (Or.inl (by simp))
      refine ⟨q1.tr hF, fun j hj => ?_, ?_, fun j hj hj2 => ?_⟩
      · rw [e_I1, xu_n I _ (Or.inr (by omega))]
        exact q2 j hj
      · rw [e_I1, xu_n I _ (Or.inr (by omega))]
        exact q3
      · by_cases hjt : j = t
        · subst hjt
          rw [e_I1, xu_s]
        · rw [e_I1, xu_n I _ (Or.inr (by omega))]
          exact q4 j hj (by omega)
set_option maxHeartbeats 4000000 in
set_option maxRecDepth 100000 in
theorem pad_l2 {b : Nat} {dC : Nat → ClassId} {dI : Nat → Nat → Nat} {cA : Nat → ClassId} {ts : Nat → Nat} {l : Launch} {al : Bool} {n : Nat} {R : Nat → Nat → Option Nat} {L : Nat → Nat → Int64} (hn : 491 ≤ n) (hR : xRk R) {B NB fr en la : Nat} {I0 : Nat → Nat → Int32} (hB : B < n) (hkB : kd0 B = 13) (hlB : ln0 B = NB) (hNB : NB < 100000) (hfe : fr ≤ en) (hla : la = fr + (en - fr + 72) / 64 * 64) (hle : la ≤ NB) {Qv : Option Value → xM → Prop} {Qx : String → xM → Prop} : ∀ (k t : Nat) (I : Nat → Nat → Int32), t + k = 4 → (xFr [B] [] I0 I ∧ (∀ j, j < en → I B j = I0 B j) ∧ I B en = 128 ∧ (∀ j, en < j → j < la - 4 → I B j = 0) ∧ ∀ j, j < t → I B (la - 4 + j) = us (nI ((en - fr) * 8)) (nI (24 - 8 * j)) &&& 255) → (∀ I' : Nat → Nat → Int32, (xFr [B] [] I0 I' ∧ (∀ j, j < en → I' B j = I0 B j) ∧ I' B en = 128 ∧ (∀ j, en < j → j < la - 4 → I' B j = 0) ∧ ∀ j, j < 4 → I' B (la - 4 + j) = us (nI ((en - fr) * 8)) (nI (24 - 8 * j)) &&& 255) → xJ (xGm b dC dI cA ts) l mX7_pad 0 0 Qv Qx 0 0 108 [(0, .ref 6), (1, .ref B), (2, .int (nI fr)), (3, .int (nI en)), (4, .int (nI la)), (5, .int (nI ((en - fr) * 8))), (6, .int (nI 4))] [] al n R I' L) → xJ (xGm b dC dI cA ts) l mX7_pad 0 0 Qv Qx 0 0 72 [(0, .ref 6), (1, .ref B), (2, .int (nI fr)), (3, .int (nI en)), (4, .int (nI la)), (5, .int (nI ((en - fr) * 8))), (6, .int (nI t))] [] al n R I L := by
  intro k
  induction k with
  | zero =>
    intro t I ht hI hx
    refine xr_iload (xd dX7_pad 49 rfl) 6 rfl ?_
    refine xr_iconst (v := nI 4) (xd dX7_pad 50 rfl) (by decide) ?_
    refine xr_icmpN_ge 108 (xd dX7_pad 51 rfl) (by decide) (by omega) (by omega) (fun c75 => ?_) (fun c75 => ?_)
    · skip
      have hz : t = 4 := by omega
      subst hz
      exact hx I hI
    · skip
      exact absurd c75 (by omega)
  | succ k ih =>
    intro t I ht hI hx
    refine xr_iload (xd dX7_pad 49 rfl) 6 rfl ?_
    refine xr_iconst (v := nI 4) (xd dX7_pad 50 rfl) (by decide) ?_
    refine xr_icmpN_ge 108 (xd dX7_pad 51 rfl) (by decide) (by omega) (by omega) (fun c75 => ?_) (fun c75 => ?_)
    · skip
      exact absurd c75 (by omega)
    · skip
      refine xr_aload_n (xd dX7_pad 52 rfl) 1 rfl ?_
      refine xr_iload (xd dX7_pad 53 rfl) 4 rfl ?_
      refine xr_iconst (v := nI 4) (xd dX7_pad 54 rfl) (by decide) ?_
      refine xr_isub (xd dX7_pad 55 rfl) ?_
      refine xr_eqi (nI (la - 4)) (pk_sub (by omega)) ?_
      refine xr_iload (xd dX7_pad 56 rfl) 6 rfl ?_
      refine xr_iadd (xd dX7_pad 57 rfl) ?_
      refine xr_eqi (nI (la - 4 + t)) (nI_add _ _) ?_
      refine xr_iload (xd dX7_pad 58 rfl) 5 rfl ?_
      refine xr_bipush (v := nI 24) (xd dX7_pad 59 rfl) (by decide) ?_
      refine xr_bipush (v := nI 8) (xd dX7_pad 60 rfl) (by decide) ?_
      refine xr_iload (xd dX7_pad 61 rfl) 6 rfl ?_
      refine xr_imul (xd dX7_pad 62 rfl) ?_
      refine xr_eqi (nI (8 * t)) (pk_mul _ _) ?_
      refine xr_isub (xd dX7_pad 63 rfl) ?_
      refine xr_eqi (nI (24 - (8 * t))) (pk_sub (by omega)) ?_
      refine xr_iushr (xd dX7_pad 64 rfl) ?_
      refine xr_sipush (v := nI 255) (xd dX7_pad 65 rfl) (by decide) ?_
      refine xr_iand (xd dX7_pad 66 rfl) ?_
      obtain ⟨I1, e_I1⟩ : ∃ z_ : Nat → Nat → Int32, z_ = xu I B (la - 4 + t) ((us (nI ((en - fr) * 8)) (nI (24 - (8 * t)))) &&& 255) := ⟨_, rfl⟩
      refine xr_iastoreN (I' := I1) e_I1 (xd dX7_pad 67 rfl) (by omega) hkB hlB (by omega) (by omega) ?_
      refine xr_iinc (v := nI (t + 1)) [(0, .ref 6), (1, .ref B), (2, .int (nI fr)), (3, .int (nI en)), (4, .int (nI la)), (5, .int (nI ((en - fr) * 8))), (6, .int (nI (t + 1)))] (xd dX7_pad 68 rfl) 6 rfl (nI_inc _) (by decide) rfl ?_
      refine xr_goto 72 (xd dX7_pad 69 rfl) (by decide) ?_
      refine xJ.pick [0, 1, 2, 3, 4, 5, 6] rfl ?_
      refine ih (t + 1) I1 (by omega) ?_ hx
      obtain ⟨q1, q2, q3, q4, q5⟩ := hI
      have hF : xFr [B] [] I I1 := by rw [e_I1]; exact xFr.u (Or.inl (by simp))
      refine ⟨q1.tr hF, fun j hj => ?_, ?_, fun j hj hj2 => ?_, fun j hj => ?_⟩
      · rw [e_I1, xu_n I _ (Or.inr (by omega))]
        exact q2 j hj
      · rw [e_I1, xu_n I _ (Or.inr (by omega))]
        exact q3
      · rw [e_I1, xu_n I _ (Or.inr (by omega))]
        exact q4 j hj hj2
      · by_cases hjt : j = t
        · subst hjt
          rw [e_I1, xu_s]
        · rw [e_I1, xu_n I _ (Or.inr (by omega))]
          exact q5 j (by omega)
set_option maxHeartbeats 4000000 in
set_option maxRecDepth 100000 in
/-- Sha.pad(block, from, end) -/
theorem c_pad {b : Nat} {dC : Nat → ClassId} {dI : Nat → Nat → Nat} {cA : Nat → ClassId} {ts : Nat → Nat} {l : Launch} {al : Bool} {n : Nat} {R : Nat → Nat → Option Nat} {L : Nat → Nat → Int64} (hn : 491 ≤ n) (hR : xRk R) {B NB fr en : Nat} (hB : B < n) (hkB : kd0 B = 13) (hlB : ln0 B = NB) (hNB : NB < 100000) (hfe : fr ≤ en) (hle0 : fr + hend (en - fr) ≤ NB) {I : Nat → Nat → Int32} : xCn (xGm b dC dI cA ts) l mX7_pad [.ref 6, .ref B, .int (nI fr), .int (nI en)] al (n, R, I, L) 0 0 (fun v M => v = some (.int (nI (fr + hend (en - fr)))) ∧ ∃ I' : Nat → Nat → Int32, M = (n, R, I', L) ∧ xFr [B] [] I I' ∧ (∀ j, j < fr → I' B j = I B j) ∧ ∀ j, j < hend (en - fr) → I' B (fr + j) = hpad (fun i => I B (fr + i)) (en - fr) j) (fun _ _ => False) := by
  refine xCn.ofJ (by decide) (Nat.le_of_ble_eq_true rfl) ?_
  show xJ _ _ _ _ _ _ _ _ _ 0 [(0, .ref 6), (1, .ref B), (2, .int (nI fr)), (3, .int (nI en))] [] _ _ _ _ _
  obtain ⟨la, hla⟩ : ∃ z_ : Nat, z_ = fr + (en - fr + 72) / 64 * 64 := ⟨_, rfl⟩
  have hle : la ≤ NB := by unfold hend at hle0; omega
  have hlo : en + 1 ≤ la - 4 := by omega
  refine xr_iload_n (xd dX7_pad 0 rfl) 2 rfl ?_
  refine xr_iload_n (xd dX7_pad 1 rfl) 3 rfl ?_
  refine xr_iload_n (xd dX7_pad 2 rfl) 2 rfl ?_
  refine xr_isub (xd dX7_pad 3 rfl) ?_
  refine xr_eqi (nI (en - fr)) (pk_sub (by omega)) ?_
  refine xr_bipush (v := nI 9) (xd dX7_pad 4 rfl) (by decide) ?_
  refine xr_iadd (xd dX7_pad 5 rfl) ?_
  refine xr_eqi (nI (en - fr + 9)) (nI_add _ _) ?_
  refine xr_bipush (v := nI 64) (xd dX7_pad 6 rfl) (by decide) ?_
  refine xr_iadd (xd dX7_pad 7 rfl) ?_
  refine xr_eqi (nI (en - fr + 9 + 64)) (nI_add _ _) ?_
  refine xr_iconst (v := nI 1) (xd dX7_pad 8 rfl) (by decide) ?_
  refine xr_isub (xd dX7_pad 9 rfl) ?_
  refine xr_eqi (nI ((en - fr + 9 + 64) - 1)) (pk_sub (by omega)) ?_
  refine xr_bipush (v := nI 64) (xd dX7_pad 10 rfl) (by decide) ?_
  refine xr_idiv (xd dX7_pad 11 rfl) (by decide) ?_
  refine xr_eqi (nI (((en - fr + 9 + 64) - 1) / 64)) (pk_div (by omega) (by omega) (by omega)) ?_
  refine xr_bipush (v := nI 64) (xd dX7_pad 12 rfl) (by decide) ?_
  refine xr_imul (xd dX7_pad 13 rfl) ?_
  refine xr_eqi (nI ((((en - fr + 9 + 64) - 1) / 64) * 64)) (pk_mul _ _) ?_
  refine xr_iadd (xd dX7_pad 14 rfl) ?_
  refine xr_eqi (nI la) (by rw [nI_add]; first | rfl | (congr 1; omega)) ?_
  refine xr_istore [(0, .ref 6), (1, .ref B), (2, .int (nI fr)), (3, .int (nI en)), (4, .int (nI la))] (xd dX7_pad 15 rfl) (by decide) rfl ?_
  refine xr_iload (xd dX7_pad 16 rfl) 4 rfl ?_
  refine xr_aload_n (xd dX7_pad 17 rfl) 1 rfl ?_
  refine xr_alen (v := nI NB) 0 (xd dX7_pad 18 rfl) (by omega) (by decide) hkB (congrArg nI hlB) ?_
  refine xr_icmpN_le 30 (xd dX7_pad 19 rfl) (by decide) (by omega) (by omega) (fun c25 => ?_) (fun c25 => ?_)
  · skip
    refine xr_aload_n (xd dX7_pad 22 rfl) 1 rfl ?_
    refine xr_iload_n (xd dX7_pad 23 rfl) 3 rfl ?_
    refine xr_sipush (v := nI 128) (xd dX7_pad 24 rfl) (by decide) ?_
    obtain ⟨I1, e_I1⟩ : ∃ z_ : Nat → Nat → Int32, z_ = xu I B en 128 := ⟨_, rfl⟩
    refine xr_iastoreN (I' := I1) e_I1 (xd dX7_pad 25 rfl) (by omega) hkB hlB (by omega) (by omega) ?_
    refine xr_iload_n (xd dX7_pad 26 rfl) 3 rfl ?_
    refine xr_iconst (v := nI 1) (xd dX7_pad 27 rfl) (by decide) ?_
    refine xr_iadd (xd dX7_pad 28 rfl) ?_
    refine xr_eqi (nI (en + 1)) (nI_add _ _) ?_
    refine xr_istore [(0, .ref 6), (1, .ref B), (2, .int (nI fr)), (3, .int (nI en)), (4, .int (nI la)), (5, .int (nI (en + 1)))] (xd dX7_pad 29 rfl) (by decide) rfl ?_
    refine pad_l1 hn hR (I0 := I) hB hkB hlB hNB hfe hla hle hlo (la - 4 - (en + 1)) (en + 1) I1 (by omega) (by omega) ⟨?_, fun j hj => ?_, ?_, fun j hj hj2 => absurd hj2 (by omega)⟩ (fun I2 h2 => ?_)
    · rw [e_I1]; exact xFr.u (Or.inl (by simp))
    · rw [e_I1, xu_n I _ (Or.inr (by omega))]
    · rw [e_I1, xu_s]
    refine xr_iload_n (xd dX7_pad 41 rfl) 3 rfl ?_
    refine xr_iload_n (xd dX7_pad 42 rfl) 2 rfl ?_
    refine xr_isub (xd dX7_pad 43 rfl) ?_
    refine xr_eqi (nI (en - fr)) (pk_sub (by omega)) ?_
    refine xr_bipush (v := nI 8) (xd dX7_pad 44 rfl) (by decide) ?_
    refine xr_imul (xd dX7_pad 45 rfl) ?_
    refine xr_eqi (nI ((en - fr) * 8)) (pk_mul _ _) ?_
    refine xr_istore [(0, .ref 6), (1, .ref B), (2, .int (nI fr)), (3, .int (nI en)), (4, .int (nI la)), (5, .int (nI ((en - fr) * 8)))] (xd dX7_pad 46 rfl) (by decide) rfl ?_
    refine xr_iconst (v := nI 0) (xd dX7_pad 47 rfl) (by decide) ?_
    refine xr_istore [(0, .ref 6), (1, .ref B), (2, .int (nI fr)), (3, .int (nI en)), (4, .int (nI la)), (5, .int (nI ((en - fr) * 8))), (6, .int (nI 0))] (xd dX7_pad 48 rfl) (by decide) rfl ?_
    refine pad_l2 hn hR (I0 := I) hB hkB hlB hNB hfe hla hle 4 0 I2 (by omega) ⟨h2.1, h2.2.1, h2.2.2.1, h2.2.2.2, fun j hj => absurd hj (by omega)⟩ (fun I3 h3 => ?_)
    obtain ⟨q1, q2, q3, q4, q5⟩ := h3
    refine xr_iload (xd dX7_pad 70 rfl) 4 rfl ?_
    refine xr_iret (xd dX7_pad 71 rfl) rfl (Nat.zero_le _) (Nat.zero_le _) (fun _ => rfl) ?_
    have hle9 : fr + hend (en - fr) = la := by unfold hend; omega
    refine ⟨by rw [hle9], I3, rfl, q1, fun j hj => q2 j (by omega), fun j hj => ?_⟩
    have hend9 : hend (en - fr) = la - fr := by unfold hend; omega
    unfold hpad
    rw [hend9]
    by_cases e1 : j < en - fr
    · rw [if_pos e1]
      exact q2 _ (by omega)
    · rw [if_neg e1]
      by_cases e2 : j = en - fr
      · rw [if_pos e2, show fr + j = en by omega]
        exact q3
      · rw [if_neg e2]
        by_cases e3 : j < la - fr - 4
        · rw [if_pos e3]
          exact q4 _ (by omega) (by omega)
        · rw [if_neg e3]
          have h9 := q5 (j - (la - fr - 4)) (by omega)
          rw [show la - 4 + (j - (la - fr - 4)) = fr + j by omega] at h9
          exact h9
  · skip
    exact absurd c25 (by omega)
