set_option maxHeartbeats 4000000 in
set_option maxRecDepth 100000 in
theorem mix_l1 {b : Nat} {dC : Nat → ClassId} {dI : Nat → Nat → Nat} {cA : Nat → ClassId} {ts : Nat → Nat} {l : Launch} {al : Bool} {n : Nat} {R : Nat → Nat → Option Nat} {L : Nat → Nat → Int64} (hn : 491 ≤ n) (hR : xRk R) {B NB at_ : Nat} (hB : B < 491 ∧ B ≠ 9 ∧ B ≠ 10) (hkB : kd0 B = 13) (hlB : ln0 B = NB) (hNB : NB < 100000) (hat : at_ + 64 ≤ NB) {Qv : Option Value → xM → Prop} {Qx : String → xM → Prop} : ∀ (k t : Nat) (I : Nat → Nat → Int32), t + k = 16 → (∀ j, j < t → I 10 j = hwd (fun i => I B (at_ + i)) j) → (∀ I' : Nat → Nat → Int32, xFr [10] [] I I' → (∀ j, j < 16 → I' 10 j = hwd (fun i => I B (at_ + i)) j) → xJ (xGm b dC dI cA ts) l mX7_mix 0 0 Qv Qx 0 0 61 [(0, .ref 6), (1, .ref B), (2, .int (nI at_)), (3, .int (nI 16))] [] al n R I' L) → xJ (xGm b dC dI cA ts) l mX7_mix 0 0 Qv Qx 0 0 2 [(0, .ref 6), (1, .ref B), (2, .int (nI at_)), (3, .int (nI t))] [] al n R I L := by
  intro k
  induction k with
  | zero =>
    intro t I ht hI hx
    refine xr_iload_n (xd dX7_mix 2 rfl) 3 rfl ?_
    refine xr_bipush (v := nI 16) (xd dX7_mix 3 rfl) (by decide) ?_
    refine xr_icmpN_ge 61 (xd dX7_mix 4 rfl) (by decide) (by omega) (by omega) (fun c5 => ?_) (fun c5 => ?_)
    · skip
      have ht16 : t = 16 := by omega
      subst ht16
      exact hx I xFr.rf hI
    · skip
      exact absurd c5 (by omega)
  | succ k ih =>
    intro t I ht hI hx
    refine xr_iload_n (xd dX7_mix 2 rfl) 3 rfl ?_
    refine xr_bipush (v := nI 16) (xd dX7_mix 3 rfl) (by decide) ?_
    refine xr_icmpN_ge 61 (xd dX7_mix 4 rfl) (by decide) (by omega) (by omega) (fun c5 => ?_) (fun c5 => ?_)
    · skip
      exact absurd c5 (by omega)
    · skip
      refine xr_iload_n (xd dX7_mix 5 rfl) 2 rfl ?_
      refine xr_iconst (v := nI 4) (xd dX7_mix 6 rfl) (by decide) ?_
      refine xr_iload_n (xd dX7_mix 7 rfl) 3 rfl ?_
      refine xr_imul (xd dX7_mix 8 rfl) ?_
      refine xr_eqi (nI (4 * t)) (pk_mul _ _) ?_
      refine xr_iadd (xd dX7_mix 9 rfl) ?_
      refine xr_eqi (nI (at_ + (4 * t))) (nI_add _ _) ?_
      refine xr_istore [(0, .ref 6), (1, .ref B), (2, .int (nI at_)), (3, .int (nI t)), (4, .int (nI (at_ + (4 * t))))] (xd dX7_mix 10 rfl) (by decide) rfl ?_
      refine xr_aload_n (xd dX7_mix 11 rfl) 0 rfl ?_
      refine xr_getR (b := 10) 7 3 (xd dX7_mix 12 rfl) f7_21 (by decide) (by decide) (by omega) kd_6 rfl (r_6_3 hR) ?_
      refine xr_iload_n (xd dX7_mix 13 rfl) 3 rfl ?_
      refine xr_aload_n (xd dX7_mix 14 rfl) 1 rfl ?_
      refine xr_iload (xd dX7_mix 15 rfl) 4 rfl ?_
      obtain ⟨x1, e_x1⟩ : ∃ z : Int32, z = I B (at_ + (4 * t)) := ⟨_, rfl⟩
      refine xr_ialoadN (x := x1) (xd dX7_mix 16 rfl) (by omega) hkB hlB (by omega) (by omega) e_x1.symm ?_
      refine xr_bipush (v := nI 24) (xd dX7_mix 17 rfl) (by decide) ?_
      refine xr_ishl (xd dX7_mix 18 rfl) ?_
      refine xr_aload_n (xd dX7_mix 19 rfl) 1 rfl ?_
      refine xr_iload (xd dX7_mix 20 rfl) 4 rfl ?_
      refine xr_iconst (v := nI 1) (xd dX7_mix 21 rfl) (by decide) ?_
      refine xr_iadd (xd dX7_mix 22 rfl) ?_
      refine xr_eqi (nI (at_ + (4 * t) + 1)) (nI_add _ _) ?_
      obtain ⟨x2, e_x2⟩ : ∃ z : Int32, z = I B (at_ + (4 * t) + 1) := ⟨_, rfl⟩
      refine xr_ialoadN (x := x2) (xd dX7_mix 23 rfl) (by omega) hkB hlB (by omega) (by omega) e_x2.symm ?_
      refine xr_bipush (v := nI 16) (xd dX7_mix 24 rfl) (by decide) ?_
      refine xr_ishl (xd dX7_mix 25 rfl) ?_
      refine xr_ior (xd dX7_mix 26 rfl) ?_
      refine xr_aload_n (xd dX7_mix 27 rfl) 1 rfl ?_
      refine xr_iload (xd dX7_mix 28 rfl) 4 rfl ?_
      refine xr_iconst (v := nI 2) (xd dX7_mix 29 rfl) (by decide) ?_
      refine xr_iadd (xd dX7_mix 30 rfl) ?_
      refine xr_eqi (nI (at_ + (4 * t) + 2)) (nI_add _ _) ?_
      obtain ⟨x3, e_x3⟩ : ∃ z : Int32, z = I B (at_ + (4 * t) + 2) := ⟨_, rfl⟩
      refine xr_ialoadN (x := x3) (xd dX7_mix 31 rfl) (by omega) hkB hlB (by omega) (by omega) e_x3.symm ?_
      refine xr_bipush (v := nI 8) (xd dX7_mix 32 rfl) (by decide) ?_
      refine xr_ishl (xd dX7_mix 33 rfl) ?_
      refine xr_ior (xd dX7_mix 34 rfl) ?_
      refine xr_aload_n (xd dX7_mix 35 rfl) 1 rfl ?_
      refine xr_iload (xd dX7_mix 36 rfl) 4 rfl ?_
      refine xr_iconst (v := nI 3) (xd dX7_mix 37 rfl) (by decide) ?_
      refine xr_iadd (xd dX7_mix 38 rfl) ?_
      refine xr_eqi (nI (at_ + (4 * t) + 3)) (nI_add _ _) ?_
      obtain ⟨x4, e_x4⟩ : ∃ z : Int32, z = I B (at_ + (4 * t) + 3) := ⟨_, rfl⟩
      refine xr_ialoadN (x := x4) (xd dX7_mix 39 rfl) (by omega) hkB hlB (by omega) (by omega) e_x4.symm ?_
      refine xr_ior (xd dX7_mix 40 rfl) ?_
      obtain ⟨I5, e_I5⟩ : ∃ z : Nat → Nat → Int32, z = xu I 10 t ((((x1 <<< (24 &&& 31)) ||| (x2 <<< (16 &&& 31))) ||| (x3 <<< (8 &&& 31))) ||| x4) := ⟨_, rfl⟩
      refine xr_iastoreN (I' := I5) e_I5 (xd dX7_mix 41 rfl) (by omega) kd_10 ln_10 (by omega) (by omega) ?_
      refine xr_iinc (v := nI (t + 1)) [(0, .ref 6), (1, .ref B), (2, .int (nI at_)), (3, .int (nI (t + 1))), (4, .int (nI (at_ + (4 * t))))] (xd dX7_mix 42 rfl) 3 rfl (nI_inc _) (by decide) rfl ?_
      refine xr_goto 2 (xd dX7_mix 43 rfl) (by decide) ?_
      refine xJ.pick [0, 1, 2, 3] rfl ?_
      have hF : xFr [10] [] I I5 := by rw [e_I5]; exact xFr.u (Or.inl (by simp))
      have hB1 : I5 B = I B := hF.row (by simp; omega) (by simp)
      refine ih (t + 1) I5 (by omega) (fun j hj => ?_) (fun I' hF' h' => ?_)
      · rw [hB1]
        by_cases hjt : j = t
        · subst hjt
          rw [e_I5, xu_s, e_x1, e_x2, e_x3, e_x4]
          simp only [hwd, Nat.add_assoc]
        · rw [e_I5, xu_n I _ (Or.inr hjt)]
          exact hI j (by omega)
      · rw [hB1] at h'
        exact hx I' (hF.tr hF') h'
set_option maxHeartbeats 4000000 in
set_option maxRecDepth 100000 in
theorem mix_l2 {b : Nat} {dC : Nat → ClassId} {dI : Nat → Nat → Nat} {cA : Nat → ClassId} {ts : Nat → Nat} {l : Launch} {al : Bool} {n : Nat} {R : Nat → Nat → Option Nat} {L : Nat → Nat → Int64} (hn : 491 ≤ n) (hR : xRk R) {B NB at_ : Nat} (hB : B < 491 ∧ B ≠ 9 ∧ B ≠ 10) (hkB : kd0 B = 13) (hlB : ln0 B = NB) (hNB : NB < 100000) (hat : at_ + 64 ≤ NB) {Qv : Option Value → xM → Prop} {Qx : String → xM → Prop} {f : Nat → Int32} : ∀ (r k : Nat) (I : Nat → Nat → Int32), k + r = 48 → (∀ j, j < 16 + k → I 10 j = hW f k j) → (∀ I' : Nat → Nat → Int32, xFr [10] [] I I' → (∀ j, j < 64 → I' 10 j = hW f 48 j) → xJ (xGm b dC dI cA ts) l mX7_mix 0 0 Qv Qx 0 0 189 [(0, .ref 6), (1, .ref B), (2, .int (nI at_)), (3, .int (nI 64))] [] al n R I' L) → xJ (xGm b dC dI cA ts) l mX7_mix 0 0 Qv Qx 0 0 64 [(0, .ref 6), (1, .ref B), (2, .int (nI at_)), (3, .int (nI (16 + k)))] [] al n R I L := by
  intro r
  induction r with
  | zero =>
    intro k I hk hI hx
    refine xr_iload_n (xd dX7_mix 46 rfl) 3 rfl ?_
    refine xr_bipush (v := nI 64) (xd dX7_mix 47 rfl) (by decide) ?_
    refine xr_icmpN_ge 189 (xd dX7_mix 48 rfl) (by decide) (by omega) (by omega) (fun c67 => ?_) (fun c67 => ?_)
    · skip
      have hk48 : k = 48 := by omega
      subst hk48
      exact hx I xFr.rf hI
    · skip
      exact absurd c67 (by omega)
  | succ r ih =>
    intro k I hk hI hx
    refine xr_iload_n (xd dX7_mix 46 rfl) 3 rfl ?_
    refine xr_bipush (v := nI 64) (xd dX7_mix 47 rfl) (by decide) ?_
    refine xr_icmpN_ge 189 (xd dX7_mix 48 rfl) (by decide) (by omega) (by omega) (fun c67 => ?_) (fun c67 => ?_)
    · skip
      exact absurd c67 (by omega)
    · skip
      refine xr_aload_n (xd dX7_mix 49 rfl) 0 rfl ?_
      refine xr_getR (b := 10) 7 3 (xd dX7_mix 50 rfl) f7_21 (by decide) (by decide) (by omega) kd_6 rfl (r_6_3 hR) ?_
      refine xr_iload_n (xd dX7_mix 51 rfl) 3 rfl ?_
      refine xr_bipush (v := nI 15) (xd dX7_mix 52 rfl) (by decide) ?_
      refine xr_isub (xd dX7_mix 53 rfl) ?_
      refine xr_eqi (nI (k + 1)) (by rw [pk_sub (by omega)]; first | rfl | (congr 1; omega)) ?_
      obtain ⟨x1, e_x1⟩ : ∃ z : Int32, z = I 10 (k + 1) := ⟨_, rfl⟩
      refine xr_ialoadN (x := x1) (xd dX7_mix 54 rfl) (by omega) kd_10 ln_10 (by omega) (by omega) e_x1.symm ?_
      refine xr_istore [(0, .ref 6), (1, .ref B), (2, .int (nI at_)), (3, .int (nI (16 + k))), (4, .int x1)] (xd dX7_mix 55 rfl) (by decide) rfl ?_
      refine xr_aload_n (xd dX7_mix 56 rfl) 0 rfl ?_
      refine xr_getR (b := 10) 7 3 (xd dX7_mix 57 rfl) f7_21 (by decide) (by decide) (by omega) kd_6 rfl (r_6_3 hR) ?_
      refine xr_iload_n (xd dX7_mix 58 rfl) 3 rfl ?_
      refine xr_iconst (v := nI 2) (xd dX7_mix 59 rfl) (by decide) ?_
      refine xr_isub (xd dX7_mix 60 rfl) ?_
      refine xr_eqi (nI (k + 14)) (by rw [pk_sub (by omega)]; first | rfl | (congr 1; omega)) ?_
      obtain ⟨x2, e_x2⟩ : ∃ z : Int32, z = I 10 (k + 14) := ⟨_, rfl⟩
      refine xr_ialoadN (x := x2) (xd dX7_mix 61 rfl) (by omega) kd_10 ln_10 (by omega) (by omega) e_x2.symm ?_
      refine xr_istore [(0, .ref 6), (1, .ref B), (2, .int (nI at_)), (3, .int (nI (16 + k))), (4, .int x1), (5, .int x2)] (xd dX7_mix 62 rfl) (by decide) rfl ?_
      refine xr_iload (xd dX7_mix 63 rfl) 4 rfl ?_
      refine xr_bipush (v := nI 7) (xd dX7_mix 64 rfl) (by decide) ?_
      refine xr_iushr (xd dX7_mix 65 rfl) ?_
      refine xr_iload (xd dX7_mix 66 rfl) 4 rfl ?_
      refine xr_bipush (v := nI 25) (xd dX7_mix 67 rfl) (by decide) ?_
      refine xr_ishl (xd dX7_mix 68 rfl) ?_
      refine xr_ior (xd dX7_mix 69 rfl) ?_
      refine xr_iload (xd dX7_mix 70 rfl) 4 rfl ?_
      refine xr_bipush (v := nI 18) (xd dX7_mix 71 rfl) (by decide) ?_
      refine xr_iushr (xd dX7_mix 72 rfl) ?_
      refine xr_iload (xd dX7_mix 73 rfl) 4 rfl ?_
      refine xr_bipush (v := nI 14) (xd dX7_mix 74 rfl) (by decide) ?_
      refine xr_ishl (xd dX7_mix 75 rfl) ?_
      refine xr_ior (xd dX7_mix 76 rfl) ?_
      refine xr_ixor (xd dX7_mix 77 rfl) ?_
      refine xr_iload (xd dX7_mix 78 rfl) 4 rfl ?_
      refine xr_iconst (v := nI 3) (xd dX7_mix 79 rfl) (by decide) ?_
      refine xr_iushr (xd dX7_mix 80 rfl) ?_
      refine xr_ixor (xd dX7_mix 81 rfl) ?_
      refine xr_topi (fun x3 e_x3 => ?_)
      refine xr_istore [(0, .ref 6), (1, .ref B), (2, .int (nI at_)), (3, .int (nI (16 + k))), (4, .int x1), (5, .int x2), (6, .int x3)] (xd dX7_mix 82 rfl) (by decide) rfl ?_
      refine xr_iload (xd dX7_mix 83 rfl) 5 rfl ?_
      refine xr_bipush (v := nI 17) (xd dX7_mix 84 rfl) (by decide) ?_
      refine xr_iushr (xd dX7_mix 85 rfl) ?_
      refine xr_iload (xd dX7_mix 86 rfl) 5 rfl ?_
      refine xr_bipush (v := nI 15) (xd dX7_mix 87 rfl) (by decide) ?_
      refine xr_ishl (xd dX7_mix 88 rfl) ?_
      refine xr_ior (xd dX7_mix 89 rfl) ?_
      refine xr_iload (xd dX7_mix 90 rfl) 5 rfl ?_
      refine xr_bipush (v := nI 19) (xd dX7_mix 91 rfl) (by decide) ?_
      refine xr_iushr (xd dX7_mix 92 rfl) ?_
      refine xr_iload (xd dX7_mix 93 rfl) 5 rfl ?_
      refine xr_bipush (v := nI 13) (xd dX7_mix 94 rfl) (by decide) ?_
      refine xr_ishl (xd dX7_mix 95 rfl) ?_
      refine xr_ior (xd dX7_mix 96 rfl) ?_
      refine xr_ixor (xd dX7_mix 97 rfl) ?_
      refine xr_iload (xd dX7_mix 98 rfl) 5 rfl ?_
      refine xr_bipush (v := nI 10) (xd dX7_mix 99 rfl) (by decide) ?_
      refine xr_iushr (xd dX7_mix 100 rfl) ?_
      refine xr_ixor (xd dX7_mix 101 rfl) ?_
      refine xr_topi (fun x4 e_x4 => ?_)
      refine xr_istore [(0, .ref 6), (1, .ref B), (2, .int (nI at_)), (3, .int (nI (16 + k))), (4, .int x1), (5, .int x2), (6, .int x3), (7, .int x4)] (xd dX7_mix 102 rfl) (by decide) rfl ?_
      refine xr_aload_n (xd dX7_mix 103 rfl) 0 rfl ?_
      refine xr_getR (b := 10) 7 3 (xd dX7_mix 104 rfl) f7_21 (by decide) (by decide) (by omega) kd_6 rfl (r_6_3 hR) ?_
      refine xr_iload_n (xd dX7_mix 105 rfl) 3 rfl ?_
      refine xr_aload_n (xd dX7_mix 106 rfl) 0 rfl ?_
      refine xr_getR (b := 10) 7 3 (xd dX7_mix 107 rfl) f7_21 (by decide) (by decide) (by omega) kd_6 rfl (r_6_3 hR) ?_
      refine xr_iload_n (xd dX7_mix 108 rfl) 3 rfl ?_
      refine xr_bipush (v := nI 16) (xd dX7_mix 109 rfl) (by decide) ?_
      refine xr_isub (xd dX7_mix 110 rfl) ?_
      refine xr_eqi (nI k) (by rw [pk_sub (by omega)]; first | rfl | (congr 1; omega)) ?_
      obtain ⟨x5, e_x5⟩ : ∃ z : Int32, z = I 10 k := ⟨_, rfl⟩
      refine xr_ialoadN (x := x5) (xd dX7_mix 111 rfl) (by omega) kd_10 ln_10 (by omega) (by omega) e_x5.symm ?_
      refine xr_iload (xd dX7_mix 112 rfl) 6 rfl ?_
      refine xr_iadd (xd dX7_mix 113 rfl) ?_
      refine xr_aload_n (xd dX7_mix 114 rfl) 0 rfl ?_
      refine xr_getR (b := 10) 7 3 (xd dX7_mix 115 rfl) f7_21 (by decide) (by decide) (by omega) kd_6 rfl (r_6_3 hR) ?_
      refine xr_iload_n (xd dX7_mix 116 rfl) 3 rfl ?_
      refine xr_bipush (v := nI 7) (xd dX7_mix 117 rfl) (by decide) ?_
      refine xr_isub (xd dX7_mix 118 rfl) ?_
      refine xr_eqi (nI (k + 9)) (by rw [pk_sub (by omega)]; first | rfl | (congr 1; omega)) ?_
      obtain ⟨x6, e_x6⟩ : ∃ z : Int32, z = I 10 (k + 9) := ⟨_, rfl⟩
      refine xr_ialoadN (x := x6) (xd dX7_mix 119 rfl) (by omega) kd_10 ln_10 (by omega) (by omega) e_x6.symm ?_
      refine xr_iadd (xd dX7_mix 120 rfl) ?_
      refine xr_iload (xd dX7_mix 121 rfl) 7 rfl ?_
      refine xr_iadd (xd dX7_mix 122 rfl) ?_
      obtain ⟨I7, e_I7⟩ : ∃ z : Nat → Nat → Int32, z = xu I 10 (16 + k) (((x5 + x3) + x6) + x4) := ⟨_, rfl⟩
      refine xr_iastoreN (I' := I7) e_I7 (xd dX7_mix 123 rfl) (by omega) kd_10 ln_10 (by omega) (by omega) ?_
      refine xr_iinc (v := nI ((16 + k) + 1)) [(0, .ref 6), (1, .ref B), (2, .int (nI at_)), (3, .int (nI ((16 + k) + 1))), (4, .int x1), (5, .int x2), (6, .int x3), (7, .int x4)] (xd dX7_mix 124 rfl) 3 rfl (nI_inc _) (by decide) rfl ?_
      refine xr_goto 64 (xd dX7_mix 125 rfl) (by decide) ?_
      refine xJ.pick [0, 1, 2, 3] rfl ?_
      have hF : xFr [10] [] I I7 := by rw [e_I7]; exact xFr.u (Or.inl (by simp))
      refine ih (k + 1) I7 (by omega) (fun j hj => ?_) (fun I' hF' h' => hx I' (hF.tr hF') h')
      by_cases hjt : j = 16 + k
      · subst hjt
        rw [e_I7, xu_s]
        show _ = (if 16 + k = 16 + k then _ else _)
        rw [if_pos rfl, ← hI k (by omega), ← hI (k + 1) (by omega), ← hI (k + 9) (by omega), ← hI (k + 14) (by omega), e_x3, e_x4, e_x5, e_x6, e_x1, e_x2]
        rfl
      · rw [e_I7, xu_n I _ (Or.inr hjt), hI j (by omega)]
        exact (hW_lo f k j (by omega)).symm
set_option maxHeartbeats 4000000 in
set_option maxRecDepth 100000 in
theorem mix_l3 {b : Nat} {dC : Nat → ClassId} {dI : Nat → Nat → Nat} {cA : Nat → ClassId} {ts : Nat → Nat} {l : Launch} {al : Bool} {n : Nat} {R : Nat → Nat → Option Nat} {L : Nat → Nat → Int64} (hn : 491 ≤ n) (hR : xRk R) {B NB at_ : Nat} (hB : B < 491 ∧ B ≠ 9 ∧ B ≠ 10) (hkB : kd0 B = 13) (hlB : ln0 B = NB) (hNB : NB < 100000) (hat : at_ + 64 ≤ NB) {Qv : Option Value → xM → Prop} {Qx : String → xM → Prop} {w : Nat → Int32} {q : h8} {I : Nat → Nat → Int32} (hw : ∀ j, j < 64 → I 10 j = w j) (hx : ∀ a1 a2 a3 a4 a5 a6 a7 a8 : Int32, (a1, a2, a3, a4, a5, a6, a7, a8) = hrs w q 64 → xJ (xGm b dC dI cA ts) l mX7_mix 0 0 Qv Qx 0 0 429 [(0, .ref 6), (1, .ref B), (2, .int (nI at_)), (3, .int a1), (4, .int a2), (5, .int a3), (6, .int a4), (7, .int a5), (8, .int a6), (9, .int a7), (10, .int a8), (11, .int (nI 64))] [] al n R I L) : ∀ (r t : Nat) (a1 a2 a3 a4 a5 a6 a7 a8 : Int32), t + r = 64 → (a1, a2, a3, a4, a5, a6, a7, a8) = hrs w q t → xJ (xGm b dC dI cA ts) l mX7_mix 0 0 Qv Qx 0 0 257 [(0, .ref 6), (1, .ref B), (2, .int (nI at_)), (3, .int a1), (4, .int a2), (5, .int a3), (6, .int a4), (7, .int a5), (8, .int a6), (9, .int a7), (10, .int a8), (11, .int (nI t))] [] al n R I L := by
  intro r
  induction r with
  | zero =>
    intro t a1 a2 a3 a4 a5 a6 a7 a8 ht hq
    refine xr_iload (xd dX7_mix 168 rfl) 11 rfl ?_
    refine xr_bipush (v := nI 64) (xd dX7_mix 169 rfl) (by decide) ?_
    refine xr_icmpN_ge 429 (xd dX7_mix 170 rfl) (by decide) (by omega) (by omega) (fun c261 => ?_) (fun c261 => ?_)
    · skip
      have h64 : t = 64 := by omega
      subst h64
      exact hx a1 a2 a3 a4 a5 a6 a7 a8 hq
    · skip
      exact absurd c261 (by omega)
  | succ r ih =>
    intro t a1 a2 a3 a4 a5 a6 a7 a8 ht hq
    refine xr_iload (xd dX7_mix 168 rfl) 11 rfl ?_
    refine xr_bipush (v := nI 64) (xd dX7_mix 169 rfl) (by decide) ?_
    refine xr_icmpN_ge 429 (xd dX7_mix 170 rfl) (by decide) (by omega) (by omega) (fun c261 => ?_) (fun c261 => ?_)
    · skip
      exact absurd c261 (by omega)
    · skip
      refine xr_iload (xd dX7_mix 171 rfl) 7 rfl ?_
      refine xr_bipush (v := nI 6) (xd dX7_mix 172 rfl) (by decide) ?_
      refine xr_iushr (xd dX7_mix 173 rfl) ?_
      refine xr_iload (xd dX7_mix 174 rfl) 7 rfl ?_
      refine xr_bipush (v := nI 26) (xd dX7_mix 175 rfl) (by decide) ?_
      refine xr_ishl (xd dX7_mix 176 rfl) ?_
      refine xr_ior (xd dX7_mix 177 rfl) ?_
      refine xr_iload (xd dX7_mix 178 rfl) 7 rfl ?_
      refine xr_bipush (v := nI 11) (xd dX7_mix 179 rfl) (by decide) ?_
      refine xr_iushr (xd dX7_mix 180 rfl) ?_
      refine xr_iload (xd dX7_mix 181 rfl) 7 rfl ?_
      refine xr_bipush (v := nI 21) (xd dX7_mix 182 rfl) (by decide) ?_
      refine xr_ishl (xd dX7_mix 183 rfl) ?_
      refine xr_ior (xd dX7_mix 184 rfl) ?_
      refine xr_ixor (xd dX7_mix 185 rfl) ?_
      refine xr_iload (xd dX7_mix 186 rfl) 7 rfl ?_
      refine xr_bipush (v := nI 25) (xd dX7_mix 187 rfl) (by decide) ?_
      refine xr_iushr (xd dX7_mix 188 rfl) ?_
      refine xr_iload (xd dX7_mix 189 rfl) 7 rfl ?_
      refine xr_bipush (v := nI 7) (xd dX7_mix 190 rfl) (by decide) ?_
      refine xr_ishl (xd dX7_mix 191 rfl) ?_
      refine xr_ior (xd dX7_mix 192 rfl) ?_
      refine xr_ixor (xd dX7_mix 193 rfl) ?_
      refine xr_topi (fun x1 e_x1 => ?_)
      refine xr_istore [(0, .ref 6), (1, .ref B), (2, .int (nI at_)), (3, .int a1), (4, .int a2), (5, .int a3), (6, .int a4), (7, .int a5), (8, .int a6), (9, .int a7), (10, .int a8), (11, .int (nI t)), (12, .int x1)] (xd dX7_mix 194 rfl) (by decide) rfl ?_
      refine xr_iload_n (xd dX7_mix 195 rfl) 3 rfl ?_
      refine xr_iconst (v := nI 2) (xd dX7_mix 196 rfl) (by decide) ?_
      refine xr_iushr (xd dX7_mix 197 rfl) ?_
      refine xr_iload_n (xd dX7_mix 198 rfl) 3 rfl ?_
      refine xr_bipush (v := nI 30) (xd dX7_mix 199 rfl) (by decide) ?_
      refine xr_ishl (xd dX7_mix 200 rfl) ?_
      refine xr_ior (xd dX7_mix 201 rfl) ?_
      refine xr_iload_n (xd dX7_mix 202 rfl) 3 rfl ?_
      refine xr_bipush (v := nI 13) (xd dX7_mix 203 rfl) (by decide) ?_
      refine xr_iushr (xd dX7_mix 204 rfl) ?_
      refine xr_iload_n (xd dX7_mix 205 rfl) 3 rfl ?_
      refine xr_bipush (v := nI 19) (xd dX7_mix 206 rfl) (by decide) ?_
      refine xr_ishl (xd dX7_mix 207 rfl) ?_
      refine xr_ior (xd dX7_mix 208 rfl) ?_
      refine xr_ixor (xd dX7_mix 209 rfl) ?_
      refine xr_iload_n (xd dX7_mix 210 rfl) 3 rfl ?_
      refine xr_bipush (v := nI 22) (xd dX7_mix 211 rfl) (by decide) ?_
      refine xr_iushr (xd dX7_mix 212 rfl) ?_
      refine xr_iload_n (xd dX7_mix 213 rfl) 3 rfl ?_
      refine xr_bipush (v := nI 10) (xd dX7_mix 214 rfl) (by decide) ?_
      refine xr_ishl (xd dX7_mix 215 rfl) ?_
      refine xr_ior (xd dX7_mix 216 rfl) ?_
      refine xr_ixor (xd dX7_mix 217 rfl) ?_
      refine xr_topi (fun x2 e_x2 => ?_)
      refine xr_istore [(0, .ref 6), (1, .ref B), (2, .int (nI at_)), (3, .int a1), (4, .int a2), (5, .int a3), (6, .int a4), (7, .int a5), (8, .int a6), (9, .int a7), (10, .int a8), (11, .int (nI t)), (12, .int x1), (13, .int x2)] (xd dX7_mix 218 rfl) (by decide) rfl ?_
      refine xr_iload (xd dX7_mix 219 rfl) 10 rfl ?_
      refine xr_iload (xd dX7_mix 220 rfl) 12 rfl ?_
      refine xr_iadd (xd dX7_mix 221 rfl) ?_
      refine xr_iload (xd dX7_mix 222 rfl) 7 rfl ?_
      refine xr_iload (xd dX7_mix 223 rfl) 8 rfl ?_
      refine xr_iand (xd dX7_mix 224 rfl) ?_
      refine xr_iload (xd dX7_mix 225 rfl) 7 rfl ?_
      refine xr_iconst (v := (-1)) (xd dX7_mix 226 rfl) (by decide) ?_
      refine xr_ixor (xd dX7_mix 227 rfl) ?_
      refine xr_iload (xd dX7_mix 228 rfl) 9 rfl ?_
      refine xr_iand (xd dX7_mix 229 rfl) ?_
      refine xr_ixor (xd dX7_mix 230 rfl) ?_
      refine xr_iadd (xd dX7_mix 231 rfl) ?_
      refine xr_gets1 (xd dX7_mix 232 rfl) n7_69 ?_
      refine xr_iload (xd dX7_mix 233 rfl) 11 rfl ?_
      obtain ⟨x3, e_x3⟩ : ∃ z : Int32, z = xK64.getD t 0 := ⟨_, rfl⟩
      refine xr_tald1 (x := x3) (xd dX7_mix 234 rfl) (vp_in_nI (by omega) (by decide)) (by rw [nI_clamp (by omega)]; exact e_x3.symm) ?_
      refine xr_iadd (xd dX7_mix 235 rfl) ?_
      refine xr_aload_n (xd dX7_mix 236 rfl) 0 rfl ?_
      refine xr_getR (b := 10) 7 3 (xd dX7_mix 237 rfl) f7_21 (by decide) (by decide) (by omega) kd_6 rfl (r_6_3 hR) ?_
      refine xr_iload (xd dX7_mix 238 rfl) 11 rfl ?_
      obtain ⟨x4, e_x4⟩ : ∃ z : Int32, z = I 10 t := ⟨_, rfl⟩
      refine xr_ialoadN (x := x4) (xd dX7_mix 239 rfl) (by omega) kd_10 ln_10 (by omega) (by omega) e_x4.symm ?_
      refine xr_iadd (xd dX7_mix 240 rfl) ?_
      refine xr_topi (fun x5 e_x5 => ?_)
      refine xr_istore [(0, .ref 6), (1, .ref B), (2, .int (nI at_)), (3, .int a1), (4, .int a2), (5, .int a3), (6, .int a4), (7, .int a5), (8, .int a6), (9, .int a7), (10, .int a8), (11, .int (nI t)), (12, .int x1), (13, .int x2), (14, .int x5)] (xd dX7_mix 241 rfl) (by decide) rfl ?_
      refine xr_iload (xd dX7_mix 242 rfl) 13 rfl ?_
      refine xr_iload_n (xd dX7_mix 243 rfl) 3 rfl ?_
      refine xr_iload (xd dX7_mix 244 rfl) 4 rfl ?_
      refine xr_iand (xd dX7_mix 245 rfl) ?_
      refine xr_iload_n (xd dX7_mix 246 rfl) 3 rfl ?_
      refine xr_iload (xd dX7_mix 247 rfl) 5 rfl ?_
      refine xr_iand (xd dX7_mix 248 rfl) ?_
      refine xr_ixor (xd dX7_mix 249 rfl) ?_
      refine xr_iload (xd dX7_mix 250 rfl) 4 rfl ?_
      refine xr_iload (xd dX7_mix 251 rfl) 5 rfl ?_
      refine xr_iand (xd dX7_mix 252 rfl) ?_
      refine xr_ixor (xd dX7_mix 253 rfl) ?_
      refine xr_iadd (xd dX7_mix 254 rfl) ?_
      refine xr_topi (fun x6 e_x6 => ?_)
      refine xr_istore [(0, .ref 6), (1, .ref B), (2, .int (nI at_)), (3, .int a1), (4, .int a2), (5, .int a3), (6, .int a4), (7, .int a5), (8, .int a6), (9, .int a7), (10, .int a8), (11, .int (nI t)), (12, .int x1), (13, .int x2), (14, .int x5), (15, .int x6)] (xd dX7_mix 255 rfl) (by decide) rfl ?_
      refine xr_iload (xd dX7_mix 256 rfl) 9 rfl ?_
      refine xr_istore [(0, .ref 6), (1, .ref B), (2, .int (nI at_)), (3, .int a1), (4, .int a2), (5, .int a3), (6, .int a4), (7, .int a5), (8, .int a6), (9, .int a7), (10, .int a7), (11, .int (nI t)), (12, .int x1), (13, .int x2), (14, .int x5), (15, .int x6)] (xd dX7_mix 257 rfl) (by decide) rfl ?_
      refine xr_iload (xd dX7_mix 258 rfl) 8 rfl ?_
      refine xr_istore [(0, .ref 6), (1, .ref B), (2, .int (nI at_)), (3, .int a1), (4, .int a2), (5, .int a3), (6, .int a4), (7, .int a5), (8, .int a6), (9, .int a6), (10, .int a7), (11, .int (nI t)), (12, .int x1), (13, .int x2), (14, .int x5), (15, .int x6)] (xd dX7_mix 259 rfl) (by decide) rfl ?_
      refine xr_iload (xd dX7_mix 260 rfl) 7 rfl ?_
      refine xr_istore [(0, .ref 6), (1, .ref B), (2, .int (nI at_)), (3, .int a1), (4, .int a2), (5, .int a3), (6, .int a4), (7, .int a5), (8, .int a5), (9, .int a6), (10, .int a7), (11, .int (nI t)), (12, .int x1), (13, .int x2), (14, .int x5), (15, .int x6)] (xd dX7_mix 261 rfl) (by decide) rfl ?_
      refine xr_iload (xd dX7_mix 262 rfl) 6 rfl ?_
      refine xr_iload (xd dX7_mix 263 rfl) 14 rfl ?_
      refine xr_iadd (xd dX7_mix 264 rfl) ?_
      refine xr_topi (fun x7 e_x7 => ?_)
      refine xr_istore [(0, .ref 6), (1, .ref B), (2, .int (nI at_)), (3, .int a1), (4, .int a2), (5, .int a3), (6, .int a4), (7, .int x7), (8, .int a5), (9, .int a6), (10, .int a7), (11, .int (nI t)), (12, .int x1), (13, .int x2), (14, .int x5), (15, .int x6)] (xd dX7_mix 265 rfl) (by decide) rfl ?_
      refine xr_iload (xd dX7_mix 266 rfl) 5 rfl ?_
      refine xr_istore [(0, .ref 6), (1, .ref B), (2, .int (nI at_)), (3, .int a1), (4, .int a2), (5, .int a3), (6, .int a3), (7, .int x7), (8, .int a5), (9, .int a6), (10, .int a7), (11, .int (nI t)), (12, .int x1), (13, .int x2), (14, .int x5), (15, .int x6)] (xd dX7_mix 267 rfl) (by decide) rfl ?_
      refine xr_iload (xd dX7_mix 268 rfl) 4 rfl ?_
      refine xr_istore [(0, .ref 6), (1, .ref B), (2, .int (nI at_)), (3, .int a1), (4, .int a2), (5, .int a2), (6, .int a3), (7, .int x7), (8, .int a5), (9, .int a6), (10, .int a7), (11, .int (nI t)), (12, .int x1), (13, .int x2), (14, .int x5), (15, .int x6)] (xd dX7_mix 269 rfl) (by decide) rfl ?_
      refine xr_iload_n (xd dX7_mix 270 rfl) 3 rfl ?_
      refine xr_istore [(0, .ref 6), (1, .ref B), (2, .int (nI at_)), (3, .int a1), (4, .int a1), (5, .int a2), (6, .int a3), (7, .int x7), (8, .int a5), (9, .int a6), (10, .int a7), (11, .int (nI t)), (12, .int x1), (13, .int x2), (14, .int x5), (15, .int x6)] (xd dX7_mix 271 rfl) (by decide) rfl ?_
      refine xr_iload (xd dX7_mix 272 rfl) 14 rfl ?_
      refine xr_iload (xd dX7_mix 273 rfl) 15 rfl ?_
      refine xr_iadd (xd dX7_mix 274 rfl) ?_
      refine xr_topi (fun x8 e_x8 => ?_)
      refine xr_istore_n [(0, .ref 6), (1, .ref B), (2, .int (nI at_)), (3, .int x8), (4, .int a1), (5, .int a2), (6, .int a3), (7, .int x7), (8, .int a5), (9, .int a6), (10, .int a7), (11, .int (nI t)), (12, .int x1), (13, .int x2), (14, .int x5), (15, .int x6)] (xd dX7_mix 275 rfl) rfl (by decide) rfl ?_
      refine xr_iinc (v := nI (t + 1)) [(0, .ref 6), (1, .ref B), (2, .int (nI at_)), (3, .int x8), (4, .int a1), (5, .int a2), (6, .int a3), (7, .int x7), (8, .int a5), (9, .int a6), (10, .int a7), (11, .int (nI (t + 1))), (12, .int x1), (13, .int x2), (14, .int x5), (15, .int x6)] (xd dX7_mix 276 rfl) 11 rfl (nI_inc _) (by decide) rfl ?_
      refine xr_goto 257 (xd dX7_mix 277 rfl) (by decide) ?_
      refine xJ.pick [0, 1, 2, 3, 4, 5, 6, 7, 8, 9, 10, 11] rfl ?_
      refine ih (t + 1) x8 a1 a2 a3 x7 a5 a6 a7 (by omega) ?_
      rw [show hrs w q (t + 1) = hrd (hrs w q t) (xK64.getD t 0) (w t) from rfl, ← hq, ← hw t (by omega)]
      subst e_x1; subst e_x2; subst e_x3; subst e_x4; subst e_x5; subst e_x6; subst e_x7; subst e_x8
      rfl
set_option maxHeartbeats 4000000 in
set_option maxRecDepth 100000 in
/-- Sha.mix(block, at): the words of the block go through; words and plan alone change -/
theorem c_mix {b : Nat} {dC : Nat → ClassId} {dI : Nat → Nat → Nat} {cA : Nat → ClassId} {ts : Nat → Nat} {l : Launch} {al : Bool} {n : Nat} {R : Nat → Nat → Option Nat} {L : Nat → Nat → Int64} (hn : 491 ≤ n) (hR : xRk R) {B NB at_ : Nat} (hB : B < 491 ∧ B ≠ 9 ∧ B ≠ 10) (hkB : kd0 B = 13) (hlB : ln0 B = NB) (hNB : NB < 100000) (hat : at_ + 64 ≤ NB) {I : Nat → Nat → Int32} : xCn (xGm b dC dI cA ts) l mX7_mix [.ref 6, .ref B, .int (nI at_)] al (n, R, I, L) 0 0 (fun v M => v = none ∧ ∃ I', M = (n, R, I', L) ∧ xFr [9, 10] [] I I' ∧ ∀ i, i < 8 → I' 9 i = hcmp (I 9) (fun j => I B (at_ + j)) i) (fun _ _ => False) := by
  refine xCn.ofJ (by decide) (Nat.le_of_ble_eq_true rfl) ?_
  show xJ _ _ _ _ _ _ _ _ _ 0 [(0, .ref 6), (1, .ref B), (2, .int (nI at_))] [] _ _ _ _ _
  refine xr_iconst (v := nI 0) (xd dX7_mix 0 rfl) (by decide) ?_
  refine xr_istore_n [(0, .ref 6), (1, .ref B), (2, .int (nI at_)), (3, .int (nI 0))] (xd dX7_mix 1 rfl) rfl (by decide) rfl ?_
  refine mix_l1 hn hR hB hkB hlB hNB hat 16 0 I (by omega) (fun j hj => absurd hj (by omega)) (fun I1 hF1 h1 => ?_)
  refine xr_bipush (v := nI 16) (xd dX7_mix 44 rfl) (by decide) ?_
  refine xr_istore_n [(0, .ref 6), (1, .ref B), (2, .int (nI at_)), (3, .int (nI 16))] (xd dX7_mix 45 rfl) rfl (by decide) rfl ?_
  refine mix_l2 hn hR hB hkB hlB hNB hat (f := fun j => I B (at_ + j)) 48 0 I1 (by omega) (fun j hj => h1 j (by omega)) (fun I2 hF2 h2 => ?_)
  have h9 : ∀ j, I2 9 j = I 9 j := fun j => ((hF1.tr hF2) 9 j (by simp) (by simp))
  refine xr_aload_n (xd dX7_mix 126 rfl) 0 rfl ?_
  refine xr_getR (b := 9) 7 2 (xd dX7_mix 127 rfl) f7_18 (by decide) (by decide) (by omega) kd_6 rfl (r_6_2 hR) ?_
  refine xr_iconst (v := nI 0) (xd dX7_mix 128 rfl) (by decide) ?_
  obtain ⟨x1, e_x1⟩ : ∃ z : Int32, z = I2 9 0 := ⟨_, rfl⟩
  refine xr_ialoadN (x := x1) (xd dX7_mix 129 rfl) (by omega) kd_9 ln_9 (by omega) (by omega) e_x1.symm ?_
  refine xr_istore_n [(0, .ref 6), (1, .ref B), (2, .int (nI at_)), (3, .int x1)] (xd dX7_mix 130 rfl) rfl (by decide) rfl ?_
  refine xr_aload_n (xd dX7_mix 131 rfl) 0 rfl ?_
  refine xr_getR (b := 9) 7 2 (xd dX7_mix 132 rfl) f7_18 (by decide) (by decide) (by omega) kd_6 rfl (r_6_2 hR) ?_
  refine xr_iconst (v := nI 1) (xd dX7_mix 133 rfl) (by decide) ?_
  obtain ⟨x2, e_x2⟩ : ∃ z : Int32, z = I2 9 1 := ⟨_, rfl⟩
  refine xr_ialoadN (x := x2) (xd dX7_mix 134 rfl) (by omega) kd_9 ln_9 (by omega) (by omega) e_x2.symm ?_
  refine xr_istore [(0, .ref 6), (1, .ref B), (2, .int (nI at_)), (3, .int x1), (4, .int x2)] (xd dX7_mix 135 rfl) (by decide) rfl ?_
  refine xr_aload_n (xd dX7_mix 136 rfl) 0 rfl ?_
  refine xr_getR (b := 9) 7 2 (xd dX7_mix 137 rfl) f7_18 (by decide) (by decide) (by omega) kd_6 rfl (r_6_2 hR) ?_
  refine xr_iconst (v := nI 2) (xd dX7_mix 138 rfl) (by decide) ?_
  obtain ⟨x3, e_x3⟩ : ∃ z : Int32, z = I2 9 2 := ⟨_, rfl⟩
  refine xr_ialoadN (x := x3) (xd dX7_mix 139 rfl) (by omega) kd_9 ln_9 (by omega) (by omega) e_x3.symm ?_
  refine xr_istore [(0, .ref 6), (1, .ref B), (2, .int (nI at_)), (3, .int x1), (4, .int x2), (5, .int x3)] (xd dX7_mix 140 rfl) (by decide) rfl ?_
  refine xr_aload_n (xd dX7_mix 141 rfl) 0 rfl ?_
  refine xr_getR (b := 9) 7 2 (xd dX7_mix 142 rfl) f7_18 (by decide) (by decide) (by omega) kd_6 rfl (r_6_2 hR) ?_
  refine xr_iconst (v := nI 3) (xd dX7_mix 143 rfl) (by decide) ?_
  obtain ⟨x4, e_x4⟩ : ∃ z : Int32, z = I2 9 3 := ⟨_, rfl⟩
  refine xr_ialoadN (x := x4) (xd dX7_mix 144 rfl) (by omega) kd_9 ln_9 (by omega) (by omega) e_x4.symm ?_
  refine xr_istore [(0, .ref 6), (1, .ref B), (2, .int (nI at_)), (3, .int x1), (4, .int x2), (5, .int x3), (6, .int x4)] (xd dX7_mix 145 rfl) (by decide) rfl ?_
  refine xr_aload_n (xd dX7_mix 146 rfl) 0 rfl ?_
  refine xr_getR (b := 9) 7 2 (xd dX7_mix 147 rfl) f7_18 (by decide) (by decide) (by omega) kd_6 rfl (r_6_2 hR) ?_
  refine xr_iconst (v := nI 4) (xd dX7_mix 148 rfl) (by decide) ?_
  obtain ⟨x5, e_x5⟩ : ∃ z : Int32, z = I2 9 4 := ⟨_, rfl⟩
  refine xr_ialoadN (x := x5) (xd dX7_mix 149 rfl) (by omega) kd_9 ln_9 (by omega) (by omega) e_x5.symm ?_
  refine xr_istore [(0, .ref 6), (1, .ref B), (2, .int (nI at_)), (3, .int x1), (4, .int x2), (5, .int x3), (6, .int x4), (7, .int x5)] (xd dX7_mix 150 rfl) (by decide) rfl ?_
  refine xr_aload_n (xd dX7_mix 151 rfl) 0 rfl ?_
  refine xr_getR (b := 9) 7 2 (xd dX7_mix 152 rfl) f7_18 (by decide) (by decide) (by omega) kd_6 rfl (r_6_2 hR) ?_
  refine xr_iconst (v := nI 5) (xd dX7_mix 153 rfl) (by decide) ?_
  obtain ⟨x6, e_x6⟩ : ∃ z : Int32, z = I2 9 5 := ⟨_, rfl⟩
  refine xr_ialoadN (x := x6) (xd dX7_mix 154 rfl) (by omega) kd_9 ln_9 (by omega) (by omega) e_x6.symm ?_
  refine xr_istore [(0, .ref 6), (1, .ref B), (2, .int (nI at_)), (3, .int x1), (4, .int x2), (5, .int x3), (6, .int x4), (7, .int x5), (8, .int x6)] (xd dX7_mix 155 rfl) (by decide) rfl ?_
  refine xr_aload_n (xd dX7_mix 156 rfl) 0 rfl ?_
  refine xr_getR (b := 9) 7 2 (xd dX7_mix 157 rfl) f7_18 (by decide) (by decide) (by omega) kd_6 rfl (r_6_2 hR) ?_
  refine xr_bipush (v := nI 6) (xd dX7_mix 158 rfl) (by decide) ?_
  obtain ⟨x7, e_x7⟩ : ∃ z : Int32, z = I2 9 6 := ⟨_, rfl⟩
  refine xr_ialoadN (x := x7) (xd dX7_mix 159 rfl) (by omega) kd_9 ln_9 (by omega) (by omega) e_x7.symm ?_
  refine xr_istore [(0, .ref 6), (1, .ref B), (2, .int (nI at_)), (3, .int x1), (4, .int x2), (5, .int x3), (6, .int x4), (7, .int x5), (8, .int x6), (9, .int x7)] (xd dX7_mix 160 rfl) (by decide) rfl ?_
  refine xr_aload_n (xd dX7_mix 161 rfl) 0 rfl ?_
  refine xr_getR (b := 9) 7 2 (xd dX7_mix 162 rfl) f7_18 (by decide) (by decide) (by omega) kd_6 rfl (r_6_2 hR) ?_
  refine xr_bipush (v := nI 7) (xd dX7_mix 163 rfl) (by decide) ?_
  obtain ⟨x8, e_x8⟩ : ∃ z : Int32, z = I2 9 7 := ⟨_, rfl⟩
  refine xr_ialoadN (x := x8) (xd dX7_mix 164 rfl) (by omega) kd_9 ln_9 (by omega) (by omega) e_x8.symm ?_
  refine xr_istore [(0, .ref 6), (1, .ref B), (2, .int (nI at_)), (3, .int x1), (4, .int x2), (5, .int x3), (6, .int x4), (7, .int x5), (8, .int x6), (9, .int x7), (10, .int x8)] (xd dX7_mix 165 rfl) (by decide) rfl ?_
  refine xr_iconst (v := nI 0) (xd dX7_mix 166 rfl) (by decide) ?_
  refine xr_istore [(0, .ref 6), (1, .ref B), (2, .int (nI at_)), (3, .int x1), (4, .int x2), (5, .int x3), (6, .int x4), (7, .int x5), (8, .int x6), (9, .int x7), (10, .int x8), (11, .int (nI 0))] (xd dX7_mix 167 rfl) (by decide) rfl ?_
  refine mix_l3 hn hR hB hkB hlB hNB hat (w := hW (fun j => I B (at_ + j)) 48) (q := hst (I 9)) (I := I2) h2 (fun a1 a2 a3 a4 a5 a6 a7 a8 hq => ?_) 64 0 x1 x2 x3 x4 x5 x6 x7 x8 (by omega) ?_
  rotate_left
  · subst e_x1; subst e_x2; subst e_x3; subst e_x4; subst e_x5; subst e_x6; subst e_x7; subst e_x8
    simp only [h9]
    rfl
  refine xr_aload_n (xd dX7_mix 278 rfl) 0 rfl ?_
  refine xr_getR (b := 9) 7 2 (xd dX7_mix 279 rfl) f7_18 (by decide) (by decide) (by omega) kd_6 rfl (r_6_2 hR) ?_
  refine xr_iconst (v := nI 0) (xd dX7_mix 280 rfl) (by decide) ?_
  refine xr_dup2 (xd dX7_mix 281 rfl) rfl rfl ?_
  obtain ⟨x9, e_x9⟩ : ∃ z : Int32, z = I2 9 0 := ⟨_, rfl⟩
  refine xr_ialoadN (x := x9) (xd dX7_mix 282 rfl) (by omega) kd_9 ln_9 (by omega) (by omega) e_x9.symm ?_
  refine xr_iload_n (xd dX7_mix 283 rfl) 3 rfl ?_
  refine xr_iadd (xd dX7_mix 284 rfl) ?_
  obtain ⟨I10, e_I10⟩ : ∃ z : Nat → Nat → Int32, z = xu I2 9 0 (x9 + a1) := ⟨_, rfl⟩
  refine xr_iastoreN (I' := I10) e_I10 (xd dX7_mix 285 rfl) (by omega) kd_9 ln_9 (by omega) (by omega) ?_
  refine xr_aload_n (xd dX7_mix 286 rfl) 0 rfl ?_
  refine xr_getR (b := 9) 7 2 (xd dX7_mix 287 rfl) f7_18 (by decide) (by decide) (by omega) kd_6 rfl (r_6_2 hR) ?_
  refine xr_iconst (v := nI 1) (xd dX7_mix 288 rfl) (by decide) ?_
  refine xr_dup2 (xd dX7_mix 289 rfl) rfl rfl ?_
  obtain ⟨x11, e_x11⟩ : ∃ z : Int32, z = I10 9 1 := ⟨_, rfl⟩
  refine xr_ialoadN (x := x11) (xd dX7_mix 290 rfl) (by omega) kd_9 ln_9 (by omega) (by omega) e_x11.symm ?_
  refine xr_iload (xd dX7_mix 291 rfl) 4 rfl ?_
  refine xr_iadd (xd dX7_mix 292 rfl) ?_
  obtain ⟨I12, e_I12⟩ : ∃ z : Nat → Nat → Int32, z = xu I10 9 1 (x11 + a2) := ⟨_, rfl⟩
  refine xr_iastoreN (I' := I12) e_I12 (xd dX7_mix 293 rfl) (by omega) kd_9 ln_9 (by omega) (by omega) ?_
  refine xr_aload_n (xd dX7_mix 294 rfl) 0 rfl ?_
  refine xr_getR (b := 9) 7 2 (xd dX7_mix 295 rfl) f7_18 (by decide) (by decide) (by omega) kd_6 rfl (r_6_2 hR) ?_
  refine xr_iconst (v := nI 2) (xd dX7_mix 296 rfl) (by decide) ?_
  refine xr_dup2 (xd dX7_mix 297 rfl) rfl rfl ?_
  obtain ⟨x13, e_x13⟩ : ∃ z : Int32, z = I12 9 2 := ⟨_, rfl⟩
  refine xr_ialoadN (x := x13) (xd dX7_mix 298 rfl) (by omega) kd_9 ln_9 (by omega) (by omega) e_x13.symm ?_
  refine xr_iload (xd dX7_mix 299 rfl) 5 rfl ?_
  refine xr_iadd (xd dX7_mix 300 rfl) ?_
  obtain ⟨I14, e_I14⟩ : ∃ z : Nat → Nat → Int32, z = xu I12 9 2 (x13 + a3) := ⟨_, rfl⟩
  refine xr_iastoreN (I' := I14) e_I14 (xd dX7_mix 301 rfl) (by omega) kd_9 ln_9 (by omega) (by omega) ?_
  refine xr_aload_n (xd dX7_mix 302 rfl) 0 rfl ?_
  refine xr_getR (b := 9) 7 2 (xd dX7_mix 303 rfl) f7_18 (by decide) (by decide) (by omega) kd_6 rfl (r_6_2 hR) ?_
  refine xr_iconst (v := nI 3) (xd dX7_mix 304 rfl) (by decide) ?_
  refine xr_dup2 (xd dX7_mix 305 rfl) rfl rfl ?_
  obtain ⟨x15, e_x15⟩ : ∃ z : Int32, z = I14 9 3 := ⟨_, rfl⟩
  refine xr_ialoadN (x := x15) (xd dX7_mix 306 rfl) (by omega) kd_9 ln_9 (by omega) (by omega) e_x15.symm ?_
  refine xr_iload (xd dX7_mix 307 rfl) 6 rfl ?_
  refine xr_iadd (xd dX7_mix 308 rfl) ?_
  obtain ⟨I16, e_I16⟩ : ∃ z : Nat → Nat → Int32, z = xu I14 9 3 (x15 + a4) := ⟨_, rfl⟩
  refine xr_iastoreN (I' := I16) e_I16 (xd dX7_mix 309 rfl) (by omega) kd_9 ln_9 (by omega) (by omega) ?_
  refine xr_aload_n (xd dX7_mix 310 rfl) 0 rfl ?_
  refine xr_getR (b := 9) 7 2 (xd dX7_mix 311 rfl) f7_18 (by decide) (by decide) (by omega) kd_6 rfl (r_6_2 hR) ?_
  refine xr_iconst (v := nI 4) (xd dX7_mix 312 rfl) (by decide) ?_
  refine xr_dup2 (xd dX7_mix 313 rfl) rfl rfl ?_
  obtain ⟨x17, e_x17⟩ : ∃ z : Int32, z = I16 9 4 := ⟨_, rfl⟩
  refine xr_ialoadN (x := x17) (xd dX7_mix 314 rfl) (by omega) kd_9 ln_9 (by omega) (by omega) e_x17.symm ?_
  refine xr_iload (xd dX7_mix 315 rfl) 7 rfl ?_
  refine xr_iadd (xd dX7_mix 316 rfl) ?_
  obtain ⟨I18, e_I18⟩ : ∃ z : Nat → Nat → Int32, z = xu I16 9 4 (x17 + a5) := ⟨_, rfl⟩
  refine xr_iastoreN (I' := I18) e_I18 (xd dX7_mix 317 rfl) (by omega) kd_9 ln_9 (by omega) (by omega) ?_
  refine xr_aload_n (xd dX7_mix 318 rfl) 0 rfl ?_
  refine xr_getR (b := 9) 7 2 (xd dX7_mix 319 rfl) f7_18 (by decide) (by decide) (by omega) kd_6 rfl (r_6_2 hR) ?_
  refine xr_iconst (v := nI 5) (xd dX7_mix 320 rfl) (by decide) ?_
  refine xr_dup2 (xd dX7_mix 321 rfl) rfl rfl ?_
  obtain ⟨x19, e_x19⟩ : ∃ z : Int32, z = I18 9 5 := ⟨_, rfl⟩
  refine xr_ialoadN (x := x19) (xd dX7_mix 322 rfl) (by omega) kd_9 ln_9 (by omega) (by omega) e_x19.symm ?_
  refine xr_iload (xd dX7_mix 323 rfl) 8 rfl ?_
  refine xr_iadd (xd dX7_mix 324 rfl) ?_
  obtain ⟨I20, e_I20⟩ : ∃ z : Nat → Nat → Int32, z = xu I18 9 5 (x19 + a6) := ⟨_, rfl⟩
  refine xr_iastoreN (I' := I20) e_I20 (xd dX7_mix 325 rfl) (by omega) kd_9 ln_9 (by omega) (by omega) ?_
  refine xr_aload_n (xd dX7_mix 326 rfl) 0 rfl ?_
  refine xr_getR (b := 9) 7 2 (xd dX7_mix 327 rfl) f7_18 (by decide) (by decide) (by omega) kd_6 rfl (r_6_2 hR) ?_
  refine xr_bipush (v := nI 6) (xd dX7_mix 328 rfl) (by decide) ?_
  refine xr_dup2 (xd dX7_mix 329 rfl) rfl rfl ?_
  obtain ⟨x21, e_x21⟩ : ∃ z : Int32, z = I20 9 6 := ⟨_, rfl⟩
  refine xr_ialoadN (x := x21) (xd dX7_mix 330 rfl) (by omega) kd_9 ln_9 (by omega) (by omega) e_x21.symm ?_
  refine xr_iload (xd dX7_mix 331 rfl) 9 rfl ?_
  refine xr_iadd (xd dX7_mix 332 rfl) ?_
  obtain ⟨I22, e_I22⟩ : ∃ z : Nat → Nat → Int32, z = xu I20 9 6 (x21 + a7) := ⟨_, rfl⟩
  refine xr_iastoreN (I' := I22) e_I22 (xd dX7_mix 333 rfl) (by omega) kd_9 ln_9 (by omega) (by omega) ?_
  refine xr_aload_n (xd dX7_mix 334 rfl) 0 rfl ?_
  refine xr_getR (b := 9) 7 2 (xd dX7_mix 335 rfl) f7_18 (by decide) (by decide) (by omega) kd_6 rfl (r_6_2 hR) ?_
  refine xr_bipush (v := nI 7) (xd dX7_mix 336 rfl) (by decide) ?_
  refine xr_dup2 (xd dX7_mix 337 rfl) rfl rfl ?_
  obtain ⟨x23, e_x23⟩ : ∃ z : Int32, z = I22 9 7 := ⟨_, rfl⟩
  refine xr_ialoadN (x := x23) (xd dX7_mix 338 rfl) (by omega) kd_9 ln_9 (by omega) (by omega) e_x23.symm ?_
  refine xr_iload (xd dX7_mix 339 rfl) 10 rfl ?_
  refine xr_iadd (xd dX7_mix 340 rfl) ?_
  obtain ⟨I24, e_I24⟩ : ∃ z : Nat → Nat → Int32, z = xu I22 9 7 (x23 + a8) := ⟨_, rfl⟩
  refine xr_iastoreN (I' := I24) e_I24 (xd dX7_mix 341 rfl) (by omega) kd_9 ln_9 (by omega) (by omega) ?_
  refine xr_vret (xd dX7_mix 342 rfl) rfl (Nat.zero_le _) (Nat.zero_le _) (fun _ => rfl) ?_
  refine ⟨rfl, I24, rfl, ?_, ?_⟩
  · refine xFr.tr ((hF1.tr hF2).mono (by simp) (by simp)) ?_
    rw [e_I24, e_I22, e_I20, e_I18, e_I16, e_I14, e_I12, e_I10]
    exact (((((((xFr.u (Or.inl (by simp))).tr (xFr.u (Or.inl (by simp)))).tr (xFr.u (Or.inl (by simp)))).tr (xFr.u (Or.inl (by simp)))).tr (xFr.u (Or.inl (by simp)))).tr (xFr.u (Or.inl (by simp)))).tr (xFr.u (Or.inl (by simp)))).tr (xFr.u (Or.inl (by simp)))
  · intro i hi
    have hq' : hcmp (I 9) (fun j => I B (at_ + j)) = hadd (I 9) (a1, a2, a3, a4, a5, a6, a7, a8) := by rw [hq]; rfl
    rw [hq']
    subst e_x9; subst e_x11; subst e_x13; subst e_x15; subst e_x17; subst e_x19; subst e_x21; subst e_x23
    subst e_I10 e_I12 e_I14 e_I16 e_I18 e_I20 e_I22 e_I24
    rcases (show i = 0 ∨ i = 1 ∨ i = 2 ∨ i = 3 ∨ i = 4 ∨ i = 5 ∨ i = 6 ∨ i = 7 by omega) with rfl | rfl | rfl | rfl | rfl | rfl | rfl | rfl <;> simp [xu, hadd, h9]
