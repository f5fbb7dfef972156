/-! the model's text and its hash -/
def oc (x : Int32) : Prop := x &&& 255 = x
theorem oc_and (x : Int32) : oc (x &&& 255) := by
  apply b_ext
  intro i _
  rw [b_and, b_and, b_255]
  cases bt x i <;> cases decide (i < 8) <;> rfl
theorem oc_bt {x : Int32} : oc x ↔ ∀ i, i < 32 → 8 ≤ i → bt x i = false := by
  constructor
  · intro h i hi h8
    have h1 : bt (x &&& 255) i = bt x i := by rw [h]
    rw [b_and, b_255, decide_eq_false (by omega), Bool.and_false] at h1
    exact h1.symm
  · intro h
    apply b_ext
    intro i hi
    rw [b_and, b_255]
    by_cases h8 : i < 8
    · rw [decide_eq_true h8, Bool.and_true]
    · rw [h i hi (by omega), Bool.false_and]
theorem oc_xor {x y : Int32} (hx : oc x) (hy : oc y) : oc (x ^^^ y) := by
  rw [oc_bt] at hx hy ⊢
  intro i hi h8
  rw [b_xor, hx i hi h8, hy i hi h8]
  rfl
def mK (I : Nat → Nat → Int32) : Prop := (∀ t, t < 64 → I 496 t = xK64.getD t 0) ∧ ∀ i, i < 8 → I 495 i = xF8.getD i 0
theorem mK.fr {S : List Nat} {T : List (Nat × Nat)} {I I' : Nat → Nat → Int32} (h : mK I) (hF : xFr S T I I') (h1 : 496 ∉ S) (h2 : 495 ∉ S) (hT1 : ∀ q ∈ T, q.1 ≠ 496) (hT2 : ∀ q ∈ T, q.1 ≠ 495) : mK I' := ⟨by rw [hF.row h1 hT1]; exact h.1, by rw [hF.row h2 hT2]; exact h.2⟩
def mB (fr : Nat) (I : Nat → Nat → Int32) (l : List Int32) : Prop := I 491 13 = nI (fr + l.length) ∧ oL (fun j => I 497 (fr + j)) l.length = l ∧ fr + l.length ≤ 1300
theorem mB.fr {fr : Nat} {S : List Nat} {T : List (Nat × Nat)} {I I' : Nat → Nat → Int32} {l : List Int32} (h : mB fr I l) (hF : xFr S T I I') (h1 : 491 ∉ S) (h2 : 497 ∉ S) (h3 : (491, 13) ∉ T) (hT : ∀ q ∈ T, q.1 ≠ 497) : mB fr I' l :=
  ⟨by rw [hF 491 13 h1 h3]; exact h.1, by rw [hF.row h2 hT]; exact h.2.1, h.2.2⟩
set_option maxHeartbeats 4000000 in
set_option maxRecDepth 100000 in
/-- add(x) -/
theorem c_madd {b : Nat} {dC : Nat → ClassId} {dI : Nat → Nat → Nat} {cA : Nat → ClassId} {ts : Nat → Nat} {l : Launch} {al : Bool} {n : Nat} {R : Nat → Nat → Option Nat} {L : Nat → Nat → Int64} (hn : 552 ≤ n) (hR : xRk R) {v : Int32} {fr : Nat} {q : List Int32} {I : Nat → Nat → Int32} (hB : mB fr I q) (hq : fr + q.length < 1300) : xCn (xGm b dC dI cA ts) l mX12_add [.ref 491, .int v] al (n, R, I, L) 0 0 (fun r M => r = none ∧ ∃ I' : Nat → Nat → Int32, M = (n, R, I', L) ∧ mB fr I' (q ++ [v &&& 255]) ∧ xFr [497] [(491, 13)] I I') (fun _ _ => False) := by
  refine xCn.ofJ (by decide) (Nat.le_of_ble_eq_true rfl) ?_
  show xJ _ _ _ _ _ _ _ _ _ 0 [(0, .ref 491), (1, .int v)] [] _ _ _ _ _
  refine xr_aload_n (xd dX12_add 0 rfl) 0 rfl ?_
  refine xr_getR (b := 497) 12 12 (xd dX12_add 1 rfl) f12_25 (by decide) (by decide) (by omega) kd_491 rfl (r_491_12 hR) ?_
  refine xr_aload_n (xd dX12_add 2 rfl) 0 rfl ?_
  refine xr_getI (x := nI (fr + q.length)) 12 13 (xd dX12_add 3 rfl) f12_229 (by decide) (by decide) (by omega) kd_491 rfl hB.1 ?_
  refine xr_iload_n (xd dX12_add 4 rfl) 1 rfl ?_
  refine xr_sipush (v := nI 255) (xd dX12_add 5 rfl) (by decide) ?_
  refine xr_iand (xd dX12_add 6 rfl) ?_
  obtain ⟨I1, e_I1⟩ : ∃ z_ : Nat → Nat → Int32, z_ = xu I 497 (fr + q.length) (v &&& 255) := ⟨_, rfl⟩
  refine xr_iastoreN (I' := I1) e_I1 (xd dX12_add 7 rfl) (by omega) kd_497 ln_497 (by omega) (by omega) ?_
  refine xr_aload_n (xd dX12_add 8 rfl) 0 rfl ?_
  refine xr_dup (xd dX12_add 9 rfl) rfl ?_
  refine xr_getI (x := nI (fr + q.length)) 12 13 (xd dX12_add 10 rfl) f12_229 (by decide) (by decide) (by omega) kd_491 rfl (by rw [e_I1, xu_r _ _ (by decide)]; exact hB.1) ?_
  refine xr_iconst (v := nI 1) (xd dX12_add 11 rfl) (by decide) ?_
  refine xr_iadd (xd dX12_add 12 rfl) ?_
  refine xr_eqi (nI (fr + q.length + 1)) (nI_add _ _) ?_
  obtain ⟨I2, e_I2⟩ : ∃ z_ : Nat → Nat → Int32, z_ = xu I1 491 13 (nI (fr + q.length + 1)) := ⟨_, rfl⟩
  refine xr_putI2 12 13 (I' := I2) e_I2 (xd dX12_add 13 rfl) f12_229 (by decide) (by decide) (by omega) kd_491 (Or.inl rfl) rfl rfl (fun _ => rfl) ?_
  refine xr_vret (xd dX12_add 14 rfl) rfl (Nat.zero_le _) (Nat.zero_le _) (fun _ => rfl) ?_
  refine ⟨rfl, _, rfl, ?_, ?_⟩
  · rw [e_I2, e_I1]
    refine ⟨by rw [xu_s]; simp [Nat.add_assoc], ?_, by simp; omega⟩
    rw [xu_r _ _ (by decide), xu_up, List.length_append, List.length_singleton, oL_succ]
    rw [pk_us, oL_congr (fun j hj => pk_un (by omega)), hB.2.1]
  · rw [e_I2, e_I1]
    exact (xFr.u (Or.inl (by simp))).tr (xFr.u (Or.inr (by simp)))
set_option maxHeartbeats 4000000 in
set_option maxRecDepth 100000 in
/-- beginCode() -/
theorem c_mbegin {b : Nat} {dC : Nat → ClassId} {dI : Nat → Nat → Nat} {cA : Nat → ClassId} {ts : Nat → Nat} {l : Launch} {al : Bool} {n : Nat} {R : Nat → Nat → Option Nat} {L : Nat → Nat → Int64} (hn : 552 ≤ n) (hR : xRk R)  {I : Nat → Nat → Int32} : xCn (xGm b dC dI cA ts) l mX12_beginCode [.ref 491] al (n, R, I, L) 0 0 (fun v M => v = none ∧ ∃ I' : Nat → Nat → Int32, M = (n, R, I', L) ∧ mB 64 I' [] ∧ xFr [] [(491, 13)] I I') (fun _ _ => False) := by
  refine xCn.ofJ (by decide) (Nat.le_of_ble_eq_true rfl) ?_
  show xJ _ _ _ _ _ _ _ _ _ 0 [(0, .ref 491)] [] _ _ _ _ _
  refine xr_aload_n (xd dX12_beginCode 0 rfl) 0 rfl ?_
  refine xr_bipush (v := nI 64) (xd dX12_beginCode 1 rfl) (by decide) ?_
  obtain ⟨I1, e_I1⟩ : ∃ z_ : Nat → Nat → Int32, z_ = xu I 491 13 64 := ⟨_, rfl⟩
  refine xr_putI2 12 13 (I' := I1) e_I1 (xd dX12_beginCode 2 rfl) f12_229 (by decide) (by decide) (by omega) kd_491 (Or.inl rfl) rfl rfl (fun _ => rfl) ?_
  refine xr_vret (xd dX12_beginCode 3 rfl) rfl (Nat.zero_le _) (Nat.zero_le _) (fun _ => rfl) ?_
  refine ⟨rfl, _, rfl, ?_, ?_⟩
  · rw [e_I1]
    exact ⟨by rw [xu_s]; rfl, rfl, by simp⟩
  · rw [e_I1]
    exact xFr.u (Or.inr (by simp))
set_option maxHeartbeats 4000000 in
set_option maxRecDepth 100000 in
theorem addOwn_l {b : Nat} {dC : Nat → ClassId} {dI : Nat → Nat → Nat} {cA : Nat → ClassId} {ts : Nat → Nat} {l : Launch} {al : Bool} {n : Nat} {R : Nat → Nat → Option Nat} {L : Nat → Nat → Int64} (hn : 552 ≤ n) (hR : xRk R) {fr p c : Nat} {q : List Int32} {I0 : Nat → Nat → Int32} (hq : fr + q.length + c ≤ 1300) (hp : p + c ≤ 2048) {Qv : Option Value → xM → Prop} {Qx : String → xM → Prop} : ∀ (k t : Nat) (I : Nat → Nat → Int32), t + k = c → (mB fr I (q ++ oL (fun j => I0 492 (p + j) &&& 255) t) ∧ xFr [497] [(491, 13)] I0 I) → (∀ I' : Nat → Nat → Int32, (mB fr I' (q ++ oL (fun j => I0 492 (p + j) &&& 255) c) ∧ xFr [497] [(491, 13)] I0 I') → xJ (xGm b dC dI cA ts) l mX12_addOwn 0 0 Qv Qx 0 0 25 [(0, .ref 491), (1, .int (nI p)), (2, .int (nI c)), (3, .int (nI c))] [] al n R I' L) → xJ (xGm b dC dI cA ts) l mX12_addOwn 0 0 Qv Qx 0 0 2 [(0, .ref 491), (1, .int (nI p)), (2, .int (nI c)), (3, .int (nI t))] [] al n R I L := by
  intro k
  induction k with
  | zero =>
    intro t I ht hI hx
    refine xr_iload_n (xd dX12_addOwn 2 rfl) 3 rfl ?_
    refine xr_iload_n (xd dX12_addOwn 3 rfl) 2 rfl ?_
    refine xr_icmpN_ge 25 (xd dX12_addOwn 4 rfl) (by decide) (by omega) (by omega) (fun c4 => ?_) (fun c4 => ?_)
    · skip
      have hz : t = c := by omega
      subst hz
      exact hx I hI
    · skip
      exact absurd c4 (by omega)
  | succ k ih =>
    intro t I ht hI hx
    refine xr_iload_n (xd dX12_addOwn 2 rfl) 3 rfl ?_
    refine xr_iload_n (xd dX12_addOwn 3 rfl) 2 rfl ?_
    refine xr_icmpN_ge 25 (xd dX12_addOwn 4 rfl) (by decide) (by omega) (by omega) (fun c4 => ?_) (fun c4 => ?_)
    · skip
      exact absurd c4 (by omega)
    · skip
      refine xr_aload_n (xd dX12_addOwn 5 rfl) 0 rfl ?_
      refine xr_aload_n (xd dX12_addOwn 6 rfl) 0 rfl ?_
      refine xr_getR (b := 492) 12 5 (xd dX12_addOwn 7 rfl) f12_7 (by decide) (by decide) (by omega) kd_491 rfl (r_491_5 hR) ?_
      refine xr_iload_n (xd dX12_addOwn 8 rfl) 1 rfl ?_
      refine xr_iload_n (xd dX12_addOwn 9 rfl) 3 rfl ?_
      refine xr_iadd (xd dX12_addOwn 10 rfl) ?_
      refine xr_eqi (nI (p + t)) (nI_add _ _) ?_
      obtain ⟨x1, e_x1⟩ : ∃ z_ : Int32, z_ = I 492 (p + t) := ⟨_, rfl⟩
      refine xr_ialoadN (x := x1) (xd dX12_addOwn 11 rfl) (by omega) kd_492 ln_492 (by omega) (by omega) e_x1.symm ?_
      refine xr_callV mX12_add 1 [.int x1] (xd dX12_addOwn 12 rfl) l12_238 kX12_add rfl (by omega) kd_491 (by decide) rfl (by decide) (Nat.le_of_ble_eq_true rfl) (c_madd hn hR (v := x1) (fr := fr) (q := q ++ oL (fun j => I0 492 (p + j) &&& 255) t) (I := I) hI.1 (by simp [oL_len]; omega)) (Nat.le_refl _) (Nat.le_refl _) (fun r_ M_ h_ => ?_) (fun _ _ h_ => h_.elim)
      obtain ⟨rfl, I2, rfl, hB_, hF_⟩ := h_
      show xJ _ _ _ _ _ _ _ _ _ 19 [(0, .ref 491), (1, .int (nI p)), (2, .int (nI c)), (3, .int (nI t))] [] _ _ _ I2 L
      refine xr_iinc (v := nI (t + 1)) [(0, .ref 491), (1, .int (nI p)), (2, .int (nI c)), (3, .int (nI (t + 1)))] (xd dX12_addOwn 13 rfl) 3 rfl (nI_inc _) (by decide) rfl ?_
      refine xr_goto 2 (xd dX12_addOwn 14 rfl) (by decide) ?_
      refine xJ.pick [0, 1, 2, 3] rfl ?_
      refine ih (t + 1) I2 (by omega) ?_ hx
      refine ⟨?_, hI.2.tr hF_⟩
      rw [e_x1, hI.2 492 _ (by simp) (by simp)] at hB_
      rw [oL_succ, ← List.append_assoc]
      exact hB_
set_option maxHeartbeats 4000000 in
set_option maxRecDepth 100000 in
/-- addOwn(at, n) -/
theorem c_addOwn {b : Nat} {dC : Nat → ClassId} {dI : Nat → Nat → Nat} {cA : Nat → ClassId} {ts : Nat → Nat} {l : Launch} {al : Bool} {n : Nat} {R : Nat → Nat → Option Nat} {L : Nat → Nat → Int64} (hn : 552 ≤ n) (hR : xRk R) {fr p c : Nat} {q : List Int32} (hq : fr + q.length + c ≤ 1300) (hp : p + c ≤ 2048) {I : Nat → Nat → Int32} (hB : mB fr I q) : xCn (xGm b dC dI cA ts) l mX12_addOwn [.ref 491, .int (nI p), .int (nI c)] al (n, R, I, L) 0 0 (fun v M => v = none ∧ ∃ I' : Nat → Nat → Int32, M = (n, R, I', L) ∧ mB fr I' (q ++ oL (fun j => I 492 (p + j) &&& 255) c) ∧ xFr [497] [(491, 13)] I I') (fun _ _ => False) := by
  refine xCn.ofJ (by decide) (Nat.le_of_ble_eq_true rfl) ?_
  show xJ _ _ _ _ _ _ _ _ _ 0 [(0, .ref 491), (1, .int (nI p)), (2, .int (nI c))] [] _ _ _ _ _
  refine xr_iconst (v := nI 0) (xd dX12_addOwn 0 rfl) (by decide) ?_
  refine xr_istore_n [(0, .ref 491), (1, .int (nI p)), (2, .int (nI c)), (3, .int (nI 0))] (xd dX12_addOwn 1 rfl) rfl (by decide) rfl ?_
  refine addOwn_l hn hR (I0 := I) (q := q) (fr := fr) hq hp c 0 I (by omega) ⟨by simpa [oL] using hB, xFr.rf⟩ (fun I1 h1 => ?_)
  refine xr_vret (xd dX12_addOwn 15 rfl) rfl (Nat.zero_le _) (Nat.zero_le _) (fun _ => rfl) ?_
  exact ⟨rfl, I1, rfl, h1.1, h1.2⟩
set_option maxHeartbeats 4000000 in
set_option maxRecDepth 100000 in
theorem addDigest_l {b : Nat} {dC : Nat → ClassId} {dI : Nat → Nat → Nat} {cA : Nat → ClassId} {ts : Nat → Nat} {l : Launch} {al : Bool} {n : Nat} {R : Nat → Nat → Option Nat} {L : Nat → Nat → Int64} (hn : 552 ≤ n) (hR : xRk R) {fr : Nat} {q : List Int32} {I0 : Nat → Nat → Int32} (hq : fr + q.length + 32 ≤ 1300) {Qv : Option Value → xM → Prop} {Qx : String → xM → Prop} : ∀ (k t : Nat) (I : Nat → Nat → Int32), t + k = 32 → (mB fr I (q ++ oL (fun j => I0 500 j &&& 255) t) ∧ xFr [497] [(491, 13)] I0 I) → (∀ I' : Nat → Nat → Int32, (mB fr I' (q ++ oL (fun j => I0 500 j &&& 255) 32) ∧ xFr [497] [(491, 13)] I0 I') → xJ (xGm b dC dI cA ts) l mX12_addDigest 0 0 Qv Qx 0 0 24 [(0, .ref 491), (1, .int (nI 32))] [] al n R I' L) → xJ (xGm b dC dI cA ts) l mX12_addDigest 0 0 Qv Qx 0 0 2 [(0, .ref 491), (1, .int (nI t))] [] al n R I L := by
  intro k
  induction k with
  | zero =>
    intro t I ht hI hx
    refine xr_iload_n (xd dX12_addDigest 2 rfl) 1 rfl ?_
    refine xr_bipush (v := nI 32) (xd dX12_addDigest 3 rfl) (by decide) ?_
    refine xr_icmpN_ge 24 (xd dX12_addDigest 4 rfl) (by decide) (by omega) (by omega) (fun c5 => ?_) (fun c5 => ?_)
    · skip
      have hz : t = 32 := by omega
      subst hz
      exact hx I hI
    · skip
      exact absurd c5 (by omega)
  | succ k ih =>
    intro t I ht hI hx
    refine xr_iload_n (xd dX12_addDigest 2 rfl) 1 rfl ?_
    refine xr_bipush (v := nI 32) (xd dX12_addDigest 3 rfl) (by decide) ?_
    refine xr_icmpN_ge 24 (xd dX12_addDigest 4 rfl) (by decide) (by omega) (by omega) (fun c5 => ?_) (fun c5 => ?_)
    · skip
      exact absurd c5 (by omega)
    · skip
      refine xr_aload_n (xd dX12_addDigest 5 rfl) 0 rfl ?_
      refine xr_aload_n (xd dX12_addDigest 6 rfl) 0 rfl ?_
      refine xr_getR (b := 500) 12 16 (xd dX12_addDigest 7 rfl) f12_34 (by decide) (by decide) (by omega) kd_491 rfl (r_491_16 hR) ?_
      refine xr_iload_n (xd dX12_addDigest 8 rfl) 1 rfl ?_
      obtain ⟨x1, e_x1⟩ : ∃ z_ : Int32, z_ = I 500 t := ⟨_, rfl⟩
      refine xr_ialoadN (x := x1) (xd dX12_addDigest 9 rfl) (by omega) kd_500 ln_500 (by omega) (by omega) e_x1.symm ?_
      refine xr_callV mX12_add 1 [.int x1] (xd dX12_addDigest 10 rfl) l12_238 kX12_add rfl (by omega) kd_491 (by decide) rfl (by decide) (Nat.le_of_ble_eq_true rfl) (c_madd hn hR (v := x1) (fr := fr) (q := q ++ oL (fun j => I0 500 j &&& 255) t) (I := I) hI.1 (by simp [oL_len]; omega)) (Nat.le_refl _) (Nat.le_refl _) (fun r_ M_ h_ => ?_) (fun _ _ h_ => h_.elim)
      obtain ⟨rfl, I2, rfl, hB_, hF_⟩ := h_
      show xJ _ _ _ _ _ _ _ _ _ 18 [(0, .ref 491), (1, .int (nI t))] [] _ _ _ I2 L
      refine xr_iinc (v := nI (t + 1)) [(0, .ref 491), (1, .int (nI (t + 1)))] (xd dX12_addDigest 11 rfl) 1 rfl (nI_inc _) (by decide) rfl ?_
      refine xr_goto 2 (xd dX12_addDigest 12 rfl) (by decide) ?_
      refine xJ.pick [0, 1] rfl ?_
      refine ih (t + 1) I2 (by omega) ?_ hx
      refine ⟨?_, hI.2.tr hF_⟩
      rw [e_x1, hI.2 500 _ (by simp) (by simp)] at hB_
      rw [oL_succ, ← List.append_assoc]
      exact hB_
set_option maxHeartbeats 4000000 in
set_option maxRecDepth 100000 in
/-- addDigest() -/
theorem c_addDigest {b : Nat} {dC : Nat → ClassId} {dI : Nat → Nat → Nat} {cA : Nat → ClassId} {ts : Nat → Nat} {l : Launch} {al : Bool} {n : Nat} {R : Nat → Nat → Option Nat} {L : Nat → Nat → Int64} (hn : 552 ≤ n) (hR : xRk R) {fr : Nat} {q : List Int32} (hq : fr + q.length + 32 ≤ 1300) {I : Nat → Nat → Int32} (hB : mB fr I q) : xCn (xGm b dC dI cA ts) l mX12_addDigest [.ref 491] al (n, R, I, L) 0 0 (fun v M => v = none ∧ ∃ I' : Nat → Nat → Int32, M = (n, R, I', L) ∧ mB fr I' (q ++ oL (fun j => I 500 j &&& 255) 32) ∧ xFr [497] [(491, 13)] I I') (fun _ _ => False) := by
  refine xCn.ofJ (by decide) (Nat.le_of_ble_eq_true rfl) ?_
  show xJ _ _ _ _ _ _ _ _ _ 0 [(0, .ref 491)] [] _ _ _ _ _
  refine xr_iconst (v := nI 0) (xd dX12_addDigest 0 rfl) (by decide) ?_
  refine xr_istore_n [(0, .ref 491), (1, .int (nI 0))] (xd dX12_addDigest 1 rfl) rfl (by decide) rfl ?_
  refine addDigest_l hn hR (I0 := I) (q := q) (fr := fr) hq 32 0 I (by omega) ⟨by simpa [oL] using hB, xFr.rf⟩ (fun I1 h1 => ?_)
  refine xr_vret (xd dX12_addDigest 13 rfl) rfl (Nat.zero_le _) (Nat.zero_le _) (fun _ => rfl) ?_
  exact ⟨rfl, I1, rfl, h1.1, h1.2⟩
set_option maxHeartbeats 4000000 in
set_option maxRecDepth 100000 in
theorem keyOwn_l {b : Nat} {dC : Nat → ClassId} {dI : Nat → Nat → Nat} {cA : Nat → ClassId} {ts : Nat → Nat} {l : Launch} {al : Bool} {n : Nat} {R : Nat → Nat → Option Nat} {L : Nat → Nat → Int64} (hn : 552 ≤ n) (hR : xRk R) {p c : Nat} {I0 : Nat → Nat → Int32} (hp : p + c ≤ 2048) {Qv : Option Value → xM → Prop} {Qx : String → xM → Prop} : ∀ (k t : Nat) (I : Nat → Nat → Int32), t + k = 64 → (xFr [501] [] I0 I ∧ ∀ j, j < t → I 501 j = if j < c then I0 492 (p + j) else 0) → (∀ I' : Nat → Nat → Int32, (xFr [501] [] I0 I' ∧ ∀ j, j < 64 → I' 501 j = if j < c then I0 492 (p + j) else 0) → xJ (xGm b dC dI cA ts) l mX12_keyOwn 0 0 Qv Qx 0 0 37 [(0, .ref 491), (1, .int (nI p)), (2, .int (nI c)), (3, .int (nI 64))] [] al n R I' L) → xJ (xGm b dC dI cA ts) l mX12_keyOwn 0 0 Qv Qx 0 0 2 [(0, .ref 491), (1, .int (nI p)), (2, .int (nI c)), (3, .int (nI t))] [] al n R I L := by
  intro k
  induction k with
  | zero =>
    intro t I ht hI hx
    refine xr_iload_n (xd dX12_keyOwn 2 rfl) 3 rfl ?_
    refine xr_bipush (v := nI 64) (xd dX12_keyOwn 3 rfl) (by decide) ?_
    refine xr_icmpN_ge 37 (xd dX12_keyOwn 4 rfl) (by decide) (by omega) (by omega) (fun c5 => ?_) (fun c5 => ?_)
    · skip
      have hz : t = 64 := by omega
      subst hz
      exact hx I hI
    · skip
      exact absurd c5 (by omega)
  | succ k ih =>
    intro t I ht hI hx
    refine xr_iload_n (xd dX12_keyOwn 2 rfl) 3 rfl ?_
    refine xr_bipush (v := nI 64) (xd dX12_keyOwn 3 rfl) (by decide) ?_
    refine xr_icmpN_ge 37 (xd dX12_keyOwn 4 rfl) (by decide) (by omega) (by omega) (fun c5 => ?_) (fun c5 => ?_)
    · skip
      exact absurd c5 (by omega)
    · skip
      refine xr_aload_n (xd dX12_keyOwn 5 rfl) 0 rfl ?_
      refine xr_getR (b := 501) 12 17 (xd dX12_keyOwn 6 rfl) f12_37 (by decide) (by decide) (by omega) kd_491 rfl (r_491_17 hR) ?_
      refine xr_iload_n (xd dX12_keyOwn 7 rfl) 3 rfl ?_
      refine xr_iload_n (xd dX12_keyOwn 8 rfl) 3 rfl ?_
      refine xr_iload_n (xd dX12_keyOwn 9 rfl) 2 rfl ?_
      refine xr_icmpN_ge 29 (xd dX12_keyOwn 10 rfl) (by decide) (by omega) (by omega) (fun c15 => ?_) (fun c15 => ?_)
      · skip
        refine xr_iconst (v := nI 0) (xd dX12_keyOwn 18 rfl) (by decide) ?_
        obtain ⟨I1, e_I1⟩ : ∃ z_ : Nat → Nat → Int32, z_ = xu I 501 t 0 := ⟨_, rfl⟩
        refine xr_iastoreN (I' := I1) e_I1 (xd dX12_keyOwn 19 rfl) (by omega) kd_501 ln_501 (by omega) (by omega) ?_
        refine xr_iinc (v := nI (t + 1)) [(0, .ref 491), (1, .int (nI p)), (2, .int (nI c)), (3, .int (nI (t + 1)))] (xd dX12_keyOwn 20 rfl) 3 rfl (nI_inc _) (by decide) rfl ?_
        refine xr_goto 2 (xd dX12_keyOwn 21 rfl) (by decide) ?_
        refine xJ.pick [0, 1, 2, 3] rfl ?_
        refine ih (t + 1) I1 (by omega) ?_ hx
        obtain ⟨q1, q2⟩ := hI
        have hF : xFr [501] [] I I1 := by rw [e_I1]; exact xFr.u (Or.inl (by simp))
        refine ⟨q1.tr hF, fun j hj => ?_⟩
        by_cases hjt : j = t
        · subst hjt
          rw [e_I1, xu_s]
          rw [if_neg (by omega)]
        · rw [e_I1, xu_n I _ (Or.inr hjt)]
          exact q2 j (by omega)
      · skip
        refine xr_aload_n (xd dX12_keyOwn 11 rfl) 0 rfl ?_
        refine xr_getR (b := 492) 12 5 (xd dX12_keyOwn 12 rfl) f12_7 (by decide) (by decide) (by omega) kd_491 rfl (r_491_5 hR) ?_
        refine xr_iload_n (xd dX12_keyOwn 13 rfl) 1 rfl ?_
        refine xr_iload_n (xd dX12_keyOwn 14 rfl) 3 rfl ?_
        refine xr_iadd (xd dX12_keyOwn 15 rfl) ?_
        refine xr_eqi (nI (p + t)) (nI_add _ _) ?_
        obtain ⟨xk, e_xk⟩ : ∃ z_ : Int32, z_ = I 492 (p + t) := ⟨_, rfl⟩
        refine xr_ialoadN (x := xk) (xd dX12_keyOwn 16 rfl) (by omega) kd_492 ln_492 (by omega) (by omega) e_xk.symm ?_
        refine xr_goto 30 (xd dX12_keyOwn 17 rfl) (by decide) ?_
        obtain ⟨I2, e_I2⟩ : ∃ z_ : Nat → Nat → Int32, z_ = xu I 501 t xk := ⟨_, rfl⟩
        refine xr_iastoreN (I' := I2) e_I2 (xd dX12_keyOwn 19 rfl) (by omega) kd_501 ln_501 (by omega) (by omega) ?_
        refine xr_iinc (v := nI (t + 1)) [(0, .ref 491), (1, .int (nI p)), (2, .int (nI c)), (3, .int (nI (t + 1)))] (xd dX12_keyOwn 20 rfl) 3 rfl (nI_inc _) (by decide) rfl ?_
        refine xr_goto 2 (xd dX12_keyOwn 21 rfl) (by decide) ?_
        refine xJ.pick [0, 1, 2, 3] rfl ?_
        refine ih (t + 1) I2 (by omega) ?_ hx
        obtain ⟨q1, q2⟩ := hI
        have hF : xFr [501] [] I I2 := by rw [e_I2]; exact xFr.u (Or.inl (by simp))
        refine ⟨q1.tr hF, fun j hj => ?_⟩
        by_cases hjt : j = t
        · subst hjt
          rw [e_I2, xu_s]
          rw [if_pos c15, e_xk, q1 492 _ (by simp) (by simp)]
        · rw [e_I2, xu_n I _ (Or.inr hjt)]
          exact q2 j (by omega)
set_option maxHeartbeats 4000000 in
set_option maxRecDepth 100000 in
/-- keyOwn(at, n) -/
theorem c_keyOwn {b : Nat} {dC : Nat → ClassId} {dI : Nat → Nat → Nat} {cA : Nat → ClassId} {ts : Nat → Nat} {l : Launch} {al : Bool} {n : Nat} {R : Nat → Nat → Option Nat} {L : Nat → Nat → Int64} (hn : 552 ≤ n) (hR : xRk R) {p c : Nat} (hp : p + c ≤ 2048) {I : Nat → Nat → Int32} : xCn (xGm b dC dI cA ts) l mX12_keyOwn [.ref 491, .int (nI p), .int (nI c)] al (n, R, I, L) 0 0 (fun v M => v = none ∧ ∃ I' : Nat → Nat → Int32, M = (n, R, I', L) ∧ xFr [501] [] I I' ∧ ∀ j, j < 64 → I' 501 j = if j < c then I 492 (p + j) else 0) (fun _ _ => False) := by
  refine xCn.ofJ (by decide) (Nat.le_of_ble_eq_true rfl) ?_
  show xJ _ _ _ _ _ _ _ _ _ 0 [(0, .ref 491), (1, .int (nI p)), (2, .int (nI c))] [] _ _ _ _ _
  refine xr_iconst (v := nI 0) (xd dX12_keyOwn 0 rfl) (by decide) ?_
  refine xr_istore_n [(0, .ref 491), (1, .int (nI p)), (2, .int (nI c)), (3, .int (nI 0))] (xd dX12_keyOwn 1 rfl) rfl (by decide) rfl ?_
  refine keyOwn_l hn hR (I0 := I) (p := p) (c := c) hp 64 0 I (by omega) ⟨xFr.rf, fun j hj => absurd hj (by omega)⟩ (fun I1 h1 => ?_)
  refine xr_vret (xd dX12_keyOwn 22 rfl) rfl (Nat.zero_le _) (Nat.zero_le _) (fun _ => rfl) ?_
  exact ⟨rfl, I1, rfl, h1.1, h1.2⟩
set_option maxHeartbeats 4000000 in
set_option maxRecDepth 100000 in
theorem keyDigest_l {b : Nat} {dC : Nat → ClassId} {dI : Nat → Nat → Nat} {cA : Nat → ClassId} {ts : Nat → Nat} {l : Launch} {al : Bool} {n : Nat} {R : Nat → Nat → Option Nat} {L : Nat → Nat → Int64} (hn : 552 ≤ n) (hR : xRk R) {I0 : Nat → Nat → Int32} {Qv : Option Value → xM → Prop} {Qx : String → xM → Prop} : ∀ (k t : Nat) (I : Nat → Nat → Int32), t + k = 64 → (xFr [501] [] I0 I ∧ ∀ j, j < t → I 501 j = if j < 32 then I0 500 j else 0) → (∀ I' : Nat → Nat → Int32, (xFr [501] [] I0 I' ∧ ∀ j, j < 64 → I' 501 j = if j < 32 then I0 500 j else 0) → xJ (xGm b dC dI cA ts) l mX12_keyDigest 0 0 Qv Qx 0 0 36 [(0, .ref 491), (1, .int (nI 64))] [] al n R I' L) → xJ (xGm b dC dI cA ts) l mX12_keyDigest 0 0 Qv Qx 0 0 2 [(0, .ref 491), (1, .int (nI t))] [] al n R I L := by
  intro k
  induction k with
  | zero =>
    intro t I ht hI hx
    refine xr_iload_n (xd dX12_keyDigest 2 rfl) 1 rfl ?_
    refine xr_bipush (v := nI 64) (xd dX12_keyDigest 3 rfl) (by decide) ?_
    refine xr_icmpN_ge 36 (xd dX12_keyDigest 4 rfl) (by decide) (by omega) (by omega) (fun c5 => ?_) (fun c5 => ?_)
    · skip
      have hz : t = 64 := by omega
      subst hz
      exact hx I hI
    · skip
      exact absurd c5 (by omega)
  | succ k ih =>
    intro t I ht hI hx
    refine xr_iload_n (xd dX12_keyDigest 2 rfl) 1 rfl ?_
    refine xr_bipush (v := nI 64) (xd dX12_keyDigest 3 rfl) (by decide) ?_
    refine xr_icmpN_ge 36 (xd dX12_keyDigest 4 rfl) (by decide) (by omega) (by omega) (fun c5 => ?_) (fun c5 => ?_)
    · skip
      exact absurd c5 (by omega)
    · skip
      refine xr_aload_n (xd dX12_keyDigest 5 rfl) 0 rfl ?_
      refine xr_getR (b := 501) 12 17 (xd dX12_keyDigest 6 rfl) f12_37 (by decide) (by decide) (by omega) kd_491 rfl (r_491_17 hR) ?_
      refine xr_iload_n (xd dX12_keyDigest 7 rfl) 1 rfl ?_
      refine xr_iload_n (xd dX12_keyDigest 8 rfl) 1 rfl ?_
      refine xr_bipush (v := nI 32) (xd dX12_keyDigest 9 rfl) (by decide) ?_
      refine xr_icmpN_ge 28 (xd dX12_keyDigest 10 rfl) (by decide) (by omega) (by omega) (fun c16 => ?_) (fun c16 => ?_)
      · skip
        refine xr_iconst (v := nI 0) (xd dX12_keyDigest 16 rfl) (by decide) ?_
        obtain ⟨I1, e_I1⟩ : ∃ z_ : Nat → Nat → Int32, z_ = xu I 501 t 0 := ⟨_, rfl⟩
        refine xr_iastoreN (I' := I1) e_I1 (xd dX12_keyDigest 17 rfl) (by omega) kd_501 ln_501 (by omega) (by omega) ?_
        refine xr_iinc (v := nI (t + 1)) [(0, .ref 491), (1, .int (nI (t + 1)))] (xd dX12_keyDigest 18 rfl) 1 rfl (nI_inc _) (by decide) rfl ?_
        refine xr_goto 2 (xd dX12_keyDigest 19 rfl) (by decide) ?_
        refine xJ.pick [0, 1] rfl ?_
        refine ih (t + 1) I1 (by omega) ?_ hx
        obtain ⟨q1, q2⟩ := hI
        have hF : xFr [501] [] I I1 := by rw [e_I1]; exact xFr.u (Or.inl (by simp))
        refine ⟨q1.tr hF, fun j hj => ?_⟩
        by_cases hjt : j = t
        · subst hjt
          rw [e_I1, xu_s]
          rw [if_neg (by omega)]
        · rw [e_I1, xu_n I _ (Or.inr hjt)]
          exact q2 j (by omega)
      · skip
        refine xr_aload_n (xd dX12_keyDigest 11 rfl) 0 rfl ?_
        refine xr_getR (b := 500) 12 16 (xd dX12_keyDigest 12 rfl) f12_34 (by decide) (by decide) (by omega) kd_491 rfl (r_491_16 hR) ?_
        refine xr_iload_n (xd dX12_keyDigest 13 rfl) 1 rfl ?_
        obtain ⟨xk, e_xk⟩ : ∃ z_ : Int32, z_ = I 500 t := ⟨_, rfl⟩
        refine xr_ialoadN (x := xk) (xd dX12_keyDigest 14 rfl) (by omega) kd_500 ln_500 (by omega) (by omega) e_xk.symm ?_
        refine xr_goto 29 (xd dX12_keyDigest 15 rfl) (by decide) ?_
        obtain ⟨I2, e_I2⟩ : ∃ z_ : Nat → Nat → Int32, z_ = xu I 501 t xk := ⟨_, rfl⟩
        refine xr_iastoreN (I' := I2) e_I2 (xd dX12_keyDigest 17 rfl) (by omega) kd_501 ln_501 (by omega) (by omega) ?_
        refine xr_iinc (v := nI (t + 1)) [(0, .ref 491), (1, .int (nI (t + 1)))] (xd dX12_keyDigest 18 rfl) 1 rfl (nI_inc _) (by decide) rfl ?_
        refine xr_goto 2 (xd dX12_keyDigest 19 rfl) (by decide) ?_
        refine xJ.pick [0, 1] rfl ?_
        refine ih (t + 1) I2 (by omega) ?_ hx
        obtain ⟨q1, q2⟩ := hI
        have hF : xFr [501] [] I I2 := by rw [e_I2]; exact xFr.u (Or.inl (by simp))
        refine ⟨q1.tr hF, fun j hj => ?_⟩
        by_cases hjt : j = t
        · subst hjt
          rw [e_I2, xu_s]
          rw [if_pos c16, e_xk, q1 500 _ (by simp) (by simp)]
        · rw [e_I2, xu_n I _ (Or.inr hjt)]
          exact q2 j (by omega)
set_option maxHeartbeats 4000000 in
set_option maxRecDepth 100000 in
/-- keyDigest() -/
theorem c_keyDigest {b : Nat} {dC : Nat → ClassId} {dI : Nat → Nat → Nat} {cA : Nat → ClassId} {ts : Nat → Nat} {l : Launch} {al : Bool} {n : Nat} {R : Nat → Nat → Option Nat} {L : Nat → Nat → Int64} (hn : 552 ≤ n) (hR : xRk R)  {I : Nat → Nat → Int32} : xCn (xGm b dC dI cA ts) l mX12_keyDigest [.ref 491] al (n, R, I, L) 0 0 (fun v M => v = none ∧ ∃ I' : Nat → Nat → Int32, M = (n, R, I', L) ∧ xFr [501] [] I I' ∧ ∀ j, j < 64 → I' 501 j = if j < 32 then I 500 j else 0) (fun _ _ => False) := by
  refine xCn.ofJ (by decide) (Nat.le_of_ble_eq_true rfl) ?_
  show xJ _ _ _ _ _ _ _ _ _ 0 [(0, .ref 491)] [] _ _ _ _ _
  refine xr_iconst (v := nI 0) (xd dX12_keyDigest 0 rfl) (by decide) ?_
  refine xr_istore_n [(0, .ref 491), (1, .int (nI 0))] (xd dX12_keyDigest 1 rfl) rfl (by decide) rfl ?_
  refine keyDigest_l hn hR (I0 := I) 64 0 I (by omega) ⟨xFr.rf, fun j hj => absurd hj (by omega)⟩ (fun I1 h1 => ?_)
  refine xr_vret (xd dX12_keyDigest 20 rfl) rfl (Nat.zero_le _) (Nat.zero_le _) (fun _ => rfl) ?_
  exact ⟨rfl, I1, rfl, h1.1, h1.2⟩
set_option maxHeartbeats 4000000 in
set_option maxRecDepth 100000 in
theorem store_l {b : Nat} {dC : Nat → ClassId} {dI : Nat → Nat → Nat} {cA : Nat → ClassId} {ts : Nat → Nat} {l : Launch} {al : Bool} {n : Nat} {R : Nat → Nat → Option Nat} {L : Nat → Nat → Int64} (hn : 552 ≤ n) (hR : xRk R) {p c : Nat} {I0 : Nat → Nat → Int32} (hp : p + c ≤ 2048) (hc : c ≤ 32) {Qv : Option Value → xM → Prop} {Qx : String → xM → Prop} : ∀ (k t : Nat) (I : Nat → Nat → Int32), t + k = c → (xFr [492] [] I0 I ∧ (∀ j, j < t → I 492 (p + j) = I0 500 j) ∧ ∀ j, (j < p ∨ p + t ≤ j) → I 492 j = I0 492 j) → (∀ I' : Nat → Nat → Int32, (xFr [492] [] I0 I' ∧ (∀ j, j < c → I' 492 (p + j) = I0 500 j) ∧ ∀ j, (j < p ∨ p + c ≤ j) → I' 492 j = I0 492 j) → xJ (xGm b dC dI cA ts) l mX12_store 0 0 Qv Qx 0 0 27 [(0, .ref 491), (1, .int (nI p)), (2, .int (nI c)), (3, .int (nI c))] [] al n R I' L) → xJ (xGm b dC dI cA ts) l mX12_store 0 0 Qv Qx 0 0 2 [(0, .ref 491), (1, .int (nI p)), (2, .int (nI c)), (3, .int (nI t))] [] al n R I L := by
  intro k
  induction k with
  | zero =>
    intro t I ht hI hx
    refine xr_iload_n (xd dX12_store 2 rfl) 3 rfl ?_
    refine xr_iload_n (xd dX12_store 3 rfl) 2 rfl ?_
    refine xr_icmpN_ge 27 (xd dX12_store 4 rfl) (by decide) (by omega) (by omega) (fun c4 => ?_) (fun c4 => ?_)
    · skip
      have hz : t = c := by omega
      subst hz
      exact hx I hI
    · skip
      exact absurd c4 (by omega)
  | succ k ih =>
    intro t I ht hI hx
    refine xr_iload_n (xd dX12_store 2 rfl) 3 rfl ?_
    refine xr_iload_n (xd dX12_store 3 rfl) 2 rfl ?_
    refine xr_icmpN_ge 27 (xd dX12_store 4 rfl) (by decide) (by omega) (by omega) (fun c4 => ?_) (fun c4 => ?_)
    · skip
      exact absurd c4 (by omega)
    · skip
      refine xr_aload_n (xd dX12_store 5 rfl) 0 rfl ?_
      refine xr_getR (b := 492) 12 5 (xd dX12_store 6 rfl) f12_7 (by decide) (by decide) (by omega) kd_491 rfl (r_491_5 hR) ?_
      refine xr_iload_n (xd dX12_store 7 rfl) 1 rfl ?_
      refine xr_iload_n (xd dX12_store 8 rfl) 3 rfl ?_
      refine xr_iadd (xd dX12_store 9 rfl) ?_
      refine xr_eqi (nI (p + t)) (nI_add _ _) ?_
      refine xr_aload_n (xd dX12_store 10 rfl) 0 rfl ?_
      refine xr_getR (b := 500) 12 16 (xd dX12_store 11 rfl) f12_34 (by decide) (by decide) (by omega) kd_491 rfl (r_491_16 hR) ?_
      refine xr_iload_n (xd dX12_store 12 rfl) 3 rfl ?_
      obtain ⟨x1, e_x1⟩ : ∃ z_ : Int32, z_ = I 500 t := ⟨_, rfl⟩
      refine xr_ialoadN (x := x1) (xd dX12_store 13 rfl) (by omega) kd_500 ln_500 (by omega) (by omega) e_x1.symm ?_
      obtain ⟨I2, e_I2⟩ : ∃ z_ : Nat → Nat → Int32, z_ = xu I 492 (p + t) x1 := ⟨_, rfl⟩
      refine xr_iastoreN (I' := I2) e_I2 (xd dX12_store 14 rfl) (by omega) kd_492 ln_492 (by omega) (by omega) ?_
      refine xr_iinc (v := nI (t + 1)) [(0, .ref 491), (1, .int (nI p)), (2, .int (nI c)), (3, .int (nI (t + 1)))] (xd dX12_store 15 rfl) 3 rfl (nI_inc _) (by decide) rfl ?_
      refine xr_goto 2 (xd dX12_store 16 rfl) (by decide) ?_
      refine xJ.pick [0, 1, 2, 3] rfl ?_
      refine ih (t + 1) I2 (by omega) ?_ hx
      obtain ⟨q1, q2, q3⟩ := hI
      have hF : xFr [492] [] I I2 := by rw [e_I2]; exact xFr.u (Or.inl (by simp))
      refine ⟨q1.tr hF, fun j hj => ?_, fun j hj => ?_⟩
      · by_cases hjt : j = t
        · subst hjt
          rw [e_I2, xu_s, e_x1, q1 500 _ (by simp) (by simp)]
        · rw [e_I2, xu_n I _ (Or.inr (by omega))]
          exact q2 j (by omega)
      · rw [e_I2, xu_n I _ (Or.inr (by omega))]
        exact q3 j (by omega)
set_option maxHeartbeats 4000000 in
set_option maxRecDepth 100000 in
/-- store(at, n) -/
theorem c_store {b : Nat} {dC : Nat → ClassId} {dI : Nat → Nat → Nat} {cA : Nat → ClassId} {ts : Nat → Nat} {l : Launch} {al : Bool} {n : Nat} {R : Nat → Nat → Option Nat} {L : Nat → Nat → Int64} (hn : 552 ≤ n) (hR : xRk R) {p c : Nat} (hp : p + c ≤ 2048) (hc : c ≤ 32) {I : Nat → Nat → Int32} : xCn (xGm b dC dI cA ts) l mX12_store [.ref 491, .int (nI p), .int (nI c)] al (n, R, I, L) 0 0 (fun v M => v = none ∧ ∃ I' : Nat → Nat → Int32, M = (n, R, I', L) ∧ xFr [492] [] I I' ∧ (∀ j, j < c → I' 492 (p + j) = I 500 j) ∧ ∀ j, (j < p ∨ p + c ≤ j) → I' 492 j = I 492 j) (fun _ _ => False) := by
  refine xCn.ofJ (by decide) (Nat.le_of_ble_eq_true rfl) ?_
  show xJ _ _ _ _ _ _ _ _ _ 0 [(0, .ref 491), (1, .int (nI p)), (2, .int (nI c))] [] _ _ _ _ _
  refine xr_iconst (v := nI 0) (xd dX12_store 0 rfl) (by decide) ?_
  refine xr_istore_n [(0, .ref 491), (1, .int (nI p)), (2, .int (nI c)), (3, .int (nI 0))] (xd dX12_store 1 rfl) rfl (by decide) rfl ?_
  refine store_l hn hR (I0 := I) (p := p) (c := c) hp hc c 0 I (by omega) ⟨xFr.rf, fun j hj => absurd hj (by omega), fun _ _ => rfl⟩ (fun I1 h1 => ?_)
  refine xr_vret (xd dX12_store 17 rfl) rfl (Nat.zero_le _) (Nat.zero_le _) (fun _ => rfl) ?_
  exact ⟨rfl, I1, rfl, h1.1, h1.2.1, h1.2.2⟩
