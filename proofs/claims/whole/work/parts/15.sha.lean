set_option maxHeartbeats 4000000 in
set_option maxRecDepth 100000 in
/-- Sha.clear() -/
theorem c_clear {b : Nat} {dC : Nat → ClassId} {dI : Nat → Nat → Nat} {cA : Nat → ClassId} {ts : Nat → Nat} {l : Launch} {al : Bool} {n : Nat} {R : Nat → Nat → Option Nat} {L : Nat → Nat → Int64} (hn : 491 ≤ n) (hR : xRk R)  {I : Nat → Nat → Int32} : xCn (xGm b dC dI cA ts) l mX7_clear [.ref 6] al (n, R, I, L) 0 0 (fun v M => v = none ∧ ∃ I' : Nat → Nat → Int32, M = (n, R, I', L) ∧ I' = xu I 6 4 (nI 0)) (fun _ _ => False) := by
  refine xCn.ofJ (by decide) (Nat.le_of_ble_eq_true rfl) ?_
  show xJ _ _ _ _ _ _ _ _ _ 0 [(0, .ref 6)] [] _ _ _ _ _
  refine xr_aload_n (xd dX7_clear 0 rfl) 0 rfl ?_
  refine xr_iconst (v := nI 0) (xd dX7_clear 1 rfl) (by decide) ?_
  obtain ⟨I1, e_I1⟩ : ∃ z_ : Nat → Nat → Int32, z_ = xu I 6 4 0 := ⟨_, rfl⟩
  refine xr_putI2 7 4 (I' := I1) e_I1 (xd dX7_clear 2 rfl) f7_24 (by decide) (by decide) (by omega) kd_6 (Or.inl rfl) rfl rfl (fun _ => rfl) ?_
  refine xr_vret (xd dX7_clear 3 rfl) rfl (Nat.zero_le _) (Nat.zero_le _) (fun _ => rfl) ?_
  exact ⟨rfl, _, rfl, e_I1⟩
set_option maxHeartbeats 4000000 in
set_option maxRecDepth 100000 in
/-- Sha.put(value) -/
theorem c_put {b : Nat} {dC : Nat → ClassId} {dI : Nat → Nat → Nat} {cA : Nat → ClassId} {ts : Nat → Nat} {l : Launch} {al : Bool} {n : Nat} {R : Nat → Nat → Option Nat} {L : Nat → Nat → Int64} (hn : 491 ≤ n) (hR : xRk R) {m : Nat} {v : Int32} {I : Nat → Nat → Int32} (hm : I 6 4 = nI m) (hm2 : m < 568) : xCn (xGm b dC dI cA ts) l mX7_put [.ref 6, .int v] al (n, R, I, L) 0 0 (fun r M => r = none ∧ ∃ I' : Nat → Nat → Int32, M = (n, R, I', L) ∧ I' = xu (xu I 7 (64 + m) (v &&& 255)) 6 4 (nI (m + 1))) (fun _ _ => False) := by
  refine xCn.ofJ (by decide) (Nat.le_of_ble_eq_true rfl) ?_
  show xJ _ _ _ _ _ _ _ _ _ 0 [(0, .ref 6), (1, .int v)] [] _ _ _ _ _
  refine xr_aload_n (xd dX7_put 0 rfl) 0 rfl ?_
  refine xr_getI (x := nI m) 7 4 (xd dX7_put 1 rfl) f7_24 (by decide) (by decide) (by omega) kd_6 rfl hm ?_
  refine xr_sipush (v := nI 568) (xd dX7_put 2 rfl) (by decide) ?_
  refine xr_icmpN_ge 37 (xd dX7_put 3 rfl) (by decide) (by omega) (by omega) (fun c7 => ?_) (fun c7 => ?_)
  · skip
    exact absurd c7 (by omega)
  · skip
    refine xr_aload_n (xd dX7_put 4 rfl) 0 rfl ?_
    refine xr_getR (b := 7) 7 0 (xd dX7_put 5 rfl) f7_9 (by decide) (by decide) (by omega) kd_6 rfl (r_6_0 hR) ?_
    refine xr_bipush (v := nI 64) (xd dX7_put 6 rfl) (by decide) ?_
    refine xr_aload_n (xd dX7_put 7 rfl) 0 rfl ?_
    refine xr_getI (x := nI m) 7 4 (xd dX7_put 8 rfl) f7_24 (by decide) (by decide) (by omega) kd_6 rfl hm ?_
    refine xr_iadd (xd dX7_put 9 rfl) ?_
    refine xr_eqi (nI (64 + m)) (nI_add _ _) ?_
    refine xr_iload_n (xd dX7_put 10 rfl) 1 rfl ?_
    refine xr_sipush (v := nI 255) (xd dX7_put 11 rfl) (by decide) ?_
    refine xr_iand (xd dX7_put 12 rfl) ?_
    obtain ⟨I1, e_I1⟩ : ∃ z_ : Nat → Nat → Int32, z_ = xu I 7 (64 + m) (v &&& 255) := ⟨_, rfl⟩
    refine xr_iastoreN (I' := I1) e_I1 (xd dX7_put 13 rfl) (by omega) kd_7 ln_7 (by omega) (by omega) ?_
    refine xr_aload_n (xd dX7_put 14 rfl) 0 rfl ?_
    refine xr_dup (xd dX7_put 15 rfl) rfl ?_
    refine xr_getI (x := nI m) 7 4 (xd dX7_put 16 rfl) f7_24 (by decide) (by decide) (by omega) kd_6 rfl (by rw [e_I1]; simp [xu, hm]) ?_
    refine xr_iconst (v := nI 1) (xd dX7_put 17 rfl) (by decide) ?_
    refine xr_iadd (xd dX7_put 18 rfl) ?_
    refine xr_eqi (nI (m + 1)) (nI_add _ _) ?_
    obtain ⟨I2, e_I2⟩ : ∃ z_ : Nat → Nat → Int32, z_ = xu I1 6 4 (nI (m + 1)) := ⟨_, rfl⟩
    refine xr_putI2 7 4 (I' := I2) e_I2 (xd dX7_put 19 rfl) f7_24 (by decide) (by decide) (by omega) kd_6 (Or.inl rfl) rfl rfl (fun _ => rfl) ?_
    refine xr_vret (xd dX7_put 20 rfl) rfl (Nat.zero_le _) (Nat.zero_le _) (fun _ => rfl) ?_
    exact ⟨rfl, _, rfl, by rw [e_I2, e_I1]⟩
set_option maxHeartbeats 4000000 in
set_option maxRecDepth 100000 in
/-- Sha.putShort(value) -/
theorem c_putShort {b : Nat} {dC : Nat → ClassId} {dI : Nat → Nat → Nat} {cA : Nat → ClassId} {ts : Nat → Nat} {l : Launch} {al : Bool} {n : Nat} {R : Nat → Nat → Option Nat} {L : Nat → Nat → Int64} (hn : 491 ≤ n) (hR : xRk R) {m : Nat} {v : Int32} {I : Nat → Nat → Int32} (hm : I 6 4 = nI m) (hm2 : m < 567) : xCn (xGm b dC dI cA ts) l mX7_putShort [.ref 6, .int v] al (n, R, I, L) 0 0 (fun r M => r = none ∧ ∃ I' : Nat → Nat → Int32, M = (n, R, I', L) ∧ I' = xu (xu (xu (xu I 7 (64 + m) (us v 8 &&& 255)) 6 4 (nI (m + 1))) 7 (64 + (m + 1)) (v &&& 255)) 6 4 (nI (m + 1 + 1))) (fun _ _ => False) := by
  refine xCn.ofJ (by decide) (Nat.le_of_ble_eq_true rfl) ?_
  show xJ _ _ _ _ _ _ _ _ _ 0 [(0, .ref 6), (1, .int v)] [] _ _ _ _ _
  refine xr_aload_n (xd dX7_putShort 0 rfl) 0 rfl ?_
  refine xr_iload_n (xd dX7_putShort 1 rfl) 1 rfl ?_
  refine xr_bipush (v := nI 8) (xd dX7_putShort 2 rfl) (by decide) ?_
  refine xr_iushr (xd dX7_putShort 3 rfl) ?_
  refine xr_callV mX7_put 1 [.int (us v 8)] (xd dX7_putShort 4 rfl) l7_28 kX7_put rfl (by omega) kd_6 (by decide) rfl (by decide) (Nat.le_of_ble_eq_true rfl) (c_put hn hR (m := m) (I := I) hm (by omega)) (Nat.le_refl _) (Nat.le_refl _) (fun r_ M_ h_ => ?_) (fun _ _ h_ => h_.elim)
  obtain ⟨rfl, I1, rfl, e_I1⟩ := h_
  show xJ _ _ _ _ _ _ _ _ _ 8 [(0, .ref 6), (1, .int v)] [] _ _ _ I1 L
  refine xr_aload_n (xd dX7_putShort 5 rfl) 0 rfl ?_
  refine xr_iload_n (xd dX7_putShort 6 rfl) 1 rfl ?_
  refine xr_callV mX7_put 1 [.int v] (xd dX7_putShort 7 rfl) l7_28 kX7_put rfl (by omega) kd_6 (by decide) rfl (by decide) (Nat.le_of_ble_eq_true rfl) (c_put hn hR (m := m + 1) (I := I1) (by rw [e_I1, xu_s]) (by omega)) (Nat.le_refl _) (Nat.le_refl _) (fun r_ M_ h_ => ?_) (fun _ _ h_ => h_.elim)
  obtain ⟨rfl, I2, rfl, e_I2⟩ := h_
  show xJ _ _ _ _ _ _ _ _ _ 13 [(0, .ref 6), (1, .int v)] [] _ _ _ I2 L
  refine xr_vret (xd dX7_putShort 8 rfl) rfl (Nat.zero_le _) (Nat.zero_le _) (fun _ => rfl) ?_
  exact ⟨rfl, _, rfl, by rw [e_I2, e_I1]⟩
set_option maxHeartbeats 4000000 in
set_option maxRecDepth 100000 in
/-- Sha.putAll(from, at, count) -/
theorem c_putAll {b : Nat} {dC : Nat → ClassId} {dI : Nat → Nat → Nat} {cA : Nat → ClassId} {ts : Nat → Nat} {l : Launch} {al : Bool} {n : Nat} {R : Nat → Nat → Option Nat} {L : Nat → Nat → Int64} (hn : 491 ≤ n) (hR : xRk R) {m K NK p c : Nat} (hK : K < n) (hkK : kd0 K = 13) (hlK : ln0 K = NK) (hNK : NK < 100000) {I : Nat → Nat → Int32} (hm : I 6 4 = nI m) (hp : p + c ≤ NK) (hc : m + c ≤ 568) : xCn (xGm b dC dI cA ts) l mX7_putAll [.ref 6, .ref K, .int (nI p), .int (nI c)] al (n, R, I, L) 0 0 (fun v M => v = none ∧ ∃ I' : Nat → Nat → Int32, M = (n, R, I', L) ∧ I' = xu (va_up I 7 (va_cpy (I K) (I 7) p (64 + m) c)) 6 4 (nI (m + c))) (fun _ _ => False) := by
  refine xCn.ofJ (by decide) (Nat.le_of_ble_eq_true rfl) ?_
  show xJ _ _ _ _ _ _ _ _ _ 0 [(0, .ref 6), (1, .ref K), (2, .int (nI p)), (3, .int (nI c))] [] _ _ _ _ _
  refine xr_iload_n (xd dX7_putAll 0 rfl) 2 rfl ?_
  refine xr_ifN_lt 28 (xd dX7_putAll 1 rfl) (by decide) (by omega) ?_
  refine xr_iload_n (xd dX7_putAll 2 rfl) 3 rfl ?_
  refine xr_ifN_lt 28 (xd dX7_putAll 3 rfl) (by decide) (by omega) ?_
  refine xr_iload_n (xd dX7_putAll 4 rfl) 2 rfl ?_
  refine xr_iload_n (xd dX7_putAll 5 rfl) 3 rfl ?_
  refine xr_iadd (xd dX7_putAll 6 rfl) ?_
  refine xr_eqi (nI (p + c)) (nI_add _ _) ?_
  refine xr_aload_n (xd dX7_putAll 7 rfl) 1 rfl ?_
  refine xr_alen (v := nI NK) 0 (xd dX7_putAll 8 rfl) (by omega) (by decide) hkK (congrArg nI hlK) ?_
  refine xr_icmpN_gt 28 (xd dX7_putAll 9 rfl) (by decide) (by omega) (by omega) (fun c13 => ?_) (fun c13 => ?_)
  · skip
    exact absurd c13 (by omega)
  · skip
    refine xr_aload_n (xd dX7_putAll 10 rfl) 0 rfl ?_
    refine xr_getI (x := nI m) 7 4 (xd dX7_putAll 11 rfl) f7_24 (by decide) (by decide) (by omega) kd_6 rfl hm ?_
    refine xr_iload_n (xd dX7_putAll 12 rfl) 3 rfl ?_
    refine xr_iadd (xd dX7_putAll 13 rfl) ?_
    refine xr_eqi (nI (m + c)) (nI_add _ _) ?_
    refine xr_sipush (v := nI 568) (xd dX7_putAll 14 rfl) (by decide) ?_
    refine xr_icmpN_le 29 (xd dX7_putAll 15 rfl) (by decide) (by omega) (by omega) (fun c25 => ?_) (fun c25 => ?_)
    · skip
      refine xr_aload_n (xd dX7_putAll 17 rfl) 1 rfl ?_
      refine xr_iload_n (xd dX7_putAll 18 rfl) 2 rfl ?_
      refine xr_aload_n (xd dX7_putAll 19 rfl) 0 rfl ?_
      refine xr_getR (b := 7) 7 0 (xd dX7_putAll 20 rfl) f7_9 (by decide) (by decide) (by omega) kd_6 rfl (r_6_0 hR) ?_
      refine xr_bipush (v := nI 64) (xd dX7_putAll 21 rfl) (by decide) ?_
      refine xr_aload_n (xd dX7_putAll 22 rfl) 0 rfl ?_
      refine xr_getI (x := nI m) 7 4 (xd dX7_putAll 23 rfl) f7_24 (by decide) (by decide) (by omega) kd_6 rfl hm ?_
      refine xr_iadd (xd dX7_putAll 24 rfl) ?_
      refine xr_eqi (nI (64 + m)) (nI_add _ _) ?_
      refine xr_iload_n (xd dX7_putAll 25 rfl) 3 rfl ?_
      obtain ⟨I1, e_I1⟩ : ∃ z_ : Nat → Nat → Int32, z_ = va_up I 7 (va_cpy (I K) (I 7) p (64 + m) c) := ⟨_, rfl⟩
      refine xr_acopyN (I' := I1) e_I1 (xd dX7_putAll 26 rfl) l7_32 (by omega) hkK hlK (by omega) kd_7 ln_7 (by omega) (by omega) (by omega) ⟨by decide, Nat.le_of_ble_eq_true rfl⟩ ?_
      refine xr_aload_n (xd dX7_putAll 27 rfl) 0 rfl ?_
      refine xr_dup (xd dX7_putAll 28 rfl) rfl ?_
      refine xr_getI (x := nI m) 7 4 (xd dX7_putAll 29 rfl) f7_24 (by decide) (by decide) (by omega) kd_6 rfl (by rw [e_I1, va_up_ne I _ (by decide)]; exact hm) ?_
      refine xr_iload_n (xd dX7_putAll 30 rfl) 3 rfl ?_
      refine xr_iadd (xd dX7_putAll 31 rfl) ?_
      refine xr_eqi (nI (m + c)) (nI_add _ _) ?_
      obtain ⟨I2, e_I2⟩ : ∃ z_ : Nat → Nat → Int32, z_ = xu I1 6 4 (nI (m + c)) := ⟨_, rfl⟩
      refine xr_putI2 7 4 (I' := I2) e_I2 (xd dX7_putAll 32 rfl) f7_24 (by decide) (by decide) (by omega) kd_6 (Or.inl rfl) rfl rfl (fun _ => rfl) ?_
      refine xr_vret (xd dX7_putAll 33 rfl) rfl (Nat.zero_le _) (Nat.zero_le _) (fun _ => rfl) ?_
      exact ⟨rfl, _, rfl, by rw [e_I2, e_I1]⟩
    · skip
      exact absurd c25 (by omega)
set_option maxHeartbeats 4000000 in
set_option maxRecDepth 100000 in
theorem padKey_l {b : Nat} {dC : Nat → ClassId} {dI : Nat → Nat → Nat} {cA : Nat → ClassId} {ts : Nat → Nat} {l : Launch} {al : Bool} {n : Nat} {R : Nat → Nat → Option Nat} {L : Nat → Nat → Int64} (hn : 491 ≤ n) (hR : xRk R) {B NB K NK : Nat} {z : Int32} {I0 : Nat → Nat → Int32} (hB : B < n) (hkB : kd0 B = 13) (hlB : ln0 B = NB) (hNB : NB < 100000) (hNB2 : 64 ≤ NB) (hK : K < n) (hkK : kd0 K = 13) (hlK : ln0 K = NK) (hNK : NK < 100000) (hBK : K ≠ B) {Qv : Option Value → xM → Prop} {Qx : String → xM → Prop} : ∀ (k t : Nat) (I : Nat → Nat → Int32), t + k = 64 → (xFr [B] [] I0 I ∧ (∀ j, j < t → I B j = hky (I0 K) NK z j) ∧ ∀ j, t ≤ j → I B j = I0 B j) → (∀ I' : Nat → Nat → Int32, (xFr [B] [] I0 I' ∧ (∀ j, j < 64 → I' B j = hky (I0 K) NK z j) ∧ ∀ j, 64 ≤ j → I' B j = I0 B j) → xJ (xGm b dC dI cA ts) l mX7_padKey 0 0 Qv Qx 0 0 37 [(0, .ref 6), (1, .ref B), (2, .ref K), (3, .int z), (4, .int (nI 64))] [] al n R I' L) → xJ (xGm b dC dI cA ts) l mX7_padKey 0 0 Qv Qx 0 0 3 [(0, .ref 6), (1, .ref B), (2, .ref K), (3, .int z), (4, .int (nI t))] [] al n R I L := by
  intro k
  induction k with
  | zero =>
    intro t I ht hI hx
    refine xr_iload (xd dX7_padKey 2 rfl) 4 rfl ?_
    refine xr_bipush (v := nI 64) (xd dX7_padKey 3 rfl) (by decide) ?_
    refine xr_icmpN_ge 37 (xd dX7_padKey 4 rfl) (by decide) (by omega) (by omega) (fun c7 => ?_) (fun c7 => ?_)
    · skip
      have hz : t = 64 := by omega
      subst hz
      exact hx I hI
    · skip
      exact absurd c7 (by omega)
  | succ k ih =>
    intro t I ht hI hx
    refine xr_iload (xd dX7_padKey 2 rfl) 4 rfl ?_
    refine xr_bipush (v := nI 64) (xd dX7_padKey 3 rfl) (by decide) ?_
    refine xr_icmpN_ge 37 (xd dX7_padKey 4 rfl) (by decide) (by omega) (by omega) (fun c7 => ?_) (fun c7 => ?_)
    · skip
      exact absurd c7 (by omega)
    · skip
      refine xr_aload_n (xd dX7_padKey 5 rfl) 1 rfl ?_
      refine xr_iload (xd dX7_padKey 6 rfl) 4 rfl ?_
      refine xr_iload (xd dX7_padKey 7 rfl) 4 rfl ?_
      refine xr_aload_n (xd dX7_padKey 8 rfl) 2 rfl ?_
      refine xr_alen (v := nI NK) 0 (xd dX7_padKey 9 rfl) (by omega) (by decide) hkK (congrArg nI hlK) ?_
      refine xr_icmpN_ge 29 (xd dX7_padKey 10 rfl) (by decide) (by omega) (by omega) (fun c17 => ?_) (fun c17 => ?_)
      · skip
        refine xr_iload_n (xd dX7_padKey 17 rfl) 3 rfl ?_
        obtain ⟨I1, e_I1⟩ : ∃ z_ : Nat → Nat → Int32, z_ = xu I B t z := ⟨_, rfl⟩
        refine xr_iastoreN (I' := I1) e_I1 (xd dX7_padKey 18 rfl) (by omega) hkB hlB (by omega) (by omega) ?_
        refine xr_iinc (v := nI (t + 1)) [(0, .ref 6), (1, .ref B), (2, .ref K), (3, .int z), (4, .int (nI (t + 1)))] (xd dX7_padKey 19 rfl) 4 rfl (nI_inc _) (by decide) rfl ?_
        refine xr_goto 3 (xd dX7_padKey 20 rfl) (by decide) ?_
        refine xJ.pick [0, 1, 2, 3, 4] rfl ?_
        refine ih (t + 1) I1 (by omega) ?_ hx
        obtain ⟨q1, q2, q3⟩ := hI
        have hF : xFr [B] [] I I1 := by rw [e_I1]; exact xFr.u (Or.inl (by simp))
        refine ⟨q1.tr hF, fun j hj => ?_, fun j hj => ?_⟩
        · by_cases hjt : j = t
          · subst hjt
            rw [e_I1, xu_s]
            unfold hky
            rw [if_neg (by omega)]
          · rw [e_I1, xu_n I _ (Or.inr hjt)]
            exact q2 j (by omega)
        · rw [e_I1, xu_n I _ (Or.inr (by omega))]
          exact q3 j (by omega)
      · skip
        refine xr_aload_n (xd dX7_padKey 11 rfl) 2 rfl ?_
        refine xr_iload (xd dX7_padKey 12 rfl) 4 rfl ?_
        obtain ⟨xk, e_xk⟩ : ∃ z_ : Int32, z_ = I K t := ⟨_, rfl⟩
        refine xr_ialoadN (x := xk) (xd dX7_padKey 13 rfl) (by omega) hkK hlK (by omega) (by omega) e_xk.symm ?_
        refine xr_iload_n (xd dX7_padKey 14 rfl) 3 rfl ?_
        refine xr_ixor (xd dX7_padKey 15 rfl) ?_
        refine xr_goto 30 (xd dX7_padKey 16 rfl) (by decide) ?_
        obtain ⟨I2, e_I2⟩ : ∃ z_ : Nat → Nat → Int32, z_ = xu I B t (xk ^^^ z) := ⟨_, rfl⟩
        refine xr_iastoreN (I' := I2) e_I2 (xd dX7_padKey 18 rfl) (by omega) hkB hlB (by omega) (by omega) ?_
        refine xr_iinc (v := nI (t + 1)) [(0, .ref 6), (1, .ref B), (2, .ref K), (3, .int z), (4, .int (nI (t + 1)))] (xd dX7_padKey 19 rfl) 4 rfl (nI_inc _) (by decide) rfl ?_
        refine xr_goto 3 (xd dX7_padKey 20 rfl) (by decide) ?_
        refine xJ.pick [0, 1, 2, 3, 4] rfl ?_
        refine ih (t + 1) I2 (by omega) ?_ hx
        obtain ⟨q1, q2, q3⟩ := hI
        have hF : xFr [B] [] I I2 := by rw [e_I2]; exact xFr.u (Or.inl (by simp))
        refine ⟨q1.tr hF, fun j hj => ?_, fun j hj => ?_⟩
        · by_cases hjt : j = t
          · subst hjt
            rw [e_I2, xu_s]
            unfold hky
            rw [if_pos c17, e_xk, q1 K j (by simp; exact hBK) (by simp)]
          · rw [e_I2, xu_n I _ (Or.inr hjt)]
            exact q2 j (by omega)
        · rw [e_I2, xu_n I _ (Or.inr (by omega))]
          exact q3 j (by omega)
set_option maxHeartbeats 4000000 in
set_option maxRecDepth 100000 in
/-- Sha.padKey(block, key, mask) -/
theorem c_padKey {b : Nat} {dC : Nat → ClassId} {dI : Nat → Nat → Nat} {cA : Nat → ClassId} {ts : Nat → Nat} {l : Launch} {al : Bool} {n : Nat} {R : Nat → Nat → Option Nat} {L : Nat → Nat → Int64} (hn : 491 ≤ n) (hR : xRk R) {B NB K NK : Nat} {z : Int32} (hB : B < n) (hkB : kd0 B = 13) (hlB : ln0 B = NB) (hNB : NB < 100000) (hNB2 : 64 ≤ NB) (hK : K < n) (hkK : kd0 K = 13) (hlK : ln0 K = NK) (hNK : NK < 100000) (hBK : K ≠ B) {I : Nat → Nat → Int32} : xCn (xGm b dC dI cA ts) l mX7_padKey [.ref 6, .ref B, .ref K, .int z] al (n, R, I, L) 0 0 (fun v M => v = none ∧ ∃ I' : Nat → Nat → Int32, M = (n, R, I', L) ∧ xFr [B] [] I I' ∧ (∀ j, j < 64 → I' B j = hky (I K) NK z j) ∧ ∀ j, 64 ≤ j → I' B j = I B j) (fun _ _ => False) := by
  refine xCn.ofJ (by decide) (Nat.le_of_ble_eq_true rfl) ?_
  show xJ _ _ _ _ _ _ _ _ _ 0 [(0, .ref 6), (1, .ref B), (2, .ref K), (3, .int z)] [] _ _ _ _ _
  refine xr_iconst (v := nI 0) (xd dX7_padKey 0 rfl) (by decide) ?_
  refine xr_istore [(0, .ref 6), (1, .ref B), (2, .ref K), (3, .int z), (4, .int (nI 0))] (xd dX7_padKey 1 rfl) (by decide) rfl ?_
  refine padKey_l hn hR (I0 := I) hB hkB hlB hNB hNB2 hK hkK hlK hNK hBK 64 0 I (by omega) ⟨xFr.rf, fun j hj => absurd hj (by omega), fun _ _ => rfl⟩ (fun I1 h1 => ?_)
  refine xr_vret (xd dX7_padKey 21 rfl) rfl (Nat.zero_le _) (Nat.zero_le _) (fun _ => rfl) ?_
  exact ⟨rfl, I1, rfl, h1.1, h1.2.1, h1.2.2⟩
set_option maxHeartbeats 4000000 in
set_option maxRecDepth 100000 in
theorem startWords_l {b : Nat} {dC : Nat → ClassId} {dI : Nat → Nat → Nat} {cA : Nat → ClassId} {ts : Nat → Nat} {l : Launch} {al : Bool} {n : Nat} {R : Nat → Nat → Option Nat} {L : Nat → Nat → Int64} (hn : 491 ≤ n) (hR : xRk R) {I0 : Nat → Nat → Int32} {Qv : Option Value → xM → Prop} {Qx : String → xM → Prop} : ∀ (k t : Nat) (I : Nat → Nat → Int32), t + k = 8 → (xFr [9] [] I0 I ∧ ∀ j, j < t → I 9 j = hF8 j) → (∀ I' : Nat → Nat → Int32, (xFr [9] [] I0 I' ∧ ∀ j, j < 8 → I' 9 j = hF8 j) → xJ (xGm b dC dI cA ts) l mX7_startWords 0 0 Qv Qx 0 0 25 [(0, .ref 6), (1, .int (nI 8))] [] al n R I' L) → xJ (xGm b dC dI cA ts) l mX7_startWords 0 0 Qv Qx 0 0 2 [(0, .ref 6), (1, .int (nI t))] [] al n R I L := by
  intro k
  induction k with
  | zero =>
    intro t I ht hI hx
    refine xr_iload_n (xd dX7_startWords 2 rfl) 1 rfl ?_
    refine xr_bipush (v := nI 8) (xd dX7_startWords 3 rfl) (by decide) ?_
    refine xr_icmpN_ge 25 (xd dX7_startWords 4 rfl) (by decide) (by omega) (by omega) (fun c5 => ?_) (fun c5 => ?_)
    · skip
      have hz : t = 8 := by omega
      subst hz
      exact hx I hI
    · skip
      exact absurd c5 (by omega)
  | succ k ih =>
    intro t I ht hI hx
    refine xr_iload_n (xd dX7_startWords 2 rfl) 1 rfl ?_
    refine xr_bipush (v := nI 8) (xd dX7_startWords 3 rfl) (by decide) ?_
    refine xr_icmpN_ge 25 (xd dX7_startWords 4 rfl) (by decide) (by omega) (by omega) (fun c5 => ?_) (fun c5 => ?_)
    · skip
      exact absurd c5 (by omega)
    · skip
      refine xr_aload_n (xd dX7_startWords 5 rfl) 0 rfl ?_
      refine xr_getR (b := 9) 7 2 (xd dX7_startWords 6 rfl) f7_18 (by decide) (by decide) (by omega) kd_6 rfl (r_6_2 hR) ?_
      refine xr_iload_n (xd dX7_startWords 7 rfl) 1 rfl ?_
      refine xr_gets0 (xd dX7_startWords 8 rfl) n7_66 ?_
      refine xr_iload_n (xd dX7_startWords 9 rfl) 1 rfl ?_
      obtain ⟨x1, e_x1⟩ : ∃ z_ : Int32, z_ = xF8.getD t 0 := ⟨_, rfl⟩
      refine xr_tald0 (x := x1) (xd dX7_startWords 10 rfl) (vp_in_nI (by omega) (by decide)) (by rw [nI_clamp (by omega)]; exact e_x1.symm) ?_
      obtain ⟨I2, e_I2⟩ : ∃ z_ : Nat → Nat → Int32, z_ = xu I 9 t x1 := ⟨_, rfl⟩
      refine xr_iastoreN (I' := I2) e_I2 (xd dX7_startWords 11 rfl) (by omega) kd_9 ln_9 (by omega) (by omega) ?_
      refine xr_iinc (v := nI (t + 1)) [(0, .ref 6), (1, .int (nI (t + 1)))] (xd dX7_startWords 12 rfl) 1 rfl (nI_inc _) (by decide) rfl ?_
      refine xr_goto 2 (xd dX7_startWords 13 rfl) (by decide) ?_
      refine xJ.pick [0, 1] rfl ?_
      refine ih (t + 1) I2 (by omega) ?_ hx
      obtain ⟨q1, q2⟩ := hI
      have hF : xFr [9] [] I I2 := by rw [e_I2]; exact xFr.u (Or.inl (by simp))
      refine ⟨q1.tr hF, fun j hj => ?_⟩
      by_cases hjt : j = t
      · subst hjt
        rw [e_I2, xu_s, e_x1]
        rfl
      · rw [e_I2, xu_n I _ (Or.inr hjt)]
        exact q2 j (by omega)
set_option maxHeartbeats 4000000 in
set_option maxRecDepth 100000 in
/-- Sha.startWords() -/
theorem c_startWords {b : Nat} {dC : Nat → ClassId} {dI : Nat → Nat → Nat} {cA : Nat → ClassId} {ts : Nat → Nat} {l : Launch} {al : Bool} {n : Nat} {R : Nat → Nat → Option Nat} {L : Nat → Nat → Int64} (hn : 491 ≤ n) (hR : xRk R)  {I : Nat → Nat → Int32} : xCn (xGm b dC dI cA ts) l mX7_startWords [.ref 6] al (n, R, I, L) 0 0 (fun v M => v = none ∧ ∃ I' : Nat → Nat → Int32, M = (n, R, I', L) ∧ xFr [9] [] I I' ∧ ∀ j, j < 8 → I' 9 j = hF8 j) (fun _ _ => False) := by
  refine xCn.ofJ (by decide) (Nat.le_of_ble_eq_true rfl) ?_
  show xJ _ _ _ _ _ _ _ _ _ 0 [(0, .ref 6)] [] _ _ _ _ _
  refine xr_iconst (v := nI 0) (xd dX7_startWords 0 rfl) (by decide) ?_
  refine xr_istore_n [(0, .ref 6), (1, .int (nI 0))] (xd dX7_startWords 1 rfl) rfl (by decide) rfl ?_
  refine startWords_l hn hR (I0 := I) 8 0 I (by omega) ⟨xFr.rf, fun j hj => absurd hj (by omega)⟩ (fun I1 h1 => ?_)
  refine xr_vret (xd dX7_startWords 14 rfl) rfl (Nat.zero_le _) (Nat.zero_le _) (fun _ => rfl) ?_
  exact ⟨rfl, I1, rfl, h1.1, h1.2⟩
set_option maxHeartbeats 4000000 in
set_option maxRecDepth 100000 in
theorem storeWords_l {b : Nat} {dC : Nat → ClassId} {dI : Nat → Nat → Nat} {cA : Nat → ClassId} {ts : Nat → Nat} {l : Launch} {al : Bool} {n : Nat} {R : Nat → Nat → Option Nat} {L : Nat → Nat → Int64} (hn : 491 ≤ n) (hR : xRk R) {K NK p : Nat} {I0 : Nat → Nat → Int32} (hK : K < n) (hkK : kd0 K = 13) (hlK : ln0 K = NK) (hNK : NK < 100000) (hp : p + 32 ≤ NK) (hK9 : (9 : Nat) ≠ K) {Qv : Option Value → xM → Prop} {Qx : String → xM → Prop} : ∀ (k t : Nat) (I : Nat → Nat → Int32), t + k = 32 → (xFr [K] [] I0 I ∧ (∀ j, j < t → I K (p + j) = hdig (I0 9) j) ∧ ∀ j, (j < p ∨ p + t ≤ j) → I K j = I0 K j) → (∀ I' : Nat → Nat → Int32, (xFr [K] [] I0 I' ∧ (∀ j, j < 32 → I' K (p + j) = hdig (I0 9) j) ∧ ∀ j, (j < p ∨ p + 32 ≤ j) → I' K j = I0 K j) → xJ (xGm b dC dI cA ts) l mX7_storeWords 0 0 Qv Qx 0 0 51 [(0, .ref 6), (1, .ref K), (2, .int (nI p)), (3, .int (nI 32))] [] al n R I' L) → xJ (xGm b dC dI cA ts) l mX7_storeWords 0 0 Qv Qx 0 0 12 [(0, .ref 6), (1, .ref K), (2, .int (nI p)), (3, .int (nI t))] [] al n R I L := by
  intro k
  induction k with
  | zero =>
    intro t I ht hI hx
    refine xr_iload_n (xd dX7_storeWords 9 rfl) 3 rfl ?_
    refine xr_bipush (v := nI 32) (xd dX7_storeWords 10 rfl) (by decide) ?_
    refine xr_icmpN_ge 51 (xd dX7_storeWords 11 rfl) (by decide) (by omega) (by omega) (fun c15 => ?_) (fun c15 => ?_)
    · skip
      have hz : t = 32 := by omega
      subst hz
      exact hx I hI
    · skip
      exact absurd c15 (by omega)
  | succ k ih =>
    intro t I ht hI hx
    refine xr_iload_n (xd dX7_storeWords 9 rfl) 3 rfl ?_
    refine xr_bipush (v := nI 32) (xd dX7_storeWords 10 rfl) (by decide) ?_
    refine xr_icmpN_ge 51 (xd dX7_storeWords 11 rfl) (by decide) (by omega) (by omega) (fun c15 => ?_) (fun c15 => ?_)
    · skip
      exact absurd c15 (by omega)
    · skip
      refine xr_aload_n (xd dX7_storeWords 12 rfl) 1 rfl ?_
      refine xr_iload_n (xd dX7_storeWords 13 rfl) 2 rfl ?_
      refine xr_iload_n (xd dX7_storeWords 14 rfl) 3 rfl ?_
      refine xr_iadd (xd dX7_storeWords 15 rfl) ?_
      refine xr_eqi (nI (p + t)) (nI_add _ _) ?_
      refine xr_aload_n (xd dX7_storeWords 16 rfl) 0 rfl ?_
      refine xr_getR (b := 9) 7 2 (xd dX7_storeWords 17 rfl) f7_18 (by decide) (by decide) (by omega) kd_6 rfl (r_6_2 hR) ?_
      refine xr_iload_n (xd dX7_storeWords 18 rfl) 3 rfl ?_
      refine xr_iconst (v := nI 4) (xd dX7_storeWords 19 rfl) (by decide) ?_
      refine xr_idiv (xd dX7_storeWords 20 rfl) (by decide) ?_
      refine xr_eqi (nI (t / 4)) (pk_div (by omega) (by omega) (by omega)) ?_
      obtain ⟨x1, e_x1⟩ : ∃ z_ : Int32, z_ = I 9 (t / 4) := ⟨_, rfl⟩
      refine xr_ialoadN (x := x1) (xd dX7_storeWords 21 rfl) (by omega) kd_9 ln_9 (by omega) (by omega) e_x1.symm ?_
      refine xr_bipush (v := nI 24) (xd dX7_storeWords 22 rfl) (by decide) ?_
      refine xr_bipush (v := nI 8) (xd dX7_storeWords 23 rfl) (by decide) ?_
      refine xr_iload_n (xd dX7_storeWords 24 rfl) 3 rfl ?_
      refine xr_iconst (v := nI 4) (xd dX7_storeWords 25 rfl) (by decide) ?_
      refine xr_irem (xd dX7_storeWords 26 rfl) (by decide) ?_
      refine xr_eqi (nI (t % 4)) (pk_rem (by omega) (by omega) (by omega)) ?_
      refine xr_imul (xd dX7_storeWords 27 rfl) ?_
      refine xr_eqi (nI (8 * (t % 4))) (pk_mul _ _) ?_
      refine xr_isub (xd dX7_storeWords 28 rfl) ?_
      refine xr_eqi (nI (24 - (8 * (t % 4)))) (pk_sub (by omega)) ?_
      refine xr_iushr (xd dX7_storeWords 29 rfl) ?_
      refine xr_sipush (v := nI 255) (xd dX7_storeWords 30 rfl) (by decide) ?_
      refine xr_iand (xd dX7_storeWords 31 rfl) ?_
      obtain ⟨I2, e_I2⟩ : ∃ z_ : Nat → Nat → Int32, z_ = xu I K (p + t) ((us x1 (nI (24 - (8 * (t % 4))))) &&& 255) := ⟨_, rfl⟩
      refine xr_iastoreN (I' := I2) e_I2 (xd dX7_storeWords 32 rfl) (by omega) hkK hlK (by omega) (by omega) ?_
      refine xr_iinc (v := nI (t + 1)) [(0, .ref 6), (1, .ref K), (2, .int (nI p)), (3, .int (nI (t + 1)))] (xd dX7_storeWords 33 rfl) 3 rfl (nI_inc _) (by decide) rfl ?_
      refine xr_goto 12 (xd dX7_storeWords 34 rfl) (by decide) ?_
      refine xJ.pick [0, 1, 2, 3] rfl ?_
      refine ih (t + 1) I2 (by omega) ?_ hx
      obtain ⟨q1, q2, q3⟩ := hI
      have hF : xFr [K] [] I I2 := by rw [e_I2]; exact xFr.u (Or.inl (by simp))
      refine ⟨q1.tr hF, fun j hj => ?_, fun j hj => ?_⟩
      · by_cases hjt : j = t
        · subst hjt
          rw [e_I2, xu_s, e_x1, q1 9 _ (by simp; exact hK9) (by simp)]
          rfl
        · rw [e_I2, xu_n I _ (Or.inr (by omega))]
          exact q2 j (by omega)
      · rw [e_I2, xu_n I _ (Or.inr (by omega))]
        exact q3 j (by omega)
set_option maxHeartbeats 4000000 in
set_option maxRecDepth 100000 in
/-- Sha.storeWords(out, at) -/
theorem c_storeWords {b : Nat} {dC : Nat → ClassId} {dI : Nat → Nat → Nat} {cA : Nat → ClassId} {ts : Nat → Nat} {l : Launch} {al : Bool} {n : Nat} {R : Nat → Nat → Option Nat} {L : Nat → Nat → Int64} (hn : 491 ≤ n) (hR : xRk R) {K NK p : Nat} (hK : K < n) (hkK : kd0 K = 13) (hlK : ln0 K = NK) (hNK : NK < 100000) (hp : p + 32 ≤ NK) (hK9 : (9 : Nat) ≠ K) {I : Nat → Nat → Int32} : xCn (xGm b dC dI cA ts) l mX7_storeWords [.ref 6, .ref K, .int (nI p)] al (n, R, I, L) 0 0 (fun v M => v = none ∧ ∃ I' : Nat → Nat → Int32, M = (n, R, I', L) ∧ xFr [K] [] I I' ∧ (∀ j, j < 32 → I' K (p + j) = hdig (I 9) j) ∧ ∀ j, (j < p ∨ p + 32 ≤ j) → I' K j = I K j) (fun _ _ => False) := by
  refine xCn.ofJ (by decide) (Nat.le_of_ble_eq_true rfl) ?_
  show xJ _ _ _ _ _ _ _ _ _ 0 [(0, .ref 6), (1, .ref K), (2, .int (nI p))] [] _ _ _ _ _
  refine xr_iload_n (xd dX7_storeWords 0 rfl) 2 rfl ?_
  refine xr_bipush (v := nI 32) (xd dX7_storeWords 1 rfl) (by decide) ?_
  refine xr_iadd (xd dX7_storeWords 2 rfl) ?_
  refine xr_eqi (nI (p + 32)) (nI_add _ _) ?_
  refine xr_aload_n (xd dX7_storeWords 3 rfl) 1 rfl ?_
  refine xr_alen (v := nI NK) 0 (xd dX7_storeWords 4 rfl) (by omega) (by decide) hkK (congrArg nI hlK) ?_
  refine xr_icmpN_le 10 (xd dX7_storeWords 5 rfl) (by decide) (by omega) (by omega) (fun c6 => ?_) (fun c6 => ?_)
  · skip
    refine xr_iconst (v := nI 0) (xd dX7_storeWords 7 rfl) (by decide) ?_
    refine xr_istore_n [(0, .ref 6), (1, .ref K), (2, .int (nI p)), (3, .int (nI 0))] (xd dX7_storeWords 8 rfl) rfl (by decide) rfl ?_
    refine storeWords_l hn hR (I0 := I) hK hkK hlK hNK hp hK9 32 0 I (by omega) ⟨xFr.rf, fun j hj => absurd hj (by omega), fun _ _ => rfl⟩ (fun I1 h1 => ?_)
    refine xr_vret (xd dX7_storeWords 35 rfl) rfl (Nat.zero_le _) (Nat.zero_le _) (fun _ => rfl) ?_
    exact ⟨rfl, I1, rfl, h1.1, h1.2.1, h1.2.2⟩
  · skip
    exact absurd c6 (by omega)
