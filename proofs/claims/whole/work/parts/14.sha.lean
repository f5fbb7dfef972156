set_option maxHeartbeats 4000000 in
set_option maxRecDepth 100000 in
/-- Sha.clear() -/
theorem c_clear {b : Nat} {dC : Nat → ClassId} {dI : Nat → Nat → Nat} {cA : Nat → ClassId} {ts : Nat → Nat} {l : Launch} {al : Bool} {n : Nat} {R : Nat → Nat → Option Nat} {L : Nat → Nat → Int64} (hn : 491 ≤ n) (hR : xRk R)  {I : Nat → Nat → Int32} : xCn (xGm b dC dI cA ts) l mX7_clear [.ref 6] al (n, R, I, L) 0 0 (fun v M => v = none ∧ ∃ I' : Nat → Nat → Int32, M = (n, R, I', L) ∧ I' = xu I 6 4 (nI 0)) (fun _ _ => False) := by
  refine xCn.ofJ (by decide) (Nat.le_of_ble_eq_true rfl) ?_
  show xJ _ _ _ _ _ _ _ _ _ 0 [(0, .ref 6)] [] _ _ _ _ _
  refine xr_aload_n (xd dX7_clear 0 rfl) 0 rfl ?_
  refine xr_iconst (v := nI 0) (xd dX7_clear 1 rfl) (by decide) ?_
  obtain ⟨I1, e_I1⟩ : ∃ z : Nat → Nat → Int32, z = xu I 6 4 0 := ⟨_, rfl⟩
  refine xr_putI2 7 4 (I' := I1) e_I1 (xd dX7_clear 2 rfl) f7_24 (by decide) (by decide) (by omega) kd_6 (Or.inl rfl) rfl rfl (fun _ => rfl) ?_
  refine xr_vret (xd dX7_clear 3 rfl) rfl (Nat.zero_le _) (Nat.zero_le _) (fun _ => rfl) ?_
  exact ⟨rfl, _, rfl, e_I1⟩
set_option maxHeartbeats 4000000 in
set_option maxRecDepth 100000 in
/-- Sha.put(value) -/
theorem c_put {b : Nat} {dC : Nat → ClassId} {dI : Nat → Nat → Nat} {cA : Nat → ClassId} {ts : Nat → Nat} {l : Launch} {al : Bool} {n : Nat} {R : Nat → Nat → Option Nat} {L : Nat → Nat → Int64} (hn : 491 ≤ n) (hR : xRk R) {m : Nat} {v : Int32} {I : Nat → Nat → Int32} (hm : I 6 4 = nI m) (hm2 : m < 568) : xCn (xGm b dC dI cA ts) l mX7_put [.ref 6, .int v] al (n, R, I, L) 0 0 (fun r M => r = none ∧ ∃ I' : Nat → Nat → Int32, M = (n, R, I', L) ∧ I' = xu (xu I 7 (64 + m) (v &&& 255)) 6 4 (nI (m + 1))) (fun _ _ => False) := by
  refine xCn.ofJ (by decide) (Nat.le_of_ble_eq_true rfl) ?_
  show xJ _ _ _ _ _ _ _ _ _ 0 [(0, .ref 6), (1, .int v)] [] _ _ _ _ _
  refine xr_aload_n (xd dX7_put 0 rfl) 0 rfl ?_
  refine xr_getI (x := nI m) 7 4 (xd dX7_put 1 rfl) f7_24 (by decide) (by decide) (by omega) kd_6 rfl hm ?_
  refine xr_sipush (v := nI 568) (xd dX7_put 2 rfl) (by decide) ?_
  refine xr_icmpN_ge 37 (xd dX7_put 3 rfl) (by decide) (by omega) (by omega) (fun c7 => ?_) (fun c7 => ?_)
  · skip
    exact absurd c7 (by omega)
  · skip
    refine xr_aload_n (xd dX7_put 4 rfl) 0 rfl ?_
    refine xr_getR (b := 7) 7 0 (xd dX7_put 5 rfl) f7_9 (by decide) (by decide) (by omega) kd_6 rfl (r_6_0 hR) ?_
    refine xr_bipush (v := nI 64) (xd dX7_put 6 rfl) (by decide) ?_
    refine xr_aload_n (xd dX7_put 7 rfl) 0 rfl ?_
    refine xr_getI (x := nI m) 7 4 (xd dX7_put 8 rfl) f7_24 (by decide) (by decide) (by omega) kd_6 rfl hm ?_
    refine xr_iadd (xd dX7_put 9 rfl) ?_
    refine xr_eqi (nI (64 + m)) (nI_add _ _) ?_
    refine xr_iload_n (xd dX7_put 10 rfl) 1 rfl ?_
    refine xr_sipush (v := nI 255) (xd dX7_put 11 rfl) (by decide) ?_
    refine xr_iand (xd dX7_put 12 rfl) ?_
    obtain ⟨I1, e_I1⟩ : ∃ z : Nat → Nat → Int32, z = xu I 7 (64 + m) (v &&& 255) := ⟨_, rfl⟩
    refine xr_iastoreN (I' := I1) e_I1 (xd dX7_put 13 rfl) (by omega) kd_7 ln_7 (by omega) (by omega) ?_
    refine xr_aload_n (xd dX7_put 14 rfl) 0 rfl ?_
    refine xr_dup (xd dX7_put 15 rfl) rfl ?_
    refine xr_getI (x := nI m) 7 4 (xd dX7_put 16 rfl) f7_24 (by decide) (by decide) (by omega) kd_6 rfl (by rw [e_I1]; simp [xu, hm]) ?_
    refine xr_iconst (v := nI 1) (xd dX7_put 17 rfl) (by decide) ?_
    refine xr_iadd (xd dX7_put 18 rfl) ?_
    refine xr_eqi (nI (m + 1)) (nI_add _ _) ?_
    obtain ⟨I2, e_I2⟩ : ∃ z : Nat → Nat → Int32, z = xu I1 6 4 (nI (m + 1)) := ⟨_, rfl⟩
    refine xr_putI2 7 4 (I' := I2) e_I2 (xd dX7_put 19 rfl) f7_24 (by decide) (by decide) (by omega) kd_6 (Or.inl rfl) rfl rfl (fun _ => rfl) ?_
    refine xr_vret (xd dX7_put 20 rfl) rfl (Nat.zero_le _) (Nat.zero_le _) (fun _ => rfl) ?_
    exact ⟨rfl, _, rfl, by rw [e_I2, e_I1]⟩
