abbrev rNo : Nat → Nat → Option Nat := fun _ _ => none
abbrev iNo : Nat → Nat → Int32 := fun _ _ => 0
abbrev lNo : Nat → Nat → Int64 := fun _ _ => 0
theorem Zr_N {n : Nat} : Zr n rNo iNo lNo := fun _ _ => ⟨rfl, rfl, rfl⟩
/-- the numbers that show these words -/
def zo (I : Nat → Nat → Int32) : zM := fun a i => (I a i.toNat).toInt
def lo (L : Nat → Nat → Int64) : yM := fun a i => L a i.toNat
theorem zo_zi (I : Nat → Nat → Int32) : zi (zo I) = I := by
  funext a k
  show oI ((I a (k : Int).toNat).toInt) = _
  rw [Int.toNat_natCast]
  exact oI_of _
theorem lo_li (L : Nat → Nat → Int64) : li (lo L) = L := by
  funext a k
  show L a (k : Int).toNat = _
  rw [Int.toNat_natCast]
def rX11 (R : Nat → Nat → Option Nat) : Nat → Nat → Option Nat := xu (rX8 (315) (6) (11) (xu (rX8 (139) (6) (75) (xu (xu (rX4 (75) 60 (rX4 (11) 60 (rX7 (6) (xu (xu (rX1 (3) (xu (xu R (0) 0 (some (1))) (0) 1 (some (2)))) (0) 2 (some (3))) (0) 3 (some (5)))))) (1) 0 (some (11))) (1) 1 (some (75)))) (2) 0 (some (139)))) (2) 1 (some (315))
def iX11 (I : Nat → Nat → Int32) : Nat → Nat → Int32 := iX8 (315) (nI 1) (iX8 (139) (nI 0) (iX4 (75) 60 500 (iX4 (11) 60 500 I)))
def rF (k i : Nat) : Option Nat := if k < 491 then rX11 rNo k i else (refT.find? (fun q => q.1 == k && q.2.1 == i)).map (fun q => q.2.2)
set_option maxRecDepth 100000 in
theorem rF_k : xRk rF := by
  unfold xRk
  decide +kernel
abbrev jX : zM := zo (iX11 iNo)
set_option maxRecDepth 100000 in
theorem jX_a : ∀ s, (s = 0 ∨ s = 1) → (jX (sd s) 0 = s ∧ jX (sd s + 168) 0 = s ∧ jX (sd s + 13) 0 = 0) ∧ sg jX (sd s + 167) 0 32 = Z32 ∧ (∀ x ∈ sg jX (sd s + 6) 0 16, 0 ≤ x ∧ x < 256) ∧ (∀ i : Nat, i < 6 → ∀ x ∈ sg jX (sd s + 146 + i) 0 32, 0 ≤ x ∧ x < 256) ∧ ∀ i : Nat, i < 4 → (∀ x ∈ sg jX (sd s + 153 + i) 0 32, 0 ≤ x ∧ x < 256) ∧ ∀ x ∈ sg jX (sd s + 158 + i) 0 32, 0 ≤ x ∧ x < 256 := by
  intro s hs
  rcases hs with rfl | rfl
  · decide +kernel
  · decide +kernel
set_option maxRecDepth 100000 in
theorem jX_r : ∀ r, (r = 11 ∨ r = 75 ∨ r = 177 ∨ r = 353) → jX r 5 = 0 ∧ jX r 0 = (rq r : Int) ∧ jX r 1 = (rw0 r : Int) ∧ ∀ k : Nat, k < rq r → rO r jX (k : Int) = (k : Int) := by
  intro r hr
  rcases hr with rfl | rfl | rfl | rfl
  · decide +kernel
  · decide +kernel
  · decide +kernel
  · decide +kernel
theorem jX_R {r : Nat} (hr : r = 11 ∨ r = 75 ∨ r = 177 ∨ r = 353) : iR r jX := by
  obtain ⟨h5, h0, h1, ho⟩ := jX_r r hr
  have o : ∀ i : Int, 0 ≤ i → i < (rq r : Int) → rO r jX i = i := fun i a b => by
    have h := ho i.toNat (by omega)
    rw [Int.toNat_of_nonneg a] at h
    exact h
  refine ⟨⟨by rw [h5]; decide, by rw [h5]; omega⟩, ⟨h0, h1⟩, fun i a b => by rw [o i a b]; exact ⟨a, b⟩, fun i j a b c d e => by rw [o i a b, o j c d] at e; exact e, fun i a b => ?_⟩
  rw [h5] at b
  omega
theorem jX_P : XP0 jX := fun s hs => by
  obtain ⟨⟨a1, a2, a3⟩, a4, a5, a6, a7⟩ := jX_a s hs
  refine ⟨⟨a1, a2, a3, a4, ?_, ?_⟩, a5, a6, a7⟩
  · rcases hs with rfl | rfl
    · exact jX_R (Or.inl rfl)
    · exact jX_R (Or.inr (Or.inl rfl))
  · rcases hs with rfl | rfl
    · exact jX_R (Or.inr (Or.inr (Or.inl rfl)))
    · exact jX_R (Or.inr (Or.inr (Or.inr rfl)))
set_option maxHeartbeats 4000000 in
set_option maxRecDepth 100000 in
theorem t_X11 {b : Nat} {dC : Nat → ClassId} {dI : Nat → Nat → Nat} {cA : Nat → ClassId} {ts : Nat → Nat} {l : Launch} : xCn (xGm b dC dI cA ts) l mX11_init [.ref 0] true (1, rNo, iNo, lNo) 490 94712 (fun v M => v = none ∧ ∃ (J : zM) (L : yM), M = (491, rF, zi J, li L) ∧ PX J L (frG 0 200 jX) [] 0) (fun _ _ => False) := by
  refine xCn.ofJ (by decide) (Nat.le_of_ble_eq_true rfl) ?_
  obtain ⟨R, eR⟩ : ∃ z_ : Nat → Nat → Option Nat, z_ = rNo := ⟨_, rfl⟩
  obtain ⟨I, eI⟩ : ∃ z_ : Nat → Nat → Int32, z_ = iNo := ⟨_, rfl⟩
  obtain ⟨L, eL⟩ : ∃ z_ : Nat → Nat → Int64, z_ = lNo := ⟨_, rfl⟩
  have z : Zr 1 R I L := by rw [eR, eI, eL]; exact Zr_N
  rw [← eR, ← eI, ← eL]
  show xJ _ _ _ _ _ _ _ _ _ 0 [(0, .ref (0))] [] true (1) R I L
  refine xr_aload_n (xd dX11_init 0 rfl) 0 rfl ?_
  refine xr_oinit (xd dX11_init 1 rfl) (xt_1 (j := 31) (by decide +kernel) (by decide +kernel)) wOi ⟨by decide, by decide⟩ ?_
  refine xr_aload_n (xd dX11_init 2 rfl) 0 rfl ?_
  refine xr_iconst (v := nI 2) (xd dX11_init 3 rfl) (by decide) ?_
  refine xr_anew 4 "LossyPair$Rows" (N := 2) (by decide) (by decide) rfl (by simp [xao]) (xd dX11_init 4 rfl) (xt_1 (j := 34) (by decide +kernel) (by decide +kernel)) (nI_pos (by decide)) (nI_clamp (by decide)) (show kd0 1 = 17 by decide +kernel) (show ln0 1 = 2 by decide +kernel) (z _ (Nat.le_refl _)).1 (by decide) (by omega) (by decide) (by decide) ?_
  have z := z.mono (Nat.le_succ _)
  show xJ _ _ _ _ _ _ _ _ _ 9 [(0, .ref (0))] [.ref (1), .ref (0)] true (2) R I L
  obtain ⟨R1, eR1⟩ : ∃ z_ : Nat → Nat → Option Nat, z_ = xu R (0) 0 (some (1)) := ⟨_, rfl⟩
  refine xr_putR2 11 0 eR1 (xd dX11_init 5 rfl) f11_11 (by decide) (by decide) (by omega) (show kd0 0 = 11 by decide +kernel) (by decide) (fun _ => rfl) (fun _ => rfl) (fun _ => rfl) ?_
  have z := z.re eR1 (by omega)
  refine xr_aload_n (xd dX11_init 6 rfl) 0 rfl ?_
  refine xr_iconst (v := nI 2) (xd dX11_init 7 rfl) (by decide) ?_
  refine xr_anew 5 "LossyPair$Side" (N := 2) (by decide) (by decide) rfl (by simp [xao]) (xd dX11_init 8 rfl) (xt_1 (j := 36) (by decide +kernel) (by decide +kernel)) (nI_pos (by decide)) (nI_clamp (by decide)) (show kd0 2 = 18 by decide +kernel) (show ln0 2 = 2 by decide +kernel) (z _ (Nat.le_refl _)).1 (by decide) (by omega) (by decide) (by decide) ?_
  have z := z.mono (Nat.le_succ _)
  show xJ _ _ _ _ _ _ _ _ _ 17 [(0, .ref (0))] [.ref (2), .ref (0)] true (3) R1 I L
  obtain ⟨R2, eR2⟩ : ∃ z_ : Nat → Nat → Option Nat, z_ = xu R1 (0) 1 (some (2)) := ⟨_, rfl⟩
  refine xr_putR2 11 1 eR2 (xd dX11_init 9 rfl) f11_17 (by decide) (by decide) (by omega) (show kd0 0 = 11 by decide +kernel) (by decide) (fun _ => rfl) (fun _ => rfl) (fun _ => rfl) ?_
  have z := z.re eR2 (by omega)
  refine xr_aload_n (xd dX11_init 10 rfl) 0 rfl ?_
  refine xr_new 1 (xd dX11_init 11 rfl) (xt_1 (j := 38) (by decide +kernel) (by decide +kernel)) wN1 (by decide) (show kd0 3 = 1 by decide +kernel) (z _ (Nat.le_refl _)).1 (z _ (Nat.le_refl _)).2.1 (z _ (Nat.le_refl _)).2.2 (by omega) (by decide) (by decide) ?_
  have z := z.mono (Nat.le_succ _)
  show xJ _ _ _ _ _ _ _ _ _ 24 [(0, .ref (0))] [.ref (3), .ref (0)] true (4) R2 I L
  refine xr_dup (xd dX11_init 12 rfl) rfl ?_
  refine xr_callIN mX1_init 0 [] (st := [.ref (3), .ref (0)]) (b := 3) (xd dX11_init 13 rfl) n11_23 kX1_init rfl (by omega) ⟨by decide, by decide⟩ (Nat.le_of_ble_eq_true rfl) (t_X1 (a := 3) (by decide +kernel) (by omega) z) (by decide) (by decide) (fun v M h => ?_)
  obtain ⟨rfl, rfl, z⟩ := h
  obtain ⟨R3, eR3⟩ : ∃ z_ : Nat → Nat → Option Nat, z_ = rX1 (3) R2 := ⟨_, rfl⟩
  rw [← eR3] at z ⊢
  show xJ _ _ _ _ _ _ _ _ _ 28 [(0, .ref (0))] [.ref (3), .ref (0)] true (5) R3 I L
  obtain ⟨R4, eR4⟩ : ∃ z_ : Nat → Nat → Option Nat, z_ = xu R3 (0) 2 (some (3)) := ⟨_, rfl⟩
  refine xr_putR2 11 2 eR4 (xd dX11_init 14 rfl) f11_24 (by decide) (by decide) (by omega) (show kd0 0 = 11 by decide +kernel) (by decide) (fun _ => rfl) (fun _ => rfl) (fun _ => rfl) ?_
  have z := z.re eR4 (by omega)
  refine xr_aload_n (xd dX11_init 15 rfl) 0 rfl ?_
  refine xr_sipush (v := nI 500) (xd dX11_init 16 rfl) (by decide) ?_
  refine xr_newI (N := 500) (xd dX11_init 17 rfl) wIa (nI_pos (by decide)) (nI_clamp (by decide)) (show kd0 5 = 13 by decide +kernel) (show ln0 5 = 500 by decide +kernel) (z _ (Nat.le_refl _)).2.1 (by decide) (by omega) (by decide) (by decide) ?_
  have z := z.mono (Nat.le_succ _)
  show xJ _ _ _ _ _ _ _ _ _ 37 [(0, .ref (0))] [.ref (5), .ref (0)] true (6) R4 I L
  obtain ⟨R5, eR5⟩ : ∃ z_ : Nat → Nat → Option Nat, z_ = xu R4 (0) 3 (some (5)) := ⟨_, rfl⟩
  refine xr_putR2 11 3 eR5 (xd dX11_init 18 rfl) f11_28 (by decide) (by decide) (by omega) (show kd0 0 = 11 by decide +kernel) (by decide) (fun _ => rfl) (fun _ => rfl) (fun _ => rfl) ?_
  have z := z.re eR5 (by omega)
  refine xr_new 7 (xd dX11_init 19 rfl) (xt_1 (j := 109) (by decide +kernel) (by decide +kernel)) wN7 (by decide) (show kd0 6 = 7 by decide +kernel) (z _ (Nat.le_refl _)).1 (z _ (Nat.le_refl _)).2.1 (z _ (Nat.le_refl _)).2.2 (by omega) (by decide) (by decide) ?_
  have z := z.mono (Nat.le_succ _)
  show xJ _ _ _ _ _ _ _ _ _ 43 [(0, .ref (0))] [.ref (6)] true (7) R5 I L
  refine xr_dup (xd dX11_init 20 rfl) rfl ?_
  refine xr_callIN mX7_init 0 [] (st := [.ref (6)]) (b := 6) (xd dX11_init 21 rfl) n11_34 kX7_init rfl (by omega) ⟨by decide, by decide⟩ (Nat.le_of_ble_eq_true rfl) (t_X7 (a := 6) (by decide +kernel) (by omega) z) (by decide) (by decide) (fun v M h => ?_)
  obtain ⟨rfl, rfl, z⟩ := h
  obtain ⟨R6, eR6⟩ : ∃ z_ : Nat → Nat → Option Nat, z_ = rX7 (6) R5 := ⟨_, rfl⟩
  rw [← eR6] at z ⊢
  show xJ _ _ _ _ _ _ _ _ _ 47 [(0, .ref (0))] [.ref (6)] true (11) R6 I L
  refine xr_astore_n (i := 1) [(0, .ref (0)), (1, .ref (6))] (xd dX11_init 22 rfl) rfl (by decide) rfl ?_
  refine xr_new 4 (xd dX11_init 23 rfl) (xt_1 (j := 34) (by decide +kernel) (by decide +kernel)) wN4 (by decide) (show kd0 11 = 4 by decide +kernel) (z _ (Nat.le_refl _)).1 (z _ (Nat.le_refl _)).2.1 (z _ (Nat.le_refl _)).2.2 (by omega) (by decide) (by decide) ?_
  have z := z.mono (Nat.le_succ _)
  show xJ _ _ _ _ _ _ _ _ _ 51 [(0, .ref (0)), (1, .ref (6))] [.ref (11)] true (12) R6 I L
  refine xr_dup (xd dX11_init 24 rfl) rfl ?_
  refine xr_bipush (v := nI 60) (xd dX11_init 25 rfl) (by decide) ?_
  refine xr_sipush (v := nI 500) (xd dX11_init 26 rfl) (by decide) ?_
  refine xr_callI mX4_init 2 [.int (nI 60), .int (nI 500)] (st := [.ref (11)]) (b := 11) (xd dX11_init 27 rfl) l11_35 kX4_init rfl (by omega) ⟨by decide, by decide⟩ (Nat.le_of_ble_eq_true rfl) (t_X4 (a := 11) (N := 60) (K := 500) (by decide) (by decide) (by decide +kernel) (by decide +kernel) (by decide +kernel) (by decide +kernel) (by decide +kernel) (by decide +kernel) (by decide +kernel) (by decide +kernel) (by omega) z) (by decide) (by decide) (fun v M h => ?_)
  obtain ⟨rfl, rfl, z⟩ := h
  obtain ⟨R7, eR7⟩ : ∃ z_ : Nat → Nat → Option Nat, z_ = rX4 (11) 60 R6 := ⟨_, rfl⟩
  rw [← eR7] at z ⊢
  obtain ⟨I1, eI1⟩ : ∃ z_ : Nat → Nat → Int32, z_ = iX4 (11) 60 500 I := ⟨_, rfl⟩
  rw [← eI1] at z ⊢
  show xJ _ _ _ _ _ _ _ _ _ 60 [(0, .ref (0)), (1, .ref (6))] [.ref (11)] true (75) R7 I1 L
  refine xr_astore_n (i := 2) [(0, .ref (0)), (1, .ref (6)), (2, .ref (11))] (xd dX11_init 28 rfl) rfl (by decide) rfl ?_
  refine xr_new 4 (xd dX11_init 29 rfl) (xt_1 (j := 34) (by decide +kernel) (by decide +kernel)) wN4 (by decide) (show kd0 75 = 4 by decide +kernel) (z _ (Nat.le_refl _)).1 (z _ (Nat.le_refl _)).2.1 (z _ (Nat.le_refl _)).2.2 (by omega) (by decide) (by decide) ?_
  have z := z.mono (Nat.le_succ _)
  show xJ _ _ _ _ _ _ _ _ _ 64 [(0, .ref (0)), (1, .ref (6)), (2, .ref (11))] [.ref (75)] true (76) R7 I1 L
  refine xr_dup (xd dX11_init 30 rfl) rfl ?_
  refine xr_bipush (v := nI 60) (xd dX11_init 31 rfl) (by decide) ?_
  refine xr_sipush (v := nI 500) (xd dX11_init 32 rfl) (by decide) ?_
  refine xr_callI mX4_init 2 [.int (nI 60), .int (nI 500)] (st := [.ref (75)]) (b := 75) (xd dX11_init 33 rfl) l11_35 kX4_init rfl (by omega) ⟨by decide, by decide⟩ (Nat.le_of_ble_eq_true rfl) (t_X4 (a := 75) (N := 60) (K := 500) (by decide) (by decide) (by decide +kernel) (by decide +kernel) (by decide +kernel) (by decide +kernel) (by decide +kernel) (by decide +kernel) (by decide +kernel) (by decide +kernel) (by omega) z) (by decide) (by decide) (fun v M h => ?_)
  obtain ⟨rfl, rfl, z⟩ := h
  obtain ⟨R8, eR8⟩ : ∃ z_ : Nat → Nat → Option Nat, z_ = rX4 (75) 60 R7 := ⟨_, rfl⟩
  rw [← eR8] at z ⊢
  obtain ⟨I2, eI2⟩ : ∃ z_ : Nat → Nat → Int32, z_ = iX4 (75) 60 500 I1 := ⟨_, rfl⟩
  rw [← eI2] at z ⊢
  show xJ _ _ _ _ _ _ _ _ _ 73 [(0, .ref (0)), (1, .ref (6)), (2, .ref (11))] [.ref (75)] true (139) R8 I2 L
  refine xr_astore_n (i := 3) [(0, .ref (0)), (1, .ref (6)), (2, .ref (11)), (3, .ref (75))] (xd dX11_init 34 rfl) rfl (by decide) rfl ?_
  refine xr_aload_n (xd dX11_init 35 rfl) 0 rfl ?_
  refine xr_getR (b := 1) 11 0 (xd dX11_init 36 rfl) f11_11 (by decide) (by decide) (by omega) (show kd0 0 = 11 by decide +kernel) rfl (by rw [eR8, rX4_lt (by omega), eR7, rX4_lt (by omega), eR6, rX7_lt (by omega), eR5, xu_n _ _ (Or.inr (by decide)), eR4, xu_n _ _ (Or.inr (by decide)), eR3, rX1_lt (by omega), eR2, xu_n _ _ (Or.inr (by decide)), eR1, xu_s]) ?_
  refine xr_iconst (v := nI 0) (xd dX11_init 37 rfl) (by decide) ?_
  refine xr_aload_n (xd dX11_init 38 rfl) 2 rfl ?_
  obtain ⟨R9, eR9⟩ : ∃ z_ : Nat → Nat → Option Nat, z_ = xu R8 (1) 0 (some (11)) := ⟨_, rfl⟩
  refine xr_aast2 4 4 eR9 (nI_clamp (by decide)) (xd dX11_init 39 rfl) (by decide) (by decide) (by decide) rfl (by omega) (show kd0 1 = 17 by decide +kernel) (by omega) (show kd0 11 = 4 by decide +kernel) (by rw [show xln (xGm b dC dI cA ts) (1) = 2 from (show ln0 1 = 2 by decide +kernel)]; exact nI_in (by decide) (by decide)) ?_
  have z := z.re eR9 (by omega)
  refine xr_aload_n (xd dX11_init 40 rfl) 0 rfl ?_
  refine xr_getR (b := 1) 11 0 (xd dX11_init 41 rfl) f11_11 (by decide) (by decide) (by omega) (show kd0 0 = 11 by decide +kernel) rfl (by rw [eR9, xu_n _ _ (Or.inl (by omega)), eR8, rX4_lt (by omega), eR7, rX4_lt (by omega), eR6, rX7_lt (by omega), eR5, xu_n _ _ (Or.inr (by decide)), eR4, xu_n _ _ (Or.inr (by decide)), eR3, rX1_lt (by omega), eR2, xu_n _ _ (Or.inr (by decide)), eR1, xu_s]) ?_
  refine xr_iconst (v := nI 1) (xd dX11_init 42 rfl) (by decide) ?_
  refine xr_aload_n (xd dX11_init 43 rfl) 3 rfl ?_
  obtain ⟨R10, eR10⟩ : ∃ z_ : Nat → Nat → Option Nat, z_ = xu R9 (1) 1 (some (75)) := ⟨_, rfl⟩
  refine xr_aast2 4 4 eR10 (nI_clamp (by decide)) (xd dX11_init 44 rfl) (by decide) (by decide) (by decide) rfl (by omega) (show kd0 1 = 17 by decide +kernel) (by omega) (show kd0 75 = 4 by decide +kernel) (by rw [show xln (xGm b dC dI cA ts) (1) = 2 from (show ln0 1 = 2 by decide +kernel)]; exact nI_in (by decide) (by decide)) ?_
  have z := z.re eR10 (by omega)
  refine xr_aload_n (xd dX11_init 45 rfl) 0 rfl ?_
  refine xr_getR (b := 2) 11 1 (xd dX11_init 46 rfl) f11_17 (by decide) (by decide) (by omega) (show kd0 0 = 11 by decide +kernel) rfl (by rw [eR10, xu_n _ _ (Or.inl (by omega)), eR9, xu_n _ _ (Or.inl (by omega)), eR8, rX4_lt (by omega), eR7, rX4_lt (by omega), eR6, rX7_lt (by omega), eR5, xu_n _ _ (Or.inr (by decide)), eR4, xu_n _ _ (Or.inr (by decide)), eR3, rX1_lt (by omega), eR2, xu_s]) ?_
  refine xr_iconst (v := nI 0) (xd dX11_init 47 rfl) (by decide) ?_
  refine xr_new 8 (xd dX11_init 48 rfl) (xt_1 (j := 36) (by decide +kernel) (by decide +kernel)) wN8 (by decide) (show kd0 139 = 8 by decide +kernel) (z _ (Nat.le_refl _)).1 (z _ (Nat.le_refl _)).2.1 (z _ (Nat.le_refl _)).2.2 (by omega) (by decide) (by decide) ?_
  have z := z.mono (Nat.le_succ _)
  show xJ _ _ _ _ _ _ _ _ _ 96 [(0, .ref (0)), (1, .ref (6)), (2, .ref (11)), (3, .ref (75))] [.ref (139), .int (nI 0), .ref (2)] true (140) R10 I2 L
  refine xr_dup (xd dX11_init 49 rfl) rfl ?_
  refine xr_iconst (v := nI 0) (xd dX11_init 50 rfl) (by decide) ?_
  refine xr_aload_n (xd dX11_init 51 rfl) 1 rfl ?_
  refine xr_aload_n (xd dX11_init 52 rfl) 3 rfl ?_
  refine xr_callI mX8_init 3 [.int (nI 0), .ref (6), .ref (75)] (st := [.ref (139), .int (nI 0), .ref (2)]) (b := 139) (xd dX11_init 53 rfl) l11_38 kX8_init rfl (by omega) ⟨by decide, by decide⟩ (Nat.le_of_ble_eq_true rfl) (t_X8 (a := 139) (by decide +kernel) (by omega) z) (by decide) (by decide) (fun v M h => ?_)
  obtain ⟨rfl, rfl, z⟩ := h
  obtain ⟨R11, eR11⟩ : ∃ z_ : Nat → Nat → Option Nat, z_ = rX8 (139) (6) (75) R10 := ⟨_, rfl⟩
  rw [← eR11] at z ⊢
  obtain ⟨I3, eI3⟩ : ∃ z_ : Nat → Nat → Int32, z_ = iX8 (139) (nI 0) I2 := ⟨_, rfl⟩
  rw [← eI3] at z ⊢
  show xJ _ _ _ _ _ _ _ _ _ 103 [(0, .ref (0)), (1, .ref (6)), (2, .ref (11)), (3, .ref (75))] [.ref (139), .int (nI 0), .ref (2)] true (315) R11 I3 L
  obtain ⟨R12, eR12⟩ : ∃ z_ : Nat → Nat → Option Nat, z_ = xu R11 (2) 0 (some (139)) := ⟨_, rfl⟩
  refine xr_aast2 5 8 eR12 (nI_clamp (by decide)) (xd dX11_init 54 rfl) (by decide) (by decide) (by decide) rfl (by omega) (show kd0 2 = 18 by decide +kernel) (by omega) (show kd0 139 = 8 by decide +kernel) (by rw [show xln (xGm b dC dI cA ts) (2) = 2 from (show ln0 2 = 2 by decide +kernel)]; exact nI_in (by decide) (by decide)) ?_
  have z := z.re eR12 (by omega)
  refine xr_aload_n (xd dX11_init 55 rfl) 0 rfl ?_
  refine xr_getR (b := 2) 11 1 (xd dX11_init 56 rfl) f11_17 (by decide) (by decide) (by omega) (show kd0 0 = 11 by decide +kernel) rfl (by rw [eR12, xu_n _ _ (Or.inl (by omega)), eR11, rX8_lt (by omega), eR10, xu_n _ _ (Or.inl (by omega)), eR9, xu_n _ _ (Or.inl (by omega)), eR8, rX4_lt (by omega), eR7, rX4_lt (by omega), eR6, rX7_lt (by omega), eR5, xu_n _ _ (Or.inr (by decide)), eR4, xu_n _ _ (Or.inr (by decide)), eR3, rX1_lt (by omega), eR2, xu_s]) ?_
  refine xr_iconst (v := nI 1) (xd dX11_init 57 rfl) (by decide) ?_
  refine xr_new 8 (xd dX11_init 58 rfl) (xt_1 (j := 36) (by decide +kernel) (by decide +kernel)) wN8 (by decide) (show kd0 315 = 8 by decide +kernel) (z _ (Nat.le_refl _)).1 (z _ (Nat.le_refl _)).2.1 (z _ (Nat.le_refl _)).2.2 (by omega) (by decide) (by decide) ?_
  have z := z.mono (Nat.le_succ _)
  show xJ _ _ _ _ _ _ _ _ _ 112 [(0, .ref (0)), (1, .ref (6)), (2, .ref (11)), (3, .ref (75))] [.ref (315), .int (nI 1), .ref (2)] true (316) R12 I3 L
  refine xr_dup (xd dX11_init 59 rfl) rfl ?_
  refine xr_iconst (v := nI 1) (xd dX11_init 60 rfl) (by decide) ?_
  refine xr_aload_n (xd dX11_init 61 rfl) 1 rfl ?_
  refine xr_aload_n (xd dX11_init 62 rfl) 2 rfl ?_
  refine xr_callI mX8_init 3 [.int (nI 1), .ref (6), .ref (11)] (st := [.ref (315), .int (nI 1), .ref (2)]) (b := 315) (xd dX11_init 63 rfl) l11_38 kX8_init rfl (by omega) ⟨by decide, by decide⟩ (Nat.le_of_ble_eq_true rfl) (t_X8 (a := 315) (by decide +kernel) (by omega) z) (by decide) (by decide) (fun v M h => ?_)
  obtain ⟨rfl, rfl, z⟩ := h
  obtain ⟨R13, eR13⟩ : ∃ z_ : Nat → Nat → Option Nat, z_ = rX8 (315) (6) (11) R12 := ⟨_, rfl⟩
  rw [← eR13] at z ⊢
  obtain ⟨I4, eI4⟩ : ∃ z_ : Nat → Nat → Int32, z_ = iX8 (315) (nI 1) I3 := ⟨_, rfl⟩
  rw [← eI4] at z ⊢
  show xJ _ _ _ _ _ _ _ _ _ 119 [(0, .ref (0)), (1, .ref (6)), (2, .ref (11)), (3, .ref (75))] [.ref (315), .int (nI 1), .ref (2)] true (491) R13 I4 L
  obtain ⟨R14, eR14⟩ : ∃ z_ : Nat → Nat → Option Nat, z_ = xu R13 (2) 1 (some (315)) := ⟨_, rfl⟩
  refine xr_aast2 5 8 eR14 (nI_clamp (by decide)) (xd dX11_init 64 rfl) (by decide) (by decide) (by decide) rfl (by omega) (show kd0 2 = 18 by decide +kernel) (by omega) (show kd0 315 = 8 by decide +kernel) (by rw [show xln (xGm b dC dI cA ts) (2) = 2 from (show ln0 2 = 2 by decide +kernel)]; exact nI_in (by decide) (by decide)) ?_
  have z := z.re eR14 (by omega)
  have hr : R14 = rX11 rNo := by
    subst eR14; subst eR13; subst eR12; subst eR11; subst eR10; subst eR9; subst eR8; subst eR7; subst eR6; subst eR5; subst eR4; subst eR3; subst eR2; subst eR1; subst eR
    rfl
  have hi : I4 = zi jX := by
    rw [zo_zi]
    subst eI4; subst eI3; subst eI2; subst eI1; subst eI
    rfl
  have hl : L = li (lo lNo) := by rw [lo_li, eL]
  refine xJ.eqv (R' := rF) (I' := zi jX) (L' := li (lo lNo)) (fun k hk => ⟨by rw [hr]; funext i; rw [rF, if_pos hk], by rw [hi], by rw [hl]⟩) ?_
  refine xr_aload_n (xd dX11_init 65 rfl) 0 rfl ?_
  refine xr_iconst (v := oI 0) (xd dX11_init 66 rfl) (by decide) ?_
  refine xr_sipush (v := oI 200) (xd dX11_init 67 rfl) (by decide) ?_
  refine xr_callV (st := []) mX11_startAnew 2 [.int (oI 0), .int (oI 200)] (b := 0) (cl := 11) (xd dX11_init 68 rfl) l11_41 kX11_startAnew rfl (by decide) kd_0 (by decide) rfl ⟨by decide, by decide⟩ (by decide) (v_X11_startAnew (by decide) rF_k (px_make jX_P (Q := fun J L => PX J L (frG 0 200 jX) [] 0) (fun J' L' h _ => h))) (by decide) (by decide) (fun v M h => ?_) (fun _ _ h => h.elim)
  obtain ⟨J, L1, rfl, rfl, hP⟩ := h
  refine xr_vret (xd dX11_init 69 rfl) rfl (by decide) (by decide) (fun _ => rfl) ?_
  exact ⟨rfl, J, L1, rfl, hP⟩
