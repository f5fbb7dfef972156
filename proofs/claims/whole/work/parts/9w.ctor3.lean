def rX12 (R : Nat → Nat → Option Nat) : Nat → Nat → Option Nat := xu (xu (xu (xu (xu (xu (xu (xu (xu (xu (xu (xu (xu (xu (xu (xu (xu (xu (xu (xu (xu (xu (xu (xu (xu (xu (xu (xu (xu (xu (xu (xu (xu (xu (xu (xu (xu (xu (xu (xu (xu (xu (xu (xu (xu (xu (xu (xu (xu (xu (xu (xu (xu (xu (xu (xu (xu (xu (xu (xu R (491) 5 (some (492))) (491) 6 (some (493))) (491) 8 (some (494))) (491) 10 (some (495))) (491) 11 (some (496))) (491) 12 (some (497))) (491) 14 (some (498))) (491) 15 (some (499))) (491) 16 (some (500))) (491) 17 (some (501))) (491) 18 (some (502))) (491) 19 (some (503))) (491) 20 (some (504))) (491) 21 (some (505))) (491) 22 (some (506))) (491) 23 (some (507))) (491) 24 (some (508))) (491) 25 (some (509))) (491) 26 (some (510))) (491) 27 (some (511))) (491) 28 (some (512))) (491) 29 (some (513))) (491) 31 (some (514))) (491) 32 (some (515))) (491) 34 (some (516))) (491) 35 (some (517))) (491) 36 (some (518))) (491) 37 (some (519))) (491) 38 (some (520))) (491) 39 (some (521))) (491) 40 (some (522))) (491) 41 (some (523))) (491) 42 (some (524))) (491) 43 (some (525))) (491) 44 (some (526))) (491) 45 (some (527))) (491) 46 (some (528))) (491) 47 (some (529))) (491) 48 (some (530))) (491) 49 (some (531))) (491) 50 (some (532))) (491) 51 (some (533))) (491) 52 (some (534))) (491) 53 (some (535))) (491) 54 (some (536))) (491) 55 (some (537))) (491) 56 (some (538))) (491) 57 (some (539))) (491) 59 (some (540))) (491) 60 (some (541))) (491) 61 (some (542))) (491) 62 (some (543))) (491) 63 (some (544))) (491) 64 (some (545))) (491) 65 (some (546))) (491) 66 (some (547))) (491) 67 (some (548))) (491) 68 (some (549))) (491) 69 (some (550))) (491) 71 (some (551))
set_option maxHeartbeats 4000000 in
set_option maxRecDepth 100000 in
theorem t_X12 {b : Nat} {dC : Nat → ClassId} {dI : Nat → Nat → Nat} {cA : Nat → ClassId} {ts : Nat → Nat} {l : Launch} {R : Nat → Nat → Option Nat} {I : Nat → Nat → Int32} {L : Nat → Nat → Int64} {J0 : zM} {L0 : yM} (eI : I = zi J0) (eL : L = li L0) (hR : xRk (rX12 R)) (z : Zr 492 R I L) : xCn (xGm b dC dI cA ts) l mX12_init [.ref 491] true (492, R, I, L) 60 107010 (fun v M => v = none ∧ ∃ (J : zM) (L1 : yM), M = (552, rX12 R, zi J, li L1) ∧ MA 0 200 J L1 ∧ mK (zi J) ∧ ∀ a, a < 491 → J a = J0 a ∧ L1 a = L0 a) (fun _ _ => False) := by
  refine xCn.ofJ (by decide) (Nat.le_of_ble_eq_true rfl) ?_
  show xJ _ _ _ _ _ _ _ _ _ 0 [(0, .ref (491))] [] true (492) R I L
  refine xr_aload_n (xd dX12_init 0 rfl) 0 rfl ?_
  refine xr_oinit (xd dX12_init 1 rfl) (xt_6 (j := 217) (by decide +kernel) (by decide +kernel)) wOi ⟨by decide, by decide⟩ ?_
  refine xr_aload_n (xd dX12_init 2 rfl) 0 rfl ?_
  refine xr_sipush (v := nI 2048) (xd dX12_init 3 rfl) (by decide) ?_
  refine xr_newI (N := 2048) (xd dX12_init 4 rfl) wIa (nI_pos (by decide)) (nI_clamp (by decide)) (show kd0 492 = 13 by decide +kernel) (show ln0 492 = 2048 by decide +kernel) (z _ (Nat.le_refl _)).2.1 (by decide) (by omega) (by decide) (by decide) ?_
  have z := z.mono (Nat.le_succ _)
  show xJ _ _ _ _ _ _ _ _ _ 10 [(0, .ref (491))] [.ref (492), .ref (491)] true (493) R I L
  obtain ⟨R1, eR1⟩ : ∃ z_ : Nat → Nat → Option Nat, z_ = xu R (491) 5 (some (492)) := ⟨_, rfl⟩
  refine xr_putR2 12 5 eR1 (xd dX12_init 5 rfl) f12_7 (by decide) (by decide) (by omega) (show kd0 491 = 12 by decide +kernel) (by decide) (fun _ => rfl) (fun _ => rfl) (fun _ => rfl) ?_
  have z := z.re eR1 (by omega)
  refine xr_aload_n (xd dX12_init 6 rfl) 0 rfl ?_
  refine xr_sipush (v := nI 150) (xd dX12_init 7 rfl) (by decide) ?_
  refine xr_newI (N := 150) (xd dX12_init 8 rfl) wIa (nI_pos (by decide)) (nI_clamp (by decide)) (show kd0 493 = 13 by decide +kernel) (show ln0 493 = 150 by decide +kernel) (z _ (Nat.le_refl _)).2.1 (by decide) (by omega) (by decide) (by decide) ?_
  have z := z.mono (Nat.le_succ _)
  show xJ _ _ _ _ _ _ _ _ _ 19 [(0, .ref (491))] [.ref (493), .ref (491)] true (494) R1 I L
  obtain ⟨R2, eR2⟩ : ∃ z_ : Nat → Nat → Option Nat, z_ = xu R1 (491) 6 (some (493)) := ⟨_, rfl⟩
  refine xr_putR2 12 6 eR2 (xd dX12_init 9 rfl) f12_13 (by decide) (by decide) (by omega) (show kd0 491 = 12 by decide +kernel) (by decide) (fun _ => rfl) (fun _ => rfl) (fun _ => rfl) ?_
  have z := z.re eR2 (by omega)
  refine xr_aload_n (xd dX12_init 10 rfl) 0 rfl ?_
  refine xr_sipush (v := nI 500) (xd dX12_init 11 rfl) (by decide) ?_
  refine xr_newI (N := 500) (xd dX12_init 12 rfl) wIa (nI_pos (by decide)) (nI_clamp (by decide)) (show kd0 494 = 13 by decide +kernel) (show ln0 494 = 500 by decide +kernel) (z _ (Nat.le_refl _)).2.1 (by decide) (by omega) (by decide) (by decide) ?_
  have z := z.mono (Nat.le_succ _)
  show xJ _ _ _ _ _ _ _ _ _ 28 [(0, .ref (491))] [.ref (494), .ref (491)] true (495) R2 I L
  obtain ⟨R3, eR3⟩ : ∃ z_ : Nat → Nat → Option Nat, z_ = xu R2 (491) 8 (some (494)) := ⟨_, rfl⟩
  refine xr_putR2 12 8 eR3 (xd dX12_init 13 rfl) f12_16 (by decide) (by decide) (by omega) (show kd0 491 = 12 by decide +kernel) (by decide) (fun _ => rfl) (fun _ => rfl) (fun _ => rfl) ?_
  have z := z.re eR3 (by omega)
  refine xr_aload_n (xd dX12_init 14 rfl) 0 rfl ?_
  refine xr_bipush (v := nI 8) (xd dX12_init 15 rfl) (by decide) ?_
  refine xr_newI (N := 8) (xd dX12_init 16 rfl) wIa (nI_pos (by decide)) (nI_clamp (by decide)) (show kd0 495 = 13 by decide +kernel) (show ln0 495 = 8 by decide +kernel) (z _ (Nat.le_refl _)).2.1 (by decide) (by omega) (by decide) (by decide) ?_
  have z := z.mono (Nat.le_succ _)
  show xJ _ _ _ _ _ _ _ _ _ 36 [(0, .ref (491))] [.ref (495), .ref (491)] true (496) R3 I L
  obtain ⟨R4, eR4⟩ : ∃ z_ : Nat → Nat → Option Nat, z_ = xu R3 (491) 10 (some (495)) := ⟨_, rfl⟩
  refine xr_putR2 12 10 eR4 (xd dX12_init 17 rfl) f12_19 (by decide) (by decide) (by omega) (show kd0 491 = 12 by decide +kernel) (by decide) (fun _ => rfl) (fun _ => rfl) (fun _ => rfl) ?_
  have z := z.re eR4 (by omega)
  refine xr_aload_n (xd dX12_init 18 rfl) 0 rfl ?_
  refine xr_bipush (v := nI 64) (xd dX12_init 19 rfl) (by decide) ?_
  refine xr_newI (N := 64) (xd dX12_init 20 rfl) wIa (nI_pos (by decide)) (nI_clamp (by decide)) (show kd0 496 = 13 by decide +kernel) (show ln0 496 = 64 by decide +kernel) (z _ (Nat.le_refl _)).2.1 (by decide) (by omega) (by decide) (by decide) ?_
  have z := z.mono (Nat.le_succ _)
  show xJ _ _ _ _ _ _ _ _ _ 44 [(0, .ref (491))] [.ref (496), .ref (491)] true (497) R4 I L
  obtain ⟨R5, eR5⟩ : ∃ z_ : Nat → Nat → Option Nat, z_ = xu R4 (491) 11 (some (496)) := ⟨_, rfl⟩
  refine xr_putR2 12 11 eR5 (xd dX12_init 21 rfl) f12_22 (by decide) (by decide) (by omega) (show kd0 491 = 12 by decide +kernel) (by decide) (fun _ => rfl) (fun _ => rfl) (fun _ => rfl) ?_
  have z := z.re eR5 (by omega)
  refine xr_aload_n (xd dX12_init 22 rfl) 0 rfl ?_
  refine xr_sipush (v := nI 1400) (xd dX12_init 23 rfl) (by decide) ?_
  refine xr_newI (N := 1400) (xd dX12_init 24 rfl) wIa (nI_pos (by decide)) (nI_clamp (by decide)) (show kd0 497 = 13 by decide +kernel) (show ln0 497 = 1400 by decide +kernel) (z _ (Nat.le_refl _)).2.1 (by decide) (by omega) (by decide) (by decide) ?_
  have z := z.mono (Nat.le_succ _)
  show xJ _ _ _ _ _ _ _ _ _ 53 [(0, .ref (491))] [.ref (497), .ref (491)] true (498) R5 I L
  obtain ⟨R6, eR6⟩ : ∃ z_ : Nat → Nat → Option Nat, z_ = xu R5 (491) 12 (some (497)) := ⟨_, rfl⟩
  refine xr_putR2 12 12 eR6 (xd dX12_init 25 rfl) f12_25 (by decide) (by decide) (by omega) (show kd0 491 = 12 by decide +kernel) (by decide) (fun _ => rfl) (fun _ => rfl) (fun _ => rfl) ?_
  have z := z.re eR6 (by omega)
  refine xr_aload_n (xd dX12_init 26 rfl) 0 rfl ?_
  refine xr_bipush (v := nI 8) (xd dX12_init 27 rfl) (by decide) ?_
  refine xr_newI (N := 8) (xd dX12_init 28 rfl) wIa (nI_pos (by decide)) (nI_clamp (by decide)) (show kd0 498 = 13 by decide +kernel) (show ln0 498 = 8 by decide +kernel) (z _ (Nat.le_refl _)).2.1 (by decide) (by omega) (by decide) (by decide) ?_
  have z := z.mono (Nat.le_succ _)
  show xJ _ _ _ _ _ _ _ _ _ 61 [(0, .ref (491))] [.ref (498), .ref (491)] true (499) R6 I L
  obtain ⟨R7, eR7⟩ : ∃ z_ : Nat → Nat → Option Nat, z_ = xu R6 (491) 14 (some (498)) := ⟨_, rfl⟩
  refine xr_putR2 12 14 eR7 (xd dX12_init 29 rfl) f12_28 (by decide) (by decide) (by omega) (show kd0 491 = 12 by decide +kernel) (by decide) (fun _ => rfl) (fun _ => rfl) (fun _ => rfl) ?_
  have z := z.re eR7 (by omega)
  refine xr_aload_n (xd dX12_init 30 rfl) 0 rfl ?_
  refine xr_bipush (v := nI 64) (xd dX12_init 31 rfl) (by decide) ?_
  refine xr_newI (N := 64) (xd dX12_init 32 rfl) wIa (nI_pos (by decide)) (nI_clamp (by decide)) (show kd0 499 = 13 by decide +kernel) (show ln0 499 = 64 by decide +kernel) (z _ (Nat.le_refl _)).2.1 (by decide) (by omega) (by decide) (by decide) ?_
  have z := z.mono (Nat.le_succ _)
  show xJ _ _ _ _ _ _ _ _ _ 69 [(0, .ref (491))] [.ref (499), .ref (491)] true (500) R7 I L
  obtain ⟨R8, eR8⟩ : ∃ z_ : Nat → Nat → Option Nat, z_ = xu R7 (491) 15 (some (499)) := ⟨_, rfl⟩
  refine xr_putR2 12 15 eR8 (xd dX12_init 33 rfl) f12_31 (by decide) (by decide) (by omega) (show kd0 491 = 12 by decide +kernel) (by decide) (fun _ => rfl) (fun _ => rfl) (fun _ => rfl) ?_
  have z := z.re eR8 (by omega)
  refine xr_aload_n (xd dX12_init 34 rfl) 0 rfl ?_
  refine xr_bipush (v := nI 32) (xd dX12_init 35 rfl) (by decide) ?_
  refine xr_newI (N := 32) (xd dX12_init 36 rfl) wIa (nI_pos (by decide)) (nI_clamp (by decide)) (show kd0 500 = 13 by decide +kernel) (show ln0 500 = 32 by decide +kernel) (z _ (Nat.le_refl _)).2.1 (by decide) (by omega) (by decide) (by decide) ?_
  have z := z.mono (Nat.le_succ _)
  show xJ _ _ _ _ _ _ _ _ _ 77 [(0, .ref (491))] [.ref (500), .ref (491)] true (501) R8 I L
  obtain ⟨R9, eR9⟩ : ∃ z_ : Nat → Nat → Option Nat, z_ = xu R8 (491) 16 (some (500)) := ⟨_, rfl⟩
  refine xr_putR2 12 16 eR9 (xd dX12_init 37 rfl) f12_34 (by decide) (by decide) (by omega) (show kd0 491 = 12 by decide +kernel) (by decide) (fun _ => rfl) (fun _ => rfl) (fun _ => rfl) ?_
  have z := z.re eR9 (by omega)
  refine xr_aload_n (xd dX12_init 38 rfl) 0 rfl ?_
  refine xr_bipush (v := nI 64) (xd dX12_init 39 rfl) (by decide) ?_
  refine xr_newI (N := 64) (xd dX12_init 40 rfl) wIa (nI_pos (by decide)) (nI_clamp (by decide)) (show kd0 501 = 13 by decide +kernel) (show ln0 501 = 64 by decide +kernel) (z _ (Nat.le_refl _)).2.1 (by decide) (by omega) (by decide) (by decide) ?_
  have z := z.mono (Nat.le_succ _)
  show xJ _ _ _ _ _ _ _ _ _ 85 [(0, .ref (491))] [.ref (501), .ref (491)] true (502) R9 I L
  obtain ⟨R10, eR10⟩ : ∃ z_ : Nat → Nat → Option Nat, z_ = xu R9 (491) 17 (some (501)) := ⟨_, rfl⟩
  refine xr_putR2 12 17 eR10 (xd dX12_init 41 rfl) f12_37 (by decide) (by decide) (by omega) (show kd0 491 = 12 by decide +kernel) (by decide) (fun _ => rfl) (fun _ => rfl) (fun _ => rfl) ?_
  have z := z.re eR10 (by omega)
  refine xr_aload_n (xd dX12_init 42 rfl) 0 rfl ?_
  refine xr_bipush (v := nI 32) (xd dX12_init 43 rfl) (by decide) ?_
  refine xr_newI (N := 32) (xd dX12_init 44 rfl) wIa (nI_pos (by decide)) (nI_clamp (by decide)) (show kd0 502 = 13 by decide +kernel) (show ln0 502 = 32 by decide +kernel) (z _ (Nat.le_refl _)).2.1 (by decide) (by omega) (by decide) (by decide) ?_
  have z := z.mono (Nat.le_succ _)
  show xJ _ _ _ _ _ _ _ _ _ 93 [(0, .ref (491))] [.ref (502), .ref (491)] true (503) R10 I L
  obtain ⟨R11, eR11⟩ : ∃ z_ : Nat → Nat → Option Nat, z_ = xu R10 (491) 18 (some (502)) := ⟨_, rfl⟩
  refine xr_putR2 12 18 eR11 (xd dX12_init 45 rfl) f12_40 (by decide) (by decide) (by omega) (show kd0 491 = 12 by decide +kernel) (by decide) (fun _ => rfl) (fun _ => rfl) (fun _ => rfl) ?_
  have z := z.re eR11 (by omega)
  refine xr_aload_n (xd dX12_init 46 rfl) 0 rfl ?_
  refine xr_iconst (v := nI 2) (xd dX12_init 47 rfl) (by decide) ?_
  refine xr_newI (N := 2) (xd dX12_init 48 rfl) wIa (nI_pos (by decide)) (nI_clamp (by decide)) (show kd0 503 = 13 by decide +kernel) (show ln0 503 = 2 by decide +kernel) (z _ (Nat.le_refl _)).2.1 (by decide) (by omega) (by decide) (by decide) ?_
  have z := z.mono (Nat.le_succ _)
  show xJ _ _ _ _ _ _ _ _ _ 100 [(0, .ref (491))] [.ref (503), .ref (491)] true (504) R11 I L
  obtain ⟨R12, eR12⟩ : ∃ z_ : Nat → Nat → Option Nat, z_ = xu R11 (491) 19 (some (503)) := ⟨_, rfl⟩
  refine xr_putR2 12 19 eR12 (xd dX12_init 49 rfl) f12_43 (by decide) (by decide) (by omega) (show kd0 491 = 12 by decide +kernel) (by decide) (fun _ => rfl) (fun _ => rfl) (fun _ => rfl) ?_
  have z := z.re eR12 (by omega)
  refine xr_aload_n (xd dX12_init 50 rfl) 0 rfl ?_
  refine xr_iconst (v := nI 2) (xd dX12_init 51 rfl) (by decide) ?_
  refine xr_newL (N := 2) (xd dX12_init 52 rfl) wLa (nI_pos (by decide)) (nI_clamp (by decide)) (show kd0 504 = 15 by decide +kernel) (show ln0 504 = 2 by decide +kernel) (z _ (Nat.le_refl _)).2.2 (by decide) (by omega) (by decide) (by decide) ?_
  have z := z.mono (Nat.le_succ _)
  show xJ _ _ _ _ _ _ _ _ _ 107 [(0, .ref (491))] [.ref (504), .ref (491)] true (505) R12 I L
  obtain ⟨R13, eR13⟩ : ∃ z_ : Nat → Nat → Option Nat, z_ = xu R12 (491) 20 (some (504)) := ⟨_, rfl⟩
  refine xr_putR2 12 20 eR13 (xd dX12_init 53 rfl) f12_46 (by decide) (by decide) (by omega) (show kd0 491 = 12 by decide +kernel) (by decide) (fun _ => rfl) (fun _ => rfl) (fun _ => rfl) ?_
  have z := z.re eR13 (by omega)
  refine xr_aload_n (xd dX12_init 54 rfl) 0 rfl ?_
  refine xr_iconst (v := nI 2) (xd dX12_init 55 rfl) (by decide) ?_
  refine xr_newL (N := 2) (xd dX12_init 56 rfl) wLa (nI_pos (by decide)) (nI_clamp (by decide)) (show kd0 505 = 15 by decide +kernel) (show ln0 505 = 2 by decide +kernel) (z _ (Nat.le_refl _)).2.2 (by decide) (by omega) (by decide) (by decide) ?_
  have z := z.mono (Nat.le_succ _)
  show xJ _ _ _ _ _ _ _ _ _ 114 [(0, .ref (491))] [.ref (505), .ref (491)] true (506) R13 I L
  obtain ⟨R14, eR14⟩ : ∃ z_ : Nat → Nat → Option Nat, z_ = xu R13 (491) 21 (some (505)) := ⟨_, rfl⟩
  refine xr_putR2 12 21 eR14 (xd dX12_init 57 rfl) f12_50 (by decide) (by decide) (by omega) (show kd0 491 = 12 by decide +kernel) (by decide) (fun _ => rfl) (fun _ => rfl) (fun _ => rfl) ?_
  have z := z.re eR14 (by omega)
  refine xr_aload_n (xd dX12_init 58 rfl) 0 rfl ?_
  refine xr_iconst (v := nI 2) (xd dX12_init 59 rfl) (by decide) ?_
  refine xr_newZ (N := 2) (xd dX12_init 60 rfl) wZa (nI_pos (by decide)) (nI_clamp (by decide)) (show kd0 506 = 14 by decide +kernel) (show ln0 506 = 2 by decide +kernel) (z _ (Nat.le_refl _)).2.1 (by decide) (by omega) (by decide) (by decide) ?_
  have z := z.mono (Nat.le_succ _)
  show xJ _ _ _ _ _ _ _ _ _ 121 [(0, .ref (491))] [.ref (506), .ref (491)] true (507) R14 I L
  obtain ⟨R15, eR15⟩ : ∃ z_ : Nat → Nat → Option Nat, z_ = xu R14 (491) 22 (some (506)) := ⟨_, rfl⟩
  refine xr_putR2 12 22 eR15 (xd dX12_init 61 rfl) f12_53 (by decide) (by decide) (by omega) (show kd0 491 = 12 by decide +kernel) (by decide) (fun _ => rfl) (fun _ => rfl) (fun _ => rfl) ?_
  have z := z.re eR15 (by omega)
  refine xr_aload_n (xd dX12_init 62 rfl) 0 rfl ?_
  refine xr_iconst (v := nI 2) (xd dX12_init 63 rfl) (by decide) ?_
  refine xr_newZ (N := 2) (xd dX12_init 64 rfl) wZa (nI_pos (by decide)) (nI_clamp (by decide)) (show kd0 507 = 14 by decide +kernel) (show ln0 507 = 2 by decide +kernel) (z _ (Nat.le_refl _)).2.1 (by decide) (by omega) (by decide) (by decide) ?_
  have z := z.mono (Nat.le_succ _)
  show xJ _ _ _ _ _ _ _ _ _ 128 [(0, .ref (491))] [.ref (507), .ref (491)] true (508) R15 I L
  obtain ⟨R16, eR16⟩ : ∃ z_ : Nat → Nat → Option Nat, z_ = xu R15 (491) 23 (some (507)) := ⟨_, rfl⟩
  refine xr_putR2 12 23 eR16 (xd dX12_init 65 rfl) f12_57 (by decide) (by decide) (by omega) (show kd0 491 = 12 by decide +kernel) (by decide) (fun _ => rfl) (fun _ => rfl) (fun _ => rfl) ?_
  have z := z.re eR16 (by omega)
  refine xr_aload_n (xd dX12_init 66 rfl) 0 rfl ?_
  refine xr_bipush (v := nI 32) (xd dX12_init 67 rfl) (by decide) ?_
  refine xr_newI (N := 32) (xd dX12_init 68 rfl) wIa (nI_pos (by decide)) (nI_clamp (by decide)) (show kd0 508 = 13 by decide +kernel) (show ln0 508 = 32 by decide +kernel) (z _ (Nat.le_refl _)).2.1 (by decide) (by omega) (by decide) (by decide) ?_
  have z := z.mono (Nat.le_succ _)
  show xJ _ _ _ _ _ _ _ _ _ 136 [(0, .ref (491))] [.ref (508), .ref (491)] true (509) R16 I L
  obtain ⟨R17, eR17⟩ : ∃ z_ : Nat → Nat → Option Nat, z_ = xu R16 (491) 24 (some (508)) := ⟨_, rfl⟩
  refine xr_putR2 12 24 eR17 (xd dX12_init 69 rfl) f12_60 (by decide) (by decide) (by omega) (show kd0 491 = 12 by decide +kernel) (by decide) (fun _ => rfl) (fun _ => rfl) (fun _ => rfl) ?_
  have z := z.re eR17 (by omega)
  refine xr_aload_n (xd dX12_init 70 rfl) 0 rfl ?_
  refine xr_iconst (v := nI 2) (xd dX12_init 71 rfl) (by decide) ?_
  refine xr_newI (N := 2) (xd dX12_init 72 rfl) wIa (nI_pos (by decide)) (nI_clamp (by decide)) (show kd0 509 = 13 by decide +kernel) (show ln0 509 = 2 by decide +kernel) (z _ (Nat.le_refl _)).2.1 (by decide) (by omega) (by decide) (by decide) ?_
  have z := z.mono (Nat.le_succ _)
  show xJ _ _ _ _ _ _ _ _ _ 143 [(0, .ref (491))] [.ref (509), .ref (491)] true (510) R17 I L
  obtain ⟨R18, eR18⟩ : ∃ z_ : Nat → Nat → Option Nat, z_ = xu R17 (491) 25 (some (509)) := ⟨_, rfl⟩
  refine xr_putR2 12 25 eR18 (xd dX12_init 73 rfl) f12_63 (by decide) (by decide) (by omega) (show kd0 491 = 12 by decide +kernel) (by decide) (fun _ => rfl) (fun _ => rfl) (fun _ => rfl) ?_
  have z := z.re eR18 (by omega)
  refine xr_aload_n (xd dX12_init 74 rfl) 0 rfl ?_
  refine xr_bipush (v := nI 120) (xd dX12_init 75 rfl) (by decide) ?_
  refine xr_newI (N := 120) (xd dX12_init 76 rfl) wIa (nI_pos (by decide)) (nI_clamp (by decide)) (show kd0 510 = 13 by decide +kernel) (show ln0 510 = 120 by decide +kernel) (z _ (Nat.le_refl _)).2.1 (by decide) (by omega) (by decide) (by decide) ?_
  have z := z.mono (Nat.le_succ _)
  show xJ _ _ _ _ _ _ _ _ _ 151 [(0, .ref (491))] [.ref (510), .ref (491)] true (511) R18 I L
  obtain ⟨R19, eR19⟩ : ∃ z_ : Nat → Nat → Option Nat, z_ = xu R18 (491) 26 (some (510)) := ⟨_, rfl⟩
  refine xr_putR2 12 26 eR19 (xd dX12_init 77 rfl) f12_66 (by decide) (by decide) (by omega) (show kd0 491 = 12 by decide +kernel) (by decide) (fun _ => rfl) (fun _ => rfl) (fun _ => rfl) ?_
  have z := z.re eR19 (by omega)
  refine xr_aload_n (xd dX12_init 78 rfl) 0 rfl ?_
  refine xr_ldc (v := nI 60000) (xd dX12_init 79 rfl) (xt_6 (j := 218) (by decide +kernel) (by decide +kernel)) ?_
  refine xr_newI (N := 60000) (xd dX12_init 80 rfl) wIa (nI_pos (by decide)) (nI_clamp (by decide)) (show kd0 511 = 13 by decide +kernel) (show ln0 511 = 60000 by decide +kernel) (z _ (Nat.le_refl _)).2.1 (by decide) (by omega) (by decide) (by decide) ?_
  have z := z.mono (Nat.le_succ _)
  show xJ _ _ _ _ _ _ _ _ _ 159 [(0, .ref (491))] [.ref (511), .ref (491)] true (512) R19 I L
  obtain ⟨R20, eR20⟩ : ∃ z_ : Nat → Nat → Option Nat, z_ = xu R19 (491) 27 (some (511)) := ⟨_, rfl⟩
  refine xr_putR2 12 27 eR20 (xd dX12_init 81 rfl) f12_70 (by decide) (by decide) (by omega) (show kd0 491 = 12 by decide +kernel) (by decide) (fun _ => rfl) (fun _ => rfl) (fun _ => rfl) ?_
  have z := z.re eR20 (by omega)
  refine xr_aload_n (xd dX12_init 82 rfl) 0 rfl ?_
  refine xr_iconst (v := nI 2) (xd dX12_init 83 rfl) (by decide) ?_
  refine xr_newI (N := 2) (xd dX12_init 84 rfl) wIa (nI_pos (by decide)) (nI_clamp (by decide)) (show kd0 512 = 13 by decide +kernel) (show ln0 512 = 2 by decide +kernel) (z _ (Nat.le_refl _)).2.1 (by decide) (by omega) (by decide) (by decide) ?_
  have z := z.mono (Nat.le_succ _)
  show xJ _ _ _ _ _ _ _ _ _ 166 [(0, .ref (491))] [.ref (512), .ref (491)] true (513) R20 I L
  obtain ⟨R21, eR21⟩ : ∃ z_ : Nat → Nat → Option Nat, z_ = xu R20 (491) 28 (some (512)) := ⟨_, rfl⟩
  refine xr_putR2 12 28 eR21 (xd dX12_init 85 rfl) f12_73 (by decide) (by decide) (by omega) (show kd0 491 = 12 by decide +kernel) (by decide) (fun _ => rfl) (fun _ => rfl) (fun _ => rfl) ?_
  have z := z.re eR21 (by omega)
  refine xr_aload_n (xd dX12_init 86 rfl) 0 rfl ?_
  refine xr_sipush (v := nI 600) (xd dX12_init 87 rfl) (by decide) ?_
  refine xr_newI (N := 600) (xd dX12_init 88 rfl) wIa (nI_pos (by decide)) (nI_clamp (by decide)) (show kd0 513 = 13 by decide +kernel) (show ln0 513 = 600 by decide +kernel) (z _ (Nat.le_refl _)).2.1 (by decide) (by omega) (by decide) (by decide) ?_
  have z := z.mono (Nat.le_succ _)
  show xJ _ _ _ _ _ _ _ _ _ 175 [(0, .ref (491))] [.ref (513), .ref (491)] true (514) R21 I L
  obtain ⟨R22, eR22⟩ : ∃ z_ : Nat → Nat → Option Nat, z_ = xu R21 (491) 29 (some (513)) := ⟨_, rfl⟩
  refine xr_putR2 12 29 eR22 (xd dX12_init 89 rfl) f12_76 (by decide) (by decide) (by omega) (show kd0 491 = 12 by decide +kernel) (by decide) (fun _ => rfl) (fun _ => rfl) (fun _ => rfl) ?_
  have z := z.re eR22 (by omega)
  refine xr_aload_n (xd dX12_init 90 rfl) 0 rfl ?_
  refine xr_bipush (v := nI 8) (xd dX12_init 91 rfl) (by decide) ?_
  refine xr_newI (N := 8) (xd dX12_init 92 rfl) wIa (nI_pos (by decide)) (nI_clamp (by decide)) (show kd0 514 = 13 by decide +kernel) (show ln0 514 = 8 by decide +kernel) (z _ (Nat.le_refl _)).2.1 (by decide) (by omega) (by decide) (by decide) ?_
  have z := z.mono (Nat.le_succ _)
  show xJ _ _ _ _ _ _ _ _ _ 183 [(0, .ref (491))] [.ref (514), .ref (491)] true (515) R22 I L
  obtain ⟨R23, eR23⟩ : ∃ z_ : Nat → Nat → Option Nat, z_ = xu R22 (491) 31 (some (514)) := ⟨_, rfl⟩
  refine xr_putR2 12 31 eR23 (xd dX12_init 93 rfl) f12_79 (by decide) (by decide) (by omega) (show kd0 491 = 12 by decide +kernel) (by decide) (fun _ => rfl) (fun _ => rfl) (fun _ => rfl) ?_
  have z := z.re eR23 (by omega)
  refine xr_aload_n (xd dX12_init 94 rfl) 0 rfl ?_
  refine xr_sipush (v := nI 300) (xd dX12_init 95 rfl) (by decide) ?_
  refine xr_newI (N := 300) (xd dX12_init 96 rfl) wIa (nI_pos (by decide)) (nI_clamp (by decide)) (show kd0 515 = 13 by decide +kernel) (show ln0 515 = 300 by decide +kernel) (z _ (Nat.le_refl _)).2.1 (by decide) (by omega) (by decide) (by decide) ?_
  have z := z.mono (Nat.le_succ _)
  show xJ _ _ _ _ _ _ _ _ _ 192 [(0, .ref (491))] [.ref (515), .ref (491)] true (516) R23 I L
  obtain ⟨R24, eR24⟩ : ∃ z_ : Nat → Nat → Option Nat, z_ = xu R23 (491) 32 (some (515)) := ⟨_, rfl⟩
  refine xr_putR2 12 32 eR24 (xd dX12_init 97 rfl) f12_82 (by decide) (by decide) (by omega) (show kd0 491 = 12 by decide +kernel) (by decide) (fun _ => rfl) (fun _ => rfl) (fun _ => rfl) ?_
  have z := z.re eR24 (by omega)
  refine xr_aload_n (xd dX12_init 98 rfl) 0 rfl ?_
  refine xr_sipush (v := nI 520) (xd dX12_init 99 rfl) (by decide) ?_
  refine xr_newI (N := 520) (xd dX12_init 100 rfl) wIa (nI_pos (by decide)) (nI_clamp (by decide)) (show kd0 516 = 13 by decide +kernel) (show ln0 516 = 520 by decide +kernel) (z _ (Nat.le_refl _)).2.1 (by decide) (by omega) (by decide) (by decide) ?_
  have z := z.mono (Nat.le_succ _)
  show xJ _ _ _ _ _ _ _ _ _ 201 [(0, .ref (491))] [.ref (516), .ref (491)] true (517) R24 I L
  obtain ⟨R25, eR25⟩ : ∃ z_ : Nat → Nat → Option Nat, z_ = xu R24 (491) 34 (some (516)) := ⟨_, rfl⟩
  refine xr_putR2 12 34 eR25 (xd dX12_init 101 rfl) f12_85 (by decide) (by decide) (by omega) (show kd0 491 = 12 by decide +kernel) (by decide) (fun _ => rfl) (fun _ => rfl) (fun _ => rfl) ?_
  have z := z.re eR25 (by omega)
  refine xr_aload_n (xd dX12_init 102 rfl) 0 rfl ?_
  refine xr_iconst (v := nI 2) (xd dX12_init 103 rfl) (by decide) ?_
  refine xr_newI (N := 2) (xd dX12_init 104 rfl) wIa (nI_pos (by decide)) (nI_clamp (by decide)) (show kd0 517 = 13 by decide +kernel) (show ln0 517 = 2 by decide +kernel) (z _ (Nat.le_refl _)).2.1 (by decide) (by omega) (by decide) (by decide) ?_
  have z := z.mono (Nat.le_succ _)
  show xJ _ _ _ _ _ _ _ _ _ 208 [(0, .ref (491))] [.ref (517), .ref (491)] true (518) R25 I L
  obtain ⟨R26, eR26⟩ : ∃ z_ : Nat → Nat → Option Nat, z_ = xu R25 (491) 35 (some (517)) := ⟨_, rfl⟩
  refine xr_putR2 12 35 eR26 (xd dX12_init 105 rfl) f12_88 (by decide) (by decide) (by omega) (show kd0 491 = 12 by decide +kernel) (by decide) (fun _ => rfl) (fun _ => rfl) (fun _ => rfl) ?_
  have z := z.re eR26 (by omega)
  refine xr_aload_n (xd dX12_init 106 rfl) 0 rfl ?_
  refine xr_bipush (v := nI 6) (xd dX12_init 107 rfl) (by decide) ?_
  refine xr_newI (N := 6) (xd dX12_init 108 rfl) wIa (nI_pos (by decide)) (nI_clamp (by decide)) (show kd0 518 = 13 by decide +kernel) (show ln0 518 = 6 by decide +kernel) (z _ (Nat.le_refl _)).2.1 (by decide) (by omega) (by decide) (by decide) ?_
  have z := z.mono (Nat.le_succ _)
  show xJ _ _ _ _ _ _ _ _ _ 216 [(0, .ref (491))] [.ref (518), .ref (491)] true (519) R26 I L
  obtain ⟨R27, eR27⟩ : ∃ z_ : Nat → Nat → Option Nat, z_ = xu R26 (491) 36 (some (518)) := ⟨_, rfl⟩
  refine xr_putR2 12 36 eR27 (xd dX12_init 109 rfl) f12_91 (by decide) (by decide) (by omega) (show kd0 491 = 12 by decide +kernel) (by decide) (fun _ => rfl) (fun _ => rfl) (fun _ => rfl) ?_
  have z := z.re eR27 (by omega)
  refine xr_aload_n (xd dX12_init 110 rfl) 0 rfl ?_
  refine xr_bipush (v := nI 6) (xd dX12_init 111 rfl) (by decide) ?_
  refine xr_newI (N := 6) (xd dX12_init 112 rfl) wIa (nI_pos (by decide)) (nI_clamp (by decide)) (show kd0 519 = 13 by decide +kernel) (show ln0 519 = 6 by decide +kernel) (z _ (Nat.le_refl _)).2.1 (by decide) (by omega) (by decide) (by decide) ?_
  have z := z.mono (Nat.le_succ _)
  show xJ _ _ _ _ _ _ _ _ _ 224 [(0, .ref (491))] [.ref (519), .ref (491)] true (520) R27 I L
  obtain ⟨R28, eR28⟩ : ∃ z_ : Nat → Nat → Option Nat, z_ = xu R27 (491) 37 (some (519)) := ⟨_, rfl⟩
  refine xr_putR2 12 37 eR28 (xd dX12_init 113 rfl) f12_94 (by decide) (by decide) (by omega) (show kd0 491 = 12 by decide +kernel) (by decide) (fun _ => rfl) (fun _ => rfl) (fun _ => rfl) ?_
  have z := z.re eR28 (by omega)
  refine xr_aload_n (xd dX12_init 114 rfl) 0 rfl ?_
  refine xr_bipush (v := nI 6) (xd dX12_init 115 rfl) (by decide) ?_
  refine xr_newI (N := 6) (xd dX12_init 116 rfl) wIa (nI_pos (by decide)) (nI_clamp (by decide)) (show kd0 520 = 13 by decide +kernel) (show ln0 520 = 6 by decide +kernel) (z _ (Nat.le_refl _)).2.1 (by decide) (by omega) (by decide) (by decide) ?_
  have z := z.mono (Nat.le_succ _)
  show xJ _ _ _ _ _ _ _ _ _ 232 [(0, .ref (491))] [.ref (520), .ref (491)] true (521) R28 I L
  obtain ⟨R29, eR29⟩ : ∃ z_ : Nat → Nat → Option Nat, z_ = xu R28 (491) 38 (some (520)) := ⟨_, rfl⟩
  refine xr_putR2 12 38 eR29 (xd dX12_init 117 rfl) f12_97 (by decide) (by decide) (by omega) (show kd0 491 = 12 by decide +kernel) (by decide) (fun _ => rfl) (fun _ => rfl) (fun _ => rfl) ?_
  have z := z.re eR29 (by omega)
  refine xr_aload_n (xd dX12_init 118 rfl) 0 rfl ?_
  refine xr_sipush (v := nI 1200) (xd dX12_init 119 rfl) (by decide) ?_
  refine xr_newZ (N := 1200) (xd dX12_init 120 rfl) wZa (nI_pos (by decide)) (nI_clamp (by decide)) (show kd0 521 = 14 by decide +kernel) (show ln0 521 = 1200 by decide +kernel) (z _ (Nat.le_refl _)).2.1 (by decide) (by omega) (by decide) (by decide) ?_
  have z := z.mono (Nat.le_succ _)
  show xJ _ _ _ _ _ _ _ _ _ 241 [(0, .ref (491))] [.ref (521), .ref (491)] true (522) R29 I L
  obtain ⟨R30, eR30⟩ : ∃ z_ : Nat → Nat → Option Nat, z_ = xu R29 (491) 39 (some (521)) := ⟨_, rfl⟩
  refine xr_putR2 12 39 eR30 (xd dX12_init 121 rfl) f12_100 (by decide) (by decide) (by omega) (show kd0 491 = 12 by decide +kernel) (by decide) (fun _ => rfl) (fun _ => rfl) (fun _ => rfl) ?_
  have z := z.re eR30 (by omega)
  refine xr_aload_n (xd dX12_init 122 rfl) 0 rfl ?_
  refine xr_iconst (v := nI 2) (xd dX12_init 123 rfl) (by decide) ?_
  refine xr_newZ (N := 2) (xd dX12_init 124 rfl) wZa (nI_pos (by decide)) (nI_clamp (by decide)) (show kd0 522 = 14 by decide +kernel) (show ln0 522 = 2 by decide +kernel) (z _ (Nat.le_refl _)).2.1 (by decide) (by omega) (by decide) (by decide) ?_
  have z := z.mono (Nat.le_succ _)
  show xJ _ _ _ _ _ _ _ _ _ 248 [(0, .ref (491))] [.ref (522), .ref (491)] true (523) R30 I L
  obtain ⟨R31, eR31⟩ : ∃ z_ : Nat → Nat → Option Nat, z_ = xu R30 (491) 40 (some (522)) := ⟨_, rfl⟩
  refine xr_putR2 12 40 eR31 (xd dX12_init 125 rfl) f12_103 (by decide) (by decide) (by omega) (show kd0 491 = 12 by decide +kernel) (by decide) (fun _ => rfl) (fun _ => rfl) (fun _ => rfl) ?_
  have z := z.re eR31 (by omega)
  refine xr_aload_n (xd dX12_init 126 rfl) 0 rfl ?_
  refine xr_iconst (v := nI 2) (xd dX12_init 127 rfl) (by decide) ?_
  refine xr_newZ (N := 2) (xd dX12_init 128 rfl) wZa (nI_pos (by decide)) (nI_clamp (by decide)) (show kd0 523 = 14 by decide +kernel) (show ln0 523 = 2 by decide +kernel) (z _ (Nat.le_refl _)).2.1 (by decide) (by omega) (by decide) (by decide) ?_
  have z := z.mono (Nat.le_succ _)
  show xJ _ _ _ _ _ _ _ _ _ 255 [(0, .ref (491))] [.ref (523), .ref (491)] true (524) R31 I L
  obtain ⟨R32, eR32⟩ : ∃ z_ : Nat → Nat → Option Nat, z_ = xu R31 (491) 41 (some (523)) := ⟨_, rfl⟩
  refine xr_putR2 12 41 eR32 (xd dX12_init 129 rfl) f12_106 (by decide) (by decide) (by omega) (show kd0 491 = 12 by decide +kernel) (by decide) (fun _ => rfl) (fun _ => rfl) (fun _ => rfl) ?_
  have z := z.re eR32 (by omega)
  refine xr_aload_n (xd dX12_init 130 rfl) 0 rfl ?_
  refine xr_iconst (v := nI 2) (xd dX12_init 131 rfl) (by decide) ?_
  refine xr_newI (N := 2) (xd dX12_init 132 rfl) wIa (nI_pos (by decide)) (nI_clamp (by decide)) (show kd0 524 = 13 by decide +kernel) (show ln0 524 = 2 by decide +kernel) (z _ (Nat.le_refl _)).2.1 (by decide) (by omega) (by decide) (by decide) ?_
  have z := z.mono (Nat.le_succ _)
  show xJ _ _ _ _ _ _ _ _ _ 262 [(0, .ref (491))] [.ref (524), .ref (491)] true (525) R32 I L
  obtain ⟨R33, eR33⟩ : ∃ z_ : Nat → Nat → Option Nat, z_ = xu R32 (491) 42 (some (524)) := ⟨_, rfl⟩
  refine xr_putR2 12 42 eR33 (xd dX12_init 133 rfl) f12_109 (by decide) (by decide) (by omega) (show kd0 491 = 12 by decide +kernel) (by decide) (fun _ => rfl) (fun _ => rfl) (fun _ => rfl) ?_
  have z := z.re eR33 (by omega)
  refine xr_aload_n (xd dX12_init 134 rfl) 0 rfl ?_
  refine xr_iconst (v := nI 2) (xd dX12_init 135 rfl) (by decide) ?_
  refine xr_newI (N := 2) (xd dX12_init 136 rfl) wIa (nI_pos (by decide)) (nI_clamp (by decide)) (show kd0 525 = 13 by decide +kernel) (show ln0 525 = 2 by decide +kernel) (z _ (Nat.le_refl _)).2.1 (by decide) (by omega) (by decide) (by decide) ?_
  have z := z.mono (Nat.le_succ _)
  show xJ _ _ _ _ _ _ _ _ _ 269 [(0, .ref (491))] [.ref (525), .ref (491)] true (526) R33 I L
  obtain ⟨R34, eR34⟩ : ∃ z_ : Nat → Nat → Option Nat, z_ = xu R33 (491) 43 (some (525)) := ⟨_, rfl⟩
  refine xr_putR2 12 43 eR34 (xd dX12_init 137 rfl) f12_112 (by decide) (by decide) (by omega) (show kd0 491 = 12 by decide +kernel) (by decide) (fun _ => rfl) (fun _ => rfl) (fun _ => rfl) ?_
  have z := z.re eR34 (by omega)
  refine xr_aload_n (xd dX12_init 138 rfl) 0 rfl ?_
  refine xr_iconst (v := nI 2) (xd dX12_init 139 rfl) (by decide) ?_
  refine xr_newI (N := 2) (xd dX12_init 140 rfl) wIa (nI_pos (by decide)) (nI_clamp (by decide)) (show kd0 526 = 13 by decide +kernel) (show ln0 526 = 2 by decide +kernel) (z _ (Nat.le_refl _)).2.1 (by decide) (by omega) (by decide) (by decide) ?_
  have z := z.mono (Nat.le_succ _)
  show xJ _ _ _ _ _ _ _ _ _ 276 [(0, .ref (491))] [.ref (526), .ref (491)] true (527) R34 I L
  obtain ⟨R35, eR35⟩ : ∃ z_ : Nat → Nat → Option Nat, z_ = xu R34 (491) 44 (some (526)) := ⟨_, rfl⟩
  refine xr_putR2 12 44 eR35 (xd dX12_init 141 rfl) f12_115 (by decide) (by decide) (by omega) (show kd0 491 = 12 by decide +kernel) (by decide) (fun _ => rfl) (fun _ => rfl) (fun _ => rfl) ?_
  have z := z.re eR35 (by omega)
  refine xr_aload_n (xd dX12_init 142 rfl) 0 rfl ?_
  refine xr_iconst (v := nI 2) (xd dX12_init 143 rfl) (by decide) ?_
  refine xr_newI (N := 2) (xd dX12_init 144 rfl) wIa (nI_pos (by decide)) (nI_clamp (by decide)) (show kd0 527 = 13 by decide +kernel) (show ln0 527 = 2 by decide +kernel) (z _ (Nat.le_refl _)).2.1 (by decide) (by omega) (by decide) (by decide) ?_
  have z := z.mono (Nat.le_succ _)
  show xJ _ _ _ _ _ _ _ _ _ 283 [(0, .ref (491))] [.ref (527), .ref (491)] true (528) R35 I L
  obtain ⟨R36, eR36⟩ : ∃ z_ : Nat → Nat → Option Nat, z_ = xu R35 (491) 45 (some (527)) := ⟨_, rfl⟩
  refine xr_putR2 12 45 eR36 (xd dX12_init 145 rfl) f12_118 (by decide) (by decide) (by omega) (show kd0 491 = 12 by decide +kernel) (by decide) (fun _ => rfl) (fun _ => rfl) (fun _ => rfl) ?_
  have z := z.re eR36 (by omega)
  refine xr_aload_n (xd dX12_init 146 rfl) 0 rfl ?_
  refine xr_iconst (v := nI 2) (xd dX12_init 147 rfl) (by decide) ?_
  refine xr_newI (N := 2) (xd dX12_init 148 rfl) wIa (nI_pos (by decide)) (nI_clamp (by decide)) (show kd0 528 = 13 by decide +kernel) (show ln0 528 = 2 by decide +kernel) (z _ (Nat.le_refl _)).2.1 (by decide) (by omega) (by decide) (by decide) ?_
  have z := z.mono (Nat.le_succ _)
  show xJ _ _ _ _ _ _ _ _ _ 290 [(0, .ref (491))] [.ref (528), .ref (491)] true (529) R36 I L
  obtain ⟨R37, eR37⟩ : ∃ z_ : Nat → Nat → Option Nat, z_ = xu R36 (491) 46 (some (528)) := ⟨_, rfl⟩
  refine xr_putR2 12 46 eR37 (xd dX12_init 149 rfl) f12_121 (by decide) (by decide) (by omega) (show kd0 491 = 12 by decide +kernel) (by decide) (fun _ => rfl) (fun _ => rfl) (fun _ => rfl) ?_
  have z := z.re eR37 (by omega)
  refine xr_aload_n (xd dX12_init 150 rfl) 0 rfl ?_
  refine xr_sipush (v := nI 20000) (xd dX12_init 151 rfl) (by decide) ?_
  refine xr_newI (N := 20000) (xd dX12_init 152 rfl) wIa (nI_pos (by decide)) (nI_clamp (by decide)) (show kd0 529 = 13 by decide +kernel) (show ln0 529 = 20000 by decide +kernel) (z _ (Nat.le_refl _)).2.1 (by decide) (by omega) (by decide) (by decide) ?_
  have z := z.mono (Nat.le_succ _)
  show xJ _ _ _ _ _ _ _ _ _ 299 [(0, .ref (491))] [.ref (529), .ref (491)] true (530) R37 I L
  obtain ⟨R38, eR38⟩ : ∃ z_ : Nat → Nat → Option Nat, z_ = xu R37 (491) 47 (some (529)) := ⟨_, rfl⟩
  refine xr_putR2 12 47 eR38 (xd dX12_init 153 rfl) f12_124 (by decide) (by decide) (by omega) (show kd0 491 = 12 by decide +kernel) (by decide) (fun _ => rfl) (fun _ => rfl) (fun _ => rfl) ?_
  have z := z.re eR38 (by omega)
  refine xr_aload_n (xd dX12_init 154 rfl) 0 rfl ?_
  refine xr_iconst (v := nI 2) (xd dX12_init 155 rfl) (by decide) ?_
  refine xr_newI (N := 2) (xd dX12_init 156 rfl) wIa (nI_pos (by decide)) (nI_clamp (by decide)) (show kd0 530 = 13 by decide +kernel) (show ln0 530 = 2 by decide +kernel) (z _ (Nat.le_refl _)).2.1 (by decide) (by omega) (by decide) (by decide) ?_
  have z := z.mono (Nat.le_succ _)
  show xJ _ _ _ _ _ _ _ _ _ 306 [(0, .ref (491))] [.ref (530), .ref (491)] true (531) R38 I L
  obtain ⟨R39, eR39⟩ : ∃ z_ : Nat → Nat → Option Nat, z_ = xu R38 (491) 48 (some (530)) := ⟨_, rfl⟩
  refine xr_putR2 12 48 eR39 (xd dX12_init 157 rfl) f12_127 (by decide) (by decide) (by omega) (show kd0 491 = 12 by decide +kernel) (by decide) (fun _ => rfl) (fun _ => rfl) (fun _ => rfl) ?_
  have z := z.re eR39 (by omega)
  refine xr_aload_n (xd dX12_init 158 rfl) 0 rfl ?_
  refine xr_bipush (v := nI 16) (xd dX12_init 159 rfl) (by decide) ?_
  refine xr_newI (N := 16) (xd dX12_init 160 rfl) wIa (nI_pos (by decide)) (nI_clamp (by decide)) (show kd0 531 = 13 by decide +kernel) (show ln0 531 = 16 by decide +kernel) (z _ (Nat.le_refl _)).2.1 (by decide) (by omega) (by decide) (by decide) ?_
  have z := z.mono (Nat.le_succ _)
  show xJ _ _ _ _ _ _ _ _ _ 314 [(0, .ref (491))] [.ref (531), .ref (491)] true (532) R39 I L
  obtain ⟨R40, eR40⟩ : ∃ z_ : Nat → Nat → Option Nat, z_ = xu R39 (491) 49 (some (531)) := ⟨_, rfl⟩
  refine xr_putR2 12 49 eR40 (xd dX12_init 161 rfl) f12_130 (by decide) (by decide) (by omega) (show kd0 491 = 12 by decide +kernel) (by decide) (fun _ => rfl) (fun _ => rfl) (fun _ => rfl) ?_
  have z := z.re eR40 (by omega)
  refine xr_aload_n (xd dX12_init 162 rfl) 0 rfl ?_
  refine xr_bipush (v := nI 16) (xd dX12_init 163 rfl) (by decide) ?_
  refine xr_newI (N := 16) (xd dX12_init 164 rfl) wIa (nI_pos (by decide)) (nI_clamp (by decide)) (show kd0 532 = 13 by decide +kernel) (show ln0 532 = 16 by decide +kernel) (z _ (Nat.le_refl _)).2.1 (by decide) (by omega) (by decide) (by decide) ?_
  have z := z.mono (Nat.le_succ _)
  show xJ _ _ _ _ _ _ _ _ _ 322 [(0, .ref (491))] [.ref (532), .ref (491)] true (533) R40 I L
  obtain ⟨R41, eR41⟩ : ∃ z_ : Nat → Nat → Option Nat, z_ = xu R40 (491) 50 (some (532)) := ⟨_, rfl⟩
  refine xr_putR2 12 50 eR41 (xd dX12_init 165 rfl) f12_133 (by decide) (by decide) (by omega) (show kd0 491 = 12 by decide +kernel) (by decide) (fun _ => rfl) (fun _ => rfl) (fun _ => rfl) ?_
  have z := z.re eR41 (by omega)
  refine xr_aload_n (xd dX12_init 166 rfl) 0 rfl ?_
  refine xr_iconst (v := nI 2) (xd dX12_init 167 rfl) (by decide) ?_
  refine xr_newI (N := 2) (xd dX12_init 168 rfl) wIa (nI_pos (by decide)) (nI_clamp (by decide)) (show kd0 533 = 13 by decide +kernel) (show ln0 533 = 2 by decide +kernel) (z _ (Nat.le_refl _)).2.1 (by decide) (by omega) (by decide) (by decide) ?_
  have z := z.mono (Nat.le_succ _)
  show xJ _ _ _ _ _ _ _ _ _ 329 [(0, .ref (491))] [.ref (533), .ref (491)] true (534) R41 I L
  obtain ⟨R42, eR42⟩ : ∃ z_ : Nat → Nat → Option Nat, z_ = xu R41 (491) 51 (some (533)) := ⟨_, rfl⟩
  refine xr_putR2 12 51 eR42 (xd dX12_init 169 rfl) f12_136 (by decide) (by decide) (by omega) (show kd0 491 = 12 by decide +kernel) (by decide) (fun _ => rfl) (fun _ => rfl) (fun _ => rfl) ?_
  have z := z.re eR42 (by omega)
  refine xr_aload_n (xd dX12_init 170 rfl) 0 rfl ?_
  refine xr_iconst (v := nI 2) (xd dX12_init 171 rfl) (by decide) ?_
  refine xr_newI (N := 2) (xd dX12_init 172 rfl) wIa (nI_pos (by decide)) (nI_clamp (by decide)) (show kd0 534 = 13 by decide +kernel) (show ln0 534 = 2 by decide +kernel) (z _ (Nat.le_refl _)).2.1 (by decide) (by omega) (by decide) (by decide) ?_
  have z := z.mono (Nat.le_succ _)
  show xJ _ _ _ _ _ _ _ _ _ 336 [(0, .ref (491))] [.ref (534), .ref (491)] true (535) R42 I L
  obtain ⟨R43, eR43⟩ : ∃ z_ : Nat → Nat → Option Nat, z_ = xu R42 (491) 52 (some (534)) := ⟨_, rfl⟩
  refine xr_putR2 12 52 eR43 (xd dX12_init 173 rfl) f12_139 (by decide) (by decide) (by omega) (show kd0 491 = 12 by decide +kernel) (by decide) (fun _ => rfl) (fun _ => rfl) (fun _ => rfl) ?_
  have z := z.re eR43 (by omega)
  refine xr_aload_n (xd dX12_init 174 rfl) 0 rfl ?_
  refine xr_iconst (v := nI 2) (xd dX12_init 175 rfl) (by decide) ?_
  refine xr_newI (N := 2) (xd dX12_init 176 rfl) wIa (nI_pos (by decide)) (nI_clamp (by decide)) (show kd0 535 = 13 by decide +kernel) (show ln0 535 = 2 by decide +kernel) (z _ (Nat.le_refl _)).2.1 (by decide) (by omega) (by decide) (by decide) ?_
  have z := z.mono (Nat.le_succ _)
  show xJ _ _ _ _ _ _ _ _ _ 343 [(0, .ref (491))] [.ref (535), .ref (491)] true (536) R43 I L
  obtain ⟨R44, eR44⟩ : ∃ z_ : Nat → Nat → Option Nat, z_ = xu R43 (491) 53 (some (535)) := ⟨_, rfl⟩
  refine xr_putR2 12 53 eR44 (xd dX12_init 177 rfl) f12_142 (by decide) (by decide) (by omega) (show kd0 491 = 12 by decide +kernel) (by decide) (fun _ => rfl) (fun _ => rfl) (fun _ => rfl) ?_
  have z := z.re eR44 (by omega)
  refine xr_aload_n (xd dX12_init 178 rfl) 0 rfl ?_
  refine xr_iconst (v := nI 2) (xd dX12_init 179 rfl) (by decide) ?_
  refine xr_newI (N := 2) (xd dX12_init 180 rfl) wIa (nI_pos (by decide)) (nI_clamp (by decide)) (show kd0 536 = 13 by decide +kernel) (show ln0 536 = 2 by decide +kernel) (z _ (Nat.le_refl _)).2.1 (by decide) (by omega) (by decide) (by decide) ?_
  have z := z.mono (Nat.le_succ _)
  show xJ _ _ _ _ _ _ _ _ _ 350 [(0, .ref (491))] [.ref (536), .ref (491)] true (537) R44 I L
  obtain ⟨R45, eR45⟩ : ∃ z_ : Nat → Nat → Option Nat, z_ = xu R44 (491) 54 (some (536)) := ⟨_, rfl⟩
  refine xr_putR2 12 54 eR45 (xd dX12_init 181 rfl) f12_145 (by decide) (by decide) (by omega) (show kd0 491 = 12 by decide +kernel) (by decide) (fun _ => rfl) (fun _ => rfl) (fun _ => rfl) ?_
  have z := z.re eR45 (by omega)
  refine xr_aload_n (xd dX12_init 182 rfl) 0 rfl ?_
  refine xr_bipush (v := nI 20) (xd dX12_init 183 rfl) (by decide) ?_
  refine xr_newI (N := 20) (xd dX12_init 184 rfl) wIa (nI_pos (by decide)) (nI_clamp (by decide)) (show kd0 537 = 13 by decide +kernel) (show ln0 537 = 20 by decide +kernel) (z _ (Nat.le_refl _)).2.1 (by decide) (by omega) (by decide) (by decide) ?_
  have z := z.mono (Nat.le_succ _)
  show xJ _ _ _ _ _ _ _ _ _ 358 [(0, .ref (491))] [.ref (537), .ref (491)] true (538) R45 I L
  obtain ⟨R46, eR46⟩ : ∃ z_ : Nat → Nat → Option Nat, z_ = xu R45 (491) 55 (some (537)) := ⟨_, rfl⟩
  refine xr_putR2 12 55 eR46 (xd dX12_init 185 rfl) f12_148 (by decide) (by decide) (by omega) (show kd0 491 = 12 by decide +kernel) (by decide) (fun _ => rfl) (fun _ => rfl) (fun _ => rfl) ?_
  have z := z.re eR46 (by omega)
  refine xr_aload_n (xd dX12_init 186 rfl) 0 rfl ?_
  refine xr_iconst (v := nI 2) (xd dX12_init 187 rfl) (by decide) ?_
  refine xr_newI (N := 2) (xd dX12_init 188 rfl) wIa (nI_pos (by decide)) (nI_clamp (by decide)) (show kd0 538 = 13 by decide +kernel) (show ln0 538 = 2 by decide +kernel) (z _ (Nat.le_refl _)).2.1 (by decide) (by omega) (by decide) (by decide) ?_
  have z := z.mono (Nat.le_succ _)
  show xJ _ _ _ _ _ _ _ _ _ 365 [(0, .ref (491))] [.ref (538), .ref (491)] true (539) R46 I L
  obtain ⟨R47, eR47⟩ : ∃ z_ : Nat → Nat → Option Nat, z_ = xu R46 (491) 56 (some (538)) := ⟨_, rfl⟩
  refine xr_putR2 12 56 eR47 (xd dX12_init 189 rfl) f12_151 (by decide) (by decide) (by omega) (show kd0 491 = 12 by decide +kernel) (by decide) (fun _ => rfl) (fun _ => rfl) (fun _ => rfl) ?_
  have z := z.re eR47 (by omega)
  refine xr_aload_n (xd dX12_init 190 rfl) 0 rfl ?_
  refine xr_iconst (v := nI 2) (xd dX12_init 191 rfl) (by decide) ?_
  refine xr_newZ (N := 2) (xd dX12_init 192 rfl) wZa (nI_pos (by decide)) (nI_clamp (by decide)) (show kd0 539 = 14 by decide +kernel) (show ln0 539 = 2 by decide +kernel) (z _ (Nat.le_refl _)).2.1 (by decide) (by omega) (by decide) (by decide) ?_
  have z := z.mono (Nat.le_succ _)
  show xJ _ _ _ _ _ _ _ _ _ 372 [(0, .ref (491))] [.ref (539), .ref (491)] true (540) R47 I L
  obtain ⟨R48, eR48⟩ : ∃ z_ : Nat → Nat → Option Nat, z_ = xu R47 (491) 57 (some (539)) := ⟨_, rfl⟩
  refine xr_putR2 12 57 eR48 (xd dX12_init 193 rfl) f12_154 (by decide) (by decide) (by omega) (show kd0 491 = 12 by decide +kernel) (by decide) (fun _ => rfl) (fun _ => rfl) (fun _ => rfl) ?_
  have z := z.re eR48 (by omega)
  refine xr_aload_n (xd dX12_init 194 rfl) 0 rfl ?_
  refine xr_bipush (v := nI 16) (xd dX12_init 195 rfl) (by decide) ?_
  refine xr_newI (N := 16) (xd dX12_init 196 rfl) wIa (nI_pos (by decide)) (nI_clamp (by decide)) (show kd0 540 = 13 by decide +kernel) (show ln0 540 = 16 by decide +kernel) (z _ (Nat.le_refl _)).2.1 (by decide) (by omega) (by decide) (by decide) ?_
  have z := z.mono (Nat.le_succ _)
  show xJ _ _ _ _ _ _ _ _ _ 380 [(0, .ref (491))] [.ref (540), .ref (491)] true (541) R48 I L
  obtain ⟨R49, eR49⟩ : ∃ z_ : Nat → Nat → Option Nat, z_ = xu R48 (491) 59 (some (540)) := ⟨_, rfl⟩
  refine xr_putR2 12 59 eR49 (xd dX12_init 197 rfl) f12_157 (by decide) (by decide) (by omega) (show kd0 491 = 12 by decide +kernel) (by decide) (fun _ => rfl) (fun _ => rfl) (fun _ => rfl) ?_
  have z := z.re eR49 (by omega)
  refine xr_aload_n (xd dX12_init 198 rfl) 0 rfl ?_
  refine xr_bipush (v := nI 16) (xd dX12_init 199 rfl) (by decide) ?_
  refine xr_newI (N := 16) (xd dX12_init 200 rfl) wIa (nI_pos (by decide)) (nI_clamp (by decide)) (show kd0 541 = 13 by decide +kernel) (show ln0 541 = 16 by decide +kernel) (z _ (Nat.le_refl _)).2.1 (by decide) (by omega) (by decide) (by decide) ?_
  have z := z.mono (Nat.le_succ _)
  show xJ _ _ _ _ _ _ _ _ _ 388 [(0, .ref (491))] [.ref (541), .ref (491)] true (542) R49 I L
  obtain ⟨R50, eR50⟩ : ∃ z_ : Nat → Nat → Option Nat, z_ = xu R49 (491) 60 (some (541)) := ⟨_, rfl⟩
  refine xr_putR2 12 60 eR50 (xd dX12_init 201 rfl) f12_160 (by decide) (by decide) (by omega) (show kd0 491 = 12 by decide +kernel) (by decide) (fun _ => rfl) (fun _ => rfl) (fun _ => rfl) ?_
  have z := z.re eR50 (by omega)
  refine xr_aload_n (xd dX12_init 202 rfl) 0 rfl ?_
  refine xr_bipush (v := nI 16) (xd dX12_init 203 rfl) (by decide) ?_
  refine xr_newI (N := 16) (xd dX12_init 204 rfl) wIa (nI_pos (by decide)) (nI_clamp (by decide)) (show kd0 542 = 13 by decide +kernel) (show ln0 542 = 16 by decide +kernel) (z _ (Nat.le_refl _)).2.1 (by decide) (by omega) (by decide) (by decide) ?_
  have z := z.mono (Nat.le_succ _)
  show xJ _ _ _ _ _ _ _ _ _ 396 [(0, .ref (491))] [.ref (542), .ref (491)] true (543) R50 I L
  obtain ⟨R51, eR51⟩ : ∃ z_ : Nat → Nat → Option Nat, z_ = xu R50 (491) 61 (some (542)) := ⟨_, rfl⟩
  refine xr_putR2 12 61 eR51 (xd dX12_init 205 rfl) f12_163 (by decide) (by decide) (by omega) (show kd0 491 = 12 by decide +kernel) (by decide) (fun _ => rfl) (fun _ => rfl) (fun _ => rfl) ?_
  have z := z.re eR51 (by omega)
  refine xr_aload_n (xd dX12_init 206 rfl) 0 rfl ?_
  refine xr_sipush (v := nI 3200) (xd dX12_init 207 rfl) (by decide) ?_
  refine xr_newZ (N := 3200) (xd dX12_init 208 rfl) wZa (nI_pos (by decide)) (nI_clamp (by decide)) (show kd0 543 = 14 by decide +kernel) (show ln0 543 = 3200 by decide +kernel) (z _ (Nat.le_refl _)).2.1 (by decide) (by omega) (by decide) (by decide) ?_
  have z := z.mono (Nat.le_succ _)
  show xJ _ _ _ _ _ _ _ _ _ 405 [(0, .ref (491))] [.ref (543), .ref (491)] true (544) R51 I L
  obtain ⟨R52, eR52⟩ : ∃ z_ : Nat → Nat → Option Nat, z_ = xu R51 (491) 62 (some (543)) := ⟨_, rfl⟩
  refine xr_putR2 12 62 eR52 (xd dX12_init 209 rfl) f12_166 (by decide) (by decide) (by omega) (show kd0 491 = 12 by decide +kernel) (by decide) (fun _ => rfl) (fun _ => rfl) (fun _ => rfl) ?_
  have z := z.re eR52 (by omega)
  refine xr_aload_n (xd dX12_init 210 rfl) 0 rfl ?_
  refine xr_sipush (v := nI 3200) (xd dX12_init 211 rfl) (by decide) ?_
  refine xr_newI (N := 3200) (xd dX12_init 212 rfl) wIa (nI_pos (by decide)) (nI_clamp (by decide)) (show kd0 544 = 13 by decide +kernel) (show ln0 544 = 3200 by decide +kernel) (z _ (Nat.le_refl _)).2.1 (by decide) (by omega) (by decide) (by decide) ?_
  have z := z.mono (Nat.le_succ _)
  show xJ _ _ _ _ _ _ _ _ _ 414 [(0, .ref (491))] [.ref (544), .ref (491)] true (545) R52 I L
  obtain ⟨R53, eR53⟩ : ∃ z_ : Nat → Nat → Option Nat, z_ = xu R52 (491) 63 (some (544)) := ⟨_, rfl⟩
  refine xr_putR2 12 63 eR53 (xd dX12_init 213 rfl) f12_169 (by decide) (by decide) (by omega) (show kd0 491 = 12 by decide +kernel) (by decide) (fun _ => rfl) (fun _ => rfl) (fun _ => rfl) ?_
  have z := z.re eR53 (by omega)
  refine xr_aload_n (xd dX12_init 214 rfl) 0 rfl ?_
  refine xr_bipush (v := nI 8) (xd dX12_init 215 rfl) (by decide) ?_
  refine xr_newI (N := 8) (xd dX12_init 216 rfl) wIa (nI_pos (by decide)) (nI_clamp (by decide)) (show kd0 545 = 13 by decide +kernel) (show ln0 545 = 8 by decide +kernel) (z _ (Nat.le_refl _)).2.1 (by decide) (by omega) (by decide) (by decide) ?_
  have z := z.mono (Nat.le_succ _)
  show xJ _ _ _ _ _ _ _ _ _ 422 [(0, .ref (491))] [.ref (545), .ref (491)] true (546) R53 I L
  obtain ⟨R54, eR54⟩ : ∃ z_ : Nat → Nat → Option Nat, z_ = xu R53 (491) 64 (some (545)) := ⟨_, rfl⟩
  refine xr_putR2 12 64 eR54 (xd dX12_init 217 rfl) f12_172 (by decide) (by decide) (by omega) (show kd0 491 = 12 by decide +kernel) (by decide) (fun _ => rfl) (fun _ => rfl) (fun _ => rfl) ?_
  have z := z.re eR54 (by omega)
  refine xr_aload_n (xd dX12_init 218 rfl) 0 rfl ?_
  refine xr_bipush (v := nI 8) (xd dX12_init 219 rfl) (by decide) ?_
  refine xr_newL (N := 8) (xd dX12_init 220 rfl) wLa (nI_pos (by decide)) (nI_clamp (by decide)) (show kd0 546 = 15 by decide +kernel) (show ln0 546 = 8 by decide +kernel) (z _ (Nat.le_refl _)).2.2 (by decide) (by omega) (by decide) (by decide) ?_
  have z := z.mono (Nat.le_succ _)
  show xJ _ _ _ _ _ _ _ _ _ 430 [(0, .ref (491))] [.ref (546), .ref (491)] true (547) R54 I L
  obtain ⟨R55, eR55⟩ : ∃ z_ : Nat → Nat → Option Nat, z_ = xu R54 (491) 65 (some (546)) := ⟨_, rfl⟩
  refine xr_putR2 12 65 eR55 (xd dX12_init 221 rfl) f12_175 (by decide) (by decide) (by omega) (show kd0 491 = 12 by decide +kernel) (by decide) (fun _ => rfl) (fun _ => rfl) (fun _ => rfl) ?_
  have z := z.re eR55 (by omega)
  refine xr_aload_n (xd dX12_init 222 rfl) 0 rfl ?_
  refine xr_iconst (v := nI 2) (xd dX12_init 223 rfl) (by decide) ?_
  refine xr_newI (N := 2) (xd dX12_init 224 rfl) wIa (nI_pos (by decide)) (nI_clamp (by decide)) (show kd0 547 = 13 by decide +kernel) (show ln0 547 = 2 by decide +kernel) (z _ (Nat.le_refl _)).2.1 (by decide) (by omega) (by decide) (by decide) ?_
  have z := z.mono (Nat.le_succ _)
  show xJ _ _ _ _ _ _ _ _ _ 437 [(0, .ref (491))] [.ref (547), .ref (491)] true (548) R55 I L
  obtain ⟨R56, eR56⟩ : ∃ z_ : Nat → Nat → Option Nat, z_ = xu R55 (491) 66 (some (547)) := ⟨_, rfl⟩
  refine xr_putR2 12 66 eR56 (xd dX12_init 225 rfl) f12_178 (by decide) (by decide) (by omega) (show kd0 491 = 12 by decide +kernel) (by decide) (fun _ => rfl) (fun _ => rfl) (fun _ => rfl) ?_
  have z := z.re eR56 (by omega)
  refine xr_aload_n (xd dX12_init 226 rfl) 0 rfl ?_
  refine xr_sipush (v := nI 200) (xd dX12_init 227 rfl) (by decide) ?_
  refine xr_newI (N := 200) (xd dX12_init 228 rfl) wIa (nI_pos (by decide)) (nI_clamp (by decide)) (show kd0 548 = 13 by decide +kernel) (show ln0 548 = 200 by decide +kernel) (z _ (Nat.le_refl _)).2.1 (by decide) (by omega) (by decide) (by decide) ?_
  have z := z.mono (Nat.le_succ _)
  show xJ _ _ _ _ _ _ _ _ _ 446 [(0, .ref (491))] [.ref (548), .ref (491)] true (549) R56 I L
  obtain ⟨R57, eR57⟩ : ∃ z_ : Nat → Nat → Option Nat, z_ = xu R56 (491) 67 (some (548)) := ⟨_, rfl⟩
  refine xr_putR2 12 67 eR57 (xd dX12_init 229 rfl) f12_181 (by decide) (by decide) (by omega) (show kd0 491 = 12 by decide +kernel) (by decide) (fun _ => rfl) (fun _ => rfl) (fun _ => rfl) ?_
  have z := z.re eR57 (by omega)
  refine xr_aload_n (xd dX12_init 230 rfl) 0 rfl ?_
  refine xr_sipush (v := nI 12000) (xd dX12_init 231 rfl) (by decide) ?_
  refine xr_newI (N := 12000) (xd dX12_init 232 rfl) wIa (nI_pos (by decide)) (nI_clamp (by decide)) (show kd0 549 = 13 by decide +kernel) (show ln0 549 = 12000 by decide +kernel) (z _ (Nat.le_refl _)).2.1 (by decide) (by omega) (by decide) (by decide) ?_
  have z := z.mono (Nat.le_succ _)
  show xJ _ _ _ _ _ _ _ _ _ 455 [(0, .ref (491))] [.ref (549), .ref (491)] true (550) R57 I L
  obtain ⟨R58, eR58⟩ : ∃ z_ : Nat → Nat → Option Nat, z_ = xu R57 (491) 68 (some (549)) := ⟨_, rfl⟩
  refine xr_putR2 12 68 eR58 (xd dX12_init 233 rfl) f12_184 (by decide) (by decide) (by omega) (show kd0 491 = 12 by decide +kernel) (by decide) (fun _ => rfl) (fun _ => rfl) (fun _ => rfl) ?_
  have z := z.re eR58 (by omega)
  refine xr_aload_n (xd dX12_init 234 rfl) 0 rfl ?_
  refine xr_sipush (v := nI 560) (xd dX12_init 235 rfl) (by decide) ?_
  refine xr_newI (N := 560) (xd dX12_init 236 rfl) wIa (nI_pos (by decide)) (nI_clamp (by decide)) (show kd0 550 = 13 by decide +kernel) (show ln0 550 = 560 by decide +kernel) (z _ (Nat.le_refl _)).2.1 (by decide) (by omega) (by decide) (by decide) ?_
  have z := z.mono (Nat.le_succ _)
  show xJ _ _ _ _ _ _ _ _ _ 464 [(0, .ref (491))] [.ref (550), .ref (491)] true (551) R58 I L
  obtain ⟨R59, eR59⟩ : ∃ z_ : Nat → Nat → Option Nat, z_ = xu R58 (491) 69 (some (550)) := ⟨_, rfl⟩
  refine xr_putR2 12 69 eR59 (xd dX12_init 237 rfl) f12_187 (by decide) (by decide) (by omega) (show kd0 491 = 12 by decide +kernel) (by decide) (fun _ => rfl) (fun _ => rfl) (fun _ => rfl) ?_
  have z := z.re eR59 (by omega)
  refine xr_aload_n (xd dX12_init 238 rfl) 0 rfl ?_
  refine xr_sipush (v := nI 520) (xd dX12_init 239 rfl) (by decide) ?_
  refine xr_newI (N := 520) (xd dX12_init 240 rfl) wIa (nI_pos (by decide)) (nI_clamp (by decide)) (show kd0 551 = 13 by decide +kernel) (show ln0 551 = 520 by decide +kernel) (z _ (Nat.le_refl _)).2.1 (by decide) (by omega) (by decide) (by decide) ?_
  have z := z.mono (Nat.le_succ _)
  show xJ _ _ _ _ _ _ _ _ _ 473 [(0, .ref (491))] [.ref (551), .ref (491)] true (552) R59 I L
  obtain ⟨R60, eR60⟩ : ∃ z_ : Nat → Nat → Option Nat, z_ = xu R59 (491) 71 (some (551)) := ⟨_, rfl⟩
  refine xr_putR2 12 71 eR60 (xd dX12_init 241 rfl) f12_190 (by decide) (by decide) (by omega) (show kd0 491 = 12 by decide +kernel) (by decide) (fun _ => rfl) (fun _ => rfl) (fun _ => rfl) ?_
  have z := z.re eR60 (by omega)
  have hr : R60 = rX12 R := by
    subst eR60; subst eR59; subst eR58; subst eR57; subst eR56; subst eR55; subst eR54; subst eR53; subst eR52; subst eR51; subst eR50; subst eR49; subst eR48; subst eR47; subst eR46; subst eR45; subst eR44; subst eR43; subst eR42; subst eR41; subst eR40; subst eR39; subst eR38; subst eR37; subst eR36; subst eR35; subst eR34; subst eR33; subst eR32; subst eR31; subst eR30; subst eR29; subst eR28; subst eR27; subst eR26; subst eR25; subst eR24; subst eR23; subst eR22; subst eR21; subst eR20; subst eR19; subst eR18; subst eR17; subst eR16; subst eR15; subst eR14; subst eR13; subst eR12; subst eR11; subst eR10; subst eR9; subst eR8; subst eR7; subst eR6; subst eR5; subst eR4; subst eR3; subst eR2; subst eR1
    rfl
  rw [hr, eI, eL]
  refine xr_aload_n (xd dX12_init 242 rfl) 0 rfl ?_
  refine xr_callV (st := []) mX12_roots 0 [] (b := 491) (cl := 12) (xd dX12_init 243 rfl) l12_193 kX12_roots rfl (by decide) kd_491 (by decide) rfl ⟨by decide, by decide⟩ (by decide) (v_X12_roots (by decide) hR (s_roots (L := L0) (Q := fun J' L' => mK (zi J') ∧ L' = L0 ∧ zF (fun a => a = 495 ∨ a = 496) J0 J') (fun J' h1 h2 => ⟨h1, rfl, h2⟩))) (by decide) (by decide) (fun v M h => ?_) (fun _ _ h => h.elim)
  obtain ⟨J1, L1, rfl, rfl, hk, eL1, hz⟩ := h
  rw [eL1]
  show xJ _ _ _ _ _ _ _ _ _ _ _ _ _ 552 (rX12 R) (zi J1) (li L0)
  refine xr_aload_n (xd dX12_init 244 rfl) 0 rfl ?_
  refine xr_iconst (v := oI 0) (xd dX12_init 245 rfl) (by decide) ?_
  refine xr_sipush (v := oI 200) (xd dX12_init 246 rfl) (by decide) ?_
  refine xr_callV (st := []) mX12_setUp 2 [.int (oI 0), .int (oI 200)] (b := 491) (cl := 12) (xd dX12_init 247 rfl) l12_196 kX12_setUp rfl (by decide) kd_491 (by decide) rfl ⟨by decide, by decide⟩ (by decide) (v_X12_setUp (by decide) hR (s_setUp (p1 := 0) (p2 := 200) (J := J1) (L := L0) (Q := fun J' L' => MA 0 200 J' L' ∧ ∀ a, a < 491 ∨ a = 495 ∨ a = 496 ∨ a = 552 → J' a = J1 a ∧ L' a = L0 a) (fun J' L' h1 _ h3 => ⟨h1, h3⟩))) (by decide) (by decide) (fun v M h => ?_) (fun _ _ h => h.elim)
  obtain ⟨J2, L2, rfl, rfl, hm, hf⟩ := h
  refine xr_vret (xd dX12_init 248 rfl) rfl (by decide) (by decide) (fun _ => rfl) ?_
  refine ⟨rfl, J2, L2, rfl, hm, ?_, fun a ha => ?_⟩
  · refine ⟨fun t ht => ?_, fun i hi => ?_⟩
    · show oI (J2 496 _) = _
      rw [(hf 496 (by decide)).1]
      exact hk.1 t ht
    · show oI (J2 495 _) = _
      rw [(hf 495 (by decide)).1]
      exact hk.2 i hi
  · have h := hf a (Or.inl ha)
    exact ⟨h.1.trans (hz a (by omega)), h.2⟩
