def rC (k i : Nat) : Option Nat := if k < 491 then rX11 rNo k i else none
set_option maxRecDepth 100000 in
theorem rC_k : xRk (rX12 rC) := by
  unfold xRk
  decide +kernel
set_option maxHeartbeats 4000000 in
set_option maxRecDepth 100000 in
theorem law_go {b : Nat} {dC : Nat → ClassId} {dI : Nat → Nat → Nat} {cA : Nat → ClassId} {ts : Nat → Nat} {l : Launch} (hst : l.stackTraces = false) {N : Nat} (hN : ts 91 = N) (hN4 : N ≤ 384) : bJ (xGm b dC dI cA ts) l mL_law 600128 7301098 (fun v _ => v = some (.int 1)) 0 0 0 [(0, .ref 1000090)] [] 0 rNo iNo lNo := by
  refine br_new 11 (xd dL_head 0 rfl) (xt_1 (j := 26) (by decide +kernel) (by decide +kernel)) wN11 (by decide) kd_0 rfl rfl rfl (by decide) (by decide) (by decide) ?_
  refine br_dup (xd dL_head 1 rfl) rfl ?_
  refine br_callI mX11_init 0 [] (st := [.ref 0]) (b := 0) (xd dL_head 2 rfl) (xt_1 (j := 28) (by decide +kernel) (by decide +kernel)) kX11_init rfl (by decide) ⟨by decide, by decide⟩ (Nat.le_of_ble_eq_true rfl) t_X11 (by decide) (by decide) (fun v M h => ?_)
  obtain ⟨rfl, J, L, rfl, hP⟩ := h
  show bJ _ _ _ _ _ _ _ _ 7 [(0, .ref 1000090)] [.ref 0] 491 rF (zi J) (li L)
  refine br_astore_n (i := 1) [(0, .ref 1000090), (1, .ref 0)] (xd dL_head 3 rfl) rfl (by decide) rfl ?_
  obtain ⟨Jc, eJc⟩ : ∃ z_ : zM, z_ = fun a i => if a < 491 then J a i else 0 := ⟨_, rfl⟩
  obtain ⟨Lc, eLc⟩ : ∃ z_ : yM, z_ = fun a i => if a < 491 then L a i else 0 := ⟨_, rfl⟩
  have j1 : ∀ a, a < 491 → Jc a = J a := fun a ha => by rw [eJc]; funext i; exact if_pos ha
  have l1 : ∀ a, a < 491 → Lc a = L a := fun a ha => by rw [eLc]; funext i; exact if_pos ha
  have hP := hP.fr (J' := Jc) (L' := Lc) (fun a ha _ _ => j1 a ha) (fun a ha => l1 a ha)
  refine bJ.eqv (R' := rC) (I' := zi Jc) (L' := li Lc) (fun k hk => ⟨by funext i; rw [rC, if_pos hk, rF, if_pos hk], by funext i; show oI (Jc k _) = oI (J k _); rw [j1 k hk], by funext i; show Lc k _ = L k _; rw [l1 k hk]⟩) ?_
  have z : Zr 491 rC (zi Jc) (li Lc) := fun k hk => ⟨by funext i; rw [rC, if_neg (by omega)], by funext i; show oI (Jc k _) = 0; rw [eJc]; show oI (if k < 491 then _ else 0) = 0; rw [if_neg (by omega)]; rfl, by funext i; show Lc k _ = 0; rw [eLc]; exact if_neg (by omega)⟩
  refine br_new 12 (xd dL_head 4 rfl) (xt_6 (j := 212) (by decide +kernel) (by decide +kernel)) wN12 (by decide) kd_491' (z _ (Nat.le_refl _)).1 (z _ (Nat.le_refl _)).2.1 (z _ (Nat.le_refl _)).2.2 (by decide) (by decide) (by decide) ?_
  refine br_dup (xd dL_head 5 rfl) rfl ?_
  refine br_callI mX12_init 0 [] (st := [.ref 491]) (b := 491) (xd dL_head 6 rfl) (xt_6 (j := 214) (by decide +kernel) (by decide +kernel)) kX12_init rfl (by decide) ⟨by decide, by decide⟩ (Nat.le_of_ble_eq_true rfl) (t_X12 rfl rfl rC_k (z.mono (by decide))) (by decide) (by decide) (fun v M h => ?_)
  obtain ⟨rfl, J2, L2, rfl, hM, hK, hf⟩ := h
  show bJ _ _ _ _ _ _ _ _ 15 [(0, .ref 1000090), (1, .ref 0)] [.ref 491] 552 (rX12 rC) (zi J2) (li L2)
  refine br_astore_n (i := 2) [(0, .ref 1000090), (1, .ref 0), (2, .ref 491)] (xd dL_head 7 rfl) rfl (by decide) rfl ?_
  have hP2 := hP.fr (J' := J2) (L' := L2) (fun a ha _ _ => (hf a ha).1) (fun a ha => (hf a ha).2)
  have hM2 := PM_fr (J0 := jX) hM (by decide) hK
  have hB : PB 0 J2 L2 := ⟨_, [], 0, hP2, hM2, PI_fr (bd := 0) (by decide) jX_P (by decide)⟩
  obtain ⟨L3, eL3⟩ : ∃ z_ : yM, z_ = fun a i => if a = 552 then 0 else L2 a i := ⟨_, rfl⟩
  have l3 : ∀ a, a ≠ 552 → L3 a = L2 a := fun a ha => by rw [eL3]; funext i; exact if_neg ha
  have hB := hB.o (L0 := L3) l3
  refine bJ.eqv (R' := rX12 rC) (I' := zi J2) (L' := li L3) (fun k hk => ⟨rfl, rfl, by funext i; show L3 k _ = L2 k _; rw [l3 k (by omega)]⟩) ?_
  refine br_iconst (v := nI 1) (xd dL_head 8 rfl) (by decide) ?_
  refine br_newL (N := 1) (xd dL_head 9 rfl) wLa (nI_pos (by decide)) (nI_clamp (by decide)) kd_552 ln_552 (by funext i; show L3 552 _ = 0; rw [eL3]; exact if_pos rfl) (by decide) (by decide) (by decide) (by decide) ?_
  refine br_astore_n (i := 3) [(0, .ref 1000090), (1, .ref 0), (2, .ref 491), (3, .ref 552)] (xd dL_head 10 rfl) rfl (by decide) rfl ?_
  refine bJ.to ?_
  refine xr_iconst (v := nI 0) (xd dL_head 11 rfl) (by decide) ?_
  refine xr_istore (i := 4) (lsL 0) (xd dL_head 12 rfl) (by decide) rfl ?_
  exact xJ.wid (by decide) (by decide) (l_loop hst rC_k hN hN4 64 0 J2 L3 rfl hB)
