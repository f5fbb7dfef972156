theorem gd_l {a b : List Int32} {j : Nat} (h : j < a.length) : (a ++ b).getD j 0 = a.getD j 0 := by
  simp [List.getD, List.getElem?_append_left h]
theorem gd_r {a b : List Int32} {j : Nat} (h : a.length ≤ j) : (a ++ b).getD j 0 = b.getD (j - a.length) 0 := by
  simp [List.getD, List.getElem?_append_right h]
theorem gd_d {a : List Int32} {j : Nat} (h : a.length ≤ j) : a.getD j 0 = 0 := by
  simp [List.getD, List.getElem?_eq_none h]
set_option maxHeartbeats 4000000 in
set_option maxRecDepth 100000 in
theorem code_l1 {b : Nat} {dC : Nat → ClassId} {dI : Nat → Nat → Nat} {cA : Nat → ClassId} {ts : Nat → Nat} {l : Launch} {al : Bool} {n : Nat} {R : Nat → Nat → Option Nat} {L : Nat → Nat → Int64} (hn : 552 ≤ n) (hR : xRk R) {I0 : Nat → Nat → Int32} {Qv : Option Value → xM → Prop} {Qx : String → xM → Prop} : ∀ (k t : Nat) (I : Nat → Nat → Int32), t + k = 64 → (xFr [497] [] I0 I ∧ (∀ j, j < t → I 497 j = I0 501 j ^^^ 54) ∧ ∀ j, t ≤ j → I 497 j = I0 497 j) → (∀ I' : Nat → Nat → Int32, (xFr [497] [] I0 I' ∧ (∀ j, j < 64 → I' 497 j = I0 501 j ^^^ 54) ∧ ∀ j, 64 ≤ j → I' 497 j = I0 497 j) → xJ (xGm b dC dI cA ts) l mX12_code 0 0 Qv Qx 0 0 29 [(0, .ref 491), (1, .int (nI 64))] [] al n R I' L) → xJ (xGm b dC dI cA ts) l mX12_code 0 0 Qv Qx 0 0 2 [(0, .ref 491), (1, .int (nI t))] [] al n R I L := by
  intro k
  induction k with
  | zero =>
    intro t I ht hI hx
    refine xr_iload_n (xd dX12_code 2 rfl) 1 rfl ?_
    refine xr_bipush (v := nI 64) (xd dX12_code 3 rfl) (by decide) ?_
    refine xr_icmpN_ge 29 (xd dX12_code 4 rfl) (by decide) (by omega) (by omega) (fun c5 => ?_) (fun c5 => ?_)
    · skip
      have hz : t = 64 := by omega
      subst hz
      exact hx I hI
    · skip
      exact absurd c5 (by omega)
  | succ k ih =>
    intro t I ht hI hx
    refine xr_iload_n (xd dX12_code 2 rfl) 1 rfl ?_
    refine xr_bipush (v := nI 64) (xd dX12_code 3 rfl) (by decide) ?_
    refine xr_icmpN_ge 29 (xd dX12_code 4 rfl) (by decide) (by omega) (by omega) (fun c5 => ?_) (fun c5 => ?_)
    · skip
      exact absurd c5 (by omega)
    · skip
      refine xr_aload_n (xd dX12_code 5 rfl) 0 rfl ?_
      refine xr_getR (b := 497) 12 12 (xd dX12_code 6 rfl) f12_25 (by decide) (by decide) (by omega) kd_491 rfl (r_491_12 hR) ?_
      refine xr_iload_n (xd dX12_code 7 rfl) 1 rfl ?_
      refine xr_aload_n (xd dX12_code 8 rfl) 0 rfl ?_
      refine xr_getR (b := 501) 12 17 (xd dX12_code 9 rfl) f12_37 (by decide) (by decide) (by omega) kd_491 rfl (r_491_17 hR) ?_
      refine xr_iload_n (xd dX12_code 10 rfl) 1 rfl ?_
      obtain ⟨x1, e_x1⟩ : ∃ z_ : Int32, z_ = I 501 t := ⟨_, rfl⟩
      refine xr_ialoadN (x := x1) (xd dX12_code 11 rfl) (by omega) kd_501 ln_501 (by omega) (by omega) e_x1.symm ?_
      refine xr_bipush (v := nI 54) (xd dX12_code 12 rfl) (by decide) ?_
      refine xr_ixor (xd dX12_code 13 rfl) ?_
      obtain ⟨I2, e_I2⟩ : ∃ z_ : Nat → Nat → Int32, z_ = xu I 497 t (x1 ^^^ 54) := ⟨_, rfl⟩
      refine xr_iastoreN (I' := I2) e_I2 (xd dX12_code 14 rfl) (by omega) kd_497 ln_497 (by omega) (by omega) ?_
      refine xr_iinc (v := nI (t + 1)) [(0, .ref 491), (1, .int (nI (t + 1)))] (xd dX12_code 15 rfl) 1 rfl (nI_inc _) (by decide) rfl ?_
      refine xr_goto 2 (xd dX12_code 16 rfl) (by decide) ?_
      refine xJ.pick [0, 1] rfl ?_
      refine ih (t + 1) I2 (by omega) ?_ hx
      obtain ⟨q1, q2, q3⟩ := hI
      have hF : xFr [497] [] I I2 := by rw [e_I2]; exact xFr.u (Or.inl (by simp))
      refine ⟨q1.tr hF, fun j hj => ?_, fun j hj => ?_⟩
      · by_cases hjt : j = t
        · subst hjt
          rw [e_I2, xu_s, e_x1, q1 501 _ (by simp) (by simp)]
        · rw [e_I2, xu_n I _ (Or.inr (by omega))]
          exact q2 j (by omega)
      · rw [e_I2, xu_n I _ (Or.inr (by omega))]
        exact q3 j (by omega)
set_option maxHeartbeats 4000000 in
set_option maxRecDepth 100000 in
theorem code_l2 {b : Nat} {dC : Nat → ClassId} {dI : Nat → Nat → Nat} {cA : Nat → ClassId} {ts : Nat → Nat} {l : Launch} {al : Bool} {n : Nat} {R : Nat → Nat → Option Nat} {L : Nat → Nat → Int64} (hn : 552 ≤ n) (hR : xRk R) {I0 : Nat → Nat → Int32} {Qv : Option Value → xM → Prop} {Qx : String → xM → Prop} : ∀ (k t : Nat) (I : Nat → Nat → Int32), t + k = 64 → (mB 0 I (oL (fun j => (I0 501 j ^^^ 92) &&& 255) t) ∧ xFr [497] [(491, 13)] I0 I) → (∀ I' : Nat → Nat → Int32, (mB 0 I' (oL (fun j => (I0 501 j ^^^ 92) &&& 255) 64) ∧ xFr [497] [(491, 13)] I0 I') → xJ (xGm b dC dI cA ts) l mX12_code 0 0 Qv Qx 0 0 66 [(0, .ref 491), (1, .int (nI 64))] [] al n R I' L) → xJ (xGm b dC dI cA ts) l mX12_code 0 0 Qv Qx 0 0 41 [(0, .ref 491), (1, .int (nI t))] [] al n R I L := by
  intro k
  induction k with
  | zero =>
    intro t I ht hI hx
    refine xr_iload_n (xd dX12_code 25 rfl) 1 rfl ?_
    refine xr_bipush (v := nI 64) (xd dX12_code 26 rfl) (by decide) ?_
    refine xr_icmpN_ge 66 (xd dX12_code 27 rfl) (by decide) (by omega) (by omega) (fun c44 => ?_) (fun c44 => ?_)
    · skip
      have hz : t = 64 := by omega
      subst hz
      exact hx I hI
    · skip
      exact absurd c44 (by omega)
  | succ k ih =>
    intro t I ht hI hx
    refine xr_iload_n (xd dX12_code 25 rfl) 1 rfl ?_
    refine xr_bipush (v := nI 64) (xd dX12_code 26 rfl) (by decide) ?_
    refine xr_icmpN_ge 66 (xd dX12_code 27 rfl) (by decide) (by omega) (by omega) (fun c44 => ?_) (fun c44 => ?_)
    · skip
      exact absurd c44 (by omega)
    · skip
      refine xr_aload_n (xd dX12_code 28 rfl) 0 rfl ?_
      refine xr_aload_n (xd dX12_code 29 rfl) 0 rfl ?_
      refine xr_getR (b := 501) 12 17 (xd dX12_code 30 rfl) f12_37 (by decide) (by decide) (by omega) kd_491 rfl (r_491_17 hR) ?_
      refine xr_iload_n (xd dX12_code 31 rfl) 1 rfl ?_
      obtain ⟨x1, e_x1⟩ : ∃ z_ : Int32, z_ = I 501 t := ⟨_, rfl⟩
      refine xr_ialoadN (x := x1) (xd dX12_code 32 rfl) (by omega) kd_501 ln_501 (by omega) (by omega) e_x1.symm ?_
      refine xr_bipush (v := nI 92) (xd dX12_code 33 rfl) (by decide) ?_
      refine xr_ixor (xd dX12_code 34 rfl) ?_
      refine xr_callV mX12_add 1 [.int (x1 ^^^ 92)] (xd dX12_code 35 rfl) l12_238 kX12_add rfl (by omega) kd_491 (by decide) rfl (by decide) (Nat.le_of_ble_eq_true rfl) (c_madd hn hR (v := (x1 ^^^ 92)) (fr := 0) (q := oL (fun j => (I0 501 j ^^^ 92) &&& 255) t) (I := I) hI.1 (by rw [oL_len]; omega)) (Nat.le_refl _) (Nat.le_refl _) (fun r_ M_ h_ => ?_) (fun _ _ h_ => h_.elim)
      obtain ⟨rfl, I2, rfl, hB_, hF_⟩ := h_
      show xJ _ _ _ _ _ _ _ _ _ 60 [(0, .ref 491), (1, .int (nI t))] [] _ _ _ I2 L
      refine xr_iinc (v := nI (t + 1)) [(0, .ref 491), (1, .int (nI (t + 1)))] (xd dX12_code 36 rfl) 1 rfl (nI_inc _) (by decide) rfl ?_
      refine xr_goto 41 (xd dX12_code 37 rfl) (by decide) ?_
      refine xJ.pick [0, 1] rfl ?_
      refine ih (t + 1) I2 (by omega) ?_ hx
      refine ⟨?_, hI.2.tr hF_⟩
      rw [e_x1, hI.2 501 _ (by simp) (by simp)] at hB_
      rw [oL_succ]
      exact hB_
set_option maxHeartbeats 4000000 in
set_option maxRecDepth 100000 in
/-- code(): MAC by the key of the text from 64 on -/
theorem c_code {b : Nat} {dC : Nat → ClassId} {dI : Nat → Nat → Nat} {cA : Nat → ClassId} {ts : Nat → Nat} {l : Launch} {al : Bool} {n : Nat} {R : Nat → Nat → Option Nat} {L : Nat → Nat → Int64} (hn : 552 ≤ n) (hR : xRk R) {k q : List Int32} {I : Nat → Nat → Int32} (hB : mB 64 I q) (hK : mK I) (hkl : k.length ≤ 64) (hk : ∀ j, j < 64 → I 501 j = k.getD j 0) (ho : ∀ j, j < 64 → oc (I 501 j)) : xCn (xGm b dC dI cA ts) l mX12_code [.ref 491] al (n, R, I, L) 0 0 (fun v M => v = none ∧ ∃ I' : Nat → Nat → Int32, M = (n, R, I', L) ∧ oL (I' 500) 32 = MC k q ∧ xFr [497, 498, 499, 500] [(491, 13)] I I') (fun _ _ => False) := by
  refine xCn.ofJ (by decide) (Nat.le_of_ble_eq_true rfl) ?_
  show xJ _ _ _ _ _ _ _ _ _ 0 [(0, .ref 491)] [] _ _ _ _ _
  refine xr_iconst (v := nI 0) (xd dX12_code 0 rfl) (by decide) ?_
  refine xr_istore_n [(0, .ref 491), (1, .int (nI 0))] (xd dX12_code 1 rfl) rfl (by decide) rfl ?_
  have hlen := hB.2.2
  refine code_l1 hn hR (I0 := I) 64 0 I (by omega) ⟨xFr.rf, fun j hj => absurd hj (by omega), fun _ _ => rfl⟩ (fun J1 h1 => ?_)
  refine xr_aload_n (xd dX12_code 17 rfl) 0 rfl ?_
  refine xr_iconst (v := nI 0) (xd dX12_code 18 rfl) (by decide) ?_
  have hK1 : mK J1 := hK.fr h1.1 (by simp) (by simp) (by simp) (by simp)
  refine xr_callV mX12_hashFrom 1 [.int (nI 0)] (xd dX12_code 19 rfl) l12_241 kX12_hashFrom rfl (by omega) kd_491 (by decide) rfl (by decide) (Nat.le_of_ble_eq_true rfl) (c_hashFrom hn hR (fr := 0) (le := 64 + q.length) (by omega) (by omega) (I := J1) (by rw [h1.1 491 13 (by simp) (by simp)]; exact hB.1) hK1.1 hK1.2) (Nat.le_refl _) (Nat.le_refl _) (fun r_ M_ h_ => ?_) (fun _ _ h_ => h_.elim)
  obtain ⟨rfl, I1, rfl, hFa, ha⟩ := h_
  show xJ _ _ _ _ _ _ _ _ _ 34 [(0, .ref 491), (1, .int (nI 64))] [] _ _ _ I1 L
  refine xr_aload_n (xd dX12_code 20 rfl) 0 rfl ?_
  refine xr_iconst (v := nI 0) (xd dX12_code 21 rfl) (by decide) ?_
  obtain ⟨I2, e_I2⟩ : ∃ z_ : Nat → Nat → Int32, z_ = xu I1 491 13 0 := ⟨_, rfl⟩
  refine xr_putI2 12 13 (I' := I2) e_I2 (xd dX12_code 22 rfl) f12_229 (by decide) (by decide) (by omega) kd_491 (Or.inl rfl) rfl rfl (fun _ => rfl) ?_
  refine xr_iconst (v := nI 0) (xd dX12_code 23 rfl) (by decide) ?_
  refine xr_istore_n [(0, .ref 491), (1, .int (nI 0))] (xd dX12_code 24 rfl) rfl (by decide) rfl ?_
  have hB3 : mB 0 I2 [] := by rw [e_I2]; exact ⟨by rw [xu_s]; rfl, rfl, by simp⟩
  have hF3 : xFr [] [(491, 13)] I1 I2 := by rw [e_I2]; exact xFr.u (Or.inr (by simp))
  have hK2 : mK I2 := (hK1.fr hFa (by simp) (by simp) (by simp) (by simp)).fr hF3 (by simp) (by simp) (by simp) (by simp)
  refine code_l2 hn hR (I0 := I2) 64 0 I2 (by omega) ⟨hB3, xFr.rf⟩ (fun J4 h3 => ?_)
  refine xr_aload_n (xd dX12_code 38 rfl) 0 rfl ?_
  refine xr_callV mX12_addDigest 0 [] (xd dX12_code 39 rfl) l12_244 kX12_addDigest rfl (by omega) kd_491 (by decide) rfl (by decide) (Nat.le_of_ble_eq_true rfl) (c_addDigest hn hR (fr := 0) (q := oL (fun j => (I2 501 j ^^^ 92) &&& 255) 64) (by rw [oL_len]; omega) (I := J4) h3.1) (Nat.le_refl _) (Nat.le_refl _) (fun r_ M_ h_ => ?_) (fun _ _ h_ => h_.elim)
  obtain ⟨rfl, I3, rfl, hb, hFb⟩ := h_
  show xJ _ _ _ _ _ _ _ _ _ 70 [(0, .ref 491), (1, .int (nI 64))] [] _ _ _ I3 L
  refine xr_aload_n (xd dX12_code 40 rfl) 0 rfl ?_
  refine xr_iconst (v := nI 0) (xd dX12_code 41 rfl) (by decide) ?_
  have hKc : mK I3 := (hK2.fr h3.2 (by simp) (by simp) (by simp) (by simp)).fr hFb (by simp) (by simp) (by simp) (by simp)
  refine xr_callV mX12_hashFrom 1 [.int (nI 0)] (xd dX12_code 42 rfl) l12_241 kX12_hashFrom rfl (by omega) kd_491 (by decide) rfl (by decide) (Nat.le_of_ble_eq_true rfl) (c_hashFrom hn hR (fr := 0) (le := 96) (by omega) (by omega) (I := I3) (by have := hb.1; rw [List.length_append, oL_len, oL_len] at this; exact this) hKc.1 hKc.2) (Nat.le_refl _) (Nat.le_refl _) (fun r_ M_ h_ => ?_) (fun _ _ h_ => h_.elim)
  obtain ⟨rfl, I4, rfl, hFc, hc⟩ := h_
  show xJ _ _ _ _ _ _ _ _ _ 75 [(0, .ref 491), (1, .int (nI 64))] [] _ _ _ I4 L
  refine xr_vret (xd dX12_code 43 rfl) rfl (Nat.zero_le _) (Nat.zero_le _) (fun _ => rfl) ?_
  refine ⟨rfl, _, rfl, ?_, ?_⟩
  · have e0 : ∀ j, I2 501 j = I 501 j := fun j => by rw [hF3 501 j (by simp) (by simp), hFa 501 j (by simp) (by simp), h1.1 501 j (by simp) (by simp)]
    have e1 : oL (I4 500) 32 = oL (hmac (I 501) 64 (fun j => I 497 (64 + j)) q.length) 32 := by
      refine oL_congr (fun i hi => ?_)
      rw [hc i hi]
      refine hsh_congr (fun j hj => ?_) hi
      have hj : j < 96 := hj
      have ht := hb.2.1
      rw [List.length_append, oL_len, oL_len] at ht
      have h9 := congrArg (fun z : List Int32 => z.getD j 0) ht
      rw [oL_get hj] at h9
      refine h9.trans ?_
      unfold hcat
      by_cases ej : j < 64
      · rw [if_pos ej, gd_l (by rw [oL_len]; exact ej), oL_get ej, e0]
        unfold hky
        rw [if_pos ej]
        exact oc_xor (ho j ej) (by unfold oc; decide)
      · rw [if_neg ej, gd_r (by rw [oL_len]; omega), oL_len, oL_get (by omega)]
        rw [h3.2 500 _ (by simp) (by simp), hF3 500 _ (by simp) (by simp), ha _ (by omega)]
        refine (oc_and _).trans ?_
        refine hsh_congr (fun u hu => ?_) (by omega)
        have hu : u < 64 + q.length := hu
        rw [Nat.zero_add]
        by_cases eu : u < 64
        · rw [if_pos eu, h1.2.1 u eu]
          unfold hky
          rw [if_pos eu]
        · rw [if_neg eu, h1.2.2 u (by omega)]
          show I 497 u = I 497 (64 + (u - 64))
          rw [show 64 + (u - 64) = u by omega]
    rw [e1, oL_congr (fun i hi => hmac_pad (k := fun j => k.getD j 0) (kl := k.length) hkl (fun j hj => ?_) hi)]
    · exact MC_of (oL_self k) hB.2.1
    · rw [hk j hj]
      by_cases e : j < k.length
      · rw [if_pos e]
      · rw [if_neg e]
        simp [List.getD, List.getElem?_eq_none (show k.length ≤ j by omega)]
  · exact ((h1.1.mono (by simp) (by simp)).tr ((hFa.mono (by simp) (by simp)).tr ((hF3.mono (by simp) (by simp)).tr ((h3.2.mono (by simp) (by simp)).tr ((hFb.mono (by simp) (by simp)).tr (hFc.mono (by simp) (by simp)))))))
