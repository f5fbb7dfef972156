set_option maxHeartbeats 4000000 in
set_option maxRecDepth 100000 in
theorem hash_l {b : Nat} {dC : Nat → ClassId} {dI : Nat → Nat → Nat} {cA : Nat → ClassId} {ts : Nat → Nat} {l : Launch} {al : Bool} {n : Nat} {R : Nat → Nat → Option Nat} {L : Nat → Nat → Int64} (hn : 491 ≤ n) (hR : xRk R) {K O nb he : Nat} {I0 : Nat → Nat → Int32} (hnb : he = 64 * nb) (hhe : 64 + he ≤ 704) {Qv : Option Value → xM → Prop} {Qx : String → xM → Prop} : ∀ (k t : Nat) (I : Nat → Nat → Int32), t + k = nb → (xFr [9, 10] [] I0 I ∧ ∀ i, i < 8 → I 9 i = hblk (fun j => I0 7 (64 + j)) t i) → (∀ I' : Nat → Nat → Int32, (xFr [9, 10] [] I0 I' ∧ ∀ i, i < 8 → I' 9 i = hblk (fun j => I0 7 (64 + j)) nb i) → xJ (xGm b dC dI cA ts) l mX7_hashInto 0 0 Qv Qx 0 0 45 [(0, .ref 6), (1, .ref K), (2, .int (nI (64 + he))), (3, .int (nI (64 + 64 * nb)))] [] al n R I' L) → xJ (xGm b dC dI cA ts) l mX7_hashInto 0 0 Qv Qx 0 0 25 [(0, .ref 6), (1, .ref K), (2, .int (nI (64 + he))), (3, .int (nI (64 + 64 * t)))] [] al n R I L := by
  intro k
  induction k with
  | zero =>
    intro t I ht hI hx
    refine xr_iload_n (xd dX7_hashInto 14 rfl) 3 rfl ?_
    refine xr_iload_n (xd dX7_hashInto 15 rfl) 2 rfl ?_
    refine xr_icmpN_ge 45 (xd dX7_hashInto 16 rfl) (by decide) (by omega) (by omega) (fun c27 => ?_) (fun c27 => ?_)
    · skip
      have hz : t = nb := by omega
      subst hz
      exact hx I hI
    · skip
      exact absurd c27 (by omega)
  | succ k ih =>
    intro t I ht hI hx
    refine xr_iload_n (xd dX7_hashInto 14 rfl) 3 rfl ?_
    refine xr_iload_n (xd dX7_hashInto 15 rfl) 2 rfl ?_
    refine xr_icmpN_ge 45 (xd dX7_hashInto 16 rfl) (by decide) (by omega) (by omega) (fun c27 => ?_) (fun c27 => ?_)
    · skip
      exact absurd c27 (by omega)
    · skip
      refine xr_aload_n (xd dX7_hashInto 17 rfl) 0 rfl ?_
      refine xr_aload_n (xd dX7_hashInto 18 rfl) 0 rfl ?_
      refine xr_getR (b := 7) 7 0 (xd dX7_hashInto 19 rfl) f7_9 (by decide) (by decide) (by omega) kd_6 rfl (r_6_0 hR) ?_
      refine xr_iload_n (xd dX7_hashInto 20 rfl) 3 rfl ?_
      refine xr_callV mX7_mix 2 [.ref 7, .int (nI (64 + 64 * t))] (xd dX7_hashInto 21 rfl) l7_55 kX7_mix rfl (by omega) kd_6 (by decide) rfl (by decide) (Nat.le_of_ble_eq_true rfl) (c_mix hn hR (B := 7) (NB := 704) (at_ := 64 + 64 * t) (I := I) (by omega) kd_7 ln_7 (by omega) (by omega)) (Nat.le_refl _) (Nat.le_refl _) (fun r_ M_ h_ => ?_) (fun _ _ h_ => h_.elim)
      obtain ⟨rfl, I1, rfl, hF_, h9_⟩ := h_
      show xJ _ _ _ _ _ _ _ _ _ 39 [(0, .ref 6), (1, .ref K), (2, .int (nI (64 + he))), (3, .int (nI (64 + 64 * t)))] [] _ _ _ I1 L
      refine xr_iinc (v := nI (64 + 64 * (t + 1))) [(0, .ref 6), (1, .ref K), (2, .int (nI (64 + he))), (3, .int (nI (64 + 64 * (t + 1))))] (xd dX7_hashInto 22 rfl) 3 rfl ((nI_add _ 64).trans (congrArg nI (by omega))) (by decide) rfl ?_
      refine xr_goto 25 (xd dX7_hashInto 23 rfl) (by decide) ?_
      refine xJ.pick [0, 1, 2, 3] rfl ?_
      refine ih (t + 1) I1 (by omega) ?_ hx
      obtain ⟨q1, q2⟩ := hI
      refine ⟨q1.tr hF_, fun i hi => ?_⟩
      rw [h9_ i hi]
      refine hcmp_congr q2 (fun j hj => ?_) i hi
      rw [q1 7 _ (by simp) (by simp)]
      congr 1
      omega
set_option maxHeartbeats 4000000 in
set_option maxRecDepth 100000 in
theorem mac_l1 {b : Nat} {dC : Nat → ClassId} {dI : Nat → Nat → Nat} {cA : Nat → ClassId} {ts : Nat → Nat} {l : Launch} {al : Bool} {n : Nat} {R : Nat → Nat → Option Nat} {L : Nat → Nat → Int64} (hn : 491 ≤ n) (hR : xRk R) {K O nb he : Nat} {I0 : Nat → Nat → Int32} (hnb : he = 64 * nb) (hhe : 0 + he ≤ 704) {Qv : Option Value → xM → Prop} {Qx : String → xM → Prop} : ∀ (k t : Nat) (I : Nat → Nat → Int32), t + k = nb → (xFr [9, 10] [] I0 I ∧ ∀ i, i < 8 → I 9 i = hblk (fun j => I0 7 (0 + j)) t i) → (∀ I' : Nat → Nat → Int32, (xFr [9, 10] [] I0 I' ∧ ∀ i, i < 8 → I' 9 i = hblk (fun j => I0 7 (0 + j)) nb i) → xJ (xGm b dC dI cA ts) l mX7_macInto 0 0 Qv Qx 0 0 57 [(0, .ref 6), (1, .ref K), (2, .ref O), (3, .int (nI he)), (4, .int (nI (64 * nb)))] [] al n R I' L) → xJ (xGm b dC dI cA ts) l mX7_macInto 0 0 Qv Qx 0 0 35 [(0, .ref 6), (1, .ref K), (2, .ref O), (3, .int (nI he)), (4, .int (nI (64 * t)))] [] al n R I L := by
  intro k
  induction k with
  | zero =>
    intro t I ht hI hx
    refine xr_iload (xd dX7_macInto 20 rfl) 4 rfl ?_
    refine xr_iload_n (xd dX7_macInto 21 rfl) 3 rfl ?_
    refine xr_icmpN_ge 57 (xd dX7_macInto 22 rfl) (by decide) (by omega) (by omega) (fun c38 => ?_) (fun c38 => ?_)
    · skip
      have hz : t = nb := by omega
      subst hz
      exact hx I hI
    · skip
      exact absurd c38 (by omega)
  | succ k ih =>
    intro t I ht hI hx
    refine xr_iload (xd dX7_macInto 20 rfl) 4 rfl ?_
    refine xr_iload_n (xd dX7_macInto 21 rfl) 3 rfl ?_
    refine xr_icmpN_ge 57 (xd dX7_macInto 22 rfl) (by decide) (by omega) (by omega) (fun c38 => ?_) (fun c38 => ?_)
    · skip
      exact absurd c38 (by omega)
    · skip
      refine xr_aload_n (xd dX7_macInto 23 rfl) 0 rfl ?_
      refine xr_aload_n (xd dX7_macInto 24 rfl) 0 rfl ?_
      refine xr_getR (b := 7) 7 0 (xd dX7_macInto 25 rfl) f7_9 (by decide) (by decide) (by omega) kd_6 rfl (r_6_0 hR) ?_
      refine xr_iload (xd dX7_macInto 26 rfl) 4 rfl ?_
      refine xr_callV mX7_mix 2 [.ref 7, .int (nI (64 * t))] (xd dX7_macInto 27 rfl) l7_55 kX7_mix rfl (by omega) kd_6 (by decide) rfl (by decide) (Nat.le_of_ble_eq_true rfl) (c_mix hn hR (B := 7) (NB := 704) (at_ := 64 * t) (I := I) (by omega) kd_7 ln_7 (by omega) (by omega)) (Nat.le_refl _) (Nat.le_refl _) (fun r_ M_ h_ => ?_) (fun _ _ h_ => h_.elim)
      obtain ⟨rfl, I1, rfl, hF_, h9_⟩ := h_
      show xJ _ _ _ _ _ _ _ _ _ 51 [(0, .ref 6), (1, .ref K), (2, .ref O), (3, .int (nI he)), (4, .int (nI (64 * t)))] [] _ _ _ I1 L
      refine xr_iinc (v := nI (64 * (t + 1))) [(0, .ref 6), (1, .ref K), (2, .ref O), (3, .int (nI he)), (4, .int (nI (64 * (t + 1))))] (xd dX7_macInto 28 rfl) 4 rfl ((nI_add _ 64).trans (congrArg nI (by omega))) (by decide) rfl ?_
      refine xr_goto 35 (xd dX7_macInto 29 rfl) (by decide) ?_
      refine xJ.pick [0, 1, 2, 3, 4] rfl ?_
      refine ih (t + 1) I1 (by omega) ?_ hx
      obtain ⟨q1, q2⟩ := hI
      refine ⟨q1.tr hF_, fun i hi => ?_⟩
      rw [h9_ i hi]
      refine hcmp_congr q2 (fun j hj => ?_) i hi
      rw [q1 7 _ (by simp) (by simp)]
      congr 1
      omega
set_option maxHeartbeats 4000000 in
set_option maxRecDepth 100000 in
theorem mac_l2 {b : Nat} {dC : Nat → ClassId} {dI : Nat → Nat → Nat} {cA : Nat → ClassId} {ts : Nat → Nat} {l : Launch} {al : Bool} {n : Nat} {R : Nat → Nat → Option Nat} {L : Nat → Nat → Int64} (hn : 491 ≤ n) (hR : xRk R) {K O nb he : Nat} {I0 : Nat → Nat → Int32} (hnb : he = 64 * nb) (hhe : 0 + he ≤ 128) {Qv : Option Value → xM → Prop} {Qx : String → xM → Prop} : ∀ (k t : Nat) (I : Nat → Nat → Int32), t + k = nb → (xFr [9, 10] [] I0 I ∧ ∀ i, i < 8 → I 9 i = hblk (fun j => I0 8 (0 + j)) t i) → (∀ I' : Nat → Nat → Int32, (xFr [9, 10] [] I0 I' ∧ ∀ i, i < 8 → I' 9 i = hblk (fun j => I0 8 (0 + j)) nb i) → xJ (xGm b dC dI cA ts) l mX7_macInto 0 0 Qv Qx 0 0 119 [(0, .ref 6), (1, .ref K), (2, .ref O), (3, .int (nI he)), (4, .int (nI (64 * nb)))] [] al n R I' L) → xJ (xGm b dC dI cA ts) l mX7_macInto 0 0 Qv Qx 0 0 97 [(0, .ref 6), (1, .ref K), (2, .ref O), (3, .int (nI he)), (4, .int (nI (64 * t)))] [] al n R I L := by
  intro k
  induction k with
  | zero =>
    intro t I ht hI hx
    refine xr_iload (xd dX7_macInto 52 rfl) 4 rfl ?_
    refine xr_iload_n (xd dX7_macInto 53 rfl) 3 rfl ?_
    refine xr_icmpN_ge 119 (xd dX7_macInto 54 rfl) (by decide) (by omega) (by omega) (fun c100 => ?_) (fun c100 => ?_)
    · skip
      have hz : t = nb := by omega
      subst hz
      exact hx I hI
    · skip
      exact absurd c100 (by omega)
  | succ k ih =>
    intro t I ht hI hx
    refine xr_iload (xd dX7_macInto 52 rfl) 4 rfl ?_
    refine xr_iload_n (xd dX7_macInto 53 rfl) 3 rfl ?_
    refine xr_icmpN_ge 119 (xd dX7_macInto 54 rfl) (by decide) (by omega) (by omega) (fun c100 => ?_) (fun c100 => ?_)
    · skip
      exact absurd c100 (by omega)
    · skip
      refine xr_aload_n (xd dX7_macInto 55 rfl) 0 rfl ?_
      refine xr_aload_n (xd dX7_macInto 56 rfl) 0 rfl ?_
      refine xr_getR (b := 8) 7 1 (xd dX7_macInto 57 rfl) f7_15 (by decide) (by decide) (by omega) kd_6 rfl (r_6_1 hR) ?_
      refine xr_iload (xd dX7_macInto 58 rfl) 4 rfl ?_
      refine xr_callV mX7_mix 2 [.ref 8, .int (nI (64 * t))] (xd dX7_macInto 59 rfl) l7_55 kX7_mix rfl (by omega) kd_6 (by decide) rfl (by decide) (Nat.le_of_ble_eq_true rfl) (c_mix hn hR (B := 8) (NB := 128) (at_ := 64 * t) (I := I) (by omega) kd_8 ln_8 (by omega) (by omega)) (Nat.le_refl _) (Nat.le_refl _) (fun r_ M_ h_ => ?_) (fun _ _ h_ => h_.elim)
      obtain ⟨rfl, I1, rfl, hF_, h9_⟩ := h_
      show xJ _ _ _ _ _ _ _ _ _ 113 [(0, .ref 6), (1, .ref K), (2, .ref O), (3, .int (nI he)), (4, .int (nI (64 * t)))] [] _ _ _ I1 L
      refine xr_iinc (v := nI (64 * (t + 1))) [(0, .ref 6), (1, .ref K), (2, .ref O), (3, .int (nI he)), (4, .int (nI (64 * (t + 1))))] (xd dX7_macInto 60 rfl) 4 rfl ((nI_add _ 64).trans (congrArg nI (by omega))) (by decide) rfl ?_
      refine xr_goto 97 (xd dX7_macInto 61 rfl) (by decide) ?_
      refine xJ.pick [0, 1, 2, 3, 4] rfl ?_
      refine ih (t + 1) I1 (by omega) ?_ hx
      obtain ⟨q1, q2⟩ := hI
      refine ⟨q1.tr hF_, fun i hi => ?_⟩
      rw [h9_ i hi]
      refine hcmp_congr q2 (fun j hj => ?_) i hi
      rw [q1 8 _ (by simp) (by simp)]
      congr 1
      omega
set_option maxHeartbeats 4000000 in
set_option maxRecDepth 100000 in
/-- Sha.hashInto(out): HASH of what was put -/
theorem c_hashInto {b : Nat} {dC : Nat → ClassId} {dI : Nat → Nat → Nat} {cA : Nat → ClassId} {ts : Nat → Nat} {l : Launch} {al : Bool} {n : Nat} {R : Nat → Nat → Option Nat} {L : Nat → Nat → Int64} (hn : 491 ≤ n) (hR : xRk R) {m K NK : Nat} (hK : K < n) (hkK : kd0 K = 13) (hlK : ln0 K = NK) (hNK : NK < 100000) (hNK2 : 32 ≤ NK) (hK7 : K ≠ 7) (hK9 : K ≠ 9) (hK10 : K ≠ 10) {I : Nat → Nat → Int32} (hm : I 6 4 = nI m) (hm2 : m ≤ 568) : xCn (xGm b dC dI cA ts) l mX7_hashInto [.ref 6, .ref K] al (n, R, I, L) 0 0 (fun v M => v = none ∧ ∃ I' : Nat → Nat → Int32, M = (n, R, I', L) ∧ xFr [7, 9, 10, K] [] I I' ∧ (∀ i, i < 32 → I' K i = hsh (fun j => I 7 (64 + j)) m i) ∧ ∀ j, 32 ≤ j → I' K j = I K j) (fun _ _ => False) := by
  refine xCn.ofJ (by decide) (Nat.le_of_ble_eq_true rfl) ?_
  show xJ _ _ _ _ _ _ _ _ _ 0 [(0, .ref 6), (1, .ref K)] [] _ _ _ _ _
  refine xr_aload_n (xd dX7_hashInto 0 rfl) 0 rfl ?_
  refine xr_aload_n (xd dX7_hashInto 1 rfl) 0 rfl ?_
  refine xr_getR (b := 7) 7 0 (xd dX7_hashInto 2 rfl) f7_9 (by decide) (by decide) (by omega) kd_6 rfl (r_6_0 hR) ?_
  refine xr_bipush (v := nI 64) (xd dX7_hashInto 3 rfl) (by decide) ?_
  refine xr_bipush (v := nI 64) (xd dX7_hashInto 4 rfl) (by decide) ?_
  refine xr_aload_n (xd dX7_hashInto 5 rfl) 0 rfl ?_
  refine xr_getI (x := nI m) 7 4 (xd dX7_hashInto 6 rfl) f7_24 (by decide) (by decide) (by omega) kd_6 rfl hm ?_
  refine xr_iadd (xd dX7_hashInto 7 rfl) ?_
  refine xr_eqi (nI (64 + m)) (nI_add _ _) ?_
  refine xr_callV mX7_pad 3 [.ref 7, .int (nI 64), .int (nI (64 + m))] (xd dX7_hashInto 8 rfl) l7_48 kX7_pad rfl (by omega) kd_6 (by decide) rfl (by decide) (Nat.le_of_ble_eq_true rfl) (c_pad hn hR (B := 7) (NB := 704) (fr := 64) (en := 64 + m) (I := I) (by omega) kd_7 ln_7 (by omega) (by omega) (by have := hend_le (64 + m - 64); omega)) (Nat.le_refl _) (Nat.le_refl _) (fun r_ M_ h_ => ?_) (fun _ _ h_ => h_.elim)
  rw [show 64 + m - 64 = m by omega] at h_
  obtain ⟨rfl, I1, rfl, hFa, -, ha⟩ := h_
  show xJ _ _ _ _ _ _ _ _ _ 17 [(0, .ref 6), (1, .ref K)] [.int (nI (64 + hend m))] _ _ _ I1 L
  refine xr_istore_n [(0, .ref 6), (1, .ref K), (2, .int (nI (64 + hend m)))] (xd dX7_hashInto 9 rfl) rfl (by decide) rfl ?_
  refine xr_aload_n (xd dX7_hashInto 10 rfl) 0 rfl ?_
  refine xr_callV mX7_startWords 0 [] (xd dX7_hashInto 11 rfl) l7_52 kX7_startWords rfl (by omega) kd_6 (by decide) rfl (by decide) (Nat.le_of_ble_eq_true rfl) (c_startWords hn hR (I := I1)) (Nat.le_refl _) (Nat.le_refl _) (fun r_ M_ h_ => ?_) (fun _ _ h_ => h_.elim)
  obtain ⟨rfl, I2, rfl, hFb, hb⟩ := h_
  show xJ _ _ _ _ _ _ _ _ _ 22 [(0, .ref 6), (1, .ref K), (2, .int (nI (64 + hend m)))] [] _ _ _ I2 L
  refine xr_bipush (v := nI 64) (xd dX7_hashInto 12 rfl) (by decide) ?_
  refine xr_istore_n [(0, .ref 6), (1, .ref K), (2, .int (nI (64 + hend m))), (3, .int (nI 64))] (xd dX7_hashInto 13 rfl) rfl (by decide) rfl ?_
  have hdv := hend_div m
  have hle := hend_le m
  refine hash_l hn hR (K := K) (O := 0) (I0 := I2) (nb := hend m / 64) (he := hend m) hdv.symm (by omega) (hend m / 64) 0 I2 (by omega) ⟨xFr.rf, hb⟩ (fun I9 h9 => ?_)
  refine xr_aload_n (xd dX7_hashInto 24 rfl) 0 rfl ?_
  refine xr_aload_n (xd dX7_hashInto 25 rfl) 1 rfl ?_
  refine xr_iconst (v := nI 0) (xd dX7_hashInto 26 rfl) (by decide) ?_
  refine xr_callV mX7_storeWords 2 [.ref K, .int (nI 0)] (xd dX7_hashInto 27 rfl) l7_59 kX7_storeWords rfl (by omega) kd_6 (by decide) rfl (by decide) (Nat.le_of_ble_eq_true rfl) (c_storeWords hn hR (K := K) (NK := NK) (p := 0) (I := I9) hK hkK hlK hNK (by omega) (fun q_ => hK9 q_.symm)) (Nat.le_refl _) (Nat.le_refl _) (fun r_ M_ h_ => ?_) (fun _ _ h_ => h_.elim)
  obtain ⟨rfl, I3, rfl, hFd, hd1, hd2⟩ := h_
  show xJ _ _ _ _ _ _ _ _ _ 51 [(0, .ref 6), (1, .ref K), (2, .int (nI (64 + hend m))), (3, .int (nI (64 + 64 * (hend m / 64))))] [] _ _ _ I3 L
  refine xr_vret (xd dX7_hashInto 28 rfl) rfl (Nat.zero_le _) (Nat.zero_le _) (fun _ => rfl) ?_
  refine ⟨rfl, I3, rfl, ?_, fun i hi => ?_, fun j hj => ?_⟩
  · refine (hFa.mono (by simp) (by simp)).tr (xFr.tr (hFb.mono (by simp) (by simp)) (xFr.tr (h9.1.mono (by simp) (by simp)) (hFd.mono (by simp) (by simp))))
  · have e1 := hd1 i hi
    rw [Nat.zero_add] at e1
    rw [e1]
    refine hdig_congr (fun q hq => ?_) hi
    rw [h9.2 q hq]
    refine hblk_congr _ (fun j hj => ?_) q hq
    show _ = hpad _ m j
    rw [hFb 7 _ (by simp) (by simp), ha j (by omega)]
  · rw [hd2 j (Or.inr (by omega)), h9.1 K j (by simp; omega) (by simp), hFb K j (by simp; omega) (by simp), hFa K j (by simp; omega) (by simp)]
set_option maxHeartbeats 4000000 in
set_option maxRecDepth 100000 in
/-- Sha.macInto(key, out): MAC by the key of what was put -/
theorem c_macInto {b : Nat} {dC : Nat → ClassId} {dI : Nat → Nat → Nat} {cA : Nat → ClassId} {ts : Nat → Nat} {l : Launch} {al : Bool} {n : Nat} {R : Nat → Nat → Option Nat} {L : Nat → Nat → Int64} (hn : 491 ≤ n) (hR : xRk R) {m K NK O NO : Nat} (hK : K < n) (hkK : kd0 K = 13) (hlK : ln0 K = NK) (hNK : NK < 100000) (hK7 : K ≠ 7) (hK8 : K ≠ 8) (hK9 : K ≠ 9) (hK10 : K ≠ 10) (hO : O < n) (hkO : kd0 O = 13) (hlO : ln0 O = NO) (hNO : NO < 100000) (hNO2 : 32 ≤ NO) (hO7 : O ≠ 7) (hO8 : O ≠ 8) (hO9 : O ≠ 9) (hO10 : O ≠ 10) {I : Nat → Nat → Int32} (hm : I 6 4 = nI m) (hm2 : m ≤ 568) : xCn (xGm b dC dI cA ts) l mX7_macInto [.ref 6, .ref K, .ref O] al (n, R, I, L) 0 0 (fun v M => v = none ∧ ∃ I' : Nat → Nat → Int32, M = (n, R, I', L) ∧ xFr [7, 8, 9, 10, O] [] I I' ∧ (∀ i, i < 32 → I' O i = hmac (I K) NK (fun j => I 7 (64 + j)) m i) ∧ ∀ j, 32 ≤ j → I' O j = I O j) (fun _ _ => False) := by
  refine xCn.ofJ (by decide) (Nat.le_of_ble_eq_true rfl) ?_
  show xJ _ _ _ _ _ _ _ _ _ 0 [(0, .ref 6), (1, .ref K), (2, .ref O)] [] _ _ _ _ _
  refine xr_aload_n (xd dX7_macInto 0 rfl) 0 rfl ?_
  refine xr_aload_n (xd dX7_macInto 1 rfl) 0 rfl ?_
  refine xr_getR (b := 7) 7 0 (xd dX7_macInto 2 rfl) f7_9 (by decide) (by decide) (by omega) kd_6 rfl (r_6_0 hR) ?_
  refine xr_aload_n (xd dX7_macInto 3 rfl) 1 rfl ?_
  refine xr_bipush (v := nI 54) (xd dX7_macInto 4 rfl) (by decide) ?_
  refine xr_callV mX7_padKey 3 [.ref 7, .ref K, .int (nI 54)] (xd dX7_macInto 5 rfl) l7_62 kX7_padKey rfl (by omega) kd_6 (by decide) rfl (by decide) (Nat.le_of_ble_eq_true rfl) (c_padKey hn hR (B := 7) (NB := 704) (K := K) (NK := NK) (z := nI 54) (I := I) (by omega) kd_7 ln_7 (by omega) (by omega) hK hkK hlK hNK hK7) (Nat.le_refl _) (Nat.le_refl _) (fun r_ M_ h_ => ?_) (fun _ _ h_ => h_.elim)
  obtain ⟨rfl, I1, rfl, hF1, h11, h12⟩ := h_
  show xJ _ _ _ _ _ _ _ _ _ 11 [(0, .ref 6), (1, .ref K), (2, .ref O)] [] _ _ _ I1 L
  refine xr_aload_n (xd dX7_macInto 6 rfl) 0 rfl ?_
  refine xr_aload_n (xd dX7_macInto 7 rfl) 0 rfl ?_
  refine xr_getR (b := 7) 7 0 (xd dX7_macInto 8 rfl) f7_9 (by decide) (by decide) (by omega) kd_6 rfl (r_6_0 hR) ?_
  refine xr_iconst (v := nI 0) (xd dX7_macInto 9 rfl) (by decide) ?_
  refine xr_bipush (v := nI 64) (xd dX7_macInto 10 rfl) (by decide) ?_
  refine xr_aload_n (xd dX7_macInto 11 rfl) 0 rfl ?_
  refine xr_getI (x := nI m) 7 4 (xd dX7_macInto 12 rfl) f7_24 (by decide) (by decide) (by omega) kd_6 rfl (by rw [hF1 6 4 (by simp) (by simp)]; exact hm) ?_
  refine xr_iadd (xd dX7_macInto 13 rfl) ?_
  refine xr_eqi (nI (64 + m)) (nI_add _ _) ?_
  refine xr_callV mX7_pad 3 [.ref 7, .int (nI 0), .int (nI (64 + m))] (xd dX7_macInto 14 rfl) l7_48 kX7_pad rfl (by omega) kd_6 (by decide) rfl (by decide) (Nat.le_of_ble_eq_true rfl) (c_pad hn hR (B := 7) (NB := 704) (fr := 0) (en := 64 + m) (I := I1) (by omega) kd_7 ln_7 (by omega) (by omega) (by have := hend_le (64 + m - 0); omega)) (Nat.le_refl _) (Nat.le_refl _) (fun r_ M_ h_ => ?_) (fun _ _ h_ => h_.elim)
  rw [Nat.sub_zero, Nat.zero_add] at h_
  obtain ⟨rfl, I2, rfl, hF2, -, h2⟩ := h_
  show xJ _ _ _ _ _ _ _ _ _ 27 [(0, .ref 6), (1, .ref K), (2, .ref O)] [.int (nI (hend (64 + m)))] _ _ _ I2 L
  refine xr_istore_n [(0, .ref 6), (1, .ref K), (2, .ref O), (3, .int (nI (hend (64 + m))))] (xd dX7_macInto 15 rfl) rfl (by decide) rfl ?_
  refine xr_aload_n (xd dX7_macInto 16 rfl) 0 rfl ?_
  refine xr_callV mX7_startWords 0 [] (xd dX7_macInto 17 rfl) l7_52 kX7_startWords rfl (by omega) kd_6 (by decide) rfl (by decide) (Nat.le_of_ble_eq_true rfl) (c_startWords hn hR (I := I2)) (Nat.le_refl _) (Nat.le_refl _) (fun r_ M_ h_ => ?_) (fun _ _ h_ => h_.elim)
  obtain ⟨rfl, I3, rfl, hF3, h3⟩ := h_
  show xJ _ _ _ _ _ _ _ _ _ 32 [(0, .ref 6), (1, .ref K), (2, .ref O), (3, .int (nI (hend (64 + m))))] [] _ _ _ I3 L
  refine xr_iconst (v := nI 0) (xd dX7_macInto 18 rfl) (by decide) ?_
  refine xr_istore [(0, .ref 6), (1, .ref K), (2, .ref O), (3, .int (nI (hend (64 + m)))), (4, .int (nI 0))] (xd dX7_macInto 19 rfl) (by decide) rfl ?_
  have hdv := hend_div (64 + m)
  have hle := hend_le (64 + m)
  refine mac_l1 hn hR (K := K) (O := O) (I0 := I3) (nb := hend (64 + m) / 64) (he := hend (64 + m)) hdv.symm (by omega) (hend (64 + m) / 64) 0 I3 (by omega) ⟨xFr.rf, h3⟩ (fun I21 h21 => ?_)
  refine xr_aload_n (xd dX7_macInto 30 rfl) 0 rfl ?_
  refine xr_aload_n (xd dX7_macInto 31 rfl) 0 rfl ?_
  refine xr_getR (b := 8) 7 1 (xd dX7_macInto 32 rfl) f7_15 (by decide) (by decide) (by omega) kd_6 rfl (r_6_1 hR) ?_
  refine xr_bipush (v := nI 64) (xd dX7_macInto 33 rfl) (by decide) ?_
  refine xr_callV mX7_storeWords 2 [.ref 8, .int (nI 64)] (xd dX7_macInto 34 rfl) l7_59 kX7_storeWords rfl (by omega) kd_6 (by decide) rfl (by decide) (Nat.le_of_ble_eq_true rfl) (c_storeWords hn hR (K := 8) (NK := 128) (p := 64) (I := I21) (by omega) kd_8 ln_8 (by omega) (by omega) (by decide)) (Nat.le_refl _) (Nat.le_refl _) (fun r_ M_ h_ => ?_) (fun _ _ h_ => h_.elim)
  obtain ⟨rfl, I4, rfl, hF4, h41, h42⟩ := h_
  show xJ _ _ _ _ _ _ _ _ _ 67 [(0, .ref 6), (1, .ref K), (2, .ref O), (3, .int (nI (hend (64 + m)))), (4, .int (nI (64 * (hend (64 + m) / 64))))] [] _ _ _ I4 L
  refine xr_aload_n (xd dX7_macInto 35 rfl) 0 rfl ?_
  refine xr_aload_n (xd dX7_macInto 36 rfl) 0 rfl ?_
  refine xr_getR (b := 8) 7 1 (xd dX7_macInto 37 rfl) f7_15 (by decide) (by decide) (by omega) kd_6 rfl (r_6_1 hR) ?_
  refine xr_aload_n (xd dX7_macInto 38 rfl) 1 rfl ?_
  refine xr_bipush (v := nI 92) (xd dX7_macInto 39 rfl) (by decide) ?_
  refine xr_callV mX7_padKey 3 [.ref 8, .ref K, .int (nI 92)] (xd dX7_macInto 40 rfl) l7_62 kX7_padKey rfl (by omega) kd_6 (by decide) rfl (by decide) (Nat.le_of_ble_eq_true rfl) (c_padKey hn hR (B := 8) (NB := 128) (K := K) (NK := NK) (z := nI 92) (I := I4) (by omega) kd_8 ln_8 (by omega) (by omega) hK hkK hlK hNK hK8) (Nat.le_refl _) (Nat.le_refl _) (fun r_ M_ h_ => ?_) (fun _ _ h_ => h_.elim)
  obtain ⟨rfl, I5, rfl, hF5, h51, h52⟩ := h_
  show xJ _ _ _ _ _ _ _ _ _ 78 [(0, .ref 6), (1, .ref K), (2, .ref O), (3, .int (nI (hend (64 + m)))), (4, .int (nI (64 * (hend (64 + m) / 64))))] [] _ _ _ I5 L
  refine xr_aload_n (xd dX7_macInto 41 rfl) 0 rfl ?_
  refine xr_aload_n (xd dX7_macInto 42 rfl) 0 rfl ?_
  refine xr_getR (b := 8) 7 1 (xd dX7_macInto 43 rfl) f7_15 (by decide) (by decide) (by omega) kd_6 rfl (r_6_1 hR) ?_
  refine xr_iconst (v := nI 0) (xd dX7_macInto 44 rfl) (by decide) ?_
  refine xr_bipush (v := nI 96) (xd dX7_macInto 45 rfl) (by decide) ?_
  refine xr_callV mX7_pad 3 [.ref 8, .int (nI 0), .int (nI 96)] (xd dX7_macInto 46 rfl) l7_48 kX7_pad rfl (by omega) kd_6 (by decide) rfl (by decide) (Nat.le_of_ble_eq_true rfl) (c_pad hn hR (B := 8) (NB := 128) (fr := 0) (en := 96) (I := I5) (by omega) kd_8 ln_8 (by omega) (by omega) (by have := hend_le (96 - 0); unfold hend; omega)) (Nat.le_refl _) (Nat.le_refl _) (fun r_ M_ h_ => ?_) (fun _ _ h_ => h_.elim)
  rw [Nat.sub_zero, Nat.zero_add] at h_
  obtain ⟨rfl, I6, rfl, hF6, -, h6⟩ := h_
  show xJ _ _ _ _ _ _ _ _ _ 89 [(0, .ref 6), (1, .ref K), (2, .ref O), (3, .int (nI (hend (64 + m)))), (4, .int (nI (64 * (hend (64 + m) / 64))))] [.int (nI (hend 96))] _ _ _ I6 L
  refine xr_istore_n [(0, .ref 6), (1, .ref K), (2, .ref O), (3, .int (nI (hend 96))), (4, .int (nI (64 * (hend (64 + m) / 64))))] (xd dX7_macInto 47 rfl) rfl (by decide) rfl ?_
  refine xr_aload_n (xd dX7_macInto 48 rfl) 0 rfl ?_
  refine xr_callV mX7_startWords 0 [] (xd dX7_macInto 49 rfl) l7_52 kX7_startWords rfl (by omega) kd_6 (by decide) rfl (by decide) (Nat.le_of_ble_eq_true rfl) (c_startWords hn hR (I := I6)) (Nat.le_refl _) (Nat.le_refl _) (fun r_ M_ h_ => ?_) (fun _ _ h_ => h_.elim)
  obtain ⟨rfl, I7, rfl, hF7, h7⟩ := h_
  show xJ _ _ _ _ _ _ _ _ _ 94 [(0, .ref 6), (1, .ref K), (2, .ref O), (3, .int (nI (hend 96))), (4, .int (nI (64 * (hend (64 + m) / 64))))] [] _ _ _ I7 L
  refine xr_iconst (v := nI 0) (xd dX7_macInto 50 rfl) (by decide) ?_
  refine xr_istore [(0, .ref 6), (1, .ref K), (2, .ref O), (3, .int (nI (hend 96))), (4, .int (nI 0))] (xd dX7_macInto 51 rfl) (by decide) rfl ?_
  have hdw := hend_div 96
  have hlf := hend_le 96
  refine mac_l2 hn hR (K := K) (O := O) (I0 := I7) (nb := hend 96 / 64) (he := hend 96) hdw.symm (by unfold hend; omega) (hend 96 / 64) 0 I7 (by omega) ⟨xFr.rf, h7⟩ (fun I22 h22 => ?_)
  refine xr_aload_n (xd dX7_macInto 62 rfl) 0 rfl ?_
  refine xr_aload_n (xd dX7_macInto 63 rfl) 2 rfl ?_
  refine xr_iconst (v := nI 0) (xd dX7_macInto 64 rfl) (by decide) ?_
  refine xr_callV mX7_storeWords 2 [.ref O, .int (nI 0)] (xd dX7_macInto 65 rfl) l7_59 kX7_storeWords rfl (by omega) kd_6 (by decide) rfl (by decide) (Nat.le_of_ble_eq_true rfl) (c_storeWords hn hR (K := O) (NK := NO) (p := 0) (I := I22) hO hkO hlO hNO (by omega) (fun q_ => hO9 q_.symm)) (Nat.le_refl _) (Nat.le_refl _) (fun r_ M_ h_ => ?_) (fun _ _ h_ => h_.elim)
  obtain ⟨rfl, I8, rfl, hF9, h91, h92⟩ := h_
  show xJ _ _ _ _ _ _ _ _ _ 125 [(0, .ref 6), (1, .ref K), (2, .ref O), (3, .int (nI (hend 96))), (4, .int (nI (64 * (hend 96 / 64))))] [] _ _ _ I8 L
  refine xr_vret (xd dX7_macInto 66 rfl) rfl (Nat.zero_le _) (Nat.zero_le _) (fun _ => rfl) ?_
  have hK_ : ∀ j, j < NK → ∀ Ix : Nat → Nat → Int32, xFr [7, 8, 9, 10] [] I Ix → Ix K j = I K j := fun j _ Ix h => h K j (by simp; omega) (by simp)
  have g1 := hF1.mono (S' := [7, 8, 9, 10]) (T' := []) (by simp) (by simp)
  have g2 := g1.tr (hF2.mono (by simp) (by simp))
  have g3 := g2.tr (hF3.mono (by simp) (by simp))
  have g4 := g3.tr (h21.1.mono (by simp) (by simp))
  have g5 := g4.tr (hF4.mono (by simp) (by simp))
  have g6 := g5.tr (hF5.mono (by simp) (by simp))
  have g7 := g6.tr (hF6.mono (by simp) (by simp))
  have g8 := g7.tr (hF7.mono (by simp) (by simp))
  have g9 := g8.tr (h22.1.mono (by simp) (by simp))
  refine ⟨rfl, I8, rfl, (g9.mono (by simp) (by simp)).tr (hF9.mono (by simp) (by simp)), fun i hi => ?_, fun j hj => ?_⟩
  · have e1 := h91 i hi
    rw [Nat.zero_add] at e1
    rw [e1]
    refine hdig_congr (fun q hq => ?_) hi
    rw [h22.2 q hq]
    refine hblk_congr _ (fun j hj => ?_) q hq
    show _ = hpad _ 96 j
    rw [Nat.zero_add, hF7 8 _ (by simp) (by simp)]
    have e2 := h6 j (by omega)
    rw [Nat.zero_add] at e2
    rw [e2]
    refine hpad_congr (fun r hr => ?_) j
    have hr : r < 96 := hr
    show _ = hcat _ 64 _ r
    rw [Nat.zero_add]
    unfold hcat
    by_cases er : r < 64
    · rw [if_pos er, h51 r er]
      unfold hky
      by_cases ek : r < NK
      · rw [if_pos ek, if_pos ek, hK_ r ek _ g5]; rfl
      · rw [if_neg ek, if_neg ek]; rfl
    · rw [if_neg er, h52 r (by omega)]
      have e3 := h41 (r - 64) (by omega)
      rw [show 64 + (r - 64) = r by omega] at e3
      rw [e3]
      refine hdig_congr (fun q2 hq2 => ?_) (by omega)
      rw [h21.2 q2 hq2]
      refine hblk_congr _ (fun j2 hj2 => ?_) q2 hq2
      show _ = hpad _ (64 + m) j2
      rw [Nat.zero_add, hF3 7 _ (by simp) (by simp)]
      have e4 := h2 j2 (by omega)
      rw [Nat.zero_add] at e4
      rw [e4]
      refine hpad_congr (fun u hu => ?_) j2
      rw [Nat.zero_add]
      by_cases eu : u < 64
      · rw [if_pos eu, h11 u eu]; rfl
      · rw [if_neg eu, h12 u (by omega)]
        show _ = I 7 (64 + (u - 64))
        rw [show 64 + (u - 64) = u by omega]
  · rw [h92 j (Or.inr (by omega)), g9 O j (by simp; omega) (by simp)]
