/-! the same in the class -/
theorem s_maskOf {e p : Nat} {t w : Int} {J : zM} {L : yM} {Q : Int → zM → yM → Prop} (he : iSide e) (hw : 0 ≤ w ∧ w < 4) (hp : p < 6 ∨ 10 < p) (h0 : 0 ≤ t) (h1 : t + 8 ≤ (ln0 p : Int)) (hQ : ∀ J', sg J' (e + 166) 0 32 = mcI (sg J (e + 158 + w.toNat) 0 32) (sg J p t 8) → zF (cMac (e + 166)) J J' → Q (256 * (mcI (sg J (e + 158 + w.toNat) 0 32) (sg J p t 8)).getD 0 0 + (mcI (sg J (e + 158 + w.toNat) 0 32) (sg J p t 8)).getD 1 0) J' L) : w_X5_maskOf e p t w J L Q := by
  have he2 : 139 ≤ e := by unfold iSide at he; omega
  have hl := lnR he w hw
  unfold w_X5_maskOf
  refine s_clear (fun J1 h1' f1 => ?_)
  refine s_putAll h1' h0 (by decide) h1 (by decide) (fun J2 h2 f2 => ⟨hw, ?_⟩)
  have e1 : J1 p = J p := f1 p (by unfold c67; omega)
  rw [List.nil_append, show sg J1 p t (8 : Int).toNat = sg J p t 8 from sg_row e1] at h2
  have f12 := f1.tr f2
  refine s_macInto h2 (by omega) (by omega) (by rw [lnS_166 he]; decide) (fun J3 h3 _ f3 => ?_)
  rw [hl.2.2, sg_row (f12 _ (by unfold c67; omega))] at h3
  obtain ⟨d, hd⟩ : ∃ d, d = mcI (sg J (e + 158 + w.toNat) 0 32) (sg J p t 8) := ⟨_, rfl⟩
  rw [← hd] at h3 hQ
  have hdl : d.length = 32 := by rw [hd]; exact mcI_len _ _
  have hdo : oct d := by rw [hd]; exact mcI_oct _ _
  have g0 : J3 (e + 166) 0 = d.getD 0 0 := by rw [← h3, sg_get (by decide)]; rfl
  have g1 : J3 (e + 166) 1 = d.getD 1 0 := by rw [← h3, sg_get (by decide)]; rfl
  have b0 : 0 ≤ d.getD 0 0 ∧ d.getD 0 0 < 256 := by
    rw [List.getD_eq_getElem?_getD, List.getElem?_eq_getElem (by omega)]
    exact hdo _ (List.getElem_mem _)
  have b1 : 0 ≤ d.getD 1 0 ∧ d.getD 1 0 < 256 := by
    rw [List.getD_eq_getElem?_getD, List.getElem?_eq_getElem (by omega)]
    exact hdo _ (List.getElem_mem _)
  rw [g0, g1, zor_256 ⟨b0.1, by omega⟩ b1, Int.mul_comm]
  exact hQ J3 h3 ((f12.mono (fun a q => c67.mac q)).tr f3)
theorem s_tagOf {e p : Nat} {at_ w c ep : Int} {J : zM} {L : yM} {Q : Nat → zM → yM → Prop} (he : iSide e) (hw : 0 ≤ w ∧ w < 4) (hp : p < 6 ∨ 10 < p) (h0 : 0 ≤ at_) (hc : 0 ≤ c) (h1 : at_ + 5 + c ≤ (ln0 p : Int)) (h2 : c ≤ 500) (hep : J p at_ = 32 + ep) (hep2 : 0 ≤ ep ∧ ep < 200) (hQ : ∀ J', sg J' (e + 166) 0 32 = mcI (sg J (e + 153 + w.toNat) 0 32) ([2, ep] ++ sg J p (at_ + 1) 2 ++ sg J p at_ (5 + c).toNat) → zF (cMac (e + 166)) J J' → Q (e + 166) J' L) : w_X5_tagOf e p at_ w c J L Q := by
  have he2 : 139 ≤ e := by unfold iSide at he; omega
  have hl := lnR he w hw
  unfold w_X5_tagOf
  refine s_clear (fun J1 t1 f1 => ?_)
  refine s_put t1 (by decide) (fun J2 t2 f2 => ⟨⟨h0, by omega⟩, ?_⟩)
  have f12 := f1.tr f2
  have e2 : J2 p = J p := f12 p (by unfold c67; omega)
  rw [e2, hep]
  refine s_put t2 (by simp) (fun J3 t3 f3 => ?_)
  have f13 := f12.tr f3
  refine s_putAll t3 (by omega) (by decide) (by omega) (by simp) (fun J4 t4 f4 => ?_)
  have f14 := f13.tr f4
  refine s_putAll t4 h0 (by omega) (by omega) (by simp [sg_len]; omega) (fun J5 t5 f5 => ⟨hw, ?_⟩)
  have f15 := f14.tr f5
  refine s_macInto t5 (by omega) (by omega) (by rw [lnS_166 he]; decide) (fun J6 h6 _ f6 => hQ J6 ?_ ((f15.mono (fun a q => c67.mac q)).tr f6))
  rw [h6, hl.2.1, sg_row (f15 _ (by unfold c67; omega)), sg_row (f14 p (by unfold c67; omega)), sg_row (f13 p (by unfold c67; omega)), show (2 : Int).toNat = 2 from rfl, show (32 + ep - 32) % 256 = ep by omega]
  simp
theorem s_veil {e p : Nat} {at_ w c ep : Int} {J : zM} {L : yM} {Q : zM → yM → Prop} (he : iSide e) (hw : 0 ≤ w ∧ w < 4) (hp : p < 6 ∨ 10 < p) (hp2 : p < e + 144 ∨ e + 168 ≤ p) (h0 : 0 ≤ at_) (hc : 0 ≤ c) (h1 : at_ + 5 + c ≤ (ln0 p : Int)) (h2 : c ≤ 500) (hep : J p at_ = 32 + ep) (hep2 : 0 ≤ ep ∧ ep < 200) (hQ : ∀ J', (∀ j, 0 ≤ j → j < c → J' p (at_ + 5 + j) = zxor (J p (at_ + 5 + j)) (strA (sg J (e + 153 + w.toNat) 0 32) ep (J p (at_ + 1)) (J p (at_ + 2)) j)) → (∀ i, ¬ (at_ + 5 ≤ i ∧ i < at_ + 5 + c) → J' p i = J p i) → zF (fun a => cMac (e + 166) a ∨ a = p) J J' → Q J' L) : w_X5_veil e p at_ w c J L Q := by
  have he2 : 139 ≤ e := by unfold iSide at he; omega
  have hl := lnR he w hw
  have hlp := ln0_lt p
  obtain ⟨key, hkey⟩ : ∃ key, key = sg J (e + 153 + w.toNat) 0 32 := ⟨_, rfl⟩
  obtain ⟨S, hS⟩ : ∃ S : Int → Int, S = strA key ep (J p (at_ + 1)) (J p (at_ + 2)) := ⟨_, rfl⟩
  rw [← hkey, ← hS] at hQ
  unfold w_X5_veil
  intro fr efr
  refine ⟨⟨by omega, by omega⟩, ⟨by omega, by omega⟩, ?_⟩
  rw [if_neg (by omega)]
  refine zl_z.by (fun m x J' L' => (m : Int) = 20 - x ∧ 0 ≤ x ∧ (x = 0 ∨ (x - 1) * 32 < c) ∧ L' = L ∧ (∀ j, 0 ≤ j → j < c → j < x * 32 → J' p (at_ + 5 + j) = zxor (J p (at_ + 5 + j)) (S j)) ∧ (∀ i, ¬ (at_ + 5 ≤ i ∧ i < at_ + 5 + c ∧ i < at_ + 5 + x * 32) → J' p i = J p i) ∧ zF (fun a => cMac (e + 166) a ∨ a = p) J J') ?_ 20 0 J L ⟨by omega, by omega, Or.inl rfl, rfl, fun j q1 _ q3 => absurd q1 (by omega), fun _ _ => rfl, zF.rf⟩
  rintro m x J1 L1 K ⟨hm, hx, hx2, rfl, g1, g2, f1⟩ hK
  refine ⟨⟨by omega, by omega⟩, ⟨by omega, by omega⟩, ?_⟩
  by_cases q : x * 32 < c
  · rw [if_pos q]
    refine s_clear (fun J2 t2 f2 => ?_)
    refine s_put t2 (by decide) (fun J3 t3 f3 => ⟨⟨h0, by omega⟩, ?_⟩)
    have f23 := f2.tr f3
    have r3 : J3 p = J1 p := f23 p (by unfold c67; omega)
    rw [r3, g2 at_ (by omega), hep]
    refine s_put t3 (by simp) (fun J4 t4 f4 => ?_)
    have f24 := f23.tr f4
    refine s_putAll t4 (by omega) (by decide) (by omega) (by simp) (fun J5 t5 f5 => ?_)
    have f25 := f24.tr f5
    refine s_put t5 (by simp [sg_len]) (fun J6 t6 f6 => ⟨hw, ?_⟩)
    have f26 := f25.tr f6
    have r4 : J4 p = J1 p := f24 p (by unfold c67; omega)
    have n2 : sg J4 p (at_ + 1) (2 : Int).toNat = [J p (at_ + 1), J p (at_ + 2)] := by
      show sg J4 p (at_ + 1) 2 = _
      rw [sg_row r4, sg_succ, sg_succ, sg_0, g2 _ (by omega), g2 _ (by omega)]
      simp
      congr 1
      omega
    rw [n2] at t6
    refine s_macInto t6 (by omega) (by omega) (by rw [lnS_166 he]; decide) (fun J7 h7 _ f7 => ?_)
    have k7 : sg J6 (e + 153 + w.toNat) 0 (ln0 (e + 153 + w.toNat)) = key := by
      rw [hl.2.1, sg_row (f26 _ (by unfold c67; omega)), sg_row (f1 _ (by unfold cMac; omega)), hkey]
    rw [k7] at h7
    have h7' : sg J7 (e + 166) 0 32 = strI key ep (J p (at_ + 1)) (J p (at_ + 2)) x := by
      rw [h7]
      unfold strI
      rw [show (32 + ep - 32) % 256 = ep by omega, show x % 256 = x by omega]
      simp
    have r7 : J7 p = J1 p := by rw [f7 p (by unfold cMac; omega), f26 p (by unfold c67; omega)]
    refine zl_z.by (fun m2 k J' L' => (m2 : Int) = 32 - k ∧ 0 ≤ k ∧ L' = L1 ∧ (∀ j, 0 ≤ j → j < c → j < x * 32 + k → J' p (at_ + 5 + j) = zxor (J p (at_ + 5 + j)) (S j)) ∧ (∀ i, ¬ (at_ + 5 ≤ i ∧ i < at_ + 5 + c ∧ i < at_ + 5 + x * 32 + k) → J' p i = J p i) ∧ zF (fun a => a = p) J7 J') ?_ 32 0 J7 L1 ⟨by omega, by omega, rfl, fun j q1 q2 q3 => by rw [r7]; exact g1 j q1 q2 (by omega), fun i hi => by rw [r7]; exact g2 i (by omega), zF.rf⟩
    rintro m2 k J8 L8 K2 ⟨hm2, hk, rfl, u1, u2, u3⟩ hK2
    intro K3 hK3
    have done : (∀ j, 0 ≤ j → j < c → j < (x + 1) * 32 → J8 p (at_ + 5 + j) = zxor (J p (at_ + 5 + j)) (S j)) → (∀ i, ¬ (at_ + 5 ≤ i ∧ i < at_ + 5 + c ∧ i < at_ + 5 + (x + 1) * 32) → J8 p i = J p i) → K3 J8 L8 := fun d1 d2 => hK3 J8 L8 (hK (m - 1) (x + 1) J8 L8 (by omega) ⟨by omega, by omega, Or.inr (by omega), rfl, d1, d2, by
      refine f1.tr (zF.tr (J1 := J7) (zF.tr (J1 := J6) (f26.mono (fun a q => Or.inl (c67.mac q))) (f7.mono (fun a q => Or.inl q))) (u3.mono (fun a q => Or.inr q)))⟩)
    refine ⟨⟨by omega, by omega⟩, ?_⟩
    by_cases ck : k < 32
    · rw [if_pos ck]
      refine ⟨⟨by omega, by omega⟩, ⟨by omega, by omega⟩, ?_⟩
      by_cases cc : x * 32 + k < c
      · rw [if_pos cc]
        refine ⟨⟨by omega, by omega⟩, ⟨by omega, by omega⟩, ⟨by omega, by omega⟩, fun J9 e9 => ?_⟩
        have hd : J8 (e + 166) k = S (x * 32 + k) := by
          rw [u3 (e + 166) (by omega), hS]
          unfold strA
          rw [show (x * 32 + k) / 32 = x by omega, show (x * 32 + k) % 32 = k by omega, ← h7', sg_get (by omega)]
          congr 1
          omega
        have hv : J8 p (fr + x * 32 + k) = J p (at_ + 5 + (x * 32 + k)) := by
          rw [u2 _ (by omega)]
          congr 1
          omega
        rw [hd, hv] at e9
        refine hK2 (m2 - 1) (k + 1) J9 L8 (by omega) ⟨by omega, by omega, rfl, fun j j0 j1 j2 => ?_, fun i hi => ?_, ?_⟩
        · by_cases qj : j = x * 32 + k
          · subst qj
            rw [e9, show at_ + 5 + (x * 32 + k) = fr + x * 32 + k by omega, zs_s]
          · rw [e9, zs_n J8 (Or.inr (by omega))]
            exact u1 j j0 j1 (by omega)
        · rw [e9, zs_n J8 (Or.inr (by omega))]
          exact u2 i (by omega)
        · rw [e9]
          exact u3.tr (zF.zs rfl)
      · rw [if_neg cc]
        exact done (fun j j0 j1 j2 => u1 j j0 j1 (by omega)) (fun i hi => u2 i (by omega))
    · rw [if_neg ck]
      exact done (fun j j0 j1 j2 => u1 j j0 j1 (by omega)) (fun i hi => u2 i (by omega))
  · rw [if_neg q]
    refine hQ J1 (fun j j0 j1 => g1 j j0 j1 (by omega)) (fun i hi => g2 i (by omega)) f1
theorem zxor_low {x y : Int} (hx : 0 ≤ x ∧ x ≤ 65535) (hy : 0 ≤ y ∧ y < 256) : zxor x y % 256 = zxor (x % 256) y := by
  have e1 : bvn (oI x ^^^ oI y) = x.toNat ^^^ y.toNat := by rw [bvn_xor, bvn_pos ⟨hx.1, by omega⟩, bvn_pos ⟨hy.1, by omega⟩]
  have e2 : x.toNat ^^^ y.toNat < 2 ^ 16 := Nat.xor_lt_two_pow (by omega) (by omega)
  rw [zxor_nat (x := x % 256) (by omega) hy]
  unfold zxor
  rw [bvn_toInt (by omega), e1]
  have e3 : (x.toNat ^^^ y.toNat) % 2 ^ 8 = (x.toNat % 2 ^ 8) ^^^ (y.toNat % 2 ^ 8) := Nat.xor_mod_two_pow
  rw [Nat.mod_eq_of_lt (show y.toNat < 2 ^ 8 by omega)] at e3
  rw [show (x % 256).toNat = x.toNat % 2 ^ 8 by omega, ← e3]
  generalize x.toNat ^^^ y.toNat = N
  omega
