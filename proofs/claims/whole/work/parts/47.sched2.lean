theorem lnR {e : Nat} (he : iSide e) (i : Int) (h : 0 ≤ i ∧ i < 4) : ln0 (e + 146 + i.toNat) = 32 ∧ ln0 (e + 153 + i.toNat) = 32 ∧ ln0 (e + 158 + i.toNat) = 32 := by
  have h4 : i = 0 ∨ i = 1 ∨ i = 2 ∨ i = 3 := by omega
  rcases h4 with rfl | rfl | rfl | rfl
  · exact ⟨lnS_146 he, lnS_153 he, lnS_158 he⟩
  · exact ⟨lnS_147 he, lnS_154 he, lnS_159 he⟩
  · exact ⟨lnS_148 he, lnS_155 he, lnS_160 he⟩
  · exact ⟨lnS_149 he, lnS_156 he, lnS_161 he⟩
/-- KEYS and MASKS of SECRETS lo .. hi - 1 -/
abbrev cKM (e : Nat) (lo hi : Int) (a : Nat) : Prop := (6 ≤ a ∧ a ≤ 10) ∨ ((e : Int) + 153 + lo ≤ (a : Int) ∧ (a : Int) < (e : Int) + 153 + hi) ∨ ((e : Int) + 158 + lo ≤ (a : Int) ∧ (a : Int) < (e : Int) + 158 + hi)
theorem s_keysLoop {e : Nat} {lo hi : Int} {Rest : zM → yM → Prop} {J : zM} {L : yM} (he : iSide e) (hlo : 0 ≤ lo) (hlh : lo ≤ hi) (hhi : hi ≤ 4) (hQ : ∀ J', (∀ i, lo ≤ i → i < hi → sg J' (e + 153 + i.toNat) 0 32 = exN (sg J (e + 146 + i.toNat) 0 32) 1000017 ∧ sg J' (e + 158 + i.toNat) 0 32 = exN (sg J (e + 146 + i.toNat) 0 32) 1000018) → zF (cKM e lo hi) J J' → Rest J' L) :
    zl_z (fun K x J' L' => R32 x ∧ (if x < hi then ((0 : Int) ≤ x ∧ x < 6) ∧ ((0 : Int) ≤ x ∧ x < 4) ∧ w_X5_expand e (e + 146 + (x).toNat) 1000017 (e + 153 + (x).toNat) J' L' (fun J1 L1 => ((0 : Int) ≤ x ∧ x < 6) ∧ ((0 : Int) ≤ x ∧ x < 4) ∧ w_X5_expand e (e + 146 + (x).toNat) 1000018 (e + 158 + (x).toNat) J1 L1 (fun J2 L2 => K (x + 1) J2 L2)) else Rest J' L')) lo J L := by
  have he2 : 139 ≤ e := by unfold iSide at he; omega
  refine zl_z.by (fun m x J' L' => (m : Int) = hi - x ∧ lo ≤ x ∧ L' = L ∧ (∀ i, lo ≤ i → i < x → sg J' (e + 153 + i.toNat) 0 32 = exN (sg J (e + 146 + i.toNat) 0 32) 1000017 ∧ sg J' (e + 158 + i.toNat) 0 32 = exN (sg J (e + 146 + i.toNat) 0 32) 1000018) ∧ zF (cKM e lo x) J J') ?_ (hi - lo).toNat lo J L ⟨by omega, by omega, rfl, fun i q1 q2 => absurd q1 (by omega), zF.rf⟩
  rintro m x J1 L1 K ⟨hm, hx, rfl, h1, f1⟩ hK
  refine ⟨⟨by omega, by omega⟩, ?_⟩
  by_cases c : x < hi
  · rw [if_pos c]
    have hl := lnR he x (by omega)
    refine ⟨⟨by omega, by omega⟩, ⟨by omega, by omega⟩, ?_⟩
    refine s_expand (by omega) (by omega) (by decide) (by omega) hl.1 (fun J2 h2 f2 => ⟨⟨by omega, by omega⟩, ⟨by omega, by omega⟩, ?_⟩)
    refine s_expand (by omega) (by omega) (by decide) (by omega) hl.1 (fun J3 h3 f3 => ?_)
    have k1 : J1 (e + 146 + x.toNat) = J (e + 146 + x.toNat) := f1 _ (by unfold cKM; omega)
    have k2 : J2 (e + 146 + x.toNat) = J1 (e + 146 + x.toNat) := f2 _ (by omega)
    rw [sg_row k1] at h2
    rw [sg_row (k2.trans k1)] at h3
    refine hK (m - 1) (x + 1) J3 L1 (by omega) ⟨by omega, by omega, rfl, fun i q1 q2 => ?_, ?_⟩
    · by_cases q : i = x
      · subst q
        refine ⟨?_, h3⟩
        rw [sg_row (f3 _ (by omega))]
        exact h2
      · have h9 := h1 i q1 (by omega)
        refine ⟨?_, ?_⟩
        · rw [sg_row (f3 _ (by omega)), sg_row (f2 _ (by omega))]; exact h9.1
        · rw [sg_row (f3 _ (by omega)), sg_row (f2 _ (by omega))]; exact h9.2
    · exact (f1.mono (fun a q => by unfold cKM at *; omega)).tr ((f2.mono (fun a q => by unfold cKM; omega)).tr (f3.mono (fun a q => by unfold cKM; omega)))
  · rw [if_neg c]
    have : x = hi := by omega
    subst this
    exact hQ J1 h1 f1
/-- what a side has of EPOCH 2, of EPOCH 3 -/
def xTwo (e : Nat) (J : zM) (hand T : List Int) : Prop := sg J (e + 150) 0 32 = hand ∧ sg J (e + 151) 0 32 = mainI hand ∧ sg J (e + 146) 0 32 = exD hand 1000015 (hsI T) ∧ sg J (e + 147) 0 32 = exD hand 1000016 (hsI T) ∧ sg J (e + 153) 0 32 = exN (exD hand 1000015 (hsI T)) 1000017 ∧ sg J (e + 154) 0 32 = exN (exD hand 1000016 (hsI T)) 1000017 ∧ sg J (e + 158) 0 32 = exN (exD hand 1000015 (hsI T)) 1000018 ∧ sg J (e + 159) 0 32 = exN (exD hand 1000016 (hsI T)) 1000018
def xThree (e : Nat) (J : zM) (main T : List Int) : Prop := sg J (e + 148) 0 32 = exD main 1000020 (hsI T) ∧ sg J (e + 149) 0 32 = exD main 1000021 (hsI T) ∧ sg J (e + 155) 0 32 = exN (exD main 1000020 (hsI T)) 1000017 ∧ sg J (e + 156) 0 32 = exN (exD main 1000021 (hsI T)) 1000017 ∧ sg J (e + 160) 0 32 = exN (exD main 1000020 (hsI T)) 1000018 ∧ sg J (e + 161) 0 32 = exN (exD main 1000021 (hsI T)) 1000018
abbrev cTwo (e a : Nat) : Prop := cS e a ∨ a = e + 144 ∨ a = e + 146 ∨ a = e + 147 ∨ a = e + 150 ∨ a = e + 151 ∨ a = e + 153 ∨ a = e + 154 ∨ a = e + 158 ∨ a = e + 159
abbrev cThree (e a : Nat) : Prop := cS e a ∨ a = e + 144 ∨ a = e + 148 ∨ a = e + 149 ∨ a = e + 155 ∨ a = e + 156 ∨ a = e + 160 ∨ a = e + 161
theorem s_enterHandshake {e k : Nat} {both : Int} {T : List Int} {J : zM} {L : yM} {Q : zM → yM → Prop} (he : iSide e) (hk : 10 < k) (hk2 : ln0 k ≤ 568) (hb : 0 ≤ both ∧ both < 2147483648) (hZ : xZ e J) (hT : xTr e J T) (hQ : ∀ J', xTwo e J' (handI (sg J k 0 (ln0 k)) both) T → J' (e + 144) = (zs J (e + 144) 11 2) (e + 144) → zF (cTwo e) J J' → Q J' L) : w_X5_enterHandshake e k both J L Q := by
  have he2 : 139 ≤ e := by unfold iSide at he; omega
  unfold w_X5_enterHandshake
  refine s_makeEarly he hk hk2 hZ (fun J1 h1 f1 => ?_)
  refine s_expand (by omega) (by omega) (by decide) (by rw [lnS_164 he]; decide) (lnS_163 he) (fun J2 h2 f2 => ?_)
  rw [h1] at h2
  refine s_clear (fun J3 g3 f3 => ?_)
  rw [zush_n hb (by decide), show (2 : Int) ^ (16 : Int).toNat = 65536 from rfl]
  refine s_putShort (by omega) g3 (by decide) (fun J4 g4 f4 => ?_)
  refine s_putShort (by omega) g4 (by simp) (fun J5 g5 f5 => ?_)
  have f35 : zF c67 J2 J5 := (f3.tr f4).tr f5
  have e5 : [] ++ [both / 65536 / 256 % 256, both / 65536 % 256] ++ [both / 256 % 256, both % 256] = nb 4 both := by
    rw [nb4]
    simp
    omega
  rw [e5] at g5
  obtain ⟨hand, hh⟩ : ∃ hand, hand = handI (sg J k 0 (ln0 k)) both := ⟨_, rfl⟩
  rw [← hh] at hQ
  refine s_macInto g5 (by omega) (by omega) (by rw [lnS_150 he]; decide) (fun J6 h6 _ f6 => ?_)
  have h6' : sg J6 (e + 150) 0 32 = hand := by
    rw [h6, lnS_164 he, sg_row (f35 _ (by unfold c67; omega)), h2, hh]
    rfl
  refine s_expand (by omega) (by omega) (by decide) (by rw [lnS_164 he]; decide) (lnS_150 he) (fun J7 h7 f7 => ?_)
  rw [h6'] at h7
  refine s_clear (fun J8 g8 f8 => ?_)
  refine s_putAll g8 (by decide) (by decide) (by rw [lnS_167 he]; decide) (by decide) (fun J9 g9 f9 => ?_)
  have f18 : zF (fun a => cS e a ∨ a = e + 150) J J8 := by
    refine zF.tr (J1 := J7) (zF.tr (J1 := J6) (zF.tr (J1 := J5) (zF.tr (J1 := J2) (zF.tr (J1 := J1) (f1.mono ?_) (f2.mono ?_)) (f35.mono ?_)) (f6.mono ?_)) (f7.mono ?_)) (f8.mono ?_) <;> (intro a q; (try unfold c67 at q); (try unfold cMac at q); unfold cS; omega)
  have hz8 : sg J8 (e + 167) 0 (32 : Int).toNat = Z32 := by
    show sg J8 (e + 167) 0 32 = Z32
    rw [sg_row (f18 _ (by unfold cS; omega))]
    exact hZ
  rw [List.nil_append, hz8] at g9
  refine s_macInto g9 (by omega) (by omega) (by rw [lnS_151 he]; decide) (fun J10 h10 _ f10 => ?_)
  have h10' : sg J10 (e + 151) 0 32 = mainI hand := by
    rw [h10, lnS_164 he, sg_row (f9 _ (by unfold c67; omega)), sg_row (f8 _ (by unfold c67; omega)), h7]
    rfl
  have f10' : zF (fun a => cS e a ∨ a = e + 150 ∨ a = e + 151) J J10 := by
    refine zF.tr (J1 := J9) (zF.tr (J1 := J8) (f18.mono ?_) (f9.mono ?_)) (f10.mono ?_) <;> (intro a q; (try unfold c67 at q); (try unfold cMac at q); (try unfold cS at q); unfold cS; omega)
  have hT10 : xTr e J10 T := hT.fr (by rw [f10' _ (by unfold cS; omega)]) (f10' _ (by unfold cS; omega))
  have k10 : sg J10 (e + 150) 0 32 = hand := by
    rw [sg_row (f10 _ (by unfold cMac; omega)), sg_row (f9 _ (by unfold c67; omega)), sg_row (f8 _ (by unfold c67; omega)), sg_row (f7 _ (by omega)), h6']
  refine s_digestAllBut he hT10 (by omega) (fun J11 h11 f11 => ?_)
  rw [show T.length - (0 : Int).toNat = T.length from rfl, List.take_length] at h11
  have k11 : sg J11 (e + 150) 0 32 = hand := by rw [sg_row (f11 _ (by omega)), k10]
  refine s_expandDigest (by omega) (by omega) (by decide) (by rw [lnS_146 he]; decide) (lnS_150 he) (fun J12 h12 f12 => ?_)
  rw [k11, h11] at h12
  refine s_expandDigest (by omega) (by omega) (by decide) (by rw [lnS_147 he]; decide) (lnS_150 he) (fun J13 h13 f13 => ?_)
  rw [sg_row (f12 (e + 150) (by omega)), k11, sg_row (f12 (e + 165) (by omega)), h11] at h13
  have h13a : sg J13 (e + 146) 0 32 = exD hand 1000015 (hsI T) := by rw [sg_row (f13 _ (by omega)), h12]
  have f13' : zF (fun a => cS e a ∨ a = e + 150 ∨ a = e + 151 ∨ a = e + 146 ∨ a = e + 147) J J13 := by
    refine zF.tr (J1 := J12) (zF.tr (J1 := J11) (zF.tr (J1 := J10) (f10'.mono ?_) (f11.mono ?_)) (f12.mono ?_)) (f13.mono ?_) <;> (intro a q; (try unfold cS at q); unfold cS; omega)
  refine s_keysLoop he (by decide) (by decide) (by decide) (fun J14 h14 f14 J15 e15 => ?_)
  have i0 := h14 0 (by decide) (by decide)
  have i1 := h14 1 (by decide) (by decide)
  rw [show (0 : Int).toNat = 0 from rfl, Nat.add_zero, Nat.add_zero, Nat.add_zero, h13a] at i0
  rw [show (1 : Int).toNat = 1 from rfl, show e + 146 + 1 = e + 147 from rfl, h13, show e + 153 + 1 = e + 154 from rfl, show e + 158 + 1 = e + 159 from rfl] at i1
  have r15 : ∀ a, a ≠ e + 144 → J15 a = J14 a := fun a ha => by rw [e15]; exact zs_r J14 ha
  refine hQ J15 ⟨?_, ?_, ?_, ?_, ?_, ?_, ?_, ?_⟩ ?_ ?_
  · rw [sg_row (r15 _ (by omega)), sg_row (f14 _ (by unfold cKM; omega)), sg_row (f13 _ (by omega)), sg_row (f12 _ (by omega)), k11]
  · rw [sg_row (r15 _ (by omega)), sg_row (f14 _ (by unfold cKM; omega)), sg_row (f13 _ (by omega)), sg_row (f12 _ (by omega)), sg_row (f11 _ (by omega)), h10']
  · rw [sg_row (r15 _ (by omega)), sg_row (f14 _ (by unfold cKM; omega)), h13a]
  · rw [sg_row (r15 _ (by omega)), sg_row (f14 _ (by unfold cKM; omega)), h13]
  · rw [sg_row (r15 _ (by omega))]; exact i0.1
  · rw [sg_row (r15 _ (by omega))]; exact i1.1
  · rw [sg_row (r15 _ (by omega))]; exact i0.2
  · rw [sg_row (r15 _ (by omega))]; exact i1.2
  · rw [e15, zs_row, zs_row, f14 _ (by unfold cKM; omega), f13' _ (by unfold cS; omega)]
  · intro a ha
    unfold cTwo cS at ha
    rw [r15 a (by omega), f14 a (by unfold cKM; omega), f13' a (by unfold cS; omega)]
theorem s_enterData {e : Nat} {T : List Int} {J : zM} {L : yM} {Q : zM → yM → Prop} (he : iSide e) (hT : xTr e J T) (hQ : ∀ J', xThree e J' (sg J (e + 151) 0 32) T → J' (e + 144) = (zs J (e + 144) 11 3) (e + 144) → zF (cThree e) J J' → Q J' L) : w_X5_enterData e J L Q := by
  have he2 : 139 ≤ e := by unfold iSide at he; omega
  unfold w_X5_enterData
  refine s_digestAllBut he hT (by omega) (fun J11 h11 f11 => ?_)
  rw [show T.length - (0 : Int).toNat = T.length from rfl, List.take_length] at h11
  obtain ⟨main, hm⟩ : ∃ main, main = sg J (e + 151) 0 32 := ⟨_, rfl⟩
  rw [← hm] at hQ
  have k11 : sg J11 (e + 151) 0 32 = main := by rw [sg_row (f11 _ (by omega)), hm]
  refine s_expandDigest (by omega) (by omega) (by decide) (by rw [lnS_148 he]; decide) (lnS_151 he) (fun J12 h12 f12 => ?_)
  rw [k11, h11] at h12
  refine s_expandDigest (by omega) (by omega) (by decide) (by rw [lnS_149 he]; decide) (lnS_151 he) (fun J13 h13 f13 => ?_)
  rw [sg_row (f12 (e + 151) (by omega)), k11, sg_row (f12 (e + 165) (by omega)), h11] at h13
  have h13a : sg J13 (e + 148) 0 32 = exD main 1000020 (hsI T) := by rw [sg_row (f13 _ (by omega)), h12]
  have f13' : zF (fun a => cS e a ∨ a = e + 148 ∨ a = e + 149) J J13 := by
    refine zF.tr (J1 := J12) (zF.tr (J1 := J11) (f11.mono ?_) (f12.mono ?_)) (f13.mono ?_) <;> (intro a q; unfold cS; omega)
  refine s_keysLoop he (by decide) (by decide) (by decide) (fun J14 h14 f14 J15 e15 => ?_)
  have i0 := h14 2 (by decide) (by decide)
  have i1 := h14 3 (by decide) (by decide)
  rw [show (2 : Int).toNat = 2 from rfl, show e + 146 + 2 = e + 148 from rfl, h13a, show e + 153 + 2 = e + 155 from rfl, show e + 158 + 2 = e + 160 from rfl] at i0
  rw [show (3 : Int).toNat = 3 from rfl, show e + 146 + 3 = e + 149 from rfl, h13, show e + 153 + 3 = e + 156 from rfl, show e + 158 + 3 = e + 161 from rfl] at i1
  have r15 : ∀ a, a ≠ e + 144 → J15 a = J14 a := fun a ha => by rw [e15]; exact zs_r J14 ha
  refine hQ J15 ⟨?_, ?_, ?_, ?_, ?_, ?_⟩ ?_ ?_
  · rw [sg_row (r15 _ (by omega)), sg_row (f14 _ (by unfold cKM; omega)), h13a]
  · rw [sg_row (r15 _ (by omega)), sg_row (f14 _ (by unfold cKM; omega)), h13]
  · rw [sg_row (r15 _ (by omega))]; exact i0.1
  · rw [sg_row (r15 _ (by omega))]; exact i1.1
  · rw [sg_row (r15 _ (by omega))]; exact i0.2
  · rw [sg_row (r15 _ (by omega))]; exact i1.2
  · rw [e15, zs_row, zs_row, f14 _ (by unfold cKM; omega), f13' _ (by unfold cS; omega)]
  · intro a ha
    unfold cThree cS at ha
    rw [r15 a (by omega), f14 a (by unfold cKM; omega), f13' a (by unfold cS; omega)]
/-- a MESSAGE is put behind the transcript -/
theorem s_xaddMessage {e p : Nat} {kind at_ n : Int} {T : List Int} {J : zM} {L : yM} {Q : zM → yM → Prop} (hT : xTr e J T) (h0 : 0 ≤ at_) (h1 : 0 ≤ n) (h2 : at_ + n ≤ (ln0 p : Int)) (h3 : (T.length : Int) + 3 + n ≤ 293) (hp : p ≠ e + 162 ∧ p ≠ e + 144) (hQ : ∀ J', xTr e J' (T ++ msgI kind (sg J p at_ n.toNat)) → J' (e + 144) = (zs J (e + 144) 10 ((T.length : Int) + 3 + n)) (e + 144) → zF (fun a => a = e + 144 ∨ a = e + 162) J J' → Q J' L) : w_X5_addMessage e kind p at_ n J L Q := by
  obtain ⟨t1, t2, t3⟩ := hT
  have hl := ln0_lt p
  unfold w_X5_addMessage
  intro x ex
  rw [t1] at ex
  refine ⟨⟨by omega, by omega⟩, ?_⟩
  rw [if_neg (by omega)]
  refine ⟨⟨by omega, by omega⟩, ?_⟩
  rw [if_neg (by omega)]
  refine ⟨⟨by omega, by omega⟩, ?_⟩
  rw [if_neg (by omega)]
  refine ⟨⟨by omega, by omega⟩, ⟨by omega, by omega⟩, ?_⟩
  rw [if_neg (by omega), t1]
  refine ⟨⟨by omega, by omega⟩, fun J1 e1 => ?_⟩
  have a1 : J1 (e + 144) 10 = (T.length : Int) := by rw [e1, zs_r J (by omega)]; exact t1
  rw [a1]
  refine ⟨⟨by omega, by omega⟩, fun J2 e2 => ?_⟩
  have a2 : J2 (e + 144) 10 = (T.length : Int) := by rw [e2, zs_r J1 (by omega)]; exact a1
  rw [a2]
  refine ⟨⟨by omega, by omega⟩, fun J3 e3 => ?_⟩
  have a3 : J3 (e + 144) 10 = (T.length : Int) := by rw [e3, zs_r J2 (by omega)]; exact a2
  rw [a3]
  refine ⟨⟨by omega, by omega, by omega, by omega, by omega⟩, fun J4 e4 J5 e5 => ?_⟩
  rw [zush_n (by omega) (by decide)] at e2
  rw [zand255] at e3
  have hf : zF (fun a => a = e + 144 ∨ a = e + 162) J J5 := by
    rw [e5, e4, e3, e2, e1]
    exact ((((zF.zs (Or.inr rfl)).tr (zF.zs (Or.inr rfl))).tr (zF.zs (Or.inr rfl))).tr (zF.zcp (Or.inr rfl))).tr (zF.zs (Or.inl rfl))
  have p3 : J3 p = J p := by rw [e3, zs_r J2 hp.1, e2, zs_r J1 hp.1, e1, zs_r J hp.1]
  refine hQ J5 ⟨?_, ?_, ?_⟩ ?_ hf
  · rw [e5, zs_s, ex]
    unfold msgI
    simp [sg_len]
    omega
  · have hl5 : (T ++ msgI kind (sg J p at_ n.toNat)).length = T.length + (1 + (1 + (1 + n.toNat))) := by
      unfold msgI
      simp [sg_len]
      omega
    have r5 : J5 (e + 162) = J4 (e + 162) := by rw [e5]; exact zs_r J4 (by omega)
    rw [hl5, sg_row r5, sg_app, sg_app, sg_app, sg_app]
    unfold msgI
    rw [sg_len]
    have u0 : sg J4 (e + 162) 0 T.length = T := by
      rw [← t2]
      rw [t2]
      refine Eq.trans (sg_fr (J := J) (fun k k0 k1 => ?_)) t2
      rw [e4, zcp_out J3 (by omega), e3, zs_n J2 (Or.inr (by omega)), e2, zs_n J1 (Or.inr (by omega)), e1, zs_n J (Or.inr (by omega))]
    have u1 : sg J4 (e + 162) (0 + (T.length : Int)) 1 = [kind] := by
      rw [sg_succ, sg_0, List.nil_append, show (0 : Int) + (T.length : Int) + ((0 : Nat) : Int) = (T.length : Int) by omega]
      rw [e4, zcp_out J3 (by omega), e3, zs_n J2 (Or.inr (by omega)), e2, zs_n J1 (Or.inr (by omega)), e1, zs_s]
    have u2 : sg J4 (e + 162) (0 + (T.length : Int) + ((1 : Nat) : Int)) 1 = [n / 256] := by
      rw [sg_succ, sg_0, List.nil_append, show (0 : Int) + (T.length : Int) + ((1 : Nat) : Int) + ((0 : Nat) : Int) = (T.length : Int) + 1 by omega]
      rw [e4, zcp_out J3 (by omega), e3, zs_n J2 (Or.inr (by omega)), e2, zs_s]
      rfl
    have u3 : sg J4 (e + 162) (0 + (T.length : Int) + ((1 : Nat) : Int) + ((1 : Nat) : Int)) 1 = [n % 256] := by
      rw [sg_succ, sg_0, List.nil_append, show (0 : Int) + (T.length : Int) + ((1 : Nat) : Int) + ((1 : Nat) : Int) + ((0 : Nat) : Int) = (T.length : Int) + 2 by omega]
      rw [e4, zcp_out J3 (by omega), e3, zs_s]
    have u4 : sg J4 (e + 162) (0 + (T.length : Int) + ((1 : Nat) : Int) + ((1 : Nat) : Int) + ((1 : Nat) : Int)) n.toNat = sg J p at_ n.toNat := by
      rw [show (0 : Int) + (T.length : Int) + ((1 : Nat) : Int) + ((1 : Nat) : Int) + ((1 : Nat) : Int) = (T.length : Int) + 3 by omega, e4, sg_zcp (by omega), sg_row p3]
    rw [u0, u1, u2, u3, u4, show ((n.toNat : Nat) : Int) = n by omega]
    rfl
  · unfold msgI
    simp [sg_len]
    omega
  · rw [e5, zs_row, zs_row, ex]
    funext k
    split
    · rfl
    · rw [e4, zcp_r J3 (by omega), e3, zs_r J2 (by omega), e2, zs_r J1 (by omega), e1, zs_r J (by omega)]
