/-! the model's text, key and code by lists of Ints -/
/-- nothing changed but the cells S and the model's own fields T -/
def mF (S : Nat → Prop) (T : Int → Prop) (J J' : zM) : Prop := (∀ a, ¬ S a → a ≠ 491 → J' a = J a) ∧ ∀ k, ¬ T k → J' 491 k = J 491 k
theorem mF.rf {S : Nat → Prop} {T : Int → Prop} {J : zM} : mF S T J J := ⟨fun _ _ _ => rfl, fun _ _ => rfl⟩
theorem mF.tr {S : Nat → Prop} {T : Int → Prop} {J J1 J2 : zM} (h1 : mF S T J J1) (h2 : mF S T J1 J2) : mF S T J J2 := ⟨fun a h q => (h2.1 a h q).trans (h1.1 a h q), fun k h => (h2.2 k h).trans (h1.2 k h)⟩
theorem mF.mono {S S' : Nat → Prop} {T T' : Int → Prop} {J J' : zM} (h : mF S T J J') (hS : ∀ a, S a → S' a) (hT : ∀ k, T k → T' k) : mF S' T' J J' := ⟨fun a ha q => h.1 a (fun u => ha (hS a u)) q, fun k hk => h.2 k (fun u => hk (hT k u))⟩
theorem mF_zs {S : Nat → Prop} {T : Int → Prop} {J : zM} {a : Nat} {i v : Int} (h : S a) (ha : a ≠ 491) : mF S T J (zs J a i v) := ⟨fun c hc _ => zs_r J (fun q => hc (by rw [q]; exact h)), fun k _ => zs_n J (Or.inl (fun q => ha q.symm))⟩
theorem mF_zs1 {S : Nat → Prop} {T : Int → Prop} {J : zM} {i v : Int} (h : T i) : mF S T J (zs J 491 i v) := ⟨fun c _ hc => zs_r J hc, fun k hk => zs_n J (Or.inr (fun q => hk (by rw [q]; exact h)))⟩
theorem mF_zcp {S : Nat → Prop} {T : Int → Prop} {J : zM} {a b : Nat} {sp dp n : Int} (h : S b) (hb : b ≠ 491) : mF S T J (zcp J a sp b dp n) := ⟨fun c hc _ => zcp_r J (fun q => hc (by rw [q]; exact h)), fun k _ => by rw [zcp_r J (fun q => hb q.symm)]⟩
def mT (fr : Int) (J : zM) (q : List Int) : Prop := J 491 13 = fr + (q.length : Int) ∧ sg J 497 fr q.length = q ∧ 0 ≤ fr ∧ fr + (q.length : Int) ≤ 1300
abbrev t13 (k : Int) : Prop := k = 13
abbrev c497 (a : Nat) : Prop := a = 497
theorem mT.fr {fr : Int} {J J' : zM} {q : List Int} (h : mT fr J q) (h1 : J' 491 13 = J 491 13) (h2 : J' 497 = J 497) : mT fr J' q := by
  unfold mT
  rw [h1, sg_row h2]
  exact h
theorem s_madd {fr v : Int} {q : List Int} {J : zM} {L : yM} {Q : zM → yM → Prop} (h : mT fr J q) (hq : fr + (q.length : Int) < 1300) (hQ : ∀ J', mT fr J' (q ++ [v % 256]) → mF c497 t13 J J' → Q J' L) : w_X12_add v J L Q := by
  obtain ⟨h1, h2, h3, h4⟩ := h
  unfold w_X12_add
  refine ⟨⟨by omega, by omega⟩, fun J1 e1 J2 e2 => hQ J2 ?_ ?_⟩
  · have g1 : J1 491 13 = fr + (q.length : Int) := by rw [e1, zs_r J (by omega)]; exact h1
    have g2 : J2 497 = J1 497 := by rw [e2]; exact zs_r J1 (by omega)
    refine ⟨by rw [e2, zs_s, g1, List.length_append, List.length_singleton]; omega, ?_, h3, by rw [List.length_append, List.length_singleton]; omega⟩
    rw [List.length_append, List.length_singleton, sg_succ, sg_row g2, g2, e1, h1, zs_s, zand255]
    congr 1
    rw [sg_fr (fun k k0 k1 => zs_n J (Or.inr (by omega)))]
    exact h2
  · rw [e2, e1]
    exact mF.tr (S := c497) (T := t13) (mF_zs (S := c497) (a := 497) rfl (by decide)) (mF_zs1 (T := t13) rfl)
theorem s_mbegin {J : zM} {L : yM} {Q : zM → yM → Prop} (hQ : ∀ J', mT 64 J' [] → mF (fun _ => False) t13 J J' → Q J' L) : w_X12_beginCode J L Q := by
  intro J1 e1
  subst e1
  exact hQ _ ⟨by rw [zs_s]; rfl, rfl, by decide, by decide⟩ (mF_zs1 rfl)
/-- a loop that adds what a row has -/
theorem addLoop {src : Nat} {M N fr : Int} {q : List Int} {Rest : zM → yM → Prop} {J : zM} {L : yM} (hsrc : src ≠ 491 ∧ src ≠ 497) (hN : 0 ≤ N ∧ N ≤ M ∧ M ≤ 3000) (h : mT fr J q) (hq : fr + (q.length : Int) + N ≤ 1300) (ho : oct (sg J src 0 N.toNat)) (hQ : ∀ J', mT fr J' (q ++ sg J src 0 N.toNat) → mF c497 t13 J J' → Rest J' L) :
    zl_z (fun K x J' L' => R32 x ∧ (if x < N then ((0 : Int) ≤ x ∧ x < M) ∧ w_X12_add (J' src x) J' L' (fun J'' L'' => K (x + 1) J'' L'') else Rest J' L')) 0 J L := by
  refine zl_z.by (fun m x J' L' => (m : Int) = N - x ∧ 0 ≤ x ∧ L' = L ∧ mT fr J' (q ++ sg J src 0 x.toNat) ∧ mF c497 t13 J J') ?_ N.toNat 0 J L ⟨by omega, by omega, rfl, by simpa [sg] using h, mF.rf⟩
  rintro m x J1 L1 K ⟨hm, hx, rfl, h1, f1⟩ hK
  refine ⟨⟨by omega, by omega⟩, ?_⟩
  have e1 : J1 src = J src := f1.1 src hsrc.2 hsrc.1
  by_cases c : x < N
  · rw [if_pos c]
    refine ⟨⟨hx, by omega⟩, ?_⟩
    refine s_madd h1 (by rw [List.length_append, sg_len]; omega) (fun J2 h2 f2 => ?_)
    refine hK (m - 1) (x + 1) J2 L1 (by omega) ⟨by omega, by omega, rfl, ?_, f1.tr f2⟩
    have hb := (oct_sg.mp ho) x (by omega) (by omega)
    rw [e1, show J src x % 256 = J src x by omega, List.append_assoc] at h2
    rw [show (x + 1).toNat = x.toNat + 1 by omega, sg_succ, show (0 : Int) + (x.toNat : Int) = x by omega]
    exact h2
  · rw [if_neg c]
    have : x = N := by omega
    subst this
    exact hQ J1 h1 f1
theorem s_addDigest {fr : Int} {q : List Int} {J : zM} {L : yM} {Q : zM → yM → Prop} (h : mT fr J q) (hq : fr + (q.length : Int) + 32 ≤ 1300) (ho : oct (sg J 500 0 32)) (hQ : ∀ J', mT fr J' (q ++ sg J 500 0 32) → mF c497 t13 J J' → Q J' L) : w_X12_addDigest J L Q := by
  unfold w_X12_addDigest
  exact addLoop (by decide) (by decide) h (by omega) ho hQ
theorem s_addOwn {at_ n fr : Int} {q : List Int} {J : zM} {L : yM} {Q : zM → yM → Prop} (h : mT fr J q) (h0 : 0 ≤ at_) (h1 : 0 ≤ n) (h2 : at_ + n ≤ 2048) (hq : fr + (q.length : Int) + n ≤ 1300) (ho : oct (sg J 492 at_ n.toNat)) (hQ : ∀ J', mT fr J' (q ++ sg J 492 at_ n.toNat) → mF c497 t13 J J' → Q J' L) : w_X12_addOwn at_ n J L Q := by
  unfold w_X12_addOwn
  refine zl_z.by (fun m x J' L' => (m : Int) = n - x ∧ 0 ≤ x ∧ L' = L ∧ mT fr J' (q ++ sg J 492 at_ x.toNat) ∧ mF c497 t13 J J') ?_ n.toNat 0 J L ⟨by omega, by omega, rfl, by simpa [sg] using h, mF.rf⟩
  rintro m x J1 L1 K ⟨hm, hx, rfl, g1, f1⟩ hK
  refine ⟨⟨by omega, by omega⟩, ⟨by omega, by omega⟩, ?_⟩
  have e1 : J1 492 = J 492 := f1.1 492 (by decide) (by decide)
  by_cases c : x < n
  · rw [if_pos c]
    refine ⟨⟨by omega, by omega⟩, ?_⟩
    refine s_madd g1 (by rw [List.length_append, sg_len]; omega) (fun J2 g2 f2 => ?_)
    refine hK (m - 1) (x + 1) J2 L1 (by omega) ⟨by omega, by omega, rfl, ?_, f1.tr f2⟩
    have hb := (oct_sg.mp ho) (at_ + x) (by omega) (by omega)
    rw [e1, show J 492 (at_ + x) % 256 = J 492 (at_ + x) by omega, List.append_assoc] at g2
    rw [show (x + 1).toNat = x.toNat + 1 by omega, sg_succ, show (x.toNat : Int) = x by omega]
    exact g2
  · rw [if_neg c]
    have : x = n := by omega
    subst this
    exact hQ J1 g1 f1
/-- octets of a number, the greatest first -/
def nb (n : Nat) (v : Int) : List Int := (List.range n).map (fun j : Nat => v / 256 ^ (n - 1 - j) % 256)
theorem s_addNumber {n : Int} {x : Int64} {fr : Int} {q : List Int} {J : zM} {L : yM} {Q : zM → yM → Prop} (hn : 0 < n ∧ n ≤ 8) (h : mT fr J q) (hq : fr + (q.length : Int) + n ≤ 1300) (hQ : ∀ J', mT fr J' (q ++ nb n.toNat x.toInt) → mF c497 t13 J J' → Q J' L) : w_X12_addNumber n x J L Q := by
  unfold w_X12_addNumber
  intro x1 e1
  have hl : (nb n.toNat x.toInt).length = n.toNat := by simp [nb]
  refine zl_z.by (fun m k J' L' => (m : Int) = k + 1 ∧ k ≤ n - 1 ∧ L' = L ∧ mT fr J' (q ++ (nb n.toNat x.toInt).take (n - 1 - k).toNat) ∧ mF c497 t13 J J') ?_ n.toNat x1 J L ⟨by omega, by omega, rfl, by rw [show (n - 1 - x1).toNat = 0 by omega]; simpa using h, mF.rf⟩
  rintro m k J1 L1 K ⟨hm, hk, rfl, g1, f1⟩ hK
  refine ⟨⟨by omega, by omega⟩, ?_⟩
  by_cases c : k < 0
  · rw [if_pos c]
    refine hQ J1 ?_ f1
    rw [List.take_of_length_le (by rw [hl]; omega)] at g1
    exact g1
  · rw [if_neg c]
    refine s_madd g1 (by rw [List.length_append, List.length_take, hl]; omega) (fun J2 g2 f2 => ?_)
    refine hK (m - 1) (k + -1) J2 L1 (by omega) ⟨by omega, by omega, rfl, ?_, f1.tr f2⟩
    rw [loct (by omega), List.append_assoc] at g2
    rw [show (n - 1 - (k + -1)).toNat = (n - 1 - k).toNat + 1 by omega, List.take_succ]
    have hget : (nb n.toNat x.toInt)[(n - 1 - k).toNat]? = some (x.toInt / 2 ^ (8 * k).toNat % 256) := by
      unfold nb
      rw [List.getElem?_map, List.getElem?_range (by omega)]
      show some (x.toInt / 256 ^ (n.toNat - 1 - (n - 1 - k).toNat) % 256) = _
      rw [show n.toNat - 1 - (n - 1 - k).toNat = k.toNat by omega, show (8 * k).toNat = 8 * k.toNat by omega, Int.pow_mul]
      rfl
    rw [hget]
    rw [show x.toInt / 2 ^ (8 * k).toNat % 256 % 256 = x.toInt / 2 ^ (8 * k).toNat % 256 by omega] at g2
    exact g2
def mKy (J : zM) (k : List Int) : Prop := k.length ≤ 64 ∧ ∀ j : Nat, j < 64 → J 501 (j : Int) = k.getD j 0
theorem mKy.fr {J J' : zM} {k : List Int} (h : mKy J k) (e : J' 501 = J 501) : mKy J' k := by unfold mKy; rw [e]; exact h
theorem s_keyOwn {at_ n : Int} {J : zM} {L : yM} {Q : zM → yM → Prop} (h0 : 0 ≤ at_) (h1 : 0 ≤ n ∧ n ≤ 64) (h2 : at_ + n ≤ 2048) (hQ : ∀ J', mKy J' (sg J 492 at_ n.toNat) → mF (fun a => a = 501) (fun _ => False) J J' → Q J' L) : w_X12_keyOwn at_ n J L Q := by
  unfold w_X12_keyOwn
  refine zl_z.by (fun m x J' L' => (m : Int) = 64 - x ∧ 0 ≤ x ∧ L' = L ∧ (∀ j : Nat, (j : Int) < x → J' 501 (j : Int) = (sg J 492 at_ n.toNat).getD j 0) ∧ mF (fun a => a = 501) (fun _ => False) J J') ?_ 64 0 J L ⟨by omega, by omega, rfl, fun j hj => absurd hj (by omega), mF.rf⟩
  rintro m x J1 L1 K ⟨hm, hx, rfl, g1, f1⟩ hK
  refine ⟨⟨by omega, by omega⟩, ?_⟩
  have e1 : J1 492 = J 492 := f1.1 492 (by decide) (by decide)
  by_cases c : x < 64
  · rw [if_pos c]
    intro K2 hK2
    have go : ∀ v, v = (sg J 492 at_ n.toNat).getD x.toNat 0 → K2 v J1 L1 := fun v hv => hK2 v J1 L1 ⟨⟨hx, c⟩, fun J2 e2 => by
      refine hK (m - 1) (x + 1) J2 L1 (by omega) ⟨by omega, by omega, rfl, fun j hj => ?_, ?_⟩
      · by_cases q : (j : Int) = x
        · rw [q, e2, zs_s, hv]
          congr 1
          omega
        · rw [e2, zs_n J1 (Or.inr q)]
          exact g1 j (by omega)
      · rw [e2]
        exact f1.tr (mF_zs rfl (by omega))⟩
    refine ⟨⟨by omega, by omega⟩, ?_⟩
    by_cases c2 : x < n
    · rw [if_pos c2]
      refine ⟨⟨by omega, by omega⟩, go _ ?_⟩
      rw [sg_get (by omega), e1]
      congr 1
      omega
    · rw [if_neg c2]
      refine go _ ?_
      rw [List.getD_eq_getElem?_getD, List.getElem?_eq_none (by rw [sg_len]; omega)]
      rfl
  · rw [if_neg c]
    exact hQ J1 ⟨by rw [sg_len]; omega, fun j hj => g1 j (by omega)⟩ f1
theorem s_keyDigest {J : zM} {L : yM} {Q : zM → yM → Prop} (hQ : ∀ J', mKy J' (sg J 500 0 32) → mF (fun a => a = 501) (fun _ => False) J J' → Q J' L) : w_X12_keyDigest J L Q := by
  unfold w_X12_keyDigest
  refine zl_z.by (fun m x J' L' => (m : Int) = 64 - x ∧ 0 ≤ x ∧ L' = L ∧ (∀ j : Nat, (j : Int) < x → J' 501 (j : Int) = (sg J 500 0 32).getD j 0) ∧ mF (fun a => a = 501) (fun _ => False) J J') ?_ 64 0 J L ⟨by omega, by omega, rfl, fun j hj => absurd hj (by omega), mF.rf⟩
  rintro m x J1 L1 K ⟨hm, hx, rfl, g1, f1⟩ hK
  refine ⟨⟨by omega, by omega⟩, ?_⟩
  have e1 : J1 500 = J 500 := f1.1 500 (by decide) (by decide)
  by_cases c : x < 64
  · rw [if_pos c]
    intro K2 hK2
    have go : ∀ v, v = (sg J 500 0 32).getD x.toNat 0 → K2 v J1 L1 := fun v hv => hK2 v J1 L1 ⟨⟨hx, c⟩, fun J2 e2 => by
      refine hK (m - 1) (x + 1) J2 L1 (by omega) ⟨by omega, by omega, rfl, fun j hj => ?_, ?_⟩
      · by_cases q : (j : Int) = x
        · rw [q, e2, zs_s, hv]
          congr 1
          omega
        · rw [e2, zs_n J1 (Or.inr q)]
          exact g1 j (by omega)
      · rw [e2]
        exact f1.tr (mF_zs rfl (by omega))⟩
    by_cases c2 : x < 32
    · rw [if_pos c2]
      refine ⟨⟨by omega, by omega⟩, go _ ?_⟩
      rw [sg_get (by omega), e1]
      congr 1
      omega
    · rw [if_neg c2]
      refine go _ ?_
      rw [List.getD_eq_getElem?_getD, List.getElem?_eq_none (by rw [sg_len]; omega)]
      rfl
  · rw [if_neg c]
    exact hQ J1 ⟨by rw [sg_len]; omega, fun j hj => g1 j (by omega)⟩ f1
abbrev cCode (a : Nat) : Prop := a = 497 ∨ a = 498 ∨ a = 499 ∨ a = 500
theorem s_code {k q : List Int} {J : zM} {L : yM} {Q : zM → yM → Prop} (h : mT 64 J q) (hk : mKy J k) (ho : oct k) (hK : mK (zi J)) (hQ : ∀ J', sg J' 500 0 32 = mcI k q → mF cCode t13 J J' → Q J' L) : w_X12_code J L Q := by
  obtain ⟨h1, h2, h3, h4⟩ := h
  refine ⟨by omega, hK, k, hk.1, hk.2, ho, fun J' f e => hQ J' ?_ ⟨fun a ha q => ?_, fun i hi => ?_⟩⟩
  · rw [e, h1, show (64 + (q.length : Int) - 64).toNat = q.length by omega, h2]
  · funext i
    refine f a i ?_
    unfold chCode
    unfold cCode at ha
    omega
  · refine f 491 i ?_
    unfold chCode
    unfold t13 at hi
    omega
