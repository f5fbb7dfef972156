/-! the octets that seal, TAG and MASK -/
def strI (key : List Int) (ep a b i : Int) : List Int := mcI key [1, ep, a, b, i]
def strA (key : List Int) (ep a b j : Int) : Int := (strI key ep a b (j / 32)).getD (j % 32).toNat 0
theorem strA_oct (key : List Int) (ep a b j : Int) : 0 ≤ strA key ep a b j ∧ strA key ep a b j < 256 := by
  have h : (strI key ep a b (j / 32)).length = 32 := mcI_len _ _
  have hj : (j % 32).toNat < 32 := by omega
  unfold strA
  rw [List.getD_eq_getElem?_getD, List.getElem?_eq_getElem (by omega)]
  exact mcI_oct _ _ _ (List.getElem_mem _)
theorem s_stream {at_ ep n i : Int} {J : zM} {L : yM} {Q : zM → yM → Prop} (h0 : 0 ≤ at_) (h1 : at_ + 32 ≤ 2048) (he : 0 ≤ ep ∧ ep < 256) (hn : 0 ≤ n ∧ n < 65536) (hi : 0 ≤ i ∧ i < 256) (ho : oct (sg J 492 at_ 32)) (hK : mK (zi J)) (hQ : ∀ J', sg J' 500 0 32 = strI (sg J 492 at_ 32) ep (n / 256) (n % 256) i → mF cH t13 J J' → Q J' L) : w_X12_stream at_ ep n i J L Q := by
  unfold w_X12_stream
  refine s_keyOwn h0 (by decide) h1 (fun J1 k1 f1 => ?_)
  refine s_mbegin (fun J2 h2 f2 => ?_)
  refine s_madd h2 (by simp) (fun J3 h3 f3 => ?_)
  refine s_madd h3 (by simp) (fun J4 h4 f4 => ?_)
  refine s_addNumber (by decide) h4 (by simp) (fun J5 h5 f5 => ?_)
  refine s_madd h5 (by simp [nb_len]) (fun J6 h6 f6 => ?_)
  have f26 : mF c497 t13 J1 J6 := (((f2.mono (fun _ q => q.elim) (fun _ q => q)).tr (f3.tr f4)).tr f5).tr f6
  have c6 : mF cH t13 J J6 := (f1.mono (fun a q => by unfold cH; omega) (fun _ q => q.elim)).tr (f26.mono (fun a q => by unfold c497 at q; unfold cH; omega) (fun _ q => q))
  refine s_code h6 (k1.fr (f26.1 501 (by decide) (by decide))) ho (mK_fr hK (c6.1 495 (by unfold cH; omega) (by decide)) (c6.1 496 (by unfold cH; omega) (by decide))) (fun J7 h7 f7 => hQ J7 ?_ (c6.tr (f7.mono (fun a q => by unfold cCode at q; unfold cH; omega) (fun _ q => q))))
  rw [h7]
  unfold strI
  have e : ([] ++ [1 % 256] ++ [ep % 256] ++ nb (2 : Int).toNat (zi2l n).toInt ++ [i % 256] : List Int) = [1, ep, n / 256, n % 256, i] := by
    rw [i2l_toInt ⟨by omega, by omega⟩, show (2 : Int).toNat = 2 from rfl, nb2, show ep % 256 = ep by omega, show i % 256 = i by omega, show n / 256 % 256 = n / 256 by omega]
    rfl
  rw [e]
  rfl
theorem s_streamed {at_ ep n c : Int} {J : zM} {L : yM} {Q : zM → yM → Prop} (h0 : 0 ≤ at_) (h1 : at_ + 32 ≤ 2048) (he : 0 ≤ ep ∧ ep < 256) (hn : 0 ≤ n ∧ n < 65536) (hc : 0 ≤ c ∧ c ≤ 520) (ho : oct (sg J 492 at_ 32)) (hK : mK (zi J)) (hQ : ∀ J', (∀ j, 0 ≤ j → j < c → J' 516 j = zxor (J 516 j) (strA (sg J 492 at_ 32) ep (n / 256) (n % 256) j)) → (∀ j, ¬ (0 ≤ j ∧ j < c) → J' 516 j = J 516 j) → mF (fun a => cH a ∨ a = 516) t13 J J' → Q J' L) : w_X12_streamed at_ ep n c J L Q := by
  obtain ⟨key, hkey⟩ : ∃ key, key = sg J 492 at_ 32 := ⟨_, rfl⟩
  rw [← hkey] at ho hQ
  unfold w_X12_streamed
  refine zl_z.by (fun m x J' L' => (m : Int) = c - x ∧ 0 ≤ x ∧ L' = L ∧ (∀ j, 0 ≤ j → j < x → J' 516 j = zxor (J 516 j) (strA key ep (n / 256) (n % 256) j)) ∧ (∀ j, ¬ (0 ≤ j ∧ j < x) → J' 516 j = J 516 j) ∧ (x % 32 ≠ 0 → sg J' 500 0 32 = strI key ep (n / 256) (n % 256) (x / 32)) ∧ mF (fun a => cH a ∨ a = 516) t13 J J') ?_ c.toNat 0 J L ⟨by omega, by omega, rfl, fun j q1 q2 => absurd q1 (by omega), fun _ _ => rfl, fun q => absurd rfl q, mF.rf⟩
  rintro m x J1 L1 K ⟨hm, hx, rfl, g1, g2, g3, f1⟩ hKK
  refine ⟨⟨by omega, by omega⟩, ⟨by omega, by omega⟩, ?_⟩
  by_cases q : x < c
  · rw [if_pos q]
    intro K2 hK2
    rw [zrem_n (by omega) (by decide), zdiv_n (by omega) (by decide)] at *
    have o1 : J1 492 = J 492 := f1.1 492 (by unfold cH; omega) (by decide)
    have step : ∀ J2, sg J2 500 0 32 = strI key ep (n / 256) (n % 256) (x / 32) → mF cH t13 J1 J2 → K2 J2 L1 := fun J2 d2 f2 => hK2 J2 L1 ⟨⟨hx, by omega⟩, ⟨by omega, by omega⟩, ⟨hx, by omega⟩, fun J3 e3 => by
      have p2 : J2 516 = J1 516 := f2.1 516 (by unfold cH; omega) (by decide)
      have hd : J2 500 (x % 32) = strA key ep (n / 256) (n % 256) x := by
        unfold strA
        rw [← d2, sg_get (by omega)]
        congr 1
        omega
      rw [hd, p2, g2 x (by omega)] at e3
      refine hKK (m - 1) (x + 1) J3 L1 (by omega) ⟨by omega, by omega, rfl, fun j j0 j1 => ?_, fun j hj => ?_, fun hx1 => ?_, ?_⟩
      · by_cases qj : j = x
        · subst qj
          rw [e3, zs_s]
        · rw [e3, zs_n J2 (Or.inr qj), p2]
          exact g1 j j0 (by omega)
      · rw [e3, zs_n J2 (Or.inr (by omega)), p2]
        exact g2 j (by omega)
      · rw [e3, sg_row (zs_r J2 (by decide)), d2, show (x + 1) / 32 = x / 32 by omega]
      · rw [e3]
        exact (f1.tr (f2.mono (fun a q => Or.inl q) (fun _ q => q))).tr (mF_zs (S := fun a => cH a ∨ a = 516) (a := 516) (Or.inr rfl) (by decide))⟩
    by_cases q2 : x % 32 = 0
    · rw [if_pos q2]
      have ek : sg J1 492 at_ 32 = key := by rw [sg_row o1, hkey]
      refine s_stream h0 h1 he hn (by omega) (by rw [ek]; exact ho) (mK_fr hK (f1.1 495 (by unfold cH; omega) (by decide)) (f1.1 496 (by unfold cH; omega) (by decide))) (fun J2 d2 f2 => step J2 (by rw [d2, ek]) f2)
    · rw [if_neg q2]
      exact step J1 (g3 q2) mF.rf
  · rw [if_neg q]
    have : x = c := by omega
    subst this
    exact hQ J1 g1 g2 f1
def tagI (key : List Int) (ep n : Int) (body : List Int) : List Int := mcI key ([2, ep, n / 256, n % 256, 32 + ep, n / 256, n % 256, ((body.length : Int) + 8) / 256, ((body.length : Int) + 8) % 256] ++ body)
/-- a loop that adds what a row has, up to a number that is not a literal -/
theorem addLoopV {src : Nat} {M N fr : Int} {q : List Int} {Rest : zM → yM → Prop} {J : zM} {L : yM} (hsrc : src ≠ 491 ∧ src ≠ 497) (hN : 0 ≤ N ∧ N ≤ M ∧ M ≤ 3000) (h : mT fr J q) (hq : fr + (q.length : Int) + N ≤ 1300) (ho : oct (sg J src 0 N.toNat)) (hQ : ∀ J', mT fr J' (q ++ sg J src 0 N.toNat) → mF c497 t13 J J' → Rest J' L) :
    zl_z (fun K x J' L' => R32 x ∧ R32 N ∧ (if x < N then ((0 : Int) ≤ x ∧ x < M) ∧ w_X12_add (J' src x) J' L' (fun J'' L'' => K (x + 1) J'' L'') else Rest J' L')) 0 J L := by
  refine zl_z.by (fun m x J' L' => (m : Int) = N - x ∧ 0 ≤ x ∧ L' = L ∧ mT fr J' (q ++ sg J src 0 x.toNat) ∧ mF c497 t13 J J') ?_ N.toNat 0 J L ⟨by omega, by omega, rfl, by simpa [sg] using h, mF.rf⟩
  rintro m x J1 L1 K ⟨hm, hx, rfl, h1, f1⟩ hK
  refine ⟨⟨by omega, by omega⟩, ⟨by omega, by omega⟩, ?_⟩
  have e1 : J1 src = J src := f1.1 src hsrc.2 hsrc.1
  by_cases c : x < N
  · rw [if_pos c]
    refine ⟨⟨hx, by omega⟩, ?_⟩
    refine s_madd h1 (by rw [List.length_append, sg_len]; omega) (fun J2 h2 f2 => ?_)
    refine hK (m - 1) (x + 1) J2 L1 (by omega) ⟨by omega, by omega, rfl, ?_, f1.tr f2⟩
    have hb := (oct_sg.mp ho) x (by omega) (by omega)
    rw [e1, show J src x % 256 = J src x by omega, List.append_assoc] at h2
    rw [show (x + 1).toNat = x.toNat + 1 by omega, sg_succ, show (0 : Int) + (x.toNat : Int) = x by omega]
    exact h2
  · rw [if_neg c]
    have : x = N := by omega
    subst this
    exact hQ J1 h1 f1
theorem s_tagM {at_ ep n c : Int} {J : zM} {L : yM} {Q : zM → yM → Prop} (h0 : 0 ≤ at_) (h1 : at_ + 32 ≤ 2048) (he : 0 ≤ ep ∧ ep < 200) (hn : 0 ≤ n ∧ n < 65536) (hc : 0 ≤ c ∧ c ≤ 520) (ho : oct (sg J 492 at_ 32)) (hb : oct (sg J 516 0 c.toNat)) (hK : mK (zi J)) (hQ : ∀ J', sg J' 500 0 32 = tagI (sg J 492 at_ 32) ep n (sg J 516 0 c.toNat) → mF cH t13 J J' → Q J' L) : w_X12_tag at_ ep n c J L Q := by
  unfold w_X12_tag
  refine s_keyOwn h0 (by decide) h1 (fun J1 k1 f1 => ?_)
  refine s_mbegin (fun J2 h2 f2 => ?_)
  refine s_madd h2 (by simp) (fun J3 h3 f3 => ?_)
  refine s_madd h3 (by simp) (fun J4 h4 f4 => ?_)
  refine s_addNumber (by decide) h4 (by simp) (fun J5 h5 f5 => ?_)
  refine s_madd h5 (by simp [nb_len]) (fun J6 h6 f6 => ?_)
  refine s_addNumber (by decide) h6 (by simp [nb_len]) (fun J7 h7 f7 => ?_)
  refine s_addNumber (by decide) h7 (by simp [nb_len]) (fun J8 h8 f8 => ?_)
  have f28 : mF c497 t13 J1 J8 := (((((f2.mono (fun _ q => q.elim) (fun _ q => q)).tr (f3.tr f4)).tr f5).tr f6).tr f7).tr f8
  have e8 : sg J8 516 0 c.toNat = sg J 516 0 c.toNat := by rw [sg_row (f28.1 516 (by decide) (by decide)), sg_row (f1.1 516 (by decide) (by decide))]
  refine addLoopV (src := 516) (by decide) ⟨hc.1, hc.2, by decide⟩ h8 (by simp [nb_len]; omega) (by rw [e8]; exact hb) (fun J9 h9 f9 => ?_)
  rw [e8] at h9
  have f29 := f28.tr f9
  have c9 : mF cH t13 J J9 := (f1.mono (fun a q => by unfold cH; omega) (fun _ q => q.elim)).tr (f29.mono (fun a q => by unfold c497 at q; unfold cH; omega) (fun _ q => q))
  refine s_code h9 (k1.fr (f29.1 501 (by decide) (by decide))) ho (mK_fr hK (c9.1 495 (by unfold cH; omega) (by decide)) (c9.1 496 (by unfold cH; omega) (by decide))) (fun J10 h10 f10 => hQ J10 ?_ (c9.tr (f10.mono (fun a q => by unfold cCode at q; unfold cH; omega) (fun _ q => q))))
  rw [h10]
  unfold tagI
  have e : ([] ++ [2 % 256] ++ [ep % 256] ++ nb (2 : Int).toNat (zi2l n).toInt ++ [(32 + ep) % 256] ++ nb (2 : Int).toNat (zi2l n).toInt ++ nb (2 : Int).toNat (zi2l (c + 8)).toInt : List Int) = [2, ep, n / 256, n % 256, 32 + ep, n / 256, n % 256, (c + 8) / 256, (c + 8) % 256] := by
    rw [i2l_toInt ⟨by omega, by omega⟩, i2l_toInt ⟨by omega, by omega⟩, show (2 : Int).toNat = 2 from rfl, nb2, nb2, show ep % 256 = ep by omega, show (32 + ep) % 256 = 32 + ep by omega, show n / 256 % 256 = n / 256 by omega, show (c + 8) / 256 % 256 = (c + 8) / 256 by omega]
    rfl
  rw [e, sg_len, show ((c.toNat : Nat) : Int) = c by omega]
  rfl
theorem s_maskM {at_ : Int} {J : zM} {L : yM} {Q : zM → yM → Prop} (h0 : 0 ≤ at_) (h1 : at_ + 64 ≤ 2048) (ho : oct (sg J 492 (at_ + 32) 32)) (hd : oct (sg J 500 0 8)) (hK : mK (zi J)) (hQ : ∀ J', sg J' 500 0 32 = mcI (sg J 492 (at_ + 32) 32) (sg J 500 0 8) → mF cF t13 J J' → Q J' L) : w_X12_mask at_ J L Q := by
  unfold w_X12_mask
  refine copyLoop (by decide) (by decide) ?_
  obtain ⟨J0, e0⟩ : ∃ J0, J0 = zcp J 500 0 508 0 8 := ⟨_, rfl⟩
  rw [← e0]
  have f0 : mF cF t13 J J0 := by rw [e0]; exact mF_zcp (S := cF) (b := 508) (Or.inr rfl) (by decide)
  have s0 : sg J0 508 0 8 = sg J 500 0 8 := by rw [e0]; exact sg_zcp (by decide)
  refine s_keyOwn (by omega) (by decide) (by omega) (fun J1 k1 f1 => ?_)
  rw [show sg J0 492 (at_ + 32) (32 : Int).toNat = sg J 492 (at_ + 32) 32 from sg_row (f0.1 492 (by unfold cF cH; omega) (by decide))] at k1
  refine s_mbegin (fun J2 h2 f2 => ?_)
  have s2 : sg J2 508 0 8 = sg J 500 0 8 := by rw [sg_row (f2.1 508 (fun q => q) (by decide)), sg_row (f1.1 508 (by decide) (by decide)), s0]
  refine addLoop (src := 508) (by decide) (by decide) h2 (by simp) (by show oct (sg J2 508 0 8); rw [s2]; exact hd) (fun J3 h3 f3 => ?_)
  rw [List.nil_append, show sg J2 508 0 (8 : Int).toNat = sg J 500 0 8 from s2] at h3
  have f23 : mF c497 t13 J1 J3 := (f2.mono (fun _ q => q.elim) (fun _ q => q)).tr f3
  have c3 : mF cF t13 J J3 := (f0.tr (f1.mono (fun a q => by unfold cF cH; omega) (fun _ q => q.elim))).tr (f23.mono (fun a q => by unfold c497 at q; unfold cF cH; omega) (fun _ q => q))
  exact s_code h3 (k1.fr (f23.1 501 (by decide) (by decide))) ho (mK_fr hK (c3.1 495 (by unfold cF cH; omega) (by decide)) (c3.1 496 (by unfold cF cH; omega) (by decide))) (fun J4 h4 f4 => hQ J4 h4 (c3.tr (f4.mono (fun a q => by unfold cCode at q; unfold cF cH; omega) (fun _ q => q))))
