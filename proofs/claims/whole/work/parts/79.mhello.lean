theorem M44b.cg {s : Int} {J : zM} {z z' : Nat → Int} {y y' : Nat → List Int} (h : M44b s J z y) (f13 : z' 13 = z 13) (g : ∀ k, 10 ≤ k → k < 24 → y' k = y k) : M44b s J z' y' := by
  obtain ⟨h2, h3, h4⟩ := h
  refine ⟨fun hz => ?_, fun hz i i0 i1 => ?_, h4⟩
  · rw [f13] at hz
    obtain ⟨a1, a2, a3⟩ := h2 hz
    refine ⟨by rw [g 14 (by omega) (by omega)]; exact a1, by rw [g 15 (by omega) (by omega)]; exact a2, fun i hi => ?_⟩
    rw [g (10 + i) (by omega) (by omega), g (16 + i) (by omega) (by omega), g (20 + i) (by omega) (by omega)]
    exact a3 i hi
  · rw [f13] at hz
    rw [g (10 + i) (by omega) (by omega), g (16 + i) (by omega) (by omega), g (20 + i) (by omega) (by omega)]
    exact h3 hz i i0 i1
theorem s_binderN {s : Int} {m0 : List Int} {J : zM} {L : yM} {Q : zM → yM → Prop} (hs : s01 s) (hT : sg J 492 (1024 * s + 512) m0.length = m0) (hTo : oct m0) (hTl : 3 ≤ m0.length ∧ m0.length ≤ 128) (hTn : 3 + 256 * m0.getD 1 0 + m0.getD 2 0 = (m0.length : Int) + 32) (hK : mK (zi J)) (ho : oct (sg J 492 (1024 * s) 16)) (hQ : ∀ J', sg J' 500 0 32 = mcI (exN (earI (sg J 492 (1024 * s) 16)) 1000009) (hsI m0) → sg J' 492 (1024 * s + 32) 32 = earI (sg J 492 (1024 * s) 16) → mF (fun a => cF a ∨ a = 492) t13 J J' → (∀ k, ¬ (1024 * s + 32 ≤ k ∧ k < 1024 * s + 64) → J' 492 k = J 492 k) → Q J' L) : w_X12_binder s J L Q := by
  obtain ⟨key, hkey⟩ : ∃ key, key = sg J 492 (1024 * s) 16 := ⟨_, rfl⟩
  rw [← hkey] at hQ
  have up : ∀ {S : Nat → Prop} {U : Int → Prop} {J1 J2 : zM}, mF S U J1 J2 → (∀ a, S a → cF a) → (∀ k, U k → k = 13) → mF cF t13 J1 J2 := fun f h1 h2 => f.mono h1 h2
  unfold w_X12_binder
  refine s_early hs hK ho (fun J1 h1 a1 => ?_)
  rw [← hkey] at h1
  have m1 : sg J1 492 (1024 * s + 512) m0.length = m0 := by rw [sg_fr (J := J) (fun k k0 k1 => a1.2 k (by omega))]; exact hT
  have K1 := a1.K hK
  refine s_keyOwn (by omega) (by decide) (by omega) (fun J2 k2 f2 => ?_)
  rw [show sg J1 492 (1024 * s + 32) (32 : Int).toNat = earI key from h1] at k2
  have c2 : mF cF t13 J1 J2 := up f2 (fun a q => by unfold cF cH; omega) (fun k q => q.elim)
  have mk : ∀ {J' : zM}, mF cF t13 J1 J' → mK (zi J') := fun f => mK_fr K1 (f.1 495 (by unfold cF cH; omega) (by decide)) (f.1 496 (by unfold cF cH; omega) (by decide))
  have ow : ∀ {J' : zM}, mF cF t13 J1 J' → J' 492 = J1 492 := fun f => f.1 492 (by unfold cF cH; omega) (by decide)
  refine s_exN lab_binder (by decide) k2 (mcI_oct _ _) (mk c2) (fun J3 h3 f3 => ?_)
  have c3 := c2.tr (up f3 (fun a q => by unfold cCode at q; unfold cF cH; omega) (fun k q => q))
  refine copyLoop (by decide) (by decide) ?_
  obtain ⟨J4, e4⟩ : ∃ J4, J4 = zcp J3 500 0 508 0 32 := ⟨_, rfl⟩
  rw [← e4]
  have c4 : mF cF t13 J1 J4 := by rw [e4]; exact c3.tr (mF_zcp (S := cF) (b := 508) (Or.inr rfl) (by decide))
  have s4 : sg J4 508 0 32 = exN (earI key) 1000009 := by rw [e4, ← h3]; exact sg_zcp (by decide)
  intro at_ eat J5 e5
  subst eat
  have c5 : mF cF t13 J1 J5 := by rw [e5]; exact c4.tr (mF_zs1 (T := t13) rfl)
  have t5 : mT 0 J5 [] := by rw [e5]; exact ⟨by rw [zs_s]; rfl, rfl, by decide, by decide⟩
  have m5 : sg J5 492 (1024 * s + 512) m0.length = m0 := by rw [sg_row (ow c5)]; exact m1
  have g1 := sg_get (J := J5) (a := 492) (i := 1024 * s + 512) (c := m0.length) (j := 1) (by omega)
  have g2 := sg_get (J := J5) (a := 492) (i := 1024 * s + 512) (c := m0.length) (j := 2) (by omega)
  rw [m5] at g1 g2
  refine ⟨⟨by omega, by omega⟩, ⟨by omega, by omega⟩, ?_⟩
  have en : 3 + (256 * J5 492 (1024 * s + 512 + 1) + J5 492 (1024 * s + 512 + 2)) - 32 = (m0.length : Int) := by
    rw [show 1024 * s + 512 + 1 = 1024 * s + 512 + ((1 : Nat) : Int) from rfl, show 1024 * s + 512 + 2 = 1024 * s + 512 + ((2 : Nat) : Int) from rfl, ← g1, ← g2]
    omega
  show w_X12_addOwn (1024 * s + 512) (3 + (256 * J5 492 (1024 * s + 512 + 1) + J5 492 (1024 * s + 512 + 2)) - 32) J5 L _
  rw [en]
  have eT : sg J5 492 (1024 * s + 512) ((m0.length : Int)).toNat = m0 := by rw [Int.toNat_natCast]; exact m5
  refine s_addOwn t5 (by omega) (by omega) (by omega) (by show (0 : Int) + ((0 : Nat) : Int) + _ ≤ 1300; omega) (by rw [eT]; exact hTo) (fun J6 t6 f6 => ?_)
  rw [eT, List.nil_append] at t6
  have c6 := c5.tr (up f6 (fun a q => by unfold c497 at q; unfold cF cH; omega) (fun k q => q))
  obtain ⟨b1, b2, b3, b4⟩ := t6
  refine ⟨by omega, mk c6, fun J7 z7 h7 => ?_⟩
  have f7 : mF cCode t13 J6 J7 := ⟨fun a ha _ => funext fun i => z7 a i (by unfold cCode at ha; omega), fun k _ => z7 491 k (by omega)⟩
  rw [b1, show (0 + (m0.length : Int) - 0).toNat = m0.length by omega, b2] at h7
  have c7 := c6.tr (up f7 (fun a q => by unfold cCode at q; unfold cF cH; omega) (fun k q => q))
  have s7 : sg J7 508 0 32 = exN (earI key) 1000009 := by
    rw [sg_row (f7.1 508 (by decide) (by decide)), sg_row (f6.1 508 (by decide) (by decide)), e5, sg_row (zs_r J4 (by decide)), s4]
  refine keyLoop (src := 508) (by decide) (fun J8 k8 f8 => ?_)
  rw [s7] at k8
  have c8 := c7.tr (up f8 (fun a q => by unfold cF cH; omega) (fun k q => q.elim))
  refine copyLoop (by decide) (by decide) ?_
  obtain ⟨J9, e9⟩ : ∃ J9, J9 = zcp J8 500 0 508 0 32 := ⟨_, rfl⟩
  rw [← e9]
  have c9 : mF cF t13 J1 J9 := by rw [e9]; exact c8.tr (mF_zcp (S := cF) (b := 508) (Or.inr rfl) (by decide))
  have s9 : sg J9 508 0 32 = hsI (m0) := by
    rw [e9, show sg (zcp J8 500 0 508 0 32) 508 0 32 = sg J8 500 0 32 from sg_zcp (by decide), sg_row (f8.1 500 (by decide) (by decide)), h7]
  have k9 : mKy J9 (exN (earI key) 1000009) := k8.fr (by rw [e9]; exact zcp_r J8 (by decide))
  refine s_mbegin (fun J10 h10 f10 => ?_)
  have c10 := c9.tr (up f10 (fun a q => q.elim) (fun k q => q))
  have s10 : sg J10 508 0 32 = hsI (m0) := by rw [sg_row (f10.1 508 (fun q => q) (by decide)), s9]
  refine addLoop (src := 508) (by decide) (by decide) h10 (by simp) (by show oct (sg J10 508 0 32); rw [s10]; exact hsI_oct _) (fun J11 h11 f11 => ?_)
  rw [List.nil_append, show sg J10 508 0 (32 : Int).toNat = hsI (m0) from s10] at h11
  have c11 := c10.tr (up f11 (fun a q => by unfold c497 at q; unfold cF cH; omega) (fun k q => q))
  have k11 := (k9.fr (f10.1 501 (fun q => q) (by decide))).fr (f11.1 501 (by decide) (by decide))
  refine s_code h11 k11 (mcI_oct _ _) (mk c11) (fun J12 h12 f12 => ?_)
  have c12 := c11.tr (up f12 (fun a q => by unfold cCode at q; unfold cF cH; omega) (fun k q => q))
  refine hQ J12 h12 ?_ ?_ ?_
  · rw [sg_row (ow c12), h1]
  · exact (a1.1.mono (fun a q => by unfold cF; omega) (fun k q => q)).tr (c12.mono (fun a q => Or.inl q) (fun k q => q))
  · intro k hk
    rw [ow c12]
    exact a1.2 k hk
theorem bind_0 (key b j : List Int) (hj : j.length = 32) : bindI key (msgI 1 (b ++ j)) = mcI (exN (earI key) 1000009) (hsI (1 :: (((b.length + 32 : Nat) : Int) / 256) :: (((b.length + 32 : Nat) : Int) % 256) :: b)) := by
  unfold bindI
  rw [msgI_len, List.length_append, hj, show 3 + (b.length + 32) - 32 = b.length + 1 + 1 + 1 by omega]
  unfold msgI
  rw [List.take_succ_cons, List.take_succ_cons, List.take_succ_cons, List.length_append, hj, List.take_left]
theorem zs_eq_x (F : FLT) (n v : Int) (B : SA) : uz 10 1 (uz 8 v (uz 7 4 (uz 14 0 (ul [] (uz 12 n (uf F (x0A B))))))) = uz 8 v (newA F (uz 12 n B)) := by
  refine Prod.ext (funext fun j => ?_) rfl
  show (if j = 10 then (1 : Int) else if j = 8 then v else if j = 7 then 4 else if j = 14 then 0 else if j = 12 then n else if j = 10 then 0 else if j = 9 then 0 else if j = 8 then 0 else if j = 7 then 0 else B.1 j) = if j = 8 then v else if j = 10 then 1 else if j = 9 then 0 else if j = 7 then 4 else if j = 14 then 0 else if j = 12 then n else B.1 j
  by_cases h10 : j = 10
  · subst h10; rfl
  by_cases h8 : j = 8
  · subst h8; rfl
  by_cases h7 : j = 7
  · subst h7; rfl
  by_cases h14 : j = 14
  · subst h14; rfl
  by_cases h12 : j = 12
  · subst h12; rfl
  by_cases h9 : j = 9
  · subst h9; rfl
  simp only [h10, h8, h7, h14, h12, h9, if_false]
theorem xs_hello {e : Nat} {bd n : Int} {A : SA} {J : zM} {L : yM} {Q : zM → yM → Prop} (he : iSide e) (h : XS e 0 J L A) (hy : AIy (aY A)) (hsh : 0 ≤ aZ A 15 ∧ aZ A 15 < 2147483647) (ai : AI bd 0 (newA (helF n (helB A)) (uz 12 n (uT (msgI 1 (helB A)) [] [] [] A)))) (hQ : ∀ J', XS e 0 J' L (helloA n A) → XO e J L J' L → Q J' L) : w_X8_composeHello e n J L (fun J7 L8 => w_X8_startFlight e J7 L8 (fun J9 L10 => w_X8_sendFlight e J9 L10 Q)) := by
  refine xs_composeHello he h hy hsh (fun J1 h1 o1 => xs_start he h1 (fun J2 h2 o2 => ?_))
  rw [show aZ (uz 12 n (uf (helF n (helB A)) (x0A (uT (msgI 1 (helB A)) [] [] [] A)))) 17 = aZ A 17 from rfl, zs_eq_x] at h2
  have ai2 : AI bd 0 (uz 8 (aZ A 17) (newA (helF n (helB A)) (uz 12 n (uT (msgI 1 (helB A)) [] [] [] A)))) := by
    have b17 := ai.b17
    exact ⟨⟨ai.b0, ai.b1, ai.b2, ai.b3, ai.b4, ai.b5, ai.b6, ai.b7, ⟨b17.1, Int.le_refl _⟩, ai.1.2.2.2.2.2.2.2.2.2⟩, ai.2⟩
  refine xs_fly he (by decide) h2 ai2 (show ([] : LGT).length + 204 ≤ 1836 by decide) (fun J3 h3 o3 => hQ J3 ?_ (o1.tr (o2.tr o3)))
  rw [fly_8] at h3
  exact h3
/-- the HELLO in the model -/
theorem ms_hello {bd n : Int} {A : SA} {J : zM} {L : yM} {Q : zM → yM → Prop} (h : MSc 0 J L A) (hy : AIy (aY A)) (h12 : aZ A 12 = n) (hr : sg J 492 890 16 = aY A 4) (hc : sg J 492 870 (aY A 5).length = aY A 5) (hn : 0 ≤ n ∧ n < 256) (hnow : J 491 3 = aZ A 17) (ai : AI bd 0 (newA (helF n (helB A)) (uz 12 n (uT (msgI 1 (helB A)) [] [] [] A)))) (hlv : live (aZ A 0))
    (hQ : ∀ J', MS 0 J' L (helloA n A) → MO 0 J L J' L → Q J' L) : w_X12_hello ((aY A 5).length : Int) J L Q := by
  have hck := hy.2.2.2.2.2.1.1
  obtain ⟨a0, a1, a2, a4, a5, a6, a7, a8, a9, a10, a11, a12⟩ := id h
  obtain ⟨c, hcd⟩ : ∃ c, c = (aY A 5).length := ⟨_, rfl⟩
  have hl0 := helB0_len hy
  rw [← hcd] at hck hl0 hc ⊢
  unfold w_X12_hello
  refine s_putMessage (by decide) (by omega) ?_
  obtain ⟨m3, hm3⟩ : ∃ m3, m3 = [(1 : Int), (61 + (c : Int)) / 256, (61 + (c : Int)) % 256] := ⟨_, rfl⟩
  have l3 : m3.length = 3 := by rw [hm3]; rfl
  rw [← hm3]
  refine ownLoop (sp := 890) (dp := 512 + 3) (by decide) (by decide) (by decide) (by decide) ?_
  have q1 : sg (zw J 492 512 m3) 492 890 (16 : Int).toNat = aY A 4 := by rw [sg_zw_in (fun k p q => by omega)]; exact hr
  rw [q1, zw_app _ _ _ _ _ _ (by rw [l3]; rfl)]
  refine ⟨by decide, fun J10 e10 => ?_⟩
  have w10 : J10 = zw J 492 512 ((m3 ++ aY A 4) ++ [(c : Int)]) := by rw [e10, zs_zw, zw_app _ _ _ _ _ _ (by rw [List.length_append, l3, hy.2.2.2.2.1.1]; rfl)]
  have len1 : ((m3 ++ aY A 4) ++ [(c : Int)]).length = 20 := by rw [List.length_append, List.length_append, l3, hy.2.2.2.2.1.1]; rfl
  refine ownLoopV (sp := 870) (dp := 512 + 20) (by omega) (by omega) (by omega) (by omega) ?_
  have q2 : sg J10 492 870 ((c : Int)).toNat = aY A 5 := by rw [w10, Int.toNat_natCast, sg_zw_in (fun k p q => by rw [len1]; omega)]; exact hc
  rw [q2, w10, zw_app _ _ _ _ _ _ (by rw [len1]; rfl)]
  have len2 : (((m3 ++ aY A 4) ++ [(c : Int)]) ++ aY A 5).length = 20 + c := by rw [List.length_append, len1, ← hcd]
  refine s_numberTo (by decide) (by omega) (by omega) ?_
  have e15 : (L 505 0).toInt = aZ A 15 := a0.2.2.2.2.2.2.2.2.2.2.1
  rw [e15, zw_app _ _ _ _ _ _ (by rw [len2]; omega)]
  have len3 : ((((m3 ++ aY A 4) ++ [(c : Int)]) ++ aY A 5) ++ nb (4 : Int).toNat (aZ A 15)).length = 24 + c := by rw [List.length_append, len2, nb_len]; show 20 + c + 4 = _; omega
  refine ownLoop (sp := 16) (dp := (512 + 24) + (c : Int)) (by decide) (by decide) (by omega) (by omega) ?_
  have q3 : ∀ l : List Int, sg (zw J 492 512 l) 492 16 (8 : Int).toNat = aY A 1 := fun l => by rw [sg_zw_in (fun k p q => by omega)]; exact a2.2.1
  rw [q3, zw_app _ _ _ _ _ _ (by rw [len3]; omega)]
  have eqm : (((((m3 ++ aY A 4) ++ [(c : Int)]) ++ aY A 5) ++ nb (4 : Int).toNat (aZ A 15)) ++ aY A 1) = m3 ++ helB0 A := by
    unfold helB0
    rw [← hcd]
    simp only [List.append_assoc]
    rfl
  rw [eqm]
  obtain ⟨J1, hJ1⟩ : ∃ J1, J1 = zw J 492 512 (m3 ++ helB0 A) := ⟨_, rfl⟩
  rw [← hJ1]
  have lm : (m3 ++ helB0 A).length = 32 + c := by rw [List.length_append, l3, hl0]; omega
  have r1 : ∀ a, a ≠ 492 → J1 a = J a := fun a ha => by rw [hJ1]; exact zw_r J ha
  have u1 : ∀ k, ¬ (512 ≤ k ∧ k < 592) → J1 492 k = J 492 k := fun k hk => by rw [hJ1]; exact zw_out J (by rw [lm]; omega)
  have key1 : sg J1 492 (1024 * 0) 16 = aY A 0 := by rw [sg_fr (fun k p q => u1 k (by omega))]; exact a2.1
  have hsm : sg J1 492 (1024 * 0 + 512) (m3 ++ helB0 A).length = m3 ++ helB0 A := by rw [hJ1]; exact zw_sg _ _ _ _
  have hob := helB_oct hy
  have hob0 : oct (helB0 A) := fun x hx => hob x (List.mem_append_left _ hx)
  have hom : oct (m3 ++ helB0 A) := oct_app.mpr ⟨by rw [hm3]; simp only [oct_cons]; exact ⟨by omega, by omega, by omega, oct_nil⟩, hob0⟩
  refine s_binderN (m0 := m3 ++ helB0 A) (by decide) hsm hom (by omega) (by rw [hm3]; show 3 + 256 * ((61 + (c : Int)) / 256) + (61 + (c : Int)) % 256 = _; rw [← hm3, lm]; omega) (mK_fr a12 (r1 495 (by decide)) (r1 496 (by decide))) (by rw [key1]; exact hy.1.2) (fun J2 b1 b2 b3 b4 => ?_)
  rw [key1] at b1 b2
  obtain ⟨bnd, hbnd⟩ : ∃ bnd, bnd = bindI (aY A 0) (msgI 1 (helB0 A ++ Z32)) := ⟨_, rfl⟩
  have hb1 : sg J2 500 0 32 = bnd := by
    rw [b1, hbnd, bind_0 _ _ _ rfl, hm3, hl0]
    have e1 : ((29 + c + 32 : Nat) : Int) = 61 + (c : Int) := by omega
    rw [e1]
    rfl
  have hbl : bnd.length = 32 := by rw [hbnd]; exact mcI_len _ _
  refine s_store (by omega) (by decide) (by omega) ?_
  obtain ⟨J3, hJ3⟩ : ∃ J3, J3 = zcp J2 500 0 492 (512 + 32 + (c : Int)) 32 := ⟨_, rfl⟩
  rw [← hJ3]
  have w3 : J3 = zw J2 492 (512 + 32 + (c : Int)) bnd := by rw [hJ3, zcp_zw _ _ _ _ _ _ (by decide)]; congr 1
  have u3 : ∀ k, ¬ (512 ≤ k ∧ k < 592) → ¬ (32 ≤ k ∧ k < 64) → J3 492 k = J 492 k := fun k p q => by rw [w3, zw_out J2 (by rw [hbl]; omega), b4 k (by omega), u1 k p]
  have f3 : mF (fun a => cF a ∨ a = 492) t13 J J3 := by
    have g1 : mF (fun a => cF a ∨ a = 492) t13 J J1 := by rw [hJ1]; exact mF_zw (Or.inr rfl) (by decide)
    have g3 : mF (fun a => cF a ∨ a = 492) t13 J2 J3 := by rw [w3]; exact mF_zw (Or.inr rfl) (by decide)
    exact (g1.tr b3).tr g3
  have hmsg : msgI 1 (helB A) = (m3 ++ helB0 A) ++ bnd := by
    have hB : helB A = helB0 A ++ bnd := by unfold helB; rw [← hbnd]
    rw [hB, hm3]
    unfold msgI
    rw [List.length_append, hl0, hbl]
    have e1 : ((29 + c + 32 : Nat) : Int) = 61 + (c : Int) := by omega
    rw [e1]
    rfl
  have hbB := helB_len hy
  rw [← hcd] at hbB
  have s3 : sg J3 492 512 (3 + (helB A).length) = msgI 1 (helB A) := by
    rw [hmsg, show 3 + (helB A).length = (m3 ++ helB0 A).length + 32 by rw [lm]; omega, sg_app, w3]
    rw [show (512 : Int) + (((m3 ++ helB0 A).length : Nat) : Int) = 512 + 32 + (c : Int) by rw [lm]; omega]
    have := zw_sg J2 492 (512 + 32 + (c : Int)) bnd
    rw [hbl] at this
    rw [this, sg_zw_in (fun k p q => by rw [lm] at q; rw [hbl]; omega), sg_fr (J := J1) (fun k p q => b4 k (by omega))]
    congr 1
  have m3' : mMs J3 512 (msgI 1 (helB A)) := mMs_mk s3 (by decide) hob (by omega)
  -- the core stands
  have core3 : MSc 0 J3 L (uz 12 n (uT (msgI 1 (helB A)) [] [] [] A)) := by
    have hc3 := h.own (J' := J3) (U := fun k => (512 ≤ k ∧ k < 592) ∨ (32 ≤ k ∧ k < 64)) (by decide) f3 (fun a q => by unfold cF cH at q; omega) (fun k q => by unfold t13 at q; omega) (fun k q => u3 k (by omega) (by omega)) (fun k q => by omega)
    obtain ⟨p0, p1, p2, p4, p5, p6, p7, p8, p9, p10, p11, p12⟩ := hc3
    refine ⟨p0, ⟨p1.1, fun q => ⟨(p1.2.1 q).1, (p1.2.1 q).2.1, (p1.2.1 q).2.2.1, (p1.2.1 q).2.2.2.trans h12⟩, p1.2.2⟩, p2, p4, p5, p6.cg (fun k hk => if_neg (by omega)), p7, p8.cg rfl (fun k k0 k1 => uT_y (by omega)), p9, p10, p11, p12⟩
  have o3 : MO 0 J L J3 L := MO.own (U := fun k => (512 ≤ k ∧ k < 592) ∨ (32 ≤ k ∧ k < 64)) (by decide) f3 (fun a q => by unfold cF cH at q; omega) (fun k q => by unfold t13 at q; omega) (fun k q => u3 k (by omega) (by omega)) (fun k q => by omega)
  refine ms_clear (by decide) core3 (fun J4 c4 z4 fl4 o4 e4 ov4 k4 => ?_)
  have n4 : J4 491 58 = n := by rw [k4, f3.2 58 (by decide)]; exact (a1.2.1 rfl).2.2.2.trans h12
  rw [n4]
  refine ms_fadd (kind := 1) (num := n) (K' := fun _ => 1) (N' := fun _ => n) (B' := fun _ => helB A) (by decide) c4 z4 fl4 (fun f hf => absurd hf (Nat.not_lt_zero _)) (by decide) (fun f hf => absurd hf (Nat.not_lt_zero _)) ⟨rfl, rfl⟩ (m3'.fr2 (fun k _ _ => by rw [e4])) hn (by omega) (fun J5 c5 z5 fl5 o5 e5 ov5 k5 => ?_)
  have hA : clrA (uz 12 n (uT (msgI 1 (helB A)) [] [] [] A)) = uz 10 0 (newA FL0 (uz 12 n (uT (msgI 1 (helB A)) [] [] [] A))) := by
    refine Prod.ext (funext fun j => ?_) rfl
    show (if j = 10 then (0 : Int) else _) = if j = 10 then (0 : Int) else if j = 10 then 1 else _
    split <;> rfl
  have c5' : MSc 0 J5 L (newA (helF n (helB A)) (uz 12 n (uT (msgI 1 (helB A)) [] [] [] A))) := by
    have q := MSc_uz10 c5 1
    have e : uz 10 1 (clrA (uz 12 n (uT (msgI 1 (helB A)) [] [] [] A))) = newA FL0 (uz 12 n (uT (msgI 1 (helB A)) [] [] [] A)) := by
      refine Prod.ext (funext fun j => ?_) rfl
      show (if j = 10 then (1 : Int) else if j = 10 then 0 else _) = if j = 10 then (1 : Int) else _
      split <;> rfl
    rw [e] at q
    exact q
  refine msc_fly (by decide) c5' fl5 ai (by rw [k5, k4, f3.2 3 (by decide)]; exact hnow) (show ([] : LGT).length + 204 ≤ 1836 by decide) (fun J6 c6 o6 s6 r6 => hQ J6 ?_ (o3.tr (o4.tr (o5.tr o6))))
  have e492 : J6 492 = J3 492 := by rw [r6 492 (by omega), e5, e4]
  refine c6.full ⟨fun q => ?_, fun _ => s6, by rw [s6]; decide⟩ (fun _ _ => ⟨?_, ?_, ?_⟩) (fun _ i hi hy6 => ?_) ⟨?_, fun _ => ⟨?_, show 0 < 1 by decide⟩, fun q => ?_, fun _ => 0, fun _ => Or.inl rfl, fun _ _ => rfl, ?_⟩
  · exfalso
    have q : aZ A 0 = 0 := q
    unfold live at hlv
    omega
  · rw [sg_row e492, sg_fr (J := J) (fun k p q => u3 k (by omega) (by omega))]
    exact hr
  · rw [e492]
    have := m3'.get 19 (by rw [msgI_len]; omega)
    show J3 492 531 = ((aY A 5).length : Int)
    rw [show (531 : Int) = 512 + ((19 : Nat) : Int) from rfl, this, hmsg, gd_al (by rw [lm]; omega), gd_ar (by rw [l3]; decide), l3]
    show (helB0 A).getD 16 0 = _
    unfold helB0
    rw [gd_ar (by rw [hy.2.2.2.2.1.1]; decide), hy.2.2.2.2.1.1]
    rfl
  · rw [sg_row e492, sg_fr (J := J2) (fun k p q => by rw [w3]; exact zw_out J2 (by rw [hbl]; omega))]
    exact b2
  · have hi0 : i = 0 := by
      rcases Nat.eq_zero_or_pos i with q | q
      · exact q
      · exfalso
        apply hy6
        have : i = 1 ∨ i = 2 ∨ i = 3 := by omega
        rcases this with rfl | rfl | rfl <;> rfl
    subst hi0
    exact m3'.fr2 (fun k _ _ => by rw [e492])
  · rw [r6 522 (by omega), ov5, ov4]; decide
  · rw [r6 522 (by omega), ov5]; exact ov4
  · exact absurd (show (1 : Int) = 0 from q) (by decide)
  · exact (MFl.fr fl5 (fun a ha => r6 a (by omega)))
