theorem uT_y {a b c d : List Int} {A : SA} {k : Nat} (h : k < 6 ∨ 10 ≤ k) : aY (uT a b c d A) k = aY A k := by
  show (if k = 6 then a else if k = 7 then b else if k = 8 then c else if k = 9 then d else A.2.1 k) = A.2.1 k
  rw [if_neg (by omega), if_neg (by omega), if_neg (by omega), if_neg (by omega)]
theorem XS.trn {e : Nat} {s : Int} {J J' : zM} {L : yM} {A : SA} {a b c d : List Int} (he : iSide e) (h : XS e s J L A) (f : ∀ x, ¬ (xscS e x ∨ x = e + 144 ∨ x = e + 162) → J' x = J x) (g : ∀ k, k ≠ 10 → J' (e + 144) k = J (e + 144) k) (hT : xTr e J' (a ++ b ++ c ++ d)) : XS e s J' L (uT a b c d A) ∧ XO e J L J' L := by
  obtain ⟨h0, h1, h2, h3, h4, h5, h6, h7, h8, h9, h10⟩ := h
  have he2 : 139 ≤ e := by unfold iSide at he; omega
  have f' : ∀ x, e ≤ x → x ≠ e + 142 → x ≠ e + 143 → x ≠ e + 144 → ¬ (e + 162 ≤ x ∧ x ≤ e + 166) → x ≠ e + 170 → J' x = J x := fun x p q r t u v => f x (by omega)
  refine ⟨⟨h0.fr (f' _ (by omega) (by omega) (by omega) (by omega) (by omega) (by omega)), h1.fr (f' _ (by omega) (by omega) (by omega) (by omega) (by omega) (by omega)) rfl, h2.fr (fun x p q => f' x (by omega) (by omega) (by omega) (by omega) (by omega) (by omega)), h3.fr (fun x p q => f' x (by omega) (by omega) (by omega) (by omega) (by omega) (by omega)) (fun k _ => by rw [f' _ (by omega) (by omega) (by omega) (by omega) (by omega) (by omega)]), h4.fr (fun x p q => f' x (by omega) (by omega) (by omega) (by omega) (by omega) (by omega)), h5.fr (fun x p q => f' x (by omega) (by omega) (by omega) (by omega) (by omega) (by omega)), h6.fr (f' _ (by omega) (by omega) (by omega) (by omega) (by omega) (by omega)), h7.fr he (fun x p q => f' x (by omega) (by omega) (by omega) (by omega) (by omega) (by omega)), ?_, h9.fr (fun x p => ?_) (by rw [f' _ (by omega) (by omega) (by omega) (by omega) (by omega) (by omega)]), h10.fr (fun x p q => f' x (by omega) (by omega) (by omega) (by omega) (by omega) (by omega)) (fun _ _ _ => rfl)⟩, fun x hx => f x (fun q => hx ?_), fun _ _ => rfl⟩
  · obtain ⟨q1, q2, q3, q4, q5, q6⟩ := h8
    refine ⟨by rw [g 11 (by decide)]; exact q1, fun _ => hT, by unfold xZ; rw [sg_row (f' _ (by omega) (by omega) (by omega) (by omega) (by omega) (by omega))]; exact q3, fun i hi => ?_, fun i hi => ?_, _, hT⟩
    · rw [uT_y (by omega), sg_row (f' _ (by omega) (by omega) (by omega) (by omega) (by omega) (by omega))]
      exact q4 i hi
    · rw [uT_y (by omega), uT_y (by omega), sg_row (f' _ (by omega) (by omega) (by omega) (by omega) (by omega) (by omega)), sg_row (f' _ (by omega) (by omega) (by omega) (by omega) (by omega) (by omega))]
      exact q5 i hi
  · rcases p with p | p | p | p | p
    · exact f' x (by omega) (by omega) (by omega) (by omega) (by omega) (by omega)
    · exact f' x (by omega) (by omega) (by omega) (by omega) (by omega) (by omega)
    · exact f' x (by omega) (by omega) (by omega) (by omega) (by omega) (by omega)
    · exact f' x (by omega) (by omega) (by omega) (by omega) (by omega) (by omega)
    · have := wy_out he p
      exact f x (by omega)
  · rcases q with q | q | q
    · rcases q with q | q | q | q | q
      · exact Or.inr (Or.inr q)
      · exact Or.inl (by omega)
      · exact Or.inl (by omega)
      · exact Or.inl (by omega)
      · exact Or.inl (by omega)
    · exact Or.inl (by omega)
    · exact Or.inl (by omega)
theorem s_startWithHello {e p : Nat} {at_ n : Int} {J : zM} {L : yM} {Q : zM → yM → Prop} (h0 : 0 ≤ at_) (h1 : 0 ≤ n) (h2 : at_ + n ≤ (ln0 p : Int)) (h3 : n ≤ 290) (hp : p ≠ e + 162 ∧ p ≠ e + 144) (hQ : ∀ J', xTr e J' (msgI 1 (sg J p at_ n.toNat)) → (∀ k, k ≠ 10 → J' (e + 144) k = J (e + 144) k) → zF (fun a => a = e + 144 ∨ a = e + 162) J J' → Q J' L) : w_X5_startWithHello e p at_ n J L Q := by
  unfold w_X5_startWithHello
  intro J1 e1
  have hT : xTr e J1 [] := ⟨by rw [e1]; exact zs_s _ _ _ _, rfl, by decide⟩
  refine s_xaddMessage hT h0 h1 h2 (by show ((0 : Nat) : Int) + 3 + n ≤ 293; omega) hp (fun J2 k1 k2 k3 => hQ J2 ?_ (fun k hk => ?_) ?_)
  · rw [List.nil_append, sg_row (show J1 p = J p by rw [e1]; exact zs_r J hp.2)] at k1
    exact k1
  · rw [k2, zs_n _ (Or.inr hk), e1, zs_n _ (Or.inr hk)]
  · refine zF.tr ?_ k3
    rw [e1]
    exact zF.zs (Or.inl rfl)
theorem s_setBinder {e p : Nat} {b j u : List Int} {J : zM} {L : yM} {Q : zM → yM → Prop} (hT : xTr e J (b ++ j)) (hj : j.length = 32) (hu : sg J p 0 32 = u) (hl : 32 ≤ ln0 p) (hp : p ≠ e + 162) (hQ : ∀ J', xTr e J' (b ++ u) → zF (fun a => a = e + 162) J J' → Q J' L) : w_X5_setBinder e p J L Q := by
  obtain ⟨t1, t2, t3⟩ := hT
  have hln := ln0_lt p
  have hul : u.length = 32 := by rw [← hu, sg_len]
  rw [List.length_append, hj] at t1 t2 t3
  unfold w_X5_setBinder
  rw [t1]
  refine ⟨⟨by omega, by omega⟩, ?_⟩
  rw [if_neg (by omega)]
  refine ⟨⟨by omega, by omega⟩, ?_⟩
  rw [if_neg (by omega)]
  refine ⟨⟨by omega, by omega, by omega, by omega, by omega⟩, fun J6 e6 => hQ J6 ⟨?_, ?_, by rw [List.length_append, hul]; exact t3⟩ ?_⟩
  · rw [e6, zcp_r J (by omega), t1, List.length_append, hul]
  · rw [List.length_append, hul, sg_app]
    rw [sg_app] at t2
    have q := List.append_inj t2 (by rw [sg_len])
    rw [e6, show ((b.length + 32 : Nat) : Int) - 32 = (0 : Int) + (b.length : Int) by omega]
    rw [sg_zcp (by decide), hu, sg_fr (fun k p q => zcp_out J (by omega)), q.1]
  · rw [e6]
    exact zF.zcp rfl
theorem xs_composeHello {e : Nat} {n : Int} {A : SA} {J : zM} {L : yM} {Q : zM → yM → Prop} (he : iSide e) (h : XS e 0 J L A) (hy : AIy (aY A)) (hsh : 0 ≤ aZ A 15 ∧ aZ A 15 < 2147483647)
    (hQ : ∀ J', XS e 0 J' L (uz 12 n (uf (helF n (helB A)) (x0A (uT (msgI 1 (helB A)) [] [] [] A)))) → XO e J L J' L → Q J' L) : w_X8_composeHello e n J L Q := by
  obtain ⟨h0, h1, h2, h3, h4, h5, h6, h7, h8, h9, h10⟩ := id h
  have hck := hy.2.2.2.2.2.1.1
  have c1 : J (e + 1) 11 = ((aY A 5).length : Int) := h1.2.2.2.2.2.1
  have c12 : J (e + 1) 12 = aZ A 15 := h1.2.2.2.2.2.2.1
  have he2 : 139 ≤ e := by unfold iSide at he; omega
  unfold w_X8_composeHello
  rw [c1]
  intro x1 ex1 x2 ex2
  subst ex1
  subst ex2
  refine ⟨by decide, fun J4 e4 J5 e5 => ⟨⟨by omega, by omega, by omega, by omega, by omega⟩, fun J7 e7 => ?_⟩⟩
  -- the first octets
  have w4 : J4 = zw J (e + 142) 0 (aY A 4) := by rw [e4, zcp_zw _ _ _ _ _ _ (by decide)]; congr 1; exact h2.2.2.2.2.1
  have w5 : J5 = zw J (e + 142) 0 (aY A 4 ++ [((aY A 5).length : Int)]) := by rw [e5, w4, zs_zw, zw_app _ _ _ _ _ _ (by rw [hy.2.2.2.2.1.1]; rfl)]
  have w7 : J7 = zw J (e + 142) 0 ((aY A 4 ++ [((aY A 5).length : Int)]) ++ aY A 5) := by
    rw [e7, zcp_zw _ _ _ _ _ _ (by omega), Int.toNat_natCast]
    have : sg J5 (e + 7) 0 (aY A 5).length = aY A 5 := by rw [w5, sg_row (zw_r J (by omega))]; exact h2.2.2.2.2.2
    rw [this, w5, zw_app _ _ _ _ _ _ (by rw [List.length_append, hy.2.2.2.2.1.1]; rfl)]
  have v12 : J7 (e + 1) 12 = aZ A 15 := by rw [w7, zw_r J (by omega)]; exact c12
  rw [v12]
  refine s_putWord ⟨hsh.1, by omega⟩ (by omega) (by rw [lnS_142 he]; omega) ?_
  refine ⟨⟨by omega, by omega, by omega, by omega, by omega⟩, fun J11 e11 => ?_⟩
  have w8 : zw J7 (e + 142) (17 + ((aY A 5).length : Int)) (nb 4 (aZ A 15)) = zw J (e + 142) 0 (((aY A 4 ++ [((aY A 5).length : Int)]) ++ aY A 5) ++ nb 4 (aZ A 15)) := by
    rw [w7, zw_app _ _ _ _ _ _ (by rw [List.length_append, List.length_append, hy.2.2.2.2.1.1]; show (17 + ((aY A 5).length : Int)) = 0 + ((16 + 1 + (aY A 5).length : Nat) : Int); omega)]
  have w11 : J11 = zw J (e + 142) 0 (helB0 A) := by
    rw [e11, zcp_zw _ _ _ _ _ _ (by decide), w8]
    have : sg (zw J (e + 142) 0 (((aY A 4 ++ [((aY A 5).length : Int)]) ++ aY A 5) ++ nb 4 (aZ A 15))) (e + 3) 0 (8 : Int).toNat = aY A 1 := by rw [sg_row (zw_r J (by omega))]; exact h2.2.1
    rw [this, zw_app _ _ _ _ _ _ (by rw [List.length_append, List.length_append, List.length_append, nb_len, hy.2.2.2.2.1.1]; show (21 + ((aY A 5).length : Int)) = 0 + ((16 + 1 + (aY A 5).length + 4 : Nat) : Int); omega)]
    unfold helB0
    simp only [List.append_assoc]
  have hl0 := helB0_len hy
  obtain ⟨j, hj⟩ : ∃ j, j = sg J11 (e + 142) (((helB0 A).length : Nat) : Int) 32 := ⟨_, rfl⟩
  have hjl : j.length = 32 := by rw [hj, sg_len]
  have hs61 : sg J11 (e + 142) 0 (61 + ((aY A 5).length : Int)).toNat = helB0 A ++ j := by
    rw [show (61 + ((aY A 5).length : Int)).toNat = (helB0 A).length + 32 by omega, sg_app, Int.zero_add, ← hj, w11, zw_sg]
  have r11 : ∀ a, a ≠ e + 142 → J11 a = J a := fun a ha => by rw [w11]; exact zw_r J ha
  refine s_startWithHello (by decide) (by omega) (by rw [lnS_142 he]; omega) (by omega) (by omega) (fun J12 k1 k2 k3 => ?_)
  rw [hs61] at k1
  have r12 : ∀ a, a ≠ e + 142 → a ≠ e + 144 → a ≠ e + 162 → J12 a = J a := fun a p q r => by rw [k3 a (by omega), r11 a p]
  have hZ12 : xZ e J12 := by unfold xZ; rw [sg_row (r12 (e + 167) (by omega) (by omega) (by omega))]; exact h8.2.2.1
  have lk : ln0 (e + 2) = 16 := lnS_2 he
  refine s_binderInto he (by omega) (by rw [lk]; decide) (by omega) (by omega) (by omega) (by rw [lnS_143 he]; decide) hZ12 k1 (by rw [msgI_len, List.length_append, hjl]; omega) (fun J14 b1 b2 b3 => ?_)
  have key : sg J12 (e + 2) 0 (ln0 (e + 2)) = aY A 0 := by rw [lk, sg_row (r12 (e + 2) (by omega) (by omega) (by omega))]; exact h2.1
  rw [key, bind_j (aY A 0) (helB0 A) j Z32 hjl rfl] at b1
  obtain ⟨bnd, hbnd⟩ : ∃ bnd, bnd = bindI (aY A 0) (msgI 1 (helB0 A ++ Z32)) := ⟨_, rfl⟩
  have hbl : bnd.length = 32 := by rw [hbnd]; exact mcI_len _ _
  rw [← hbnd] at b1
  have r14 : ∀ a, ¬ (cS e a ∨ a = e + 143) → J14 a = J12 a := fun a ha => b3 a ha
  have eq1 : msgI 1 (helB0 A ++ j) = (1 :: (((helB0 A ++ j).length : Int) / 256) :: (((helB0 A ++ j).length : Int) % 256) :: helB0 A) ++ j := rfl
  have hT14 : xTr e J14 ((1 :: (((helB0 A ++ j).length : Int) / 256) :: (((helB0 A ++ j).length : Int) % 256) :: helB0 A) ++ j) := by
    rw [← eq1]
    exact k1.fr (by rw [r14 _ (by omega)]) (r14 _ (by omega))
  refine s_setBinder hT14 hjl b1 (by rw [lnS_143 he]; decide) (by omega) (fun J16 m1 m2 => ?_)
  have hT16 : xTr e J16 (msgI 1 (helB A)) := by
    have : msgI 1 (helB A) = (1 :: (((helB0 A ++ j).length : Int) / 256) :: (((helB0 A ++ j).length : Int) % 256) :: helB0 A) ++ bnd := by
      have hB : helB A = helB0 A ++ bnd := by unfold helB; rw [← hbnd]
      rw [hB]
      unfold msgI
      rw [List.length_append, List.length_append, hbl, hjl]
      rfl
    rw [this]
    exact m1
  refine ⟨⟨by omega, by omega, by omega, by omega, by omega⟩, fun J19 e19 => ?_⟩
  have s16 : sg J16 (e + 143) 0 32 = bnd := by rw [sg_row (m2 _ (by omega))]; exact b1
  have w142 : ∀ k : Int, J16 (e + 142) k = J11 (e + 142) k := fun k => by rw [m2 _ (by omega), r14 _ (by omega), k3 _ (by omega)]
  have hsB : sg J19 (e + 142) 0 (61 + ((aY A 5).length : Int)).toNat = helB A := by
    rw [show (61 + ((aY A 5).length : Int)).toNat = (helB0 A).length + 32 by omega, sg_app, e19, show (61 + ((aY A 5).length : Int) - 32) = (0 : Int) + (((helB0 A).length : Nat) : Int) by omega]
    rw [sg_zcp (by decide), s16, sg_fr (J := J16) (fun k p q => zcp_out J16 (by omega)), sg_fr (J := J11) (fun k p q => w142 k), w11, zw_sg]
    unfold helB
    rw [← hbnd]
  have r19 : ∀ a, a ≠ e + 142 → J19 a = J16 a := fun a ha => by rw [e19]; exact zcp_r J16 ha
  have hA := h.trn (J' := J19) (a := msgI 1 (helB A)) (b := []) (c := []) (d := []) he (fun a ha => by
    have ha1 : a ≠ e + 142 := by omega
    rw [r19 a ha1, m2 a (by omega), r14 a (by omega), r12 a ha1 (by omega) (by omega)]) (fun k hk => by rw [r19 _ (by omega), m2 _ (by omega), r14 _ (by omega), k2 k hk, r11 _ (by omega)]) (by
    rw [List.append_nil, List.append_nil, List.append_nil]
    exact hT16.fr (by rw [r19 _ (by omega)]) (r19 _ (by omega)))
  refine xs_fstart he hA.1 (fun J20 q1 o1 r20 => ?_)
  have o20 : sg J20 (e + 142) 0 (61 + ((aY A 5).length : Int)).toNat = helB A := by
    rw [sg_row (r20 _ (by omega))]
    exact hsB
  have hbB := helB_len hy
  refine xs_fadd (K' := fun _ => 1) (N' := fun _ => n) (B' := fun _ => helB A) he q1 (show aF (x0A _) = (0, fun _ => 0, fun _ => 0, fun _ => [], fun _ => 0) from rfl) rfl (by decide) (fun f hf => absurd hf (Nat.not_lt_zero _)) ⟨rfl, rfl, o20.symm⟩ (by omega) (by rw [lnS_142 he]; omega) (by omega) (by show ((0 : Nat) : Int) + _ ≤ 204; omega) (fun J22 q2 f2 J24 e24 => ?_)
  have h24 := XS_z12 he q2 n
  rw [← e24] at h24
  refine hQ J24 h24 (hA.2.tr (o1.tr (XO.tr (XO.F f2 (fun a q => Or.inl (by omega))) ?_)))
  rw [e24]
  exact XO.zs (Or.inl (by omega))
