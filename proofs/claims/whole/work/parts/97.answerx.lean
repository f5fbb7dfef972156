/-- a MESSAGE is put into FLIGHT and transcript; the side isn't live yet -/
theorem xs_addTo {e : Nat} {s kind num : Int} {b T : List Int} {many : Nat} {K N K' N' : Nat → Int} {B B' : Nat → List Int} {A : SA} {J : zM} {L : yM} {Q : zM → yM → Prop} (he : iSide e) (h : XS e s J L A) (hn : ¬ live (aZ A 0)) (hT : xTr e J T) (hTl : T.length + 3 + b.length ≤ 293) (hb : sg J (e + 142) 0 b.length = b) (hbl : 0 < b.length ∧ b.length ≤ 152) (hF : aF A = (many, K, N, B, fun _ => 0)) (hlg : (aT A).2.2.2.2 = []) (hm : many < 3) (hK : ∀ f, f < many → K' f = K f ∧ N' f = N f ∧ B' f = B f) (hk : K' many = kind ∧ N' many = num ∧ B' many = b) (hfs : fs B many + b.length ≤ 204)
    (hQ : ∀ J', XS e s J' L (uf (many + 1, K', N', B', fun _ => 0) A) → XO e J L J' L → xTr e J' (T ++ msgI kind b) → (∀ x, ¬ (e + 8 ≤ x ∧ x ≤ e + 13) → x ≠ e + 144 → x ≠ e + 162 → J' x = J x) → Q J' L) : w_X8_addToFlight e kind num (b.length : Int) J L Q := by
  have he2 : 139 ≤ e := by unfold iSide at he; omega
  unfold w_X8_addToFlight
  refine xs_fadd he h hF hlg hm hK ⟨hk.1, hk.2.1, by rw [hk.2.2, Int.toNat_natCast, hb]⟩ (by omega) (by rw [lnS_142 he]; omega) (by omega) (by omega) (fun J1 g1 f1 => ?_)
  have r1 : ∀ x, ¬ (e + 8 ≤ x ∧ x ≤ e + 13) → J1 x = J x := fun x hx => f1 x hx
  have hT1 : xTr e J1 T := hT.fr (by rw [r1 _ (by omega)]) (r1 _ (by omega))
  refine s_xaddMessage hT1 (by decide) (by omega) (by rw [lnS_142 he]; omega) (by omega) (by omega) (fun J2 k1 k2 k3 => ?_)
  rw [Int.toNat_natCast, sg_row (r1 (e + 142) (by omega)), hb] at k1
  have g2 := g1.trn0 (J' := J2) he hn (fun x hx => k3 x (by omega)) (fun k hk => by rw [k2, zs_n _ (Or.inr hk)]) k1
  exact hQ J2 g2.1 (XO.tr (XO.F f1 (fun a q => Or.inl (by omega))) g2.2) k1 (fun x p q t => by rw [k3 x (by omega), r1 x p])
theorem anS_b {bd : Int} {o : Nat} {A : SA} (ai : AI bd 1 A) : 0 ≤ anS o A ∧ anS o A < 2147483647 := by
  unfold anS
  split
  · have := pw_lt 7 (numI (chI (aY A 2) 1 (aZ A 11 + 1))); omega
  · exact ai.b15
theorem anA_len (o : Nat) (A : SA) : (anA o A).length = 20 := by
  unfold anA anR chI
  rw [List.length_append, List.length_take, mcI_len, nb_len]
  rfl
theorem anR_len (A : SA) : (anR A).length = 16 := by
  unfold anR chI
  rw [List.length_take, mcI_len]
  rfl
theorem anG_len {bd : Int} {A : SA} (ai : AI bd 1 A) : (anG A).length = 2 + (aY A 3).length ∧ (anG A).length ≤ 152 := by
  have := ai.y.2.2.2.1.1
  unfold anG
  rw [List.length_append]
  exact ⟨rfl, by show 2 + (aY A 3).length ≤ 152; omega⟩
/-- the ANSWER, SETTINGS and FINISHED of the server are composed -/
def cA2 (e : Nat) (x9 : Int) (J : zM) (L : yM) (Q : zM → yM → Prop) : Prop :=
  w_X2_startAnew e J L (fun J13 L14 => ((0 : Int) ≤ 0 ∧ (0 : Int) ≤ 0 ∧ (0 : Int) ≤ 16 ∧ (0 + 16 : Int) ≤ 16 ∧ (0 + 16 : Int) ≤ 152) ∧ ∀ J16 : zM, J16 = zcp J13 (e + 6) 0 (e + 142) 0 16 → w_X11_putWord (J16 (e + 1) 12) (e + 142) 16 J16 L14 (fun J17 L18 => w_X8_addToFlight e 2 (J17 3 11) 20 J17 L18 (fun J19 L20 => w_X5_enterHandshake e (e + 2) x9 J19 L20 (fun J21 L22 => ∀ J23 : zM, J23 = zs J21 (e + 142) 0 (zush (J21 (e + 1) 7) 8) → ∀ J24 : zM, J24 = zs J23 (e + 142) 1 (zand (J23 (e + 1) 7) 255) → ((0 : Int) ≤ 0 ∧ (0 : Int) ≤ 2 ∧ (0 : Int) ≤ (J24 (e + 1) 4) ∧ (0 + (J24 (e + 1) 4) : Int) ≤ 150 ∧ (2 + (J24 (e + 1) 4) : Int) ≤ 152) ∧ ∀ J26 : zM, J26 = zcp J24 (e + 5) 0 (e + 142) 2 (J24 (e + 1) 4) → w_X8_addToFlight e 8 ((J26 3 11) + 1) (2 + (J26 (e + 1) 4)) J26 L22 (fun J27 L28 => w_X5_finishedInto e 1 (e + 142) J27 L28 (fun J29 L30 => w_X8_addToFlight e 20 ((J29 3 11) + 2) 32 J29 L30 (fun J31 L32 => w_X5_enterData e J31 L32 (fun J33 L34 => ∀ J35 : zM, J35 = zs J33 e 14 ((J33 3 11) + 1) → ∀ J36 : zM, J36 = zs J35 e 12 1 → Q J36 L34))))))))
theorem xs_compose2 {e : Nat} {bd its : Int} {o : Nat} {b : List Int} {A A1 : SA} {J : zM} {L : yM} {Q : zM → yM → Prop} (he : iSide e) (hA1 : A1 = uz 11 (anC o A) (uz 15 (anS o A) (uz 16 (anO o A) (uy 4 (anR A) A)))) (h : XS e 1 J L A1) (ai : AI bd 1 A) (h0 : aZ A 0 = 0) (hb : XH J its b) (hits : 0 ≤ its ∧ its ≤ 1) (hT : xTr e J (msgI 1 b))
    (hQ : ∀ J', XS e 1 J' L (uz 0 1 (uz 2 (its + 1) (uT (msgI 1 b) (msgI 2 (anA o A)) (msgI 8 (anG A)) (msgI 20 (anF o b A)) (threeA (mainI (anH o A)) (anT3 o b A) (uf (anFl its (anA o A) (anG A) (anF o b A)) (twoA (anH o A) (anT1 o b A) (x0A A1))))))) → XO e J L J' L → Q J' L) :
    cA2 e (anB o A) J L Q := by
  have he2 : 139 ≤ e := by unfold iSide at he; omega
  have nl : ∀ z, z = aZ A 0 → ¬ live z := fun z hz => by unfold live; omega
  have b18 := ai.b18
  have y3 := ai.y.2.2.2.1.1
  have hbl := hb.2.2.2.2.2.2
  have z0 : aZ A1 0 = aZ A 0 := by rw [hA1]; rfl
  have aS := anS_b (o := o) ai
  have lA := anA_len o A
  have lG := anG_len ai
  have lF : (anF o b A).length = 32 := mcI_len _ _
  have lm : (msgI 1 b).length = 3 + b.length := msgI_len _ _
  unfold cA2
  refine xs_fstart he h (fun J13 g13 o13 r13 => ⟨by decide, fun J16 e16 => ?_⟩)
  have hT13 : xTr e J13 (msgI 1 b) := hT.fr (by rw [r13 _ (by omega)]) (r13 _ (by omega))
  have w16 : J16 = zw J13 (e + 142) 0 (anR A) := by
    rw [e16, zcp_zw _ _ _ _ _ _ (by decide)]
    have : sg J13 (e + 6) 0 (16 : Int).toNat = anR A := by have := g13.2.2.1.2.2.2.2.1; rw [hA1] at this; exact this
    rw [this]
  have v12 : J16 (e + 1) 12 = anS o A := by rw [w16, zw_r _ (by omega)]; have := g13.2.1.2.2.2.2.2.2.1; rw [hA1] at this; exact this
  rw [v12]
  refine s_putWord (by omega) (by decide) (by rw [lnS_142 he]; decide) ?_
  rw [w16, zw_app _ _ _ _ _ _ (by rw [anR_len]; rfl)]
  obtain ⟨J17, hJ17⟩ : ∃ J17, J17 = zw J13 (e + 142) 0 (anA o A) := ⟨_, rfl⟩
  have hJ17' : zw J13 (e + 142) 0 (anR A ++ nb 4 (anS o A)) = J17 := by rw [hJ17]; rfl
  rw [hJ17']
  have r17 : ∀ x, x ≠ e + 142 → J17 x = J13 x := fun x hx => by rw [hJ17]; exact zw_r _ hx
  have g17 := g13.scr (J' := J17) he (by rw [hJ17]; exact zF.zw (by omega))
  have b17 : XH J17 its b := hb.fr (by rw [r17 3 (by omega), r13 3 (by omega)]) (by rw [r17 4 (by omega), r13 4 (by omega)])
  have hT17 : xTr e J17 (msgI 1 b) := hT13.fr (by rw [r17 _ (by omega)]) (r17 _ (by omega))
  have e20 : (20 : Int) = ((anA o A).length : Int) := by rw [lA]; rfl
  rw [b17.1, e20]
  refine xs_addTo (K' := fun f => if f = 0 then 2 else if f = 1 then 8 else 20) (N' := fun f => its + (f : Int)) (B' := fun f => if f = 0 then anA o A else if f = 1 then anG A else anF o b A) he g17.1 (nl _ z0) hT17 (by rw [lm, lA]; omega) (by rw [hJ17]; exact zw_sg _ _ _ _) (by omega) rfl rfl (by decide) (fun f hf => absurd hf (Nat.not_lt_zero _)) ⟨rfl, by show its + ((0 : Nat) : Int) = its; omega, rfl⟩ (by show 0 + _ ≤ 204; omega) (fun J19 g19 o19 t19 r19 => ?_)
  have lk : ln0 (e + 2) = 16 := lnS_2 he
  have hB : 0 ≤ anB o A ∧ anB o A < 2147483648 := by
    unfold anB
    split
    · have := pw_lt o (numI (chI (aY A 2) 1 (aZ A 11 + 1))); omega
    · decide
  refine s_enterHandshake he (by omega) (by rw [lk]; decide) hB g19.2.2.2.2.2.2.2.2.1.2.2.1 t19 (fun J21 v1 v2 v3 => ?_)
  have key : sg J19 (e + 2) 0 (ln0 (e + 2)) = aY A 0 := by rw [lk]; have := g19.2.2.1.1; rw [hA1] at this; exact this
  rw [key] at v1
  have g21 := g19.two he v1 v2 v3
  have r21 : ∀ x, ¬ cTwo e x → J21 x = J19 x := fun x hx => v3 x hx
  have t21 : xTr e J21 (anT1 o b A) := t19.fr (by rw [v2, zs_n _ (Or.inr (by decide))]) (r21 _ (by unfold cTwo cS; omega))
  have v7 : J21 (e + 1) 7 = aZ A 18 := by have := g21.1.2.1.2.2.2.1; rw [hA1] at this; exact this
  intro J23 e23 J24 e24
  have v7' : J23 (e + 1) 7 = aZ A 18 := by rw [e23, zs_r _ (by omega)]; exact v7
  rw [v7, zush_n (by omega) (by decide)] at e23
  rw [v7', zand255] at e24
  have w24 : J24 = zw J21 (e + 142) 0 [aZ A 18 / 256, aZ A 18 % 256] := by
    rw [e24, e23, zs_zw J21, zs_zw (zw J21 (e + 142) 0 _), zw_app _ _ _ _ _ _ (show (1 : Int) = 0 + (([aZ A 18 / 2 ^ (8 : Int).toNat].length : Nat) : Int) from rfl)]
    rfl
  have v4 : J24 (e + 1) 4 = ((aY A 3).length : Int) := by rw [w24, zw_r _ (by omega)]; have := g21.1.2.1.1; rw [hA1] at this; exact this
  rw [v4]
  refine ⟨⟨by decide, by decide, by omega, by omega, by omega⟩, fun J26 e26 => ?_⟩
  have w26 : J26 = zw J21 (e + 142) 0 (anG A) := by
    rw [e26, zcp_zw _ _ _ _ _ _ (by omega), Int.toNat_natCast]
    have : sg J24 (e + 5) 0 (aY A 3).length = aY A 3 := by rw [w24, sg_row (zw_r _ (by omega))]; have := g21.1.2.2.1.2.2.2.1; rw [hA1] at this; exact this
    rw [this, w24, zw_app J21 (e + 142) 0 2 [aZ A 18 / 256, aZ A 18 % 256] (aY A 3) rfl]
    rfl
  have r26 : ∀ x, x ≠ e + 142 → J26 x = J21 x := fun x hx => by rw [w26]; exact zw_r _ hx
  have g26 := g21.1.scr (J' := J26) he (by rw [w26]; exact zF.zw (by omega))
  have t26 : xTr e J26 (anT1 o b A) := t21.fr (by rw [r26 _ (by omega)]) (r26 _ (by omega))
  have r3 : ∀ x, x = 3 ∨ x = 4 → J26 x = J17 x := fun x hx => by rw [r26 x (by omega), r21 x (by unfold cTwo cS; omega), r19 x (by omega) (by omega) (by omega)]
  have b26 : XH J26 its b := b17.fr (r3 3 (Or.inl rfl)) (r3 4 (Or.inr rfl))
  have v4' : J26 (e + 1) 4 = ((aY A 3).length : Int) := by rw [r26 _ (by omega)]; have := g21.1.2.1.1; rw [hA1] at this; exact this
  have eG : 2 + ((aY A 3).length : Int) = ((anG A).length : Int) := by rw [lG.1]; omega
  rw [b26.1, v4', eG]
  have lT1 : (anT1 o b A).length = 26 + b.length := by unfold anT1; rw [List.length_append, lm, msgI_len, lA]; omega
  refine xs_addTo (K' := fun f => if f = 0 then 2 else if f = 1 then 8 else 20) (N' := fun f => its + (f : Int)) (B' := fun f => if f = 0 then anA o A else if f = 1 then anG A else anF o b A) he g26.1 (nl _ z0) t26 (by rw [lT1]; omega) (by rw [w26]; exact zw_sg _ _ _ _) (by omega) (show aF (twoA _ _ (uf _ _)) = (0 + 1, _, _, _, fun _ => 0) from rfl) rfl (by decide) (fun f hf => ⟨rfl, rfl, rfl⟩) ⟨rfl, by show its + ((1 : Nat) : Int) = its + 1; omega, rfl⟩ (by show 0 + (anA o A).length + _ ≤ 204; omega) (fun J27 g27 o27 t27 r27 => ?_)
  have t27 : xTr e J27 (anT2 o b A) := t27
  refine s_finishedInto he (by decide) (by omega) (by omega) (by rw [lnS_142 he]; decide) t27 (fun J29 f1 f2 f3 => ?_)
  have sec1 : sg J27 (e + 146 + (1 : Int).toNat) 0 32 = exD (anH o A) 1000016 (hsI (anT1 o b A)) := g27.2.2.2.2.2.2.2.2.1.2.2.2.1 1 (by decide)
  rw [sec1] at f1
  have f1 : sg J29 (e + 142) 0 32 = anF o b A := f1
  have g29 := g27.scr (J' := J29) he (fun a ha => f3 a (fun u => by unfold cS at u; omega))
  have t29 : xTr e J29 (anT2 o b A) := t27.fr (by rw [f3 _ (by unfold cS; omega)]) (f3 _ (by unfold cS; omega))
  have b29 : XH J29 its b := b26.fr (by rw [f3 3 (by unfold cS; omega), r27 3 (by omega) (by omega) (by omega)]) (by rw [f3 4 (by unfold cS; omega), r27 4 (by omega) (by omega) (by omega)])
  have e32 : (32 : Int) = ((anF o b A).length : Int) := by rw [lF]; rfl
  rw [b29.1, e32]
  have lT2 : (anT2 o b A).length ≤ 258 := by
    unfold anT2
    rw [List.length_append, lT1, msgI_len]
    omega
  refine xs_addTo (K' := fun f => if f = 0 then 2 else if f = 1 then 8 else 20) (N' := fun f => its + (f : Int)) (B' := fun f => if f = 0 then anA o A else if f = 1 then anG A else anF o b A) he g29.1 (nl _ z0) t29 (by omega) (by rw [lF]; exact f1) (by omega) (show aF (uf _ _) = (0 + 1 + 1, _, _, _, fun _ => 0) from rfl) rfl (by decide) (fun f hf => ⟨rfl, rfl, rfl⟩) ⟨rfl, by show its + ((2 : Nat) : Int) = its + 2; omega, rfl⟩ (by show 0 + (anA o A).length + (anG A).length + _ ≤ 204; omega) (fun J31 g31 o31 t31 r31 => ?_)
  have t31 : xTr e J31 (anT3 o b A) := t31
  refine s_enterData he t31 (fun J33 w1 w2 w3 => ?_)
  have main : sg J31 (e + 151) 0 32 = mainI (anH o A) := g31.2.2.2.2.2.2.2.2.1.2.2.2.1 5 (by decide)
  rw [main] at w1
  have g33 := g31.three he w1 w2 w3
  have r33 : ∀ x, ¬ cThree e x → J33 x = J31 x := fun x hx => w3 x hx
  have t33 : xTr e J33 (anT3 o b A) := t31.fr (by rw [w2, zs_n _ (Or.inr (by decide))]) (r33 _ (by unfold cThree cS; omega))
  have v11 : J33 3 11 = its := by rw [r33 3 (by unfold cThree cS; omega), r31 3 (by omega) (by omega) (by omega)]; exact b29.1
  rw [v11]
  intro J35 e35 J36 e36
  have g33n := g33.1.nl (a := msgI 1 b) (b := msgI 2 (anA o A)) (c := msgI 8 (anG A)) (d := msgI 20 (anF o b A)) (nl _ z0)
  have z2 : aZ A 2 = 0 := (ai.b22 h0).2.2.2.2.2.1
  have kall : ∀ n, 0 ≤ n → (aK A n).1 = -1 := fun n hn => by
    by_cases u : (aK A n).1 = -1
    · exact u
    · exact absurd h0 (ai.k n (by omega) u).1
  have xk : XKp e J33 (its + 1) (aK A) := by
    have kp := g33.1.2.2.2.2.1
    have ez : ∀ B : SA, B = threeA (mainI (anH o A)) (anT3 o b A) (uf (2 + 1, fun f => if f = 0 then 2 else if f = 1 then 8 else 20, fun f => its + (f : Int), fun f => if f = 0 then anA o A else if f = 1 then anG A else anF o b A, fun _ => 0) A1) → True := fun _ _ => trivial
    intro n w1 w2
    have q := kp (n % 5) (by show aZ A1 2 ≤ n % 5; rw [hA1]; show aZ A 2 ≤ n % 5; omega) (by show n % 5 < aZ A1 2 + 5; rw [hA1]; show n % 5 < aZ A 2 + 5; omega)
    rw [show n % 5 % 5 = n % 5 by omega] at q
    have q1 : J33 (e + 18) (n % 5) = (aK A (n % 5)).1 := by have := q.1; rw [hA1] at this; exact this
    rw [q1, kall (n % 5) (by omega), kall n (by omega)]
    exact ⟨rfl, fun u => absurd rfl u⟩
  have g35 := XS_z2 he g33n (its + 1) (by rw [hA1]; exact xk)
  rw [← e35] at g35
  have t35 : xTr e J35 (msgI 1 b ++ msgI 2 (anA o A) ++ msgI 8 (anG A) ++ msgI 20 (anF o b A)) := t33.fr (by rw [e35, zs_r _ (by omega)]) (by rw [e35, zs_r _ (by omega)])
  have g36 := XS_z0 he g35 1 (fun _ => t35)
  rw [← e36] at g36
  refine hQ J36 (XS.cg g36 (fun _ _ => rfl) (fun _ _ => rfl) rfl) (o13.tr (g17.2.tr (o19.tr (g21.2.tr (g26.2.tr (o27.tr (g29.2.tr (o31.tr (g33.2.tr ?_)))))))))
  rw [e36, e35]
  exact (XO.zs (Or.inl (by omega))).tr (XO.zs (Or.inl (by omega)))
