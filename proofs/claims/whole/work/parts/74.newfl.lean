/-! a FLIGHT begins -/
def logC (t : FS) : FS := (t.1, t.2.1, t.2.2.1, t.2.2.2.1, [])
def FL0 : FLT := (0, fun _ => 0, fun _ => 0, fun _ => [], fun _ => 0)
def newA (F : FLT) (A : SA) : SA := uz 10 1 (uz 9 0 (uz 7 4 (uz 14 0 (ul [] (uf F (ut (logC (aT A)) A))))))
def clrA (A : SA) : SA := uz 10 0 (uz 9 0 (uz 7 4 (uz 14 0 (ul [] (uf FL0 (ut (logC (aT A)) A))))))
def x0A (A : SA) : SA := uz 10 0 (uz 9 0 (uz 8 0 (uz 7 0 (uf FL0 (ut (logC (aT A)) A)))))
theorem fly_8 (s v : Int) (A : SA) : flyA s (uz 8 v A) = flyA s A := by
  refine Prod.ext (funext fun j => ?_) rfl
  show (if j = 8 then aZ A 17 else if j = 8 then v else A.1 j) = if j = 8 then aZ A 17 else A.1 j
  split <;> rfl
theorem XL_nil {e : Nat} {J : zM} {B : Nat → List Int} (h : J (e + 8) 9 = 0) : XL e J B [] := ⟨h, fun i q hq => by simp at hq⟩
theorem XLi_nil {e : Nat} {J : zM} (h : J (e + 33) 2 = 0) : XLi e J [] := ⟨h, by decide, fun i q hq => by simp at hq⟩
theorem MLi_nil {s : Int} {J : zM} (h : J 530 s = 0) : MLi s J [] := ⟨h, by decide, fun i q hq => by simp at hq⟩
theorem ML_nil {s : Int} {J : zM} (h : J 528 s = 0) : ML s J [] := ⟨h, fun i q hq => by simp at hq⟩
theorem fs_cg {B B' : Nat → List Int} {m : Nat} (h : ∀ f, f < m → B' f = B f) : ∀ k, k ≤ m → fs B' k = fs B k := by
  intro k
  induction k with
  | zero => intro _; rfl
  | succ k ih => intro hk; show fs B' k + (B' k).length = fs B k + (B k).length; rw [ih (by omega), h k (by omega)]
theorem xs_fstart {e : Nat} {s : Int} {A : SA} {J : zM} {L : yM} {Q : zM → yM → Prop} (he : iSide e) (h : XS e s J L A) (hQ : ∀ J', XS e s J' L (x0A A) → XO e J L J' L → (∀ a, a ≠ e + 8 → J' a = J a) → Q J' L) : w_X2_startAnew e J L Q := by
  obtain ⟨h0, h1, h2, h3, h4, h5, h6, h7, h8, h9, h10⟩ := h
  unfold w_X2_startAnew
  intro J1 e1 J2 e2 J3 e3 J4 e4 J5 e5 J6 e6
  have r : ∀ a, a ≠ e + 8 → J6 a = J a := fun a ha => by rw [e6, zs_r _ ha, e5, zs_r _ ha, e4, zs_r _ ha, e3, zs_r _ ha, e2, zs_r _ ha, e1, zs_r _ ha]
  have v8 : J6 (e + 8) 8 = 0 := by rw [e6, zs_n _ (Or.inr (by decide)), e5, zs_n _ (Or.inr (by decide)), e4, zs_n _ (Or.inr (by decide)), e3, zs_n _ (Or.inr (by decide)), e2, zs_n _ (Or.inr (by decide)), e1, zs_s]
  have v9 : J6 (e + 8) 9 = 0 := by rw [e6, zs_n _ (Or.inr (by decide)), e5, zs_n _ (Or.inr (by decide)), e4, zs_n _ (Or.inr (by decide)), e3, zs_n _ (Or.inr (by decide)), e2, zs_s]
  have v10 : J6 (e + 8) 10 = 0 := by rw [e6, zs_n _ (Or.inr (by decide)), e5, zs_n _ (Or.inr (by decide)), e4, zs_n _ (Or.inr (by decide)), e3, zs_s]
  have v11 : J6 (e + 8) 11 = 0 := by rw [e6, zs_n _ (Or.inr (by decide)), e5, zs_n _ (Or.inr (by decide)), e4, zs_s]
  have v12 : J6 (e + 8) 12 = 0 := by rw [e6, zs_n _ (Or.inr (by decide)), e5, zs_s]
  have v13 : J6 (e + 8) 13 = 0 := by rw [e6, zs_s]
  have hXF : XF e J6 0 (fun _ => 0) (fun _ => 0) (fun _ => []) (fun _ => 0) := by
    refine ⟨v8, by decide, fun f hf => absurd hf (Nat.not_lt_zero _), fun f hf => ?_, by decide, fun f hf => absurd hf (Nat.not_lt_zero _), fun i i0 i1 => ?_⟩
    · have : f = 0 := by omega
      subst this
      rw [r _ (by omega)]
      exact h3.2.2.2.2.2.2.2.1 0 (Nat.zero_le _)
    · have : i < 0 := i1
      omega
  obtain ⟨q1, q2, q3, q4, q5⟩ := h9.2.2
  have hn := rL_fr (r := wy e) (J := J) (J' := J6) (fun a ha => r a (fun u => by have := wy_out he (Classical.not_not.mp ha); have he' := he; unfold iSide at he'; omega)) q1.2
  refine hQ J6 ⟨h0.fr (r _ (by omega)), h1.fr (r _ (by omega)) rfl, h2.fr (fun a p q => r a (by omega)), ⟨v10, v11, v12, v13, hXF⟩, h4.fr (fun a p q => r a (by omega)), h5.fr (fun a p q => r a (by omega)), (h6.fr (r _ (by omega))).cg (fun k hk => ?_), h7.fr he (fun a p q => r a (by omega)), h8.fr (fun a p q => r a (by omega)) (r _ (by omega)), ⟨by rw [r _ (by omega)]; exact h9.1, by rw [r _ (by omega)]; exact h9.2.1, ⟨hn.1.trans q1.1, hn.2⟩, by rw [r _ (by omega)]; exact q2, fun ep hep => by rw [r _ (by omega)]; exact q3 ep hep, q4.fr (by rw [r _ (by omega)]) (r _ (by omega)), XL_nil v9⟩, h10.fr (fun a p q => r a (by omega)) (fun _ _ _ => rfl)⟩ ⟨fun a ha => r a (fun q => ha (Or.inl (by omega))), fun _ _ => rfl⟩ r
  show (if 21 + k = 10 then (0 : Int) else if 21 + k = 9 then 0 else if 21 + k = 8 then 0 else if 21 + k = 7 then 0 else A.1 (21 + k)) = A.1 (21 + k)
  rw [if_neg (by omega), if_neg (by omega), if_neg (by omega), if_neg (by omega)]
theorem s_faddM {e p : Nat} {kind num n : Int} {many : Nat} {K N K' N' : Nat → Int} {B B' : Nat → List Int} {J : zM} {L : yM} {Q : zM → yM → Prop} (h : XF e J many K N B (fun _ => 0)) (hm : many < 3) (hK : ∀ f, f < many → K' f = K f ∧ N' f = N f ∧ B' f = B f) (hk : K' many = kind ∧ N' many = num ∧ B' many = sg J p 0 n.toNat) (hn : 0 < n) (hnl : n ≤ (ln0 p : Int)) (hp : ¬ (e + 8 ≤ p ∧ p ≤ e + 13)) (hfs : (fs B many : Int) + n ≤ 204)
    (hQ : ∀ J', XF e J' (many + 1) K' N' B' (fun _ => 0) → (∀ k, k ≠ 8 → J' (e + 8) k = J (e + 8) k) → zF (fun a => e + 8 ≤ a ∧ a ≤ e + 13) J J' → Q J' L) : w_X2_addMessage e kind num p n J L Q := by
  obtain ⟨h1, h2, h3, h4, h5, h6, h7⟩ := h
  have hB : ∀ k, k ≤ many → fs B' k = fs B k := fs_cg (fun f hf => (hK f hf).2.2)
  have hst : J (e + 13) (many : Int) = (fs B many : Int) := h4 many (Nat.le_refl _)
  have hlt := ln0_lt p
  unfold w_X2_addMessage
  rw [h1]
  refine ⟨⟨by omega, by omega⟩, ?_⟩
  rw [if_pos (by omega)]
  refine ⟨⟨by omega, by omega⟩, ⟨by omega, by omega⟩, ?_⟩
  rw [if_neg (by omega), hst]
  refine ⟨⟨by omega, by omega⟩, ⟨by omega, by omega⟩, ?_⟩
  rw [if_neg (by omega)]
  refine ⟨⟨by omega, by omega⟩, fun x10 ex => ?_⟩
  subst ex
  refine ⟨⟨by omega, by omega, by omega, by omega, by omega⟩, fun J12 e12 => ?_⟩
  refine zl_z.by (fun m x J' L' => (m : Int) = (fs B many : Int) + n - x ∧ (fs B many : Int) ≤ x ∧ L' = L ∧ (∀ a, a ≠ e + 10 → J' a = J12 a) ∧ (∀ i, (fs B many : Int) ≤ i → i < x → J' (e + 10) i = 0) ∧ ∀ i, i < (fs B many : Int) → J' (e + 10) i = J (e + 10) i) ?_ n.toNat _ J12 L ⟨by omega, by omega, rfl, fun _ _ => rfl, fun i p q => by omega, fun i q => by rw [e12, zcp_r J (by omega)]⟩
  rintro m x J1 L1 KK ⟨hm1, hx, rfl, r1, z1, y1⟩ hKK
  refine ⟨⟨by omega, by omega⟩, ⟨by omega, by omega⟩, ?_⟩
  by_cases c : x < (fs B many : Int) + n
  · rw [if_pos c]
    refine ⟨⟨by omega, by omega⟩, fun J28 e28 => hKK (m - 1) (x + 1) J28 L1 (by omega) ⟨by omega, by omega, rfl, fun a ha => by rw [e28, zs_r _ ha]; exact r1 a ha, fun i p q => ?_, fun i q => by rw [e28, zs_n _ (Or.inr (by omega))]; exact y1 i q⟩⟩
    by_cases d : i = x
    · rw [e28, d, zs_s]
    · rw [e28, zs_n _ (Or.inr d)]; exact z1 i p (by omega)
  · rw [if_neg c]
    have hxe : x = (fs B many : Int) + n := by omega
    have r12 : ∀ a, a ≠ e + 9 → J12 a = J a := fun a ha => by rw [e12]; exact zcp_r J ha
    have m1 : J1 (e + 8) 8 = (many : Int) := by rw [r1 _ (by omega), r12 _ (by omega)]; exact h1
    rw [m1]
    refine ⟨⟨by omega, by omega⟩, fun J21 e21 => ?_⟩
    have m21 : J21 (e + 8) 8 = (many : Int) := by rw [e21, zs_r _ (by omega)]; exact m1
    rw [m21]
    refine ⟨⟨by omega, by omega⟩, fun J23 e23 J24 e24 => ?_⟩
    have m23 : J23 (e + 8) 8 = (many : Int) := by rw [e23, zs_r _ (by omega)]; exact m21
    rw [m23] at e24
    have m24 : J24 (e + 8) 8 = (many : Int) + 1 := by rw [e24, zs_s]
    rw [m24]
    refine ⟨⟨by omega, by omega⟩, fun J26 e26 => ?_⟩
    have r26 : ∀ a, ¬ (e + 8 ≤ a ∧ a ≤ e + 13) → J26 a = J a := fun a ha => by rw [e26, zs_r _ (by omega), e24, zs_r _ (by omega), e23, zs_r _ (by omega), e21, zs_r _ (by omega), r1 _ (by omega), r12 _ (by omega)]
    have v9 : J26 (e + 9) = J12 (e + 9) := by rw [e26, zs_r _ (by omega), e24, zs_r _ (by omega), e23, zs_r _ (by omega), e21, zs_r _ (by omega), r1 _ (by omega)]
    have v10 : J26 (e + 10) = J1 (e + 10) := by rw [e26, zs_r _ (by omega), e24, zs_r _ (by omega), e23, zs_r _ (by omega), e21, zs_r _ (by omega)]
    have v11 : J26 (e + 11) = (zs J (e + 11) (many : Int) kind) (e + 11) := by
      rw [e26, zs_r _ (by omega), e24, zs_r _ (by omega), e23, zs_r _ (by omega), e21, zs_row, zs_row, r1 _ (by omega), r12 _ (by omega)]
    have v12 : J26 (e + 12) = (zs J (e + 12) (many : Int) num) (e + 12) := by
      rw [e26, zs_r _ (by omega), e24, zs_r _ (by omega), e23, zs_row, zs_row, e21, zs_r _ (by omega), r1 _ (by omega), r12 _ (by omega)]
    have v13 : J26 (e + 13) = (zs J (e + 13) ((many : Int) + 1) ((fs B many : Int) + n)) (e + 13) := by
      rw [e26, zs_row, zs_row, e24, zs_r _ (by omega), e23, zs_r _ (by omega), e21, zs_r _ (by omega), r1 _ (by omega), r12 _ (by omega)]
    have v8 : ∀ k, k ≠ 8 → J26 (e + 8) k = J (e + 8) k := fun k hk => by rw [e26, zs_r _ (by omega), e24, zs_n _ (Or.inr hk), e23, zs_r _ (by omega), e21, zs_r _ (by omega), r1 _ (by omega), r12 _ (by omega)]
    have lb : (B' many).length = n.toNat := by rw [hk.2.2, sg_len]
    have fsn : fs B' (many + 1) = fs B many + n.toNat := by show fs B' many + (B' many).length = _; rw [hB many (Nat.le_refl _), lb]
    refine hQ J26 ⟨by rw [e26, zs_r _ (by omega), m24]; rfl, by omega, fun f hf => ?_, fun f hf => ?_, by rw [fsn]; omega, fun f hf => ?_, fun i i0 i1 => ?_⟩ v8 (fun a ha => r26 a ha)
    · rw [v11, v12]
      by_cases d : f = many
      · subst d
        rw [zs_s, zs_s]
        exact ⟨hk.1.symm, hk.2.1.symm⟩
      · rw [zs_n _ (Or.inr (by omega)), zs_n _ (Or.inr (by omega)), (hK f (by omega)).1, (hK f (by omega)).2.1]
        exact h3 f (by omega)
    · rw [v13]
      by_cases d : f = many + 1
      · subst d
        rw [fsn, show ((many + 1 : Nat) : Int) = (many : Int) + 1 by omega, zs_s]
        omega
      · rw [zs_n _ (Or.inr (by omega)), hB f (by omega)]
        exact h4 f (by omega)
    · rw [sg_row v9, hB f (by omega)]
      by_cases d : f = many
      · subst d
        rw [hk.2.2, sg_len, e12]
        exact ⟨sg_zcp (by omega), by omega⟩
      · have hff := fs_mono (B := B) (f := f + 1) (g := many) (by omega)
        have hf1 : fs B (f + 1) = fs B f + (B f).length := rfl
        rw [(hK f (by omega)).2.2]
        have q := h6 f (by omega)
        refine ⟨?_, q.2⟩
        rw [e12, sg_fr (fun k p q => zcp_out J (by omega))]
        exact q.1
    · rw [v10]
      by_cases d : i < (fs B many : Int)
      · rw [y1 i d]
        exact h7 i i0 d
      · exact z1 i (by omega) (by rw [fsn] at i1; omega)
/-- a MESSAGE is put into the FLIGHT of the class -/
theorem xs_fadd {e p : Nat} {s kind num n : Int} {many : Nat} {K N K' N' : Nat → Int} {B B' : Nat → List Int} {A : SA} {J : zM} {L : yM} {Q : zM → yM → Prop} (he : iSide e) (h : XS e s J L A) (hF : aF A = (many, K, N, B, fun _ => 0)) (hlg : (aT A).2.2.2.2 = []) (hm : many < 3) (hK : ∀ f, f < many → K' f = K f ∧ N' f = N f ∧ B' f = B f) (hk : K' many = kind ∧ N' many = num ∧ B' many = sg J p 0 n.toNat) (hn : 0 < n) (hnl : n ≤ (ln0 p : Int)) (hp : ¬ (e + 8 ≤ p ∧ p ≤ e + 13)) (hfs : (fs B many : Int) + n ≤ 204)
    (hQ : ∀ J', XS e s J' L (uf (many + 1, K', N', B', fun _ => 0) A) → zF (fun a => e + 8 ≤ a ∧ a ≤ e + 13) J J' → Q J' L) : w_X2_addMessage e kind num p n J L Q := by
  obtain ⟨h0, h1, h2, h3, h4, h5, h6, h7, h8, h9, h10⟩ := h
  have hX : XF e J many K N B (fun _ => 0) := by have := h3.2.2.2.2; rw [hF] at this; exact this
  refine s_faddM hX hm hK hk hn hnl hp hfs (fun J' g1 g2 f => ?_)
  have r : ∀ a, ¬ (e + 8 ≤ a ∧ a ≤ e + 13) → J' a = J a := fun a ha => f a ha
  obtain ⟨q1, q2, q3, q4, q5⟩ := h9.2.2
  have hnr := rL_fr (r := wy e) (J := J) (J' := J') (fun a ha => r a (fun u => by have := wy_out he (Classical.not_not.mp ha); have he' := he; unfold iSide at he'; omega)) q1.2
  refine hQ J' ⟨h0.fr (r _ (by omega)), h1.fr (r _ (by omega)) rfl, h2.fr (fun a p q => r a (by omega)), ⟨by rw [g2 10 (by decide)]; exact h3.1, by rw [g2 11 (by decide)]; exact h3.2.1, by rw [g2 12 (by decide)]; exact h3.2.2.1, by rw [g2 13 (by decide)]; exact h3.2.2.2.1, g1⟩, h4.fr (fun a p q => r a (by omega)), h5.fr (fun a p q => r a (by omega)), h6.fr (r _ (by omega)), h7.fr he (fun a p q => r a (by omega)), h8.fr (fun a p q => r a (by omega)) (r _ (by omega)), ⟨by rw [r _ (by omega)]; exact h9.1, by rw [r _ (by omega)]; exact h9.2.1, ⟨hnr.1.trans q1.1, hnr.2⟩, by rw [r _ (by omega)]; exact q2, fun ep hep => by rw [r _ (by omega)]; exact q3 ep hep, q4.fr (by rw [r _ (by omega)]) (r _ (by omega)), ?_⟩, h10.fr (fun a p q => r a (by omega)) (fun _ _ _ => rfl)⟩ f
  rw [hlg] at q5
  show XL e J' B' (aT A).2.2.2.2
  rw [hlg]
  refine XL_nil ?_
  rw [g2 9 (by decide), q5.1]
  rfl
theorem xs_start {e : Nat} {s : Int} {A : SA} {J : zM} {L : yM} {Q : zM → yM → Prop} (he : iSide e) (h : XS e s J L A) (hQ : ∀ J', XS e s J' L (uz 10 1 (uz 8 (aZ A 17) (uz 7 4 (uz 14 0 (ul [] A))))) → XO e J L J' L → Q J' L) : w_X8_startFlight e J L Q := by
  unfold w_X8_startFlight w_X0_startAnew
  intro J1 e1 J2 e2
  have h1 : XS e s J1 L (ul [] A) := by
    obtain ⟨h0, h1, h2, h3, h4, h5, h6, h7, h8, h9, h10⟩ := h
    have r : ∀ a, a ≠ e + 33 → J1 a = J a := fun a ha => by rw [e1]; exact zs_r J ha
    refine ⟨h0.fr (r _ (by omega)), h1.fr (r _ (by omega)) rfl, h2.fr (fun a p q => r a (by omega)), h3.fr (fun a p q => r a (by omega)) (fun k _ => by rw [r _ (by omega)]), h4.fr (fun a p q => r a (by omega)), ⟨XLi_nil (by rw [e1]; exact zs_s _ _ _ _), by rw [e1, zs_n _ (Or.inr (by decide))]; exact h5.2⟩, h6.fr (r _ (by omega)), h7.fr he (fun a p q => r a (by omega)), h8.fr (fun a p q => r a (by omega)) (r _ (by omega)), h9.fr (fun a p => r a (nwy (c := 33) he p (by omega))) (by rw [r _ (by omega)]), h10.fr (fun a p q => r a (by omega)) (fun _ _ _ => rfl)⟩
  have h2 := XS_z14 he h1 0
  rw [← e2] at h2
  unfold w_X2_sentFirst
  intro J3 e3 J4 e4 J5 e5
  have h3 := XS_z7 he h2 4
  rw [← e3] at h3
  rw [show J2 e 19 = aZ A 17 from h2.1.2.2.2.2.2.2.2.2] at e4
  have h4 := XS_z8 he h3 (aZ A 17)
  rw [← e4] at h4
  have h5 := XS_z10 he h4 1
  rw [← e5] at h5
  refine hQ J5 h5 ?_
  rw [e5, e4, e3, e2, e1]
  exact (XO.zs (Or.inl (by omega))).tr ((XO.zs (Or.inl (by omega))).tr ((XO.zs (Or.inl (by omega))).tr ((XO.zs (Or.inl (by omega))).tr (XO.zs (Or.inl (by omega))))))
