theorem msgI_len (kind : Int) (body : List Int) : (msgI kind body).length = 3 + body.length := by unfold msgI; simp; omega
theorem mMs.size {J : zM} {at_ kind : Int} {body : List Int} (h : mMs J at_ (msgI kind body)) : 256 * J 492 (at_ + 1) + J 492 (at_ + 2) = (body.length : Int) ∧ J 492 at_ = kind ∧ sg J 492 (at_ + 3) body.length = body ∧ body.length ≤ 157 ∧ (0 ≤ kind ∧ kind < 256) ∧ oct body := by
  have hl := msgI_len kind body
  have g0 := h.get 0 (by rw [hl]; omega)
  have g1 := h.get 1 (by rw [hl]; omega)
  have g2 := h.get 2 (by rw [hl]; omega)
  have h4 := h.2.2.2.1
  have h5 := h.2.2.2.2
  rw [hl] at h4 h5
  rw [show at_ + 1 = at_ + ((1 : Nat) : Int) from rfl, show at_ + 2 = at_ + ((2 : Nat) : Int) from rfl, g1, g2]
  have g0' : J 492 at_ = kind := by
    have h9 : J 492 (at_ + ((0 : Nat) : Int)) = kind := g0
    rw [Int.natCast_zero, Int.add_zero] at h9
    exact h9
  refine ⟨by omega, g0', ?_, by omega, ?_, ?_⟩
  · have h1 := h.1
    rw [hl, sg_app] at h1
    have h9 := List.append_inj h1 (s₂ := [kind, (body.length : Int) / 256, (body.length : Int) % 256]) (t₂ := body) (by rw [sg_len]; rfl)
    exact h9.2
  · exact h.2.1 kind (by unfold msgI; simp)
  · exact fun x hx => h.2.1 x (by unfold msgI; simp [hx])
theorem s_bodySize {at_ kind : Int} {body : List Int} {J : zM} {L : yM} {Q : Int → zM → yM → Prop} (h : mMs J at_ (msgI kind body)) (h0 : 0 ≤ at_) (h1 : at_ + 160 ≤ 2048) (hQ : Q (body.length : Int) J L) : w_X12_bodySize at_ J L Q := by
  unfold w_X12_bodySize
  rw [h.size.1]
  exact ⟨⟨by omega, by omega⟩, ⟨by omega, by omega⟩, hQ⟩
theorem partI_oct {b : List Int} {fr c : Nat} (h : oct b) : oct (partI b fr c) := fun x hx => h x (List.mem_of_mem_drop (List.mem_of_mem_take hx))
theorem partI_len {b : List Int} {fr c : Nat} (h : fr + c ≤ b.length) : (partI b fr c).length = c := by
  unfold partI
  rw [List.length_take, List.length_drop]
  omega
theorem s_fragmentM {s at_ ep num fr cnt kind : Int} {body : List Int} {kf mf : Int → List Int} {t : FS} {J : zM} {L : yM} {Q : Int → zM → yM → Prop} (hs : s01 s) (hep : ep3 ep) (hm : mMs J at_ (msgI kind body)) (h0 : 0 ≤ at_) (h1 : at_ + 160 ≤ 2048) (hnum : 0 ≤ num ∧ num < 256) (hfr : 0 ≤ fr) (hcnt : 0 ≤ cnt) (hfc : fr + cnt ≤ (body.length : Int)) (ht : MSn s J t) (hk : ep ≠ 0 → MKy s J kf mf) (hroom : (t.2.2.2.1.length : Int) + 8 + cnt + (if ep = 0 then 6 else 14) ≤ 500) (hK : mK (zi J))
    (hQ : ∀ J', MSn s J' (putS kf mf ep 22 (frI kind (body.length : Int) num fr cnt (partI body fr.toNat cnt.toNat)) t) → (∀ k, ¬ (4 * s ≤ k ∧ k < 4 * s + 4) → J' 514 k = J 514 k) → mF (fun a => cRec a ∨ a = 515) tSm J J' → Q (if 65535 < t.2.2.1 ep then -1 else t.2.2.1 ep) J' L) : w_X12_fragment s at_ ep num fr cnt J L Q := by
  obtain ⟨z1, z2, z3, z4, z5, z6⟩ := hm.size
  unfold w_X12_fragment
  refine s_bodySize hm h0 h1 ?_
  intro J0 e0
  refine ⟨⟨h0, by omega⟩, ?_⟩
  have i0 : mIn J0 [] := by rw [e0]; exact ⟨by rw [zs_s]; rfl, rfl, Nat.zero_le _⟩
  have f0 : mF c515 t33 J J0 := by rw [e0]; exact mF_zs1 (T := t33) rfl
  have own0 : J0 492 = J 492 := f0.1 492 (by decide) (by decide)
  rw [own0, z2, zshr_n ⟨by omega, by omega⟩ (by decide), zshr_n ⟨by omega, by omega⟩ (by decide), zshr_n ⟨by omega, by omega⟩ (by decide), show (2 : Int) ^ (8 : Int).toNat = 256 from rfl]
  refine s_inner i0 (by decide) (fun J1 i1 f1 => ?_)
  refine s_inner i1 (by simp) (fun J2 i2 f2 => ?_)
  refine s_inner i2 (by simp) (fun J3 i3 f3 => ?_)
  refine s_inner i3 (by simp) (fun J4 i4 f4 => ?_)
  refine s_inner i4 (by simp) (fun J5 i5 f5 => ?_)
  refine s_inner i5 (by simp) (fun J6 i6 f6 => ?_)
  refine s_inner i6 (by simp) (fun J7 i7 f7 => ?_)
  refine s_inner i7 (by simp) (fun J8 i8 f8 => ?_)
  have f08 : mF c515 t33 J J8 := f0.tr (((((((f1.tr f2).tr f3).tr f4).tr f5).tr f6).tr f7).tr f8)
  obtain ⟨hd, hhd⟩ : ∃ hd, hd = [kind, (body.length : Int) / 256, (body.length : Int) % 256, num, fr / 256, fr % 256, cnt / 256, cnt % 256] := ⟨_, rfl⟩
  have i8' : mIn J8 hd := by
    have : ([] ++ [kind % 256] ++ [(body.length : Int) / 256 % 256] ++ [(body.length : Int) % 256] ++ [num % 256] ++ [fr / 256 % 256] ++ [fr % 256] ++ [cnt / 256 % 256] ++ [cnt % 256] : List Int) = hd := by
      rw [hhd, show kind % 256 = kind by omega, show num % 256 = num by omega, show (body.length : Int) / 256 % 256 = (body.length : Int) / 256 by omega, show fr / 256 % 256 = fr / 256 by omega, show cnt / 256 % 256 = cnt / 256 by omega]
      rfl
    rw [← this]
    exact i8
  have hdl : hd.length = 8 := by rw [hhd]; rfl
  have hdo : oct hd := by
    rw [hhd]
    intro x hx
    simp only [List.mem_cons, List.not_mem_nil, or_false] at hx
    rcases hx with rfl | rfl | rfl | rfl | rfl | rfl | rfl | rfl <;> omega
  refine zl_z.by (fun m x J' L' => (m : Int) = cnt - x ∧ 0 ≤ x ∧ L' = L ∧ mIn J' (hd ++ sg J 492 (at_ + 3 + fr) x.toNat) ∧ mF c515 t33 J J') ?_ cnt.toNat 0 J8 L ⟨by omega, by omega, rfl, by simpa [sg] using i8', f08⟩
  rintro m x J9 L9 K ⟨hmm, hx, rfl, i9, f9⟩ hKK
  refine ⟨⟨by omega, by omega⟩, ⟨by omega, by omega⟩, ?_⟩
  by_cases c : x < cnt
  · rw [if_pos c]
    refine ⟨⟨by omega, by omega⟩, ?_⟩
    refine s_inner i9 (by rw [List.length_append, hdl, sg_len]; omega) (fun J10 i10 f10 => ?_)
    refine hKK (m - 1) (x + 1) J10 L9 (by omega) ⟨by omega, by omega, rfl, ?_, f9.tr f10⟩
    have own9 : J9 492 = J 492 := f9.1 492 (by decide) (by decide)
    have ob : oct (sg J 492 (at_ + 3) body.length) := by rw [z3]; exact z6
    have hb := (oct_sg.mp ob) (at_ + 3 + fr + x) (by omega) (by omega)
    rw [own9, show J 492 (at_ + 3 + fr + x) % 256 = J 492 (at_ + 3 + fr + x) by omega, List.append_assoc] at i10
    rw [show (x + 1).toNat = x.toNat + 1 by omega, sg_succ, show (x.toNat : Int) = x by omega]
    exact i10
  · rw [if_neg c]
    have hxc : x = cnt := by omega
    subst hxc
    have ep_ : sg J 492 (at_ + 3 + fr) x.toNat = partI body fr.toNat x.toNat := by
      have := sg_part z3 fr.toNat x.toNat (by omega)
      rw [show ((fr.toNat : Nat) : Int) = fr by omega] at this
      exact this
    rw [ep_] at i9
    have hcon : hd ++ partI body fr.toNat x.toNat = frI kind (body.length : Int) num fr x (partI body fr.toNat x.toNat) := by rw [hhd]; rfl
    rw [hcon] at i9
    have hcl : (frI kind (body.length : Int) num fr x (partI body fr.toNat x.toNat)).length = 8 + x.toNat := by rw [← hcon, List.length_append, hdl, partI_len (by omega)]
    have ht9 : MSn s J9 t := ht.fr (fun a ha => f9.1 a (by unfold c515; omega) (by omega)) (f9.2 30 (by decide))
    have hk9 : ep ≠ 0 → MKy s J9 kf mf := fun q ep' h' => by
      have h9 := hk q ep' h'
      rw [sg_row (f9.1 492 (by decide) (by decide)), sg_row (f9.1 492 (by decide) (by decide)), sg_row (f9.1 492 (by decide) (by decide))]
      exact h9
    have hrm : t.2.2.2.1.length + (frI kind (body.length : Int) num fr x (partI body fr.toNat x.toNat)).length + (if ep = 0 then 6 else 14) ≤ 500 := by
      rw [hcl]
      by_cases q : ep = 0
      · rw [if_pos q] at hroom ⊢; omega
      · rw [if_neg q] at hroom ⊢; omega
    refine s_recT (kf := kf) (mf := mf) (type := 22) hs hep (by decide) ht9 hk9 i9 (by rw [← hcon]; exact oct_app.mpr ⟨hdo, partI_oct z6⟩) (by rw [hcl]; omega) hrm (mK_fr hK (f9.1 495 (by decide) (by decide)) (f9.1 496 (by decide) (by decide))) (fun J10 g10 n10 f10 => hQ J10 g10 (fun k hk => by rw [n10 k hk, f9.1 514 (by decide) (by decide)]) ?_)
    exact mF.tr (S := fun a => cRec a ∨ a = 515) (T := tSm) (f9.mono (fun a q => Or.inr q) (fun k q => by unfold t33 at q; unfold tSm; omega)) (f10.mono (fun a q => Or.inl q) (fun k q => by unfold tRec at q; unfold tSm; omega))
