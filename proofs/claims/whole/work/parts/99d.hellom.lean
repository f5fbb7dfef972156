/-! a HELLO comes to the server of the model -/
theorem ms_wr0 {s : Int} {U : Int → Prop} {S : Nat → Prop} {T : Int → Prop} {J J' : zM} {L : yM} {A : SA} (h : MS s J L A) (hs : s01 s) (hn : ¬ live (aZ A 0)) (hF : (aF A).1 = 0) (f : mF (fun a => S a ∨ a = 492) T J J') (hS : ∀ a, S a → scr a ∧ a ≠ 513) (hT : ∀ k, T k → scT k ∧ k ≠ 30) (hU : ∀ k, ¬ U k → J' 492 k = J 492 k) (h1 : ∀ k, U k → (1024 * s + 32 ≤ k ∧ k < 1024 * s + 64) ∨ (1024 * s + 512 ≤ k ∧ k < 1024 * s + 1024)) : MS s J' L A ∧ MO s J L J' L := by
  have c := h.core.own (J' := J') (U := U) hs f hS hT hU (fun k q => by have := h1 k q; omega)
  have o : MO s J L J' L := MO.own (U := U) hs f (fun a q => (hS a q).1) hT hU (fun k q => by have := h1 k q; omega)
  have r : ∀ a, (517 ≤ a ∧ a ≤ 523) → J' a = J a := fun a ha => f.1 a (fun u => u.elim (fun v => by have := (hS a v).1; omega) (by omega)) (by omega)
  obtain ⟨a0, a1, a2, a3, a4, a5, a6, a7, a8, a9, a10, a11, a12⟩ := h
  obtain ⟨b1, b2, b3, ack, b4, b5, b6⟩ := a3
  refine ⟨c.full ⟨?_, ?_, ?_⟩ (fun _ lv => absurd lv hn) (fun lv => absurd lv hn) ⟨?_, ?_, ?_, ack, b4, b5, ?_⟩, o⟩
  · rw [r 523 (by omega)]; exact a1.2.1
  · rw [r 523 (by omega)]; exact a1.2.2.1
  · rw [r 523 (by omega)]; exact a1.2.2.2.1
  · rw [r 522 (by omega)]; exact b1
  · rw [r 522 (by omega)]; exact b2
  · rw [r 522 (by omega)]; exact b3
  · rw [hF]
    refine ⟨?_, Nat.zero_le 3, fun f hf => absurd hf (Nat.not_lt_zero _), fun f hf => absurd hf (Nat.not_lt_zero _)⟩
    rw [r 517 (by omega)]
    have := b6.1
    rw [hF] at this
    exact this
theorem sg_snoc_eq {J : zM} {a : Nat} {p q : Int} {n : Nat} : sg J a p (n + 1) = sg J a q (n + 1) ↔ sg J a p n = sg J a q n ∧ J a (p + (n : Int)) = J a (q + (n : Int)) := by
  rw [sg_succ, sg_succ]
  constructor
  · intro h
    have := List.append_inj h (by rw [sg_len, sg_len])
    exact ⟨this.1, by have := this.2; simpa using this⟩
  · rintro ⟨h1, h2⟩
    rw [h1, h2]
theorem cmpLoop {p q : Int} {Rest : Int → zM → yM → Prop} {J : zM} {L : yM} (hp : 0 ≤ p ∧ p + 8 ≤ 2048) (hq : 0 ≤ q ∧ q + 8 ≤ 2048) (op : oct (sg J 492 p 8)) (oq : oct (sg J 492 q 8)) (hQ : Rest (if sg J 492 p 8 = sg J 492 q 8 then 1 else 0) J L) :
    zl_zz (fun K19 x20 x21 J22 L23 => R32 x21 ∧ (if x21 < 8 then ((0 : Int) ≤ (p + x21) ∧ (p + x21) < 2048) ∧ ((0 : Int) ≤ (q + x21) ∧ (q + x21) < 2048) ∧ ∀ K49 : Int → zM → yM → Prop, (∀ (x46 : Int) (J47 : zM) (L48 : yM), (∀ x50 : Int, x50 = (zand x20 x46) → K19 x50 (x21 + 1) J47 L48) → K49 x46 J47 L48) → R32 (J22 492 (p + x21)) ∧ R32 (J22 492 (q + x21)) ∧ (if (J22 492 (p + x21)) = (J22 492 (q + x21)) then K49 1 J22 L23 else K49 0 J22 L23) else Rest x20 J22 L23)) 1 0 J L := by
  refine zl_zz.by (fun m w x J' L' => (m : Int) = 8 - x ∧ 0 ≤ x ∧ x ≤ 8 ∧ J' = J ∧ L' = L ∧ w = if sg J 492 p x.toNat = sg J 492 q x.toNat then 1 else 0) ?_ 8 1 0 J L ⟨by omega, by omega, by omega, rfl, rfl, rfl⟩
  rintro m w x J1 L1 K ⟨hm, hx, hx2, rfl, rfl, hw⟩ hK
  refine ⟨⟨by omega, by omega⟩, ?_⟩
  by_cases c : x < 8
  · rw [if_pos c]
    refine ⟨⟨by omega, by omega⟩, ⟨by omega, by omega⟩, fun K49 hK49 => ?_⟩
    have o1 := oct_sg.mp op (p + x) (by omega) (by omega)
    have o2 := oct_sg.mp oq (q + x) (by omega) (by omega)
    have step : ∀ v : Int, v = (if J1 492 (p + x) = J1 492 (q + x) then 1 else 0) → K49 v J1 L1 := fun v hv => hK49 v J1 L1 (fun x50 e50 => hK (m - 1) x50 (x + 1) J1 L1 (by omega) ⟨by omega, by omega, by omega, rfl, rfl, by
      have es := sg_snoc_eq (J := J1) (a := 492) (p := p) (q := q) (n := x.toNat)
      rw [show ((x.toNat : Nat) : Int) = x by omega] at es
      rw [e50, hw, hv, show (x + 1).toNat = x.toNat + 1 by omega]
      by_cases d1 : sg J1 492 p x.toNat = sg J1 492 q x.toNat
      · by_cases d2 : J1 492 (p + x) = J1 492 (q + x)
        · rw [if_pos d1, if_pos d2, if_pos (es.mpr ⟨d1, d2⟩)]; decide
        · rw [if_pos d1, if_neg d2, if_neg (fun u => d2 (es.mp u).2)]; decide
      · rw [if_neg d1, if_neg (fun u => d1 (es.mp u).1)]
        split <;> decide⟩)
    refine ⟨⟨by omega, by omega⟩, ⟨by omega, by omega⟩, ?_⟩
    by_cases d : J1 492 (p + x) = J1 492 (q + x)
    · rw [if_pos d]; exact step 1 (by rw [if_pos d])
    · rw [if_neg d]; exact step 0 (by rw [if_neg d])
  · rw [if_neg c]
    have : x = 8 := by omega
    subst this
    rw [hw]
    exact hQ
theorem s_bodySize2 {at_ kind : Int} {body : List Int} {J : zM} {L : yM} {Q : Int → zM → yM → Prop} (h : mMs J at_ (msgI kind body)) (h0 : 0 ≤ at_) (h1 : at_ + 3 + (body.length : Int) ≤ 2048) (hQ : Q (body.length : Int) J L) : w_X12_bodySize at_ J L Q := by
  unfold w_X12_bodySize
  rw [h.size.1]
  exact ⟨⟨by omega, by omega⟩, ⟨by omega, by omega⟩, hQ⟩
theorem s_fragmentM2 {s at_ ep num fr cnt kind : Int} {body : List Int} {kf mf : Int → List Int} {t : FS} {J : zM} {L : yM} {Q : Int → zM → yM → Prop} (hs : s01 s) (hep : ep3 ep) (hm : mMs J at_ (msgI kind body)) (h0 : 0 ≤ at_) (h1 : at_ + 3 + (body.length : Int) ≤ 2048) (hnum : 0 ≤ num ∧ num < 256) (hfr : 0 ≤ fr) (hcnt : 0 ≤ cnt) (hfc : fr + cnt ≤ (body.length : Int)) (ht : MSn s J t) (hk : ep ≠ 0 → MKy s J kf mf) (hroom : (t.2.2.2.1.length : Int) + 8 + cnt + (if ep = 0 then 6 else 14) ≤ 500) (hK : mK (zi J))
    (hQ : ∀ J', MSn s J' (putS kf mf ep 22 (frI kind (body.length : Int) num fr cnt (partI body fr.toNat cnt.toNat)) t) → (∀ k, ¬ (4 * s ≤ k ∧ k < 4 * s + 4) → J' 514 k = J 514 k) → mF (fun a => cRec a ∨ a = 515) tSm J J' → Q (if 65535 < t.2.2.1 ep then -1 else t.2.2.1 ep) J' L) : w_X12_fragment s at_ ep num fr cnt J L Q := by
  obtain ⟨z1, z2, z3, z4, z5, z6⟩ := hm.size
  unfold w_X12_fragment
  refine s_bodySize2 hm h0 h1 ?_
  intro J0 e0
  refine ⟨⟨h0, by omega⟩, ?_⟩
  have i0 : mIn J0 [] := by rw [e0]; exact ⟨by rw [zs_s]; rfl, rfl, Nat.zero_le _⟩
  have f0 : mF c515 t33 J J0 := by rw [e0]; exact mF_zs1 (T := t33) rfl
  have own0 : J0 492 = J 492 := f0.1 492 (by decide) (by decide)
  rw [own0, z2, zshr_n ⟨by omega, by omega⟩ (by decide), zshr_n ⟨by omega, by omega⟩ (by decide), zshr_n ⟨by omega, by omega⟩ (by decide), show (2 : Int) ^ (8 : Int).toNat = 256 from rfl]
  refine s_inner i0 (by decide) (fun J1 i1 f1 => ?_)
  refine s_inner i1 (by simp) (fun J2 i2 f2 => ?_)
  refine s_inner i2 (by simp) (fun J3 i3 f3 => ?_)
  refine s_inner i3 (by simp) (fun J4 i4 f4 => ?_)
  refine s_inner i4 (by simp) (fun J5 i5 f5 => ?_)
  refine s_inner i5 (by simp) (fun J6 i6 f6 => ?_)
  refine s_inner i6 (by simp) (fun J7 i7 f7 => ?_)
  refine s_inner i7 (by simp) (fun J8 i8 f8 => ?_)
  have f08 : mF c515 t33 J J8 := f0.tr (((((((f1.tr f2).tr f3).tr f4).tr f5).tr f6).tr f7).tr f8)
  obtain ⟨hd, hhd⟩ : ∃ hd, hd = [kind, (body.length : Int) / 256, (body.length : Int) % 256, num, fr / 256, fr % 256, cnt / 256, cnt % 256] := ⟨_, rfl⟩
  have i8' : mIn J8 hd := by
    have : ([] ++ [kind % 256] ++ [(body.length : Int) / 256 % 256] ++ [(body.length : Int) % 256] ++ [num % 256] ++ [fr / 256 % 256] ++ [fr % 256] ++ [cnt / 256 % 256] ++ [cnt % 256] : List Int) = hd := by
      rw [hhd, show kind % 256 = kind by omega, show num % 256 = num by omega, show (body.length : Int) / 256 % 256 = (body.length : Int) / 256 by omega, show fr / 256 % 256 = fr / 256 by omega, show cnt / 256 % 256 = cnt / 256 by omega]
      rfl
    rw [← this]
    exact i8
  have hdl : hd.length = 8 := by rw [hhd]; rfl
  have hdo : oct hd := by
    rw [hhd]
    intro x hx
    simp only [List.mem_cons, List.not_mem_nil, or_false] at hx
    rcases hx with rfl | rfl | rfl | rfl | rfl | rfl | rfl | rfl <;> omega
  refine zl_z.by (fun m x J' L' => (m : Int) = cnt - x ∧ 0 ≤ x ∧ L' = L ∧ mIn J' (hd ++ sg J 492 (at_ + 3 + fr) x.toNat) ∧ mF c515 t33 J J') ?_ cnt.toNat 0 J8 L ⟨by omega, by omega, rfl, by simpa [sg] using i8', f08⟩
  rintro m x J9 L9 K ⟨hmm, hx, rfl, i9, f9⟩ hKK
  refine ⟨⟨by omega, by omega⟩, ⟨by omega, by omega⟩, ?_⟩
  by_cases c : x < cnt
  · rw [if_pos c]
    refine ⟨⟨by omega, by omega⟩, ?_⟩
    refine s_inner i9 (by rw [List.length_append, hdl, sg_len]; omega) (fun J10 i10 f10 => ?_)
    refine hKK (m - 1) (x + 1) J10 L9 (by omega) ⟨by omega, by omega, rfl, ?_, f9.tr f10⟩
    have own9 : J9 492 = J 492 := f9.1 492 (by decide) (by decide)
    have ob : oct (sg J 492 (at_ + 3) body.length) := by rw [z3]; exact z6
    have hb := (oct_sg.mp ob) (at_ + 3 + fr + x) (by omega) (by omega)
    rw [own9, show J 492 (at_ + 3 + fr + x) % 256 = J 492 (at_ + 3 + fr + x) by omega, List.append_assoc] at i10
    rw [show (x + 1).toNat = x.toNat + 1 by omega, sg_succ, show (x.toNat : Int) = x by omega]
    exact i10
  · rw [if_neg c]
    have hxc : x = cnt := by omega
    subst hxc
    have ep_ : sg J 492 (at_ + 3 + fr) x.toNat = partI body fr.toNat x.toNat := by
      have := sg_part z3 fr.toNat x.toNat (by omega)
      rw [show ((fr.toNat : Nat) : Int) = fr by omega] at this
      exact this
    rw [ep_] at i9
    have hcon : hd ++ partI body fr.toNat x.toNat = frI kind (body.length : Int) num fr x (partI body fr.toNat x.toNat) := by rw [hhd]; rfl
    rw [hcon] at i9
    have hcl : (frI kind (body.length : Int) num fr x (partI body fr.toNat x.toNat)).length = 8 + x.toNat := by rw [← hcon, List.length_append, hdl, partI_len (by omega)]
    have ht9 : MSn s J9 t := ht.fr (fun a ha => f9.1 a (by unfold c515; omega) (by omega)) (f9.2 30 (by decide))
    have hk9 : ep ≠ 0 → MKy s J9 kf mf := fun q ep' h' => by
      have h9 := hk q ep' h'
      rw [sg_row (f9.1 492 (by decide) (by decide)), sg_row (f9.1 492 (by decide) (by decide)), sg_row (f9.1 492 (by decide) (by decide))]
      exact h9
    have hrm : t.2.2.2.1.length + (frI kind (body.length : Int) num fr x (partI body fr.toNat x.toNat)).length + (if ep = 0 then 6 else 14) ≤ 500 := by
      rw [hcl]
      by_cases q : ep = 0
      · rw [if_pos q] at hroom ⊢; omega
      · rw [if_neg q] at hroom ⊢; omega
    refine s_recT (kf := kf) (mf := mf) (type := 22) hs hep (by decide) ht9 hk9 i9 (by rw [← hcon]; exact oct_app.mpr ⟨hdo, partI_oct z6⟩) (by rw [hcl]; omega) hrm (mK_fr hK (f9.1 495 (by decide) (by decide)) (f9.1 496 (by decide) (by decide))) (fun J10 g10 n10 f10 => hQ J10 g10 (fun k hk => by rw [n10 k hk, f9.1 514 (by decide) (by decide)]) ?_)
    exact mF.tr (S := fun a => cRec a ∨ a = 515) (T := tSm) (f9.mono (fun a q => Or.inr q) (fun k q => by unfold t33 at q; unfold tSm; omega)) (f10.mono (fun a q => Or.inl q) (fun k q => by unfold tRec at q; unfold tSm; omega))
theorem ms_helloComes {bd its : Int} {b : List Int} {A : SA} {J : zM} {L : yM} {Q : zM → yM → Prop} (h : MS 1 J L A) (ai : AI bd 1 A) (h0 : aZ A 0 = 0) (hits : 0 ≤ its ∧ its ≤ 1) (hsb : sg J 550 8 b.length = b) (hbo : oct b) (hbl : b.length = 61 ∨ b.length = 77) (hnow : J 491 3 = aZ A 17) (hQ : ∀ J' L', MS 1 J' L' (helS its b A) → MO 1 J L J' L' → Q J' L') : w_X12_helloComes its (b.length : Int) J L Q := by
  have r22 := ai.b22 h0
  have hn : ¬ live (aZ A 0) := by unfold live; omega
  have hF0 : (aF A).1 = 0 := r22.2.2.2.2.2.2.2.2
  have b20 := ai.b20
  have lm : (msgI 1 b).length = 3 + b.length := msgI_len _ _
  have o16 := oct1 hbo 16
  unfold w_X12_helloComes
  intro x1 ex1
  have ex1 : x1 = 1536 := ex1
  subst ex1
  refine s_putMessage (by decide) (by omega) ?_
  obtain ⟨J2, hJ2⟩ : ∃ J2, J2 = zw J 492 1536 [1, (b.length : Int) / 256, (b.length : Int) % 256] := ⟨_, rfl⟩
  rw [← hJ2]
  refine zl_z.by (fun m x J' L' => (m : Int) = (b.length : Int) - x ∧ 0 ≤ x ∧ L' = L ∧ J' = zcp J2 550 8 492 1539 x) ?_ b.length 0 J2 L ⟨by omega, by omega, rfl, (zcp_0 J2 550 492 8 1539).symm⟩
  rintro m x J6 L6 KK ⟨hm, hx, rfl, e6⟩ hKK
  refine ⟨⟨by omega, by omega⟩, ⟨by omega, by omega⟩, ?_⟩
  by_cases c : x < (b.length : Int)
  · rw [if_pos c]
    refine ⟨⟨by omega, by omega⟩, ⟨by omega, by omega⟩, fun J87 e87 => hKK (m - 1) (x + 1) J87 L6 (by omega) ⟨by omega, by omega, rfl, ?_⟩⟩
    rw [e87, e6]
    exact zcp_succ2 hx (Or.inl (by decide))
  · rw [if_neg c]
    have hxe : x = (b.length : Int) := by omega
    subst hxe
    have w6 : J6 = zw J 492 1536 (msgI 1 b) := by
      rw [e6, zcp_zw _ _ _ _ _ _ (by omega), Int.toNat_natCast, hJ2, sg_row (zw_r J (by decide)), hsb]
      exact zw_app J 492 1536 1539 _ b rfl
    have f6 : mF (fun a => False ∨ a = 492) (fun _ => False) J J6 := by rw [w6]; exact mF_zw (Or.inr rfl) (by decide)
    have u6 : ∀ k, ¬ (1536 ≤ k ∧ k < 1616) → J6 492 k = J 492 k := fun k hk => by rw [w6]; exact zw_out J (by rw [lm]; omega)
    have g6 := ms_wr0 h (J' := J6) (U := fun k => 1536 ≤ k ∧ k < 1616) (by decide) hn hF0 f6 (fun a q => q.elim) (fun k q => q.elim) u6 (fun k q => by omega)
    have M6 : mMs J6 1536 (msgI 1 b) := by rw [w6]; exact mMs_zw (by decide) hbo (by omega)
    have sb6 : sg J6 492 1539 b.length = b := M6.size.2.2.1
    have pt : ∀ fr cn : Nat, fr + cn ≤ b.length → sg J6 492 (1539 + (fr : Int)) cn = partI b fr cn := fun fr cn hf => sg_part sb6 fr cn hf
    intro x11 e11
    have g16 : J6 492 (1536 + 19) = b.getD 16 0 := by
      have := sg_get (J := J6) (a := 492) (i := 1539) (c := b.length) (j := 16) (by omega)
      rw [sb6] at this
      exact this.symm
    rw [g16]
    refine ⟨by decide, ⟨by omega, by omega⟩, ⟨by omega, by omega⟩, ?_⟩
    have alert : ∀ (cd : Int) (J7 : zM), (cd = 10 ∨ cd = 40 ∨ cd = 51) → MS 1 J7 L6 A → MO 1 J L6 J7 L6 → helS its b A = alertA 1 cd A → w_X12_serverAlert cd J7 L6 Q := fun cd J7 hcd g7 o7 hS => by
      unfold w_X12_serverAlert
      exact ms_alert (by decide) g7 ai (by omega) (fun J' k1 k2 => hQ J' L6 (by rw [hS]; exact k1) (o7.tr k2))
    by_cases d : b.getD 16 0 = x11
    · rw [if_pos d]
      have dd : ¬ b.getD 16 0 ≠ (b.length : Int) - 61 := fun q => q (by omega)
      intro K18 hK18
      -- behind the COOKIE
      have go : ∀ J7 : zM, ¬ wantsCk b A → MS 1 J7 L6 A → MO 1 J L6 J7 L6 → J7 492 = J6 492 → J7 491 3 = aZ A 17 → K18 J7 L6 := fun J7 hw g7 o7 e7 n7 => hK18 J7 L6 (by
        have pn : sg J7 492 (1536 + 24 + x11) 8 = partI b (b.length - 40) 8 := by
          rw [sg_row e7, show (1536 : Int) + 24 + x11 = 1539 + ((b.length - 40 : Nat) : Int) by omega]
          exact pt _ _ (by omega)
        have nm : sg J7 492 (1024 + 16) 8 = aY A 1 := g7.2.2.1.2.1
        refine cmpLoop (p := 1536 + 24 + x11) (q := 1024 + 16) (by omega) (by decide) (by rw [pn]; exact partI_oct hbo) (by rw [nm]; exact ai.y.2.1.2) ?_
        rw [pn, nm]
        by_cases cn : partI b (b.length - 40) 8 = aY A 1
        · rw [if_pos cn]
          refine ⟨by decide, ?_⟩
          rw [if_neg (by decide)]
          have M7 : mMs J7 (1024 * 1 + 512) (msgI 1 b) := M6.fr2 (fun k _ _ => by rw [e7])
          have key : sg J7 492 (1024 * 1) 16 = aY A 0 := g7.2.2.1.1
          refine s_binderM (by decide) M7 (by rw [lm]; omega) g7.2.2.2.2.2.2.2.2.2.2.2.2 (by rw [key]; exact ai.y.1.2) (fun J8 v1 v2 v3 v4 => ?_)
          rw [key] at v1 v2
          have g8 := ms_wr0 g7 (J' := J8) (U := fun k => 1056 ≤ k ∧ k < 1088) (by decide) hn hF0 v3 (fun a q => by unfold cF cH at q; omega) (fun k q => by unfold t13 at q; omega) (fun k hk => v4 k (by omega)) (fun k q => by omega)
          have M8' : mMs J8 1536 (msgI 1 b) := M7.fr2 (fun k p q => v4 k (by omega))
          have sb8 : sg J8 492 1539 b.length = b := M8'.size.2.2.1
          have pb : sg J8 492 (1536 + 32 + x11) 32 = partI b (b.length - 32) 32 := by
            rw [show (1536 : Int) + 32 + x11 = 1539 + ((b.length - 32 : Nat) : Int) by omega]
            exact sg_part sb8 _ _ (by omega)
          refine s_isDigest (by omega) (by decide) (by omega) (by show oct (sg J8 492 (1536 + 32 + x11) 32); rw [pb]; exact partI_oct hbo) (by show oct (sg J8 500 0 32); rw [v1]; exact mcI_oct _ _) ?_
          have hres : (if sg J8 492 (1536 + 32 + x11) (32 : Int).toNat = sg J8 500 0 (32 : Int).toNat then (1 : Int) else 0) = if bindI (aY A 0) (msgI 1 b) = partI b (b.length - 32) 32 then 1 else 0 := by
            show (if sg J8 492 (1536 + 32 + x11) 32 = sg J8 500 0 32 then (1 : Int) else 0) = _
            rw [pb, v1]
            by_cases u : bindI (aY A 0) (msgI 1 b) = partI b (b.length - 32) 32
            · rw [if_pos u, if_pos u.symm]
            · rw [if_neg u, if_neg (fun q => u q.symm)]
          rw [hres]
          by_cases cb : bindI (aY A 0) (msgI 1 b) = partI b (b.length - 32) 32
          · rw [if_pos cb]
            refine ⟨by decide, ?_⟩
            rw [if_neg (by decide)]
            have p4 : sg J8 492 (1536 + 20 + x11) 4 = partI b (b.length - 44) 4 := by
              rw [show (1536 : Int) + 20 + x11 = 1539 + ((b.length - 44 : Nat) : Int) by omega]
              exact sg_part sb8 _ _ (by omega)
            have ho4 : oct (partI b (b.length - 44) 4) := partI_oct hbo
            refine s_numberAt (by omega) (by omega) (by rw [p4]; exact ho4) (fun r37 h37 => ?_)
            rw [p4] at h37
            have hlt : be (partI b (b.length - 44) 4) < 2 ^ 32 := by
              have := be_lt ho4
              rw [partI_len (by omega)] at this
              exact this
            refine ms_answers (bd := bd) (b := b) g8.1.core ai h0 hits h37 hlt rfl hbl M8' v2 (by rw [v3.2 3 (by decide)]; exact n7) (fun J' L' k1 k2 => hQ J' L' ?_ ((o7.tr g8.2).tr k2))
            unfold helS
            rw [if_neg dd, if_neg hw, if_neg (fun q => q cn), if_neg (fun q => q cb)]
            exact k1
          · rw [if_neg cb]
            refine ⟨by decide, ?_⟩
            rw [if_pos rfl]
            refine alert 51 J8 (by omega) g8.1 (o7.tr g8.2) ?_
            unfold helS
            rw [if_neg dd, if_neg hw, if_neg (fun q => q cn), if_pos cb]
        · rw [if_neg cn]
          refine ⟨by decide, ?_⟩
          rw [if_pos rfl]
          refine alert 40 J7 (by omega) g7 o7 ?_
          unfold helS
          rw [if_neg dd, if_neg hw, if_pos cn])
      have n6 : J6 491 3 = aZ A 17 := by rw [f6.2 3 (fun q => q)]; exact hnow
      have m20 : zand (J6 491 1) 1 = aZ A 20 := by rw [f6.2 1 (fun q => q)]; exact (h.2.2.2.2.2.2.2.2.2.2.2.1.2.2 rfl).2
      rw [m20]
      by_cases z : aZ A 20 = 1
      · rw [if_pos z]
        have seed : sg J6 492 (1024 + 24) 8 = aY A 2 := g6.1.2.2.1.2.2.1
        refine s_keyOwn (by decide) (by decide) (by decide) (fun J7 k7 f7 => ?_)
        rw [show sg J6 492 (1024 + 24) (8 : Int).toNat = aY A 2 from seed] at k7
        refine s_mbegin (fun J8 t8 f8 => ?_)
        have e8 : J8 492 = J6 492 := by rw [f8.1 492 (fun q => q) (by decide), f7.1 492 (by decide) (by decide)]
        have p0 : sg J8 492 (1536 + 3) 16 = b.take 16 := by
          rw [sg_row e8, take_part]
          have := pt 0 16 (by omega)
          rw [show (1539 : Int) + ((0 : Nat) : Int) = 1536 + 3 from rfl] at this
          exact this
        refine s_addOwn t8 (by decide) (by decide) (by decide) (by decide) (by show oct (sg J8 492 (1536 + 3) 16); rw [p0]; exact oct_take hbo 16) (fun J9 t9 f9 => ?_)
        rw [show sg J8 492 (1536 + 3) (16 : Int).toNat = b.take 16 from p0, List.nil_append] at t9
        have k9 : mKy J9 (aY A 2) := (k7.fr (f8.1 501 (fun q => q) (by decide))).fr (f9.1 501 (by decide) (by decide))
        have hK9 : mK (zi J9) := mK_fr g6.1.2.2.2.2.2.2.2.2.2.2.2.2 (by rw [f9.1 495 (by decide) (by decide), f8.1 495 (fun q => q) (by decide), f7.1 495 (by decide) (by decide)]) (by rw [f9.1 496 (by decide) (by decide), f8.1 496 (fun q => q) (by decide), f7.1 496 (by decide) (by decide)])
        refine s_code t9 k9 ai.y.2.2.1.2 hK9 (fun J10 v10 f10 => ?_)
        have v10 : sg J10 500 0 32 = ckI A b := v10
        have fa : mF cF t13 J6 J10 := (f7.mono (fun a q => by unfold cF cH; omega) (fun k q => q.elim)).tr ((f8.mono (fun a q => q.elim) (fun k q => q)).tr ((f9.mono (fun a q => by unfold c497 at q; unfold cF cH; omega) (fun k q => q)).tr (f10.mono (fun a q => by unfold cCode at q; unfold cF cH; omega) (fun k q => q))))
        have g10 := g6.1.scr (by decide) ai.dg ai.ll fa (fun a q => by unfold cF cH at q; omega) (fun k q => by unfold t13 at q; omega) (by rw [fa.2 30 (by decide)]; exact m30 ai.dg g6.1)
        have e10 : J10 492 = J6 492 := fa.1 492 (by unfold cF cH; omega) (by decide)
        have n10 : J10 491 3 = aZ A 17 := by rw [fa.2 3 (by decide)]; exact n6
        have t16 : sg J10 500 0 16 = (ckI A b).take 16 := by rw [← v10, sg_take _ _ _ _ _ (by decide)]
        intro K65 hK65
        have retry : wantsCk b A → K65 J10 L6 := fun hw => hK65 J10 L6 (by
          obtain ⟨ck, hck⟩ : ∃ ck, ck = (ckI A b).take 16 := ⟨_, rfl⟩
          have lck : ck.length = 16 := by rw [hck, List.length_take]; unfold ckI; rw [mcI_len]; rfl
          have ock : oct ck := by rw [hck]; exact oct_take (mcI_oct _ _) 16
          rw [← hck] at t16
          refine s_store (by decide) (by decide) (by decide) (s_putMessage (by decide) (by decide) (fun J11 e11' => ?_))
          have w11 : zw (zcp J10 500 0 492 (1024 + 870 + 3) 16) 492 (1024 + 870) [6, 16 / 256, 16 % 256] = zw J10 492 1894 (msgI 6 ck) := by
            rw [zcp_zw _ _ _ _ _ _ (by decide), show sg J10 500 0 (16 : Int).toNat = ck from t16]
            funext a i
            by_cases ha : a = 492
            · subst ha
              by_cases q1 : 1894 ≤ i ∧ i < 1897
              · rw [zw_in _ _ _ _ _ (by show (1894 : Int) ≤ i ∧ i < 1894 + 3; omega), zw_in _ _ _ _ _ (by rw [msgI_len, lck]; show (1894 : Int) ≤ i ∧ i < 1894 + 19; omega)]
                have : i = 1894 ∨ i = 1895 ∨ i = 1896 := by omega
                unfold msgI
                rw [lck]
                rcases this with rfl | rfl | rfl <;> rfl
              · rw [zw_out _ (by show ¬ ((1894 : Int) ≤ i ∧ i < 1894 + 3); omega)]
                by_cases q2 : 1897 ≤ i ∧ i < 1913
                · rw [zw_in _ _ _ _ _ (by rw [lck]; show (1897 : Int) ≤ i ∧ i < 1897 + 16; omega), zw_in _ _ _ _ _ (by rw [msgI_len, lck]; show (1894 : Int) ≤ i ∧ i < 1894 + 19; omega)]
                  have em : msgI 6 ck = [6, (ck.length : Int) / 256, (ck.length : Int) % 256] ++ ck := rfl
                  rw [em, gd_ar (by show 3 ≤ (i - 1894).toNat; omega)]
                  congr 1
                  show (i - (1024 + 870 + 3)).toNat = (i - 1894).toNat - 3
                  omega
                · rw [zw_out _ (by rw [lck]; show ¬ ((1897 : Int) ≤ i ∧ i < 1897 + 16); omega), zw_out _ (by rw [msgI_len, lck]; show ¬ ((1894 : Int) ≤ i ∧ i < 1894 + 19); omega)]
            · rw [zw_r _ ha, zw_r _ ha, zw_r _ ha]
          rw [w11] at e11'
          have r11 : ∀ a, a ≠ 492 → a ≠ 491 → J11 a = J10 a := fun a p q => by rw [e11', zs_r _ q, zw_r _ p]
          have k11 : ∀ k, k ≠ 30 → J11 491 k = J10 491 k := fun k hk => by rw [e11', zs_n _ (Or.inr hk), zw_r _ (by decide)]
          have k30 : J11 491 30 = J10 491 30 := by rw [e11', zs_s]; exact (m30 ai.dg g10.1).symm
          have f11 : mF (fun a => False ∨ a = 492) (fun _ => False) J10 J11 := ⟨fun a p q => r11 a (fun u => p (Or.inr u)) q, fun k _ => by by_cases u : k = 30; rw [u]; exact k30; exact k11 k u⟩
          have u11 : ∀ k, ¬ (1894 ≤ k ∧ k < 1913) → J11 492 k = J10 492 k := fun k hk => by rw [e11', zs_r _ (by decide), zw_out J10 (by rw [msgI_len, lck]; show ¬ ((1894 : Int) ≤ k ∧ k < 1894 + 19); omega)]
          have g11 := ms_wr0 g10.1 (J' := J11) (U := fun k => 1894 ≤ k ∧ k < 1913) (by decide) hn hF0 f11 (fun a q => q.elim) (fun k q => q.elim) u11 (fun k q => by omega)
          have M11 : mMs J11 1894 (msgI 6 ck) := (mMs_zw (J := J10) (p := 1894) (k := 6) (b := ck) (by decide) ock (by omega)).fr2 (fun k _ _ => by rw [e11', zs_r _ (by decide)])
          have ms9 := g11.1.2.2.2.2.2.2.2.2.2.1
          refine s_fragmentM2 (kf := kfA 1 A) (mf := mfA 1 A) (by decide) (Or.inl rfl) M11 (by decide) (by rw [lck]; decide) (by omega) (by decide) (by decide) (by rw [lck]; decide) ms9 (fun q => absurd rfl q) (by rw [ai.dg]; decide) g11.1.2.2.2.2.2.2.2.2.2.2.2.2 (fun J12 w1 w2 w3 => ?_)
          refine s_sendT (by decide) w1 (fun J13 q1 q2 q3 q4 => ?_)
          have fM : mF (fun a => cRec a ∨ a = 515 ∨ (509 ≤ a ∧ a ≤ 512)) tSm J11 J13 := (w3.mono (fun a q => q.elim Or.inl (fun v => Or.inr (Or.inl v))) (fun k q => q)).tr (q4.mono (fun a q => Or.inr (Or.inr q)) (fun k q => by unfold t30 at q; unfold tSm; omega))
          have e509 : J12 509 = J11 509 := w3.1 509 (by unfold cRec cF cH; omega) (by decide)
          have hnn : mN 1 J13 = mN 1 J11 := q2.trans (mN_fr e509 (w3.1 510 (by unfold cRec cF cH; omega) (by decide)) (w3.1 511 (by unfold cRec cF cH; omega) (by decide)) 1)
          have hlen : J13 509 1 = J11 509 1 := by
            have l1 : (mN 1 J13).length = (J13 509 1).toNat := mr_len _ _
            have l2 : (mN 1 J11).length = (J11 509 1).toNat := mr_len _ _
            rw [hnn, l2] at l1
            have b1 := (q1.1.2 1 (by decide)).1
            have b2 := (ms9.1.2 1 (by decide)).1
            omega
          have gS := g11.1.sent (by decide) q1 (flushS_dg _) fM (fun k hk => by rw [q4.1 514 (by omega) (by omega)]; exact w2 k hk) hnn (fun u hu => by rw [q3 u hu, w3.1 512 (by unfold cRec cF cH; omega) (by decide)]) hlen
          refine hQ J13 L6 ?_ ((g6.2.tr (g10.2.tr g11.2)).tr gS.2)
          unfold helS
          rw [if_neg dd, if_pos hw]
          unfold retryA sndE
          rw [← hck]
          have ep : partI ck (0 : Int).toNat (16 : Int).toNat = ck := by
            unfold partI
            show (ck.drop 0).take 16 = ck
            rw [List.drop_zero, ← lck, List.take_length]
          rw [ep, lck] at gS
          exact gS.1)
        refine ⟨⟨by omega, by omega⟩, ?_⟩
        by_cases y : x11 = 0
        · rw [if_pos y]
          exact retry ⟨z, Or.inl (by omega)⟩
        · rw [if_neg y]
          have p17 : sg J10 492 (1536 + 20) 16 = partI b 17 16 := by
            rw [sg_row e10]
            have := pt 17 16 (by omega)
            rw [show (1539 : Int) + ((17 : Nat) : Int) = 1536 + 20 from rfl] at this
            exact this
          refine s_isDigest (by decide) (by decide) (by decide) (by show oct (sg J10 492 (1536 + 20) 16); rw [p17]; exact partI_oct hbo) (by show oct (sg J10 500 0 16); rw [t16]; exact oct_take (mcI_oct _ _) 16) ?_
          have hres : (if sg J10 492 (1536 + 20) (16 : Int).toNat = sg J10 500 0 (16 : Int).toNat then (1 : Int) else 0) = if (ckI A b).take 16 = partI b 17 16 then 1 else 0 := by
            show (if sg J10 492 (1536 + 20) 16 = sg J10 500 0 16 then (1 : Int) else 0) = _
            rw [p17, t16]
            by_cases u : (ckI A b).take 16 = partI b 17 16
            · rw [if_pos u, if_pos u.symm]
            · rw [if_neg u, if_neg (fun q => u q.symm)]
          rw [hres]
          by_cases w : (ckI A b).take 16 = partI b 17 16
          · rw [if_pos w]
            refine ⟨by decide, ?_⟩
            rw [if_neg (by decide)]
            exact go J10 (fun u => u.2.elim (fun v => y (by omega)) (fun v => v w)) g10.1 (g6.2.tr g10.2) e10 n10
          · rw [if_neg w]
            refine ⟨by decide, ?_⟩
            rw [if_pos rfl]
            exact retry ⟨z, Or.inr w⟩
      · rw [if_neg z]
        exact go J6 (fun u => z u.1) g6.1 g6.2 rfl n6
    · rw [if_neg d]
      refine alert 10 J6 (by omega) g6.1 g6.2 ?_
      unfold helS
      rw [if_pos (fun q => d (by omega))]
