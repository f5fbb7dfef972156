/-! ACKS; the tick of a side -/
theorem ackC_len (l : List (Int × Int)) : (ackC l).length = 3 * l.length := by
  unfold ackC
  induction l with
  | nil => rfl
  | cons q l ih => rw [List.flatMap_cons, List.length_append, ih]; show 3 + 3 * l.length = 3 * (l.length + 1); omega
theorem ackC_snoc (l : List (Int × Int)) (q : Int × Int) : ackC (l ++ [q]) = ackC l ++ [q.1] ++ [q.2 / 256] ++ [q.2 % 256] := by
  unfold ackC
  rw [List.flatMap_append]
  simp
theorem take_snoc {α : Type} {l : List α} {x : Nat} {q : α} (h : l[x]? = some q) : l.take (x + 1) = l.take x ++ [q] := by rw [List.take_add_one, h]; rfl
theorem ackC_oct {l : List (Int × Int)} (h : ∀ q ∈ l, ep3 q.1 ∧ 0 ≤ q.2 ∧ q.2 < 65536) : oct (ackC l) := by
  induction l with
  | nil => exact oct_nil
  | cons q l ih =>
    have hq := h q List.mem_cons_self
    unfold ackC at *
    rw [List.flatMap_cons]
    refine oct_app.mpr ⟨?_, ih (fun r hr => h r (List.mem_cons_of_mem _ hr))⟩
    simp only [oct_cons]
    exact ⟨by omega, by omega, by omega, oct_nil⟩
theorem s_putInto {e : Nat} {l : List (Int × Int)} {J : zM} {L : yM} {Q : Int → zM → yM → Prop} (he : iSide e) (h : XLi e J l) (hl : AIl l) (hQ : ∀ J', sg J' (e + 170) 0 (ackC l).length = ackC l → zF (fun a => a = e + 170) J J' → Q ((ackC l).length : Int) J' L) : w_X0_putInto e (e + 170) J L Q := by
  obtain ⟨h1, h2, h3⟩ := h
  have hln : ln0 (e + 170) = 500 := lnS_170 he
  unfold w_X0_putInto
  rw [hln]
  refine zl_z.by (fun m x J' L' => (m : Int) = (l.length : Int) - x ∧ 0 ≤ x ∧ x ≤ (l.length : Int) ∧ L' = L ∧ J' = zw J (e + 170) 0 (ackC (l.take x.toNat))) ?_ l.length 0 J L ⟨by omega, by omega, by omega, rfl, (zw_nil J (e + 170) 0).symm⟩
  rintro m x J1 L1 K ⟨hm, hx, hx2, rfl, e1⟩ hK
  have r1 : ∀ a, a ≠ e + 170 → J1 a = J a := fun a ha => by rw [e1]; exact zw_r J ha
  rw [r1 (e + 33) (by omega), h1]
  refine ⟨⟨by omega, by omega⟩, ⟨by omega, by omega⟩, ?_⟩
  by_cases c : x < (l.length : Int)
  · rw [if_pos c]
    refine ⟨⟨by omega, by omega⟩, ⟨by omega, by omega⟩, ?_⟩
    rw [if_pos (by omega)]
    have hlx : l[x.toNat]? = some (l[x.toNat]'(by omega)) := List.getElem?_eq_getElem (by omega)
    obtain ⟨q, hq⟩ : ∃ q, q = l[x.toNat]'(by omega) := ⟨_, rfl⟩
    rw [← hq] at hlx
    have hv := h3 _ q hlx
    have hqb := hl.2 q (List.mem_of_getElem? hlx)
    rw [show ((x.toNat : Nat) : Int) = x by omega] at hv
    have len : ((ackC (l.take x.toNat)).length : Int) = 3 * x := by rw [ackC_len, List.length_take, Nat.min_eq_left (by omega)]; omega
    refine ⟨⟨by omega, by omega⟩, ⟨by omega, by omega⟩, fun J13 e13 => ⟨⟨by omega, by omega⟩, ⟨by omega, by omega⟩, fun J16 e16 => ⟨⟨by omega, by omega⟩, ⟨by omega, by omega⟩, fun J19 e19 => ?_⟩⟩⟩
    refine hK (m - 1) (x + 1) J19 L1 (by omega) ⟨by omega, by omega, by omega, rfl, ?_⟩
    rw [r1 (e + 34) (by omega), hv.1] at e13
    rw [e13, zs_r J1 (by omega), r1 (e + 35) (by omega), hv.2, zush_n ⟨hqb.2.1, by omega⟩ (by decide)] at e16
    rw [e16, zs_r _ (by omega), zs_r J1 (by omega), r1 (e + 35) (by omega), hv.2, zand255] at e19
    have p8 : q.2 / 2 ^ (8 : Int).toNat = q.2 / 256 := rfl
    have l1 : (0 : Int) + ((ackC (l.take x.toNat)).length : Int) = 3 * x := by omega
    have l2 : (0 : Int) + ((ackC (l.take x.toNat) ++ [q.1]).length : Int) = 3 * x + 1 := by rw [List.length_append, List.length_singleton]; omega
    have l3 : (0 : Int) + ((ackC (l.take x.toNat) ++ [q.1] ++ [q.2 / 256]).length : Int) = 3 * x + 2 := by rw [List.length_append, List.length_append, List.length_singleton, List.length_singleton]; omega
    rw [e19, e1, show (x + 1).toNat = x.toNat + 1 by omega, take_snoc hlx, ackC_snoc, ← zw_snoc, ← zw_snoc, ← zw_snoc, l1, l2, l3, p8]
  · rw [if_neg c]
    have : x = (l.length : Int) := by omega
    subst this
    rw [Int.toNat_natCast, List.take_length] at e1
    have hq := hQ J1 (by rw [e1]; exact zw_sg _ _ _ _) (by rw [e1]; exact zF.zw rfl)
    rw [ackC_len, Int.natCast_mul] at hq
    exact hq
theorem xs_acks {e : Nat} {bd s : Int} {A : SA} {J : zM} {L : yM} {Q : zM → yM → Prop} (he : iSide e) (hs : s01 s) (h : XS e s J L A) (ai : AI bd s A) (hQ : ∀ J', XS e s J' L (acksA s A) → XO e J L J' L → Q J' L) : w_X8_sendAcks e J L Q := by
  have hl := h.2.2.2.2.2.1.1
  have al := ai.2.2.2.2.2.1
  unfold w_X8_sendAcks
  unfold acksA at hQ
  rw [hl.1]
  have hl8 := hl.2.1
  refine ⟨⟨by omega, by omega⟩, ?_⟩
  by_cases c : aL A = []
  · rw [if_pos c] at hQ
    rw [if_neg (by rw [c]; decide)]
    exact hQ J h XO.rf
  · rw [if_neg c] at hQ
    have hp : 0 < (aL A).length := List.length_pos_iff.mpr c
    rw [if_pos (by omega)]
    refine s_putInto he hl al (fun J1 g1 f1 => ?_)
    have h1 := h.scr he (f1.mono (fun a q => by omega))
    rw [h1.1.2.2.2.2.2.2.2.2.1.1]
    exact xs_snd he hs h1.1 ai ai.ep g1 (by rw [ackC_len]; have := al.1; omega) (fun J' k1 k2 => hQ J' k1 (h1.2.tr k2)) (Q := fun _ J' L' => Q J' L')
theorem ms_acks {bd s : Int} {A : SA} {J : zM} {L : yM} {Q : zM → yM → Prop} (hs : s01 s) (h : MS s J L A) (ai : AI bd s A) (hQ : ∀ J', MS s J' L (acksA s A) → MO s J L J' L → Q J' L) : w_X12_acks s J L Q := by
  have hl := h.2.2.2.2.2.1.1
  have al := ai.2.2.2.2.2.1
  have hs2 : 0 ≤ s ∧ s < 2 := by omega
  obtain ⟨l1, l2, l3⟩ := hl
  unfold w_X12_acks
  unfold acksA at hQ
  rw [l1]
  refine ⟨hs2, ⟨by omega, by omega⟩, ?_⟩
  by_cases c : aL A = []
  · rw [if_pos c] at hQ
    rw [if_pos (by rw [c]; rfl)]
    exact hQ J h MO.rf
  · rw [if_neg c] at hQ
    have hp : 0 < (aL A).length := List.length_pos_iff.mpr c
    rw [if_neg (by omega)]
    intro J4 e4
    have f4 : mF c515 t33 J J4 := by rw [e4]; exact mF_zs1 rfl
    have i4 : mIn J4 [] := ⟨by rw [e4]; exact zs_s _ _ _ _, rfl, by decide⟩
    refine zl_z.by (fun m x J' L' => (m : Int) = ((aL A).length : Int) - x ∧ 0 ≤ x ∧ x ≤ ((aL A).length : Int) ∧ L' = L ∧ mIn J' (ackC ((aL A).take x.toNat)) ∧ mF c515 t33 J J') ?_ (aL A).length 0 J4 L ⟨by omega, by omega, by omega, rfl, i4, f4⟩
    rintro m x J1 L1 K ⟨hm, hx, hx2, rfl, i1, f1⟩ hK
    have r1 : ∀ (J2 : zM) a, mF c515 t33 J J2 → 516 ≤ a → J2 a = J a := fun J2 a f q => f.1 a (by omega) (by omega)
    rw [r1 J1 530 f1 (by decide), l1]
    refine ⟨hs2, ⟨by omega, by omega⟩, ⟨by omega, by omega⟩, ?_⟩
    by_cases d : x < ((aL A).length : Int)
    · rw [if_pos d]
      have hlx : (aL A)[x.toNat]? = some ((aL A)[x.toNat]'(by omega)) := List.getElem?_eq_getElem (by omega)
      obtain ⟨q, hq⟩ : ∃ q, q = (aL A)[x.toNat]'(by omega) := ⟨_, rfl⟩
      rw [← hq] at hlx
      have hv := l3 _ q hlx
      have hqb := al.2 q (List.mem_of_getElem? hlx)
      rw [show ((x.toNat : Nat) : Int) = x by omega] at hv
      have len : (ackC ((aL A).take x.toNat)).length = 3 * x.toNat := by rw [ackC_len, List.length_take, Nat.min_eq_left (by omega)]
      refine ⟨⟨by omega, by omega⟩, ?_⟩
      rw [r1 J1 531 f1 (by decide), hv.1]
      refine s_inner i1 (by omega) (fun J2 i2 f2 => ⟨⟨by omega, by omega⟩, ?_⟩)
      have f2' := f1.tr f2
      rw [r1 J2 532 f2' (by decide), hv.2, zshr_n ⟨by omega, by omega⟩ (by decide)]
      refine s_inner i2 (by rw [List.length_append, List.length_singleton]; omega) (fun J3 i3 f3 => ⟨⟨by omega, by omega⟩, ?_⟩)
      have f3' := f2'.tr f3
      rw [r1 J3 532 f3' (by decide), hv.2]
      refine s_inner i3 (by rw [List.length_append, List.length_append, List.length_singleton, List.length_singleton]; omega) (fun J5 i5 f5 => ?_)
      refine hK (m - 1) (x + 1) J5 L1 (by omega) ⟨by omega, by omega, by omega, rfl, ?_, f3'.tr f5⟩
      rw [show (x + 1).toNat = x.toNat + 1 by omega, take_snoc hlx, ackC_snoc]
      rw [show q.1 % 256 = q.1 by omega, show q.2 / 2 ^ (8 : Int).toNat % 256 = q.2 / 256 by show q.2 / 256 % 256 = _; omega] at i5
      exact i5
    · rw [if_neg d]
      have : x = ((aL A).length : Int) := by omega
      subst this
      rw [Int.toNat_natCast, List.take_length] at i1
      intro J13 e13
      have f13 : mF (fun _ => False) t30 J1 J13 := by rw [e13]; exact mF_zs1 rfl
      have f : mF c515 (fun k => k = 33 ∨ k = 30) J J13 := (f1.mono (fun _ q => q) (fun k q => Or.inl q)).tr (f13.mono (fun _ q => q.elim) (fun k q => Or.inr q))
      have h13 := h.scr hs ai.dg ai.ll f (fun a q => by unfold c515 at q; omega) (fun k q => by omega) (by rw [e13]; exact zs_s _ _ _ _)
      refine ms_ge hs h13.1 ai ?_
      have i13 : mIn J13 (ackC (aL A)) := by
        obtain ⟨p1, p2, p3⟩ := i1
        exact ⟨by rw [f13.2 33 (by decide)]; exact p1, by rw [sg_row (f13.1 515 (by simp) (by decide))]; exact p2, p3⟩
      exact ms_snd hs h13.1 ai ai.ep (Int.le_refl _) (by decide) i13 (ackC_oct al.2) (by rw [ackC_len]; omega) (fun J' k1 k2 => hQ J' k1 (h13.2.tr k2)) (Q := fun _ J' L' => Q J' L')
theorem AI_acks {bd s : Int} {A : SA} (ai : AI bd s A) : AI bd s (acksA s A) := by
  unfold acksA
  split
  · exact ai
  · have al := ai.2.2.2.2.2.1
    exact ai.snd ai.ep (by decide) (ackC_oct al.2) (by rw [ackC_len]; have := al.1; omega)
theorem uz_comm {j k : Nat} {a b : Int} {A : SA} (h : j ≠ k) : uz j a (uz k b A) = uz k b (uz j a A) := by
  refine Prod.ext (funext fun i => ?_) rfl
  show (if i = j then a else if i = k then b else A.1 i) = if i = k then b else if i = j then a else A.1 i
  by_cases p : i = j
  · subst p
    rw [if_pos rfl, if_neg h, if_pos rfl]
  · rw [if_neg p, if_neg p]
theorem AI_fly {bd s : Int} {A : SA} (ai : AI bd s A) (hl : ((aT A).2.2.2.2.length : Int) ≤ 204 * aZ A 9) : AI bd s (flyA s A) := by
  have tk := ai.tok
  have hm : 100 ≤ aZ A 18 ∧ aZ A 18 ≤ 500 := ai.1.2.2.2.2.2.2.2.2.2.2.2.2.2.2.2.2.2.2.1
  have hf := ai.2.2.2.1
  have q := flyR_ok (kf := kfA s A) (mf := mfA s A) (ack := (aF A).2.2.2.2) hm hf.1 (fs (aF A).2.2.2.1 (aF A).1) 0 (aT A) (by decide) (by omega) tk
  have q2 := q.1.flush hm.2 (by omega)
  obtain ⟨h1, h2, h3, h4, h5, h6, h7, h8, h9⟩ := ai
  refine ⟨?_, h2, h3, ⟨h4.1, h4.2.1, q2.2.2.2, h4.2.2.2⟩, h5, h6, h7, ⟨q2.1, q2.2.1, flushS_dg _⟩, h9⟩
  obtain ⟨b0, b1, b2, b3, b4, b5, b6, b7, b8, b9, b10, b11, b12, b13, b14, b15, b16, b17, b18, b19, b20, b21, b22, b23, b24, b25, b26, b27, b28, b29⟩ := h1
  refine ⟨b0, b1, b2, b3, b4, b5, b6, b7, ⟨b17.1, Int.le_refl _⟩, b9, b10, b11, b12, b13, b14, b15, b16, b17, b18, b19, b20, ?_, b22, b23, b24, b25, b26, b27, b28, b29⟩
  show ((flushS (flyR (aZ A 18) (kfA s A) (mfA s A) (aF A).1 (aF A).2.1 (aF A).2.2.1 (aF A).2.2.2.1 (aF A).2.2.2.2 (fs (aF A).2.2.2.1 (aF A).1) 0 (aT A))).2.2.2.2.length : Int) ≤ 204 * (aZ A 9 + 1)
  rw [flushS_lg]
  have h204 := hf.1.2.2
  have := q.2
  omega
/-- whether the TIMER of a side runs, in the model -/
theorem ms_timer {bd s : Int} {A : SA} {J : zM} {L : yM} {Q : Int → zM → yM → Prop} (hs : s01 s) (h : MS s J L A) (ai : AI bd s A) (hQ : Q (aZ A 10) J L) : w_X12_hasTimer s J L Q := by
  have hs2 : 0 ≤ s ∧ s < 2 := by omega
  obtain ⟨b1, b2, b3, ack, b4, b5, b6⟩ := h.2.2.2.1
  have h0 : J 534 s = aZ A 0 := h.1.1
  have hb0 := ai.1.1
  have hb7 := ai.1.2.2.2.2.2.2.2.1
  have hb10 := ai.1.2.2.2.2.2.2.2.2.2.2.1
  have h517 : J 517 s = ((aF A).1 : Int) := b6.1
  have hF3 := ai.2.2.2.1.1.1
  unfold w_X12_hasTimer
  rw [h517, h0]
  refine ⟨hs2, ⟨by omega, by omega⟩, ?_⟩
  rcases hb10 with z | z
  · rw [z] at hQ
    by_cases c : (0 : Int) < ((aF A).1 : Int)
    · rw [if_pos c]
      refine ⟨hs2, by rcases b1 with q | q <;> (rw [q]; decide), ?_⟩
      by_cases c2 : J 522 s = 0
      · rw [if_pos c2]
        refine ⟨hs2, ⟨by omega, by omega⟩, ?_⟩
        rw [if_pos]
        · exact hQ
        · by_cases c4 : aZ A 0 = 4
          · exact c4
          · have := b3 z c4
            omega
      · rw [if_neg c2]
        exact hQ
    · rw [if_neg c]
      exact hQ
  · rw [z] at hQ
    have q := b2 z
    have lv := (hb7 z).2
    rw [if_pos (by omega), q.1]
    refine ⟨hs2, by decide, ?_⟩
    rw [if_pos rfl]
    refine ⟨hs2, ⟨by omega, by omega⟩, ?_⟩
    rw [if_neg (by unfold live at lv; omega)]
    exact hQ
