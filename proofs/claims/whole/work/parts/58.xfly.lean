theorem zor_65536 {x y : Int} (hx : 0 ≤ x ∧ x < 100) (hy : 0 ≤ y ∧ y < 65536) : zor (zshl x 16) y = x * 65536 + y := by
  have hs : oI x <<< (oI 16 &&& 31) = oI (x * 65536) := by
    apply Int32.toBitVec_inj.mp
    apply BitVec.eq_of_toNat_eq
    have e1 : bvn (oI (x * 65536)) = (x * 65536).toNat := bvn_pos ⟨by omega, by omega⟩
    have e2 : bvn (oI x) = x.toNat := bvn_pos ⟨by omega, by omega⟩
    unfold bvn at e1 e2
    rw [e1]
    show (oI x <<< (16 : Int32)).toBitVec.toNat = _
    rw [Int32.toBitVec_shiftLeft, show (16 : Int32).toBitVec.smod 32 = 16#32 from by decide, BitVec.shiftLeft_eq', BitVec.toNat_shiftLeft, e2, Nat.shiftLeft_eq]
    show x.toNat * 2 ^ 16 % 4294967296 = _
    omega
  have e : bvn (oI (zshl x 16) ||| oI y) = (x * 65536 + y).toNat := by
    unfold zshl
    rw [oI_of, hs, bvn_or, bvn_pos ⟨by omega, by omega⟩, bvn_pos ⟨by omega, by omega⟩]
    have := Nat.two_pow_add_eq_or_of_lt (i := 16) (b := y.toNat) (by omega) x.toNat
    rw [show (x * 65536).toNat = 2 ^ 16 * x.toNat by omega, ← this]
    omega
  unfold zor
  rw [bvn_toInt (by omega), e]
  omega
abbrev ep3 (ep : Int) : Prop := ep = 0 ∨ ep = 2 ∨ ep = 3
/-- the log, in the class -/
def XL (e : Nat) (J : zM) (B : Nat → List Int) (lg : List (Int × Int × Nat × Int × Int)) : Prop := J (e + 8) 9 = (lg.length : Int) ∧ ∀ (i : Nat) (q : Int × Int × Nat × Int × Int), lg[i]? = some q → J (e + 14) (i : Int) = q.1 * 65536 + q.2.1 ∧ J (e + 15) (i : Int) = (fs B q.2.2.1 : Int) + q.2.2.2.1 ∧ J (e + 16) (i : Int) = (fs B q.2.2.1 : Int) + q.2.2.2.1 + q.2.2.2.2
/-- what a side sends with, in the class -/
def XSn (e : Nat) (J : zM) (B : Nat → List Int) (t : FS) : Prop := (rL (wy e) J = t.1 ∧ iR (wy e) J) ∧ J (e + 168) 8 = t.2.1 ∧ (∀ ep, ep3 ep → J (e + 171) ep = t.2.2.1 ep ∧ 0 ≤ t.2.2.1 ep ∧ t.2.2.1 ep ≤ 65536) ∧ xMd e J t.2.2.2.1 ∧ XL e J B t.2.2.2.2
def XKy (e : Nat) (s : Int) (J : zM) (kf mf : Int → List Int) : Prop := ∀ ep, ep = 2 ∨ ep = 3 → sg J (e + 153 + (2 * (ep - 2) + s).toNat) 0 32 = kf ep ∧ sg J (e + 158 + (2 * (ep - 2) + s).toNat) 0 32 = mf ep
theorem recI_0 (type n : Int) (k m k' m' content : List Int) : recI 0 type n k m content = recI 0 type n k' m' content := by
  unfold recI
  rw [if_pos rfl, if_pos rfl]
theorem s_putRecordFull {e : Nat} {ep type len : Int} {J : zM} {L : yM} {Q : Int → zM → yM → Prop} (hep : ep3 ep) (h : 65535 < J (e + 171) ep) (h2 : J (e + 171) ep ≤ 65536) (hQ : Q (-1) J L) : w_X6_putRecord e ep type len J L Q := by
  unfold w_X6_putRecord
  refine ⟨by omega, fun x ex => ?_⟩
  subst ex
  refine ⟨⟨by omega, by omega⟩, ?_⟩
  rw [if_pos h]
  exact hQ
/-- a record is put, by the abstract state -/
theorem s_putRec {e : Nat} {s ep type : Int} {content : List Int} {kf mf : Int → List Int} {B : Nat → List Int} {t : FS} {J : zM} {L : yM} {Q : Int → zM → yM → Prop} (he : iSide e) (hs : s01 s) (hse : J (e + 168) 0 = s) (hep : ep3 ep) (ht : XSn e J B t) (hk : XKy e s J kf mf) (hc : sg J (e + 170) 0 content.length = content) (hmt : 0 ≤ J (e + 168) 6 ∧ J (e + 168) 6 ≤ 500) (hroom : (t.2.2.2.1.length : Int) + (content.length : Int) + (if ep = 0 then 6 else 14) ≤ J (e + 168) 6)
    (hQ : ∀ J', XSn e J' B (putS kf mf ep type content t) → (∀ k, k ≠ 7 → J' (e + 168) k = J (e + 168) k) → zF (cPut e) J J' → Q (if 65535 < t.2.2.1 ep then -1 else t.2.2.1 ep) J' L) : w_X6_putRecord e ep type (content.length : Int) J L Q := by
  have he2 : 139 ≤ e := by unfold iSide at he; omega
  have hwy : wy e = 75 ∨ wy e = 11 := by unfold wy; split <;> omega
  have hq : rq (wy e) = 60 := by rcases hwy with h | h <;> (rw [h]; rfl)
  obtain ⟨t1, t2, t3, t4, t5⟩ := ht
  have h3 := t3 ep hep
  by_cases c : 65535 < t.2.2.1 ep
  · refine s_putRecordFull hep (by rw [h3.1]; exact c) (by rw [h3.1]; exact h3.2.2) ?_
    have := hQ J (by unfold putS; rw [if_pos c]; exact ⟨t1, t2, t3, t4, t5⟩) (fun _ _ => rfl) zF.rf
    rw [if_pos c] at this
    exact this
  · refine s_putRecord he hs hse hep h3.1 (by omega) t4 hc hmt hroom (fun J' g1 g2 g3 f => ?_)
    rw [if_neg c] at hQ
    refine hQ J' ?_ g3 f
    unfold putS
    rw [if_neg c]
    have hr : recI ep type (t.2.2.1 ep) (sg J (e + 153 + (2 * (ep - 2) + s).toNat) 0 32) (sg J (e + 158 + (2 * (ep - 2) + s).toNat) 0 32) content = recI ep type (t.2.2.1 ep) (kf ep) (mf ep) content := by
      rcases hep with rfl | h
      · exact recI_0 _ _ _ _ _ _ _
      · rw [(hk ep h).1, (hk ep h).2]
    rw [hr] at g1
    have hn := rL_fr (r := wy e) (f.mono (fun a q u => by unfold cPut at q; unfold cR at u; omega)) t1.2
    refine ⟨⟨hn.1.trans t1.1, hn.2⟩, by rw [g3 8 (by decide)]; exact t2, fun ep' hep' => ?_, g1, ?_⟩
    · rw [g2]
      by_cases q : ep' = ep
      · subst q
        rw [zs_s]
        show _ = (if ep' = ep' then _ else _) ∧ 0 ≤ (if ep' = ep' then _ else _) ∧ (if ep' = ep' then _ else _) ≤ _
        rw [if_pos rfl]
        exact ⟨rfl, by omega, by omega⟩
      · rw [zs_n J (Or.inr q)]
        show _ = (if ep' = ep then _ else _) ∧ 0 ≤ (if ep' = ep then _ else _) ∧ (if ep' = ep then _ else _) ≤ _
        rw [if_neg q]
        exact t3 ep' hep'
    · unfold XL
      rw [f (e + 8) (by unfold cPut; omega), f (e + 14) (by unfold cPut; omega), f (e + 15) (by unfold cPut; omega), f (e + 16) (by unfold cPut; omega)]
      exact t5
/-- the datagram that is begun is sent, by the abstract state -/
theorem s_flushT {e : Nat} {B : Nat → List Int} {t : FS} {J : zM} {L : yM} {Q : zM → yM → Prop} (he : iSide e) (ht : XSn e J B t) (hQ : ∀ J', XSn e J' B (flushS t) → (∀ k, k ≠ 7 → k ≠ 8 → J' (e + 168) k = J (e + 168) k) → zF (fun a => cR (wy e) a ∨ a = e + 168) J J' → Q J' L) : w_X6_flush e J L Q := by
  have he2 : 139 ≤ e := by unfold iSide at he; omega
  have hwy : wy e = 75 ∨ wy e = 11 := by unfold wy; split <;> omega
  have hq : rq (wy e) = 60 := by rcases hwy with h | h <;> (rw [h]; rfl)
  obtain ⟨t1, t2, t3, t4, t5⟩ := ht
  by_cases c : t.2.2.2.1 = []
  · rw [c] at t4
    refine s_flush0 t4 (hQ J ?_ (fun _ _ _ => rfl) zF.rf)
    unfold flushS
    rw [if_pos c]
    exact ⟨t1, t2, t3, by rw [c]; exact t4, t5⟩
  · refine s_flush he t4 c t1.2 (fun J' g1 g2 g3 g4 g5 f => hQ J' ?_ g5 f)
    unfold flushS
    rw [if_neg c]
    have hc : ∀ a, 139 ≤ a → ¬ cR (wy e) a := fun a h q => by unfold cR at q; omega
    refine ⟨⟨by rw [g1, t1.1], g2⟩, by rw [g4, t2], fun ep hep => ?_, g3, ?_⟩
    · rw [f (e + 171) (fun q => q.elim (hc _ (by omega)) (by omega))]
      exact t3 ep hep
    · unfold XL
      rw [f (e + 8) (fun q => q.elim (hc _ (by omega)) (by omega)), f (e + 14) (fun q => q.elim (hc _ (by omega)) (by omega)), f (e + 15) (fun q => q.elim (hc _ (by omega)) (by omega)), f (e + 16) (fun q => q.elim (hc _ (by omega)) (by omega))]
      exact t5
theorem s_log {e f : Nat} {ep n lo hi fr cnt : Int} {B : Nat → List Int} {lg : List (Int × Int × Nat × Int × Int)} {J : zM} {L : yM} {Q : zM → yM → Prop} (hep : ep3 ep) (hn : 0 ≤ n ∧ n ≤ 65535) (h : XL e J B lg) (hl : lg.length < 1836) (hlo : lo = (fs B f : Int) + fr) (hhi : hi = lo + cnt) (hQ : ∀ J', XL e J' B (lg ++ [(ep, n, f, fr, cnt)]) → (∀ k, k ≠ 9 → J' (e + 8) k = J (e + 8) k) → zF (fun a => a = e + 8 ∨ (e + 14 ≤ a ∧ a ≤ e + 16)) J J' → Q J' L) : w_X2_log e ep n lo hi J L Q := by
  obtain ⟨h1, h2⟩ := h
  unfold w_X2_log
  refine ⟨⟨by omega, by omega⟩, ?_⟩
  rw [if_neg (by omega), h1]
  refine ⟨⟨by omega, by omega⟩, ?_⟩
  rw [if_pos (by omega)]
  refine ⟨⟨by omega, by omega⟩, fun J1 e1 => ?_⟩
  have a1 : J1 (e + 8) = J (e + 8) := by rw [e1]; exact zs_r J (by omega)
  rw [a1, h1]
  refine ⟨⟨by omega, by omega⟩, fun J2 e2 => ?_⟩
  have a2 : J2 (e + 8) = J (e + 8) := by rw [e2, zs_r J1 (by omega)]; exact a1
  rw [a2, h1]
  refine ⟨⟨by omega, by omega⟩, fun J3 e3 J4 e4 => ?_⟩
  have a3 : J3 (e + 8) = J (e + 8) := by rw [e3, zs_r J2 (by omega)]; exact a2
  rw [a3, h1] at e4
  rw [zor_65536 (by omega) (by omega)] at e1
  refine hQ J4 ⟨by rw [e4, zs_s, List.length_append, List.length_singleton]; omega, fun i q hq => ?_⟩ ?_ ?_
  · have r4 : ∀ a, a ≠ e + 8 → J4 a = J3 a := fun a ha => by rw [e4]; exact zs_r J3 ha
    rw [r4 _ (by omega), r4 _ (by omega), r4 _ (by omega)]
    by_cases c : i = lg.length
    · subst c
      rw [List.getElem?_append_right (Nat.le_refl _), Nat.sub_self] at hq
      cases hq
      refine ⟨?_, ?_, ?_⟩
      · rw [e3, zs_r J2 (by omega), e2, zs_r J1 (by omega), e1, zs_s]
      · rw [e3, zs_r J2 (by omega), e2, zs_s]; exact hlo
      · rw [e3, zs_s, hhi, hlo]
    · have hil : i < (lg ++ [(ep, n, f, fr, cnt)]).length := (List.getElem?_eq_some_iff.mp hq).1
      rw [List.length_append, List.length_singleton] at hil
      rw [List.getElem?_append_left (by omega)] at hq
      have h9 := h2 i q hq
      refine ⟨?_, ?_, ?_⟩
      · rw [e3, zs_r J2 (by omega), e2, zs_r J1 (by omega), e1, zs_n J (Or.inr (by omega))]; exact h9.1
      · rw [e3, zs_r J2 (by omega), e2, zs_n J1 (Or.inr (by omega)), e1, zs_r J (by omega)]; exact h9.2.1
      · rw [e3, zs_n J2 (Or.inr (by omega)), e2, zs_r J1 (by omega), e1, zs_r J (by omega)]; exact h9.2.2
  · intro k hk
    rw [e4, zs_n J3 (Or.inr hk), a3]
  · intro a ha
    rw [e4, zs_r J3 (by omega), e3, zs_r J2 (by omega), e2, zs_r J1 (by omega), e1, zs_r J (by omega)]
theorem s_logNone {e : Nat} {ep lo hi : Int} {J : zM} {L : yM} {Q : zM → yM → Prop} (hQ : Q J L) : w_X2_log e ep (-1) lo hi J L Q := by
  unfold w_X2_log
  refine ⟨by decide, ?_⟩
  rw [if_pos rfl]
  exact hQ
