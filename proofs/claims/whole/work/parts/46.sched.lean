/-! SECRETS: what they are; the class's Schedule -/
def Z32 : List Int := List.replicate 32 0
def exN (k : List Int) (s : Nat) : List Int := mcI k (((lbl s).length : Int) :: (lbl s ++ [0]))
def exD (k : List Int) (s : Nat) (d : List Int) : List Int := mcI k (((lbl s).length : Int) :: (lbl s ++ 32 :: d))
def earI (key : List Int) : List Int := mcI Z32 key
def bindI (key T : List Int) : List Int := mcI (exN (earI key) 1000009) (hsI (T.take (T.length - 32)))
def handI (key : List Int) (both : Int) : List Int := mcI (exN (earI key) 1000014) (nb 4 both)
def mainI (hand : List Int) : List Int := mcI (exN hand 1000014) Z32
def finI (sec T : List Int) : List Int := mcI (exN sec 1000019) (hsI T)
def msgI (kind : Int) (body : List Int) : List Int := kind :: ((body.length : Int) / 256) :: ((body.length : Int) % 256) :: body
abbrev cS (e a : Nat) : Prop := (6 ≤ a ∧ a ≤ 10) ∨ (e + 163 ≤ a ∧ a ≤ e + 166)
def xTr (e : Nat) (J : zM) (T : List Int) : Prop := J (e + 144) 10 = (T.length : Int) ∧ sg J (e + 162) 0 T.length = T ∧ T.length ≤ 293
def xZ (e : Nat) (J : zM) : Prop := sg J (e + 167) 0 32 = Z32
theorem xTr.fr {e : Nat} {J J' : zM} {T : List Int} (h : xTr e J T) (h1 : J' (e + 144) 10 = J (e + 144) 10) (h2 : J' (e + 162) = J (e + 162)) : xTr e J' T := by
  unfold xTr
  rw [h1, sg_row h2]
  exact h
theorem zs_row (J : zM) (a : Nat) (i v : Int) : (zs J a i v) a = fun k => if k = i then v else J a k := by
  funext k
  by_cases q : k = i
  · subst q; rw [zs_s, if_pos rfl]
  · rw [zs_n _ (Or.inr q), if_neg q]
theorem s_expand {e k s o : Nat} {J : zM} {L : yM} {Q : zM → yM → Prop} (hk : 10 < k ∧ k ≠ o) (ho : 10 < o) (hs : 1000002 ≤ s ∧ s < 1000026) (hl : 32 ≤ ln0 o) (hlk : ln0 k = 32) (hQ : ∀ J', sg J' o 0 32 = exN (sg J k 0 32) s → zF (fun a => (6 ≤ a ∧ a ≤ 10) ∨ a = o) J J' → Q J' L) : w_X5_expand e k s o J L Q := by
  refine ⟨⟨by simp; omega, by simp; omega, by omega⟩, hl, hs, fun J' f h => hQ J' ?_ ?_⟩
  · rw [h, hlk]
    rfl
  · refine f.F (fun a i hc => ?_)
    unfold chEx at hc
    omega
theorem s_expandDigest {e k s o : Nat} {J : zM} {L : yM} {Q : zM → yM → Prop} (hk : 10 < k ∧ k ≠ o) (ho : 10 < o) (hs : 1000002 ≤ s ∧ s < 1000026) (hl : 32 ≤ ln0 o) (hlk : ln0 k = 32) (hQ : ∀ J', sg J' o 0 32 = exD (sg J k 0 32) s (sg J (e + 165) 0 32) → zF (fun a => (6 ≤ a ∧ a ≤ 10) ∨ a = o) J J' → Q J' L) : w_X5_expandDigest e k s o J L Q := by
  refine ⟨⟨by simp; omega, by simp; omega, by omega⟩, hl, hs, fun J' f h => hQ J' ?_ ?_⟩
  · rw [h, hlk]
    rfl
  · refine f.F (fun a i hc => ?_)
    unfold chEx at hc
    omega
theorem s_digestAllBut {e : Nat} {n : Int} {T : List Int} {J : zM} {L : yM} {Q : zM → yM → Prop} (he : iSide e) (hT : xTr e J T) (hn : 0 ≤ n ∧ n ≤ (T.length : Int)) (hQ : ∀ J', sg J' (e + 165) 0 32 = hsI (T.take (T.length - n.toNat)) → zF (fun a => (6 ≤ a ∧ a ≤ 10) ∨ a = e + 165) J J' → Q J' L) : w_X5_digestAllBut e n J L Q := by
  have he2 : 139 ≤ e := by unfold iSide at he; omega
  obtain ⟨h1, h2, h3⟩ := hT
  unfold w_X5_digestAllBut
  refine s_clear (fun J1 g1 f1 => ?_)
  have e1 : J1 (e + 144) = J (e + 144) := f1 _ (by unfold c67; omega)
  have e2 : J1 (e + 162) = J (e + 162) := f1 _ (by unfold c67; omega)
  rw [e1, h1]
  refine s_putAll g1 (by omega) (by omega) (by rw [lnS_162 he]; omega) (by simp; omega) (fun J2 g2 f2 => ?_)
  rw [List.nil_append, sg_row e2, show ((T.length : Int) - n).toNat = T.length - n.toNat by omega] at g2
  have e3 : sg J (e + 162) 0 (T.length - n.toNat) = T.take (T.length - n.toNat) := by
    rw [← sg_take J (e + 162) 0 T.length _ (by omega), h2]
  rw [e3] at g2
  refine s_hashInto g2 (by omega) (by rw [lnS_165 he]; decide) (fun J3 h4 _ f3 => hQ J3 h4 ?_)
  exact ((f1.tr f2).mono (fun a q => by unfold c67 at q; omega)).tr (f3.mono (fun a q => by unfold cMac at q; omega))
theorem s_makeEarly {e k : Nat} {J : zM} {L : yM} {Q : zM → yM → Prop} (he : iSide e) (hk : 10 < k) (hk2 : ln0 k ≤ 568) (hZ : xZ e J) (hQ : ∀ J', sg J' (e + 163) 0 32 = earI (sg J k 0 (ln0 k)) → zF (fun a => (6 ≤ a ∧ a ≤ 10) ∨ a = e + 163) J J' → Q J' L) : w_X5_makeEarly e k J L Q := by
  have he2 : 139 ≤ e := by unfold iSide at he; omega
  unfold w_X5_makeEarly
  refine s_clear (fun J1 g1 f1 => ?_)
  refine s_putAll g1 (by omega) (by omega) (by omega) (by simp; omega) (fun J2 g2 f2 => ?_)
  have g12 := f1.tr f2
  rw [List.nil_append, sg_row (f1 k (by unfold c67; omega)), Int.toNat_natCast] at g2
  refine s_macInto g2 (by omega) (by omega) (by rw [lnS_163 he]; decide) (fun J3 h3 _ f3 => hQ J3 ?_ ?_)
  · rw [h3, lnS_167 he, sg_row (g12 _ (by unfold c67; omega))]
    unfold xZ at hZ
    rw [hZ]
    rfl
  · exact (g12.mono (fun a q => by unfold c67 at q; omega)).tr (f3.mono (fun a q => by unfold cMac at q; omega))
theorem s_binderInto {e k o : Nat} {T : List Int} {J : zM} {L : yM} {Q : zM → yM → Prop} (he : iSide e) (hk : 10 < k) (hk2 : ln0 k ≤ 568) (hk3 : k < e + 144 ∨ e + 168 ≤ k) (ho : 10 < o) (ho2 : o < e + 144 ∨ e + 168 ≤ o) (hl : 32 ≤ ln0 o) (hZ : xZ e J) (hT : xTr e J T) (hT2 : 32 ≤ T.length) (hQ : ∀ J', sg J' o 0 32 = bindI (sg J k 0 (ln0 k)) T → (∀ i, ¬ (0 ≤ i ∧ i < 32) → J' o i = J o i) → zF (fun a => cS e a ∨ a = o) J J' → Q J' L) : w_X5_binderInto e k o J L Q := by
  have he2 : 139 ≤ e := by unfold iSide at he; omega
  unfold w_X5_binderInto
  refine s_makeEarly he hk hk2 hZ (fun J1 h1 f1 => ?_)
  refine s_expand (by omega) (by omega) (by decide) (by rw [lnS_164 he]; decide) (lnS_163 he) (fun J2 h2 f2 => ?_)
  rw [h1] at h2
  have g2 : zF (fun a => cS e a) J J2 := (f1.mono (fun a q => by unfold cS; omega)).tr (f2.mono (fun a q => by unfold cS; omega))
  have hT2' : xTr e J2 T := hT.fr (by rw [g2 _ (by unfold cS; omega)]) (g2 _ (by unfold cS; omega))
  refine s_digestAllBut he hT2' (by omega) (fun J3 h3 f3 => ?_)
  have e3 : sg J3 (e + 164) 0 32 = exN (earI (sg J k 0 (ln0 k))) 1000009 := by rw [sg_row (f3 _ (by omega)), h2]
  refine s_clear (fun J4 g4 f4 => ?_)
  refine s_putAll g4 (by decide) (by decide) (by rw [lnS_165 he]; decide) (by decide) (fun J5 g5 f5 => ?_)
  rw [List.nil_append, show sg J4 (e + 165) 0 (32 : Int).toNat = sg J3 (e + 165) 0 32 from sg_row (f4 _ (by unfold c67; omega)), h3] at g5
  have f45 := f4.tr f5
  refine s_macInto g5 (by omega) ho hl (fun J6 h6 h7 f6 => hQ J6 ?_ ?_ ?_)
  · rw [h6, lnS_164 he, sg_row (f45 _ (by unfold c67; omega)), e3]
    rfl
  · intro i hi
    rw [h7 i hi, f45 o (by unfold c67; omega), f3 o (by omega), g2 o (by unfold cS; omega)]
  · refine zF.tr (J1 := J5) (zF.tr (J1 := J3) ((g2.mono (fun a q => Or.inl q)).tr (f3.mono (fun a q => by unfold cS; omega))) (f45.mono (fun a q => by unfold c67 at q; unfold cS; omega))) (f6.mono (fun a q => by unfold cMac at q; unfold cS; omega))
theorem s_finishedInto {e o : Nat} {s : Int} {T : List Int} {J : zM} {L : yM} {Q : zM → yM → Prop} (he : iSide e) (hs : s01 s) (ho : 10 < o) (ho2 : o < e + 144 ∨ e + 168 ≤ o) (hl : 32 ≤ ln0 o) (hT : xTr e J T) (hQ : ∀ J', sg J' o 0 32 = finI (sg J (e + 146 + s.toNat) 0 32) T → (∀ i, ¬ (0 ≤ i ∧ i < 32) → J' o i = J o i) → zF (fun a => cS e a ∨ a = o) J J' → Q J' L) : w_X5_finishedInto e s o J L Q := by
  have he2 : 139 ≤ e := by unfold iSide at he; omega
  have hs2 : s.toNat < 2 := by omega
  have hls : ln0 (e + 146 + s.toNat) = 32 := by
    rcases hs with rfl | rfl
    · exact lnS_146 he
    · exact lnS_147 he
  unfold w_X5_finishedInto
  refine ⟨by omega, ?_⟩
  refine s_expand (by omega) (by omega) (by decide) (by rw [lnS_164 he]; decide) hls (fun J2 h2 f2 => ?_)
  have g2 : zF (fun a => cS e a) J J2 := f2.mono (fun a q => by unfold cS; omega)
  have hT2' : xTr e J2 T := hT.fr (by rw [g2 _ (by unfold cS; omega)]) (g2 _ (by unfold cS; omega))
  refine s_digestAllBut he hT2' (by omega) (fun J3 h3 f3 => ?_)
  rw [show T.length - (0 : Int).toNat = T.length from rfl, List.take_length] at h3
  have e3 : sg J3 (e + 164) 0 32 = exN (sg J (e + 146 + s.toNat) 0 32) 1000019 := by rw [sg_row (f3 _ (by omega)), h2]
  refine s_clear (fun J4 g4 f4 => ?_)
  refine s_putAll g4 (by decide) (by decide) (by rw [lnS_165 he]; decide) (by decide) (fun J5 g5 f5 => ?_)
  rw [List.nil_append, show sg J4 (e + 165) 0 (32 : Int).toNat = sg J3 (e + 165) 0 32 from sg_row (f4 _ (by unfold c67; omega)), h3] at g5
  have f45 := f4.tr f5
  refine s_macInto g5 (by omega) ho hl (fun J6 h6 h7 f6 => hQ J6 ?_ ?_ ?_)
  · rw [h6, lnS_164 he, sg_row (f45 _ (by unfold c67; omega)), e3]
    rfl
  · intro i hi
    rw [h7 i hi, f45 o (by unfold c67; omega), f3 o (by omega), g2 o (by unfold cS; omega)]
  · refine zF.tr (J1 := J5) (zF.tr (J1 := J3) ((g2.mono (fun a q => Or.inl q)).tr (f3.mono (fun a q => by unfold cS; omega))) (f45.mono (fun a q => by unfold c67 at q; unfold cS; omega))) (f6.mono (fun a q => by unfold cMac at q; unfold cS; omega))
