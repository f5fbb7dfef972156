theorem mK_fr {J J' : zM} (h : mK (zi J)) (h1 : J' 495 = J 495) (h2 : J' 496 = J 496) : mK (zi J') := by
  unfold mK zi
  rw [h1, h2]
  exact h
theorem copyLoop {src dst : Nat} {M1 M2 N : Int} {Rest : zM → yM → Prop} {J : zM} {L : yM} (hne : src ≠ dst) (hN : 0 ≤ N ∧ N ≤ M1 ∧ N ≤ M2 ∧ N ≤ 3000) (hQ : Rest (zcp J src 0 dst 0 N) L) :
    zl_z (fun K x J' L' => R32 x ∧ (if x < N then ((0 : Int) ≤ x ∧ x < M1) ∧ ((0 : Int) ≤ x ∧ x < M2) ∧ ∀ J'' : zM, J'' = zs J' dst x (J' src x) → K (x + 1) J'' L' else Rest J' L')) 0 J L := by
  refine zl_z.by (fun m x J' L' => (m : Int) = N - x ∧ 0 ≤ x ∧ L' = L ∧ J' = zcp J src 0 dst 0 x) ?_ N.toNat 0 J L ⟨by omega, by omega, rfl, by rw [zcp_0]⟩
  rintro m x J1 L1 K ⟨hm, hx, rfl, e1⟩ hK
  refine ⟨⟨by omega, by omega⟩, ?_⟩
  by_cases c : x < N
  · rw [if_pos c]
    refine ⟨⟨hx, by omega⟩, ⟨hx, by omega⟩, fun J2 e2 => ?_⟩
    refine hK (m - 1) (x + 1) J2 L1 (by omega) ⟨by omega, by omega, rfl, ?_⟩
    rw [e2, e1]
    have := zcp_succ2 (J := J) (a := src) (b := dst) (sp := 0) (dp := 0) hx (Or.inl hne)
    rw [Int.zero_add] at this
    exact this
  · rw [if_neg c]
    have : x = N := by omega
    subst this
    rw [e1]
    exact hQ
theorem s_store {at_ n : Int} {J : zM} {L : yM} {Q : zM → yM → Prop} (h0 : 0 ≤ at_) (h1 : 0 ≤ n ∧ n ≤ 32) (h2 : at_ + n ≤ 2048) (hQ : Q (zcp J 500 0 492 at_ n) L) : w_X12_store at_ n J L Q := by
  unfold w_X12_store
  refine zl_z.by (fun m x J' L' => (m : Int) = n - x ∧ 0 ≤ x ∧ L' = L ∧ J' = zcp J 500 0 492 at_ x) ?_ n.toNat 0 J L ⟨by omega, by omega, rfl, by rw [zcp_0]⟩
  rintro m x J1 L1 K ⟨hm, hx, rfl, e1⟩ hK
  refine ⟨⟨by omega, by omega⟩, ⟨by omega, by omega⟩, ?_⟩
  by_cases c : x < n
  · rw [if_pos c]
    refine ⟨⟨hx, by omega⟩, ⟨by omega, by omega⟩, fun J2 e2 => ?_⟩
    refine hK (m - 1) (x + 1) J2 L1 (by omega) ⟨by omega, by omega, rfl, ?_⟩
    rw [e2, e1]
    have := zcp_succ2 (J := J) (a := 500) (b := 492) (sp := 0) (dp := at_) hx (Or.inl (by decide))
    rw [Int.zero_add] at this
    exact this
  · rw [if_neg c]
    have : x = n := by omega
    subst this
    rw [e1]
    exact hQ
theorem s_isDigest {at_ n : Int} {J : zM} {L : yM} {Q : Int → zM → yM → Prop} (h0 : 0 ≤ at_) (h1 : 0 ≤ n ∧ n ≤ 32) (h2 : at_ + n ≤ 2048) (o1 : oct (sg J 492 at_ n.toNat)) (o2 : oct (sg J 500 0 n.toNat)) (hQ : Q (if sg J 492 at_ n.toNat = sg J 500 0 n.toNat then 1 else 0) J L) : w_X12_isDigest at_ n J L Q := by
  unfold w_X12_isDigest
  refine zl_zz.by (fun m b x J' L' => (m : Int) = n - x ∧ 0 ≤ x ∧ L' = L ∧ J' = J ∧ b = (if sg J 492 at_ x.toNat = sg J 500 0 x.toNat then 1 else 0)) ?_ n.toNat 1 0 J L ⟨by omega, by omega, rfl, rfl, by simp [sg]⟩
  rintro m b x J1 L1 K ⟨hm, hx, rfl, rfl, hb⟩ hK
  refine ⟨⟨by omega, by omega⟩, ⟨by omega, by omega⟩, ?_⟩
  by_cases c : x < n
  · rw [if_pos c]
    refine ⟨⟨by omega, by omega⟩, ⟨by omega, by omega⟩, fun K2 hK2 => ?_⟩
    have b1 := (oct_sg.mp o1) (at_ + x) (by omega) (by omega)
    have b2 := (oct_sg.mp o2) x (by omega) (by omega)
    have hs1 : sg J1 492 at_ (x + 1).toNat = sg J1 492 at_ x.toNat ++ [J1 492 (at_ + x)] := by
      rw [show (x + 1).toNat = x.toNat + 1 by omega, sg_succ, show (x.toNat : Int) = x by omega]
    have hs2 : sg J1 500 0 (x + 1).toNat = sg J1 500 0 x.toNat ++ [J1 500 x] := by
      rw [show (x + 1).toNat = x.toNat + 1 by omega, sg_succ, show (0 : Int) + (x.toNat : Int) = x by omega]
    have hiff : (sg J1 492 at_ (x + 1).toNat = sg J1 500 0 (x + 1).toNat) ↔ (sg J1 492 at_ x.toNat = sg J1 500 0 x.toNat ∧ J1 492 (at_ + x) = J1 500 x) := by
      rw [hs1, hs2]
      constructor
      · intro h
        have h3 := List.append_inj h (by rw [sg_len, sg_len])
        exact ⟨h3.1, by simpa using h3.2⟩
      · rintro ⟨a, b⟩
        rw [a, b]
    refine ⟨⟨by omega, by omega⟩, ⟨by omega, by omega⟩, ?_⟩
    by_cases c2 : J1 492 (at_ + x) = J1 500 x
    · rw [if_pos c2]
      refine hK2 1 J1 L1 (fun y ey => hK (m - 1) y (x + 1) J1 L1 (by omega) ⟨by omega, by omega, rfl, rfl, ?_⟩)
      rw [ey, hb]
      by_cases c3 : sg J1 492 at_ x.toNat = sg J1 500 0 x.toNat
      · rw [if_pos c3, if_pos (hiff.mpr ⟨c3, c2⟩)]; decide
      · rw [if_neg c3, if_neg (fun q => c3 (hiff.mp q).1)]; decide
    · rw [if_neg c2]
      refine hK2 0 J1 L1 (fun y ey => hK (m - 1) y (x + 1) J1 L1 (by omega) ⟨by omega, by omega, rfl, rfl, ?_⟩)
      rw [ey, hb, if_neg (fun q => c2 (hiff.mp q).2)]
      split <;> decide
  · rw [if_neg c]
    have : x = n := by omega
    subst this
    rw [← hb] at hQ
    refine ⟨?_, hQ⟩
    rw [hb]
    split
    · exact Or.inr rfl
    · exact Or.inl rfl
/-- octets of a label in a long, the least first -/
def ll (n : Nat) (v : Int) : List Int := (List.range n).map (fun j : Nat => v / 256 ^ j % 256)
theorem s_addLabel {n : Int} {x : Int64} {fr : Int} {q : List Int} {J : zM} {L : yM} {Q : zM → yM → Prop} (hn : 0 ≤ n ∧ n ≤ 8) (h : mT fr J q) (hq : fr + (q.length : Int) + 9 ≤ 1300) (hQ : ∀ J', mT fr J' (q ++ n :: ll n.toNat x.toInt) → mF c497 t13 J J' → Q J' L) : w_X12_addLabel n x J L Q := by
  unfold w_X12_addLabel
  refine s_madd h (by omega) (fun J0 h0 f0 => ?_)
  rw [show n % 256 = n by omega] at h0
  have hl : (ll n.toNat x.toInt).length = n.toNat := by simp [ll]
  refine zl_z.by (fun m k J' L' => (m : Int) = n - k ∧ 0 ≤ k ∧ L' = L ∧ mT fr J' (q ++ n :: (ll n.toNat x.toInt).take k.toNat) ∧ mF c497 t13 J J') ?_ n.toNat 0 J0 L ⟨by omega, by omega, rfl, by simpa using h0, f0⟩
  rintro m k J1 L1 K ⟨hm, hk, rfl, g1, f1⟩ hK
  refine ⟨⟨by omega, by omega⟩, ⟨by omega, by omega⟩, ?_⟩
  by_cases c : k < n
  · rw [if_pos c]
    refine s_madd g1 (by rw [List.length_append, List.length_cons, List.length_take, hl]; omega) (fun J2 g2 f2 => ?_)
    refine hK (m - 1) (k + 1) J2 L1 (by omega) ⟨by omega, by omega, rfl, ?_, f1.tr f2⟩
    rw [loct (by omega), List.append_assoc, List.cons_append] at g2
    rw [show (k + 1).toNat = k.toNat + 1 by omega, List.take_succ]
    have hget : (ll n.toNat x.toInt)[k.toNat]? = some (x.toInt / 2 ^ (8 * k).toNat % 256) := by
      unfold ll
      rw [List.getElem?_map, List.getElem?_range (by omega)]
      show some (x.toInt / 256 ^ k.toNat % 256) = _
      rw [show (8 * k).toNat = 8 * k.toNat by omega, Int.pow_mul]
      rfl
    rw [hget]
    rw [show x.toInt / 2 ^ (8 * k).toNat % 256 % 256 = x.toInt / 2 ^ (8 * k).toNat % 256 by omega] at g2
    exact g2
  · rw [if_neg c]
    refine hQ J1 ?_ f1
    rw [List.take_of_length_le (by rw [hl]; omega)] at g1
    exact g1
theorem s_expandNone {n : Int} {x : Int64} {k : List Int} {J : zM} {L : yM} {Q : zM → yM → Prop} (hn : 0 ≤ n ∧ n ≤ 8) (hk : mKy J k) (ho : oct k) (hK : mK (zi J)) (hQ : ∀ J', sg J' 500 0 32 = mcI k (n :: (ll n.toNat x.toInt ++ [0])) → mF cCode t13 J J' → Q J' L) : w_X12_expandNone n x J L Q := by
  have hl : (ll n.toNat x.toInt).length = n.toNat := by simp [ll]
  unfold w_X12_expandNone
  refine s_mbegin (fun J1 h1 f1 => ?_)
  refine s_addLabel hn h1 (by simp) (fun J2 h2 f2 => ?_)
  refine s_madd h2 (by simp [hl]; omega) (fun J3 h3 f3 => ?_)
  have f : mF c497 t13 J J3 := ((f1.mono (fun _ q => q.elim) (fun _ q => q)).tr f2).tr f3
  refine s_code h3 (hk.fr (f.1 501 (by decide) (by decide))) ho (mK_fr hK (f.1 495 (by decide) (by decide)) (f.1 496 (by decide) (by decide))) (fun J4 h4 f4 => hQ J4 ?_ ?_)
  · rw [h4]
    simp
  · exact (f.mono (fun a q => Or.inl q) (fun _ q => q)).tr f4
abbrev cExD (a : Nat) : Prop := a = 497 ∨ a = 498 ∨ a = 499 ∨ a = 500 ∨ a = 502
theorem s_expandDigestM {n : Int} {x : Int64} {k : List Int} {J : zM} {L : yM} {Q : zM → yM → Prop} (hn : 0 ≤ n ∧ n ≤ 8) (hk : mKy J k) (ho : oct k) (hK : mK (zi J)) (hd : oct (sg J 500 0 32)) (hQ : ∀ J', sg J' 500 0 32 = mcI k (n :: (ll n.toNat x.toInt ++ 32 :: sg J 500 0 32)) → mF cExD t13 J J' → Q J' L) : w_X12_expandDigest n x J L Q := by
  have hl : (ll n.toNat x.toInt).length = n.toNat := by simp [ll]
  unfold w_X12_expandDigest
  refine copyLoop (by decide) (by decide) ?_
  obtain ⟨J0, e0⟩ : ∃ J0, J0 = zcp J 500 0 502 0 32 := ⟨_, rfl⟩
  rw [← e0]
  have f0 : mF cExD t13 J J0 := by rw [e0]; exact mF_zcp (S := cExD) (b := 502) (by decide) (by decide)
  have hs : sg J0 502 0 32 = sg J 500 0 32 := by rw [e0, sg_zcp (by decide)]
  refine s_mbegin (fun J1 h1 f1 => ?_)
  refine s_addLabel hn h1 (by simp) (fun J2 h2 f2 => ?_)
  refine s_madd h2 (by simp [hl]; omega) (fun J3 h3 f3 => ?_)
  have g3 : mF c497 t13 J0 J3 := ((f1.mono (fun _ q => q.elim) (fun _ q => q)).tr f2).tr f3
  have hs3 : sg J3 502 0 32 = sg J 500 0 32 := by rw [sg_row (g3.1 502 (by decide) (by decide)), hs]
  refine addLoop (src := 502) (by decide) (by decide) h3 (by simp [hl]; omega) (by show oct (sg J3 502 0 32); rw [hs3]; exact hd) (fun J4 h4 f4 => ?_)
  have g4 : mF c497 t13 J0 J4 := g3.tr f4
  have g5 : mF cExD t13 J J4 := f0.tr (g4.mono (fun a q => Or.inl q) (fun _ q => q))
  refine s_code h4 (hk.fr (g5.1 501 (by decide) (by decide))) ho (mK_fr hK (g5.1 495 (by decide) (by decide)) (g5.1 496 (by decide) (by decide))) (fun J5 h5 f5 => hQ J5 ?_ ?_)
  · rw [h5, show sg J3 502 0 (32 : Int).toNat = sg J 500 0 32 from hs3]
    simp
  · exact g5.tr (f5.mono (fun a q => by unfold cCode at q; unfold cExD; omega) (fun _ q => q))
