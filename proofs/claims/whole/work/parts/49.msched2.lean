theorem mTr.fr {s many : Int} {J J' : zM} {T : List Int} (h : mTr s many J T) (hf : ∀ k, 1024 * s + 512 ≤ k → k < 1024 * s + 950 → J' 492 k = J 492 k) : mTr s many J' T := by
  obtain ⟨m1, m2, m3, m4, h1, h2, h3, h4, rfl⟩ := h
  exact ⟨m1, m2, m3, m4, h1.fr (fun k k0 k1 => hf k (by omega) (by omega)), fun c => (h2 c).fr (fun k k0 k1 => hf k (by omega) (by omega)), fun c => (h3 c).fr (fun k k0 k1 => hf k (by omega) (by omega)), fun c => (h4 c).fr (fun k k0 k1 => hf k (by omega) (by omega)), rfl⟩
/-- only the hash's cells, own outside of U, and the length of the text changed -/
abbrev cH (a : Nat) : Prop := 497 ≤ a ∧ a ≤ 502
def mO (U : Int → Prop) (J J' : zM) : Prop := mF (fun a => cH a ∨ a = 492) t13 J J' ∧ ∀ k, ¬ U k → J' 492 k = J 492 k
theorem mO.tr {U : Int → Prop} {J J1 J2 : zM} (h1 : mO U J J1) (h2 : mO U J1 J2) : mO U J J2 := ⟨h1.1.tr h2.1, fun k hk => (h2.2 k hk).trans (h1.2 k hk)⟩
theorem mO.mono {U U' : Int → Prop} {J J' : zM} (h : mO U J J') (hU : ∀ k, U k → U' k) : mO U' J J' := ⟨h.1, fun k hk => h.2 k (fun q => hk (hU k q))⟩
theorem mO.ofF {U : Int → Prop} {S : Nat → Prop} {T : Int → Prop} {J J' : zM} (h : mF S T J J') (hS : ∀ a, S a → cH a) (hT : ∀ k, T k → k = 13) : mO U J J' := ⟨h.mono (fun a q => Or.inl (hS a q)) hT, fun k _ => by rw [h.1 492 (fun q => by have := hS 492 q; unfold cH at this; omega) (by decide)]⟩
theorem mO.store {U : Int → Prop} {J : zM} {at_ n : Int} (h : ∀ k, at_ ≤ k → k < at_ + n → U k) : mO U J (zcp J 500 0 492 at_ n) := ⟨mF_zcp (S := fun a => cH a ∨ a = 492) (b := 492) (Or.inr rfl) (by decide), fun k hk => zcp_out J (fun q => hk (h k q.1 q.2))⟩
theorem mO.K {U : Int → Prop} {J J' : zM} (h : mO U J J') (hK : mK (zi J)) : mK (zi J') := mK_fr hK (h.1.1 495 (by unfold cH; omega) (by decide)) (h.1.1 496 (by unfold cH; omega) (by decide))
theorem mO.sg {U : Int → Prop} {J J' : zM} (h : mO U J J') {at_ : Int} {n : Nat} (hU : ∀ k, at_ ≤ k → k < at_ + (n : Int) → ¬ U k) : sg J' 492 at_ n = sg J 492 at_ n := sg_fr (fun k k0 k1 => h.2 k (hU k k0 k1))
theorem s_early {s : Int} {J : zM} {L : yM} {Q : zM → yM → Prop} (hs : s01 s) (hK : mK (zi J)) (ho : oct (sg J 492 (1024 * s) 16)) (hQ : ∀ J', sg J' 492 (1024 * s + 32) 32 = earI (sg J 492 (1024 * s) 16) → mO (fun k => 1024 * s + 32 ≤ k ∧ k < 1024 * s + 64) J J' → Q J' L) : w_X12_early s J L Q := by
  unfold w_X12_early
  refine zl_z.by (fun m x J' L' => (m : Int) = 64 - x ∧ 0 ≤ x ∧ L' = L ∧ (∀ j : Nat, (j : Int) < x → J' 501 (j : Int) = 0) ∧ mF (fun a => a = 501) (fun _ => False) J J') ?_ 64 0 J L ⟨by omega, by omega, rfl, fun j hj => absurd hj (by omega), mF.rf⟩
  rintro m x J1 L1 K ⟨hm, hx, rfl, g1, f1⟩ hKK
  refine ⟨⟨by omega, by omega⟩, ?_⟩
  by_cases c : x < 64
  · rw [if_pos c]
    refine ⟨⟨hx, c⟩, fun J2 e2 => hKK (m - 1) (x + 1) J2 L1 (by omega) ⟨by omega, by omega, rfl, fun j hj => ?_, ?_⟩⟩
    · by_cases q : (j : Int) = x
      · rw [q, e2, zs_s]
      · rw [e2, zs_n J1 (Or.inr q)]
        exact g1 j (by omega)
    · rw [e2]
      exact f1.tr (mF_zs rfl (by omega))
  · rw [if_neg c]
    have hky : mKy J1 Z32 := ⟨by decide, fun j hj => by
      rw [g1 j (by omega)]
      unfold Z32
      rw [List.getD_eq_getElem?_getD, List.getElem?_replicate]
      split <;> rfl⟩
    have o1 : J1 492 = J 492 := f1.1 492 (by decide) (by decide)
    refine s_mbegin (fun J2 h2 f2 => ?_)
    have o2 : J2 492 = J1 492 := f2.1 492 (fun q => q) (by decide)
    rw [show 1024 * s + 0 = 1024 * s by omega]
    have e16 : sg J2 492 (1024 * s) (16 : Int).toNat = sg J 492 (1024 * s) 16 := sg_row (o2.trans o1)
    refine s_addOwn h2 (by omega) (by decide) (by omega) (by simp) (by rw [e16]; exact ho) (fun J3 h3 f3 => ?_)
    rw [e16, List.nil_append] at h3
    have f23 : mF c497 t13 J1 J3 := (f2.mono (fun _ q => q.elim) (fun _ q => q)).tr f3
    have a3 : mO (fun k => 1024 * s + 32 ≤ k ∧ k < 1024 * s + 64) J J3 := (mO.ofF f1 (fun a q => by unfold cH; omega) (fun k q => q.elim)).tr (mO.ofF f23 (fun a q => by unfold c497 at q; unfold cH; omega) (fun k q => q))
    refine s_code h3 (hky.fr (f23.1 501 (by decide) (by decide))) (by unfold Z32 oct; decide) (a3.K hK) (fun J4 h4 f4 => ?_)
    have a4 := a3.tr (mO.ofF f4 (fun a q => by unfold cCode at q; unfold cH; omega) (fun k q => q))
    refine s_store (by omega) (by decide) (by omega) (hQ _ ?_ (a4.tr (mO.store (fun k k0 k1 => by omega))))
    rw [show sg (zcp J4 500 0 492 (1024 * s + 32) 32) 492 (1024 * s + 32) 32 = sg J4 500 0 32 from sg_zcp (by decide), h4]
    rfl
theorem s_makeSecret {s w from_ many : Int} {x : Int64} {sn : Nat} {T : List Int} {J : zM} {L : yM} {Q : zM → yM → Prop} (hs : s01 s) (hw : 0 ≤ w ∧ w < 4) (hfr : from_ = 64 ∨ from_ = 96) (hm : 0 ≤ many ∧ many ≤ 4) (hl : lab 3 x sn) (hT : mTr s many J T) (hK : mK (zi J)) (ho : oct (sg J 492 (1024 * s + from_) 32)) (hQ : ∀ J', sg J' 492 (1024 * s + 128 + 32 * w) 32 = exD (sg J 492 (1024 * s + from_) 32) sn (hsI T) → sg J' 492 (1024 * s + 256 + 64 * w) 32 = exN (exD (sg J 492 (1024 * s + from_) 32) sn (hsI T)) 1000017 → sg J' 492 (1024 * s + 256 + 64 * w + 32) 32 = exN (exD (sg J 492 (1024 * s + from_) 32) sn (hsI T)) 1000018 → mO (fun k => (1024 * s + 128 + 32 * w ≤ k ∧ k < 1024 * s + 128 + 32 * w + 32) ∨ (1024 * s + 256 + 64 * w ≤ k ∧ k < 1024 * s + 256 + 64 * w + 64)) J J' → Q J' L) : w_X12_makeSecret s w from_ many x J L Q := by
  unfold w_X12_makeSecret
  intro b eb
  subst eb
  obtain ⟨U, hU⟩ : ∃ U : Int → Prop, U = fun k => (1024 * s + 128 + 32 * w ≤ k ∧ k < 1024 * s + 128 + 32 * w + 32) ∨ (1024 * s + 256 + 64 * w ≤ k ∧ k < 1024 * s + 256 + 64 * w + 64) := ⟨_, rfl⟩
  rw [← hU] at hQ
  have u1 : ∀ k, 1024 * s + 128 + 32 * w ≤ k → k < 1024 * s + 128 + 32 * w + 32 → U k := fun k a b => by rw [hU]; exact Or.inl ⟨a, b⟩
  have u2 : ∀ k, 1024 * s + 256 + 64 * w ≤ k → k < 1024 * s + 256 + 64 * w + 64 → U k := fun k a b => by rw [hU]; exact Or.inr ⟨a, b⟩
  have u3 : ∀ k, k < 1024 * s + 128 → ¬ U k := fun k a => by rw [hU]; simp only; omega
  obtain ⟨A, hA⟩ : ∃ A, A = exD (sg J 492 (1024 * s + from_) 32) sn (hsI T) := ⟨_, rfl⟩
  rw [← hA] at hQ
  have oA : oct A := by rw [hA]; exact mcI_oct _ _
  have key : ∀ {J' : zM} (at_ : Int) (l : List Int), sg J' 492 at_ 32 = l → sg J' 492 at_ (32 : Int).toNat = l := fun _ _ h => h
  refine s_transcript hs hm hT hK (fun J1 h1 f1 => ?_)
  have a1 : mO U J J1 := mO.ofF f1 (fun a q => by unfold cCode at q; unfold cH; omega) (fun k q => q)
  refine s_keyOwn (by omega) (by decide) (by omega) (fun J2 k2 f2 => ?_)
  have a2 := a1.tr (mO.ofF f2 (fun a q => by unfold cH; omega) (fun k q => q.elim))
  have e2 : sg J1 492 (1024 * s + from_) (32 : Int).toNat = sg J 492 (1024 * s + from_) 32 := a1.sg (fun k k0 k1 => u3 k (by omega))
  rw [e2] at k2
  have d2 : sg J2 500 0 32 = hsI T := by rw [sg_row (f2.1 500 (by decide) (by decide)), h1]
  refine s_exD hl (by decide) k2 ho (a2.K hK) (by rw [d2]; exact hsI_oct _) (fun J3 h3 f3 => ?_)
  rw [d2, ← hA] at h3
  have a3 := a2.tr (mO.ofF f3 (fun a q => by unfold cExD at q; unfold cH; omega) (fun k q => q))
  refine s_store (by omega) (by decide) (by omega) ?_
  obtain ⟨J4, e4⟩ : ∃ J4, J4 = zcp J3 500 0 492 (1024 * s + 128 + 32 * w) 32 := ⟨_, rfl⟩
  rw [← e4]
  have s4 : sg J4 492 (1024 * s + 128 + 32 * w) 32 = A := by rw [e4, ← h3]; exact sg_zcp (by decide)
  have a4 : mO U J J4 := by rw [e4]; exact a3.tr (mO.store (fun k k0 k1 => u1 k k0 k1))
  refine s_keyOwn (by omega) (by decide) (by omega) (fun J5 k5 f5 => ?_)
  rw [key _ _ s4] at k5
  have a5 := a4.tr (mO.ofF f5 (fun a q => by unfold cH; omega) (fun k q => q.elim))
  refine s_exN lab_key (by decide) k5 oA (a5.K hK) (fun J6 h6 f6 => ?_)
  have a6 := a5.tr (mO.ofF f6 (fun a q => by unfold cCode at q; unfold cH; omega) (fun k q => q))
  refine s_store (by omega) (by decide) (by omega) ?_
  obtain ⟨J7, e7⟩ : ∃ J7, J7 = zcp J6 500 0 492 (1024 * s + 256 + 64 * w) 32 := ⟨_, rfl⟩
  rw [← e7]
  have o6 : J6 492 = J4 492 := by rw [f6.1 492 (by decide) (by decide), f5.1 492 (by decide) (by decide)]
  have s7 : sg J7 492 (1024 * s + 256 + 64 * w) 32 = exN A 1000017 := by rw [e7, ← h6]; exact sg_zcp (by decide)
  have s7a : sg J7 492 (1024 * s + 128 + 32 * w) 32 = A := by
    rw [e7, sg_fr (fun k k0 k1 => zcp_out J6 (by omega)), sg_row o6, s4]
  have a7 : mO U J J7 := by rw [e7]; exact a6.tr (mO.store (fun k k0 k1 => u2 k k0 (by omega)))
  refine s_keyOwn (by omega) (by decide) (by omega) (fun J8 k8 f8 => ?_)
  rw [key _ _ s7a] at k8
  have a8 := a7.tr (mO.ofF f8 (fun a q => by unfold cH; omega) (fun k q => q.elim))
  refine s_exN lab_sn (by decide) k8 oA (a8.K hK) (fun J9 h9 f9 => ?_)
  have a9 := a8.tr (mO.ofF f9 (fun a q => by unfold cCode at q; unfold cH; omega) (fun k q => q))
  refine s_store (by omega) (by decide) (by omega) ?_
  have o9 : J9 492 = J7 492 := by rw [f9.1 492 (by decide) (by decide), f8.1 492 (by decide) (by decide)]
  refine hQ _ ?_ ?_ ?_ (a9.tr (mO.store (fun k k0 k1 => u2 k (by omega) (by omega))))
  · rw [sg_fr (fun k k0 k1 => zcp_out J9 (by omega)), sg_row o9, s7a]
  · rw [sg_fr (fun k k0 k1 => zcp_out J9 (by omega)), sg_row o9, s7]
  · rw [show sg (zcp J9 500 0 492 (1024 * s + 256 + 64 * w + 32) 32) 492 (1024 * s + 256 + 64 * w + 32) 32 = sg J9 500 0 32 from sg_zcp (by decide), h9]
/-- what the model has of EPOCH 2, of EPOCH 3 -/
def mTwo (s : Int) (J : zM) (hand T : List Int) : Prop := sg J 492 (1024 * s + 64) 32 = hand ∧ sg J 492 (1024 * s + 96) 32 = mainI hand ∧ sg J 492 (1024 * s + 128) 32 = exD hand 1000015 (hsI T) ∧ sg J 492 (1024 * s + 160) 32 = exD hand 1000016 (hsI T) ∧ sg J 492 (1024 * s + 256) 32 = exN (exD hand 1000015 (hsI T)) 1000017 ∧ sg J 492 (1024 * s + 320) 32 = exN (exD hand 1000016 (hsI T)) 1000017 ∧ sg J 492 (1024 * s + 288) 32 = exN (exD hand 1000015 (hsI T)) 1000018 ∧ sg J 492 (1024 * s + 352) 32 = exN (exD hand 1000016 (hsI T)) 1000018
def mThree (s : Int) (J : zM) (main T : List Int) : Prop := sg J 492 (1024 * s + 192) 32 = exD main 1000020 (hsI T) ∧ sg J 492 (1024 * s + 224) 32 = exD main 1000021 (hsI T) ∧ sg J 492 (1024 * s + 384) 32 = exN (exD main 1000020 (hsI T)) 1000017 ∧ sg J 492 (1024 * s + 448) 32 = exN (exD main 1000021 (hsI T)) 1000017 ∧ sg J 492 (1024 * s + 416) 32 = exN (exD main 1000020 (hsI T)) 1000018 ∧ sg J 492 (1024 * s + 480) 32 = exN (exD main 1000021 (hsI T)) 1000018
theorem s_epochThree {s : Int} {T : List Int} {J : zM} {L : yM} {Q : zM → yM → Prop} (hs : s01 s) (hT : mTr s 4 J T) (hK : mK (zi J)) (ho : oct (sg J 492 (1024 * s + 96) 32)) (hQ : ∀ J1 J', mThree s J' (sg J 492 (1024 * s + 96) 32) T → mO (fun k => (1024 * s + 192 ≤ k ∧ k < 1024 * s + 256) ∨ (1024 * s + 384 ≤ k ∧ k < 1024 * s + 512)) J J1 → J' = zs J1 507 s 1 → Q J' L) : w_X12_epochThree s J L Q := by
  have hs2 : 0 ≤ s ∧ s < 2 := by omega
  unfold w_X12_epochThree
  refine s_makeSecret hs (by decide) (Or.inr rfl) (by decide) lab_cap hT hK ho (fun J1 p1 p2 p3 a1 => ?_)
  have e1 : sg J1 492 (1024 * s + 96) 32 = sg J 492 (1024 * s + 96) 32 := a1.sg (fun k k0 k1 => by omega)
  refine s_makeSecret hs (by decide) (Or.inr rfl) (by decide) lab_sap (hT.fr (fun k k0 k1 => a1.2 k (by omega))) (a1.K hK) (by rw [e1]; exact ho) (fun J2 q1 q2 q3 a2 => ⟨hs2, fun J3 e3 => ?_⟩)
  rw [e1] at q1 q2 q3
  have r3 : J3 492 = J2 492 := by rw [e3]; exact zs_r J2 (by decide)
  refine hQ J2 J3 ⟨?_, ?_, ?_, ?_, ?_, ?_⟩ ((a1.mono (fun k q => by omega)).tr (a2.mono (fun k q => by omega))) e3
  · rw [sg_row r3, show 1024 * s + 192 = 1024 * s + 128 + 32 * 2 by omega, a2.sg (fun k k0 k1 => by omega)]; exact p1
  · rw [sg_row r3, show 1024 * s + 224 = 1024 * s + 128 + 32 * 3 by omega]; exact q1
  · rw [sg_row r3, show 1024 * s + 384 = 1024 * s + 256 + 64 * 2 by omega, a2.sg (fun k k0 k1 => by omega)]; exact p2
  · rw [sg_row r3, show 1024 * s + 448 = 1024 * s + 256 + 64 * 3 by omega]; exact q2
  · rw [sg_row r3, show 1024 * s + 416 = 1024 * s + 256 + 64 * 2 + 32 by omega, a2.sg (fun k k0 k1 => by omega)]; exact p3
  · rw [sg_row r3, show 1024 * s + 480 = 1024 * s + 256 + 64 * 3 + 32 by omega]; exact q3
