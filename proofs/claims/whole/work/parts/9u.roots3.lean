theorem s_roots {J : zM} {L : yM} {Q : zM → yM → Prop} (hQ : ∀ J', mK (zi J') → zF (fun a => a = 495 ∨ a = 496) J J' → Q J' L) : w_X12_roots J L Q := by
  unfold w_X12_roots
  refine zl_zz.by (fun m x2 x3 J' L' => ∃ p : Nat, (m : Int) = 312 - (p : Int) ∧ 2 ≤ p ∧ p ≤ 312 ∧ x3 = (p : Int) ∧ x2 = (cnt p : Int) ∧ L' = L ∧ (∀ k : Nat, k < cnt p → J' 496 (k : Int) = (xK64.getD k 0).toInt) ∧ (∀ k : Nat, k < cnt p → k < 8 → J' 495 (k : Int) = (xF8.getD k 0).toInt) ∧ zF (fun a => a = 495 ∨ a = 496) J J') ?_ 310 0 2 J L ⟨2, by omega, by omega, by omega, rfl, by rw [cnt_end.2]; rfl, rfl, fun k hk => absurd hk (by rw [cnt_end.2]; omega), fun k hk => absurd hk (by rw [cnt_end.2]; omega), fun _ _ => rfl⟩
  rintro m x2 x3 J1 L1 K ⟨p, hm, p2, p3, e3, e2, rfl, hk, hf, f⟩ hK
  subst e3
  subst e2
  by_cases pe : p = 312
  · subst pe
    rw [cnt_end.1] at hk hf ⊢
    refine ⟨by decide, ?_⟩
    rw [if_neg (by decide)]
    refine hQ J1 ⟨fun t ht => ?_, fun i hi => ?_⟩ f
    · show oI (J1 496 (t : Int)) = _
      rw [hk t ht, oI_of]
    · show oI (J1 495 (i : Int)) = _
      rw [hf i (by omega) hi, oI_of]
  have ok := cnt_all (p - 2) (by omega)
  rw [show p - 2 + 2 = p by omega] at ok
  unfold cntOk at ok
  rw [Bool.and_eq_true] at ok
  have c64 : cnt p < 64 := of_decide_eq_true ok.1
  refine ⟨⟨by omega, by omega⟩, ?_⟩
  rw [if_pos (by omega)]
  refine s_isPrime ⟨p2, by omega⟩ (fun ip => ?_) (fun np => ?_)
  · have ok2 := ok.2
    rw [ip, if_pos rfl] at ok2
    obtain ⟨q1, q2⟩ := of_decide_eq_true ok2
    intro K14 hK14
    refine if11.mpr ?_
    have ra := of_decide_eq_true (rot_a (cnt p) c64)
    rw [q1] at ra
    refine s_root (c := true) ra ⟨⟨by omega, by omega⟩, fun J2 e2 K24 hK24 => ?_⟩
    have go : ∀ J3 : zM, (∀ k : Nat, k < cnt p + 1 → J3 496 (k : Int) = (xK64.getD k 0).toInt) → (∀ k : Nat, k < cnt p + 1 → k < 8 → J3 495 (k : Int) = (xF8.getD k 0).toInt) → zF (fun a => a = 495 ∨ a = 496) J J3 → K24 J3 L1 := fun J3 a1 a2 a3 => hK24 J3 L1 (hK14 _ J3 L1 (hK (m - 1) _ _ J3 L1 (by omega) ⟨p + 1, by omega, by omega, by omega, by omega, by rw [q2]; omega, rfl, by rw [q2]; exact a1, by rw [q2]; exact a2, a3⟩))
    have k2 : ∀ k : Nat, k < cnt p + 1 → J2 496 (k : Int) = (xK64.getD k 0).toInt := fun k h => by
      rw [e2]
      by_cases q : k = cnt p
      · rw [q, zs_s]
      · rw [zs_n _ (Or.inr (by omega))]; exact hk k (by omega)
    have f2 : zF (fun a => a = 495 ∨ a = 496) J J2 := fun a ha => by rw [e2, zs_r _ (fun q => ha (Or.inr q))]; exact f a ha
    have r495 : J2 495 = J1 495 := by rw [e2]; exact zs_r _ (by decide)
    refine ⟨⟨by omega, by omega⟩, ?_⟩
    by_cases c8 : (cnt p : Int) < 8
    · rw [if_pos c8]
      have rb := of_decide_eq_true (rot_8 (cnt p) (by omega))
      rw [q1] at rb
      refine s_root (c := false) rb ⟨⟨by omega, by omega⟩, fun J3 e3 => go J3 (fun k h => ?_) (fun k h h8 => ?_) (fun a ha => ?_)⟩
      · rw [e3, zs_r _ (by decide)]; exact k2 k h
      · rw [e3]
        by_cases q : k = cnt p
        · rw [q, zs_s]
        · rw [zs_n _ (Or.inr (by omega)), r495]; exact hf k (by omega) h8
      · rw [e3, zs_r _ (fun q => ha (Or.inl q))]; exact f2 a ha
    · rw [if_neg c8]
      exact go J2 k2 (fun k h h8 => by rw [r495]; exact hf k (by omega) h8) f2
  · have ok2 := ok.2
    rw [np] at ok2
    have q2 : cnt (p + 1) = cnt p := of_decide_eq_true ok2
    intro K14 hK14
    refine if01.mpr (hK14 _ J1 L1 (hK (m - 1) _ _ J1 L1 (by omega) ⟨p + 1, by omega, by omega, by omega, by omega, by rw [q2], rfl, by rw [q2]; exact hk, by rw [q2]; exact hf, f⟩))
