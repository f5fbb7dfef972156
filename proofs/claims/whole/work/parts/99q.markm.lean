theorem ms_mark {bd s ep n : Int} {A : SA} {J : zM} {L : yM} {Q : zM → yM → Prop} (hs : s01 s) (h : MS s J L A) (ai : AI bd s A) (hep : ep3 ep) (hn : 0 ≤ n ∧ n < 65536) (hQ : ∀ J' L', MS s J' L' (markA ep n A) → MO s J L J' L' → (∀ a, a ≠ 545 → J' a = J a) → Q J' L') : w_X12_mark s ep n J L Q := by
  obtain ⟨a0, a1, a2, a3, a4, a5, a6, a7, a8, a9, a10, a11, a12⟩ := h
  have w := a10 ep hep
  refine s_markM hs hep w.1 w.2 (ai.2.2.2.2.2.2.1 ep hep) hn (fun J' L' q1 q2 q3 => ?_)
  have r : ∀ a, a ≠ 545 → J' a = J a := fun a ha => by rw [q1]; exact zs_r J ha
  have c : ∀ (C : Nat → Prop), ¬ C 545 → oEq s C J J' := fun C hC a i _ hc => by rw [r a (fun q => hC (by rw [← q]; exact hc))]
  refine hQ J' L' ⟨?_, a1.fr (c _ (by omega)), a2.fr (c _ (by omega)), a3.fr hs (c _ (by omega)), ⟨a4.1.fr hs (c _ (by omega)), a4.2.fr (c _ (by omega))⟩, a5.fr (c _ (by omega)), ?_, a7.fr hs (c _ (by omega)), a8.fr (c _ (by omega)), MSn.fr a9 (fun b hb => r b (by omega)) (by rw [r 491 (by omega)]), fun q hq => ?_, a11.fr (c _ (by omega)), mKa a12 (c _ (by omega))⟩ ?_ r
  · have m : M0 s J' L (aZ A) := a0.fr (c _ (by omega)) (fun _ _ _ => rfl)
    show M0 s J' L' (aZ A)
    unfold M0 at m ⊢
    rw [q3 505 s (Or.inl (by decide)), q3 504 s (Or.inl (by decide))]
    exact m
  · intro k hk
    rw [r 537 (by omega)]
    exact a6 k hk
  · show _ = (if q = ep then mkG ((aN A).1 ep) n else (aN A).1 q) ∧ _ = (if q = ep then mkB ((aN A).1 ep) ((aN A).2 ep) n else (aN A).2 q)
    by_cases d : q = ep
    · rw [if_pos d, if_pos d, d]
      exact ⟨by rw [q1, zs_s], q2⟩
    · rw [if_neg d, if_neg d, q3 546 _ (Or.inr (by omega)), q1, zs_n _ (Or.inr (by omega))]
      exact a10 q hq
  · refine ⟨fun a i ho => ?_, fun a i ho => q3 a i ?_, mN_fr (r 509 (by omega)) (r 510 (by omega)) (r 511 (by omega)) s, by rw [r 509 (by omega)], fun hi => mI_fr (r 509 (by omega)) (r 510 (by omega)) hi, fun h30 => by rw [r 491 (by omega)]; exact h30, fun b hb => ⟨r b (by omega), funext (fun i => q3 b i (Or.inl (by omega)))⟩⟩
    · by_cases q : a = 545
      · subst q
        rw [q1]
        exact zs_n _ (Or.inr (by have := ow4 ho (by omega); omega))
      · rw [r a q]
    · rcases ho with ho | ho
      · exact Or.inl (by omega)
      · exact Or.inr (by omega)
/-- counts: 1 EARLY, 2 STALE, 3 FORGED, 4 RIGHT -/
def cntA (k : Nat) (A : SA) : SA := uz (21 + k) (aZ A (21 + k) + 1) A
theorem nx_cnt {k : Nat} {A : SA} (h : ¬ nextA A) : ¬ nextA (cntA k A) := nx_same h (if_neg (by omega)) (if_neg (by omega)) rfl
theorem nx_mark {ep n : Int} {A : SA} (h : ¬ nextA A) : ¬ nextA (markA ep n A) := nx_same h rfl rfl rfl
