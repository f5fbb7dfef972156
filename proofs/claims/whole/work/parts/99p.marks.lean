/-! a record's NUMBER is marked -/
def markA (ep n : Int) (A : SA) : SA := un ep (mkG ((aN A).1 ep) n) (mkB ((aN A).1 ep) ((aN A).2 ep) n) A
theorem AI_mark {bd s ep n : Int} {A : SA} (ai : AI bd s A) (hep : ep3 ep) (hn : 0 ≤ n ∧ n < 65536) : AI bd s (markA ep n A) := by
  obtain ⟨h1, h2, h3, h4, h5, h6, h7, h8⟩ := ai
  refine ⟨h1, h2, h3, h4, h5, h6, fun q hq => ?_, h8⟩
  have a := h7 ep hep
  have b := h7 q hq
  show -1 ≤ (if q = ep then mkG ((aN A).1 ep) n else (aN A).1 q) ∧ (if q = ep then mkG ((aN A).1 ep) n else (aN A).1 q) < 65536
  by_cases c : q = ep
  · rw [if_pos c]
    unfold mkG
    split <;> omega
  · rw [if_neg c]
    exact b
theorem XS.mark {e : Nat} {s ep g : Int} {b : Int64} {A : SA} {J J' : zM} {L L' : yM} (he : iSide e) (h : XS e s J L A) (hep : ep3 ep) (h1 : J' (e + 172 + ep.toNat) 0 = g) (h2 : L' (e + 172 + ep.toNat) 1 = b) (f : ∀ a i, a ≠ e + 172 + ep.toNat → J' a i = J a i ∧ L' a i = L a i) : XS e s J' L' (un ep g b A) ∧ XO e J L J' L' := by
  have he2 : 139 ≤ e := by unfold iSide at he; omega
  have ep4 : ep.toNat ≤ 3 := by omega
  have r : ∀ a, ¬ (e + 172 ≤ a ∧ a ≤ e + 175) → J' a = J a := fun a ha => funext (fun i => (f a i (by omega)).1)
  have rl : ∀ a, ¬ (e + 172 ≤ a ∧ a ≤ e + 175) → L' a = L a := fun a ha => funext (fun i => (f a i (by omega)).2)
  obtain ⟨a0, a1, a2, a3, a4, a5, a6, a7, a8, a9, a10⟩ := h
  refine ⟨⟨a0.fr (r e (by omega)), a1.fr (r (e + 1) (by omega)) (rl (e + 1) (by omega)), a2.fr (fun a p q => r a (by omega)), a3.fr (fun a p q => r a (by omega)) (fun k _ => by rw [r (e + 8) (by omega)]), a4.fr (fun a p q => r a (by omega)), a5.fr (fun a p q => r a (by omega)), a6.fr (r (e + 37) (by omega)), a7.fr he (fun a p q => r a (by omega)), a8.fr (fun a p q => r a (by omega)) (r (e + 167) (by omega)), a9.fr (fun x p => r x ?_) (by rw [r _ (by omega)]), fun q hq => ?_⟩, fun a ha => r a (fun q => ha (Or.inl (by omega))), fun a ha => rl a (fun q => ha (Or.inl (by omega)))⟩
  · rcases p with p | p | p | p | p
    · omega
    · omega
    · omega
    · omega
    · have := wy_out he p; omega
  · show _ = (if q = ep then g else (aN A).1 q) ∧ _ = (if q = ep then b else (aN A).2 q)
    by_cases c : q = ep
    · rw [if_pos c, if_pos c, c]
      exact ⟨h1, h2⟩
    · rw [if_neg c, if_neg c]
      have ne : e + 172 + q.toNat ≠ e + 172 + ep.toNat := by omega
      rw [(f _ 0 ne).1, (f _ 1 ne).2]
      exact a10 q hq
/-- the class marks -/
theorem xs_mark {e : Nat} {bd s ep n : Int} {A : SA} {J : zM} {L : yM} {Q : zM → yM → Prop} (he : iSide e) (h : XS e s J L A) (ai : AI bd s A) (hep : ep3 ep) (hn : 0 ≤ n ∧ n < 65536) (hst : ¬ staP ((aN A).1 ep) ((aN A).2 ep) n) (hQ : ∀ J' L', XS e s J' L' (markA ep n A) → XO e J L J' L' → (∀ a, a < 139 → J' a = J a) → Q J' L') : w_X10_mark (e + 172 + ep.toNat) n J L Q := by
  have he2 : 139 ≤ e := by unfold iSide at he; omega
  have w := h.2.2.2.2.2.2.2.2.2.2 ep hep
  refine s_markX w.1 w.2 (ai.2.2.2.2.2.2.1 ep hep) hn hst (fun J' L' q1 q2 q3 => ?_)
  have m := XS.mark he h hep q1 q2 q3
  exact hQ J' L' m.1 m.2 (fun a ha => funext (fun i => (q3 a i (by omega)).1))
