/-! windows: the greatest number, and a bit for it and each of the 63 below -/
def bitI (b : Int64) (k : Int) : Prop := ((yush b k) &&& 1) ≠ 0
theorem and1_01 (v : Int64) : (v &&& 1 = 0 ∧ v &&& 1 ≠ 1) ∨ (v &&& 1 = 1 ∧ v &&& 1 ≠ 0) := by
  have h := land1 v
  have h2 : v.toInt % 2 = 0 ∨ v.toInt % 2 = 1 := by omega
  rcases h2 with q | q
  · left
    rw [q] at h
    have e : v &&& 1 = 0 := l_eq.mpr (h.trans (by decide))
    exact ⟨e, by rw [e]; decide⟩
  · right
    rw [q] at h
    have e : v &&& 1 = 1 := l_eq.mpr (h.trans (by decide))
    exact ⟨e, by rw [e]; decide⟩
/-- whether a number is STALE -/
def staP (g : Int) (b : Int64) (n : Int) : Prop := 64 ≤ g - n ∨ (0 ≤ g - n ∧ bitI b (g - n))
theorem s_refuses {w : Nat} {n g : Int} {b : Int64} {J : zM} {L : yM} {Q : Int → zM → yM → Prop} (hg : J w 0 = g) (hb : L w 1 = b) (hg2 : -1 ≤ g ∧ g < 65536) (hn : 0 ≤ n ∧ n < 65536) (h1 : staP g b n → Q 1 J L) (h0 : ¬ staP g b n → Q 0 J L) : w_X10_refuses w n J L Q := by
  unfold w_X10_refuses
  intro x ex
  rw [hg] at ex
  subst ex
  rw [hb]
  refine ⟨⟨by omega, by omega⟩, ?_⟩
  unfold staP at h1 h0
  by_cases c1 : g - n < 64
  · rw [if_pos c1]
    by_cases c2 : g - n < 0
    · rw [if_pos c2]
      exact h0 (by rintro (q | q) <;> omega)
    · rw [if_neg c2]
      by_cases c3 : zcmp ((yush b (g - n)) &&& 1) 0 = 0
      · rw [if_pos c3]
        refine h0 (fun q => ?_)
        rcases q with q | q
        · omega
        · exact q.2 ((zcmp_eq _ _).mp c3)
      · rw [if_neg c3]
        exact h1 (Or.inr ⟨by omega, fun q => c3 ((zcmp_eq _ _).mpr q)⟩)
  · rw [if_neg c1]
    exact h1 (Or.inl (by omega))
theorem s_isStale {s ep n g : Int} {b : Int64} {J : zM} {L : yM} {Q : Int → zM → yM → Prop} (hs : s01 s) (hep : ep3 ep) (hg : J 545 (4 * s + ep) = g) (hb : L 546 (4 * s + ep) = b) (hg2 : -1 ≤ g ∧ g < 65536) (hn : 0 ≤ n ∧ n < 65536) (h1 : staP g b n → Q 1 J L) (h0 : ¬ staP g b n → Q 0 J L) : w_X12_isStale s ep n J L Q := by
  unfold w_X12_isStale
  intro x ex
  subst ex
  rw [hg, hb]
  refine ⟨by omega, ⟨by omega, by omega⟩, ⟨by omega, by omega⟩, ?_⟩
  unfold staP at h1 h0
  by_cases c1 : g - 64 < n
  · rw [if_pos c1]
    refine ⟨by omega, ⟨by omega, by omega⟩, ?_⟩
    by_cases c2 : g < n
    · rw [if_pos c2]
      exact h0 (by rintro (q | q) <;> omega)
    · rw [if_neg c2]
      refine ⟨by omega, by omega, ?_⟩
      have h01 := and1_01 (yush b (g - n))
      by_cases c3 : zcmp ((yush b (g - n)) &&& 1) 1 = 0
      · rw [if_pos c3]
        have e := (zcmp_eq _ _).mp c3
        exact h1 (Or.inr ⟨by omega, by unfold bitI; rw [e]; decide⟩)
      · rw [if_neg c3]
        refine h0 (fun q => ?_)
        rcases q with q | q
        · omega
        · rcases h01 with u | u
          · exact q.2 u.1
          · exact c3 ((zcmp_eq _ _).mpr u.1)
  · rw [if_neg c1]
    exact h1 (Or.inl (by omega))
/-- a number that came is marked -/
def mkB (g : Int) (b : Int64) (n : Int) : Int64 := if g < n then (if n - g < 64 then (yshl b (n - g)) ||| 1 else 1) else b ||| (yshl 1 (g - n))
def mkG (g n : Int) : Int := if g < n then n else g
theorem s_markX {w : Nat} {n g : Int} {b : Int64} {J : zM} {L : yM} {Q : zM → yM → Prop} (hg : J w 0 = g) (hb : L w 1 = b) (hg2 : -1 ≤ g ∧ g < 65536) (hn : 0 ≤ n ∧ n < 65536) (hst : ¬ staP g b n) (hQ : ∀ J' L', J' w 0 = mkG g n → L' w 1 = mkB g b n → (∀ a i, a ≠ w → J' a i = J a i ∧ L' a i = L a i) → Q J' L') : w_X10_mark w n J L Q := by
  unfold w_X10_mark
  intro x ex
  rw [hg] at ex
  subst ex
  rw [hb]
  refine ⟨⟨by omega, by omega⟩, ?_⟩
  have hlt : g - n < 64 := by
    apply Decidable.byContradiction
    intro q
    exact hst (Or.inl (by omega))
  by_cases c1 : 0 < n - g
  · rw [if_pos c1]
    intro K hK
    have go : ∀ v, v = mkB g b n → K v J L := fun v hv => hK v J L (fun L1 e1 J1 e2 => by
      refine hQ J1 L1 (by rw [e2, zs_s]; unfold mkG; rw [if_pos (by omega)]) (by rw [e1, ys_s]; exact hv) (fun a i ha => ?_)
      exact ⟨by rw [e2, zs_r J ha], by rw [e1, ys_r L ha]⟩)
    by_cases c2 : n - g < 64
    · rw [if_pos c2]
      exact go _ (by unfold mkB; rw [if_pos (by omega), if_pos c2])
    · rw [if_neg c2]
      exact go _ (by unfold mkB; rw [if_pos (by omega), if_neg c2])
  · rw [if_neg c1, if_pos (by omega)]
    intro L1 e1
    refine hQ J L1 (by rw [hg]; unfold mkG; rw [if_neg (by omega)]) ?_ (fun a i ha => ⟨rfl, by rw [e1, ys_r L ha]⟩)
    rw [e1, ys_s]
    unfold mkB
    rw [if_neg (by omega), show -(n - g) = g - n by omega]
theorem yshl10 : yshl 1 0 = 1 := by decide
theorem s_markM {s ep n g : Int} {b : Int64} {J : zM} {L : yM} {Q : zM → yM → Prop} (hs : s01 s) (hep : ep3 ep) (hg : J 545 (4 * s + ep) = g) (hb : L 546 (4 * s + ep) = b) (hg2 : -1 ≤ g ∧ g < 65536) (hn : 0 ≤ n ∧ n < 65536) (hQ : ∀ J' L', J' = zs J 545 (4 * s + ep) (mkG g n) → L' 546 (4 * s + ep) = mkB g b n → (∀ a i, (a ≠ 546 ∨ i ≠ 4 * s + ep) → L' a i = L a i) → Q J' L') : w_X12_mark s ep n J L Q := by
  unfold w_X12_mark
  intro x ex
  subst ex
  refine ⟨by omega, fun K hK => ?_⟩
  rw [hg]
  refine ⟨⟨by omega, by omega⟩, ⟨by omega, by omega⟩, ?_⟩
  by_cases c1 : g < n
  · rw [if_pos c1]
    refine ⟨by omega, fun y ey K2 hK2 => ?_⟩
    have go : ∀ v, v ||| 1 = mkB g b n → K2 v J L := fun v hv => hK2 v J L ⟨by omega, fun L1 e1 => ⟨by omega, fun J1 e2 => hK J1 L1 ⟨by omega, by omega, by omega, fun L2 e3 => by
      refine hQ J1 L2 (by rw [e2]; unfold mkG; rw [if_pos c1]) ?_ (fun a i ha => ?_)
      · rw [e3, ys_s, e1, ys_s, e2, zs_s, Int.sub_self, yshl10]
        exact hv
      · rw [e3, ys_n _ ha, e1, ys_n _ ha]⟩⟩⟩
    rw [hb]
    refine ⟨⟨by omega, by omega⟩, ?_⟩
    by_cases c2 : 63 < y
    · rw [if_pos c2]
      refine go 0 ?_
      unfold mkB
      rw [if_pos c1, if_neg (by omega)]
      decide
    · rw [if_neg c2]
      refine ⟨by omega, go _ ?_⟩
      unfold mkB
      rw [if_pos c1, if_pos (by omega), ey]
  · rw [if_neg c1]
    refine hK J L ⟨by omega, by omega, by omega, fun L2 e3 => hQ J L2 ?_ ?_ (fun a i ha => by rw [e3, ys_n _ ha])⟩
    · unfold mkG
      rw [if_neg c1, ← hg]
      funext c i
      by_cases q : c = 545 ∧ i = 4 * s + ep
      · obtain ⟨rfl, rfl⟩ := q
        rw [zs_s]
      · rw [zs_n _ (by omega)]
    · rw [e3, ys_s, hb, hg]
      unfold mkB
      rw [if_neg c1]
