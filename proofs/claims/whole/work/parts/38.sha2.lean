/-! the class's Sha by lists of Ints -/
def xT6 (J : zM) (q : List Int) : Prop := J 6 4 = (q.length : Int) ∧ sg J 7 64 q.length = q ∧ q.length ≤ 568
abbrev c67 (a : Nat) : Prop := a = 6 ∨ a = 7
theorem xT6.fr {J J' : zM} {q : List Int} (h : xT6 J q) (h6 : J' 6 = J 6) (h7 : J' 7 = J 7) : xT6 J' q := by
  unfold xT6
  rw [h6, sg_row h7]
  exact h
theorem s_clear {J : zM} {L : yM} {Q : zM → yM → Prop} (hQ : ∀ J', xT6 J' [] → zF c67 J J' → Q J' L) : w_X7_clear J L Q := by
  intro J1 e1
  subst e1
  exact hQ _ ⟨by rw [zs_s]; rfl, rfl, by simp⟩ (zF.zs (Or.inl rfl))
theorem s_put {v : Int} {q : List Int} {J : zM} {L : yM} {Q : zM → yM → Prop} (h : xT6 J q) (hq : q.length < 568) (hQ : ∀ J', xT6 J' (q ++ [v % 256]) → zF c67 J J' → Q J' L) : w_X7_put v J L Q := by
  obtain ⟨h1, h2, h3⟩ := h
  unfold w_X7_put
  refine ⟨⟨by omega, by omega⟩, ?_⟩
  rw [if_pos (by omega)]
  refine ⟨⟨by omega, by omega⟩, fun J1 e1 J2 e2 => hQ J2 ?_ ?_⟩
  · have g1 : J1 6 4 = (q.length : Int) := by rw [e1, zs_r J (by omega)]; exact h1
    refine ⟨by rw [e2, zs_s, g1, List.length_append]; rfl, ?_, by simp; omega⟩
    rw [List.length_append, List.length_singleton, sg_succ, sg_row (show J2 7 = J1 7 by rw [e2]; exact zs_r J1 (by omega)), show J2 7 = J1 7 by rw [e2]; exact zs_r J1 (by omega), e1, h1, zs_s, zand255]
    congr 1
    rw [sg_fr (fun k k0 k1 => zs_n J (Or.inr (by omega)))]
    exact h2
  · rw [e2, e1]
    exact (zF.zs (Or.inr rfl)).tr (zF.zs (Or.inl rfl))
theorem s_putShort {v : Int} {q : List Int} {J : zM} {L : yM} {Q : zM → yM → Prop} (hv : 0 ≤ v ∧ v < 2147483648) (h : xT6 J q) (hq : q.length < 567) (hQ : ∀ J', xT6 J' (q ++ [v / 256 % 256, v % 256]) → zF c67 J J' → Q J' L) : w_X7_putShort v J L Q := by
  unfold w_X7_putShort
  refine s_put h (by omega) (fun J1 h1 f1 => ?_)
  refine s_put h1 (by simp; omega) (fun J2 h2 f2 => hQ J2 ?_ (f1.tr f2))
  rw [zush_n hv (by decide)] at h2
  simpa using h2
theorem s_putAll {p : Nat} {at_ n : Int} {q : List Int} {J : zM} {L : yM} {Q : zM → yM → Prop} (h : xT6 J q) (h0 : 0 ≤ at_) (h1 : 0 ≤ n) (h2 : at_ + n ≤ (ln0 p : Int)) (h3 : (q.length : Int) + n ≤ 568) (hQ : ∀ J', xT6 J' (q ++ sg J p at_ n.toNat) → zF c67 J J' → Q J' L) : w_X7_putAll p at_ n J L Q := by
  obtain ⟨k1, k2, k3⟩ := h
  have hl := ln0_lt p
  unfold w_X7_putAll
  refine ⟨⟨by omega, by omega⟩, ?_⟩
  rw [if_neg (by omega)]
  refine ⟨⟨by omega, by omega⟩, ?_⟩
  rw [if_neg (by omega)]
  refine ⟨⟨by omega, by omega⟩, ⟨by omega, by omega⟩, ?_⟩
  rw [if_neg (by omega)]
  refine ⟨⟨by omega, by omega⟩, ?_⟩
  rw [if_neg (by omega)]
  refine ⟨⟨by omega, by omega, by omega, by omega, by omega⟩, fun J1 e1 J2 e2 => hQ J2 ?_ ?_⟩
  · have g1 : J1 6 4 = (q.length : Int) := by rw [e1, zcp_r J (by omega)]; exact k1
    have g2 : J2 7 = J1 7 := by rw [e2]; exact zs_r J1 (by omega)
    refine ⟨by rw [e2, zs_s, g1, List.length_append, sg_len]; omega, ?_, by rw [List.length_append, sg_len]; omega⟩
    rw [List.length_append, sg_len, sg_app, sg_row g2, sg_row g2, e1, k1, sg_zcp (by omega)]
    congr 1
    rw [sg_fr (fun k c0 c1 => zcp_out J (by omega))]
    exact k2
  · rw [e2, e1]
    exact (zF.zcp (Or.inr rfl)).tr (zF.zs (Or.inl rfl))
/-- what a MAC into the cell o may change -/
abbrev cMac (o a : Nat) : Prop := a = 6 ∨ a = 7 ∨ a = 8 ∨ a = 9 ∨ a = 10 ∨ a = o
theorem s_macInto {k o : Nat} {q : List Int} {J : zM} {L : yM} {Q : zM → yM → Prop} (h : xT6 J q) (hk : 10 < k) (ho : 10 < o) (hl : 32 ≤ ln0 o) (hQ : ∀ J', sg J' o 0 32 = mcI (sg J k 0 (ln0 k)) q → (∀ i, ¬ (0 ≤ i ∧ i < 32) → J' o i = J o i) → zF (cMac o) J J' → Q J' L) : w_X7_macInto k o J L Q := by
  obtain ⟨k1, k2, k3⟩ := h
  refine ⟨⟨by simp; omega, by simp; omega⟩, hl, by omega, fun J' f e => hQ J' ?_ ?_ ?_⟩
  · rw [e, k1, Int.toNat_natCast, k2]
  · intro i hi
    refine f o i ?_
    unfold chMac
    simp
    omega
  · refine f.F (fun a i hc => ?_)
    unfold chMac at hc
    simp at hc
    unfold cMac
    omega
theorem s_hashInto {o : Nat} {q : List Int} {J : zM} {L : yM} {Q : zM → yM → Prop} (h : xT6 J q) (ho : 10 < o) (hl : 32 ≤ ln0 o) (hQ : ∀ J', sg J' o 0 32 = hsI q → (∀ i, ¬ (0 ≤ i ∧ i < 32) → J' o i = J o i) → zF (cMac o) J J' → Q J' L) : w_X7_hashInto o J L Q := by
  obtain ⟨k1, k2, k3⟩ := h
  refine ⟨by simp; omega, hl, by omega, fun J' f e => hQ J' ?_ ?_ ?_⟩
  · rw [e, k1, Int.toNat_natCast, k2]
  · intro i hi
    refine f o i ?_
    unfold chMac
    simp
    omega
  · refine f.F (fun a i hc => ?_)
    unfold chMac at hc
    simp at hc
    unfold cMac
    omega
theorem c67.mac {o a : Nat} (h : c67 a) : cMac o a := by unfold c67 at h; unfold cMac; omega
/-! octets -/
def oct (l : List Int) : Prop := ∀ x ∈ l, 0 ≤ x ∧ x < 256
theorem and255_b (x : Int32) : 0 ≤ (x &&& 255).toInt ∧ (x &&& 255).toInt < 256 := by
  have h := zand255 x.toInt
  unfold zand at h
  rw [oI_of] at h
  have e : (oI 255) = (255 : Int32) := rfl
  rw [e] at h
  rw [h]
  omega
theorem hsI_len (q : List Int) : (hsI q).length = 32 := by unfold hsI HS; simp [oL_len]
theorem mcI_len (k q : List Int) : (mcI k q).length = 32 := by unfold mcI MC; simp [oL_len]
theorem hdig_oct (w : Nat → Int32) (n : Nat) : ∀ x ∈ (oL (hdig w) n).map Int32.toInt, 0 ≤ x ∧ x < 256 := by
  intro x hx
  obtain ⟨y, hy, rfl⟩ := List.mem_map.mp hx
  unfold oL at hy
  obtain ⟨j, _, rfl⟩ := List.mem_map.mp hy
  unfold hdig
  exact and255_b _
theorem hsI_oct (q : List Int) : oct (hsI q) := by unfold hsI HS hsh; exact hdig_oct _ _
theorem mcI_oct (k q : List Int) : oct (mcI k q) := by unfold mcI MC hmac hsh; exact hdig_oct _ _
theorem oct_sg {J : zM} {a : Nat} {i : Int} {c : Nat} : oct (sg J a i c) ↔ ∀ k, i ≤ k → k < i + (c : Int) → 0 ≤ J a k ∧ J a k < 256 := by
  constructor
  · intro h k k0 k1
    refine h _ ?_
    unfold sg
    exact List.mem_map.mpr ⟨(k - i).toNat, List.mem_range.mpr (by omega), by congr 1; omega⟩
  · intro h x hx
    unfold sg at hx
    obtain ⟨j, hj, rfl⟩ := List.mem_map.mp hx
    have := List.mem_range.mp hj
    exact h _ (by omega) (by omega)
theorem oct_app {a b : List Int} : oct (a ++ b) ↔ oct a ∧ oct b := by
  unfold oct
  simp only [List.mem_append]
  exact ⟨fun h => ⟨fun x hx => h x (Or.inl hx), fun x hx => h x (Or.inr hx)⟩, fun h x hx => hx.elim (h.1 x) (h.2 x)⟩
