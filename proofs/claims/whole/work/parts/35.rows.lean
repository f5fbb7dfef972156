/-! lists by an index: mr n f = [f 0, .., f (n - 1)] -/
def mr {α : Type} (n : Int) (f : Int → α) : List α := (List.range n.toNat).map (fun j : Nat => f (j : Int))
theorem mr_len {α : Type} (n : Int) (f : Int → α) : (mr n f).length = n.toNat := by simp [mr]
theorem mr_cong {α : Type} {n : Int} {f g : Int → α} (h : ∀ i, 0 ≤ i → i < n → f i = g i) : mr n f = mr n g := by
  unfold mr
  refine List.map_congr_left (fun j hj => ?_)
  have := List.mem_range.mp hj
  exact h _ (by omega) (by omega)
theorem mr_get {α : Type} {n : Int} {f : Int → α} {j : Nat} (h : (j : Int) < n) : (mr n f)[j]? = some (f j) := by
  have h2 : j < n.toNat := by omega
  simp [mr, h2]
theorem mr_getD {α : Type} {n i : Int} {f : Int → α} {d : α} (h0 : 0 ≤ i) (h : i < n) : (mr n f).getD i.toNat d = f i := by
  rw [List.getD_eq_getElem?_getD, mr_get (by omega), Int.toNat_of_nonneg h0]
  rfl
theorem mr_succ {α : Type} {n : Int} {f : Int → α} (h : 0 ≤ n) : mr (n + 1) f = mr n f ++ [f n] := by
  obtain ⟨k, rfl⟩ := Int.eq_ofNat_of_zero_le h
  unfold mr
  rw [show ((k : Int) + 1).toNat = k + 1 by omega, Int.toNat_natCast, List.range_succ, List.map_append]
  rfl
theorem mr_erase {α : Type} {n i : Int} {f : Int → α} (h0 : 0 ≤ i) (h : i < n) : (mr n f).eraseIdx i.toNat = mr (n - 1) (fun k => if k < i then f k else f (k + 1)) := by
  apply List.ext_getElem?
  intro j
  rw [List.getElem?_eraseIdx]
  by_cases hj : j < i.toNat
  · rw [if_pos hj, mr_get (by omega), mr_get (by omega), if_pos (by omega)]
  · rw [if_neg hj]
    by_cases hn : (j : Int) < n - 1
    · rw [mr_get (by omega), mr_get hn, if_neg (by omega)]
      rfl
    · rw [List.getElem?_eq_none (by rw [mr_len]; omega), List.getElem?_eq_none (by rw [mr_len]; omega)]
theorem mr_set {α : Type} {n i : Int} {f : Int → α} {v : α} (h0 : 0 ≤ i) : (mr n f).set i.toNat v = mr n (fun k => if k = i then v else f k) := by
  apply List.ext_getElem?
  intro j
  by_cases hn : (j : Int) < n
  · rw [mr_get hn]
    by_cases hj : (j : Int) = i
    · have e : i.toNat = j := by omega
      rw [e, List.getElem?_set_self (by rw [mr_len]; omega), if_pos hj]
    · rw [List.getElem?_set_ne (by omega), mr_get hn, if_neg hj]
  · rw [List.getElem?_eq_none (by rw [List.length_set, mr_len]; omega), List.getElem?_eq_none (by rw [mr_len]; omega)]
/-! the Rows of the class: places by the order -/
abbrev rO (r : Nat) (J : zM) (i : Int) : Int := J (r + 3 + rq r) i
abbrev rN (r : Nat) (J : zM) (p : Int) : Int := J (r + 2 + rq r) p
def rD (r : Nat) (J : zM) (i : Int) : List Int := sg J (r + 2 + (rO r J i).toNat) 0 (rN r J (rO r J i)).toNat
def rL (r : Nat) (J : zM) : List (List Int) := mr (J r 5) (rD r J)
def iR (r : Nat) (J : zM) : Prop := (0 ≤ J r 5 ∧ J r 5 ≤ (rq r : Int)) ∧ (J r 0 = (rq r : Int) ∧ J r 1 = (rw0 r : Int)) ∧ (∀ i, 0 ≤ i → i < (rq r : Int) → 0 ≤ rO r J i ∧ rO r J i < (rq r : Int)) ∧ (∀ i j, 0 ≤ i → i < (rq r : Int) → 0 ≤ j → j < (rq r : Int) → rO r J i = rO r J j → i = j) ∧ ∀ i, 0 ≤ i → i < J r 5 → 0 ≤ rN r J (rO r J i) ∧ rN r J (rO r J i) ≤ (rw0 r : Int)
abbrev cR (r a : Nat) : Prop := r ≤ a ∧ a ≤ r + 3 + rq r
theorem rL_len (r : Nat) (J : zM) : (rL r J).length = (J r 5).toNat := mr_len _ _
theorem rL_fr {r : Nat} {J J' : zM} (h : zF (fun a => ¬ cR r a) J J') (hi : iR r J) : rL r J' = rL r J ∧ iR r J' := by
  have h0 : ∀ a, cR r a → J' a = J a := fun a ha => h a (fun q => q ha)
  have e1 := h0 r (by unfold cR; omega)
  have e2 := h0 (r + 3 + rq r) (by unfold cR; omega)
  have e3 := h0 (r + 2 + rq r) (by unfold cR; omega)
  refine ⟨?_, ?_⟩
  · unfold rL
    rw [e1]
    refine mr_cong (fun i i0 i1 => ?_)
    unfold rD rO rN
    rw [e2, e3]
    have := hi.2.2.1 i i0 (by have := hi.1; omega)
    exact sg_row (h0 _ (by unfold cR; unfold rO at this; omega))
  · unfold iR rO rN
    rw [e1, e2, e3]
    exact hi
theorem rq_b (r : Nat) : 60 ≤ rq r ∧ rq r ≤ 100 := by unfold rq; split <;> omega
theorem rw0_b (r : Nat) : 60 ≤ rw0 r ∧ rw0 r ≤ 500 := by unfold rw0; split <;> omega
theorem s_lengthOf {r : Nat} {i : Int} {J : zM} {L : yM} {Q : Int → zM → yM → Prop} (hi : iR r J) (h0 : 0 ≤ i) (h1 : i < J r 5) (hQ : Q (rN r J (rO r J i)) J L) : w_X4_lengthOf r i J L Q := by
  have hq := rq_b r
  have h2 := hi.1
  have h3 := hi.2.2.1 i h0 (by omega)
  unfold w_X4_lengthOf
  refine ⟨⟨by omega, by omega⟩, ?_⟩
  rw [if_neg (by omega)]
  refine ⟨⟨by omega, by omega⟩, ?_⟩
  rw [if_pos h1]
  exact ⟨⟨h0, by omega⟩, h3, hQ⟩
theorem s_octetOf {r : Nat} {i k : Int} {J : zM} {L : yM} {Q : Int → zM → yM → Prop} (hi : iR r J) (h0 : 0 ≤ i) (h1 : i < J r 5) (k0 : 0 ≤ k) (k1 : k < rN r J (rO r J i)) (hQ : Q (J (r + 2 + (rO r J i).toNat) k) J L) : w_X4_octetOf r i k J L Q := by
  have hq := rq_b r
  have hw := rw0_b r
  have h2 := hi.1
  have h3 := hi.2.2.1 i h0 (by omega)
  have h4 := hi.2.2.2.2 i h0 h1
  unfold w_X4_octetOf
  refine ⟨⟨by omega, by omega⟩, ?_⟩
  rw [if_neg (by omega)]
  refine s_lengthOf hi h0 h1 ?_
  refine ⟨⟨by omega, by omega⟩, ⟨by omega, by omega⟩, ?_⟩
  rw [if_pos k1]
  exact ⟨⟨h0, by omega⟩, h3, ⟨k0, by omega⟩, hQ⟩
theorem rD_get {r : Nat} {i k : Int} {J : zM} (k0 : 0 ≤ k) (k1 : k < rN r J (rO r J i)) : (rD r J i).getD k.toNat 0 = J (r + 2 + (rO r J i).toNat) k := by
  unfold rD
  rw [sg_get (by omega)]
  congr 1
  omega
theorem s_turnOctet {r : Nat} {i k m : Int} {J : zM} {L : yM} {Q : zM → yM → Prop} (hi : iR r J) (h0 : 0 ≤ i) (h1 : i < J r 5) (k0 : 0 ≤ k) (k1 : k < rN r J (rO r J i)) (hQ : Q (zs J (r + 2 + (rO r J i).toNat) k (zxor (J (r + 2 + (rO r J i).toNat) k) (zand m 255))) L) : w_X4_turnOctet r i k m J L Q := by
  have hq := rq_b r
  have hw := rw0_b r
  have h2 := hi.1
  have h3 := hi.2.2.1 i h0 (by omega)
  have h4 := hi.2.2.2.2 i h0 h1
  unfold w_X4_turnOctet
  refine ⟨⟨by omega, by omega⟩, ?_⟩
  rw [if_neg (by omega)]
  refine s_lengthOf hi h0 h1 ?_
  refine ⟨⟨by omega, by omega⟩, ⟨by omega, by omega⟩, ?_⟩
  rw [if_pos k1]
  exact ⟨⟨h0, by omega⟩, h3, ⟨k0, by omega⟩, ⟨k0, by omega⟩, fun J1 e => by rw [e]; exact hQ⟩
theorem s_copyInto {r p : Nat} {i : Int} {J : zM} {L : yM} {Q : Int → zM → yM → Prop} (hi : iR r J) (h0 : 0 ≤ i) (h1 : i < J r 5) (hp : rw0 r ≤ ln0 p) (hQ : Q (rN r J (rO r J i)) (zcp J (r + 2 + (rO r J i).toNat) 0 p 0 (rN r J (rO r J i))) L) : w_X4_copyInto r p i J L Q := by
  have hq := rq_b r
  have hw := rw0_b r
  have h2 := hi.1
  have h3 := hi.2.2.1 i h0 (by omega)
  have h4 := hi.2.2.2.2 i h0 h1
  have h5 := ln0_lt p
  unfold w_X4_copyInto
  refine s_lengthOf hi h0 h1 ?_
  refine ⟨⟨by omega, by omega⟩, ⟨by omega, by omega⟩, fun x ex => ?_⟩
  rw [Int.min_eq_left (by omega)] at ex
  subst ex
  refine ⟨⟨by omega, by omega⟩, ?_⟩
  by_cases q : 0 < rN r J (rO r J i)
  · rw [if_pos q]
    exact ⟨⟨h0, by omega⟩, h3, ⟨by omega, by omega, by omega, by omega, by omega⟩, fun J1 e => by rw [e]; exact hQ⟩
  · rw [if_neg q]
    have e : rN r J (rO r J i) = 0 := by omega
    rw [e] at hQ ⊢
    rw [zcp_0] at hQ
    exact hQ
