/-! numbers in octets -/
def zw (J : zM) (a : Nat) (p : Int) (l : List Int) : zM := fun c i => if c = a ∧ p ≤ i ∧ i < p + (l.length : Int) then l.getD (i - p).toNat 0 else J c i
theorem zw_r (J : zM) {a c : Nat} {p : Int} {l : List Int} (h : c ≠ a) : zw J a p l c = J c := by
  funext i
  unfold zw
  rw [if_neg (fun q => h q.1)]
theorem zw_out (J : zM) {a : Nat} {p i : Int} {l : List Int} (h : ¬ (p ≤ i ∧ i < p + (l.length : Int))) : zw J a p l a i = J a i := by
  unfold zw
  rw [if_neg (fun q => h q.2)]
theorem zw_nil (J : zM) (a : Nat) (p : Int) : zw J a p [] = J := by
  funext c i
  unfold zw
  rw [if_neg]
  simp
theorem zw_sg (J : zM) (a : Nat) (p : Int) (l : List Int) : sg (zw J a p l) a p l.length = l := by
  apply List.ext_getElem?
  intro j
  by_cases h : j < l.length
  · unfold sg
    rw [List.getElem?_map, List.getElem?_range h]
    show some (zw J a p l a (p + (j : Int))) = _
    unfold zw
    rw [if_pos ⟨rfl, by omega, by omega⟩, show (p + (j : Int) - p).toNat = j by omega, List.getD_eq_getElem?_getD, List.getElem?_eq_getElem h]
    rfl
  · rw [List.getElem?_eq_none (by rw [sg_len]; omega), List.getElem?_eq_none (by omega)]
theorem zw_snoc (J : zM) (a : Nat) (p : Int) (l : List Int) (v : Int) : zs (zw J a p l) a (p + (l.length : Int)) v = zw J a p (l ++ [v]) := by
  funext c i
  by_cases q : c = a ∧ i = p + (l.length : Int)
  · obtain ⟨rfl, rfl⟩ := q
    rw [zs_s]
    unfold zw
    rw [if_pos ⟨rfl, by omega, by rw [List.length_append, List.length_singleton]; omega⟩, show (p + (l.length : Int) - p).toNat = l.length by omega]
    simp
  · rw [zs_n _ (by omega)]
    unfold zw
    by_cases q2 : c = a ∧ p ≤ i ∧ i < p + (l.length : Int)
    · rw [if_pos q2, if_pos ⟨q2.1, q2.2.1, by rw [List.length_append, List.length_singleton]; omega⟩]
      rw [List.getD_eq_getElem?_getD, List.getD_eq_getElem?_getD, List.getElem?_append_left (by omega)]
    · rw [if_neg q2, if_neg (by rw [List.length_append, List.length_singleton]; omega)]
theorem zF.zw {S : Nat → Prop} {J : zM} {a : Nat} {p : Int} {l : List Int} (h : S a) : zF S J (zw J a p l) := fun c hc => zw_r J (fun q => hc (by rw [q]; exact h))
theorem mF_zw {S : Nat → Prop} {T : Int → Prop} {J : zM} {a : Nat} {p : Int} {l : List Int} (h : S a) (ha : a ≠ 491) : mF S T J (zw J a p l) := ⟨fun c hc _ => zw_r J (fun q => hc (by rw [q]; exact h)), fun k _ => by rw [zw_r J (fun q => ha q.symm)]⟩
theorem nb_len (n : Nat) (v : Int) : (nb n v).length = n := by simp [nb]
theorem nb_get {n : Nat} {v : Int} {j : Nat} (h : j < n) : (nb n v)[j]? = some (v / 256 ^ (n - 1 - j) % 256) := by
  unfold nb
  rw [List.getElem?_map, List.getElem?_range h]
  rfl
theorem nb_oct (n : Nat) (v : Int) : oct (nb n v) := by
  intro x hx
  unfold nb at hx
  obtain ⟨j, _, rfl⟩ := List.mem_map.mp hx
  omega
theorem s_numberTo {at_ n : Int} {x : Int64} {J : zM} {L : yM} {Q : zM → yM → Prop} (hn : 0 ≤ n ∧ n ≤ 8) (h0 : 0 ≤ at_) (h1 : at_ + n ≤ 2048) (hQ : Q (zw J 492 at_ (nb n.toNat x.toInt)) L) : w_X12_numberTo at_ n x J L Q := by
  unfold w_X12_numberTo
  refine zl_z.by (fun m k J' L' => (m : Int) = n - k ∧ 0 ≤ k ∧ L' = L ∧ J' = zw J 492 at_ ((nb n.toNat x.toInt).take k.toNat)) ?_ n.toNat 0 J L ⟨by omega, by omega, rfl, by rw [show (0 : Int).toNat = 0 from rfl, List.take_zero, zw_nil]⟩
  rintro m k J1 L1 K ⟨hm, hk, rfl, e1⟩ hK
  refine ⟨⟨by omega, by omega⟩, ⟨by omega, by omega⟩, ?_⟩
  by_cases c : k < n
  · rw [if_pos c]
    refine ⟨⟨by omega, by omega⟩, fun J2 e2 => ?_⟩
    refine hK (m - 1) (k + 1) J2 L1 (by omega) ⟨by omega, by omega, rfl, ?_⟩
    rw [show (k + 1).toNat = k.toNat + 1 by omega, List.take_succ, nb_get (by omega), e2, e1, loct (by omega)]
    have hl : ((nb n.toNat x.toInt).take k.toNat).length = k.toNat := by rw [List.length_take, nb_len]; omega
    rw [show n.toNat - 1 - k.toNat = ((n - 1) - k).toNat by omega, show (8 * ((n - 1) - k)).toNat = 8 * ((n - 1) - k).toNat by omega, Int.pow_mul]
    have := zw_snoc J 492 at_ ((nb n.toNat x.toInt).take k.toNat) (x.toInt / (2 ^ 8) ^ ((n - 1) - k).toNat % 256)
    rw [hl, show (k.toNat : Int) = k by omega] at this
    exact this
  · rw [if_neg c, e1, List.take_of_length_le (by rw [nb_len]; omega)]
    exact hQ
/-- the number that octets say -/
def be (l : List Int) : Nat := l.foldl (fun v d => v * 256 + d.toNat) 0
theorem be_snoc (l : List Int) (d : Int) : be (l ++ [d]) = be l * 256 + d.toNat := by simp [be]
theorem be_aux : ∀ (l : List Int) (v : Nat), oct l → l.foldl (fun v d => v * 256 + d.toNat) v < (v + 1) * 256 ^ l.length := by
  intro l
  induction l with
  | nil => intro v _; simp
  | cons d l ih =>
    intro v h
    have hd := h d (by simp)
    have h1 := ih (v * 256 + d.toNat) (fun x hx => h x (List.mem_cons_of_mem _ hx))
    rw [List.foldl_cons, List.length_cons, Nat.pow_succ]
    refine Nat.lt_of_lt_of_le h1 ?_
    have h2 : v * 256 + d.toNat + 1 ≤ (v + 1) * 256 := by omega
    calc (v * 256 + d.toNat + 1) * 256 ^ l.length ≤ ((v + 1) * 256) * 256 ^ l.length := Nat.mul_le_mul_right _ h2
      _ = (v + 1) * (256 ^ l.length * 256) := by rw [Nat.mul_assoc, Nat.mul_comm 256]
theorem be_lt {l : List Int} (h : oct l) : be l < 256 ^ l.length := by
  have := be_aux l 0 h
  unfold be
  omega
theorem lor8 {x : Int64} {n : Nat} {d : Int} (hx : lN' x n) (hn : n < 2 ^ 48) (hd : 0 ≤ d ∧ d < 256) : lN' ((yshl x 8) ||| (zi2l d)) (n * 256 + d.toNat) := by
  have hxn : x.toBitVec.toNat = n := by
    unfold lN' at hx
    have h3 : x.toInt = x.toBitVec.toInt := rfl
    have := x.toBitVec.isLt
    rw [h3, BitVec.toInt_eq_toNat_cond] at hx
    by_cases q : 2 * x.toBitVec.toNat < 2 ^ 64
    · rw [if_pos q] at hx; omega
    · rw [if_neg q] at hx; omega
  have h1 : (yshl x 8).toBitVec.toNat = n * 256 := by
    unfold yshl
    rw [Int64.toBitVec_shiftLeft, show ((oI 8).toInt64 &&& 63).toBitVec.smod 64 = 8#64 from by decide, BitVec.shiftLeft_eq', BitVec.toNat_shiftLeft, hxn, Nat.shiftLeft_eq]
    show n * 2 ^ 8 % 2 ^ 64 = _
    omega
  have h2 : (zi2l d).toBitVec.toNat = d.toNat := by
    have h3 := i2l_toInt (z := d) ⟨by omega, by omega⟩
    have h4 : (zi2l d).toInt = (zi2l d).toBitVec.toInt := rfl
    have := (zi2l d).toBitVec.isLt
    rw [h4, BitVec.toInt_eq_toNat_cond] at h3
    by_cases q : 2 * (zi2l d).toBitVec.toNat < 2 ^ 64
    · rw [if_pos q] at h3; omega
    · rw [if_neg q] at h3; omega
  have h5 : ((yshl x 8) ||| (zi2l d)).toBitVec.toNat = n * 256 + d.toNat := by
    rw [Int64.toBitVec_or, BitVec.toNat_or, h1, h2]
    have := Nat.two_pow_add_eq_or_of_lt (i := 8) (b := d.toNat) (by omega) n
    rw [show n * 256 = 2 ^ 8 * n by omega, ← this]
  unfold lN'
  show ((yshl x 8) ||| (zi2l d)).toBitVec.toInt = _
  rw [BitVec.toInt_eq_toNat_cond, h5, if_pos (by omega)]
theorem s_wordAt {p : Nat} {at_ : Int} {J : zM} {L : yM} {Q : Int64 → zM → yM → Prop} (h0 : 0 ≤ at_) (h1 : at_ + 4 ≤ (ln0 p : Int)) (ho : oct (sg J p at_ 4)) (hQ : ∀ r, lN' r (be (sg J p at_ 4)) → Q r J L) : w_X11_wordAt p at_ J L Q := by
  have hl := ln0_lt p
  unfold w_X11_wordAt
  refine zl_lz.by (fun m v i J' L' => (m : Int) = at_ + 4 - i ∧ at_ ≤ i ∧ J' = J ∧ L' = L ∧ lN' v (be (sg J p at_ (i - at_).toNat))) ?_ 4 0 at_ J L ⟨by omega, by omega, rfl, rfl, by rw [Int.sub_self]; exact (rfl : (0 : Int64).toInt = 0)⟩
  rintro m v i J1 L1 K ⟨hm, hi, rfl, rfl, hv⟩ hK
  refine ⟨⟨by omega, by omega⟩, ⟨by omega, by omega⟩, ?_⟩
  by_cases c : i < at_ + 4
  · rw [if_pos c]
    refine ⟨⟨by omega, by omega⟩, ?_⟩
    rw [if_pos (by omega)]
    refine ⟨⟨by omega, by omega⟩, fun x ex => ?_⟩
    refine hK (m - 1) x (i + 1) J1 L1 (by omega) ⟨by omega, by omega, rfl, rfl, ?_⟩
    have ho2 : oct (sg J1 p at_ (i - at_).toNat) := oct_sg.mpr (fun k k0 k1 => (oct_sg.mp ho) k k0 (by omega))
    have hb := be_lt ho2
    rw [sg_len] at hb
    have hb3 : be (sg J1 p at_ (i - at_).toNat) < 2 ^ 48 := Nat.lt_of_lt_of_le hb (by
      have : 256 ^ (i - at_).toNat ≤ 256 ^ 4 := Nat.pow_le_pow_right (by decide) (by omega)
      omega)
    have hd := (oct_sg.mp ho) i hi (by omega)
    rw [show (i + 1 - at_).toNat = (i - at_).toNat + 1 by omega, sg_succ, be_snoc, show at_ + ((i - at_).toNat : Int) = i by omega, ex]
    exact lor8 hv hb3 hd
  · rw [if_neg c]
    have : i = at_ + 4 := by omega
    subst this
    rw [show (at_ + 4 - at_).toNat = 4 by omega] at hv
    exact hQ v hv
