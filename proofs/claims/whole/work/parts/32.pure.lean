/-! pure rows: segments of the memory as lists, what changes them -/
theorem sg_len (J : zM) (a : Nat) (i : Int) (c : Nat) : (sg J a i c).length = c := by simp [sg]
theorem sg_get {J : zM} {a : Nat} {i : Int} {c j : Nat} (h : j < c) : (sg J a i c).getD j 0 = J a (i + (j : Int)) := by simp [sg, h]
theorem sg_0 (J : zM) (a : Nat) (i : Int) : sg J a i 0 = [] := rfl
theorem sg_succ (J : zM) (a : Nat) (i : Int) (c : Nat) : sg J a i (c + 1) = sg J a i c ++ [J a (i + (c : Int))] := by
  simp [sg, List.range_succ]
theorem sg_app (J : zM) (a : Nat) (i : Int) (c d : Nat) : sg J a i (c + d) = sg J a i c ++ sg J a (i + (c : Int)) d := by
  induction d with
  | zero => simp [sg]
  | succ d ih => rw [← Nat.add_assoc, sg_succ, ih, sg_succ, List.append_assoc, Int.natCast_add, Int.add_assoc]
theorem sg_cong {J J' : zM} {a a' : Nat} {i i' : Int} {c : Nat} (h : ∀ j : Nat, j < c → J' a' (i' + (j : Int)) = J a (i + (j : Int))) : sg J' a' i' c = sg J a i c := by
  unfold sg
  exact List.map_congr_left (fun j hj => h j (List.mem_range.mp hj))
theorem sg_fr {J J' : zM} {a : Nat} {i : Int} {c : Nat} (h : ∀ k : Int, i ≤ k → k < i + (c : Int) → J' a k = J a k) : sg J' a i c = sg J a i c :=
  sg_cong (fun j hj => h _ (by omega) (by omega))
theorem sg_row {J J' : zM} {a : Nat} {i : Int} {c : Nat} (h : J' a = J a) : sg J' a i c = sg J a i c := by unfold sg; rw [h]
theorem zs_s (J : zM) (a : Nat) (i v : Int) : zs J a i v a i = v := by simp [zs]
theorem zs_n (J : zM) {a c : Nat} {i k v : Int} (h : c ≠ a ∨ k ≠ i) : zs J a i v c k = J c k := by
  unfold zs
  rw [if_neg]
  omega
theorem zs_r (J : zM) {a c : Nat} {i v : Int} (h : c ≠ a) : zs J a i v c = J c := by
  funext k
  exact zs_n J (Or.inl h)
theorem ys_s (L : yM) (a : Nat) (i : Int) (v : Int64) : ys L a i v a i = v := by simp [ys]
theorem ys_n (L : yM) {a c : Nat} {i k : Int} {v : Int64} (h : c ≠ a ∨ k ≠ i) : ys L a i v c k = L c k := by
  unfold ys
  rw [if_neg]
  omega
theorem ys_r (L : yM) {a c : Nat} {i : Int} {v : Int64} (h : c ≠ a) : ys L a i v c = L c := by
  funext k
  exact ys_n L (Or.inl h)
theorem zcp_r (J : zM) {a b c : Nat} {sp dp n : Int} (h : c ≠ b) : zcp J a sp b dp n c = J c := by
  funext k
  unfold zcp
  rw [if_neg (fun q => h q.1)]
theorem zcp_in (J : zM) {a b : Nat} {sp dp n k : Int} (h : dp ≤ k ∧ k < dp + n) : zcp J a sp b dp n b k = J a (sp + (k - dp)) := by
  unfold zcp
  rw [if_pos ⟨rfl, h⟩]
theorem zcp_out (J : zM) {a b : Nat} {sp dp n k : Int} (h : ¬ (dp ≤ k ∧ k < dp + n)) : zcp J a sp b dp n b k = J b k := by
  unfold zcp
  rw [if_neg (fun q => h q.2)]
theorem zcp_0 (J : zM) (a b : Nat) (sp dp : Int) : zcp J a sp b dp 0 = J := by
  funext c k
  unfold zcp
  rw [if_neg]
  omega
theorem zcp_succ {J : zM} {a b : Nat} {sp dp n : Int} (hn : 0 ≤ n) (h : a ≠ b ∨ ∀ k, 0 ≤ k → k ≤ n → ¬ (dp ≤ sp + k ∧ sp + k < dp + n)) : zs (zcp J a sp b dp n) b (dp + n) (zcp J a sp b dp n a (sp + n)) = zcp J a sp b dp (n + 1) := by
  have e : zcp J a sp b dp n a (sp + n) = J a (sp + n) := by
    unfold zcp
    rw [if_neg]
    rintro ⟨q1, q2⟩
    rcases h with h | h
    · exact h q1
    · exact h n hn (by omega) q2
  rw [e]
  funext c k
  by_cases q : c = b ∧ k = dp + n
  · obtain ⟨rfl, rfl⟩ := q
    rw [zs_s, zcp_in J (by omega)]
    congr 1
    omega
  · rw [zs_n _ (by omega)]
    unfold zcp
    by_cases q2 : c = b ∧ dp ≤ k ∧ k < dp + n
    · rw [if_pos q2, if_pos ⟨q2.1, by omega, by omega⟩]
    · rw [if_neg q2, if_neg (by omega)]
theorem sg_zcp {J : zM} {a b : Nat} {sp dp n : Int} {c : Nat} (h : (c : Int) ≤ n) : sg (zcp J a sp b dp n) b dp c = sg J a sp c :=
  sg_cong (fun j hj => by rw [zcp_in J (by omega)]; congr 1; omega)
/-- a row of cells is the same -/
def zF (S : Nat → Prop) (J J' : zM) : Prop := ∀ a, ¬ S a → J' a = J a
theorem zF.rf {S : Nat → Prop} {J : zM} : zF S J J := fun _ _ => rfl
theorem zF.tr {S : Nat → Prop} {J J1 J2 : zM} (h1 : zF S J J1) (h2 : zF S J1 J2) : zF S J J2 := fun a h => (h2 a h).trans (h1 a h)
theorem zF.mono {S S' : Nat → Prop} {J J' : zM} (h : zF S J J') (hS : ∀ a, S a → S' a) : zF S' J J' := fun a ha => h a (fun q => ha (hS a q))
theorem zF.zs {S : Nat → Prop} {J : zM} {a : Nat} {i v : Int} (h : S a) : zF S J (zs J a i v) := fun c hc => zs_r J (fun q => hc (by rw [q]; exact h))
theorem zF.zcp {S : Nat → Prop} {J : zM} {a b : Nat} {sp dp n : Int} (h : S b) : zF S J (zcp J a sp b dp n) := fun c hc => zcp_r J (fun q => hc (by rw [q]; exact h))
theorem zP.F {ch : Nat → Int → Prop} {S : Nat → Prop} {J J' : zM} (h : zP ch J J') (hS : ∀ a i, ch a i → S a) : zF S J J' := fun a ha => funext fun i => h a i (fun q => ha (hS a i q))
/-! the machine's operations on small Ints -/
theorem zand255 (x : Int) : zand x 255 = x % 256 := by
  unfold zand
  have h : oI x &&& oI 255 = oI (x % 256) := by
    have e1 : oI x = oI (x % 4294967296) := by
      apply Int32.toInt_inj.mp
      unfold oI
      rw [Int32.toInt_ofInt, Int32.toInt_ofInt]
      simp [Int.bmod_def]
    apply Int32.toBitVec_inj.mp
    apply BitVec.eq_of_toNat_eq
    rw [Int32.toBitVec_and, BitVec.toNat_and]
    have h255 : (oI 255).toBitVec.toNat = 255 := by decide
    rw [h255]
    have ht : ∀ z : Int, (oI z).toBitVec.toNat = (z % 4294967296).toNat := fun z => by
      unfold oI
      rw [Int32.toBitVec_ofInt]
      simp
    rw [ht, ht]
    have : (x % 4294967296).toNat &&& 255 = (x % 4294967296).toNat % 256 := Nat.and_two_pow_sub_one_eq_mod _ 8
    rw [this]
    omega
  rw [h, oI_toInt ⟨by omega, by omega⟩]
