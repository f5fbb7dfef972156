section XN
variable {G : xG} {l : Launch} {me : xMe} {mc ms : Nat} {Qv : Option Value → xM → Prop} {Qx : String → xM → Prop} {cells slots pc : Nat} {ls : List (Nat × Value)} {st : List Value} {al : Bool} {n : Nat} {R : Nat → Nat → Option Nat} {I I' : Nat → Nat → Int32} {L L' : Nat → Nat → Int64}
theorem xr_eqi {x : Int32} (y : Int32) (h : x = y) (kk : xJ G l me mc ms Qv Qx cells slots (pc) ls (.int y :: st) al n R I L) : xJ G l me mc ms Qv Qx cells slots (pc) ls (.int x :: st) al n R I L := by rw [h]; exact kk
theorem xr_eql {x : Int64} (y : Int64) (h : x = y) (kk : xJ G l me mc ms Qv Qx cells slots (pc) ls (.long y :: st) al n R I L) : xJ G l me mc ms Qv Qx cells slots (pc) ls (.long x :: st) al n R I L := by rw [h]; exact kk
theorem xJ.pick {ls' : List (Nat × Value)} (ks : List Nat) (h : ks.filterMap (fun k => ls[k]?) = ls') (kk : xJ G l me mc ms Qv Qx cells slots (pc) ls' (st) al n R I L) : xJ G l me mc ms Qv Qx cells slots (pc) ls (st) al n R I L := xJ.sub ls' (fun q hq => by rw [← h] at hq; obtain ⟨k, -, hk⟩ := List.mem_filterMap.mp hq; exact List.mem_of_getElem? hk) kk
theorem nI_inc (t : Nat) : nI t + Int32.ofInt 1 = nI (t + 1) := nI_1 t
theorem xvin {a i N : Nat} (hl : xln G a = N) (h : i < N) (hN : N < 2 ^ 31) : vp_in (nI i) (xln G a) := by rw [hl]; exact vp_in_nI h hN
theorem xr_icmpN_eq {a b : Nat} {off : Int} (tgt : Nat) (hd : decode me.2.1 pc = .ok (.if_icmp .eq off, 3)) (ht : (pc : Int) + off = (tgt : Int)) (ha : a < 2 ^ 31) (hb : b < 2 ^ 31) (kt : a = b → xJ G l me mc ms Qv Qx cells slots (tgt) ls (st) al n R I L) (kf : a ≠ b → xJ G l me mc ms Qv Qx cells slots (pc + 3) ls (st) al n R I L) : xJ G l me mc ms Qv Qx cells slots (pc) ls (.int (nI b) :: .int (nI a) :: st) al n R I L := by
  refine xr_icmp_eq tgt hd ht (fun q => kt ?_) (fun q => kf ?_)
  · have q : (nI a) = (nI b) := q
    simp only [nI_eq ha hb, nI_leI ha hb, nI_leI hb ha, nI_ltI ha hb, nI_ltI hb ha] at q
    omega
  · have q : ¬ (nI a) = (nI b) := q
    simp only [nI_eq ha hb, nI_leI ha hb, nI_leI hb ha, nI_ltI ha hb, nI_ltI hb ha] at q
    omega
theorem xr_ifN_eq {a : Nat} {off : Int} (tgt : Nat) (hd : decode me.2.1 pc = .ok (.ifCond .eq off, 3)) (ht : (pc : Int) + off = (tgt : Int)) (ha : a < 2 ^ 31) (kt : a = 0 → xJ G l me mc ms Qv Qx cells slots (tgt) ls (st) al n R I L) (kf : a ≠ 0 → xJ G l me mc ms Qv Qx cells slots (pc + 3) ls (st) al n R I L) : xJ G l me mc ms Qv Qx cells slots (pc) ls (.int (nI a) :: st) al n R I L := by
  have hb : 0 < 2 ^ 31 := by decide
  refine xr_if_eq tgt hd ht (fun q => kt ?_) (fun q => kf ?_)
  · have q : (nI a) = nI 0 := q
    simp only [nI_eq ha hb, nI_leI ha hb, nI_leI hb ha, nI_ltI ha hb, nI_ltI hb ha] at q
    omega
  · have q : ¬ (nI a) = nI 0 := q
    simp only [nI_eq ha hb, nI_leI ha hb, nI_leI hb ha, nI_ltI ha hb, nI_ltI hb ha] at q
    omega
theorem xr_icmpN_ne {a b : Nat} {off : Int} (tgt : Nat) (hd : decode me.2.1 pc = .ok (.if_icmp .ne off, 3)) (ht : (pc : Int) + off = (tgt : Int)) (ha : a < 2 ^ 31) (hb : b < 2 ^ 31) (kt : a ≠ b → xJ G l me mc ms Qv Qx cells slots (tgt) ls (st) al n R I L) (kf : a = b → xJ G l me mc ms Qv Qx cells slots (pc + 3) ls (st) al n R I L) : xJ G l me mc ms Qv Qx cells slots (pc) ls (.int (nI b) :: .int (nI a) :: st) al n R I L := by
  refine xr_icmp_ne tgt hd ht (fun q => kt ?_) (fun q => kf ?_)
  · have q : ¬ (nI a) = (nI b) := q
    simp only [nI_eq ha hb, nI_leI ha hb, nI_leI hb ha, nI_ltI ha hb, nI_ltI hb ha] at q
    omega
  · have q : (nI a) = (nI b) := q
    simp only [nI_eq ha hb, nI_leI ha hb, nI_leI hb ha, nI_ltI ha hb, nI_ltI hb ha] at q
    omega
theorem xr_ifN_ne {a : Nat} {off : Int} (tgt : Nat) (hd : decode me.2.1 pc = .ok (.ifCond .ne off, 3)) (ht : (pc : Int) + off = (tgt : Int)) (ha : a < 2 ^ 31) (kt : a ≠ 0 → xJ G l me mc ms Qv Qx cells slots (tgt) ls (st) al n R I L) (kf : a = 0 → xJ G l me mc ms Qv Qx cells slots (pc + 3) ls (st) al n R I L) : xJ G l me mc ms Qv Qx cells slots (pc) ls (.int (nI a) :: st) al n R I L := by
  have hb : 0 < 2 ^ 31 := by decide
  refine xr_if_ne tgt hd ht (fun q => kt ?_) (fun q => kf ?_)
  · have q : ¬ (nI a) = nI 0 := q
    simp only [nI_eq ha hb, nI_leI ha hb, nI_leI hb ha, nI_ltI ha hb, nI_ltI hb ha] at q
    omega
  · have q : (nI a) = nI 0 := q
    simp only [nI_eq ha hb, nI_leI ha hb, nI_leI hb ha, nI_ltI ha hb, nI_ltI hb ha] at q
    omega
theorem xr_icmpN_lt {a b : Nat} {off : Int} (tgt : Nat) (hd : decode me.2.1 pc = .ok (.if_icmp .lt off, 3)) (ht : (pc : Int) + off = (tgt : Int)) (ha : a < 2 ^ 31) (hb : b < 2 ^ 31) (kt : a < b → xJ G l me mc ms Qv Qx cells slots (tgt) ls (st) al n R I L) (kf : b ≤ a → xJ G l me mc ms Qv Qx cells slots (pc + 3) ls (st) al n R I L) : xJ G l me mc ms Qv Qx cells slots (pc) ls (.int (nI b) :: .int (nI a) :: st) al n R I L := by
  refine xr_icmp_lt tgt hd ht (fun q => kt ?_) (fun q => kf ?_)
  · have q : (nI a) < (nI b) := q
    simp only [nI_eq ha hb, nI_leI ha hb, nI_leI hb ha, nI_ltI ha hb, nI_ltI hb ha] at q
    omega
  · have q : ¬ (nI a) < (nI b) := q
    simp only [nI_eq ha hb, nI_leI ha hb, nI_leI hb ha, nI_ltI ha hb, nI_ltI hb ha] at q
    omega
theorem xr_icmpN_ge {a b : Nat} {off : Int} (tgt : Nat) (hd : decode me.2.1 pc = .ok (.if_icmp .ge off, 3)) (ht : (pc : Int) + off = (tgt : Int)) (ha : a < 2 ^ 31) (hb : b < 2 ^ 31) (kt : b ≤ a → xJ G l me mc ms Qv Qx cells slots (tgt) ls (st) al n R I L) (kf : a < b → xJ G l me mc ms Qv Qx cells slots (pc + 3) ls (st) al n R I L) : xJ G l me mc ms Qv Qx cells slots (pc) ls (.int (nI b) :: .int (nI a) :: st) al n R I L := by
  refine xr_icmp_ge tgt hd ht (fun q => kt ?_) (fun q => kf ?_)
  · have q : (nI b) ≤ (nI a) := q
    simp only [nI_eq ha hb, nI_leI ha hb, nI_leI hb ha, nI_ltI ha hb, nI_ltI hb ha] at q
    omega
  · have q : ¬ (nI b) ≤ (nI a) := q
    simp only [nI_eq ha hb, nI_leI ha hb, nI_leI hb ha, nI_ltI ha hb, nI_ltI hb ha] at q
    omega
theorem xr_icmpN_gt {a b : Nat} {off : Int} (tgt : Nat) (hd : decode me.2.1 pc = .ok (.if_icmp .gt off, 3)) (ht : (pc : Int) + off = (tgt : Int)) (ha : a < 2 ^ 31) (hb : b < 2 ^ 31) (kt : b < a → xJ G l me mc ms Qv Qx cells slots (tgt) ls (st) al n R I L) (kf : a ≤ b → xJ G l me mc ms Qv Qx cells slots (pc + 3) ls (st) al n R I L) : xJ G l me mc ms Qv Qx cells slots (pc) ls (.int (nI b) :: .int (nI a) :: st) al n R I L := by
  refine xr_icmp_gt tgt hd ht (fun q => kt ?_) (fun q => kf ?_)
  · have q : (nI b) < (nI a) := q
    simp only [nI_eq ha hb, nI_leI ha hb, nI_leI hb ha, nI_ltI ha hb, nI_ltI hb ha] at q
    omega
  · have q : ¬ (nI b) < (nI a) := q
    simp only [nI_eq ha hb, nI_leI ha hb, nI_leI hb ha, nI_ltI ha hb, nI_ltI hb ha] at q
    omega
theorem xr_ifN_gt {a : Nat} {off : Int} (tgt : Nat) (hd : decode me.2.1 pc = .ok (.ifCond .gt off, 3)) (ht : (pc : Int) + off = (tgt : Int)) (ha : a < 2 ^ 31) (kt : 0 < a → xJ G l me mc ms Qv Qx cells slots (tgt) ls (st) al n R I L) (kf : a = 0 → xJ G l me mc ms Qv Qx cells slots (pc + 3) ls (st) al n R I L) : xJ G l me mc ms Qv Qx cells slots (pc) ls (.int (nI a) :: st) al n R I L := by
  have hb : 0 < 2 ^ 31 := by decide
  refine xr_if_gt tgt hd ht (fun q => kt ?_) (fun q => kf ?_)
  · have q : nI 0 < (nI a) := q
    simp only [nI_eq ha hb, nI_leI ha hb, nI_leI hb ha, nI_ltI ha hb, nI_ltI hb ha] at q
    omega
  · have q : ¬ nI 0 < (nI a) := q
    simp only [nI_eq ha hb, nI_leI ha hb, nI_leI hb ha, nI_ltI ha hb, nI_ltI hb ha] at q
    omega
theorem xr_icmpN_le {a b : Nat} {off : Int} (tgt : Nat) (hd : decode me.2.1 pc = .ok (.if_icmp .le off, 3)) (ht : (pc : Int) + off = (tgt : Int)) (ha : a < 2 ^ 31) (hb : b < 2 ^ 31) (kt : a ≤ b → xJ G l me mc ms Qv Qx cells slots (tgt) ls (st) al n R I L) (kf : b < a → xJ G l me mc ms Qv Qx cells slots (pc + 3) ls (st) al n R I L) : xJ G l me mc ms Qv Qx cells slots (pc) ls (.int (nI b) :: .int (nI a) :: st) al n R I L := by
  refine xr_icmp_le tgt hd ht (fun q => kt ?_) (fun q => kf ?_)
  · have q : (nI a) ≤ (nI b) := q
    simp only [nI_eq ha hb, nI_leI ha hb, nI_leI hb ha, nI_ltI ha hb, nI_ltI hb ha] at q
    omega
  · have q : ¬ (nI a) ≤ (nI b) := q
    simp only [nI_eq ha hb, nI_leI ha hb, nI_leI hb ha, nI_ltI ha hb, nI_ltI hb ha] at q
    omega
theorem xr_ifN_le {a : Nat} {off : Int} (tgt : Nat) (hd : decode me.2.1 pc = .ok (.ifCond .le off, 3)) (ht : (pc : Int) + off = (tgt : Int)) (ha : a < 2 ^ 31) (kt : a = 0 → xJ G l me mc ms Qv Qx cells slots (tgt) ls (st) al n R I L) (kf : 0 < a → xJ G l me mc ms Qv Qx cells slots (pc + 3) ls (st) al n R I L) : xJ G l me mc ms Qv Qx cells slots (pc) ls (.int (nI a) :: st) al n R I L := by
  have hb : 0 < 2 ^ 31 := by decide
  refine xr_if_le tgt hd ht (fun q => kt ?_) (fun q => kf ?_)
  · have q : (nI a) ≤ nI 0 := q
    simp only [nI_eq ha hb, nI_leI ha hb, nI_leI hb ha, nI_ltI ha hb, nI_ltI hb ha] at q
    omega
  · have q : ¬ (nI a) ≤ nI 0 := q
    simp only [nI_eq ha hb, nI_leI ha hb, nI_leI hb ha, nI_ltI ha hb, nI_ltI hb ha] at q
    omega
theorem xr_ifN_lt {a : Nat} {off : Int} (tgt : Nat) (hd : decode me.2.1 pc = .ok (.ifCond .lt off, 3)) (ht : (pc : Int) + off = (tgt : Int)) (ha : a < 2 ^ 31) (kf : xJ G l me mc ms Qv Qx cells slots (pc + 3) ls (st) al n R I L) : xJ G l me mc ms Qv Qx cells slots (pc) ls (.int (nI a) :: st) al n R I L := xr_if_lt tgt hd ht (fun q => absurd q (nI_pos ha)) (fun _ => kf)
theorem xr_ifN_ge {a : Nat} {off : Int} (tgt : Nat) (hd : decode me.2.1 pc = .ok (.ifCond .ge off, 3)) (ht : (pc : Int) + off = (tgt : Int)) (ha : a < 2 ^ 31) (kt : xJ G l me mc ms Qv Qx cells slots (tgt) ls (st) al n R I L) : xJ G l me mc ms Qv Qx cells slots (pc) ls (.int (nI a) :: st) al n R I L := xr_if_ge tgt hd ht (fun _ => kt) (fun q => absurd (nI_pos' ha) q)
theorem xr_ialoadN {a i N : Nat} {x : Int32} (hd : decode me.2.1 pc = .ok (.iaload, 1)) (ha : a < n) (hka : xkd G a = 13) (hl : xln G a = N) (hN : N < 2 ^ 31) (hi : i < N) (hx : I a i = x) (kk : xJ G l me mc ms Qv Qx cells slots (pc + 1) ls (.int x :: st) al n R I L) : xJ G l me mc ms Qv Qx cells slots (pc) ls (.int (nI i) :: .ref a :: st) al n R I L := xr_iaload hd ha hka (xvin hl hi hN) (by rw [nI_clamp (by omega)]; exact hx) kk
theorem xr_zaloadN {a i N : Nat} {x : Int32} (hd : decode me.2.1 pc = .ok (.baload, 1)) (ha : a < n) (hka : xkd G a = 14) (hl : xln G a = N) (hN : N < 2 ^ 31) (hi : i < N) (hx : I a i = x) (kk : xJ G l me mc ms Qv Qx cells slots (pc + 1) ls (.int x :: st) al n R I L) : xJ G l me mc ms Qv Qx cells slots (pc) ls (.int (nI i) :: .ref a :: st) al n R I L := xr_zaload hd ha hka (xvin hl hi hN) (by rw [nI_clamp (by omega)]; exact hx) kk
theorem xr_laloadN {a i N : Nat} {x : Int64} (hd : decode me.2.1 pc = .ok (.laload, 1)) (ha : a < n) (hka : xkd G a = 15) (hl : xln G a = N) (hN : N < 2 ^ 31) (hi : i < N) (hx : L a i = x) (kk : xJ G l me mc ms Qv Qx cells slots (pc + 1) ls (.long x :: st) al n R I L) : xJ G l me mc ms Qv Qx cells slots (pc) ls (.int (nI i) :: .ref a :: st) al n R I L := xr_laload hd ha hka (xvin hl hi hN) (by rw [nI_clamp (by omega)]; exact hx) kk
theorem xr_iastoreN {a i N : Nat} {x : Int32} (hI : I' = xu I a i x) (hd : decode me.2.1 pc = .ok (.iastore, 1)) (ha : a < n) (hka : xkd G a = 13) (hl : xln G a = N) (hN : N < 2 ^ 31) (hi : i < N) (kk : xJ G l me mc ms Qv Qx cells slots (pc + 1) ls (st) al n R I' L) : xJ G l me mc ms Qv Qx cells slots (pc) ls (.int x :: .int (nI i) :: .ref a :: st) al n R I L := xr_iastore' (by rw [nI_clamp (by omega)]; exact hI) hd ha hka (xvin hl hi hN) kk
theorem xr_zastoreN {a i N : Nat} {x : Int32} (hI : I' = xu I a i (vp_nar .boolean x)) (hd : decode me.2.1 pc = .ok (.bastore, 1)) (ha : a < n) (hka : xkd G a = 14) (hl : xln G a = N) (hN : N < 2 ^ 31) (hi : i < N) (kk : xJ G l me mc ms Qv Qx cells slots (pc + 1) ls (st) al n R I' L) : xJ G l me mc ms Qv Qx cells slots (pc) ls (.int x :: .int (nI i) :: .ref a :: st) al n R I L := xr_zastore' (by rw [nI_clamp (by omega)]; exact hI) hd ha hka (xvin hl hi hN) kk
theorem xr_lastoreN {a i N : Nat} {x : Int64} (hI : L' = xu L a i x) (hd : decode me.2.1 pc = .ok (.lastore, 1)) (ha : a < n) (hka : xkd G a = 15) (hl : xln G a = N) (hN : N < 2 ^ 31) (hi : i < N) (kk : xJ G l me mc ms Qv Qx cells slots (pc + 1) ls (st) al n R I L') : xJ G l me mc ms Qv Qx cells slots (pc) ls (.long x :: .int (nI i) :: .ref a :: st) al n R I L := xr_lastore' (by rw [nI_clamp (by omega)]; exact hI) hd ha hka (xvin hl hi hN) kk
theorem xr_acopyN {idx a0 a sp dp k N0 N : Nat} (hI : I' = va_up I a (va_cpy (I a0) (I a) sp dp k)) (hd : decode me.2.1 pc = .ok (.invokestatic idx, 3)) (hw : Cond.methodLink me.1.cls idx arraycopyName ∈ xws) (ha0 : a0 < n) (hk0 : xkd G a0 = 13) (hl0 : xln G a0 = N0) (ha : a < n) (hka : xkd G a = 13) (hl : xln G a = N) (hN : N0 < 2 ^ 31 ∧ N < 2 ^ 31) (h4 : sp + k ≤ N0) (h5 : dp + k ≤ N) (hR : 1 ≤ me.2.2.2.2.1 ∧ (st.map Value.category).sum + (nativeFrameWords "java/lang/System" "arraycopy" 5 + 11) ≤ me.2.2.2.2.2)
    (kk : xJ G l me mc ms Qv Qx cells slots (pc + 3) ls (st) al n R I' L) : xJ G l me mc ms Qv Qx cells slots (pc) ls (.int (nI k) :: .int (nI dp) :: .ref a :: .int (nI sp) :: .ref a0 :: st) al n R I L := by
  have q1 : (nI sp).toNatClampNeg = sp := nI_clamp (by omega)
  have q2 : (nI dp).toNatClampNeg = dp := nI_clamp (by omega)
  have q3 : (nI k).toNatClampNeg = k := nI_clamp (by omega)
  exact xr_acopy' (by rw [q1, q2, q3]; exact hI) hd hw ha0 hk0 ha hka (nI_pos (by omega)) (nI_pos (by omega)) (nI_pos (by omega)) (by rw [q1, q3, hl0]; exact h4) (by rw [q2, q3, hl]; exact h5) hR kk
theorem xr_aaloadN (j : Nat) {a i b N : Nat} (hd : decode me.2.1 pc = .ok (.aaload, 1)) (ha : a < n) (hj : 3 ≤ j) (hj7 : j < 7) (hka : xkd G a = 13 + j) (hl : xln G a = N) (hN : N < 2 ^ 31) (hi : i < N) (hx : R a i = some b) (kk : xJ G l me mc ms Qv Qx cells slots (pc + 1) ls (.ref b :: st) al n R I L) : xJ G l me mc ms Qv Qx cells slots (pc) ls (.int (nI i) :: .ref a :: st) al n R I L := xr_aaload j hd ha hj hj7 hka (xvin hl hi hN) (by rw [nI_clamp (by omega)]; exact hx) kk
theorem xr_putI2 (c k : Nat) {idx a : Nat} {x : Int32} (hI : I' = xu I a k x) (hd : decode me.2.1 pc = .ok (.putfield idx, 3)) (hw : Cond.fieldLink me.1.cls idx (xT c k).1 (xT c k).2.1 (xT c k).2.2.1 ∈ xws) (hc : c < 13) (hk : k < xN c) (ha : a < n) (hka : xkd G a = c)
    (hfin : (xT c k).2.2.2 = false ∨ ((xT c k).2.2.2 = true ∧ me.1.name = "<init>" ∧ (xT c k).1 = me.1.cls)) (hn : narrow (xty c k) (.int x) = .int x) (hf : fits (xty c k) (.int x) = true) (ht : ∀ (I' : Nat → Nat → Int32), xfv G R I' L (xty c k) a k = .int (I' a k))
    (kk : xJ G l me mc ms Qv Qx cells slots (pc + 3) ls (st) al n R I' L) : xJ G l me mc ms Qv Qx cells slots (pc) ls (.int x :: .ref a :: st) al n R I L := by
  subst hI
  exact xr_putI c k hd hw hc hk ha hka hfin hn hf ht kk
theorem xr_putL2 (c k : Nat) {idx a : Nat} {x : Int64} (hL : L' = xu L a k x) (hd : decode me.2.1 pc = .ok (.putfield idx, 3)) (hw : Cond.fieldLink me.1.cls idx (xT c k).1 (xT c k).2.1 (xT c k).2.2.1 ∈ xws) (hc : c < 13) (hk : k < xN c) (ha : a < n) (hka : xkd G a = c)
    (hfin : (xT c k).2.2.2 = false) (hn : narrow (xty c k) (.long x) = .long x) (hf : fits (xty c k) (.long x) = true) (ht : ∀ (L' : Nat → Nat → Int64), xfv G R I L' (xty c k) a k = .long (L' a k))
    (kk : xJ G l me mc ms Qv Qx cells slots (pc + 3) ls (st) al n R I L') : xJ G l me mc ms Qv Qx cells slots (pc) ls (.long x :: .ref a :: st) al n R I L := by
  subst hL
  exact xr_putL c k hd hw hc hk ha hka hfin hn hf ht kk
end XN
