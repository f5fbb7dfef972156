theorem xm_outer (c : ClassId) (N h0 : Nat) : ∀ i : Nat, Jvm.Free.Multi.outerC c N h0 i = arrV c N (fun j => va_rf (if j < i then some (h0 + 1 + j) else none))
  | 0 => by
    show ({ cls := c, slots := Array.replicate N .null, vm := .none } : Cell) = _
    rw [arrV_new]
    refine congrArg (arrV c N) (funext fun j => ?_)
    simp [va_rf]
  | i + 1 => by
    show (Jvm.Free.Multi.outerC c N h0 i).setSlot i (.ref (h0 + 1 + i)) = _
    rw [xm_outer c N h0 i, arrV_store]
    refine congrArg (arrV c N) (funext fun j => ?_)
    by_cases e : j = i
    · subst e
      simp [updV, va_rf]
    · by_cases h : j < i
      · simp [updV, e, h, Nat.lt_succ_of_lt h]
      · simp [updV, e, h, show ¬ j < i + 1 by omega]
section XA
variable {G : xG} {l : Launch} {me : xMe} {mc ms : Nat} {Qv : Option Value → xM → Prop} {Qx : String → xM → Prop} {cells slots pc : Nat} {ls : List (Nat × Value)} {st : List Value} {al : Bool} {n : Nat} {R : Nat → Nat → Option Nat} {I : Nat → Nat → Int32} {L : Nat → Nat → Int64}
theorem xp_eqv {R' : Nat → Nat → Option Nat} {I' : Nat → Nat → Int32} {L' : Nat → Nat → Int64} (h : ∀ k, k < n → R' k = R k ∧ I' k = I k ∧ L' k = L k) : xp G n R' I' L' = xp G n R I L := by
  unfold xp
  refine List.map_congr_left (fun k hk => ?_)
  obtain ⟨h1, h2, h3⟩ := h k (List.mem_range.mp hk)
  rw [xE_eq h1 h2 h3]
/-- what lies above n doesn't matter -/
theorem xJ.eqv {R' : Nat → Nat → Option Nat} {I' : Nat → Nat → Int32} {L' : Nat → Nat → Int64} (h : ∀ k, k < n → R' k = R k ∧ I' k = I k ∧ L' k = L k) (kk : xJ G l me mc ms Qv Qx cells slots pc ls st al n R' I' L') : xJ G l me mc ms Qv Qx cells slots pc ls st al n R I L := by
  intro p e s m args below meth c' H locs lsA C hH hS hl
  refine kk p e s m args below meth c' H locs lsA C ⟨?_, hH.2⟩ hS hl
  unfold xH
  rw [xp_eqv h]
  exact hH.1
theorem xH.push {H H' : Heap} (h : xH G n R I L H) (hn : n + 1 ≤ 1000000) (hz : H.size = xb G + n) (o1 : ∀ q : Nat, q < H.size → H'[q]? = H[q]?) (e : va_at (xD G) vwCl (xb G + n, xE G R I L n) H') : xH G (n + 1) R I L H' := by
  refine ⟨fun k x hx => ?_, hn⟩
  by_cases hk : k < n
  · rw [xp_get (Nat.lt_succ_of_lt hk)] at hx
    have h2 := h.1 k _ (xp_get hk)
    cases hx
    exact h2.kept (o1 _ h2.lt)
  · have hk2 : k = n := by
      have := (List.getElem?_eq_some_iff.mp hx).1
      simp [xp] at this
      omega
    subst hk2
    rw [xp_get (Nat.lt_succ_self k)] at hx
    cases hx
    exact e
theorem va_S.push {A : Nat → Prop} {H0 H H' : Heap} {locs : List Loc} (hS : va_S A H0 H locs) (hz : H.size ≤ H'.size) (o1 : ∀ q : Nat, q < H.size → H'[q]? = H[q]?) : va_S A H0 H' locs :=
  ⟨Nat.le_trans hS.1 hz, fun x h1 h2 => (o1 x (Nat.lt_of_lt_of_le h1 hS.1)).trans (hS.2.1 x h1 h2), hS.2.2⟩
theorem xstk {k : Nat} (h : k < 1000000) : (Value.ref k :: st).map (xtr G) = Value.ref (xb G + k) :: st.map (xtr G) := by
  show Value.ref (xad G k) :: _ = _
  rw [xad, if_pos h]
theorem xwz {p : Program} {e : Env} {s : State} {m : MethodId} {args : Array Value} {below : List Frame} {meth : Method} {c : Code} {H : Heap} {locs : List Loc} {Q : State → Prop} {g : JFrame} (C : xCx G me p s m args meth c) (hH : xH G n R I L H ∧ (al = true → s.heap.size + cells = xb G + n)) (hS : va_S (xA G) s.heap H locs) (h : (al = true → H.size = xb G + n) → W p l e (xrm me mc ms) s m args below meth c H locs cells slots Q g) : W p l e (xrm me mc ms) s m args below meth c H locs cells slots Q g := fun T hT X => h (xsize C hH hS hT X) T hT X
theorem xr_newa (atype : ArrayType) (j : Nat) {k : Int32} {N : Nat} (hj : j < 3) (hty : newarray.typeOf atype = xet (13 + j)) (hcell : ∀ cA : ClassId, vp_cell cA (xar G R I L (13 + j) n) = arrV cA N (fun _ => defaultValue (newarray.typeOf atype))) (hd : decode me.2.1 pc = .ok (.newarray atype, 2)) (hw : Cond.arrayClass (newarray.typeOf atype) ∈ xws) (hk : ¬ k < 0) (hN : k.toNatClampNeg = N) (hkd : xkd G n = 13 + j) (hby : N * componentBytes (newarray.typeOf atype) ≤ 536870912) (hn : n + 1 ≤ 1000000) (hc : cells + 1 ≤ mc) (hs : slots + N ≤ ms)
    (kk : xJ G l me mc ms Qv Qx (cells + 1) (slots + N) (pc + 2) ls (.ref n :: st) true (n + 1) R I L) : xJ G l me mc ms Qv Qx cells slots pc ls (.int k :: st) true n R I L := by
  intro p e s m args below meth c' H locs lsA C hH hS hl
  refine xwz C hH hS (fun hz0 => ?_)
  have hz := hz0 rfl
  refine va_newaK (atype := atype) C.1 C.2.1 (C.2.2.2.2.2.2.2.1 _ hw) rfl hd rfl hk hN hby hc hs hz (fun H' cA e1 z1 o1 hAr hNm => ?_)
  have h3 := (C.2.2.2.2.2.2.2.2.1.2 j _ (xtys_at j (by omega))).2
  have h4 : s.vm.findClass ("[" ++ (newarray.typeOf atype).toString) = some (xcA G (13 + j)) := by
    rw [show ((xcA G (13 + j), xet (13 + j)) : ClassId × FieldType).2 = newarray.typeOf atype from hty.symm] at h3
    cases atype <;> exact h3
  have hcA : cA = xcA G (13 + j) := Option.some.inj (hNm.symm.trans h4)
  subst hcA
  have h9 := kk p e s m args below meth c' H' locs lsA C ⟨xH.push hH.1 hn hz (fun q hq => o1 q (by omega)) (by
    rw [xE, if_neg (by rw [hkd]; omega), hkd]
    show H'[xb G + n]? = some (vp_cell (xcA G (13 + j)) (xar G R I L (13 + j) n))
    rw [hcell]
    exact e1), fun _ => by have := hH.2 rfl; omega⟩ (hS.push (by omega) (fun q hq => o1 q (by omega))) hl
  rw [xstk (by omega)] at h9
  exact h9
theorem xr_newI {k : Int32} {N : Nat} (hd : decode me.2.1 pc = .ok (.newarray .int, 2)) (hw : Cond.arrayClass .int ∈ xws) (hk : ¬ k < 0) (hN : k.toNatClampNeg = N) (hkd : xkd G n = 13) (hln : xln G n = N) (hz : I n = fun _ => 0) (hby : N ≤ 1000000) (hn : n + 1 ≤ 1000000) (hc : cells + 1 ≤ mc) (hs : slots + N ≤ ms)
    (kk : xJ G l me mc ms Qv Qx (cells + 1) (slots + N) (pc + 2) ls (.ref n :: st) true (n + 1) R I L) : xJ G l me mc ms Qv Qx cells slots pc ls (.int k :: st) true n R I L :=
  xr_newa .int 0 (by omega) rfl (fun cA => by rw [xar, hz, hln]; rfl) hd hw hk hN hkd (by show N * 4 ≤ _; omega) hn hc hs kk
theorem xr_newZ {k : Int32} {N : Nat} (hd : decode me.2.1 pc = .ok (.newarray .boolean, 2)) (hw : Cond.arrayClass .boolean ∈ xws) (hk : ¬ k < 0) (hN : k.toNatClampNeg = N) (hkd : xkd G n = 14) (hln : xln G n = N) (hz : I n = fun _ => 0) (hby : N ≤ 1000000) (hn : n + 1 ≤ 1000000) (hc : cells + 1 ≤ mc) (hs : slots + N ≤ ms)
    (kk : xJ G l me mc ms Qv Qx (cells + 1) (slots + N) (pc + 2) ls (.ref n :: st) true (n + 1) R I L) : xJ G l me mc ms Qv Qx cells slots pc ls (.int k :: st) true n R I L :=
  xr_newa .boolean 1 (by omega) rfl (fun cA => by rw [xar, hz, hln]; rfl) hd hw hk hN hkd (by show N * 1 ≤ _; omega) hn hc hs kk
theorem xr_newL {k : Int32} {N : Nat} (hd : decode me.2.1 pc = .ok (.newarray .long, 2)) (hw : Cond.arrayClass .long ∈ xws) (hk : ¬ k < 0) (hN : k.toNatClampNeg = N) (hkd : xkd G n = 15) (hln : xln G n = N) (hz : L n = fun _ => 0) (hby : N ≤ 1000000) (hn : n + 1 ≤ 1000000) (hc : cells + 1 ≤ mc) (hs : slots + N ≤ ms)
    (kk : xJ G l me mc ms Qv Qx (cells + 1) (slots + N) (pc + 2) ls (.ref n :: st) true (n + 1) R I L) : xJ G l me mc ms Qv Qx cells slots pc ls (.int k :: st) true n R I L :=
  xr_newa .long 2 (by omega) rfl (fun cA => by rw [xar, hz, hln]; rfl) hd hw hk hN hkd (by show N * 8 ≤ _; omega) hn hc hs kk
def tyok (t : FieldType) : Bool := match t with
  | .float => false
  | .double => false
  | _ => true
theorem xfv_0 {t : FieldType} (ht : tyok t = true) (hR : R n = fun _ => none) (hI : I n = fun _ => 0) (hL : L n = fun _ => 0) (j : Nat) : defaultValue t = xfv G R I L t n j := by
  cases t <;> simp_all [xfv, defaultValue, xrv, va_rf, tyok]
theorem xok : ∀ c, c < 13 → ∀ j, j < xN c → tyok (xty c j) = true := by decide +kernel
theorem xr_new (c : Nat) {idx : Nat} (hd : decode me.2.1 pc = .ok (.new idx, 3)) (hw : Cond.classLink me.1.cls idx (xC c) ∈ xws) (hw2 : Cond.instantiable (xC c) (xN c) ∈ xws ∧ Cond.initialized (xC c) ∈ xws) (hc : c < 13) (hkd : xkd G n = c) (hR : R n = fun _ => none) (hI : I n = fun _ => 0) (hL : L n = fun _ => 0) (hn : n + 1 ≤ 1000000) (hcl : cells + 1 ≤ mc) (hs : slots + xN c ≤ ms)
    (kk : xJ G l me mc ms Qv Qx (cells + 1) (slots + xN c) (pc + 3) ls (.ref n :: st) true (n + 1) R I L) : xJ G l me mc ms Qv Qx cells slots pc ls st true n R I L := by
  intro p e s m args below meth c' H locs lsA C hH hS hl
  refine xwz C hH hS (fun hz0 => ?_)
  have hz := hz0 rfl
  have hKn := C.2.2.2.2.2.2.2.2.1.1 c _ (xcl_at c hc)
  refine W.newcK C.1 C.2.1 C.2.2.2.2.2.2.1 (C.2.2.2.2.2.2.2.1 _ hw) (C.2.2.2.2.2.2.2.1 _ hw2.1) (C.2.2.2.2.2.2.2.1 _ hw2.2) rfl hd hcl hs hKn.2.1 hz (fun H1 kC hkC e1 z1 o1 => ?_)
  have h9 := kk p e s m args below meth c' H1 locs lsA C ⟨xH.push hH.1 hn hz (fun q hq => o1 q (by omega)) (by
    rw [xE, if_pos (by rw [hkd]; exact hc), hkd]
    exact ⟨_, xcl_at c hc, (u_born (xty c) C.2.2.2.2.2.2.2.1 (xcl_in c hc) hKn hkC e1 (xcl_ty c hc)).to (fun j hj => by
      rw [vp_V, List.getD_eq_getElem?_getD, xfs_get hj]
      exact xfv_0 (xok c hc j hj) hR hI hL j)⟩), fun _ => by have := hH.2 rfl; omega⟩ (hS.push (by omega) (fun q hq => o1 q (by omega))) hl
  rw [xstk (by omega)] at h9
  exact h9
theorem xr_anew (j : Nat) (E : String) {idx : Nat} {k : Int32} {N : Nat} (hj : 4 ≤ j) (hj7 : j < 7) (hty : xet (13 + j) = .object E) (hao : FieldType.object E ∈ xao) (hd : decode me.2.1 pc = .ok (.anewarray idx, 3)) (hw : Cond.classLink me.1.cls idx E ∈ xws) (hk : ¬ k < 0) (hN : k.toNatClampNeg = N) (hkd : xkd G n = 13 + j) (hln : xln G n = N) (hR : R n = fun _ => none) (hby : N ≤ 1000000) (hn : n + 1 ≤ 1000000) (hc : cells + 1 ≤ mc) (hs : slots + N ≤ ms)
    (kk : xJ G l me mc ms Qv Qx (cells + 1) (slots + N) (pc + 3) ls (.ref n :: st) true (n + 1) R I L) : xJ G l me mc ms Qv Qx cells slots pc ls (.int k :: st) true n R I L := by
  subst hN
  intro p e s m args below meth c' H locs lsA C hH hS hl
  refine xwz C hH hS (fun hz0 => ?_)
  have hz := hz0 rfl
  refine W.anew C.1 C.2.1 C.2.2.2.2.2.2.1 (C.2.2.2.2.2.2.2.1 _ hw) (va_AO.use (C.2.2.2.2.2.2.2.2.2.1.2.2.2.2.2.2 _ hao)) rfl hd rfl hk (by omega) hc hs (fun cA kA comp f1 f2 f3 f4 => ?_)
  have h3 := (C.2.2.2.2.2.2.2.2.1.2 j _ (xtys_at j (by omega))).2
  rw [show ((xcA G (13 + j), xet (13 + j)) : ClassId × FieldType).2 = FieldType.object E from hty] at h3
  obtain ⟨kA', comp', -, -, -, h4⟩ := h3
  have hcA : cA = xcA G (13 + j) := Option.some.inj (f1.symm.trans h4)
  subst hcA
  generalize hH1 : H.push ({ cls := xcA G (13 + j), slots := Array.replicate k.toNatClampNeg .null, vm := .none } : Cell) = H1
  have z1 : H1.size = H.size + 1 := by rw [← hH1, Array.size_push]
  have e1 : H1[H.size]? = some (arrV (xcA G (13 + j)) k.toNatClampNeg (fun _ => .null)) := by rw [← hH1, Array.getElem?_push_size, ← arrV_new]
  have o1 : ∀ q : Nat, q < H.size → H1[q]? = H[q]? := fun q hq => by rw [← hH1, Array.getElem?_push, if_neg (Nat.ne_of_lt hq)]
  have h9 := kk p e s m args below meth c' H1 locs lsA C ⟨xH.push hH.1 hn hz o1 (by
    rw [xE, if_neg (by rw [hkd]; omega), hkd, xar_ref j (by omega) hj7, hR, hln]
    show H1[xb G + n]? = some (vp_cell _ _)
    rw [vp_cell_q, ← hz]
    exact e1), fun _ => by have := hH.2 rfl; omega⟩ (hS.push (by omega) o1) hl
  rw [xstk (by omega), ← hz] at h9
  exact h9
/-- the rows of an array of arrays -/
def xmul (R : Nat → Nat → Option Nat) (o N : Nat) : Nat → Nat → Option Nat := fun k i => if k = o then (if i < N then some (o + 1 + i) else none) else R k i
theorem xH.pushs {H H' : Heap} (N : Nat) (h : xH G n R I L H) (hn : n + N ≤ 1000000) (hz : H.size = xb G + n) (o1 : ∀ q : Nat, q < H.size → H'[q]? = H[q]?) (e : ∀ j, j < N → va_at (xD G) vwCl (xb G + (n + j), xE G R I L (n + j)) H') : xH G (n + N) R I L H' := by
  refine ⟨fun k x hx => ?_, hn⟩
  have hk0 : k < n + N := by
    have := (List.getElem?_eq_some_iff.mp hx).1
    simpa [xp] using this
  rw [xp_get hk0] at hx
  cases hx
  by_cases hk : k < n
  · have h2 := h.1 k _ (xp_get hk)
    exact h2.kept (o1 _ h2.lt)
  · have h3 := e (k - n) (by omega)
    rw [show n + (k - n) = k by omega] at h3
    exact h3
theorem xr_mna {idx : Nat} {a b : Int32} {N K : Nat} (hd : decode me.2.1 pc = .ok (.multianewarray idx 2, 4)) (hw : Cond.classLink me.1.cls idx "[[I" ∈ xws) (hw2 : Cond.arrayClass .int ∈ xws) (ha : ¬ a < 0) (hb : ¬ b < 0) (hN : a.toNatClampNeg = N) (hK : b.toNatClampNeg = K) (hkd : xkd G n = 16) (hln : xln G n = N) (hrow : ∀ i, i < N → xkd G (n + 1 + i) = 13 ∧ xln G (n + 1 + i) = K) (hI : ∀ k, n < k → I k = fun _ => 0) (hNb : N ≤ 1000) (hKb : K ≤ 1000) (hn : n + 1 + N ≤ 1000000) (hc : cells + (1 + N) ≤ mc) (hs : slots + (N + N * K) ≤ ms)
    (kk : xJ G l me mc ms Qv Qx (cells + 1 + N) (slots + N + N * K) (pc + 4) ls (.ref n :: st) true (n + 1 + N) (xmul R n N) I L) : xJ G l me mc ms Qv Qx cells slots pc ls (.int b :: .int a :: st) true n R I L := by
  subst hN
  subst hK
  refine xJ.eqv (R' := xmul R n a.toNatClampNeg) (I' := I) (L' := L) (fun k hk => ⟨by funext i; rw [xmul, if_neg (by omega)], rfl, rfl⟩) ?_
  intro p e s m args below meth c' H locs lsA C hH hS hl T hT X
  have hz := xsize C hH hS hT X rfl
  have hK2 := C.2.2.2.2.2.2.2.2.1.2
  have r16 : s.vm.findClass "[[I" = some (xcA G 16) := (hK2 3 _ (xtys_at 3 (by omega))).2
  have r13 : s.vm.findClass "[I" = some (xcA G 13) := (hK2 0 _ (xtys_at 0 (by omega))).2
  obtain ⟨vm₁, cA, comp, -, fA, fC, hO, -, X', step⟩ := X.multianewarray2F C.1 (ty := .int) C.2.2.2.2.2.2.1 (C.2.2.2.2.2.2.2.1 _ hw) (by have := C.2.2.2.2.2.2.2.2.2.1.2.2.2.2.2.2 (.array .int) (by simp [xao]); exact this) (C.2.2.2.2.2.2.2.1 _ hw2) (g := F0 m pc lsA (.int b :: .int a :: st.map (xtr G))) rfl (by rw [C.2.1]; exact hd) rfl ha hb (by omega) (by show _ * 4 ≤ _; omega) (by omega) rfl rfl hc hs
  have ec : cA = xcA G 16 := Option.some.inj (fA.symm.trans r16)
  have ec2 : comp = xcA G 13 := Option.some.inj (fC.symm.trans r13)
  subst ec
  subst ec2
  generalize hF : Jvm.Free.Multi.fill (T.setVm vm₁) (xcA G 16) (xcA G 13) a.toNatClampNeg b.toNatClampNeg (defaultValue .int) a.toNatClampNeg = F at X' step
  have hTh : (T.setVm vm₁).heap = H := hT
  obtain ⟨f1, f2, -, -⟩ := Jvm.Free.Multi.fill_facts (T.setVm vm₁) (xcA G 16) (xcA G 13) a.toNatClampNeg b.toNatClampNeg (defaultValue .int) a.toNatClampNeg
  rw [hF, hTh] at f1 f2
  have hold : ∀ x : Nat, x < H.size → F.heap[x]? = H[x]? := fun x hx => by
    have := Jvm.Free.Multi.fill_old (T.setVm vm₁) (xcA G 16) (xcA G 13) a.toNatClampNeg b.toNatClampNeg (defaultValue .int) (a := x) (by rw [hTh]; exact hx) a.toNatClampNeg
    rw [hF, hTh] at this
    exact this
  have hrw : ∀ j : Nat, j < a.toNatClampNeg → F.heap[H.size + 1 + j]? = some (Jvm.Free.Multi.innerC (xcA G 13) b.toNatClampNeg (defaultValue .int)) := fun j hj => by
    have := Jvm.Free.Multi.fill_inner (T.setVm vm₁) (xcA G 16) (xcA G 13) a.toNatClampNeg b.toNatClampNeg (defaultValue .int) a.toNatClampNeg j hj
    rw [hF, hTh] at this
    exact this
  rw [xm_outer] at f2
  have h9 := kk p e s m args below meth c' F.heap locs lsA C ⟨?_, fun _ => by have := hH.2 rfl; omega⟩ (hS.push (by omega) hold) hl
  · rw [xstk (by omega), ← hz, ← hTh] at h9
    obtain ⟨t2, a1, b1⟩ := h9 F rfl X'
    exact ⟨t2, step t2 a1, b1⟩
  · have h8 := xH.pushs (1 + a.toNatClampNeg) (H' := F.heap) hH.1 (by omega) hz hold (fun j hj => ?_)
    · rw [show n + (1 + a.toNatClampNeg) = n + 1 + a.toNatClampNeg by omega] at h8
      exact h8
    · by_cases j0 : j = 0
      · subst j0
        rw [Nat.add_zero, xE, if_neg (by rw [hkd]; omega), hkd, xar_ref 3 (by omega) (by omega), hln]
        show F.heap[xb G + n]? = some (vp_cell _ _)
        rw [vp_cell_q, ← hz, f2]
        congr 2
        funext i
        rw [xmul, if_pos rfl]
        by_cases hi : i < a.toNatClampNeg
        · rw [if_pos hi, if_pos hi]
          show _ = va_rf (some (xad G (n + 1 + i)))
          rw [xad, if_pos (by omega), hz, Nat.add_assoc, Nat.add_assoc, Nat.add_assoc]
        · rw [if_neg hi, if_neg hi]
          rfl
      · have h5 := hrow (j - 1) (by omega)
        rw [show n + 1 + (j - 1) = n + j by omega] at h5
        have h6 := hrw (j - 1) (by omega)
        rw [show H.size + 1 + (j - 1) = xb G + (n + j) by omega] at h6
        rw [xE, if_neg (by rw [h5.1]; omega), h5.1, xar, h5.2, hI _ (by omega)]
        show F.heap[xb G + (n + j)]? = some (vp_cell _ _)
        rw [h6]
        congr 1
        show ({ cls := xcA G 13, slots := Array.replicate b.toNatClampNeg (.int 0), vm := .none } : Cell) = arrV _ _ (fun _ => Value.int 0)
        rw [arrV_new]
/-- a reference put into an array of objects -/
theorem xr_aast (j cl : Nat) {a v : Nat} {i : Int32} (hd : decode me.2.1 pc = .ok (.aastore, 1)) (hj : 3 ≤ j) (hj7 : j < 7) (hcl : cl < 13) (hty : xet (13 + j) = .object (xC cl)) (ha : a < n) (hka : xkd G a = 13 + j) (hv : v < n) (hkv : xkd G v = cl) (hi : vp_in i (xln G a))
    (kk : xJ G l me mc ms Qv Qx cells slots (pc + 1) ls st al n (xu R a i.toNatClampNeg (some v)) I L) : xJ G l me mc ms Qv Qx cells slots pc ls (.ref v :: .int i :: .ref a :: st) al n R I L := by
  intro p e s m args below meth c' H locs lsA C hH hS hl
  show W _ _ _ _ _ _ _ _ _ _ _ _ _ _ _ (F0 m pc lsA (.ref (xad G v) :: .int i :: .ref (xad G a) :: st.map (xtr G)))
  rw [xad_in ha hH.1.2, xad_in hv hH.1.2]
  have hA := xp_arr (R := R) (I := I) (L := L) ha hka (by omega)
  rw [xar_ref j hj hj7] at hA
  have hT0 := xtys_at (G := G) j hj7
  rw [hty] at hT0
  refine va_astq (D := xD G) (r := xcl cl) C.1 C.2.1 C.2.2.2.2.2.2.2.2.1 hH.1.1 xp_D hS a j v cl hA hT0 (xp_obj hv hkv hcl) (xcl_at cl hcl) hi hd (fun H1 locs1 h1 _ h3 => ?_)
  rw [xp_set (R' := xu R a i.toNatClampNeg (some v)) (I' := I) (L' := L) (fun q hq => xu_r R _ hq) (fun _ _ => rfl) (fun _ _ => rfl) (by
    rw [xE, if_neg (by rw [hka]; omega), hka, xar_ref j hj hj7]
    congr 6
    refine congrArg Sum.inr (funext fun q => ?_)
    by_cases hq : q = i.toNatClampNeg
    · subst hq
      rw [xu_s, va_up_self]
      show some _ = some (xad G v)
      rw [xad_in hv hH.1.2]
    · rw [xu_n R _ (Or.inr hq), va_up_ne _ _ hq])] at h1
  exact kk p e s m args below meth c' H1 locs1 lsA C ⟨⟨h1, hH.1.2⟩, hH.2⟩ h3 hl
theorem xr_oinit {idx a : Nat} (hd : decode me.2.1 pc = .ok (.invokespecial idx, 3)) (hw : Cond.methodLink me.1.cls idx Lib.objectInit ∈ xws) (hw2 : Cond.instanceMethod Lib.objectInit ∈ xws ∧ Cond.code Lib.objectInit ⟨#[0xb1]⟩ 1 none ∈ xws) (hR : 1 ≤ me.2.2.2.2.1 ∧ (st.map Value.category).sum + 12 ≤ me.2.2.2.2.2)
    (kk : xJ G l me mc ms Qv Qx cells slots (pc + 3) ls st al n R I L) : xJ G l me mc ms Qv Qx cells slots pc ls (.ref a :: st) al n R I L := by
  intro p e s m args below meth c' H locs lsA C hH hS hl
  exact W.objInit C.1 C.2.1 C.2.2.2.2.2.2.1 (C.2.2.2.2.2.2.2.1 _ hw) (C.2.2.2.2.2.2.2.1 _ hw2.1) (C.2.2.2.2.2.2.2.1 _ hw2.2) rfl (hl.1.trans C.2.2.1.symm) rfl hd hR.1 (by show 2 * 0 + _ + _ ≤ _; rw [xcats]; simpa using hR.2) (kk p e s m args below meth c' H locs lsA C hH hS hl)
/-- a constructor that is called -/
theorem xr_callI (me' : xMe) (k : Nat) (As : List Value) {idx b mc' ms' : Nat} {Qv' : Option Value → xM → Prop} (hd : decode me.2.1 pc = .ok (.invokespecial idx, 3)) (hw : Cond.methodLink me.1.cls idx me'.1 ∈ xws) (hK : xKI me' k) (hn : As.length = k) (hb : b < n)
    (hR : me'.2.2.2.2.1 + 1 ≤ me.2.2.2.2.1 ∧ 8 + (me'.2.2.1 + 11) + me'.2.2.2.2.2 ≤ me.2.2.2.2.2) (hst : (st.map Value.category).sum ≤ 8) (hcn : xCn G l me' (.ref b :: As) al (n, R, I, L) mc' ms' Qv' (fun _ _ => False)) (hcl : cells + mc' ≤ mc) (hsl : slots + ms' ≤ ms)
    (kk : ∀ (v : Option Value) (M : xM), Qv' v M → xJ G l me mc ms Qv Qx (cells + mc') (slots + ms') (pc + 3) ls (v.toList ++ st) al M.1 M.2.1 M.2.2.1 M.2.2.2) :
    xJ G l me mc ms Qv Qx cells slots pc ls (As.reverse ++ .ref b :: st) al n R I L := by
  intro p e s m args below meth c H locs lsA C hH hS hl T hT X
  have hz := xsize C hH hS hT X
  rw [xrev, xad_in hb hH.1.2]
  refine xcall (mc' := mc') (ms' := ms') (Qx' := fun _ _ => False) (a := (Value.ref (xb G + b) :: As.map (xtr G)).toArray) ?_ C hH hS hl hcl hsl kk (fun _ _ h => h.elim) T hT X
  obtain ⟨k1, k2, k3, k4, k5, k6⟩ := hK
  have hG : GoodIn xws (Cond.code me'.1 me'.2.1 me'.2.2.1 none :: xws) := by rw [← k5]; exact xgood k1
  have hws : xwm me' = Cond.code me'.1 me'.2.1 me'.2.2.1 none :: xws := by rw [← k5]
  refine xrunOf (va_runI (Ts := xws) (own := me.1.cls) (index := idx) (bytes := me'.2.1) (maxL := me'.2.2.1) (n := k) ⟨C.1, C.2.1, C.2.2.1, C.2.2.2.2.2.2.1, C.2.2.2.2.2.2.2.1⟩ hcn.met (cwI k C.2.2.2.2.2.2.2.1 (xgood k1) hws rfl rfl (C.2.2.2.2.2.2.2.1 _ k3) (C.2.2.2.2.2.2.2.1 _ hw) (C.2.2.2.2.2.2.2.1 _ k2) k4 k6 hR) ⟨xblind, fun U hU hW => ?_⟩ rfl (by rw [List.length_map]; exact hn) hl.1 rfl (xsum st hst) hd ⟨hcl, hsl⟩)
  have h9 := xpre (As := .ref b :: As) C hH.1 hz hS hU hW
  have e9 : (Value.ref b :: As).map (xtr G) = Value.ref (xb G + b) :: As.map (xtr G) := by
    rw [← xad_in hb hH.1.2]; rfl
  rw [e9] at h9
  exact h9
theorem xr_callIN (me' : xMe) (k : Nat) (As : List Value) {idx b mc' ms' : Nat} {Qv' : Option Value → xM → Prop} (hd : decode me.2.1 pc = .ok (.invokespecial idx, 3)) (hw : Cond.methodLinkNest me.1.cls idx me'.1 "LossyPair" ∈ xnw) (hK : xKI me' k) (hn : As.length = k) (hb : b < n)
    (hR : me'.2.2.2.2.1 + 1 ≤ me.2.2.2.2.1 ∧ 8 + (me'.2.2.1 + 11) + me'.2.2.2.2.2 ≤ me.2.2.2.2.2) (hst : (st.map Value.category).sum ≤ 8) (hcn : xCn G l me' (.ref b :: As) al (n, R, I, L) mc' ms' Qv' (fun _ _ => False)) (hcl : cells + mc' ≤ mc) (hsl : slots + ms' ≤ ms)
    (kk : ∀ (v : Option Value) (M : xM), Qv' v M → xJ G l me mc ms Qv Qx (cells + mc') (slots + ms') (pc + 3) ls (v.toList ++ st) al M.1 M.2.1 M.2.2.1 M.2.2.2) :
    xJ G l me mc ms Qv Qx cells slots pc ls (As.reverse ++ .ref b :: st) al n R I L := by
  intro p e s m args below meth c H locs lsA C hH hS hl T hT X
  have hz := xsize C hH hS hT X
  rw [xrev, xad_in hb hH.1.2]
  refine xcall (mc' := mc') (ms' := ms') (Qx' := fun _ _ => False) (a := (Value.ref (xb G + b) :: As.map (xtr G)).toArray) ?_ C hH hS hl hcl hsl kk (fun _ _ h => h.elim) T hT X
  obtain ⟨k1, k2, k3, k4, k5, k6⟩ := hK
  have hws : xwm me' = Cond.code me'.1 me'.2.1 me'.2.2.1 none :: xws := by rw [← k5]
  refine xrunOf (va_runIN (host := "LossyPair") (Ts := xws) (own := me.1.cls) (index := idx) (bytes := me'.2.1) (maxL := me'.2.2.1) (n := k) ⟨C.1, C.2.1, C.2.2.1, C.2.2.2.2.2.2.1, C.2.2.2.2.2.2.2.1⟩ hcn.met ⟨va_cnB k C.2.2.2.2.2.2.2.1 (xgood k1) hws rfl rfl (C.2.2.2.2.2.2.2.2.2.1.2.2.2.2.2.1 _ hw) (C.2.2.2.2.2.2.2.1 _ k3) k6 hR, k4, C.2.2.2.2.2.2.2.1 _ k2⟩ ⟨xblind, fun U hU hW => ?_⟩ rfl (by rw [List.length_map]; exact hn) hl.1 rfl (xsum st hst) hd ⟨hcl, hsl⟩)
  have h9 := xpre (As := .ref b :: As) C hH.1 hz hS hU hW
  have e9 : (Value.ref b :: As).map (xtr G) = Value.ref (xb G + b) :: As.map (xtr G) := by
    rw [← xad_in hb hH.1.2]; rfl
  rw [e9] at h9
  exact h9
end XA
