/-- the beginning: every cell is counted, the end asks for no count -/
def bJ (G : xG) (l : Launch) (me : xMe) (mc ms : Nat) (Qv : Option Value → xM → Prop) (cells slots pc : Nat) (ls : List (Nat × Value)) (st : List Value) (n : Nat) (R : Nat → Nat → Option Nat) (I : Nat → Nat → Int32) (L : Nat → Nat → Int64) : Prop :=
  ∀ (p : Program) (e : Env) (s : State) (m : MethodId) (args : Array Value) (below : List Frame) (meth : Method) (c : Code) (H : Heap) (locs : List Loc) (lsA : Array Slot),
    xCx G me p s m args meth c → (xH G n R I L H ∧ (true = true → s.heap.size + cells = xb G + n)) → va_S (xA G) s.heap H locs → lv_has lsA me.2.2.1 (xtl G ls) →
    W p l e (xrm me mc ms) s m args below meth c H locs cells slots (vx_MQ below (xQc G false mc Qv) (xXc G (fun _ _ => False)) args s mc ms (xA G)) (F0 m pc lsA (st.map (xtr G)))
section BJ
variable {G : xG} {l : Launch} {me : xMe} {mc ms : Nat} {Qv : Option Value → xM → Prop} {cells slots pc : Nat} {ls : List (Nat × Value)} {st : List Value} {n : Nat} {R : Nat → Nat → Option Nat} {I : Nat → Nat → Int32} {L : Nat → Nat → Int64}
theorem bJ.to (h : xJ G l me mc ms Qv (fun _ _ => False) cells slots pc ls st false n R I L) : bJ G l me mc ms Qv cells slots pc ls st n R I L := fun p e s m args below meth c H locs lsA C hH hS hl => h p e s m args below meth c H locs lsA C ⟨hH.1, fun q => by cases q⟩ hS hl
theorem bJ.eqv {R' : Nat → Nat → Option Nat} {I' : Nat → Nat → Int32} {L' : Nat → Nat → Int64} (h : ∀ k, k < n → R' k = R k ∧ I' k = I k ∧ L' k = L k) (kk : bJ G l me mc ms Qv cells slots pc ls st n R' I' L') : bJ G l me mc ms Qv cells slots pc ls st n R I L := by
  intro p e s m args below meth c' H locs lsA C hH hS hl
  refine kk p e s m args below meth c' H locs lsA C ⟨?_, hH.2⟩ hS hl
  unfold xH
  rw [xp_eqv h]
  exact hH.1
theorem br_iconst {z : Int} {v : Int32} (hd : decode me.2.1 pc = .ok (.iconst z, 1)) (hv : Int32.ofInt z = v) (kk : bJ G l me mc ms Qv cells slots (pc + 1) ls (.int v :: st) n R I L) : bJ G l me mc ms Qv cells slots (pc) ls (st) n R I L := by
  intro p e s m args below meth c H locs lsA C hH hS hl
  exact lv_iconst C.1 C.2.1 hd hv (kk p e s m args below meth c H locs lsA C hH hS hl)
theorem br_dup {a : Value} (hd : decode me.2.1 pc = .ok (.dup, 1)) (ha : a.category = 1) (kk : bJ G l me mc ms Qv cells slots (pc + 1) ls (a :: a :: st) n R I L) : bJ G l me mc ms Qv cells slots (pc) ls (a :: st) n R I L := by
  intro p e s m args below meth c H locs lsA C hH hS hl
  exact lv_dup C.1 C.2.1 hd (by rw [xtr_cat]; exact ha) (kk p e s m args below meth c H locs lsA C hH hS hl)
theorem br_astore_n {k : Fin 4} {i : Nat} {x : Nat} (ls' : List (Nat × Value)) (hd : decode me.2.1 pc = .ok (.astore_n k, 1)) (hi : (k : Nat) = i) (hn : i < me.2.2.1) (hs : xs1 i (.ref x) ls = ls') (kk : bJ G l me mc ms Qv cells slots (pc + 1) ls' (st) n R I L) : bJ G l me mc ms Qv cells slots (pc) ls (.ref x :: st) n R I L := by
  intro p e s m args below meth c H locs lsA C hH hS hl
  subst hs
  exact lv_astore_n C.1 C.2.1 hd hi hl hn rfl (fun A hA => kk p e s m args below meth c H locs A C hH hS (xs1_has hA))
theorem br_newa (atype : ArrayType) (j : Nat) {k : Int32} {N : Nat} (hj : j < 3) (hty : newarray.typeOf atype = xet (13 + j)) (hcell : ∀ cA : ClassId, vp_cell cA (xar G R I L (13 + j) n) = arrV cA N (fun _ => defaultValue (newarray.typeOf atype))) (hd : decode me.2.1 pc = .ok (.newarray atype, 2)) (hw : Cond.arrayClass (newarray.typeOf atype) ∈ xws) (hk : ¬ k < 0) (hN : k.toNatClampNeg = N) (hkd : xkd G n = 13 + j) (hby : N * componentBytes (newarray.typeOf atype) ≤ 536870912) (hn : n + 1 ≤ 1000000) (hc : cells + 1 ≤ mc) (hs : slots + N ≤ ms)
    (kk : bJ G l me mc ms Qv (cells + 1) (slots + N) (pc + 2) ls (.ref n :: st) (n + 1) R I L) : bJ G l me mc ms Qv cells slots pc ls (.int k :: st) n R I L := by
  intro p e s m args below meth c' H locs lsA C hH hS hl
  refine xwz C hH hS (fun hz0 => ?_)
  have hz := hz0 rfl
  refine va_newaK (atype := atype) C.1 C.2.1 (C.2.2.2.2.2.2.2.1 _ hw) rfl hd rfl hk hN hby hc hs hz (fun H' cA e1 z1 o1 hAr hNm => ?_)
  have h3 := (C.2.2.2.2.2.2.2.2.1.2 j _ (xtys_at j (by omega))).2
  have h4 : s.vm.findClass ("[" ++ (newarray.typeOf atype).toString) = some (xcA G (13 + j)) := by
    rw [show ((xcA G (13 + j), xet (13 + j)) : ClassId × FieldType).2 = newarray.typeOf atype from hty.symm] at h3
    cases atype <;> exact h3
  have hcA : cA = xcA G (13 + j) := Option.some.inj (hNm.symm.trans h4)
  subst hcA
  have h9 := kk p e s m args below meth c' H' locs lsA C ⟨xH.push hH.1 hn hz (fun q hq => o1 q (by omega)) (by
    rw [xE, if_neg (by rw [hkd]; omega), hkd]
    show H'[xb G + n]? = some (vp_cell (xcA G (13 + j)) (xar G R I L (13 + j) n))
    rw [hcell]
    exact e1), fun _ => by have := hH.2 rfl; omega⟩ (hS.push (by omega) (fun q hq => o1 q (by omega))) hl
  rw [xstk (by omega)] at h9
  exact h9
theorem br_newL {k : Int32} {N : Nat} (hd : decode me.2.1 pc = .ok (.newarray .long, 2)) (hw : Cond.arrayClass .long ∈ xws) (hk : ¬ k < 0) (hN : k.toNatClampNeg = N) (hkd : xkd G n = 15) (hln : xln G n = N) (hz : L n = fun _ => 0) (hby : N ≤ 1000000) (hn : n + 1 ≤ 1000000) (hc : cells + 1 ≤ mc) (hs : slots + N ≤ ms)
    (kk : bJ G l me mc ms Qv (cells + 1) (slots + N) (pc + 2) ls (.ref n :: st) (n + 1) R I L) : bJ G l me mc ms Qv cells slots pc ls (.int k :: st) n R I L :=
  br_newa .long 2 (by omega) rfl (fun cA => by rw [xar, hz, hln]; rfl) hd hw hk hN hkd (by show N * 8 ≤ _; omega) hn hc hs kk
theorem br_new (c : Nat) {idx : Nat} (hd : decode me.2.1 pc = .ok (.new idx, 3)) (hw : Cond.classLink me.1.cls idx (xC c) ∈ xws) (hw2 : Cond.instantiable (xC c) (xN c) ∈ xws ∧ Cond.initialized (xC c) ∈ xws) (hc : c < 13) (hkd : xkd G n = c) (hR : R n = fun _ => none) (hI : I n = fun _ => 0) (hL : L n = fun _ => 0) (hn : n + 1 ≤ 1000000) (hcl : cells + 1 ≤ mc) (hs : slots + xN c ≤ ms)
    (kk : bJ G l me mc ms Qv (cells + 1) (slots + xN c) (pc + 3) ls (.ref n :: st) (n + 1) R I L) : bJ G l me mc ms Qv cells slots pc ls st n R I L := by
  intro p e s m args below meth c' H locs lsA C hH hS hl
  refine xwz C hH hS (fun hz0 => ?_)
  have hz := hz0 rfl
  have hKn := C.2.2.2.2.2.2.2.2.1.1 c _ (xcl_at c hc)
  refine W.newcK C.1 C.2.1 C.2.2.2.2.2.2.1 (C.2.2.2.2.2.2.2.1 _ hw) (C.2.2.2.2.2.2.2.1 _ hw2.1) (C.2.2.2.2.2.2.2.1 _ hw2.2) rfl hd hcl hs hKn.2.1 hz (fun H1 kC hkC e1 z1 o1 => ?_)
  have h9 := kk p e s m args below meth c' H1 locs lsA C ⟨xH.push hH.1 hn hz (fun q hq => o1 q (by omega)) (by
    rw [xE, if_pos (by rw [hkd]; exact hc), hkd]
    exact ⟨_, xcl_at c hc, (u_born (xty c) C.2.2.2.2.2.2.2.1 (xcl_in c hc) hKn hkC e1 (xcl_ty c hc)).to (fun j hj => by
      rw [vp_V, List.getD_eq_getElem?_getD, xfs_get hj]
      exact xfv_0 (xok c hc j hj) hR hI hL j)⟩), fun _ => by have := hH.2 rfl; omega⟩ (hS.push (by omega) (fun q hq => o1 q (by omega))) hl
  rw [xstk (by omega)] at h9
  exact h9
theorem bcall {p : Program} {e : Env} {s : State} {m : MethodId} {args : Array Value} {below : List Frame} {meth : Method} {c : Code} {H : Heap} {locs : List Loc} {lsA : Array Slot} {mc' ms' : Nat} {Qv' : Option Value → xM → Prop} {st0 : List Value} {a : Array Value}
    (hr : vx_Run p l e (xrm me mc ms) s m args below meth c H locs cells slots mc' ms' (F0 m pc lsA st0) (st.map (xtr G)) (xQc G true mc' Qv' a) (xXc G (fun _ _ => False)) (xA G))
    (C : xCx G me p s m args meth c) (hH : xH G n R I L H ∧ (true = true → s.heap.size + cells = xb G + n)) (hS : va_S (xA G) s.heap H locs) (hl : lv_has lsA me.2.2.1 (xtl G ls)) (hcl : cells + mc' ≤ mc) (hsl : slots + ms' ≤ ms)
    (kk : ∀ (v : Option Value) (M : xM), Qv' v M → bJ G l me mc ms Qv (cells + mc') (slots + ms') (pc + 3) ls (v.toList ++ st) M.1 M.2.1 M.2.2.1 M.2.2.2) :
    W p l e (xrm me mc ms) s m args below meth c H locs cells slots (vx_MQ below (xQc G false mc Qv) (xXc G (fun _ _ => False)) args s mc ms (xA G)) (F0 m pc lsA st0) := by
  intro T hT X
  have hz := xsize C hH hS hT X
  rcases hr T hT X with ⟨v, st₀, t, T', L', h0, X', hL, e1, e2, ⟨⟨v0, M, hv, hq, hM, hal⟩, hF⟩, st1⟩ | ⟨q, st₀, t, T', L', E, ce, h0, X', hL, e1, e2, ⟨⟨M, hq, hM⟩, hF⟩, hce, hcv, hcl', st1⟩
  · cases hv
    obtain ⟨k1, k2, k3⟩ := vx_keep h0 e1 hS (fun _ _ h => h) (fun _ h => h) hL hF
    have h9 := kk v0 M hq p e s m args below meth c T'.heap (locs ++ L') lsA C ⟨by rw [e1]; exact hM, fun q => by
      have h1 := hal q
      have h2 := hz q
      have h3 := hH.2 q
      rw [h0] at h1
      omega⟩ k3 hl
    rw [← xval] at h9
    obtain ⟨t2, a1, b1⟩ := h9 T' rfl X'
    exact ⟨t2, st1 t2 a1, b1⟩
  · exact hq.elim
theorem br_callI (me' : xMe) (k : Nat) (As : List Value) {idx b mc' ms' : Nat} {Qv' : Option Value → xM → Prop} (hd : decode me.2.1 pc = .ok (.invokespecial idx, 3)) (hw : Cond.methodLink me.1.cls idx me'.1 ∈ xws) (hK : xKI me' k) (hn : As.length = k) (hb : b < n)
    (hR : me'.2.2.2.2.1 + 1 ≤ me.2.2.2.2.1 ∧ 8 + (me'.2.2.1 + 11) + me'.2.2.2.2.2 ≤ me.2.2.2.2.2) (hst : (st.map Value.category).sum ≤ 8) (hcn : xCn G l me' (.ref b :: As) true (n, R, I, L) mc' ms' Qv' (fun _ _ => False)) (hcl : cells + mc' ≤ mc) (hsl : slots + ms' ≤ ms)
    (kk : ∀ (v : Option Value) (M : xM), Qv' v M → bJ G l me mc ms Qv (cells + mc') (slots + ms') (pc + 3) ls (v.toList ++ st) M.1 M.2.1 M.2.2.1 M.2.2.2) :
    bJ G l me mc ms Qv cells slots pc ls (As.reverse ++ .ref b :: st) n R I L := by
  intro p e s m args below meth c H locs lsA C hH hS hl T hT X
  have hz := xsize C hH hS hT X
  rw [xrev, xad_in hb hH.1.2]
  refine bcall (mc' := mc') (ms' := ms') (a := (Value.ref (xb G + b) :: As.map (xtr G)).toArray) ?_ C hH hS hl hcl hsl kk T hT X
  obtain ⟨k1, k2, k3, k4, k5, k6⟩ := hK
  have hG : GoodIn xws (Cond.code me'.1 me'.2.1 me'.2.2.1 none :: xws) := by rw [← k5]; exact xgood k1
  have hws : xwm me' = Cond.code me'.1 me'.2.1 me'.2.2.1 none :: xws := by rw [← k5]
  refine xrunOf (va_runI (Ts := xws) (own := me.1.cls) (index := idx) (bytes := me'.2.1) (maxL := me'.2.2.1) (n := k) ⟨C.1, C.2.1, C.2.2.1, C.2.2.2.2.2.2.1, C.2.2.2.2.2.2.2.1⟩ hcn.met (cwI k C.2.2.2.2.2.2.2.1 (xgood k1) hws rfl rfl (C.2.2.2.2.2.2.2.1 _ k3) (C.2.2.2.2.2.2.2.1 _ hw) (C.2.2.2.2.2.2.2.1 _ k2) k4 k6 hR) ⟨xblind, fun U hU hW => ?_⟩ rfl (by rw [List.length_map]; exact hn) hl.1 rfl (xsum st hst) hd ⟨hcl, hsl⟩)
  have h9 := xpre (As := .ref b :: As) C hH.1 hz hS hU hW
  have e9 : (Value.ref b :: As).map (xtr G) = Value.ref (xb G + b) :: As.map (xtr G) := by
    rw [← xad_in hb hH.1.2]; rfl
  rw [e9] at h9
  exact h9
end BJ
theorem and31 (x : Int32) : 0 ≤ (x &&& 31).toInt ∧ (x &&& 31).toInt < 32 := by
  have h : (x &&& 31).toBitVec.toNat ≤ 31 := by
    rw [Int32.toBitVec_and, BitVec.toNat_and]
    exact Nat.and_le_right
  have e : (x &&& 31).toInt = ((x &&& 31).toBitVec.toNat : Int) := BitVec.toInt_eq_toNat_of_lt (by omega)
  omega
theorem sub6 : ∀ N, N < 385 → (nI N - nI 6).toInt = (N : Int) - 6 := by decide +kernel
set_option maxHeartbeats 4000000 in
set_option maxRecDepth 100000 in
theorem l_loop {b : Nat} {dC : Nat → ClassId} {dI : Nat → Nat → Nat} {cA : Nat → ClassId} {ts : Nat → Nat} {l : Launch} {R : Nat → Nat → Option Nat} (hst : l.stackTraces = false) (hR : xRk R) {N : Nat} (hN : ts 91 = N) (hN4 : N ≤ 384) : ∀ (k t : Nat) (J : zM) (L : yM), t + k = 64 → PB (1300000 * (t : Int)) J L → xJ (xGm b dC dI cA ts) l mL_law 600128 7301098 (fun v _ => v = some (.int 1)) (fun _ _ => False) (553 + 3 * t) (201802 + 18 * t) 23 (lsL (6 * t)) [] false 553 R (zi J) (li L) := by
  have head : ∀ (t : Nat) (J : zM) (L : yM), t ≤ 64 → (6 * t + 6 ≤ N → xJ (xGm b dC dI cA ts) l mL_law 600128 7301098 (fun v _ => v = some (.int 1)) (fun _ _ => False) (553 + 3 * t) (201802 + 18 * t) 33 (lsL (6 * t)) [] false 553 R (zi J) (li L)) → xJ (xGm b dC dI cA ts) l mL_law 600128 7301098 (fun v _ => v = some (.int 1)) (fun _ _ => False) (553 + 3 * t) (201802 + 18 * t) 23 (lsL (6 * t)) [] false 553 R (zi J) (li L) := by
    intro t J L ht go
    refine xr_iload (xd dL_head 13 rfl) 4 rfl ?_
    refine xr_aload_n (xd dL_head 14 rfl) 0 rfl ?_
    refine xr_slh (N := N) (xd dL_head 15 rfl) hN ?_
    refine xr_bipush (v := nI 6) (xd dL_head 16 rfl) (by decide) ?_
    refine xr_isub (xd dL_head 17 rfl) ?_
    refine xr_icmp_gt 1695 (xd dL_head 18 rfl) (by decide) (fun _ => ?_) (fun c => ?_)
    · refine xr_iconst (v := 1) (xd dL_tail 2 rfl) (by decide) ?_
      exact xr_zret (xd dL_tail 3 rfl) rfl rfl (by omega) (by omega) (fun q => by cases q) rfl
    · refine go ?_
      rw [Int32.lt_iff_toInt_lt, sub6 N (by omega), nI_toInt (by omega)] at c
      omega
  intro k
  induction k with
  | zero =>
    intro t J L ht hP
    exact head t J L (by omega) (fun h => absurd h (by omega))
  | succ k ih =>
    intro t J L ht hP
    refine head t J L (by omega) (fun h6 => ?_)
    have hb : 0 ≤ 1300000 * (t : Int) ∧ 1300000 * (t : Int) + 1300000 ≤ 2000000000 := by omega
    have nx : ∀ (J' : zM) (L' : yM), PB (1300000 * (t : Int) + 1300000) J' L' → xJ (xGm b dC dI cA ts) l mL_law 600128 7301098 (fun v _ => v = some (.int 1)) (fun _ _ => False) (553 + 3 * t + 3) (201802 + 18 * t + 18) 1689 (lsL (6 * t)) [] false 553 R (zi J') (li L') := by
      intro J' L' h'
      refine xr_iinc (v := nI (6 * (t + 1))) (lsL (6 * (t + 1))) (xd dL_tail 0 rfl) 4 rfl (by rw [show 6 * (t + 1) = 6 * t + 6 by omega, ← nI_add]; rfl) (by decide) rfl ?_
      refine xr_goto 23 (xd dL_tail 1 rfl) (by decide) ?_
      have h9 := ih (t + 1) J' L' (by omega) (by rw [show 1300000 * ((t + 1 : Nat) : Int) = 1300000 * (t : Int) + 1300000 by omega]; exact h')
      rw [show 553 + 3 * (t + 1) = 553 + 3 * t + 3 by omega, show 201802 + 18 * (t + 1) = 201802 + 18 * t + 18 by omega] at h9
      exact h9
    refine xr_aload_n (xd dL_head 19 rfl) 0 rfl ?_
    refine xr_iload (xd dL_head 20 rfl) 4 rfl ?_
    refine xr_sld (xd dL_head 21 rfl) (show 6 * t < ts 91 by omega) (show ts 91 < 2 ^ 31 by omega) ?_
    refine xr_bipush (v := 31) (xd dL_head 22 rfl) (by decide) ?_
    refine xr_iand (xd dL_head 23 rfl) ?_
    have hw := and31 (xsc (xGm b dC dI cA ts) (6 * t))
    refine xr_eqi (oI (xsc (xGm b dC dI cA ts) (6 * t) &&& 31).toInt) (oI_of _).symm ?_
    generalize (xsc (xGm b dC dI cA ts) (6 * t) &&& 31).toInt = w at hw ⊢
    by_cases h23 : 23 ≤ w
    · refine zr_tab 1689 (xd dL_head 24 rfl) ⟨by omega, by omega⟩ (off := 1649) (by unfold tabOff; rw [if_pos (Or.inr (by omega))]) (by decide) (by decide) ?_
      exact xJ.wid (by omega) (by omega) (nx J L (hP.mono (by omega)))
    · have h : w = 0 ∨ w = 1 ∨ w = 2 ∨ w = 3 ∨ w = 4 ∨ w = 5 ∨ w = 6 ∨ w = 7 ∨ w = 8 ∨ w = 9 ∨ w = 10 ∨ w = 11 ∨ w = 12 ∨ w = 13 ∨ w = 14 ∨ w = 15 ∨ w = 16 ∨ w = 17 ∨ w = 18 ∨ w = 19 ∨ w = 20 ∨ w = 21 ∨ w = 22 := by omega
      clear hw h23
      rcases h with rfl | rfl | rfl | rfl | rfl | rfl | rfl | rfl | rfl | rfl | rfl | rfl | rfl | rfl | rfl | rfl | rfl | rfl | rfl | rfl | rfl | rfl | rfl
      · exact zr_tab (off := 108) 148 (xd dL_head 24 rfl) (by decide) (by decide) (by decide) (by decide) (lc_make hst hR hN hN4 h6 (by omega) (by omega) hb hP nx)
      · exact zr_tab (off := 156) 196 (xd dL_head 24 rfl) (by decide) (by decide) (by decide) (by decide) (lc_key hst hR hN hN4 h6 (by omega) (by omega) hb hP nx)
      · exact zr_tab (off := 280) 320 (xd dL_head 24 rfl) (by decide) (by decide) (by decide) (by decide) (lc_name hst hR hN hN4 h6 (by omega) (by omega) hb hP nx)
      · exact zr_tab (off := 404) 444 (xd dL_head 24 rfl) (by decide) (by decide) (by decide) (by decide) (lc_draft hst hR hN hN4 h6 (by omega) (by omega) hb hP nx)
      · exact zr_tab (off := 504) 544 (xd dL_head 24 rfl) (by decide) (by decide) (by decide) (by decide) (lc_greet hst hR hN hN4 h6 (by omega) (by omega) hb hP nx)
      · exact zr_tab (off := 548) 588 (xd dL_head 24 rfl) (by decide) (by decide) (by decide) (by decide) (lc_begin hst hR hN hN4 h6 (by omega) (by omega) hb hP nx)
      · exact zr_tab (off := 592) 632 (xd dL_head 24 rfl) (by decide) (by decide) (by decide) (by decide) (lc_write hst hR hN hN4 h6 (by omega) (by omega) hb hP nx)
      · exact zr_tab (off := 648) 688 (xd dL_head 24 rfl) (by decide) (by decide) (by decide) (by decide) (lc_close hst hR hN hN4 h6 (by omega) (by omega) hb hP nx)
      · exact zr_tab (off := 684) 724 (xd dL_head 24 rfl) (by decide) (by decide) (by decide) (by decide) (lc_tick hst hR hN hN4 h6 (by omega) (by omega) hb hP nx)
      · exact zr_tab (off := 697) 737 (xd dL_head 24 rfl) (by decide) (by decide) (by decide) (by decide) (lc_net hst hR hN hN4 h6 (by omega) (by omega) hb hP nx)
      · exact zr_tab (off := 753) 793 (xd dL_head 24 rfl) (by decide) (by decide) (by decide) (by decide) (lc_size hst hR hN hN4 h6 (by omega) (by omega) hb hP nx)
      · exact zr_tab (off := 821) 861 (xd dL_head 24 rfl) (by decide) (by decide) (by decide) (by decide) (lc_octet hst hR hN hN4 h6 (by omega) (by omega) hb hP nx)
      · exact zr_tab (off := 901) 941 (xd dL_head 24 rfl) (by decide) (by decide) (by decide) (by decide) (lc_deliver hst hR hN hN4 h6 (by omega) (by omega) hb hP nx)
      · exact zr_tab (off := 969) 1009 (xd dL_head 24 rfl) (by decide) (by decide) (by decide) (by decide) (lc_lose hst hR hN hN4 h6 (by omega) (by omega) hb hP nx)
      · exact zr_tab (off := 1037) 1077 (xd dL_head 24 rfl) (by decide) (by decide) (by decide) (by decide) (lc_twice hst hR hN hN4 h6 (by omega) (by omega) hb hP nx)
      · exact zr_tab (off := 1105) 1145 (xd dL_head 24 rfl) (by decide) (by decide) (by decide) (by decide) (lc_forge hst hR hN hN4 h6 (by omega) (by omega) hb hP nx)
      · exact zr_tab (off := 1197) 1237 (xd dL_head 24 rfl) (by decide) (by decide) (by decide) (by decide) (lc_inject hst hR hN hN4 h6 (by omega) (by omega) hb hP nx)
      · exact zr_tab (off := 1253) 1293 (xd dL_head 24 rfl) (by decide) (by decide) (by decide) (by decide) (lc_run hst hR hN hN4 h6 (by omega) (by omega) hb hP nx)
      · exact zr_tab (off := 1309) 1349 (xd dL_head 24 rfl) (by decide) (by decide) (by decide) (by decide) (lc_state hst hR hN hN4 h6 (by omega) (by omega) hb hP nx)
      · exact zr_tab (off := 1365) 1405 (xd dL_head 24 rfl) (by decide) (by decide) (by decide) (by decide) (lc_got hst hR hN hN4 h6 (by omega) (by omega) hb hP nx)
      · exact zr_tab (off := 1421) 1461 (xd dL_head 24 rfl) (by decide) (by decide) (by decide) (by decide) (lc_gotOctet hst hR hN hN4 h6 (by omega) (by omega) hb hP nx)
      · exact zr_tab (off := 1501) 1541 (xd dL_head 24 rfl) (by decide) (by decide) (by decide) (by decide) (lc_secret hst hR hN hN4 h6 (by omega) (by omega) hb hP nx)
      · exact zr_tab (off := 1581) 1621 (xd dL_head 24 rfl) (by decide) (by decide) (by decide) (by decide) (lc_told hst hR hN hN4 h6 (by omega) (by omega) hb hP nx)
