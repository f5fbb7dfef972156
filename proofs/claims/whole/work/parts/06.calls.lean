section XC
variable {G : xG} {l : Launch} {me : xMe} {mc ms : Nat} {Qv : Option Value → xM → Prop} {Qx : String → xM → Prop} {cells slots pc : Nat} {ls : List (Nat × Value)} {st : List Value} {al : Bool} {n : Nat} {R : Nat → Nat → Option Nat} {I : Nat → Nat → Int32} {L : Nat → Nat → Int64}
variable {p : Program} {e : Env} {s : State} {m : MethodId} {args : Array Value} {below : List Frame} {meth : Method} {c : Code} {H : Heap} {locs : List Loc} {lsA : Array Slot}
theorem xH.ge {b : Nat} (hb : xb G = b) (h0 : b ≤ H.size) (h : xH G n R I L H) : b + n ≤ H.size := by
  subst hb
  cases n with
  | zero => simpa using h0
  | succ k =>
    have h1 := (h.1 k _ (xp_get (Nat.lt_succ_self k))).lt
    have h2 : xb G + k < H.size := h1
    omega
theorem xblind {As : List Value} {M : xM} : FrameBlind (xPc G As al M) := by
  intro a U g mk h
  obtain ⟨h1, h2, h3, h4, h5⟩ := h
  exact ⟨h1, h2, h3, va_K.moved (u := U) (U := U.calling g mk a) (Vm.Alike.refl U.vm) h4, xSt.same h5 rfl⟩
theorem xpre {As : List Value} (C : xCx G me p s m args meth c) (hH : xH G n R I L H) (hz : al = true → H.size = xb G + n) (hS : va_S (xA G) s.heap H locs) {U : State} (hU : U.heap = H) (hW : s.WarmedH U.vm) : xPc G As al (n, R, I, L) ((As.map (xtr G)).toArray) U := by
  refine ⟨rfl, by rw [hU]; exact hH, fun q => by rw [hU]; exact hz q, va_K.moved hW.alike C.2.2.2.2.2.2.2.2.1, ?_⟩
  rw [hU]
  exact C.2.2.2.2.2.2.2.2.2.1.goes hW hS.1 hS.2.1
theorem xsize {T : State} (C : xCx G me p s m args meth c) (hH : xH G n R I L H ∧ (al = true → s.heap.size + cells = xb G + n)) (hS : va_S (xA G) s.heap H locs) (hT : T.heap = H) {Rm : Room} (X : Stand p l e Rm s m args below meth c T locs cells slots) : al = true → H.size = xb G + n := by
  intro q
  have h1 := X.heapSize
  rw [hT] at h1
  have h2 := xH.ge (b := xb G) rfl (Nat.le_trans C.2.2.2.2.2.2.2.2.2.1.1 hS.1) hH.1
  have h3 := hH.2 q
  omega
theorem xval (v : Option Value) : (v.map (xtr G)).toList ++ st.map (xtr G) = (v.toList ++ st).map (xtr G) := by
  cases v <;> rfl
/-- behind a call: it returned, or threw what isn't caught here -/
theorem xcall {mc' ms' : Nat} {Qv' : Option Value → xM → Prop} {Qx' : String → xM → Prop} {st0 : List Value} {a : Array Value}
    (hr : vx_Run p l e (xrm me mc ms) s m args below meth c H locs cells slots mc' ms' (F0 m pc lsA st0) (st.map (xtr G)) (xQc G al mc' Qv' a) (xXc G Qx') (xA G))
    (C : xCx G me p s m args meth c) (hH : xH G n R I L H ∧ (al = true → s.heap.size + cells = xb G + n)) (hS : va_S (xA G) s.heap H locs) (hl : lv_has lsA me.2.2.1 (xtl G ls)) (hcl : cells + mc' ≤ mc) (hsl : slots + ms' ≤ ms)
    (kk : ∀ (v : Option Value) (M : xM), Qv' v M → xJ G l me mc ms Qv Qx (cells + mc') (slots + ms') (pc + 3) ls (v.toList ++ st) al M.1 M.2.1 M.2.2.1 M.2.2.2) (kx : ∀ (E : String) (M : xM), Qx' E M → Qx E M) :
    W p l e (xrm me mc ms) s m args below meth c H locs cells slots (vx_MQ below (xQc G al mc Qv) (xXc G Qx) args s mc ms (xA G)) (F0 m pc lsA st0) := by
  intro T hT X
  have hz := xsize C hH hS hT X
  rcases hr T hT X with ⟨v, st₀, t, T', L', h0, X', hL, e1, e2, ⟨⟨v0, M, hv, hq, hM, hal⟩, hF⟩, st1⟩ | ⟨q, st₀, t, T', L', E, ce, h0, X', hL, e1, e2, ⟨⟨M, hq, hM⟩, hF⟩, hce, hcv, hcl', st1⟩
  · cases hv
    obtain ⟨k1, k2, k3⟩ := vx_keep h0 e1 hS (fun _ _ h => h) (fun _ h => h) hL hF
    have h9 := kk v0 M hq p e s m args below meth c T'.heap (locs ++ L') lsA C ⟨by rw [e1]; exact hM, fun q => by
      have h1 := hal q
      have h2 := hz q
      have h3 := hH.2 q
      rw [h0] at h1
      omega⟩ k3 hl
    rw [← xval] at h9
    obtain ⟨t2, a1, b1⟩ := h9 T' rfl X'
    exact ⟨t2, st1 t2 a1, b1⟩
  · obtain ⟨k1, k2, k3⟩ := vx_keep h0 e1 hS (fun _ _ h => h) (fun _ h => h) hL hF
    have h9 : vx_W p l e (xrm me mc ms) s m args below meth c T'.heap (locs ++ L') (cells + mc') (slots + ms') (vx_MQ below (xQc G al mc Qv) (xXc G Qx) args s mc ms (xA G)) (F0 m pc lsA (st.map (xtr G))) q :=
      vx_out (fun x hx => absurd (C.2.2.2.2.2.1 x hx) id) C.2.2.2.2.1 (by rw [e1]; exact hce) hcv hcl' (fun t9 ht9 _ => ⟨⟨M, kx E M hq, by rw [ht9, e1]; exact hM⟩, k3.F ht9⟩) k3.2.2 hcl hsl
    obtain ⟨t2, a1, b1⟩ := h9 T' rfl X'
    exact ⟨t2, st1.trans a1, b1⟩
/-- what the tables say of a method that is called: on an object; static; a constructor -/
def xKV (me' : xMe) (k : Nat) : Prop := Cond.code me'.1 me'.2.1 me'.2.2.1 me'.2.2.2.1 ∈ xws ∧ Cond.instanceMethod me'.1 ∈ xws ∧ Cond.selects me'.1.cls me'.1 me'.1 ∈ xws ∧ Cond.initialized me'.1.cls ∈ xws ∧ me'.1.cls ≠ "java/lang/invoke/MethodHandle" ∧ me'.1.cls ≠ "java/lang/invoke/VarHandle" ∧ (parseMethodDescriptor me'.1.desc).map (fun d => d.parameters.length) = some k
def xKS (me' : xMe) (k : Nat) : Prop := Cond.code me'.1 me'.2.1 me'.2.2.1 me'.2.2.2.1 ∈ xws ∧ Cond.static me'.1 ∈ xws ∧ Cond.initialized me'.1.cls ∈ xws ∧ me'.1.cls ≠ "java/lang/invoke/MethodHandle" ∧ me'.1.cls ≠ "java/lang/invoke/VarHandle" ∧ (parseMethodDescriptor me'.1.desc).map (fun d => d.parameters.length) = some k
def xKI (me' : xMe) (k : Nat) : Prop := Cond.code me'.1 me'.2.1 me'.2.2.1 me'.2.2.2.1 ∈ xws ∧ Cond.instanceMethod me'.1 ∈ xws ∧ Cond.initialized me'.1.cls ∈ xws ∧ me'.1.name = "<init>" ∧ me'.2.2.2.1 = none ∧ me'.1.cls ≠ "java/lang/invoke/MethodHandle" ∧ me'.1.cls ≠ "java/lang/invoke/VarHandle" ∧ (parseMethodDescriptor me'.1.desc).map (fun d => d.parameters.length) = some k
theorem xgood {me' : xMe} (h : Cond.code me'.1 me'.2.1 me'.2.2.1 me'.2.2.2.1 ∈ xws) : GoodIn xws (xwm me') := by
  intro w hw
  have h1 : w ∈ xws := by
    rcases List.mem_cons.mp hw with rfl | hw
    · exact h
    · exact hw
  exact ⟨h1, good_of_word (List.mem_filter.mp h1).2⟩
theorem xgood1 {w : Cond} (h : w ∈ xws) : w ∈ xws ∧ ((w.onTables && w.keeps) = true ∨ ∃ ty, w = .arrayClass ty) := ⟨h, good_of_word (List.mem_filter.mp h).2⟩
theorem xsum (st : List Value) (h : (st.map Value.category).sum ≤ 8) : 2 * 0 + ((st.map (xtr G)).map fun v => v.category).sum ≤ 8 := by
  have : ((st.map (xtr G)).map fun v => v.category) = st.map Value.category := by
    rw [List.map_map]
    exact List.map_congr_left (fun v _ => xtr_cat G v)
  rw [this]
  omega
theorem xrev (As : List Value) (b : Nat) : (As.reverse ++ Value.ref b :: st).map (xtr G) = (As.map (xtr G)).reverse ++ Value.ref (xad G b) :: st.map (xtr G) := by
  simp [xtr]
theorem xrevS (As : List Value) : (As.reverse ++ st).map (xtr G) = (As.map (xtr G)).reverse ++ st.map (xtr G) := by
  simp
theorem xr_callV (me' : xMe) (k : Nat) (As : List Value) {idx b cl mc' ms' : Nat} {Qv' : Option Value → xM → Prop} {Qx' : String → xM → Prop} (hd : decode me.2.1 pc = .ok (.invokevirtual idx, 3)) (hw : Cond.methodLink me.1.cls idx me'.1 ∈ xws) (hK : xKV me' k) (hn : As.length = k)
    (hb : b < n) (hkb : xkd G b = cl) (hc : cl < 13) (hcc : xC cl = me'.1.cls) (hR : me'.2.2.2.2.1 + 1 ≤ me.2.2.2.2.1 ∧ 8 + (me'.2.2.1 + 11) + me'.2.2.2.2.2 ≤ me.2.2.2.2.2) (hst : (st.map Value.category).sum ≤ 8) (hcn : xCn G l me' (.ref b :: As) al (n, R, I, L) mc' ms' Qv' Qx') (hcl : cells + mc' ≤ mc) (hsl : slots + ms' ≤ ms)
    (kk : ∀ (v : Option Value) (M : xM), Qv' v M → xJ G l me mc ms Qv Qx (cells + mc') (slots + ms') (pc + 3) ls (v.toList ++ st) al M.1 M.2.1 M.2.2.1 M.2.2.2) (kx : ∀ (E : String) (M : xM), Qx' E M → Qx E M) :
    xJ G l me mc ms Qv Qx cells slots pc ls (As.reverse ++ .ref b :: st) al n R I L := by
  intro p e s m args below meth c H locs lsA C hH hS hl T hT X
  have hz := xsize C hH hS hT X
  rw [xrev, xad_in hb hH.1.2]
  refine xcall (mc' := mc') (ms' := ms') (a := (Value.ref (xb G + b) :: As.map (xtr G)).toArray) ?_ C hH hS hl hcl hsl kk kx T hT X
  have hrcv := va_recv C.2.2.2.2.2.2.2.2.1 hH.1.1 (xcl_at cl hc) (xp_obj hb hkb hc)
  refine vx_runV (C := me'.1.cls) (Ts := xws) (own := me.1.cls) (index := idx) (bytes := me'.2.1) (maxL := me'.2.2.1) (ret := me'.2.2.2.1) (n := k) ⟨C.1, C.2.1, C.2.2.1, C.2.2.2.2.2.2.1, C.2.2.2.2.2.2.2.1⟩ hcn (cwV k C.2.2.2.2.2.2.2.1 ?_ rfl rfl rfl ⟨rfl, hK.2.2.2.2⟩ hR) ⟨xblind, ?_, fun U hU hW => ?_⟩ rfl (by rw [List.length_map]; exact hn) hl.1 rfl (xsum st hst) hd ⟨hcl, hsl⟩
  · intro w hw'
    rcases List.mem_append.mp hw' with h | h
    · simp only [List.mem_cons, List.not_mem_nil, or_false] at h
      rcases h with rfl | rfl | rfl | rfl
      · exact xgood1 hw
      · exact xgood1 hK.2.1
      · exact xgood1 hK.2.2.1
      · exact xgood1 hK.2.2.2.1
    · exact xgood hK.1 w h
  · rw [← hcc]; exact hrcv
  · have h9 := xpre (As := .ref b :: As) C hH.1 hz hS hU hW
    have e9 : (Value.ref b :: As).map (xtr G) = Value.ref (xb G + b) :: As.map (xtr G) := by
      rw [← xad_in hb hH.1.2]; rfl
    rw [e9] at h9
    exact h9
theorem xr_callS (me' : xMe) (k : Nat) (As : List Value) {idx mc' ms' : Nat} {Qv' : Option Value → xM → Prop} {Qx' : String → xM → Prop} (hd : decode me.2.1 pc = .ok (.invokestatic idx, 3)) (hw : Cond.methodLink me.1.cls idx me'.1 ∈ xws) (hK : xKS me' k) (hn : As.length = k) (hcc : me'.1.cls = me.1.cls)
    (hR : me'.2.2.2.2.1 + 1 ≤ me.2.2.2.2.1 ∧ 8 + (me'.2.2.1 + 11) + me'.2.2.2.2.2 ≤ me.2.2.2.2.2) (hst : (st.map Value.category).sum ≤ 8) (hcn : xCn G l me' As al (n, R, I, L) mc' ms' Qv' Qx') (hcl : cells + mc' ≤ mc) (hsl : slots + ms' ≤ ms)
    (kk : ∀ (v : Option Value) (M : xM), Qv' v M → xJ G l me mc ms Qv Qx (cells + mc') (slots + ms') (pc + 3) ls (v.toList ++ st) al M.1 M.2.1 M.2.2.1 M.2.2.2) (kx : ∀ (E : String) (M : xM), Qx' E M → Qx E M) :
    xJ G l me mc ms Qv Qx cells slots pc ls (As.reverse ++ st) al n R I L := by
  intro p e s m args below meth c H locs lsA C hH hS hl T hT X
  have hz := xsize C hH hS hT X
  rw [xrevS]
  refine xcall (mc' := mc') (ms' := ms') (a := (As.map (xtr G)).toArray) ?_ C hH hS hl hcl hsl kk kx T hT X
  refine vx_runS (Ts := xws) (own := me.1.cls) (index := idx) (bytes := me'.2.1) (maxL := me'.2.2.1) (ret := me'.2.2.2.1) (n := k) ⟨C.1, C.2.1, C.2.2.1, C.2.2.2.2.2.2.1, C.2.2.2.2.2.2.2.1⟩ hcn (cwS k C.2.2.2.2.2.2.2.1 ?_ rfl rfl rfl ⟨hcc, hK.2.2.2⟩ hR) ⟨xblind, fun U hU hW => xpre C hH.1 hz hS hU hW⟩ rfl (by rw [List.length_map]; exact hn) hl.1 rfl (xsum st hst) hd ⟨hcl, hsl⟩
  intro w hw'
  rcases List.mem_append.mp hw' with h | h
  · simp only [List.mem_cons, List.not_mem_nil, or_false] at h
    rcases h with rfl | rfl | rfl
    · exact xgood1 hw
    · exact xgood1 hK.2.1
    · rw [← hcc]; exact xgood1 hK.2.2.1
  · exact xgood hK.1 w h
/-- a contract that throws nothing, in the kit's other form -/
theorem xCn.met {me' : xMe} {As : List Value} {M : xM} {mc' ms' : Nat} {Qv' : Option Value → xM → Prop} (h : xCn G l me' As al M mc' ms' Qv' (fun _ _ => False)) : Met l me'.1 (xwm me') (xrm me' mc' ms') (xPc G As al M) (xQc G al mc' Qv') mc' ms' (xA G) := by
  intro p e ha hc hk s m args below hf happ hP hK
  obtain ⟨k, o, h1, h2, h3, h4⟩ := h p e ha hc hk s m args below hf happ hP hK
  refine ⟨k, o, h1, h2, h3, ?_⟩
  rcases h4 with h4 | ⟨q, -, E, ce, L', ⟨⟨M', hx, -⟩, -⟩, -⟩
  · exact h4
  · exact hx.elim
theorem xrunOf {mc' ms' : Nat} {g : JFrame} {rest : List Value} {Qa : State → Outcome → State → Prop} {XC : String → State → State → Prop} {free : Addr → Prop} (h : va_Run p l e (xrm me mc ms) s m args below meth c H locs cells slots mc' ms' g rest Qa free) : vx_Run p l e (xrm me mc ms) s m args below meth c H locs cells slots mc' ms' g rest Qa XC free := fun T hT X => Or.inl (h T hT X)
theorem xr_callSN (me' : xMe) (k : Nat) (As : List Value) {idx mc' ms' : Nat} {Qv' : Option Value → xM → Prop} (hd : decode me.2.1 pc = .ok (.invokestatic idx, 3)) (hw : Cond.methodLinkNest me.1.cls idx me'.1 "LossyPair" ∈ xnw) (hK : xKS me' k) (hn : As.length = k)
    (hR : me'.2.2.2.2.1 + 1 ≤ me.2.2.2.2.1 ∧ 8 + (me'.2.2.1 + 11) + me'.2.2.2.2.2 ≤ me.2.2.2.2.2) (hst : (st.map Value.category).sum ≤ 8) (hcn : xCn G l me' As al (n, R, I, L) mc' ms' Qv' (fun _ _ => False)) (hcl : cells + mc' ≤ mc) (hsl : slots + ms' ≤ ms)
    (kk : ∀ (v : Option Value) (M : xM), Qv' v M → xJ G l me mc ms Qv Qx (cells + mc') (slots + ms') (pc + 3) ls (v.toList ++ st) al M.1 M.2.1 M.2.2.1 M.2.2.2) :
    xJ G l me mc ms Qv Qx cells slots pc ls (As.reverse ++ st) al n R I L := by
  intro p e s m args below meth c H locs lsA C hH hS hl T hT X
  have hz := xsize C hH hS hT X
  rw [xrevS]
  refine xcall (mc' := mc') (ms' := ms') (Qx' := fun _ _ => False) (a := (As.map (xtr G)).toArray) ?_ C hH hS hl hcl hsl kk (fun _ _ h => h.elim) T hT X
  exact xrunOf (va_runSN (Ts := xws) (own := me.1.cls) (index := idx) (bytes := me'.2.1) (maxL := me'.2.2.1) (ret := me'.2.2.2.1) (n := k) ⟨C.1, C.2.1, C.2.2.1, C.2.2.2.2.2.2.1, C.2.2.2.2.2.2.2.1⟩ hcn.met ⟨va_cnB k C.2.2.2.2.2.2.2.1 (xgood hK.1) rfl rfl rfl (C.2.2.2.2.2.2.2.2.2.1.2.2.2.2.2.1 _ hw) (C.2.2.2.2.2.2.2.1 _ hK.2.2.1) hK.2.2.2 hR, C.2.2.2.2.2.2.2.1 _ hK.2.1, trivial⟩ ⟨xblind, fun U hU hW => xpre C hH.1 hz hS hU hW⟩ rfl (by rw [List.length_map]; exact hn) hl.1 rfl (xsum st hst) hd ⟨hcl, hsl⟩)
end XC
