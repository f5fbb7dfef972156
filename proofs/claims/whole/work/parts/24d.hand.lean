/-- what holds in the body of a method with a table of its own -/
def hCx (G : xG) (me : xMe) (hh : List (Nat × Nat × Nat × Nat)) (p : Program) (s : State) (m : MethodId) (args : Array Value) (meth : Method) (c : Code) : Prop :=
  p.tables.exec = Jvm.exec ∧ c.code = me.2.1 ∧ c.maxLocals = me.2.2.1 ∧ meth.sig.returnType = me.2.2.2.1 ∧ meth.locks = false ∧ c.exceptionTable.toList.map (fun h => (h.startPc, h.endPc, h.handlerPc, h.catchType)) = hh ∧ s.vm.findClass me.1.cls = some m.cls ∧ (∀ w ∈ xws, w.before args s = true) ∧ va_K (xD G) vwCl (xtys G) s ∧ xSt G s s.heap ∧ meth.name = me.1.name
def hJ (G : xG) (l : Launch) (me : xMe) (hh : List (Nat × Nat × Nat × Nat)) (mc ms : Nat) (Qv : Option Value → xM → Prop) (cells slots pc : Nat) (ls : List (Nat × Value)) (st : List Value) (n : Nat) (R : Nat → Nat → Option Nat) (I : Nat → Nat → Int32) (L : Nat → Nat → Int64) : Prop :=
  ∀ (p : Program) (e : Env) (s : State) (m : MethodId) (args : Array Value) (below : List Frame) (meth : Method) (c : Code) (H : Heap) (locs : List Loc) (lsA : Array Slot),
    hCx G me hh p s m args meth c → (xH G n R I L H ∧ True) → va_S (xA G) s.heap H locs → lv_has lsA me.2.2.1 (xtl G ls) →
    W p l e (xrm me mc ms) s m args below meth c H locs cells slots (vx_MQ below (xQc G false mc Qv) (xXc G (fun _ _ => False)) args s mc ms (xA G)) (F0 m pc lsA (st.map (xtr G)))
abbrev xwh (me : xMe) (hh : List (Nat × Nat × Nat × Nat)) : List Cond := Cond.codeWith me.1 me.2.1 me.2.2.1 me.2.2.2.1 hh :: xws
/-- the contract of such a method; it throws nothing -/
def xCh (G : xG) (l : Launch) (me : xMe) (hh : List (Nat × Nat × Nat × Nat)) (As : List Value) (M : xM) (mc ms : Nat) (Qv : Option Value → xM → Prop) : Prop :=
  vx_Met l me.1 (xwh me hh) (xrm me mc ms) (xPc G As false M) (xQc G false mc Qv) (xXc G (fun _ _ => False)) mc ms (xA G)
theorem xCh.ofJ {G : xG} {l : Launch} {me : xMe} {hh : List (Nat × Nat × Nat × Nat)} {As : List Value} {mc ms : Nat} {Qv : Option Value → xM → Prop} {n : Nat} {R : Nat → Nat → Option Nat} {I : Nat → Nat → Int32} {L : Nat → Nat → Int64} (hy : plainName me.1.cls = true) (hlen : (lg_sl As).length ≤ me.2.2.1)
    (h : hJ G l me hh mc ms Qv 0 0 0 (lv_args 0 As) [] n R I L) : xCh G l me hh As (n, R, I, L) mc ms Qv := by
  refine vx_ofWH (cc := me.2.1) (maxL := me.2.2.1) (ret := me.2.2.2.1) (hh := hh) hy rfl ?_
  intro p e s m args below meth c s₁ B hml hv
  obtain ⟨rfl, hH, hal, hK, hSt⟩ := hv
  have hl := lv_entry (As.map (xtr G)) (n := me.2.2.1) (by rw [xtl_sl]; exact hlen)
  rw [lg_entry_eq]
  rw [xtl_args] at hl
  have hw : (Cond.codeWith me.1 me.2.1 me.2.2.1 me.2.2.2.1 hh).before (List.map (xtr G) As).toArray s = true := atoms_spec (ws := xwh me hh) B.pre _ List.mem_cons_self
  obtain ⟨m9, meth9, c9, hn9, h1, h2, -, -, h5, -, -, -⟩ := Cond.codeWith_spec hw
  cases B.named.symm.trans hn9
  cases B.method.symm.trans h1
  cases (Stand.of_body B).code.symm.trans h2
  exact h p e s m _ below meth c s.heap [] _ ⟨B.exec, B.bytes, hml, B.returns, B.notSynchronized, h5, findClass_of_methodNamed B.named, fun w hw => atoms_spec (ws := xwh me hh) B.pre w (List.mem_cons_of_mem _ hw), hK, hSt, (name_of_methodNamed B.named B.method).1⟩ ⟨hH, trivial⟩ va_S.rf hl
section HJ
variable {G : xG} {l : Launch} {me : xMe} {hh : List (Nat × Nat × Nat × Nat)} {mc ms : Nat} {Qv : Option Value → xM → Prop} {cells slots pc : Nat} {ls : List (Nat × Value)} {st : List Value} {n : Nat} {R : Nat → Nat → Option Nat} {I : Nat → Nat → Int32} {L : Nat → Nat → Int64}
theorem hr_iconst {z : Int} {v : Int32} (hd : decode me.2.1 pc = .ok (.iconst z, 1)) (hv : Int32.ofInt z = v) (kk : hJ G l me hh mc ms Qv cells slots (pc + 1) ls (.int v :: st) n R I L) : hJ G l me hh mc ms Qv cells slots (pc) ls (st) n R I L := by
  intro p e s m args below meth c H locs lsA C hH hS hl
  exact lv_iconst C.1 C.2.1 hd hv (kk p e s m args below meth c H locs lsA C hH hS hl)
theorem hr_iload_n {k : Fin 4} {x : Int32} (hd : decode me.2.1 pc = .ok (.iload_n k, 1)) (j : Nat) (hj : ls[j]? = some ((k : Nat), .int x)) (kk : hJ G l me hh mc ms Qv cells slots (pc + 1) ls (.int x :: st) n R I L) : hJ G l me hh mc ms Qv cells slots (pc) ls (st) n R I L := by
  intro p e s m args below meth c H locs lsA C hH hS hl
  exact lv_iload_n C.1 C.2.1 hd rfl (lv_at hl j (xtl_at hj)) (kk p e s m args below meth c H locs lsA C hH hS hl)
theorem hr_iload {i : Nat} {x : Int32} (hd : decode me.2.1 pc = .ok (.iload i, 2)) (j : Nat) (hj : ls[j]? = some (i, .int x)) (kk : hJ G l me hh mc ms Qv cells slots (pc + 2) ls (.int x :: st) n R I L) : hJ G l me hh mc ms Qv cells slots (pc) ls (st) n R I L := by
  intro p e s m args below meth c H locs lsA C hH hS hl
  exact lv_iload C.1 C.2.1 hd (lv_at hl j (xtl_at hj)) (kk p e s m args below meth c H locs lsA C hH hS hl)
theorem hr_lload_n {k : Fin 4} {x : Int64} (hd : decode me.2.1 pc = .ok (.lload_n k, 1)) (j : Nat) (hj : ls[j]? = some ((k : Nat), .long x)) (kk : hJ G l me hh mc ms Qv cells slots (pc + 1) ls (.long x :: st) n R I L) : hJ G l me hh mc ms Qv cells slots (pc) ls (st) n R I L := by
  intro p e s m args below meth c H locs lsA C hH hS hl
  exact lv_lload_n C.1 C.2.1 hd rfl (lv_at hl j (xtl_at hj)) (kk p e s m args below meth c H locs lsA C hH hS hl)
theorem hr_lload {i : Nat} {x : Int64} (hd : decode me.2.1 pc = .ok (.lload i, 2)) (j : Nat) (hj : ls[j]? = some (i, .long x)) (kk : hJ G l me hh mc ms Qv cells slots (pc + 2) ls (.long x :: st) n R I L) : hJ G l me hh mc ms Qv cells slots (pc) ls (st) n R I L := by
  intro p e s m args below meth c H locs lsA C hH hS hl
  exact lv_lload C.1 C.2.1 hd (lv_at hl j (xtl_at hj)) (kk p e s m args below meth c H locs lsA C hH hS hl)
theorem hr_aload_n {k : Fin 4} {x : Nat} (hd : decode me.2.1 pc = .ok (.aload_n k, 1)) (j : Nat) (hj : ls[j]? = some ((k : Nat), .ref x)) (kk : hJ G l me hh mc ms Qv cells slots (pc + 1) ls (.ref x :: st) n R I L) : hJ G l me hh mc ms Qv cells slots (pc) ls (st) n R I L := by
  intro p e s m args below meth c H locs lsA C hH hS hl
  exact lv_aload_n C.1 C.2.1 hd rfl (lv_at hl j (xtl_at hj)) (kk p e s m args below meth c H locs lsA C hH hS hl)
theorem hr_aload {i : Nat} {x : Nat} (hd : decode me.2.1 pc = .ok (.aload i, 2)) (j : Nat) (hj : ls[j]? = some (i, .ref x)) (kk : hJ G l me hh mc ms Qv cells slots (pc + 2) ls (.ref x :: st) n R I L) : hJ G l me hh mc ms Qv cells slots (pc) ls (st) n R I L := by
  intro p e s m args below meth c H locs lsA C hH hS hl
  exact lv_aload C.1 C.2.1 hd (lv_at hl j (xtl_at hj)) (kk p e s m args below meth c H locs lsA C hH hS hl)
theorem hr_i2l {x : Int32} (hd : decode me.2.1 pc = .ok (.i2l, 1)) (kk : hJ G l me hh mc ms Qv cells slots (pc + 1) ls (.long x.toInt64 :: st) n R I L) : hJ G l me hh mc ms Qv cells slots (pc) ls (.int x :: st) n R I L := by
  intro p e s m args below meth c H locs lsA C hH hS hl
  exact lv_i2l C.1 C.2.1 hd rfl (kk p e s m args below meth c H locs lsA C hH hS hl)
theorem hr_goto {off : Int} (tgt : Nat) (hd : decode me.2.1 pc = .ok (.goto off, 3)) (ht : (pc : Int) + off = (tgt : Int)) (kk : hJ G l me hh mc ms Qv cells slots (tgt) ls (st) n R I L) : hJ G l me hh mc ms Qv cells slots (pc) ls (st) n R I L := by
  intro p e s m args below meth c H locs lsA C hH hS hl
  exact lv_goto C.1 C.2.1 hd ht (kk p e s m args below meth c H locs lsA C hH hS hl)
theorem hr_lastore {a : Nat} {i : Int32} {x : Int64} (hd : decode me.2.1 pc = .ok (.lastore, 1)) (ha : a < n) (hka : xkd G a = 15) (hi : vp_in i (xln G a))
    (kk : hJ G l me hh mc ms Qv cells slots (pc + 1) ls st n R I (xu L a i.toNatClampNeg x)) : hJ G l me hh mc ms Qv cells slots pc ls (.long x :: .int i :: .ref a :: st) n R I L := by
  intro p e s m args below meth c' H locs lsA C hH hS hl
  show W _ _ _ _ _ _ _ _ _ _ _ _ _ _ _ (F0 m pc lsA (.long x :: .int i :: .ref (xad G a) :: st.map (xtr G)))
  rw [xad_in ha hH.1.2]
  refine va_last (D := xD G) (f := L a) C.1 C.2.1 C.2.2.2.2.2.2.2.2.1 hH.1.1 xp_D hS a 2 (xp_arr ha hka (by omega)) (xtys_at 2 (by omega)) hi hd (fun H1 locs1 h1 _ h3 => ?_)
  rw [xp_set (R' := R) (I' := I) (L' := xu L a i.toNatClampNeg x) (fun _ _ => rfl) (fun _ _ => rfl) (fun j hj => xu_r L x hj) (by rw [xE, if_neg (by rw [hka]; omega), hka, xar, ← xu_upL])] at h1
  exact kk p e s m args below meth c' H1 locs1 lsA C ⟨⟨h1, hH.1.2⟩, hH.2⟩ h3 hl
theorem hr_iret {x : Int32} (hd : decode me.2.1 pc = .ok (.ireturn, 1)) (hr : me.2.2.2.1 = some .int) (h1 : cells ≤ mc) (h2 : slots ≤ ms) (hq : Qv (some (.int x)) (n, R, I, L)) : hJ G l me hh mc ms Qv cells slots pc ls [.int x] n R I L := by
  intro p e s m args below meth c' H locs lsA C hH hS hl
  exact xend h1 h2 (W.iret C.1 C.2.1 (C.2.2.2.1.trans hr) (fun t ht hW => ⟨⟨some (.int x), (n, R, I, L), rfl, hq, by rw [ht]; exact hH.1, fun q => (by cases q)⟩, hS.F ht⟩) hS.2.2 hd C.2.2.2.2.1)
theorem xcatch {p : Program} {e : Env} {R : Room} {s : State} {m : MethodId} {args : Array Value} {below : List Frame} {meth : Method} {c : Code} {H : Heap} {locs : List Loc} {Q : State → Prop} {lsA : Array Slot} {rest : List Value} {own name : String} {E : String} {ce : Cell} {q : Addr} (hown : s.vm.findClass own = some m.cls) (pre : List ExceptionTableEntry) (x : ExceptionTableEntry) (suf : List ExceptionTableEntry) (hsplit : c.exceptionTable.toList = pre ++ x :: suf)
    (hpass : ∀ z ∈ pre, z.catchType ≠ 0 ∧ ∃ nm : String, (Cond.classLink own z.catchType nm).before args s = true ∧ va_Nc E nm s) (hx : covers x pc = true) (h0 : x.catchType ≠ 0)
    (hlink : (Cond.classLink own x.catchType name).before args s = true) (hcast : (Cond.castable E name).before args s = true) (hcell : H[q]? = some ce) (hv : ce.vm = .none) (hcl : s.vm.findClass E = some ce.cls)
    (kk : W p l e R s m args below meth c H locs cells slots Q (F0 m x.handlerPc lsA [.ref q])) : vx_W p l e R s m args below meth c H locs cells slots Q (F0 m pc lsA rest) q := by
  intro T hT X
  have hpl : e.platform.magicAccessors = ({} : Platform).magicAccessors := by rw [X.admits.platform]
  obtain ⟨c3, c4, hc3, hc4, hasg⟩ := Cond.castable_spec hcast
  cases Option.some.inj (hc3.symm.trans hcl)
  obtain ⟨c5, hc5, hcl5⟩ := Cond.classLink_spec hown hlink e.platform hpl
  cases Option.some.inj (hc4.symm.trans hc5)
  obtain ⟨vm', X', st⟩ := X.thenCaughtThrough q (g := F0 m pc lsA rest) rfl (Steps.refl _) (by rw [hT]; exact hcell) (by rw [hv]; rfl) (by obtain ⟨k9, h9, -⟩ := Vm.findClass_spec hcl; exact ⟨k9, h9⟩) pre x suf hsplit
    (fun z hz => by
      obtain ⟨hz0, nm, hl1, hn1⟩ := hpass z hz
      obtain ⟨c6, hc6, hcl6⟩ := Cond.classLink_spec hown hl1 e.platform hpl
      obtain ⟨a8, b8, h1, h2, h3⟩ := hn1
      cases Option.some.inj (h1.symm.trans hcl)
      cases Option.some.inj (h2.symm.trans hc6)
      exact Or.inr ⟨hz0, _, hcl6, h3⟩) hx (Or.inr ⟨h0, c4, hcl5, hasg⟩)
  obtain ⟨t, a1, b1⟩ := kk (T.setVm vm') hT X'
  exact ⟨t, st.trans a1, b1⟩
/-- how E is caught at pc: the row of the table, the store of it (never read), and what is done then -/
def hC (G : xG) (l : Launch) (me : xMe) (hh : List (Nat × Nat × Nat × Nat)) (mc ms : Nat) (Qv : Option Value → xM → Prop) (cells slots pc : Nat) (ls : List (Nat × Value)) (E : String) (M : xM) : Prop :=
  ∃ (pre suf : List (Nat × Nat × Nat × Nat)) (a b hp ct sl len : Nat), hh = pre ++ (a, b, hp, ct) :: suf ∧ (∀ z ∈ pre, z.2.2.2 ≠ 0 ∧ ∃ nm : String, Cond.classLink me.1.cls z.2.2.2 nm ∈ xws ∧ (E, nm) ∈ xnc) ∧ (a ≤ pc ∧ pc < b) ∧ ct ≠ 0 ∧ Cond.classLink me.1.cls ct E ∈ xws ∧ Cond.castable E E ∈ xnw ∧
    ((∃ k : Fin 4, decode me.2.1 hp = .ok (.astore_n k, 1) ∧ (k : Nat) = sl ∧ len = 1) ∨ (decode me.2.1 hp = .ok (.astore sl, 2) ∧ len = 2)) ∧ sl < me.2.2.1 ∧ (∀ q ∈ ls, q.1 ≠ sl ∧ ¬ (q.1 + 1 = sl ∧ q.2.category = 2)) ∧ hJ G l me hh mc ms Qv cells slots (hp + len) ls [] M.1 M.2.1 M.2.2.1 M.2.2.2
theorem hdrop {A : Array Slot} {nL sl : Nat} {v : Value} (hls : ∀ q ∈ ls, q.1 ≠ sl ∧ ¬ (q.1 + 1 = sl ∧ q.2.category = 2)) (h : lv_has A nL ((sl, v) :: (xtl G ls).filter (fun q => !(q.1 == sl) && !(q.1 + 1 == sl && q.2.category == 2)))) : lv_has A nL (xtl G ls) := by
  refine ⟨h.1, h.2.1, fun q hq => h.2.2 q (List.mem_cons_of_mem _ (List.mem_filter.mpr ⟨hq, ?_⟩))⟩
  obtain ⟨q0, h0, rfl⟩ := List.mem_map.mp hq
  have h1 := hls q0 h0
  have h2 : (xtr G q0.2).category = q0.2.category := xtr_cat G q0.2
  simp [h2, h1.1]
  by_cases h3 : q0.1 + 1 = sl
  · exact Or.inr (fun h4 => h1.2 ⟨h3, h4⟩)
  · exact Or.inl h3
theorem hr_callV (me' : xMe) (k : Nat) (As : List Value) {idx b cl mc' ms' : Nat} {Qv' : Option Value → xM → Prop} {Qx' : String → xM → Prop} (hd : decode me.2.1 pc = .ok (.invokevirtual idx, 3)) (hw : Cond.methodLink me.1.cls idx me'.1 ∈ xws) (hK : xKV me' k) (hn : As.length = k)
    (hb : b < n) (hkb : xkd G b = cl) (hc : cl < 13) (hcc : xC cl = me'.1.cls) (hR : me'.2.2.2.2.1 + 1 ≤ me.2.2.2.2.1 ∧ 8 + (me'.2.2.1 + 11) + me'.2.2.2.2.2 ≤ me.2.2.2.2.2) (hst : (st.map Value.category).sum ≤ 8) (hcn : xCn G l me' (.ref b :: As) false (n, R, I, L) mc' ms' Qv' Qx') (hcl : cells + mc' ≤ mc) (hsl : slots + ms' ≤ ms)
    (kk : ∀ (v : Option Value) (M : xM), Qv' v M → hJ G l me hh mc ms Qv (cells + mc') (slots + ms') (pc + 3) ls (v.toList ++ st) M.1 M.2.1 M.2.2.1 M.2.2.2) (kx : ∀ (E : String) (M : xM), Qx' E M → hC G l me hh mc ms Qv (cells + mc') (slots + ms') pc ls E M) :
    hJ G l me hh mc ms Qv cells slots pc ls (As.reverse ++ .ref b :: st) n R I L := by
  intro p e s m args below meth c H locs lsA C hH hS hl T hT X
  rw [xrev, xad_in hb hH.1.2]
  have hrcv := va_recv C.2.2.2.2.2.2.2.2.1 hH.1.1 (xcl_at cl hc) (xp_obj hb hkb hc)
  have hr : vx_Run p l e (xrm me mc ms) s m args below meth c H locs cells slots mc' ms' (F0 m pc lsA ((As.map (xtr G)).reverse ++ Value.ref (xb G + b) :: st.map (xtr G))) (st.map (xtr G)) (xQc G false mc' Qv' (Value.ref (xb G + b) :: As.map (xtr G)).toArray) (xXc G Qx') (xA G) := by
    refine vx_runV (C := me'.1.cls) (Ts := xws) (own := me.1.cls) (index := idx) (bytes := me'.2.1) (maxL := me'.2.2.1) (ret := me'.2.2.2.1) (n := k) ⟨C.1, C.2.1, C.2.2.1, C.2.2.2.2.2.2.1, C.2.2.2.2.2.2.2.1⟩ hcn (cwV k C.2.2.2.2.2.2.2.1 ?_ rfl rfl rfl ⟨rfl, hK.2.2.2.2⟩ hR) ⟨xblind, ?_, fun U hU hW => ?_⟩ rfl (by rw [List.length_map]; exact hn) hl.1 rfl (xsum st hst) hd ⟨hcl, hsl⟩
    · intro w hw'
      rcases List.mem_append.mp hw' with h | h
      · simp only [List.mem_cons, List.not_mem_nil, or_false] at h
        rcases h with rfl | rfl | rfl | rfl
        · exact xgood1 hw
        · exact xgood1 hK.2.1
        · exact xgood1 hK.2.2.1
        · exact xgood1 hK.2.2.2.1
      · exact xgood hK.1 w h
    · rw [← hcc]; exact hrcv
    · refine ⟨by rw [← xad_in hb hH.1.2]; rfl, by rw [hU]; exact hH.1, fun q => (by cases q), va_K.moved hW.alike C.2.2.2.2.2.2.2.2.1, ?_⟩
      rw [hU]
      exact C.2.2.2.2.2.2.2.2.2.1.goes hW hS.1 hS.2.1
  rcases hr T hT X with ⟨v, st₀, t, T', L', h0, X', hL, e1, e2, ⟨⟨v0, M, hv, hq, hM, hal⟩, hF⟩, st1⟩ | ⟨q, st₀, t, T', L', E, ce, h0, X', hL, e1, e2, ⟨⟨M, hq, hM⟩, hF⟩, hce, hcv, hcl', st1⟩
  · cases hv
    obtain ⟨k1, k2, k3⟩ := vx_keep h0 e1 hS (fun _ _ h => h) (fun _ h => h) hL hF
    have h9 := kk v0 M hq p e s m args below meth c T'.heap (locs ++ L') lsA C ⟨by rw [e1]; exact hM, trivial⟩ k3 hl
    rw [← xval] at h9
    obtain ⟨t2, a1, b1⟩ := h9 T' rfl X'
    exact ⟨t2, st1 t2 a1, b1⟩
  · obtain ⟨k1, k2, k3⟩ := vx_keep h0 e1 hS (fun _ _ h => h) (fun _ h => h) hL hF
    obtain ⟨pre, suf, a, bq, hp, ct, sl, len, y1, y2, y3, y4, y5, y6, y7, y8, y9, y10⟩ := kx E M hq
    have htab := C.2.2.2.2.2.1
    rw [y1] at htab
    obtain ⟨l1, l2, z1, z2, z3⟩ := List.map_eq_append_iff.mp htab
    obtain ⟨x, l3, rfl, z5, z6⟩ := List.map_eq_cons_iff.mp z3
    obtain ⟨xa, xb1, xh, xc⟩ := x
    cases z5
    have hSt := C.2.2.2.2.2.2.2.2.2.1
    have h9 : vx_W p l e (xrm me mc ms) s m args below meth c T'.heap (locs ++ L') (cells + mc') (slots + ms') (vx_MQ below (xQc G false mc Qv) (xXc G (fun _ _ => False)) args s mc ms (xA G)) (F0 m pc lsA (st.map (xtr G))) q := by
      refine xcatch (own := me.1.cls) (name := E) (E := E) C.2.2.2.2.2.2.1 l1 _ l3 z1 (fun z hz => ?_) (by simp [covers, y3.1, y3.2]) y4 (C.2.2.2.2.2.2.2.1 _ y5) (va_Nw.use rfl (hSt.2.2.2.2.2.1 _ y6)) (by rw [e1]; exact hce) hcv hcl' ?_
      · have hz2 : (z.startPc, z.endPc, z.handlerPc, z.catchType) ∈ pre := by rw [← z2]; exact List.mem_map.mpr ⟨z, hz, rfl⟩
        obtain ⟨w1, nm, w2, w3⟩ := y2 _ hz2
        exact ⟨w1, nm, C.2.2.2.2.2.2.2.1 _ w2, hSt.2.2.2.2.1.1.2.2.2 _ w3⟩
      · show W p l e (xrm me mc ms) s m args below meth c T'.heap (locs ++ L') (cells + mc') (slots + ms') _ (F0 m _ lsA [.ref q])
        rcases y7 with ⟨kf, d1, d2, rfl⟩ | ⟨d1, rfl⟩
        · exact lv_astore_n C.1 C.2.1 d1 d2 hl y8 rfl (fun A hA => y10 p e s m args below meth c T'.heap (locs ++ L') A C ⟨by rw [e1]; exact hM, trivial⟩ k3 (hdrop y9 hA))
        · exact lv_astore C.1 C.2.1 d1 hl y8 rfl (fun A hA => y10 p e s m args below meth c T'.heap (locs ++ L') A C ⟨by rw [e1]; exact hM, trivial⟩ k3 (hdrop y9 hA))
    obtain ⟨t2, a1, b1⟩ := h9 T' rfl X'
    exact ⟨t2, st1.trans a1, b1⟩
end HJ
section XL
variable {G : xG} {l : Launch} {me : xMe} {mc ms : Nat} {Qv : Option Value → xM → Prop} {Qx : String → xM → Prop} {cells slots pc : Nat} {ls : List (Nat × Value)} {st : List Value} {n : Nat} {R : Nat → Nat → Option Nat} {I : Nat → Nat → Int32} {L : Nat → Nat → Int64}
/-- what the tables say of a wrapper -/
def xKH (me' : xMe) (hh : List (Nat × Nat × Nat × Nat)) (k : Nat) : Prop := Cond.codeWith me'.1 me'.2.1 me'.2.2.1 me'.2.2.2.1 hh ∈ xws ∧ Cond.static me'.1 ∈ xws ∧ Cond.initialized me'.1.cls ∈ xws ∧ me'.1.cls ≠ "java/lang/invoke/MethodHandle" ∧ me'.1.cls ≠ "java/lang/invoke/VarHandle" ∧ (parseMethodDescriptor me'.1.desc).map (fun d => d.parameters.length) = some k
theorem xr_callH (me' : xMe) (hh : List (Nat × Nat × Nat × Nat)) (k : Nat) (As : List Value) {idx mc' ms' : Nat} {Qv' : Option Value → xM → Prop} (hd : decode me.2.1 pc = .ok (.invokestatic idx, 3)) (hw : Cond.methodLink me.1.cls idx me'.1 ∈ xws) (hK : xKH me' hh k) (hn : As.length = k)
    (hR : me'.2.2.2.2.1 + 1 ≤ me.2.2.2.2.1 ∧ 8 + (me'.2.2.1 + 11) + me'.2.2.2.2.2 ≤ me.2.2.2.2.2) (hst : (st.map Value.category).sum ≤ 8) (hcn : xCh G l me' hh As (n, R, I, L) mc' ms' Qv') (hcl : cells + mc' ≤ mc) (hsl : slots + ms' ≤ ms)
    (kk : ∀ (v : Option Value) (M : xM), Qv' v M → xJ G l me mc ms Qv Qx (cells + mc') (slots + ms') (pc + 3) ls (v.toList ++ st) false M.1 M.2.1 M.2.2.1 M.2.2.2) :
    xJ G l me mc ms Qv Qx cells slots pc ls (As.reverse ++ st) false n R I L := by
  intro p e s m args below meth c H locs lsA C hH hS hl T hT X
  have hz := xsize C hH hS hT X
  rw [xrevS]
  refine xcall (mc' := mc') (ms' := ms') (Qx' := fun _ _ => False) (a := (As.map (xtr G)).toArray) ?_ C hH hS hl hcl hsl kk (fun _ _ h => h.elim) T hT X
  refine vx_runSX (hh := hh) (Ts := xws) (own := me.1.cls) (index := idx) (bytes := me'.2.1) (maxL := me'.2.2.1) (ret := me'.2.2.2.1) (n := k) ⟨C.1, C.2.1, C.2.2.1, C.2.2.2.2.2.2.1, C.2.2.2.2.2.2.2.1⟩ hcn (vx_cwSW k C.2.2.2.2.2.2.2.1 ?_ rfl rfl rfl hK.2.2.2 hR) ⟨xblind, fun U hU hW => xpre C hH.1 hz hS hU hW⟩ rfl (by rw [List.length_map]; exact hn) hl.1 rfl (xsum st hst) hd ⟨hcl, hsl⟩
  intro w hw'
  rcases List.mem_append.mp hw' with h | h
  · simp only [List.mem_cons, List.not_mem_nil, or_false] at h
    rcases h with rfl | rfl | rfl
    · exact xgood1 hw
    · exact xgood1 hK.2.1
    · exact xgood1 hK.2.2.1
  · rcases List.mem_cons.mp h with rfl | h
    · exact xgood1 hK.1
    · exact xgood1 h
/-- more is spent than was -/
theorem xJ.wid {c' s' : Nat} (h1 : cells ≤ c') (h2 : slots ≤ s') (kk : xJ G l me mc ms Qv Qx c' s' pc ls st false n R I L) : xJ G l me mc ms Qv Qx cells slots pc ls st false n R I L := by
  intro p e s m args below meth c' H locs lsA C hH hS hl
  exact W.widen h1 h2 (kk p e s m args below meth c' H locs lsA C ⟨hH.1, fun q => by cases q⟩ hS hl)
/-- the script -/
theorem xr_sld {j : Nat} (hd : decode me.2.1 pc = .ok (.iaload, 1)) (hj : j < xts G 91) (hb : xts G 91 < 2 ^ 31)
    (kk : xJ G l me mc ms Qv Qx cells slots (pc + 1) ls (.int (xsc G j) :: st) false n R I L) : xJ G l me mc ms Qv Qx cells slots pc ls (.int (nI j) :: .ref 1000090 :: st) false n R I L := by
  intro p e s m args below meth c' H locs lsA C hH hS hl
  obtain ⟨h1, h2⟩ := C.2.2.2.2.2.2.2.2.2.1.2.2.2.2.1.1.2.2.1
  have h9 := kk p e s m args below meth c' H locs lsA C hH hS hl
  refine va_sld (i := nI j) C.1 C.2.1 h2 (Nat.lt_of_lt_of_le h1 C.2.2.2.2.2.2.2.2.2.1.1) (fun z => absurd h1 (Nat.not_lt.mpr z)) hS (nI_in hj hb) hd ?_
  rw [nI_clamp (by omega)]
  exact h9
theorem xr_slh {N : Nat} (hd : decode me.2.1 pc = .ok (.arraylength, 1)) (hN : xts G 91 = N)
    (kk : xJ G l me mc ms Qv Qx cells slots (pc + 1) ls (.int (nI N) :: st) false n R I L) : xJ G l me mc ms Qv Qx cells slots pc ls (.ref 1000090 :: st) false n R I L := by
  subst hN
  intro p e s m args below meth c' H locs lsA C hH hS hl
  obtain ⟨h1, h2⟩ := C.2.2.2.2.2.2.2.2.2.1.2.2.2.2.1.1.2.2.1
  have h9 := kk p e s m args below meth c' H locs lsA C hH hS hl
  exact va_slen C.1 C.2.1 h2 (Nat.lt_of_lt_of_le h1 C.2.2.2.2.2.2.2.2.2.1.1) (fun z => absurd h1 (Nat.not_lt.mpr z)) hS hd h9
end XL
