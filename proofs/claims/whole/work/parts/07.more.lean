section XO
variable {G : xG} {l : Launch} {me : xMe} {mc ms : Nat} {Qv : Option Value → xM → Prop} {Qx : String → xM → Prop} {cells slots pc : Nat} {ls : List (Nat × Value)} {st : List Value} {al : Bool} {n : Nat} {R : Nat → Nat → Option Nat} {I : Nat → Nat → Int32} {L : Nat → Nat → Int64}
theorem xcats (st : List Value) : ((st.map (xtr G)).map fun v => v.category).sum = (st.map Value.category).sum := by
  rw [List.map_map]
  exact congrArg List.sum (List.map_congr_left (fun v _ => xtr_cat G v))
/-- System.arraycopy between rows of ints -/
theorem xr_acopy {idx a0 a : Nat} {sp dp k : Int32} {f : Nat → Int32} (hd : decode me.2.1 pc = .ok (.invokestatic idx, 3)) (hw : Cond.methodLink me.1.cls idx arraycopyName ∈ xws) (hw2 : Cond.native arraycopyName ∈ xws ∧ Cond.static arraycopyName ∈ xws ∧ Cond.initialized "java/lang/System" ∈ xws)
    (ha0 : a0 < n) (hk0 : xkd G a0 = 13) (ha : a < n) (hka : xkd G a = 13) (h1 : ¬ sp < 0) (h2 : ¬ dp < 0) (h3 : ¬ k < 0) (h4 : sp.toNatClampNeg + k.toNatClampNeg ≤ xln G a0) (h5 : dp.toNatClampNeg + k.toNatClampNeg ≤ xln G a)
    (hR : 1 ≤ me.2.2.2.2.1 ∧ (st.map Value.category).sum + (nativeFrameWords "java/lang/System" "arraycopy" 5 + 11) ≤ me.2.2.2.2.2) (hf : va_cpy (I a0) (I a) sp.toNatClampNeg dp.toNatClampNeg k.toNatClampNeg = f)
    (kk : xJ G l me mc ms Qv Qx cells slots (pc + 3) ls st al n R (va_up I a f) L) : xJ G l me mc ms Qv Qx cells slots pc ls (.int k :: .int dp :: .ref a :: .int sp :: .ref a0 :: st) al n R I L := by
  subst hf
  intro p e s m args below meth c' H locs lsA C hH hS hl
  show W _ _ _ _ _ _ _ _ _ _ _ _ _ _ _ (F0 m pc lsA (.int k :: .int dp :: .ref (xad G a) :: .int sp :: .ref (xad G a0) :: st.map (xtr G)))
  rw [xad_in ha hH.1.2, xad_in ha0 hH.1.2]
  refine va_copyi (D := xD G) (f := I a0) (g := I a) (ty := .int) C.1 C.2.1 (C.2.2.1.trans hl.1.symm) C.2.2.2.2.2.2.1 (C.2.2.2.2.2.2.2.1 _ hw) (C.2.2.2.2.2.2.2.1 _ hw2.1) (C.2.2.2.2.2.2.2.1 _ hw2.2.1) (C.2.2.2.2.2.2.2.1 _ hw2.2.2) C.2.2.2.2.2.2.2.2.1 hH.1.1 xp_D hS a0 a 0 0 (xp_arr ha0 hk0 (by omega)) (xp_arr ha hka (by omega)) (xtys_at 0 (by omega)) (xtys_at 0 (by omega)) rfl h1 h2 h3 h4 h5 (fun _ _ => rfl) hR.1 (by rw [xcats]; exact hR.2) hd (fun H1 locs1 q1 _ q3 => ?_)
  rw [xp_set (R' := R) (I' := va_up I a (va_cpy (I a0) (I a) sp.toNatClampNeg dp.toNatClampNeg k.toNatClampNeg)) (L' := L) (fun _ _ => rfl) (fun j hj => va_up_ne I _ hj) (fun _ _ => rfl) (by rw [xE, if_neg (by rw [hka]; omega), hka, xar, va_up_self])] at q1
  exact kk p e s m args below meth c' H1 locs1 lsA C ⟨⟨q1, hH.1.2⟩, hH.2⟩ q3 hl
theorem xr_min {idx : Nat} {x y : Int32} (hd : decode me.2.1 pc = .ok (.invokestatic idx, 3)) (hw : Cond.methodLink me.1.cls idx Lib.Math.min.name ∈ xws) (hw2 : Cond.static Lib.Math.min.name ∈ xws ∧ Cond.initialized "java/lang/Math" ∈ xws ∧ Cond.code Lib.Math.min.name Lib.Math.min.code 2 (some .int) ∈ xws)
    (hR : 1 ≤ me.2.2.2.2.1 ∧ (st.map Value.category).sum + 13 ≤ me.2.2.2.2.2) (h1 : cells ≤ mc) (h2 : slots ≤ ms)
    (kk : xJ G l me mc ms Qv Qx cells slots (pc + 3) ls (.int (if y < x then y else x) :: st) al n R I L) : xJ G l me mc ms Qv Qx cells slots pc ls (.int y :: .int x :: st) al n R I L := by
  intro p e s m args below meth c' H locs lsA C hH hS hl
  exact va_mmin C.1 C.2.1 (C.2.2.1.trans hl.1.symm) C.2.2.2.2.2.2.1 (C.2.2.2.2.2.2.2.1 _ hw) (C.2.2.2.2.2.2.2.1 _ hw2.1) (C.2.2.2.2.2.2.2.1 _ hw2.2.1) (C.2.2.2.2.2.2.2.1 _ hw2.2.2) hR.1 (by rw [xcats]; exact hR.2) h1 h2 hd (kk p e s m args below meth c' H locs lsA C hH hS hl)
abbrev xnms : List String := ["java/lang/RuntimeException", "java/lang/Exception"]
/-- what the tables say of 'throw new E("..")' in a class -/
def xKT (own cls : String) (ik ic : Nat) : Prop := Bundle.fit cls = true ∧ Cond.classLink own ik cls ∈ xws ∧ Cond.initialized cls ∈ xws ∧ (∀ w ∈ (vx_atS own ic cls xnms).filter goodWord, w ∈ xws) ∧ (∀ w ∈ (vx_atS own ic cls xnms).filter (fun w => !goodWord w), w ∈ xnw) ∧ ∀ w ∈ Cond.classLink own ik cls :: Cond.initialized cls :: vx_atS own ic cls xnms, vx_ot w = true
theorem xr_throw (hst : l.stackTraces = false) (i : Nat) {cls text : String} {ik is ic : Nat} (hT : xKT me.1.cls cls ik ic) (hi : i < 24) (hsi : xSs.getD i ("", 0, "") = (me.1.cls, is, text))
    (d0 : decode me.2.1 pc = .ok (.new ik, 3)) (d3 : decode me.2.1 (pc + 3) = .ok (.dup, 1)) (d4 : decode me.2.1 (pc + 4) = .ok (.ldc is, 2)) (d6 : decode me.2.1 (pc + 6) = .ok (.invokespecial ic, 3)) (d9 : decode me.2.1 (pc + 9) = .ok (.athrow, 1))
    (hR : 5 < me.2.2.2.2.1 ∧ (st.map Value.category).sum + 82 ≤ me.2.2.2.2.2) (hc : cells + 1 ≤ mc) (hs : slots + 6 ≤ ms) (hq : Qx cls (n, R, I, L)) : xJ G l me mc ms Qv Qx cells slots pc ls st al n R I L := by
  intro p e s m args below meth c' H locs lsA C hH hS hl
  obtain ⟨t1, t2, t3, t4, t5, t6⟩ := hT
  have hSt := C.2.2.2.2.2.2.2.2.2.1
  have hstr := hSt.2.2.2.2.1.2.2 i hi
  rw [hsi] at hstr
  refine vx_throwS (names := xnms) (A := xA G) C.1 C.2.1 hst C.2.2.2.2.2.2.1 t1 (by decide +kernel) (C.2.2.2.2.2.2.2.1 _ t2) (C.2.2.2.2.2.2.2.1 _ t3) hstr (vx_hat (B := xnw) (fun w hw => C.2.2.2.2.2.2.2.1 _ (t4 w hw)) t5 (fun w hw => va_Nw.use (xnw_t w hw) (hSt.2.2.2.2.2.1 w hw))) t6 hSt.2.2.2.1.1 hSt.2.2.2.1.2 hS (hl.1.trans C.2.2.1.symm) d0 d3 d4 d6 d9 (fun x hx => absurd (C.2.2.2.2.2.1 x hx) id) hR.1 (by rw [xcats]; exact hR.2) hc hs C.2.2.2.2.1 (fun t ha hz hk => ?_) hS.2.2 hc hs
  exact ⟨⟨(n, R, I, L), hq, ⟨hH.1.1.kept (fun k x hx => hk x.1 ((hH.1.1 k x hx).lt)), hH.1.2⟩⟩, ⟨Nat.le_trans hS.1 hz, fun q h1 h2 => (hk q (Nat.lt_of_lt_of_le h1 hS.1)).trans (hS.2.1 q h1 h2)⟩⟩
theorem xr_throwW (hst : l.stackTraces = false) (i : Nat) {cls text : String} {ik is ic : Nat} (hT : xKT me.1.cls cls ik ic) (hi : i < 24) (hsi : xSs.getD i ("", 0, "") = (me.1.cls, is, text))
    (d0 : decode me.2.1 pc = .ok (.new ik, 3)) (d3 : decode me.2.1 (pc + 3) = .ok (.dup, 1)) (d4 : decode me.2.1 (pc + 4) = .ok (.ldc_w is, 3)) (d7 : decode me.2.1 (pc + 7) = .ok (.invokespecial ic, 3)) (d10 : decode me.2.1 (pc + 10) = .ok (.athrow, 1))
    (hR : 5 < me.2.2.2.2.1 ∧ (st.map Value.category).sum + 82 ≤ me.2.2.2.2.2) (hc : cells + 1 ≤ mc) (hs : slots + 6 ≤ ms) (hq : Qx cls (n, R, I, L)) : xJ G l me mc ms Qv Qx cells slots pc ls st al n R I L := by
  intro p e s m args below meth c' H locs lsA C hH hS hl
  obtain ⟨t1, t2, t3, t4, t5, t6⟩ := hT
  have hSt := C.2.2.2.2.2.2.2.2.2.1
  have hstr := hSt.2.2.2.2.1.2.2 i hi
  rw [hsi] at hstr
  refine vx_throwSW (names := xnms) (A := xA G) C.1 C.2.1 hst C.2.2.2.2.2.2.1 t1 (by decide +kernel) (C.2.2.2.2.2.2.2.1 _ t2) (C.2.2.2.2.2.2.2.1 _ t3) hstr (vx_hat (B := xnw) (fun w hw => C.2.2.2.2.2.2.2.1 _ (t4 w hw)) t5 (fun w hw => va_Nw.use (xnw_t w hw) (hSt.2.2.2.2.2.1 w hw))) t6 hSt.2.2.2.1.1 hSt.2.2.2.1.2 hS (hl.1.trans C.2.2.1.symm) d0 d3 d4 d7 d10 (fun x hx => absurd (C.2.2.2.2.2.1 x hx) id) hR.1 (by rw [xcats]; exact hR.2) hc hs C.2.2.2.2.1 (fun t ha hz hk => ?_) hS.2.2 hc hs
  exact ⟨⟨(n, R, I, L), hq, ⟨hH.1.1.kept (fun k x hx => hk x.1 ((hH.1.1 k x hx).lt)), hH.1.2⟩⟩, ⟨Nat.le_trans hS.1 hz, fun q h1 h2 => (hk q (Nat.lt_of_lt_of_le h1 hS.1)).trans (hS.2.1 q h1 h2)⟩⟩
end XO
