section XSt
variable {G : xG} {l : Launch} {me : xMe} {mc ms : Nat} {Qv : Option Value → xM → Prop} {Qx : String → xM → Prop} {cells slots pc : Nat} {ls : List (Nat × Value)} {st : List Value} {al : Bool} {n : Nat} {R : Nat → Nat → Option Nat} {I : Nat → Nat → Int32} {L : Nat → Nat → Int64}
theorem xts_s (i : Nat) : (Value.ref (1000002 + i) :: st).map (xtr G) = Value.ref (xts G (2 + i)) :: st.map (xtr G) := by
  show Value.ref (xad G (1000002 + i)) :: _ = _
  rw [xad, if_neg (by omega), show 1000002 + i - 1000000 = 2 + i by omega]
theorem xts_v (i : Nat) : (Value.ref (1000100 + i) :: st).map (xtr G) = Value.ref (xts G (100 + i)) :: st.map (xtr G) := by
  show Value.ref (xad G (1000100 + i)) :: _ = _
  rw [xad, if_neg (by omega), show 1000100 + i - 1000000 = 100 + i by omega]
theorem xr_sval (i : Nat) {idx : Nat} (hd : decode me.2.1 pc = .ok (.getfield idx, 3)) (hw : Cond.fieldLink me.1.cls idx "java/lang/String" "value" "[B" ∈ xws) (hi : i < 24)
    (kk : xJ G l me mc ms Qv Qx cells slots (pc + 3) ls (.ref (1000100 + i) :: st) al n R I L) : xJ G l me mc ms Qv Qx cells slots pc ls (.ref (1000002 + i) :: st) al n R I L := by
  intro p e s m args below meth c' H locs lsA C hH hS hl
  have h9 := kk p e s m args below meth c' H locs lsA C hH hS hl
  rw [xts_v] at h9
  rw [xts_s]
  exact vk_getf C.1 C.2.1 ((C.2.2.2.2.2.2.2.2.2.1.2.2.2.2.1.2.1).1 i hi).2.2.1 hS C.2.2.2.2.2.2.1 (C.2.2.2.2.2.2.2.1 _ hw) (fun _ h => h) hd h9
theorem xr_scod (i : Nat) {idx : Nat} (hd : decode me.2.1 pc = .ok (.getfield idx, 3)) (hw : Cond.fieldLink me.1.cls idx "java/lang/String" "coder" "B" ∈ xws) (hi : i < 24)
    (kk : xJ G l me mc ms Qv Qx cells slots (pc + 3) ls (.int 0 :: st) al n R I L) : xJ G l me mc ms Qv Qx cells slots pc ls (.ref (1000002 + i) :: st) al n R I L := by
  intro p e s m args below meth c' H locs lsA C hH hS hl
  have h9 := kk p e s m args below meth c' H locs lsA C hH hS hl
  rw [xts_s]
  exact vk_getf C.1 C.2.1 ((C.2.2.2.2.2.2.2.2.2.1.2.2.2.2.1.2.1).1 i hi).2.1 hS C.2.2.2.2.2.2.1 (C.2.2.2.2.2.2.2.1 _ hw) (fun _ h => h) hd h9
theorem xr_gcs {idx : Nat} (hd : decode me.2.1 pc = .ok (.getstatic idx, 3)) (hw : Cond.fieldLink me.1.cls idx "java/lang/String" "COMPACT_STRINGS" "Z" ∈ xws)
    (kk : xJ G l me mc ms Qv Qx cells slots (pc + 3) ls (.int 1 :: st) al n R I L) : xJ G l me mc ms Qv Qx cells slots pc ls st al n R I L := by
  intro p e s m args below meth c' H locs lsA C hH hS hl
  exact va_gets C.1 C.2.1 C.2.2.2.2.2.2.2.2.2.1.2.2.2.2.1.1.1 hS C.2.2.2.2.2.2.1 (C.2.2.2.2.2.2.2.1 _ hw) (fun _ h => h) hd (kk p e s m args below meth c' H locs lsA C hH hS hl)
theorem xr_gfm {idx : Nat} (hd : decode me.2.1 pc = .ok (.getstatic idx, 3)) (hw : Cond.fieldLink me.1.cls idx "jdk/internal/util/Preconditions" "SIOOBE_FORMATTER" "Ljava/util/function/BiFunction;" ∈ xws)
    (kk : ∀ v : Value, v = .null ∨ v = .ref 1000070 → xJ G l me mc ms Qv Qx cells slots (pc + 3) ls (v :: st) al n R I L) : xJ G l me mc ms Qv Qx cells slots pc ls st al n R I L := by
  intro p e s m args below meth c' H locs lsA C hH hS hl
  rcases C.2.2.2.2.2.2.2.2.2.1.2.2.2.2.1.1.2.1 with hf | hf
  · exact va_gets C.1 C.2.1 hf hS C.2.2.2.2.2.2.1 (C.2.2.2.2.2.2.2.1 _ hw) (fun _ h => h) hd (kk .null (Or.inl rfl) p e s m args below meth c' H locs lsA C hH hS hl)
  · exact va_gets C.1 C.2.1 hf hS C.2.2.2.2.2.2.1 (C.2.2.2.2.2.2.2.1 _ hw) (fun _ h => h) hd (kk (.ref 1000070) (Or.inr rfl) p e s m args below meth c' H locs lsA C hH hS hl)
theorem xr_slen (i : Nat) (hd : decode me.2.1 pc = .ok (.arraylength, 1)) (hi : i < 24)
    (kk : xJ G l me mc ms Qv Qx cells slots (pc + 1) ls (.int (nI (xSl.getD i 0)) :: st) al n R I L) : xJ G l me mc ms Qv Qx cells slots pc ls (.ref (1000100 + i) :: st) al n R I L := by
  intro p e s m args below meth c' H locs lsA C hH hS hl
  have h9 := kk p e s m args below meth c' H locs lsA C hH hS hl
  rw [xts_v]
  exact va_tlen C.1 C.2.1 ((C.2.2.2.2.2.2.2.2.2.1.2.2.2.2.1.2.1).1 i hi).2.2.2 hS rfl hd h9
theorem xr_sbal (i : Nat) {k : Int32} {x : Int32} (hd : decode me.2.1 pc = .ok (.baload, 1)) (hi : i < 24) (hk : vp_in k (xSl.getD i 0)) (hx : (xSb.getD i []).getD k.toNatClampNeg 0 = x)
    (kk : xJ G l me mc ms Qv Qx cells slots (pc + 1) ls (.int x :: st) al n R I L) : xJ G l me mc ms Qv Qx cells slots pc ls (.int k :: .ref (1000100 + i) :: st) al n R I L := by
  intro p e s m args below meth c' H locs lsA C hH hS hl
  have h9 := kk p e s m args below meth c' H locs lsA C hH hS hl
  rw [List.map_cons, xts_v]
  exact va_tb (v := .int x) C.1 C.2.1 ((C.2.2.2.2.2.2.2.2.2.1.2.2.2.2.1.2.1).1 i hi).2.2.2 hS hk (by rw [← hx]) hd h9
theorem xr_i2c {x v : Int32} (hd : decode me.2.1 pc = .ok (.i2c, 1)) (hv : (x.toUInt32 % 65536).toInt32 = v)
    (kk : xJ G l me mc ms Qv Qx cells slots (pc + 1) ls (.int v :: st) al n R I L) : xJ G l me mc ms Qv Qx cells slots pc ls (.int x :: st) al n R I L := by
  intro p e s m args below meth c' H locs lsA C hH hS hl
  exact lv_i2c C.1 C.2.1 hd hv (kk p e s m args below meth c' H locs lsA C hH hS hl)
theorem xr_tret {x : Int32} (ty : FieldType) (hd : decode me.2.1 pc = .ok (.ireturn, 1)) (hr : me.2.2.2.1 = some ty) (hx : narrow ty (.int x) = .int x) (h1 : cells ≤ mc) (h2 : slots ≤ ms) (hal : al = true → cells = mc) (hq : Qv (some (.int x)) (n, R, I, L)) : xJ G l me mc ms Qv Qx cells slots pc ls [.int x] al n R I L := by
  intro p e s m args below meth c' H locs lsA C hH hS hl
  exact xend h1 h2 (W.zret (ty := ty) C.1 C.2.1 (C.2.2.2.1.trans hr) hx (fun t ht hW => xend_q (v := some (.int x)) hal hH hS ht hq) hS.2.2 hd C.2.2.2.2.1)
theorem xr_callVs (me' : xMe) (k i : Nat) (As : List Value) {idx mc' ms' : Nat} {Qv' : Option Value → xM → Prop} {Qx' : String → xM → Prop} (hd : decode me.2.1 pc = .ok (.invokevirtual idx, 3)) (hw : Cond.methodLink me.1.cls idx me'.1 ∈ xws) (hK : xKV me' k) (hn : As.length = k)
    (hi : i < 24) (hcc : "java/lang/String" = me'.1.cls) (hR : me'.2.2.2.2.1 + 1 ≤ me.2.2.2.2.1 ∧ 8 + (me'.2.2.1 + 11) + me'.2.2.2.2.2 ≤ me.2.2.2.2.2) (hst : (st.map Value.category).sum ≤ 8) (hcn : xCn G l me' (.ref (1000002 + i) :: As) al (n, R, I, L) mc' ms' Qv' Qx') (hcl : cells + mc' ≤ mc) (hsl : slots + ms' ≤ ms)
    (kk : ∀ (v : Option Value) (M : xM), Qv' v M → xJ G l me mc ms Qv Qx (cells + mc') (slots + ms') (pc + 3) ls (v.toList ++ st) al M.1 M.2.1 M.2.2.1 M.2.2.2) (kx : ∀ (E : String) (M : xM), Qx' E M → Qx E M) :
    xJ G l me mc ms Qv Qx cells slots pc ls (As.reverse ++ .ref (1000002 + i) :: st) al n R I L := by
  intro p e s m args below meth c H locs lsA C hH hS hl T hT X
  have hz := xsize C hH hS hT X
  have e0 : xad G (1000002 + i) = xts G (2 + i) := by rw [xad, if_neg (by omega), show 1000002 + i - 1000000 = 2 + i by omega]
  rw [xrev, e0]
  refine xcall (mc' := mc') (ms' := ms') (a := (Value.ref (xts G (2 + i)) :: As.map (xtr G)).toArray) ?_ C hH hS hl hcl hsl kk kx T hT X
  have hrcv := vk_recv (C.2.2.2.2.2.2.2.2.2.1.2.2.2.2.1.2.1) hi hS
  refine vx_runV (C := me'.1.cls) (Ts := xws) (own := me.1.cls) (index := idx) (bytes := me'.2.1) (maxL := me'.2.2.1) (ret := me'.2.2.2.1) (n := k) ⟨C.1, C.2.1, C.2.2.1, C.2.2.2.2.2.2.1, C.2.2.2.2.2.2.2.1⟩ hcn (cwV k C.2.2.2.2.2.2.2.1 ?_ rfl rfl rfl ⟨rfl, hK.2.2.2.2⟩ hR) ⟨xblind, ?_, fun U hU hW => ?_⟩ rfl (by rw [List.length_map]; exact hn) hl.1 rfl (xsum st hst) hd ⟨hcl, hsl⟩
  · intro w hw'
    rcases List.mem_append.mp hw' with h | h
    · simp only [List.mem_cons, List.not_mem_nil, or_false] at h
      rcases h with rfl | rfl | rfl | rfl
      · exact xgood1 hw
      · exact xgood1 hK.2.1
      · exact xgood1 hK.2.2.1
      · exact xgood1 hK.2.2.2.1
    · exact xgood hK.1 w h
  · rw [← hcc]; exact hrcv
  · have h9 := xpre (As := .ref (1000002 + i) :: As) C hH.1 hz hS hU hW
    have e9 : (Value.ref (1000002 + i) :: As).map (xtr G) = Value.ref (xts G (2 + i)) :: As.map (xtr G) := by
      rw [← e0]; rfl
    rw [e9] at h9
    exact h9
theorem xr_callSx (me' : xMe) (k : Nat) (As : List Value) {idx mc' ms' : Nat} {Qv' : Option Value → xM → Prop} {Qx' : String → xM → Prop} (hd : decode me.2.1 pc = .ok (.invokestatic idx, 3)) (hw : Cond.methodLink me.1.cls idx me'.1 ∈ xws) (hK : xKS me' k) (hn : As.length = k)
    (hR : me'.2.2.2.2.1 + 1 ≤ me.2.2.2.2.1 ∧ 8 + (me'.2.2.1 + 11) + me'.2.2.2.2.2 ≤ me.2.2.2.2.2) (hst : (st.map Value.category).sum ≤ 8) (hcn : xCn G l me' As al (n, R, I, L) mc' ms' Qv' Qx') (hcl : cells + mc' ≤ mc) (hsl : slots + ms' ≤ ms)
    (kk : ∀ (v : Option Value) (M : xM), Qv' v M → xJ G l me mc ms Qv Qx (cells + mc') (slots + ms') (pc + 3) ls (v.toList ++ st) al M.1 M.2.1 M.2.2.1 M.2.2.2) (kx : ∀ (E : String) (M : xM), Qx' E M → Qx E M) :
    xJ G l me mc ms Qv Qx cells slots pc ls (As.reverse ++ st) al n R I L := by
  intro p e s m args below meth c H locs lsA C hH hS hl T hT X
  have hz := xsize C hH hS hT X
  rw [xrevS]
  refine xcall (mc' := mc') (ms' := ms') (a := (As.map (xtr G)).toArray) ?_ C hH hS hl hcl hsl kk kx T hT X
  refine vx_runS (Ts := xws) (own := me.1.cls) (index := idx) (bytes := me'.2.1) (maxL := me'.2.2.1) (ret := me'.2.2.2.1) (n := k) ⟨C.1, C.2.1, C.2.2.1, C.2.2.2.2.2.2.1, C.2.2.2.2.2.2.2.1⟩ hcn (va_cwS k C.2.2.2.2.2.2.2.1 ?_ rfl rfl rfl hK.2.2.2 hR) ⟨xblind, fun U hU hW => xpre C hH.1 hz hS hU hW⟩ rfl (by rw [List.length_map]; exact hn) hl.1 rfl (xsum st hst) hd ⟨hcl, hsl⟩
  intro w hw'
  rcases List.mem_append.mp hw' with h | h
  · simp only [List.mem_cons, List.not_mem_nil, or_false] at h
    rcases h with rfl | rfl | rfl
    · exact xgood1 hw
    · exact xgood1 hK.2.1
    · exact xgood1 hK.2.2.1
  · exact xgood hK.1 w h
end XSt
abbrev sChk : xMe := (yJ3_checkIndex_8e157, prog_26_method_11_code, 3, some .int, 0, 0)
abbrev sSci : xMe := (yJ0_checkIndex_df160, prog_21_method_155_code, 2, none, 1, 22)
abbrev sCod : xMe := (yJ0_coder_7d493, prog_21_method_152_code, 1, some .byte, 0, 0)
abbrev sLat : xMe := (yJ0_isLatin1_aae02, prog_21_method_154_code, 1, some .boolean, 0, 0)
abbrev sLen : xMe := (yJ0_length_8abf5, prog_21_method_54_code, 1, some .int, 1, 20)
abbrev sL1c : xMe := (yJ1_charAt_3b067, prog_22_method_2_code, 2, some .char, 2, 43)
abbrev sCha : xMe := (yJ0_charAt_5068e, prog_21_method_56_code, 2, some .char, 3, 64)
theorem ksChk : xKS sChk 3 := ⟨xt_5 (j := 13) rfl (by decide +kernel), xt_5 (j := 12) (by decide +kernel) (by decide +kernel), xt_1 (j := 23) (by decide +kernel) (by decide +kernel), by decide +kernel, by decide +kernel, by decide +kernel⟩
theorem ksSci : xKS sSci 2 := ⟨xt_5 (j := 8) rfl (by decide +kernel), xt_5 (j := 7) (by decide +kernel) (by decide +kernel), xt_1 (j := 21) (by decide +kernel) (by decide +kernel), by decide +kernel, by decide +kernel, by decide +kernel⟩
theorem ksCod : xKV sCod 0 := ⟨xt_4 (j := 227) rfl (by decide +kernel), xt_4 (j := 225) (by decide +kernel) (by decide +kernel), xt_4 (j := 226) (by decide +kernel) (by decide +kernel), xt_1 (j := 21) (by decide +kernel) (by decide +kernel), by decide +kernel, by decide +kernel, by decide +kernel⟩
theorem ksLat : xKV sLat 0 := ⟨xt_5 (j := 2) rfl (by decide +kernel), xt_5 (j := 0) (by decide +kernel) (by decide +kernel), xt_5 (j := 1) (by decide +kernel) (by decide +kernel), xt_1 (j := 21) (by decide +kernel) (by decide +kernel), by decide +kernel, by decide +kernel, by decide +kernel⟩
theorem ksLen : xKV sLen 0 := ⟨xt_4 (j := 223) rfl (by decide +kernel), xt_4 (j := 221) (by decide +kernel) (by decide +kernel), xt_4 (j := 222) (by decide +kernel) (by decide +kernel), xt_1 (j := 21) (by decide +kernel) (by decide +kernel), by decide +kernel, by decide +kernel, by decide +kernel⟩
theorem ksL1c : xKS sL1c 2 := ⟨xt_5 (j := 5) rfl (by decide +kernel), xt_5 (j := 4) (by decide +kernel) (by decide +kernel), xt_1 (j := 22) (by decide +kernel) (by decide +kernel), by decide +kernel, by decide +kernel, by decide +kernel⟩
theorem ksCha : xKV sCha 1 := ⟨xt_4 (j := 238) rfl (by decide +kernel), xt_4 (j := 236) (by decide +kernel) (by decide +kernel), xt_4 (j := 237) (by decide +kernel) (by decide +kernel), xt_1 (j := 21) (by decide +kernel) (by decide +kernel), by decide +kernel, by decide +kernel, by decide +kernel⟩
theorem tb_len : ∀ i, i < 24 → xSl.getD i 0 = (xSb.getD i []).length ∧ xSl.getD i 0 ≤ 33 ∧ nI (xSl.getD i 0) >>> ((0 : Int32) &&& 31) = nI (xSl.getD i 0) ∧ nI (xSl.getD i 0) &&& 255 = nI (xSl.getD i 0) := by decide +kernel
theorem tb_chr : ∀ i, i < 24 → ∀ j, j < 34 → (((xSb.getD i []).getD j 0 &&& 255).toUInt32 % 65536).toInt32 = (xSb.getD i []).getD j 0 ∧ ((xSb.getD i []).getD j 0).toUInt32 < 65536 ∧ (xSb.getD i []).getD j 0 &&& 255 = (xSb.getD i []).getD j 0 ∧ (((xSb.getD i []).getD j 0).toUInt32 % 65536).toInt32 = (xSb.getD i []).getD j 0 := by decide +kernel
theorem c_sChk {G : xG} {l : Launch} {al : Bool} {n : Nat} {R : Nat → Nat → Option Nat} {I : Nat → Nat → Int32} {L : Nat → Nat → Int64} {i k : Int32} {v : Value} (hv : v = .null ∨ v = .ref 1000070) (h0 : ¬ i < 0) (h1 : i < k) : xCn G l sChk [.int i, .int k, v] al (n, R, I, L) 0 0 (fun r M => r = some (.int i) ∧ M = (n, R, I, L)) (fun _ _ => False) := by
  have go : ∀ ls : List (Nat × Value), ls[0]? = some (0, .int i) → ls[1]? = some (1, .int k) → xJ G l sChk 0 0 (fun r M => r = some (.int i) ∧ M = (n, R, I, L)) (fun _ _ => False) 0 0 0 ls [] al n R I L := by
    intro ls l0 l1
    refine xr_iload_n (k := 0) (by decide +kernel) 0 l0 ?_
    refine xr_if_lt (off := 8) 9 (by decide +kernel) (by decide) (fun c => absurd c h0) (fun _ => ?_)
    refine xr_iload_n (k := 0) (by decide +kernel) 0 l0 ?_
    refine xr_iload_n (k := 1) (by decide +kernel) 1 l1 ?_
    refine xr_icmp_lt (off := 10) 16 (by decide +kernel) (by decide) (fun _ => ?_) (fun c => absurd h1 c)
    refine xr_iload_n (k := 0) (by decide +kernel) 0 l0 ?_
    exact xr_iret (by decide +kernel) rfl (Nat.zero_le _) (Nat.zero_le _) (fun _ => rfl) ⟨rfl, rfl⟩
  rcases hv with rfl | rfl
  · exact xCn.ofJ (by decide) (Nat.le_of_ble_eq_true rfl) (go _ rfl rfl)
  · exact xCn.ofJ (by decide) (Nat.le_of_ble_eq_true rfl) (go _ rfl rfl)
theorem c_sSci {G : xG} {l : Launch} {al : Bool} {n : Nat} {R : Nat → Nat → Option Nat} {I : Nat → Nat → Int32} {L : Nat → Nat → Int64} {i k : Int32} (h0 : ¬ i < 0) (h1 : i < k) : xCn G l sSci [.int i, .int k] al (n, R, I, L) 0 0 (fun r M => r = none ∧ M = (n, R, I, L)) (fun _ _ => False) := by
  refine xCn.ofJ (by decide) (Nat.le_of_ble_eq_true rfl) ?_
  show xJ _ _ _ _ _ _ _ _ _ 0 [(0, .int i), (1, .int k)] [] _ _ _ _ _
  refine xr_iload_n (k := 0) (by decide +kernel) 0 rfl ?_
  refine xr_iload_n (k := 1) (by decide +kernel) 1 rfl ?_
  refine xr_gfm (idx := 1053) (by decide +kernel) (xt_5 (j := 9) (by decide +kernel) (by decide +kernel)) (fun v hv => ?_)
  refine xr_callSx (st := []) sChk 3 [.int i, .int k, v] (idx := 1059) (by decide +kernel) (xt_5 (j := 11) (by decide +kernel) (by decide +kernel)) ksChk rfl ⟨by decide, by decide⟩ (Nat.le_of_ble_eq_true rfl) (c_sChk hv h0 h1) (by decide) (by decide) (fun v M h => ?_) (fun _ _ h => h.elim)
  obtain ⟨rfl, rfl⟩ := h
  show xJ _ _ _ _ _ _ _ _ _ _ _ _ _ n R I L
  refine xr_pop (by decide +kernel) rfl ?_
  exact xr_vret (by decide +kernel) rfl (Nat.zero_le _) (Nat.zero_le _) (fun _ => rfl) ⟨rfl, rfl⟩
theorem c_sCod {G : xG} {l : Launch} {al : Bool} {n : Nat} {R : Nat → Nat → Option Nat} {I : Nat → Nat → Int32} {L : Nat → Nat → Int64} {i : Nat} (hi : i < 24) : xCn G l sCod [.ref (1000002 + i)] al (n, R, I, L) 0 0 (fun r M => r = some (.int 0) ∧ M = (n, R, I, L)) (fun _ _ => False) := by
  refine xCn.ofJ (by decide) (Nat.le_of_ble_eq_true rfl) ?_
  show xJ _ _ _ _ _ _ _ _ _ 0 [(0, .ref (1000002 + i))] [] _ _ _ _ _
  refine xr_gcs (idx := 38) (by decide +kernel) (xt_4 (j := 228) (by decide +kernel) (by decide +kernel)) ?_
  refine xr_if_eq (off := 10) 13 (by decide +kernel) (by decide) (fun c => absurd c (by decide)) (fun _ => ?_)
  refine xr_aload_n (k := 0) (by decide +kernel) 0 rfl ?_
  refine xr_scod i (idx := 15) (by decide +kernel) (xt_9 (j := 208) (by decide +kernel) (by decide +kernel)) hi ?_
  refine xr_goto (off := 4) 14 (by decide +kernel) (by decide) ?_
  exact xr_tret .byte (by decide +kernel) rfl rfl (Nat.zero_le _) (Nat.zero_le _) (fun _ => rfl) ⟨rfl, rfl⟩
theorem c_sLat {G : xG} {l : Launch} {al : Bool} {n : Nat} {R : Nat → Nat → Option Nat} {I : Nat → Nat → Int32} {L : Nat → Nat → Int64} {i : Nat} (hi : i < 24) : xCn G l sLat [.ref (1000002 + i)] al (n, R, I, L) 0 0 (fun r M => r = some (.int 1) ∧ M = (n, R, I, L)) (fun _ _ => False) := by
  refine xCn.ofJ (by decide) (Nat.le_of_ble_eq_true rfl) ?_
  show xJ _ _ _ _ _ _ _ _ _ 0 [(0, .ref (1000002 + i))] [] _ _ _ _ _
  refine xr_gcs (idx := 38) (by decide +kernel) (xt_4 (j := 228) (by decide +kernel) (by decide +kernel)) ?_
  refine xr_if_eq (off := 14) 17 (by decide +kernel) (by decide) (fun c => absurd c (by decide)) (fun _ => ?_)
  refine xr_aload_n (k := 0) (by decide +kernel) 0 rfl ?_
  refine xr_scod i (idx := 15) (by decide +kernel) (xt_9 (j := 208) (by decide +kernel) (by decide +kernel)) hi ?_
  refine xr_if_ne (off := 7) 17 (by decide +kernel) (by decide) (fun c => absurd rfl c) (fun _ => ?_)
  refine xr_iconst (z := 1) (v := 1) (by decide +kernel) (by decide) ?_
  refine xr_goto (off := 4) 18 (by decide +kernel) (by decide) ?_
  exact xr_tret .boolean (by decide +kernel) rfl rfl (Nat.zero_le _) (Nat.zero_le _) (fun _ => rfl) ⟨rfl, rfl⟩
theorem c_sLen {G : xG} {l : Launch} {al : Bool} {n : Nat} {R : Nat → Nat → Option Nat} {I : Nat → Nat → Int32} {L : Nat → Nat → Int64} {i : Nat} (hi : i < 24) : xCn G l sLen [.ref (1000002 + i)] al (n, R, I, L) 0 0 (fun r M => r = some (.int (nI (xSl.getD i 0))) ∧ M = (n, R, I, L)) (fun _ _ => False) := by
  refine xCn.ofJ (by decide) (Nat.le_of_ble_eq_true rfl) ?_
  show xJ _ _ _ _ _ _ _ _ _ 0 [(0, .ref (1000002 + i))] [] _ _ _ _ _
  refine xr_aload_n (k := 0) (by decide +kernel) 0 rfl ?_
  refine xr_sval i (idx := 9) (by decide +kernel) (xt_9 (j := 207) (by decide +kernel) (by decide +kernel)) hi ?_
  refine xr_slen i (by decide +kernel) hi ?_
  refine xr_aload_n (k := 0) (by decide +kernel) 0 rfl ?_
  refine xr_callVs sCod 0 i [] (idx := 335) (by decide +kernel) (xt_4 (j := 224) (by decide +kernel) (by decide +kernel)) ksCod rfl hi rfl ⟨by decide, by decide⟩ (Nat.le_of_ble_eq_true rfl) (c_sCod hi) (by decide) (by decide) (fun v M h => ?_) (fun _ _ h => h.elim)
  obtain ⟨rfl, rfl⟩ := h
  show xJ _ _ _ _ _ _ _ _ _ _ _ _ _ n R I L
  refine xr_ishr (y := 0) (by decide +kernel) ?_
  exact xr_iret (by decide +kernel) rfl (Nat.zero_le _) (Nat.zero_le _) (fun _ => rfl) ⟨by rw [(tb_len i hi).2.2.1], rfl⟩
theorem vp_nI {j N : Nat} (h : j < N) (hN : N < 2 ^ 31) : vp_in (nI j) N := nI_in h hN
theorem nar_chr {x : Int32} (h : (x.toUInt32 % 65536).toInt32 = x) : narrow .char (.int x) = .int x := by
  show Value.int _ = _
  first | rw [h] | (simp [h])
theorem c_sL1c {G : xG} {l : Launch} {al : Bool} {n : Nat} {R : Nat → Nat → Option Nat} {I : Nat → Nat → Int32} {L : Nat → Nat → Int64} {i j : Nat} (hi : i < 24) (hj : j < xSl.getD i 0) : xCn G l sL1c [.ref (1000100 + i), .int (nI j)] al (n, R, I, L) 0 0 (fun r M => r = some (.int ((xSb.getD i []).getD j 0)) ∧ M = (n, R, I, L)) (fun _ _ => False) := by
  have hl := (tb_len i hi).2.1
  have ht := tb_chr i hi j (by omega)
  refine xCn.ofJ (by decide) (Nat.le_of_ble_eq_true rfl) ?_
  show xJ _ _ _ _ _ _ _ _ _ 0 [(0, .ref (1000100 + i)), (1, .int (nI j))] [] _ _ _ _ _
  refine xr_iload_n (k := 1) (by decide +kernel) 1 rfl ?_
  refine xr_aload_n (k := 0) (by decide +kernel) 0 rfl ?_
  refine xr_slen i (by decide +kernel) hi ?_
  refine xr_callSx (st := []) sSci 2 [.int (nI j), .int (nI (xSl.getD i 0))] (idx := 9) (by decide +kernel) (xt_5 (j := 6) (by decide +kernel) (by decide +kernel)) ksSci rfl ⟨by decide, by decide⟩ (Nat.le_of_ble_eq_true rfl) (c_sSci (nI_pos (by omega)) (nI_lt hj (by omega))) (by decide) (by decide) (fun v M h => ?_) (fun _ _ h => h.elim)
  obtain ⟨rfl, rfl⟩ := h
  show xJ _ _ _ _ _ _ _ _ _ _ _ _ _ n R I L
  refine xr_aload_n (k := 0) (by decide +kernel) 0 rfl ?_
  refine xr_iload_n (k := 1) (by decide +kernel) 1 rfl ?_
  refine xr_sbal i (x := (xSb.getD i []).getD j 0) (by decide +kernel) hi (vp_nI hj (by omega)) (by rw [nI_clamp (by omega)]) ?_
  refine xr_sipush (z := 255) (v := 255) (by decide +kernel) (by decide) ?_
  refine xr_iand (by decide +kernel) ?_
  refine xr_i2c (v := (xSb.getD i []).getD j 0) (by decide +kernel) ht.1 ?_
  exact xr_tret .char (by decide +kernel) rfl (nar_chr ht.2.2.2) (Nat.zero_le _) (Nat.zero_le _) (fun _ => rfl) ⟨rfl, rfl⟩
theorem c_sCha {G : xG} {l : Launch} {al : Bool} {n : Nat} {R : Nat → Nat → Option Nat} {I : Nat → Nat → Int32} {L : Nat → Nat → Int64} {i j : Nat} (hi : i < 24) (hj : j < xSl.getD i 0) : xCn G l sCha [.ref (1000002 + i), .int (nI j)] al (n, R, I, L) 0 0 (fun r M => r = some (.int ((xSb.getD i []).getD j 0)) ∧ M = (n, R, I, L)) (fun _ _ => False) := by
  have hl := (tb_len i hi).2.1
  have ht := tb_chr i hi j (by omega)
  refine xCn.ofJ (by decide) (Nat.le_of_ble_eq_true rfl) ?_
  show xJ _ _ _ _ _ _ _ _ _ 0 [(0, .ref (1000002 + i)), (1, .int (nI j))] [] _ _ _ _ _
  refine xr_aload_n (k := 0) (by decide +kernel) 0 rfl ?_
  refine xr_callVs (st := []) sLat 0 i [] (idx := 492) (by decide +kernel) (xt_4 (j := 239) (by decide +kernel) (by decide +kernel)) ksLat rfl hi rfl ⟨by decide, by decide⟩ (Nat.le_of_ble_eq_true rfl) (c_sLat hi) (by decide) (by decide) (fun v M h => ?_) (fun _ _ h => h.elim)
  obtain ⟨rfl, rfl⟩ := h
  show xJ _ _ _ _ _ _ _ _ _ _ _ _ _ n R I L
  refine xr_if_eq (off := 12) (st := []) (x := 1) 16 (by decide +kernel) (by decide) (fun c => absurd c (by decide)) (fun _ => ?_)
  refine xr_aload_n (k := 0) (by decide +kernel) 0 rfl ?_
  refine xr_sval i (idx := 9) (by decide +kernel) (xt_9 (j := 207) (by decide +kernel) (by decide +kernel)) hi ?_
  refine xr_iload_n (k := 1) (by decide +kernel) 1 rfl ?_
  refine xr_callSx (st := []) sL1c 2 [.ref (1000100 + i), .int (nI j)] (idx := 495) (by decide +kernel) (xt_5 (j := 3) (by decide +kernel) (by decide +kernel)) ksL1c rfl ⟨by decide, by decide⟩ (Nat.le_of_ble_eq_true rfl) (c_sL1c hi hj) (by decide) (by decide) (fun v M h => ?_) (fun _ _ h => h.elim)
  obtain ⟨rfl, rfl⟩ := h
  show xJ _ _ _ _ _ _ _ _ _ _ _ _ _ n R I L
  exact xr_tret .char (by decide +kernel) rfl (nar_chr ht.2.2.2) (Nat.zero_le _) (Nat.zero_le _) (fun _ => rfl) ⟨rfl, rfl⟩
theorem tk_succ {q : List Int32} {t : Nat} (h : t < q.length) : q.take (t + 1) = q.take t ++ [q.getD t 0] := by
  rw [List.take_succ, List.getElem?_eq_getElem h, List.getD_eq_getElem?_getD, List.getElem?_eq_getElem h]
  rfl
set_option maxHeartbeats 4000000 in
set_option maxRecDepth 100000 in
/-- Sha.putText(label) -/
theorem c_putText {b : Nat} {dC : Nat → ClassId} {dI : Nat → Nat → Nat} {cA : Nat → ClassId} {ts : Nat → Nat} {l : Launch} {al : Bool} {n : Nat} {R : Nat → Nat → Option Nat} {L : Nat → Nat → Int64} (hn : 491 ≤ n) (hR : xRk R) {i : Nat} (hi : i < 24) {I : Nat → Nat → Int32} {q : List Int32} (hB : cB I q) (hq : q.length + 33 ≤ 568) : xCn (xGm b dC dI cA ts) l mX7_putText [.ref 6, .ref (1000002 + i)] al (n, R, I, L) 0 0 (fun r M => r = none ∧ ∃ I' : Nat → Nat → Int32, M = (n, R, I', L) ∧ cB I' (q ++ xSb.getD i []) ∧ xFr [7] [(6, 4)] I I') (fun _ _ => False) := by
  obtain ⟨hl1, hl, -, -⟩ := tb_len i hi
  have go : ∀ (k t : Nat) (I' : Nat → Nat → Int32), t + k = xSl.getD i 0 → cB I' (q ++ (xSb.getD i []).take t) → xFr [7] [(6, 4)] I I' → xJ (xGm b dC dI cA ts) l mX7_putText 0 0 (fun r M => r = none ∧ ∃ I' : Nat → Nat → Int32, M = (n, R, I', L) ∧ cB I' (q ++ xSb.getD i []) ∧ xFr [7] [(6, 4)] I I') (fun _ _ => False) 0 0 2 [(0, .ref 6), (1, .ref (1000002 + i)), (2, .int (nI t))] [] al n R I' L := by
    intro k
    induction k with
    | zero =>
      intro t I' ht hB' hF
      refine xr_iload_n (xd dX7_putText 2 rfl) 2 rfl ?_
      refine xr_aload_n (xd dX7_putText 3 rfl) 1 rfl ?_
      refine xr_callVs (st := [.int (nI t)]) sLen 0 i [] (xd dX7_putText 4 rfl) l7_38 ksLen rfl hi rfl ⟨by decide, by decide⟩ (Nat.le_of_ble_eq_true rfl) (c_sLen hi) (by decide) (by decide) (fun v M h => ?_) (fun _ _ h => h.elim)
      obtain ⟨rfl, rfl⟩ := h
      show xJ _ _ _ _ _ _ _ _ _ _ _ _ _ n R I' L
      refine xr_icmpN_ge (st := []) 25 (xd dX7_putText 5 rfl) (by decide) (by omega) (by omega) (fun c => ?_) (fun c => absurd c (by omega))
      refine xr_vret (xd dX7_putText 13 rfl) rfl (Nat.zero_le _) (Nat.zero_le _) (fun _ => rfl) ?_
      refine ⟨rfl, I', rfl, ?_, hF⟩
      rw [List.take_of_length_le (by omega)] at hB'
      exact hB'
    | succ k ih =>
      intro t I' ht hB' hF
      refine xr_iload_n (xd dX7_putText 2 rfl) 2 rfl ?_
      refine xr_aload_n (xd dX7_putText 3 rfl) 1 rfl ?_
      refine xr_callVs (st := [.int (nI t)]) sLen 0 i [] (xd dX7_putText 4 rfl) l7_38 ksLen rfl hi rfl ⟨by decide, by decide⟩ (Nat.le_of_ble_eq_true rfl) (c_sLen hi) (by decide) (by decide) (fun v M h => ?_) (fun _ _ h => h.elim)
      obtain ⟨rfl, rfl⟩ := h
      show xJ _ _ _ _ _ _ _ _ _ _ _ _ _ n R I' L
      refine xr_icmpN_ge (st := []) 25 (xd dX7_putText 5 rfl) (by decide) (by omega) (by omega) (fun c => absurd c (by omega)) (fun c => ?_)
      refine xr_aload_n (xd dX7_putText 6 rfl) 0 rfl ?_
      refine xr_aload_n (xd dX7_putText 7 rfl) 1 rfl ?_
      refine xr_iload_n (xd dX7_putText 8 rfl) 2 rfl ?_
      refine xr_callVs (st := [.ref 6]) sCha 1 i [.int (nI t)] (xd dX7_putText 9 rfl) l7_44 ksCha rfl hi rfl ⟨by decide, by decide⟩ (Nat.le_of_ble_eq_true rfl) (c_sCha hi (by omega)) (by decide) (by decide) (fun v M h => ?_) (fun _ _ h => h.elim)
      obtain ⟨rfl, rfl⟩ := h
      show xJ _ _ _ _ _ _ _ _ _ _ _ _ _ n R I' L
      refine xr_callV (st := []) mX7_put 1 [.int ((xSb.getD i []).getD t 0)] (b := 6) (cl := 7) (xd dX7_putText 10 rfl) l7_28 kX7_put rfl (by omega) kd_6 (by decide) rfl ⟨by decide, by decide⟩ (Nat.le_of_ble_eq_true rfl) (c_putL hn hR hB' (by rw [List.length_append, List.length_take]; omega)) (by decide) (by decide) (fun v M h => ?_) (fun _ _ h => h.elim)
      obtain ⟨rfl, I2, rfl, hB2, hF2⟩ := h
      show xJ _ _ _ _ _ _ _ _ _ _ _ _ _ n R I2 L
      refine xr_iinc (v := nI (t + 1)) _ (xd dX7_putText 11 rfl) 2 rfl (nI_succ t).symm (by decide) rfl ?_
      refine xr_goto 2 (xd dX7_putText 12 rfl) (by decide) ?_
      refine ih (t + 1) I2 (by omega) ?_ (hF.tr hF2)
      rw [(tb_chr i hi t (by omega)).2.2.1, List.append_assoc, ← tk_succ (by omega)] at hB2
      exact hB2
  refine xCn.ofJ (by decide) (Nat.le_of_ble_eq_true rfl) ?_
  show xJ _ _ _ _ _ _ _ _ _ 0 [(0, .ref 6), (1, .ref (1000002 + i))] [] _ _ _ _ _
  refine xr_iconst (v := nI 0) (xd dX7_putText 0 rfl) (by decide) ?_
  refine xr_istore_n _ (xd dX7_putText 1 rfl) rfl (by decide) rfl ?_
  refine go (xSl.getD i 0) 0 I (by omega) ?_ xFr.rf
  rw [List.take_zero, List.append_nil]
  exact hB
theorem xFr.tr2 {I I1 I2 : Nat → Nat → Int32} (h1 : xFr [] [(6, 4)] I I1) (h2 : xFr [7] [(6, 4)] I1 I2) : xFr [7] [(6, 4)] I I2 := fun a k ha hk => (h2 a k ha hk).trans (h1 a k (by simp) hk)
theorem xFr.trw {O : Nat} {I I1 I2 : Nat → Nat → Int32} (h1 : xFr [7] [(6, 4)] I I1) (h2 : xFr [7, 8, 9, 10, O] [] I1 I2) : xFr [7, 8, 9, 10, O] [(6, 4)] I I2 := fun a k ha hk => (h2 a k ha (by simp)).trans (h1 a k (fun z => ha (by simp at z; subst z; simp)) hk)
set_option maxHeartbeats 4000000 in
set_option maxRecDepth 100000 in
theorem c_X5_expand {b : Nat} {dC : Nat → ClassId} {dI : Nat → Nat → Nat} {cA : Nat → ClassId} {ts : Nat → Nat} {l : Launch} {al : Bool} {n : Nat} {R : Nat → Nat → Option Nat} {L : Nat → Nat → Int64} (hn : 491 ≤ n) (hR : xRk R) {e : Nat} (he : e = 139 ∨ e = 315) {i : Nat} (hi : i < 24) {I : Nat → Nat → Int32} {K NK O NO : Nat} (hK : K < n) (hkK : kd0 K = 13) (hlK : ln0 K = NK) (hNK : NK < 100000) (hK7 : K ≠ 7) (hK8 : K ≠ 8) (hK9 : K ≠ 9) (hK10 : K ≠ 10) (hO : O < n) (hkO : kd0 O = 13) (hlO : ln0 O = NO) (hNO : NO < 100000) (hNO2 : 32 ≤ NO) (hO7 : O ≠ 7) (hO8 : O ≠ 8) (hO9 : O ≠ 9) (hO10 : O ≠ 10) : xCn (xGm b dC dI cA ts) l mX5_expand [.ref (e + 144), .ref K, .ref (1000002 + i), .ref O] al (n, R, I, L) 0 0 (fun v M => v = none ∧ ∃ I' : Nat → Nat → Int32, M = (n, R, I', L) ∧ xFr [7, 8, 9, 10, O] [(6, 4)] I I' ∧ oL (I' O) 32 = MC (oL (I K) NK) (nI (xSl.getD i 0) :: (xSb.getD i [] ++ [0])) ∧ ∀ j, 32 ≤ j → I' O j = I O j) (fun _ _ => False) := by
  obtain ⟨hl1, hl, -, hl2⟩ := tb_len i hi
  have K6 : K ≠ 6 := fun z => by rw [z, kd_6] at hkK; exact absurd hkK (by decide)
  have O6 : O ≠ 6 := fun z => by rw [z, kd_6] at hkO; exact absurd hkO (by decide)
  have le : e + 144 < n := by omega
  refine xCn.ofJ (by decide) (Nat.le_of_ble_eq_true rfl) ?_
  show xJ _ _ _ _ _ _ _ _ _ 0 [(0, .ref (e + 144)), (1, .ref K), (2, .ref (1000002 + i)), (3, .ref O)] [] _ _ _ _ _
  refine xr_aload_n (xd dX5_expand 0 rfl) 0 rfl ?_
  refine xr_getR (b := 6) 5 0 (xd dX5_expand 1 rfl) f5_41 (by decide) (by decide) le (kdS_144 he) rfl (rS_144_0 hR he) ?_
  refine xr_callV (st := []) mX7_clear 0 [] (b := 6) (cl := 7) (xd dX5_expand 2 rfl) l5_62 kX7_clear rfl (by omega) kd_6 (by decide) rfl ⟨by decide, by decide⟩ (Nat.le_of_ble_eq_true rfl) (c_clearL hn hR) (by decide) (by decide) (fun v M h => ?_) (fun _ _ h => h.elim)
  obtain ⟨rfl, I1, rfl, B1, F1⟩ := h
  show xJ _ _ _ _ _ _ _ _ _ _ _ _ _ n R I1 L
  refine xr_aload_n (xd dX5_expand 3 rfl) 0 rfl ?_
  refine xr_getR (b := 6) 5 0 (xd dX5_expand 4 rfl) f5_41 (by decide) (by decide) le (kdS_144 he) rfl (rS_144_0 hR he) ?_
  refine xr_aload_n (xd dX5_expand 5 rfl) 2 rfl ?_
  refine xr_callVs (st := [.ref 6]) sLen 0 i [] (xd dX5_expand 6 rfl) l5_79 ksLen rfl hi rfl ⟨by decide, by decide⟩ (Nat.le_of_ble_eq_true rfl) (c_sLen hi) (by decide) (by decide) (fun v M h => ?_) (fun _ _ h => h.elim)
  obtain ⟨rfl, rfl⟩ := h
  show xJ _ _ _ _ _ _ _ _ _ _ _ _ _ n R I1 L
  refine xr_callV (st := []) mX7_put 1 [.int (nI (xSl.getD i 0))] (b := 6) (cl := 7) (xd dX5_expand 7 rfl) l5_85 kX7_put rfl (by omega) kd_6 (by decide) rfl ⟨by decide, by decide⟩ (Nat.le_of_ble_eq_true rfl) (c_putL hn hR B1 (by decide)) (by decide) (by decide) (fun v M h => ?_) (fun _ _ h => h.elim)
  obtain ⟨rfl, I2, rfl, B2, F2⟩ := h
  show xJ _ _ _ _ _ _ _ _ _ _ _ _ _ n R I2 L
  rw [hl2, List.nil_append] at B2
  refine xr_aload_n (xd dX5_expand 8 rfl) 0 rfl ?_
  refine xr_getR (b := 6) 5 0 (xd dX5_expand 9 rfl) f5_41 (by decide) (by decide) le (kdS_144 he) rfl (rS_144_0 hR he) ?_
  refine xr_aload_n (xd dX5_expand 10 rfl) 2 rfl ?_
  refine xr_callV (st := []) mX7_putText 1 [.ref (1000002 + i)] (b := 6) (cl := 7) (xd dX5_expand 11 rfl) l5_89 kX7_putText rfl (by omega) kd_6 (by decide) rfl ⟨by decide, by decide⟩ (Nat.le_of_ble_eq_true rfl) (c_putText hn hR hi B2 (Nat.le_of_ble_eq_true rfl)) (by decide) (by decide) (fun v M h => ?_) (fun _ _ h => h.elim)
  obtain ⟨rfl, I3, rfl, B3, F3⟩ := h
  show xJ _ _ _ _ _ _ _ _ _ _ _ _ _ n R I3 L
  refine xr_aload_n (xd dX5_expand 12 rfl) 0 rfl ?_
  refine xr_getR (b := 6) 5 0 (xd dX5_expand 13 rfl) f5_41 (by decide) (by decide) le (kdS_144 he) rfl (rS_144_0 hR he) ?_
  refine xr_iconst (v := 0) (xd dX5_expand 14 rfl) (by decide) ?_
  refine xr_callV (st := []) mX7_put 1 [.int 0] (b := 6) (cl := 7) (xd dX5_expand 15 rfl) l5_85 kX7_put rfl (by omega) kd_6 (by decide) rfl ⟨by decide, by decide⟩ (Nat.le_of_ble_eq_true rfl) (c_putL hn hR B3 (by rw [List.length_append, List.length_singleton]; omega)) (by decide) (by decide) (fun v M h => ?_) (fun _ _ h => h.elim)
  obtain ⟨rfl, I4, rfl, B4, F4⟩ := h
  show xJ _ _ _ _ _ _ _ _ _ _ _ _ _ n R I4 L
  rw [show ((0 : Int32) &&& 255) = 0 by decide] at B4
  have FA := ((F1.tr2 F2).tr F3).tr F4
  refine xr_aload_n (xd dX5_expand 16 rfl) 0 rfl ?_
  refine xr_getR (b := 6) 5 0 (xd dX5_expand 17 rfl) f5_41 (by decide) (by decide) le (kdS_144 he) rfl (rS_144_0 hR he) ?_
  refine xr_aload_n (xd dX5_expand 18 rfl) 1 rfl ?_
  refine xr_aload_n (xd dX5_expand 19 rfl) 3 rfl ?_
  refine xr_callV (st := []) mX7_macInto 2 [.ref K, .ref O] (b := 6) (cl := 7) (xd dX5_expand 20 rfl) l5_75 kX7_macInto rfl (by omega) kd_6 (by decide) rfl ⟨by decide, by decide⟩ (Nat.le_of_ble_eq_true rfl) (c_macL hn hR hK hkK hlK hNK hK7 hK8 hK9 hK10 hO hkO hlO hNO hNO2 hO7 hO8 hO9 hO10 B4) (by decide) (by decide) (fun v M h => ?_) (fun _ _ h => h.elim)
  obtain ⟨rfl, I6, rfl, F6, m6, z6⟩ := h
  show xJ _ _ _ _ _ _ _ _ _ _ _ _ _ n R I6 L
  refine xr_vret (xd dX5_expand 21 rfl) rfl (Nat.zero_le _) (Nat.zero_le _) (fun _ => rfl) ?_
  refine ⟨rfl, I6, rfl, xFr.trw FA F6, ?_, fun j hj => ?_⟩
  · rw [m6, FA.row (by simp <;> omega) (by simp <;> omega)]
    simp
  · rw [z6 j hj, FA.row (by simp <;> omega) (by simp <;> omega)]
set_option maxHeartbeats 4000000 in
set_option maxRecDepth 100000 in
theorem c_X5_expandDigest {b : Nat} {dC : Nat → ClassId} {dI : Nat → Nat → Nat} {cA : Nat → ClassId} {ts : Nat → Nat} {l : Launch} {al : Bool} {n : Nat} {R : Nat → Nat → Option Nat} {L : Nat → Nat → Int64} (hn : 491 ≤ n) (hR : xRk R) {e : Nat} (he : e = 139 ∨ e = 315) {i : Nat} (hi : i < 24) {I : Nat → Nat → Int32} {K NK O NO : Nat} (hK : K < n) (hkK : kd0 K = 13) (hlK : ln0 K = NK) (hNK : NK < 100000) (hK7 : K ≠ 7) (hK8 : K ≠ 8) (hK9 : K ≠ 9) (hK10 : K ≠ 10) (hO : O < n) (hkO : kd0 O = 13) (hlO : ln0 O = NO) (hNO : NO < 100000) (hNO2 : 32 ≤ NO) (hO7 : O ≠ 7) (hO8 : O ≠ 8) (hO9 : O ≠ 9) (hO10 : O ≠ 10) : xCn (xGm b dC dI cA ts) l mX5_expandDigest [.ref (e + 144), .ref K, .ref (1000002 + i), .ref O] al (n, R, I, L) 0 0 (fun v M => v = none ∧ ∃ I' : Nat → Nat → Int32, M = (n, R, I', L) ∧ xFr [7, 8, 9, 10, O] [(6, 4)] I I' ∧ oL (I' O) 32 = MC (oL (I K) NK) (nI (xSl.getD i 0) :: (xSb.getD i [] ++ 32 :: oL (I (e + 165)) 32)) ∧ ∀ j, 32 ≤ j → I' O j = I O j) (fun _ _ => False) := by
  obtain ⟨hl1, hl, -, hl2⟩ := tb_len i hi
  have K6 : K ≠ 6 := fun z => by rw [z, kd_6] at hkK; exact absurd hkK (by decide)
  have O6 : O ≠ 6 := fun z => by rw [z, kd_6] at hkO; exact absurd hkO (by decide)
  have le : e + 144 < n := by omega
  refine xCn.ofJ (by decide) (Nat.le_of_ble_eq_true rfl) ?_
  show xJ _ _ _ _ _ _ _ _ _ 0 [(0, .ref (e + 144)), (1, .ref K), (2, .ref (1000002 + i)), (3, .ref O)] [] _ _ _ _ _
  refine xr_aload_n (xd dX5_expandDigest 0 rfl) 0 rfl ?_
  refine xr_getR (b := 6) 5 0 (xd dX5_expandDigest 1 rfl) f5_41 (by decide) (by decide) le (kdS_144 he) rfl (rS_144_0 hR he) ?_
  refine xr_callV (st := []) mX7_clear 0 [] (b := 6) (cl := 7) (xd dX5_expandDigest 2 rfl) l5_62 kX7_clear rfl (by omega) kd_6 (by decide) rfl ⟨by decide, by decide⟩ (Nat.le_of_ble_eq_true rfl) (c_clearL hn hR) (by decide) (by decide) (fun v M h => ?_) (fun _ _ h => h.elim)
  obtain ⟨rfl, I1, rfl, B1, F1⟩ := h
  show xJ _ _ _ _ _ _ _ _ _ _ _ _ _ n R I1 L
  refine xr_aload_n (xd dX5_expandDigest 3 rfl) 0 rfl ?_
  refine xr_getR (b := 6) 5 0 (xd dX5_expandDigest 4 rfl) f5_41 (by decide) (by decide) le (kdS_144 he) rfl (rS_144_0 hR he) ?_
  refine xr_aload_n (xd dX5_expandDigest 5 rfl) 2 rfl ?_
  refine xr_callVs (st := [.ref 6]) sLen 0 i [] (xd dX5_expandDigest 6 rfl) l5_79 ksLen rfl hi rfl ⟨by decide, by decide⟩ (Nat.le_of_ble_eq_true rfl) (c_sLen hi) (by decide) (by decide) (fun v M h => ?_) (fun _ _ h => h.elim)
  obtain ⟨rfl, rfl⟩ := h
  show xJ _ _ _ _ _ _ _ _ _ _ _ _ _ n R I1 L
  refine xr_callV (st := []) mX7_put 1 [.int (nI (xSl.getD i 0))] (b := 6) (cl := 7) (xd dX5_expandDigest 7 rfl) l5_85 kX7_put rfl (by omega) kd_6 (by decide) rfl ⟨by decide, by decide⟩ (Nat.le_of_ble_eq_true rfl) (c_putL hn hR B1 (by decide)) (by decide) (by decide) (fun v M h => ?_) (fun _ _ h => h.elim)
  obtain ⟨rfl, I2, rfl, B2, F2⟩ := h
  show xJ _ _ _ _ _ _ _ _ _ _ _ _ _ n R I2 L
  rw [hl2, List.nil_append] at B2
  refine xr_aload_n (xd dX5_expandDigest 8 rfl) 0 rfl ?_
  refine xr_getR (b := 6) 5 0 (xd dX5_expandDigest 9 rfl) f5_41 (by decide) (by decide) le (kdS_144 he) rfl (rS_144_0 hR he) ?_
  refine xr_aload_n (xd dX5_expandDigest 10 rfl) 2 rfl ?_
  refine xr_callV (st := []) mX7_putText 1 [.ref (1000002 + i)] (b := 6) (cl := 7) (xd dX5_expandDigest 11 rfl) l5_89 kX7_putText rfl (by omega) kd_6 (by decide) rfl ⟨by decide, by decide⟩ (Nat.le_of_ble_eq_true rfl) (c_putText hn hR hi B2 (Nat.le_of_ble_eq_true rfl)) (by decide) (by decide) (fun v M h => ?_) (fun _ _ h => h.elim)
  obtain ⟨rfl, I3, rfl, B3, F3⟩ := h
  show xJ _ _ _ _ _ _ _ _ _ _ _ _ _ n R I3 L
  refine xr_aload_n (xd dX5_expandDigest 12 rfl) 0 rfl ?_
  refine xr_getR (b := 6) 5 0 (xd dX5_expandDigest 13 rfl) f5_41 (by decide) (by decide) le (kdS_144 he) rfl (rS_144_0 hR he) ?_
  refine xr_bipush (v := 32) (xd dX5_expandDigest 14 rfl) (by decide) ?_
  refine xr_callV (st := []) mX7_put 1 [.int 32] (b := 6) (cl := 7) (xd dX5_expandDigest 15 rfl) l5_85 kX7_put rfl (by omega) kd_6 (by decide) rfl ⟨by decide, by decide⟩ (Nat.le_of_ble_eq_true rfl) (c_putL hn hR B3 (by rw [List.length_append, List.length_singleton]; omega)) (by decide) (by decide) (fun v M h => ?_) (fun _ _ h => h.elim)
  obtain ⟨rfl, I4, rfl, B4, F4⟩ := h
  show xJ _ _ _ _ _ _ _ _ _ _ _ _ _ n R I4 L
  rw [show ((32 : Int32) &&& 255) = 32 by decide] at B4
  refine xr_aload_n (xd dX5_expandDigest 16 rfl) 0 rfl ?_
  refine xr_getR (b := 6) 5 0 (xd dX5_expandDigest 17 rfl) f5_41 (by decide) (by decide) le (kdS_144 he) rfl (rS_144_0 hR he) ?_
  refine xr_aload_n (xd dX5_expandDigest 18 rfl) 0 rfl ?_
  refine xr_getR (b := e + 165) 5 7 (xd dX5_expandDigest 19 rfl) f5_32 (by decide) (by decide) le (kdS_144 he) rfl (rS_144_7 hR he) ?_
  refine xr_iconst (v := nI 0) (xd dX5_expandDigest 20 rfl) (by decide) ?_
  refine xr_bipush (v := nI 32) (xd dX5_expandDigest 21 rfl) (by decide) ?_
  refine xr_callV (st := []) mX7_putAll 3 [.ref (e + 165), .int (nI 0), .int (nI 32)] (b := 6) (cl := 7) (xd dX5_expandDigest 22 rfl) l5_67 kX7_putAll rfl (by omega) kd_6 (by decide) rfl ⟨by decide, by decide⟩ (Nat.le_of_ble_eq_true rfl) (c_putAllL hn hR (by omega) (kdS_165 he) (lnS_165 he) (by decide) B4 (by decide) (by simp only [List.length_append, List.length_singleton]; omega)) (by decide) (by decide) (fun v M h => ?_) (fun _ _ h => h.elim)
  obtain ⟨rfl, I5, rfl, B5, F5⟩ := h
  show xJ _ _ _ _ _ _ _ _ _ _ _ _ _ n R I5 L
  have FA := (((F1.tr2 F2).tr F3).tr F4).tr F5
  have FB := ((F1.tr2 F2).tr F3).tr F4
  have eD : oL (fun j => I4 (e + 165) (0 + j)) 32 = oL (I (e + 165)) 32 := oL_congr (fun j _ => by rw [Nat.zero_add, FB.row (by simp <;> omega) (by simp <;> omega)])
  rw [eD] at B5
  refine xr_aload_n (xd dX5_expandDigest 23 rfl) 0 rfl ?_
  refine xr_getR (b := 6) 5 0 (xd dX5_expandDigest 24 rfl) f5_41 (by decide) (by decide) le (kdS_144 he) rfl (rS_144_0 hR he) ?_
  refine xr_aload_n (xd dX5_expandDigest 25 rfl) 1 rfl ?_
  refine xr_aload_n (xd dX5_expandDigest 26 rfl) 3 rfl ?_
  refine xr_callV (st := []) mX7_macInto 2 [.ref K, .ref O] (b := 6) (cl := 7) (xd dX5_expandDigest 27 rfl) l5_75 kX7_macInto rfl (by omega) kd_6 (by decide) rfl ⟨by decide, by decide⟩ (Nat.le_of_ble_eq_true rfl) (c_macL hn hR hK hkK hlK hNK hK7 hK8 hK9 hK10 hO hkO hlO hNO hNO2 hO7 hO8 hO9 hO10 B5) (by decide) (by decide) (fun v M h => ?_) (fun _ _ h => h.elim)
  obtain ⟨rfl, I6, rfl, F6, m6, z6⟩ := h
  show xJ _ _ _ _ _ _ _ _ _ _ _ _ _ n R I6 L
  refine xr_vret (xd dX5_expandDigest 28 rfl) rfl (Nat.zero_le _) (Nat.zero_le _) (fun _ => rfl) ?_
  refine ⟨rfl, I6, rfl, xFr.trw FA F6, ?_, fun j hj => ?_⟩
  · rw [m6, FA.row (by simp <;> omega) (by simp <;> omega)]
    simp
  · rw [z6 j hj, FA.row (by simp <;> omega) (by simp <;> omega)]
