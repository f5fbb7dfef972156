theorem ltS {e j : Nat} (he : iSide e) (hj : j < 176) : e + j < 491 := by unfold iSide at he; omega
theorem ltS0 {e : Nat} (he : iSide e) : e < 491 := by unfold iSide at he; omega
theorem lt552 {n a : Nat} (hn : 552 ≤ n) (h : a < 552) : a < n := Nat.lt_of_lt_of_le h hn
theorem rq_lt (r : Nat) : rq r < 2 ^ 31 := by unfold rq; split <;> decide
theorem rw0_lt (r : Nat) : rw0 r < 2 ^ 31 := by unfold rw0; split <;> decide
def tabOff (dflt lo hi : Int) (offs : Array Int) (x : Int) : Int := if x < lo ∨ hi < x then dflt else offs.getD (x - lo).toNat 0
theorem lookD {l : List (Int × Int)} {d x : Int} (h : ∀ q ∈ l, q.1 ≠ x) : Op.lookupswitch.offset l d x = d := by
  refine Op.lookupswitch.offset_none (List.find?_eq_none.mpr fun q hq => ?_)
  simpa using h q hq
theorem xmem_all {ws : List Cond} (h : ws.all (fun w => lw_tbl.elem w && goodWord w) = true) : ∀ w ∈ ws, w ∈ xws := by
  intro w hw
  have h1 := List.all_eq_true.mp h w hw
  simp only [Bool.and_eq_true] at h1
  exact List.mem_filter.mpr ⟨List.elem_iff.mp h1.1, h1.2⟩
section ZR2
variable {G : xG} {l : Launch} {me : xMe} {mc ms : Nat} {Qv : Option Value → xM → Prop} {Qx : String → xM → Prop} {cells slots pc : Nat} {ls : List (Nat × Value)} {st : List Value} {al : Bool} {n : Nat} {R : Nat → Nat → Option Nat} {J J' : zM} {L L' : yM}
theorem zr_tab {dflt lo hi : Int} {offs : Array Int} {len : Nat} {x off : Int} (tgt : Nat) (hd : decode me.2.1 pc = .ok (.tableswitch dflt lo hi offs, len)) (hx : R32 x) (ho : tabOff dflt lo hi offs x = off) (ht : (pc : Int) + off = (tgt : Int)) (hs : (hi - lo + 1 : Int) ≤ offs.size)
    (kk : xJ G l me mc ms Qv Qx cells slots (tgt) ls (st) al n R (zi J) (li L)) : xJ G l me mc ms Qv Qx cells slots (pc) ls (.int (oI (x)) :: st) al n R (zi J) (li L) := by
  by_cases q : x < lo ∨ hi < x
  · rw [tabOff, if_pos q] at ho
    subst ho
    exact zr_tableOut tgt hd hx q ht kk
  · rw [tabOff, if_neg q] at ho
    refine zr_tableIn tgt hd hx (by omega) (by omega) (off := off) ?_ ht kk
    rw [← ho, Array.getD_eq_getD_getElem?]
    have hl : (x - lo).toNat < offs.size := by omega
    rw [Array.getElem?_eq_getElem hl]
    rfl
theorem zr_ldcS (i : Nat) {idx : Nat} (hd : decode me.2.1 pc = .ok (.ldc idx, 2)) (hi : i < 24) (hsi : ((xSs.getD i ("", 0, "")).1, (xSs.getD i ("", 0, "")).2.1) = (me.1.cls, idx))
    (kk : xJ G l me mc ms Qv Qx cells slots (pc + 2) ls (.ref (1000002 + i) :: st) al n R (zi J) (li L)) : xJ G l me mc ms Qv Qx cells slots (pc) ls (st) al n R (zi J) (li L) := by
  intro p e s m args below meth c H locs lsA C hH hS hl
  have hstr := C.2.2.2.2.2.2.2.2.2.1.2.2.2.2.1.2.2 i hi
  rw [(Prod.mk.inj hsi).1, (Prod.mk.inj hsi).2] at hstr
  refine va_ldcS C.1 C.2.1 C.2.2.2.2.2.2.1 hstr hd ?_
  have h9 := kk p e s m args below meth c H locs lsA C hH hS hl
  have e9 : xtr G (.ref (1000002 + i)) = .ref (xts G (2 + i)) := by
    show Value.ref (xad G (1000002 + i)) = _
    rw [xad, if_neg (by omega), show 1000002 + i - 1000000 = 2 + i by omega]
  rw [List.map_cons, e9] at h9
  exact h9
end ZR2
def zl_lz (F : (Int64 → Int → zM → yM → Prop) → Int64 → Int → zM → yM → Prop) (x1 : Int64) (x2 : Int) (J : zM) (L : yM) : Prop := ∀ P : Int64 → Int → zM → yM → Prop, (∀ (x1 : Int64) (x2 : Int) (J : zM) (L : yM), F P x1 x2 J L → P x1 x2 J L) → P x1 x2 J L
theorem zl_lz.by {F : (Int64 → Int → zM → yM → Prop) → Int64 → Int → zM → yM → Prop} (Inv : Nat → Int64 → Int → zM → yM → Prop) (hF : ∀ (m : Nat) (x1 : Int64) (x2 : Int) (J : zM) (L : yM) (K : Int64 → Int → zM → yM → Prop), Inv m x1 x2 J L → (∀ (m' : Nat) (x1 : Int64) (x2 : Int) (J : zM) (L : yM), m' < m → Inv m' x1 x2 J L → K x1 x2 J L) → F K x1 x2 J L) (m : Nat) : ∀ (x1 : Int64) (x2 : Int) (J : zM) (L : yM), Inv m x1 x2 J L → zl_lz F x1 x2 J L := by
  intro x1 x2 J L h P hP
  induction m using Nat.strongRecOn generalizing x1 x2 J L with
  | ind m ih => exact hP x1 x2 J L (hF m x1 x2 J L P h (fun m' x1 x2 J L hm hi => ih m' hm x1 x2 J L hi))
def zl_llz (F : (Int64 → Int64 → Int → zM → yM → Prop) → Int64 → Int64 → Int → zM → yM → Prop) (x1 : Int64) (x2 : Int64) (x3 : Int) (J : zM) (L : yM) : Prop := ∀ P : Int64 → Int64 → Int → zM → yM → Prop, (∀ (x1 : Int64) (x2 : Int64) (x3 : Int) (J : zM) (L : yM), F P x1 x2 x3 J L → P x1 x2 x3 J L) → P x1 x2 x3 J L
theorem zl_llz.by {F : (Int64 → Int64 → Int → zM → yM → Prop) → Int64 → Int64 → Int → zM → yM → Prop} (Inv : Nat → Int64 → Int64 → Int → zM → yM → Prop) (hF : ∀ (m : Nat) (x1 : Int64) (x2 : Int64) (x3 : Int) (J : zM) (L : yM) (K : Int64 → Int64 → Int → zM → yM → Prop), Inv m x1 x2 x3 J L → (∀ (m' : Nat) (x1 : Int64) (x2 : Int64) (x3 : Int) (J : zM) (L : yM), m' < m → Inv m' x1 x2 x3 J L → K x1 x2 x3 J L) → F K x1 x2 x3 J L) (m : Nat) : ∀ (x1 : Int64) (x2 : Int64) (x3 : Int) (J : zM) (L : yM), Inv m x1 x2 x3 J L → zl_llz F x1 x2 x3 J L := by
  intro x1 x2 x3 J L h P hP
  induction m using Nat.strongRecOn generalizing x1 x2 x3 J L with
  | ind m ih => exact hP x1 x2 x3 J L (hF m x1 x2 x3 J L P h (fun m' x1 x2 x3 J L hm hi => ih m' hm x1 x2 x3 J L hi))
set_option maxRecDepth 100000 in
theorem kT_11_44_48 : xKT "LossyPair" "java/lang/IllegalArgumentException" 44 48 := ⟨by decide +kernel, xmem_all (ws := [_]) (by decide +kernel) _ List.mem_cons_self, xmem_all (ws := [_]) (by decide +kernel) _ List.mem_cons_self, xmem_all (by decide +kernel), by decide +kernel, by decide +kernel⟩
set_option maxRecDepth 100000 in
theorem kT_11_258_262 : xKT "LossyPair" "java/lang/IllegalStateException" 258 262 := ⟨by decide +kernel, xmem_all (ws := [_]) (by decide +kernel) _ List.mem_cons_self, xmem_all (ws := [_]) (by decide +kernel) _ List.mem_cons_self, xmem_all (by decide +kernel), by decide +kernel, by decide +kernel⟩
set_option maxRecDepth 100000 in
theorem kT_11_187_191 : xKT "LossyPair" "java/lang/IndexOutOfBoundsException" 187 191 := ⟨by decide +kernel, xmem_all (ws := [_]) (by decide +kernel) _ List.mem_cons_self, xmem_all (ws := [_]) (by decide +kernel) _ List.mem_cons_self, xmem_all (by decide +kernel), by decide +kernel, by decide +kernel⟩
/-! octets as lists of Ints; the hash over them -/
def sg (J : zM) (a : Nat) (i : Int) (c : Nat) : List Int := (List.range c).map (fun j : Nat => J a (i + (j : Int)))
def hsI (q : List Int) : List Int := (HS (q.map oI)).map Int32.toInt
def mcI (k q : List Int) : List Int := (MC (k.map oI) (q.map oI)).map Int32.toInt
def lbl (s : Nat) : List Int := (xSb.getD (s - 1000002) []).map Int32.toInt
theorem sg_map (J : zM) (a : Nat) (i : Nat) (c : Nat) : (sg J a (i : Int) c).map oI = oL (fun j => zi J a (i + j)) c := by
  unfold sg oL zi
  rw [List.map_map]
  refine List.map_congr_left (fun j _ => ?_)
  show oI (J a ((i : Int) + (j : Int))) = oI (J a ((i + j : Nat) : Int))
  rw [Int.natCast_add]
theorem sg_map0 (J : zM) (a : Nat) (c : Nat) : (sg J a 0 c).map oI = oL (zi J a) c := by
  have h := sg_map J a 0 c
  simpa using h
/-- the memory behind a call that is known by its words: ch says where it may have changed -/
def zch (J : zM) (I' : Nat → Nat → Int32) (ch : Nat → Int → Bool) : zM := fun a i => if ch a i = true then (I' a i.toNat).toInt else J a i
theorem zch_zi {J : zM} {I' : Nat → Nat → Int32} {ch : Nat → Int → Bool} (h : ∀ (a k : Nat), ch a (k : Int) = false → I' a k = zi J a k) : zi (zch J I' ch) = I' := by
  funext a k
  unfold zi zch
  by_cases q : ch a (k : Int) = true
  · rw [if_pos q, Int.toNat_natCast]
    exact oI_of _
  · rw [if_neg q]
    exact (h a k (by simpa using q)).symm
theorem zch_sg {J : zM} {I' : Nat → Nat → Int32} {ch : Nat → Int → Bool} {a : Nat} {c : Nat} (h : ∀ i : Nat, i < c → ch a (i : Int) = true) : sg (zch J I' ch) a 0 c = (oL (I' a) c).map Int32.toInt := by
  unfold sg oL
  rw [List.map_map]
  refine List.map_congr_left (fun j hj => ?_)
  have hj : j < c := List.mem_range.mp hj
  show zch J I' ch a (0 + (j : Int)) = (I' a j).toInt
  rw [Int.zero_add, zch, if_pos (h j hj), Int.toNat_natCast]
/-- nothing changed but where ch says -/
def zP (ch : Nat → Int → Prop) (J J' : zM) : Prop := ∀ (a : Nat) (i : Int), ¬ ch a i → J' a i = J a i
theorem ln_sm : ∀ q ∈ lnT, q < 100000 := by decide +kernel
theorem ln0_sm (a : Nat) : ln0 a < 100000 := by
  unfold ln0
  by_cases h : a < lnT.length
  · rw [List.getD_eq_getElem?_getD, List.getElem?_eq_getElem h]
    exact ln_sm _ (List.getElem_mem h)
  · rw [List.getD_eq_getElem?_getD, List.getElem?_eq_none (by omega)]
    decide
theorem nin4 {p : Nat} (h : p ∉ [7, 8, 9, 10]) : p ≠ 7 ∧ p ≠ 8 ∧ p ≠ 9 ∧ p ≠ 10 := by simp at h; omega
def chMac (o a : Nat) (i : Int) : Prop := a ∈ [7, 8, 9, 10] ∨ (a = o ∧ 0 ≤ i ∧ i < 32)
def w_X7_macInto (p1 p2 : Nat) (J : zM) (L : yM) (Q : zM → yM → Prop) : Prop :=
  (p1 ∉ [7, 8, 9, 10] ∧ p2 ∉ [7, 8, 9, 10]) ∧ 32 ≤ ln0 p2 ∧ (0 ≤ J 6 4 ∧ J 6 4 ≤ 568) ∧ ∀ J' : zM, zP (chMac p2) J J' → sg J' p2 0 32 = mcI (sg J p1 0 (ln0 p1)) (sg J 7 64 (J 6 4).toNat) → Q J' L
def w_X7_hashInto (p1 : Nat) (J : zM) (L : yM) (Q : zM → yM → Prop) : Prop :=
  p1 ∉ [7, 8, 9, 10] ∧ 32 ≤ ln0 p1 ∧ (0 ≤ J 6 4 ∧ J 6 4 ≤ 568) ∧ ∀ J' : zM, zP (chMac p1) J J' → sg J' p1 0 32 = hsI (sg J 7 64 (J 6 4).toNat) → Q J' L
theorem cB_of {J : zM} (h : 0 ≤ J 6 4 ∧ J 6 4 ≤ 568) : cB (zi J) (oL (fun j => zi J 7 (64 + j)) (J 6 4).toNat) := by
  refine ⟨?_, by rw [oL_len], by rw [oL_len]; omega⟩
  rw [oL_len]
  show oI (J 6 4) = oI ((J 6 4).toNat : Int)
  rw [Int.toNat_of_nonneg h.1]
theorem sg_map64 (J : zM) (c : Nat) : (sg J 7 64 c).map oI = oL (fun j => zi J 7 (64 + j)) c := sg_map J 7 64 c
theorem v_X7_macInto {b : Nat} {dC : Nat → ClassId} {dI : Nat → Nat → Nat} {cA : Nat → ClassId} {ts : Nat → Nat} {l : Launch} {n : Nat} {R : Nat → Nat → Option Nat} {al : Bool} (hn : 491 ≤ n) (hR : xRk R) {p1 p2 : Nat} (h_p1 : za p1) (h_p2 : za p2) {J : zM} {L : yM} {Q : zM → yM → Prop} (h : w_X7_macInto p1 p2 J L Q) : xCn (xGm b dC dI cA ts) l mX7_macInto [.ref 6, .ref p1, .ref p2] al (n, R, zi J, li L) 0 0 (zQ0 n R Q) (fun _ _ => False) := by
  obtain ⟨⟨a1, a2⟩, a3, a4, h⟩ := h
  obtain ⟨k7, k8, k9, k10⟩ := nin4 a1
  obtain ⟨o7, o8, o9, o10⟩ := nin4 a2
  refine (c_macL hn hR (lt491 hn h_p1.2) h_p1.1 rfl (ln0_sm _) k7 k8 k9 k10 (lt491 hn h_p2.2) h_p2.1 rfl (ln0_sm _) a3 o7 o8 o9 o10 (cB_of a4)).imp (fun v M q => ?_) (fun _ _ q => q)
  obtain ⟨rfl, I', rfl, f1, f2, f3⟩ := q
  have e : zi (zch J I' (fun a i => decide (a = 7 ∨ a = 8 ∨ a = 9 ∨ a = 10 ∨ (a = p2 ∧ 0 ≤ i ∧ i < 32)))) = I' := zch_zi (fun a k hc => by
    have hc := of_decide_eq_false hc
    by_cases q : a = p2
    · subst q
      exact f3 k (by omega)
    · exact f1 a k (by simp; omega) (by simp))
  refine ⟨_, L, rfl, by rw [e], h _ (fun a i hc => ?_) ?_⟩
  · unfold zch
    refine if_neg (fun q => hc ?_)
    have q := of_decide_eq_true q
    unfold chMac
    simp
    omega
  · rw [zch_sg (fun i hi => decide_eq_true (by omega)), f2]
    unfold mcI
    rw [sg_map0, sg_map64]
theorem v_X7_hashInto {b : Nat} {dC : Nat → ClassId} {dI : Nat → Nat → Nat} {cA : Nat → ClassId} {ts : Nat → Nat} {l : Launch} {n : Nat} {R : Nat → Nat → Option Nat} {al : Bool} (hn : 491 ≤ n) (hR : xRk R) {p1 : Nat} (h_p1 : za p1) {J : zM} {L : yM} {Q : zM → yM → Prop} (h : w_X7_hashInto p1 J L Q) : xCn (xGm b dC dI cA ts) l mX7_hashInto [.ref 6, .ref p1] al (n, R, zi J, li L) 0 0 (zQ0 n R Q) (fun _ _ => False) := by
  obtain ⟨a2, a3, a4, h⟩ := h
  obtain ⟨o7, o8, o9, o10⟩ := nin4 a2
  refine (c_hashL hn hR (lt491 hn h_p1.2) h_p1.1 rfl (ln0_sm _) a3 o7 o9 o10 (cB_of a4)).imp (fun v M q => ?_) (fun _ _ q => q)
  obtain ⟨rfl, I', rfl, f1, f2, f3⟩ := q
  have e : zi (zch J I' (fun a i => decide (a = 7 ∨ a = 9 ∨ a = 10 ∨ (a = p1 ∧ 0 ≤ i ∧ i < 32)))) = I' := zch_zi (fun a k hc => by
    have hc := of_decide_eq_false hc
    by_cases q : a = p1
    · subst q
      exact f3 k (by omega)
    · exact f1 a k (by simp; omega) (by simp))
  refine ⟨_, L, rfl, by rw [e], h _ (fun a i hc => ?_) ?_⟩
  · unfold zch
    refine if_neg (fun q => hc ?_)
    have q := of_decide_eq_true q
    unfold chMac
    simp
    omega
  · rw [zch_sg (fun i hi => decide_eq_true (by omega)), f2]
    unfold hsI
    rw [sg_map64]
def chCode (a : Nat) (i : Int) : Prop := a = 497 ∨ a = 498 ∨ a = 499 ∨ a = 500 ∨ (a = 491 ∧ i = 13)
def w_X12_hashFrom (p1 : Int) (J : zM) (L : yM) (Q : zM → yM → Prop) : Prop :=
  (0 ≤ p1 ∧ p1 ≤ J 491 13 ∧ J 491 13 ≤ 1300) ∧ mK (zi J) ∧ ∀ J' : zM, zP (fun a _ => a = 497 ∨ a = 498 ∨ a = 499 ∨ a = 500) J J' → sg J' 500 0 32 = hsI (sg J 497 p1 (J 491 13 - p1).toNat) → Q J' L
def w_X12_code (J : zM) (L : yM) (Q : zM → yM → Prop) : Prop :=
  (64 ≤ J 491 13 ∧ J 491 13 ≤ 1300) ∧ mK (zi J) ∧ ∃ k : List Int, k.length ≤ 64 ∧ (∀ j : Nat, j < 64 → J 501 (j : Int) = k.getD j 0) ∧ (∀ x ∈ k, 0 ≤ x ∧ x < 256) ∧ ∀ J' : zM, zP chCode J J' → sg J' 500 0 32 = mcI k (sg J 497 64 (J 491 13 - 64).toNat) → Q J' L
theorem v_X12_hashFrom {b : Nat} {dC : Nat → ClassId} {dI : Nat → Nat → Nat} {cA : Nat → ClassId} {ts : Nat → Nat} {l : Launch} {n : Nat} {R : Nat → Nat → Option Nat} {al : Bool} (hn : 552 ≤ n) (hR : xRk R) {p1 : Int} {J : zM} {L : yM} {Q : zM → yM → Prop} (h : w_X12_hashFrom p1 J L Q) : xCn (xGm b dC dI cA ts) l mX12_hashFrom [.ref 491, .int (oI p1)] al (n, R, zi J, li L) 0 0 (zQ0 n R Q) (fun _ _ => False) := by
  obtain ⟨⟨a1, a2, a3⟩, hK, h⟩ := h
  obtain ⟨fr, rfl⟩ := Int.eq_ofNat_of_zero_le a1
  obtain ⟨le, hle⟩ := Int.eq_ofNat_of_zero_le (Int.le_trans a1 a2)
  rw [oI_nat]
  refine (c_hashFrom hn hR (fr := fr) (le := le) (by omega) (by omega) (by show oI (J 491 13) = _; rw [hle]; rfl) hK.1 hK.2).imp (fun v M q => ?_) (fun _ _ q => q)
  obtain ⟨rfl, I', rfl, f1, f2⟩ := q
  have e : zi (zch J I' (fun a i => decide (a = 497 ∨ a = 498 ∨ a = 499 ∨ a = 500))) = I' := zch_zi (fun a k hc => by
    have hc := of_decide_eq_false hc
    exact f1 a k (by simp; omega) (by simp))
  refine ⟨_, L, rfl, by rw [e], h _ (fun a i hc => ?_) ?_⟩
  · unfold zch
    exact if_neg (fun q => hc (of_decide_eq_true q))
  · rw [zch_sg (fun i hi => decide_eq_true (by omega)), oL_congr f2]
    unfold hsI HS
    rw [sg_map, hle]
    rw [show ((le : Int) - (fr : Int)).toNat = le - fr by omega, oL_len]
    congr 1
    refine oL_congr (fun i hi => ?_)
    refine hsh_congr (fun j hj => ?_) hi
    rw [oL_get hj]
theorem oc_of {z : Int} (h : 0 ≤ z ∧ z < 256) : oc (oI z) := by
  obtain ⟨k, rfl⟩ := Int.eq_ofNat_of_zero_le h.1
  have h2 : ∀ k, k < 256 → oc (nI k) := by unfold oc; decide +kernel
  exact h2 k (by omega)
theorem v_X12_code {b : Nat} {dC : Nat → ClassId} {dI : Nat → Nat → Nat} {cA : Nat → ClassId} {ts : Nat → Nat} {l : Launch} {n : Nat} {R : Nat → Nat → Option Nat} {al : Bool} (hn : 552 ≤ n) (hR : xRk R) {J : zM} {L : yM} {Q : zM → yM → Prop} (h : w_X12_code J L Q) : xCn (xGm b dC dI cA ts) l mX12_code [.ref 491] al (n, R, zi J, li L) 0 0 (zQ0 n R Q) (fun _ _ => False) := by
  obtain ⟨⟨a1, a2⟩, hK, k, hk1, hk2, hk3, h⟩ := h
  obtain ⟨le, hle⟩ := Int.eq_ofNat_of_zero_le (show 0 ≤ J 491 13 - 64 by omega)
  have hg : ∀ j, (k.map oI).getD j 0 = oI (k.getD j 0) := fun j => by
    rw [List.getD_eq_getElem?_getD, List.getD_eq_getElem?_getD, List.getElem?_map]
    cases k[j]? <;> rfl
  refine (c_code hn hR (k := k.map oI) (q := oL (fun j => zi J 497 (64 + j)) le) ⟨?_, by rw [oL_len], by rw [oL_len]; omega⟩ hK (by simpa using hk1) (fun j hj => ?_) (fun j hj => ?_)).imp (fun v M q => ?_) (fun _ _ q => q)
  · rw [oL_len]
    show oI (J 491 13) = oI ((64 + le : Nat) : Int)
    congr 1
    omega
  · show oI (J 501 (j : Int)) = _
    rw [hk2 j hj, hg]
  · show oc (oI (J 501 (j : Int)))
    rw [hk2 j hj]
    refine oc_of ?_
    by_cases q : j < k.length
    · have : k.getD j 0 ∈ k := by
        rw [List.getD_eq_getElem?_getD, List.getElem?_eq_getElem q]
        exact List.getElem_mem q
      exact hk3 _ this
    · rw [List.getD_eq_getElem?_getD, List.getElem?_eq_none (by omega)]
      decide
  obtain ⟨rfl, I', rfl, f2, f1⟩ := q
  have e : zi (zch J I' (fun a i => decide (a = 497 ∨ a = 498 ∨ a = 499 ∨ a = 500 ∨ (a = 491 ∧ i = 13)))) = I' := zch_zi (fun a k hc => by
    have hc := of_decide_eq_false hc
    exact f1 a k (by simp; omega) (by simp; omega))
  refine ⟨_, L, rfl, by rw [e], h _ (fun a i hc => ?_) ?_⟩
  · unfold zch
    refine if_neg (fun q => hc ?_)
    have q := of_decide_eq_true q
    exact q
  · rw [zch_sg (fun i hi => decide_eq_true (by omega)), f2]
    unfold mcI
    rw [hle, Int.toNat_natCast]
    rw [show (sg J 497 64 le).map oI = oL (fun j => zi J 497 (64 + j)) le from sg_map J 497 64 le]
/-! the two that take a label -/
def chEx (o a : Nat) (i : Int) : Prop := a = 7 ∨ a = 8 ∨ a = 9 ∨ a = 10 ∨ (a = 6 ∧ i = 4) ∨ (a = o ∧ 0 ≤ i ∧ i < 32)
def w_X5_expand (e p1 p2 p3 : Nat) (J : zM) (L : yM) (Q : zM → yM → Prop) : Prop :=
  (p1 ∉ [7, 8, 9, 10] ∧ p3 ∉ [7, 8, 9, 10] ∧ p3 ≠ p1) ∧ 32 ≤ ln0 p3 ∧ (1000002 ≤ p2 ∧ p2 < 1000026) ∧ ∀ J' : zM, zP (chEx p3) J J' → sg J' p3 0 32 = mcI (sg J p1 0 (ln0 p1)) (((lbl p2).length : Int) :: (lbl p2 ++ [0])) → Q J' L
def w_X5_expandDigest (e p1 p2 p3 : Nat) (J : zM) (L : yM) (Q : zM → yM → Prop) : Prop :=
  (p1 ∉ [7, 8, 9, 10] ∧ p3 ∉ [7, 8, 9, 10] ∧ p3 ≠ p1) ∧ 32 ≤ ln0 p3 ∧ (1000002 ≤ p2 ∧ p2 < 1000026) ∧ ∀ J' : zM, zP (chEx p3) J J' → sg J' p3 0 32 = mcI (sg J p1 0 (ln0 p1)) (((lbl p2).length : Int) :: (lbl p2 ++ 32 :: sg J (e + 165) 0 32)) → Q J' L
theorem v_X5_expand {b : Nat} {dC : Nat → ClassId} {dI : Nat → Nat → Nat} {cA : Nat → ClassId} {ts : Nat → Nat} {l : Launch} {n : Nat} {R : Nat → Nat → Option Nat} {al : Bool} (hn : 491 ≤ n) (hR : xRk R) {e p1 p2 p3 : Nat} (he : iSide e) (h_p1 : za p1) (h_p3 : za p3) {J : zM} {L : yM} {Q : zM → yM → Prop} (h : w_X5_expand e p1 p2 p3 J L Q) : xCn (xGm b dC dI cA ts) l mX5_expand [.ref (e + 144), .ref p1, .ref p2, .ref p3] al (n, R, zi J, li L) 0 0 (zQ0 n R Q) (fun _ _ => False) := by
  obtain ⟨⟨a1, a2, a3⟩, a4, a5, h⟩ := h
  obtain ⟨k7, k8, k9, k10⟩ := nin4 a1
  obtain ⟨o7, o8, o9, o10⟩ := nin4 a2
  obtain ⟨i, rfl⟩ : ∃ i, p2 = 1000002 + i := ⟨p2 - 1000002, by omega⟩
  have hi : i < 24 := by omega
  have hL : lbl (1000002 + i) = (xSb.getD i []).map Int32.toInt := by unfold lbl; rw [Nat.add_sub_cancel_left]
  have hM : ((xSb.getD i []).map Int32.toInt).map oI = xSb.getD i [] := by
    rw [List.map_map]
    exact (List.map_congr_left (fun x _ => oI_of x)).trans (List.map_id _)
  refine (c_X5_expand hn hR he hi (lt491 hn h_p1.2) h_p1.1 rfl (ln0_sm _) k7 k8 k9 k10 (lt491 hn h_p3.2) h_p3.1 rfl (ln0_sm _) a4 o7 o8 o9 o10).imp (fun v M q => ?_) (fun _ _ q => q)
  obtain ⟨rfl, I', rfl, f1, f2, f3⟩ := q
  have e9 : zi (zch J I' (fun a i => decide (a = 7 ∨ a = 8 ∨ a = 9 ∨ a = 10 ∨ (a = 6 ∧ i = 4) ∨ (a = p3 ∧ 0 ≤ i ∧ i < 32)))) = I' := zch_zi (fun a k hc => by
    have hc := of_decide_eq_false hc
    by_cases q : a = p3
    · subst q
      exact f3 k (by omega)
    · exact f1 a k (by simp; omega) (by simp; omega))
  refine ⟨_, L, rfl, by rw [e9], h _ (fun a i hc => ?_) ?_⟩
  · unfold zch
    refine if_neg (fun q => hc ?_)
    have q := of_decide_eq_true q
    exact q
  · rw [zch_sg (fun i hi => decide_eq_true (by omega)), f2]
    unfold mcI
    rw [sg_map0, hL, List.length_map, ← (tb_len i hi).1, List.map_cons, List.map_append, hM]
    rfl
theorem v_X5_expandDigest {b : Nat} {dC : Nat → ClassId} {dI : Nat → Nat → Nat} {cA : Nat → ClassId} {ts : Nat → Nat} {l : Launch} {n : Nat} {R : Nat → Nat → Option Nat} {al : Bool} (hn : 491 ≤ n) (hR : xRk R) {e p1 p2 p3 : Nat} (he : iSide e) (h_p1 : za p1) (h_p3 : za p3) {J : zM} {L : yM} {Q : zM → yM → Prop} (h : w_X5_expandDigest e p1 p2 p3 J L Q) : xCn (xGm b dC dI cA ts) l mX5_expandDigest [.ref (e + 144), .ref p1, .ref p2, .ref p3] al (n, R, zi J, li L) 0 0 (zQ0 n R Q) (fun _ _ => False) := by
  obtain ⟨⟨a1, a2, a3⟩, a4, a5, h⟩ := h
  obtain ⟨k7, k8, k9, k10⟩ := nin4 a1
  obtain ⟨o7, o8, o9, o10⟩ := nin4 a2
  obtain ⟨i, rfl⟩ : ∃ i, p2 = 1000002 + i := ⟨p2 - 1000002, by omega⟩
  have hi : i < 24 := by omega
  have hL : lbl (1000002 + i) = (xSb.getD i []).map Int32.toInt := by unfold lbl; rw [Nat.add_sub_cancel_left]
  have hM : ((xSb.getD i []).map Int32.toInt).map oI = xSb.getD i [] := by
    rw [List.map_map]
    exact (List.map_congr_left (fun x _ => oI_of x)).trans (List.map_id _)
  refine (c_X5_expandDigest hn hR he hi (lt491 hn h_p1.2) h_p1.1 rfl (ln0_sm _) k7 k8 k9 k10 (lt491 hn h_p3.2) h_p3.1 rfl (ln0_sm _) a4 o7 o8 o9 o10).imp (fun v M q => ?_) (fun _ _ q => q)
  obtain ⟨rfl, I', rfl, f1, f2, f3⟩ := q
  have e9 : zi (zch J I' (fun a i => decide (a = 7 ∨ a = 8 ∨ a = 9 ∨ a = 10 ∨ (a = 6 ∧ i = 4) ∨ (a = p3 ∧ 0 ≤ i ∧ i < 32)))) = I' := zch_zi (fun a k hc => by
    have hc := of_decide_eq_false hc
    by_cases q : a = p3
    · subst q
      exact f3 k (by omega)
    · exact f1 a k (by simp; omega) (by simp; omega))
  refine ⟨_, L, rfl, by rw [e9], h _ (fun a i hc => ?_) ?_⟩
  · unfold zch
    refine if_neg (fun q => hc ?_)
    have q := of_decide_eq_true q
    exact q
  · rw [zch_sg (fun i hi => decide_eq_true (by omega)), f2]
    unfold mcI
    rw [sg_map0, hL, List.length_map, ← (tb_len i hi).1, List.map_cons, List.map_append, hM, List.map_cons, sg_map0]
    rfl
